/-! the law (written by wip/gen/lgen.py) -/
theorem w_422 : Cond.methodLink "UrnHeapLaw" 13 yX11_urn ∈ gT_ := gm_ 422 (by decide +kernel)
theorem w_1240 : Cond.methodLink "UrnHeapLaw" 17 yX12_urn ∈ gT_ := gm_ 1240 (by decide +kernel)
theorem w_472 : Cond.methodLink "UrnHeapLaw" 18 yX11_tie ∈ gT_ := gm_ 472 (by decide +kernel)
theorem w_1268 : Cond.methodLink "UrnHeapLaw" 22 yX12_tie ∈ gT_ := gm_ 1268 (by decide +kernel)
theorem w_511 : Cond.methodLink "UrnHeapLaw" 23 yX11_untie ∈ gT_ := gm_ 511 (by decide +kernel)
theorem w_1295 : Cond.methodLink "UrnHeapLaw" 27 yX12_untie ∈ gT_ := gm_ 1295 (by decide +kernel)
theorem w_519 : Cond.methodLink "UrnHeapLaw" 28 yX11_weak ∈ gT_ := gm_ 519 (by decide +kernel)
theorem w_1303 : Cond.methodLink "UrnHeapLaw" 31 yX12_weak ∈ gT_ := gm_ 1303 (by decide +kernel)
theorem w_527 : Cond.methodLink "UrnHeapLaw" 32 yX11_unweak ∈ gT_ := gm_ 527 (by decide +kernel)
theorem w_1311 : Cond.methodLink "UrnHeapLaw" 36 yX12_unweak ∈ gT_ := gm_ 1311 (by decide +kernel)
theorem w_535 : Cond.methodLink "UrnHeapLaw" 37 yX11_name ∈ gT_ := gm_ 535 (by decide +kernel)
theorem w_1315 : Cond.methodLink "UrnHeapLaw" 40 yX12_name ∈ gT_ := gm_ 1315 (by decide +kernel)
theorem w_546 : Cond.methodLink "UrnHeapLaw" 41 yX11_drop ∈ gT_ := gm_ 546 (by decide +kernel)
theorem w_1323 : Cond.methodLink "UrnHeapLaw" 44 yX12_drop ∈ gT_ := gm_ 1323 (by decide +kernel)
theorem w_554 : Cond.methodLink "UrnHeapLaw" 45 yX11_urnOf ∈ gT_ := gm_ 554 (by decide +kernel)
theorem w_1331 : Cond.methodLink "UrnHeapLaw" 48 yX12_urnOf ∈ gT_ := gm_ 1331 (by decide +kernel)
theorem w_568 : Cond.methodLink "UrnHeapLaw" 49 yX11_threadOf ∈ gT_ := gm_ 568 (by decide +kernel)
theorem w_1343 : Cond.methodLink "UrnHeapLaw" 52 yX12_threadOf ∈ gT_ := gm_ 1343 (by decide +kernel)
theorem w_574 : Cond.methodLink "UrnHeapLaw" 53 yX11_named ∈ gT_ := gm_ 574 (by decide +kernel)
theorem w_1347 : Cond.methodLink "UrnHeapLaw" 56 yX12_named ∈ gT_ := gm_ 1347 (by decide +kernel)
theorem w_579 : Cond.methodLink "UrnHeapLaw" 57 yX11_begin ∈ gT_ := gm_ 579 (by decide +kernel)
theorem w_1351 : Cond.methodLink "UrnHeapLaw" 61 yX12_begin ∈ gT_ := gm_ 1351 (by decide +kernel)
theorem w_597 : Cond.methodLink "UrnHeapLaw" 62 yX11_step ∈ gT_ := gm_ 597 (by decide +kernel)
theorem w_1359 : Cond.methodLink "UrnHeapLaw" 65 yX12_step ∈ gT_ := gm_ 1359 (by decide +kernel)
theorem w_642 : Cond.methodLink "UrnHeapLaw" 66 yX11_round ∈ gT_ := gm_ 642 (by decide +kernel)
theorem w_1395 : Cond.methodLink "UrnHeapLaw" 69 yX12_round ∈ gT_ := gm_ 1395 (by decide +kernel)
theorem w_650 : Cond.methodLink "UrnHeapLaw" 70 yX11_rite ∈ gT_ := gm_ 650 (by decide +kernel)
theorem w_1403 : Cond.methodLink "UrnHeapLaw" 73 yX12_rite ∈ gT_ := gm_ 1403 (by decide +kernel)
theorem w_658 : Cond.methodLink "UrnHeapLaw" 74 yX11_due ∈ gT_ := gm_ 658 (by decide +kernel)
theorem w_1411 : Cond.methodLink "UrnHeapLaw" 77 yX12_due ∈ gT_ := gm_ 1411 (by decide +kernel)
theorem w_663 : Cond.methodLink "UrnHeapLaw" 78 yX11_grey ∈ gT_ := gm_ 663 (by decide +kernel)
theorem w_1415 : Cond.methodLink "UrnHeapLaw" 81 yX12_grey ∈ gT_ := gm_ 1415 (by decide +kernel)
theorem w_667 : Cond.methodLink "UrnHeapLaw" 82 yX11_freed ∈ gT_ := gm_ 667 (by decide +kernel)
theorem w_1419 : Cond.methodLink "UrnHeapLaw" 85 yX12_freed ∈ gT_ := gm_ 1419 (by decide +kernel)
theorem w_675 : Cond.methodLink "UrnHeapLaw" 86 yX11_live ∈ gT_ := gm_ 675 (by decide +kernel)
theorem w_1423 : Cond.methodLink "UrnHeapLaw" 89 yX12_live ∈ gT_ := gm_ 1423 (by decide +kernel)
theorem w_712 : Cond.methodLink "UrnHeapLaw" 90 yX11_liveAgain ∈ gT_ := gm_ 712 (by decide +kernel)
theorem w_1439 : Cond.methodLink "UrnHeapLaw" 93 yX12_liveAgain ∈ gT_ := gm_ 1439 (by decide +kernel)
theorem w_724 : Cond.methodLink "UrnHeapLaw" 94 yX11_depth ∈ gT_ := gm_ 724 (by decide +kernel)
theorem w_1444 : Cond.methodLink "UrnHeapLaw" 97 yX12_depth ∈ gT_ := gm_ 1444 (by decide +kernel)
theorem w_733 : Cond.methodLink "UrnHeapLaw" 98 yX11_keepers ∈ gT_ := gm_ 733 (by decide +kernel)
theorem w_1448 : Cond.methodLink "UrnHeapLaw" 101 yX12_keepers ∈ gT_ := gm_ 1448 (by decide +kernel)
theorem w_742 : Cond.methodLink "UrnHeapLaw" 102 yX11_ring ∈ gT_ := gm_ 742 (by decide +kernel)
theorem w_1452 : Cond.methodLink "UrnHeapLaw" 105 yX12_ring ∈ gT_ := gm_ 1452 (by decide +kernel)
theorem w_751 : Cond.methodLink "UrnHeapLaw" 106 yX11_wouldFree ∈ gT_ := gm_ 751 (by decide +kernel)
theorem w_1456 : Cond.methodLink "UrnHeapLaw" 109 yX12_wouldFree ∈ gT_ := gm_ 1456 (by decide +kernel)
theorem w_759 : Cond.methodLink "UrnHeapLaw" 110 yX11_ranked ∈ gT_ := gm_ 759 (by decide +kernel)
theorem w_1464 : Cond.methodLink "UrnHeapLaw" 113 yX12_ranked ∈ gT_ := gm_ 1464 (by decide +kernel)
theorem w_777 : Cond.methodLink "UrnHeapLaw" 114 yX11_append ∈ gT_ := gm_ 777 (by decide +kernel)
theorem w_1472 : Cond.methodLink "UrnHeapLaw" 117 yX12_append ∈ gT_ := gm_ 1472 (by decide +kernel)
theorem w_883 : Cond.methodLink "UrnHeapLaw" 118 yX11_run ∈ gT_ := gm_ 883 (by decide +kernel)
theorem w_1476 : Cond.methodLink "UrnHeapLaw" 121 yX12_run ∈ gT_ := gm_ 1476 (by decide +kernel)
theorem w_1004 : Cond.methodLink "UrnHeapLaw" 122 yX11_tell ∈ gT_ := gm_ 1004 (by decide +kernel)
theorem w_1529 : Cond.methodLink "UrnHeapLaw" 125 yX12_tell ∈ gT_ := gm_ 1529 (by decide +kernel)
theorem w_1059 : Cond.methodLink "UrnHeapLaw" 126 yX11_tellHeap ∈ gT_ := gm_ 1059 (by decide +kernel)
theorem w_1541 : Cond.methodLink "UrnHeapLaw" 129 yX12_tellHeap ∈ gT_ := gm_ 1541 (by decide +kernel)
theorem w_1070 : Cond.methodLink "UrnHeapLaw" 130 yX11_character ∈ gT_ := gm_ 1070 (by decide +kernel)
theorem w_1545 : Cond.methodLink "UrnHeapLaw" 133 yX12_character ∈ gT_ := gm_ 1545 (by decide +kernel)
theorem w_1079 : Cond.methodLink "UrnHeapLaw" 134 yX11_reason ∈ gT_ := gm_ 1079 (by decide +kernel)
theorem w_1549 : Cond.methodLink "UrnHeapLaw" 137 yX12_reason ∈ gT_ := gm_ 1549 (by decide +kernel)
theorem w_1083 : Cond.methodLink "UrnHeapLaw" 138 yX11_account ∈ gT_ := gm_ 1083 (by decide +kernel)
theorem w_1553 : Cond.methodLink "UrnHeapLaw" 141 yX12_account ∈ gT_ := gm_ 1553 (by decide +kernel)
theorem w_1104 : Cond.methodLink "UrnHeapLaw" 142 yX11_isBalanced ∈ gT_ := gm_ 1104 (by decide +kernel)
theorem w_1569 : Cond.methodLink "UrnHeapLaw" 145 yX12_isBalanced ∈ gT_ := gm_ 1569 (by decide +kernel)
theorem w_1121 : Cond.methodLink "UrnHeapLaw" 146 yX11_meanHeld ∈ gT_ := gm_ 1121 (by decide +kernel)
theorem w_1581 : Cond.methodLink "UrnHeapLaw" 150 yX12_meanHeld ∈ gT_ := gm_ 1581 (by decide +kernel)
theorem w_1130 : Cond.methodLink "UrnHeapLaw" 151 yX11_liveShare ∈ gT_ := gm_ 1130 (by decide +kernel)
theorem w_1585 : Cond.methodLink "UrnHeapLaw" 155 yX12_liveShare ∈ gT_ := gm_ 1585 (by decide +kernel)
theorem w_1140 : Cond.methodLink "UrnHeapLaw" 156 yX11_undo ∈ gT_ := gm_ 1140 (by decide +kernel)
theorem w_1589 : Cond.methodLink "UrnHeapLaw" 159 yX12_undo ∈ gT_ := gm_ 1589 (by decide +kernel)
theorem w_1149 : Cond.methodLink "UrnHeapLaw" 160 yX11_save ∈ gT_ := gm_ 1149 (by decide +kernel)
theorem w_1593 : Cond.methodLink "UrnHeapLaw" 163 yX12_save ∈ gT_ := gm_ 1593 (by decide +kernel)
theorem w_1158 : Cond.methodLink "UrnHeapLaw" 164 yX11_restore ∈ gT_ := gm_ 1158 (by decide +kernel)
theorem w_1597 : Cond.methodLink "UrnHeapLaw" 167 yX12_restore ∈ gT_ := gm_ 1597 (by decide +kernel)
theorem w_425 : Cond.code yX11_urn cX11_urn 2 (some .int) ∈ gT_ := gm_ 425 (by decide +kernel)
theorem w_423 : Cond.instanceMethod yX11_urn ∈ gT_ := gm_ 423 (by decide +kernel)
theorem w_424 : Cond.selects "UrnHeap" yX11_urn yX11_urn ∈ gT_ := gm_ 424 (by decide +kernel)
theorem w_1243 : Cond.code yX12_urn cX12_urn 2 (some .int) ∈ gT_ := gm_ 1243 (by decide +kernel)
theorem w_1241 : Cond.instanceMethod yX12_urn ∈ gT_ := gm_ 1241 (by decide +kernel)
theorem w_1242 : Cond.selects "UrnHeapModel" yX12_urn yX12_urn ∈ gT_ := gm_ 1242 (by decide +kernel)
theorem w_475 : Cond.code yX11_tie cX11_tie 4 (some .int) ∈ gT_ := gm_ 475 (by decide +kernel)
theorem w_473 : Cond.instanceMethod yX11_tie ∈ gT_ := gm_ 473 (by decide +kernel)
theorem w_474 : Cond.selects "UrnHeap" yX11_tie yX11_tie ∈ gT_ := gm_ 474 (by decide +kernel)
theorem w_1271 : Cond.code yX12_tie cX12_tie 4 (some .int) ∈ gT_ := gm_ 1271 (by decide +kernel)
theorem w_1269 : Cond.instanceMethod yX12_tie ∈ gT_ := gm_ 1269 (by decide +kernel)
theorem w_1270 : Cond.selects "UrnHeapModel" yX12_tie yX12_tie ∈ gT_ := gm_ 1270 (by decide +kernel)
theorem w_514 : Cond.code yX11_untie cX11_untie 3 (some .int) ∈ gT_ := gm_ 514 (by decide +kernel)
theorem w_512 : Cond.instanceMethod yX11_untie ∈ gT_ := gm_ 512 (by decide +kernel)
theorem w_513 : Cond.selects "UrnHeap" yX11_untie yX11_untie ∈ gT_ := gm_ 513 (by decide +kernel)
theorem w_1298 : Cond.code yX12_untie cX12_untie 3 (some .int) ∈ gT_ := gm_ 1298 (by decide +kernel)
theorem w_1296 : Cond.instanceMethod yX12_untie ∈ gT_ := gm_ 1296 (by decide +kernel)
theorem w_1297 : Cond.selects "UrnHeapModel" yX12_untie yX12_untie ∈ gT_ := gm_ 1297 (by decide +kernel)
theorem w_522 : Cond.code yX11_weak cX11_weak 3 (some .int) ∈ gT_ := gm_ 522 (by decide +kernel)
theorem w_520 : Cond.instanceMethod yX11_weak ∈ gT_ := gm_ 520 (by decide +kernel)
theorem w_521 : Cond.selects "UrnHeap" yX11_weak yX11_weak ∈ gT_ := gm_ 521 (by decide +kernel)
theorem w_1306 : Cond.code yX12_weak cX12_weak 3 (some .int) ∈ gT_ := gm_ 1306 (by decide +kernel)
theorem w_1304 : Cond.instanceMethod yX12_weak ∈ gT_ := gm_ 1304 (by decide +kernel)
theorem w_1305 : Cond.selects "UrnHeapModel" yX12_weak yX12_weak ∈ gT_ := gm_ 1305 (by decide +kernel)
theorem w_530 : Cond.code yX11_unweak cX11_unweak 2 (some .int) ∈ gT_ := gm_ 530 (by decide +kernel)
theorem w_528 : Cond.instanceMethod yX11_unweak ∈ gT_ := gm_ 528 (by decide +kernel)
theorem w_529 : Cond.selects "UrnHeap" yX11_unweak yX11_unweak ∈ gT_ := gm_ 529 (by decide +kernel)
theorem w_1314 : Cond.code yX12_unweak cX12_unweak 3 (some .int) ∈ gT_ := gm_ 1314 (by decide +kernel)
theorem w_1312 : Cond.instanceMethod yX12_unweak ∈ gT_ := gm_ 1312 (by decide +kernel)
theorem w_1313 : Cond.selects "UrnHeapModel" yX12_unweak yX12_unweak ∈ gT_ := gm_ 1313 (by decide +kernel)
theorem w_538 : Cond.code yX11_name cX11_name 3 (some .int) ∈ gT_ := gm_ 538 (by decide +kernel)
theorem w_536 : Cond.instanceMethod yX11_name ∈ gT_ := gm_ 536 (by decide +kernel)
theorem w_537 : Cond.selects "UrnHeap" yX11_name yX11_name ∈ gT_ := gm_ 537 (by decide +kernel)
theorem w_1318 : Cond.code yX12_name cX12_name 3 (some .int) ∈ gT_ := gm_ 1318 (by decide +kernel)
theorem w_1316 : Cond.instanceMethod yX12_name ∈ gT_ := gm_ 1316 (by decide +kernel)
theorem w_1317 : Cond.selects "UrnHeapModel" yX12_name yX12_name ∈ gT_ := gm_ 1317 (by decide +kernel)
theorem w_549 : Cond.code yX11_drop cX11_drop 2 (some .int) ∈ gT_ := gm_ 549 (by decide +kernel)
theorem w_547 : Cond.instanceMethod yX11_drop ∈ gT_ := gm_ 547 (by decide +kernel)
theorem w_548 : Cond.selects "UrnHeap" yX11_drop yX11_drop ∈ gT_ := gm_ 548 (by decide +kernel)
theorem w_1326 : Cond.code yX12_drop cX12_drop 2 (some .int) ∈ gT_ := gm_ 1326 (by decide +kernel)
theorem w_1324 : Cond.instanceMethod yX12_drop ∈ gT_ := gm_ 1324 (by decide +kernel)
theorem w_1325 : Cond.selects "UrnHeapModel" yX12_drop yX12_drop ∈ gT_ := gm_ 1325 (by decide +kernel)
theorem w_557 : Cond.code yX11_urnOf cX11_urnOf 3 (some .int) ∈ gT_ := gm_ 557 (by decide +kernel)
theorem w_555 : Cond.instanceMethod yX11_urnOf ∈ gT_ := gm_ 555 (by decide +kernel)
theorem w_556 : Cond.selects "UrnHeap" yX11_urnOf yX11_urnOf ∈ gT_ := gm_ 556 (by decide +kernel)
theorem w_1334 : Cond.code yX12_urnOf cX12_urnOf 3 (some .int) ∈ gT_ := gm_ 1334 (by decide +kernel)
theorem w_1332 : Cond.instanceMethod yX12_urnOf ∈ gT_ := gm_ 1332 (by decide +kernel)
theorem w_1333 : Cond.selects "UrnHeapModel" yX12_urnOf yX12_urnOf ∈ gT_ := gm_ 1333 (by decide +kernel)
theorem w_571 : Cond.code yX11_threadOf cX11_threadOf 3 (some .int) ∈ gT_ := gm_ 571 (by decide +kernel)
theorem w_569 : Cond.instanceMethod yX11_threadOf ∈ gT_ := gm_ 569 (by decide +kernel)
theorem w_570 : Cond.selects "UrnHeap" yX11_threadOf yX11_threadOf ∈ gT_ := gm_ 570 (by decide +kernel)
theorem w_1346 : Cond.code yX12_threadOf cX12_threadOf 3 (some .int) ∈ gT_ := gm_ 1346 (by decide +kernel)
theorem w_1344 : Cond.instanceMethod yX12_threadOf ∈ gT_ := gm_ 1344 (by decide +kernel)
theorem w_1345 : Cond.selects "UrnHeapModel" yX12_threadOf yX12_threadOf ∈ gT_ := gm_ 1345 (by decide +kernel)
theorem w_577 : Cond.code yX11_named cX11_named 2 (some .int) ∈ gT_ := gm_ 577 (by decide +kernel)
theorem w_575 : Cond.instanceMethod yX11_named ∈ gT_ := gm_ 575 (by decide +kernel)
theorem w_576 : Cond.selects "UrnHeap" yX11_named yX11_named ∈ gT_ := gm_ 576 (by decide +kernel)
theorem w_1350 : Cond.code yX12_named cX12_named 2 (some .int) ∈ gT_ := gm_ 1350 (by decide +kernel)
theorem w_1348 : Cond.instanceMethod yX12_named ∈ gT_ := gm_ 1348 (by decide +kernel)
theorem w_1349 : Cond.selects "UrnHeapModel" yX12_named yX12_named ∈ gT_ := gm_ 1349 (by decide +kernel)
theorem w_582 : Cond.code yX11_begin cX11_begin 1 (some .int) ∈ gT_ := gm_ 582 (by decide +kernel)
theorem w_580 : Cond.instanceMethod yX11_begin ∈ gT_ := gm_ 580 (by decide +kernel)
theorem w_581 : Cond.selects "UrnHeap" yX11_begin yX11_begin ∈ gT_ := gm_ 581 (by decide +kernel)
theorem w_1354 : Cond.code yX12_begin cX12_begin 1 (some .int) ∈ gT_ := gm_ 1354 (by decide +kernel)
theorem w_1352 : Cond.instanceMethod yX12_begin ∈ gT_ := gm_ 1352 (by decide +kernel)
theorem w_1353 : Cond.selects "UrnHeapModel" yX12_begin yX12_begin ∈ gT_ := gm_ 1353 (by decide +kernel)
theorem w_600 : Cond.code yX11_step cX11_step 2 (some .int) ∈ gT_ := gm_ 600 (by decide +kernel)
theorem w_598 : Cond.instanceMethod yX11_step ∈ gT_ := gm_ 598 (by decide +kernel)
theorem w_599 : Cond.selects "UrnHeap" yX11_step yX11_step ∈ gT_ := gm_ 599 (by decide +kernel)
theorem w_1362 : Cond.code yX12_step cX12_step 2 (some .int) ∈ gT_ := gm_ 1362 (by decide +kernel)
theorem w_1360 : Cond.instanceMethod yX12_step ∈ gT_ := gm_ 1360 (by decide +kernel)
theorem w_1361 : Cond.selects "UrnHeapModel" yX12_step yX12_step ∈ gT_ := gm_ 1361 (by decide +kernel)
theorem w_645 : Cond.code yX11_round cX11_round 1 (some .int) ∈ gT_ := gm_ 645 (by decide +kernel)
theorem w_643 : Cond.instanceMethod yX11_round ∈ gT_ := gm_ 643 (by decide +kernel)
theorem w_644 : Cond.selects "UrnHeap" yX11_round yX11_round ∈ gT_ := gm_ 644 (by decide +kernel)
theorem w_1398 : Cond.code yX12_round cX12_round 1 (some .int) ∈ gT_ := gm_ 1398 (by decide +kernel)
theorem w_1396 : Cond.instanceMethod yX12_round ∈ gT_ := gm_ 1396 (by decide +kernel)
theorem w_1397 : Cond.selects "UrnHeapModel" yX12_round yX12_round ∈ gT_ := gm_ 1397 (by decide +kernel)
theorem w_653 : Cond.code yX11_rite cX11_rite 1 (some .int) ∈ gT_ := gm_ 653 (by decide +kernel)
theorem w_651 : Cond.instanceMethod yX11_rite ∈ gT_ := gm_ 651 (by decide +kernel)
theorem w_652 : Cond.selects "UrnHeap" yX11_rite yX11_rite ∈ gT_ := gm_ 652 (by decide +kernel)
theorem w_1406 : Cond.code yX12_rite cX12_rite 1 (some .int) ∈ gT_ := gm_ 1406 (by decide +kernel)
theorem w_1404 : Cond.instanceMethod yX12_rite ∈ gT_ := gm_ 1404 (by decide +kernel)
theorem w_1405 : Cond.selects "UrnHeapModel" yX12_rite yX12_rite ∈ gT_ := gm_ 1405 (by decide +kernel)
theorem w_661 : Cond.code yX11_due cX11_due 2 (some .int) ∈ gT_ := gm_ 661 (by decide +kernel)
theorem w_659 : Cond.instanceMethod yX11_due ∈ gT_ := gm_ 659 (by decide +kernel)
theorem w_660 : Cond.selects "UrnHeap" yX11_due yX11_due ∈ gT_ := gm_ 660 (by decide +kernel)
theorem w_1414 : Cond.code yX12_due cX12_due 2 (some .int) ∈ gT_ := gm_ 1414 (by decide +kernel)
theorem w_1412 : Cond.instanceMethod yX12_due ∈ gT_ := gm_ 1412 (by decide +kernel)
theorem w_1413 : Cond.selects "UrnHeapModel" yX12_due yX12_due ∈ gT_ := gm_ 1413 (by decide +kernel)
theorem w_666 : Cond.code yX11_grey cX11_grey 2 (some .int) ∈ gT_ := gm_ 666 (by decide +kernel)
theorem w_664 : Cond.instanceMethod yX11_grey ∈ gT_ := gm_ 664 (by decide +kernel)
theorem w_665 : Cond.selects "UrnHeap" yX11_grey yX11_grey ∈ gT_ := gm_ 665 (by decide +kernel)
theorem w_1418 : Cond.code yX12_grey cX12_grey 2 (some .int) ∈ gT_ := gm_ 1418 (by decide +kernel)
theorem w_1416 : Cond.instanceMethod yX12_grey ∈ gT_ := gm_ 1416 (by decide +kernel)
theorem w_1417 : Cond.selects "UrnHeapModel" yX12_grey yX12_grey ∈ gT_ := gm_ 1417 (by decide +kernel)
theorem w_670 : Cond.code yX11_freed cX11_freed 2 (some .int) ∈ gT_ := gm_ 670 (by decide +kernel)
theorem w_668 : Cond.instanceMethod yX11_freed ∈ gT_ := gm_ 668 (by decide +kernel)
theorem w_669 : Cond.selects "UrnHeap" yX11_freed yX11_freed ∈ gT_ := gm_ 669 (by decide +kernel)
theorem w_1422 : Cond.code yX12_freed cX12_freed 2 (some .int) ∈ gT_ := gm_ 1422 (by decide +kernel)
theorem w_1420 : Cond.instanceMethod yX12_freed ∈ gT_ := gm_ 1420 (by decide +kernel)
theorem w_1421 : Cond.selects "UrnHeapModel" yX12_freed yX12_freed ∈ gT_ := gm_ 1421 (by decide +kernel)
theorem w_678 : Cond.code yX11_live cX11_live 1 (some .int) ∈ gT_ := gm_ 678 (by decide +kernel)
theorem w_676 : Cond.instanceMethod yX11_live ∈ gT_ := gm_ 676 (by decide +kernel)
theorem w_677 : Cond.selects "UrnHeap" yX11_live yX11_live ∈ gT_ := gm_ 677 (by decide +kernel)
theorem w_715 : Cond.code yX11_liveAgain cX11_liveAgain 1 (some .int) ∈ gT_ := gm_ 715 (by decide +kernel)
theorem w_713 : Cond.instanceMethod yX11_liveAgain ∈ gT_ := gm_ 713 (by decide +kernel)
theorem w_714 : Cond.selects "UrnHeap" yX11_liveAgain yX11_liveAgain ∈ gT_ := gm_ 714 (by decide +kernel)
theorem w_1442 : Cond.code yX12_liveAgain cX12_liveAgain 1 (some .int) ∈ gT_ := gm_ 1442 (by decide +kernel)
theorem w_1440 : Cond.instanceMethod yX12_liveAgain ∈ gT_ := gm_ 1440 (by decide +kernel)
theorem w_1441 : Cond.selects "UrnHeapModel" yX12_liveAgain yX12_liveAgain ∈ gT_ := gm_ 1441 (by decide +kernel)
theorem w_727 : Cond.code yX11_depth cX11_depth 2 (some .int) ∈ gT_ := gm_ 727 (by decide +kernel)
theorem w_725 : Cond.instanceMethod yX11_depth ∈ gT_ := gm_ 725 (by decide +kernel)
theorem w_726 : Cond.selects "UrnHeap" yX11_depth yX11_depth ∈ gT_ := gm_ 726 (by decide +kernel)
theorem w_1447 : Cond.code yX12_depth cX12_depth 2 (some .int) ∈ gT_ := gm_ 1447 (by decide +kernel)
theorem w_1445 : Cond.instanceMethod yX12_depth ∈ gT_ := gm_ 1445 (by decide +kernel)
theorem w_1446 : Cond.selects "UrnHeapModel" yX12_depth yX12_depth ∈ gT_ := gm_ 1446 (by decide +kernel)
theorem w_736 : Cond.code yX11_keepers cX11_keepers 2 (some .int) ∈ gT_ := gm_ 736 (by decide +kernel)
theorem w_734 : Cond.instanceMethod yX11_keepers ∈ gT_ := gm_ 734 (by decide +kernel)
theorem w_735 : Cond.selects "UrnHeap" yX11_keepers yX11_keepers ∈ gT_ := gm_ 735 (by decide +kernel)
theorem w_1451 : Cond.code yX12_keepers cX12_keepers 4 (some .int) ∈ gT_ := gm_ 1451 (by decide +kernel)
theorem w_1449 : Cond.instanceMethod yX12_keepers ∈ gT_ := gm_ 1449 (by decide +kernel)
theorem w_1450 : Cond.selects "UrnHeapModel" yX12_keepers yX12_keepers ∈ gT_ := gm_ 1450 (by decide +kernel)
theorem w_745 : Cond.code yX11_ring cX11_ring 2 (some .int) ∈ gT_ := gm_ 745 (by decide +kernel)
theorem w_743 : Cond.instanceMethod yX11_ring ∈ gT_ := gm_ 743 (by decide +kernel)
theorem w_744 : Cond.selects "UrnHeap" yX11_ring yX11_ring ∈ gT_ := gm_ 744 (by decide +kernel)
theorem w_1455 : Cond.code yX12_ring cX12_ring 5 (some .int) ∈ gT_ := gm_ 1455 (by decide +kernel)
theorem w_1453 : Cond.instanceMethod yX12_ring ∈ gT_ := gm_ 1453 (by decide +kernel)
theorem w_1454 : Cond.selects "UrnHeapModel" yX12_ring yX12_ring ∈ gT_ := gm_ 1454 (by decide +kernel)
theorem w_754 : Cond.code yX11_wouldFree cX11_wouldFree 1 (some .int) ∈ gT_ := gm_ 754 (by decide +kernel)
theorem w_752 : Cond.instanceMethod yX11_wouldFree ∈ gT_ := gm_ 752 (by decide +kernel)
theorem w_753 : Cond.selects "UrnHeap" yX11_wouldFree yX11_wouldFree ∈ gT_ := gm_ 753 (by decide +kernel)
theorem w_1459 : Cond.code yX12_wouldFree cX12_wouldFree 1 (some .int) ∈ gT_ := gm_ 1459 (by decide +kernel)
theorem w_1457 : Cond.instanceMethod yX12_wouldFree ∈ gT_ := gm_ 1457 (by decide +kernel)
theorem w_1458 : Cond.selects "UrnHeapModel" yX12_wouldFree yX12_wouldFree ∈ gT_ := gm_ 1458 (by decide +kernel)
theorem w_762 : Cond.code yX11_ranked cX11_ranked 2 (some .int) ∈ gT_ := gm_ 762 (by decide +kernel)
theorem w_760 : Cond.instanceMethod yX11_ranked ∈ gT_ := gm_ 760 (by decide +kernel)
theorem w_761 : Cond.selects "UrnHeap" yX11_ranked yX11_ranked ∈ gT_ := gm_ 761 (by decide +kernel)
theorem w_1467 : Cond.code yX12_ranked cX12_ranked 5 (some .int) ∈ gT_ := gm_ 1467 (by decide +kernel)
theorem w_1465 : Cond.instanceMethod yX12_ranked ∈ gT_ := gm_ 1465 (by decide +kernel)
theorem w_1466 : Cond.selects "UrnHeapModel" yX12_ranked yX12_ranked ∈ gT_ := gm_ 1466 (by decide +kernel)
theorem w_780 : Cond.code yX11_append cX11_append 2 (some .int) ∈ gT_ := gm_ 780 (by decide +kernel)
theorem w_778 : Cond.instanceMethod yX11_append ∈ gT_ := gm_ 778 (by decide +kernel)
theorem w_779 : Cond.selects "UrnHeap" yX11_append yX11_append ∈ gT_ := gm_ 779 (by decide +kernel)
theorem w_1475 : Cond.code yX12_append cX12_append 2 (some .int) ∈ gT_ := gm_ 1475 (by decide +kernel)
theorem w_1473 : Cond.instanceMethod yX12_append ∈ gT_ := gm_ 1473 (by decide +kernel)
theorem w_1474 : Cond.selects "UrnHeapModel" yX12_append yX12_append ∈ gT_ := gm_ 1474 (by decide +kernel)
theorem w_886 : Cond.code yX11_run cX11_run 3 (some .int) ∈ gT_ := gm_ 886 (by decide +kernel)
theorem w_884 : Cond.instanceMethod yX11_run ∈ gT_ := gm_ 884 (by decide +kernel)
theorem w_885 : Cond.selects "UrnHeap" yX11_run yX11_run ∈ gT_ := gm_ 885 (by decide +kernel)
theorem w_1479 : Cond.code yX12_run cX12_run 3 (some .int) ∈ gT_ := gm_ 1479 (by decide +kernel)
theorem w_1477 : Cond.instanceMethod yX12_run ∈ gT_ := gm_ 1477 (by decide +kernel)
theorem w_1478 : Cond.selects "UrnHeapModel" yX12_run yX12_run ∈ gT_ := gm_ 1478 (by decide +kernel)
theorem w_1007 : Cond.code yX11_tell cX11_tell 2 (some .int) ∈ gT_ := gm_ 1007 (by decide +kernel)
theorem w_1005 : Cond.instanceMethod yX11_tell ∈ gT_ := gm_ 1005 (by decide +kernel)
theorem w_1006 : Cond.selects "UrnHeap" yX11_tell yX11_tell ∈ gT_ := gm_ 1006 (by decide +kernel)
theorem w_1532 : Cond.code yX12_tell cX12_tell 3 (some .int) ∈ gT_ := gm_ 1532 (by decide +kernel)
theorem w_1530 : Cond.instanceMethod yX12_tell ∈ gT_ := gm_ 1530 (by decide +kernel)
theorem w_1531 : Cond.selects "UrnHeapModel" yX12_tell yX12_tell ∈ gT_ := gm_ 1531 (by decide +kernel)
theorem w_1062 : Cond.code yX11_tellHeap cX11_tellHeap 1 (some .int) ∈ gT_ := gm_ 1062 (by decide +kernel)
theorem w_1060 : Cond.instanceMethod yX11_tellHeap ∈ gT_ := gm_ 1060 (by decide +kernel)
theorem w_1061 : Cond.selects "UrnHeap" yX11_tellHeap yX11_tellHeap ∈ gT_ := gm_ 1061 (by decide +kernel)
theorem w_1544 : Cond.code yX12_tellHeap cX12_tellHeap 2 (some .int) ∈ gT_ := gm_ 1544 (by decide +kernel)
theorem w_1542 : Cond.instanceMethod yX12_tellHeap ∈ gT_ := gm_ 1542 (by decide +kernel)
theorem w_1543 : Cond.selects "UrnHeapModel" yX12_tellHeap yX12_tellHeap ∈ gT_ := gm_ 1543 (by decide +kernel)
theorem w_1073 : Cond.code yX11_character cX11_character 2 (some .int) ∈ gT_ := gm_ 1073 (by decide +kernel)
theorem w_1071 : Cond.instanceMethod yX11_character ∈ gT_ := gm_ 1071 (by decide +kernel)
theorem w_1072 : Cond.selects "UrnHeap" yX11_character yX11_character ∈ gT_ := gm_ 1072 (by decide +kernel)
theorem w_1548 : Cond.code yX12_character cX12_character 2 (some .int) ∈ gT_ := gm_ 1548 (by decide +kernel)
theorem w_1546 : Cond.instanceMethod yX12_character ∈ gT_ := gm_ 1546 (by decide +kernel)
theorem w_1547 : Cond.selects "UrnHeapModel" yX12_character yX12_character ∈ gT_ := gm_ 1547 (by decide +kernel)
theorem w_1082 : Cond.code yX11_reason cX11_reason 2 (some .int) ∈ gT_ := gm_ 1082 (by decide +kernel)
theorem w_1080 : Cond.instanceMethod yX11_reason ∈ gT_ := gm_ 1080 (by decide +kernel)
theorem w_1081 : Cond.selects "UrnHeap" yX11_reason yX11_reason ∈ gT_ := gm_ 1081 (by decide +kernel)
theorem w_1552 : Cond.code yX12_reason cX12_reason 2 (some .int) ∈ gT_ := gm_ 1552 (by decide +kernel)
theorem w_1550 : Cond.instanceMethod yX12_reason ∈ gT_ := gm_ 1550 (by decide +kernel)
theorem w_1551 : Cond.selects "UrnHeapModel" yX12_reason yX12_reason ∈ gT_ := gm_ 1551 (by decide +kernel)
theorem w_1086 : Cond.code yX11_account cX11_account 2 (some .int) ∈ gT_ := gm_ 1086 (by decide +kernel)
theorem w_1084 : Cond.instanceMethod yX11_account ∈ gT_ := gm_ 1084 (by decide +kernel)
theorem w_1085 : Cond.selects "UrnHeap" yX11_account yX11_account ∈ gT_ := gm_ 1085 (by decide +kernel)
theorem w_1556 : Cond.code yX12_account cX12_account 2 (some .int) ∈ gT_ := gm_ 1556 (by decide +kernel)
theorem w_1554 : Cond.instanceMethod yX12_account ∈ gT_ := gm_ 1554 (by decide +kernel)
theorem w_1555 : Cond.selects "UrnHeapModel" yX12_account yX12_account ∈ gT_ := gm_ 1555 (by decide +kernel)
theorem w_1107 : Cond.code yX11_isBalanced cX11_isBalanced 1 (some .int) ∈ gT_ := gm_ 1107 (by decide +kernel)
theorem w_1105 : Cond.instanceMethod yX11_isBalanced ∈ gT_ := gm_ 1105 (by decide +kernel)
theorem w_1106 : Cond.selects "UrnHeap" yX11_isBalanced yX11_isBalanced ∈ gT_ := gm_ 1106 (by decide +kernel)
theorem w_1572 : Cond.code yX12_isBalanced cX12_isBalanced 3 (some .int) ∈ gT_ := gm_ 1572 (by decide +kernel)
theorem w_1570 : Cond.instanceMethod yX12_isBalanced ∈ gT_ := gm_ 1570 (by decide +kernel)
theorem w_1571 : Cond.selects "UrnHeapModel" yX12_isBalanced yX12_isBalanced ∈ gT_ := gm_ 1571 (by decide +kernel)
theorem w_1124 : Cond.code yX11_meanHeld cX11_meanHeld 2 (some .double) ∈ gT_ := gm_ 1124 (by decide +kernel)
theorem w_1122 : Cond.instanceMethod yX11_meanHeld ∈ gT_ := gm_ 1122 (by decide +kernel)
theorem w_1123 : Cond.selects "UrnHeap" yX11_meanHeld yX11_meanHeld ∈ gT_ := gm_ 1123 (by decide +kernel)
theorem w_1584 : Cond.code yX12_meanHeld cX12_meanHeld 4 (some .double) ∈ gT_ := gm_ 1584 (by decide +kernel)
theorem w_1582 : Cond.instanceMethod yX12_meanHeld ∈ gT_ := gm_ 1582 (by decide +kernel)
theorem w_1583 : Cond.selects "UrnHeapModel" yX12_meanHeld yX12_meanHeld ∈ gT_ := gm_ 1583 (by decide +kernel)
theorem w_1133 : Cond.code yX11_liveShare cX11_liveShare 2 (some .float) ∈ gT_ := gm_ 1133 (by decide +kernel)
theorem w_1131 : Cond.instanceMethod yX11_liveShare ∈ gT_ := gm_ 1131 (by decide +kernel)
theorem w_1132 : Cond.selects "UrnHeap" yX11_liveShare yX11_liveShare ∈ gT_ := gm_ 1132 (by decide +kernel)
theorem w_1588 : Cond.code yX12_liveShare cX12_liveShare 5 (some .float) ∈ gT_ := gm_ 1588 (by decide +kernel)
theorem w_1586 : Cond.instanceMethod yX12_liveShare ∈ gT_ := gm_ 1586 (by decide +kernel)
theorem w_1587 : Cond.selects "UrnHeapModel" yX12_liveShare yX12_liveShare ∈ gT_ := gm_ 1587 (by decide +kernel)
theorem w_1143 : Cond.code yX11_undo cX11_undo 1 (some .int) ∈ gT_ := gm_ 1143 (by decide +kernel)
theorem w_1141 : Cond.instanceMethod yX11_undo ∈ gT_ := gm_ 1141 (by decide +kernel)
theorem w_1142 : Cond.selects "UrnHeap" yX11_undo yX11_undo ∈ gT_ := gm_ 1142 (by decide +kernel)
theorem w_1592 : Cond.code yX12_undo cX12_undo 2 (some .int) ∈ gT_ := gm_ 1592 (by decide +kernel)
theorem w_1590 : Cond.instanceMethod yX12_undo ∈ gT_ := gm_ 1590 (by decide +kernel)
theorem w_1591 : Cond.selects "UrnHeapModel" yX12_undo yX12_undo ∈ gT_ := gm_ 1591 (by decide +kernel)
theorem w_1152 : Cond.code yX11_save cX11_save 1 (some .int) ∈ gT_ := gm_ 1152 (by decide +kernel)
theorem w_1150 : Cond.instanceMethod yX11_save ∈ gT_ := gm_ 1150 (by decide +kernel)
theorem w_1151 : Cond.selects "UrnHeap" yX11_save yX11_save ∈ gT_ := gm_ 1151 (by decide +kernel)
theorem w_1596 : Cond.code yX12_save cX12_save 2 (some .int) ∈ gT_ := gm_ 1596 (by decide +kernel)
theorem w_1594 : Cond.instanceMethod yX12_save ∈ gT_ := gm_ 1594 (by decide +kernel)
theorem w_1595 : Cond.selects "UrnHeapModel" yX12_save yX12_save ∈ gT_ := gm_ 1595 (by decide +kernel)
theorem w_1161 : Cond.code yX11_restore cX11_restore 1 (some .int) ∈ gT_ := gm_ 1161 (by decide +kernel)
theorem w_1159 : Cond.instanceMethod yX11_restore ∈ gT_ := gm_ 1159 (by decide +kernel)
theorem w_1160 : Cond.selects "UrnHeap" yX11_restore yX11_restore ∈ gT_ := gm_ 1160 (by decide +kernel)
theorem w_1600 : Cond.code yX12_restore cX12_restore 2 (some .int) ∈ gT_ := gm_ 1600 (by decide +kernel)
theorem w_1598 : Cond.instanceMethod yX12_restore ∈ gT_ := gm_ 1598 (by decide +kernel)
theorem w_1599 : Cond.selects "UrnHeapModel" yX12_restore yX12_restore ∈ gT_ := gm_ 1599 (by decide +kernel)
theorem ca_X11_urn : ca_ yX11_urn cX11_urn 2 (some .int) 1 := ⟨w_77, w_425, by decide, by decide, by decide +kernel⟩
theorem cv_X11_urn : cv_ yX11_urn := ⟨w_423, w_424⟩
theorem ca_X12_urn : ca_ yX12_urn cX12_urn 2 (some .int) 1 := ⟨w_92, w_1243, by decide, by decide, by decide +kernel⟩
theorem cv_X12_urn : cv_ yX12_urn := ⟨w_1241, w_1242⟩
theorem ca_X11_tie : ca_ yX11_tie cX11_tie 4 (some .int) 3 := ⟨w_77, w_475, by decide, by decide, by decide +kernel⟩
theorem cv_X11_tie : cv_ yX11_tie := ⟨w_473, w_474⟩
theorem ca_X12_tie : ca_ yX12_tie cX12_tie 4 (some .int) 3 := ⟨w_92, w_1271, by decide, by decide, by decide +kernel⟩
theorem cv_X12_tie : cv_ yX12_tie := ⟨w_1269, w_1270⟩
theorem ca_X11_untie : ca_ yX11_untie cX11_untie 3 (some .int) 2 := ⟨w_77, w_514, by decide, by decide, by decide +kernel⟩
theorem cv_X11_untie : cv_ yX11_untie := ⟨w_512, w_513⟩
theorem ca_X12_untie : ca_ yX12_untie cX12_untie 3 (some .int) 2 := ⟨w_92, w_1298, by decide, by decide, by decide +kernel⟩
theorem cv_X12_untie : cv_ yX12_untie := ⟨w_1296, w_1297⟩
theorem ca_X11_weak : ca_ yX11_weak cX11_weak 3 (some .int) 2 := ⟨w_77, w_522, by decide, by decide, by decide +kernel⟩
theorem cv_X11_weak : cv_ yX11_weak := ⟨w_520, w_521⟩
theorem ca_X12_weak : ca_ yX12_weak cX12_weak 3 (some .int) 2 := ⟨w_92, w_1306, by decide, by decide, by decide +kernel⟩
theorem cv_X12_weak : cv_ yX12_weak := ⟨w_1304, w_1305⟩
theorem ca_X11_unweak : ca_ yX11_unweak cX11_unweak 2 (some .int) 1 := ⟨w_77, w_530, by decide, by decide, by decide +kernel⟩
theorem cv_X11_unweak : cv_ yX11_unweak := ⟨w_528, w_529⟩
theorem ca_X12_unweak : ca_ yX12_unweak cX12_unweak 3 (some .int) 1 := ⟨w_92, w_1314, by decide, by decide, by decide +kernel⟩
theorem cv_X12_unweak : cv_ yX12_unweak := ⟨w_1312, w_1313⟩
theorem ca_X11_name : ca_ yX11_name cX11_name 3 (some .int) 2 := ⟨w_77, w_538, by decide, by decide, by decide +kernel⟩
theorem cv_X11_name : cv_ yX11_name := ⟨w_536, w_537⟩
theorem ca_X12_name : ca_ yX12_name cX12_name 3 (some .int) 2 := ⟨w_92, w_1318, by decide, by decide, by decide +kernel⟩
theorem cv_X12_name : cv_ yX12_name := ⟨w_1316, w_1317⟩
theorem ca_X11_drop : ca_ yX11_drop cX11_drop 2 (some .int) 1 := ⟨w_77, w_549, by decide, by decide, by decide +kernel⟩
theorem cv_X11_drop : cv_ yX11_drop := ⟨w_547, w_548⟩
theorem ca_X12_drop : ca_ yX12_drop cX12_drop 2 (some .int) 1 := ⟨w_92, w_1326, by decide, by decide, by decide +kernel⟩
theorem cv_X12_drop : cv_ yX12_drop := ⟨w_1324, w_1325⟩
theorem ca_X11_urnOf : ca_ yX11_urnOf cX11_urnOf 3 (some .int) 2 := ⟨w_77, w_557, by decide, by decide, by decide +kernel⟩
theorem cv_X11_urnOf : cv_ yX11_urnOf := ⟨w_555, w_556⟩
theorem ca_X12_urnOf : ca_ yX12_urnOf cX12_urnOf 3 (some .int) 2 := ⟨w_92, w_1334, by decide, by decide, by decide +kernel⟩
theorem cv_X12_urnOf : cv_ yX12_urnOf := ⟨w_1332, w_1333⟩
theorem ca_X11_threadOf : ca_ yX11_threadOf cX11_threadOf 3 (some .int) 2 := ⟨w_77, w_571, by decide, by decide, by decide +kernel⟩
theorem cv_X11_threadOf : cv_ yX11_threadOf := ⟨w_569, w_570⟩
theorem ca_X12_threadOf : ca_ yX12_threadOf cX12_threadOf 3 (some .int) 2 := ⟨w_92, w_1346, by decide, by decide, by decide +kernel⟩
theorem cv_X12_threadOf : cv_ yX12_threadOf := ⟨w_1344, w_1345⟩
theorem ca_X11_named : ca_ yX11_named cX11_named 2 (some .int) 1 := ⟨w_77, w_577, by decide, by decide, by decide +kernel⟩
theorem cv_X11_named : cv_ yX11_named := ⟨w_575, w_576⟩
theorem ca_X12_named : ca_ yX12_named cX12_named 2 (some .int) 1 := ⟨w_92, w_1350, by decide, by decide, by decide +kernel⟩
theorem cv_X12_named : cv_ yX12_named := ⟨w_1348, w_1349⟩
theorem ca_X11_begin : ca_ yX11_begin cX11_begin 1 (some .int) 0 := ⟨w_77, w_582, by decide, by decide, by decide +kernel⟩
theorem cv_X11_begin : cv_ yX11_begin := ⟨w_580, w_581⟩
theorem ca_X12_begin : ca_ yX12_begin cX12_begin 1 (some .int) 0 := ⟨w_92, w_1354, by decide, by decide, by decide +kernel⟩
theorem cv_X12_begin : cv_ yX12_begin := ⟨w_1352, w_1353⟩
theorem ca_X11_step : ca_ yX11_step cX11_step 2 (some .int) 1 := ⟨w_77, w_600, by decide, by decide, by decide +kernel⟩
theorem cv_X11_step : cv_ yX11_step := ⟨w_598, w_599⟩
theorem ca_X12_step : ca_ yX12_step cX12_step 2 (some .int) 1 := ⟨w_92, w_1362, by decide, by decide, by decide +kernel⟩
theorem cv_X12_step : cv_ yX12_step := ⟨w_1360, w_1361⟩
theorem ca_X11_round : ca_ yX11_round cX11_round 1 (some .int) 0 := ⟨w_77, w_645, by decide, by decide, by decide +kernel⟩
theorem cv_X11_round : cv_ yX11_round := ⟨w_643, w_644⟩
theorem ca_X12_round : ca_ yX12_round cX12_round 1 (some .int) 0 := ⟨w_92, w_1398, by decide, by decide, by decide +kernel⟩
theorem cv_X12_round : cv_ yX12_round := ⟨w_1396, w_1397⟩
theorem ca_X11_rite : ca_ yX11_rite cX11_rite 1 (some .int) 0 := ⟨w_77, w_653, by decide, by decide, by decide +kernel⟩
theorem cv_X11_rite : cv_ yX11_rite := ⟨w_651, w_652⟩
theorem ca_X12_rite : ca_ yX12_rite cX12_rite 1 (some .int) 0 := ⟨w_92, w_1406, by decide, by decide, by decide +kernel⟩
theorem cv_X12_rite : cv_ yX12_rite := ⟨w_1404, w_1405⟩
theorem ca_X11_due : ca_ yX11_due cX11_due 2 (some .int) 1 := ⟨w_77, w_661, by decide, by decide, by decide +kernel⟩
theorem cv_X11_due : cv_ yX11_due := ⟨w_659, w_660⟩
theorem ca_X12_due : ca_ yX12_due cX12_due 2 (some .int) 1 := ⟨w_92, w_1414, by decide, by decide, by decide +kernel⟩
theorem cv_X12_due : cv_ yX12_due := ⟨w_1412, w_1413⟩
theorem ca_X11_grey : ca_ yX11_grey cX11_grey 2 (some .int) 1 := ⟨w_77, w_666, by decide, by decide, by decide +kernel⟩
theorem cv_X11_grey : cv_ yX11_grey := ⟨w_664, w_665⟩
theorem ca_X12_grey : ca_ yX12_grey cX12_grey 2 (some .int) 1 := ⟨w_92, w_1418, by decide, by decide, by decide +kernel⟩
theorem cv_X12_grey : cv_ yX12_grey := ⟨w_1416, w_1417⟩
theorem ca_X11_freed : ca_ yX11_freed cX11_freed 2 (some .int) 1 := ⟨w_77, w_670, by decide, by decide, by decide +kernel⟩
theorem cv_X11_freed : cv_ yX11_freed := ⟨w_668, w_669⟩
theorem ca_X12_freed : ca_ yX12_freed cX12_freed 2 (some .int) 1 := ⟨w_92, w_1422, by decide, by decide, by decide +kernel⟩
theorem cv_X12_freed : cv_ yX12_freed := ⟨w_1420, w_1421⟩
theorem ca_X11_live : ca_ yX11_live cX11_live 1 (some .int) 0 := ⟨w_77, w_678, by decide, by decide, by decide +kernel⟩
theorem cv_X11_live : cv_ yX11_live := ⟨w_676, w_677⟩
theorem ca_X11_liveAgain : ca_ yX11_liveAgain cX11_liveAgain 1 (some .int) 0 := ⟨w_77, w_715, by decide, by decide, by decide +kernel⟩
theorem cv_X11_liveAgain : cv_ yX11_liveAgain := ⟨w_713, w_714⟩
theorem ca_X12_liveAgain : ca_ yX12_liveAgain cX12_liveAgain 1 (some .int) 0 := ⟨w_92, w_1442, by decide, by decide, by decide +kernel⟩
theorem cv_X12_liveAgain : cv_ yX12_liveAgain := ⟨w_1440, w_1441⟩
theorem ca_X11_depth : ca_ yX11_depth cX11_depth 2 (some .int) 1 := ⟨w_77, w_727, by decide, by decide, by decide +kernel⟩
theorem cv_X11_depth : cv_ yX11_depth := ⟨w_725, w_726⟩
theorem ca_X12_depth : ca_ yX12_depth cX12_depth 2 (some .int) 1 := ⟨w_92, w_1447, by decide, by decide, by decide +kernel⟩
theorem cv_X12_depth : cv_ yX12_depth := ⟨w_1445, w_1446⟩
theorem ca_X11_keepers : ca_ yX11_keepers cX11_keepers 2 (some .int) 1 := ⟨w_77, w_736, by decide, by decide, by decide +kernel⟩
theorem cv_X11_keepers : cv_ yX11_keepers := ⟨w_734, w_735⟩
theorem ca_X12_keepers : ca_ yX12_keepers cX12_keepers 4 (some .int) 1 := ⟨w_92, w_1451, by decide, by decide, by decide +kernel⟩
theorem cv_X12_keepers : cv_ yX12_keepers := ⟨w_1449, w_1450⟩
theorem ca_X11_ring : ca_ yX11_ring cX11_ring 2 (some .int) 1 := ⟨w_77, w_745, by decide, by decide, by decide +kernel⟩
theorem cv_X11_ring : cv_ yX11_ring := ⟨w_743, w_744⟩
theorem ca_X12_ring : ca_ yX12_ring cX12_ring 5 (some .int) 1 := ⟨w_92, w_1455, by decide, by decide, by decide +kernel⟩
theorem cv_X12_ring : cv_ yX12_ring := ⟨w_1453, w_1454⟩
theorem ca_X11_wouldFree : ca_ yX11_wouldFree cX11_wouldFree 1 (some .int) 0 := ⟨w_77, w_754, by decide, by decide, by decide +kernel⟩
theorem cv_X11_wouldFree : cv_ yX11_wouldFree := ⟨w_752, w_753⟩
theorem ca_X12_wouldFree : ca_ yX12_wouldFree cX12_wouldFree 1 (some .int) 0 := ⟨w_92, w_1459, by decide, by decide, by decide +kernel⟩
theorem cv_X12_wouldFree : cv_ yX12_wouldFree := ⟨w_1457, w_1458⟩
theorem ca_X11_ranked : ca_ yX11_ranked cX11_ranked 2 (some .int) 1 := ⟨w_77, w_762, by decide, by decide, by decide +kernel⟩
theorem cv_X11_ranked : cv_ yX11_ranked := ⟨w_760, w_761⟩
theorem ca_X12_ranked : ca_ yX12_ranked cX12_ranked 5 (some .int) 1 := ⟨w_92, w_1467, by decide, by decide, by decide +kernel⟩
theorem cv_X12_ranked : cv_ yX12_ranked := ⟨w_1465, w_1466⟩
theorem ca_X11_append : ca_ yX11_append cX11_append 2 (some .int) 1 := ⟨w_77, w_780, by decide, by decide, by decide +kernel⟩
theorem cv_X11_append : cv_ yX11_append := ⟨w_778, w_779⟩
theorem ca_X12_append : ca_ yX12_append cX12_append 2 (some .int) 1 := ⟨w_92, w_1475, by decide, by decide, by decide +kernel⟩
theorem cv_X12_append : cv_ yX12_append := ⟨w_1473, w_1474⟩
theorem ca_X11_run : ca_ yX11_run cX11_run 3 (some .int) 0 := ⟨w_77, w_886, by decide, by decide, by decide +kernel⟩
theorem cv_X11_run : cv_ yX11_run := ⟨w_884, w_885⟩
theorem ca_X12_run : ca_ yX12_run cX12_run 3 (some .int) 0 := ⟨w_92, w_1479, by decide, by decide, by decide +kernel⟩
theorem cv_X12_run : cv_ yX12_run := ⟨w_1477, w_1478⟩
theorem ca_X11_tell : ca_ yX11_tell cX11_tell 2 (some .int) 1 := ⟨w_77, w_1007, by decide, by decide, by decide +kernel⟩
theorem cv_X11_tell : cv_ yX11_tell := ⟨w_1005, w_1006⟩
theorem ca_X12_tell : ca_ yX12_tell cX12_tell 3 (some .int) 1 := ⟨w_92, w_1532, by decide, by decide, by decide +kernel⟩
theorem cv_X12_tell : cv_ yX12_tell := ⟨w_1530, w_1531⟩
theorem ca_X11_tellHeap : ca_ yX11_tellHeap cX11_tellHeap 1 (some .int) 0 := ⟨w_77, w_1062, by decide, by decide, by decide +kernel⟩
theorem cv_X11_tellHeap : cv_ yX11_tellHeap := ⟨w_1060, w_1061⟩
theorem ca_X12_tellHeap : ca_ yX12_tellHeap cX12_tellHeap 2 (some .int) 0 := ⟨w_92, w_1544, by decide, by decide, by decide +kernel⟩
theorem cv_X12_tellHeap : cv_ yX12_tellHeap := ⟨w_1542, w_1543⟩
theorem ca_X11_character : ca_ yX11_character cX11_character 2 (some .int) 1 := ⟨w_77, w_1073, by decide, by decide, by decide +kernel⟩
theorem cv_X11_character : cv_ yX11_character := ⟨w_1071, w_1072⟩
theorem ca_X12_character : ca_ yX12_character cX12_character 2 (some .int) 1 := ⟨w_92, w_1548, by decide, by decide, by decide +kernel⟩
theorem cv_X12_character : cv_ yX12_character := ⟨w_1546, w_1547⟩
theorem ca_X11_reason : ca_ yX11_reason cX11_reason 2 (some .int) 1 := ⟨w_77, w_1082, by decide, by decide, by decide +kernel⟩
theorem cv_X11_reason : cv_ yX11_reason := ⟨w_1080, w_1081⟩
theorem ca_X12_reason : ca_ yX12_reason cX12_reason 2 (some .int) 1 := ⟨w_92, w_1552, by decide, by decide, by decide +kernel⟩
theorem cv_X12_reason : cv_ yX12_reason := ⟨w_1550, w_1551⟩
theorem ca_X11_account : ca_ yX11_account cX11_account 2 (some .int) 1 := ⟨w_77, w_1086, by decide, by decide, by decide +kernel⟩
theorem cv_X11_account : cv_ yX11_account := ⟨w_1084, w_1085⟩
theorem ca_X12_account : ca_ yX12_account cX12_account 2 (some .int) 1 := ⟨w_92, w_1556, by decide, by decide, by decide +kernel⟩
theorem cv_X12_account : cv_ yX12_account := ⟨w_1554, w_1555⟩
theorem ca_X11_isBalanced : ca_ yX11_isBalanced cX11_isBalanced 1 (some .int) 0 := ⟨w_77, w_1107, by decide, by decide, by decide +kernel⟩
theorem cv_X11_isBalanced : cv_ yX11_isBalanced := ⟨w_1105, w_1106⟩
theorem ca_X12_isBalanced : ca_ yX12_isBalanced cX12_isBalanced 3 (some .int) 0 := ⟨w_92, w_1572, by decide, by decide, by decide +kernel⟩
theorem cv_X12_isBalanced : cv_ yX12_isBalanced := ⟨w_1570, w_1571⟩
theorem ca_X11_meanHeld : ca_ yX11_meanHeld cX11_meanHeld 2 (some .double) 0 := ⟨w_77, w_1124, by decide, by decide, by decide +kernel⟩
theorem cv_X11_meanHeld : cv_ yX11_meanHeld := ⟨w_1122, w_1123⟩
theorem ca_X12_meanHeld : ca_ yX12_meanHeld cX12_meanHeld 4 (some .double) 0 := ⟨w_92, w_1584, by decide, by decide, by decide +kernel⟩
theorem cv_X12_meanHeld : cv_ yX12_meanHeld := ⟨w_1582, w_1583⟩
theorem ca_X11_liveShare : ca_ yX11_liveShare cX11_liveShare 2 (some .float) 0 := ⟨w_77, w_1133, by decide, by decide, by decide +kernel⟩
theorem cv_X11_liveShare : cv_ yX11_liveShare := ⟨w_1131, w_1132⟩
theorem ca_X12_liveShare : ca_ yX12_liveShare cX12_liveShare 5 (some .float) 0 := ⟨w_92, w_1588, by decide, by decide, by decide +kernel⟩
theorem cv_X12_liveShare : cv_ yX12_liveShare := ⟨w_1586, w_1587⟩
theorem ca_X11_undo : ca_ yX11_undo cX11_undo 1 (some .int) 0 := ⟨w_77, w_1143, by decide, by decide, by decide +kernel⟩
theorem cv_X11_undo : cv_ yX11_undo := ⟨w_1141, w_1142⟩
theorem ca_X12_undo : ca_ yX12_undo cX12_undo 2 (some .int) 0 := ⟨w_92, w_1592, by decide, by decide, by decide +kernel⟩
theorem cv_X12_undo : cv_ yX12_undo := ⟨w_1590, w_1591⟩
theorem ca_X11_save : ca_ yX11_save cX11_save 1 (some .int) 0 := ⟨w_77, w_1152, by decide, by decide, by decide +kernel⟩
theorem cv_X11_save : cv_ yX11_save := ⟨w_1150, w_1151⟩
theorem ca_X12_save : ca_ yX12_save cX12_save 2 (some .int) 0 := ⟨w_92, w_1596, by decide, by decide, by decide +kernel⟩
theorem cv_X12_save : cv_ yX12_save := ⟨w_1594, w_1595⟩
theorem ca_X11_restore : ca_ yX11_restore cX11_restore 1 (some .int) 0 := ⟨w_77, w_1161, by decide, by decide, by decide +kernel⟩
theorem cv_X11_restore : cv_ yX11_restore := ⟨w_1159, w_1160⟩
theorem ca_X12_restore : ca_ yX12_restore cX12_restore 2 (some .int) 0 := ⟨w_92, w_1600, by decide, by decide, by decide +kernel⟩
theorem cv_X12_restore : cv_ yX12_restore := ⟨w_1598, w_1599⟩
def pf_urn (RR : Nat → mu_T → mu_T → Prop) : Prop := ∀ (t : Nat) (μ ν : mu_T) (a1 : Int), t < 512 → RR t μ ν → rg_ a1 → (a1 = 0 ∨ a1 = 1) → ∃ (r : Int) (μ1 ν1 : mu_T), f_X11_urn μ a1 = some (r, μ1) ∧ f_X12_urn ν a1 = some (r, ν1) ∧ RR (t + 1) μ1 ν1
def pf_tie (RR : Nat → mu_T → mu_T → Prop) : Prop := ∀ (t : Nat) (μ ν : mu_T) (a1 a2 a3 : Int), t < 512 → RR t μ ν → rg_ a1 → rg_ a2 → rg_ a3 → ∃ (r : Int) (μ1 ν1 : mu_T), f_X11_tie μ a1 a2 a3 = some (r, μ1) ∧ f_X12_tie ν a1 a2 a3 = some (r, ν1) ∧ RR (t + 1) μ1 ν1
def pf_untie (RR : Nat → mu_T → mu_T → Prop) : Prop := ∀ (t : Nat) (μ ν : mu_T) (a1 a2 : Int), t < 512 → RR t μ ν → rg_ a1 → rg_ a2 → ∃ (r : Int) (μ1 ν1 : mu_T), f_X11_untie μ a1 a2 = some (r, μ1) ∧ f_X12_untie ν a1 a2 = some (r, ν1) ∧ RR (t + 1) μ1 ν1
def pf_weak (RR : Nat → mu_T → mu_T → Prop) : Prop := ∀ (t : Nat) (μ ν : mu_T) (a1 a2 : Int), t < 512 → RR t μ ν → rg_ a1 → rg_ a2 → ∃ (r : Int) (μ1 ν1 : mu_T), f_X11_weak μ a1 a2 = some (r, μ1) ∧ f_X12_weak ν a1 a2 = some (r, ν1) ∧ RR (t + 1) μ1 ν1
def pf_unweak (RR : Nat → mu_T → mu_T → Prop) : Prop := ∀ (t : Nat) (μ ν : mu_T) (a1 : Int), t < 512 → RR t μ ν → rg_ a1 → ∃ (r : Int) (μ1 ν1 : mu_T), f_X11_unweak μ a1 = some (r, μ1) ∧ f_X12_unweak ν a1 = some (r, ν1) ∧ RR (t + 1) μ1 ν1
def pf_name (RR : Nat → mu_T → mu_T → Prop) : Prop := ∀ (t : Nat) (μ ν : mu_T) (a1 a2 : Int), t < 512 → RR t μ ν → rg_ a1 → rg_ a2 → ∃ (r : Int) (μ1 ν1 : mu_T), f_X11_name μ a1 a2 = some (r, μ1) ∧ f_X12_name ν a1 a2 = some (r, ν1) ∧ RR (t + 1) μ1 ν1
def pf_drop (RR : Nat → mu_T → mu_T → Prop) : Prop := ∀ (t : Nat) (μ ν : mu_T) (a1 : Int), t < 512 → RR t μ ν → rg_ a1 → ∃ (r : Int) (μ1 ν1 : mu_T), f_X11_drop μ a1 = some (r, μ1) ∧ f_X12_drop ν a1 = some (r, ν1) ∧ RR (t + 1) μ1 ν1
def pf_urnOf (RR : Nat → mu_T → mu_T → Prop) : Prop := ∀ (t : Nat) (μ ν : mu_T) (a1 a2 : Int), t < 512 → RR t μ ν → rg_ a1 → rg_ a2 → ∃ (r : Int), f_X11_urnOf μ a1 a2 = some r ∧ f_X12_urnOf ν a1 a2 = some r ∧ RR (t + 1) μ ν
def pf_threadOf (RR : Nat → mu_T → mu_T → Prop) : Prop := ∀ (t : Nat) (μ ν : mu_T) (a1 a2 : Int), t < 512 → RR t μ ν → rg_ a1 → rg_ a2 → ∃ (r : Int), f_X11_threadOf μ a1 a2 = some r ∧ f_X12_threadOf ν a1 a2 = some r ∧ RR (t + 1) μ ν
def pf_named (RR : Nat → mu_T → mu_T → Prop) : Prop := ∀ (t : Nat) (μ ν : mu_T) (a1 : Int), t < 512 → RR t μ ν → rg_ a1 → ∃ (r : Int), f_X11_named μ a1 = some r ∧ f_X12_named ν a1 = some r ∧ RR (t + 1) μ ν
def pf_begin (RR : Nat → mu_T → mu_T → Prop) : Prop := ∀ (t : Nat) (μ ν : mu_T), t < 512 → RR t μ ν → ∃ (r : Int) (μ1 ν1 : mu_T), f_X11_begin μ = some (r, μ1) ∧ f_X12_begin ν = some (r, ν1) ∧ RR (t + 1) μ1 ν1
def pf_step (RR : Nat → mu_T → mu_T → Prop) : Prop := ∀ (t : Nat) (μ ν : mu_T) (a1 : Int), t < 512 → RR t μ ν → rg_ a1 → ∃ (r : Int) (μ1 ν1 : mu_T), f_X11_step μ a1 = some (r, μ1) ∧ f_X12_step ν a1 = some (r, ν1) ∧ RR (t + 1) μ1 ν1
def pf_round (RR : Nat → mu_T → mu_T → Prop) : Prop := ∀ (t : Nat) (μ ν : mu_T), t < 512 → RR t μ ν → ∃ (r : Int) (μ1 ν1 : mu_T), f_X11_round μ = some (r, μ1) ∧ f_X12_round ν = some (r, ν1) ∧ RR (t + 1) μ1 ν1
def pf_rite (RR : Nat → mu_T → mu_T → Prop) : Prop := ∀ (t : Nat) (μ ν : mu_T), t < 512 → RR t μ ν → ∃ (r : Int) (μ1 ν1 : mu_T), f_X11_rite μ = some (r, μ1) ∧ f_X12_rite ν = some (r, ν1) ∧ RR (t + 1) μ1 ν1
def pf_due (RR : Nat → mu_T → mu_T → Prop) : Prop := ∀ (t : Nat) (μ ν : mu_T) (a1 : Int), t < 512 → RR t μ ν → rg_ a1 → ∃ (r : Int), f_X11_due μ a1 = some r ∧ f_X12_due ν a1 = some r ∧ RR (t + 1) μ ν
def pf_grey (RR : Nat → mu_T → mu_T → Prop) : Prop := ∀ (t : Nat) (μ ν : mu_T) (a1 : Int), t < 512 → RR t μ ν → rg_ a1 → ∃ (r : Int), f_X11_grey μ a1 = some r ∧ f_X12_grey ν a1 = some r ∧ RR (t + 1) μ ν
def pf_freed (RR : Nat → mu_T → mu_T → Prop) : Prop := ∀ (t : Nat) (μ ν : mu_T) (a1 : Int), t < 512 → RR t μ ν → rg_ a1 → ∃ (r : Int), f_X11_freed μ a1 = some r ∧ f_X12_freed ν a1 = some r ∧ RR (t + 1) μ ν
def pf_live (RR : Nat → mu_T → mu_T → Prop) : Prop := ∀ (t : Nat) (μ ν : mu_T), t < 512 → RR t μ ν → ∃ (r : Int) (ν1 : mu_T), f_X11_live μ = some r ∧ f_X12_live ν = some (r, ν1) ∧ RR (t + 1) μ ν1
def pf_liveAgain (RR : Nat → mu_T → mu_T → Prop) : Prop := ∀ (t : Nat) (μ ν : mu_T), t < 512 → RR t μ ν → ∃ (r : Int) (ν1 : mu_T), f_X11_liveAgain μ = some r ∧ f_X12_liveAgain ν = some (r, ν1) ∧ RR (t + 1) μ ν1
def pf_depth (RR : Nat → mu_T → mu_T → Prop) : Prop := ∀ (t : Nat) (μ ν : mu_T) (a1 : Int), t < 512 → RR t μ ν → rg_ a1 → ∃ (r : Int) (ν1 : mu_T), f_X11_depth μ a1 = some r ∧ f_X12_depth ν a1 = some (r, ν1) ∧ RR (t + 1) μ ν1
def pf_keepers (RR : Nat → mu_T → mu_T → Prop) : Prop := ∀ (t : Nat) (μ ν : mu_T) (a1 : Int), t < 512 → RR t μ ν → rg_ a1 → ∃ (r : Int) (ν1 : mu_T), f_X11_keepers μ a1 = some r ∧ f_X12_keepers ν a1 = some (r, ν1) ∧ RR (t + 1) μ ν1
def pf_ring (RR : Nat → mu_T → mu_T → Prop) : Prop := ∀ (t : Nat) (μ ν : mu_T) (a1 : Int), t < 512 → RR t μ ν → rg_ a1 → ∃ (r : Int) (ν1 : mu_T), f_X11_ring μ a1 = some r ∧ f_X12_ring ν a1 = some (r, ν1) ∧ RR (t + 1) μ ν1
def pf_wouldFree (RR : Nat → mu_T → mu_T → Prop) : Prop := ∀ (t : Nat) (μ ν : mu_T), t < 512 → RR t μ ν → ∃ (r : Int) (ν1 : mu_T), f_X11_wouldFree μ = some r ∧ f_X12_wouldFree ν = some (r, ν1) ∧ RR (t + 1) μ ν1
def pf_ranked (RR : Nat → mu_T → mu_T → Prop) : Prop := ∀ (t : Nat) (μ ν : mu_T) (a1 : Int), t < 512 → RR t μ ν → rg_ a1 → ∃ (r : Int) (μ1 : mu_T), f_X11_ranked μ a1 = some (r, μ1) ∧ f_X12_ranked ν a1 = some r ∧ RR (t + 1) μ1 ν
def pf_append (RR : Nat → mu_T → mu_T → Prop) : Prop := ∀ (t : Nat) (μ ν : mu_T) (a1 : Int), t < 512 → RR t μ ν → rg_ a1 → ∃ (r : Int) (μ1 ν1 : mu_T), f_X11_appendg μ a1 = some (r, μ1) ∧ f_X12_append ν a1 = some (r, ν1) ∧ RR (t + 1) μ1 ν1
def pf_run (RR : Nat → mu_T → mu_T → Prop) : Prop := ∀ (t : Nat) (μ ν : mu_T), t < 512 → RR t μ ν → ∃ (r : Int) (μ1 ν1 : mu_T), f_X11_run μ = some (r, μ1) ∧ f_X12_run ν = some (r, ν1) ∧ RR (t + 1) μ1 ν1
def pf_tell (RR : Nat → mu_T → mu_T → Prop) : Prop := ∀ (t : Nat) (μ ν : mu_T) (a1 : Int), t < 512 → RR t μ ν → rg_ a1 → ∃ (r : Int) (μ1 ν1 : mu_T), f_X11_tellg μ a1 = some (r, μ1) ∧ f_X12_tell ν a1 = some (r, ν1) ∧ RR (t + 1) μ1 ν1
def pf_tellHeap (RR : Nat → mu_T → mu_T → Prop) : Prop := ∀ (t : Nat) (μ ν : mu_T), t < 512 → RR t μ ν → ∃ (r : Int) (μ1 ν1 : mu_T), f_X11_tellHeapg μ = some (r, μ1) ∧ f_X12_tellHeap ν = some (r, ν1) ∧ RR (t + 1) μ1 ν1
def pf_character (RR : Nat → mu_T → mu_T → Prop) : Prop := ∀ (t : Nat) (μ ν : mu_T) (a1 : Int), t < 512 → RR t μ ν → rg_ a1 → ∃ (r : Int), f_X11_character μ a1 = some r ∧ f_X12_character ν a1 = some r ∧ RR (t + 1) μ ν
def pf_reason (RR : Nat → mu_T → mu_T → Prop) : Prop := ∀ (t : Nat) (μ ν : mu_T) (a1 : Int), t < 512 → RR t μ ν → rg_ a1 → (a1 = 0 ∨ a1 = 1) → ∃ (r : Int), f_X11_reason μ a1 = some r ∧ f_X12_reason ν a1 = some r ∧ RR (t + 1) μ ν
def pf_account (RR : Nat → mu_T → mu_T → Prop) : Prop := ∀ (t : Nat) (μ ν : mu_T) (a1 : Int), t < 512 → RR t μ ν → rg_ a1 → ∃ (r : Int), f_X11_account μ a1 = some r ∧ f_X12_account ν a1 = some r ∧ RR (t + 1) μ ν
def pf_isBalanced (RR : Nat → mu_T → mu_T → Prop) : Prop := ∀ (t : Nat) (μ ν : mu_T), t < 512 → RR t μ ν → ∃ (r : Int), f_X11_isBalanced μ = some r ∧ f_X12_isBalanced ν = some r ∧ RR (t + 1) μ ν
def pf_meanHeld (RR : Nat → mu_T → mu_T → Prop) : Prop := ∀ (t : Nat) (μ ν : mu_T), t < 512 → RR t μ ν → ∃ (d : UInt64), f_X11_meanHeld μ = some d ∧ f_X12_meanHeld ν = some d ∧ RR (t + 1) μ ν ∧ Op.cmpValue (FP.dcmp d d) .l = iI 0
def pf_liveShare (RR : Nat → mu_T → mu_T → Prop) : Prop := ∀ (t : Nat) (μ ν : mu_T), t < 512 → RR t μ ν → ∃ (d : UInt32) (ν1 : mu_T), f_X11_liveShare μ = some d ∧ f_X12_liveShare ν = some (d, ν1) ∧ RR (t + 1) μ ν1 ∧ vf_n64 (FP.f2d d) ∧ Op.cmpValue (FP.dcmp (FP.f2d d) (FP.f2d d)) .l = iI 0
def pf_undo (RR : Nat → mu_T → mu_T → Prop) : Prop := ∀ (t : Nat) (μ ν : mu_T), t < 512 → RR t μ ν → ∃ (r : Int) (μ1 ν1 : mu_T), f_X11_undo μ = some (r, μ1) ∧ f_X12_undo ν = some (r, ν1) ∧ RR (t + 1) μ1 ν1
def pf_save (RR : Nat → mu_T → mu_T → Prop) : Prop := ∀ (t : Nat) (μ ν : mu_T), t < 512 → RR t μ ν → ∃ (r : Int) (μ1 ν1 : mu_T), f_X11_save μ = some (r, μ1) ∧ f_X12_save ν = some (r, ν1) ∧ RR (t + 1) μ1 ν1
def pf_restore (RR : Nat → mu_T → mu_T → Prop) : Prop := ∀ (t : Nat) (μ ν : mu_T), t < 512 → RR t μ ν → ∃ (r : Int) (μ1 ν1 : mu_T), f_X11_restore μ = some (r, μ1) ∧ f_X12_restore ν = some (r, ν1) ∧ RR (t + 1) μ1 ν1
theorem dL_law_0 : decode cL_law 0 = .ok (.new 7, 3) := by decide +kernel
theorem dL_law_3 : decode cL_law 3 = .ok (.dup, 1) := by decide +kernel
theorem dL_law_4 : decode cL_law 4 = .ok (.invokespecial 9, 3) := by decide +kernel
theorem dL_law_7 : decode cL_law 7 = .ok (.astore_n 1, 1) := by decide +kernel
theorem dL_law_8 : decode cL_law 8 = .ok (.new 10, 3) := by decide +kernel
theorem dL_law_11 : decode cL_law 11 = .ok (.dup, 1) := by decide +kernel
theorem dL_law_12 : decode cL_law 12 = .ok (.invokespecial 12, 3) := by decide +kernel
theorem dL_law_15 : decode cL_law 15 = .ok (.astore_n 2, 1) := by decide +kernel
theorem dL_law_16 : decode cL_law 16 = .ok (.iconst 0, 1) := by decide +kernel
theorem dL_law_17 : decode cL_law 17 = .ok (.istore_n 3, 1) := by decide +kernel
theorem dL_law_18 : decode cL_law 18 = .ok (.iload_n 3, 1) := by decide +kernel
theorem dL_law_19 : decode cL_law 19 = .ok (.aload_n 0, 1) := by decide +kernel
theorem dL_law_20 : decode cL_law 20 = .ok (.arraylength, 1) := by decide +kernel
theorem dL_law_21 : decode cL_law 21 = .ok (.iconst 4, 1) := by decide +kernel
theorem dL_law_22 : decode cL_law 22 = .ok (.isub, 1) := by decide +kernel
theorem dL_law_23 : decode cL_law 23 = .ok (.if_icmp .gt 1050, 3) := by decide +kernel
theorem dL_law_26 : decode cL_law 26 = .ok (.aload_n 0, 1) := by decide +kernel
theorem dL_law_27 : decode cL_law 27 = .ok (.iload_n 3, 1) := by decide +kernel
theorem dL_law_28 : decode cL_law 28 = .ok (.iaload, 1) := by decide +kernel
theorem dL_law_29 : decode cL_law 29 = .ok (.bipush 63, 2) := by decide +kernel
theorem dL_law_31 : decode cL_law 31 = .ok (.iand, 1) := by decide +kernel
theorem dL_law_32 : decode cL_law 32 = .ok (.tableswitch 1035 0 36 #[164, 203, 246, 279, 312, 335, 368, 391, 424, 457, 480, 493, 516, 529, 542, 565, 588, 611, 624, 637, 660, 683, 706, 719, 742, 765, 778, 801, 814, 837, 876, 899, 912, 953, 996, 1009, 1022], 164) := by decide +kernel
theorem dL_law_196 : decode cL_law 196 = .ok (.aload_n 1, 1) := by decide +kernel
theorem dL_law_197 : decode cL_law 197 = .ok (.aload_n 0, 1) := by decide +kernel
theorem dL_law_198 : decode cL_law 198 = .ok (.iload_n 3, 1) := by decide +kernel
theorem dL_law_199 : decode cL_law 199 = .ok (.iconst 1, 1) := by decide +kernel
theorem dL_law_200 : decode cL_law 200 = .ok (.iadd, 1) := by decide +kernel
theorem dL_law_201 : decode cL_law 201 = .ok (.iaload, 1) := by decide +kernel
theorem dL_law_202 : decode cL_law 202 = .ok (.ifCond .eq 7, 3) := by decide +kernel
theorem dL_law_205 : decode cL_law 205 = .ok (.iconst 1, 1) := by decide +kernel
theorem dL_law_206 : decode cL_law 206 = .ok (.goto 4, 3) := by decide +kernel
theorem dL_law_209 : decode cL_law 209 = .ok (.iconst 0, 1) := by decide +kernel
theorem dL_law_210 : decode cL_law 210 = .ok (.invokevirtual 13, 3) := by decide +kernel
theorem dL_law_213 : decode cL_law 213 = .ok (.aload_n 2, 1) := by decide +kernel
theorem dL_law_214 : decode cL_law 214 = .ok (.aload_n 0, 1) := by decide +kernel
theorem dL_law_215 : decode cL_law 215 = .ok (.iload_n 3, 1) := by decide +kernel
theorem dL_law_216 : decode cL_law 216 = .ok (.iconst 1, 1) := by decide +kernel
theorem dL_law_217 : decode cL_law 217 = .ok (.iadd, 1) := by decide +kernel
theorem dL_law_218 : decode cL_law 218 = .ok (.iaload, 1) := by decide +kernel
theorem dL_law_219 : decode cL_law 219 = .ok (.ifCond .eq 7, 3) := by decide +kernel
theorem dL_law_222 : decode cL_law 222 = .ok (.iconst 1, 1) := by decide +kernel
theorem dL_law_223 : decode cL_law 223 = .ok (.goto 4, 3) := by decide +kernel
theorem dL_law_226 : decode cL_law 226 = .ok (.iconst 0, 1) := by decide +kernel
theorem dL_law_227 : decode cL_law 227 = .ok (.invokevirtual 17, 3) := by decide +kernel
theorem dL_law_230 : decode cL_law 230 = .ok (.if_icmp .eq 837, 3) := by decide +kernel
theorem dL_law_233 : decode cL_law 233 = .ok (.iconst 0, 1) := by decide +kernel
theorem dL_law_234 : decode cL_law 234 = .ok (.ireturn, 1) := by decide +kernel
theorem dL_law_235 : decode cL_law 235 = .ok (.aload_n 1, 1) := by decide +kernel
theorem dL_law_236 : decode cL_law 236 = .ok (.aload_n 0, 1) := by decide +kernel
theorem dL_law_237 : decode cL_law 237 = .ok (.iload_n 3, 1) := by decide +kernel
theorem dL_law_238 : decode cL_law 238 = .ok (.iconst 1, 1) := by decide +kernel
theorem dL_law_239 : decode cL_law 239 = .ok (.iadd, 1) := by decide +kernel
theorem dL_law_240 : decode cL_law 240 = .ok (.iaload, 1) := by decide +kernel
theorem dL_law_241 : decode cL_law 241 = .ok (.aload_n 0, 1) := by decide +kernel
theorem dL_law_242 : decode cL_law 242 = .ok (.iload_n 3, 1) := by decide +kernel
theorem dL_law_243 : decode cL_law 243 = .ok (.iconst 2, 1) := by decide +kernel
theorem dL_law_244 : decode cL_law 244 = .ok (.iadd, 1) := by decide +kernel
theorem dL_law_245 : decode cL_law 245 = .ok (.iaload, 1) := by decide +kernel
theorem dL_law_246 : decode cL_law 246 = .ok (.aload_n 0, 1) := by decide +kernel
theorem dL_law_247 : decode cL_law 247 = .ok (.iload_n 3, 1) := by decide +kernel
theorem dL_law_248 : decode cL_law 248 = .ok (.iconst 3, 1) := by decide +kernel
theorem dL_law_249 : decode cL_law 249 = .ok (.iadd, 1) := by decide +kernel
theorem dL_law_250 : decode cL_law 250 = .ok (.iaload, 1) := by decide +kernel
theorem dL_law_251 : decode cL_law 251 = .ok (.invokevirtual 18, 3) := by decide +kernel
theorem dL_law_254 : decode cL_law 254 = .ok (.aload_n 2, 1) := by decide +kernel
theorem dL_law_255 : decode cL_law 255 = .ok (.aload_n 0, 1) := by decide +kernel
theorem dL_law_256 : decode cL_law 256 = .ok (.iload_n 3, 1) := by decide +kernel
theorem dL_law_257 : decode cL_law 257 = .ok (.iconst 1, 1) := by decide +kernel
theorem dL_law_258 : decode cL_law 258 = .ok (.iadd, 1) := by decide +kernel
theorem dL_law_259 : decode cL_law 259 = .ok (.iaload, 1) := by decide +kernel
theorem dL_law_260 : decode cL_law 260 = .ok (.aload_n 0, 1) := by decide +kernel
theorem dL_law_261 : decode cL_law 261 = .ok (.iload_n 3, 1) := by decide +kernel
theorem dL_law_262 : decode cL_law 262 = .ok (.iconst 2, 1) := by decide +kernel
theorem dL_law_263 : decode cL_law 263 = .ok (.iadd, 1) := by decide +kernel
theorem dL_law_264 : decode cL_law 264 = .ok (.iaload, 1) := by decide +kernel
theorem dL_law_265 : decode cL_law 265 = .ok (.aload_n 0, 1) := by decide +kernel
theorem dL_law_266 : decode cL_law 266 = .ok (.iload_n 3, 1) := by decide +kernel
theorem dL_law_267 : decode cL_law 267 = .ok (.iconst 3, 1) := by decide +kernel
theorem dL_law_268 : decode cL_law 268 = .ok (.iadd, 1) := by decide +kernel
theorem dL_law_269 : decode cL_law 269 = .ok (.iaload, 1) := by decide +kernel
theorem dL_law_270 : decode cL_law 270 = .ok (.invokevirtual 22, 3) := by decide +kernel
theorem dL_law_273 : decode cL_law 273 = .ok (.if_icmp .eq 794, 3) := by decide +kernel
theorem dL_law_276 : decode cL_law 276 = .ok (.iconst 0, 1) := by decide +kernel
theorem dL_law_277 : decode cL_law 277 = .ok (.ireturn, 1) := by decide +kernel
theorem dL_law_278 : decode cL_law 278 = .ok (.aload_n 1, 1) := by decide +kernel
theorem dL_law_279 : decode cL_law 279 = .ok (.aload_n 0, 1) := by decide +kernel
theorem dL_law_280 : decode cL_law 280 = .ok (.iload_n 3, 1) := by decide +kernel
theorem dL_law_281 : decode cL_law 281 = .ok (.iconst 1, 1) := by decide +kernel
theorem dL_law_282 : decode cL_law 282 = .ok (.iadd, 1) := by decide +kernel
theorem dL_law_283 : decode cL_law 283 = .ok (.iaload, 1) := by decide +kernel
theorem dL_law_284 : decode cL_law 284 = .ok (.aload_n 0, 1) := by decide +kernel
theorem dL_law_285 : decode cL_law 285 = .ok (.iload_n 3, 1) := by decide +kernel
theorem dL_law_286 : decode cL_law 286 = .ok (.iconst 2, 1) := by decide +kernel
theorem dL_law_287 : decode cL_law 287 = .ok (.iadd, 1) := by decide +kernel
theorem dL_law_288 : decode cL_law 288 = .ok (.iaload, 1) := by decide +kernel
theorem dL_law_289 : decode cL_law 289 = .ok (.invokevirtual 23, 3) := by decide +kernel
theorem dL_law_292 : decode cL_law 292 = .ok (.aload_n 2, 1) := by decide +kernel
theorem dL_law_293 : decode cL_law 293 = .ok (.aload_n 0, 1) := by decide +kernel
theorem dL_law_294 : decode cL_law 294 = .ok (.iload_n 3, 1) := by decide +kernel
theorem dL_law_295 : decode cL_law 295 = .ok (.iconst 1, 1) := by decide +kernel
theorem dL_law_296 : decode cL_law 296 = .ok (.iadd, 1) := by decide +kernel
theorem dL_law_297 : decode cL_law 297 = .ok (.iaload, 1) := by decide +kernel
theorem dL_law_298 : decode cL_law 298 = .ok (.aload_n 0, 1) := by decide +kernel
theorem dL_law_299 : decode cL_law 299 = .ok (.iload_n 3, 1) := by decide +kernel
theorem dL_law_300 : decode cL_law 300 = .ok (.iconst 2, 1) := by decide +kernel
theorem dL_law_301 : decode cL_law 301 = .ok (.iadd, 1) := by decide +kernel
theorem dL_law_302 : decode cL_law 302 = .ok (.iaload, 1) := by decide +kernel
theorem dL_law_303 : decode cL_law 303 = .ok (.invokevirtual 27, 3) := by decide +kernel
theorem dL_law_306 : decode cL_law 306 = .ok (.if_icmp .eq 761, 3) := by decide +kernel
theorem dL_law_309 : decode cL_law 309 = .ok (.iconst 0, 1) := by decide +kernel
theorem dL_law_310 : decode cL_law 310 = .ok (.ireturn, 1) := by decide +kernel
theorem dL_law_311 : decode cL_law 311 = .ok (.aload_n 1, 1) := by decide +kernel
theorem dL_law_312 : decode cL_law 312 = .ok (.aload_n 0, 1) := by decide +kernel
theorem dL_law_313 : decode cL_law 313 = .ok (.iload_n 3, 1) := by decide +kernel
theorem dL_law_314 : decode cL_law 314 = .ok (.iconst 1, 1) := by decide +kernel
theorem dL_law_315 : decode cL_law 315 = .ok (.iadd, 1) := by decide +kernel
theorem dL_law_316 : decode cL_law 316 = .ok (.iaload, 1) := by decide +kernel
theorem dL_law_317 : decode cL_law 317 = .ok (.aload_n 0, 1) := by decide +kernel
theorem dL_law_318 : decode cL_law 318 = .ok (.iload_n 3, 1) := by decide +kernel
theorem dL_law_319 : decode cL_law 319 = .ok (.iconst 2, 1) := by decide +kernel
theorem dL_law_320 : decode cL_law 320 = .ok (.iadd, 1) := by decide +kernel
theorem dL_law_321 : decode cL_law 321 = .ok (.iaload, 1) := by decide +kernel
theorem dL_law_322 : decode cL_law 322 = .ok (.invokevirtual 28, 3) := by decide +kernel
theorem dL_law_325 : decode cL_law 325 = .ok (.aload_n 2, 1) := by decide +kernel
theorem dL_law_326 : decode cL_law 326 = .ok (.aload_n 0, 1) := by decide +kernel
theorem dL_law_327 : decode cL_law 327 = .ok (.iload_n 3, 1) := by decide +kernel
theorem dL_law_328 : decode cL_law 328 = .ok (.iconst 1, 1) := by decide +kernel
theorem dL_law_329 : decode cL_law 329 = .ok (.iadd, 1) := by decide +kernel
theorem dL_law_330 : decode cL_law 330 = .ok (.iaload, 1) := by decide +kernel
theorem dL_law_331 : decode cL_law 331 = .ok (.aload_n 0, 1) := by decide +kernel
theorem dL_law_332 : decode cL_law 332 = .ok (.iload_n 3, 1) := by decide +kernel
theorem dL_law_333 : decode cL_law 333 = .ok (.iconst 2, 1) := by decide +kernel
theorem dL_law_334 : decode cL_law 334 = .ok (.iadd, 1) := by decide +kernel
theorem dL_law_335 : decode cL_law 335 = .ok (.iaload, 1) := by decide +kernel
theorem dL_law_336 : decode cL_law 336 = .ok (.invokevirtual 31, 3) := by decide +kernel
theorem dL_law_339 : decode cL_law 339 = .ok (.if_icmp .eq 728, 3) := by decide +kernel
theorem dL_law_342 : decode cL_law 342 = .ok (.iconst 0, 1) := by decide +kernel
theorem dL_law_343 : decode cL_law 343 = .ok (.ireturn, 1) := by decide +kernel
theorem dL_law_344 : decode cL_law 344 = .ok (.aload_n 1, 1) := by decide +kernel
theorem dL_law_345 : decode cL_law 345 = .ok (.aload_n 0, 1) := by decide +kernel
theorem dL_law_346 : decode cL_law 346 = .ok (.iload_n 3, 1) := by decide +kernel
theorem dL_law_347 : decode cL_law 347 = .ok (.iconst 1, 1) := by decide +kernel
theorem dL_law_348 : decode cL_law 348 = .ok (.iadd, 1) := by decide +kernel
theorem dL_law_349 : decode cL_law 349 = .ok (.iaload, 1) := by decide +kernel
theorem dL_law_350 : decode cL_law 350 = .ok (.invokevirtual 32, 3) := by decide +kernel
theorem dL_law_353 : decode cL_law 353 = .ok (.aload_n 2, 1) := by decide +kernel
theorem dL_law_354 : decode cL_law 354 = .ok (.aload_n 0, 1) := by decide +kernel
theorem dL_law_355 : decode cL_law 355 = .ok (.iload_n 3, 1) := by decide +kernel
theorem dL_law_356 : decode cL_law 356 = .ok (.iconst 1, 1) := by decide +kernel
theorem dL_law_357 : decode cL_law 357 = .ok (.iadd, 1) := by decide +kernel
theorem dL_law_358 : decode cL_law 358 = .ok (.iaload, 1) := by decide +kernel
theorem dL_law_359 : decode cL_law 359 = .ok (.invokevirtual 36, 3) := by decide +kernel
theorem dL_law_362 : decode cL_law 362 = .ok (.if_icmp .eq 705, 3) := by decide +kernel
theorem dL_law_365 : decode cL_law 365 = .ok (.iconst 0, 1) := by decide +kernel
theorem dL_law_366 : decode cL_law 366 = .ok (.ireturn, 1) := by decide +kernel
theorem dL_law_367 : decode cL_law 367 = .ok (.aload_n 1, 1) := by decide +kernel
theorem dL_law_368 : decode cL_law 368 = .ok (.aload_n 0, 1) := by decide +kernel
theorem dL_law_369 : decode cL_law 369 = .ok (.iload_n 3, 1) := by decide +kernel
theorem dL_law_370 : decode cL_law 370 = .ok (.iconst 1, 1) := by decide +kernel
theorem dL_law_371 : decode cL_law 371 = .ok (.iadd, 1) := by decide +kernel
theorem dL_law_372 : decode cL_law 372 = .ok (.iaload, 1) := by decide +kernel
theorem dL_law_373 : decode cL_law 373 = .ok (.aload_n 0, 1) := by decide +kernel
theorem dL_law_374 : decode cL_law 374 = .ok (.iload_n 3, 1) := by decide +kernel
theorem dL_law_375 : decode cL_law 375 = .ok (.iconst 2, 1) := by decide +kernel
theorem dL_law_376 : decode cL_law 376 = .ok (.iadd, 1) := by decide +kernel
theorem dL_law_377 : decode cL_law 377 = .ok (.iaload, 1) := by decide +kernel
theorem dL_law_378 : decode cL_law 378 = .ok (.invokevirtual 37, 3) := by decide +kernel
theorem dL_law_381 : decode cL_law 381 = .ok (.aload_n 2, 1) := by decide +kernel
theorem dL_law_382 : decode cL_law 382 = .ok (.aload_n 0, 1) := by decide +kernel
theorem dL_law_383 : decode cL_law 383 = .ok (.iload_n 3, 1) := by decide +kernel
theorem dL_law_384 : decode cL_law 384 = .ok (.iconst 1, 1) := by decide +kernel
theorem dL_law_385 : decode cL_law 385 = .ok (.iadd, 1) := by decide +kernel
theorem dL_law_386 : decode cL_law 386 = .ok (.iaload, 1) := by decide +kernel
theorem dL_law_387 : decode cL_law 387 = .ok (.aload_n 0, 1) := by decide +kernel
theorem dL_law_388 : decode cL_law 388 = .ok (.iload_n 3, 1) := by decide +kernel
theorem dL_law_389 : decode cL_law 389 = .ok (.iconst 2, 1) := by decide +kernel
theorem dL_law_390 : decode cL_law 390 = .ok (.iadd, 1) := by decide +kernel
theorem dL_law_391 : decode cL_law 391 = .ok (.iaload, 1) := by decide +kernel
theorem dL_law_392 : decode cL_law 392 = .ok (.invokevirtual 40, 3) := by decide +kernel
theorem dL_law_395 : decode cL_law 395 = .ok (.if_icmp .eq 672, 3) := by decide +kernel
theorem dL_law_398 : decode cL_law 398 = .ok (.iconst 0, 1) := by decide +kernel
theorem dL_law_399 : decode cL_law 399 = .ok (.ireturn, 1) := by decide +kernel
theorem dL_law_400 : decode cL_law 400 = .ok (.aload_n 1, 1) := by decide +kernel
theorem dL_law_401 : decode cL_law 401 = .ok (.aload_n 0, 1) := by decide +kernel
theorem dL_law_402 : decode cL_law 402 = .ok (.iload_n 3, 1) := by decide +kernel
theorem dL_law_403 : decode cL_law 403 = .ok (.iconst 1, 1) := by decide +kernel
theorem dL_law_404 : decode cL_law 404 = .ok (.iadd, 1) := by decide +kernel
theorem dL_law_405 : decode cL_law 405 = .ok (.iaload, 1) := by decide +kernel
theorem dL_law_406 : decode cL_law 406 = .ok (.invokevirtual 41, 3) := by decide +kernel
theorem dL_law_409 : decode cL_law 409 = .ok (.aload_n 2, 1) := by decide +kernel
theorem dL_law_410 : decode cL_law 410 = .ok (.aload_n 0, 1) := by decide +kernel
theorem dL_law_411 : decode cL_law 411 = .ok (.iload_n 3, 1) := by decide +kernel
theorem dL_law_412 : decode cL_law 412 = .ok (.iconst 1, 1) := by decide +kernel
theorem dL_law_413 : decode cL_law 413 = .ok (.iadd, 1) := by decide +kernel
theorem dL_law_414 : decode cL_law 414 = .ok (.iaload, 1) := by decide +kernel
theorem dL_law_415 : decode cL_law 415 = .ok (.invokevirtual 44, 3) := by decide +kernel
theorem dL_law_418 : decode cL_law 418 = .ok (.if_icmp .eq 649, 3) := by decide +kernel
theorem dL_law_421 : decode cL_law 421 = .ok (.iconst 0, 1) := by decide +kernel
theorem dL_law_422 : decode cL_law 422 = .ok (.ireturn, 1) := by decide +kernel
theorem dL_law_423 : decode cL_law 423 = .ok (.aload_n 1, 1) := by decide +kernel
theorem dL_law_424 : decode cL_law 424 = .ok (.aload_n 0, 1) := by decide +kernel
theorem dL_law_425 : decode cL_law 425 = .ok (.iload_n 3, 1) := by decide +kernel
theorem dL_law_426 : decode cL_law 426 = .ok (.iconst 1, 1) := by decide +kernel
theorem dL_law_427 : decode cL_law 427 = .ok (.iadd, 1) := by decide +kernel
theorem dL_law_428 : decode cL_law 428 = .ok (.iaload, 1) := by decide +kernel
theorem dL_law_429 : decode cL_law 429 = .ok (.aload_n 0, 1) := by decide +kernel
theorem dL_law_430 : decode cL_law 430 = .ok (.iload_n 3, 1) := by decide +kernel
theorem dL_law_431 : decode cL_law 431 = .ok (.iconst 2, 1) := by decide +kernel
theorem dL_law_432 : decode cL_law 432 = .ok (.iadd, 1) := by decide +kernel
theorem dL_law_433 : decode cL_law 433 = .ok (.iaload, 1) := by decide +kernel
theorem dL_law_434 : decode cL_law 434 = .ok (.invokevirtual 45, 3) := by decide +kernel
theorem dL_law_437 : decode cL_law 437 = .ok (.aload_n 2, 1) := by decide +kernel
theorem dL_law_438 : decode cL_law 438 = .ok (.aload_n 0, 1) := by decide +kernel
theorem dL_law_439 : decode cL_law 439 = .ok (.iload_n 3, 1) := by decide +kernel
theorem dL_law_440 : decode cL_law 440 = .ok (.iconst 1, 1) := by decide +kernel
theorem dL_law_441 : decode cL_law 441 = .ok (.iadd, 1) := by decide +kernel
theorem dL_law_442 : decode cL_law 442 = .ok (.iaload, 1) := by decide +kernel
theorem dL_law_443 : decode cL_law 443 = .ok (.aload_n 0, 1) := by decide +kernel
theorem dL_law_444 : decode cL_law 444 = .ok (.iload_n 3, 1) := by decide +kernel
theorem dL_law_445 : decode cL_law 445 = .ok (.iconst 2, 1) := by decide +kernel
theorem dL_law_446 : decode cL_law 446 = .ok (.iadd, 1) := by decide +kernel
theorem dL_law_447 : decode cL_law 447 = .ok (.iaload, 1) := by decide +kernel
theorem dL_law_448 : decode cL_law 448 = .ok (.invokevirtual 48, 3) := by decide +kernel
theorem dL_law_451 : decode cL_law 451 = .ok (.if_icmp .eq 616, 3) := by decide +kernel
theorem dL_law_454 : decode cL_law 454 = .ok (.iconst 0, 1) := by decide +kernel
theorem dL_law_455 : decode cL_law 455 = .ok (.ireturn, 1) := by decide +kernel
theorem dL_law_456 : decode cL_law 456 = .ok (.aload_n 1, 1) := by decide +kernel
theorem dL_law_457 : decode cL_law 457 = .ok (.aload_n 0, 1) := by decide +kernel
theorem dL_law_458 : decode cL_law 458 = .ok (.iload_n 3, 1) := by decide +kernel
theorem dL_law_459 : decode cL_law 459 = .ok (.iconst 1, 1) := by decide +kernel
theorem dL_law_460 : decode cL_law 460 = .ok (.iadd, 1) := by decide +kernel
theorem dL_law_461 : decode cL_law 461 = .ok (.iaload, 1) := by decide +kernel
theorem dL_law_462 : decode cL_law 462 = .ok (.aload_n 0, 1) := by decide +kernel
theorem dL_law_463 : decode cL_law 463 = .ok (.iload_n 3, 1) := by decide +kernel
theorem dL_law_464 : decode cL_law 464 = .ok (.iconst 2, 1) := by decide +kernel
theorem dL_law_465 : decode cL_law 465 = .ok (.iadd, 1) := by decide +kernel
theorem dL_law_466 : decode cL_law 466 = .ok (.iaload, 1) := by decide +kernel
theorem dL_law_467 : decode cL_law 467 = .ok (.invokevirtual 49, 3) := by decide +kernel
theorem dL_law_470 : decode cL_law 470 = .ok (.aload_n 2, 1) := by decide +kernel
theorem dL_law_471 : decode cL_law 471 = .ok (.aload_n 0, 1) := by decide +kernel
theorem dL_law_472 : decode cL_law 472 = .ok (.iload_n 3, 1) := by decide +kernel
theorem dL_law_473 : decode cL_law 473 = .ok (.iconst 1, 1) := by decide +kernel
theorem dL_law_474 : decode cL_law 474 = .ok (.iadd, 1) := by decide +kernel
theorem dL_law_475 : decode cL_law 475 = .ok (.iaload, 1) := by decide +kernel
theorem dL_law_476 : decode cL_law 476 = .ok (.aload_n 0, 1) := by decide +kernel
theorem dL_law_477 : decode cL_law 477 = .ok (.iload_n 3, 1) := by decide +kernel
theorem dL_law_478 : decode cL_law 478 = .ok (.iconst 2, 1) := by decide +kernel
theorem dL_law_479 : decode cL_law 479 = .ok (.iadd, 1) := by decide +kernel
theorem dL_law_480 : decode cL_law 480 = .ok (.iaload, 1) := by decide +kernel
theorem dL_law_481 : decode cL_law 481 = .ok (.invokevirtual 52, 3) := by decide +kernel
theorem dL_law_484 : decode cL_law 484 = .ok (.if_icmp .eq 583, 3) := by decide +kernel
theorem dL_law_487 : decode cL_law 487 = .ok (.iconst 0, 1) := by decide +kernel
theorem dL_law_488 : decode cL_law 488 = .ok (.ireturn, 1) := by decide +kernel
theorem dL_law_489 : decode cL_law 489 = .ok (.aload_n 1, 1) := by decide +kernel
theorem dL_law_490 : decode cL_law 490 = .ok (.aload_n 0, 1) := by decide +kernel
theorem dL_law_491 : decode cL_law 491 = .ok (.iload_n 3, 1) := by decide +kernel
theorem dL_law_492 : decode cL_law 492 = .ok (.iconst 1, 1) := by decide +kernel
theorem dL_law_493 : decode cL_law 493 = .ok (.iadd, 1) := by decide +kernel
theorem dL_law_494 : decode cL_law 494 = .ok (.iaload, 1) := by decide +kernel
theorem dL_law_495 : decode cL_law 495 = .ok (.invokevirtual 53, 3) := by decide +kernel
theorem dL_law_498 : decode cL_law 498 = .ok (.aload_n 2, 1) := by decide +kernel
theorem dL_law_499 : decode cL_law 499 = .ok (.aload_n 0, 1) := by decide +kernel
theorem dL_law_500 : decode cL_law 500 = .ok (.iload_n 3, 1) := by decide +kernel
theorem dL_law_501 : decode cL_law 501 = .ok (.iconst 1, 1) := by decide +kernel
theorem dL_law_502 : decode cL_law 502 = .ok (.iadd, 1) := by decide +kernel
theorem dL_law_503 : decode cL_law 503 = .ok (.iaload, 1) := by decide +kernel
theorem dL_law_504 : decode cL_law 504 = .ok (.invokevirtual 56, 3) := by decide +kernel
theorem dL_law_507 : decode cL_law 507 = .ok (.if_icmp .eq 560, 3) := by decide +kernel
theorem dL_law_510 : decode cL_law 510 = .ok (.iconst 0, 1) := by decide +kernel
theorem dL_law_511 : decode cL_law 511 = .ok (.ireturn, 1) := by decide +kernel
theorem dL_law_512 : decode cL_law 512 = .ok (.aload_n 1, 1) := by decide +kernel
theorem dL_law_513 : decode cL_law 513 = .ok (.invokevirtual 57, 3) := by decide +kernel
theorem dL_law_516 : decode cL_law 516 = .ok (.aload_n 2, 1) := by decide +kernel
theorem dL_law_517 : decode cL_law 517 = .ok (.invokevirtual 61, 3) := by decide +kernel
theorem dL_law_520 : decode cL_law 520 = .ok (.if_icmp .eq 547, 3) := by decide +kernel
theorem dL_law_523 : decode cL_law 523 = .ok (.iconst 0, 1) := by decide +kernel
theorem dL_law_524 : decode cL_law 524 = .ok (.ireturn, 1) := by decide +kernel
theorem dL_law_525 : decode cL_law 525 = .ok (.aload_n 1, 1) := by decide +kernel
theorem dL_law_526 : decode cL_law 526 = .ok (.aload_n 0, 1) := by decide +kernel
theorem dL_law_527 : decode cL_law 527 = .ok (.iload_n 3, 1) := by decide +kernel
theorem dL_law_528 : decode cL_law 528 = .ok (.iconst 1, 1) := by decide +kernel
theorem dL_law_529 : decode cL_law 529 = .ok (.iadd, 1) := by decide +kernel
theorem dL_law_530 : decode cL_law 530 = .ok (.iaload, 1) := by decide +kernel
theorem dL_law_531 : decode cL_law 531 = .ok (.invokevirtual 62, 3) := by decide +kernel
theorem dL_law_534 : decode cL_law 534 = .ok (.aload_n 2, 1) := by decide +kernel
theorem dL_law_535 : decode cL_law 535 = .ok (.aload_n 0, 1) := by decide +kernel
theorem dL_law_536 : decode cL_law 536 = .ok (.iload_n 3, 1) := by decide +kernel
theorem dL_law_537 : decode cL_law 537 = .ok (.iconst 1, 1) := by decide +kernel
theorem dL_law_538 : decode cL_law 538 = .ok (.iadd, 1) := by decide +kernel
theorem dL_law_539 : decode cL_law 539 = .ok (.iaload, 1) := by decide +kernel
theorem dL_law_540 : decode cL_law 540 = .ok (.invokevirtual 65, 3) := by decide +kernel
theorem dL_law_543 : decode cL_law 543 = .ok (.if_icmp .eq 524, 3) := by decide +kernel
theorem dL_law_546 : decode cL_law 546 = .ok (.iconst 0, 1) := by decide +kernel
theorem dL_law_547 : decode cL_law 547 = .ok (.ireturn, 1) := by decide +kernel
theorem dL_law_548 : decode cL_law 548 = .ok (.aload_n 1, 1) := by decide +kernel
theorem dL_law_549 : decode cL_law 549 = .ok (.invokevirtual 66, 3) := by decide +kernel
theorem dL_law_552 : decode cL_law 552 = .ok (.aload_n 2, 1) := by decide +kernel
theorem dL_law_553 : decode cL_law 553 = .ok (.invokevirtual 69, 3) := by decide +kernel
theorem dL_law_556 : decode cL_law 556 = .ok (.if_icmp .eq 511, 3) := by decide +kernel
theorem dL_law_559 : decode cL_law 559 = .ok (.iconst 0, 1) := by decide +kernel
theorem dL_law_560 : decode cL_law 560 = .ok (.ireturn, 1) := by decide +kernel
theorem dL_law_561 : decode cL_law 561 = .ok (.aload_n 1, 1) := by decide +kernel
theorem dL_law_562 : decode cL_law 562 = .ok (.invokevirtual 70, 3) := by decide +kernel
theorem dL_law_565 : decode cL_law 565 = .ok (.aload_n 2, 1) := by decide +kernel
theorem dL_law_566 : decode cL_law 566 = .ok (.invokevirtual 73, 3) := by decide +kernel
theorem dL_law_569 : decode cL_law 569 = .ok (.if_icmp .eq 498, 3) := by decide +kernel
theorem dL_law_572 : decode cL_law 572 = .ok (.iconst 0, 1) := by decide +kernel
theorem dL_law_573 : decode cL_law 573 = .ok (.ireturn, 1) := by decide +kernel
theorem dL_law_574 : decode cL_law 574 = .ok (.aload_n 1, 1) := by decide +kernel
theorem dL_law_575 : decode cL_law 575 = .ok (.aload_n 0, 1) := by decide +kernel
theorem dL_law_576 : decode cL_law 576 = .ok (.iload_n 3, 1) := by decide +kernel
theorem dL_law_577 : decode cL_law 577 = .ok (.iconst 1, 1) := by decide +kernel
theorem dL_law_578 : decode cL_law 578 = .ok (.iadd, 1) := by decide +kernel
theorem dL_law_579 : decode cL_law 579 = .ok (.iaload, 1) := by decide +kernel
theorem dL_law_580 : decode cL_law 580 = .ok (.invokevirtual 74, 3) := by decide +kernel
theorem dL_law_583 : decode cL_law 583 = .ok (.aload_n 2, 1) := by decide +kernel
theorem dL_law_584 : decode cL_law 584 = .ok (.aload_n 0, 1) := by decide +kernel
theorem dL_law_585 : decode cL_law 585 = .ok (.iload_n 3, 1) := by decide +kernel
theorem dL_law_586 : decode cL_law 586 = .ok (.iconst 1, 1) := by decide +kernel
theorem dL_law_587 : decode cL_law 587 = .ok (.iadd, 1) := by decide +kernel
theorem dL_law_588 : decode cL_law 588 = .ok (.iaload, 1) := by decide +kernel
theorem dL_law_589 : decode cL_law 589 = .ok (.invokevirtual 77, 3) := by decide +kernel
theorem dL_law_592 : decode cL_law 592 = .ok (.if_icmp .eq 475, 3) := by decide +kernel
theorem dL_law_595 : decode cL_law 595 = .ok (.iconst 0, 1) := by decide +kernel
theorem dL_law_596 : decode cL_law 596 = .ok (.ireturn, 1) := by decide +kernel
theorem dL_law_597 : decode cL_law 597 = .ok (.aload_n 1, 1) := by decide +kernel
theorem dL_law_598 : decode cL_law 598 = .ok (.aload_n 0, 1) := by decide +kernel
theorem dL_law_599 : decode cL_law 599 = .ok (.iload_n 3, 1) := by decide +kernel
theorem dL_law_600 : decode cL_law 600 = .ok (.iconst 1, 1) := by decide +kernel
theorem dL_law_601 : decode cL_law 601 = .ok (.iadd, 1) := by decide +kernel
theorem dL_law_602 : decode cL_law 602 = .ok (.iaload, 1) := by decide +kernel
theorem dL_law_603 : decode cL_law 603 = .ok (.invokevirtual 78, 3) := by decide +kernel
theorem dL_law_606 : decode cL_law 606 = .ok (.aload_n 2, 1) := by decide +kernel
theorem dL_law_607 : decode cL_law 607 = .ok (.aload_n 0, 1) := by decide +kernel
theorem dL_law_608 : decode cL_law 608 = .ok (.iload_n 3, 1) := by decide +kernel
theorem dL_law_609 : decode cL_law 609 = .ok (.iconst 1, 1) := by decide +kernel
theorem dL_law_610 : decode cL_law 610 = .ok (.iadd, 1) := by decide +kernel
theorem dL_law_611 : decode cL_law 611 = .ok (.iaload, 1) := by decide +kernel
theorem dL_law_612 : decode cL_law 612 = .ok (.invokevirtual 81, 3) := by decide +kernel
theorem dL_law_615 : decode cL_law 615 = .ok (.if_icmp .eq 452, 3) := by decide +kernel
theorem dL_law_618 : decode cL_law 618 = .ok (.iconst 0, 1) := by decide +kernel
theorem dL_law_619 : decode cL_law 619 = .ok (.ireturn, 1) := by decide +kernel
theorem dL_law_620 : decode cL_law 620 = .ok (.aload_n 1, 1) := by decide +kernel
theorem dL_law_621 : decode cL_law 621 = .ok (.aload_n 0, 1) := by decide +kernel
theorem dL_law_622 : decode cL_law 622 = .ok (.iload_n 3, 1) := by decide +kernel
theorem dL_law_623 : decode cL_law 623 = .ok (.iconst 1, 1) := by decide +kernel
theorem dL_law_624 : decode cL_law 624 = .ok (.iadd, 1) := by decide +kernel
theorem dL_law_625 : decode cL_law 625 = .ok (.iaload, 1) := by decide +kernel
theorem dL_law_626 : decode cL_law 626 = .ok (.invokevirtual 82, 3) := by decide +kernel
theorem dL_law_629 : decode cL_law 629 = .ok (.aload_n 2, 1) := by decide +kernel
theorem dL_law_630 : decode cL_law 630 = .ok (.aload_n 0, 1) := by decide +kernel
theorem dL_law_631 : decode cL_law 631 = .ok (.iload_n 3, 1) := by decide +kernel
theorem dL_law_632 : decode cL_law 632 = .ok (.iconst 1, 1) := by decide +kernel
theorem dL_law_633 : decode cL_law 633 = .ok (.iadd, 1) := by decide +kernel
theorem dL_law_634 : decode cL_law 634 = .ok (.iaload, 1) := by decide +kernel
theorem dL_law_635 : decode cL_law 635 = .ok (.invokevirtual 85, 3) := by decide +kernel
theorem dL_law_638 : decode cL_law 638 = .ok (.if_icmp .eq 429, 3) := by decide +kernel
theorem dL_law_641 : decode cL_law 641 = .ok (.iconst 0, 1) := by decide +kernel
theorem dL_law_642 : decode cL_law 642 = .ok (.ireturn, 1) := by decide +kernel
theorem dL_law_643 : decode cL_law 643 = .ok (.aload_n 1, 1) := by decide +kernel
theorem dL_law_644 : decode cL_law 644 = .ok (.invokevirtual 86, 3) := by decide +kernel
theorem dL_law_647 : decode cL_law 647 = .ok (.aload_n 2, 1) := by decide +kernel
theorem dL_law_648 : decode cL_law 648 = .ok (.invokevirtual 89, 3) := by decide +kernel
theorem dL_law_651 : decode cL_law 651 = .ok (.if_icmp .eq 416, 3) := by decide +kernel
theorem dL_law_654 : decode cL_law 654 = .ok (.iconst 0, 1) := by decide +kernel
theorem dL_law_655 : decode cL_law 655 = .ok (.ireturn, 1) := by decide +kernel
theorem dL_law_656 : decode cL_law 656 = .ok (.aload_n 1, 1) := by decide +kernel
theorem dL_law_657 : decode cL_law 657 = .ok (.invokevirtual 90, 3) := by decide +kernel
theorem dL_law_660 : decode cL_law 660 = .ok (.aload_n 2, 1) := by decide +kernel
theorem dL_law_661 : decode cL_law 661 = .ok (.invokevirtual 93, 3) := by decide +kernel
theorem dL_law_664 : decode cL_law 664 = .ok (.if_icmp .eq 403, 3) := by decide +kernel
theorem dL_law_667 : decode cL_law 667 = .ok (.iconst 0, 1) := by decide +kernel
theorem dL_law_668 : decode cL_law 668 = .ok (.ireturn, 1) := by decide +kernel
theorem dL_law_669 : decode cL_law 669 = .ok (.aload_n 1, 1) := by decide +kernel
theorem dL_law_670 : decode cL_law 670 = .ok (.aload_n 0, 1) := by decide +kernel
theorem dL_law_671 : decode cL_law 671 = .ok (.iload_n 3, 1) := by decide +kernel
theorem dL_law_672 : decode cL_law 672 = .ok (.iconst 1, 1) := by decide +kernel
theorem dL_law_673 : decode cL_law 673 = .ok (.iadd, 1) := by decide +kernel
theorem dL_law_674 : decode cL_law 674 = .ok (.iaload, 1) := by decide +kernel
theorem dL_law_675 : decode cL_law 675 = .ok (.invokevirtual 94, 3) := by decide +kernel
theorem dL_law_678 : decode cL_law 678 = .ok (.aload_n 2, 1) := by decide +kernel
theorem dL_law_679 : decode cL_law 679 = .ok (.aload_n 0, 1) := by decide +kernel
theorem dL_law_680 : decode cL_law 680 = .ok (.iload_n 3, 1) := by decide +kernel
theorem dL_law_681 : decode cL_law 681 = .ok (.iconst 1, 1) := by decide +kernel
theorem dL_law_682 : decode cL_law 682 = .ok (.iadd, 1) := by decide +kernel
theorem dL_law_683 : decode cL_law 683 = .ok (.iaload, 1) := by decide +kernel
theorem dL_law_684 : decode cL_law 684 = .ok (.invokevirtual 97, 3) := by decide +kernel
theorem dL_law_687 : decode cL_law 687 = .ok (.if_icmp .eq 380, 3) := by decide +kernel
theorem dL_law_690 : decode cL_law 690 = .ok (.iconst 0, 1) := by decide +kernel
theorem dL_law_691 : decode cL_law 691 = .ok (.ireturn, 1) := by decide +kernel
theorem dL_law_692 : decode cL_law 692 = .ok (.aload_n 1, 1) := by decide +kernel
theorem dL_law_693 : decode cL_law 693 = .ok (.aload_n 0, 1) := by decide +kernel
theorem dL_law_694 : decode cL_law 694 = .ok (.iload_n 3, 1) := by decide +kernel
theorem dL_law_695 : decode cL_law 695 = .ok (.iconst 1, 1) := by decide +kernel
theorem dL_law_696 : decode cL_law 696 = .ok (.iadd, 1) := by decide +kernel
theorem dL_law_697 : decode cL_law 697 = .ok (.iaload, 1) := by decide +kernel
theorem dL_law_698 : decode cL_law 698 = .ok (.invokevirtual 98, 3) := by decide +kernel
theorem dL_law_701 : decode cL_law 701 = .ok (.aload_n 2, 1) := by decide +kernel
theorem dL_law_702 : decode cL_law 702 = .ok (.aload_n 0, 1) := by decide +kernel
theorem dL_law_703 : decode cL_law 703 = .ok (.iload_n 3, 1) := by decide +kernel
theorem dL_law_704 : decode cL_law 704 = .ok (.iconst 1, 1) := by decide +kernel
theorem dL_law_705 : decode cL_law 705 = .ok (.iadd, 1) := by decide +kernel
theorem dL_law_706 : decode cL_law 706 = .ok (.iaload, 1) := by decide +kernel
theorem dL_law_707 : decode cL_law 707 = .ok (.invokevirtual 101, 3) := by decide +kernel
theorem dL_law_710 : decode cL_law 710 = .ok (.if_icmp .eq 357, 3) := by decide +kernel
theorem dL_law_713 : decode cL_law 713 = .ok (.iconst 0, 1) := by decide +kernel
theorem dL_law_714 : decode cL_law 714 = .ok (.ireturn, 1) := by decide +kernel
theorem dL_law_715 : decode cL_law 715 = .ok (.aload_n 1, 1) := by decide +kernel
theorem dL_law_716 : decode cL_law 716 = .ok (.aload_n 0, 1) := by decide +kernel
theorem dL_law_717 : decode cL_law 717 = .ok (.iload_n 3, 1) := by decide +kernel
theorem dL_law_718 : decode cL_law 718 = .ok (.iconst 1, 1) := by decide +kernel
theorem dL_law_719 : decode cL_law 719 = .ok (.iadd, 1) := by decide +kernel
theorem dL_law_720 : decode cL_law 720 = .ok (.iaload, 1) := by decide +kernel
theorem dL_law_721 : decode cL_law 721 = .ok (.invokevirtual 102, 3) := by decide +kernel
theorem dL_law_724 : decode cL_law 724 = .ok (.aload_n 2, 1) := by decide +kernel
theorem dL_law_725 : decode cL_law 725 = .ok (.aload_n 0, 1) := by decide +kernel
theorem dL_law_726 : decode cL_law 726 = .ok (.iload_n 3, 1) := by decide +kernel
theorem dL_law_727 : decode cL_law 727 = .ok (.iconst 1, 1) := by decide +kernel
theorem dL_law_728 : decode cL_law 728 = .ok (.iadd, 1) := by decide +kernel
theorem dL_law_729 : decode cL_law 729 = .ok (.iaload, 1) := by decide +kernel
theorem dL_law_730 : decode cL_law 730 = .ok (.invokevirtual 105, 3) := by decide +kernel
theorem dL_law_733 : decode cL_law 733 = .ok (.if_icmp .eq 334, 3) := by decide +kernel
theorem dL_law_736 : decode cL_law 736 = .ok (.iconst 0, 1) := by decide +kernel
theorem dL_law_737 : decode cL_law 737 = .ok (.ireturn, 1) := by decide +kernel
theorem dL_law_738 : decode cL_law 738 = .ok (.aload_n 1, 1) := by decide +kernel
theorem dL_law_739 : decode cL_law 739 = .ok (.invokevirtual 106, 3) := by decide +kernel
theorem dL_law_742 : decode cL_law 742 = .ok (.aload_n 2, 1) := by decide +kernel
theorem dL_law_743 : decode cL_law 743 = .ok (.invokevirtual 109, 3) := by decide +kernel
theorem dL_law_746 : decode cL_law 746 = .ok (.if_icmp .eq 321, 3) := by decide +kernel
theorem dL_law_749 : decode cL_law 749 = .ok (.iconst 0, 1) := by decide +kernel
theorem dL_law_750 : decode cL_law 750 = .ok (.ireturn, 1) := by decide +kernel
theorem dL_law_751 : decode cL_law 751 = .ok (.aload_n 1, 1) := by decide +kernel
theorem dL_law_752 : decode cL_law 752 = .ok (.aload_n 0, 1) := by decide +kernel
theorem dL_law_753 : decode cL_law 753 = .ok (.iload_n 3, 1) := by decide +kernel
theorem dL_law_754 : decode cL_law 754 = .ok (.iconst 1, 1) := by decide +kernel
theorem dL_law_755 : decode cL_law 755 = .ok (.iadd, 1) := by decide +kernel
theorem dL_law_756 : decode cL_law 756 = .ok (.iaload, 1) := by decide +kernel
theorem dL_law_757 : decode cL_law 757 = .ok (.invokevirtual 110, 3) := by decide +kernel
theorem dL_law_760 : decode cL_law 760 = .ok (.aload_n 2, 1) := by decide +kernel
theorem dL_law_761 : decode cL_law 761 = .ok (.aload_n 0, 1) := by decide +kernel
theorem dL_law_762 : decode cL_law 762 = .ok (.iload_n 3, 1) := by decide +kernel
theorem dL_law_763 : decode cL_law 763 = .ok (.iconst 1, 1) := by decide +kernel
theorem dL_law_764 : decode cL_law 764 = .ok (.iadd, 1) := by decide +kernel
theorem dL_law_765 : decode cL_law 765 = .ok (.iaload, 1) := by decide +kernel
theorem dL_law_766 : decode cL_law 766 = .ok (.invokevirtual 113, 3) := by decide +kernel
theorem dL_law_769 : decode cL_law 769 = .ok (.if_icmp .eq 298, 3) := by decide +kernel
theorem dL_law_772 : decode cL_law 772 = .ok (.iconst 0, 1) := by decide +kernel
theorem dL_law_773 : decode cL_law 773 = .ok (.ireturn, 1) := by decide +kernel
theorem dL_law_774 : decode cL_law 774 = .ok (.aload_n 1, 1) := by decide +kernel
theorem dL_law_775 : decode cL_law 775 = .ok (.aload_n 0, 1) := by decide +kernel
theorem dL_law_776 : decode cL_law 776 = .ok (.iload_n 3, 1) := by decide +kernel
theorem dL_law_777 : decode cL_law 777 = .ok (.iconst 1, 1) := by decide +kernel
theorem dL_law_778 : decode cL_law 778 = .ok (.iadd, 1) := by decide +kernel
theorem dL_law_779 : decode cL_law 779 = .ok (.iaload, 1) := by decide +kernel
theorem dL_law_780 : decode cL_law 780 = .ok (.invokevirtual 114, 3) := by decide +kernel
theorem dL_law_783 : decode cL_law 783 = .ok (.aload_n 2, 1) := by decide +kernel
theorem dL_law_784 : decode cL_law 784 = .ok (.aload_n 0, 1) := by decide +kernel
theorem dL_law_785 : decode cL_law 785 = .ok (.iload_n 3, 1) := by decide +kernel
theorem dL_law_786 : decode cL_law 786 = .ok (.iconst 1, 1) := by decide +kernel
theorem dL_law_787 : decode cL_law 787 = .ok (.iadd, 1) := by decide +kernel
theorem dL_law_788 : decode cL_law 788 = .ok (.iaload, 1) := by decide +kernel
theorem dL_law_789 : decode cL_law 789 = .ok (.invokevirtual 117, 3) := by decide +kernel
theorem dL_law_792 : decode cL_law 792 = .ok (.if_icmp .eq 275, 3) := by decide +kernel
theorem dL_law_795 : decode cL_law 795 = .ok (.iconst 0, 1) := by decide +kernel
theorem dL_law_796 : decode cL_law 796 = .ok (.ireturn, 1) := by decide +kernel
theorem dL_law_797 : decode cL_law 797 = .ok (.aload_n 1, 1) := by decide +kernel
theorem dL_law_798 : decode cL_law 798 = .ok (.invokevirtual 118, 3) := by decide +kernel
theorem dL_law_801 : decode cL_law 801 = .ok (.aload_n 2, 1) := by decide +kernel
theorem dL_law_802 : decode cL_law 802 = .ok (.invokevirtual 121, 3) := by decide +kernel
theorem dL_law_805 : decode cL_law 805 = .ok (.if_icmp .eq 262, 3) := by decide +kernel
theorem dL_law_808 : decode cL_law 808 = .ok (.iconst 0, 1) := by decide +kernel
theorem dL_law_809 : decode cL_law 809 = .ok (.ireturn, 1) := by decide +kernel
theorem dL_law_810 : decode cL_law 810 = .ok (.aload_n 1, 1) := by decide +kernel
theorem dL_law_811 : decode cL_law 811 = .ok (.aload_n 0, 1) := by decide +kernel
theorem dL_law_812 : decode cL_law 812 = .ok (.iload_n 3, 1) := by decide +kernel
theorem dL_law_813 : decode cL_law 813 = .ok (.iconst 1, 1) := by decide +kernel
theorem dL_law_814 : decode cL_law 814 = .ok (.iadd, 1) := by decide +kernel
theorem dL_law_815 : decode cL_law 815 = .ok (.iaload, 1) := by decide +kernel
theorem dL_law_816 : decode cL_law 816 = .ok (.invokevirtual 122, 3) := by decide +kernel
theorem dL_law_819 : decode cL_law 819 = .ok (.aload_n 2, 1) := by decide +kernel
theorem dL_law_820 : decode cL_law 820 = .ok (.aload_n 0, 1) := by decide +kernel
theorem dL_law_821 : decode cL_law 821 = .ok (.iload_n 3, 1) := by decide +kernel
theorem dL_law_822 : decode cL_law 822 = .ok (.iconst 1, 1) := by decide +kernel
theorem dL_law_823 : decode cL_law 823 = .ok (.iadd, 1) := by decide +kernel
theorem dL_law_824 : decode cL_law 824 = .ok (.iaload, 1) := by decide +kernel
theorem dL_law_825 : decode cL_law 825 = .ok (.invokevirtual 125, 3) := by decide +kernel
theorem dL_law_828 : decode cL_law 828 = .ok (.if_icmp .eq 239, 3) := by decide +kernel
theorem dL_law_831 : decode cL_law 831 = .ok (.iconst 0, 1) := by decide +kernel
theorem dL_law_832 : decode cL_law 832 = .ok (.ireturn, 1) := by decide +kernel
theorem dL_law_833 : decode cL_law 833 = .ok (.aload_n 1, 1) := by decide +kernel
theorem dL_law_834 : decode cL_law 834 = .ok (.invokevirtual 126, 3) := by decide +kernel
theorem dL_law_837 : decode cL_law 837 = .ok (.aload_n 2, 1) := by decide +kernel
theorem dL_law_838 : decode cL_law 838 = .ok (.invokevirtual 129, 3) := by decide +kernel
theorem dL_law_841 : decode cL_law 841 = .ok (.if_icmp .eq 226, 3) := by decide +kernel
theorem dL_law_844 : decode cL_law 844 = .ok (.iconst 0, 1) := by decide +kernel
theorem dL_law_845 : decode cL_law 845 = .ok (.ireturn, 1) := by decide +kernel
theorem dL_law_846 : decode cL_law 846 = .ok (.aload_n 1, 1) := by decide +kernel
theorem dL_law_847 : decode cL_law 847 = .ok (.aload_n 0, 1) := by decide +kernel
theorem dL_law_848 : decode cL_law 848 = .ok (.iload_n 3, 1) := by decide +kernel
theorem dL_law_849 : decode cL_law 849 = .ok (.iconst 1, 1) := by decide +kernel
theorem dL_law_850 : decode cL_law 850 = .ok (.iadd, 1) := by decide +kernel
theorem dL_law_851 : decode cL_law 851 = .ok (.iaload, 1) := by decide +kernel
theorem dL_law_852 : decode cL_law 852 = .ok (.invokevirtual 130, 3) := by decide +kernel
theorem dL_law_855 : decode cL_law 855 = .ok (.aload_n 2, 1) := by decide +kernel
theorem dL_law_856 : decode cL_law 856 = .ok (.aload_n 0, 1) := by decide +kernel
theorem dL_law_857 : decode cL_law 857 = .ok (.iload_n 3, 1) := by decide +kernel
theorem dL_law_858 : decode cL_law 858 = .ok (.iconst 1, 1) := by decide +kernel
theorem dL_law_859 : decode cL_law 859 = .ok (.iadd, 1) := by decide +kernel
theorem dL_law_860 : decode cL_law 860 = .ok (.iaload, 1) := by decide +kernel
theorem dL_law_861 : decode cL_law 861 = .ok (.invokevirtual 133, 3) := by decide +kernel
theorem dL_law_864 : decode cL_law 864 = .ok (.if_icmp .eq 203, 3) := by decide +kernel
theorem dL_law_867 : decode cL_law 867 = .ok (.iconst 0, 1) := by decide +kernel
theorem dL_law_868 : decode cL_law 868 = .ok (.ireturn, 1) := by decide +kernel
theorem dL_law_869 : decode cL_law 869 = .ok (.aload_n 1, 1) := by decide +kernel
theorem dL_law_870 : decode cL_law 870 = .ok (.aload_n 0, 1) := by decide +kernel
theorem dL_law_871 : decode cL_law 871 = .ok (.iload_n 3, 1) := by decide +kernel
theorem dL_law_872 : decode cL_law 872 = .ok (.iconst 1, 1) := by decide +kernel
theorem dL_law_873 : decode cL_law 873 = .ok (.iadd, 1) := by decide +kernel
theorem dL_law_874 : decode cL_law 874 = .ok (.iaload, 1) := by decide +kernel
theorem dL_law_875 : decode cL_law 875 = .ok (.ifCond .eq 7, 3) := by decide +kernel
theorem dL_law_878 : decode cL_law 878 = .ok (.iconst 1, 1) := by decide +kernel
theorem dL_law_879 : decode cL_law 879 = .ok (.goto 4, 3) := by decide +kernel
theorem dL_law_882 : decode cL_law 882 = .ok (.iconst 0, 1) := by decide +kernel
theorem dL_law_883 : decode cL_law 883 = .ok (.invokevirtual 134, 3) := by decide +kernel
theorem dL_law_886 : decode cL_law 886 = .ok (.aload_n 2, 1) := by decide +kernel
theorem dL_law_887 : decode cL_law 887 = .ok (.aload_n 0, 1) := by decide +kernel
theorem dL_law_888 : decode cL_law 888 = .ok (.iload_n 3, 1) := by decide +kernel
theorem dL_law_889 : decode cL_law 889 = .ok (.iconst 1, 1) := by decide +kernel
theorem dL_law_890 : decode cL_law 890 = .ok (.iadd, 1) := by decide +kernel
theorem dL_law_891 : decode cL_law 891 = .ok (.iaload, 1) := by decide +kernel
theorem dL_law_892 : decode cL_law 892 = .ok (.ifCond .eq 7, 3) := by decide +kernel
theorem dL_law_895 : decode cL_law 895 = .ok (.iconst 1, 1) := by decide +kernel
theorem dL_law_896 : decode cL_law 896 = .ok (.goto 4, 3) := by decide +kernel
theorem dL_law_899 : decode cL_law 899 = .ok (.iconst 0, 1) := by decide +kernel
theorem dL_law_900 : decode cL_law 900 = .ok (.invokevirtual 137, 3) := by decide +kernel
theorem dL_law_903 : decode cL_law 903 = .ok (.if_icmp .eq 164, 3) := by decide +kernel
theorem dL_law_906 : decode cL_law 906 = .ok (.iconst 0, 1) := by decide +kernel
theorem dL_law_907 : decode cL_law 907 = .ok (.ireturn, 1) := by decide +kernel
theorem dL_law_908 : decode cL_law 908 = .ok (.aload_n 1, 1) := by decide +kernel
theorem dL_law_909 : decode cL_law 909 = .ok (.aload_n 0, 1) := by decide +kernel
theorem dL_law_910 : decode cL_law 910 = .ok (.iload_n 3, 1) := by decide +kernel
theorem dL_law_911 : decode cL_law 911 = .ok (.iconst 1, 1) := by decide +kernel
theorem dL_law_912 : decode cL_law 912 = .ok (.iadd, 1) := by decide +kernel
theorem dL_law_913 : decode cL_law 913 = .ok (.iaload, 1) := by decide +kernel
theorem dL_law_914 : decode cL_law 914 = .ok (.invokevirtual 138, 3) := by decide +kernel
theorem dL_law_917 : decode cL_law 917 = .ok (.aload_n 2, 1) := by decide +kernel
theorem dL_law_918 : decode cL_law 918 = .ok (.aload_n 0, 1) := by decide +kernel
theorem dL_law_919 : decode cL_law 919 = .ok (.iload_n 3, 1) := by decide +kernel
theorem dL_law_920 : decode cL_law 920 = .ok (.iconst 1, 1) := by decide +kernel
theorem dL_law_921 : decode cL_law 921 = .ok (.iadd, 1) := by decide +kernel
theorem dL_law_922 : decode cL_law 922 = .ok (.iaload, 1) := by decide +kernel
theorem dL_law_923 : decode cL_law 923 = .ok (.invokevirtual 141, 3) := by decide +kernel
theorem dL_law_926 : decode cL_law 926 = .ok (.if_icmp .eq 141, 3) := by decide +kernel
theorem dL_law_929 : decode cL_law 929 = .ok (.iconst 0, 1) := by decide +kernel
theorem dL_law_930 : decode cL_law 930 = .ok (.ireturn, 1) := by decide +kernel
theorem dL_law_931 : decode cL_law 931 = .ok (.aload_n 1, 1) := by decide +kernel
theorem dL_law_932 : decode cL_law 932 = .ok (.invokevirtual 142, 3) := by decide +kernel
theorem dL_law_935 : decode cL_law 935 = .ok (.aload_n 2, 1) := by decide +kernel
theorem dL_law_936 : decode cL_law 936 = .ok (.invokevirtual 145, 3) := by decide +kernel
theorem dL_law_939 : decode cL_law 939 = .ok (.if_icmp .eq 128, 3) := by decide +kernel
theorem dL_law_942 : decode cL_law 942 = .ok (.iconst 0, 1) := by decide +kernel
theorem dL_law_943 : decode cL_law 943 = .ok (.ireturn, 1) := by decide +kernel
theorem dL_law_944 : decode cL_law 944 = .ok (.aload_n 1, 1) := by decide +kernel
theorem dL_law_945 : decode cL_law 945 = .ok (.invokevirtual 146, 3) := by decide +kernel
theorem dL_law_948 : decode cL_law 948 = .ok (.dstore 4, 2) := by decide +kernel
theorem dL_law_950 : decode cL_law 950 = .ok (.aload_n 2, 1) := by decide +kernel
theorem dL_law_951 : decode cL_law 951 = .ok (.invokevirtual 150, 3) := by decide +kernel
theorem dL_law_954 : decode cL_law 954 = .ok (.dstore 6, 2) := by decide +kernel
theorem dL_law_956 : decode cL_law 956 = .ok (.dload 4, 2) := by decide +kernel
theorem dL_law_958 : decode cL_law 958 = .ok (.dload 6, 2) := by decide +kernel
theorem dL_law_960 : decode cL_law 960 = .ok (.dcmp .l, 1) := by decide +kernel
theorem dL_law_961 : decode cL_law 961 = .ok (.ifCond .eq 21, 3) := by decide +kernel
theorem dL_law_964 : decode cL_law 964 = .ok (.dload 4, 2) := by decide +kernel
theorem dL_law_966 : decode cL_law 966 = .ok (.dload 4, 2) := by decide +kernel
theorem dL_law_968 : decode cL_law 968 = .ok (.dcmp .l, 1) := by decide +kernel
theorem dL_law_969 : decode cL_law 969 = .ok (.ifCond .eq 11, 3) := by decide +kernel
theorem dL_law_972 : decode cL_law 972 = .ok (.dload 6, 2) := by decide +kernel
theorem dL_law_974 : decode cL_law 974 = .ok (.dload 6, 2) := by decide +kernel
theorem dL_law_976 : decode cL_law 976 = .ok (.dcmp .l, 1) := by decide +kernel
theorem dL_law_977 : decode cL_law 977 = .ok (.ifCond .ne 5, 3) := by decide +kernel
theorem dL_law_980 : decode cL_law 980 = .ok (.iconst 0, 1) := by decide +kernel
theorem dL_law_981 : decode cL_law 981 = .ok (.ireturn, 1) := by decide +kernel
theorem dL_law_982 : decode cL_law 982 = .ok (.goto 85, 3) := by decide +kernel
theorem dL_law_985 : decode cL_law 985 = .ok (.aload_n 1, 1) := by decide +kernel
theorem dL_law_986 : decode cL_law 986 = .ok (.invokevirtual 151, 3) := by decide +kernel
theorem dL_law_989 : decode cL_law 989 = .ok (.f2d, 1) := by decide +kernel
theorem dL_law_990 : decode cL_law 990 = .ok (.dstore 4, 2) := by decide +kernel
theorem dL_law_992 : decode cL_law 992 = .ok (.aload_n 2, 1) := by decide +kernel
theorem dL_law_993 : decode cL_law 993 = .ok (.invokevirtual 155, 3) := by decide +kernel
theorem dL_law_996 : decode cL_law 996 = .ok (.f2d, 1) := by decide +kernel
theorem dL_law_997 : decode cL_law 997 = .ok (.dstore 6, 2) := by decide +kernel
theorem dL_law_999 : decode cL_law 999 = .ok (.dload 4, 2) := by decide +kernel
theorem dL_law_1001 : decode cL_law 1001 = .ok (.dload 6, 2) := by decide +kernel
theorem dL_law_1003 : decode cL_law 1003 = .ok (.dcmp .l, 1) := by decide +kernel
theorem dL_law_1004 : decode cL_law 1004 = .ok (.ifCond .eq 21, 3) := by decide +kernel
theorem dL_law_1007 : decode cL_law 1007 = .ok (.dload 4, 2) := by decide +kernel
theorem dL_law_1009 : decode cL_law 1009 = .ok (.dload 4, 2) := by decide +kernel
theorem dL_law_1011 : decode cL_law 1011 = .ok (.dcmp .l, 1) := by decide +kernel
theorem dL_law_1012 : decode cL_law 1012 = .ok (.ifCond .eq 11, 3) := by decide +kernel
theorem dL_law_1015 : decode cL_law 1015 = .ok (.dload 6, 2) := by decide +kernel
theorem dL_law_1017 : decode cL_law 1017 = .ok (.dload 6, 2) := by decide +kernel
theorem dL_law_1019 : decode cL_law 1019 = .ok (.dcmp .l, 1) := by decide +kernel
theorem dL_law_1020 : decode cL_law 1020 = .ok (.ifCond .ne 5, 3) := by decide +kernel
theorem dL_law_1023 : decode cL_law 1023 = .ok (.iconst 0, 1) := by decide +kernel
theorem dL_law_1024 : decode cL_law 1024 = .ok (.ireturn, 1) := by decide +kernel
theorem dL_law_1025 : decode cL_law 1025 = .ok (.goto 42, 3) := by decide +kernel
theorem dL_law_1028 : decode cL_law 1028 = .ok (.aload_n 1, 1) := by decide +kernel
theorem dL_law_1029 : decode cL_law 1029 = .ok (.invokevirtual 156, 3) := by decide +kernel
theorem dL_law_1032 : decode cL_law 1032 = .ok (.aload_n 2, 1) := by decide +kernel
theorem dL_law_1033 : decode cL_law 1033 = .ok (.invokevirtual 159, 3) := by decide +kernel
theorem dL_law_1036 : decode cL_law 1036 = .ok (.if_icmp .eq 31, 3) := by decide +kernel
theorem dL_law_1039 : decode cL_law 1039 = .ok (.iconst 0, 1) := by decide +kernel
theorem dL_law_1040 : decode cL_law 1040 = .ok (.ireturn, 1) := by decide +kernel
theorem dL_law_1041 : decode cL_law 1041 = .ok (.aload_n 1, 1) := by decide +kernel
theorem dL_law_1042 : decode cL_law 1042 = .ok (.invokevirtual 160, 3) := by decide +kernel
theorem dL_law_1045 : decode cL_law 1045 = .ok (.aload_n 2, 1) := by decide +kernel
theorem dL_law_1046 : decode cL_law 1046 = .ok (.invokevirtual 163, 3) := by decide +kernel
theorem dL_law_1049 : decode cL_law 1049 = .ok (.if_icmp .eq 18, 3) := by decide +kernel
theorem dL_law_1052 : decode cL_law 1052 = .ok (.iconst 0, 1) := by decide +kernel
theorem dL_law_1053 : decode cL_law 1053 = .ok (.ireturn, 1) := by decide +kernel
theorem dL_law_1054 : decode cL_law 1054 = .ok (.aload_n 1, 1) := by decide +kernel
theorem dL_law_1055 : decode cL_law 1055 = .ok (.invokevirtual 164, 3) := by decide +kernel
theorem dL_law_1058 : decode cL_law 1058 = .ok (.aload_n 2, 1) := by decide +kernel
theorem dL_law_1059 : decode cL_law 1059 = .ok (.invokevirtual 167, 3) := by decide +kernel
theorem dL_law_1062 : decode cL_law 1062 = .ok (.if_icmp .eq 5, 3) := by decide +kernel
theorem dL_law_1065 : decode cL_law 1065 = .ok (.iconst 0, 1) := by decide +kernel
theorem dL_law_1066 : decode cL_law 1066 = .ok (.ireturn, 1) := by decide +kernel
theorem dL_law_1067 : decode cL_law 1067 = .ok (.iinc 3 4, 3) := by decide +kernel
theorem dL_law_1070 : decode cL_law 1070 = .ok (.goto (-1052), 3) := by decide +kernel
theorem dL_law_1073 : decode cL_law 1073 = .ok (.iconst 1, 1) := by decide +kernel
theorem dL_law_1074 : decode cL_law 1074 = .ok (.ireturn, 1) := by decide +kernel
