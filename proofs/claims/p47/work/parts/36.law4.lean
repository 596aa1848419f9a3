def dt220_L_law : List (Nat × Instr × Nat) := [(558, (.if_icmp .ne 21, 3)), (561, (.aload_n 1, 1)), (562, (.iconst 2, 1)), (563, (.iconst 0, 1)), (564, (.iconst 0, 1)), (565, (.iconst 0, 1)), (566, (.invokestatic 161, 3)), (569, (.aload_n 2, 1)), (570, (.iconst 0, 1)), (571, (.iaload, 1)), (572, (.if_icmp .ne 7, 3)), (575, (.iconst 1, 1)), (576, (.goto 4, 3)), (465, (.istore 33, 2)), (467, (.iload 24, 2)), (469, (.bipush 24, 2)), (471, (.idiv, 1)), (472, (.bipush 9, 2)), (474, (.irem, 1)), (475, (.iconst 1, 1)), (476, (.iadd, 1)), (477, (.istore 34, 2)), (479, (.lload 30, 2)), (481, (.iload 32, 2)), (483, (.invokestatic 29, 3)), (486, (.iload 34, 2)), (488, (.iadd, 1)), (489, (.bipush 10, 2)), (491, (.irem, 1)), (492, (.istore 35, 2)), (494, (.lload 30, 2)), (496, (.iload 33, 2)), (498, (.invokestatic 29, 3)), (501, (.iload 34, 2)), (503, (.iadd, 1)), (504, (.bipush 10, 2)), (506, (.irem, 1)), (507, (.istore 36, 2)), (509, (.aload_n 1, 1)), (510, (.iconst 0, 1)), (511, (.iload 28, 2)), (513, (.iload 29, 2)), (515, (.iconst 0, 1)), (516, (.invokestatic 161, 3)), (519, (.ifCond .ne 60, 3)), (522, (.aload_n 1, 1)), (523, (.iconst 1, 1)), (524, (.iload 32, 2)), (526, (.iload 35, 2)), (528, (.iconst 0, 1)), (529, (.invokestatic 161, 3)), (532, (.iconst 1, 1)), (533, (.if_icmp .ne 46, 3)), (536, (.aload_n 1, 1)), (537, (.iconst 1, 1)), (538, (.iload 33, 2)), (540, (.iload 36, 2)), (542, (.iconst 0, 1)), (543, (.invokestatic 161, 3)), (546, (.iload 32, 2))]
theorem dt220_L_law_ok : ∀ q ∈ dt220_L_law, decode cL_law q.1 = .ok q.2 := by decide +kernel
theorem dL_law_558 : decode cL_law 558 = .ok (.if_icmp .ne 21, 3) := g_dec dt220_L_law_ok (k := 0) rfl
theorem dL_law_561 : decode cL_law 561 = .ok (.aload_n 1, 1) := g_dec dt220_L_law_ok (k := 1) rfl
theorem dL_law_562 : decode cL_law 562 = .ok (.iconst 2, 1) := g_dec dt220_L_law_ok (k := 2) rfl
theorem dL_law_563 : decode cL_law 563 = .ok (.iconst 0, 1) := g_dec dt220_L_law_ok (k := 3) rfl
theorem dL_law_564 : decode cL_law 564 = .ok (.iconst 0, 1) := g_dec dt220_L_law_ok (k := 4) rfl
theorem dL_law_565 : decode cL_law 565 = .ok (.iconst 0, 1) := g_dec dt220_L_law_ok (k := 5) rfl
theorem dL_law_566 : decode cL_law 566 = .ok (.invokestatic 161, 3) := g_dec dt220_L_law_ok (k := 6) rfl
theorem dL_law_569 : decode cL_law 569 = .ok (.aload_n 2, 1) := g_dec dt220_L_law_ok (k := 7) rfl
theorem dL_law_570 : decode cL_law 570 = .ok (.iconst 0, 1) := g_dec dt220_L_law_ok (k := 8) rfl
theorem dL_law_571 : decode cL_law 571 = .ok (.iaload, 1) := g_dec dt220_L_law_ok (k := 9) rfl
theorem dL_law_572 : decode cL_law 572 = .ok (.if_icmp .ne 7, 3) := g_dec dt220_L_law_ok (k := 10) rfl
theorem dL_law_575 : decode cL_law 575 = .ok (.iconst 1, 1) := g_dec dt220_L_law_ok (k := 11) rfl
theorem dL_law_576 : decode cL_law 576 = .ok (.goto 4, 3) := g_dec dt220_L_law_ok (k := 12) rfl
theorem dL_law_465 : decode cL_law 465 = .ok (.istore 33, 2) := g_dec dt220_L_law_ok (k := 13) rfl
theorem dL_law_467 : decode cL_law 467 = .ok (.iload 24, 2) := g_dec dt220_L_law_ok (k := 14) rfl
theorem dL_law_469 : decode cL_law 469 = .ok (.bipush 24, 2) := g_dec dt220_L_law_ok (k := 15) rfl
theorem dL_law_471 : decode cL_law 471 = .ok (.idiv, 1) := g_dec dt220_L_law_ok (k := 16) rfl
theorem dL_law_472 : decode cL_law 472 = .ok (.bipush 9, 2) := g_dec dt220_L_law_ok (k := 17) rfl
theorem dL_law_474 : decode cL_law 474 = .ok (.irem, 1) := g_dec dt220_L_law_ok (k := 18) rfl
theorem dL_law_475 : decode cL_law 475 = .ok (.iconst 1, 1) := g_dec dt220_L_law_ok (k := 19) rfl
theorem dL_law_476 : decode cL_law 476 = .ok (.iadd, 1) := g_dec dt220_L_law_ok (k := 20) rfl
theorem dL_law_477 : decode cL_law 477 = .ok (.istore 34, 2) := g_dec dt220_L_law_ok (k := 21) rfl
theorem dL_law_479 : decode cL_law 479 = .ok (.lload 30, 2) := g_dec dt220_L_law_ok (k := 22) rfl
theorem dL_law_481 : decode cL_law 481 = .ok (.iload 32, 2) := g_dec dt220_L_law_ok (k := 23) rfl
theorem dL_law_483 : decode cL_law 483 = .ok (.invokestatic 29, 3) := g_dec dt220_L_law_ok (k := 24) rfl
theorem dL_law_486 : decode cL_law 486 = .ok (.iload 34, 2) := g_dec dt220_L_law_ok (k := 25) rfl
theorem dL_law_488 : decode cL_law 488 = .ok (.iadd, 1) := g_dec dt220_L_law_ok (k := 26) rfl
theorem dL_law_489 : decode cL_law 489 = .ok (.bipush 10, 2) := g_dec dt220_L_law_ok (k := 27) rfl
theorem dL_law_491 : decode cL_law 491 = .ok (.irem, 1) := g_dec dt220_L_law_ok (k := 28) rfl
theorem dL_law_492 : decode cL_law 492 = .ok (.istore 35, 2) := g_dec dt220_L_law_ok (k := 29) rfl
theorem dL_law_494 : decode cL_law 494 = .ok (.lload 30, 2) := g_dec dt220_L_law_ok (k := 30) rfl
theorem dL_law_496 : decode cL_law 496 = .ok (.iload 33, 2) := g_dec dt220_L_law_ok (k := 31) rfl
theorem dL_law_498 : decode cL_law 498 = .ok (.invokestatic 29, 3) := g_dec dt220_L_law_ok (k := 32) rfl
theorem dL_law_501 : decode cL_law 501 = .ok (.iload 34, 2) := g_dec dt220_L_law_ok (k := 33) rfl
theorem dL_law_503 : decode cL_law 503 = .ok (.iadd, 1) := g_dec dt220_L_law_ok (k := 34) rfl
theorem dL_law_504 : decode cL_law 504 = .ok (.bipush 10, 2) := g_dec dt220_L_law_ok (k := 35) rfl
theorem dL_law_506 : decode cL_law 506 = .ok (.irem, 1) := g_dec dt220_L_law_ok (k := 36) rfl
theorem dL_law_507 : decode cL_law 507 = .ok (.istore 36, 2) := g_dec dt220_L_law_ok (k := 37) rfl
theorem dL_law_509 : decode cL_law 509 = .ok (.aload_n 1, 1) := g_dec dt220_L_law_ok (k := 38) rfl
theorem dL_law_510 : decode cL_law 510 = .ok (.iconst 0, 1) := g_dec dt220_L_law_ok (k := 39) rfl
theorem dL_law_511 : decode cL_law 511 = .ok (.iload 28, 2) := g_dec dt220_L_law_ok (k := 40) rfl
theorem dL_law_513 : decode cL_law 513 = .ok (.iload 29, 2) := g_dec dt220_L_law_ok (k := 41) rfl
theorem dL_law_515 : decode cL_law 515 = .ok (.iconst 0, 1) := g_dec dt220_L_law_ok (k := 42) rfl
theorem dL_law_516 : decode cL_law 516 = .ok (.invokestatic 161, 3) := g_dec dt220_L_law_ok (k := 43) rfl
theorem dL_law_519 : decode cL_law 519 = .ok (.ifCond .ne 60, 3) := g_dec dt220_L_law_ok (k := 44) rfl
theorem dL_law_522 : decode cL_law 522 = .ok (.aload_n 1, 1) := g_dec dt220_L_law_ok (k := 45) rfl
theorem dL_law_523 : decode cL_law 523 = .ok (.iconst 1, 1) := g_dec dt220_L_law_ok (k := 46) rfl
theorem dL_law_524 : decode cL_law 524 = .ok (.iload 32, 2) := g_dec dt220_L_law_ok (k := 47) rfl
theorem dL_law_526 : decode cL_law 526 = .ok (.iload 35, 2) := g_dec dt220_L_law_ok (k := 48) rfl
theorem dL_law_528 : decode cL_law 528 = .ok (.iconst 0, 1) := g_dec dt220_L_law_ok (k := 49) rfl
theorem dL_law_529 : decode cL_law 529 = .ok (.invokestatic 161, 3) := g_dec dt220_L_law_ok (k := 50) rfl
theorem dL_law_532 : decode cL_law 532 = .ok (.iconst 1, 1) := g_dec dt220_L_law_ok (k := 51) rfl
theorem dL_law_533 : decode cL_law 533 = .ok (.if_icmp .ne 46, 3) := g_dec dt220_L_law_ok (k := 52) rfl
theorem dL_law_536 : decode cL_law 536 = .ok (.aload_n 1, 1) := g_dec dt220_L_law_ok (k := 53) rfl
theorem dL_law_537 : decode cL_law 537 = .ok (.iconst 1, 1) := g_dec dt220_L_law_ok (k := 54) rfl
theorem dL_law_538 : decode cL_law 538 = .ok (.iload 33, 2) := g_dec dt220_L_law_ok (k := 55) rfl
theorem dL_law_540 : decode cL_law 540 = .ok (.iload 36, 2) := g_dec dt220_L_law_ok (k := 56) rfl
theorem dL_law_542 : decode cL_law 542 = .ok (.iconst 0, 1) := g_dec dt220_L_law_ok (k := 57) rfl
theorem dL_law_543 : decode cL_law 543 = .ok (.invokestatic 161, 3) := g_dec dt220_L_law_ok (k := 58) rfl
theorem dL_law_546 : decode cL_law 546 = .ok (.iload 32, 2) := g_dec dt220_L_law_ok (k := 59) rfl
def dt221_L_law : List (Nat × Instr × Nat) := [(548, (.iload 33, 2)), (550, (.if_icmp .ne 7, 3)), (557, (.iconst 2, 1)), (553, (.iconst 1, 1)), (554, (.goto 4, 3)), (424, (.lstore 30, 2)), (426, (.iload 24, 2)), (428, (.bipush 24, 2)), (430, (.idiv, 1)), (431, (.iconst 4, 1)), (432, (.irem, 1)), (433, (.istore 32, 2)), (435, (.iload 24, 2)), (437, (.bipush 96, 2)), (439, (.idiv, 1)), (440, (.iconst 3, 1)), (441, (.irem, 1)), (442, (.ifCond .ne 8, 3)), (450, (.iload 32, 2)), (452, (.iconst 1, 1)), (453, (.iadd, 1)), (454, (.iload 24, 2)), (456, (.sipush 288, 3)), (459, (.idiv, 1)), (460, (.iconst 3, 1)), (461, (.irem, 1)), (462, (.iadd, 1)), (463, (.iconst 4, 1)), (464, (.irem, 1)), (445, (.iload 32, 2)), (447, (.goto 18, 3)), (398, (.istore 29, 2)), (400, (.iload 29, 2)), (402, (.ifCond .ge 8, 3)), (410, (.aload 9, 2)), (412, (.aload 11, 2)), (414, (.iload 29, 2)), (416, (.aload 10, 2)), (418, (.iload 29, 2)), (420, (.laload, 1)), (421, (.invokestatic 49, 3)), (405, (.lload 25, 2)), (407, (.goto 17, 3)), (397, (.iconst (-1), 1)), (343, (.istore 27, 2)), (345, (.iload 23, 2)), (347, (.bipush 8, 2)), (349, (.if_icmp .ge 455, 3)), (352, (.aload_n 2, 1)), (353, (.iconst 0, 1)), (354, (.iaload, 1)), (355, (.bipush 20, 2)), (357, (.if_icmp .ge 447, 3)), (360, (.iload 24, 2)), (362, (.bipush 8, 2)), (364, (.irem, 1)), (365, (.istore 28, 2)), (367, (.iload 24, 2)), (369, (.bipush 8, 2)), (371, (.idiv, 1))]
theorem dt221_L_law_ok : ∀ q ∈ dt221_L_law, decode cL_law q.1 = .ok q.2 := by decide +kernel
theorem dL_law_548 : decode cL_law 548 = .ok (.iload 33, 2) := g_dec dt221_L_law_ok (k := 0) rfl
theorem dL_law_550 : decode cL_law 550 = .ok (.if_icmp .ne 7, 3) := g_dec dt221_L_law_ok (k := 1) rfl
theorem dL_law_557 : decode cL_law 557 = .ok (.iconst 2, 1) := g_dec dt221_L_law_ok (k := 2) rfl
theorem dL_law_553 : decode cL_law 553 = .ok (.iconst 1, 1) := g_dec dt221_L_law_ok (k := 3) rfl
theorem dL_law_554 : decode cL_law 554 = .ok (.goto 4, 3) := g_dec dt221_L_law_ok (k := 4) rfl
theorem dL_law_424 : decode cL_law 424 = .ok (.lstore 30, 2) := g_dec dt221_L_law_ok (k := 5) rfl
theorem dL_law_426 : decode cL_law 426 = .ok (.iload 24, 2) := g_dec dt221_L_law_ok (k := 6) rfl
theorem dL_law_428 : decode cL_law 428 = .ok (.bipush 24, 2) := g_dec dt221_L_law_ok (k := 7) rfl
theorem dL_law_430 : decode cL_law 430 = .ok (.idiv, 1) := g_dec dt221_L_law_ok (k := 8) rfl
theorem dL_law_431 : decode cL_law 431 = .ok (.iconst 4, 1) := g_dec dt221_L_law_ok (k := 9) rfl
theorem dL_law_432 : decode cL_law 432 = .ok (.irem, 1) := g_dec dt221_L_law_ok (k := 10) rfl
theorem dL_law_433 : decode cL_law 433 = .ok (.istore 32, 2) := g_dec dt221_L_law_ok (k := 11) rfl
theorem dL_law_435 : decode cL_law 435 = .ok (.iload 24, 2) := g_dec dt221_L_law_ok (k := 12) rfl
theorem dL_law_437 : decode cL_law 437 = .ok (.bipush 96, 2) := g_dec dt221_L_law_ok (k := 13) rfl
theorem dL_law_439 : decode cL_law 439 = .ok (.idiv, 1) := g_dec dt221_L_law_ok (k := 14) rfl
theorem dL_law_440 : decode cL_law 440 = .ok (.iconst 3, 1) := g_dec dt221_L_law_ok (k := 15) rfl
theorem dL_law_441 : decode cL_law 441 = .ok (.irem, 1) := g_dec dt221_L_law_ok (k := 16) rfl
theorem dL_law_442 : decode cL_law 442 = .ok (.ifCond .ne 8, 3) := g_dec dt221_L_law_ok (k := 17) rfl
theorem dL_law_450 : decode cL_law 450 = .ok (.iload 32, 2) := g_dec dt221_L_law_ok (k := 18) rfl
theorem dL_law_452 : decode cL_law 452 = .ok (.iconst 1, 1) := g_dec dt221_L_law_ok (k := 19) rfl
theorem dL_law_453 : decode cL_law 453 = .ok (.iadd, 1) := g_dec dt221_L_law_ok (k := 20) rfl
theorem dL_law_454 : decode cL_law 454 = .ok (.iload 24, 2) := g_dec dt221_L_law_ok (k := 21) rfl
theorem dL_law_456 : decode cL_law 456 = .ok (.sipush 288, 3) := g_dec dt221_L_law_ok (k := 22) rfl
theorem dL_law_459 : decode cL_law 459 = .ok (.idiv, 1) := g_dec dt221_L_law_ok (k := 23) rfl
theorem dL_law_460 : decode cL_law 460 = .ok (.iconst 3, 1) := g_dec dt221_L_law_ok (k := 24) rfl
theorem dL_law_461 : decode cL_law 461 = .ok (.irem, 1) := g_dec dt221_L_law_ok (k := 25) rfl
theorem dL_law_462 : decode cL_law 462 = .ok (.iadd, 1) := g_dec dt221_L_law_ok (k := 26) rfl
theorem dL_law_463 : decode cL_law 463 = .ok (.iconst 4, 1) := g_dec dt221_L_law_ok (k := 27) rfl
theorem dL_law_464 : decode cL_law 464 = .ok (.irem, 1) := g_dec dt221_L_law_ok (k := 28) rfl
theorem dL_law_445 : decode cL_law 445 = .ok (.iload 32, 2) := g_dec dt221_L_law_ok (k := 29) rfl
theorem dL_law_447 : decode cL_law 447 = .ok (.goto 18, 3) := g_dec dt221_L_law_ok (k := 30) rfl
theorem dL_law_398 : decode cL_law 398 = .ok (.istore 29, 2) := g_dec dt221_L_law_ok (k := 31) rfl
theorem dL_law_400 : decode cL_law 400 = .ok (.iload 29, 2) := g_dec dt221_L_law_ok (k := 32) rfl
theorem dL_law_402 : decode cL_law 402 = .ok (.ifCond .ge 8, 3) := g_dec dt221_L_law_ok (k := 33) rfl
theorem dL_law_410 : decode cL_law 410 = .ok (.aload 9, 2) := g_dec dt221_L_law_ok (k := 34) rfl
theorem dL_law_412 : decode cL_law 412 = .ok (.aload 11, 2) := g_dec dt221_L_law_ok (k := 35) rfl
theorem dL_law_414 : decode cL_law 414 = .ok (.iload 29, 2) := g_dec dt221_L_law_ok (k := 36) rfl
theorem dL_law_416 : decode cL_law 416 = .ok (.aload 10, 2) := g_dec dt221_L_law_ok (k := 37) rfl
theorem dL_law_418 : decode cL_law 418 = .ok (.iload 29, 2) := g_dec dt221_L_law_ok (k := 38) rfl
theorem dL_law_420 : decode cL_law 420 = .ok (.laload, 1) := g_dec dt221_L_law_ok (k := 39) rfl
theorem dL_law_421 : decode cL_law 421 = .ok (.invokestatic 49, 3) := g_dec dt221_L_law_ok (k := 40) rfl
theorem dL_law_405 : decode cL_law 405 = .ok (.lload 25, 2) := g_dec dt221_L_law_ok (k := 41) rfl
theorem dL_law_407 : decode cL_law 407 = .ok (.goto 17, 3) := g_dec dt221_L_law_ok (k := 42) rfl
theorem dL_law_397 : decode cL_law 397 = .ok (.iconst (-1), 1) := g_dec dt221_L_law_ok (k := 43) rfl
theorem dL_law_343 : decode cL_law 343 = .ok (.istore 27, 2) := g_dec dt221_L_law_ok (k := 44) rfl
theorem dL_law_345 : decode cL_law 345 = .ok (.iload 23, 2) := g_dec dt221_L_law_ok (k := 45) rfl
theorem dL_law_347 : decode cL_law 347 = .ok (.bipush 8, 2) := g_dec dt221_L_law_ok (k := 46) rfl
theorem dL_law_349 : decode cL_law 349 = .ok (.if_icmp .ge 455, 3) := g_dec dt221_L_law_ok (k := 47) rfl
theorem dL_law_352 : decode cL_law 352 = .ok (.aload_n 2, 1) := g_dec dt221_L_law_ok (k := 48) rfl
theorem dL_law_353 : decode cL_law 353 = .ok (.iconst 0, 1) := g_dec dt221_L_law_ok (k := 49) rfl
theorem dL_law_354 : decode cL_law 354 = .ok (.iaload, 1) := g_dec dt221_L_law_ok (k := 50) rfl
theorem dL_law_355 : decode cL_law 355 = .ok (.bipush 20, 2) := g_dec dt221_L_law_ok (k := 51) rfl
theorem dL_law_357 : decode cL_law 357 = .ok (.if_icmp .ge 447, 3) := g_dec dt221_L_law_ok (k := 52) rfl
theorem dL_law_360 : decode cL_law 360 = .ok (.iload 24, 2) := g_dec dt221_L_law_ok (k := 53) rfl
theorem dL_law_362 : decode cL_law 362 = .ok (.bipush 8, 2) := g_dec dt221_L_law_ok (k := 54) rfl
theorem dL_law_364 : decode cL_law 364 = .ok (.irem, 1) := g_dec dt221_L_law_ok (k := 55) rfl
theorem dL_law_365 : decode cL_law 365 = .ok (.istore 28, 2) := g_dec dt221_L_law_ok (k := 56) rfl
theorem dL_law_367 : decode cL_law 367 = .ok (.iload 24, 2) := g_dec dt221_L_law_ok (k := 57) rfl
theorem dL_law_369 : decode cL_law 369 = .ok (.bipush 8, 2) := g_dec dt221_L_law_ok (k := 58) rfl
theorem dL_law_371 : decode cL_law 371 = .ok (.idiv, 1) := g_dec dt221_L_law_ok (k := 59) rfl
def dt222_L_law : List (Nat × Instr × Nat) := [(372, (.iconst 3, 1)), (373, (.irem, 1)), (374, (.ifCond .ne 23, 3)), (377, (.aload_n 2, 1)), (378, (.iconst 0, 1)), (379, (.iaload, 1)), (380, (.ifCond .le 17, 3)), (383, (.aload 5, 2)), (385, (.iload 27, 2)), (387, (.iaload, 1)), (388, (.iconst 2, 1)), (389, (.if_icmp .ge 8, 3)), (392, (.iload 27, 2)), (394, (.goto 4, 3)), (308, (.istore 23, 2)), (310, (.iload 22, 2)), (312, (.bipush 26, 2)), (314, (.idiv, 1)), (315, (.istore 24, 2)), (317, (.aload 12, 2)), (319, (.aload_n 2, 1)), (320, (.iconst 1, 1)), (321, (.iaload, 1)), (322, (.iconst 1, 1)), (323, (.isub, 1)), (324, (.laload, 1)), (325, (.lstore 25, 2)), (327, (.aload_n 2, 1)), (328, (.iconst 0, 1)), (329, (.iaload, 1)), (330, (.ifCond .ne 7, 3)), (337, (.iload 24, 2)), (339, (.aload_n 2, 1)), (340, (.iconst 0, 1)), (341, (.iaload, 1)), (342, (.irem, 1)), (333, (.iconst 0, 1)), (334, (.goto 9, 3)), (279, (.istore 22, 2)), (281, (.iload 21, 2)), (283, (.iconst 3, 1)), (284, (.if_icmp .ge 8, 3)), (292, (.iload 21, 2)), (294, (.iconst 3, 1)), (295, (.if_icmp .ne 8, 3)), (303, (.iload 22, 2)), (305, (.bipush 26, 2)), (307, (.irem, 1)), (298, (.bipush 16, 2)), (300, (.goto 8, 3)), (287, (.bipush 9, 2)), (289, (.goto 19, 3)), (221, (.iload 21, 2)), (223, (.bipush 80, 2)), (225, (.if_icmp .ge 2540, 3)), (228, (.iload 20, 2)), (230, (.ifCond .eq 2535, 3)), (233, (.aload_n 2, 1)), (234, (.iconst 4, 1)), (235, (.iaload, 1))]
theorem dt222_L_law_ok : ∀ q ∈ dt222_L_law, decode cL_law q.1 = .ok q.2 := by decide +kernel
theorem dL_law_372 : decode cL_law 372 = .ok (.iconst 3, 1) := g_dec dt222_L_law_ok (k := 0) rfl
theorem dL_law_373 : decode cL_law 373 = .ok (.irem, 1) := g_dec dt222_L_law_ok (k := 1) rfl
theorem dL_law_374 : decode cL_law 374 = .ok (.ifCond .ne 23, 3) := g_dec dt222_L_law_ok (k := 2) rfl
theorem dL_law_377 : decode cL_law 377 = .ok (.aload_n 2, 1) := g_dec dt222_L_law_ok (k := 3) rfl
theorem dL_law_378 : decode cL_law 378 = .ok (.iconst 0, 1) := g_dec dt222_L_law_ok (k := 4) rfl
theorem dL_law_379 : decode cL_law 379 = .ok (.iaload, 1) := g_dec dt222_L_law_ok (k := 5) rfl
theorem dL_law_380 : decode cL_law 380 = .ok (.ifCond .le 17, 3) := g_dec dt222_L_law_ok (k := 6) rfl
theorem dL_law_383 : decode cL_law 383 = .ok (.aload 5, 2) := g_dec dt222_L_law_ok (k := 7) rfl
theorem dL_law_385 : decode cL_law 385 = .ok (.iload 27, 2) := g_dec dt222_L_law_ok (k := 8) rfl
theorem dL_law_387 : decode cL_law 387 = .ok (.iaload, 1) := g_dec dt222_L_law_ok (k := 9) rfl
theorem dL_law_388 : decode cL_law 388 = .ok (.iconst 2, 1) := g_dec dt222_L_law_ok (k := 10) rfl
theorem dL_law_389 : decode cL_law 389 = .ok (.if_icmp .ge 8, 3) := g_dec dt222_L_law_ok (k := 11) rfl
theorem dL_law_392 : decode cL_law 392 = .ok (.iload 27, 2) := g_dec dt222_L_law_ok (k := 12) rfl
theorem dL_law_394 : decode cL_law 394 = .ok (.goto 4, 3) := g_dec dt222_L_law_ok (k := 13) rfl
theorem dL_law_308 : decode cL_law 308 = .ok (.istore 23, 2) := g_dec dt222_L_law_ok (k := 14) rfl
theorem dL_law_310 : decode cL_law 310 = .ok (.iload 22, 2) := g_dec dt222_L_law_ok (k := 15) rfl
theorem dL_law_312 : decode cL_law 312 = .ok (.bipush 26, 2) := g_dec dt222_L_law_ok (k := 16) rfl
theorem dL_law_314 : decode cL_law 314 = .ok (.idiv, 1) := g_dec dt222_L_law_ok (k := 17) rfl
theorem dL_law_315 : decode cL_law 315 = .ok (.istore 24, 2) := g_dec dt222_L_law_ok (k := 18) rfl
theorem dL_law_317 : decode cL_law 317 = .ok (.aload 12, 2) := g_dec dt222_L_law_ok (k := 19) rfl
theorem dL_law_319 : decode cL_law 319 = .ok (.aload_n 2, 1) := g_dec dt222_L_law_ok (k := 20) rfl
theorem dL_law_320 : decode cL_law 320 = .ok (.iconst 1, 1) := g_dec dt222_L_law_ok (k := 21) rfl
theorem dL_law_321 : decode cL_law 321 = .ok (.iaload, 1) := g_dec dt222_L_law_ok (k := 22) rfl
theorem dL_law_322 : decode cL_law 322 = .ok (.iconst 1, 1) := g_dec dt222_L_law_ok (k := 23) rfl
theorem dL_law_323 : decode cL_law 323 = .ok (.isub, 1) := g_dec dt222_L_law_ok (k := 24) rfl
theorem dL_law_324 : decode cL_law 324 = .ok (.laload, 1) := g_dec dt222_L_law_ok (k := 25) rfl
theorem dL_law_325 : decode cL_law 325 = .ok (.lstore 25, 2) := g_dec dt222_L_law_ok (k := 26) rfl
theorem dL_law_327 : decode cL_law 327 = .ok (.aload_n 2, 1) := g_dec dt222_L_law_ok (k := 27) rfl
theorem dL_law_328 : decode cL_law 328 = .ok (.iconst 0, 1) := g_dec dt222_L_law_ok (k := 28) rfl
theorem dL_law_329 : decode cL_law 329 = .ok (.iaload, 1) := g_dec dt222_L_law_ok (k := 29) rfl
theorem dL_law_330 : decode cL_law 330 = .ok (.ifCond .ne 7, 3) := g_dec dt222_L_law_ok (k := 30) rfl
theorem dL_law_337 : decode cL_law 337 = .ok (.iload 24, 2) := g_dec dt222_L_law_ok (k := 31) rfl
theorem dL_law_339 : decode cL_law 339 = .ok (.aload_n 2, 1) := g_dec dt222_L_law_ok (k := 32) rfl
theorem dL_law_340 : decode cL_law 340 = .ok (.iconst 0, 1) := g_dec dt222_L_law_ok (k := 33) rfl
theorem dL_law_341 : decode cL_law 341 = .ok (.iaload, 1) := g_dec dt222_L_law_ok (k := 34) rfl
theorem dL_law_342 : decode cL_law 342 = .ok (.irem, 1) := g_dec dt222_L_law_ok (k := 35) rfl
theorem dL_law_333 : decode cL_law 333 = .ok (.iconst 0, 1) := g_dec dt222_L_law_ok (k := 36) rfl
theorem dL_law_334 : decode cL_law 334 = .ok (.goto 9, 3) := g_dec dt222_L_law_ok (k := 37) rfl
theorem dL_law_279 : decode cL_law 279 = .ok (.istore 22, 2) := g_dec dt222_L_law_ok (k := 38) rfl
theorem dL_law_281 : decode cL_law 281 = .ok (.iload 21, 2) := g_dec dt222_L_law_ok (k := 39) rfl
theorem dL_law_283 : decode cL_law 283 = .ok (.iconst 3, 1) := g_dec dt222_L_law_ok (k := 40) rfl
theorem dL_law_284 : decode cL_law 284 = .ok (.if_icmp .ge 8, 3) := g_dec dt222_L_law_ok (k := 41) rfl
theorem dL_law_292 : decode cL_law 292 = .ok (.iload 21, 2) := g_dec dt222_L_law_ok (k := 42) rfl
theorem dL_law_294 : decode cL_law 294 = .ok (.iconst 3, 1) := g_dec dt222_L_law_ok (k := 43) rfl
theorem dL_law_295 : decode cL_law 295 = .ok (.if_icmp .ne 8, 3) := g_dec dt222_L_law_ok (k := 44) rfl
theorem dL_law_303 : decode cL_law 303 = .ok (.iload 22, 2) := g_dec dt222_L_law_ok (k := 45) rfl
theorem dL_law_305 : decode cL_law 305 = .ok (.bipush 26, 2) := g_dec dt222_L_law_ok (k := 46) rfl
theorem dL_law_307 : decode cL_law 307 = .ok (.irem, 1) := g_dec dt222_L_law_ok (k := 47) rfl
theorem dL_law_298 : decode cL_law 298 = .ok (.bipush 16, 2) := g_dec dt222_L_law_ok (k := 48) rfl
theorem dL_law_300 : decode cL_law 300 = .ok (.goto 8, 3) := g_dec dt222_L_law_ok (k := 49) rfl
theorem dL_law_287 : decode cL_law 287 = .ok (.bipush 9, 2) := g_dec dt222_L_law_ok (k := 50) rfl
theorem dL_law_289 : decode cL_law 289 = .ok (.goto 19, 3) := g_dec dt222_L_law_ok (k := 51) rfl
theorem dL_law_221 : decode cL_law 221 = .ok (.iload 21, 2) := g_dec dt222_L_law_ok (k := 52) rfl
theorem dL_law_223 : decode cL_law 223 = .ok (.bipush 80, 2) := g_dec dt222_L_law_ok (k := 53) rfl
theorem dL_law_225 : decode cL_law 225 = .ok (.if_icmp .ge 2540, 3) := g_dec dt222_L_law_ok (k := 54) rfl
theorem dL_law_228 : decode cL_law 228 = .ok (.iload 20, 2) := g_dec dt222_L_law_ok (k := 55) rfl
theorem dL_law_230 : decode cL_law 230 = .ok (.ifCond .eq 2535, 3) := g_dec dt222_L_law_ok (k := 56) rfl
theorem dL_law_233 : decode cL_law 233 = .ok (.aload_n 2, 1) := g_dec dt222_L_law_ok (k := 57) rfl
theorem dL_law_234 : decode cL_law 234 = .ok (.iconst 4, 1) := g_dec dt222_L_law_ok (k := 58) rfl
theorem dL_law_235 : decode cL_law 235 = .ok (.iaload, 1) := g_dec dt222_L_law_ok (k := 59) rfl
def dt223_L_law : List (Nat × Instr × Nat) := [(236, (.bipush 50, 2)), (238, (.if_icmp .ge 2527, 3)), (241, (.iload 21, 2)), (243, (.aload_n 0, 1)), (244, (.arraylength, 1)), (245, (.if_icmp .ge 13, 3)), (258, (.ldc 208, 2)), (260, (.iload 21, 2)), (262, (.imul, 1)), (263, (.iload 21, 2)), (265, (.imul, 1)), (266, (.sipush 8017, 3)), (269, (.iload 21, 2)), (271, (.imul, 1)), (272, (.iadd, 1)), (273, (.bipush 23, 2)), (275, (.iadd, 1)), (276, (.ldc 207, 2)), (278, (.iand, 1)), (248, (.aload_n 0, 1)), (249, (.iload 21, 2)), (251, (.iaload, 1)), (252, (.ldc 207, 2)), (254, (.iand, 1)), (255, (.goto 24, 3)), (134, (.iload 20, 2)), (136, (.iconst 3, 1)), (137, (.if_icmp .ge 37, 3)), (174, (.aload 17, 2)), (176, (.iconst 4, 1)), (177, (.iconst 1, 1)), (178, (.iastore, 1)), (179, (.aload_n 1, 1)), (180, (.aload_n 2, 1)), (181, (.aload_n 3, 1)), (182, (.aload 4, 2)), (184, (.aload 5, 2)), (186, (.aload 6, 2)), (188, (.aload 7, 2)), (190, (.aload 8, 2)), (192, (.aload 9, 2)), (194, (.aload 10, 2)), (196, (.aload 11, 2)), (198, (.aload 12, 2)), (200, (.aload 13, 2)), (202, (.aload 14, 2)), (204, (.aload 15, 2)), (206, (.aload 16, 2)), (208, (.aload 17, 2)), (210, (.aload 19, 2)), (212, (.iconst 0, 1)), (213, (.invokestatic 203, 3)), (216, (.istore 20, 2)), (218, (.iconst 0, 1)), (219, (.istore 21, 2)), (140, (.aload 19, 2)), (142, (.iconst 3, 1)), (143, (.iload 20, 2)), (145, (.iadd, 1)), (146, (.iconst 1, 1))]
theorem dt223_L_law_ok : ∀ q ∈ dt223_L_law, decode cL_law q.1 = .ok q.2 := by decide +kernel
theorem dL_law_236 : decode cL_law 236 = .ok (.bipush 50, 2) := g_dec dt223_L_law_ok (k := 0) rfl
theorem dL_law_238 : decode cL_law 238 = .ok (.if_icmp .ge 2527, 3) := g_dec dt223_L_law_ok (k := 1) rfl
theorem dL_law_241 : decode cL_law 241 = .ok (.iload 21, 2) := g_dec dt223_L_law_ok (k := 2) rfl
theorem dL_law_243 : decode cL_law 243 = .ok (.aload_n 0, 1) := g_dec dt223_L_law_ok (k := 3) rfl
theorem dL_law_244 : decode cL_law 244 = .ok (.arraylength, 1) := g_dec dt223_L_law_ok (k := 4) rfl
theorem dL_law_245 : decode cL_law 245 = .ok (.if_icmp .ge 13, 3) := g_dec dt223_L_law_ok (k := 5) rfl
theorem dL_law_258 : decode cL_law 258 = .ok (.ldc 208, 2) := g_dec dt223_L_law_ok (k := 6) rfl
theorem dL_law_260 : decode cL_law 260 = .ok (.iload 21, 2) := g_dec dt223_L_law_ok (k := 7) rfl
theorem dL_law_262 : decode cL_law 262 = .ok (.imul, 1) := g_dec dt223_L_law_ok (k := 8) rfl
theorem dL_law_263 : decode cL_law 263 = .ok (.iload 21, 2) := g_dec dt223_L_law_ok (k := 9) rfl
theorem dL_law_265 : decode cL_law 265 = .ok (.imul, 1) := g_dec dt223_L_law_ok (k := 10) rfl
theorem dL_law_266 : decode cL_law 266 = .ok (.sipush 8017, 3) := g_dec dt223_L_law_ok (k := 11) rfl
theorem dL_law_269 : decode cL_law 269 = .ok (.iload 21, 2) := g_dec dt223_L_law_ok (k := 12) rfl
theorem dL_law_271 : decode cL_law 271 = .ok (.imul, 1) := g_dec dt223_L_law_ok (k := 13) rfl
theorem dL_law_272 : decode cL_law 272 = .ok (.iadd, 1) := g_dec dt223_L_law_ok (k := 14) rfl
theorem dL_law_273 : decode cL_law 273 = .ok (.bipush 23, 2) := g_dec dt223_L_law_ok (k := 15) rfl
theorem dL_law_275 : decode cL_law 275 = .ok (.iadd, 1) := g_dec dt223_L_law_ok (k := 16) rfl
theorem dL_law_276 : decode cL_law 276 = .ok (.ldc 207, 2) := g_dec dt223_L_law_ok (k := 17) rfl
theorem dL_law_278 : decode cL_law 278 = .ok (.iand, 1) := g_dec dt223_L_law_ok (k := 18) rfl
theorem dL_law_248 : decode cL_law 248 = .ok (.aload_n 0, 1) := g_dec dt223_L_law_ok (k := 19) rfl
theorem dL_law_249 : decode cL_law 249 = .ok (.iload 21, 2) := g_dec dt223_L_law_ok (k := 20) rfl
theorem dL_law_251 : decode cL_law 251 = .ok (.iaload, 1) := g_dec dt223_L_law_ok (k := 21) rfl
theorem dL_law_252 : decode cL_law 252 = .ok (.ldc 207, 2) := g_dec dt223_L_law_ok (k := 22) rfl
theorem dL_law_254 : decode cL_law 254 = .ok (.iand, 1) := g_dec dt223_L_law_ok (k := 23) rfl
theorem dL_law_255 : decode cL_law 255 = .ok (.goto 24, 3) := g_dec dt223_L_law_ok (k := 24) rfl
theorem dL_law_134 : decode cL_law 134 = .ok (.iload 20, 2) := g_dec dt223_L_law_ok (k := 25) rfl
theorem dL_law_136 : decode cL_law 136 = .ok (.iconst 3, 1) := g_dec dt223_L_law_ok (k := 26) rfl
theorem dL_law_137 : decode cL_law 137 = .ok (.if_icmp .ge 37, 3) := g_dec dt223_L_law_ok (k := 27) rfl
theorem dL_law_174 : decode cL_law 174 = .ok (.aload 17, 2) := g_dec dt223_L_law_ok (k := 28) rfl
theorem dL_law_176 : decode cL_law 176 = .ok (.iconst 4, 1) := g_dec dt223_L_law_ok (k := 29) rfl
theorem dL_law_177 : decode cL_law 177 = .ok (.iconst 1, 1) := g_dec dt223_L_law_ok (k := 30) rfl
theorem dL_law_178 : decode cL_law 178 = .ok (.iastore, 1) := g_dec dt223_L_law_ok (k := 31) rfl
theorem dL_law_179 : decode cL_law 179 = .ok (.aload_n 1, 1) := g_dec dt223_L_law_ok (k := 32) rfl
theorem dL_law_180 : decode cL_law 180 = .ok (.aload_n 2, 1) := g_dec dt223_L_law_ok (k := 33) rfl
theorem dL_law_181 : decode cL_law 181 = .ok (.aload_n 3, 1) := g_dec dt223_L_law_ok (k := 34) rfl
theorem dL_law_182 : decode cL_law 182 = .ok (.aload 4, 2) := g_dec dt223_L_law_ok (k := 35) rfl
theorem dL_law_184 : decode cL_law 184 = .ok (.aload 5, 2) := g_dec dt223_L_law_ok (k := 36) rfl
theorem dL_law_186 : decode cL_law 186 = .ok (.aload 6, 2) := g_dec dt223_L_law_ok (k := 37) rfl
theorem dL_law_188 : decode cL_law 188 = .ok (.aload 7, 2) := g_dec dt223_L_law_ok (k := 38) rfl
theorem dL_law_190 : decode cL_law 190 = .ok (.aload 8, 2) := g_dec dt223_L_law_ok (k := 39) rfl
theorem dL_law_192 : decode cL_law 192 = .ok (.aload 9, 2) := g_dec dt223_L_law_ok (k := 40) rfl
theorem dL_law_194 : decode cL_law 194 = .ok (.aload 10, 2) := g_dec dt223_L_law_ok (k := 41) rfl
theorem dL_law_196 : decode cL_law 196 = .ok (.aload 11, 2) := g_dec dt223_L_law_ok (k := 42) rfl
theorem dL_law_198 : decode cL_law 198 = .ok (.aload 12, 2) := g_dec dt223_L_law_ok (k := 43) rfl
theorem dL_law_200 : decode cL_law 200 = .ok (.aload 13, 2) := g_dec dt223_L_law_ok (k := 44) rfl
theorem dL_law_202 : decode cL_law 202 = .ok (.aload 14, 2) := g_dec dt223_L_law_ok (k := 45) rfl
theorem dL_law_204 : decode cL_law 204 = .ok (.aload 15, 2) := g_dec dt223_L_law_ok (k := 46) rfl
theorem dL_law_206 : decode cL_law 206 = .ok (.aload 16, 2) := g_dec dt223_L_law_ok (k := 47) rfl
theorem dL_law_208 : decode cL_law 208 = .ok (.aload 17, 2) := g_dec dt223_L_law_ok (k := 48) rfl
theorem dL_law_210 : decode cL_law 210 = .ok (.aload 19, 2) := g_dec dt223_L_law_ok (k := 49) rfl
theorem dL_law_212 : decode cL_law 212 = .ok (.iconst 0, 1) := g_dec dt223_L_law_ok (k := 50) rfl
theorem dL_law_213 : decode cL_law 213 = .ok (.invokestatic 203, 3) := g_dec dt223_L_law_ok (k := 51) rfl
theorem dL_law_216 : decode cL_law 216 = .ok (.istore 20, 2) := g_dec dt223_L_law_ok (k := 52) rfl
theorem dL_law_218 : decode cL_law 218 = .ok (.iconst 0, 1) := g_dec dt223_L_law_ok (k := 53) rfl
theorem dL_law_219 : decode cL_law 219 = .ok (.istore 21, 2) := g_dec dt223_L_law_ok (k := 54) rfl
theorem dL_law_140 : decode cL_law 140 = .ok (.aload 19, 2) := g_dec dt223_L_law_ok (k := 55) rfl
theorem dL_law_142 : decode cL_law 142 = .ok (.iconst 3, 1) := g_dec dt223_L_law_ok (k := 56) rfl
theorem dL_law_143 : decode cL_law 143 = .ok (.iload 20, 2) := g_dec dt223_L_law_ok (k := 57) rfl
theorem dL_law_145 : decode cL_law 145 = .ok (.iadd, 1) := g_dec dt223_L_law_ok (k := 58) rfl
theorem dL_law_146 : decode cL_law 146 = .ok (.iconst 1, 1) := g_dec dt223_L_law_ok (k := 59) rfl
def dt224_L_law : List (Nat × Instr × Nat) := [(147, (.iastore, 1)), (148, (.aload 17, 2)), (150, (.bipush 6, 2)), (152, (.iload 20, 2)), (154, (.imul, 1)), (155, (.iconst (-1), 1)), (156, (.iastore, 1)), (157, (.aload 17, 2)), (159, (.bipush 6, 2)), (161, (.iload 20, 2)), (163, (.imul, 1)), (164, (.iconst 3, 1)), (165, (.iadd, 1)), (166, (.iconst (-1), 1)), (167, (.iastore, 1)), (168, (.iinc 20 1, 3)), (171, (.goto (-37), 3))]
theorem dt224_L_law_ok : ∀ q ∈ dt224_L_law, decode cL_law q.1 = .ok q.2 := by decide +kernel
theorem dL_law_147 : decode cL_law 147 = .ok (.iastore, 1) := g_dec dt224_L_law_ok (k := 0) rfl
theorem dL_law_148 : decode cL_law 148 = .ok (.aload 17, 2) := g_dec dt224_L_law_ok (k := 1) rfl
theorem dL_law_150 : decode cL_law 150 = .ok (.bipush 6, 2) := g_dec dt224_L_law_ok (k := 2) rfl
theorem dL_law_152 : decode cL_law 152 = .ok (.iload 20, 2) := g_dec dt224_L_law_ok (k := 3) rfl
theorem dL_law_154 : decode cL_law 154 = .ok (.imul, 1) := g_dec dt224_L_law_ok (k := 4) rfl
theorem dL_law_155 : decode cL_law 155 = .ok (.iconst (-1), 1) := g_dec dt224_L_law_ok (k := 5) rfl
theorem dL_law_156 : decode cL_law 156 = .ok (.iastore, 1) := g_dec dt224_L_law_ok (k := 6) rfl
theorem dL_law_157 : decode cL_law 157 = .ok (.aload 17, 2) := g_dec dt224_L_law_ok (k := 7) rfl
theorem dL_law_159 : decode cL_law 159 = .ok (.bipush 6, 2) := g_dec dt224_L_law_ok (k := 8) rfl
theorem dL_law_161 : decode cL_law 161 = .ok (.iload 20, 2) := g_dec dt224_L_law_ok (k := 9) rfl
theorem dL_law_163 : decode cL_law 163 = .ok (.imul, 1) := g_dec dt224_L_law_ok (k := 10) rfl
theorem dL_law_164 : decode cL_law 164 = .ok (.iconst 3, 1) := g_dec dt224_L_law_ok (k := 11) rfl
theorem dL_law_165 : decode cL_law 165 = .ok (.iadd, 1) := g_dec dt224_L_law_ok (k := 12) rfl
theorem dL_law_166 : decode cL_law 166 = .ok (.iconst (-1), 1) := g_dec dt224_L_law_ok (k := 13) rfl
theorem dL_law_167 : decode cL_law 167 = .ok (.iastore, 1) := g_dec dt224_L_law_ok (k := 14) rfl
theorem dL_law_168 : decode cL_law 168 = .ok (.iinc 20 1, 3) := g_dec dt224_L_law_ok (k := 15) rfl
theorem dL_law_171 : decode cL_law 171 = .ok (.goto (-37), 3) := g_dec dt224_L_law_ok (k := 16) rfl
section
variable {p : Program} {l : Launch} {e : Env} {s : State} {m : MethodId} {args : Array Value} {below : List Frame} {meth : Method} {c : Code} {D : va_G} {y : Nat → ClassId} {aS : Nat → Nat} {A : Nat → Prop} {L : List Nat} {ad0 : Nat → Nat} {N : Nat} {res : Int32} {b Lx : Nat} {xs : Nat → Int32}
def fL_law_558 (N : Nat) (xs : Nat → Int32) (Lx : Nat) (rec221 : (gS × Int32 × Int32) → Option Int32) (σ : gS) (x21 : Int32) (x24 : Int32) (x28 : Int32) (x29 : Int32) (x30 : Int64) (x32 : Int32) (x33 : Int32) (x35 : Int32) (x36 : Int32) (xs0 : Int32) (xs1 : Int32) : Option Int32 := if xs1 = xs0 then ((fL_does N σ (2 : Int32) (0 : Int32) (0 : Int32) (0 : Int32)).bind fun r_2 => if r_2.1 = (r_2.2.1 161 0) then (fL_law_580 N xs Lx rec221 r_2.2 x21 x24 x28 x29 x30 x32 x33 x35 x36 1) else (fL_law_579 N xs Lx rec221 r_2.2 x21 x24 x28 x29 x30 x32 x33 x35 x36)) else (fL_law_579 N xs Lx rec221 σ x21 x24 x28 x29 x30 x32 x33 x35 x36)
set_option maxRecDepth 100000 in
set_option maxHeartbeats 1000000 in
theorem wL_law_558 {rec221 : (gS × Int32 × Int32) → Option Int32} {σ : gS} {x21 : Int32} {x24 : Int32} {x28 : Int32} {x29 : Int32} {x30 : Int64} {x32 : Int32} {x33 : Int32} {x35 : Int32} {x36 : Int32} {xs0 : Int32} {xs1 : Int32} {ad : Nat → Nat} {kc ns : Nat} (hx : p.tables.exec = Jvm.exec) (hb : c.code = cL_law) (hr : meth.sig.returnType = (some .boolean)) (hml : c.maxLocals = 37) (hown : s.vm.findClass RL = some m.cls) (hg : ∀ w ∈ wsL_law, w.before args s = true) (hlocks : meth.locks = false) (hK : gK D y aS s) (hA : ∀ q, s.heap.size ≤ q → A q) (hL : ∀ k, k < 179 → k ∈ L) (hfl : l.stackTraces = false) (hZ : gZ A s s.heap) (hX : va_X b Lx xs s s.heap) (hbl : b < s.heap.size) (hA2 : ∀ q, A q → s.heap.size ≤ q) (hres : res = 1) (hL2 : ∀ k ∈ L, k < 179) (hrec221 : ∀ {ad : Nat → Nat} {kc ns : Nat} {σ9 : gS} {x20n9 : Int32} {x21n9 : Int32} (hkc : kc ≤ 183 + 643 * x21n9.toInt.toNat + 0) (hns : ns ≤ 3391 + 81814 * x21n9.toInt.toNat + 0) (hi0 : 0 ≤ x21n9.toInt) (hi8 : x21n9.toInt ≤ 80) (H : Heap) (locs : List Loc) (ls : Array Slot), gY D y A s L ad σ9 H locs → lv_has ls 37 [(0, .ref b), (1, .ref (ad 0)), (2, .ref (ad 161)), (3, .ref (ad 162)), (4, .ref (ad 163)), (5, .ref (ad 164)), (6, .ref (ad 165)), (7, .ref (ad 166)), (8, .ref (ad 167)), (9, .ref (ad 168)), (10, .ref (ad 169)), (11, .ref (ad 170)), (12, .ref (ad 171)), (13, .ref (ad 172)), (14, .ref (ad 173)), (15, .ref (ad 174)), (16, .ref (ad 175)), (17, .ref (ad 176)), (18, .ref (ad 177)), (19, .ref (ad 178)), (20, .int x20n9), (21, .int x21n9)] → rec221 (σ9, x20n9, x21n9) = some res → W p l e room_1 s m args below meth c H locs kc ns (lw_Z below args s) (F0 m 221 ls [])) (hkc : kc ≤ 183 + 643 * x21.toInt.toNat + 3) (hns : ns ≤ 3391 + 81814 * x21.toInt.toNat + 18) (hi0 : 0 ≤ x21.toInt) (hi8 : x21.toInt < 80) {H : Heap} {locs : List Loc} {ls : Array Slot} (hY : gY D y A s L ad σ H locs) (hl : lv_has ls 37 [(0, .ref b), (1, .ref (ad 0)), (2, .ref (ad 161)), (3, .ref (ad 162)), (4, .ref (ad 163)), (5, .ref (ad 164)), (6, .ref (ad 165)), (7, .ref (ad 166)), (8, .ref (ad 167)), (9, .ref (ad 168)), (10, .ref (ad 169)), (11, .ref (ad 170)), (12, .ref (ad 171)), (13, .ref (ad 172)), (14, .ref (ad 173)), (15, .ref (ad 174)), (16, .ref (ad 175)), (17, .ref (ad 176)), (18, .ref (ad 177)), (19, .ref (ad 178)), (21, .int x21), (24, .int x24), (28, .int x28), (29, .int x29), (30, .long x30), (32, .int x32), (33, .int x33), (35, .int x35), (36, .int x36)]) (h : fL_law_558 N xs Lx rec221 σ x21 x24 x28 x29 x30 x32 x33 x35 x36 xs0 xs1 = some res) : W p l e room_1 s m args below meth c H locs kc ns (lw_Z below args s) (F0 m 558 ls [.int xs0, .int xs1]) := by
  unfold fL_law_558 at h
  refine lv_icmp_ne (tgt := 579) hx hb dL_law_558 (by decide) (fun z_1 => ?_) (fun z_1 => ?_)
  ·
    rw [if_neg z_1] at h
    exact wL_law_579 hx hb hr hml hown hg hlocks hK hA hL hfl hZ hX hbl hA2 hres hL2 hrec221 (by first | omega | (simp only [g_l0]; omega)) (by first | omega | (simp only [g_l0]; omega)) (by first | omega | (simp only [g_l0]; omega)) (by first | omega | (simp only [g_l0]; omega)) hY (lv_sub hl [0, 1, 2, 3, 4, 5, 6, 7, 8, 9, 10, 11, 12, 13, 14, 15, 16, 17, 18, 19, 20, 21, 22, 23, 24, 25, 26, 27, 28] rfl) h
  ·
    rw [if_pos z_1] at h
    refine lv_aload_n hx hb dL_law_561 rfl (lv_at hl 1 rfl) ?_
    refine lv_iconst (v := 2) hx hb dL_law_562 (by decide) ?_
    refine lv_iconst (v := 0) hx hb dL_law_563 (by decide) ?_
    refine lv_iconst (v := 0) hx hb dL_law_564 (by decide) ?_
    refine lv_iconst (v := 0) hx hb dL_law_565 (by decide) ?_
    obtain ⟨r_2, e_3, h⟩ := g_bind h
    refine G_aiC hY hA (vx_runSW (As := [.ref (ad 0), .int 2, .int 0, .int 0, .int 0]) (rest := []) ⟨hx, hb, hml, hown, hg⟩ (kL_does l hfl D y aS H.size L hL ad N σ (2 : Int32) (0 : Int32) (0 : Int32) (0 : Int32) _ e_3) (vx_cwSW 5 hg ggS_RL_161_L_does rfl rfl rfl (by decide +kernel) ⟨Nat.le_of_ble_eq_true rfl, Nat.le_of_ble_eq_true rfl⟩) (G_xpS hZ hA hK hY) rfl rfl hl.1 rfl (lv_room (Nat.le_of_ble_eq_true rfl)) dL_law_566 ⟨(by first | omega | (show _ ≤ (600086 : Nat); omega) | (show _ ≤ (7301442 : Nat); omega)), (by first | omega | (show _ ≤ (600086 : Nat); omega) | (show _ ≤ (7301442 : Nat); omega))⟩) ?_
    clear hY
    rintro _ H locs rfl hY
    refine lv_aload_n hx hb dL_law_569 rfl (lv_at hl 2 rfl) ?_
    refine lv_iconst (v := 0) hx hb dL_law_570 (by decide) ?_
    refine G_iald (j := 0) hx hb hK hY (hL 161 (by decide)) gk_161 (by rw [gl_161]; decide +kernel) (by decide +kernel) dL_law_571 ?_
    refine lv_icmp_ne (tgt := 579) hx hb dL_law_572 (by decide) (fun z_4 => ?_) (fun z_4 => ?_)
    ·
      rw [if_neg z_4] at h
      exact wL_law_579 hx hb hr hml hown hg hlocks hK hA hL hfl hZ hX hbl hA2 hres hL2 hrec221 (by first | omega | (simp only [g_l0]; omega)) (by first | omega | (simp only [g_l0]; omega)) (by first | omega | (simp only [g_l0]; omega)) (by first | omega | (simp only [g_l0]; omega)) hY (lv_sub hl [0, 1, 2, 3, 4, 5, 6, 7, 8, 9, 10, 11, 12, 13, 14, 15, 16, 17, 18, 19, 20, 21, 22, 23, 24, 25, 26, 27, 28] rfl) h
    ·
      rw [if_pos z_4] at h
      refine lv_iconst (v := 1) hx hb dL_law_575 (by decide) ?_
      refine lv_goto (tgt := 580) hx hb dL_law_576 (by decide) ?_
      exact wL_law_580 hx hb hr hml hown hg hlocks hK hA hL hfl hZ hX hbl hA2 hres hL2 hrec221 (by first | omega | (simp only [g_l0]; omega)) (by first | omega | (simp only [g_l0]; omega)) (by first | omega | (simp only [g_l0]; omega)) (by first | omega | (simp only [g_l0]; omega)) hY (lv_sub hl [0, 1, 2, 3, 4, 5, 6, 7, 8, 9, 10, 11, 12, 13, 14, 15, 16, 17, 18, 19, 20, 21, 22, 23, 24, 25, 26, 27, 28] rfl) h
def fL_law_465 (N : Nat) (xs : Nat → Int32) (Lx : Nat) (rec221 : (gS × Int32 × Int32) → Option Int32) (σ : gS) (x21 : Int32) (x24 : Int32) (x28 : Int32) (x29 : Int32) (x30 : Int64) (x32 : Int32) (xs0 : Int32) : Option Int32 := (fL_at N σ x30 x32).bind fun r_1 => (fL_at N σ x30 xs0).bind fun r_3 => (fL_does N σ (0 : Int32) x28 x29 (0 : Int32)).bind fun r_5 => if r_5.1 = 0 then ((fL_does N r_5.2 (1 : Int32) x32 ((r_1 + (((x24 / 24) - (x24 / 24) / 9 * 9) + 1)) - (r_1 + (((x24 / 24) - (x24 / 24) / 9 * 9) + 1)) / 10 * 10) (0 : Int32)).bind fun r_8 => if r_8.1 = 1 then ((fL_does N r_8.2 (1 : Int32) xs0 ((r_3 + (((x24 / 24) - (x24 / 24) / 9 * 9) + 1)) - (r_3 + (((x24 / 24) - (x24 / 24) / 9 * 9) + 1)) / 10 * 10) (0 : Int32)).bind fun r_11 => if x32 = xs0 then (fL_law_558 N xs Lx rec221 r_11.2 x21 x24 x28 x29 x30 x32 xs0 ((r_1 + (((x24 / 24) - (x24 / 24) / 9 * 9) + 1)) - (r_1 + (((x24 / 24) - (x24 / 24) / 9 * 9) + 1)) / 10 * 10) ((r_3 + (((x24 / 24) - (x24 / 24) / 9 * 9) + 1)) - (r_3 + (((x24 / 24) - (x24 / 24) / 9 * 9) + 1)) / 10 * 10) 1 r_11.1) else (fL_law_558 N xs Lx rec221 r_11.2 x21 x24 x28 x29 x30 x32 xs0 ((r_1 + (((x24 / 24) - (x24 / 24) / 9 * 9) + 1)) - (r_1 + (((x24 / 24) - (x24 / 24) / 9 * 9) + 1)) / 10 * 10) ((r_3 + (((x24 / 24) - (x24 / 24) / 9 * 9) + 1)) - (r_3 + (((x24 / 24) - (x24 / 24) / 9 * 9) + 1)) / 10 * 10) 2 r_11.1)) else (fL_law_579 N xs Lx rec221 r_8.2 x21 x24 x28 x29 x30 x32 xs0 ((r_1 + (((x24 / 24) - (x24 / 24) / 9 * 9) + 1)) - (r_1 + (((x24 / 24) - (x24 / 24) / 9 * 9) + 1)) / 10 * 10) ((r_3 + (((x24 / 24) - (x24 / 24) / 9 * 9) + 1)) - (r_3 + (((x24 / 24) - (x24 / 24) / 9 * 9) + 1)) / 10 * 10))) else (fL_law_579 N xs Lx rec221 r_5.2 x21 x24 x28 x29 x30 x32 xs0 ((r_1 + (((x24 / 24) - (x24 / 24) / 9 * 9) + 1)) - (r_1 + (((x24 / 24) - (x24 / 24) / 9 * 9) + 1)) / 10 * 10) ((r_3 + (((x24 / 24) - (x24 / 24) / 9 * 9) + 1)) - (r_3 + (((x24 / 24) - (x24 / 24) / 9 * 9) + 1)) / 10 * 10))
set_option maxRecDepth 100000 in
set_option maxHeartbeats 1000000 in
theorem wL_law_465 {rec221 : (gS × Int32 × Int32) → Option Int32} {σ : gS} {x21 : Int32} {x24 : Int32} {x28 : Int32} {x29 : Int32} {x30 : Int64} {x32 : Int32} {xs0 : Int32} {ad : Nat → Nat} {kc ns : Nat} (hx : p.tables.exec = Jvm.exec) (hb : c.code = cL_law) (hr : meth.sig.returnType = (some .boolean)) (hml : c.maxLocals = 37) (hown : s.vm.findClass RL = some m.cls) (hg : ∀ w ∈ wsL_law, w.before args s = true) (hlocks : meth.locks = false) (hK : gK D y aS s) (hA : ∀ q, s.heap.size ≤ q → A q) (hL : ∀ k, k < 179 → k ∈ L) (hfl : l.stackTraces = false) (hZ : gZ A s s.heap) (hX : va_X b Lx xs s s.heap) (hbl : b < s.heap.size) (hA2 : ∀ q, A q → s.heap.size ≤ q) (hres : res = 1) (hL2 : ∀ k ∈ L, k < 179) (hrec221 : ∀ {ad : Nat → Nat} {kc ns : Nat} {σ9 : gS} {x20n9 : Int32} {x21n9 : Int32} (hkc : kc ≤ 183 + 643 * x21n9.toInt.toNat + 0) (hns : ns ≤ 3391 + 81814 * x21n9.toInt.toNat + 0) (hi0 : 0 ≤ x21n9.toInt) (hi8 : x21n9.toInt ≤ 80) (H : Heap) (locs : List Loc) (ls : Array Slot), gY D y A s L ad σ9 H locs → lv_has ls 37 [(0, .ref b), (1, .ref (ad 0)), (2, .ref (ad 161)), (3, .ref (ad 162)), (4, .ref (ad 163)), (5, .ref (ad 164)), (6, .ref (ad 165)), (7, .ref (ad 166)), (8, .ref (ad 167)), (9, .ref (ad 168)), (10, .ref (ad 169)), (11, .ref (ad 170)), (12, .ref (ad 171)), (13, .ref (ad 172)), (14, .ref (ad 173)), (15, .ref (ad 174)), (16, .ref (ad 175)), (17, .ref (ad 176)), (18, .ref (ad 177)), (19, .ref (ad 178)), (20, .int x20n9), (21, .int x21n9)] → rec221 (σ9, x20n9, x21n9) = some res → W p l e room_1 s m args below meth c H locs kc ns (lw_Z below args s) (F0 m 221 ls [])) (hkc : kc ≤ 183 + 643 * x21.toInt.toNat + 0) (hns : ns ≤ 3391 + 81814 * x21.toInt.toNat + 0) (hi0 : 0 ≤ x21.toInt) (hi8 : x21.toInt < 80) {H : Heap} {locs : List Loc} {ls : Array Slot} (hY : gY D y A s L ad σ H locs) (hl : lv_has ls 37 [(0, .ref b), (1, .ref (ad 0)), (2, .ref (ad 161)), (3, .ref (ad 162)), (4, .ref (ad 163)), (5, .ref (ad 164)), (6, .ref (ad 165)), (7, .ref (ad 166)), (8, .ref (ad 167)), (9, .ref (ad 168)), (10, .ref (ad 169)), (11, .ref (ad 170)), (12, .ref (ad 171)), (13, .ref (ad 172)), (14, .ref (ad 173)), (15, .ref (ad 174)), (16, .ref (ad 175)), (17, .ref (ad 176)), (18, .ref (ad 177)), (19, .ref (ad 178)), (21, .int x21), (24, .int x24), (28, .int x28), (29, .int x29), (30, .long x30), (32, .int x32)]) (h : fL_law_465 N xs Lx rec221 σ x21 x24 x28 x29 x30 x32 xs0 = some res) : W p l e room_1 s m args below meth c H locs kc ns (lw_Z below args s) (F0 m 465 ls [.int xs0]) := by
  unfold fL_law_465 at h
  refine lv_istore (lv' := [(33, .int xs0), (0, .ref b), (1, .ref (ad 0)), (2, .ref (ad 161)), (3, .ref (ad 162)), (4, .ref (ad 163)), (5, .ref (ad 164)), (6, .ref (ad 165)), (7, .ref (ad 166)), (8, .ref (ad 167)), (9, .ref (ad 168)), (10, .ref (ad 169)), (11, .ref (ad 170)), (12, .ref (ad 171)), (13, .ref (ad 172)), (14, .ref (ad 173)), (15, .ref (ad 174)), (16, .ref (ad 175)), (17, .ref (ad 176)), (18, .ref (ad 177)), (19, .ref (ad 178)), (21, .int x21), (24, .int x24), (28, .int x28), (29, .int x29), (30, .long x30), (32, .int x32)]) hx hb dL_law_465 hl (by decide) rfl ?_
  clear hl
  intro ls hl
  refine lv_iload hx hb dL_law_467 (lv_at hl 22 rfl) ?_
  refine lv_bipush (v := 24) hx hb dL_law_469 (by decide +kernel) ?_
  refine lv_idiv hx hb dL_law_471 (by decide +kernel) ?_
  refine lv_bipush (v := 9) hx hb dL_law_472 (by decide +kernel) ?_
  refine lv_irem hx hb dL_law_474 (by decide +kernel) ?_
  refine lv_iconst (v := 1) hx hb dL_law_475 (by decide) ?_
  refine lv_iadd hx hb dL_law_476 ?_
  refine lv_istore (lv' := [(34, .int (((x24 / 24) - (x24 / 24) / 9 * 9) + 1)), (33, .int xs0), (0, .ref b), (1, .ref (ad 0)), (2, .ref (ad 161)), (3, .ref (ad 162)), (4, .ref (ad 163)), (5, .ref (ad 164)), (6, .ref (ad 165)), (7, .ref (ad 166)), (8, .ref (ad 167)), (9, .ref (ad 168)), (10, .ref (ad 169)), (11, .ref (ad 170)), (12, .ref (ad 171)), (13, .ref (ad 172)), (14, .ref (ad 173)), (15, .ref (ad 174)), (16, .ref (ad 175)), (17, .ref (ad 176)), (18, .ref (ad 177)), (19, .ref (ad 178)), (21, .int x21), (24, .int x24), (28, .int x28), (29, .int x29), (30, .long x30), (32, .int x32)]) hx hb dL_law_477 hl (by decide) rfl ?_
  clear hl
  intro ls hl
  refine lv_lload hx hb dL_law_479 (lv_at hl 26 rfl) ?_
  refine lv_iload hx hb dL_law_481 (lv_at hl 27 rfl) ?_
  obtain ⟨r_1, e_2, h⟩ := g_bind h
  refine G_ai hY hA (va_runS (As := [.long x30, .int x32]) (rest := []) ⟨hx, hb, hml, hown, hg⟩ (kL_at l D y aS H.size L hL ad N σ x30 x32 _ e_2) (va_cwS 2 hg ggS_RL_29_L_at rfl rfl rfl (by decide +kernel) ⟨Nat.le_of_ble_eq_true rfl, Nat.le_of_ble_eq_true rfl⟩) (G_pS hK hY) rfl rfl hl.1 rfl (lv_room (Nat.le_of_ble_eq_true rfl)) dL_law_483 ⟨(by first | omega | (show _ ≤ (600086 : Nat); omega) | (show _ ≤ (7301442 : Nat); omega)), (by first | omega | (show _ ≤ (600086 : Nat); omega) | (show _ ≤ (7301442 : Nat); omega))⟩) ?_
  clear hY
  rintro _ H locs rfl hY
  refine lv_iload hx hb dL_law_486 (lv_at hl 0 rfl) ?_
  refine lv_iadd hx hb dL_law_488 ?_
  refine lv_bipush (v := 10) hx hb dL_law_489 (by decide +kernel) ?_
  refine lv_irem hx hb dL_law_491 (by decide +kernel) ?_
  refine lv_istore (lv' := [(35, .int ((r_1 + (((x24 / 24) - (x24 / 24) / 9 * 9) + 1)) - (r_1 + (((x24 / 24) - (x24 / 24) / 9 * 9) + 1)) / 10 * 10)), (34, .int (((x24 / 24) - (x24 / 24) / 9 * 9) + 1)), (33, .int xs0), (0, .ref b), (1, .ref (ad 0)), (2, .ref (ad 161)), (3, .ref (ad 162)), (4, .ref (ad 163)), (5, .ref (ad 164)), (6, .ref (ad 165)), (7, .ref (ad 166)), (8, .ref (ad 167)), (9, .ref (ad 168)), (10, .ref (ad 169)), (11, .ref (ad 170)), (12, .ref (ad 171)), (13, .ref (ad 172)), (14, .ref (ad 173)), (15, .ref (ad 174)), (16, .ref (ad 175)), (17, .ref (ad 176)), (18, .ref (ad 177)), (19, .ref (ad 178)), (21, .int x21), (24, .int x24), (28, .int x28), (29, .int x29), (30, .long x30), (32, .int x32)]) hx hb dL_law_492 hl (by decide) rfl ?_
  clear hl
  intro ls hl
  refine lv_lload hx hb dL_law_494 (lv_at hl 27 rfl) ?_
  refine lv_iload hx hb dL_law_496 (lv_at hl 2 rfl) ?_
  obtain ⟨r_3, e_4, h⟩ := g_bind h
  refine G_ai hY hA (va_runS (As := [.long x30, .int xs0]) (rest := []) ⟨hx, hb, hml, hown, hg⟩ (kL_at l D y aS H.size L hL ad N σ x30 xs0 _ e_4) (va_cwS 2 hg ggS_RL_29_L_at rfl rfl rfl (by decide +kernel) ⟨Nat.le_of_ble_eq_true rfl, Nat.le_of_ble_eq_true rfl⟩) (G_pS hK hY) rfl rfl hl.1 rfl (lv_room (Nat.le_of_ble_eq_true rfl)) dL_law_498 ⟨(by first | omega | (show _ ≤ (600086 : Nat); omega) | (show _ ≤ (7301442 : Nat); omega)), (by first | omega | (show _ ≤ (600086 : Nat); omega) | (show _ ≤ (7301442 : Nat); omega))⟩) ?_
  clear hY
  rintro _ H locs rfl hY
  refine lv_iload hx hb dL_law_501 (lv_at hl 1 rfl) ?_
  refine lv_iadd hx hb dL_law_503 ?_
  refine lv_bipush (v := 10) hx hb dL_law_504 (by decide +kernel) ?_
  refine lv_irem hx hb dL_law_506 (by decide +kernel) ?_
  refine lv_istore (lv' := [(36, .int ((r_3 + (((x24 / 24) - (x24 / 24) / 9 * 9) + 1)) - (r_3 + (((x24 / 24) - (x24 / 24) / 9 * 9) + 1)) / 10 * 10)), (35, .int ((r_1 + (((x24 / 24) - (x24 / 24) / 9 * 9) + 1)) - (r_1 + (((x24 / 24) - (x24 / 24) / 9 * 9) + 1)) / 10 * 10)), (34, .int (((x24 / 24) - (x24 / 24) / 9 * 9) + 1)), (33, .int xs0), (0, .ref b), (1, .ref (ad 0)), (2, .ref (ad 161)), (3, .ref (ad 162)), (4, .ref (ad 163)), (5, .ref (ad 164)), (6, .ref (ad 165)), (7, .ref (ad 166)), (8, .ref (ad 167)), (9, .ref (ad 168)), (10, .ref (ad 169)), (11, .ref (ad 170)), (12, .ref (ad 171)), (13, .ref (ad 172)), (14, .ref (ad 173)), (15, .ref (ad 174)), (16, .ref (ad 175)), (17, .ref (ad 176)), (18, .ref (ad 177)), (19, .ref (ad 178)), (21, .int x21), (24, .int x24), (28, .int x28), (29, .int x29), (30, .long x30), (32, .int x32)]) hx hb dL_law_507 hl (by decide) rfl ?_
  clear hl
  intro ls hl
  refine lv_aload_n hx hb dL_law_509 rfl (lv_at hl 5 rfl) ?_
  refine lv_iconst (v := 0) hx hb dL_law_510 (by decide) ?_
  refine lv_iload hx hb dL_law_511 (lv_at hl 26 rfl) ?_
  refine lv_iload hx hb dL_law_513 (lv_at hl 27 rfl) ?_
  refine lv_iconst (v := 0) hx hb dL_law_515 (by decide) ?_
  obtain ⟨r_5, e_6, h⟩ := g_bind h
  refine G_aiC hY hA (vx_runSW (As := [.ref (ad 0), .int 0, .int x28, .int x29, .int 0]) (rest := []) ⟨hx, hb, hml, hown, hg⟩ (kL_does l hfl D y aS H.size L hL ad N σ (0 : Int32) x28 x29 (0 : Int32) _ e_6) (vx_cwSW 5 hg ggS_RL_161_L_does rfl rfl rfl (by decide +kernel) ⟨Nat.le_of_ble_eq_true rfl, Nat.le_of_ble_eq_true rfl⟩) (G_xpS hZ hA hK hY) rfl rfl hl.1 rfl (lv_room (Nat.le_of_ble_eq_true rfl)) dL_law_516 ⟨(by first | omega | (show _ ≤ (600086 : Nat); omega) | (show _ ≤ (7301442 : Nat); omega)), (by first | omega | (show _ ≤ (600086 : Nat); omega) | (show _ ≤ (7301442 : Nat); omega))⟩) ?_
  clear hY
  rintro _ H locs rfl hY
  refine lv_if_ne (tgt := 579) hx hb dL_law_519 (by decide) (fun z_7 => ?_) (fun z_7 => ?_)
  ·
    rw [if_neg z_7] at h
    exact wL_law_579 hx hb hr hml hown hg hlocks hK hA hL hfl hZ hX hbl hA2 hres hL2 hrec221 (by first | omega | (simp only [g_l0]; omega)) (by first | omega | (simp only [g_l0]; omega)) (by first | omega | (simp only [g_l0]; omega)) (by first | omega | (simp only [g_l0]; omega)) hY (lv_sub hl [4, 5, 6, 7, 8, 9, 10, 11, 12, 13, 14, 15, 16, 17, 18, 19, 20, 21, 22, 23, 24, 25, 26, 27, 28, 29, 3, 1, 0] rfl) h
  ·
    rw [if_pos z_7] at h
    refine lv_aload_n hx hb dL_law_522 rfl (lv_at hl 5 rfl) ?_
    refine lv_iconst (v := 1) hx hb dL_law_523 (by decide) ?_
    refine lv_iload hx hb dL_law_524 (lv_at hl 29 rfl) ?_
    refine lv_iload hx hb dL_law_526 (lv_at hl 1 rfl) ?_
    refine lv_iconst (v := 0) hx hb dL_law_528 (by decide) ?_
    obtain ⟨r_8, e_9, h⟩ := g_bind h
    refine G_aiC hY hA (vx_runSW (As := [.ref (ad 0), .int 1, .int x32, .int ((r_1 + (((x24 / 24) - (x24 / 24) / 9 * 9) + 1)) - (r_1 + (((x24 / 24) - (x24 / 24) / 9 * 9) + 1)) / 10 * 10), .int 0]) (rest := []) ⟨hx, hb, hml, hown, hg⟩ (kL_does l hfl D y aS H.size L hL ad N r_5.2 (1 : Int32) x32 ((r_1 + (((x24 / 24) - (x24 / 24) / 9 * 9) + 1)) - (r_1 + (((x24 / 24) - (x24 / 24) / 9 * 9) + 1)) / 10 * 10) (0 : Int32) _ e_9) (vx_cwSW 5 hg ggS_RL_161_L_does rfl rfl rfl (by decide +kernel) ⟨Nat.le_of_ble_eq_true rfl, Nat.le_of_ble_eq_true rfl⟩) (G_xpS hZ hA hK hY) rfl rfl hl.1 rfl (lv_room (Nat.le_of_ble_eq_true rfl)) dL_law_529 ⟨(by first | omega | (show _ ≤ (600086 : Nat); omega) | (show _ ≤ (7301442 : Nat); omega)), (by first | omega | (show _ ≤ (600086 : Nat); omega) | (show _ ≤ (7301442 : Nat); omega))⟩) ?_
    clear hY
    rintro _ H locs rfl hY
    refine lv_iconst (v := 1) hx hb dL_law_532 (by decide) ?_
    refine lv_icmp_ne (tgt := 579) hx hb dL_law_533 (by decide) (fun z_10 => ?_) (fun z_10 => ?_)
    ·
      rw [if_neg z_10] at h
      exact wL_law_579 hx hb hr hml hown hg hlocks hK hA hL hfl hZ hX hbl hA2 hres hL2 hrec221 (by first | omega | (simp only [g_l0]; omega)) (by first | omega | (simp only [g_l0]; omega)) (by first | omega | (simp only [g_l0]; omega)) (by first | omega | (simp only [g_l0]; omega)) hY (lv_sub hl [4, 5, 6, 7, 8, 9, 10, 11, 12, 13, 14, 15, 16, 17, 18, 19, 20, 21, 22, 23, 24, 25, 26, 27, 28, 29, 3, 1, 0] rfl) h
    ·
      rw [if_pos z_10] at h
      refine lv_aload_n hx hb dL_law_536 rfl (lv_at hl 5 rfl) ?_
      refine lv_iconst (v := 1) hx hb dL_law_537 (by decide) ?_
      refine lv_iload hx hb dL_law_538 (lv_at hl 3 rfl) ?_
      refine lv_iload hx hb dL_law_540 (lv_at hl 0 rfl) ?_
      refine lv_iconst (v := 0) hx hb dL_law_542 (by decide) ?_
      obtain ⟨r_11, e_12, h⟩ := g_bind h
      refine G_aiC hY hA (vx_runSW (As := [.ref (ad 0), .int 1, .int xs0, .int ((r_3 + (((x24 / 24) - (x24 / 24) / 9 * 9) + 1)) - (r_3 + (((x24 / 24) - (x24 / 24) / 9 * 9) + 1)) / 10 * 10), .int 0]) (rest := []) ⟨hx, hb, hml, hown, hg⟩ (kL_does l hfl D y aS H.size L hL ad N r_8.2 (1 : Int32) xs0 ((r_3 + (((x24 / 24) - (x24 / 24) / 9 * 9) + 1)) - (r_3 + (((x24 / 24) - (x24 / 24) / 9 * 9) + 1)) / 10 * 10) (0 : Int32) _ e_12) (vx_cwSW 5 hg ggS_RL_161_L_does rfl rfl rfl (by decide +kernel) ⟨Nat.le_of_ble_eq_true rfl, Nat.le_of_ble_eq_true rfl⟩) (G_xpS hZ hA hK hY) rfl rfl hl.1 rfl (lv_room (Nat.le_of_ble_eq_true rfl)) dL_law_543 ⟨(by first | omega | (show _ ≤ (600086 : Nat); omega) | (show _ ≤ (7301442 : Nat); omega)), (by first | omega | (show _ ≤ (600086 : Nat); omega) | (show _ ≤ (7301442 : Nat); omega))⟩) ?_
      clear hY
      rintro _ H locs rfl hY
      refine lv_iload hx hb dL_law_546 (lv_at hl 29 rfl) ?_
      refine lv_iload hx hb dL_law_548 (lv_at hl 3 rfl) ?_
      refine lv_icmp_ne (tgt := 557) hx hb dL_law_550 (by decide) (fun z_13 => ?_) (fun z_13 => ?_)
      ·
        rw [if_neg z_13] at h
        refine lv_iconst (v := 2) hx hb dL_law_557 (by decide) ?_
        exact wL_law_558 hx hb hr hml hown hg hlocks hK hA hL hfl hZ hX hbl hA2 hres hL2 hrec221 (by first | omega | (simp only [g_l0]; omega)) (by first | omega | (simp only [g_l0]; omega)) (by first | omega | (simp only [g_l0]; omega)) (by first | omega | (simp only [g_l0]; omega)) hY (lv_sub hl [4, 5, 6, 7, 8, 9, 10, 11, 12, 13, 14, 15, 16, 17, 18, 19, 20, 21, 22, 23, 24, 25, 26, 27, 28, 29, 3, 1, 0] rfl) h
      ·
        rw [if_pos z_13] at h
        refine lv_iconst (v := 1) hx hb dL_law_553 (by decide) ?_
        refine lv_goto (tgt := 558) hx hb dL_law_554 (by decide) ?_
        exact wL_law_558 hx hb hr hml hown hg hlocks hK hA hL hfl hZ hX hbl hA2 hres hL2 hrec221 (by first | omega | (simp only [g_l0]; omega)) (by first | omega | (simp only [g_l0]; omega)) (by first | omega | (simp only [g_l0]; omega)) (by first | omega | (simp only [g_l0]; omega)) hY (lv_sub hl [4, 5, 6, 7, 8, 9, 10, 11, 12, 13, 14, 15, 16, 17, 18, 19, 20, 21, 22, 23, 24, 25, 26, 27, 28, 29, 3, 1, 0] rfl) h
def fL_law_424 (N : Nat) (xs : Nat → Int32) (Lx : Nat) (rec221 : (gS × Int32 × Int32) → Option Int32) (σ : gS) (x21 : Int32) (x24 : Int32) (x28 : Int32) (x29 : Int32) (xs0 : Int64) : Option Int32 := if ((x24 / 96) - (x24 / 96) / 3 * 3) = 0 then (fL_law_465 N xs Lx rec221 σ x21 x24 x28 x29 xs0 ((x24 / 24) - (x24 / 24) / 4 * 4) ((x24 / 24) - (x24 / 24) / 4 * 4)) else (fL_law_465 N xs Lx rec221 σ x21 x24 x28 x29 xs0 ((x24 / 24) - (x24 / 24) / 4 * 4) (((((x24 / 24) - (x24 / 24) / 4 * 4) + 1) + ((x24 / 288) - (x24 / 288) / 3 * 3)) - ((((x24 / 24) - (x24 / 24) / 4 * 4) + 1) + ((x24 / 288) - (x24 / 288) / 3 * 3)) / 4 * 4))
set_option maxRecDepth 100000 in
set_option maxHeartbeats 1000000 in
theorem wL_law_424 {rec221 : (gS × Int32 × Int32) → Option Int32} {σ : gS} {x21 : Int32} {x24 : Int32} {x28 : Int32} {x29 : Int32} {xs0 : Int64} {ad : Nat → Nat} {kc ns : Nat} (hx : p.tables.exec = Jvm.exec) (hb : c.code = cL_law) (hr : meth.sig.returnType = (some .boolean)) (hml : c.maxLocals = 37) (hown : s.vm.findClass RL = some m.cls) (hg : ∀ w ∈ wsL_law, w.before args s = true) (hlocks : meth.locks = false) (hK : gK D y aS s) (hA : ∀ q, s.heap.size ≤ q → A q) (hL : ∀ k, k < 179 → k ∈ L) (hfl : l.stackTraces = false) (hZ : gZ A s s.heap) (hX : va_X b Lx xs s s.heap) (hbl : b < s.heap.size) (hA2 : ∀ q, A q → s.heap.size ≤ q) (hres : res = 1) (hL2 : ∀ k ∈ L, k < 179) (hrec221 : ∀ {ad : Nat → Nat} {kc ns : Nat} {σ9 : gS} {x20n9 : Int32} {x21n9 : Int32} (hkc : kc ≤ 183 + 643 * x21n9.toInt.toNat + 0) (hns : ns ≤ 3391 + 81814 * x21n9.toInt.toNat + 0) (hi0 : 0 ≤ x21n9.toInt) (hi8 : x21n9.toInt ≤ 80) (H : Heap) (locs : List Loc) (ls : Array Slot), gY D y A s L ad σ9 H locs → lv_has ls 37 [(0, .ref b), (1, .ref (ad 0)), (2, .ref (ad 161)), (3, .ref (ad 162)), (4, .ref (ad 163)), (5, .ref (ad 164)), (6, .ref (ad 165)), (7, .ref (ad 166)), (8, .ref (ad 167)), (9, .ref (ad 168)), (10, .ref (ad 169)), (11, .ref (ad 170)), (12, .ref (ad 171)), (13, .ref (ad 172)), (14, .ref (ad 173)), (15, .ref (ad 174)), (16, .ref (ad 175)), (17, .ref (ad 176)), (18, .ref (ad 177)), (19, .ref (ad 178)), (20, .int x20n9), (21, .int x21n9)] → rec221 (σ9, x20n9, x21n9) = some res → W p l e room_1 s m args below meth c H locs kc ns (lw_Z below args s) (F0 m 221 ls [])) (hkc : kc ≤ 183 + 643 * x21.toInt.toNat + 0) (hns : ns ≤ 3391 + 81814 * x21.toInt.toNat + 0) (hi0 : 0 ≤ x21.toInt) (hi8 : x21.toInt < 80) {H : Heap} {locs : List Loc} {ls : Array Slot} (hY : gY D y A s L ad σ H locs) (hl : lv_has ls 37 [(0, .ref b), (1, .ref (ad 0)), (2, .ref (ad 161)), (3, .ref (ad 162)), (4, .ref (ad 163)), (5, .ref (ad 164)), (6, .ref (ad 165)), (7, .ref (ad 166)), (8, .ref (ad 167)), (9, .ref (ad 168)), (10, .ref (ad 169)), (11, .ref (ad 170)), (12, .ref (ad 171)), (13, .ref (ad 172)), (14, .ref (ad 173)), (15, .ref (ad 174)), (16, .ref (ad 175)), (17, .ref (ad 176)), (18, .ref (ad 177)), (19, .ref (ad 178)), (21, .int x21), (24, .int x24), (28, .int x28), (29, .int x29)]) (h : fL_law_424 N xs Lx rec221 σ x21 x24 x28 x29 xs0 = some res) : W p l e room_1 s m args below meth c H locs kc ns (lw_Z below args s) (F0 m 424 ls [.long xs0]) := by
  unfold fL_law_424 at h
  refine lv_lstore (lv' := [(30, .long xs0), (0, .ref b), (1, .ref (ad 0)), (2, .ref (ad 161)), (3, .ref (ad 162)), (4, .ref (ad 163)), (5, .ref (ad 164)), (6, .ref (ad 165)), (7, .ref (ad 166)), (8, .ref (ad 167)), (9, .ref (ad 168)), (10, .ref (ad 169)), (11, .ref (ad 170)), (12, .ref (ad 171)), (13, .ref (ad 172)), (14, .ref (ad 173)), (15, .ref (ad 174)), (16, .ref (ad 175)), (17, .ref (ad 176)), (18, .ref (ad 177)), (19, .ref (ad 178)), (21, .int x21), (24, .int x24), (28, .int x28), (29, .int x29)]) hx hb dL_law_424 hl (by decide) rfl ?_
  clear hl
  intro ls hl
  refine lv_iload hx hb dL_law_426 (lv_at hl 22 rfl) ?_
  refine lv_bipush (v := 24) hx hb dL_law_428 (by decide +kernel) ?_
  refine lv_idiv hx hb dL_law_430 (by decide +kernel) ?_
  refine lv_iconst (v := 4) hx hb dL_law_431 (by decide) ?_
  refine lv_irem hx hb dL_law_432 (by decide +kernel) ?_
  refine lv_istore (lv' := [(32, .int ((x24 / 24) - (x24 / 24) / 4 * 4)), (30, .long xs0), (0, .ref b), (1, .ref (ad 0)), (2, .ref (ad 161)), (3, .ref (ad 162)), (4, .ref (ad 163)), (5, .ref (ad 164)), (6, .ref (ad 165)), (7, .ref (ad 166)), (8, .ref (ad 167)), (9, .ref (ad 168)), (10, .ref (ad 169)), (11, .ref (ad 170)), (12, .ref (ad 171)), (13, .ref (ad 172)), (14, .ref (ad 173)), (15, .ref (ad 174)), (16, .ref (ad 175)), (17, .ref (ad 176)), (18, .ref (ad 177)), (19, .ref (ad 178)), (21, .int x21), (24, .int x24), (28, .int x28), (29, .int x29)]) hx hb dL_law_433 hl (by decide) rfl ?_
  clear hl
  intro ls hl
  refine lv_iload hx hb dL_law_435 (lv_at hl 23 rfl) ?_
  refine lv_bipush (v := 96) hx hb dL_law_437 (by decide +kernel) ?_
  refine lv_idiv hx hb dL_law_439 (by decide +kernel) ?_
  refine lv_iconst (v := 3) hx hb dL_law_440 (by decide) ?_
  refine lv_irem hx hb dL_law_441 (by decide +kernel) ?_
  refine lv_if_ne (tgt := 450) hx hb dL_law_442 (by decide) (fun z_1 => ?_) (fun z_1 => ?_)
  ·
    rw [if_neg z_1] at h
    refine lv_iload hx hb dL_law_450 (lv_at hl 0 rfl) ?_
    refine lv_iconst (v := 1) hx hb dL_law_452 (by decide) ?_
    refine lv_iadd hx hb dL_law_453 ?_
    refine lv_iload hx hb dL_law_454 (lv_at hl 23 rfl) ?_
    refine lv_sipush (v := 288) hx hb dL_law_456 (by decide +kernel) ?_
    refine lv_idiv hx hb dL_law_459 (by decide +kernel) ?_
    refine lv_iconst (v := 3) hx hb dL_law_460 (by decide) ?_
    refine lv_irem hx hb dL_law_461 (by decide +kernel) ?_
    refine lv_iadd hx hb dL_law_462 ?_
    refine lv_iconst (v := 4) hx hb dL_law_463 (by decide) ?_
    refine lv_irem hx hb dL_law_464 (by decide +kernel) ?_
    exact wL_law_465 hx hb hr hml hown hg hlocks hK hA hL hfl hZ hX hbl hA2 hres hL2 hrec221 (by first | omega | (simp only [g_l0]; omega)) (by first | omega | (simp only [g_l0]; omega)) (by first | omega | (simp only [g_l0]; omega)) (by first | omega | (simp only [g_l0]; omega)) hY (lv_sub hl [2, 3, 4, 5, 6, 7, 8, 9, 10, 11, 12, 13, 14, 15, 16, 17, 18, 19, 20, 21, 22, 23, 24, 25, 1, 0] rfl) h
  ·
    rw [if_pos z_1] at h
    refine lv_iload hx hb dL_law_445 (lv_at hl 0 rfl) ?_
    refine lv_goto (tgt := 465) hx hb dL_law_447 (by decide) ?_
    exact wL_law_465 hx hb hr hml hown hg hlocks hK hA hL hfl hZ hX hbl hA2 hres hL2 hrec221 (by first | omega | (simp only [g_l0]; omega)) (by first | omega | (simp only [g_l0]; omega)) (by first | omega | (simp only [g_l0]; omega)) (by first | omega | (simp only [g_l0]; omega)) hY (lv_sub hl [2, 3, 4, 5, 6, 7, 8, 9, 10, 11, 12, 13, 14, 15, 16, 17, 18, 19, 20, 21, 22, 23, 24, 25, 1, 0] rfl) h
def fL_law_398 (N : Nat) (xs : Nat → Int32) (Lx : Nat) (rec221 : (gS × Int32 × Int32) → Option Int32) (σ : gS) (x21 : Int32) (x24 : Int32) (x25 : Int64) (x28 : Int32) (xs0 : Int32) : Option Int32 := if 0 ≤ xs0 then (if xs0 < 0 ∨ 24 ≤ xs0.toNatClampNeg then none else ((fL_onto N σ xs0 (σ.2.1 169 xs0.toNatClampNeg)).bind fun r_3 => fL_law_424 N xs Lx rec221 σ x21 x24 x28 xs0 r_3)) else (fL_law_424 N xs Lx rec221 σ x21 x24 x28 xs0 x25)
set_option maxRecDepth 100000 in
set_option maxHeartbeats 1000000 in
theorem wL_law_398 {rec221 : (gS × Int32 × Int32) → Option Int32} {σ : gS} {x21 : Int32} {x24 : Int32} {x25 : Int64} {x28 : Int32} {xs0 : Int32} {ad : Nat → Nat} {kc ns : Nat} (hx : p.tables.exec = Jvm.exec) (hb : c.code = cL_law) (hr : meth.sig.returnType = (some .boolean)) (hml : c.maxLocals = 37) (hown : s.vm.findClass RL = some m.cls) (hg : ∀ w ∈ wsL_law, w.before args s = true) (hlocks : meth.locks = false) (hK : gK D y aS s) (hA : ∀ q, s.heap.size ≤ q → A q) (hL : ∀ k, k < 179 → k ∈ L) (hfl : l.stackTraces = false) (hZ : gZ A s s.heap) (hX : va_X b Lx xs s s.heap) (hbl : b < s.heap.size) (hA2 : ∀ q, A q → s.heap.size ≤ q) (hres : res = 1) (hL2 : ∀ k ∈ L, k < 179) (hrec221 : ∀ {ad : Nat → Nat} {kc ns : Nat} {σ9 : gS} {x20n9 : Int32} {x21n9 : Int32} (hkc : kc ≤ 183 + 643 * x21n9.toInt.toNat + 0) (hns : ns ≤ 3391 + 81814 * x21n9.toInt.toNat + 0) (hi0 : 0 ≤ x21n9.toInt) (hi8 : x21n9.toInt ≤ 80) (H : Heap) (locs : List Loc) (ls : Array Slot), gY D y A s L ad σ9 H locs → lv_has ls 37 [(0, .ref b), (1, .ref (ad 0)), (2, .ref (ad 161)), (3, .ref (ad 162)), (4, .ref (ad 163)), (5, .ref (ad 164)), (6, .ref (ad 165)), (7, .ref (ad 166)), (8, .ref (ad 167)), (9, .ref (ad 168)), (10, .ref (ad 169)), (11, .ref (ad 170)), (12, .ref (ad 171)), (13, .ref (ad 172)), (14, .ref (ad 173)), (15, .ref (ad 174)), (16, .ref (ad 175)), (17, .ref (ad 176)), (18, .ref (ad 177)), (19, .ref (ad 178)), (20, .int x20n9), (21, .int x21n9)] → rec221 (σ9, x20n9, x21n9) = some res → W p l e room_1 s m args below meth c H locs kc ns (lw_Z below args s) (F0 m 221 ls [])) (hkc : kc ≤ 183 + 643 * x21.toInt.toNat + 0) (hns : ns ≤ 3391 + 81814 * x21.toInt.toNat + 0) (hi0 : 0 ≤ x21.toInt) (hi8 : x21.toInt < 80) {H : Heap} {locs : List Loc} {ls : Array Slot} (hY : gY D y A s L ad σ H locs) (hl : lv_has ls 37 [(0, .ref b), (1, .ref (ad 0)), (2, .ref (ad 161)), (3, .ref (ad 162)), (4, .ref (ad 163)), (5, .ref (ad 164)), (6, .ref (ad 165)), (7, .ref (ad 166)), (8, .ref (ad 167)), (9, .ref (ad 168)), (10, .ref (ad 169)), (11, .ref (ad 170)), (12, .ref (ad 171)), (13, .ref (ad 172)), (14, .ref (ad 173)), (15, .ref (ad 174)), (16, .ref (ad 175)), (17, .ref (ad 176)), (18, .ref (ad 177)), (19, .ref (ad 178)), (21, .int x21), (24, .int x24), (25, .long x25), (28, .int x28)]) (h : fL_law_398 N xs Lx rec221 σ x21 x24 x25 x28 xs0 = some res) : W p l e room_1 s m args below meth c H locs kc ns (lw_Z below args s) (F0 m 398 ls [.int xs0]) := by
  unfold fL_law_398 at h
  refine lv_istore (lv' := [(29, .int xs0), (0, .ref b), (1, .ref (ad 0)), (2, .ref (ad 161)), (3, .ref (ad 162)), (4, .ref (ad 163)), (5, .ref (ad 164)), (6, .ref (ad 165)), (7, .ref (ad 166)), (8, .ref (ad 167)), (9, .ref (ad 168)), (10, .ref (ad 169)), (11, .ref (ad 170)), (12, .ref (ad 171)), (13, .ref (ad 172)), (14, .ref (ad 173)), (15, .ref (ad 174)), (16, .ref (ad 175)), (17, .ref (ad 176)), (18, .ref (ad 177)), (19, .ref (ad 178)), (21, .int x21), (24, .int x24), (25, .long x25), (28, .int x28)]) hx hb dL_law_398 hl (by decide) rfl ?_
  clear hl
  intro ls hl
  refine lv_iload hx hb dL_law_400 (lv_at hl 0 rfl) ?_
  refine lv_if_ge (tgt := 410) hx hb dL_law_402 (by decide) (fun z_1 => ?_) (fun z_1 => ?_)
  ·
    rw [if_pos z_1] at h
    have qz_1 := g_get z_1; (try simp only [g_l0, g_l3, g_l6, g_l80] at qz_1)
    refine lv_aload hx hb dL_law_410 (lv_at hl 10 rfl) ?_
    refine lv_aload hx hb dL_law_412 (lv_at hl 12 rfl) ?_
    refine lv_iload hx hb dL_law_414 (lv_at hl 0 rfl) ?_
    refine lv_aload hx hb dL_law_416 (lv_at hl 11 rfl) ?_
    refine lv_iload hx hb dL_law_418 (lv_at hl 0 rfl) ?_
    obtain ⟨z_2, h⟩ := g_guard h
    refine G_lald (j := xs0.toNatClampNeg) hx hb hK hY (hL 169 (by decide)) gk_169 (by rw [gl_169]; exact z_2) rfl dL_law_420 ?_
    obtain ⟨r_3, e_4, h⟩ := g_bind h
    refine G_al hY hA (va_runS (As := [.ref (ad 168), .ref (ad 170), .int xs0, .long (σ.2.1 169 xs0.toNatClampNeg)]) (rest := []) ⟨hx, hb, hml, hown, hg⟩ (kL_onto l D y aS H.size L hL ad N σ xs0 (σ.2.1 169 xs0.toNatClampNeg) _ e_4) (va_cwS 4 hg ggS_RL_49_L_onto rfl rfl rfl (by decide +kernel) ⟨Nat.le_of_ble_eq_true rfl, Nat.le_of_ble_eq_true rfl⟩) (G_pS hK hY) rfl rfl hl.1 rfl (lv_room (Nat.le_of_ble_eq_true rfl)) dL_law_421 ⟨(by first | omega | (show _ ≤ (600086 : Nat); omega) | (show _ ≤ (7301442 : Nat); omega)), (by first | omega | (show _ ≤ (600086 : Nat); omega) | (show _ ≤ (7301442 : Nat); omega))⟩) ?_
    clear hY
    rintro _ H locs rfl hY
    exact wL_law_424 hx hb hr hml hown hg hlocks hK hA hL hfl hZ hX hbl hA2 hres hL2 hrec221 (by first | omega | (simp only [g_l0]; omega)) (by first | omega | (simp only [g_l0]; omega)) (by first | omega | (simp only [g_l0]; omega)) (by first | omega | (simp only [g_l0]; omega)) hY (lv_sub hl [1, 2, 3, 4, 5, 6, 7, 8, 9, 10, 11, 12, 13, 14, 15, 16, 17, 18, 19, 20, 21, 22, 24, 0] rfl) h
  ·
    rw [if_neg z_1] at h
    have qz_1 := g_gef z_1; (try simp only [g_l0, g_l3, g_l6, g_l80] at qz_1)
    refine lv_lload hx hb dL_law_405 (lv_at hl 23 rfl) ?_
    refine lv_goto (tgt := 424) hx hb dL_law_407 (by decide) ?_
    exact wL_law_424 hx hb hr hml hown hg hlocks hK hA hL hfl hZ hX hbl hA2 hres hL2 hrec221 (by first | omega | (simp only [g_l0]; omega)) (by first | omega | (simp only [g_l0]; omega)) (by first | omega | (simp only [g_l0]; omega)) (by first | omega | (simp only [g_l0]; omega)) hY (lv_sub hl [1, 2, 3, 4, 5, 6, 7, 8, 9, 10, 11, 12, 13, 14, 15, 16, 17, 18, 19, 20, 21, 22, 24, 0] rfl) h
def fL_law_397 (N : Nat) (xs : Nat → Int32) (Lx : Nat) (rec221 : (gS × Int32 × Int32) → Option Int32) (σ : gS) (x21 : Int32) (x24 : Int32) (x25 : Int64) (x28 : Int32) : Option Int32 := fL_law_398 N xs Lx rec221 σ x21 x24 x25 x28 (-1)
set_option maxRecDepth 100000 in
set_option maxHeartbeats 1000000 in
theorem wL_law_397 {rec221 : (gS × Int32 × Int32) → Option Int32} {σ : gS} {x21 : Int32} {x24 : Int32} {x25 : Int64} {x28 : Int32} {ad : Nat → Nat} {kc ns : Nat} (hx : p.tables.exec = Jvm.exec) (hb : c.code = cL_law) (hr : meth.sig.returnType = (some .boolean)) (hml : c.maxLocals = 37) (hown : s.vm.findClass RL = some m.cls) (hg : ∀ w ∈ wsL_law, w.before args s = true) (hlocks : meth.locks = false) (hK : gK D y aS s) (hA : ∀ q, s.heap.size ≤ q → A q) (hL : ∀ k, k < 179 → k ∈ L) (hfl : l.stackTraces = false) (hZ : gZ A s s.heap) (hX : va_X b Lx xs s s.heap) (hbl : b < s.heap.size) (hA2 : ∀ q, A q → s.heap.size ≤ q) (hres : res = 1) (hL2 : ∀ k ∈ L, k < 179) (hrec221 : ∀ {ad : Nat → Nat} {kc ns : Nat} {σ9 : gS} {x20n9 : Int32} {x21n9 : Int32} (hkc : kc ≤ 183 + 643 * x21n9.toInt.toNat + 0) (hns : ns ≤ 3391 + 81814 * x21n9.toInt.toNat + 0) (hi0 : 0 ≤ x21n9.toInt) (hi8 : x21n9.toInt ≤ 80) (H : Heap) (locs : List Loc) (ls : Array Slot), gY D y A s L ad σ9 H locs → lv_has ls 37 [(0, .ref b), (1, .ref (ad 0)), (2, .ref (ad 161)), (3, .ref (ad 162)), (4, .ref (ad 163)), (5, .ref (ad 164)), (6, .ref (ad 165)), (7, .ref (ad 166)), (8, .ref (ad 167)), (9, .ref (ad 168)), (10, .ref (ad 169)), (11, .ref (ad 170)), (12, .ref (ad 171)), (13, .ref (ad 172)), (14, .ref (ad 173)), (15, .ref (ad 174)), (16, .ref (ad 175)), (17, .ref (ad 176)), (18, .ref (ad 177)), (19, .ref (ad 178)), (20, .int x20n9), (21, .int x21n9)] → rec221 (σ9, x20n9, x21n9) = some res → W p l e room_1 s m args below meth c H locs kc ns (lw_Z below args s) (F0 m 221 ls [])) (hkc : kc ≤ 183 + 643 * x21.toInt.toNat + 0) (hns : ns ≤ 3391 + 81814 * x21.toInt.toNat + 0) (hi0 : 0 ≤ x21.toInt) (hi8 : x21.toInt < 80) {H : Heap} {locs : List Loc} {ls : Array Slot} (hY : gY D y A s L ad σ H locs) (hl : lv_has ls 37 [(0, .ref b), (1, .ref (ad 0)), (2, .ref (ad 161)), (3, .ref (ad 162)), (4, .ref (ad 163)), (5, .ref (ad 164)), (6, .ref (ad 165)), (7, .ref (ad 166)), (8, .ref (ad 167)), (9, .ref (ad 168)), (10, .ref (ad 169)), (11, .ref (ad 170)), (12, .ref (ad 171)), (13, .ref (ad 172)), (14, .ref (ad 173)), (15, .ref (ad 174)), (16, .ref (ad 175)), (17, .ref (ad 176)), (18, .ref (ad 177)), (19, .ref (ad 178)), (21, .int x21), (24, .int x24), (25, .long x25), (28, .int x28)]) (h : fL_law_397 N xs Lx rec221 σ x21 x24 x25 x28 = some res) : W p l e room_1 s m args below meth c H locs kc ns (lw_Z below args s) (F0 m 397 ls []) := by
  unfold fL_law_397 at h
  refine lv_iconst (v := (-1)) hx hb dL_law_397 (by decide) ?_
  exact wL_law_398 hx hb hr hml hown hg hlocks hK hA hL hfl hZ hX hbl hA2 hres hL2 hrec221 (by first | omega | (simp only [g_l0]; omega)) (by first | omega | (simp only [g_l0]; omega)) (by first | omega | (simp only [g_l0]; omega)) (by first | omega | (simp only [g_l0]; omega)) hY (lv_sub hl [0, 1, 2, 3, 4, 5, 6, 7, 8, 9, 10, 11, 12, 13, 14, 15, 16, 17, 18, 19, 20, 21, 22, 23] rfl) h
def fL_law_343 (N : Nat) (xs : Nat → Int32) (Lx : Nat) (rec221 : (gS × Int32 × Int32) → Option Int32) (σ : gS) (x20 : Int32) (x21 : Int32) (x23 : Int32) (x24 : Int32) (x25 : Int64) (xs0 : Int32) : Option Int32 := if 8 ≤ x23 then (fL_law_804 N xs Lx rec221 σ x20 x21 x23 x24 x25 xs0) else (if 20 ≤ (σ.1 161 0) then (fL_law_804 N xs Lx rec221 σ x20 x21 x23 x24 x25 xs0) else (if ((x24 / 8) - (x24 / 8) / 3 * 3) = 0 then (if (σ.1 161 0) ≤ 0 then (fL_law_397 N xs Lx rec221 σ x21 x24 x25 (x24 - x24 / 8 * 8)) else (if xs0 < 0 ∨ 24 ≤ xs0.toNatClampNeg then none else (if 2 ≤ (σ.1 164 xs0.toNatClampNeg) then (fL_law_397 N xs Lx rec221 σ x21 x24 x25 (x24 - x24 / 8 * 8)) else (fL_law_398 N xs Lx rec221 σ x21 x24 x25 (x24 - x24 / 8 * 8) xs0)))) else (fL_law_397 N xs Lx rec221 σ x21 x24 x25 (x24 - x24 / 8 * 8))))
set_option maxRecDepth 100000 in
set_option maxHeartbeats 1000000 in
theorem wL_law_343 {rec221 : (gS × Int32 × Int32) → Option Int32} {σ : gS} {x20 : Int32} {x21 : Int32} {x23 : Int32} {x24 : Int32} {x25 : Int64} {xs0 : Int32} {ad : Nat → Nat} {kc ns : Nat} (hx : p.tables.exec = Jvm.exec) (hb : c.code = cL_law) (hr : meth.sig.returnType = (some .boolean)) (hml : c.maxLocals = 37) (hown : s.vm.findClass RL = some m.cls) (hg : ∀ w ∈ wsL_law, w.before args s = true) (hlocks : meth.locks = false) (hK : gK D y aS s) (hA : ∀ q, s.heap.size ≤ q → A q) (hL : ∀ k, k < 179 → k ∈ L) (hfl : l.stackTraces = false) (hZ : gZ A s s.heap) (hX : va_X b Lx xs s s.heap) (hbl : b < s.heap.size) (hA2 : ∀ q, A q → s.heap.size ≤ q) (hres : res = 1) (hL2 : ∀ k ∈ L, k < 179) (hrec221 : ∀ {ad : Nat → Nat} {kc ns : Nat} {σ9 : gS} {x20n9 : Int32} {x21n9 : Int32} (hkc : kc ≤ 183 + 643 * x21n9.toInt.toNat + 0) (hns : ns ≤ 3391 + 81814 * x21n9.toInt.toNat + 0) (hi0 : 0 ≤ x21n9.toInt) (hi8 : x21n9.toInt ≤ 80) (H : Heap) (locs : List Loc) (ls : Array Slot), gY D y A s L ad σ9 H locs → lv_has ls 37 [(0, .ref b), (1, .ref (ad 0)), (2, .ref (ad 161)), (3, .ref (ad 162)), (4, .ref (ad 163)), (5, .ref (ad 164)), (6, .ref (ad 165)), (7, .ref (ad 166)), (8, .ref (ad 167)), (9, .ref (ad 168)), (10, .ref (ad 169)), (11, .ref (ad 170)), (12, .ref (ad 171)), (13, .ref (ad 172)), (14, .ref (ad 173)), (15, .ref (ad 174)), (16, .ref (ad 175)), (17, .ref (ad 176)), (18, .ref (ad 177)), (19, .ref (ad 178)), (20, .int x20n9), (21, .int x21n9)] → rec221 (σ9, x20n9, x21n9) = some res → W p l e room_1 s m args below meth c H locs kc ns (lw_Z below args s) (F0 m 221 ls [])) (hkc : kc ≤ 183 + 643 * x21.toInt.toNat + 0) (hns : ns ≤ 3391 + 81814 * x21.toInt.toNat + 0) (hi0 : 0 ≤ x21.toInt) (hi8 : x21.toInt < 80) {H : Heap} {locs : List Loc} {ls : Array Slot} (hY : gY D y A s L ad σ H locs) (hl : lv_has ls 37 [(0, .ref b), (1, .ref (ad 0)), (2, .ref (ad 161)), (3, .ref (ad 162)), (4, .ref (ad 163)), (5, .ref (ad 164)), (6, .ref (ad 165)), (7, .ref (ad 166)), (8, .ref (ad 167)), (9, .ref (ad 168)), (10, .ref (ad 169)), (11, .ref (ad 170)), (12, .ref (ad 171)), (13, .ref (ad 172)), (14, .ref (ad 173)), (15, .ref (ad 174)), (16, .ref (ad 175)), (17, .ref (ad 176)), (18, .ref (ad 177)), (19, .ref (ad 178)), (20, .int x20), (21, .int x21), (23, .int x23), (24, .int x24), (25, .long x25)]) (h : fL_law_343 N xs Lx rec221 σ x20 x21 x23 x24 x25 xs0 = some res) : W p l e room_1 s m args below meth c H locs kc ns (lw_Z below args s) (F0 m 343 ls [.int xs0]) := by
  unfold fL_law_343 at h
  refine lv_istore (lv' := [(27, .int xs0), (0, .ref b), (1, .ref (ad 0)), (2, .ref (ad 161)), (3, .ref (ad 162)), (4, .ref (ad 163)), (5, .ref (ad 164)), (6, .ref (ad 165)), (7, .ref (ad 166)), (8, .ref (ad 167)), (9, .ref (ad 168)), (10, .ref (ad 169)), (11, .ref (ad 170)), (12, .ref (ad 171)), (13, .ref (ad 172)), (14, .ref (ad 173)), (15, .ref (ad 174)), (16, .ref (ad 175)), (17, .ref (ad 176)), (18, .ref (ad 177)), (19, .ref (ad 178)), (20, .int x20), (21, .int x21), (23, .int x23), (24, .int x24), (25, .long x25)]) hx hb dL_law_343 hl (by decide) rfl ?_
  clear hl
  intro ls hl
  refine lv_iload hx hb dL_law_345 (lv_at hl 23 rfl) ?_
  refine lv_bipush (v := 8) hx hb dL_law_347 (by decide +kernel) ?_
  refine lv_icmp_ge (tgt := 804) hx hb dL_law_349 (by decide) (fun z_1 => ?_) (fun z_1 => ?_)
  ·
    rw [if_pos z_1] at h
    have qz_1 := g_get z_1; (try simp only [g_l0, g_l3, g_l6, g_l80] at qz_1)
    exact wL_law_804 hx hb hr hml hown hg hlocks hK hA hL hfl hZ hX hbl hA2 hres hL2 hrec221 (by first | omega | (simp only [g_l0]; omega)) (by first | omega | (simp only [g_l0]; omega)) (by first | omega | (simp only [g_l0]; omega)) (by first | omega | (simp only [g_l0]; omega)) hY (lv_sub hl [1, 2, 3, 4, 5, 6, 7, 8, 9, 10, 11, 12, 13, 14, 15, 16, 17, 18, 19, 20, 21, 22, 23, 24, 25, 0] rfl) h
  ·
    rw [if_neg z_1] at h
    have qz_1 := g_gef z_1; (try simp only [g_l0, g_l3, g_l6, g_l80] at qz_1)
    refine lv_aload_n hx hb dL_law_352 rfl (lv_at hl 3 rfl) ?_
    refine lv_iconst (v := 0) hx hb dL_law_353 (by decide) ?_
    refine G_iald (j := 0) hx hb hK hY (hL 161 (by decide)) gk_161 (by rw [gl_161]; decide +kernel) (by decide +kernel) dL_law_354 ?_
    refine lv_bipush (v := 20) hx hb dL_law_355 (by decide +kernel) ?_
    refine lv_icmp_ge (tgt := 804) hx hb dL_law_357 (by decide) (fun z_2 => ?_) (fun z_2 => ?_)
    ·
      rw [if_pos z_2] at h
      have qz_2 := g_get z_2; (try simp only [g_l0, g_l3, g_l6, g_l80] at qz_2)
      exact wL_law_804 hx hb hr hml hown hg hlocks hK hA hL hfl hZ hX hbl hA2 hres hL2 hrec221 (by first | omega | (simp only [g_l0]; omega)) (by first | omega | (simp only [g_l0]; omega)) (by first | omega | (simp only [g_l0]; omega)) (by first | omega | (simp only [g_l0]; omega)) hY (lv_sub hl [1, 2, 3, 4, 5, 6, 7, 8, 9, 10, 11, 12, 13, 14, 15, 16, 17, 18, 19, 20, 21, 22, 23, 24, 25, 0] rfl) h
    ·
      rw [if_neg z_2] at h
      have qz_2 := g_gef z_2; (try simp only [g_l0, g_l3, g_l6, g_l80] at qz_2)
      refine lv_iload hx hb dL_law_360 (lv_at hl 24 rfl) ?_
      refine lv_bipush (v := 8) hx hb dL_law_362 (by decide +kernel) ?_
      refine lv_irem hx hb dL_law_364 (by decide +kernel) ?_
      refine lv_istore (lv' := [(28, .int (x24 - x24 / 8 * 8)), (27, .int xs0), (0, .ref b), (1, .ref (ad 0)), (2, .ref (ad 161)), (3, .ref (ad 162)), (4, .ref (ad 163)), (5, .ref (ad 164)), (6, .ref (ad 165)), (7, .ref (ad 166)), (8, .ref (ad 167)), (9, .ref (ad 168)), (10, .ref (ad 169)), (11, .ref (ad 170)), (12, .ref (ad 171)), (13, .ref (ad 172)), (14, .ref (ad 173)), (15, .ref (ad 174)), (16, .ref (ad 175)), (17, .ref (ad 176)), (18, .ref (ad 177)), (19, .ref (ad 178)), (20, .int x20), (21, .int x21), (23, .int x23), (24, .int x24), (25, .long x25)]) hx hb dL_law_365 hl (by decide) rfl ?_
      clear hl
      intro ls hl
      refine lv_iload hx hb dL_law_367 (lv_at hl 25 rfl) ?_
      refine lv_bipush (v := 8) hx hb dL_law_369 (by decide +kernel) ?_
      refine lv_idiv hx hb dL_law_371 (by decide +kernel) ?_
      refine lv_iconst (v := 3) hx hb dL_law_372 (by decide) ?_
      refine lv_irem hx hb dL_law_373 (by decide +kernel) ?_
      refine lv_if_ne (tgt := 397) hx hb dL_law_374 (by decide) (fun z_3 => ?_) (fun z_3 => ?_)
      ·
        rw [if_neg z_3] at h
        exact wL_law_397 hx hb hr hml hown hg hlocks hK hA hL hfl hZ hX hbl hA2 hres hL2 hrec221 (by first | omega | (simp only [g_l0]; omega)) (by first | omega | (simp only [g_l0]; omega)) (by first | omega | (simp only [g_l0]; omega)) (by first | omega | (simp only [g_l0]; omega)) hY (lv_sub hl [2, 3, 4, 5, 6, 7, 8, 9, 10, 11, 12, 13, 14, 15, 16, 17, 18, 19, 20, 21, 23, 25, 26, 0] rfl) h
      ·
        rw [if_pos z_3] at h
        refine lv_aload_n hx hb dL_law_377 rfl (lv_at hl 4 rfl) ?_
        refine lv_iconst (v := 0) hx hb dL_law_378 (by decide) ?_
        refine G_iald (j := 0) hx hb hK hY (hL 161 (by decide)) gk_161 (by rw [gl_161]; decide +kernel) (by decide +kernel) dL_law_379 ?_
        refine lv_if_le (tgt := 397) hx hb dL_law_380 (by decide) (fun z_4 => ?_) (fun z_4 => ?_)
        ·
          rw [if_pos z_4] at h
          have qz_4 := g_let z_4; (try simp only [g_l0, g_l3, g_l6, g_l80] at qz_4)
          exact wL_law_397 hx hb hr hml hown hg hlocks hK hA hL hfl hZ hX hbl hA2 hres hL2 hrec221 (by first | omega | (simp only [g_l0]; omega)) (by first | omega | (simp only [g_l0]; omega)) (by first | omega | (simp only [g_l0]; omega)) (by first | omega | (simp only [g_l0]; omega)) hY (lv_sub hl [2, 3, 4, 5, 6, 7, 8, 9, 10, 11, 12, 13, 14, 15, 16, 17, 18, 19, 20, 21, 23, 25, 26, 0] rfl) h
        ·
          rw [if_neg z_4] at h
          have qz_4 := g_lef z_4; (try simp only [g_l0, g_l3, g_l6, g_l80] at qz_4)
          refine lv_aload hx hb dL_law_383 (lv_at hl 7 rfl) ?_
          refine lv_iload hx hb dL_law_385 (lv_at hl 1 rfl) ?_
          obtain ⟨z_5, h⟩ := g_guard h
          refine G_iald (j := xs0.toNatClampNeg) hx hb hK hY (hL 164 (by decide)) gk_164 (by rw [gl_164]; exact z_5) rfl dL_law_387 ?_
          refine lv_iconst (v := 2) hx hb dL_law_388 (by decide) ?_
          refine lv_icmp_ge (tgt := 397) hx hb dL_law_389 (by decide) (fun z_6 => ?_) (fun z_6 => ?_)
          ·
            rw [if_pos z_6] at h
            have qz_6 := g_get z_6; (try simp only [g_l0, g_l3, g_l6, g_l80] at qz_6)
            exact wL_law_397 hx hb hr hml hown hg hlocks hK hA hL hfl hZ hX hbl hA2 hres hL2 hrec221 (by first | omega | (simp only [g_l0]; omega)) (by first | omega | (simp only [g_l0]; omega)) (by first | omega | (simp only [g_l0]; omega)) (by first | omega | (simp only [g_l0]; omega)) hY (lv_sub hl [2, 3, 4, 5, 6, 7, 8, 9, 10, 11, 12, 13, 14, 15, 16, 17, 18, 19, 20, 21, 23, 25, 26, 0] rfl) h
          ·
            rw [if_neg z_6] at h
            have qz_6 := g_gef z_6; (try simp only [g_l0, g_l3, g_l6, g_l80] at qz_6)
            refine lv_iload hx hb dL_law_392 (lv_at hl 1 rfl) ?_
            refine lv_goto (tgt := 398) hx hb dL_law_394 (by decide) ?_
            exact wL_law_398 hx hb hr hml hown hg hlocks hK hA hL hfl hZ hX hbl hA2 hres hL2 hrec221 (by first | omega | (simp only [g_l0]; omega)) (by first | omega | (simp only [g_l0]; omega)) (by first | omega | (simp only [g_l0]; omega)) (by first | omega | (simp only [g_l0]; omega)) hY (lv_sub hl [2, 3, 4, 5, 6, 7, 8, 9, 10, 11, 12, 13, 14, 15, 16, 17, 18, 19, 20, 21, 23, 25, 26, 0] rfl) h
def fL_law_308 (N : Nat) (xs : Nat → Int32) (Lx : Nat) (rec221 : (gS × Int32 × Int32) → Option Int32) (σ : gS) (x20 : Int32) (x21 : Int32) (x22 : Int32) (xs0 : Int32) : Option Int32 := if ((σ.1 161 1) - 1) < 0 ∨ 26 ≤ ((σ.1 161 1) - 1).toNatClampNeg then none else (if (σ.1 161 0) = 0 then (fL_law_343 N xs Lx rec221 σ x20 x21 xs0 (x22 / 26) (σ.2.1 171 (((σ.1 161 1) - 1).toNatClampNeg)) 0) else (if (σ.1 161 0) = 0 then none else (fL_law_343 N xs Lx rec221 σ x20 x21 xs0 (x22 / 26) (σ.2.1 171 (((σ.1 161 1) - 1).toNatClampNeg)) ((x22 / 26) - (x22 / 26) / (σ.1 161 0) * (σ.1 161 0)))))
set_option maxRecDepth 100000 in
set_option maxHeartbeats 1000000 in
theorem wL_law_308 {rec221 : (gS × Int32 × Int32) → Option Int32} {σ : gS} {x20 : Int32} {x21 : Int32} {x22 : Int32} {xs0 : Int32} {ad : Nat → Nat} {kc ns : Nat} (hx : p.tables.exec = Jvm.exec) (hb : c.code = cL_law) (hr : meth.sig.returnType = (some .boolean)) (hml : c.maxLocals = 37) (hown : s.vm.findClass RL = some m.cls) (hg : ∀ w ∈ wsL_law, w.before args s = true) (hlocks : meth.locks = false) (hK : gK D y aS s) (hA : ∀ q, s.heap.size ≤ q → A q) (hL : ∀ k, k < 179 → k ∈ L) (hfl : l.stackTraces = false) (hZ : gZ A s s.heap) (hX : va_X b Lx xs s s.heap) (hbl : b < s.heap.size) (hA2 : ∀ q, A q → s.heap.size ≤ q) (hres : res = 1) (hL2 : ∀ k ∈ L, k < 179) (hrec221 : ∀ {ad : Nat → Nat} {kc ns : Nat} {σ9 : gS} {x20n9 : Int32} {x21n9 : Int32} (hkc : kc ≤ 183 + 643 * x21n9.toInt.toNat + 0) (hns : ns ≤ 3391 + 81814 * x21n9.toInt.toNat + 0) (hi0 : 0 ≤ x21n9.toInt) (hi8 : x21n9.toInt ≤ 80) (H : Heap) (locs : List Loc) (ls : Array Slot), gY D y A s L ad σ9 H locs → lv_has ls 37 [(0, .ref b), (1, .ref (ad 0)), (2, .ref (ad 161)), (3, .ref (ad 162)), (4, .ref (ad 163)), (5, .ref (ad 164)), (6, .ref (ad 165)), (7, .ref (ad 166)), (8, .ref (ad 167)), (9, .ref (ad 168)), (10, .ref (ad 169)), (11, .ref (ad 170)), (12, .ref (ad 171)), (13, .ref (ad 172)), (14, .ref (ad 173)), (15, .ref (ad 174)), (16, .ref (ad 175)), (17, .ref (ad 176)), (18, .ref (ad 177)), (19, .ref (ad 178)), (20, .int x20n9), (21, .int x21n9)] → rec221 (σ9, x20n9, x21n9) = some res → W p l e room_1 s m args below meth c H locs kc ns (lw_Z below args s) (F0 m 221 ls [])) (hkc : kc ≤ 183 + 643 * x21.toInt.toNat + 0) (hns : ns ≤ 3391 + 81814 * x21.toInt.toNat + 0) (hi0 : 0 ≤ x21.toInt) (hi8 : x21.toInt < 80) {H : Heap} {locs : List Loc} {ls : Array Slot} (hY : gY D y A s L ad σ H locs) (hl : lv_has ls 37 [(0, .ref b), (1, .ref (ad 0)), (2, .ref (ad 161)), (3, .ref (ad 162)), (4, .ref (ad 163)), (5, .ref (ad 164)), (6, .ref (ad 165)), (7, .ref (ad 166)), (8, .ref (ad 167)), (9, .ref (ad 168)), (10, .ref (ad 169)), (11, .ref (ad 170)), (12, .ref (ad 171)), (13, .ref (ad 172)), (14, .ref (ad 173)), (15, .ref (ad 174)), (16, .ref (ad 175)), (17, .ref (ad 176)), (18, .ref (ad 177)), (19, .ref (ad 178)), (20, .int x20), (21, .int x21), (22, .int x22)]) (h : fL_law_308 N xs Lx rec221 σ x20 x21 x22 xs0 = some res) : W p l e room_1 s m args below meth c H locs kc ns (lw_Z below args s) (F0 m 308 ls [.int xs0]) := by
  unfold fL_law_308 at h
  refine lv_istore (lv' := [(23, .int xs0), (0, .ref b), (1, .ref (ad 0)), (2, .ref (ad 161)), (3, .ref (ad 162)), (4, .ref (ad 163)), (5, .ref (ad 164)), (6, .ref (ad 165)), (7, .ref (ad 166)), (8, .ref (ad 167)), (9, .ref (ad 168)), (10, .ref (ad 169)), (11, .ref (ad 170)), (12, .ref (ad 171)), (13, .ref (ad 172)), (14, .ref (ad 173)), (15, .ref (ad 174)), (16, .ref (ad 175)), (17, .ref (ad 176)), (18, .ref (ad 177)), (19, .ref (ad 178)), (20, .int x20), (21, .int x21), (22, .int x22)]) hx hb dL_law_308 hl (by decide) rfl ?_
  clear hl
  intro ls hl
  refine lv_iload hx hb dL_law_310 (lv_at hl 23 rfl) ?_
  refine lv_bipush (v := 26) hx hb dL_law_312 (by decide +kernel) ?_
  refine lv_idiv hx hb dL_law_314 (by decide +kernel) ?_
  refine lv_istore (lv' := [(24, .int (x22 / 26)), (23, .int xs0), (0, .ref b), (1, .ref (ad 0)), (2, .ref (ad 161)), (3, .ref (ad 162)), (4, .ref (ad 163)), (5, .ref (ad 164)), (6, .ref (ad 165)), (7, .ref (ad 166)), (8, .ref (ad 167)), (9, .ref (ad 168)), (10, .ref (ad 169)), (11, .ref (ad 170)), (12, .ref (ad 171)), (13, .ref (ad 172)), (14, .ref (ad 173)), (15, .ref (ad 174)), (16, .ref (ad 175)), (17, .ref (ad 176)), (18, .ref (ad 177)), (19, .ref (ad 178)), (20, .int x20), (21, .int x21), (22, .int x22)]) hx hb dL_law_315 hl (by decide) rfl ?_
  clear hl
  intro ls hl
  refine lv_aload hx hb dL_law_317 (lv_at hl 14 rfl) ?_
  refine lv_aload_n hx hb dL_law_319 rfl (lv_at hl 4 rfl) ?_
  refine lv_iconst (v := 1) hx hb dL_law_320 (by decide) ?_
  refine G_iald (j := 1) hx hb hK hY (hL 161 (by decide)) gk_161 (by rw [gl_161]; decide +kernel) (by decide +kernel) dL_law_321 ?_
  refine lv_iconst (v := 1) hx hb dL_law_322 (by decide) ?_
  refine lv_isub hx hb dL_law_323 ?_
  obtain ⟨z_1, h⟩ := g_guard h
  refine G_lald (j := ((σ.1 161 1) - 1).toNatClampNeg) hx hb hK hY (hL 171 (by decide)) gk_171 (by rw [gl_171]; exact z_1) rfl dL_law_324 ?_
  refine lv_lstore (lv' := [(25, .long (σ.2.1 171 (((σ.1 161 1) - 1).toNatClampNeg))), (24, .int (x22 / 26)), (23, .int xs0), (0, .ref b), (1, .ref (ad 0)), (2, .ref (ad 161)), (3, .ref (ad 162)), (4, .ref (ad 163)), (5, .ref (ad 164)), (6, .ref (ad 165)), (7, .ref (ad 166)), (8, .ref (ad 167)), (9, .ref (ad 168)), (10, .ref (ad 169)), (11, .ref (ad 170)), (12, .ref (ad 171)), (13, .ref (ad 172)), (14, .ref (ad 173)), (15, .ref (ad 174)), (16, .ref (ad 175)), (17, .ref (ad 176)), (18, .ref (ad 177)), (19, .ref (ad 178)), (20, .int x20), (21, .int x21), (22, .int x22)]) hx hb dL_law_325 hl (by decide) rfl ?_
  clear hl
  intro ls hl
  refine lv_aload_n hx hb dL_law_327 rfl (lv_at hl 5 rfl) ?_
  refine lv_iconst (v := 0) hx hb dL_law_328 (by decide) ?_
  refine G_iald (j := 0) hx hb hK hY (hL 161 (by decide)) gk_161 (by rw [gl_161]; decide +kernel) (by decide +kernel) dL_law_329 ?_
  refine lv_if_ne (tgt := 337) hx hb dL_law_330 (by decide) (fun z_2 => ?_) (fun z_2 => ?_)
  ·
    rw [if_neg z_2] at h
    refine lv_iload hx hb dL_law_337 (lv_at hl 1 rfl) ?_
    refine lv_aload_n hx hb dL_law_339 rfl (lv_at hl 5 rfl) ?_
    refine lv_iconst (v := 0) hx hb dL_law_340 (by decide) ?_
    refine G_iald (j := 0) hx hb hK hY (hL 161 (by decide)) gk_161 (by rw [gl_161]; decide +kernel) (by decide +kernel) dL_law_341 ?_
    obtain ⟨z_3, h⟩ := g_guard h
    refine lv_irem hx hb dL_law_342 z_3 ?_
    exact wL_law_343 hx hb hr hml hown hg hlocks hK hA hL hfl hZ hX hbl hA2 hres hL2 hrec221 (by first | omega | (simp only [g_l0]; omega)) (by first | omega | (simp only [g_l0]; omega)) (by first | omega | (simp only [g_l0]; omega)) (by first | omega | (simp only [g_l0]; omega)) hY (lv_sub hl [3, 4, 5, 6, 7, 8, 9, 10, 11, 12, 13, 14, 15, 16, 17, 18, 19, 20, 21, 22, 23, 24, 2, 1, 0] rfl) h
  ·
    rw [if_pos z_2] at h
    refine lv_iconst (v := 0) hx hb dL_law_333 (by decide) ?_
    refine lv_goto (tgt := 343) hx hb dL_law_334 (by decide) ?_
    exact wL_law_343 hx hb hr hml hown hg hlocks hK hA hL hfl hZ hX hbl hA2 hres hL2 hrec221 (by first | omega | (simp only [g_l0]; omega)) (by first | omega | (simp only [g_l0]; omega)) (by first | omega | (simp only [g_l0]; omega)) (by first | omega | (simp only [g_l0]; omega)) hY (lv_sub hl [3, 4, 5, 6, 7, 8, 9, 10, 11, 12, 13, 14, 15, 16, 17, 18, 19, 20, 21, 22, 23, 24, 2, 1, 0] rfl) h
def fL_law_279 (N : Nat) (xs : Nat → Int32) (Lx : Nat) (rec221 : (gS × Int32 × Int32) → Option Int32) (σ : gS) (x20 : Int32) (x21 : Int32) (xs0 : Int32) : Option Int32 := if 3 ≤ x21 then (if x21 = 3 then (fL_law_308 N xs Lx rec221 σ x20 x21 xs0 16) else (fL_law_308 N xs Lx rec221 σ x20 x21 xs0 (xs0 - xs0 / 26 * 26))) else (fL_law_308 N xs Lx rec221 σ x20 x21 xs0 9)
set_option maxRecDepth 100000 in
set_option maxHeartbeats 1000000 in
theorem wL_law_279 {rec221 : (gS × Int32 × Int32) → Option Int32} {σ : gS} {x20 : Int32} {x21 : Int32} {xs0 : Int32} {ad : Nat → Nat} {kc ns : Nat} (hx : p.tables.exec = Jvm.exec) (hb : c.code = cL_law) (hr : meth.sig.returnType = (some .boolean)) (hml : c.maxLocals = 37) (hown : s.vm.findClass RL = some m.cls) (hg : ∀ w ∈ wsL_law, w.before args s = true) (hlocks : meth.locks = false) (hK : gK D y aS s) (hA : ∀ q, s.heap.size ≤ q → A q) (hL : ∀ k, k < 179 → k ∈ L) (hfl : l.stackTraces = false) (hZ : gZ A s s.heap) (hX : va_X b Lx xs s s.heap) (hbl : b < s.heap.size) (hA2 : ∀ q, A q → s.heap.size ≤ q) (hres : res = 1) (hL2 : ∀ k ∈ L, k < 179) (hrec221 : ∀ {ad : Nat → Nat} {kc ns : Nat} {σ9 : gS} {x20n9 : Int32} {x21n9 : Int32} (hkc : kc ≤ 183 + 643 * x21n9.toInt.toNat + 0) (hns : ns ≤ 3391 + 81814 * x21n9.toInt.toNat + 0) (hi0 : 0 ≤ x21n9.toInt) (hi8 : x21n9.toInt ≤ 80) (H : Heap) (locs : List Loc) (ls : Array Slot), gY D y A s L ad σ9 H locs → lv_has ls 37 [(0, .ref b), (1, .ref (ad 0)), (2, .ref (ad 161)), (3, .ref (ad 162)), (4, .ref (ad 163)), (5, .ref (ad 164)), (6, .ref (ad 165)), (7, .ref (ad 166)), (8, .ref (ad 167)), (9, .ref (ad 168)), (10, .ref (ad 169)), (11, .ref (ad 170)), (12, .ref (ad 171)), (13, .ref (ad 172)), (14, .ref (ad 173)), (15, .ref (ad 174)), (16, .ref (ad 175)), (17, .ref (ad 176)), (18, .ref (ad 177)), (19, .ref (ad 178)), (20, .int x20n9), (21, .int x21n9)] → rec221 (σ9, x20n9, x21n9) = some res → W p l e room_1 s m args below meth c H locs kc ns (lw_Z below args s) (F0 m 221 ls [])) (hkc : kc ≤ 183 + 643 * x21.toInt.toNat + 0) (hns : ns ≤ 3391 + 81814 * x21.toInt.toNat + 0) (hi0 : 0 ≤ x21.toInt) (hi8 : x21.toInt < 80) {H : Heap} {locs : List Loc} {ls : Array Slot} (hY : gY D y A s L ad σ H locs) (hl : lv_has ls 37 [(0, .ref b), (1, .ref (ad 0)), (2, .ref (ad 161)), (3, .ref (ad 162)), (4, .ref (ad 163)), (5, .ref (ad 164)), (6, .ref (ad 165)), (7, .ref (ad 166)), (8, .ref (ad 167)), (9, .ref (ad 168)), (10, .ref (ad 169)), (11, .ref (ad 170)), (12, .ref (ad 171)), (13, .ref (ad 172)), (14, .ref (ad 173)), (15, .ref (ad 174)), (16, .ref (ad 175)), (17, .ref (ad 176)), (18, .ref (ad 177)), (19, .ref (ad 178)), (20, .int x20), (21, .int x21)]) (h : fL_law_279 N xs Lx rec221 σ x20 x21 xs0 = some res) : W p l e room_1 s m args below meth c H locs kc ns (lw_Z below args s) (F0 m 279 ls [.int xs0]) := by
  unfold fL_law_279 at h
  refine lv_istore (lv' := [(22, .int xs0), (0, .ref b), (1, .ref (ad 0)), (2, .ref (ad 161)), (3, .ref (ad 162)), (4, .ref (ad 163)), (5, .ref (ad 164)), (6, .ref (ad 165)), (7, .ref (ad 166)), (8, .ref (ad 167)), (9, .ref (ad 168)), (10, .ref (ad 169)), (11, .ref (ad 170)), (12, .ref (ad 171)), (13, .ref (ad 172)), (14, .ref (ad 173)), (15, .ref (ad 174)), (16, .ref (ad 175)), (17, .ref (ad 176)), (18, .ref (ad 177)), (19, .ref (ad 178)), (20, .int x20), (21, .int x21)]) hx hb dL_law_279 hl (by decide) rfl ?_
  clear hl
  intro ls hl
  refine lv_iload hx hb dL_law_281 (lv_at hl 22 rfl) ?_
  refine lv_iconst (v := 3) hx hb dL_law_283 (by decide) ?_
  refine lv_icmp_ge (tgt := 292) hx hb dL_law_284 (by decide) (fun z_1 => ?_) (fun z_1 => ?_)
  ·
    rw [if_pos z_1] at h
    have qz_1 := g_get z_1; (try simp only [g_l0, g_l3, g_l6, g_l80] at qz_1)
    refine lv_iload hx hb dL_law_292 (lv_at hl 22 rfl) ?_
    refine lv_iconst (v := 3) hx hb dL_law_294 (by decide) ?_
    refine lv_icmp_ne (tgt := 303) hx hb dL_law_295 (by decide) (fun z_2 => ?_) (fun z_2 => ?_)
    ·
      rw [if_neg z_2] at h
      refine lv_iload hx hb dL_law_303 (lv_at hl 0 rfl) ?_
      refine lv_bipush (v := 26) hx hb dL_law_305 (by decide +kernel) ?_
      refine lv_irem hx hb dL_law_307 (by decide +kernel) ?_
      exact wL_law_308 hx hb hr hml hown hg hlocks hK hA hL hfl hZ hX hbl hA2 hres hL2 hrec221 (by first | omega | (simp only [g_l0]; omega)) (by first | omega | (simp only [g_l0]; omega)) (by first | omega | (simp only [g_l0]; omega)) (by first | omega | (simp only [g_l0]; omega)) hY (lv_sub hl [1, 2, 3, 4, 5, 6, 7, 8, 9, 10, 11, 12, 13, 14, 15, 16, 17, 18, 19, 20, 21, 22, 0] rfl) h
    ·
      rw [if_pos z_2] at h
      refine lv_bipush (v := 16) hx hb dL_law_298 (by decide +kernel) ?_
      refine lv_goto (tgt := 308) hx hb dL_law_300 (by decide) ?_
      exact wL_law_308 hx hb hr hml hown hg hlocks hK hA hL hfl hZ hX hbl hA2 hres hL2 hrec221 (by first | omega | (simp only [g_l0]; omega)) (by first | omega | (simp only [g_l0]; omega)) (by first | omega | (simp only [g_l0]; omega)) (by first | omega | (simp only [g_l0]; omega)) hY (lv_sub hl [1, 2, 3, 4, 5, 6, 7, 8, 9, 10, 11, 12, 13, 14, 15, 16, 17, 18, 19, 20, 21, 22, 0] rfl) h
  ·
    rw [if_neg z_1] at h
    have qz_1 := g_gef z_1; (try simp only [g_l0, g_l3, g_l6, g_l80] at qz_1)
    refine lv_bipush (v := 9) hx hb dL_law_287 (by decide +kernel) ?_
    refine lv_goto (tgt := 308) hx hb dL_law_289 (by decide) ?_
    exact wL_law_308 hx hb hr hml hown hg hlocks hK hA hL hfl hZ hX hbl hA2 hres hL2 hrec221 (by first | omega | (simp only [g_l0]; omega)) (by first | omega | (simp only [g_l0]; omega)) (by first | omega | (simp only [g_l0]; omega)) (by first | omega | (simp only [g_l0]; omega)) hY (lv_sub hl [1, 2, 3, 4, 5, 6, 7, 8, 9, 10, 11, 12, 13, 14, 15, 16, 17, 18, 19, 20, 21, 22, 0] rfl) h
def fL_law_221 (N : Nat) (xs : Nat → Int32) (Lx : Nat) (rec221 : (gS × Int32 × Int32) → Option Int32) (xx : gS × Int32 × Int32) : Option Int32 := match xx with
  | (σ, x20, x21) => if 80 ≤ x21 then (fL_law_2765 N xs Lx σ x20) else (if x20 = 0 then (fL_law_2765 N xs Lx σ x20) else (if 50 ≤ (σ.1 161 4) then (fL_law_2765 N xs Lx σ x20) else (if (Int32.ofNat Lx) ≤ x21 then (fL_law_279 N xs Lx rec221 σ x20 x21 (((((37019 * x21) * x21) + (8017 * x21)) + 23) &&& 2147483647)) else (if x21 < 0 ∨ Lx ≤ x21.toNatClampNeg then none else (fL_law_279 N xs Lx rec221 σ x20 x21 ((xs x21.toNatClampNeg) &&& 2147483647))))))
set_option maxRecDepth 100000 in
set_option maxHeartbeats 1000000 in
theorem wL_law_221 (hx : p.tables.exec = Jvm.exec) (hb : c.code = cL_law) (hr : meth.sig.returnType = (some .boolean)) (hml : c.maxLocals = 37) (hown : s.vm.findClass RL = some m.cls) (hg : ∀ w ∈ wsL_law, w.before args s = true) (hlocks : meth.locks = false) (hK : gK D y aS s) (hA : ∀ q, s.heap.size ≤ q → A q) (hL : ∀ k, k < 179 → k ∈ L) (hfl : l.stackTraces = false) (hZ : gZ A s s.heap) (hX : va_X b Lx xs s s.heap) (hbl : b < s.heap.size) (hA2 : ∀ q, A q → s.heap.size ≤ q) (hres : res = 1) (hL2 : ∀ k ∈ L, k < 179) : ∀ (n : Nat) {ad : Nat → Nat} {kc ns : Nat} {σ : gS} {x20 : Int32} {x21 : Int32} (hkc : kc ≤ 183 + 643 * x21.toInt.toNat + 0) (hns : ns ≤ 3391 + 81814 * x21.toInt.toNat + 0) (hi0 : 0 ≤ x21.toInt) (hi8 : x21.toInt ≤ 80) (H : Heap) (locs : List Loc) (ls : Array Slot), gY D y A s L ad σ H locs → lv_has ls 37 [(0, .ref b), (1, .ref (ad 0)), (2, .ref (ad 161)), (3, .ref (ad 162)), (4, .ref (ad 163)), (5, .ref (ad 164)), (6, .ref (ad 165)), (7, .ref (ad 166)), (8, .ref (ad 167)), (9, .ref (ad 168)), (10, .ref (ad 169)), (11, .ref (ad 170)), (12, .ref (ad 171)), (13, .ref (ad 172)), (14, .ref (ad 173)), (15, .ref (ad 174)), (16, .ref (ad 175)), (17, .ref (ad 176)), (18, .ref (ad 177)), (19, .ref (ad 178)), (20, .int x20), (21, .int x21)] → lp (fL_law_221 N xs Lx) n (σ, x20, x21) = some res → W p l e room_1 s m args below meth c H locs kc ns (lw_Z below args s) (F0 m 221 ls []) := by
  intro n
  induction n with
  | zero => intro ad kc ns σ x20 x21 hkc hns hi0 hi8 H locs ls hY hl h; exact nomatch (show none = some res from h)
  | succ n hrec221 =>
    intro ad kc ns σ x20 x21 hkc hns hi0 hi8 H locs ls hY hl h
    replace h : fL_law_221 N xs Lx (lp (fL_law_221 N xs Lx) n) (σ, x20, x21) = some res := h
    generalize lp (fL_law_221 N xs Lx) n = rec221 at h hrec221
    unfold fL_law_221 at h
    try dsimp only at h
    refine lv_iload hx hb dL_law_221 (lv_at hl 21 rfl) ?_
    refine lv_bipush (v := 80) hx hb dL_law_223 (by decide +kernel) ?_
    refine lv_icmp_ge (tgt := 2765) hx hb dL_law_225 (by decide) (fun z_1 => ?_) (fun z_1 => ?_)
    ·
      rw [if_pos z_1] at h
      have qz_1 := g_get z_1; (try simp only [g_l0, g_l3, g_l6, g_l80] at qz_1)
      exact wL_law_2765 hx hb hr hml hown hg hlocks hK hA hL hfl hZ hX hbl hA2 hres hL2 (by first | omega | (simp only [g_l0]; omega)) (by first | omega | (simp only [g_l0]; omega)) hY (lv_sub hl [1, 2, 3, 4, 5, 6, 7, 8, 9, 10, 11, 12, 13, 14, 15, 16, 17, 19, 20] rfl) h
    ·
      rw [if_neg z_1] at h
      have qz_1 := g_gef z_1; (try simp only [g_l0, g_l3, g_l6, g_l80] at qz_1)
      refine lv_iload hx hb dL_law_228 (lv_at hl 20 rfl) ?_
      refine lv_if_eq (tgt := 2765) hx hb dL_law_230 (by decide) (fun z_2 => ?_) (fun z_2 => ?_)
      ·
        rw [if_pos z_2] at h
        exact wL_law_2765 hx hb hr hml hown hg hlocks hK hA hL hfl hZ hX hbl hA2 hres hL2 (by first | omega | (simp only [g_l0]; omega)) (by first | omega | (simp only [g_l0]; omega)) hY (lv_sub hl [1, 2, 3, 4, 5, 6, 7, 8, 9, 10, 11, 12, 13, 14, 15, 16, 17, 19, 20] rfl) h
      ·
        rw [if_neg z_2] at h
        refine lv_aload_n hx hb dL_law_233 rfl (lv_at hl 2 rfl) ?_
        refine lv_iconst (v := 4) hx hb dL_law_234 (by decide) ?_
        refine G_iald (j := 4) hx hb hK hY (hL 161 (by decide)) gk_161 (by rw [gl_161]; decide +kernel) (by decide +kernel) dL_law_235 ?_
        refine lv_bipush (v := 50) hx hb dL_law_236 (by decide +kernel) ?_
        refine lv_icmp_ge (tgt := 2765) hx hb dL_law_238 (by decide) (fun z_3 => ?_) (fun z_3 => ?_)
        ·
          rw [if_pos z_3] at h
          have qz_3 := g_get z_3; (try simp only [g_l0, g_l3, g_l6, g_l80] at qz_3)
          exact wL_law_2765 hx hb hr hml hown hg hlocks hK hA hL hfl hZ hX hbl hA2 hres hL2 (by first | omega | (simp only [g_l0]; omega)) (by first | omega | (simp only [g_l0]; omega)) hY (lv_sub hl [1, 2, 3, 4, 5, 6, 7, 8, 9, 10, 11, 12, 13, 14, 15, 16, 17, 19, 20] rfl) h
        ·
          rw [if_neg z_3] at h
          have qz_3 := g_gef z_3; (try simp only [g_l0, g_l3, g_l6, g_l80] at qz_3)
          refine lv_iload hx hb dL_law_241 (lv_at hl 21 rfl) ?_
          refine lv_aload_n hx hb dL_law_243 rfl (lv_at hl 0 rfl) ?_
          refine va_slen hx hb hX hbl (fun h9 => absurd (hA2 _ h9) (Nat.not_le.mpr hbl)) hY.2.2 dL_law_244 ?_
          refine lv_icmp_ge (tgt := 258) hx hb dL_law_245 (by decide) (fun z_4 => ?_) (fun z_4 => ?_)
          ·
            rw [if_pos z_4] at h
            have qz_4 := g_get z_4; (try simp only [g_l0, g_l3, g_l6, g_l80] at qz_4)
            refine lv_ldc (v := 37019) hx hb hown (hg _ gw_6) dL_law_258 ?_
            refine lv_iload hx hb dL_law_260 (lv_at hl 21 rfl) ?_
            refine lv_imul hx hb dL_law_262 ?_
            refine lv_iload hx hb dL_law_263 (lv_at hl 21 rfl) ?_
            refine lv_imul hx hb dL_law_265 ?_
            refine lv_sipush (v := 8017) hx hb dL_law_266 (by decide +kernel) ?_
            refine lv_iload hx hb dL_law_269 (lv_at hl 21 rfl) ?_
            refine lv_imul hx hb dL_law_271 ?_
            refine lv_iadd hx hb dL_law_272 ?_
            refine lv_bipush (v := 23) hx hb dL_law_273 (by decide +kernel) ?_
            refine lv_iadd hx hb dL_law_275 ?_
            refine lv_ldc (v := 2147483647) hx hb hown (hg _ gw_5) dL_law_276 ?_
            refine lv_iand hx hb dL_law_278 ?_
            exact wL_law_279 hx hb hr hml hown hg hlocks hK hA hL hfl hZ hX hbl hA2 hres hL2 hrec221 (by first | omega | (simp only [g_l0]; omega)) (by first | omega | (simp only [g_l0]; omega)) (by first | omega | (simp only [g_l0]; omega)) (by first | omega | (simp only [g_l0]; omega)) hY (lv_sub hl [0, 1, 2, 3, 4, 5, 6, 7, 8, 9, 10, 11, 12, 13, 14, 15, 16, 17, 18, 19, 20, 21] rfl) h
          ·
            rw [if_neg z_4] at h
            have qz_4 := g_gef z_4; (try simp only [g_l0, g_l3, g_l6, g_l80] at qz_4)
            refine lv_aload_n hx hb dL_law_248 rfl (lv_at hl 0 rfl) ?_
            refine lv_iload hx hb dL_law_249 (lv_at hl 21 rfl) ?_
            obtain ⟨z_5, h⟩ := g_guard h
            refine va_sld hx hb hX hbl (fun h9 => absurd (hA2 _ h9) (Nat.not_le.mpr hbl)) hY.2.2 z_5 dL_law_251 ?_
            refine lv_ldc (v := 2147483647) hx hb hown (hg _ gw_5) dL_law_252 ?_
            refine lv_iand hx hb dL_law_254 ?_
            refine lv_goto (tgt := 279) hx hb dL_law_255 (by decide) ?_
            exact wL_law_279 hx hb hr hml hown hg hlocks hK hA hL hfl hZ hX hbl hA2 hres hL2 hrec221 (by first | omega | (simp only [g_l0]; omega)) (by first | omega | (simp only [g_l0]; omega)) (by first | omega | (simp only [g_l0]; omega)) (by first | omega | (simp only [g_l0]; omega)) hY (lv_sub hl [0, 1, 2, 3, 4, 5, 6, 7, 8, 9, 10, 11, 12, 13, 14, 15, 16, 17, 18, 19, 20, 21] rfl) h
def fL_law_134 (N : Nat) (xs : Nat → Int32) (Lx : Nat) (rec134 : (gS × Int32) → Option Int32) (xx : gS × Int32) : Option Int32 := match xx with
  | (σ, x20) => if 3 ≤ x20 then ((fL_isAll N (sI σ 176 4 1) (0 : Int32)).bind fun r_2 => lp (fL_law_221 N xs Lx) N (r_2.2, r_2.1, 0)) else (if (3 + x20) < 0 ∨ 14 ≤ (3 + x20).toNatClampNeg then none else (if (6 * x20) < 0 ∨ 18 ≤ (6 * x20).toNatClampNeg then none else (if ((6 * x20) + 3) < 0 ∨ 18 ≤ ((6 * x20) + 3).toNatClampNeg then none else (rec134 ((sI (sI (sI σ 178 ((3 + x20).toNatClampNeg) 1) 176 ((6 * x20).toNatClampNeg) (-1)) 176 (((6 * x20) + 3).toNatClampNeg) (-1)), (x20 + 1))))))
set_option maxRecDepth 100000 in
set_option maxHeartbeats 1000000 in
theorem wL_law_134 (hx : p.tables.exec = Jvm.exec) (hb : c.code = cL_law) (hr : meth.sig.returnType = (some .boolean)) (hml : c.maxLocals = 37) (hown : s.vm.findClass RL = some m.cls) (hg : ∀ w ∈ wsL_law, w.before args s = true) (hlocks : meth.locks = false) (hK : gK D y aS s) (hA : ∀ q, s.heap.size ≤ q → A q) (hL : ∀ k, k < 179 → k ∈ L) (hfl : l.stackTraces = false) (hZ : gZ A s s.heap) (hX : va_X b Lx xs s s.heap) (hbl : b < s.heap.size) (hA2 : ∀ q, A q → s.heap.size ≤ q) (hres : res = 1) (hL2 : ∀ k ∈ L, k < 179) : ∀ (n : Nat) {ad : Nat → Nat} {kc ns : Nat} {σ : gS} {x20 : Int32} (hkc : kc ≤ 179) (hns : ns ≤ 3345) (H : Heap) (locs : List Loc) (ls : Array Slot), gY D y A s L ad σ H locs → lv_has ls 37 [(0, .ref b), (1, .ref (ad 0)), (2, .ref (ad 161)), (3, .ref (ad 162)), (4, .ref (ad 163)), (5, .ref (ad 164)), (6, .ref (ad 165)), (7, .ref (ad 166)), (8, .ref (ad 167)), (9, .ref (ad 168)), (10, .ref (ad 169)), (11, .ref (ad 170)), (12, .ref (ad 171)), (13, .ref (ad 172)), (14, .ref (ad 173)), (15, .ref (ad 174)), (16, .ref (ad 175)), (17, .ref (ad 176)), (18, .ref (ad 177)), (19, .ref (ad 178)), (20, .int x20)] → lp (fL_law_134 N xs Lx) n (σ, x20) = some res → W p l e room_1 s m args below meth c H locs kc ns (lw_Z below args s) (F0 m 134 ls []) := by
  intro n
  induction n with
  | zero => intro ad kc ns σ x20 hkc hns H locs ls hY hl h; exact nomatch (show none = some res from h)
  | succ n hrec134 =>
    intro ad kc ns σ x20 hkc hns H locs ls hY hl h
    replace h : fL_law_134 N xs Lx (lp (fL_law_134 N xs Lx) n) (σ, x20) = some res := h
    generalize lp (fL_law_134 N xs Lx) n = rec134 at h hrec134
    unfold fL_law_134 at h
    try dsimp only at h
    refine lv_iload hx hb dL_law_134 (lv_at hl 20 rfl) ?_
    refine lv_iconst (v := 3) hx hb dL_law_136 (by decide) ?_
    refine lv_icmp_ge (tgt := 174) hx hb dL_law_137 (by decide) (fun z_1 => ?_) (fun z_1 => ?_)
    ·
      rw [if_pos z_1] at h
      have qz_1 := g_get z_1; (try simp only [g_l0, g_l3, g_l6, g_l80] at qz_1)
      refine lv_aload hx hb dL_law_174 (lv_at hl 17 rfl) ?_
      refine lv_iconst (v := 4) hx hb dL_law_176 (by decide) ?_
      refine lv_iconst (v := 1) hx hb dL_law_177 (by decide) ?_
      refine G_iast (j := 4) hx hb hK hY (hL 176 (by decide)) gk_176 (by rw [gl_176]; decide +kernel) (by decide +kernel) dL_law_178 ?_
      clear hY
      intro H locs hY
      refine lv_aload_n hx hb dL_law_179 rfl (lv_at hl 1 rfl) ?_
      refine lv_aload_n hx hb dL_law_180 rfl (lv_at hl 2 rfl) ?_
      refine lv_aload_n hx hb dL_law_181 rfl (lv_at hl 3 rfl) ?_
      refine lv_aload hx hb dL_law_182 (lv_at hl 4 rfl) ?_
      refine lv_aload hx hb dL_law_184 (lv_at hl 5 rfl) ?_
      refine lv_aload hx hb dL_law_186 (lv_at hl 6 rfl) ?_
      refine lv_aload hx hb dL_law_188 (lv_at hl 7 rfl) ?_
      refine lv_aload hx hb dL_law_190 (lv_at hl 8 rfl) ?_
      refine lv_aload hx hb dL_law_192 (lv_at hl 9 rfl) ?_
      refine lv_aload hx hb dL_law_194 (lv_at hl 10 rfl) ?_
      refine lv_aload hx hb dL_law_196 (lv_at hl 11 rfl) ?_
      refine lv_aload hx hb dL_law_198 (lv_at hl 12 rfl) ?_
      refine lv_aload hx hb dL_law_200 (lv_at hl 13 rfl) ?_
      refine lv_aload hx hb dL_law_202 (lv_at hl 14 rfl) ?_
      refine lv_aload hx hb dL_law_204 (lv_at hl 15 rfl) ?_
      refine lv_aload hx hb dL_law_206 (lv_at hl 16 rfl) ?_
      refine lv_aload hx hb dL_law_208 (lv_at hl 17 rfl) ?_
      refine lv_aload hx hb dL_law_210 (lv_at hl 19 rfl) ?_
      refine lv_iconst (v := 0) hx hb dL_law_212 (by decide) ?_
      obtain ⟨r_2, e_3, h⟩ := g_bind h
      refine G_aiC hY hA (va_runS (As := [.ref (ad 0), .ref (ad 161), .ref (ad 162), .ref (ad 163), .ref (ad 164), .ref (ad 165), .ref (ad 166), .ref (ad 167), .ref (ad 168), .ref (ad 169), .ref (ad 170), .ref (ad 171), .ref (ad 172), .ref (ad 173), .ref (ad 174), .ref (ad 175), .ref (ad 176), .ref (ad 178), .int 0]) (rest := []) ⟨hx, hb, hml, hown, hg⟩ (kL_isAll l hfl D y aS H.size L hL hL2 ad ad (fun _ _ => rfl) N (sI σ 176 4 1) (0 : Int32) _ e_3) (va_cwS 19 hg ggS_RL_203_L_isAll rfl rfl rfl (by decide +kernel) ⟨Nat.le_of_ble_eq_true rfl, Nat.le_of_ble_eq_true rfl⟩) (G_xpS hZ hA hK hY) rfl rfl hl.1 rfl (lv_room (Nat.le_of_ble_eq_true rfl)) dL_law_213 ⟨(by first | omega | (show _ ≤ (600086 : Nat); omega) | (show _ ≤ (7301442 : Nat); omega)), (by first | omega | (show _ ≤ (600086 : Nat); omega) | (show _ ≤ (7301442 : Nat); omega))⟩) ?_
      clear hY
      rintro _ H locs rfl hY
      refine lv_istore (lv' := [(20, .int r_2.1), (0, .ref b), (1, .ref (ad 0)), (2, .ref (ad 161)), (3, .ref (ad 162)), (4, .ref (ad 163)), (5, .ref (ad 164)), (6, .ref (ad 165)), (7, .ref (ad 166)), (8, .ref (ad 167)), (9, .ref (ad 168)), (10, .ref (ad 169)), (11, .ref (ad 170)), (12, .ref (ad 171)), (13, .ref (ad 172)), (14, .ref (ad 173)), (15, .ref (ad 174)), (16, .ref (ad 175)), (17, .ref (ad 176)), (18, .ref (ad 177)), (19, .ref (ad 178))]) hx hb dL_law_216 hl (by decide) rfl ?_
      clear hl
      intro ls hl
      refine lv_iconst (v := 0) hx hb dL_law_218 (by decide) ?_
      refine lv_istore (lv' := [(21, .int 0), (20, .int r_2.1), (0, .ref b), (1, .ref (ad 0)), (2, .ref (ad 161)), (3, .ref (ad 162)), (4, .ref (ad 163)), (5, .ref (ad 164)), (6, .ref (ad 165)), (7, .ref (ad 166)), (8, .ref (ad 167)), (9, .ref (ad 168)), (10, .ref (ad 169)), (11, .ref (ad 170)), (12, .ref (ad 171)), (13, .ref (ad 172)), (14, .ref (ad 173)), (15, .ref (ad 174)), (16, .ref (ad 175)), (17, .ref (ad 176)), (18, .ref (ad 177)), (19, .ref (ad 178))]) hx hb dL_law_219 hl (by decide) rfl ?_
      clear hl
      intro ls hl
      exact wL_law_221 hx hb hr hml hown hg hlocks hK hA hL hfl hZ hX hbl hA2 hres hL2 N (by first | omega | (simp only [g_l0]; omega)) (by first | omega | (simp only [g_l0]; omega)) (by first | omega | (simp only [g_l0]; omega)) (by first | omega | (simp only [g_l0]; omega)) _ _ _ hY (lv_sub hl [2, 3, 4, 5, 6, 7, 8, 9, 10, 11, 12, 13, 14, 15, 16, 17, 18, 19, 20, 21, 1, 0] rfl) h
    ·
      rw [if_neg z_1] at h
      have qz_1 := g_gef z_1; (try simp only [g_l0, g_l3, g_l6, g_l80] at qz_1)
      refine lv_aload hx hb dL_law_140 (lv_at hl 19 rfl) ?_
      refine lv_iconst (v := 3) hx hb dL_law_142 (by decide) ?_
      refine lv_iload hx hb dL_law_143 (lv_at hl 20 rfl) ?_
      refine lv_iadd hx hb dL_law_145 ?_
      refine lv_iconst (v := 1) hx hb dL_law_146 (by decide) ?_
      obtain ⟨z_4, h⟩ := g_guard h
      refine G_iast (j := (3 + x20).toNatClampNeg) hx hb hK hY (hL 178 (by decide)) gk_178 (by rw [gl_178]; exact z_4) rfl dL_law_147 ?_
      clear hY
      intro H locs hY
      refine lv_aload hx hb dL_law_148 (lv_at hl 17 rfl) ?_
      refine lv_bipush (v := 6) hx hb dL_law_150 (by decide +kernel) ?_
      refine lv_iload hx hb dL_law_152 (lv_at hl 20 rfl) ?_
      refine lv_imul hx hb dL_law_154 ?_
      refine lv_iconst (v := (-1)) hx hb dL_law_155 (by decide) ?_
      obtain ⟨z_5, h⟩ := g_guard h
      refine G_iast (j := (6 * x20).toNatClampNeg) hx hb hK hY (hL 176 (by decide)) gk_176 (by rw [gl_176]; exact z_5) rfl dL_law_156 ?_
      clear hY
      intro H locs hY
      refine lv_aload hx hb dL_law_157 (lv_at hl 17 rfl) ?_
      refine lv_bipush (v := 6) hx hb dL_law_159 (by decide +kernel) ?_
      refine lv_iload hx hb dL_law_161 (lv_at hl 20 rfl) ?_
      refine lv_imul hx hb dL_law_163 ?_
      refine lv_iconst (v := 3) hx hb dL_law_164 (by decide) ?_
      refine lv_iadd hx hb dL_law_165 ?_
      refine lv_iconst (v := (-1)) hx hb dL_law_166 (by decide) ?_
      obtain ⟨z_6, h⟩ := g_guard h
      refine G_iast (j := ((6 * x20) + 3).toNatClampNeg) hx hb hK hY (hL 176 (by decide)) gk_176 (by rw [gl_176]; exact z_6) rfl dL_law_167 ?_
      clear hY
      intro H locs hY
      refine lv_iinc (v := (x20 + 1)) (lv' := [(20, .int (x20 + 1)), (0, .ref b), (1, .ref (ad 0)), (2, .ref (ad 161)), (3, .ref (ad 162)), (4, .ref (ad 163)), (5, .ref (ad 164)), (6, .ref (ad 165)), (7, .ref (ad 166)), (8, .ref (ad 167)), (9, .ref (ad 168)), (10, .ref (ad 169)), (11, .ref (ad 170)), (12, .ref (ad 171)), (13, .ref (ad 172)), (14, .ref (ad 173)), (15, .ref (ad 174)), (16, .ref (ad 175)), (17, .ref (ad 176)), (18, .ref (ad 177)), (19, .ref (ad 178))]) hx hb dL_law_168 hl (k := 20) rfl rfl (by decide) rfl ?_
      clear hl
      intro ls hl
      refine lv_goto (tgt := 134) hx hb dL_law_171 (by decide) ?_
      exact hrec134 (by first | omega | (simp only [g_l0]; omega)) (by first | omega | (simp only [g_l0]; omega)) _ _ _ hY (lv_sub hl [1, 2, 3, 4, 5, 6, 7, 8, 9, 10, 11, 12, 13, 14, 15, 16, 17, 18, 19, 20, 0] rfl) h
end
