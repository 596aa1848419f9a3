def dt175_L_takes : List (Nat × Instr × Nat) := [(691, (.iinc 18 1, 3)), (694, (.goto (-691), 3)), (689, (.iadd, 1)), (690, (.iastore, 1)), (630, (.iastore, 1)), (631, (.aload 15, 2)), (633, (.bipush 6, 2)), (635, (.iload 18, 2)), (637, (.imul, 1)), (638, (.iconst 2, 1)), (639, (.iadd, 1)), (640, (.iconst 0, 1)), (641, (.iastore, 1)), (642, (.aload 15, 2)), (644, (.bipush 6, 2)), (646, (.iload 18, 2)), (648, (.imul, 1)), (649, (.iconst 3, 1)), (650, (.iadd, 1)), (651, (.iload 29, 2)), (653, (.iastore, 1)), (654, (.aload 16, 2)), (656, (.iload 18, 2)), (658, (.lload 26, 2)), (660, (.lastore, 1)), (661, (.aload 17, 2)), (663, (.iload 28, 2)), (665, (.iconst 3, 1)), (666, (.irem, 1)), (667, (.dup2, 1)), (668, (.iaload, 1)), (669, (.iload 28, 2)), (671, (.iconst 3, 1)), (672, (.if_icmp .ge 16, 3)), (688, (.iconst 0, 1)), (675, (.aload 15, 2)), (677, (.bipush 6, 2)), (679, (.iload 18, 2)), (681, (.imul, 1)), (682, (.iconst 1, 1)), (683, (.iadd, 1)), (684, (.iaload, 1)), (685, (.goto 4, 3)), (596, (.isub, 1)), (597, (.istore 30, 2)), (599, (.aload 15, 2)), (601, (.bipush 6, 2)), (603, (.iload 18, 2)), (605, (.imul, 1)), (606, (.iload 29, 2)), (608, (.iastore, 1)), (609, (.aload 15, 2)), (611, (.bipush 6, 2)), (613, (.iload 18, 2)), (615, (.imul, 1)), (616, (.iconst 1, 1)), (617, (.iadd, 1)), (618, (.iload 30, 2)), (620, (.iconst 1, 1)), (621, (.if_icmp .ge 7, 3))]
theorem dt175_L_takes_ok : ∀ q ∈ dt175_L_takes, decode cL_takes q.1 = .ok q.2 := by decide +kernel
theorem dL_takes_691 : decode cL_takes 691 = .ok (.iinc 18 1, 3) := g_dec dt175_L_takes_ok (k := 0) rfl
theorem dL_takes_694 : decode cL_takes 694 = .ok (.goto (-691), 3) := g_dec dt175_L_takes_ok (k := 1) rfl
theorem dL_takes_689 : decode cL_takes 689 = .ok (.iadd, 1) := g_dec dt175_L_takes_ok (k := 2) rfl
theorem dL_takes_690 : decode cL_takes 690 = .ok (.iastore, 1) := g_dec dt175_L_takes_ok (k := 3) rfl
theorem dL_takes_630 : decode cL_takes 630 = .ok (.iastore, 1) := g_dec dt175_L_takes_ok (k := 4) rfl
theorem dL_takes_631 : decode cL_takes 631 = .ok (.aload 15, 2) := g_dec dt175_L_takes_ok (k := 5) rfl
theorem dL_takes_633 : decode cL_takes 633 = .ok (.bipush 6, 2) := g_dec dt175_L_takes_ok (k := 6) rfl
theorem dL_takes_635 : decode cL_takes 635 = .ok (.iload 18, 2) := g_dec dt175_L_takes_ok (k := 7) rfl
theorem dL_takes_637 : decode cL_takes 637 = .ok (.imul, 1) := g_dec dt175_L_takes_ok (k := 8) rfl
theorem dL_takes_638 : decode cL_takes 638 = .ok (.iconst 2, 1) := g_dec dt175_L_takes_ok (k := 9) rfl
theorem dL_takes_639 : decode cL_takes 639 = .ok (.iadd, 1) := g_dec dt175_L_takes_ok (k := 10) rfl
theorem dL_takes_640 : decode cL_takes 640 = .ok (.iconst 0, 1) := g_dec dt175_L_takes_ok (k := 11) rfl
theorem dL_takes_641 : decode cL_takes 641 = .ok (.iastore, 1) := g_dec dt175_L_takes_ok (k := 12) rfl
theorem dL_takes_642 : decode cL_takes 642 = .ok (.aload 15, 2) := g_dec dt175_L_takes_ok (k := 13) rfl
theorem dL_takes_644 : decode cL_takes 644 = .ok (.bipush 6, 2) := g_dec dt175_L_takes_ok (k := 14) rfl
theorem dL_takes_646 : decode cL_takes 646 = .ok (.iload 18, 2) := g_dec dt175_L_takes_ok (k := 15) rfl
theorem dL_takes_648 : decode cL_takes 648 = .ok (.imul, 1) := g_dec dt175_L_takes_ok (k := 16) rfl
theorem dL_takes_649 : decode cL_takes 649 = .ok (.iconst 3, 1) := g_dec dt175_L_takes_ok (k := 17) rfl
theorem dL_takes_650 : decode cL_takes 650 = .ok (.iadd, 1) := g_dec dt175_L_takes_ok (k := 18) rfl
theorem dL_takes_651 : decode cL_takes 651 = .ok (.iload 29, 2) := g_dec dt175_L_takes_ok (k := 19) rfl
theorem dL_takes_653 : decode cL_takes 653 = .ok (.iastore, 1) := g_dec dt175_L_takes_ok (k := 20) rfl
theorem dL_takes_654 : decode cL_takes 654 = .ok (.aload 16, 2) := g_dec dt175_L_takes_ok (k := 21) rfl
theorem dL_takes_656 : decode cL_takes 656 = .ok (.iload 18, 2) := g_dec dt175_L_takes_ok (k := 22) rfl
theorem dL_takes_658 : decode cL_takes 658 = .ok (.lload 26, 2) := g_dec dt175_L_takes_ok (k := 23) rfl
theorem dL_takes_660 : decode cL_takes 660 = .ok (.lastore, 1) := g_dec dt175_L_takes_ok (k := 24) rfl
theorem dL_takes_661 : decode cL_takes 661 = .ok (.aload 17, 2) := g_dec dt175_L_takes_ok (k := 25) rfl
theorem dL_takes_663 : decode cL_takes 663 = .ok (.iload 28, 2) := g_dec dt175_L_takes_ok (k := 26) rfl
theorem dL_takes_665 : decode cL_takes 665 = .ok (.iconst 3, 1) := g_dec dt175_L_takes_ok (k := 27) rfl
theorem dL_takes_666 : decode cL_takes 666 = .ok (.irem, 1) := g_dec dt175_L_takes_ok (k := 28) rfl
theorem dL_takes_667 : decode cL_takes 667 = .ok (.dup2, 1) := g_dec dt175_L_takes_ok (k := 29) rfl
theorem dL_takes_668 : decode cL_takes 668 = .ok (.iaload, 1) := g_dec dt175_L_takes_ok (k := 30) rfl
theorem dL_takes_669 : decode cL_takes 669 = .ok (.iload 28, 2) := g_dec dt175_L_takes_ok (k := 31) rfl
theorem dL_takes_671 : decode cL_takes 671 = .ok (.iconst 3, 1) := g_dec dt175_L_takes_ok (k := 32) rfl
theorem dL_takes_672 : decode cL_takes 672 = .ok (.if_icmp .ge 16, 3) := g_dec dt175_L_takes_ok (k := 33) rfl
theorem dL_takes_688 : decode cL_takes 688 = .ok (.iconst 0, 1) := g_dec dt175_L_takes_ok (k := 34) rfl
theorem dL_takes_675 : decode cL_takes 675 = .ok (.aload 15, 2) := g_dec dt175_L_takes_ok (k := 35) rfl
theorem dL_takes_677 : decode cL_takes 677 = .ok (.bipush 6, 2) := g_dec dt175_L_takes_ok (k := 36) rfl
theorem dL_takes_679 : decode cL_takes 679 = .ok (.iload 18, 2) := g_dec dt175_L_takes_ok (k := 37) rfl
theorem dL_takes_681 : decode cL_takes 681 = .ok (.imul, 1) := g_dec dt175_L_takes_ok (k := 38) rfl
theorem dL_takes_682 : decode cL_takes 682 = .ok (.iconst 1, 1) := g_dec dt175_L_takes_ok (k := 39) rfl
theorem dL_takes_683 : decode cL_takes 683 = .ok (.iadd, 1) := g_dec dt175_L_takes_ok (k := 40) rfl
theorem dL_takes_684 : decode cL_takes 684 = .ok (.iaload, 1) := g_dec dt175_L_takes_ok (k := 41) rfl
theorem dL_takes_685 : decode cL_takes 685 = .ok (.goto 4, 3) := g_dec dt175_L_takes_ok (k := 42) rfl
theorem dL_takes_596 : decode cL_takes 596 = .ok (.isub, 1) := g_dec dt175_L_takes_ok (k := 43) rfl
theorem dL_takes_597 : decode cL_takes 597 = .ok (.istore 30, 2) := g_dec dt175_L_takes_ok (k := 44) rfl
theorem dL_takes_599 : decode cL_takes 599 = .ok (.aload 15, 2) := g_dec dt175_L_takes_ok (k := 45) rfl
theorem dL_takes_601 : decode cL_takes 601 = .ok (.bipush 6, 2) := g_dec dt175_L_takes_ok (k := 46) rfl
theorem dL_takes_603 : decode cL_takes 603 = .ok (.iload 18, 2) := g_dec dt175_L_takes_ok (k := 47) rfl
theorem dL_takes_605 : decode cL_takes 605 = .ok (.imul, 1) := g_dec dt175_L_takes_ok (k := 48) rfl
theorem dL_takes_606 : decode cL_takes 606 = .ok (.iload 29, 2) := g_dec dt175_L_takes_ok (k := 49) rfl
theorem dL_takes_608 : decode cL_takes 608 = .ok (.iastore, 1) := g_dec dt175_L_takes_ok (k := 50) rfl
theorem dL_takes_609 : decode cL_takes 609 = .ok (.aload 15, 2) := g_dec dt175_L_takes_ok (k := 51) rfl
theorem dL_takes_611 : decode cL_takes 611 = .ok (.bipush 6, 2) := g_dec dt175_L_takes_ok (k := 52) rfl
theorem dL_takes_613 : decode cL_takes 613 = .ok (.iload 18, 2) := g_dec dt175_L_takes_ok (k := 53) rfl
theorem dL_takes_615 : decode cL_takes 615 = .ok (.imul, 1) := g_dec dt175_L_takes_ok (k := 54) rfl
theorem dL_takes_616 : decode cL_takes 616 = .ok (.iconst 1, 1) := g_dec dt175_L_takes_ok (k := 55) rfl
theorem dL_takes_617 : decode cL_takes 617 = .ok (.iadd, 1) := g_dec dt175_L_takes_ok (k := 56) rfl
theorem dL_takes_618 : decode cL_takes 618 = .ok (.iload 30, 2) := g_dec dt175_L_takes_ok (k := 57) rfl
theorem dL_takes_620 : decode cL_takes 620 = .ok (.iconst 1, 1) := g_dec dt175_L_takes_ok (k := 58) rfl
theorem dL_takes_621 : decode cL_takes 621 = .ok (.if_icmp .ge 7, 3) := g_dec dt175_L_takes_ok (k := 59) rfl
def dt176_L_takes : List (Nat × Instr × Nat) := [(628, (.iload 30, 2)), (624, (.iconst 1, 1)), (625, (.goto 5, 3)), (561, (.iload 29, 2)), (563, (.ifCond .lt 128, 3)), (566, (.aload 11, 2)), (568, (.bipush 12, 2)), (570, (.iload 29, 2)), (572, (.imul, 1)), (573, (.iconst 1, 1)), (574, (.iadd, 1)), (575, (.iaload, 1)), (576, (.aload 15, 2)), (578, (.bipush 6, 2)), (580, (.iload 18, 2)), (582, (.imul, 1)), (583, (.iconst 3, 1)), (584, (.iadd, 1)), (585, (.iaload, 1)), (586, (.iload 29, 2)), (588, (.if_icmp .ne 7, 3)), (595, (.iconst 0, 1)), (591, (.iconst 1, 1)), (592, (.goto 4, 3)), (521, (.iload 29, 2)), (523, (.ifCond .ge 38, 3)), (526, (.aload_n 0, 1)), (527, (.bipush 8, 2)), (529, (.iaload, 1)), (530, (.iconst 1, 1)), (531, (.if_icmp .ne 30, 3)), (534, (.aload_n 0, 1)), (535, (.aload 11, 2)), (537, (.aload 13, 2)), (539, (.aload 14, 2)), (541, (.aload 15, 2)), (543, (.aload 16, 2)), (545, (.bipush 15, 2)), (547, (.lload 9, 2)), (549, (.invokestatic 134, 3)), (552, (.istore 29, 2)), (554, (.lload 9, 2)), (556, (.lstore 26, 2)), (558, (.iconst 3, 1)), (559, (.istore 28, 2)), (497, (.iload 29, 2)), (499, (.bipush 99, 2)), (501, (.if_icmp .le 20, 3)), (504, (.aload 20, 2)), (506, (.iload 29, 2)), (508, (.bipush 100, 2)), (510, (.idiv, 1)), (511, (.laload, 1)), (512, (.lstore 26, 2)), (514, (.iload 29, 2)), (516, (.bipush 100, 2)), (518, (.irem, 1)), (519, (.istore 29, 2)), (489, (.istore 28, 2)), (491, (.iinc 30 1, 3))]
theorem dt176_L_takes_ok : ∀ q ∈ dt176_L_takes, decode cL_takes q.1 = .ok q.2 := by decide +kernel
theorem dL_takes_628 : decode cL_takes 628 = .ok (.iload 30, 2) := g_dec dt176_L_takes_ok (k := 0) rfl
theorem dL_takes_624 : decode cL_takes 624 = .ok (.iconst 1, 1) := g_dec dt176_L_takes_ok (k := 1) rfl
theorem dL_takes_625 : decode cL_takes 625 = .ok (.goto 5, 3) := g_dec dt176_L_takes_ok (k := 2) rfl
theorem dL_takes_561 : decode cL_takes 561 = .ok (.iload 29, 2) := g_dec dt176_L_takes_ok (k := 3) rfl
theorem dL_takes_563 : decode cL_takes 563 = .ok (.ifCond .lt 128, 3) := g_dec dt176_L_takes_ok (k := 4) rfl
theorem dL_takes_566 : decode cL_takes 566 = .ok (.aload 11, 2) := g_dec dt176_L_takes_ok (k := 5) rfl
theorem dL_takes_568 : decode cL_takes 568 = .ok (.bipush 12, 2) := g_dec dt176_L_takes_ok (k := 6) rfl
theorem dL_takes_570 : decode cL_takes 570 = .ok (.iload 29, 2) := g_dec dt176_L_takes_ok (k := 7) rfl
theorem dL_takes_572 : decode cL_takes 572 = .ok (.imul, 1) := g_dec dt176_L_takes_ok (k := 8) rfl
theorem dL_takes_573 : decode cL_takes 573 = .ok (.iconst 1, 1) := g_dec dt176_L_takes_ok (k := 9) rfl
theorem dL_takes_574 : decode cL_takes 574 = .ok (.iadd, 1) := g_dec dt176_L_takes_ok (k := 10) rfl
theorem dL_takes_575 : decode cL_takes 575 = .ok (.iaload, 1) := g_dec dt176_L_takes_ok (k := 11) rfl
theorem dL_takes_576 : decode cL_takes 576 = .ok (.aload 15, 2) := g_dec dt176_L_takes_ok (k := 12) rfl
theorem dL_takes_578 : decode cL_takes 578 = .ok (.bipush 6, 2) := g_dec dt176_L_takes_ok (k := 13) rfl
theorem dL_takes_580 : decode cL_takes 580 = .ok (.iload 18, 2) := g_dec dt176_L_takes_ok (k := 14) rfl
theorem dL_takes_582 : decode cL_takes 582 = .ok (.imul, 1) := g_dec dt176_L_takes_ok (k := 15) rfl
theorem dL_takes_583 : decode cL_takes 583 = .ok (.iconst 3, 1) := g_dec dt176_L_takes_ok (k := 16) rfl
theorem dL_takes_584 : decode cL_takes 584 = .ok (.iadd, 1) := g_dec dt176_L_takes_ok (k := 17) rfl
theorem dL_takes_585 : decode cL_takes 585 = .ok (.iaload, 1) := g_dec dt176_L_takes_ok (k := 18) rfl
theorem dL_takes_586 : decode cL_takes 586 = .ok (.iload 29, 2) := g_dec dt176_L_takes_ok (k := 19) rfl
theorem dL_takes_588 : decode cL_takes 588 = .ok (.if_icmp .ne 7, 3) := g_dec dt176_L_takes_ok (k := 20) rfl
theorem dL_takes_595 : decode cL_takes 595 = .ok (.iconst 0, 1) := g_dec dt176_L_takes_ok (k := 21) rfl
theorem dL_takes_591 : decode cL_takes 591 = .ok (.iconst 1, 1) := g_dec dt176_L_takes_ok (k := 22) rfl
theorem dL_takes_592 : decode cL_takes 592 = .ok (.goto 4, 3) := g_dec dt176_L_takes_ok (k := 23) rfl
theorem dL_takes_521 : decode cL_takes 521 = .ok (.iload 29, 2) := g_dec dt176_L_takes_ok (k := 24) rfl
theorem dL_takes_523 : decode cL_takes 523 = .ok (.ifCond .ge 38, 3) := g_dec dt176_L_takes_ok (k := 25) rfl
theorem dL_takes_526 : decode cL_takes 526 = .ok (.aload_n 0, 1) := g_dec dt176_L_takes_ok (k := 26) rfl
theorem dL_takes_527 : decode cL_takes 527 = .ok (.bipush 8, 2) := g_dec dt176_L_takes_ok (k := 27) rfl
theorem dL_takes_529 : decode cL_takes 529 = .ok (.iaload, 1) := g_dec dt176_L_takes_ok (k := 28) rfl
theorem dL_takes_530 : decode cL_takes 530 = .ok (.iconst 1, 1) := g_dec dt176_L_takes_ok (k := 29) rfl
theorem dL_takes_531 : decode cL_takes 531 = .ok (.if_icmp .ne 30, 3) := g_dec dt176_L_takes_ok (k := 30) rfl
theorem dL_takes_534 : decode cL_takes 534 = .ok (.aload_n 0, 1) := g_dec dt176_L_takes_ok (k := 31) rfl
theorem dL_takes_535 : decode cL_takes 535 = .ok (.aload 11, 2) := g_dec dt176_L_takes_ok (k := 32) rfl
theorem dL_takes_537 : decode cL_takes 537 = .ok (.aload 13, 2) := g_dec dt176_L_takes_ok (k := 33) rfl
theorem dL_takes_539 : decode cL_takes 539 = .ok (.aload 14, 2) := g_dec dt176_L_takes_ok (k := 34) rfl
theorem dL_takes_541 : decode cL_takes 541 = .ok (.aload 15, 2) := g_dec dt176_L_takes_ok (k := 35) rfl
theorem dL_takes_543 : decode cL_takes 543 = .ok (.aload 16, 2) := g_dec dt176_L_takes_ok (k := 36) rfl
theorem dL_takes_545 : decode cL_takes 545 = .ok (.bipush 15, 2) := g_dec dt176_L_takes_ok (k := 37) rfl
theorem dL_takes_547 : decode cL_takes 547 = .ok (.lload 9, 2) := g_dec dt176_L_takes_ok (k := 38) rfl
theorem dL_takes_549 : decode cL_takes 549 = .ok (.invokestatic 134, 3) := g_dec dt176_L_takes_ok (k := 39) rfl
theorem dL_takes_552 : decode cL_takes 552 = .ok (.istore 29, 2) := g_dec dt176_L_takes_ok (k := 40) rfl
theorem dL_takes_554 : decode cL_takes 554 = .ok (.lload 9, 2) := g_dec dt176_L_takes_ok (k := 41) rfl
theorem dL_takes_556 : decode cL_takes 556 = .ok (.lstore 26, 2) := g_dec dt176_L_takes_ok (k := 42) rfl
theorem dL_takes_558 : decode cL_takes 558 = .ok (.iconst 3, 1) := g_dec dt176_L_takes_ok (k := 43) rfl
theorem dL_takes_559 : decode cL_takes 559 = .ok (.istore 28, 2) := g_dec dt176_L_takes_ok (k := 44) rfl
theorem dL_takes_497 : decode cL_takes 497 = .ok (.iload 29, 2) := g_dec dt176_L_takes_ok (k := 45) rfl
theorem dL_takes_499 : decode cL_takes 499 = .ok (.bipush 99, 2) := g_dec dt176_L_takes_ok (k := 46) rfl
theorem dL_takes_501 : decode cL_takes 501 = .ok (.if_icmp .le 20, 3) := g_dec dt176_L_takes_ok (k := 47) rfl
theorem dL_takes_504 : decode cL_takes 504 = .ok (.aload 20, 2) := g_dec dt176_L_takes_ok (k := 48) rfl
theorem dL_takes_506 : decode cL_takes 506 = .ok (.iload 29, 2) := g_dec dt176_L_takes_ok (k := 49) rfl
theorem dL_takes_508 : decode cL_takes 508 = .ok (.bipush 100, 2) := g_dec dt176_L_takes_ok (k := 50) rfl
theorem dL_takes_510 : decode cL_takes 510 = .ok (.idiv, 1) := g_dec dt176_L_takes_ok (k := 51) rfl
theorem dL_takes_511 : decode cL_takes 511 = .ok (.laload, 1) := g_dec dt176_L_takes_ok (k := 52) rfl
theorem dL_takes_512 : decode cL_takes 512 = .ok (.lstore 26, 2) := g_dec dt176_L_takes_ok (k := 53) rfl
theorem dL_takes_514 : decode cL_takes 514 = .ok (.iload 29, 2) := g_dec dt176_L_takes_ok (k := 54) rfl
theorem dL_takes_516 : decode cL_takes 516 = .ok (.bipush 100, 2) := g_dec dt176_L_takes_ok (k := 55) rfl
theorem dL_takes_518 : decode cL_takes 518 = .ok (.irem, 1) := g_dec dt176_L_takes_ok (k := 56) rfl
theorem dL_takes_519 : decode cL_takes 519 = .ok (.istore 29, 2) := g_dec dt176_L_takes_ok (k := 57) rfl
theorem dL_takes_489 : decode cL_takes 489 = .ok (.istore 28, 2) := g_dec dt176_L_takes_ok (k := 58) rfl
theorem dL_takes_491 : decode cL_takes 491 = .ok (.iinc 30 1, 3) := g_dec dt176_L_takes_ok (k := 59) rfl
def dt177_L_takes : List (Nat × Instr × Nat) := [(494, (.goto (-134), 3)), (475, (.istore 29, 2)), (477, (.iload 32, 2)), (479, (.ifCond .eq 8, 3)), (487, (.iload 28, 2)), (482, (.iload 30, 2)), (484, (.goto 5, 3)), (461, (.istore 32, 2)), (463, (.iload 32, 2)), (465, (.ifCond .eq 8, 3)), (473, (.iload 29, 2)), (468, (.iload 31, 2)), (470, (.goto 5, 3)), (460, (.iconst 0, 1)), (456, (.iconst 1, 1)), (457, (.goto 4, 3)), (388, (.aload_n 0, 1)), (389, (.aload_n 1, 1)), (390, (.aload 6, 2)), (392, (.aload 11, 2)), (394, (.aload 12, 2)), (396, (.aload 13, 2)), (398, (.aload 14, 2)), (400, (.aload 15, 2)), (402, (.aload 16, 2)), (404, (.aload 19, 2)), (406, (.iload 22, 2)), (408, (.aload 20, 2)), (410, (.iload 30, 2)), (412, (.invokestatic 138, 3)), (415, (.istore 31, 2)), (417, (.iload 31, 2)), (419, (.ifCond .lt 41, 3)), (422, (.iload 29, 2)), (424, (.ifCond .lt 32, 3)), (427, (.aload 17, 2)), (429, (.iload 30, 2)), (431, (.iaload, 1)), (432, (.aload 17, 2)), (434, (.iconst 3, 1)), (435, (.iload 28, 2)), (437, (.iadd, 1)), (438, (.iaload, 1)), (439, (.imul, 1)), (440, (.aload 17, 2)), (442, (.iload 28, 2)), (444, (.iaload, 1)), (445, (.aload 17, 2)), (447, (.iconst 3, 1)), (448, (.iload 30, 2)), (450, (.iadd, 1)), (451, (.iaload, 1)), (452, (.imul, 1)), (453, (.if_icmp .ge 7, 3)), (360, (.iload 30, 2)), (362, (.iconst 3, 1)), (363, (.if_icmp .ge 134, 3)), (366, (.iload 23, 2)), (368, (.ifCond .le 129, 3)), (371, (.iload 25, 2))]
theorem dt177_L_takes_ok : ∀ q ∈ dt177_L_takes, decode cL_takes q.1 = .ok q.2 := by decide +kernel
theorem dL_takes_494 : decode cL_takes 494 = .ok (.goto (-134), 3) := g_dec dt177_L_takes_ok (k := 0) rfl
theorem dL_takes_475 : decode cL_takes 475 = .ok (.istore 29, 2) := g_dec dt177_L_takes_ok (k := 1) rfl
theorem dL_takes_477 : decode cL_takes 477 = .ok (.iload 32, 2) := g_dec dt177_L_takes_ok (k := 2) rfl
theorem dL_takes_479 : decode cL_takes 479 = .ok (.ifCond .eq 8, 3) := g_dec dt177_L_takes_ok (k := 3) rfl
theorem dL_takes_487 : decode cL_takes 487 = .ok (.iload 28, 2) := g_dec dt177_L_takes_ok (k := 4) rfl
theorem dL_takes_482 : decode cL_takes 482 = .ok (.iload 30, 2) := g_dec dt177_L_takes_ok (k := 5) rfl
theorem dL_takes_484 : decode cL_takes 484 = .ok (.goto 5, 3) := g_dec dt177_L_takes_ok (k := 6) rfl
theorem dL_takes_461 : decode cL_takes 461 = .ok (.istore 32, 2) := g_dec dt177_L_takes_ok (k := 7) rfl
theorem dL_takes_463 : decode cL_takes 463 = .ok (.iload 32, 2) := g_dec dt177_L_takes_ok (k := 8) rfl
theorem dL_takes_465 : decode cL_takes 465 = .ok (.ifCond .eq 8, 3) := g_dec dt177_L_takes_ok (k := 9) rfl
theorem dL_takes_473 : decode cL_takes 473 = .ok (.iload 29, 2) := g_dec dt177_L_takes_ok (k := 10) rfl
theorem dL_takes_468 : decode cL_takes 468 = .ok (.iload 31, 2) := g_dec dt177_L_takes_ok (k := 11) rfl
theorem dL_takes_470 : decode cL_takes 470 = .ok (.goto 5, 3) := g_dec dt177_L_takes_ok (k := 12) rfl
theorem dL_takes_460 : decode cL_takes 460 = .ok (.iconst 0, 1) := g_dec dt177_L_takes_ok (k := 13) rfl
theorem dL_takes_456 : decode cL_takes 456 = .ok (.iconst 1, 1) := g_dec dt177_L_takes_ok (k := 14) rfl
theorem dL_takes_457 : decode cL_takes 457 = .ok (.goto 4, 3) := g_dec dt177_L_takes_ok (k := 15) rfl
theorem dL_takes_388 : decode cL_takes 388 = .ok (.aload_n 0, 1) := g_dec dt177_L_takes_ok (k := 16) rfl
theorem dL_takes_389 : decode cL_takes 389 = .ok (.aload_n 1, 1) := g_dec dt177_L_takes_ok (k := 17) rfl
theorem dL_takes_390 : decode cL_takes 390 = .ok (.aload 6, 2) := g_dec dt177_L_takes_ok (k := 18) rfl
theorem dL_takes_392 : decode cL_takes 392 = .ok (.aload 11, 2) := g_dec dt177_L_takes_ok (k := 19) rfl
theorem dL_takes_394 : decode cL_takes 394 = .ok (.aload 12, 2) := g_dec dt177_L_takes_ok (k := 20) rfl
theorem dL_takes_396 : decode cL_takes 396 = .ok (.aload 13, 2) := g_dec dt177_L_takes_ok (k := 21) rfl
theorem dL_takes_398 : decode cL_takes 398 = .ok (.aload 14, 2) := g_dec dt177_L_takes_ok (k := 22) rfl
theorem dL_takes_400 : decode cL_takes 400 = .ok (.aload 15, 2) := g_dec dt177_L_takes_ok (k := 23) rfl
theorem dL_takes_402 : decode cL_takes 402 = .ok (.aload 16, 2) := g_dec dt177_L_takes_ok (k := 24) rfl
theorem dL_takes_404 : decode cL_takes 404 = .ok (.aload 19, 2) := g_dec dt177_L_takes_ok (k := 25) rfl
theorem dL_takes_406 : decode cL_takes 406 = .ok (.iload 22, 2) := g_dec dt177_L_takes_ok (k := 26) rfl
theorem dL_takes_408 : decode cL_takes 408 = .ok (.aload 20, 2) := g_dec dt177_L_takes_ok (k := 27) rfl
theorem dL_takes_410 : decode cL_takes 410 = .ok (.iload 30, 2) := g_dec dt177_L_takes_ok (k := 28) rfl
theorem dL_takes_412 : decode cL_takes 412 = .ok (.invokestatic 138, 3) := g_dec dt177_L_takes_ok (k := 29) rfl
theorem dL_takes_415 : decode cL_takes 415 = .ok (.istore 31, 2) := g_dec dt177_L_takes_ok (k := 30) rfl
theorem dL_takes_417 : decode cL_takes 417 = .ok (.iload 31, 2) := g_dec dt177_L_takes_ok (k := 31) rfl
theorem dL_takes_419 : decode cL_takes 419 = .ok (.ifCond .lt 41, 3) := g_dec dt177_L_takes_ok (k := 32) rfl
theorem dL_takes_422 : decode cL_takes 422 = .ok (.iload 29, 2) := g_dec dt177_L_takes_ok (k := 33) rfl
theorem dL_takes_424 : decode cL_takes 424 = .ok (.ifCond .lt 32, 3) := g_dec dt177_L_takes_ok (k := 34) rfl
theorem dL_takes_427 : decode cL_takes 427 = .ok (.aload 17, 2) := g_dec dt177_L_takes_ok (k := 35) rfl
theorem dL_takes_429 : decode cL_takes 429 = .ok (.iload 30, 2) := g_dec dt177_L_takes_ok (k := 36) rfl
theorem dL_takes_431 : decode cL_takes 431 = .ok (.iaload, 1) := g_dec dt177_L_takes_ok (k := 37) rfl
theorem dL_takes_432 : decode cL_takes 432 = .ok (.aload 17, 2) := g_dec dt177_L_takes_ok (k := 38) rfl
theorem dL_takes_434 : decode cL_takes 434 = .ok (.iconst 3, 1) := g_dec dt177_L_takes_ok (k := 39) rfl
theorem dL_takes_435 : decode cL_takes 435 = .ok (.iload 28, 2) := g_dec dt177_L_takes_ok (k := 40) rfl
theorem dL_takes_437 : decode cL_takes 437 = .ok (.iadd, 1) := g_dec dt177_L_takes_ok (k := 41) rfl
theorem dL_takes_438 : decode cL_takes 438 = .ok (.iaload, 1) := g_dec dt177_L_takes_ok (k := 42) rfl
theorem dL_takes_439 : decode cL_takes 439 = .ok (.imul, 1) := g_dec dt177_L_takes_ok (k := 43) rfl
theorem dL_takes_440 : decode cL_takes 440 = .ok (.aload 17, 2) := g_dec dt177_L_takes_ok (k := 44) rfl
theorem dL_takes_442 : decode cL_takes 442 = .ok (.iload 28, 2) := g_dec dt177_L_takes_ok (k := 45) rfl
theorem dL_takes_444 : decode cL_takes 444 = .ok (.iaload, 1) := g_dec dt177_L_takes_ok (k := 46) rfl
theorem dL_takes_445 : decode cL_takes 445 = .ok (.aload 17, 2) := g_dec dt177_L_takes_ok (k := 47) rfl
theorem dL_takes_447 : decode cL_takes 447 = .ok (.iconst 3, 1) := g_dec dt177_L_takes_ok (k := 48) rfl
theorem dL_takes_448 : decode cL_takes 448 = .ok (.iload 30, 2) := g_dec dt177_L_takes_ok (k := 49) rfl
theorem dL_takes_450 : decode cL_takes 450 = .ok (.iadd, 1) := g_dec dt177_L_takes_ok (k := 50) rfl
theorem dL_takes_451 : decode cL_takes 451 = .ok (.iaload, 1) := g_dec dt177_L_takes_ok (k := 51) rfl
theorem dL_takes_452 : decode cL_takes 452 = .ok (.imul, 1) := g_dec dt177_L_takes_ok (k := 52) rfl
theorem dL_takes_453 : decode cL_takes 453 = .ok (.if_icmp .ge 7, 3) := g_dec dt177_L_takes_ok (k := 53) rfl
theorem dL_takes_360 : decode cL_takes 360 = .ok (.iload 30, 2) := g_dec dt177_L_takes_ok (k := 54) rfl
theorem dL_takes_362 : decode cL_takes 362 = .ok (.iconst 3, 1) := g_dec dt177_L_takes_ok (k := 55) rfl
theorem dL_takes_363 : decode cL_takes 363 = .ok (.if_icmp .ge 134, 3) := g_dec dt177_L_takes_ok (k := 56) rfl
theorem dL_takes_366 : decode cL_takes 366 = .ok (.iload 23, 2) := g_dec dt177_L_takes_ok (k := 57) rfl
theorem dL_takes_368 : decode cL_takes 368 = .ok (.ifCond .le 129, 3) := g_dec dt177_L_takes_ok (k := 58) rfl
theorem dL_takes_371 : decode cL_takes 371 = .ok (.iload 25, 2) := g_dec dt177_L_takes_ok (k := 59) rfl
def dt178_L_takes : List (Nat × Instr × Nat) := [(373, (.ifCond .ne 124, 3)), (376, (.iload 29, 2)), (378, (.ifCond .lt 10, 3)), (381, (.iload 29, 2)), (383, (.bipush 99, 2)), (385, (.if_icmp .le 112, 3)), (357, (.iconst 0, 1)), (358, (.istore 30, 2)), (349, (.istore 28, 2)), (351, (.iinc 30 (-1), 3)), (354, (.goto (-59), 3)), (295, (.iload 30, 2)), (297, (.ifCond .lt 60, 3)), (300, (.iload 29, 2)), (302, (.ifCond .lt 55, 3)), (305, (.iload 25, 2)), (307, (.ifCond .ne 50, 3)), (310, (.aload_n 0, 1)), (311, (.aload_n 1, 1)), (312, (.aload 6, 2)), (314, (.aload 11, 2)), (316, (.aload 12, 2)), (318, (.aload 19, 2)), (320, (.iload 30, 2)), (322, (.iaload, 1)), (323, (.invokestatic 53, 3)), (326, (.iload 29, 2)), (328, (.ishr, 1)), (329, (.iconst 1, 1)), (330, (.iand, 1)), (331, (.iconst 1, 1)), (332, (.if_icmp .ne 15, 3)), (347, (.iload 28, 2)), (335, (.aload_n 1, 1)), (336, (.aload 19, 2)), (338, (.iload 30, 2)), (340, (.iaload, 1)), (341, (.iaload, 1)), (342, (.iconst 3, 1)), (343, (.irem, 1)), (344, (.goto 5, 3)), (287, (.istore 29, 2)), (289, (.iload 23, 2)), (291, (.iconst 1, 1)), (292, (.isub, 1)), (293, (.istore 30, 2)), (260, (.iload 23, 2)), (262, (.ifCond .le 24, 3)), (286, (.iconst (-1), 1)), (265, (.aload_n 0, 1)), (266, (.aload 11, 2)), (268, (.aload 13, 2)), (270, (.aload 14, 2)), (272, (.aload 15, 2)), (274, (.aload 16, 2)), (276, (.iload 24, 2)), (278, (.lload 26, 2)), (280, (.invokestatic 134, 3)), (283, (.goto 4, 3)), (253, (.lload 9, 2))]
theorem dt178_L_takes_ok : ∀ q ∈ dt178_L_takes, decode cL_takes q.1 = .ok q.2 := by decide +kernel
theorem dL_takes_373 : decode cL_takes 373 = .ok (.ifCond .ne 124, 3) := g_dec dt178_L_takes_ok (k := 0) rfl
theorem dL_takes_376 : decode cL_takes 376 = .ok (.iload 29, 2) := g_dec dt178_L_takes_ok (k := 1) rfl
theorem dL_takes_378 : decode cL_takes 378 = .ok (.ifCond .lt 10, 3) := g_dec dt178_L_takes_ok (k := 2) rfl
theorem dL_takes_381 : decode cL_takes 381 = .ok (.iload 29, 2) := g_dec dt178_L_takes_ok (k := 3) rfl
theorem dL_takes_383 : decode cL_takes 383 = .ok (.bipush 99, 2) := g_dec dt178_L_takes_ok (k := 4) rfl
theorem dL_takes_385 : decode cL_takes 385 = .ok (.if_icmp .le 112, 3) := g_dec dt178_L_takes_ok (k := 5) rfl
theorem dL_takes_357 : decode cL_takes 357 = .ok (.iconst 0, 1) := g_dec dt178_L_takes_ok (k := 6) rfl
theorem dL_takes_358 : decode cL_takes 358 = .ok (.istore 30, 2) := g_dec dt178_L_takes_ok (k := 7) rfl
theorem dL_takes_349 : decode cL_takes 349 = .ok (.istore 28, 2) := g_dec dt178_L_takes_ok (k := 8) rfl
theorem dL_takes_351 : decode cL_takes 351 = .ok (.iinc 30 (-1), 3) := g_dec dt178_L_takes_ok (k := 9) rfl
theorem dL_takes_354 : decode cL_takes 354 = .ok (.goto (-59), 3) := g_dec dt178_L_takes_ok (k := 10) rfl
theorem dL_takes_295 : decode cL_takes 295 = .ok (.iload 30, 2) := g_dec dt178_L_takes_ok (k := 11) rfl
theorem dL_takes_297 : decode cL_takes 297 = .ok (.ifCond .lt 60, 3) := g_dec dt178_L_takes_ok (k := 12) rfl
theorem dL_takes_300 : decode cL_takes 300 = .ok (.iload 29, 2) := g_dec dt178_L_takes_ok (k := 13) rfl
theorem dL_takes_302 : decode cL_takes 302 = .ok (.ifCond .lt 55, 3) := g_dec dt178_L_takes_ok (k := 14) rfl
theorem dL_takes_305 : decode cL_takes 305 = .ok (.iload 25, 2) := g_dec dt178_L_takes_ok (k := 15) rfl
theorem dL_takes_307 : decode cL_takes 307 = .ok (.ifCond .ne 50, 3) := g_dec dt178_L_takes_ok (k := 16) rfl
theorem dL_takes_310 : decode cL_takes 310 = .ok (.aload_n 0, 1) := g_dec dt178_L_takes_ok (k := 17) rfl
theorem dL_takes_311 : decode cL_takes 311 = .ok (.aload_n 1, 1) := g_dec dt178_L_takes_ok (k := 18) rfl
theorem dL_takes_312 : decode cL_takes 312 = .ok (.aload 6, 2) := g_dec dt178_L_takes_ok (k := 19) rfl
theorem dL_takes_314 : decode cL_takes 314 = .ok (.aload 11, 2) := g_dec dt178_L_takes_ok (k := 20) rfl
theorem dL_takes_316 : decode cL_takes 316 = .ok (.aload 12, 2) := g_dec dt178_L_takes_ok (k := 21) rfl
theorem dL_takes_318 : decode cL_takes 318 = .ok (.aload 19, 2) := g_dec dt178_L_takes_ok (k := 22) rfl
theorem dL_takes_320 : decode cL_takes 320 = .ok (.iload 30, 2) := g_dec dt178_L_takes_ok (k := 23) rfl
theorem dL_takes_322 : decode cL_takes 322 = .ok (.iaload, 1) := g_dec dt178_L_takes_ok (k := 24) rfl
theorem dL_takes_323 : decode cL_takes 323 = .ok (.invokestatic 53, 3) := g_dec dt178_L_takes_ok (k := 25) rfl
theorem dL_takes_326 : decode cL_takes 326 = .ok (.iload 29, 2) := g_dec dt178_L_takes_ok (k := 26) rfl
theorem dL_takes_328 : decode cL_takes 328 = .ok (.ishr, 1) := g_dec dt178_L_takes_ok (k := 27) rfl
theorem dL_takes_329 : decode cL_takes 329 = .ok (.iconst 1, 1) := g_dec dt178_L_takes_ok (k := 28) rfl
theorem dL_takes_330 : decode cL_takes 330 = .ok (.iand, 1) := g_dec dt178_L_takes_ok (k := 29) rfl
theorem dL_takes_331 : decode cL_takes 331 = .ok (.iconst 1, 1) := g_dec dt178_L_takes_ok (k := 30) rfl
theorem dL_takes_332 : decode cL_takes 332 = .ok (.if_icmp .ne 15, 3) := g_dec dt178_L_takes_ok (k := 31) rfl
theorem dL_takes_347 : decode cL_takes 347 = .ok (.iload 28, 2) := g_dec dt178_L_takes_ok (k := 32) rfl
theorem dL_takes_335 : decode cL_takes 335 = .ok (.aload_n 1, 1) := g_dec dt178_L_takes_ok (k := 33) rfl
theorem dL_takes_336 : decode cL_takes 336 = .ok (.aload 19, 2) := g_dec dt178_L_takes_ok (k := 34) rfl
theorem dL_takes_338 : decode cL_takes 338 = .ok (.iload 30, 2) := g_dec dt178_L_takes_ok (k := 35) rfl
theorem dL_takes_340 : decode cL_takes 340 = .ok (.iaload, 1) := g_dec dt178_L_takes_ok (k := 36) rfl
theorem dL_takes_341 : decode cL_takes 341 = .ok (.iaload, 1) := g_dec dt178_L_takes_ok (k := 37) rfl
theorem dL_takes_342 : decode cL_takes 342 = .ok (.iconst 3, 1) := g_dec dt178_L_takes_ok (k := 38) rfl
theorem dL_takes_343 : decode cL_takes 343 = .ok (.irem, 1) := g_dec dt178_L_takes_ok (k := 39) rfl
theorem dL_takes_344 : decode cL_takes 344 = .ok (.goto 5, 3) := g_dec dt178_L_takes_ok (k := 40) rfl
theorem dL_takes_287 : decode cL_takes 287 = .ok (.istore 29, 2) := g_dec dt178_L_takes_ok (k := 41) rfl
theorem dL_takes_289 : decode cL_takes 289 = .ok (.iload 23, 2) := g_dec dt178_L_takes_ok (k := 42) rfl
theorem dL_takes_291 : decode cL_takes 291 = .ok (.iconst 1, 1) := g_dec dt178_L_takes_ok (k := 43) rfl
theorem dL_takes_292 : decode cL_takes 292 = .ok (.isub, 1) := g_dec dt178_L_takes_ok (k := 44) rfl
theorem dL_takes_293 : decode cL_takes 293 = .ok (.istore 30, 2) := g_dec dt178_L_takes_ok (k := 45) rfl
theorem dL_takes_260 : decode cL_takes 260 = .ok (.iload 23, 2) := g_dec dt178_L_takes_ok (k := 46) rfl
theorem dL_takes_262 : decode cL_takes 262 = .ok (.ifCond .le 24, 3) := g_dec dt178_L_takes_ok (k := 47) rfl
theorem dL_takes_286 : decode cL_takes 286 = .ok (.iconst (-1), 1) := g_dec dt178_L_takes_ok (k := 48) rfl
theorem dL_takes_265 : decode cL_takes 265 = .ok (.aload_n 0, 1) := g_dec dt178_L_takes_ok (k := 49) rfl
theorem dL_takes_266 : decode cL_takes 266 = .ok (.aload 11, 2) := g_dec dt178_L_takes_ok (k := 50) rfl
theorem dL_takes_268 : decode cL_takes 268 = .ok (.aload 13, 2) := g_dec dt178_L_takes_ok (k := 51) rfl
theorem dL_takes_270 : decode cL_takes 270 = .ok (.aload 14, 2) := g_dec dt178_L_takes_ok (k := 52) rfl
theorem dL_takes_272 : decode cL_takes 272 = .ok (.aload 15, 2) := g_dec dt178_L_takes_ok (k := 53) rfl
theorem dL_takes_274 : decode cL_takes 274 = .ok (.aload 16, 2) := g_dec dt178_L_takes_ok (k := 54) rfl
theorem dL_takes_276 : decode cL_takes 276 = .ok (.iload 24, 2) := g_dec dt178_L_takes_ok (k := 55) rfl
theorem dL_takes_278 : decode cL_takes 278 = .ok (.lload 26, 2) := g_dec dt178_L_takes_ok (k := 56) rfl
theorem dL_takes_280 : decode cL_takes 280 = .ok (.invokestatic 134, 3) := g_dec dt178_L_takes_ok (k := 57) rfl
theorem dL_takes_283 : decode cL_takes 283 = .ok (.goto 4, 3) := g_dec dt178_L_takes_ok (k := 58) rfl
theorem dL_takes_253 : decode cL_takes 253 = .ok (.lload 9, 2) := g_dec dt178_L_takes_ok (k := 59) rfl
def dt179_L_takes : List (Nat × Instr × Nat) := [(255, (.invokestatic 60, 3)), (258, (.lstore 26, 2)), (227, (.istore 24, 2)), (229, (.aload 6, 2)), (231, (.aload 8, 2)), (233, (.aload 19, 2)), (235, (.aload 21, 2)), (237, (.iconst 2, 1)), (238, (.iaload, 1)), (239, (.ifCond .lt 10, 3)), (249, (.aload 21, 2)), (251, (.iconst 0, 1)), (252, (.iaload, 1)), (242, (.aload 21, 2)), (244, (.iconst 2, 1)), (245, (.iaload, 1)), (246, (.goto 7, 3)), (132, (.istore 25, 2)), (134, (.aload 20, 2)), (136, (.iconst 0, 1)), (137, (.laload, 1)), (138, (.lstore 26, 2)), (140, (.iconst 3, 1)), (141, (.istore 28, 2)), (143, (.iload 25, 2)), (145, (.ifCond .eq 115, 3)), (148, (.aload_n 0, 1)), (149, (.aload_n 1, 1)), (150, (.aload 6, 2)), (152, (.aload 8, 2)), (154, (.aload 11, 2)), (156, (.aload 12, 2)), (158, (.aload 13, 2)), (160, (.aload 14, 2)), (162, (.aload 17, 2)), (164, (.aload 19, 2)), (166, (.iload 23, 2)), (168, (.lload 9, 2)), (170, (.aload 21, 2)), (172, (.invokestatic 126, 3)), (175, (.aload 21, 2)), (177, (.iconst 2, 1)), (178, (.iaload, 1)), (179, (.ifCond .lt 24, 3)), (203, (.aload_n 0, 1)), (204, (.aload_n 1, 1)), (205, (.aload 6, 2)), (207, (.aload 8, 2)), (209, (.aload 11, 2)), (211, (.aload 12, 2)), (213, (.aload 13, 2)), (215, (.aload 14, 2)), (217, (.aload 19, 2)), (219, (.lload 9, 2)), (221, (.aload 21, 2)), (223, (.iconst 3, 1)), (224, (.invokestatic 130, 3)), (182, (.aload_n 0, 1)), (183, (.aload_n 1, 1)), (184, (.aload 6, 2))]
theorem dt179_L_takes_ok : ∀ q ∈ dt179_L_takes, decode cL_takes q.1 = .ok q.2 := by decide +kernel
theorem dL_takes_255 : decode cL_takes 255 = .ok (.invokestatic 60, 3) := g_dec dt179_L_takes_ok (k := 0) rfl
theorem dL_takes_258 : decode cL_takes 258 = .ok (.lstore 26, 2) := g_dec dt179_L_takes_ok (k := 1) rfl
theorem dL_takes_227 : decode cL_takes 227 = .ok (.istore 24, 2) := g_dec dt179_L_takes_ok (k := 2) rfl
theorem dL_takes_229 : decode cL_takes 229 = .ok (.aload 6, 2) := g_dec dt179_L_takes_ok (k := 3) rfl
theorem dL_takes_231 : decode cL_takes 231 = .ok (.aload 8, 2) := g_dec dt179_L_takes_ok (k := 4) rfl
theorem dL_takes_233 : decode cL_takes 233 = .ok (.aload 19, 2) := g_dec dt179_L_takes_ok (k := 5) rfl
theorem dL_takes_235 : decode cL_takes 235 = .ok (.aload 21, 2) := g_dec dt179_L_takes_ok (k := 6) rfl
theorem dL_takes_237 : decode cL_takes 237 = .ok (.iconst 2, 1) := g_dec dt179_L_takes_ok (k := 7) rfl
theorem dL_takes_238 : decode cL_takes 238 = .ok (.iaload, 1) := g_dec dt179_L_takes_ok (k := 8) rfl
theorem dL_takes_239 : decode cL_takes 239 = .ok (.ifCond .lt 10, 3) := g_dec dt179_L_takes_ok (k := 9) rfl
theorem dL_takes_249 : decode cL_takes 249 = .ok (.aload 21, 2) := g_dec dt179_L_takes_ok (k := 10) rfl
theorem dL_takes_251 : decode cL_takes 251 = .ok (.iconst 0, 1) := g_dec dt179_L_takes_ok (k := 11) rfl
theorem dL_takes_252 : decode cL_takes 252 = .ok (.iaload, 1) := g_dec dt179_L_takes_ok (k := 12) rfl
theorem dL_takes_242 : decode cL_takes 242 = .ok (.aload 21, 2) := g_dec dt179_L_takes_ok (k := 13) rfl
theorem dL_takes_244 : decode cL_takes 244 = .ok (.iconst 2, 1) := g_dec dt179_L_takes_ok (k := 14) rfl
theorem dL_takes_245 : decode cL_takes 245 = .ok (.iaload, 1) := g_dec dt179_L_takes_ok (k := 15) rfl
theorem dL_takes_246 : decode cL_takes 246 = .ok (.goto 7, 3) := g_dec dt179_L_takes_ok (k := 16) rfl
theorem dL_takes_132 : decode cL_takes 132 = .ok (.istore 25, 2) := g_dec dt179_L_takes_ok (k := 17) rfl
theorem dL_takes_134 : decode cL_takes 134 = .ok (.aload 20, 2) := g_dec dt179_L_takes_ok (k := 18) rfl
theorem dL_takes_136 : decode cL_takes 136 = .ok (.iconst 0, 1) := g_dec dt179_L_takes_ok (k := 19) rfl
theorem dL_takes_137 : decode cL_takes 137 = .ok (.laload, 1) := g_dec dt179_L_takes_ok (k := 20) rfl
theorem dL_takes_138 : decode cL_takes 138 = .ok (.lstore 26, 2) := g_dec dt179_L_takes_ok (k := 21) rfl
theorem dL_takes_140 : decode cL_takes 140 = .ok (.iconst 3, 1) := g_dec dt179_L_takes_ok (k := 22) rfl
theorem dL_takes_141 : decode cL_takes 141 = .ok (.istore 28, 2) := g_dec dt179_L_takes_ok (k := 23) rfl
theorem dL_takes_143 : decode cL_takes 143 = .ok (.iload 25, 2) := g_dec dt179_L_takes_ok (k := 24) rfl
theorem dL_takes_145 : decode cL_takes 145 = .ok (.ifCond .eq 115, 3) := g_dec dt179_L_takes_ok (k := 25) rfl
theorem dL_takes_148 : decode cL_takes 148 = .ok (.aload_n 0, 1) := g_dec dt179_L_takes_ok (k := 26) rfl
theorem dL_takes_149 : decode cL_takes 149 = .ok (.aload_n 1, 1) := g_dec dt179_L_takes_ok (k := 27) rfl
theorem dL_takes_150 : decode cL_takes 150 = .ok (.aload 6, 2) := g_dec dt179_L_takes_ok (k := 28) rfl
theorem dL_takes_152 : decode cL_takes 152 = .ok (.aload 8, 2) := g_dec dt179_L_takes_ok (k := 29) rfl
theorem dL_takes_154 : decode cL_takes 154 = .ok (.aload 11, 2) := g_dec dt179_L_takes_ok (k := 30) rfl
theorem dL_takes_156 : decode cL_takes 156 = .ok (.aload 12, 2) := g_dec dt179_L_takes_ok (k := 31) rfl
theorem dL_takes_158 : decode cL_takes 158 = .ok (.aload 13, 2) := g_dec dt179_L_takes_ok (k := 32) rfl
theorem dL_takes_160 : decode cL_takes 160 = .ok (.aload 14, 2) := g_dec dt179_L_takes_ok (k := 33) rfl
theorem dL_takes_162 : decode cL_takes 162 = .ok (.aload 17, 2) := g_dec dt179_L_takes_ok (k := 34) rfl
theorem dL_takes_164 : decode cL_takes 164 = .ok (.aload 19, 2) := g_dec dt179_L_takes_ok (k := 35) rfl
theorem dL_takes_166 : decode cL_takes 166 = .ok (.iload 23, 2) := g_dec dt179_L_takes_ok (k := 36) rfl
theorem dL_takes_168 : decode cL_takes 168 = .ok (.lload 9, 2) := g_dec dt179_L_takes_ok (k := 37) rfl
theorem dL_takes_170 : decode cL_takes 170 = .ok (.aload 21, 2) := g_dec dt179_L_takes_ok (k := 38) rfl
theorem dL_takes_172 : decode cL_takes 172 = .ok (.invokestatic 126, 3) := g_dec dt179_L_takes_ok (k := 39) rfl
theorem dL_takes_175 : decode cL_takes 175 = .ok (.aload 21, 2) := g_dec dt179_L_takes_ok (k := 40) rfl
theorem dL_takes_177 : decode cL_takes 177 = .ok (.iconst 2, 1) := g_dec dt179_L_takes_ok (k := 41) rfl
theorem dL_takes_178 : decode cL_takes 178 = .ok (.iaload, 1) := g_dec dt179_L_takes_ok (k := 42) rfl
theorem dL_takes_179 : decode cL_takes 179 = .ok (.ifCond .lt 24, 3) := g_dec dt179_L_takes_ok (k := 43) rfl
theorem dL_takes_203 : decode cL_takes 203 = .ok (.aload_n 0, 1) := g_dec dt179_L_takes_ok (k := 44) rfl
theorem dL_takes_204 : decode cL_takes 204 = .ok (.aload_n 1, 1) := g_dec dt179_L_takes_ok (k := 45) rfl
theorem dL_takes_205 : decode cL_takes 205 = .ok (.aload 6, 2) := g_dec dt179_L_takes_ok (k := 46) rfl
theorem dL_takes_207 : decode cL_takes 207 = .ok (.aload 8, 2) := g_dec dt179_L_takes_ok (k := 47) rfl
theorem dL_takes_209 : decode cL_takes 209 = .ok (.aload 11, 2) := g_dec dt179_L_takes_ok (k := 48) rfl
theorem dL_takes_211 : decode cL_takes 211 = .ok (.aload 12, 2) := g_dec dt179_L_takes_ok (k := 49) rfl
theorem dL_takes_213 : decode cL_takes 213 = .ok (.aload 13, 2) := g_dec dt179_L_takes_ok (k := 50) rfl
theorem dL_takes_215 : decode cL_takes 215 = .ok (.aload 14, 2) := g_dec dt179_L_takes_ok (k := 51) rfl
theorem dL_takes_217 : decode cL_takes 217 = .ok (.aload 19, 2) := g_dec dt179_L_takes_ok (k := 52) rfl
theorem dL_takes_219 : decode cL_takes 219 = .ok (.lload 9, 2) := g_dec dt179_L_takes_ok (k := 53) rfl
theorem dL_takes_221 : decode cL_takes 221 = .ok (.aload 21, 2) := g_dec dt179_L_takes_ok (k := 54) rfl
theorem dL_takes_223 : decode cL_takes 223 = .ok (.iconst 3, 1) := g_dec dt179_L_takes_ok (k := 55) rfl
theorem dL_takes_224 : decode cL_takes 224 = .ok (.invokestatic 130, 3) := g_dec dt179_L_takes_ok (k := 56) rfl
theorem dL_takes_182 : decode cL_takes 182 = .ok (.aload_n 0, 1) := g_dec dt179_L_takes_ok (k := 57) rfl
theorem dL_takes_183 : decode cL_takes 183 = .ok (.aload_n 1, 1) := g_dec dt179_L_takes_ok (k := 58) rfl
theorem dL_takes_184 : decode cL_takes 184 = .ok (.aload 6, 2) := g_dec dt179_L_takes_ok (k := 59) rfl
def dt180_L_takes : List (Nat × Instr × Nat) := [(186, (.aload 11, 2)), (188, (.aload 12, 2)), (190, (.aload 19, 2)), (192, (.iconst 0, 1)), (193, (.aload 21, 2)), (195, (.iconst 2, 1)), (196, (.iaload, 1)), (197, (.invokestatic 56, 3)), (200, (.goto 27, 3)), (131, (.iconst 0, 1)), (3, (.iload 18, 2)), (5, (.iconst 3, 1)), (6, (.if_icmp .ge 691, 3)), (697, (.return_, 1)), (9, (.aload 15, 2)), (11, (.bipush 6, 2)), (13, (.iload 18, 2)), (15, (.imul, 1)), (16, (.iconst 4, 1)), (17, (.iadd, 1)), (18, (.iaload, 1)), (19, (.iconst 1, 1)), (20, (.if_icmp .ne 671, 3)), (23, (.aload 15, 2)), (25, (.bipush 6, 2)), (27, (.iload 18, 2)), (29, (.imul, 1)), (30, (.iaload, 1)), (31, (.ifCond .ge 660, 3)), (34, (.bipush 32, 2)), (36, (.newarray .int, 2)), (38, (.astore 19, 2)), (40, (.iconst 5, 1)), (41, (.newarray .long, 2)), (43, (.astore 20, 2)), (45, (.iconst 3, 1)), (46, (.newarray .int, 2)), (48, (.astore 21, 2)), (50, (.aload_n 0, 1)), (51, (.aload_n 2, 1)), (52, (.aload_n 3, 1)), (53, (.aload 4, 2)), (55, (.aload 5, 2)), (57, (.aload 6, 2)), (59, (.aload 7, 2)), (61, (.aload 8, 2)), (63, (.lload 9, 2)), (65, (.aload 19, 2)), (67, (.aload 20, 2)), (69, (.invokestatic 122, 3)), (72, (.istore 22, 2)), (74, (.aload 19, 2)), (76, (.iload 22, 2)), (78, (.iconst 0, 1)), (79, (.invokestatic 110, 3)), (82, (.istore 23, 2)), (84, (.aload_n 0, 1)), (85, (.aload_n 1, 1)), (86, (.aload 6, 2)), (88, (.aload 11, 2))]
theorem dt180_L_takes_ok : ∀ q ∈ dt180_L_takes, decode cL_takes q.1 = .ok q.2 := by decide +kernel
theorem dL_takes_186 : decode cL_takes 186 = .ok (.aload 11, 2) := g_dec dt180_L_takes_ok (k := 0) rfl
theorem dL_takes_188 : decode cL_takes 188 = .ok (.aload 12, 2) := g_dec dt180_L_takes_ok (k := 1) rfl
theorem dL_takes_190 : decode cL_takes 190 = .ok (.aload 19, 2) := g_dec dt180_L_takes_ok (k := 2) rfl
theorem dL_takes_192 : decode cL_takes 192 = .ok (.iconst 0, 1) := g_dec dt180_L_takes_ok (k := 3) rfl
theorem dL_takes_193 : decode cL_takes 193 = .ok (.aload 21, 2) := g_dec dt180_L_takes_ok (k := 4) rfl
theorem dL_takes_195 : decode cL_takes 195 = .ok (.iconst 2, 1) := g_dec dt180_L_takes_ok (k := 5) rfl
theorem dL_takes_196 : decode cL_takes 196 = .ok (.iaload, 1) := g_dec dt180_L_takes_ok (k := 6) rfl
theorem dL_takes_197 : decode cL_takes 197 = .ok (.invokestatic 56, 3) := g_dec dt180_L_takes_ok (k := 7) rfl
theorem dL_takes_200 : decode cL_takes 200 = .ok (.goto 27, 3) := g_dec dt180_L_takes_ok (k := 8) rfl
theorem dL_takes_131 : decode cL_takes 131 = .ok (.iconst 0, 1) := g_dec dt180_L_takes_ok (k := 9) rfl
theorem dL_takes_3 : decode cL_takes 3 = .ok (.iload 18, 2) := g_dec dt180_L_takes_ok (k := 10) rfl
theorem dL_takes_5 : decode cL_takes 5 = .ok (.iconst 3, 1) := g_dec dt180_L_takes_ok (k := 11) rfl
theorem dL_takes_6 : decode cL_takes 6 = .ok (.if_icmp .ge 691, 3) := g_dec dt180_L_takes_ok (k := 12) rfl
theorem dL_takes_697 : decode cL_takes 697 = .ok (.return_, 1) := g_dec dt180_L_takes_ok (k := 13) rfl
theorem dL_takes_9 : decode cL_takes 9 = .ok (.aload 15, 2) := g_dec dt180_L_takes_ok (k := 14) rfl
theorem dL_takes_11 : decode cL_takes 11 = .ok (.bipush 6, 2) := g_dec dt180_L_takes_ok (k := 15) rfl
theorem dL_takes_13 : decode cL_takes 13 = .ok (.iload 18, 2) := g_dec dt180_L_takes_ok (k := 16) rfl
theorem dL_takes_15 : decode cL_takes 15 = .ok (.imul, 1) := g_dec dt180_L_takes_ok (k := 17) rfl
theorem dL_takes_16 : decode cL_takes 16 = .ok (.iconst 4, 1) := g_dec dt180_L_takes_ok (k := 18) rfl
theorem dL_takes_17 : decode cL_takes 17 = .ok (.iadd, 1) := g_dec dt180_L_takes_ok (k := 19) rfl
theorem dL_takes_18 : decode cL_takes 18 = .ok (.iaload, 1) := g_dec dt180_L_takes_ok (k := 20) rfl
theorem dL_takes_19 : decode cL_takes 19 = .ok (.iconst 1, 1) := g_dec dt180_L_takes_ok (k := 21) rfl
theorem dL_takes_20 : decode cL_takes 20 = .ok (.if_icmp .ne 671, 3) := g_dec dt180_L_takes_ok (k := 22) rfl
theorem dL_takes_23 : decode cL_takes 23 = .ok (.aload 15, 2) := g_dec dt180_L_takes_ok (k := 23) rfl
theorem dL_takes_25 : decode cL_takes 25 = .ok (.bipush 6, 2) := g_dec dt180_L_takes_ok (k := 24) rfl
theorem dL_takes_27 : decode cL_takes 27 = .ok (.iload 18, 2) := g_dec dt180_L_takes_ok (k := 25) rfl
theorem dL_takes_29 : decode cL_takes 29 = .ok (.imul, 1) := g_dec dt180_L_takes_ok (k := 26) rfl
theorem dL_takes_30 : decode cL_takes 30 = .ok (.iaload, 1) := g_dec dt180_L_takes_ok (k := 27) rfl
theorem dL_takes_31 : decode cL_takes 31 = .ok (.ifCond .ge 660, 3) := g_dec dt180_L_takes_ok (k := 28) rfl
theorem dL_takes_34 : decode cL_takes 34 = .ok (.bipush 32, 2) := g_dec dt180_L_takes_ok (k := 29) rfl
theorem dL_takes_36 : decode cL_takes 36 = .ok (.newarray .int, 2) := g_dec dt180_L_takes_ok (k := 30) rfl
theorem dL_takes_38 : decode cL_takes 38 = .ok (.astore 19, 2) := g_dec dt180_L_takes_ok (k := 31) rfl
theorem dL_takes_40 : decode cL_takes 40 = .ok (.iconst 5, 1) := g_dec dt180_L_takes_ok (k := 32) rfl
theorem dL_takes_41 : decode cL_takes 41 = .ok (.newarray .long, 2) := g_dec dt180_L_takes_ok (k := 33) rfl
theorem dL_takes_43 : decode cL_takes 43 = .ok (.astore 20, 2) := g_dec dt180_L_takes_ok (k := 34) rfl
theorem dL_takes_45 : decode cL_takes 45 = .ok (.iconst 3, 1) := g_dec dt180_L_takes_ok (k := 35) rfl
theorem dL_takes_46 : decode cL_takes 46 = .ok (.newarray .int, 2) := g_dec dt180_L_takes_ok (k := 36) rfl
theorem dL_takes_48 : decode cL_takes 48 = .ok (.astore 21, 2) := g_dec dt180_L_takes_ok (k := 37) rfl
theorem dL_takes_50 : decode cL_takes 50 = .ok (.aload_n 0, 1) := g_dec dt180_L_takes_ok (k := 38) rfl
theorem dL_takes_51 : decode cL_takes 51 = .ok (.aload_n 2, 1) := g_dec dt180_L_takes_ok (k := 39) rfl
theorem dL_takes_52 : decode cL_takes 52 = .ok (.aload_n 3, 1) := g_dec dt180_L_takes_ok (k := 40) rfl
theorem dL_takes_53 : decode cL_takes 53 = .ok (.aload 4, 2) := g_dec dt180_L_takes_ok (k := 41) rfl
theorem dL_takes_55 : decode cL_takes 55 = .ok (.aload 5, 2) := g_dec dt180_L_takes_ok (k := 42) rfl
theorem dL_takes_57 : decode cL_takes 57 = .ok (.aload 6, 2) := g_dec dt180_L_takes_ok (k := 43) rfl
theorem dL_takes_59 : decode cL_takes 59 = .ok (.aload 7, 2) := g_dec dt180_L_takes_ok (k := 44) rfl
theorem dL_takes_61 : decode cL_takes 61 = .ok (.aload 8, 2) := g_dec dt180_L_takes_ok (k := 45) rfl
theorem dL_takes_63 : decode cL_takes 63 = .ok (.lload 9, 2) := g_dec dt180_L_takes_ok (k := 46) rfl
theorem dL_takes_65 : decode cL_takes 65 = .ok (.aload 19, 2) := g_dec dt180_L_takes_ok (k := 47) rfl
theorem dL_takes_67 : decode cL_takes 67 = .ok (.aload 20, 2) := g_dec dt180_L_takes_ok (k := 48) rfl
theorem dL_takes_69 : decode cL_takes 69 = .ok (.invokestatic 122, 3) := g_dec dt180_L_takes_ok (k := 49) rfl
theorem dL_takes_72 : decode cL_takes 72 = .ok (.istore 22, 2) := g_dec dt180_L_takes_ok (k := 50) rfl
theorem dL_takes_74 : decode cL_takes 74 = .ok (.aload 19, 2) := g_dec dt180_L_takes_ok (k := 51) rfl
theorem dL_takes_76 : decode cL_takes 76 = .ok (.iload 22, 2) := g_dec dt180_L_takes_ok (k := 52) rfl
theorem dL_takes_78 : decode cL_takes 78 = .ok (.iconst 0, 1) := g_dec dt180_L_takes_ok (k := 53) rfl
theorem dL_takes_79 : decode cL_takes 79 = .ok (.invokestatic 110, 3) := g_dec dt180_L_takes_ok (k := 54) rfl
theorem dL_takes_82 : decode cL_takes 82 = .ok (.istore 23, 2) := g_dec dt180_L_takes_ok (k := 55) rfl
theorem dL_takes_84 : decode cL_takes 84 = .ok (.aload_n 0, 1) := g_dec dt180_L_takes_ok (k := 56) rfl
theorem dL_takes_85 : decode cL_takes 85 = .ok (.aload_n 1, 1) := g_dec dt180_L_takes_ok (k := 57) rfl
theorem dL_takes_86 : decode cL_takes 86 = .ok (.aload 6, 2) := g_dec dt180_L_takes_ok (k := 58) rfl
theorem dL_takes_88 : decode cL_takes 88 = .ok (.aload 11, 2) := g_dec dt180_L_takes_ok (k := 59) rfl
def dt181_L_takes : List (Nat × Instr × Nat) := [(90, (.aload 12, 2)), (92, (.aload 19, 2)), (94, (.iconst 0, 1)), (95, (.iload 23, 2)), (97, (.invokestatic 56, 3)), (100, (.istore 24, 2)), (102, (.iload 23, 2)), (104, (.ifCond .le 27, 3)), (107, (.aload_n 0, 1)), (108, (.aload 11, 2)), (110, (.aload 13, 2)), (112, (.aload 14, 2)), (114, (.iload 24, 2)), (116, (.aload 20, 2)), (118, (.iconst 0, 1)), (119, (.laload, 1)), (120, (.invokestatic 64, 3)), (123, (.iconst 2, 1)), (124, (.if_icmp .ne 7, 3)), (127, (.iconst 1, 1)), (128, (.goto 4, 3)), (0, (.iconst 0, 1)), (1, (.istore 18, 2))]
theorem dt181_L_takes_ok : ∀ q ∈ dt181_L_takes, decode cL_takes q.1 = .ok q.2 := by decide +kernel
theorem dL_takes_90 : decode cL_takes 90 = .ok (.aload 12, 2) := g_dec dt181_L_takes_ok (k := 0) rfl
theorem dL_takes_92 : decode cL_takes 92 = .ok (.aload 19, 2) := g_dec dt181_L_takes_ok (k := 1) rfl
theorem dL_takes_94 : decode cL_takes 94 = .ok (.iconst 0, 1) := g_dec dt181_L_takes_ok (k := 2) rfl
theorem dL_takes_95 : decode cL_takes 95 = .ok (.iload 23, 2) := g_dec dt181_L_takes_ok (k := 3) rfl
theorem dL_takes_97 : decode cL_takes 97 = .ok (.invokestatic 56, 3) := g_dec dt181_L_takes_ok (k := 4) rfl
theorem dL_takes_100 : decode cL_takes 100 = .ok (.istore 24, 2) := g_dec dt181_L_takes_ok (k := 5) rfl
theorem dL_takes_102 : decode cL_takes 102 = .ok (.iload 23, 2) := g_dec dt181_L_takes_ok (k := 6) rfl
theorem dL_takes_104 : decode cL_takes 104 = .ok (.ifCond .le 27, 3) := g_dec dt181_L_takes_ok (k := 7) rfl
theorem dL_takes_107 : decode cL_takes 107 = .ok (.aload_n 0, 1) := g_dec dt181_L_takes_ok (k := 8) rfl
theorem dL_takes_108 : decode cL_takes 108 = .ok (.aload 11, 2) := g_dec dt181_L_takes_ok (k := 9) rfl
theorem dL_takes_110 : decode cL_takes 110 = .ok (.aload 13, 2) := g_dec dt181_L_takes_ok (k := 10) rfl
theorem dL_takes_112 : decode cL_takes 112 = .ok (.aload 14, 2) := g_dec dt181_L_takes_ok (k := 11) rfl
theorem dL_takes_114 : decode cL_takes 114 = .ok (.iload 24, 2) := g_dec dt181_L_takes_ok (k := 12) rfl
theorem dL_takes_116 : decode cL_takes 116 = .ok (.aload 20, 2) := g_dec dt181_L_takes_ok (k := 13) rfl
theorem dL_takes_118 : decode cL_takes 118 = .ok (.iconst 0, 1) := g_dec dt181_L_takes_ok (k := 14) rfl
theorem dL_takes_119 : decode cL_takes 119 = .ok (.laload, 1) := g_dec dt181_L_takes_ok (k := 15) rfl
theorem dL_takes_120 : decode cL_takes 120 = .ok (.invokestatic 64, 3) := g_dec dt181_L_takes_ok (k := 16) rfl
theorem dL_takes_123 : decode cL_takes 123 = .ok (.iconst 2, 1) := g_dec dt181_L_takes_ok (k := 17) rfl
theorem dL_takes_124 : decode cL_takes 124 = .ok (.if_icmp .ne 7, 3) := g_dec dt181_L_takes_ok (k := 18) rfl
theorem dL_takes_127 : decode cL_takes 127 = .ok (.iconst 1, 1) := g_dec dt181_L_takes_ok (k := 19) rfl
theorem dL_takes_128 : decode cL_takes 128 = .ok (.goto 4, 3) := g_dec dt181_L_takes_ok (k := 20) rfl
theorem dL_takes_0 : decode cL_takes 0 = .ok (.iconst 0, 1) := g_dec dt181_L_takes_ok (k := 21) rfl
theorem dL_takes_1 : decode cL_takes 1 = .ok (.istore 18, 2) := g_dec dt181_L_takes_ok (k := 22) rfl
def dt182_L_decides : List (Nat × Instr × Nat) := [(364, (.goto (-361), 3)), (314, (.iload 25, 2)), (316, (.iconst 2, 1)), (317, (.if_icmp .ne 47, 3)), (320, (.iload 16, 2)), (322, (.ifCond .eq 42, 3)), (325, (.aload 15, 2)), (327, (.bipush 6, 2)), (329, (.aload_n 1, 1)), (330, (.aload 17, 2)), (332, (.aload 19, 2)), (334, (.iconst 1, 1)), (335, (.iaload, 1)), (336, (.iconst 1, 1)), (337, (.isub, 1)), (338, (.iaload, 1)), (339, (.iaload, 1)), (340, (.iadd, 1)), (341, (.dup2, 1)), (342, (.iaload, 1)), (343, (.iconst 1, 1)), (344, (.iadd, 1)), (345, (.iastore, 1)), (346, (.aload_n 0, 1)), (347, (.aload_n 2, 1)), (348, (.aload_n 3, 1)), (349, (.aload 17, 2)), (351, (.aload 19, 2)), (353, (.iconst 1, 1)), (354, (.iaload, 1)), (355, (.iconst 1, 1)), (356, (.isub, 1)), (357, (.iaload, 1)), (358, (.iconst 3, 1)), (359, (.invokestatic 142, 3)), (362, (.istore 26, 2)), (312, (.istore 16, 2)), (311, (.iconst 0, 1)), (240, (.iload 25, 2)), (242, (.iconst 2, 1)), (243, (.if_icmp .ne 71, 3)), (246, (.aload_n 0, 1)), (247, (.aload_n 1, 1)), (248, (.aload 7, 2)), (250, (.aload 9, 2)), (252, (.aload 11, 2)), (254, (.aload 12, 2)), (256, (.aload 13, 2)), (258, (.aload 14, 2)), (260, (.aload 15, 2)), (262, (.aload 17, 2)), (264, (.iload 24, 2)), (266, (.lload 20, 2)), (268, (.aload 19, 2)), (270, (.invokestatic 126, 3)), (273, (.aload 19, 2)), (275, (.iconst 2, 1)), (276, (.iaload, 1)), (277, (.ifCond .ge 34, 3)), (280, (.aload_n 0, 1))]
theorem dt182_L_decides_ok : ∀ q ∈ dt182_L_decides, decode cL_decides q.1 = .ok q.2 := by decide +kernel
theorem dL_decides_364 : decode cL_decides 364 = .ok (.goto (-361), 3) := g_dec dt182_L_decides_ok (k := 0) rfl
theorem dL_decides_314 : decode cL_decides 314 = .ok (.iload 25, 2) := g_dec dt182_L_decides_ok (k := 1) rfl
theorem dL_decides_316 : decode cL_decides 316 = .ok (.iconst 2, 1) := g_dec dt182_L_decides_ok (k := 2) rfl
theorem dL_decides_317 : decode cL_decides 317 = .ok (.if_icmp .ne 47, 3) := g_dec dt182_L_decides_ok (k := 3) rfl
theorem dL_decides_320 : decode cL_decides 320 = .ok (.iload 16, 2) := g_dec dt182_L_decides_ok (k := 4) rfl
theorem dL_decides_322 : decode cL_decides 322 = .ok (.ifCond .eq 42, 3) := g_dec dt182_L_decides_ok (k := 5) rfl
theorem dL_decides_325 : decode cL_decides 325 = .ok (.aload 15, 2) := g_dec dt182_L_decides_ok (k := 6) rfl
theorem dL_decides_327 : decode cL_decides 327 = .ok (.bipush 6, 2) := g_dec dt182_L_decides_ok (k := 7) rfl
theorem dL_decides_329 : decode cL_decides 329 = .ok (.aload_n 1, 1) := g_dec dt182_L_decides_ok (k := 8) rfl
theorem dL_decides_330 : decode cL_decides 330 = .ok (.aload 17, 2) := g_dec dt182_L_decides_ok (k := 9) rfl
theorem dL_decides_332 : decode cL_decides 332 = .ok (.aload 19, 2) := g_dec dt182_L_decides_ok (k := 10) rfl
theorem dL_decides_334 : decode cL_decides 334 = .ok (.iconst 1, 1) := g_dec dt182_L_decides_ok (k := 11) rfl
theorem dL_decides_335 : decode cL_decides 335 = .ok (.iaload, 1) := g_dec dt182_L_decides_ok (k := 12) rfl
theorem dL_decides_336 : decode cL_decides 336 = .ok (.iconst 1, 1) := g_dec dt182_L_decides_ok (k := 13) rfl
theorem dL_decides_337 : decode cL_decides 337 = .ok (.isub, 1) := g_dec dt182_L_decides_ok (k := 14) rfl
theorem dL_decides_338 : decode cL_decides 338 = .ok (.iaload, 1) := g_dec dt182_L_decides_ok (k := 15) rfl
theorem dL_decides_339 : decode cL_decides 339 = .ok (.iaload, 1) := g_dec dt182_L_decides_ok (k := 16) rfl
theorem dL_decides_340 : decode cL_decides 340 = .ok (.iadd, 1) := g_dec dt182_L_decides_ok (k := 17) rfl
theorem dL_decides_341 : decode cL_decides 341 = .ok (.dup2, 1) := g_dec dt182_L_decides_ok (k := 18) rfl
theorem dL_decides_342 : decode cL_decides 342 = .ok (.iaload, 1) := g_dec dt182_L_decides_ok (k := 19) rfl
theorem dL_decides_343 : decode cL_decides 343 = .ok (.iconst 1, 1) := g_dec dt182_L_decides_ok (k := 20) rfl
theorem dL_decides_344 : decode cL_decides 344 = .ok (.iadd, 1) := g_dec dt182_L_decides_ok (k := 21) rfl
theorem dL_decides_345 : decode cL_decides 345 = .ok (.iastore, 1) := g_dec dt182_L_decides_ok (k := 22) rfl
theorem dL_decides_346 : decode cL_decides 346 = .ok (.aload_n 0, 1) := g_dec dt182_L_decides_ok (k := 23) rfl
theorem dL_decides_347 : decode cL_decides 347 = .ok (.aload_n 2, 1) := g_dec dt182_L_decides_ok (k := 24) rfl
theorem dL_decides_348 : decode cL_decides 348 = .ok (.aload_n 3, 1) := g_dec dt182_L_decides_ok (k := 25) rfl
theorem dL_decides_349 : decode cL_decides 349 = .ok (.aload 17, 2) := g_dec dt182_L_decides_ok (k := 26) rfl
theorem dL_decides_351 : decode cL_decides 351 = .ok (.aload 19, 2) := g_dec dt182_L_decides_ok (k := 27) rfl
theorem dL_decides_353 : decode cL_decides 353 = .ok (.iconst 1, 1) := g_dec dt182_L_decides_ok (k := 28) rfl
theorem dL_decides_354 : decode cL_decides 354 = .ok (.iaload, 1) := g_dec dt182_L_decides_ok (k := 29) rfl
theorem dL_decides_355 : decode cL_decides 355 = .ok (.iconst 1, 1) := g_dec dt182_L_decides_ok (k := 30) rfl
theorem dL_decides_356 : decode cL_decides 356 = .ok (.isub, 1) := g_dec dt182_L_decides_ok (k := 31) rfl
theorem dL_decides_357 : decode cL_decides 357 = .ok (.iaload, 1) := g_dec dt182_L_decides_ok (k := 32) rfl
theorem dL_decides_358 : decode cL_decides 358 = .ok (.iconst 3, 1) := g_dec dt182_L_decides_ok (k := 33) rfl
theorem dL_decides_359 : decode cL_decides 359 = .ok (.invokestatic 142, 3) := g_dec dt182_L_decides_ok (k := 34) rfl
theorem dL_decides_362 : decode cL_decides 362 = .ok (.istore 26, 2) := g_dec dt182_L_decides_ok (k := 35) rfl
theorem dL_decides_312 : decode cL_decides 312 = .ok (.istore 16, 2) := g_dec dt182_L_decides_ok (k := 36) rfl
theorem dL_decides_311 : decode cL_decides 311 = .ok (.iconst 0, 1) := g_dec dt182_L_decides_ok (k := 37) rfl
theorem dL_decides_240 : decode cL_decides 240 = .ok (.iload 25, 2) := g_dec dt182_L_decides_ok (k := 38) rfl
theorem dL_decides_242 : decode cL_decides 242 = .ok (.iconst 2, 1) := g_dec dt182_L_decides_ok (k := 39) rfl
theorem dL_decides_243 : decode cL_decides 243 = .ok (.if_icmp .ne 71, 3) := g_dec dt182_L_decides_ok (k := 40) rfl
theorem dL_decides_246 : decode cL_decides 246 = .ok (.aload_n 0, 1) := g_dec dt182_L_decides_ok (k := 41) rfl
theorem dL_decides_247 : decode cL_decides 247 = .ok (.aload_n 1, 1) := g_dec dt182_L_decides_ok (k := 42) rfl
theorem dL_decides_248 : decode cL_decides 248 = .ok (.aload 7, 2) := g_dec dt182_L_decides_ok (k := 43) rfl
theorem dL_decides_250 : decode cL_decides 250 = .ok (.aload 9, 2) := g_dec dt182_L_decides_ok (k := 44) rfl
theorem dL_decides_252 : decode cL_decides 252 = .ok (.aload 11, 2) := g_dec dt182_L_decides_ok (k := 45) rfl
theorem dL_decides_254 : decode cL_decides 254 = .ok (.aload 12, 2) := g_dec dt182_L_decides_ok (k := 46) rfl
theorem dL_decides_256 : decode cL_decides 256 = .ok (.aload 13, 2) := g_dec dt182_L_decides_ok (k := 47) rfl
theorem dL_decides_258 : decode cL_decides 258 = .ok (.aload 14, 2) := g_dec dt182_L_decides_ok (k := 48) rfl
theorem dL_decides_260 : decode cL_decides 260 = .ok (.aload 15, 2) := g_dec dt182_L_decides_ok (k := 49) rfl
theorem dL_decides_262 : decode cL_decides 262 = .ok (.aload 17, 2) := g_dec dt182_L_decides_ok (k := 50) rfl
theorem dL_decides_264 : decode cL_decides 264 = .ok (.iload 24, 2) := g_dec dt182_L_decides_ok (k := 51) rfl
theorem dL_decides_266 : decode cL_decides 266 = .ok (.lload 20, 2) := g_dec dt182_L_decides_ok (k := 52) rfl
theorem dL_decides_268 : decode cL_decides 268 = .ok (.aload 19, 2) := g_dec dt182_L_decides_ok (k := 53) rfl
theorem dL_decides_270 : decode cL_decides 270 = .ok (.invokestatic 126, 3) := g_dec dt182_L_decides_ok (k := 54) rfl
theorem dL_decides_273 : decode cL_decides 273 = .ok (.aload 19, 2) := g_dec dt182_L_decides_ok (k := 55) rfl
theorem dL_decides_275 : decode cL_decides 275 = .ok (.iconst 2, 1) := g_dec dt182_L_decides_ok (k := 56) rfl
theorem dL_decides_276 : decode cL_decides 276 = .ok (.iaload, 1) := g_dec dt182_L_decides_ok (k := 57) rfl
theorem dL_decides_277 : decode cL_decides 277 = .ok (.ifCond .ge 34, 3) := g_dec dt182_L_decides_ok (k := 58) rfl
theorem dL_decides_280 : decode cL_decides 280 = .ok (.aload_n 0, 1) := g_dec dt182_L_decides_ok (k := 59) rfl
def dt183_L_decides : List (Nat × Instr × Nat) := [(281, (.aload_n 1, 1)), (282, (.aload 7, 2)), (284, (.aload 9, 2)), (286, (.aload 11, 2)), (288, (.aload 12, 2)), (290, (.aload 13, 2)), (292, (.aload 14, 2)), (294, (.aload 17, 2)), (296, (.lload 20, 2)), (298, (.aload 19, 2)), (300, (.iconst 1, 1)), (301, (.invokestatic 130, 3)), (304, (.ifCond .eq 7, 3)), (307, (.iconst 1, 1)), (308, (.goto 4, 3)), (217, (.iload 25, 2)), (219, (.iconst 1, 1)), (220, (.if_icmp .ne 20, 3)), (223, (.aload 10, 2)), (225, (.aload_n 0, 1)), (226, (.iconst 1, 1)), (227, (.iaload, 1)), (228, (.aload 18, 2)), (230, (.iconst 0, 1)), (231, (.laload, 1)), (232, (.lastore, 1)), (233, (.aload_n 0, 1)), (234, (.iconst 1, 1)), (235, (.dup2, 1)), (236, (.iaload, 1)), (237, (.iconst 1, 1)), (238, (.iadd, 1)), (239, (.iastore, 1)), (179, (.iload 26, 2)), (181, (.iload 24, 2)), (183, (.if_icmp .ge 34, 3)), (186, (.iload 25, 2)), (188, (.iconst 1, 1)), (189, (.if_icmp .ne 28, 3)), (192, (.aload_n 3, 1)), (193, (.aload 17, 2)), (195, (.iload 26, 2)), (197, (.iaload, 1)), (198, (.iconst 2, 1)), (199, (.iastore, 1)), (200, (.aload 6, 2)), (202, (.aload 17, 2)), (204, (.iload 26, 2)), (206, (.iaload, 1)), (207, (.aload_n 0, 1)), (208, (.iconst 1, 1)), (209, (.iaload, 1)), (210, (.iastore, 1)), (211, (.iinc 26 1, 3)), (214, (.goto (-35), 3)), (174, (.istore 16, 2)), (176, (.iconst 0, 1)), (177, (.istore 26, 2)), (92, (.iload 16, 2)), (94, (.ifCond .eq 270, 3))]
theorem dt183_L_decides_ok : ∀ q ∈ dt183_L_decides, decode cL_decides q.1 = .ok q.2 := by decide +kernel
theorem dL_decides_281 : decode cL_decides 281 = .ok (.aload_n 1, 1) := g_dec dt183_L_decides_ok (k := 0) rfl
theorem dL_decides_282 : decode cL_decides 282 = .ok (.aload 7, 2) := g_dec dt183_L_decides_ok (k := 1) rfl
theorem dL_decides_284 : decode cL_decides 284 = .ok (.aload 9, 2) := g_dec dt183_L_decides_ok (k := 2) rfl
theorem dL_decides_286 : decode cL_decides 286 = .ok (.aload 11, 2) := g_dec dt183_L_decides_ok (k := 3) rfl
theorem dL_decides_288 : decode cL_decides 288 = .ok (.aload 12, 2) := g_dec dt183_L_decides_ok (k := 4) rfl
theorem dL_decides_290 : decode cL_decides 290 = .ok (.aload 13, 2) := g_dec dt183_L_decides_ok (k := 5) rfl
theorem dL_decides_292 : decode cL_decides 292 = .ok (.aload 14, 2) := g_dec dt183_L_decides_ok (k := 6) rfl
theorem dL_decides_294 : decode cL_decides 294 = .ok (.aload 17, 2) := g_dec dt183_L_decides_ok (k := 7) rfl
theorem dL_decides_296 : decode cL_decides 296 = .ok (.lload 20, 2) := g_dec dt183_L_decides_ok (k := 8) rfl
theorem dL_decides_298 : decode cL_decides 298 = .ok (.aload 19, 2) := g_dec dt183_L_decides_ok (k := 9) rfl
theorem dL_decides_300 : decode cL_decides 300 = .ok (.iconst 1, 1) := g_dec dt183_L_decides_ok (k := 10) rfl
theorem dL_decides_301 : decode cL_decides 301 = .ok (.invokestatic 130, 3) := g_dec dt183_L_decides_ok (k := 11) rfl
theorem dL_decides_304 : decode cL_decides 304 = .ok (.ifCond .eq 7, 3) := g_dec dt183_L_decides_ok (k := 12) rfl
theorem dL_decides_307 : decode cL_decides 307 = .ok (.iconst 1, 1) := g_dec dt183_L_decides_ok (k := 13) rfl
theorem dL_decides_308 : decode cL_decides 308 = .ok (.goto 4, 3) := g_dec dt183_L_decides_ok (k := 14) rfl
theorem dL_decides_217 : decode cL_decides 217 = .ok (.iload 25, 2) := g_dec dt183_L_decides_ok (k := 15) rfl
theorem dL_decides_219 : decode cL_decides 219 = .ok (.iconst 1, 1) := g_dec dt183_L_decides_ok (k := 16) rfl
theorem dL_decides_220 : decode cL_decides 220 = .ok (.if_icmp .ne 20, 3) := g_dec dt183_L_decides_ok (k := 17) rfl
theorem dL_decides_223 : decode cL_decides 223 = .ok (.aload 10, 2) := g_dec dt183_L_decides_ok (k := 18) rfl
theorem dL_decides_225 : decode cL_decides 225 = .ok (.aload_n 0, 1) := g_dec dt183_L_decides_ok (k := 19) rfl
theorem dL_decides_226 : decode cL_decides 226 = .ok (.iconst 1, 1) := g_dec dt183_L_decides_ok (k := 20) rfl
theorem dL_decides_227 : decode cL_decides 227 = .ok (.iaload, 1) := g_dec dt183_L_decides_ok (k := 21) rfl
theorem dL_decides_228 : decode cL_decides 228 = .ok (.aload 18, 2) := g_dec dt183_L_decides_ok (k := 22) rfl
theorem dL_decides_230 : decode cL_decides 230 = .ok (.iconst 0, 1) := g_dec dt183_L_decides_ok (k := 23) rfl
theorem dL_decides_231 : decode cL_decides 231 = .ok (.laload, 1) := g_dec dt183_L_decides_ok (k := 24) rfl
theorem dL_decides_232 : decode cL_decides 232 = .ok (.lastore, 1) := g_dec dt183_L_decides_ok (k := 25) rfl
theorem dL_decides_233 : decode cL_decides 233 = .ok (.aload_n 0, 1) := g_dec dt183_L_decides_ok (k := 26) rfl
theorem dL_decides_234 : decode cL_decides 234 = .ok (.iconst 1, 1) := g_dec dt183_L_decides_ok (k := 27) rfl
theorem dL_decides_235 : decode cL_decides 235 = .ok (.dup2, 1) := g_dec dt183_L_decides_ok (k := 28) rfl
theorem dL_decides_236 : decode cL_decides 236 = .ok (.iaload, 1) := g_dec dt183_L_decides_ok (k := 29) rfl
theorem dL_decides_237 : decode cL_decides 237 = .ok (.iconst 1, 1) := g_dec dt183_L_decides_ok (k := 30) rfl
theorem dL_decides_238 : decode cL_decides 238 = .ok (.iadd, 1) := g_dec dt183_L_decides_ok (k := 31) rfl
theorem dL_decides_239 : decode cL_decides 239 = .ok (.iastore, 1) := g_dec dt183_L_decides_ok (k := 32) rfl
theorem dL_decides_179 : decode cL_decides 179 = .ok (.iload 26, 2) := g_dec dt183_L_decides_ok (k := 33) rfl
theorem dL_decides_181 : decode cL_decides 181 = .ok (.iload 24, 2) := g_dec dt183_L_decides_ok (k := 34) rfl
theorem dL_decides_183 : decode cL_decides 183 = .ok (.if_icmp .ge 34, 3) := g_dec dt183_L_decides_ok (k := 35) rfl
theorem dL_decides_186 : decode cL_decides 186 = .ok (.iload 25, 2) := g_dec dt183_L_decides_ok (k := 36) rfl
theorem dL_decides_188 : decode cL_decides 188 = .ok (.iconst 1, 1) := g_dec dt183_L_decides_ok (k := 37) rfl
theorem dL_decides_189 : decode cL_decides 189 = .ok (.if_icmp .ne 28, 3) := g_dec dt183_L_decides_ok (k := 38) rfl
theorem dL_decides_192 : decode cL_decides 192 = .ok (.aload_n 3, 1) := g_dec dt183_L_decides_ok (k := 39) rfl
theorem dL_decides_193 : decode cL_decides 193 = .ok (.aload 17, 2) := g_dec dt183_L_decides_ok (k := 40) rfl
theorem dL_decides_195 : decode cL_decides 195 = .ok (.iload 26, 2) := g_dec dt183_L_decides_ok (k := 41) rfl
theorem dL_decides_197 : decode cL_decides 197 = .ok (.iaload, 1) := g_dec dt183_L_decides_ok (k := 42) rfl
theorem dL_decides_198 : decode cL_decides 198 = .ok (.iconst 2, 1) := g_dec dt183_L_decides_ok (k := 43) rfl
theorem dL_decides_199 : decode cL_decides 199 = .ok (.iastore, 1) := g_dec dt183_L_decides_ok (k := 44) rfl
theorem dL_decides_200 : decode cL_decides 200 = .ok (.aload 6, 2) := g_dec dt183_L_decides_ok (k := 45) rfl
theorem dL_decides_202 : decode cL_decides 202 = .ok (.aload 17, 2) := g_dec dt183_L_decides_ok (k := 46) rfl
theorem dL_decides_204 : decode cL_decides 204 = .ok (.iload 26, 2) := g_dec dt183_L_decides_ok (k := 47) rfl
theorem dL_decides_206 : decode cL_decides 206 = .ok (.iaload, 1) := g_dec dt183_L_decides_ok (k := 48) rfl
theorem dL_decides_207 : decode cL_decides 207 = .ok (.aload_n 0, 1) := g_dec dt183_L_decides_ok (k := 49) rfl
theorem dL_decides_208 : decode cL_decides 208 = .ok (.iconst 1, 1) := g_dec dt183_L_decides_ok (k := 50) rfl
theorem dL_decides_209 : decode cL_decides 209 = .ok (.iaload, 1) := g_dec dt183_L_decides_ok (k := 51) rfl
theorem dL_decides_210 : decode cL_decides 210 = .ok (.iastore, 1) := g_dec dt183_L_decides_ok (k := 52) rfl
theorem dL_decides_211 : decode cL_decides 211 = .ok (.iinc 26 1, 3) := g_dec dt183_L_decides_ok (k := 53) rfl
theorem dL_decides_214 : decode cL_decides 214 = .ok (.goto (-35), 3) := g_dec dt183_L_decides_ok (k := 54) rfl
theorem dL_decides_174 : decode cL_decides 174 = .ok (.istore 16, 2) := g_dec dt183_L_decides_ok (k := 55) rfl
theorem dL_decides_176 : decode cL_decides 176 = .ok (.iconst 0, 1) := g_dec dt183_L_decides_ok (k := 56) rfl
theorem dL_decides_177 : decode cL_decides 177 = .ok (.istore 26, 2) := g_dec dt183_L_decides_ok (k := 57) rfl
theorem dL_decides_92 : decode cL_decides 92 = .ok (.iload 16, 2) := g_dec dt183_L_decides_ok (k := 58) rfl
theorem dL_decides_94 : decode cL_decides 94 = .ok (.ifCond .eq 270, 3) := g_dec dt183_L_decides_ok (k := 59) rfl
def dt184_L_decides : List (Nat × Instr × Nat) := [(97, (.aload_n 0, 1)), (98, (.aload_n 2, 1)), (99, (.aload_n 3, 1)), (100, (.aload 4, 2)), (102, (.aload 5, 2)), (104, (.aload 7, 2)), (106, (.aload 8, 2)), (108, (.aload 9, 2)), (110, (.lload 20, 2)), (112, (.aload 17, 2)), (114, (.aload 18, 2)), (116, (.invokestatic 122, 3)), (119, (.istore 23, 2)), (121, (.aload 17, 2)), (123, (.iload 23, 2)), (125, (.iconst 0, 1)), (126, (.invokestatic 110, 3)), (129, (.istore 24, 2)), (131, (.aload_n 0, 1)), (132, (.aload 11, 2)), (134, (.aload 13, 2)), (136, (.aload 14, 2)), (138, (.aload_n 0, 1)), (139, (.aload_n 1, 1)), (140, (.aload 7, 2)), (142, (.aload 11, 2)), (144, (.aload 12, 2)), (146, (.aload 17, 2)), (148, (.iconst 0, 1)), (149, (.iload 24, 2)), (151, (.invokestatic 56, 3)), (154, (.aload 18, 2)), (156, (.iconst 0, 1)), (157, (.laload, 1)), (158, (.invokestatic 64, 3)), (161, (.istore 25, 2)), (163, (.iload 25, 2)), (165, (.iconst 1, 1)), (166, (.if_icmp .ne 7, 3)), (173, (.iconst 0, 1)), (169, (.iconst 1, 1)), (170, (.goto 4, 3)), (57, (.istore 16, 2)), (59, (.iload 16, 2)), (61, (.ifCond .eq 31, 3)), (64, (.aload 7, 2)), (66, (.aload 8, 2)), (68, (.iload 22, 2)), (70, (.lload 20, 2)), (72, (.invokestatic 45, 3)), (75, (.ifCond .ne 17, 3)), (78, (.aload_n 0, 1)), (79, (.aload_n 2, 1)), (80, (.aload_n 3, 1)), (81, (.iload 22, 2)), (83, (.iconst 4, 1)), (84, (.invokestatic 142, 3)), (87, (.istore 23, 2)), (89, (.goto 275, 3)), (3, (.iload 16, 2))]
theorem dt184_L_decides_ok : ∀ q ∈ dt184_L_decides, decode cL_decides q.1 = .ok q.2 := by decide +kernel
theorem dL_decides_97 : decode cL_decides 97 = .ok (.aload_n 0, 1) := g_dec dt184_L_decides_ok (k := 0) rfl
theorem dL_decides_98 : decode cL_decides 98 = .ok (.aload_n 2, 1) := g_dec dt184_L_decides_ok (k := 1) rfl
theorem dL_decides_99 : decode cL_decides 99 = .ok (.aload_n 3, 1) := g_dec dt184_L_decides_ok (k := 2) rfl
theorem dL_decides_100 : decode cL_decides 100 = .ok (.aload 4, 2) := g_dec dt184_L_decides_ok (k := 3) rfl
theorem dL_decides_102 : decode cL_decides 102 = .ok (.aload 5, 2) := g_dec dt184_L_decides_ok (k := 4) rfl
theorem dL_decides_104 : decode cL_decides 104 = .ok (.aload 7, 2) := g_dec dt184_L_decides_ok (k := 5) rfl
theorem dL_decides_106 : decode cL_decides 106 = .ok (.aload 8, 2) := g_dec dt184_L_decides_ok (k := 6) rfl
theorem dL_decides_108 : decode cL_decides 108 = .ok (.aload 9, 2) := g_dec dt184_L_decides_ok (k := 7) rfl
theorem dL_decides_110 : decode cL_decides 110 = .ok (.lload 20, 2) := g_dec dt184_L_decides_ok (k := 8) rfl
theorem dL_decides_112 : decode cL_decides 112 = .ok (.aload 17, 2) := g_dec dt184_L_decides_ok (k := 9) rfl
theorem dL_decides_114 : decode cL_decides 114 = .ok (.aload 18, 2) := g_dec dt184_L_decides_ok (k := 10) rfl
theorem dL_decides_116 : decode cL_decides 116 = .ok (.invokestatic 122, 3) := g_dec dt184_L_decides_ok (k := 11) rfl
theorem dL_decides_119 : decode cL_decides 119 = .ok (.istore 23, 2) := g_dec dt184_L_decides_ok (k := 12) rfl
theorem dL_decides_121 : decode cL_decides 121 = .ok (.aload 17, 2) := g_dec dt184_L_decides_ok (k := 13) rfl
theorem dL_decides_123 : decode cL_decides 123 = .ok (.iload 23, 2) := g_dec dt184_L_decides_ok (k := 14) rfl
theorem dL_decides_125 : decode cL_decides 125 = .ok (.iconst 0, 1) := g_dec dt184_L_decides_ok (k := 15) rfl
theorem dL_decides_126 : decode cL_decides 126 = .ok (.invokestatic 110, 3) := g_dec dt184_L_decides_ok (k := 16) rfl
theorem dL_decides_129 : decode cL_decides 129 = .ok (.istore 24, 2) := g_dec dt184_L_decides_ok (k := 17) rfl
theorem dL_decides_131 : decode cL_decides 131 = .ok (.aload_n 0, 1) := g_dec dt184_L_decides_ok (k := 18) rfl
theorem dL_decides_132 : decode cL_decides 132 = .ok (.aload 11, 2) := g_dec dt184_L_decides_ok (k := 19) rfl
theorem dL_decides_134 : decode cL_decides 134 = .ok (.aload 13, 2) := g_dec dt184_L_decides_ok (k := 20) rfl
theorem dL_decides_136 : decode cL_decides 136 = .ok (.aload 14, 2) := g_dec dt184_L_decides_ok (k := 21) rfl
theorem dL_decides_138 : decode cL_decides 138 = .ok (.aload_n 0, 1) := g_dec dt184_L_decides_ok (k := 22) rfl
theorem dL_decides_139 : decode cL_decides 139 = .ok (.aload_n 1, 1) := g_dec dt184_L_decides_ok (k := 23) rfl
theorem dL_decides_140 : decode cL_decides 140 = .ok (.aload 7, 2) := g_dec dt184_L_decides_ok (k := 24) rfl
theorem dL_decides_142 : decode cL_decides 142 = .ok (.aload 11, 2) := g_dec dt184_L_decides_ok (k := 25) rfl
theorem dL_decides_144 : decode cL_decides 144 = .ok (.aload 12, 2) := g_dec dt184_L_decides_ok (k := 26) rfl
theorem dL_decides_146 : decode cL_decides 146 = .ok (.aload 17, 2) := g_dec dt184_L_decides_ok (k := 27) rfl
theorem dL_decides_148 : decode cL_decides 148 = .ok (.iconst 0, 1) := g_dec dt184_L_decides_ok (k := 28) rfl
theorem dL_decides_149 : decode cL_decides 149 = .ok (.iload 24, 2) := g_dec dt184_L_decides_ok (k := 29) rfl
theorem dL_decides_151 : decode cL_decides 151 = .ok (.invokestatic 56, 3) := g_dec dt184_L_decides_ok (k := 30) rfl
theorem dL_decides_154 : decode cL_decides 154 = .ok (.aload 18, 2) := g_dec dt184_L_decides_ok (k := 31) rfl
theorem dL_decides_156 : decode cL_decides 156 = .ok (.iconst 0, 1) := g_dec dt184_L_decides_ok (k := 32) rfl
theorem dL_decides_157 : decode cL_decides 157 = .ok (.laload, 1) := g_dec dt184_L_decides_ok (k := 33) rfl
theorem dL_decides_158 : decode cL_decides 158 = .ok (.invokestatic 64, 3) := g_dec dt184_L_decides_ok (k := 34) rfl
theorem dL_decides_161 : decode cL_decides 161 = .ok (.istore 25, 2) := g_dec dt184_L_decides_ok (k := 35) rfl
theorem dL_decides_163 : decode cL_decides 163 = .ok (.iload 25, 2) := g_dec dt184_L_decides_ok (k := 36) rfl
theorem dL_decides_165 : decode cL_decides 165 = .ok (.iconst 1, 1) := g_dec dt184_L_decides_ok (k := 37) rfl
theorem dL_decides_166 : decode cL_decides 166 = .ok (.if_icmp .ne 7, 3) := g_dec dt184_L_decides_ok (k := 38) rfl
theorem dL_decides_173 : decode cL_decides 173 = .ok (.iconst 0, 1) := g_dec dt184_L_decides_ok (k := 39) rfl
theorem dL_decides_169 : decode cL_decides 169 = .ok (.iconst 1, 1) := g_dec dt184_L_decides_ok (k := 40) rfl
theorem dL_decides_170 : decode cL_decides 170 = .ok (.goto 4, 3) := g_dec dt184_L_decides_ok (k := 41) rfl
theorem dL_decides_57 : decode cL_decides 57 = .ok (.istore 16, 2) := g_dec dt184_L_decides_ok (k := 42) rfl
theorem dL_decides_59 : decode cL_decides 59 = .ok (.iload 16, 2) := g_dec dt184_L_decides_ok (k := 43) rfl
theorem dL_decides_61 : decode cL_decides 61 = .ok (.ifCond .eq 31, 3) := g_dec dt184_L_decides_ok (k := 44) rfl
theorem dL_decides_64 : decode cL_decides 64 = .ok (.aload 7, 2) := g_dec dt184_L_decides_ok (k := 45) rfl
theorem dL_decides_66 : decode cL_decides 66 = .ok (.aload 8, 2) := g_dec dt184_L_decides_ok (k := 46) rfl
theorem dL_decides_68 : decode cL_decides 68 = .ok (.iload 22, 2) := g_dec dt184_L_decides_ok (k := 47) rfl
theorem dL_decides_70 : decode cL_decides 70 = .ok (.lload 20, 2) := g_dec dt184_L_decides_ok (k := 48) rfl
theorem dL_decides_72 : decode cL_decides 72 = .ok (.invokestatic 45, 3) := g_dec dt184_L_decides_ok (k := 49) rfl
theorem dL_decides_75 : decode cL_decides 75 = .ok (.ifCond .ne 17, 3) := g_dec dt184_L_decides_ok (k := 50) rfl
theorem dL_decides_78 : decode cL_decides 78 = .ok (.aload_n 0, 1) := g_dec dt184_L_decides_ok (k := 51) rfl
theorem dL_decides_79 : decode cL_decides 79 = .ok (.aload_n 2, 1) := g_dec dt184_L_decides_ok (k := 52) rfl
theorem dL_decides_80 : decode cL_decides 80 = .ok (.aload_n 3, 1) := g_dec dt184_L_decides_ok (k := 53) rfl
theorem dL_decides_81 : decode cL_decides 81 = .ok (.iload 22, 2) := g_dec dt184_L_decides_ok (k := 54) rfl
theorem dL_decides_83 : decode cL_decides 83 = .ok (.iconst 4, 1) := g_dec dt184_L_decides_ok (k := 55) rfl
theorem dL_decides_84 : decode cL_decides 84 = .ok (.invokestatic 142, 3) := g_dec dt184_L_decides_ok (k := 56) rfl
theorem dL_decides_87 : decode cL_decides 87 = .ok (.istore 23, 2) := g_dec dt184_L_decides_ok (k := 57) rfl
theorem dL_decides_89 : decode cL_decides 89 = .ok (.goto 275, 3) := g_dec dt184_L_decides_ok (k := 58) rfl
theorem dL_decides_3 : decode cL_decides 3 = .ok (.iload 16, 2) := g_dec dt184_L_decides_ok (k := 59) rfl
def dt185_L_decides : List (Nat × Instr × Nat) := [(5, (.ifCond .eq 362, 3)), (367, (.aload 10, 2)), (369, (.aload_n 0, 1)), (370, (.iconst 1, 1)), (371, (.iaload, 1)), (372, (.iconst 1, 1)), (373, (.isub, 1)), (374, (.laload, 1)), (375, (.lreturn, 1)), (8, (.bipush 32, 2)), (10, (.newarray .int, 2)), (12, (.astore 17, 2)), (14, (.iconst 5, 1)), (15, (.newarray .long, 2)), (17, (.astore 18, 2)), (19, (.iconst 3, 1)), (20, (.newarray .int, 2)), (22, (.astore 19, 2)), (24, (.aload 10, 2)), (26, (.aload_n 0, 1)), (27, (.iconst 1, 1)), (28, (.iaload, 1)), (29, (.iconst 1, 1)), (30, (.isub, 1)), (31, (.laload, 1)), (32, (.lstore 20, 2)), (34, (.aload_n 0, 1)), (35, (.aload_n 2, 1)), (36, (.aload_n 3, 1)), (37, (.aload 4, 2)), (39, (.aload 5, 2)), (41, (.iconst 0, 1)), (42, (.invokestatic 41, 3)), (45, (.istore 22, 2)), (47, (.iload 22, 2)), (49, (.ifCond .lt 7, 3)), (56, (.iconst 0, 1)), (52, (.iconst 1, 1)), (53, (.goto 4, 3)), (0, (.iconst 1, 1)), (1, (.istore 16, 2))]
theorem dt185_L_decides_ok : ∀ q ∈ dt185_L_decides, decode cL_decides q.1 = .ok q.2 := by decide +kernel
theorem dL_decides_5 : decode cL_decides 5 = .ok (.ifCond .eq 362, 3) := g_dec dt185_L_decides_ok (k := 0) rfl
theorem dL_decides_367 : decode cL_decides 367 = .ok (.aload 10, 2) := g_dec dt185_L_decides_ok (k := 1) rfl
theorem dL_decides_369 : decode cL_decides 369 = .ok (.aload_n 0, 1) := g_dec dt185_L_decides_ok (k := 2) rfl
theorem dL_decides_370 : decode cL_decides 370 = .ok (.iconst 1, 1) := g_dec dt185_L_decides_ok (k := 3) rfl
theorem dL_decides_371 : decode cL_decides 371 = .ok (.iaload, 1) := g_dec dt185_L_decides_ok (k := 4) rfl
theorem dL_decides_372 : decode cL_decides 372 = .ok (.iconst 1, 1) := g_dec dt185_L_decides_ok (k := 5) rfl
theorem dL_decides_373 : decode cL_decides 373 = .ok (.isub, 1) := g_dec dt185_L_decides_ok (k := 6) rfl
theorem dL_decides_374 : decode cL_decides 374 = .ok (.laload, 1) := g_dec dt185_L_decides_ok (k := 7) rfl
theorem dL_decides_375 : decode cL_decides 375 = .ok (.lreturn, 1) := g_dec dt185_L_decides_ok (k := 8) rfl
theorem dL_decides_8 : decode cL_decides 8 = .ok (.bipush 32, 2) := g_dec dt185_L_decides_ok (k := 9) rfl
theorem dL_decides_10 : decode cL_decides 10 = .ok (.newarray .int, 2) := g_dec dt185_L_decides_ok (k := 10) rfl
theorem dL_decides_12 : decode cL_decides 12 = .ok (.astore 17, 2) := g_dec dt185_L_decides_ok (k := 11) rfl
theorem dL_decides_14 : decode cL_decides 14 = .ok (.iconst 5, 1) := g_dec dt185_L_decides_ok (k := 12) rfl
theorem dL_decides_15 : decode cL_decides 15 = .ok (.newarray .long, 2) := g_dec dt185_L_decides_ok (k := 13) rfl
theorem dL_decides_17 : decode cL_decides 17 = .ok (.astore 18, 2) := g_dec dt185_L_decides_ok (k := 14) rfl
theorem dL_decides_19 : decode cL_decides 19 = .ok (.iconst 3, 1) := g_dec dt185_L_decides_ok (k := 15) rfl
theorem dL_decides_20 : decode cL_decides 20 = .ok (.newarray .int, 2) := g_dec dt185_L_decides_ok (k := 16) rfl
theorem dL_decides_22 : decode cL_decides 22 = .ok (.astore 19, 2) := g_dec dt185_L_decides_ok (k := 17) rfl
theorem dL_decides_24 : decode cL_decides 24 = .ok (.aload 10, 2) := g_dec dt185_L_decides_ok (k := 18) rfl
theorem dL_decides_26 : decode cL_decides 26 = .ok (.aload_n 0, 1) := g_dec dt185_L_decides_ok (k := 19) rfl
theorem dL_decides_27 : decode cL_decides 27 = .ok (.iconst 1, 1) := g_dec dt185_L_decides_ok (k := 20) rfl
theorem dL_decides_28 : decode cL_decides 28 = .ok (.iaload, 1) := g_dec dt185_L_decides_ok (k := 21) rfl
theorem dL_decides_29 : decode cL_decides 29 = .ok (.iconst 1, 1) := g_dec dt185_L_decides_ok (k := 22) rfl
theorem dL_decides_30 : decode cL_decides 30 = .ok (.isub, 1) := g_dec dt185_L_decides_ok (k := 23) rfl
theorem dL_decides_31 : decode cL_decides 31 = .ok (.laload, 1) := g_dec dt185_L_decides_ok (k := 24) rfl
theorem dL_decides_32 : decode cL_decides 32 = .ok (.lstore 20, 2) := g_dec dt185_L_decides_ok (k := 25) rfl
theorem dL_decides_34 : decode cL_decides 34 = .ok (.aload_n 0, 1) := g_dec dt185_L_decides_ok (k := 26) rfl
theorem dL_decides_35 : decode cL_decides 35 = .ok (.aload_n 2, 1) := g_dec dt185_L_decides_ok (k := 27) rfl
theorem dL_decides_36 : decode cL_decides 36 = .ok (.aload_n 3, 1) := g_dec dt185_L_decides_ok (k := 28) rfl
theorem dL_decides_37 : decode cL_decides 37 = .ok (.aload 4, 2) := g_dec dt185_L_decides_ok (k := 29) rfl
theorem dL_decides_39 : decode cL_decides 39 = .ok (.aload 5, 2) := g_dec dt185_L_decides_ok (k := 30) rfl
theorem dL_decides_41 : decode cL_decides 41 = .ok (.iconst 0, 1) := g_dec dt185_L_decides_ok (k := 31) rfl
theorem dL_decides_42 : decode cL_decides 42 = .ok (.invokestatic 41, 3) := g_dec dt185_L_decides_ok (k := 32) rfl
theorem dL_decides_45 : decode cL_decides 45 = .ok (.istore 22, 2) := g_dec dt185_L_decides_ok (k := 33) rfl
theorem dL_decides_47 : decode cL_decides 47 = .ok (.iload 22, 2) := g_dec dt185_L_decides_ok (k := 34) rfl
theorem dL_decides_49 : decode cL_decides 49 = .ok (.ifCond .lt 7, 3) := g_dec dt185_L_decides_ok (k := 35) rfl
theorem dL_decides_56 : decode cL_decides 56 = .ok (.iconst 0, 1) := g_dec dt185_L_decides_ok (k := 36) rfl
theorem dL_decides_52 : decode cL_decides 52 = .ok (.iconst 1, 1) := g_dec dt185_L_decides_ok (k := 37) rfl
theorem dL_decides_53 : decode cL_decides 53 = .ok (.goto 4, 3) := g_dec dt185_L_decides_ok (k := 38) rfl
theorem dL_decides_0 : decode cL_decides 0 = .ok (.iconst 1, 1) := g_dec dt185_L_decides_ok (k := 39) rfl
theorem dL_decides_1 : decode cL_decides 1 = .ok (.istore 16, 2) := g_dec dt185_L_decides_ok (k := 40) rfl
theorem ggS_RL_134_L_free : GoodIn wsL_law (va_wsS RL 134 yL_free (Cond.code yL_free cL_free 11 (some .int) :: wsL_law)) := g_gi (fun _ h => h) gW_good (List.forall_mem_cons.mpr ⟨⟨gw_726, rfl⟩, List.forall_mem_cons.mpr ⟨⟨gw_727, rfl⟩, List.forall_mem_cons.mpr ⟨⟨gw_162, rfl⟩, fun _ h => nomatch h⟩⟩⟩) ⟨gw_728, rfl⟩
theorem ggS_RL_138_L_wanted : GoodIn wsL_law (va_wsS RL 138 yL_wanted (Cond.code yL_wanted cL_wanted 19 (some .int) :: wsL_law)) := g_gi (fun _ h => h) gW_good (List.forall_mem_cons.mpr ⟨⟨gw_732, rfl⟩, List.forall_mem_cons.mpr ⟨⟨gw_733, rfl⟩, List.forall_mem_cons.mpr ⟨⟨gw_162, rfl⟩, fun _ h => nomatch h⟩⟩⟩) ⟨gw_734, rfl⟩
theorem ggS_RL_126_L_bisects : GoodIn wsL_law (va_wsS RL 126 yL_bisects (Cond.code yL_bisects cL_bisects 18 none :: wsL_law)) := g_gi (fun _ h => h) gW_good (List.forall_mem_cons.mpr ⟨⟨gw_560, rfl⟩, List.forall_mem_cons.mpr ⟨⟨gw_561, rfl⟩, List.forall_mem_cons.mpr ⟨⟨gw_162, rfl⟩, fun _ h => nomatch h⟩⟩⟩) ⟨gw_562, rfl⟩
theorem ggS_RL_130_L_failed : GoodIn wsL_law (va_wsS RL 130 yL_failed (Cond.code yL_failed cL_failed 17 (some .int) :: wsL_law)) := g_gi (fun _ h => h) gW_good (List.forall_mem_cons.mpr ⟨⟨gw_566, rfl⟩, List.forall_mem_cons.mpr ⟨⟨gw_567, rfl⟩, List.forall_mem_cons.mpr ⟨⟨gw_162, rfl⟩, fun _ h => nomatch h⟩⟩⟩) ⟨gw_568, rfl⟩
theorem ggS_RL_122_L_batches : GoodIn wsL_law (va_wsS RL 122 yL_batches (Cond.code yL_batches cL_batches 21 (some .int) :: wsL_law)) := g_gi (fun _ h => h) gW_good (List.forall_mem_cons.mpr ⟨⟨gw_445, rfl⟩, List.forall_mem_cons.mpr ⟨⟨gw_446, rfl⟩, List.forall_mem_cons.mpr ⟨⟨gw_162, rfl⟩, fun _ h => nomatch h⟩⟩⟩) ⟨gw_447, rfl⟩
section
variable {p : Program} {l : Launch} {e : Env} {s : State} {m : MethodId} {args : Array Value} {below : List Frame} {meth : Method} {c : Code} {D : va_G} {y : Nat → ClassId} {aS : Nat → Nat} {A : Nat → Prop} {L : List Nat} {ad0 : Nat → Nat} {N : Nat} {res : gS}
def fL_takes_691 (N : Nat) (rec3 : (gS × Int32) → Option gS) (σ : gS) (x9 : Int64) (x18 : Int32) : Option gS := rec3 (σ, (x18 + 1))
set_option maxRecDepth 100000 in
set_option maxHeartbeats 4000000 in
theorem wL_takes_691 {rec3 : (gS × Int32) → Option gS} {σ : gS} {x9 : Int64} {x18 : Int32} {ad : Nat → Nat} {kc ns : Nat} (hx : p.tables.exec = Jvm.exec) (hb : c.code = cL_takes) (hr : meth.sig.returnType = none) (hml : c.maxLocals = 33) (hown : s.vm.findClass RL = some m.cls) (hg : ∀ w ∈ wsL_law, w.before args s = true) (hlocks : meth.locks = false) (hK : gK D y aS s) (hA : ∀ q, s.heap.size ≤ q → A q) (hL : ∀ k, k < 179 → k ∈ L) (hL2 : ∀ k ∈ L, k < 179) (ha : ∀ k, k < 179 → ad k = ad0 k) (hrec3 : ∀ {ad : Nat → Nat} {kc ns : Nat} (ha : ∀ k, k < 179 → ad k = ad0 k) {σ9 : gS} {x18n9 : Int32} (hkc : kc ≤ 3 * x18n9.toInt.toNat) (hns : ns ≤ 40 * x18n9.toInt.toNat) (hi0 : 0 ≤ x18n9.toInt) (hi6 : x18n9.toInt ≤ 3) (H : Heap) (locs : List Loc) (ls : Array Slot), gY D y A s L ad σ9 H locs → lv_has ls 33 [(0, .ref (ad 161)), (1, .ref (ad 162)), (2, .ref (ad 163)), (3, .ref (ad 164)), (4, .ref (ad 165)), (5, .ref (ad 166)), (6, .ref (ad 168)), (7, .ref (ad 169)), (8, .ref (ad 170)), (9, .long x9), (11, .ref (ad 172)), (12, .ref (ad 173)), (13, .ref (ad 174)), (14, .ref (ad 175)), (15, .ref (ad 176)), (16, .ref (ad 177)), (17, .ref (ad 178)), (18, .int x18n9)] → rec3 (σ9, x18n9) = some res → W p l e ({ frames := 5, cells := 9, slots := 120, locals := 141 } : Room) s m args below meth c H locs kc ns (MQ below (va_Qv (fun (_ : Unit) => True) (fun _ => gO D A (GW L y ad0 res)) A) args s 9 120 A) (F0 m 3 ls [])) (hkc : kc ≤ 3 * (x18.toInt.toNat + 1)) (hns : ns ≤ 40 * (x18.toInt.toNat + 1)) (hi0 : 0 ≤ x18.toInt) (hi6 : x18.toInt < 3) {H : Heap} {locs : List Loc} {ls : Array Slot} (hY : gY D y A s L ad σ H locs) (hl : lv_has ls 33 [(0, .ref (ad 161)), (1, .ref (ad 162)), (2, .ref (ad 163)), (3, .ref (ad 164)), (4, .ref (ad 165)), (5, .ref (ad 166)), (6, .ref (ad 168)), (7, .ref (ad 169)), (8, .ref (ad 170)), (9, .long x9), (11, .ref (ad 172)), (12, .ref (ad 173)), (13, .ref (ad 174)), (14, .ref (ad 175)), (15, .ref (ad 176)), (16, .ref (ad 177)), (17, .ref (ad 178)), (18, .int x18)]) (h : fL_takes_691 N rec3 σ x9 x18 = some res) : W p l e ({ frames := 5, cells := 9, slots := 120, locals := 141 } : Room) s m args below meth c H locs kc ns (MQ below (va_Qv (fun (_ : Unit) => True) (fun _ => gO D A (GW L y ad0 res)) A) args s 9 120 A) (F0 m 691 ls []) := by
  unfold fL_takes_691 at h
  refine lv_iinc (v := (x18 + 1)) (lv' := [(18, .int (x18 + 1)), (0, .ref (ad 161)), (1, .ref (ad 162)), (2, .ref (ad 163)), (3, .ref (ad 164)), (4, .ref (ad 165)), (5, .ref (ad 166)), (6, .ref (ad 168)), (7, .ref (ad 169)), (8, .ref (ad 170)), (9, .long x9), (11, .ref (ad 172)), (12, .ref (ad 173)), (13, .ref (ad 174)), (14, .ref (ad 175)), (15, .ref (ad 176)), (16, .ref (ad 177)), (17, .ref (ad 178))]) hx hb dL_takes_691 hl (k := 17) rfl rfl (by decide) rfl ?_
  clear hl
  intro ls hl
  refine lv_goto (tgt := 3) hx hb dL_takes_694 (by decide) ?_
  have hinc : (x18 + 1).toInt = x18.toInt + 1 := g_inc (by omega)
  exact hrec3 ha (by first | omega | (simp only [g_l0]; omega)) (by first | omega | (simp only [g_l0]; omega)) (by first | omega | (simp only [g_l0]; omega)) (by first | omega | (simp only [g_l0]; omega)) _ _ _ hY (lv_sub hl [1, 2, 3, 4, 5, 6, 7, 8, 9, 10, 11, 12, 13, 14, 15, 16, 17, 0] rfl) h
def fL_takes_689 (N : Nat) (rec3 : (gS × Int32) → Option gS) (σ : gS) (x9 : Int64) (x18 : Int32) (xs0 : Int32) (xs1 : Int32) (xs2 : Int32) : Option gS := if xs2 < 0 ∨ 14 ≤ xs2.toNatClampNeg then none else (fL_takes_691 N rec3 (sI σ 178 xs2.toNatClampNeg (xs1 + xs0)) x9 x18)
set_option maxRecDepth 100000 in
set_option maxHeartbeats 4000000 in
theorem wL_takes_689 {rec3 : (gS × Int32) → Option gS} {σ : gS} {x9 : Int64} {x18 : Int32} {xs0 : Int32} {xs1 : Int32} {xs2 : Int32} {ad : Nat → Nat} {kc ns : Nat} (hx : p.tables.exec = Jvm.exec) (hb : c.code = cL_takes) (hr : meth.sig.returnType = none) (hml : c.maxLocals = 33) (hown : s.vm.findClass RL = some m.cls) (hg : ∀ w ∈ wsL_law, w.before args s = true) (hlocks : meth.locks = false) (hK : gK D y aS s) (hA : ∀ q, s.heap.size ≤ q → A q) (hL : ∀ k, k < 179 → k ∈ L) (hL2 : ∀ k ∈ L, k < 179) (ha : ∀ k, k < 179 → ad k = ad0 k) (hrec3 : ∀ {ad : Nat → Nat} {kc ns : Nat} (ha : ∀ k, k < 179 → ad k = ad0 k) {σ9 : gS} {x18n9 : Int32} (hkc : kc ≤ 3 * x18n9.toInt.toNat) (hns : ns ≤ 40 * x18n9.toInt.toNat) (hi0 : 0 ≤ x18n9.toInt) (hi6 : x18n9.toInt ≤ 3) (H : Heap) (locs : List Loc) (ls : Array Slot), gY D y A s L ad σ9 H locs → lv_has ls 33 [(0, .ref (ad 161)), (1, .ref (ad 162)), (2, .ref (ad 163)), (3, .ref (ad 164)), (4, .ref (ad 165)), (5, .ref (ad 166)), (6, .ref (ad 168)), (7, .ref (ad 169)), (8, .ref (ad 170)), (9, .long x9), (11, .ref (ad 172)), (12, .ref (ad 173)), (13, .ref (ad 174)), (14, .ref (ad 175)), (15, .ref (ad 176)), (16, .ref (ad 177)), (17, .ref (ad 178)), (18, .int x18n9)] → rec3 (σ9, x18n9) = some res → W p l e ({ frames := 5, cells := 9, slots := 120, locals := 141 } : Room) s m args below meth c H locs kc ns (MQ below (va_Qv (fun (_ : Unit) => True) (fun _ => gO D A (GW L y ad0 res)) A) args s 9 120 A) (F0 m 3 ls [])) (hkc : kc ≤ 3 * (x18.toInt.toNat + 1)) (hns : ns ≤ 40 * (x18.toInt.toNat + 1)) (hi0 : 0 ≤ x18.toInt) (hi6 : x18.toInt < 3) {H : Heap} {locs : List Loc} {ls : Array Slot} (hY : gY D y A s L ad σ H locs) (hl : lv_has ls 33 [(0, .ref (ad 161)), (1, .ref (ad 162)), (2, .ref (ad 163)), (3, .ref (ad 164)), (4, .ref (ad 165)), (5, .ref (ad 166)), (6, .ref (ad 168)), (7, .ref (ad 169)), (8, .ref (ad 170)), (9, .long x9), (11, .ref (ad 172)), (12, .ref (ad 173)), (13, .ref (ad 174)), (14, .ref (ad 175)), (15, .ref (ad 176)), (16, .ref (ad 177)), (17, .ref (ad 178)), (18, .int x18)]) (h : fL_takes_689 N rec3 σ x9 x18 xs0 xs1 xs2 = some res) : W p l e ({ frames := 5, cells := 9, slots := 120, locals := 141 } : Room) s m args below meth c H locs kc ns (MQ below (va_Qv (fun (_ : Unit) => True) (fun _ => gO D A (GW L y ad0 res)) A) args s 9 120 A) (F0 m 689 ls [.int xs0, .int xs1, .int xs2, .ref (ad 178)]) := by
  unfold fL_takes_689 at h
  refine lv_iadd hx hb dL_takes_689 ?_
  obtain ⟨z_1, h⟩ := g_guard h
  refine G_iast (j := xs2.toNatClampNeg) hx hb hK hY (hL 178 (by decide)) gk_178 (by rw [gl_178]; exact z_1) rfl dL_takes_690 ?_
  clear hY
  intro H locs hY
  exact wL_takes_691 hx hb hr hml hown hg hlocks hK hA hL hL2 ha hrec3 (by first | omega | (simp only [g_l0]; omega)) (by first | omega | (simp only [g_l0]; omega)) (by first | omega | (simp only [g_l0]; omega)) (by first | omega | (simp only [g_l0]; omega)) hY (lv_sub hl [0, 1, 2, 3, 4, 5, 6, 7, 8, 9, 10, 11, 12, 13, 14, 15, 16, 17] rfl) h
def fL_takes_630 (N : Nat) (rec3 : (gS × Int32) → Option gS) (σ : gS) (x9 : Int64) (x18 : Int32) (x26 : Int64) (x28 : Int32) (x29 : Int32) (xs0 : Int32) (xs1 : Int32) : Option gS := if xs1 < 0 ∨ 18 ≤ xs1.toNatClampNeg then none else (if ((6 * x18) + 2) < 0 ∨ 18 ≤ ((6 * x18) + 2).toNatClampNeg then none else (if ((6 * x18) + 3) < 0 ∨ 18 ≤ ((6 * x18) + 3).toNatClampNeg then none else (if x18 < 0 ∨ 3 ≤ x18.toNatClampNeg then none else (if (x28 - x28 / 3 * 3) < 0 ∨ 14 ≤ (x28 - x28 / 3 * 3).toNatClampNeg then none else (if 3 ≤ x28 then (fL_takes_689 N rec3 (sJ (sI (sI (sI σ 176 xs1.toNatClampNeg xs0) 176 (((6 * x18) + 2).toNatClampNeg) 0) 176 (((6 * x18) + 3).toNatClampNeg) x29) 177 x18.toNatClampNeg x26) x9 x18 0 ((sJ (sI (sI (sI σ 176 xs1.toNatClampNeg xs0) 176 (((6 * x18) + 2).toNatClampNeg) 0) 176 (((6 * x18) + 3).toNatClampNeg) x29) 177 x18.toNatClampNeg x26).1 178 ((x28 - x28 / 3 * 3).toNatClampNeg)) (x28 - x28 / 3 * 3)) else (if ((6 * x18) + 1) < 0 ∨ 18 ≤ ((6 * x18) + 1).toNatClampNeg then none else (fL_takes_689 N rec3 (sJ (sI (sI (sI σ 176 xs1.toNatClampNeg xs0) 176 (((6 * x18) + 2).toNatClampNeg) 0) 176 (((6 * x18) + 3).toNatClampNeg) x29) 177 x18.toNatClampNeg x26) x9 x18 ((sJ (sI (sI (sI σ 176 xs1.toNatClampNeg xs0) 176 (((6 * x18) + 2).toNatClampNeg) 0) 176 (((6 * x18) + 3).toNatClampNeg) x29) 177 x18.toNatClampNeg x26).1 176 (((6 * x18) + 1).toNatClampNeg)) ((sJ (sI (sI (sI σ 176 xs1.toNatClampNeg xs0) 176 (((6 * x18) + 2).toNatClampNeg) 0) 176 (((6 * x18) + 3).toNatClampNeg) x29) 177 x18.toNatClampNeg x26).1 178 ((x28 - x28 / 3 * 3).toNatClampNeg)) (x28 - x28 / 3 * 3))))))))
set_option maxRecDepth 100000 in
set_option maxHeartbeats 4000000 in
theorem wL_takes_630 {rec3 : (gS × Int32) → Option gS} {σ : gS} {x9 : Int64} {x18 : Int32} {x26 : Int64} {x28 : Int32} {x29 : Int32} {xs0 : Int32} {xs1 : Int32} {ad : Nat → Nat} {kc ns : Nat} (hx : p.tables.exec = Jvm.exec) (hb : c.code = cL_takes) (hr : meth.sig.returnType = none) (hml : c.maxLocals = 33) (hown : s.vm.findClass RL = some m.cls) (hg : ∀ w ∈ wsL_law, w.before args s = true) (hlocks : meth.locks = false) (hK : gK D y aS s) (hA : ∀ q, s.heap.size ≤ q → A q) (hL : ∀ k, k < 179 → k ∈ L) (hL2 : ∀ k ∈ L, k < 179) (ha : ∀ k, k < 179 → ad k = ad0 k) (hrec3 : ∀ {ad : Nat → Nat} {kc ns : Nat} (ha : ∀ k, k < 179 → ad k = ad0 k) {σ9 : gS} {x18n9 : Int32} (hkc : kc ≤ 3 * x18n9.toInt.toNat) (hns : ns ≤ 40 * x18n9.toInt.toNat) (hi0 : 0 ≤ x18n9.toInt) (hi6 : x18n9.toInt ≤ 3) (H : Heap) (locs : List Loc) (ls : Array Slot), gY D y A s L ad σ9 H locs → lv_has ls 33 [(0, .ref (ad 161)), (1, .ref (ad 162)), (2, .ref (ad 163)), (3, .ref (ad 164)), (4, .ref (ad 165)), (5, .ref (ad 166)), (6, .ref (ad 168)), (7, .ref (ad 169)), (8, .ref (ad 170)), (9, .long x9), (11, .ref (ad 172)), (12, .ref (ad 173)), (13, .ref (ad 174)), (14, .ref (ad 175)), (15, .ref (ad 176)), (16, .ref (ad 177)), (17, .ref (ad 178)), (18, .int x18n9)] → rec3 (σ9, x18n9) = some res → W p l e ({ frames := 5, cells := 9, slots := 120, locals := 141 } : Room) s m args below meth c H locs kc ns (MQ below (va_Qv (fun (_ : Unit) => True) (fun _ => gO D A (GW L y ad0 res)) A) args s 9 120 A) (F0 m 3 ls [])) (hkc : kc ≤ 3 * (x18.toInt.toNat + 1)) (hns : ns ≤ 40 * (x18.toInt.toNat + 1)) (hi0 : 0 ≤ x18.toInt) (hi6 : x18.toInt < 3) {H : Heap} {locs : List Loc} {ls : Array Slot} (hY : gY D y A s L ad σ H locs) (hl : lv_has ls 33 [(0, .ref (ad 161)), (1, .ref (ad 162)), (2, .ref (ad 163)), (3, .ref (ad 164)), (4, .ref (ad 165)), (5, .ref (ad 166)), (6, .ref (ad 168)), (7, .ref (ad 169)), (8, .ref (ad 170)), (9, .long x9), (11, .ref (ad 172)), (12, .ref (ad 173)), (13, .ref (ad 174)), (14, .ref (ad 175)), (15, .ref (ad 176)), (16, .ref (ad 177)), (17, .ref (ad 178)), (18, .int x18), (26, .long x26), (28, .int x28), (29, .int x29)]) (h : fL_takes_630 N rec3 σ x9 x18 x26 x28 x29 xs0 xs1 = some res) : W p l e ({ frames := 5, cells := 9, slots := 120, locals := 141 } : Room) s m args below meth c H locs kc ns (MQ below (va_Qv (fun (_ : Unit) => True) (fun _ => gO D A (GW L y ad0 res)) A) args s 9 120 A) (F0 m 630 ls [.int xs0, .int xs1, .ref (ad 176)]) := by
  unfold fL_takes_630 at h
  obtain ⟨z_1, h⟩ := g_guard h
  refine G_iast (j := xs1.toNatClampNeg) hx hb hK hY (hL 176 (by decide)) gk_176 (by rw [gl_176]; exact z_1) rfl dL_takes_630 ?_
  clear hY
  intro H locs hY
  refine lv_aload hx hb dL_takes_631 (lv_at hl 14 rfl) ?_
  refine lv_bipush (v := 6) hx hb dL_takes_633 (by decide +kernel) ?_
  refine lv_iload hx hb dL_takes_635 (lv_at hl 17 rfl) ?_
  refine lv_imul hx hb dL_takes_637 ?_
  refine lv_iconst (v := 2) hx hb dL_takes_638 (by decide) ?_
  refine lv_iadd hx hb dL_takes_639 ?_
  refine lv_iconst (v := 0) hx hb dL_takes_640 (by decide) ?_
  obtain ⟨z_2, h⟩ := g_guard h
  refine G_iast (j := ((6 * x18) + 2).toNatClampNeg) hx hb hK hY (hL 176 (by decide)) gk_176 (by rw [gl_176]; exact z_2) rfl dL_takes_641 ?_
  clear hY
  intro H locs hY
  refine lv_aload hx hb dL_takes_642 (lv_at hl 14 rfl) ?_
  refine lv_bipush (v := 6) hx hb dL_takes_644 (by decide +kernel) ?_
  refine lv_iload hx hb dL_takes_646 (lv_at hl 17 rfl) ?_
  refine lv_imul hx hb dL_takes_648 ?_
  refine lv_iconst (v := 3) hx hb dL_takes_649 (by decide) ?_
  refine lv_iadd hx hb dL_takes_650 ?_
  refine lv_iload hx hb dL_takes_651 (lv_at hl 20 rfl) ?_
  obtain ⟨z_3, h⟩ := g_guard h
  refine G_iast (j := ((6 * x18) + 3).toNatClampNeg) hx hb hK hY (hL 176 (by decide)) gk_176 (by rw [gl_176]; exact z_3) rfl dL_takes_653 ?_
  clear hY
  intro H locs hY
  refine lv_aload hx hb dL_takes_654 (lv_at hl 15 rfl) ?_
  refine lv_iload hx hb dL_takes_656 (lv_at hl 17 rfl) ?_
  refine lv_lload hx hb dL_takes_658 (lv_at hl 18 rfl) ?_
  obtain ⟨z_4, h⟩ := g_guard h
  refine G_last (j := x18.toNatClampNeg) hx hb hK hY (hL 177 (by decide)) gk_177 (by rw [gl_177]; exact z_4) rfl dL_takes_660 ?_
  clear hY
  intro H locs hY
  refine lv_aload hx hb dL_takes_661 (lv_at hl 16 rfl) ?_
  refine lv_iload hx hb dL_takes_663 (lv_at hl 19 rfl) ?_
  refine lv_iconst (v := 3) hx hb dL_takes_665 (by decide) ?_
  refine lv_irem hx hb dL_takes_666 (by decide +kernel) ?_
  refine lv_dup2_11 hx hb dL_takes_667 rfl rfl ?_
  obtain ⟨z_5, h⟩ := g_guard h
  refine G_iald (j := (x28 - x28 / 3 * 3).toNatClampNeg) hx hb hK hY (hL 178 (by decide)) gk_178 (by rw [gl_178]; exact z_5) rfl dL_takes_668 ?_
  refine lv_iload hx hb dL_takes_669 (lv_at hl 19 rfl) ?_
  refine lv_iconst (v := 3) hx hb dL_takes_671 (by decide) ?_
  refine lv_icmp_ge (tgt := 688) hx hb dL_takes_672 (by decide) (fun z_6 => ?_) (fun z_6 => ?_)
  ·
    rw [if_pos z_6] at h
    have qz_6 := g_get z_6; (try simp only [g_l0, g_l3, g_l6] at qz_6)
    refine lv_iconst (v := 0) hx hb dL_takes_688 (by decide) ?_
    exact wL_takes_689 hx hb hr hml hown hg hlocks hK hA hL hL2 ha hrec3 (by first | omega | (simp only [g_l0]; omega)) (by first | omega | (simp only [g_l0]; omega)) (by first | omega | (simp only [g_l0]; omega)) (by first | omega | (simp only [g_l0]; omega)) hY (lv_sub hl [0, 1, 2, 3, 4, 5, 6, 7, 8, 9, 10, 11, 12, 13, 14, 15, 16, 17] rfl) h
  ·
    rw [if_neg z_6] at h
    have qz_6 := g_gef z_6; (try simp only [g_l0, g_l3, g_l6] at qz_6)
    refine lv_aload hx hb dL_takes_675 (lv_at hl 14 rfl) ?_
    refine lv_bipush (v := 6) hx hb dL_takes_677 (by decide +kernel) ?_
    refine lv_iload hx hb dL_takes_679 (lv_at hl 17 rfl) ?_
    refine lv_imul hx hb dL_takes_681 ?_
    refine lv_iconst (v := 1) hx hb dL_takes_682 (by decide) ?_
    refine lv_iadd hx hb dL_takes_683 ?_
    obtain ⟨z_7, h⟩ := g_guard h
    refine G_iald (j := ((6 * x18) + 1).toNatClampNeg) hx hb hK hY (hL 176 (by decide)) gk_176 (by rw [gl_176]; exact z_7) rfl dL_takes_684 ?_
    refine lv_goto (tgt := 689) hx hb dL_takes_685 (by decide) ?_
    exact wL_takes_689 hx hb hr hml hown hg hlocks hK hA hL hL2 ha hrec3 (by first | omega | (simp only [g_l0]; omega)) (by first | omega | (simp only [g_l0]; omega)) (by first | omega | (simp only [g_l0]; omega)) (by first | omega | (simp only [g_l0]; omega)) hY (lv_sub hl [0, 1, 2, 3, 4, 5, 6, 7, 8, 9, 10, 11, 12, 13, 14, 15, 16, 17] rfl) h
def fL_takes_596 (N : Nat) (rec3 : (gS × Int32) → Option gS) (σ : gS) (x9 : Int64) (x18 : Int32) (x26 : Int64) (x28 : Int32) (x29 : Int32) (xs0 : Int32) (xs1 : Int32) : Option gS := if (6 * x18) < 0 ∨ 18 ≤ (6 * x18).toNatClampNeg then none else (if 1 ≤ (xs1 - xs0) then (fL_takes_630 N rec3 (sI σ 176 ((6 * x18).toNatClampNeg) x29) x9 x18 x26 x28 x29 (xs1 - xs0) ((6 * x18) + 1)) else (fL_takes_630 N rec3 (sI σ 176 ((6 * x18).toNatClampNeg) x29) x9 x18 x26 x28 x29 1 ((6 * x18) + 1)))
set_option maxRecDepth 100000 in
set_option maxHeartbeats 4000000 in
theorem wL_takes_596 {rec3 : (gS × Int32) → Option gS} {σ : gS} {x9 : Int64} {x18 : Int32} {x26 : Int64} {x28 : Int32} {x29 : Int32} {xs0 : Int32} {xs1 : Int32} {ad : Nat → Nat} {kc ns : Nat} (hx : p.tables.exec = Jvm.exec) (hb : c.code = cL_takes) (hr : meth.sig.returnType = none) (hml : c.maxLocals = 33) (hown : s.vm.findClass RL = some m.cls) (hg : ∀ w ∈ wsL_law, w.before args s = true) (hlocks : meth.locks = false) (hK : gK D y aS s) (hA : ∀ q, s.heap.size ≤ q → A q) (hL : ∀ k, k < 179 → k ∈ L) (hL2 : ∀ k ∈ L, k < 179) (ha : ∀ k, k < 179 → ad k = ad0 k) (hrec3 : ∀ {ad : Nat → Nat} {kc ns : Nat} (ha : ∀ k, k < 179 → ad k = ad0 k) {σ9 : gS} {x18n9 : Int32} (hkc : kc ≤ 3 * x18n9.toInt.toNat) (hns : ns ≤ 40 * x18n9.toInt.toNat) (hi0 : 0 ≤ x18n9.toInt) (hi6 : x18n9.toInt ≤ 3) (H : Heap) (locs : List Loc) (ls : Array Slot), gY D y A s L ad σ9 H locs → lv_has ls 33 [(0, .ref (ad 161)), (1, .ref (ad 162)), (2, .ref (ad 163)), (3, .ref (ad 164)), (4, .ref (ad 165)), (5, .ref (ad 166)), (6, .ref (ad 168)), (7, .ref (ad 169)), (8, .ref (ad 170)), (9, .long x9), (11, .ref (ad 172)), (12, .ref (ad 173)), (13, .ref (ad 174)), (14, .ref (ad 175)), (15, .ref (ad 176)), (16, .ref (ad 177)), (17, .ref (ad 178)), (18, .int x18n9)] → rec3 (σ9, x18n9) = some res → W p l e ({ frames := 5, cells := 9, slots := 120, locals := 141 } : Room) s m args below meth c H locs kc ns (MQ below (va_Qv (fun (_ : Unit) => True) (fun _ => gO D A (GW L y ad0 res)) A) args s 9 120 A) (F0 m 3 ls [])) (hkc : kc ≤ 3 * (x18.toInt.toNat + 1)) (hns : ns ≤ 40 * (x18.toInt.toNat + 1)) (hi0 : 0 ≤ x18.toInt) (hi6 : x18.toInt < 3) {H : Heap} {locs : List Loc} {ls : Array Slot} (hY : gY D y A s L ad σ H locs) (hl : lv_has ls 33 [(0, .ref (ad 161)), (1, .ref (ad 162)), (2, .ref (ad 163)), (3, .ref (ad 164)), (4, .ref (ad 165)), (5, .ref (ad 166)), (6, .ref (ad 168)), (7, .ref (ad 169)), (8, .ref (ad 170)), (9, .long x9), (11, .ref (ad 172)), (12, .ref (ad 173)), (13, .ref (ad 174)), (14, .ref (ad 175)), (15, .ref (ad 176)), (16, .ref (ad 177)), (17, .ref (ad 178)), (18, .int x18), (26, .long x26), (28, .int x28), (29, .int x29)]) (h : fL_takes_596 N rec3 σ x9 x18 x26 x28 x29 xs0 xs1 = some res) : W p l e ({ frames := 5, cells := 9, slots := 120, locals := 141 } : Room) s m args below meth c H locs kc ns (MQ below (va_Qv (fun (_ : Unit) => True) (fun _ => gO D A (GW L y ad0 res)) A) args s 9 120 A) (F0 m 596 ls [.int xs0, .int xs1]) := by
  unfold fL_takes_596 at h
  refine lv_isub hx hb dL_takes_596 ?_
  refine lv_istore (lv' := [(30, .int (xs1 - xs0)), (0, .ref (ad 161)), (1, .ref (ad 162)), (2, .ref (ad 163)), (3, .ref (ad 164)), (4, .ref (ad 165)), (5, .ref (ad 166)), (6, .ref (ad 168)), (7, .ref (ad 169)), (8, .ref (ad 170)), (9, .long x9), (11, .ref (ad 172)), (12, .ref (ad 173)), (13, .ref (ad 174)), (14, .ref (ad 175)), (15, .ref (ad 176)), (16, .ref (ad 177)), (17, .ref (ad 178)), (18, .int x18), (26, .long x26), (28, .int x28), (29, .int x29)]) hx hb dL_takes_597 hl (by decide) rfl ?_
  clear hl
  intro ls hl
  refine lv_aload hx hb dL_takes_599 (lv_at hl 15 rfl) ?_
  refine lv_bipush (v := 6) hx hb dL_takes_601 (by decide +kernel) ?_
  refine lv_iload hx hb dL_takes_603 (lv_at hl 18 rfl) ?_
  refine lv_imul hx hb dL_takes_605 ?_
  refine lv_iload hx hb dL_takes_606 (lv_at hl 21 rfl) ?_
  obtain ⟨z_1, h⟩ := g_guard h
  refine G_iast (j := (6 * x18).toNatClampNeg) hx hb hK hY (hL 176 (by decide)) gk_176 (by rw [gl_176]; exact z_1) rfl dL_takes_608 ?_
  clear hY
  intro H locs hY
  refine lv_aload hx hb dL_takes_609 (lv_at hl 15 rfl) ?_
  refine lv_bipush (v := 6) hx hb dL_takes_611 (by decide +kernel) ?_
  refine lv_iload hx hb dL_takes_613 (lv_at hl 18 rfl) ?_
  refine lv_imul hx hb dL_takes_615 ?_
  refine lv_iconst (v := 1) hx hb dL_takes_616 (by decide) ?_
  refine lv_iadd hx hb dL_takes_617 ?_
  refine lv_iload hx hb dL_takes_618 (lv_at hl 0 rfl) ?_
  refine lv_iconst (v := 1) hx hb dL_takes_620 (by decide) ?_
  refine lv_icmp_ge (tgt := 628) hx hb dL_takes_621 (by decide) (fun z_2 => ?_) (fun z_2 => ?_)
  ·
    rw [if_pos z_2] at h
    have qz_2 := g_get z_2; (try simp only [g_l0, g_l3, g_l6] at qz_2)
    refine lv_iload hx hb dL_takes_628 (lv_at hl 0 rfl) ?_
    exact wL_takes_630 hx hb hr hml hown hg hlocks hK hA hL hL2 ha hrec3 (by first | omega | (simp only [g_l0]; omega)) (by first | omega | (simp only [g_l0]; omega)) (by first | omega | (simp only [g_l0]; omega)) (by first | omega | (simp only [g_l0]; omega)) hY (lv_sub hl [1, 2, 3, 4, 5, 6, 7, 8, 9, 10, 11, 12, 13, 14, 15, 16, 17, 18, 19, 20, 21] rfl) h
  ·
    rw [if_neg z_2] at h
    have qz_2 := g_gef z_2; (try simp only [g_l0, g_l3, g_l6] at qz_2)
    refine lv_iconst (v := 1) hx hb dL_takes_624 (by decide) ?_
    refine lv_goto (tgt := 630) hx hb dL_takes_625 (by decide) ?_
    exact wL_takes_630 hx hb hr hml hown hg hlocks hK hA hL hL2 ha hrec3 (by first | omega | (simp only [g_l0]; omega)) (by first | omega | (simp only [g_l0]; omega)) (by first | omega | (simp only [g_l0]; omega)) (by first | omega | (simp only [g_l0]; omega)) hY (lv_sub hl [1, 2, 3, 4, 5, 6, 7, 8, 9, 10, 11, 12, 13, 14, 15, 16, 17, 18, 19, 20, 21] rfl) h
def fL_takes_561 (N : Nat) (rec3 : (gS × Int32) → Option gS) (σ : gS) (x9 : Int64) (x18 : Int32) (x26 : Int64) (x28 : Int32) (x29 : Int32) : Option gS := if x29 < 0 then (fL_takes_691 N rec3 σ x9 x18) else (if ((12 * x29) + 1) < 0 ∨ 48 ≤ ((12 * x29) + 1).toNatClampNeg then none else (if ((6 * x18) + 3) < 0 ∨ 18 ≤ ((6 * x18) + 3).toNatClampNeg then none else (if (σ.1 176 (((6 * x18) + 3).toNatClampNeg)) = x29 then (fL_takes_596 N rec3 σ x9 x18 x26 x28 x29 1 (σ.1 172 (((12 * x29) + 1).toNatClampNeg))) else (fL_takes_596 N rec3 σ x9 x18 x26 x28 x29 0 (σ.1 172 (((12 * x29) + 1).toNatClampNeg))))))
set_option maxRecDepth 100000 in
set_option maxHeartbeats 4000000 in
theorem wL_takes_561 {rec3 : (gS × Int32) → Option gS} {σ : gS} {x9 : Int64} {x18 : Int32} {x26 : Int64} {x28 : Int32} {x29 : Int32} {ad : Nat → Nat} {kc ns : Nat} (hx : p.tables.exec = Jvm.exec) (hb : c.code = cL_takes) (hr : meth.sig.returnType = none) (hml : c.maxLocals = 33) (hown : s.vm.findClass RL = some m.cls) (hg : ∀ w ∈ wsL_law, w.before args s = true) (hlocks : meth.locks = false) (hK : gK D y aS s) (hA : ∀ q, s.heap.size ≤ q → A q) (hL : ∀ k, k < 179 → k ∈ L) (hL2 : ∀ k ∈ L, k < 179) (ha : ∀ k, k < 179 → ad k = ad0 k) (hrec3 : ∀ {ad : Nat → Nat} {kc ns : Nat} (ha : ∀ k, k < 179 → ad k = ad0 k) {σ9 : gS} {x18n9 : Int32} (hkc : kc ≤ 3 * x18n9.toInt.toNat) (hns : ns ≤ 40 * x18n9.toInt.toNat) (hi0 : 0 ≤ x18n9.toInt) (hi6 : x18n9.toInt ≤ 3) (H : Heap) (locs : List Loc) (ls : Array Slot), gY D y A s L ad σ9 H locs → lv_has ls 33 [(0, .ref (ad 161)), (1, .ref (ad 162)), (2, .ref (ad 163)), (3, .ref (ad 164)), (4, .ref (ad 165)), (5, .ref (ad 166)), (6, .ref (ad 168)), (7, .ref (ad 169)), (8, .ref (ad 170)), (9, .long x9), (11, .ref (ad 172)), (12, .ref (ad 173)), (13, .ref (ad 174)), (14, .ref (ad 175)), (15, .ref (ad 176)), (16, .ref (ad 177)), (17, .ref (ad 178)), (18, .int x18n9)] → rec3 (σ9, x18n9) = some res → W p l e ({ frames := 5, cells := 9, slots := 120, locals := 141 } : Room) s m args below meth c H locs kc ns (MQ below (va_Qv (fun (_ : Unit) => True) (fun _ => gO D A (GW L y ad0 res)) A) args s 9 120 A) (F0 m 3 ls [])) (hkc : kc ≤ 3 * (x18.toInt.toNat + 1)) (hns : ns ≤ 40 * (x18.toInt.toNat + 1)) (hi0 : 0 ≤ x18.toInt) (hi6 : x18.toInt < 3) {H : Heap} {locs : List Loc} {ls : Array Slot} (hY : gY D y A s L ad σ H locs) (hl : lv_has ls 33 [(0, .ref (ad 161)), (1, .ref (ad 162)), (2, .ref (ad 163)), (3, .ref (ad 164)), (4, .ref (ad 165)), (5, .ref (ad 166)), (6, .ref (ad 168)), (7, .ref (ad 169)), (8, .ref (ad 170)), (9, .long x9), (11, .ref (ad 172)), (12, .ref (ad 173)), (13, .ref (ad 174)), (14, .ref (ad 175)), (15, .ref (ad 176)), (16, .ref (ad 177)), (17, .ref (ad 178)), (18, .int x18), (26, .long x26), (28, .int x28), (29, .int x29)]) (h : fL_takes_561 N rec3 σ x9 x18 x26 x28 x29 = some res) : W p l e ({ frames := 5, cells := 9, slots := 120, locals := 141 } : Room) s m args below meth c H locs kc ns (MQ below (va_Qv (fun (_ : Unit) => True) (fun _ => gO D A (GW L y ad0 res)) A) args s 9 120 A) (F0 m 561 ls []) := by
  unfold fL_takes_561 at h
  refine lv_iload hx hb dL_takes_561 (lv_at hl 20 rfl) ?_
  refine lv_if_lt (tgt := 691) hx hb dL_takes_563 (by decide) (fun z_1 => ?_) (fun z_1 => ?_)
  ·
    rw [if_pos z_1] at h
    have qz_1 := g_ltt z_1; (try simp only [g_l0, g_l3, g_l6] at qz_1)
    exact wL_takes_691 hx hb hr hml hown hg hlocks hK hA hL hL2 ha hrec3 (by first | omega | (simp only [g_l0]; omega)) (by first | omega | (simp only [g_l0]; omega)) (by first | omega | (simp only [g_l0]; omega)) (by first | omega | (simp only [g_l0]; omega)) hY (lv_sub hl [0, 1, 2, 3, 4, 5, 6, 7, 8, 9, 10, 11, 12, 13, 14, 15, 16, 17] rfl) h
  ·
    rw [if_neg z_1] at h
    have qz_1 := g_ltf z_1; (try simp only [g_l0, g_l3, g_l6] at qz_1)
    refine lv_aload hx hb dL_takes_566 (lv_at hl 10 rfl) ?_
    refine lv_bipush (v := 12) hx hb dL_takes_568 (by decide +kernel) ?_
    refine lv_iload hx hb dL_takes_570 (lv_at hl 20 rfl) ?_
    refine lv_imul hx hb dL_takes_572 ?_
    refine lv_iconst (v := 1) hx hb dL_takes_573 (by decide) ?_
    refine lv_iadd hx hb dL_takes_574 ?_
    obtain ⟨z_2, h⟩ := g_guard h
    refine G_iald (j := ((12 * x29) + 1).toNatClampNeg) hx hb hK hY (hL 172 (by decide)) gk_172 (by rw [gl_172]; exact z_2) rfl dL_takes_575 ?_
    refine lv_aload hx hb dL_takes_576 (lv_at hl 14 rfl) ?_
    refine lv_bipush (v := 6) hx hb dL_takes_578 (by decide +kernel) ?_
    refine lv_iload hx hb dL_takes_580 (lv_at hl 17 rfl) ?_
    refine lv_imul hx hb dL_takes_582 ?_
    refine lv_iconst (v := 3) hx hb dL_takes_583 (by decide) ?_
    refine lv_iadd hx hb dL_takes_584 ?_
    obtain ⟨z_3, h⟩ := g_guard h
    refine G_iald (j := ((6 * x18) + 3).toNatClampNeg) hx hb hK hY (hL 176 (by decide)) gk_176 (by rw [gl_176]; exact z_3) rfl dL_takes_585 ?_
    refine lv_iload hx hb dL_takes_586 (lv_at hl 20 rfl) ?_
    refine lv_icmp_ne (tgt := 595) hx hb dL_takes_588 (by decide) (fun z_4 => ?_) (fun z_4 => ?_)
    ·
      rw [if_neg z_4] at h
      refine lv_iconst (v := 0) hx hb dL_takes_595 (by decide) ?_
      exact wL_takes_596 hx hb hr hml hown hg hlocks hK hA hL hL2 ha hrec3 (by first | omega | (simp only [g_l0]; omega)) (by first | omega | (simp only [g_l0]; omega)) (by first | omega | (simp only [g_l0]; omega)) (by first | omega | (simp only [g_l0]; omega)) hY (lv_sub hl [0, 1, 2, 3, 4, 5, 6, 7, 8, 9, 10, 11, 12, 13, 14, 15, 16, 17, 18, 19, 20] rfl) h
    ·
      rw [if_pos z_4] at h
      refine lv_iconst (v := 1) hx hb dL_takes_591 (by decide) ?_
      refine lv_goto (tgt := 596) hx hb dL_takes_592 (by decide) ?_
      exact wL_takes_596 hx hb hr hml hown hg hlocks hK hA hL hL2 ha hrec3 (by first | omega | (simp only [g_l0]; omega)) (by first | omega | (simp only [g_l0]; omega)) (by first | omega | (simp only [g_l0]; omega)) (by first | omega | (simp only [g_l0]; omega)) hY (lv_sub hl [0, 1, 2, 3, 4, 5, 6, 7, 8, 9, 10, 11, 12, 13, 14, 15, 16, 17, 18, 19, 20] rfl) h
def fL_takes_521 (N : Nat) (rec3 : (gS × Int32) → Option gS) (σ : gS) (x9 : Int64) (x18 : Int32) (x26 : Int64) (x28 : Int32) (x29 : Int32) : Option gS := if 0 ≤ x29 then (fL_takes_561 N rec3 σ x9 x18 x26 x28 x29) else (if (σ.1 161 8) = 1 then ((fL_free N σ (15 : Int32) x9).bind fun r_3 => fL_takes_561 N rec3 σ x9 x18 x9 3 r_3) else (fL_takes_561 N rec3 σ x9 x18 x26 x28 x29))
set_option maxRecDepth 100000 in
set_option maxHeartbeats 4000000 in
theorem wL_takes_521 {rec3 : (gS × Int32) → Option gS} {σ : gS} {x9 : Int64} {x18 : Int32} {x26 : Int64} {x28 : Int32} {x29 : Int32} {ad : Nat → Nat} {kc ns : Nat} (hx : p.tables.exec = Jvm.exec) (hb : c.code = cL_takes) (hr : meth.sig.returnType = none) (hml : c.maxLocals = 33) (hown : s.vm.findClass RL = some m.cls) (hg : ∀ w ∈ wsL_law, w.before args s = true) (hlocks : meth.locks = false) (hK : gK D y aS s) (hA : ∀ q, s.heap.size ≤ q → A q) (hL : ∀ k, k < 179 → k ∈ L) (hL2 : ∀ k ∈ L, k < 179) (ha : ∀ k, k < 179 → ad k = ad0 k) (hrec3 : ∀ {ad : Nat → Nat} {kc ns : Nat} (ha : ∀ k, k < 179 → ad k = ad0 k) {σ9 : gS} {x18n9 : Int32} (hkc : kc ≤ 3 * x18n9.toInt.toNat) (hns : ns ≤ 40 * x18n9.toInt.toNat) (hi0 : 0 ≤ x18n9.toInt) (hi6 : x18n9.toInt ≤ 3) (H : Heap) (locs : List Loc) (ls : Array Slot), gY D y A s L ad σ9 H locs → lv_has ls 33 [(0, .ref (ad 161)), (1, .ref (ad 162)), (2, .ref (ad 163)), (3, .ref (ad 164)), (4, .ref (ad 165)), (5, .ref (ad 166)), (6, .ref (ad 168)), (7, .ref (ad 169)), (8, .ref (ad 170)), (9, .long x9), (11, .ref (ad 172)), (12, .ref (ad 173)), (13, .ref (ad 174)), (14, .ref (ad 175)), (15, .ref (ad 176)), (16, .ref (ad 177)), (17, .ref (ad 178)), (18, .int x18n9)] → rec3 (σ9, x18n9) = some res → W p l e ({ frames := 5, cells := 9, slots := 120, locals := 141 } : Room) s m args below meth c H locs kc ns (MQ below (va_Qv (fun (_ : Unit) => True) (fun _ => gO D A (GW L y ad0 res)) A) args s 9 120 A) (F0 m 3 ls [])) (hkc : kc ≤ 3 * (x18.toInt.toNat + 1)) (hns : ns ≤ 40 * (x18.toInt.toNat + 1)) (hi0 : 0 ≤ x18.toInt) (hi6 : x18.toInt < 3) {H : Heap} {locs : List Loc} {ls : Array Slot} (hY : gY D y A s L ad σ H locs) (hl : lv_has ls 33 [(0, .ref (ad 161)), (1, .ref (ad 162)), (2, .ref (ad 163)), (3, .ref (ad 164)), (4, .ref (ad 165)), (5, .ref (ad 166)), (6, .ref (ad 168)), (7, .ref (ad 169)), (8, .ref (ad 170)), (9, .long x9), (11, .ref (ad 172)), (12, .ref (ad 173)), (13, .ref (ad 174)), (14, .ref (ad 175)), (15, .ref (ad 176)), (16, .ref (ad 177)), (17, .ref (ad 178)), (18, .int x18), (26, .long x26), (28, .int x28), (29, .int x29)]) (h : fL_takes_521 N rec3 σ x9 x18 x26 x28 x29 = some res) : W p l e ({ frames := 5, cells := 9, slots := 120, locals := 141 } : Room) s m args below meth c H locs kc ns (MQ below (va_Qv (fun (_ : Unit) => True) (fun _ => gO D A (GW L y ad0 res)) A) args s 9 120 A) (F0 m 521 ls []) := by
  unfold fL_takes_521 at h
  refine lv_iload hx hb dL_takes_521 (lv_at hl 20 rfl) ?_
  refine lv_if_ge (tgt := 561) hx hb dL_takes_523 (by decide) (fun z_1 => ?_) (fun z_1 => ?_)
  ·
    rw [if_pos z_1] at h
    have qz_1 := g_get z_1; (try simp only [g_l0, g_l3, g_l6] at qz_1)
    exact wL_takes_561 hx hb hr hml hown hg hlocks hK hA hL hL2 ha hrec3 (by first | omega | (simp only [g_l0]; omega)) (by first | omega | (simp only [g_l0]; omega)) (by first | omega | (simp only [g_l0]; omega)) (by first | omega | (simp only [g_l0]; omega)) hY (lv_sub hl [0, 1, 2, 3, 4, 5, 6, 7, 8, 9, 10, 11, 12, 13, 14, 15, 16, 17, 18, 19, 20] rfl) h
  ·
    rw [if_neg z_1] at h
    have qz_1 := g_gef z_1; (try simp only [g_l0, g_l3, g_l6] at qz_1)
    refine lv_aload_n hx hb dL_takes_526 rfl (lv_at hl 0 rfl) ?_
    refine lv_bipush (v := 8) hx hb dL_takes_527 (by decide +kernel) ?_
    refine G_iald (j := 8) hx hb hK hY (hL 161 (by decide)) gk_161 (by rw [gl_161]; decide +kernel) (by decide +kernel) dL_takes_529 ?_
    refine lv_iconst (v := 1) hx hb dL_takes_530 (by decide) ?_
    refine lv_icmp_ne (tgt := 561) hx hb dL_takes_531 (by decide) (fun z_2 => ?_) (fun z_2 => ?_)
    ·
      rw [if_neg z_2] at h
      exact wL_takes_561 hx hb hr hml hown hg hlocks hK hA hL hL2 ha hrec3 (by first | omega | (simp only [g_l0]; omega)) (by first | omega | (simp only [g_l0]; omega)) (by first | omega | (simp only [g_l0]; omega)) (by first | omega | (simp only [g_l0]; omega)) hY (lv_sub hl [0, 1, 2, 3, 4, 5, 6, 7, 8, 9, 10, 11, 12, 13, 14, 15, 16, 17, 18, 19, 20] rfl) h
    ·
      rw [if_pos z_2] at h
      refine lv_aload_n hx hb dL_takes_534 rfl (lv_at hl 0 rfl) ?_
      refine lv_aload hx hb dL_takes_535 (lv_at hl 10 rfl) ?_
      refine lv_aload hx hb dL_takes_537 (lv_at hl 12 rfl) ?_
      refine lv_aload hx hb dL_takes_539 (lv_at hl 13 rfl) ?_
      refine lv_aload hx hb dL_takes_541 (lv_at hl 14 rfl) ?_
      refine lv_aload hx hb dL_takes_543 (lv_at hl 15 rfl) ?_
      refine lv_bipush (v := 15) hx hb dL_takes_545 (by decide +kernel) ?_
      refine lv_lload hx hb dL_takes_547 (lv_at hl 9 rfl) ?_
      obtain ⟨r_3, e_4, h⟩ := g_bind h
      refine G_ai hY hA (va_runS (As := [.ref (ad 161), .ref (ad 172), .ref (ad 174), .ref (ad 175), .ref (ad 176), .ref (ad 177), .int 15, .long x9]) (rest := []) ⟨hx, hb, hml, hown, hg⟩ (kL_free l D y aS H.size L hL ad N σ (15 : Int32) x9 _ e_4) (va_cwS 8 hg ggS_RL_134_L_free rfl rfl rfl (by decide +kernel) ⟨Nat.le_of_ble_eq_true rfl, Nat.le_of_ble_eq_true rfl⟩) (G_pS hK hY) rfl rfl hl.1 rfl (lv_room (Nat.le_of_ble_eq_true rfl)) dL_takes_549 ⟨(by dsimp only; omega), (by dsimp only; omega)⟩) ?_
      clear hY
      rintro _ H locs rfl hY
      refine lv_istore (lv' := [(29, .int r_3), (0, .ref (ad 161)), (1, .ref (ad 162)), (2, .ref (ad 163)), (3, .ref (ad 164)), (4, .ref (ad 165)), (5, .ref (ad 166)), (6, .ref (ad 168)), (7, .ref (ad 169)), (8, .ref (ad 170)), (9, .long x9), (11, .ref (ad 172)), (12, .ref (ad 173)), (13, .ref (ad 174)), (14, .ref (ad 175)), (15, .ref (ad 176)), (16, .ref (ad 177)), (17, .ref (ad 178)), (18, .int x18), (26, .long x26), (28, .int x28)]) hx hb dL_takes_552 hl (by decide) rfl ?_
      clear hl
      intro ls hl
      refine lv_lload hx hb dL_takes_554 (lv_at hl 10 rfl) ?_
      refine lv_lstore (lv' := [(26, .long x9), (29, .int r_3), (0, .ref (ad 161)), (1, .ref (ad 162)), (2, .ref (ad 163)), (3, .ref (ad 164)), (4, .ref (ad 165)), (5, .ref (ad 166)), (6, .ref (ad 168)), (7, .ref (ad 169)), (8, .ref (ad 170)), (9, .long x9), (11, .ref (ad 172)), (12, .ref (ad 173)), (13, .ref (ad 174)), (14, .ref (ad 175)), (15, .ref (ad 176)), (16, .ref (ad 177)), (17, .ref (ad 178)), (18, .int x18), (28, .int x28)]) hx hb dL_takes_556 hl (by decide) rfl ?_
      clear hl
      intro ls hl
      refine lv_iconst (v := 3) hx hb dL_takes_558 (by decide) ?_
      refine lv_istore (lv' := [(28, .int 3), (26, .long x9), (29, .int r_3), (0, .ref (ad 161)), (1, .ref (ad 162)), (2, .ref (ad 163)), (3, .ref (ad 164)), (4, .ref (ad 165)), (5, .ref (ad 166)), (6, .ref (ad 168)), (7, .ref (ad 169)), (8, .ref (ad 170)), (9, .long x9), (11, .ref (ad 172)), (12, .ref (ad 173)), (13, .ref (ad 174)), (14, .ref (ad 175)), (15, .ref (ad 176)), (16, .ref (ad 177)), (17, .ref (ad 178)), (18, .int x18)]) hx hb dL_takes_559 hl (by decide) rfl ?_
      clear hl
      intro ls hl
      exact wL_takes_561 hx hb hr hml hown hg hlocks hK hA hL hL2 ha hrec3 (by first | omega | (simp only [g_l0]; omega)) (by first | omega | (simp only [g_l0]; omega)) (by first | omega | (simp only [g_l0]; omega)) (by first | omega | (simp only [g_l0]; omega)) hY (lv_sub hl [3, 4, 5, 6, 7, 8, 9, 10, 11, 12, 13, 14, 15, 16, 17, 18, 19, 20, 1, 0, 2] rfl) h
def fL_takes_497 (N : Nat) (rec3 : (gS × Int32) → Option gS) (σ : gS) (x9 : Int64) (x18 : Int32) (x26 : Int64) (x28 : Int32) (x29 : Int32) : Option gS := if x29 ≤ 99 then (fL_takes_521 N rec3 σ x9 x18 x26 x28 x29) else (if (x29 / 100) < 0 ∨ 5 ≤ (x29 / 100).toNatClampNeg then none else (fL_takes_521 N rec3 σ x9 x18 (σ.2.1 180 ((x29 / 100).toNatClampNeg)) x28 (x29 - x29 / 100 * 100)))
set_option maxRecDepth 100000 in
set_option maxHeartbeats 4000000 in
theorem wL_takes_497 {rec3 : (gS × Int32) → Option gS} {σ : gS} {x9 : Int64} {x18 : Int32} {x26 : Int64} {x28 : Int32} {x29 : Int32} {ad : Nat → Nat} {kc ns : Nat} (hx : p.tables.exec = Jvm.exec) (hb : c.code = cL_takes) (hr : meth.sig.returnType = none) (hml : c.maxLocals = 33) (hown : s.vm.findClass RL = some m.cls) (hg : ∀ w ∈ wsL_law, w.before args s = true) (hlocks : meth.locks = false) (hK : gK D y aS s) (hA : ∀ q, s.heap.size ≤ q → A q) (hL : ∀ k, k < 179 → k ∈ L) (hL2 : ∀ k ∈ L, k < 179) (ha : ∀ k, k < 179 → ad k = ad0 k) (hrec3 : ∀ {ad : Nat → Nat} {kc ns : Nat} (ha : ∀ k, k < 179 → ad k = ad0 k) {σ9 : gS} {x18n9 : Int32} (hkc : kc ≤ 3 * x18n9.toInt.toNat) (hns : ns ≤ 40 * x18n9.toInt.toNat) (hi0 : 0 ≤ x18n9.toInt) (hi6 : x18n9.toInt ≤ 3) (H : Heap) (locs : List Loc) (ls : Array Slot), gY D y A s L ad σ9 H locs → lv_has ls 33 [(0, .ref (ad 161)), (1, .ref (ad 162)), (2, .ref (ad 163)), (3, .ref (ad 164)), (4, .ref (ad 165)), (5, .ref (ad 166)), (6, .ref (ad 168)), (7, .ref (ad 169)), (8, .ref (ad 170)), (9, .long x9), (11, .ref (ad 172)), (12, .ref (ad 173)), (13, .ref (ad 174)), (14, .ref (ad 175)), (15, .ref (ad 176)), (16, .ref (ad 177)), (17, .ref (ad 178)), (18, .int x18n9)] → rec3 (σ9, x18n9) = some res → W p l e ({ frames := 5, cells := 9, slots := 120, locals := 141 } : Room) s m args below meth c H locs kc ns (MQ below (va_Qv (fun (_ : Unit) => True) (fun _ => gO D A (GW L y ad0 res)) A) args s 9 120 A) (F0 m 3 ls [])) (hkc : kc ≤ 3 * (x18.toInt.toNat + 1)) (hns : ns ≤ 40 * (x18.toInt.toNat + 1)) (hi0 : 0 ≤ x18.toInt) (hi6 : x18.toInt < 3) {H : Heap} {locs : List Loc} {ls : Array Slot} (hY : gY D y A s (L ++ [179, 180, 181]) ad σ H locs) (hl : lv_has ls 33 [(0, .ref (ad 161)), (1, .ref (ad 162)), (2, .ref (ad 163)), (3, .ref (ad 164)), (4, .ref (ad 165)), (5, .ref (ad 166)), (6, .ref (ad 168)), (7, .ref (ad 169)), (8, .ref (ad 170)), (9, .long x9), (11, .ref (ad 172)), (12, .ref (ad 173)), (13, .ref (ad 174)), (14, .ref (ad 175)), (15, .ref (ad 176)), (16, .ref (ad 177)), (17, .ref (ad 178)), (18, .int x18), (20, .ref (ad 180)), (26, .long x26), (28, .int x28), (29, .int x29)]) (h : fL_takes_497 N rec3 σ x9 x18 x26 x28 x29 = some res) : W p l e ({ frames := 5, cells := 9, slots := 120, locals := 141 } : Room) s m args below meth c H locs kc ns (MQ below (va_Qv (fun (_ : Unit) => True) (fun _ => gO D A (GW L y ad0 res)) A) args s 9 120 A) (F0 m 497 ls []) := by
  unfold fL_takes_497 at h
  refine lv_iload hx hb dL_takes_497 (lv_at hl 21 rfl) ?_
  refine lv_bipush (v := 99) hx hb dL_takes_499 (by decide +kernel) ?_
  refine lv_icmp_le (tgt := 521) hx hb dL_takes_501 (by decide) (fun z_1 => ?_) (fun z_1 => ?_)
  ·
    rw [if_pos z_1] at h
    have qz_1 := g_let z_1; (try simp only [g_l0, g_l3, g_l6] at qz_1)
    replace hY := G_drop hY
    exact wL_takes_521 hx hb hr hml hown hg hlocks hK hA hL hL2 ha hrec3 (by first | omega | (simp only [g_l0]; omega)) (by first | omega | (simp only [g_l0]; omega)) (by first | omega | (simp only [g_l0]; omega)) (by first | omega | (simp only [g_l0]; omega)) hY (lv_sub hl [0, 1, 2, 3, 4, 5, 6, 7, 8, 9, 10, 11, 12, 13, 14, 15, 16, 17, 19, 20, 21] rfl) h
  ·
    rw [if_neg z_1] at h
    have qz_1 := g_lef z_1; (try simp only [g_l0, g_l3, g_l6] at qz_1)
    refine lv_aload hx hb dL_takes_504 (lv_at hl 18 rfl) ?_
    refine lv_iload hx hb dL_takes_506 (lv_at hl 21 rfl) ?_
    refine lv_bipush (v := 100) hx hb dL_takes_508 (by decide +kernel) ?_
    refine lv_idiv hx hb dL_takes_510 (by decide +kernel) ?_
    obtain ⟨z_2, h⟩ := g_guard h
    refine G_lald (j := (x29 / 100).toNatClampNeg) hx hb hK hY (by simp) gk_180 (by rw [gl_180]; exact z_2) rfl dL_takes_511 ?_
    refine lv_lstore (lv' := [(26, .long (σ.2.1 180 ((x29 / 100).toNatClampNeg))), (0, .ref (ad 161)), (1, .ref (ad 162)), (2, .ref (ad 163)), (3, .ref (ad 164)), (4, .ref (ad 165)), (5, .ref (ad 166)), (6, .ref (ad 168)), (7, .ref (ad 169)), (8, .ref (ad 170)), (9, .long x9), (11, .ref (ad 172)), (12, .ref (ad 173)), (13, .ref (ad 174)), (14, .ref (ad 175)), (15, .ref (ad 176)), (16, .ref (ad 177)), (17, .ref (ad 178)), (18, .int x18), (20, .ref (ad 180)), (28, .int x28), (29, .int x29)]) hx hb dL_takes_512 hl (by decide) rfl ?_
    clear hl
    intro ls hl
    refine lv_iload hx hb dL_takes_514 (lv_at hl 21 rfl) ?_
    refine lv_bipush (v := 100) hx hb dL_takes_516 (by decide +kernel) ?_
    refine lv_irem hx hb dL_takes_518 (by decide +kernel) ?_
    refine lv_istore (lv' := [(29, .int (x29 - x29 / 100 * 100)), (26, .long (σ.2.1 180 ((x29 / 100).toNatClampNeg))), (0, .ref (ad 161)), (1, .ref (ad 162)), (2, .ref (ad 163)), (3, .ref (ad 164)), (4, .ref (ad 165)), (5, .ref (ad 166)), (6, .ref (ad 168)), (7, .ref (ad 169)), (8, .ref (ad 170)), (9, .long x9), (11, .ref (ad 172)), (12, .ref (ad 173)), (13, .ref (ad 174)), (14, .ref (ad 175)), (15, .ref (ad 176)), (16, .ref (ad 177)), (17, .ref (ad 178)), (18, .int x18), (20, .ref (ad 180)), (28, .int x28)]) hx hb dL_takes_519 hl (by decide) rfl ?_
    clear hl
    intro ls hl
    replace hY := G_drop hY
    exact wL_takes_521 hx hb hr hml hown hg hlocks hK hA hL hL2 ha hrec3 (by first | omega | (simp only [g_l0]; omega)) (by first | omega | (simp only [g_l0]; omega)) (by first | omega | (simp only [g_l0]; omega)) (by first | omega | (simp only [g_l0]; omega)) hY (lv_sub hl [2, 3, 4, 5, 6, 7, 8, 9, 10, 11, 12, 13, 14, 15, 16, 17, 18, 19, 1, 21, 0] rfl) h
def fL_takes_489 (N : Nat) (rec3 : (gS × Int32) → Option gS) (rec360 : (gS × Int32 × Int32 × Int32) → Option gS) (σ : gS) (x9 : Int64) (x18 : Int32) (x22 : Int32) (x23 : Int32) (x25 : Int32) (x26 : Int64) (x29 : Int32) (x30 : Int32) (xs0 : Int32) : Option gS := rec360 (σ, xs0, x29, (x30 + 1))
set_option maxRecDepth 100000 in
set_option maxHeartbeats 4000000 in
theorem wL_takes_489 {rec3 : (gS × Int32) → Option gS} {rec360 : (gS × Int32 × Int32 × Int32) → Option gS} {σ : gS} {x9 : Int64} {x18 : Int32} {x22 : Int32} {x23 : Int32} {x25 : Int32} {x26 : Int64} {x29 : Int32} {x30 : Int32} {xs0 : Int32} {ad : Nat → Nat} {kc ns : Nat} (hx : p.tables.exec = Jvm.exec) (hb : c.code = cL_takes) (hr : meth.sig.returnType = none) (hml : c.maxLocals = 33) (hown : s.vm.findClass RL = some m.cls) (hg : ∀ w ∈ wsL_law, w.before args s = true) (hlocks : meth.locks = false) (hK : gK D y aS s) (hA : ∀ q, s.heap.size ≤ q → A q) (hL : ∀ k, k < 179 → k ∈ L) (hL2 : ∀ k ∈ L, k < 179) (ha : ∀ k, k < 179 → ad k = ad0 k) (hrec3 : ∀ {ad : Nat → Nat} {kc ns : Nat} (ha : ∀ k, k < 179 → ad k = ad0 k) {σ9 : gS} {x18n9 : Int32} (hkc : kc ≤ 3 * x18n9.toInt.toNat) (hns : ns ≤ 40 * x18n9.toInt.toNat) (hi0 : 0 ≤ x18n9.toInt) (hi6 : x18n9.toInt ≤ 3) (H : Heap) (locs : List Loc) (ls : Array Slot), gY D y A s L ad σ9 H locs → lv_has ls 33 [(0, .ref (ad 161)), (1, .ref (ad 162)), (2, .ref (ad 163)), (3, .ref (ad 164)), (4, .ref (ad 165)), (5, .ref (ad 166)), (6, .ref (ad 168)), (7, .ref (ad 169)), (8, .ref (ad 170)), (9, .long x9), (11, .ref (ad 172)), (12, .ref (ad 173)), (13, .ref (ad 174)), (14, .ref (ad 175)), (15, .ref (ad 176)), (16, .ref (ad 177)), (17, .ref (ad 178)), (18, .int x18n9)] → rec3 (σ9, x18n9) = some res → W p l e ({ frames := 5, cells := 9, slots := 120, locals := 141 } : Room) s m args below meth c H locs kc ns (MQ below (va_Qv (fun (_ : Unit) => True) (fun _ => gO D A (GW L y ad0 res)) A) args s 9 120 A) (F0 m 3 ls [])) (hrec360 : ∀ {ad : Nat → Nat} {kc ns : Nat} (ha : ∀ k, k < 179 → ad k = ad0 k) {σ9 : gS} {x28n9 : Int32} {x29n9 : Int32} {x30n9 : Int32} (hkc : kc ≤ 3 * (x18.toInt.toNat + 1)) (hns : ns ≤ 40 * (x18.toInt.toNat + 1)) (hi0 : 0 ≤ x18.toInt) (hi6 : x18.toInt < 3) (H : Heap) (locs : List Loc) (ls : Array Slot), gY D y A s (L ++ [179, 180, 181]) ad σ9 H locs → lv_has ls 33 [(0, .ref (ad 161)), (1, .ref (ad 162)), (2, .ref (ad 163)), (3, .ref (ad 164)), (4, .ref (ad 165)), (5, .ref (ad 166)), (6, .ref (ad 168)), (7, .ref (ad 169)), (8, .ref (ad 170)), (9, .long x9), (11, .ref (ad 172)), (12, .ref (ad 173)), (13, .ref (ad 174)), (14, .ref (ad 175)), (15, .ref (ad 176)), (16, .ref (ad 177)), (17, .ref (ad 178)), (18, .int x18), (19, .ref (ad 179)), (20, .ref (ad 180)), (22, .int x22), (23, .int x23), (25, .int x25), (26, .long x26), (28, .int x28n9), (29, .int x29n9), (30, .int x30n9)] → rec360 (σ9, x28n9, x29n9, x30n9) = some res → W p l e ({ frames := 5, cells := 9, slots := 120, locals := 141 } : Room) s m args below meth c H locs kc ns (MQ below (va_Qv (fun (_ : Unit) => True) (fun _ => gO D A (GW L y ad0 res)) A) args s 9 120 A) (F0 m 360 ls [])) (hkc : kc ≤ 3 * (x18.toInt.toNat + 1)) (hns : ns ≤ 40 * (x18.toInt.toNat + 1)) (hi0 : 0 ≤ x18.toInt) (hi6 : x18.toInt < 3) {H : Heap} {locs : List Loc} {ls : Array Slot} (hY : gY D y A s (L ++ [179, 180, 181]) ad σ H locs) (hl : lv_has ls 33 [(0, .ref (ad 161)), (1, .ref (ad 162)), (2, .ref (ad 163)), (3, .ref (ad 164)), (4, .ref (ad 165)), (5, .ref (ad 166)), (6, .ref (ad 168)), (7, .ref (ad 169)), (8, .ref (ad 170)), (9, .long x9), (11, .ref (ad 172)), (12, .ref (ad 173)), (13, .ref (ad 174)), (14, .ref (ad 175)), (15, .ref (ad 176)), (16, .ref (ad 177)), (17, .ref (ad 178)), (18, .int x18), (19, .ref (ad 179)), (20, .ref (ad 180)), (22, .int x22), (23, .int x23), (25, .int x25), (26, .long x26), (29, .int x29), (30, .int x30)]) (h : fL_takes_489 N rec3 rec360 σ x9 x18 x22 x23 x25 x26 x29 x30 xs0 = some res) : W p l e ({ frames := 5, cells := 9, slots := 120, locals := 141 } : Room) s m args below meth c H locs kc ns (MQ below (va_Qv (fun (_ : Unit) => True) (fun _ => gO D A (GW L y ad0 res)) A) args s 9 120 A) (F0 m 489 ls [.int xs0]) := by
  unfold fL_takes_489 at h
  refine lv_istore (lv' := [(28, .int xs0), (0, .ref (ad 161)), (1, .ref (ad 162)), (2, .ref (ad 163)), (3, .ref (ad 164)), (4, .ref (ad 165)), (5, .ref (ad 166)), (6, .ref (ad 168)), (7, .ref (ad 169)), (8, .ref (ad 170)), (9, .long x9), (11, .ref (ad 172)), (12, .ref (ad 173)), (13, .ref (ad 174)), (14, .ref (ad 175)), (15, .ref (ad 176)), (16, .ref (ad 177)), (17, .ref (ad 178)), (18, .int x18), (19, .ref (ad 179)), (20, .ref (ad 180)), (22, .int x22), (23, .int x23), (25, .int x25), (26, .long x26), (29, .int x29), (30, .int x30)]) hx hb dL_takes_489 hl (by decide) rfl ?_
  clear hl
  intro ls hl
  refine lv_iinc (v := (x30 + 1)) (lv' := [(30, .int (x30 + 1)), (28, .int xs0), (0, .ref (ad 161)), (1, .ref (ad 162)), (2, .ref (ad 163)), (3, .ref (ad 164)), (4, .ref (ad 165)), (5, .ref (ad 166)), (6, .ref (ad 168)), (7, .ref (ad 169)), (8, .ref (ad 170)), (9, .long x9), (11, .ref (ad 172)), (12, .ref (ad 173)), (13, .ref (ad 174)), (14, .ref (ad 175)), (15, .ref (ad 176)), (16, .ref (ad 177)), (17, .ref (ad 178)), (18, .int x18), (19, .ref (ad 179)), (20, .ref (ad 180)), (22, .int x22), (23, .int x23), (25, .int x25), (26, .long x26), (29, .int x29)]) hx hb dL_takes_491 hl (k := 26) rfl rfl (by decide) rfl ?_
  clear hl
  intro ls hl
  refine lv_goto (tgt := 360) hx hb dL_takes_494 (by decide) ?_
  exact hrec360 ha (by first | omega | (simp only [g_l0]; omega)) (by first | omega | (simp only [g_l0]; omega)) (by first | omega | (simp only [g_l0]; omega)) (by first | omega | (simp only [g_l0]; omega)) _ _ _ hY (lv_sub hl [2, 3, 4, 5, 6, 7, 8, 9, 10, 11, 12, 13, 14, 15, 16, 17, 18, 19, 20, 21, 22, 23, 24, 25, 1, 26, 0] rfl) h
def fL_takes_475 (N : Nat) (rec3 : (gS × Int32) → Option gS) (rec360 : (gS × Int32 × Int32 × Int32) → Option gS) (σ : gS) (x9 : Int64) (x18 : Int32) (x22 : Int32) (x23 : Int32) (x25 : Int32) (x26 : Int64) (x28 : Int32) (x30 : Int32) (x32 : Int32) (xs0 : Int32) : Option gS := if x32 = 0 then (fL_takes_489 N rec3 rec360 σ x9 x18 x22 x23 x25 x26 xs0 x30 x28) else (fL_takes_489 N rec3 rec360 σ x9 x18 x22 x23 x25 x26 xs0 x30 x30)
set_option maxRecDepth 100000 in
set_option maxHeartbeats 4000000 in
theorem wL_takes_475 {rec3 : (gS × Int32) → Option gS} {rec360 : (gS × Int32 × Int32 × Int32) → Option gS} {σ : gS} {x9 : Int64} {x18 : Int32} {x22 : Int32} {x23 : Int32} {x25 : Int32} {x26 : Int64} {x28 : Int32} {x30 : Int32} {x32 : Int32} {xs0 : Int32} {ad : Nat → Nat} {kc ns : Nat} (hx : p.tables.exec = Jvm.exec) (hb : c.code = cL_takes) (hr : meth.sig.returnType = none) (hml : c.maxLocals = 33) (hown : s.vm.findClass RL = some m.cls) (hg : ∀ w ∈ wsL_law, w.before args s = true) (hlocks : meth.locks = false) (hK : gK D y aS s) (hA : ∀ q, s.heap.size ≤ q → A q) (hL : ∀ k, k < 179 → k ∈ L) (hL2 : ∀ k ∈ L, k < 179) (ha : ∀ k, k < 179 → ad k = ad0 k) (hrec3 : ∀ {ad : Nat → Nat} {kc ns : Nat} (ha : ∀ k, k < 179 → ad k = ad0 k) {σ9 : gS} {x18n9 : Int32} (hkc : kc ≤ 3 * x18n9.toInt.toNat) (hns : ns ≤ 40 * x18n9.toInt.toNat) (hi0 : 0 ≤ x18n9.toInt) (hi6 : x18n9.toInt ≤ 3) (H : Heap) (locs : List Loc) (ls : Array Slot), gY D y A s L ad σ9 H locs → lv_has ls 33 [(0, .ref (ad 161)), (1, .ref (ad 162)), (2, .ref (ad 163)), (3, .ref (ad 164)), (4, .ref (ad 165)), (5, .ref (ad 166)), (6, .ref (ad 168)), (7, .ref (ad 169)), (8, .ref (ad 170)), (9, .long x9), (11, .ref (ad 172)), (12, .ref (ad 173)), (13, .ref (ad 174)), (14, .ref (ad 175)), (15, .ref (ad 176)), (16, .ref (ad 177)), (17, .ref (ad 178)), (18, .int x18n9)] → rec3 (σ9, x18n9) = some res → W p l e ({ frames := 5, cells := 9, slots := 120, locals := 141 } : Room) s m args below meth c H locs kc ns (MQ below (va_Qv (fun (_ : Unit) => True) (fun _ => gO D A (GW L y ad0 res)) A) args s 9 120 A) (F0 m 3 ls [])) (hrec360 : ∀ {ad : Nat → Nat} {kc ns : Nat} (ha : ∀ k, k < 179 → ad k = ad0 k) {σ9 : gS} {x28n9 : Int32} {x29n9 : Int32} {x30n9 : Int32} (hkc : kc ≤ 3 * (x18.toInt.toNat + 1)) (hns : ns ≤ 40 * (x18.toInt.toNat + 1)) (hi0 : 0 ≤ x18.toInt) (hi6 : x18.toInt < 3) (H : Heap) (locs : List Loc) (ls : Array Slot), gY D y A s (L ++ [179, 180, 181]) ad σ9 H locs → lv_has ls 33 [(0, .ref (ad 161)), (1, .ref (ad 162)), (2, .ref (ad 163)), (3, .ref (ad 164)), (4, .ref (ad 165)), (5, .ref (ad 166)), (6, .ref (ad 168)), (7, .ref (ad 169)), (8, .ref (ad 170)), (9, .long x9), (11, .ref (ad 172)), (12, .ref (ad 173)), (13, .ref (ad 174)), (14, .ref (ad 175)), (15, .ref (ad 176)), (16, .ref (ad 177)), (17, .ref (ad 178)), (18, .int x18), (19, .ref (ad 179)), (20, .ref (ad 180)), (22, .int x22), (23, .int x23), (25, .int x25), (26, .long x26), (28, .int x28n9), (29, .int x29n9), (30, .int x30n9)] → rec360 (σ9, x28n9, x29n9, x30n9) = some res → W p l e ({ frames := 5, cells := 9, slots := 120, locals := 141 } : Room) s m args below meth c H locs kc ns (MQ below (va_Qv (fun (_ : Unit) => True) (fun _ => gO D A (GW L y ad0 res)) A) args s 9 120 A) (F0 m 360 ls [])) (hkc : kc ≤ 3 * (x18.toInt.toNat + 1)) (hns : ns ≤ 40 * (x18.toInt.toNat + 1)) (hi0 : 0 ≤ x18.toInt) (hi6 : x18.toInt < 3) {H : Heap} {locs : List Loc} {ls : Array Slot} (hY : gY D y A s (L ++ [179, 180, 181]) ad σ H locs) (hl : lv_has ls 33 [(0, .ref (ad 161)), (1, .ref (ad 162)), (2, .ref (ad 163)), (3, .ref (ad 164)), (4, .ref (ad 165)), (5, .ref (ad 166)), (6, .ref (ad 168)), (7, .ref (ad 169)), (8, .ref (ad 170)), (9, .long x9), (11, .ref (ad 172)), (12, .ref (ad 173)), (13, .ref (ad 174)), (14, .ref (ad 175)), (15, .ref (ad 176)), (16, .ref (ad 177)), (17, .ref (ad 178)), (18, .int x18), (19, .ref (ad 179)), (20, .ref (ad 180)), (22, .int x22), (23, .int x23), (25, .int x25), (26, .long x26), (28, .int x28), (30, .int x30), (32, .int x32)]) (h : fL_takes_475 N rec3 rec360 σ x9 x18 x22 x23 x25 x26 x28 x30 x32 xs0 = some res) : W p l e ({ frames := 5, cells := 9, slots := 120, locals := 141 } : Room) s m args below meth c H locs kc ns (MQ below (va_Qv (fun (_ : Unit) => True) (fun _ => gO D A (GW L y ad0 res)) A) args s 9 120 A) (F0 m 475 ls [.int xs0]) := by
  unfold fL_takes_475 at h
  refine lv_istore (lv' := [(29, .int xs0), (0, .ref (ad 161)), (1, .ref (ad 162)), (2, .ref (ad 163)), (3, .ref (ad 164)), (4, .ref (ad 165)), (5, .ref (ad 166)), (6, .ref (ad 168)), (7, .ref (ad 169)), (8, .ref (ad 170)), (9, .long x9), (11, .ref (ad 172)), (12, .ref (ad 173)), (13, .ref (ad 174)), (14, .ref (ad 175)), (15, .ref (ad 176)), (16, .ref (ad 177)), (17, .ref (ad 178)), (18, .int x18), (19, .ref (ad 179)), (20, .ref (ad 180)), (22, .int x22), (23, .int x23), (25, .int x25), (26, .long x26), (28, .int x28), (30, .int x30), (32, .int x32)]) hx hb dL_takes_475 hl (by decide) rfl ?_
  clear hl
  intro ls hl
  refine lv_iload hx hb dL_takes_477 (lv_at hl 27 rfl) ?_
  refine lv_if_eq (tgt := 487) hx hb dL_takes_479 (by decide) (fun z_1 => ?_) (fun z_1 => ?_)
  ·
    rw [if_pos z_1] at h
    refine lv_iload hx hb dL_takes_487 (lv_at hl 25 rfl) ?_
    exact wL_takes_489 hx hb hr hml hown hg hlocks hK hA hL hL2 ha hrec3 hrec360 (by first | omega | (simp only [g_l0]; omega)) (by first | omega | (simp only [g_l0]; omega)) (by first | omega | (simp only [g_l0]; omega)) (by first | omega | (simp only [g_l0]; omega)) hY (lv_sub hl [1, 2, 3, 4, 5, 6, 7, 8, 9, 10, 11, 12, 13, 14, 15, 16, 17, 18, 19, 20, 21, 22, 23, 24, 0, 26] rfl) h
  ·
    rw [if_neg z_1] at h
    refine lv_iload hx hb dL_takes_482 (lv_at hl 26 rfl) ?_
    refine lv_goto (tgt := 489) hx hb dL_takes_484 (by decide) ?_
    exact wL_takes_489 hx hb hr hml hown hg hlocks hK hA hL hL2 ha hrec3 hrec360 (by first | omega | (simp only [g_l0]; omega)) (by first | omega | (simp only [g_l0]; omega)) (by first | omega | (simp only [g_l0]; omega)) (by first | omega | (simp only [g_l0]; omega)) hY (lv_sub hl [1, 2, 3, 4, 5, 6, 7, 8, 9, 10, 11, 12, 13, 14, 15, 16, 17, 18, 19, 20, 21, 22, 23, 24, 0, 26] rfl) h
def fL_takes_461 (N : Nat) (rec3 : (gS × Int32) → Option gS) (rec360 : (gS × Int32 × Int32 × Int32) → Option gS) (σ : gS) (x9 : Int64) (x18 : Int32) (x22 : Int32) (x23 : Int32) (x25 : Int32) (x26 : Int64) (x28 : Int32) (x29 : Int32) (x30 : Int32) (x31 : Int32) (xs0 : Int32) : Option gS := if xs0 = 0 then (fL_takes_475 N rec3 rec360 σ x9 x18 x22 x23 x25 x26 x28 x30 xs0 x29) else (fL_takes_475 N rec3 rec360 σ x9 x18 x22 x23 x25 x26 x28 x30 xs0 x31)
set_option maxRecDepth 100000 in
set_option maxHeartbeats 4000000 in
theorem wL_takes_461 {rec3 : (gS × Int32) → Option gS} {rec360 : (gS × Int32 × Int32 × Int32) → Option gS} {σ : gS} {x9 : Int64} {x18 : Int32} {x22 : Int32} {x23 : Int32} {x25 : Int32} {x26 : Int64} {x28 : Int32} {x29 : Int32} {x30 : Int32} {x31 : Int32} {xs0 : Int32} {ad : Nat → Nat} {kc ns : Nat} (hx : p.tables.exec = Jvm.exec) (hb : c.code = cL_takes) (hr : meth.sig.returnType = none) (hml : c.maxLocals = 33) (hown : s.vm.findClass RL = some m.cls) (hg : ∀ w ∈ wsL_law, w.before args s = true) (hlocks : meth.locks = false) (hK : gK D y aS s) (hA : ∀ q, s.heap.size ≤ q → A q) (hL : ∀ k, k < 179 → k ∈ L) (hL2 : ∀ k ∈ L, k < 179) (ha : ∀ k, k < 179 → ad k = ad0 k) (hrec3 : ∀ {ad : Nat → Nat} {kc ns : Nat} (ha : ∀ k, k < 179 → ad k = ad0 k) {σ9 : gS} {x18n9 : Int32} (hkc : kc ≤ 3 * x18n9.toInt.toNat) (hns : ns ≤ 40 * x18n9.toInt.toNat) (hi0 : 0 ≤ x18n9.toInt) (hi6 : x18n9.toInt ≤ 3) (H : Heap) (locs : List Loc) (ls : Array Slot), gY D y A s L ad σ9 H locs → lv_has ls 33 [(0, .ref (ad 161)), (1, .ref (ad 162)), (2, .ref (ad 163)), (3, .ref (ad 164)), (4, .ref (ad 165)), (5, .ref (ad 166)), (6, .ref (ad 168)), (7, .ref (ad 169)), (8, .ref (ad 170)), (9, .long x9), (11, .ref (ad 172)), (12, .ref (ad 173)), (13, .ref (ad 174)), (14, .ref (ad 175)), (15, .ref (ad 176)), (16, .ref (ad 177)), (17, .ref (ad 178)), (18, .int x18n9)] → rec3 (σ9, x18n9) = some res → W p l e ({ frames := 5, cells := 9, slots := 120, locals := 141 } : Room) s m args below meth c H locs kc ns (MQ below (va_Qv (fun (_ : Unit) => True) (fun _ => gO D A (GW L y ad0 res)) A) args s 9 120 A) (F0 m 3 ls [])) (hrec360 : ∀ {ad : Nat → Nat} {kc ns : Nat} (ha : ∀ k, k < 179 → ad k = ad0 k) {σ9 : gS} {x28n9 : Int32} {x29n9 : Int32} {x30n9 : Int32} (hkc : kc ≤ 3 * (x18.toInt.toNat + 1)) (hns : ns ≤ 40 * (x18.toInt.toNat + 1)) (hi0 : 0 ≤ x18.toInt) (hi6 : x18.toInt < 3) (H : Heap) (locs : List Loc) (ls : Array Slot), gY D y A s (L ++ [179, 180, 181]) ad σ9 H locs → lv_has ls 33 [(0, .ref (ad 161)), (1, .ref (ad 162)), (2, .ref (ad 163)), (3, .ref (ad 164)), (4, .ref (ad 165)), (5, .ref (ad 166)), (6, .ref (ad 168)), (7, .ref (ad 169)), (8, .ref (ad 170)), (9, .long x9), (11, .ref (ad 172)), (12, .ref (ad 173)), (13, .ref (ad 174)), (14, .ref (ad 175)), (15, .ref (ad 176)), (16, .ref (ad 177)), (17, .ref (ad 178)), (18, .int x18), (19, .ref (ad 179)), (20, .ref (ad 180)), (22, .int x22), (23, .int x23), (25, .int x25), (26, .long x26), (28, .int x28n9), (29, .int x29n9), (30, .int x30n9)] → rec360 (σ9, x28n9, x29n9, x30n9) = some res → W p l e ({ frames := 5, cells := 9, slots := 120, locals := 141 } : Room) s m args below meth c H locs kc ns (MQ below (va_Qv (fun (_ : Unit) => True) (fun _ => gO D A (GW L y ad0 res)) A) args s 9 120 A) (F0 m 360 ls [])) (hkc : kc ≤ 3 * (x18.toInt.toNat + 1)) (hns : ns ≤ 40 * (x18.toInt.toNat + 1)) (hi0 : 0 ≤ x18.toInt) (hi6 : x18.toInt < 3) {H : Heap} {locs : List Loc} {ls : Array Slot} (hY : gY D y A s (L ++ [179, 180, 181]) ad σ H locs) (hl : lv_has ls 33 [(0, .ref (ad 161)), (1, .ref (ad 162)), (2, .ref (ad 163)), (3, .ref (ad 164)), (4, .ref (ad 165)), (5, .ref (ad 166)), (6, .ref (ad 168)), (7, .ref (ad 169)), (8, .ref (ad 170)), (9, .long x9), (11, .ref (ad 172)), (12, .ref (ad 173)), (13, .ref (ad 174)), (14, .ref (ad 175)), (15, .ref (ad 176)), (16, .ref (ad 177)), (17, .ref (ad 178)), (18, .int x18), (19, .ref (ad 179)), (20, .ref (ad 180)), (22, .int x22), (23, .int x23), (25, .int x25), (26, .long x26), (28, .int x28), (29, .int x29), (30, .int x30), (31, .int x31)]) (h : fL_takes_461 N rec3 rec360 σ x9 x18 x22 x23 x25 x26 x28 x29 x30 x31 xs0 = some res) : W p l e ({ frames := 5, cells := 9, slots := 120, locals := 141 } : Room) s m args below meth c H locs kc ns (MQ below (va_Qv (fun (_ : Unit) => True) (fun _ => gO D A (GW L y ad0 res)) A) args s 9 120 A) (F0 m 461 ls [.int xs0]) := by
  unfold fL_takes_461 at h
  refine lv_istore (lv' := [(32, .int xs0), (0, .ref (ad 161)), (1, .ref (ad 162)), (2, .ref (ad 163)), (3, .ref (ad 164)), (4, .ref (ad 165)), (5, .ref (ad 166)), (6, .ref (ad 168)), (7, .ref (ad 169)), (8, .ref (ad 170)), (9, .long x9), (11, .ref (ad 172)), (12, .ref (ad 173)), (13, .ref (ad 174)), (14, .ref (ad 175)), (15, .ref (ad 176)), (16, .ref (ad 177)), (17, .ref (ad 178)), (18, .int x18), (19, .ref (ad 179)), (20, .ref (ad 180)), (22, .int x22), (23, .int x23), (25, .int x25), (26, .long x26), (28, .int x28), (29, .int x29), (30, .int x30), (31, .int x31)]) hx hb dL_takes_461 hl (by decide) rfl ?_
  clear hl
  intro ls hl
  refine lv_iload hx hb dL_takes_463 (lv_at hl 0 rfl) ?_
  refine lv_if_eq (tgt := 473) hx hb dL_takes_465 (by decide) (fun z_1 => ?_) (fun z_1 => ?_)
  ·
    rw [if_pos z_1] at h
    refine lv_iload hx hb dL_takes_473 (lv_at hl 26 rfl) ?_
    exact wL_takes_475 hx hb hr hml hown hg hlocks hK hA hL hL2 ha hrec3 hrec360 (by first | omega | (simp only [g_l0]; omega)) (by first | omega | (simp only [g_l0]; omega)) (by first | omega | (simp only [g_l0]; omega)) (by first | omega | (simp only [g_l0]; omega)) hY (lv_sub hl [1, 2, 3, 4, 5, 6, 7, 8, 9, 10, 11, 12, 13, 14, 15, 16, 17, 18, 19, 20, 21, 22, 23, 24, 25, 27, 0] rfl) h
  ·
    rw [if_neg z_1] at h
    refine lv_iload hx hb dL_takes_468 (lv_at hl 28 rfl) ?_
    refine lv_goto (tgt := 475) hx hb dL_takes_470 (by decide) ?_
    exact wL_takes_475 hx hb hr hml hown hg hlocks hK hA hL hL2 ha hrec3 hrec360 (by first | omega | (simp only [g_l0]; omega)) (by first | omega | (simp only [g_l0]; omega)) (by first | omega | (simp only [g_l0]; omega)) (by first | omega | (simp only [g_l0]; omega)) hY (lv_sub hl [1, 2, 3, 4, 5, 6, 7, 8, 9, 10, 11, 12, 13, 14, 15, 16, 17, 18, 19, 20, 21, 22, 23, 24, 25, 27, 0] rfl) h
def fL_takes_460 (N : Nat) (rec3 : (gS × Int32) → Option gS) (rec360 : (gS × Int32 × Int32 × Int32) → Option gS) (σ : gS) (x9 : Int64) (x18 : Int32) (x22 : Int32) (x23 : Int32) (x25 : Int32) (x26 : Int64) (x28 : Int32) (x29 : Int32) (x30 : Int32) (x31 : Int32) : Option gS := fL_takes_461 N rec3 rec360 σ x9 x18 x22 x23 x25 x26 x28 x29 x30 x31 0
set_option maxRecDepth 100000 in
set_option maxHeartbeats 4000000 in
theorem wL_takes_460 {rec3 : (gS × Int32) → Option gS} {rec360 : (gS × Int32 × Int32 × Int32) → Option gS} {σ : gS} {x9 : Int64} {x18 : Int32} {x22 : Int32} {x23 : Int32} {x25 : Int32} {x26 : Int64} {x28 : Int32} {x29 : Int32} {x30 : Int32} {x31 : Int32} {ad : Nat → Nat} {kc ns : Nat} (hx : p.tables.exec = Jvm.exec) (hb : c.code = cL_takes) (hr : meth.sig.returnType = none) (hml : c.maxLocals = 33) (hown : s.vm.findClass RL = some m.cls) (hg : ∀ w ∈ wsL_law, w.before args s = true) (hlocks : meth.locks = false) (hK : gK D y aS s) (hA : ∀ q, s.heap.size ≤ q → A q) (hL : ∀ k, k < 179 → k ∈ L) (hL2 : ∀ k ∈ L, k < 179) (ha : ∀ k, k < 179 → ad k = ad0 k) (hrec3 : ∀ {ad : Nat → Nat} {kc ns : Nat} (ha : ∀ k, k < 179 → ad k = ad0 k) {σ9 : gS} {x18n9 : Int32} (hkc : kc ≤ 3 * x18n9.toInt.toNat) (hns : ns ≤ 40 * x18n9.toInt.toNat) (hi0 : 0 ≤ x18n9.toInt) (hi6 : x18n9.toInt ≤ 3) (H : Heap) (locs : List Loc) (ls : Array Slot), gY D y A s L ad σ9 H locs → lv_has ls 33 [(0, .ref (ad 161)), (1, .ref (ad 162)), (2, .ref (ad 163)), (3, .ref (ad 164)), (4, .ref (ad 165)), (5, .ref (ad 166)), (6, .ref (ad 168)), (7, .ref (ad 169)), (8, .ref (ad 170)), (9, .long x9), (11, .ref (ad 172)), (12, .ref (ad 173)), (13, .ref (ad 174)), (14, .ref (ad 175)), (15, .ref (ad 176)), (16, .ref (ad 177)), (17, .ref (ad 178)), (18, .int x18n9)] → rec3 (σ9, x18n9) = some res → W p l e ({ frames := 5, cells := 9, slots := 120, locals := 141 } : Room) s m args below meth c H locs kc ns (MQ below (va_Qv (fun (_ : Unit) => True) (fun _ => gO D A (GW L y ad0 res)) A) args s 9 120 A) (F0 m 3 ls [])) (hrec360 : ∀ {ad : Nat → Nat} {kc ns : Nat} (ha : ∀ k, k < 179 → ad k = ad0 k) {σ9 : gS} {x28n9 : Int32} {x29n9 : Int32} {x30n9 : Int32} (hkc : kc ≤ 3 * (x18.toInt.toNat + 1)) (hns : ns ≤ 40 * (x18.toInt.toNat + 1)) (hi0 : 0 ≤ x18.toInt) (hi6 : x18.toInt < 3) (H : Heap) (locs : List Loc) (ls : Array Slot), gY D y A s (L ++ [179, 180, 181]) ad σ9 H locs → lv_has ls 33 [(0, .ref (ad 161)), (1, .ref (ad 162)), (2, .ref (ad 163)), (3, .ref (ad 164)), (4, .ref (ad 165)), (5, .ref (ad 166)), (6, .ref (ad 168)), (7, .ref (ad 169)), (8, .ref (ad 170)), (9, .long x9), (11, .ref (ad 172)), (12, .ref (ad 173)), (13, .ref (ad 174)), (14, .ref (ad 175)), (15, .ref (ad 176)), (16, .ref (ad 177)), (17, .ref (ad 178)), (18, .int x18), (19, .ref (ad 179)), (20, .ref (ad 180)), (22, .int x22), (23, .int x23), (25, .int x25), (26, .long x26), (28, .int x28n9), (29, .int x29n9), (30, .int x30n9)] → rec360 (σ9, x28n9, x29n9, x30n9) = some res → W p l e ({ frames := 5, cells := 9, slots := 120, locals := 141 } : Room) s m args below meth c H locs kc ns (MQ below (va_Qv (fun (_ : Unit) => True) (fun _ => gO D A (GW L y ad0 res)) A) args s 9 120 A) (F0 m 360 ls [])) (hkc : kc ≤ 3 * (x18.toInt.toNat + 1)) (hns : ns ≤ 40 * (x18.toInt.toNat + 1)) (hi0 : 0 ≤ x18.toInt) (hi6 : x18.toInt < 3) {H : Heap} {locs : List Loc} {ls : Array Slot} (hY : gY D y A s (L ++ [179, 180, 181]) ad σ H locs) (hl : lv_has ls 33 [(0, .ref (ad 161)), (1, .ref (ad 162)), (2, .ref (ad 163)), (3, .ref (ad 164)), (4, .ref (ad 165)), (5, .ref (ad 166)), (6, .ref (ad 168)), (7, .ref (ad 169)), (8, .ref (ad 170)), (9, .long x9), (11, .ref (ad 172)), (12, .ref (ad 173)), (13, .ref (ad 174)), (14, .ref (ad 175)), (15, .ref (ad 176)), (16, .ref (ad 177)), (17, .ref (ad 178)), (18, .int x18), (19, .ref (ad 179)), (20, .ref (ad 180)), (22, .int x22), (23, .int x23), (25, .int x25), (26, .long x26), (28, .int x28), (29, .int x29), (30, .int x30), (31, .int x31)]) (h : fL_takes_460 N rec3 rec360 σ x9 x18 x22 x23 x25 x26 x28 x29 x30 x31 = some res) : W p l e ({ frames := 5, cells := 9, slots := 120, locals := 141 } : Room) s m args below meth c H locs kc ns (MQ below (va_Qv (fun (_ : Unit) => True) (fun _ => gO D A (GW L y ad0 res)) A) args s 9 120 A) (F0 m 460 ls []) := by
  unfold fL_takes_460 at h
  refine lv_iconst (v := 0) hx hb dL_takes_460 (by decide) ?_
  exact wL_takes_461 hx hb hr hml hown hg hlocks hK hA hL hL2 ha hrec3 hrec360 (by first | omega | (simp only [g_l0]; omega)) (by first | omega | (simp only [g_l0]; omega)) (by first | omega | (simp only [g_l0]; omega)) (by first | omega | (simp only [g_l0]; omega)) hY (lv_sub hl [0, 1, 2, 3, 4, 5, 6, 7, 8, 9, 10, 11, 12, 13, 14, 15, 16, 17, 18, 19, 20, 21, 22, 23, 24, 25, 26, 27] rfl) h
def fL_takes_456 (N : Nat) (rec3 : (gS × Int32) → Option gS) (rec360 : (gS × Int32 × Int32 × Int32) → Option gS) (σ : gS) (x9 : Int64) (x18 : Int32) (x22 : Int32) (x23 : Int32) (x25 : Int32) (x26 : Int64) (x28 : Int32) (x29 : Int32) (x30 : Int32) (x31 : Int32) : Option gS := fL_takes_461 N rec3 rec360 σ x9 x18 x22 x23 x25 x26 x28 x29 x30 x31 1
set_option maxRecDepth 100000 in
set_option maxHeartbeats 4000000 in
theorem wL_takes_456 {rec3 : (gS × Int32) → Option gS} {rec360 : (gS × Int32 × Int32 × Int32) → Option gS} {σ : gS} {x9 : Int64} {x18 : Int32} {x22 : Int32} {x23 : Int32} {x25 : Int32} {x26 : Int64} {x28 : Int32} {x29 : Int32} {x30 : Int32} {x31 : Int32} {ad : Nat → Nat} {kc ns : Nat} (hx : p.tables.exec = Jvm.exec) (hb : c.code = cL_takes) (hr : meth.sig.returnType = none) (hml : c.maxLocals = 33) (hown : s.vm.findClass RL = some m.cls) (hg : ∀ w ∈ wsL_law, w.before args s = true) (hlocks : meth.locks = false) (hK : gK D y aS s) (hA : ∀ q, s.heap.size ≤ q → A q) (hL : ∀ k, k < 179 → k ∈ L) (hL2 : ∀ k ∈ L, k < 179) (ha : ∀ k, k < 179 → ad k = ad0 k) (hrec3 : ∀ {ad : Nat → Nat} {kc ns : Nat} (ha : ∀ k, k < 179 → ad k = ad0 k) {σ9 : gS} {x18n9 : Int32} (hkc : kc ≤ 3 * x18n9.toInt.toNat) (hns : ns ≤ 40 * x18n9.toInt.toNat) (hi0 : 0 ≤ x18n9.toInt) (hi6 : x18n9.toInt ≤ 3) (H : Heap) (locs : List Loc) (ls : Array Slot), gY D y A s L ad σ9 H locs → lv_has ls 33 [(0, .ref (ad 161)), (1, .ref (ad 162)), (2, .ref (ad 163)), (3, .ref (ad 164)), (4, .ref (ad 165)), (5, .ref (ad 166)), (6, .ref (ad 168)), (7, .ref (ad 169)), (8, .ref (ad 170)), (9, .long x9), (11, .ref (ad 172)), (12, .ref (ad 173)), (13, .ref (ad 174)), (14, .ref (ad 175)), (15, .ref (ad 176)), (16, .ref (ad 177)), (17, .ref (ad 178)), (18, .int x18n9)] → rec3 (σ9, x18n9) = some res → W p l e ({ frames := 5, cells := 9, slots := 120, locals := 141 } : Room) s m args below meth c H locs kc ns (MQ below (va_Qv (fun (_ : Unit) => True) (fun _ => gO D A (GW L y ad0 res)) A) args s 9 120 A) (F0 m 3 ls [])) (hrec360 : ∀ {ad : Nat → Nat} {kc ns : Nat} (ha : ∀ k, k < 179 → ad k = ad0 k) {σ9 : gS} {x28n9 : Int32} {x29n9 : Int32} {x30n9 : Int32} (hkc : kc ≤ 3 * (x18.toInt.toNat + 1)) (hns : ns ≤ 40 * (x18.toInt.toNat + 1)) (hi0 : 0 ≤ x18.toInt) (hi6 : x18.toInt < 3) (H : Heap) (locs : List Loc) (ls : Array Slot), gY D y A s (L ++ [179, 180, 181]) ad σ9 H locs → lv_has ls 33 [(0, .ref (ad 161)), (1, .ref (ad 162)), (2, .ref (ad 163)), (3, .ref (ad 164)), (4, .ref (ad 165)), (5, .ref (ad 166)), (6, .ref (ad 168)), (7, .ref (ad 169)), (8, .ref (ad 170)), (9, .long x9), (11, .ref (ad 172)), (12, .ref (ad 173)), (13, .ref (ad 174)), (14, .ref (ad 175)), (15, .ref (ad 176)), (16, .ref (ad 177)), (17, .ref (ad 178)), (18, .int x18), (19, .ref (ad 179)), (20, .ref (ad 180)), (22, .int x22), (23, .int x23), (25, .int x25), (26, .long x26), (28, .int x28n9), (29, .int x29n9), (30, .int x30n9)] → rec360 (σ9, x28n9, x29n9, x30n9) = some res → W p l e ({ frames := 5, cells := 9, slots := 120, locals := 141 } : Room) s m args below meth c H locs kc ns (MQ below (va_Qv (fun (_ : Unit) => True) (fun _ => gO D A (GW L y ad0 res)) A) args s 9 120 A) (F0 m 360 ls [])) (hkc : kc ≤ 3 * (x18.toInt.toNat + 1)) (hns : ns ≤ 40 * (x18.toInt.toNat + 1)) (hi0 : 0 ≤ x18.toInt) (hi6 : x18.toInt < 3) {H : Heap} {locs : List Loc} {ls : Array Slot} (hY : gY D y A s (L ++ [179, 180, 181]) ad σ H locs) (hl : lv_has ls 33 [(0, .ref (ad 161)), (1, .ref (ad 162)), (2, .ref (ad 163)), (3, .ref (ad 164)), (4, .ref (ad 165)), (5, .ref (ad 166)), (6, .ref (ad 168)), (7, .ref (ad 169)), (8, .ref (ad 170)), (9, .long x9), (11, .ref (ad 172)), (12, .ref (ad 173)), (13, .ref (ad 174)), (14, .ref (ad 175)), (15, .ref (ad 176)), (16, .ref (ad 177)), (17, .ref (ad 178)), (18, .int x18), (19, .ref (ad 179)), (20, .ref (ad 180)), (22, .int x22), (23, .int x23), (25, .int x25), (26, .long x26), (28, .int x28), (29, .int x29), (30, .int x30), (31, .int x31)]) (h : fL_takes_456 N rec3 rec360 σ x9 x18 x22 x23 x25 x26 x28 x29 x30 x31 = some res) : W p l e ({ frames := 5, cells := 9, slots := 120, locals := 141 } : Room) s m args below meth c H locs kc ns (MQ below (va_Qv (fun (_ : Unit) => True) (fun _ => gO D A (GW L y ad0 res)) A) args s 9 120 A) (F0 m 456 ls []) := by
  unfold fL_takes_456 at h
  refine lv_iconst (v := 1) hx hb dL_takes_456 (by decide) ?_
  refine lv_goto (tgt := 461) hx hb dL_takes_457 (by decide) ?_
  exact wL_takes_461 hx hb hr hml hown hg hlocks hK hA hL hL2 ha hrec3 hrec360 (by first | omega | (simp only [g_l0]; omega)) (by first | omega | (simp only [g_l0]; omega)) (by first | omega | (simp only [g_l0]; omega)) (by first | omega | (simp only [g_l0]; omega)) hY (lv_sub hl [0, 1, 2, 3, 4, 5, 6, 7, 8, 9, 10, 11, 12, 13, 14, 15, 16, 17, 18, 19, 20, 21, 22, 23, 24, 25, 26, 27] rfl) h
def fL_takes_388 (N : Nat) (rec3 : (gS × Int32) → Option gS) (rec360 : (gS × Int32 × Int32 × Int32) → Option gS) (σ : gS) (x9 : Int64) (x18 : Int32) (x22 : Int32) (x23 : Int32) (x25 : Int32) (x26 : Int64) (x28 : Int32) (x29 : Int32) (x30 : Int32) : Option gS := (fL_wanted N σ x22 x30).bind fun r_1 => if r_1 < 0 then (fL_takes_460 N rec3 rec360 σ x9 x18 x22 x23 x25 x26 x28 x29 x30 r_1) else (if x29 < 0 then (fL_takes_456 N rec3 rec360 σ x9 x18 x22 x23 x25 x26 x28 x29 x30 r_1) else (if x30 < 0 ∨ 14 ≤ x30.toNatClampNeg then none else (if (3 + x28) < 0 ∨ 14 ≤ (3 + x28).toNatClampNeg then none else (if x28 < 0 ∨ 14 ≤ x28.toNatClampNeg then none else (if (3 + x30) < 0 ∨ 14 ≤ (3 + x30).toNatClampNeg then none else (if ((σ.1 178 x28.toNatClampNeg) * (σ.1 178 ((3 + x30).toNatClampNeg))) ≤ ((σ.1 178 x30.toNatClampNeg) * (σ.1 178 ((3 + x28).toNatClampNeg))) then (fL_takes_460 N rec3 rec360 σ x9 x18 x22 x23 x25 x26 x28 x29 x30 r_1) else (fL_takes_456 N rec3 rec360 σ x9 x18 x22 x23 x25 x26 x28 x29 x30 r_1)))))))
set_option maxRecDepth 100000 in
set_option maxHeartbeats 4000000 in
theorem wL_takes_388 {rec3 : (gS × Int32) → Option gS} {rec360 : (gS × Int32 × Int32 × Int32) → Option gS} {σ : gS} {x9 : Int64} {x18 : Int32} {x22 : Int32} {x23 : Int32} {x25 : Int32} {x26 : Int64} {x28 : Int32} {x29 : Int32} {x30 : Int32} {ad : Nat → Nat} {kc ns : Nat} (hx : p.tables.exec = Jvm.exec) (hb : c.code = cL_takes) (hr : meth.sig.returnType = none) (hml : c.maxLocals = 33) (hown : s.vm.findClass RL = some m.cls) (hg : ∀ w ∈ wsL_law, w.before args s = true) (hlocks : meth.locks = false) (hK : gK D y aS s) (hA : ∀ q, s.heap.size ≤ q → A q) (hL : ∀ k, k < 179 → k ∈ L) (hL2 : ∀ k ∈ L, k < 179) (ha : ∀ k, k < 179 → ad k = ad0 k) (hrec3 : ∀ {ad : Nat → Nat} {kc ns : Nat} (ha : ∀ k, k < 179 → ad k = ad0 k) {σ9 : gS} {x18n9 : Int32} (hkc : kc ≤ 3 * x18n9.toInt.toNat) (hns : ns ≤ 40 * x18n9.toInt.toNat) (hi0 : 0 ≤ x18n9.toInt) (hi6 : x18n9.toInt ≤ 3) (H : Heap) (locs : List Loc) (ls : Array Slot), gY D y A s L ad σ9 H locs → lv_has ls 33 [(0, .ref (ad 161)), (1, .ref (ad 162)), (2, .ref (ad 163)), (3, .ref (ad 164)), (4, .ref (ad 165)), (5, .ref (ad 166)), (6, .ref (ad 168)), (7, .ref (ad 169)), (8, .ref (ad 170)), (9, .long x9), (11, .ref (ad 172)), (12, .ref (ad 173)), (13, .ref (ad 174)), (14, .ref (ad 175)), (15, .ref (ad 176)), (16, .ref (ad 177)), (17, .ref (ad 178)), (18, .int x18n9)] → rec3 (σ9, x18n9) = some res → W p l e ({ frames := 5, cells := 9, slots := 120, locals := 141 } : Room) s m args below meth c H locs kc ns (MQ below (va_Qv (fun (_ : Unit) => True) (fun _ => gO D A (GW L y ad0 res)) A) args s 9 120 A) (F0 m 3 ls [])) (hrec360 : ∀ {ad : Nat → Nat} {kc ns : Nat} (ha : ∀ k, k < 179 → ad k = ad0 k) {σ9 : gS} {x28n9 : Int32} {x29n9 : Int32} {x30n9 : Int32} (hkc : kc ≤ 3 * (x18.toInt.toNat + 1)) (hns : ns ≤ 40 * (x18.toInt.toNat + 1)) (hi0 : 0 ≤ x18.toInt) (hi6 : x18.toInt < 3) (H : Heap) (locs : List Loc) (ls : Array Slot), gY D y A s (L ++ [179, 180, 181]) ad σ9 H locs → lv_has ls 33 [(0, .ref (ad 161)), (1, .ref (ad 162)), (2, .ref (ad 163)), (3, .ref (ad 164)), (4, .ref (ad 165)), (5, .ref (ad 166)), (6, .ref (ad 168)), (7, .ref (ad 169)), (8, .ref (ad 170)), (9, .long x9), (11, .ref (ad 172)), (12, .ref (ad 173)), (13, .ref (ad 174)), (14, .ref (ad 175)), (15, .ref (ad 176)), (16, .ref (ad 177)), (17, .ref (ad 178)), (18, .int x18), (19, .ref (ad 179)), (20, .ref (ad 180)), (22, .int x22), (23, .int x23), (25, .int x25), (26, .long x26), (28, .int x28n9), (29, .int x29n9), (30, .int x30n9)] → rec360 (σ9, x28n9, x29n9, x30n9) = some res → W p l e ({ frames := 5, cells := 9, slots := 120, locals := 141 } : Room) s m args below meth c H locs kc ns (MQ below (va_Qv (fun (_ : Unit) => True) (fun _ => gO D A (GW L y ad0 res)) A) args s 9 120 A) (F0 m 360 ls [])) (hkc : kc ≤ 3 * (x18.toInt.toNat + 1)) (hns : ns ≤ 40 * (x18.toInt.toNat + 1)) (hi0 : 0 ≤ x18.toInt) (hi6 : x18.toInt < 3) {H : Heap} {locs : List Loc} {ls : Array Slot} (hY : gY D y A s (L ++ [179, 180, 181]) ad σ H locs) (hl : lv_has ls 33 [(0, .ref (ad 161)), (1, .ref (ad 162)), (2, .ref (ad 163)), (3, .ref (ad 164)), (4, .ref (ad 165)), (5, .ref (ad 166)), (6, .ref (ad 168)), (7, .ref (ad 169)), (8, .ref (ad 170)), (9, .long x9), (11, .ref (ad 172)), (12, .ref (ad 173)), (13, .ref (ad 174)), (14, .ref (ad 175)), (15, .ref (ad 176)), (16, .ref (ad 177)), (17, .ref (ad 178)), (18, .int x18), (19, .ref (ad 179)), (20, .ref (ad 180)), (22, .int x22), (23, .int x23), (25, .int x25), (26, .long x26), (28, .int x28), (29, .int x29), (30, .int x30)]) (h : fL_takes_388 N rec3 rec360 σ x9 x18 x22 x23 x25 x26 x28 x29 x30 = some res) : W p l e ({ frames := 5, cells := 9, slots := 120, locals := 141 } : Room) s m args below meth c H locs kc ns (MQ below (va_Qv (fun (_ : Unit) => True) (fun _ => gO D A (GW L y ad0 res)) A) args s 9 120 A) (F0 m 388 ls []) := by
  unfold fL_takes_388 at h
  refine lv_aload_n hx hb dL_takes_388 rfl (lv_at hl 0 rfl) ?_
  refine lv_aload_n hx hb dL_takes_389 rfl (lv_at hl 1 rfl) ?_
  refine lv_aload hx hb dL_takes_390 (lv_at hl 6 rfl) ?_
  refine lv_aload hx hb dL_takes_392 (lv_at hl 10 rfl) ?_
  refine lv_aload hx hb dL_takes_394 (lv_at hl 11 rfl) ?_
  refine lv_aload hx hb dL_takes_396 (lv_at hl 12 rfl) ?_
  refine lv_aload hx hb dL_takes_398 (lv_at hl 13 rfl) ?_
  refine lv_aload hx hb dL_takes_400 (lv_at hl 14 rfl) ?_
  refine lv_aload hx hb dL_takes_402 (lv_at hl 15 rfl) ?_
  refine lv_aload hx hb dL_takes_404 (lv_at hl 18 rfl) ?_
  refine lv_iload hx hb dL_takes_406 (lv_at hl 20 rfl) ?_
  refine lv_aload hx hb dL_takes_408 (lv_at hl 19 rfl) ?_
  refine lv_iload hx hb dL_takes_410 (lv_at hl 26 rfl) ?_
  obtain ⟨r_1, e_2, h⟩ := g_bind h
  refine G_ai hY hA (va_runS (As := [.ref (ad 161), .ref (ad 162), .ref (ad 168), .ref (ad 172), .ref (ad 173), .ref (ad 174), .ref (ad 175), .ref (ad 176), .ref (ad 177), .ref (ad 179), .int x22, .ref (ad 180), .int x30]) (rest := []) ⟨hx, hb, hml, hown, hg⟩ (kL_wanted l D y aS H.size (L ++ [179, 180, 181]) (fun k hk => List.mem_append_left _ (hL k hk)) ⟨by simp, by simp, by simp⟩ ad N σ x22 x30 _ e_2) (va_cwS 13 hg ggS_RL_138_L_wanted rfl rfl rfl (by decide +kernel) ⟨Nat.le_of_ble_eq_true rfl, Nat.le_of_ble_eq_true rfl⟩) (G_pS hK hY) rfl rfl hl.1 rfl (lv_room (Nat.le_of_ble_eq_true rfl)) dL_takes_412 ⟨(by dsimp only; omega), (by dsimp only; omega)⟩) ?_
  clear hY
  rintro _ H locs rfl hY
  refine lv_istore (lv' := [(31, .int r_1), (0, .ref (ad 161)), (1, .ref (ad 162)), (2, .ref (ad 163)), (3, .ref (ad 164)), (4, .ref (ad 165)), (5, .ref (ad 166)), (6, .ref (ad 168)), (7, .ref (ad 169)), (8, .ref (ad 170)), (9, .long x9), (11, .ref (ad 172)), (12, .ref (ad 173)), (13, .ref (ad 174)), (14, .ref (ad 175)), (15, .ref (ad 176)), (16, .ref (ad 177)), (17, .ref (ad 178)), (18, .int x18), (19, .ref (ad 179)), (20, .ref (ad 180)), (22, .int x22), (23, .int x23), (25, .int x25), (26, .long x26), (28, .int x28), (29, .int x29), (30, .int x30)]) hx hb dL_takes_415 hl (by decide) rfl ?_
  clear hl
  intro ls hl
  refine lv_iload hx hb dL_takes_417 (lv_at hl 0 rfl) ?_
  refine lv_if_lt (tgt := 460) hx hb dL_takes_419 (by decide) (fun z_3 => ?_) (fun z_3 => ?_)
  ·
    rw [if_pos z_3] at h
    have qz_3 := g_ltt z_3; (try simp only [g_l0, g_l3, g_l6] at qz_3)
    exact wL_takes_460 hx hb hr hml hown hg hlocks hK hA hL hL2 ha hrec3 hrec360 (by first | omega | (simp only [g_l0]; omega)) (by first | omega | (simp only [g_l0]; omega)) (by first | omega | (simp only [g_l0]; omega)) (by first | omega | (simp only [g_l0]; omega)) hY (lv_sub hl [1, 2, 3, 4, 5, 6, 7, 8, 9, 10, 11, 12, 13, 14, 15, 16, 17, 18, 19, 20, 21, 22, 23, 24, 25, 26, 27, 0] rfl) h
  ·
    rw [if_neg z_3] at h
    have qz_3 := g_ltf z_3; (try simp only [g_l0, g_l3, g_l6] at qz_3)
    refine lv_iload hx hb dL_takes_422 (lv_at hl 26 rfl) ?_
    refine lv_if_lt (tgt := 456) hx hb dL_takes_424 (by decide) (fun z_4 => ?_) (fun z_4 => ?_)
    ·
      rw [if_pos z_4] at h
      have qz_4 := g_ltt z_4; (try simp only [g_l0, g_l3, g_l6] at qz_4)
      exact wL_takes_456 hx hb hr hml hown hg hlocks hK hA hL hL2 ha hrec3 hrec360 (by first | omega | (simp only [g_l0]; omega)) (by first | omega | (simp only [g_l0]; omega)) (by first | omega | (simp only [g_l0]; omega)) (by first | omega | (simp only [g_l0]; omega)) hY (lv_sub hl [1, 2, 3, 4, 5, 6, 7, 8, 9, 10, 11, 12, 13, 14, 15, 16, 17, 18, 19, 20, 21, 22, 23, 24, 25, 26, 27, 0] rfl) h
    ·
      rw [if_neg z_4] at h
      have qz_4 := g_ltf z_4; (try simp only [g_l0, g_l3, g_l6] at qz_4)
      refine lv_aload hx hb dL_takes_427 (lv_at hl 17 rfl) ?_
      refine lv_iload hx hb dL_takes_429 (lv_at hl 27 rfl) ?_
      obtain ⟨z_5, h⟩ := g_guard h
      refine G_iald (j := x30.toNatClampNeg) hx hb hK hY (List.mem_append_left _ (hL 178 (by decide))) gk_178 (by rw [gl_178]; exact z_5) rfl dL_takes_431 ?_
      refine lv_aload hx hb dL_takes_432 (lv_at hl 17 rfl) ?_
      refine lv_iconst (v := 3) hx hb dL_takes_434 (by decide) ?_
      refine lv_iload hx hb dL_takes_435 (lv_at hl 25 rfl) ?_
      refine lv_iadd hx hb dL_takes_437 ?_
      obtain ⟨z_6, h⟩ := g_guard h
      refine G_iald (j := (3 + x28).toNatClampNeg) hx hb hK hY (List.mem_append_left _ (hL 178 (by decide))) gk_178 (by rw [gl_178]; exact z_6) rfl dL_takes_438 ?_
      refine lv_imul hx hb dL_takes_439 ?_
      refine lv_aload hx hb dL_takes_440 (lv_at hl 17 rfl) ?_
      refine lv_iload hx hb dL_takes_442 (lv_at hl 25 rfl) ?_
      obtain ⟨z_7, h⟩ := g_guard h
      refine G_iald (j := x28.toNatClampNeg) hx hb hK hY (List.mem_append_left _ (hL 178 (by decide))) gk_178 (by rw [gl_178]; exact z_7) rfl dL_takes_444 ?_
      refine lv_aload hx hb dL_takes_445 (lv_at hl 17 rfl) ?_
      refine lv_iconst (v := 3) hx hb dL_takes_447 (by decide) ?_
      refine lv_iload hx hb dL_takes_448 (lv_at hl 27 rfl) ?_
      refine lv_iadd hx hb dL_takes_450 ?_
      obtain ⟨z_8, h⟩ := g_guard h
      refine G_iald (j := (3 + x30).toNatClampNeg) hx hb hK hY (List.mem_append_left _ (hL 178 (by decide))) gk_178 (by rw [gl_178]; exact z_8) rfl dL_takes_451 ?_
      refine lv_imul hx hb dL_takes_452 ?_
      refine lv_icmp_ge (tgt := 460) hx hb dL_takes_453 (by decide) (fun z_9 => ?_) (fun z_9 => ?_)
      ·
        rw [if_pos z_9] at h
        have qz_9 := g_get z_9; (try simp only [g_l0, g_l3, g_l6] at qz_9)
        exact wL_takes_460 hx hb hr hml hown hg hlocks hK hA hL hL2 ha hrec3 hrec360 (by first | omega | (simp only [g_l0]; omega)) (by first | omega | (simp only [g_l0]; omega)) (by first | omega | (simp only [g_l0]; omega)) (by first | omega | (simp only [g_l0]; omega)) hY (lv_sub hl [1, 2, 3, 4, 5, 6, 7, 8, 9, 10, 11, 12, 13, 14, 15, 16, 17, 18, 19, 20, 21, 22, 23, 24, 25, 26, 27, 0] rfl) h
      ·
        rw [if_neg z_9] at h
        have qz_9 := g_gef z_9; (try simp only [g_l0, g_l3, g_l6] at qz_9)
        exact wL_takes_456 hx hb hr hml hown hg hlocks hK hA hL hL2 ha hrec3 hrec360 (by first | omega | (simp only [g_l0]; omega)) (by first | omega | (simp only [g_l0]; omega)) (by first | omega | (simp only [g_l0]; omega)) (by first | omega | (simp only [g_l0]; omega)) hY (lv_sub hl [1, 2, 3, 4, 5, 6, 7, 8, 9, 10, 11, 12, 13, 14, 15, 16, 17, 18, 19, 20, 21, 22, 23, 24, 25, 26, 27, 0] rfl) h
def fL_takes_360 (N : Nat) (rec3 : (gS × Int32) → Option gS) (x9 : Int64) (x18 : Int32) (x22 : Int32) (x23 : Int32) (x25 : Int32) (x26 : Int64) (rec360 : (gS × Int32 × Int32 × Int32) → Option gS) (xx : gS × Int32 × Int32 × Int32) : Option gS := match xx with
  | (σ, x28, x29, x30) => if 3 ≤ x30 then (fL_takes_497 N rec3 σ x9 x18 x26 x28 x29) else (if x23 ≤ 0 then (fL_takes_497 N rec3 σ x9 x18 x26 x28 x29) else (if x25 = 0 then (if x29 < 0 then (fL_takes_388 N rec3 rec360 σ x9 x18 x22 x23 x25 x26 x28 x29 x30) else (if x29 ≤ 99 then (fL_takes_497 N rec3 σ x9 x18 x26 x28 x29) else (fL_takes_388 N rec3 rec360 σ x9 x18 x22 x23 x25 x26 x28 x29 x30))) else (fL_takes_497 N rec3 σ x9 x18 x26 x28 x29)))
set_option maxRecDepth 100000 in
set_option maxHeartbeats 4000000 in
theorem wL_takes_360 {rec3 : (gS × Int32) → Option gS} {x9 : Int64} {x18 : Int32} {x22 : Int32} {x23 : Int32} {x25 : Int32} {x26 : Int64} (hx : p.tables.exec = Jvm.exec) (hb : c.code = cL_takes) (hr : meth.sig.returnType = none) (hml : c.maxLocals = 33) (hown : s.vm.findClass RL = some m.cls) (hg : ∀ w ∈ wsL_law, w.before args s = true) (hlocks : meth.locks = false) (hK : gK D y aS s) (hA : ∀ q, s.heap.size ≤ q → A q) (hL : ∀ k, k < 179 → k ∈ L) (hL2 : ∀ k ∈ L, k < 179) (hrec3 : ∀ {ad : Nat → Nat} {kc ns : Nat} (ha : ∀ k, k < 179 → ad k = ad0 k) {σ9 : gS} {x18n9 : Int32} (hkc : kc ≤ 3 * x18n9.toInt.toNat) (hns : ns ≤ 40 * x18n9.toInt.toNat) (hi0 : 0 ≤ x18n9.toInt) (hi6 : x18n9.toInt ≤ 3) (H : Heap) (locs : List Loc) (ls : Array Slot), gY D y A s L ad σ9 H locs → lv_has ls 33 [(0, .ref (ad 161)), (1, .ref (ad 162)), (2, .ref (ad 163)), (3, .ref (ad 164)), (4, .ref (ad 165)), (5, .ref (ad 166)), (6, .ref (ad 168)), (7, .ref (ad 169)), (8, .ref (ad 170)), (9, .long x9), (11, .ref (ad 172)), (12, .ref (ad 173)), (13, .ref (ad 174)), (14, .ref (ad 175)), (15, .ref (ad 176)), (16, .ref (ad 177)), (17, .ref (ad 178)), (18, .int x18n9)] → rec3 (σ9, x18n9) = some res → W p l e ({ frames := 5, cells := 9, slots := 120, locals := 141 } : Room) s m args below meth c H locs kc ns (MQ below (va_Qv (fun (_ : Unit) => True) (fun _ => gO D A (GW L y ad0 res)) A) args s 9 120 A) (F0 m 3 ls [])) : ∀ (n : Nat) {ad : Nat → Nat} {kc ns : Nat} (ha : ∀ k, k < 179 → ad k = ad0 k) {σ : gS} {x28 : Int32} {x29 : Int32} {x30 : Int32} (hkc : kc ≤ 3 * (x18.toInt.toNat + 1)) (hns : ns ≤ 40 * (x18.toInt.toNat + 1)) (hi0 : 0 ≤ x18.toInt) (hi6 : x18.toInt < 3) (H : Heap) (locs : List Loc) (ls : Array Slot), gY D y A s (L ++ [179, 180, 181]) ad σ H locs → lv_has ls 33 [(0, .ref (ad 161)), (1, .ref (ad 162)), (2, .ref (ad 163)), (3, .ref (ad 164)), (4, .ref (ad 165)), (5, .ref (ad 166)), (6, .ref (ad 168)), (7, .ref (ad 169)), (8, .ref (ad 170)), (9, .long x9), (11, .ref (ad 172)), (12, .ref (ad 173)), (13, .ref (ad 174)), (14, .ref (ad 175)), (15, .ref (ad 176)), (16, .ref (ad 177)), (17, .ref (ad 178)), (18, .int x18), (19, .ref (ad 179)), (20, .ref (ad 180)), (22, .int x22), (23, .int x23), (25, .int x25), (26, .long x26), (28, .int x28), (29, .int x29), (30, .int x30)] → lp (fL_takes_360 N rec3 x9 x18 x22 x23 x25 x26) n (σ, x28, x29, x30) = some res → W p l e ({ frames := 5, cells := 9, slots := 120, locals := 141 } : Room) s m args below meth c H locs kc ns (MQ below (va_Qv (fun (_ : Unit) => True) (fun _ => gO D A (GW L y ad0 res)) A) args s 9 120 A) (F0 m 360 ls []) := by
  intro n
  induction n with
  | zero => intro ad kc ns ha σ x28 x29 x30 hkc hns hi0 hi6 H locs ls hY hl h; exact nomatch (show none = some res from h)
  | succ n hrec360 =>
    intro ad kc ns ha σ x28 x29 x30 hkc hns hi0 hi6 H locs ls hY hl h
    replace h : fL_takes_360 N rec3 x9 x18 x22 x23 x25 x26 (lp (fL_takes_360 N rec3 x9 x18 x22 x23 x25 x26) n) (σ, x28, x29, x30) = some res := h
    generalize lp (fL_takes_360 N rec3 x9 x18 x22 x23 x25 x26) n = rec360 at h hrec360
    unfold fL_takes_360 at h
    try dsimp only at h
    refine lv_iload hx hb dL_takes_360 (lv_at hl 26 rfl) ?_
    refine lv_iconst (v := 3) hx hb dL_takes_362 (by decide) ?_
    refine lv_icmp_ge (tgt := 497) hx hb dL_takes_363 (by decide) (fun z_1 => ?_) (fun z_1 => ?_)
    ·
      rw [if_pos z_1] at h
      have qz_1 := g_get z_1; (try simp only [g_l0, g_l3, g_l6] at qz_1)
      exact wL_takes_497 hx hb hr hml hown hg hlocks hK hA hL hL2 ha hrec3 (by first | omega | (simp only [g_l0]; omega)) (by first | omega | (simp only [g_l0]; omega)) (by first | omega | (simp only [g_l0]; omega)) (by first | omega | (simp only [g_l0]; omega)) hY (lv_sub hl [0, 1, 2, 3, 4, 5, 6, 7, 8, 9, 10, 11, 12, 13, 14, 15, 16, 17, 19, 23, 24, 25] rfl) h
    ·
      rw [if_neg z_1] at h
      have qz_1 := g_gef z_1; (try simp only [g_l0, g_l3, g_l6] at qz_1)
      refine lv_iload hx hb dL_takes_366 (lv_at hl 21 rfl) ?_
      refine lv_if_le (tgt := 497) hx hb dL_takes_368 (by decide) (fun z_2 => ?_) (fun z_2 => ?_)
      ·
        rw [if_pos z_2] at h
        have qz_2 := g_let z_2; (try simp only [g_l0, g_l3, g_l6] at qz_2)
        exact wL_takes_497 hx hb hr hml hown hg hlocks hK hA hL hL2 ha hrec3 (by first | omega | (simp only [g_l0]; omega)) (by first | omega | (simp only [g_l0]; omega)) (by first | omega | (simp only [g_l0]; omega)) (by first | omega | (simp only [g_l0]; omega)) hY (lv_sub hl [0, 1, 2, 3, 4, 5, 6, 7, 8, 9, 10, 11, 12, 13, 14, 15, 16, 17, 19, 23, 24, 25] rfl) h
      ·
        rw [if_neg z_2] at h
        have qz_2 := g_lef z_2; (try simp only [g_l0, g_l3, g_l6] at qz_2)
        refine lv_iload hx hb dL_takes_371 (lv_at hl 22 rfl) ?_
        refine lv_if_ne (tgt := 497) hx hb dL_takes_373 (by decide) (fun z_3 => ?_) (fun z_3 => ?_)
        ·
          rw [if_neg z_3] at h
          exact wL_takes_497 hx hb hr hml hown hg hlocks hK hA hL hL2 ha hrec3 (by first | omega | (simp only [g_l0]; omega)) (by first | omega | (simp only [g_l0]; omega)) (by first | omega | (simp only [g_l0]; omega)) (by first | omega | (simp only [g_l0]; omega)) hY (lv_sub hl [0, 1, 2, 3, 4, 5, 6, 7, 8, 9, 10, 11, 12, 13, 14, 15, 16, 17, 19, 23, 24, 25] rfl) h
        ·
          rw [if_pos z_3] at h
          refine lv_iload hx hb dL_takes_376 (lv_at hl 25 rfl) ?_
          refine lv_if_lt (tgt := 388) hx hb dL_takes_378 (by decide) (fun z_4 => ?_) (fun z_4 => ?_)
          ·
            rw [if_pos z_4] at h
            have qz_4 := g_ltt z_4; (try simp only [g_l0, g_l3, g_l6] at qz_4)
            exact wL_takes_388 hx hb hr hml hown hg hlocks hK hA hL hL2 ha hrec3 hrec360 (by first | omega | (simp only [g_l0]; omega)) (by first | omega | (simp only [g_l0]; omega)) (by first | omega | (simp only [g_l0]; omega)) (by first | omega | (simp only [g_l0]; omega)) hY (lv_sub hl [0, 1, 2, 3, 4, 5, 6, 7, 8, 9, 10, 11, 12, 13, 14, 15, 16, 17, 18, 19, 20, 21, 22, 23, 24, 25, 26] rfl) h
          ·
            rw [if_neg z_4] at h
            have qz_4 := g_ltf z_4; (try simp only [g_l0, g_l3, g_l6] at qz_4)
            refine lv_iload hx hb dL_takes_381 (lv_at hl 25 rfl) ?_
            refine lv_bipush (v := 99) hx hb dL_takes_383 (by decide +kernel) ?_
            refine lv_icmp_le (tgt := 497) hx hb dL_takes_385 (by decide) (fun z_5 => ?_) (fun z_5 => ?_)
            ·
              rw [if_pos z_5] at h
              have qz_5 := g_let z_5; (try simp only [g_l0, g_l3, g_l6] at qz_5)
              exact wL_takes_497 hx hb hr hml hown hg hlocks hK hA hL hL2 ha hrec3 (by first | omega | (simp only [g_l0]; omega)) (by first | omega | (simp only [g_l0]; omega)) (by first | omega | (simp only [g_l0]; omega)) (by first | omega | (simp only [g_l0]; omega)) hY (lv_sub hl [0, 1, 2, 3, 4, 5, 6, 7, 8, 9, 10, 11, 12, 13, 14, 15, 16, 17, 19, 23, 24, 25] rfl) h
            ·
              rw [if_neg z_5] at h
              have qz_5 := g_lef z_5; (try simp only [g_l0, g_l3, g_l6] at qz_5)
              exact wL_takes_388 hx hb hr hml hown hg hlocks hK hA hL hL2 ha hrec3 hrec360 (by first | omega | (simp only [g_l0]; omega)) (by first | omega | (simp only [g_l0]; omega)) (by first | omega | (simp only [g_l0]; omega)) (by first | omega | (simp only [g_l0]; omega)) hY (lv_sub hl [0, 1, 2, 3, 4, 5, 6, 7, 8, 9, 10, 11, 12, 13, 14, 15, 16, 17, 18, 19, 20, 21, 22, 23, 24, 25, 26] rfl) h
def fL_takes_357 (N : Nat) (rec3 : (gS × Int32) → Option gS) (σ : gS) (x9 : Int64) (x18 : Int32) (x22 : Int32) (x23 : Int32) (x25 : Int32) (x26 : Int64) (x28 : Int32) (x29 : Int32) : Option gS := lp (fL_takes_360 N rec3 x9 x18 x22 x23 x25 x26) N (σ, x28, x29, 0)
set_option maxRecDepth 100000 in
set_option maxHeartbeats 4000000 in
theorem wL_takes_357 {rec3 : (gS × Int32) → Option gS} {σ : gS} {x9 : Int64} {x18 : Int32} {x22 : Int32} {x23 : Int32} {x25 : Int32} {x26 : Int64} {x28 : Int32} {x29 : Int32} {ad : Nat → Nat} {kc ns : Nat} (hx : p.tables.exec = Jvm.exec) (hb : c.code = cL_takes) (hr : meth.sig.returnType = none) (hml : c.maxLocals = 33) (hown : s.vm.findClass RL = some m.cls) (hg : ∀ w ∈ wsL_law, w.before args s = true) (hlocks : meth.locks = false) (hK : gK D y aS s) (hA : ∀ q, s.heap.size ≤ q → A q) (hL : ∀ k, k < 179 → k ∈ L) (hL2 : ∀ k ∈ L, k < 179) (ha : ∀ k, k < 179 → ad k = ad0 k) (hrec3 : ∀ {ad : Nat → Nat} {kc ns : Nat} (ha : ∀ k, k < 179 → ad k = ad0 k) {σ9 : gS} {x18n9 : Int32} (hkc : kc ≤ 3 * x18n9.toInt.toNat) (hns : ns ≤ 40 * x18n9.toInt.toNat) (hi0 : 0 ≤ x18n9.toInt) (hi6 : x18n9.toInt ≤ 3) (H : Heap) (locs : List Loc) (ls : Array Slot), gY D y A s L ad σ9 H locs → lv_has ls 33 [(0, .ref (ad 161)), (1, .ref (ad 162)), (2, .ref (ad 163)), (3, .ref (ad 164)), (4, .ref (ad 165)), (5, .ref (ad 166)), (6, .ref (ad 168)), (7, .ref (ad 169)), (8, .ref (ad 170)), (9, .long x9), (11, .ref (ad 172)), (12, .ref (ad 173)), (13, .ref (ad 174)), (14, .ref (ad 175)), (15, .ref (ad 176)), (16, .ref (ad 177)), (17, .ref (ad 178)), (18, .int x18n9)] → rec3 (σ9, x18n9) = some res → W p l e ({ frames := 5, cells := 9, slots := 120, locals := 141 } : Room) s m args below meth c H locs kc ns (MQ below (va_Qv (fun (_ : Unit) => True) (fun _ => gO D A (GW L y ad0 res)) A) args s 9 120 A) (F0 m 3 ls [])) (hkc : kc ≤ 3 * (x18.toInt.toNat + 1)) (hns : ns ≤ 40 * (x18.toInt.toNat + 1)) (hi0 : 0 ≤ x18.toInt) (hi6 : x18.toInt < 3) {H : Heap} {locs : List Loc} {ls : Array Slot} (hY : gY D y A s (L ++ [179, 180, 181]) ad σ H locs) (hl : lv_has ls 33 [(0, .ref (ad 161)), (1, .ref (ad 162)), (2, .ref (ad 163)), (3, .ref (ad 164)), (4, .ref (ad 165)), (5, .ref (ad 166)), (6, .ref (ad 168)), (7, .ref (ad 169)), (8, .ref (ad 170)), (9, .long x9), (11, .ref (ad 172)), (12, .ref (ad 173)), (13, .ref (ad 174)), (14, .ref (ad 175)), (15, .ref (ad 176)), (16, .ref (ad 177)), (17, .ref (ad 178)), (18, .int x18), (19, .ref (ad 179)), (20, .ref (ad 180)), (22, .int x22), (23, .int x23), (25, .int x25), (26, .long x26), (28, .int x28), (29, .int x29)]) (h : fL_takes_357 N rec3 σ x9 x18 x22 x23 x25 x26 x28 x29 = some res) : W p l e ({ frames := 5, cells := 9, slots := 120, locals := 141 } : Room) s m args below meth c H locs kc ns (MQ below (va_Qv (fun (_ : Unit) => True) (fun _ => gO D A (GW L y ad0 res)) A) args s 9 120 A) (F0 m 357 ls []) := by
  unfold fL_takes_357 at h
  refine lv_iconst (v := 0) hx hb dL_takes_357 (by decide) ?_
  refine lv_istore (lv' := [(30, .int 0), (0, .ref (ad 161)), (1, .ref (ad 162)), (2, .ref (ad 163)), (3, .ref (ad 164)), (4, .ref (ad 165)), (5, .ref (ad 166)), (6, .ref (ad 168)), (7, .ref (ad 169)), (8, .ref (ad 170)), (9, .long x9), (11, .ref (ad 172)), (12, .ref (ad 173)), (13, .ref (ad 174)), (14, .ref (ad 175)), (15, .ref (ad 176)), (16, .ref (ad 177)), (17, .ref (ad 178)), (18, .int x18), (19, .ref (ad 179)), (20, .ref (ad 180)), (22, .int x22), (23, .int x23), (25, .int x25), (26, .long x26), (28, .int x28), (29, .int x29)]) hx hb dL_takes_358 hl (by decide) rfl ?_
  clear hl
  intro ls hl
  exact wL_takes_360 hx hb hr hml hown hg hlocks hK hA hL hL2 hrec3 N ha (by first | omega | (simp only [g_l0]; omega)) (by first | omega | (simp only [g_l0]; omega)) (by first | omega | (simp only [g_l0]; omega)) (by first | omega | (simp only [g_l0]; omega)) _ _ _ hY (lv_sub hl [1, 2, 3, 4, 5, 6, 7, 8, 9, 10, 11, 12, 13, 14, 15, 16, 17, 18, 19, 20, 21, 22, 23, 24, 25, 26, 0] rfl) h
def fL_takes_349 (N : Nat) (rec3 : (gS × Int32) → Option gS) (rec295 : (gS × Int32 × Int32) → Option gS) (σ : gS) (x9 : Int64) (x18 : Int32) (x22 : Int32) (x23 : Int32) (x25 : Int32) (x26 : Int64) (x29 : Int32) (x30 : Int32) (xs0 : Int32) : Option gS := rec295 (σ, xs0, (x30 + (-1)))
set_option maxRecDepth 100000 in
set_option maxHeartbeats 4000000 in
theorem wL_takes_349 {rec3 : (gS × Int32) → Option gS} {rec295 : (gS × Int32 × Int32) → Option gS} {σ : gS} {x9 : Int64} {x18 : Int32} {x22 : Int32} {x23 : Int32} {x25 : Int32} {x26 : Int64} {x29 : Int32} {x30 : Int32} {xs0 : Int32} {ad : Nat → Nat} {kc ns : Nat} (hx : p.tables.exec = Jvm.exec) (hb : c.code = cL_takes) (hr : meth.sig.returnType = none) (hml : c.maxLocals = 33) (hown : s.vm.findClass RL = some m.cls) (hg : ∀ w ∈ wsL_law, w.before args s = true) (hlocks : meth.locks = false) (hK : gK D y aS s) (hA : ∀ q, s.heap.size ≤ q → A q) (hL : ∀ k, k < 179 → k ∈ L) (hL2 : ∀ k ∈ L, k < 179) (ha : ∀ k, k < 179 → ad k = ad0 k) (hrec3 : ∀ {ad : Nat → Nat} {kc ns : Nat} (ha : ∀ k, k < 179 → ad k = ad0 k) {σ9 : gS} {x18n9 : Int32} (hkc : kc ≤ 3 * x18n9.toInt.toNat) (hns : ns ≤ 40 * x18n9.toInt.toNat) (hi0 : 0 ≤ x18n9.toInt) (hi6 : x18n9.toInt ≤ 3) (H : Heap) (locs : List Loc) (ls : Array Slot), gY D y A s L ad σ9 H locs → lv_has ls 33 [(0, .ref (ad 161)), (1, .ref (ad 162)), (2, .ref (ad 163)), (3, .ref (ad 164)), (4, .ref (ad 165)), (5, .ref (ad 166)), (6, .ref (ad 168)), (7, .ref (ad 169)), (8, .ref (ad 170)), (9, .long x9), (11, .ref (ad 172)), (12, .ref (ad 173)), (13, .ref (ad 174)), (14, .ref (ad 175)), (15, .ref (ad 176)), (16, .ref (ad 177)), (17, .ref (ad 178)), (18, .int x18n9)] → rec3 (σ9, x18n9) = some res → W p l e ({ frames := 5, cells := 9, slots := 120, locals := 141 } : Room) s m args below meth c H locs kc ns (MQ below (va_Qv (fun (_ : Unit) => True) (fun _ => gO D A (GW L y ad0 res)) A) args s 9 120 A) (F0 m 3 ls [])) (hrec295 : ∀ {ad : Nat → Nat} {kc ns : Nat} (ha : ∀ k, k < 179 → ad k = ad0 k) {σ9 : gS} {x28n9 : Int32} {x30n9 : Int32} (hkc : kc ≤ 3 * (x18.toInt.toNat + 1)) (hns : ns ≤ 40 * (x18.toInt.toNat + 1)) (hi0 : 0 ≤ x18.toInt) (hi6 : x18.toInt < 3) (H : Heap) (locs : List Loc) (ls : Array Slot), gY D y A s (L ++ [179, 180, 181]) ad σ9 H locs → lv_has ls 33 [(0, .ref (ad 161)), (1, .ref (ad 162)), (2, .ref (ad 163)), (3, .ref (ad 164)), (4, .ref (ad 165)), (5, .ref (ad 166)), (6, .ref (ad 168)), (7, .ref (ad 169)), (8, .ref (ad 170)), (9, .long x9), (11, .ref (ad 172)), (12, .ref (ad 173)), (13, .ref (ad 174)), (14, .ref (ad 175)), (15, .ref (ad 176)), (16, .ref (ad 177)), (17, .ref (ad 178)), (18, .int x18), (19, .ref (ad 179)), (20, .ref (ad 180)), (22, .int x22), (23, .int x23), (25, .int x25), (26, .long x26), (28, .int x28n9), (29, .int x29), (30, .int x30n9)] → rec295 (σ9, x28n9, x30n9) = some res → W p l e ({ frames := 5, cells := 9, slots := 120, locals := 141 } : Room) s m args below meth c H locs kc ns (MQ below (va_Qv (fun (_ : Unit) => True) (fun _ => gO D A (GW L y ad0 res)) A) args s 9 120 A) (F0 m 295 ls [])) (hkc : kc ≤ 3 * (x18.toInt.toNat + 1)) (hns : ns ≤ 40 * (x18.toInt.toNat + 1)) (hi0 : 0 ≤ x18.toInt) (hi6 : x18.toInt < 3) {H : Heap} {locs : List Loc} {ls : Array Slot} (hY : gY D y A s (L ++ [179, 180, 181]) ad σ H locs) (hl : lv_has ls 33 [(0, .ref (ad 161)), (1, .ref (ad 162)), (2, .ref (ad 163)), (3, .ref (ad 164)), (4, .ref (ad 165)), (5, .ref (ad 166)), (6, .ref (ad 168)), (7, .ref (ad 169)), (8, .ref (ad 170)), (9, .long x9), (11, .ref (ad 172)), (12, .ref (ad 173)), (13, .ref (ad 174)), (14, .ref (ad 175)), (15, .ref (ad 176)), (16, .ref (ad 177)), (17, .ref (ad 178)), (18, .int x18), (19, .ref (ad 179)), (20, .ref (ad 180)), (22, .int x22), (23, .int x23), (25, .int x25), (26, .long x26), (29, .int x29), (30, .int x30)]) (h : fL_takes_349 N rec3 rec295 σ x9 x18 x22 x23 x25 x26 x29 x30 xs0 = some res) : W p l e ({ frames := 5, cells := 9, slots := 120, locals := 141 } : Room) s m args below meth c H locs kc ns (MQ below (va_Qv (fun (_ : Unit) => True) (fun _ => gO D A (GW L y ad0 res)) A) args s 9 120 A) (F0 m 349 ls [.int xs0]) := by
  unfold fL_takes_349 at h
  refine lv_istore (lv' := [(28, .int xs0), (0, .ref (ad 161)), (1, .ref (ad 162)), (2, .ref (ad 163)), (3, .ref (ad 164)), (4, .ref (ad 165)), (5, .ref (ad 166)), (6, .ref (ad 168)), (7, .ref (ad 169)), (8, .ref (ad 170)), (9, .long x9), (11, .ref (ad 172)), (12, .ref (ad 173)), (13, .ref (ad 174)), (14, .ref (ad 175)), (15, .ref (ad 176)), (16, .ref (ad 177)), (17, .ref (ad 178)), (18, .int x18), (19, .ref (ad 179)), (20, .ref (ad 180)), (22, .int x22), (23, .int x23), (25, .int x25), (26, .long x26), (29, .int x29), (30, .int x30)]) hx hb dL_takes_349 hl (by decide) rfl ?_
  clear hl
  intro ls hl
  refine lv_iinc (v := (x30 + (-1))) (lv' := [(30, .int (x30 + (-1))), (28, .int xs0), (0, .ref (ad 161)), (1, .ref (ad 162)), (2, .ref (ad 163)), (3, .ref (ad 164)), (4, .ref (ad 165)), (5, .ref (ad 166)), (6, .ref (ad 168)), (7, .ref (ad 169)), (8, .ref (ad 170)), (9, .long x9), (11, .ref (ad 172)), (12, .ref (ad 173)), (13, .ref (ad 174)), (14, .ref (ad 175)), (15, .ref (ad 176)), (16, .ref (ad 177)), (17, .ref (ad 178)), (18, .int x18), (19, .ref (ad 179)), (20, .ref (ad 180)), (22, .int x22), (23, .int x23), (25, .int x25), (26, .long x26), (29, .int x29)]) hx hb dL_takes_351 hl (k := 26) rfl rfl (by decide) rfl ?_
  clear hl
  intro ls hl
  refine lv_goto (tgt := 295) hx hb dL_takes_354 (by decide) ?_
  exact hrec295 ha (by first | omega | (simp only [g_l0]; omega)) (by first | omega | (simp only [g_l0]; omega)) (by first | omega | (simp only [g_l0]; omega)) (by first | omega | (simp only [g_l0]; omega)) _ _ _ hY (lv_sub hl [2, 3, 4, 5, 6, 7, 8, 9, 10, 11, 12, 13, 14, 15, 16, 17, 18, 19, 20, 21, 22, 23, 24, 25, 1, 26, 0] rfl) h
def fL_takes_295 (N : Nat) (rec3 : (gS × Int32) → Option gS) (x9 : Int64) (x18 : Int32) (x22 : Int32) (x23 : Int32) (x25 : Int32) (x26 : Int64) (x29 : Int32) (rec295 : (gS × Int32 × Int32) → Option gS) (xx : gS × Int32 × Int32) : Option gS := match xx with
  | (σ, x28, x30) => if x30 < 0 then (fL_takes_357 N rec3 σ x9 x18 x22 x23 x25 x26 x28 x29) else (if x29 < 0 then (fL_takes_357 N rec3 σ x9 x18 x22 x23 x25 x26 x28 x29) else (if x25 = 0 then (if x30 < 0 ∨ 32 ≤ x30.toNatClampNeg then none else ((fL_required N σ (σ.1 179 x30.toNatClampNeg)).bind fun r_5 => if ((r_5 >>> (x29 &&& 31)) &&& 1) = 1 then (if x30 < 0 ∨ 32 ≤ x30.toNatClampNeg then none else (if (σ.1 179 x30.toNatClampNeg) < 0 ∨ 24 ≤ (σ.1 179 x30.toNatClampNeg).toNatClampNeg then none else (fL_takes_349 N rec3 rec295 σ x9 x18 x22 x23 x25 x26 x29 x30 ((σ.1 162 ((σ.1 179 x30.toNatClampNeg).toNatClampNeg)) - (σ.1 162 ((σ.1 179 x30.toNatClampNeg).toNatClampNeg)) / 3 * 3)))) else (fL_takes_349 N rec3 rec295 σ x9 x18 x22 x23 x25 x26 x29 x30 x28))) else (fL_takes_357 N rec3 σ x9 x18 x22 x23 x25 x26 x28 x29)))
set_option maxRecDepth 100000 in
set_option maxHeartbeats 4000000 in
theorem wL_takes_295 {rec3 : (gS × Int32) → Option gS} {x9 : Int64} {x18 : Int32} {x22 : Int32} {x23 : Int32} {x25 : Int32} {x26 : Int64} {x29 : Int32} (hx : p.tables.exec = Jvm.exec) (hb : c.code = cL_takes) (hr : meth.sig.returnType = none) (hml : c.maxLocals = 33) (hown : s.vm.findClass RL = some m.cls) (hg : ∀ w ∈ wsL_law, w.before args s = true) (hlocks : meth.locks = false) (hK : gK D y aS s) (hA : ∀ q, s.heap.size ≤ q → A q) (hL : ∀ k, k < 179 → k ∈ L) (hL2 : ∀ k ∈ L, k < 179) (hrec3 : ∀ {ad : Nat → Nat} {kc ns : Nat} (ha : ∀ k, k < 179 → ad k = ad0 k) {σ9 : gS} {x18n9 : Int32} (hkc : kc ≤ 3 * x18n9.toInt.toNat) (hns : ns ≤ 40 * x18n9.toInt.toNat) (hi0 : 0 ≤ x18n9.toInt) (hi6 : x18n9.toInt ≤ 3) (H : Heap) (locs : List Loc) (ls : Array Slot), gY D y A s L ad σ9 H locs → lv_has ls 33 [(0, .ref (ad 161)), (1, .ref (ad 162)), (2, .ref (ad 163)), (3, .ref (ad 164)), (4, .ref (ad 165)), (5, .ref (ad 166)), (6, .ref (ad 168)), (7, .ref (ad 169)), (8, .ref (ad 170)), (9, .long x9), (11, .ref (ad 172)), (12, .ref (ad 173)), (13, .ref (ad 174)), (14, .ref (ad 175)), (15, .ref (ad 176)), (16, .ref (ad 177)), (17, .ref (ad 178)), (18, .int x18n9)] → rec3 (σ9, x18n9) = some res → W p l e ({ frames := 5, cells := 9, slots := 120, locals := 141 } : Room) s m args below meth c H locs kc ns (MQ below (va_Qv (fun (_ : Unit) => True) (fun _ => gO D A (GW L y ad0 res)) A) args s 9 120 A) (F0 m 3 ls [])) : ∀ (n : Nat) {ad : Nat → Nat} {kc ns : Nat} (ha : ∀ k, k < 179 → ad k = ad0 k) {σ : gS} {x28 : Int32} {x30 : Int32} (hkc : kc ≤ 3 * (x18.toInt.toNat + 1)) (hns : ns ≤ 40 * (x18.toInt.toNat + 1)) (hi0 : 0 ≤ x18.toInt) (hi6 : x18.toInt < 3) (H : Heap) (locs : List Loc) (ls : Array Slot), gY D y A s (L ++ [179, 180, 181]) ad σ H locs → lv_has ls 33 [(0, .ref (ad 161)), (1, .ref (ad 162)), (2, .ref (ad 163)), (3, .ref (ad 164)), (4, .ref (ad 165)), (5, .ref (ad 166)), (6, .ref (ad 168)), (7, .ref (ad 169)), (8, .ref (ad 170)), (9, .long x9), (11, .ref (ad 172)), (12, .ref (ad 173)), (13, .ref (ad 174)), (14, .ref (ad 175)), (15, .ref (ad 176)), (16, .ref (ad 177)), (17, .ref (ad 178)), (18, .int x18), (19, .ref (ad 179)), (20, .ref (ad 180)), (22, .int x22), (23, .int x23), (25, .int x25), (26, .long x26), (28, .int x28), (29, .int x29), (30, .int x30)] → lp (fL_takes_295 N rec3 x9 x18 x22 x23 x25 x26 x29) n (σ, x28, x30) = some res → W p l e ({ frames := 5, cells := 9, slots := 120, locals := 141 } : Room) s m args below meth c H locs kc ns (MQ below (va_Qv (fun (_ : Unit) => True) (fun _ => gO D A (GW L y ad0 res)) A) args s 9 120 A) (F0 m 295 ls []) := by
  intro n
  induction n with
  | zero => intro ad kc ns ha σ x28 x30 hkc hns hi0 hi6 H locs ls hY hl h; exact nomatch (show none = some res from h)
  | succ n hrec295 =>
    intro ad kc ns ha σ x28 x30 hkc hns hi0 hi6 H locs ls hY hl h
    replace h : fL_takes_295 N rec3 x9 x18 x22 x23 x25 x26 x29 (lp (fL_takes_295 N rec3 x9 x18 x22 x23 x25 x26 x29) n) (σ, x28, x30) = some res := h
    generalize lp (fL_takes_295 N rec3 x9 x18 x22 x23 x25 x26 x29) n = rec295 at h hrec295
    unfold fL_takes_295 at h
    try dsimp only at h
    refine lv_iload hx hb dL_takes_295 (lv_at hl 26 rfl) ?_
    refine lv_if_lt (tgt := 357) hx hb dL_takes_297 (by decide) (fun z_1 => ?_) (fun z_1 => ?_)
    ·
      rw [if_pos z_1] at h
      have qz_1 := g_ltt z_1; (try simp only [g_l0, g_l3, g_l6] at qz_1)
      exact wL_takes_357 hx hb hr hml hown hg hlocks hK hA hL hL2 ha hrec3 (by first | omega | (simp only [g_l0]; omega)) (by first | omega | (simp only [g_l0]; omega)) (by first | omega | (simp only [g_l0]; omega)) (by first | omega | (simp only [g_l0]; omega)) hY (lv_sub hl [0, 1, 2, 3, 4, 5, 6, 7, 8, 9, 10, 11, 12, 13, 14, 15, 16, 17, 18, 19, 20, 21, 22, 23, 24, 25] rfl) h
    ·
      rw [if_neg z_1] at h
      have qz_1 := g_ltf z_1; (try simp only [g_l0, g_l3, g_l6] at qz_1)
      refine lv_iload hx hb dL_takes_300 (lv_at hl 25 rfl) ?_
      refine lv_if_lt (tgt := 357) hx hb dL_takes_302 (by decide) (fun z_2 => ?_) (fun z_2 => ?_)
      ·
        rw [if_pos z_2] at h
        have qz_2 := g_ltt z_2; (try simp only [g_l0, g_l3, g_l6] at qz_2)
        exact wL_takes_357 hx hb hr hml hown hg hlocks hK hA hL hL2 ha hrec3 (by first | omega | (simp only [g_l0]; omega)) (by first | omega | (simp only [g_l0]; omega)) (by first | omega | (simp only [g_l0]; omega)) (by first | omega | (simp only [g_l0]; omega)) hY (lv_sub hl [0, 1, 2, 3, 4, 5, 6, 7, 8, 9, 10, 11, 12, 13, 14, 15, 16, 17, 18, 19, 20, 21, 22, 23, 24, 25] rfl) h
      ·
        rw [if_neg z_2] at h
        have qz_2 := g_ltf z_2; (try simp only [g_l0, g_l3, g_l6] at qz_2)
        refine lv_iload hx hb dL_takes_305 (lv_at hl 22 rfl) ?_
        refine lv_if_ne (tgt := 357) hx hb dL_takes_307 (by decide) (fun z_3 => ?_) (fun z_3 => ?_)
        ·
          rw [if_neg z_3] at h
          exact wL_takes_357 hx hb hr hml hown hg hlocks hK hA hL hL2 ha hrec3 (by first | omega | (simp only [g_l0]; omega)) (by first | omega | (simp only [g_l0]; omega)) (by first | omega | (simp only [g_l0]; omega)) (by first | omega | (simp only [g_l0]; omega)) hY (lv_sub hl [0, 1, 2, 3, 4, 5, 6, 7, 8, 9, 10, 11, 12, 13, 14, 15, 16, 17, 18, 19, 20, 21, 22, 23, 24, 25] rfl) h
        ·
          rw [if_pos z_3] at h
          refine lv_aload_n hx hb dL_takes_310 rfl (lv_at hl 0 rfl) ?_
          refine lv_aload_n hx hb dL_takes_311 rfl (lv_at hl 1 rfl) ?_
          refine lv_aload hx hb dL_takes_312 (lv_at hl 6 rfl) ?_
          refine lv_aload hx hb dL_takes_314 (lv_at hl 10 rfl) ?_
          refine lv_aload hx hb dL_takes_316 (lv_at hl 11 rfl) ?_
          refine lv_aload hx hb dL_takes_318 (lv_at hl 18 rfl) ?_
          refine lv_iload hx hb dL_takes_320 (lv_at hl 26 rfl) ?_
          obtain ⟨z_4, h⟩ := g_guard h
          refine G_iald (j := x30.toNatClampNeg) hx hb hK hY (by simp) gk_179 (by rw [gl_179]; exact z_4) rfl dL_takes_322 ?_
          obtain ⟨r_5, e_6, h⟩ := g_bind h
          refine G_ai hY hA (va_runS (As := [.ref (ad 161), .ref (ad 162), .ref (ad 168), .ref (ad 172), .ref (ad 173), .int (σ.1 179 x30.toNatClampNeg)]) (rest := []) ⟨hx, hb, hml, hown, hg⟩ (kL_required l D y aS H.size (L ++ [179, 180, 181]) (fun k hk => List.mem_append_left _ (hL k hk)) ad N σ (σ.1 179 x30.toNatClampNeg) _ e_6) (va_cwS 6 hg ggS_RL_53_L_required rfl rfl rfl (by decide +kernel) ⟨Nat.le_of_ble_eq_true rfl, Nat.le_of_ble_eq_true rfl⟩) (G_pS hK hY) rfl rfl hl.1 rfl (lv_room (Nat.le_of_ble_eq_true rfl)) dL_takes_323 ⟨(by dsimp only; omega), (by dsimp only; omega)⟩) ?_
          clear hY
          rintro _ H locs rfl hY
          refine lv_iload hx hb dL_takes_326 (lv_at hl 25 rfl) ?_
          refine lv_ishr hx hb dL_takes_328 ?_
          refine lv_iconst (v := 1) hx hb dL_takes_329 (by decide) ?_
          refine lv_iand hx hb dL_takes_330 ?_
          refine lv_iconst (v := 1) hx hb dL_takes_331 (by decide) ?_
          refine lv_icmp_ne (tgt := 347) hx hb dL_takes_332 (by decide) (fun z_7 => ?_) (fun z_7 => ?_)
          ·
            rw [if_neg z_7] at h
            refine lv_iload hx hb dL_takes_347 (lv_at hl 24 rfl) ?_
            exact wL_takes_349 hx hb hr hml hown hg hlocks hK hA hL hL2 ha hrec3 hrec295 (by first | omega | (simp only [g_l0]; omega)) (by first | omega | (simp only [g_l0]; omega)) (by first | omega | (simp only [g_l0]; omega)) (by first | omega | (simp only [g_l0]; omega)) hY (lv_sub hl [0, 1, 2, 3, 4, 5, 6, 7, 8, 9, 10, 11, 12, 13, 14, 15, 16, 17, 18, 19, 20, 21, 22, 23, 25, 26] rfl) h
          ·
            rw [if_pos z_7] at h
            refine lv_aload_n hx hb dL_takes_335 rfl (lv_at hl 1 rfl) ?_
            refine lv_aload hx hb dL_takes_336 (lv_at hl 18 rfl) ?_
            refine lv_iload hx hb dL_takes_338 (lv_at hl 26 rfl) ?_
            obtain ⟨z_8, h⟩ := g_guard h
            refine G_iald (j := x30.toNatClampNeg) hx hb hK hY (by simp) gk_179 (by rw [gl_179]; exact z_8) rfl dL_takes_340 ?_
            obtain ⟨z_9, h⟩ := g_guard h
            refine G_iald (j := (σ.1 179 x30.toNatClampNeg).toNatClampNeg) hx hb hK hY (List.mem_append_left _ (hL 162 (by decide))) gk_162 (by rw [gl_162]; exact z_9) rfl dL_takes_341 ?_
            refine lv_iconst (v := 3) hx hb dL_takes_342 (by decide) ?_
            refine lv_irem hx hb dL_takes_343 (by decide +kernel) ?_
            refine lv_goto (tgt := 349) hx hb dL_takes_344 (by decide) ?_
            exact wL_takes_349 hx hb hr hml hown hg hlocks hK hA hL hL2 ha hrec3 hrec295 (by first | omega | (simp only [g_l0]; omega)) (by first | omega | (simp only [g_l0]; omega)) (by first | omega | (simp only [g_l0]; omega)) (by first | omega | (simp only [g_l0]; omega)) hY (lv_sub hl [0, 1, 2, 3, 4, 5, 6, 7, 8, 9, 10, 11, 12, 13, 14, 15, 16, 17, 18, 19, 20, 21, 22, 23, 25, 26] rfl) h
def fL_takes_287 (N : Nat) (rec3 : (gS × Int32) → Option gS) (σ : gS) (x9 : Int64) (x18 : Int32) (x22 : Int32) (x23 : Int32) (x25 : Int32) (x26 : Int64) (x28 : Int32) (xs0 : Int32) : Option gS := lp (fL_takes_295 N rec3 x9 x18 x22 x23 x25 x26 xs0) N (σ, x28, (x23 - 1))
set_option maxRecDepth 100000 in
set_option maxHeartbeats 4000000 in
theorem wL_takes_287 {rec3 : (gS × Int32) → Option gS} {σ : gS} {x9 : Int64} {x18 : Int32} {x22 : Int32} {x23 : Int32} {x25 : Int32} {x26 : Int64} {x28 : Int32} {xs0 : Int32} {ad : Nat → Nat} {kc ns : Nat} (hx : p.tables.exec = Jvm.exec) (hb : c.code = cL_takes) (hr : meth.sig.returnType = none) (hml : c.maxLocals = 33) (hown : s.vm.findClass RL = some m.cls) (hg : ∀ w ∈ wsL_law, w.before args s = true) (hlocks : meth.locks = false) (hK : gK D y aS s) (hA : ∀ q, s.heap.size ≤ q → A q) (hL : ∀ k, k < 179 → k ∈ L) (hL2 : ∀ k ∈ L, k < 179) (ha : ∀ k, k < 179 → ad k = ad0 k) (hrec3 : ∀ {ad : Nat → Nat} {kc ns : Nat} (ha : ∀ k, k < 179 → ad k = ad0 k) {σ9 : gS} {x18n9 : Int32} (hkc : kc ≤ 3 * x18n9.toInt.toNat) (hns : ns ≤ 40 * x18n9.toInt.toNat) (hi0 : 0 ≤ x18n9.toInt) (hi6 : x18n9.toInt ≤ 3) (H : Heap) (locs : List Loc) (ls : Array Slot), gY D y A s L ad σ9 H locs → lv_has ls 33 [(0, .ref (ad 161)), (1, .ref (ad 162)), (2, .ref (ad 163)), (3, .ref (ad 164)), (4, .ref (ad 165)), (5, .ref (ad 166)), (6, .ref (ad 168)), (7, .ref (ad 169)), (8, .ref (ad 170)), (9, .long x9), (11, .ref (ad 172)), (12, .ref (ad 173)), (13, .ref (ad 174)), (14, .ref (ad 175)), (15, .ref (ad 176)), (16, .ref (ad 177)), (17, .ref (ad 178)), (18, .int x18n9)] → rec3 (σ9, x18n9) = some res → W p l e ({ frames := 5, cells := 9, slots := 120, locals := 141 } : Room) s m args below meth c H locs kc ns (MQ below (va_Qv (fun (_ : Unit) => True) (fun _ => gO D A (GW L y ad0 res)) A) args s 9 120 A) (F0 m 3 ls [])) (hkc : kc ≤ 3 * (x18.toInt.toNat + 1)) (hns : ns ≤ 40 * (x18.toInt.toNat + 1)) (hi0 : 0 ≤ x18.toInt) (hi6 : x18.toInt < 3) {H : Heap} {locs : List Loc} {ls : Array Slot} (hY : gY D y A s (L ++ [179, 180, 181]) ad σ H locs) (hl : lv_has ls 33 [(0, .ref (ad 161)), (1, .ref (ad 162)), (2, .ref (ad 163)), (3, .ref (ad 164)), (4, .ref (ad 165)), (5, .ref (ad 166)), (6, .ref (ad 168)), (7, .ref (ad 169)), (8, .ref (ad 170)), (9, .long x9), (11, .ref (ad 172)), (12, .ref (ad 173)), (13, .ref (ad 174)), (14, .ref (ad 175)), (15, .ref (ad 176)), (16, .ref (ad 177)), (17, .ref (ad 178)), (18, .int x18), (19, .ref (ad 179)), (20, .ref (ad 180)), (22, .int x22), (23, .int x23), (25, .int x25), (26, .long x26), (28, .int x28)]) (h : fL_takes_287 N rec3 σ x9 x18 x22 x23 x25 x26 x28 xs0 = some res) : W p l e ({ frames := 5, cells := 9, slots := 120, locals := 141 } : Room) s m args below meth c H locs kc ns (MQ below (va_Qv (fun (_ : Unit) => True) (fun _ => gO D A (GW L y ad0 res)) A) args s 9 120 A) (F0 m 287 ls [.int xs0]) := by
  unfold fL_takes_287 at h
  refine lv_istore (lv' := [(29, .int xs0), (0, .ref (ad 161)), (1, .ref (ad 162)), (2, .ref (ad 163)), (3, .ref (ad 164)), (4, .ref (ad 165)), (5, .ref (ad 166)), (6, .ref (ad 168)), (7, .ref (ad 169)), (8, .ref (ad 170)), (9, .long x9), (11, .ref (ad 172)), (12, .ref (ad 173)), (13, .ref (ad 174)), (14, .ref (ad 175)), (15, .ref (ad 176)), (16, .ref (ad 177)), (17, .ref (ad 178)), (18, .int x18), (19, .ref (ad 179)), (20, .ref (ad 180)), (22, .int x22), (23, .int x23), (25, .int x25), (26, .long x26), (28, .int x28)]) hx hb dL_takes_287 hl (by decide) rfl ?_
  clear hl
  intro ls hl
  refine lv_iload hx hb dL_takes_289 (lv_at hl 22 rfl) ?_
  refine lv_iconst (v := 1) hx hb dL_takes_291 (by decide) ?_
  refine lv_isub hx hb dL_takes_292 ?_
  refine lv_istore (lv' := [(30, .int (x23 - 1)), (29, .int xs0), (0, .ref (ad 161)), (1, .ref (ad 162)), (2, .ref (ad 163)), (3, .ref (ad 164)), (4, .ref (ad 165)), (5, .ref (ad 166)), (6, .ref (ad 168)), (7, .ref (ad 169)), (8, .ref (ad 170)), (9, .long x9), (11, .ref (ad 172)), (12, .ref (ad 173)), (13, .ref (ad 174)), (14, .ref (ad 175)), (15, .ref (ad 176)), (16, .ref (ad 177)), (17, .ref (ad 178)), (18, .int x18), (19, .ref (ad 179)), (20, .ref (ad 180)), (22, .int x22), (23, .int x23), (25, .int x25), (26, .long x26), (28, .int x28)]) hx hb dL_takes_293 hl (by decide) rfl ?_
  clear hl
  intro ls hl
  exact wL_takes_295 hx hb hr hml hown hg hlocks hK hA hL hL2 hrec3 N ha (by first | omega | (simp only [g_l0]; omega)) (by first | omega | (simp only [g_l0]; omega)) (by first | omega | (simp only [g_l0]; omega)) (by first | omega | (simp only [g_l0]; omega)) _ _ _ hY (lv_sub hl [2, 3, 4, 5, 6, 7, 8, 9, 10, 11, 12, 13, 14, 15, 16, 17, 18, 19, 20, 21, 22, 23, 24, 25, 26, 1, 0] rfl) h
def fL_takes_260 (N : Nat) (rec3 : (gS × Int32) → Option gS) (σ : gS) (x9 : Int64) (x18 : Int32) (x22 : Int32) (x23 : Int32) (x24 : Int32) (x25 : Int32) (x26 : Int64) (x28 : Int32) : Option gS := if x23 ≤ 0 then (fL_takes_287 N rec3 σ x9 x18 x22 x23 x25 x26 x28 (-1)) else ((fL_free N σ x24 x26).bind fun r_2 => fL_takes_287 N rec3 σ x9 x18 x22 x23 x25 x26 x28 r_2)
set_option maxRecDepth 100000 in
set_option maxHeartbeats 4000000 in
theorem wL_takes_260 {rec3 : (gS × Int32) → Option gS} {σ : gS} {x9 : Int64} {x18 : Int32} {x22 : Int32} {x23 : Int32} {x24 : Int32} {x25 : Int32} {x26 : Int64} {x28 : Int32} {ad : Nat → Nat} {kc ns : Nat} (hx : p.tables.exec = Jvm.exec) (hb : c.code = cL_takes) (hr : meth.sig.returnType = none) (hml : c.maxLocals = 33) (hown : s.vm.findClass RL = some m.cls) (hg : ∀ w ∈ wsL_law, w.before args s = true) (hlocks : meth.locks = false) (hK : gK D y aS s) (hA : ∀ q, s.heap.size ≤ q → A q) (hL : ∀ k, k < 179 → k ∈ L) (hL2 : ∀ k ∈ L, k < 179) (ha : ∀ k, k < 179 → ad k = ad0 k) (hrec3 : ∀ {ad : Nat → Nat} {kc ns : Nat} (ha : ∀ k, k < 179 → ad k = ad0 k) {σ9 : gS} {x18n9 : Int32} (hkc : kc ≤ 3 * x18n9.toInt.toNat) (hns : ns ≤ 40 * x18n9.toInt.toNat) (hi0 : 0 ≤ x18n9.toInt) (hi6 : x18n9.toInt ≤ 3) (H : Heap) (locs : List Loc) (ls : Array Slot), gY D y A s L ad σ9 H locs → lv_has ls 33 [(0, .ref (ad 161)), (1, .ref (ad 162)), (2, .ref (ad 163)), (3, .ref (ad 164)), (4, .ref (ad 165)), (5, .ref (ad 166)), (6, .ref (ad 168)), (7, .ref (ad 169)), (8, .ref (ad 170)), (9, .long x9), (11, .ref (ad 172)), (12, .ref (ad 173)), (13, .ref (ad 174)), (14, .ref (ad 175)), (15, .ref (ad 176)), (16, .ref (ad 177)), (17, .ref (ad 178)), (18, .int x18n9)] → rec3 (σ9, x18n9) = some res → W p l e ({ frames := 5, cells := 9, slots := 120, locals := 141 } : Room) s m args below meth c H locs kc ns (MQ below (va_Qv (fun (_ : Unit) => True) (fun _ => gO D A (GW L y ad0 res)) A) args s 9 120 A) (F0 m 3 ls [])) (hkc : kc ≤ 3 * (x18.toInt.toNat + 1)) (hns : ns ≤ 40 * (x18.toInt.toNat + 1)) (hi0 : 0 ≤ x18.toInt) (hi6 : x18.toInt < 3) {H : Heap} {locs : List Loc} {ls : Array Slot} (hY : gY D y A s (L ++ [179, 180, 181]) ad σ H locs) (hl : lv_has ls 33 [(0, .ref (ad 161)), (1, .ref (ad 162)), (2, .ref (ad 163)), (3, .ref (ad 164)), (4, .ref (ad 165)), (5, .ref (ad 166)), (6, .ref (ad 168)), (7, .ref (ad 169)), (8, .ref (ad 170)), (9, .long x9), (11, .ref (ad 172)), (12, .ref (ad 173)), (13, .ref (ad 174)), (14, .ref (ad 175)), (15, .ref (ad 176)), (16, .ref (ad 177)), (17, .ref (ad 178)), (18, .int x18), (19, .ref (ad 179)), (20, .ref (ad 180)), (22, .int x22), (23, .int x23), (24, .int x24), (25, .int x25), (26, .long x26), (28, .int x28)]) (h : fL_takes_260 N rec3 σ x9 x18 x22 x23 x24 x25 x26 x28 = some res) : W p l e ({ frames := 5, cells := 9, slots := 120, locals := 141 } : Room) s m args below meth c H locs kc ns (MQ below (va_Qv (fun (_ : Unit) => True) (fun _ => gO D A (GW L y ad0 res)) A) args s 9 120 A) (F0 m 260 ls []) := by
  unfold fL_takes_260 at h
  refine lv_iload hx hb dL_takes_260 (lv_at hl 21 rfl) ?_
  refine lv_if_le (tgt := 286) hx hb dL_takes_262 (by decide) (fun z_1 => ?_) (fun z_1 => ?_)
  ·
    rw [if_pos z_1] at h
    have qz_1 := g_let z_1; (try simp only [g_l0, g_l3, g_l6] at qz_1)
    refine lv_iconst (v := (-1)) hx hb dL_takes_286 (by decide) ?_
    exact wL_takes_287 hx hb hr hml hown hg hlocks hK hA hL hL2 ha hrec3 (by first | omega | (simp only [g_l0]; omega)) (by first | omega | (simp only [g_l0]; omega)) (by first | omega | (simp only [g_l0]; omega)) (by first | omega | (simp only [g_l0]; omega)) hY (lv_sub hl [0, 1, 2, 3, 4, 5, 6, 7, 8, 9, 10, 11, 12, 13, 14, 15, 16, 17, 18, 19, 20, 21, 23, 24, 25] rfl) h
  ·
    rw [if_neg z_1] at h
    have qz_1 := g_lef z_1; (try simp only [g_l0, g_l3, g_l6] at qz_1)
    refine lv_aload_n hx hb dL_takes_265 rfl (lv_at hl 0 rfl) ?_
    refine lv_aload hx hb dL_takes_266 (lv_at hl 10 rfl) ?_
    refine lv_aload hx hb dL_takes_268 (lv_at hl 12 rfl) ?_
    refine lv_aload hx hb dL_takes_270 (lv_at hl 13 rfl) ?_
    refine lv_aload hx hb dL_takes_272 (lv_at hl 14 rfl) ?_
    refine lv_aload hx hb dL_takes_274 (lv_at hl 15 rfl) ?_
    refine lv_iload hx hb dL_takes_276 (lv_at hl 22 rfl) ?_
    refine lv_lload hx hb dL_takes_278 (lv_at hl 24 rfl) ?_
    obtain ⟨r_2, e_3, h⟩ := g_bind h
    refine G_ai hY hA (va_runS (As := [.ref (ad 161), .ref (ad 172), .ref (ad 174), .ref (ad 175), .ref (ad 176), .ref (ad 177), .int x24, .long x26]) (rest := []) ⟨hx, hb, hml, hown, hg⟩ (kL_free l D y aS H.size (L ++ [179, 180, 181]) (fun k hk => List.mem_append_left _ (hL k hk)) ad N σ x24 x26 _ e_3) (va_cwS 8 hg ggS_RL_134_L_free rfl rfl rfl (by decide +kernel) ⟨Nat.le_of_ble_eq_true rfl, Nat.le_of_ble_eq_true rfl⟩) (G_pS hK hY) rfl rfl hl.1 rfl (lv_room (Nat.le_of_ble_eq_true rfl)) dL_takes_280 ⟨(by dsimp only; omega), (by dsimp only; omega)⟩) ?_
    clear hY
    rintro _ H locs rfl hY
    refine lv_goto (tgt := 287) hx hb dL_takes_283 (by decide) ?_
    exact wL_takes_287 hx hb hr hml hown hg hlocks hK hA hL hL2 ha hrec3 (by first | omega | (simp only [g_l0]; omega)) (by first | omega | (simp only [g_l0]; omega)) (by first | omega | (simp only [g_l0]; omega)) (by first | omega | (simp only [g_l0]; omega)) hY (lv_sub hl [0, 1, 2, 3, 4, 5, 6, 7, 8, 9, 10, 11, 12, 13, 14, 15, 16, 17, 18, 19, 20, 21, 23, 24, 25] rfl) h
def fL_takes_253 (N : Nat) (rec3 : (gS × Int32) → Option gS) (σ : gS) (x9 : Int64) (x18 : Int32) (x22 : Int32) (x23 : Int32) (x24 : Int32) (x25 : Int32) (x28 : Int32) (xs0 : Int32) : Option gS := (fL_beginning N σ xs0 x9).bind fun r_1 => fL_takes_260 N rec3 σ x9 x18 x22 x23 x24 x25 r_1 x28
set_option maxRecDepth 100000 in
set_option maxHeartbeats 4000000 in
theorem wL_takes_253 {rec3 : (gS × Int32) → Option gS} {σ : gS} {x9 : Int64} {x18 : Int32} {x22 : Int32} {x23 : Int32} {x24 : Int32} {x25 : Int32} {x28 : Int32} {xs0 : Int32} {ad : Nat → Nat} {kc ns : Nat} (hx : p.tables.exec = Jvm.exec) (hb : c.code = cL_takes) (hr : meth.sig.returnType = none) (hml : c.maxLocals = 33) (hown : s.vm.findClass RL = some m.cls) (hg : ∀ w ∈ wsL_law, w.before args s = true) (hlocks : meth.locks = false) (hK : gK D y aS s) (hA : ∀ q, s.heap.size ≤ q → A q) (hL : ∀ k, k < 179 → k ∈ L) (hL2 : ∀ k ∈ L, k < 179) (ha : ∀ k, k < 179 → ad k = ad0 k) (hrec3 : ∀ {ad : Nat → Nat} {kc ns : Nat} (ha : ∀ k, k < 179 → ad k = ad0 k) {σ9 : gS} {x18n9 : Int32} (hkc : kc ≤ 3 * x18n9.toInt.toNat) (hns : ns ≤ 40 * x18n9.toInt.toNat) (hi0 : 0 ≤ x18n9.toInt) (hi6 : x18n9.toInt ≤ 3) (H : Heap) (locs : List Loc) (ls : Array Slot), gY D y A s L ad σ9 H locs → lv_has ls 33 [(0, .ref (ad 161)), (1, .ref (ad 162)), (2, .ref (ad 163)), (3, .ref (ad 164)), (4, .ref (ad 165)), (5, .ref (ad 166)), (6, .ref (ad 168)), (7, .ref (ad 169)), (8, .ref (ad 170)), (9, .long x9), (11, .ref (ad 172)), (12, .ref (ad 173)), (13, .ref (ad 174)), (14, .ref (ad 175)), (15, .ref (ad 176)), (16, .ref (ad 177)), (17, .ref (ad 178)), (18, .int x18n9)] → rec3 (σ9, x18n9) = some res → W p l e ({ frames := 5, cells := 9, slots := 120, locals := 141 } : Room) s m args below meth c H locs kc ns (MQ below (va_Qv (fun (_ : Unit) => True) (fun _ => gO D A (GW L y ad0 res)) A) args s 9 120 A) (F0 m 3 ls [])) (hkc : kc ≤ 3 * (x18.toInt.toNat + 1)) (hns : ns ≤ 40 * (x18.toInt.toNat + 1)) (hi0 : 0 ≤ x18.toInt) (hi6 : x18.toInt < 3) {H : Heap} {locs : List Loc} {ls : Array Slot} (hY : gY D y A s (L ++ [179, 180, 181]) ad σ H locs) (hl : lv_has ls 33 [(0, .ref (ad 161)), (1, .ref (ad 162)), (2, .ref (ad 163)), (3, .ref (ad 164)), (4, .ref (ad 165)), (5, .ref (ad 166)), (6, .ref (ad 168)), (7, .ref (ad 169)), (8, .ref (ad 170)), (9, .long x9), (11, .ref (ad 172)), (12, .ref (ad 173)), (13, .ref (ad 174)), (14, .ref (ad 175)), (15, .ref (ad 176)), (16, .ref (ad 177)), (17, .ref (ad 178)), (18, .int x18), (19, .ref (ad 179)), (20, .ref (ad 180)), (22, .int x22), (23, .int x23), (24, .int x24), (25, .int x25), (28, .int x28)]) (h : fL_takes_253 N rec3 σ x9 x18 x22 x23 x24 x25 x28 xs0 = some res) : W p l e ({ frames := 5, cells := 9, slots := 120, locals := 141 } : Room) s m args below meth c H locs kc ns (MQ below (va_Qv (fun (_ : Unit) => True) (fun _ => gO D A (GW L y ad0 res)) A) args s 9 120 A) (F0 m 253 ls [.int xs0, .ref (ad 179), .ref (ad 170), .ref (ad 168)]) := by
  unfold fL_takes_253 at h
  refine lv_lload hx hb dL_takes_253 (lv_at hl 9 rfl) ?_
  obtain ⟨r_1, e_2, h⟩ := g_bind h
  refine G_al hY hA (va_runS (As := [.ref (ad 168), .ref (ad 170), .ref (ad 179), .int xs0, .long x9]) (rest := []) ⟨hx, hb, hml, hown, hg⟩ (kL_beginning l D y aS H.size (L ++ [179, 180, 181]) (fun k hk => List.mem_append_left _ (hL k hk)) ⟨by simp, by simp, by simp⟩ ad N σ xs0 x9 _ e_2) (va_cwS 5 hg ggS_RL_60_L_beginning rfl rfl rfl (by decide +kernel) ⟨Nat.le_of_ble_eq_true rfl, Nat.le_of_ble_eq_true rfl⟩) (G_pS hK hY) rfl rfl hl.1 rfl (lv_room (Nat.le_of_ble_eq_true rfl)) dL_takes_255 ⟨(by dsimp only; omega), (by dsimp only; omega)⟩) ?_
  clear hY
  rintro _ H locs rfl hY
  refine lv_lstore (lv' := [(26, .long r_1), (0, .ref (ad 161)), (1, .ref (ad 162)), (2, .ref (ad 163)), (3, .ref (ad 164)), (4, .ref (ad 165)), (5, .ref (ad 166)), (6, .ref (ad 168)), (7, .ref (ad 169)), (8, .ref (ad 170)), (9, .long x9), (11, .ref (ad 172)), (12, .ref (ad 173)), (13, .ref (ad 174)), (14, .ref (ad 175)), (15, .ref (ad 176)), (16, .ref (ad 177)), (17, .ref (ad 178)), (18, .int x18), (19, .ref (ad 179)), (20, .ref (ad 180)), (22, .int x22), (23, .int x23), (24, .int x24), (25, .int x25), (28, .int x28)]) hx hb dL_takes_258 hl (by decide) rfl ?_
  clear hl
  intro ls hl
  exact wL_takes_260 hx hb hr hml hown hg hlocks hK hA hL hL2 ha hrec3 (by first | omega | (simp only [g_l0]; omega)) (by first | omega | (simp only [g_l0]; omega)) (by first | omega | (simp only [g_l0]; omega)) (by first | omega | (simp only [g_l0]; omega)) hY (lv_sub hl [1, 2, 3, 4, 5, 6, 7, 8, 9, 10, 11, 12, 13, 14, 15, 16, 17, 18, 19, 20, 21, 22, 23, 24, 0, 25] rfl) h
def fL_takes_227 (N : Nat) (rec3 : (gS × Int32) → Option gS) (σ : gS) (x9 : Int64) (x18 : Int32) (x22 : Int32) (x23 : Int32) (x25 : Int32) (x28 : Int32) (xs0 : Int32) : Option gS := if (σ.1 181 2) < 0 then (fL_takes_253 N rec3 σ x9 x18 x22 x23 xs0 x25 x28 (σ.1 181 0)) else (fL_takes_253 N rec3 σ x9 x18 x22 x23 xs0 x25 x28 (σ.1 181 2))
set_option maxRecDepth 100000 in
set_option maxHeartbeats 4000000 in
theorem wL_takes_227 {rec3 : (gS × Int32) → Option gS} {σ : gS} {x9 : Int64} {x18 : Int32} {x22 : Int32} {x23 : Int32} {x25 : Int32} {x28 : Int32} {xs0 : Int32} {ad : Nat → Nat} {kc ns : Nat} (hx : p.tables.exec = Jvm.exec) (hb : c.code = cL_takes) (hr : meth.sig.returnType = none) (hml : c.maxLocals = 33) (hown : s.vm.findClass RL = some m.cls) (hg : ∀ w ∈ wsL_law, w.before args s = true) (hlocks : meth.locks = false) (hK : gK D y aS s) (hA : ∀ q, s.heap.size ≤ q → A q) (hL : ∀ k, k < 179 → k ∈ L) (hL2 : ∀ k ∈ L, k < 179) (ha : ∀ k, k < 179 → ad k = ad0 k) (hrec3 : ∀ {ad : Nat → Nat} {kc ns : Nat} (ha : ∀ k, k < 179 → ad k = ad0 k) {σ9 : gS} {x18n9 : Int32} (hkc : kc ≤ 3 * x18n9.toInt.toNat) (hns : ns ≤ 40 * x18n9.toInt.toNat) (hi0 : 0 ≤ x18n9.toInt) (hi6 : x18n9.toInt ≤ 3) (H : Heap) (locs : List Loc) (ls : Array Slot), gY D y A s L ad σ9 H locs → lv_has ls 33 [(0, .ref (ad 161)), (1, .ref (ad 162)), (2, .ref (ad 163)), (3, .ref (ad 164)), (4, .ref (ad 165)), (5, .ref (ad 166)), (6, .ref (ad 168)), (7, .ref (ad 169)), (8, .ref (ad 170)), (9, .long x9), (11, .ref (ad 172)), (12, .ref (ad 173)), (13, .ref (ad 174)), (14, .ref (ad 175)), (15, .ref (ad 176)), (16, .ref (ad 177)), (17, .ref (ad 178)), (18, .int x18n9)] → rec3 (σ9, x18n9) = some res → W p l e ({ frames := 5, cells := 9, slots := 120, locals := 141 } : Room) s m args below meth c H locs kc ns (MQ below (va_Qv (fun (_ : Unit) => True) (fun _ => gO D A (GW L y ad0 res)) A) args s 9 120 A) (F0 m 3 ls [])) (hkc : kc ≤ 3 * (x18.toInt.toNat + 1)) (hns : ns ≤ 40 * (x18.toInt.toNat + 1)) (hi0 : 0 ≤ x18.toInt) (hi6 : x18.toInt < 3) {H : Heap} {locs : List Loc} {ls : Array Slot} (hY : gY D y A s (L ++ [179, 180, 181]) ad σ H locs) (hl : lv_has ls 33 [(0, .ref (ad 161)), (1, .ref (ad 162)), (2, .ref (ad 163)), (3, .ref (ad 164)), (4, .ref (ad 165)), (5, .ref (ad 166)), (6, .ref (ad 168)), (7, .ref (ad 169)), (8, .ref (ad 170)), (9, .long x9), (11, .ref (ad 172)), (12, .ref (ad 173)), (13, .ref (ad 174)), (14, .ref (ad 175)), (15, .ref (ad 176)), (16, .ref (ad 177)), (17, .ref (ad 178)), (18, .int x18), (19, .ref (ad 179)), (20, .ref (ad 180)), (21, .ref (ad 181)), (22, .int x22), (23, .int x23), (25, .int x25), (28, .int x28)]) (h : fL_takes_227 N rec3 σ x9 x18 x22 x23 x25 x28 xs0 = some res) : W p l e ({ frames := 5, cells := 9, slots := 120, locals := 141 } : Room) s m args below meth c H locs kc ns (MQ below (va_Qv (fun (_ : Unit) => True) (fun _ => gO D A (GW L y ad0 res)) A) args s 9 120 A) (F0 m 227 ls [.int xs0]) := by
  unfold fL_takes_227 at h
  refine lv_istore (lv' := [(24, .int xs0), (0, .ref (ad 161)), (1, .ref (ad 162)), (2, .ref (ad 163)), (3, .ref (ad 164)), (4, .ref (ad 165)), (5, .ref (ad 166)), (6, .ref (ad 168)), (7, .ref (ad 169)), (8, .ref (ad 170)), (9, .long x9), (11, .ref (ad 172)), (12, .ref (ad 173)), (13, .ref (ad 174)), (14, .ref (ad 175)), (15, .ref (ad 176)), (16, .ref (ad 177)), (17, .ref (ad 178)), (18, .int x18), (19, .ref (ad 179)), (20, .ref (ad 180)), (21, .ref (ad 181)), (22, .int x22), (23, .int x23), (25, .int x25), (28, .int x28)]) hx hb dL_takes_227 hl (by decide) rfl ?_
  clear hl
  intro ls hl
  refine lv_aload hx hb dL_takes_229 (lv_at hl 7 rfl) ?_
  refine lv_aload hx hb dL_takes_231 (lv_at hl 9 rfl) ?_
  refine lv_aload hx hb dL_takes_233 (lv_at hl 19 rfl) ?_
  refine lv_aload hx hb dL_takes_235 (lv_at hl 21 rfl) ?_
  refine lv_iconst (v := 2) hx hb dL_takes_237 (by decide) ?_
  refine G_iald (j := 2) hx hb hK hY (by simp) gk_181 (by rw [gl_181]; decide +kernel) (by decide +kernel) dL_takes_238 ?_
  refine lv_if_lt (tgt := 249) hx hb dL_takes_239 (by decide) (fun z_1 => ?_) (fun z_1 => ?_)
  ·
    rw [if_pos z_1] at h
    have qz_1 := g_ltt z_1; (try simp only [g_l0, g_l3, g_l6] at qz_1)
    refine lv_aload hx hb dL_takes_249 (lv_at hl 21 rfl) ?_
    refine lv_iconst (v := 0) hx hb dL_takes_251 (by decide) ?_
    refine G_iald (j := 0) hx hb hK hY (by simp) gk_181 (by rw [gl_181]; decide +kernel) (by decide +kernel) dL_takes_252 ?_
    exact wL_takes_253 hx hb hr hml hown hg hlocks hK hA hL hL2 ha hrec3 (by first | omega | (simp only [g_l0]; omega)) (by first | omega | (simp only [g_l0]; omega)) (by first | omega | (simp only [g_l0]; omega)) (by first | omega | (simp only [g_l0]; omega)) hY (lv_sub hl [1, 2, 3, 4, 5, 6, 7, 8, 9, 10, 11, 12, 13, 14, 15, 16, 17, 18, 19, 20, 22, 23, 0, 24, 25] rfl) h
  ·
    rw [if_neg z_1] at h
    have qz_1 := g_ltf z_1; (try simp only [g_l0, g_l3, g_l6] at qz_1)
    refine lv_aload hx hb dL_takes_242 (lv_at hl 21 rfl) ?_
    refine lv_iconst (v := 2) hx hb dL_takes_244 (by decide) ?_
    refine G_iald (j := 2) hx hb hK hY (by simp) gk_181 (by rw [gl_181]; decide +kernel) (by decide +kernel) dL_takes_245 ?_
    refine lv_goto (tgt := 253) hx hb dL_takes_246 (by decide) ?_
    exact wL_takes_253 hx hb hr hml hown hg hlocks hK hA hL hL2 ha hrec3 (by first | omega | (simp only [g_l0]; omega)) (by first | omega | (simp only [g_l0]; omega)) (by first | omega | (simp only [g_l0]; omega)) (by first | omega | (simp only [g_l0]; omega)) hY (lv_sub hl [1, 2, 3, 4, 5, 6, 7, 8, 9, 10, 11, 12, 13, 14, 15, 16, 17, 18, 19, 20, 22, 23, 0, 24, 25] rfl) h
def fL_takes_132 (N : Nat) (rec3 : (gS × Int32) → Option gS) (σ : gS) (x9 : Int64) (x18 : Int32) (x22 : Int32) (x23 : Int32) (x24 : Int32) (xs0 : Int32) : Option gS := if xs0 = 0 then (fL_takes_260 N rec3 σ x9 x18 x22 x23 x24 xs0 (σ.2.1 180 0) 3) else ((fL_bisects N σ x23 x9).bind fun r_2 => if (r_2.1 181 2) < 0 then ((fL_failed N r_2 x9 (3 : Int32)).bind fun r_5 => fL_takes_227 N rec3 r_2 x9 x18 x22 x23 xs0 3 r_5) else ((fL_requiredOf N r_2 (0 : Int32) (r_2.1 181 2)).bind fun r_7 => fL_takes_227 N rec3 r_2 x9 x18 x22 x23 xs0 3 r_7))
set_option maxRecDepth 100000 in
set_option maxHeartbeats 4000000 in
theorem wL_takes_132 {rec3 : (gS × Int32) → Option gS} {σ : gS} {x9 : Int64} {x18 : Int32} {x22 : Int32} {x23 : Int32} {x24 : Int32} {xs0 : Int32} {ad : Nat → Nat} {kc ns : Nat} (hx : p.tables.exec = Jvm.exec) (hb : c.code = cL_takes) (hr : meth.sig.returnType = none) (hml : c.maxLocals = 33) (hown : s.vm.findClass RL = some m.cls) (hg : ∀ w ∈ wsL_law, w.before args s = true) (hlocks : meth.locks = false) (hK : gK D y aS s) (hA : ∀ q, s.heap.size ≤ q → A q) (hL : ∀ k, k < 179 → k ∈ L) (hL2 : ∀ k ∈ L, k < 179) (ha : ∀ k, k < 179 → ad k = ad0 k) (hrec3 : ∀ {ad : Nat → Nat} {kc ns : Nat} (ha : ∀ k, k < 179 → ad k = ad0 k) {σ9 : gS} {x18n9 : Int32} (hkc : kc ≤ 3 * x18n9.toInt.toNat) (hns : ns ≤ 40 * x18n9.toInt.toNat) (hi0 : 0 ≤ x18n9.toInt) (hi6 : x18n9.toInt ≤ 3) (H : Heap) (locs : List Loc) (ls : Array Slot), gY D y A s L ad σ9 H locs → lv_has ls 33 [(0, .ref (ad 161)), (1, .ref (ad 162)), (2, .ref (ad 163)), (3, .ref (ad 164)), (4, .ref (ad 165)), (5, .ref (ad 166)), (6, .ref (ad 168)), (7, .ref (ad 169)), (8, .ref (ad 170)), (9, .long x9), (11, .ref (ad 172)), (12, .ref (ad 173)), (13, .ref (ad 174)), (14, .ref (ad 175)), (15, .ref (ad 176)), (16, .ref (ad 177)), (17, .ref (ad 178)), (18, .int x18n9)] → rec3 (σ9, x18n9) = some res → W p l e ({ frames := 5, cells := 9, slots := 120, locals := 141 } : Room) s m args below meth c H locs kc ns (MQ below (va_Qv (fun (_ : Unit) => True) (fun _ => gO D A (GW L y ad0 res)) A) args s 9 120 A) (F0 m 3 ls [])) (hkc : kc ≤ 3 * (x18.toInt.toNat + 1)) (hns : ns ≤ 40 * (x18.toInt.toNat + 1)) (hi0 : 0 ≤ x18.toInt) (hi6 : x18.toInt < 3) {H : Heap} {locs : List Loc} {ls : Array Slot} (hY : gY D y A s (L ++ [179, 180, 181]) ad σ H locs) (hl : lv_has ls 33 [(0, .ref (ad 161)), (1, .ref (ad 162)), (2, .ref (ad 163)), (3, .ref (ad 164)), (4, .ref (ad 165)), (5, .ref (ad 166)), (6, .ref (ad 168)), (7, .ref (ad 169)), (8, .ref (ad 170)), (9, .long x9), (11, .ref (ad 172)), (12, .ref (ad 173)), (13, .ref (ad 174)), (14, .ref (ad 175)), (15, .ref (ad 176)), (16, .ref (ad 177)), (17, .ref (ad 178)), (18, .int x18), (19, .ref (ad 179)), (20, .ref (ad 180)), (21, .ref (ad 181)), (22, .int x22), (23, .int x23), (24, .int x24)]) (h : fL_takes_132 N rec3 σ x9 x18 x22 x23 x24 xs0 = some res) : W p l e ({ frames := 5, cells := 9, slots := 120, locals := 141 } : Room) s m args below meth c H locs kc ns (MQ below (va_Qv (fun (_ : Unit) => True) (fun _ => gO D A (GW L y ad0 res)) A) args s 9 120 A) (F0 m 132 ls [.int xs0]) := by
  unfold fL_takes_132 at h
  refine lv_istore (lv' := [(25, .int xs0), (0, .ref (ad 161)), (1, .ref (ad 162)), (2, .ref (ad 163)), (3, .ref (ad 164)), (4, .ref (ad 165)), (5, .ref (ad 166)), (6, .ref (ad 168)), (7, .ref (ad 169)), (8, .ref (ad 170)), (9, .long x9), (11, .ref (ad 172)), (12, .ref (ad 173)), (13, .ref (ad 174)), (14, .ref (ad 175)), (15, .ref (ad 176)), (16, .ref (ad 177)), (17, .ref (ad 178)), (18, .int x18), (19, .ref (ad 179)), (20, .ref (ad 180)), (21, .ref (ad 181)), (22, .int x22), (23, .int x23), (24, .int x24)]) hx hb dL_takes_132 hl (by decide) rfl ?_
  clear hl
  intro ls hl
  refine lv_aload hx hb dL_takes_134 (lv_at hl 20 rfl) ?_
  refine lv_iconst (v := 0) hx hb dL_takes_136 (by decide) ?_
  refine G_lald (j := 0) hx hb hK hY (by simp) gk_180 (by rw [gl_180]; decide +kernel) (by decide +kernel) dL_takes_137 ?_
  refine lv_lstore (lv' := [(26, .long (σ.2.1 180 0)), (25, .int xs0), (0, .ref (ad 161)), (1, .ref (ad 162)), (2, .ref (ad 163)), (3, .ref (ad 164)), (4, .ref (ad 165)), (5, .ref (ad 166)), (6, .ref (ad 168)), (7, .ref (ad 169)), (8, .ref (ad 170)), (9, .long x9), (11, .ref (ad 172)), (12, .ref (ad 173)), (13, .ref (ad 174)), (14, .ref (ad 175)), (15, .ref (ad 176)), (16, .ref (ad 177)), (17, .ref (ad 178)), (18, .int x18), (19, .ref (ad 179)), (20, .ref (ad 180)), (21, .ref (ad 181)), (22, .int x22), (23, .int x23), (24, .int x24)]) hx hb dL_takes_138 hl (by decide) rfl ?_
  clear hl
  intro ls hl
  refine lv_iconst (v := 3) hx hb dL_takes_140 (by decide) ?_
  refine lv_istore (lv' := [(28, .int 3), (26, .long (σ.2.1 180 0)), (25, .int xs0), (0, .ref (ad 161)), (1, .ref (ad 162)), (2, .ref (ad 163)), (3, .ref (ad 164)), (4, .ref (ad 165)), (5, .ref (ad 166)), (6, .ref (ad 168)), (7, .ref (ad 169)), (8, .ref (ad 170)), (9, .long x9), (11, .ref (ad 172)), (12, .ref (ad 173)), (13, .ref (ad 174)), (14, .ref (ad 175)), (15, .ref (ad 176)), (16, .ref (ad 177)), (17, .ref (ad 178)), (18, .int x18), (19, .ref (ad 179)), (20, .ref (ad 180)), (21, .ref (ad 181)), (22, .int x22), (23, .int x23), (24, .int x24)]) hx hb dL_takes_141 hl (by decide) rfl ?_
  clear hl
  intro ls hl
  refine lv_iload hx hb dL_takes_143 (lv_at hl 2 rfl) ?_
  refine lv_if_eq (tgt := 260) hx hb dL_takes_145 (by decide) (fun z_1 => ?_) (fun z_1 => ?_)
  ·
    rw [if_pos z_1] at h
    exact wL_takes_260 hx hb hr hml hown hg hlocks hK hA hL hL2 ha hrec3 (by first | omega | (simp only [g_l0]; omega)) (by first | omega | (simp only [g_l0]; omega)) (by first | omega | (simp only [g_l0]; omega)) (by first | omega | (simp only [g_l0]; omega)) hY (lv_sub hl [3, 4, 5, 6, 7, 8, 9, 10, 11, 12, 13, 14, 15, 16, 17, 18, 19, 20, 21, 22, 24, 25, 26, 2, 1, 0] rfl) h
  ·
    rw [if_neg z_1] at h
    refine lv_aload_n hx hb dL_takes_148 rfl (lv_at hl 3 rfl) ?_
    refine lv_aload_n hx hb dL_takes_149 rfl (lv_at hl 4 rfl) ?_
    refine lv_aload hx hb dL_takes_150 (lv_at hl 9 rfl) ?_
    refine lv_aload hx hb dL_takes_152 (lv_at hl 11 rfl) ?_
    refine lv_aload hx hb dL_takes_154 (lv_at hl 13 rfl) ?_
    refine lv_aload hx hb dL_takes_156 (lv_at hl 14 rfl) ?_
    refine lv_aload hx hb dL_takes_158 (lv_at hl 15 rfl) ?_
    refine lv_aload hx hb dL_takes_160 (lv_at hl 16 rfl) ?_
    refine lv_aload hx hb dL_takes_162 (lv_at hl 19 rfl) ?_
    refine lv_aload hx hb dL_takes_164 (lv_at hl 21 rfl) ?_
    refine lv_iload hx hb dL_takes_166 (lv_at hl 25 rfl) ?_
    refine lv_lload hx hb dL_takes_168 (lv_at hl 12 rfl) ?_
    refine lv_aload hx hb dL_takes_170 (lv_at hl 23 rfl) ?_
    obtain ⟨r_2, e_3, h⟩ := g_bind h
    refine G_av hY hA (va_runS (As := [.ref (ad 161), .ref (ad 162), .ref (ad 168), .ref (ad 170), .ref (ad 172), .ref (ad 173), .ref (ad 174), .ref (ad 175), .ref (ad 178), .ref (ad 179), .int x23, .long x9, .ref (ad 181)]) (rest := []) ⟨hx, hb, hml, hown, hg⟩ (kL_bisects l D y aS H.size (L ++ [179, 180, 181]) (fun k hk => List.mem_append_left _ (hL k hk)) ⟨by simp, by simp, by simp⟩ ad N σ x23 x9 _ e_3) (va_cwS 13 hg ggS_RL_126_L_bisects rfl rfl rfl (by decide +kernel) ⟨Nat.le_of_ble_eq_true rfl, Nat.le_of_ble_eq_true rfl⟩) (G_pS hK hY) rfl rfl hl.1 rfl (lv_room (Nat.le_of_ble_eq_true rfl)) dL_takes_172 ⟨(by dsimp only; omega), (by dsimp only; omega)⟩) ?_
    clear hY
    rintro H locs hY
    refine lv_aload hx hb dL_takes_175 (lv_at hl 23 rfl) ?_
    refine lv_iconst (v := 2) hx hb dL_takes_177 (by decide) ?_
    refine G_iald (j := 2) hx hb hK hY (by simp) gk_181 (by rw [gl_181]; decide +kernel) (by decide +kernel) dL_takes_178 ?_
    refine lv_if_lt (tgt := 203) hx hb dL_takes_179 (by decide) (fun z_4 => ?_) (fun z_4 => ?_)
    ·
      rw [if_pos z_4] at h
      have qz_4 := g_ltt z_4; (try simp only [g_l0, g_l3, g_l6] at qz_4)
      refine lv_aload_n hx hb dL_takes_203 rfl (lv_at hl 3 rfl) ?_
      refine lv_aload_n hx hb dL_takes_204 rfl (lv_at hl 4 rfl) ?_
      refine lv_aload hx hb dL_takes_205 (lv_at hl 9 rfl) ?_
      refine lv_aload hx hb dL_takes_207 (lv_at hl 11 rfl) ?_
      refine lv_aload hx hb dL_takes_209 (lv_at hl 13 rfl) ?_
      refine lv_aload hx hb dL_takes_211 (lv_at hl 14 rfl) ?_
      refine lv_aload hx hb dL_takes_213 (lv_at hl 15 rfl) ?_
      refine lv_aload hx hb dL_takes_215 (lv_at hl 16 rfl) ?_
      refine lv_aload hx hb dL_takes_217 (lv_at hl 21 rfl) ?_
      refine lv_lload hx hb dL_takes_219 (lv_at hl 12 rfl) ?_
      refine lv_aload hx hb dL_takes_221 (lv_at hl 23 rfl) ?_
      refine lv_iconst (v := 3) hx hb dL_takes_223 (by decide) ?_
      obtain ⟨r_5, e_6, h⟩ := g_bind h
      refine G_ai hY hA (va_runS (As := [.ref (ad 161), .ref (ad 162), .ref (ad 168), .ref (ad 170), .ref (ad 172), .ref (ad 173), .ref (ad 174), .ref (ad 175), .ref (ad 179), .long x9, .ref (ad 181), .int 3]) (rest := []) ⟨hx, hb, hml, hown, hg⟩ (kL_failed l D y aS H.size (L ++ [179, 180, 181]) (fun k hk => List.mem_append_left _ (hL k hk)) ⟨by simp, by simp, by simp⟩ ad N r_2 x9 (3 : Int32) _ e_6) (va_cwS 12 hg ggS_RL_130_L_failed rfl rfl rfl (by decide +kernel) ⟨Nat.le_of_ble_eq_true rfl, Nat.le_of_ble_eq_true rfl⟩) (G_pS hK hY) rfl rfl hl.1 rfl (lv_room (Nat.le_of_ble_eq_true rfl)) dL_takes_224 ⟨(by dsimp only; omega), (by dsimp only; omega)⟩) ?_
      clear hY
      rintro _ H locs rfl hY
      exact wL_takes_227 hx hb hr hml hown hg hlocks hK hA hL hL2 ha hrec3 (by first | omega | (simp only [g_l0]; omega)) (by first | omega | (simp only [g_l0]; omega)) (by first | omega | (simp only [g_l0]; omega)) (by first | omega | (simp only [g_l0]; omega)) hY (lv_sub hl [3, 4, 5, 6, 7, 8, 9, 10, 11, 12, 13, 14, 15, 16, 17, 18, 19, 20, 21, 22, 23, 24, 25, 2, 0] rfl) h
    ·
      rw [if_neg z_4] at h
      have qz_4 := g_ltf z_4; (try simp only [g_l0, g_l3, g_l6] at qz_4)
      refine lv_aload_n hx hb dL_takes_182 rfl (lv_at hl 3 rfl) ?_
      refine lv_aload_n hx hb dL_takes_183 rfl (lv_at hl 4 rfl) ?_
      refine lv_aload hx hb dL_takes_184 (lv_at hl 9 rfl) ?_
      refine lv_aload hx hb dL_takes_186 (lv_at hl 13 rfl) ?_
      refine lv_aload hx hb dL_takes_188 (lv_at hl 14 rfl) ?_
      refine lv_aload hx hb dL_takes_190 (lv_at hl 21 rfl) ?_
      refine lv_iconst (v := 0) hx hb dL_takes_192 (by decide) ?_
      refine lv_aload hx hb dL_takes_193 (lv_at hl 23 rfl) ?_
      refine lv_iconst (v := 2) hx hb dL_takes_195 (by decide) ?_
      refine G_iald (j := 2) hx hb hK hY (by simp) gk_181 (by rw [gl_181]; decide +kernel) (by decide +kernel) dL_takes_196 ?_
      obtain ⟨r_7, e_8, h⟩ := g_bind h
      refine G_ai hY hA (va_runS (As := [.ref (ad 161), .ref (ad 162), .ref (ad 168), .ref (ad 172), .ref (ad 173), .ref (ad 179), .int 0, .int (r_2.1 181 2)]) (rest := []) ⟨hx, hb, hml, hown, hg⟩ (kL_requiredOf l D y aS H.size (L ++ [179, 180, 181]) (fun k hk => List.mem_append_left _ (hL k hk)) ⟨by simp, by simp, by simp⟩ ad N r_2 (0 : Int32) (r_2.1 181 2) _ e_8) (va_cwS 8 hg ggS_RL_56_L_requiredOf rfl rfl rfl (by decide +kernel) ⟨Nat.le_of_ble_eq_true rfl, Nat.le_of_ble_eq_true rfl⟩) (G_pS hK hY) rfl rfl hl.1 rfl (lv_room (Nat.le_of_ble_eq_true rfl)) dL_takes_197 ⟨(by dsimp only; omega), (by dsimp only; omega)⟩) ?_
      clear hY
      rintro _ H locs rfl hY
      refine lv_goto (tgt := 227) hx hb dL_takes_200 (by decide) ?_
      exact wL_takes_227 hx hb hr hml hown hg hlocks hK hA hL hL2 ha hrec3 (by first | omega | (simp only [g_l0]; omega)) (by first | omega | (simp only [g_l0]; omega)) (by first | omega | (simp only [g_l0]; omega)) (by first | omega | (simp only [g_l0]; omega)) hY (lv_sub hl [3, 4, 5, 6, 7, 8, 9, 10, 11, 12, 13, 14, 15, 16, 17, 18, 19, 20, 21, 22, 23, 24, 25, 2, 0] rfl) h
def fL_takes_131 (N : Nat) (rec3 : (gS × Int32) → Option gS) (σ : gS) (x9 : Int64) (x18 : Int32) (x22 : Int32) (x23 : Int32) (x24 : Int32) : Option gS := fL_takes_132 N rec3 σ x9 x18 x22 x23 x24 0
set_option maxRecDepth 100000 in
set_option maxHeartbeats 4000000 in
theorem wL_takes_131 {rec3 : (gS × Int32) → Option gS} {σ : gS} {x9 : Int64} {x18 : Int32} {x22 : Int32} {x23 : Int32} {x24 : Int32} {ad : Nat → Nat} {kc ns : Nat} (hx : p.tables.exec = Jvm.exec) (hb : c.code = cL_takes) (hr : meth.sig.returnType = none) (hml : c.maxLocals = 33) (hown : s.vm.findClass RL = some m.cls) (hg : ∀ w ∈ wsL_law, w.before args s = true) (hlocks : meth.locks = false) (hK : gK D y aS s) (hA : ∀ q, s.heap.size ≤ q → A q) (hL : ∀ k, k < 179 → k ∈ L) (hL2 : ∀ k ∈ L, k < 179) (ha : ∀ k, k < 179 → ad k = ad0 k) (hrec3 : ∀ {ad : Nat → Nat} {kc ns : Nat} (ha : ∀ k, k < 179 → ad k = ad0 k) {σ9 : gS} {x18n9 : Int32} (hkc : kc ≤ 3 * x18n9.toInt.toNat) (hns : ns ≤ 40 * x18n9.toInt.toNat) (hi0 : 0 ≤ x18n9.toInt) (hi6 : x18n9.toInt ≤ 3) (H : Heap) (locs : List Loc) (ls : Array Slot), gY D y A s L ad σ9 H locs → lv_has ls 33 [(0, .ref (ad 161)), (1, .ref (ad 162)), (2, .ref (ad 163)), (3, .ref (ad 164)), (4, .ref (ad 165)), (5, .ref (ad 166)), (6, .ref (ad 168)), (7, .ref (ad 169)), (8, .ref (ad 170)), (9, .long x9), (11, .ref (ad 172)), (12, .ref (ad 173)), (13, .ref (ad 174)), (14, .ref (ad 175)), (15, .ref (ad 176)), (16, .ref (ad 177)), (17, .ref (ad 178)), (18, .int x18n9)] → rec3 (σ9, x18n9) = some res → W p l e ({ frames := 5, cells := 9, slots := 120, locals := 141 } : Room) s m args below meth c H locs kc ns (MQ below (va_Qv (fun (_ : Unit) => True) (fun _ => gO D A (GW L y ad0 res)) A) args s 9 120 A) (F0 m 3 ls [])) (hkc : kc ≤ 3 * (x18.toInt.toNat + 1)) (hns : ns ≤ 40 * (x18.toInt.toNat + 1)) (hi0 : 0 ≤ x18.toInt) (hi6 : x18.toInt < 3) {H : Heap} {locs : List Loc} {ls : Array Slot} (hY : gY D y A s (L ++ [179, 180, 181]) ad σ H locs) (hl : lv_has ls 33 [(0, .ref (ad 161)), (1, .ref (ad 162)), (2, .ref (ad 163)), (3, .ref (ad 164)), (4, .ref (ad 165)), (5, .ref (ad 166)), (6, .ref (ad 168)), (7, .ref (ad 169)), (8, .ref (ad 170)), (9, .long x9), (11, .ref (ad 172)), (12, .ref (ad 173)), (13, .ref (ad 174)), (14, .ref (ad 175)), (15, .ref (ad 176)), (16, .ref (ad 177)), (17, .ref (ad 178)), (18, .int x18), (19, .ref (ad 179)), (20, .ref (ad 180)), (21, .ref (ad 181)), (22, .int x22), (23, .int x23), (24, .int x24)]) (h : fL_takes_131 N rec3 σ x9 x18 x22 x23 x24 = some res) : W p l e ({ frames := 5, cells := 9, slots := 120, locals := 141 } : Room) s m args below meth c H locs kc ns (MQ below (va_Qv (fun (_ : Unit) => True) (fun _ => gO D A (GW L y ad0 res)) A) args s 9 120 A) (F0 m 131 ls []) := by
  unfold fL_takes_131 at h
  refine lv_iconst (v := 0) hx hb dL_takes_131 (by decide) ?_
  exact wL_takes_132 hx hb hr hml hown hg hlocks hK hA hL hL2 ha hrec3 (by first | omega | (simp only [g_l0]; omega)) (by first | omega | (simp only [g_l0]; omega)) (by first | omega | (simp only [g_l0]; omega)) (by first | omega | (simp only [g_l0]; omega)) hY (lv_sub hl [0, 1, 2, 3, 4, 5, 6, 7, 8, 9, 10, 11, 12, 13, 14, 15, 16, 17, 18, 19, 20, 21, 22, 23] rfl) h
def fL_takes_3 (N : Nat) (x9 : Int64) (rec3 : (gS × Int32) → Option gS) (xx : gS × Int32) : Option gS := match xx with
  | (σ, x18) => if 3 ≤ x18 then (some σ) else (if ((6 * x18) + 4) < 0 ∨ 18 ≤ ((6 * x18) + 4).toNatClampNeg then none else (if (σ.1 176 (((6 * x18) + 4).toNatClampNeg)) = 1 then (if (6 * x18) < 0 ∨ 18 ≤ (6 * x18).toNatClampNeg then none else (if 0 ≤ (σ.1 176 ((6 * x18).toNatClampNeg)) then (fL_takes_691 N rec3 σ x9 x18) else ((fL_batches N (zI (zJ (zI σ 179) 180) 181) x9).bind fun r_6 => (fL_many N r_6.2 r_6.1 (0 : Int32)).bind fun r_8 => (fL_requiredOf N r_6.2 (0 : Int32) r_8).bind fun r_10 => if r_8 ≤ 0 then (fL_takes_131 N rec3 r_6.2 x9 x18 r_6.1 r_8 r_10) else ((fL_verdicts N r_6.2 r_10 (r_6.2.2.1 180 0)).bind fun r_13 => if r_13 = 2 then (fL_takes_132 N rec3 r_6.2 x9 x18 r_6.1 r_8 r_10 1) else (fL_takes_131 N rec3 r_6.2 x9 x18 r_6.1 r_8 r_10))))) else (fL_takes_691 N rec3 σ x9 x18)))
set_option maxRecDepth 100000 in
set_option maxHeartbeats 4000000 in
theorem wL_takes_3 {x9 : Int64} (hx : p.tables.exec = Jvm.exec) (hb : c.code = cL_takes) (hr : meth.sig.returnType = none) (hml : c.maxLocals = 33) (hown : s.vm.findClass RL = some m.cls) (hg : ∀ w ∈ wsL_law, w.before args s = true) (hlocks : meth.locks = false) (hK : gK D y aS s) (hA : ∀ q, s.heap.size ≤ q → A q) (hL : ∀ k, k < 179 → k ∈ L) (hL2 : ∀ k ∈ L, k < 179) : ∀ (n : Nat) {ad : Nat → Nat} {kc ns : Nat} (ha : ∀ k, k < 179 → ad k = ad0 k) {σ : gS} {x18 : Int32} (hkc : kc ≤ 3 * x18.toInt.toNat) (hns : ns ≤ 40 * x18.toInt.toNat) (hi0 : 0 ≤ x18.toInt) (hi6 : x18.toInt ≤ 3) (H : Heap) (locs : List Loc) (ls : Array Slot), gY D y A s L ad σ H locs → lv_has ls 33 [(0, .ref (ad 161)), (1, .ref (ad 162)), (2, .ref (ad 163)), (3, .ref (ad 164)), (4, .ref (ad 165)), (5, .ref (ad 166)), (6, .ref (ad 168)), (7, .ref (ad 169)), (8, .ref (ad 170)), (9, .long x9), (11, .ref (ad 172)), (12, .ref (ad 173)), (13, .ref (ad 174)), (14, .ref (ad 175)), (15, .ref (ad 176)), (16, .ref (ad 177)), (17, .ref (ad 178)), (18, .int x18)] → lp (fL_takes_3 N x9) n (σ, x18) = some res → W p l e ({ frames := 5, cells := 9, slots := 120, locals := 141 } : Room) s m args below meth c H locs kc ns (MQ below (va_Qv (fun (_ : Unit) => True) (fun _ => gO D A (GW L y ad0 res)) A) args s 9 120 A) (F0 m 3 ls []) := by
  intro n
  induction n with
  | zero => intro ad kc ns ha σ x18 hkc hns hi0 hi6 H locs ls hY hl h; exact nomatch (show none = some res from h)
  | succ n hrec3 =>
    intro ad kc ns ha σ x18 hkc hns hi0 hi6 H locs ls hY hl h
    replace h : fL_takes_3 N x9 (lp (fL_takes_3 N x9) n) (σ, x18) = some res := h
    generalize lp (fL_takes_3 N x9) n = rec3 at h hrec3
    unfold fL_takes_3 at h
    try dsimp only at h
    refine lv_iload hx hb dL_takes_3 (lv_at hl 17 rfl) ?_
    refine lv_iconst (v := 3) hx hb dL_takes_5 (by decide) ?_
    refine lv_icmp_ge (tgt := 697) hx hb dL_takes_6 (by decide) (fun z_1 => ?_) (fun z_1 => ?_)
    ·
      rw [if_pos z_1] at h
      have qz_1 := g_get z_1; (try simp only [g_l0, g_l3, g_l6] at qz_1)
      cases h
      replace hY := G_ad hL2 ha hY
      exact g_vret hx hb hr hlocks () hY.1 hY.2.1 hY.2.2 trivial (by omega) (by omega) dL_takes_697
    ·
      rw [if_neg z_1] at h
      have qz_1 := g_gef z_1; (try simp only [g_l0, g_l3, g_l6] at qz_1)
      refine lv_aload hx hb dL_takes_9 (lv_at hl 14 rfl) ?_
      refine lv_bipush (v := 6) hx hb dL_takes_11 (by decide +kernel) ?_
      refine lv_iload hx hb dL_takes_13 (lv_at hl 17 rfl) ?_
      refine lv_imul hx hb dL_takes_15 ?_
      refine lv_iconst (v := 4) hx hb dL_takes_16 (by decide) ?_
      refine lv_iadd hx hb dL_takes_17 ?_
      obtain ⟨z_2, h⟩ := g_guard h
      refine G_iald (j := ((6 * x18) + 4).toNatClampNeg) hx hb hK hY (hL 176 (by decide)) gk_176 (by rw [gl_176]; exact z_2) rfl dL_takes_18 ?_
      refine lv_iconst (v := 1) hx hb dL_takes_19 (by decide) ?_
      refine lv_icmp_ne (tgt := 691) hx hb dL_takes_20 (by decide) (fun z_3 => ?_) (fun z_3 => ?_)
      ·
        rw [if_neg z_3] at h
        exact wL_takes_691 hx hb hr hml hown hg hlocks hK hA hL hL2 ha hrec3 (by first | omega | (simp only [g_l0]; omega)) (by first | omega | (simp only [g_l0]; omega)) (by first | omega | (simp only [g_l0]; omega)) (by first | omega | (simp only [g_l0]; omega)) hY (lv_sub hl [0, 1, 2, 3, 4, 5, 6, 7, 8, 9, 10, 11, 12, 13, 14, 15, 16, 17] rfl) h
      ·
        rw [if_pos z_3] at h
        refine lv_aload hx hb dL_takes_23 (lv_at hl 14 rfl) ?_
        refine lv_bipush (v := 6) hx hb dL_takes_25 (by decide +kernel) ?_
        refine lv_iload hx hb dL_takes_27 (lv_at hl 17 rfl) ?_
        refine lv_imul hx hb dL_takes_29 ?_
        obtain ⟨z_4, h⟩ := g_guard h
        refine G_iald (j := (6 * x18).toNatClampNeg) hx hb hK hY (hL 176 (by decide)) gk_176 (by rw [gl_176]; exact z_4) rfl dL_takes_30 ?_
        refine lv_if_ge (tgt := 691) hx hb dL_takes_31 (by decide) (fun z_5 => ?_) (fun z_5 => ?_)
        ·
          rw [if_pos z_5] at h
          have qz_5 := g_get z_5; (try simp only [g_l0, g_l3, g_l6] at qz_5)
          exact wL_takes_691 hx hb hr hml hown hg hlocks hK hA hL hL2 ha hrec3 (by first | omega | (simp only [g_l0]; omega)) (by first | omega | (simp only [g_l0]; omega)) (by first | omega | (simp only [g_l0]; omega)) (by first | omega | (simp only [g_l0]; omega)) hY (lv_sub hl [0, 1, 2, 3, 4, 5, 6, 7, 8, 9, 10, 11, 12, 13, 14, 15, 16, 17] rfl) h
        ·
          rw [if_neg z_5] at h
          have qz_5 := g_gef z_5; (try simp only [g_l0, g_l3, g_l6] at qz_5)
          refine lv_bipush (v := 32) hx hb dL_takes_34 (by decide +kernel) ?_
          refine G_newI (K := 179) hx hb hg hK hA hY hL2 (by decide) gk_179 (by decide +kernel) (by rw [gl_179]; decide +kernel) (by rw [gl_179]; decide +kernel) (by dsimp only; omega) (by dsimp only; rw [gl_179]; omega) dL_takes_36 ?_
          intro q179 H hY
          obtain ⟨ad, had⟩ : ∃ x, x = adU ad 179 q179 := ⟨_, rfl⟩
          rw [← had] at hY ⊢
          have hu := adU_ne had
          clear had
          rw [gl_179]
          replace hl : lv_has ls 33 [(0, .ref (ad 161)), (1, .ref (ad 162)), (2, .ref (ad 163)), (3, .ref (ad 164)), (4, .ref (ad 165)), (5, .ref (ad 166)), (6, .ref (ad 168)), (7, .ref (ad 169)), (8, .ref (ad 170)), (9, .long x9), (11, .ref (ad 172)), (12, .ref (ad 173)), (13, .ref (ad 174)), (14, .ref (ad 175)), (15, .ref (ad 176)), (16, .ref (ad 177)), (17, .ref (ad 178)), (18, .int x18)] := by rw [hu 161 (by decide), hu 162 (by decide), hu 163 (by decide), hu 164 (by decide), hu 165 (by decide), hu 166 (by decide), hu 168 (by decide), hu 169 (by decide), hu 170 (by decide), hu 172 (by decide), hu 173 (by decide), hu 174 (by decide), hu 175 (by decide), hu 176 (by decide), hu 177 (by decide), hu 178 (by decide)]; exact hl
          replace ha : ∀ k, k < 179 → ad k = ad0 k := fun k hk => (hu k (by omega)).trans (ha k hk)
          clear hu
          refine lv_astore (lv' := [(19, .ref (ad 179)), (0, .ref (ad 161)), (1, .ref (ad 162)), (2, .ref (ad 163)), (3, .ref (ad 164)), (4, .ref (ad 165)), (5, .ref (ad 166)), (6, .ref (ad 168)), (7, .ref (ad 169)), (8, .ref (ad 170)), (9, .long x9), (11, .ref (ad 172)), (12, .ref (ad 173)), (13, .ref (ad 174)), (14, .ref (ad 175)), (15, .ref (ad 176)), (16, .ref (ad 177)), (17, .ref (ad 178)), (18, .int x18)]) hx hb dL_takes_38 hl (by decide) rfl ?_
          clear hl
          intro ls hl
          refine lv_iconst (v := 5) hx hb dL_takes_40 (by decide) ?_
          refine G_newJ (K := 180) hx hb hg hK hA hY (fun k hk => (List.mem_append.mp hk).elim (fun h => Nat.lt_trans (hL2 k h) (by decide)) (fun h => by simp at h; omega)) (by decide) gk_180 (by decide +kernel) (by rw [gl_180]; decide +kernel) (by rw [gl_180]; decide +kernel) (by dsimp only; omega) (by dsimp only; rw [gl_180]; omega) dL_takes_41 ?_
          intro q180 H hY
          obtain ⟨ad, had⟩ : ∃ x, x = adU ad 180 q180 := ⟨_, rfl⟩
          rw [← had] at hY ⊢
          have hu := adU_ne had
          clear had
          rw [gl_180]
          replace hl : lv_has ls 33 [(19, .ref (ad 179)), (0, .ref (ad 161)), (1, .ref (ad 162)), (2, .ref (ad 163)), (3, .ref (ad 164)), (4, .ref (ad 165)), (5, .ref (ad 166)), (6, .ref (ad 168)), (7, .ref (ad 169)), (8, .ref (ad 170)), (9, .long x9), (11, .ref (ad 172)), (12, .ref (ad 173)), (13, .ref (ad 174)), (14, .ref (ad 175)), (15, .ref (ad 176)), (16, .ref (ad 177)), (17, .ref (ad 178)), (18, .int x18)] := by rw [hu 179 (by decide), hu 161 (by decide), hu 162 (by decide), hu 163 (by decide), hu 164 (by decide), hu 165 (by decide), hu 166 (by decide), hu 168 (by decide), hu 169 (by decide), hu 170 (by decide), hu 172 (by decide), hu 173 (by decide), hu 174 (by decide), hu 175 (by decide), hu 176 (by decide), hu 177 (by decide), hu 178 (by decide)]; exact hl
          replace ha : ∀ k, k < 179 → ad k = ad0 k := fun k hk => (hu k (by omega)).trans (ha k hk)
          clear hu
          replace hY : gY D y A s (L ++ [179, 180]) ad (zJ (zI σ 179) 180) H locs := by rw [List.append_assoc] at hY; exact hY
          refine lv_astore (lv' := [(20, .ref (ad 180)), (19, .ref (ad 179)), (0, .ref (ad 161)), (1, .ref (ad 162)), (2, .ref (ad 163)), (3, .ref (ad 164)), (4, .ref (ad 165)), (5, .ref (ad 166)), (6, .ref (ad 168)), (7, .ref (ad 169)), (8, .ref (ad 170)), (9, .long x9), (11, .ref (ad 172)), (12, .ref (ad 173)), (13, .ref (ad 174)), (14, .ref (ad 175)), (15, .ref (ad 176)), (16, .ref (ad 177)), (17, .ref (ad 178)), (18, .int x18)]) hx hb dL_takes_43 hl (by decide) rfl ?_
          clear hl
          intro ls hl
          refine lv_iconst (v := 3) hx hb dL_takes_45 (by decide) ?_
          refine G_newI (K := 181) hx hb hg hK hA hY (fun k hk => (List.mem_append.mp hk).elim (fun h => Nat.lt_trans (hL2 k h) (by decide)) (fun h => by simp at h; omega)) (by decide) gk_181 (by decide +kernel) (by rw [gl_181]; decide +kernel) (by rw [gl_181]; decide +kernel) (by dsimp only; omega) (by dsimp only; rw [gl_181]; omega) dL_takes_46 ?_
          intro q181 H hY
          obtain ⟨ad, had⟩ : ∃ x, x = adU ad 181 q181 := ⟨_, rfl⟩
          rw [← had] at hY ⊢
          have hu := adU_ne had
          clear had
          rw [gl_181]
          replace hl : lv_has ls 33 [(20, .ref (ad 180)), (19, .ref (ad 179)), (0, .ref (ad 161)), (1, .ref (ad 162)), (2, .ref (ad 163)), (3, .ref (ad 164)), (4, .ref (ad 165)), (5, .ref (ad 166)), (6, .ref (ad 168)), (7, .ref (ad 169)), (8, .ref (ad 170)), (9, .long x9), (11, .ref (ad 172)), (12, .ref (ad 173)), (13, .ref (ad 174)), (14, .ref (ad 175)), (15, .ref (ad 176)), (16, .ref (ad 177)), (17, .ref (ad 178)), (18, .int x18)] := by rw [hu 180 (by decide), hu 179 (by decide), hu 161 (by decide), hu 162 (by decide), hu 163 (by decide), hu 164 (by decide), hu 165 (by decide), hu 166 (by decide), hu 168 (by decide), hu 169 (by decide), hu 170 (by decide), hu 172 (by decide), hu 173 (by decide), hu 174 (by decide), hu 175 (by decide), hu 176 (by decide), hu 177 (by decide), hu 178 (by decide)]; exact hl
          replace ha : ∀ k, k < 179 → ad k = ad0 k := fun k hk => (hu k (by omega)).trans (ha k hk)
          clear hu
          replace hY : gY D y A s (L ++ [179, 180, 181]) ad (zI (zJ (zI σ 179) 180) 181) H locs := by rw [List.append_assoc] at hY; exact hY
          refine lv_astore (lv' := [(21, .ref (ad 181)), (20, .ref (ad 180)), (19, .ref (ad 179)), (0, .ref (ad 161)), (1, .ref (ad 162)), (2, .ref (ad 163)), (3, .ref (ad 164)), (4, .ref (ad 165)), (5, .ref (ad 166)), (6, .ref (ad 168)), (7, .ref (ad 169)), (8, .ref (ad 170)), (9, .long x9), (11, .ref (ad 172)), (12, .ref (ad 173)), (13, .ref (ad 174)), (14, .ref (ad 175)), (15, .ref (ad 176)), (16, .ref (ad 177)), (17, .ref (ad 178)), (18, .int x18)]) hx hb dL_takes_48 hl (by decide) rfl ?_
          clear hl
          intro ls hl
          refine lv_aload_n hx hb dL_takes_50 rfl (lv_at hl 3 rfl) ?_
          refine lv_aload_n hx hb dL_takes_51 rfl (lv_at hl 5 rfl) ?_
          refine lv_aload_n hx hb dL_takes_52 rfl (lv_at hl 6 rfl) ?_
          refine lv_aload hx hb dL_takes_53 (lv_at hl 7 rfl) ?_
          refine lv_aload hx hb dL_takes_55 (lv_at hl 8 rfl) ?_
          refine lv_aload hx hb dL_takes_57 (lv_at hl 9 rfl) ?_
          refine lv_aload hx hb dL_takes_59 (lv_at hl 10 rfl) ?_
          refine lv_aload hx hb dL_takes_61 (lv_at hl 11 rfl) ?_
          refine lv_lload hx hb dL_takes_63 (lv_at hl 12 rfl) ?_
          refine lv_aload hx hb dL_takes_65 (lv_at hl 2 rfl) ?_
          refine lv_aload hx hb dL_takes_67 (lv_at hl 1 rfl) ?_
          obtain ⟨r_6, e_7, h⟩ := g_bind h
          refine G_ai hY hA (va_runS (As := [.ref (ad 161), .ref (ad 163), .ref (ad 164), .ref (ad 165), .ref (ad 166), .ref (ad 168), .ref (ad 169), .ref (ad 170), .long x9, .ref (ad 179), .ref (ad 180)]) (rest := []) ⟨hx, hb, hml, hown, hg⟩ (kL_batches l D y aS H.size (L ++ [179, 180, 181]) (fun k hk => List.mem_append_left _ (hL k hk)) ⟨by simp, by simp, by simp⟩ ad N (zI (zJ (zI σ 179) 180) 181) x9 _ e_7) (va_cwS 11 hg ggS_RL_122_L_batches rfl rfl rfl (by decide +kernel) ⟨Nat.le_of_ble_eq_true rfl, Nat.le_of_ble_eq_true rfl⟩) (G_pS hK hY) rfl rfl hl.1 rfl (lv_room (Nat.le_of_ble_eq_true rfl)) dL_takes_69 ⟨(by dsimp only; omega), (by dsimp only; omega)⟩) ?_
          clear hY
          rintro _ H locs rfl hY
          refine lv_istore (lv' := [(22, .int r_6.1), (21, .ref (ad 181)), (20, .ref (ad 180)), (19, .ref (ad 179)), (0, .ref (ad 161)), (1, .ref (ad 162)), (2, .ref (ad 163)), (3, .ref (ad 164)), (4, .ref (ad 165)), (5, .ref (ad 166)), (6, .ref (ad 168)), (7, .ref (ad 169)), (8, .ref (ad 170)), (9, .long x9), (11, .ref (ad 172)), (12, .ref (ad 173)), (13, .ref (ad 174)), (14, .ref (ad 175)), (15, .ref (ad 176)), (16, .ref (ad 177)), (17, .ref (ad 178)), (18, .int x18)]) hx hb dL_takes_72 hl (by decide) rfl ?_
          clear hl
          intro ls hl
          refine lv_aload hx hb dL_takes_74 (lv_at hl 3 rfl) ?_
          refine lv_iload hx hb dL_takes_76 (lv_at hl 0 rfl) ?_
          refine lv_iconst (v := 0) hx hb dL_takes_78 (by decide) ?_
          obtain ⟨r_8, e_9, h⟩ := g_bind h
          refine G_ai hY hA (va_runS (As := [.ref (ad 179), .int r_6.1, .int 0]) (rest := []) ⟨hx, hb, hml, hown, hg⟩ (kL_many l D y aS H.size (L ++ [179, 180, 181]) (fun k hk => List.mem_append_left _ (hL k hk)) ⟨by simp, by simp, by simp⟩ ad N r_6.2 r_6.1 (0 : Int32) _ e_9) (va_cwS 3 hg ggS_RL_110_L_many rfl rfl rfl (by decide +kernel) ⟨Nat.le_of_ble_eq_true rfl, Nat.le_of_ble_eq_true rfl⟩) (G_pS hK hY) rfl rfl hl.1 rfl (lv_room (Nat.le_of_ble_eq_true rfl)) dL_takes_79 ⟨(by dsimp only; omega), (by dsimp only; omega)⟩) ?_
          clear hY
          rintro _ H locs rfl hY
          refine lv_istore (lv' := [(23, .int r_8), (22, .int r_6.1), (21, .ref (ad 181)), (20, .ref (ad 180)), (19, .ref (ad 179)), (0, .ref (ad 161)), (1, .ref (ad 162)), (2, .ref (ad 163)), (3, .ref (ad 164)), (4, .ref (ad 165)), (5, .ref (ad 166)), (6, .ref (ad 168)), (7, .ref (ad 169)), (8, .ref (ad 170)), (9, .long x9), (11, .ref (ad 172)), (12, .ref (ad 173)), (13, .ref (ad 174)), (14, .ref (ad 175)), (15, .ref (ad 176)), (16, .ref (ad 177)), (17, .ref (ad 178)), (18, .int x18)]) hx hb dL_takes_82 hl (by decide) rfl ?_
          clear hl
          intro ls hl
          refine lv_aload_n hx hb dL_takes_84 rfl (lv_at hl 5 rfl) ?_
          refine lv_aload_n hx hb dL_takes_85 rfl (lv_at hl 6 rfl) ?_
          refine lv_aload hx hb dL_takes_86 (lv_at hl 11 rfl) ?_
          refine lv_aload hx hb dL_takes_88 (lv_at hl 15 rfl) ?_
          refine lv_aload hx hb dL_takes_90 (lv_at hl 16 rfl) ?_
          refine lv_aload hx hb dL_takes_92 (lv_at hl 4 rfl) ?_
          refine lv_iconst (v := 0) hx hb dL_takes_94 (by decide) ?_
          refine lv_iload hx hb dL_takes_95 (lv_at hl 0 rfl) ?_
          obtain ⟨r_10, e_11, h⟩ := g_bind h
          refine G_ai hY hA (va_runS (As := [.ref (ad 161), .ref (ad 162), .ref (ad 168), .ref (ad 172), .ref (ad 173), .ref (ad 179), .int 0, .int r_8]) (rest := []) ⟨hx, hb, hml, hown, hg⟩ (kL_requiredOf l D y aS H.size (L ++ [179, 180, 181]) (fun k hk => List.mem_append_left _ (hL k hk)) ⟨by simp, by simp, by simp⟩ ad N r_6.2 (0 : Int32) r_8 _ e_11) (va_cwS 8 hg ggS_RL_56_L_requiredOf rfl rfl rfl (by decide +kernel) ⟨Nat.le_of_ble_eq_true rfl, Nat.le_of_ble_eq_true rfl⟩) (G_pS hK hY) rfl rfl hl.1 rfl (lv_room (Nat.le_of_ble_eq_true rfl)) dL_takes_97 ⟨(by dsimp only; omega), (by dsimp only; omega)⟩) ?_
          clear hY
          rintro _ H locs rfl hY
          refine lv_istore (lv' := [(24, .int r_10), (23, .int r_8), (22, .int r_6.1), (21, .ref (ad 181)), (20, .ref (ad 180)), (19, .ref (ad 179)), (0, .ref (ad 161)), (1, .ref (ad 162)), (2, .ref (ad 163)), (3, .ref (ad 164)), (4, .ref (ad 165)), (5, .ref (ad 166)), (6, .ref (ad 168)), (7, .ref (ad 169)), (8, .ref (ad 170)), (9, .long x9), (11, .ref (ad 172)), (12, .ref (ad 173)), (13, .ref (ad 174)), (14, .ref (ad 175)), (15, .ref (ad 176)), (16, .ref (ad 177)), (17, .ref (ad 178)), (18, .int x18)]) hx hb dL_takes_100 hl (by decide) rfl ?_
          clear hl
          intro ls hl
          refine lv_iload hx hb dL_takes_102 (lv_at hl 1 rfl) ?_
          refine lv_if_le (tgt := 131) hx hb dL_takes_104 (by decide) (fun z_12 => ?_) (fun z_12 => ?_)
          ·
            rw [if_pos z_12] at h
            have qz_12 := g_let z_12; (try simp only [g_l0, g_l3, g_l6] at qz_12)
            exact wL_takes_131 hx hb hr hml hown hg hlocks hK hA hL hL2 ha hrec3 (by first | omega | (simp only [g_l0]; omega)) (by first | omega | (simp only [g_l0]; omega)) (by first | omega | (simp only [g_l0]; omega)) (by first | omega | (simp only [g_l0]; omega)) hY (lv_sub hl [6, 7, 8, 9, 10, 11, 12, 13, 14, 15, 16, 17, 18, 19, 20, 21, 22, 23, 5, 4, 3, 2, 1, 0] rfl) h
          ·
            rw [if_neg z_12] at h
            have qz_12 := g_lef z_12; (try simp only [g_l0, g_l3, g_l6] at qz_12)
            refine lv_aload_n hx hb dL_takes_107 rfl (lv_at hl 6 rfl) ?_
            refine lv_aload hx hb dL_takes_108 (lv_at hl 16 rfl) ?_
            refine lv_aload hx hb dL_takes_110 (lv_at hl 18 rfl) ?_
            refine lv_aload hx hb dL_takes_112 (lv_at hl 19 rfl) ?_
            refine lv_iload hx hb dL_takes_114 (lv_at hl 0 rfl) ?_
            refine lv_aload hx hb dL_takes_116 (lv_at hl 4 rfl) ?_
            refine lv_iconst (v := 0) hx hb dL_takes_118 (by decide) ?_
            refine G_lald (j := 0) hx hb hK hY (by simp) gk_180 (by rw [gl_180]; decide +kernel) (by decide +kernel) dL_takes_119 ?_
            obtain ⟨r_13, e_14, h⟩ := g_bind h
            refine G_ai hY hA (va_runS (As := [.ref (ad 161), .ref (ad 172), .ref (ad 174), .ref (ad 175), .int r_10, .long (r_6.2.2.1 180 0)]) (rest := []) ⟨hx, hb, hml, hown, hg⟩ (kL_verdicts l D y aS H.size (L ++ [179, 180, 181]) (fun k hk => List.mem_append_left _ (hL k hk)) ad N r_6.2 r_10 (r_6.2.2.1 180 0) _ e_14) (va_cwS 6 hg ggS_RL_64_L_verdicts rfl rfl rfl (by decide +kernel) ⟨Nat.le_of_ble_eq_true rfl, Nat.le_of_ble_eq_true rfl⟩) (G_pS hK hY) rfl rfl hl.1 rfl (lv_room (Nat.le_of_ble_eq_true rfl)) dL_takes_120 ⟨(by dsimp only; omega), (by dsimp only; omega)⟩) ?_
            clear hY
            rintro _ H locs rfl hY
            refine lv_iconst (v := 2) hx hb dL_takes_123 (by decide) ?_
            refine lv_icmp_ne (tgt := 131) hx hb dL_takes_124 (by decide) (fun z_15 => ?_) (fun z_15 => ?_)
            ·
              rw [if_neg z_15] at h
              exact wL_takes_131 hx hb hr hml hown hg hlocks hK hA hL hL2 ha hrec3 (by first | omega | (simp only [g_l0]; omega)) (by first | omega | (simp only [g_l0]; omega)) (by first | omega | (simp only [g_l0]; omega)) (by first | omega | (simp only [g_l0]; omega)) hY (lv_sub hl [6, 7, 8, 9, 10, 11, 12, 13, 14, 15, 16, 17, 18, 19, 20, 21, 22, 23, 5, 4, 3, 2, 1, 0] rfl) h
            ·
              rw [if_pos z_15] at h
              refine lv_iconst (v := 1) hx hb dL_takes_127 (by decide) ?_
              refine lv_goto (tgt := 132) hx hb dL_takes_128 (by decide) ?_
              exact wL_takes_132 hx hb hr hml hown hg hlocks hK hA hL hL2 ha hrec3 (by first | omega | (simp only [g_l0]; omega)) (by first | omega | (simp only [g_l0]; omega)) (by first | omega | (simp only [g_l0]; omega)) (by first | omega | (simp only [g_l0]; omega)) hY (lv_sub hl [6, 7, 8, 9, 10, 11, 12, 13, 14, 15, 16, 17, 18, 19, 20, 21, 22, 23, 5, 4, 3, 2, 1, 0] rfl) h
end
def fL_takes (N : Nat) (σ : gS) (x9 : Int64) : Option gS := lp (fL_takes_3 N x9) N (σ, 0)
set_option maxRecDepth 100000 in
set_option maxHeartbeats 4000000 in
theorem kL_takes (l : Launch) (D : va_G) (y : Nat → ClassId) (aS : Nat → Nat) (sz : Nat) (L : List Nat) (hL : ∀ k, k < 179 → k ∈ L) (hL2 : ∀ k ∈ L, k < 179) (ad : Nat → Nat) (ad0 : Nat → Nat) (ha : ∀ k, k < 179 → ad k = ad0 k) (N : Nat) (σ : gS) (x9 : Int64) (res : gS) (h : fL_takes N σ x9 = some res) : Met l yL_takes (Cond.code yL_takes cL_takes 33 none :: wsL_law) ({ frames := 5, cells := 9, slots := 120, locals := 141 } : Room) (va_Pc [.ref (ad 161), .ref (ad 162), .ref (ad 163), .ref (ad 164), .ref (ad 165), .ref (ad 166), .ref (ad 168), .ref (ad 169), .ref (ad 170), .long x9, .ref (ad 172), .ref (ad 173), .ref (ad 174), .ref (ad 175), .ref (ad 176), .ref (ad 177), .ref (ad 178)] (gI D y aS (GW L y ad σ) sz)) (va_Qv (fun (_ : Unit) => True) (fun _ => gO D (va_A (GW L y ad σ) sz) (GW L y ad0 res)) (va_A (GW L y ad σ) sz)) 9 120 (va_A (GW L y ad σ) sz) := by
  refine g_of (by decide) (Nat.le_of_ble_eq_true rfl) ?_
  intro p e s m below meth c ls A hx hb hr hml hown hg hlocks hin hsz hK hP hD hS hA hAe hl
  rw [← hAe]
  replace hown : s.vm.findClass RL = some m.cls := hown
  have hY : gY D y A s L ad σ s.heap [] := ⟨hP, hD, hS⟩
  clear hP hD hS
  replace hl : lv_has ls 33 [(0, .ref (ad 161)), (1, .ref (ad 162)), (2, .ref (ad 163)), (3, .ref (ad 164)), (4, .ref (ad 165)), (5, .ref (ad 166)), (6, .ref (ad 168)), (7, .ref (ad 169)), (8, .ref (ad 170)), (9, .long x9), (11, .ref (ad 172)), (12, .ref (ad 173)), (13, .ref (ad 174)), (14, .ref (ad 175)), (15, .ref (ad 176)), (16, .ref (ad 177)), (17, .ref (ad 178))] := hl
  unfold fL_takes at h
  refine lv_iconst (v := 0) hx hb dL_takes_0 (by decide) ?_
  refine lv_istore (lv' := [(18, .int 0), (0, .ref (ad 161)), (1, .ref (ad 162)), (2, .ref (ad 163)), (3, .ref (ad 164)), (4, .ref (ad 165)), (5, .ref (ad 166)), (6, .ref (ad 168)), (7, .ref (ad 169)), (8, .ref (ad 170)), (9, .long x9), (11, .ref (ad 172)), (12, .ref (ad 173)), (13, .ref (ad 174)), (14, .ref (ad 175)), (15, .ref (ad 176)), (16, .ref (ad 177)), (17, .ref (ad 178))]) hx hb dL_takes_1 hl (by decide) rfl ?_
  clear hl
  intro ls hl
  exact wL_takes_3 hx hb hr hml hown hg hlocks hK hA hL hL2 N ha (by first | omega | (simp only [g_l0]; omega)) (by first | omega | (simp only [g_l0]; omega)) (by first | omega | (simp only [g_l0]; omega)) (by first | omega | (simp only [g_l0]; omega)) _ _ _ hY (lv_sub hl [1, 2, 3, 4, 5, 6, 7, 8, 9, 10, 11, 12, 13, 14, 15, 16, 17, 0] rfl) h
theorem ggS_RL_142_L_leaves : GoodIn wsL_law (va_wsS RL 142 yL_leaves (Cond.code yL_leaves cL_leaves 9 (some .int) :: wsL_law)) := g_gi (fun _ h => h) gW_good (List.forall_mem_cons.mpr ⟨⟨gw_707, rfl⟩, List.forall_mem_cons.mpr ⟨⟨gw_708, rfl⟩, List.forall_mem_cons.mpr ⟨⟨gw_162, rfl⟩, fun _ h => nomatch h⟩⟩⟩) ⟨gw_709, rfl⟩
section
variable {p : Program} {l : Launch} {e : Env} {s : State} {m : MethodId} {args : Array Value} {below : List Frame} {meth : Method} {c : Code} {D : va_G} {y : Nat → ClassId} {aS : Nat → Nat} {A : Nat → Prop} {L : List Nat} {ad0 : Nat → Nat} {N : Nat} {res : (Int64 × gS)}
def fL_decides_364 (N : Nat) (rec3 : (gS × Int32) → Option (Int64 × gS)) (σ : gS) (x16 : Int32) : Option (Int64 × gS) := rec3 (σ, x16)
set_option maxRecDepth 100000 in
set_option maxHeartbeats 4000000 in
theorem wL_decides_364 {rec3 : (gS × Int32) → Option (Int64 × gS)} {n9 : Nat} {σ : gS} {x16 : Int32} {ad : Nat → Nat} {kc ns : Nat} (hx : p.tables.exec = Jvm.exec) (hb : c.code = cL_decides) (hr : meth.sig.returnType = (some .long)) (hml : c.maxLocals = 27) (hown : s.vm.findClass RL = some m.cls) (hg : ∀ w ∈ wsL_law, w.before args s = true) (hlocks : meth.locks = false) (hK : gK D y aS s) (hA : ∀ q, s.heap.size ≤ q → A q) (hL : ∀ k, k < 179 → k ∈ L) (hL2 : ∀ k ∈ L, k < 179) (ha : ∀ k, k < 179 → ad k = ad0 k) (hrec3 : ∀ {ad : Nat → Nat} {kc ns : Nat} (ha : ∀ k, k < 179 → ad k = ad0 k) {σ9 : gS} {x16n9 : Int32} (hkc : kc + 3 * n9 ≤ 192) (hns : ns + 40 * n9 ≤ 2560) (H : Heap) (locs : List Loc) (ls : Array Slot), gY D y A s L ad σ9 H locs → lv_has ls 27 [(0, .ref (ad 161)), (1, .ref (ad 162)), (2, .ref (ad 163)), (3, .ref (ad 164)), (4, .ref (ad 165)), (5, .ref (ad 166)), (6, .ref (ad 167)), (7, .ref (ad 168)), (8, .ref (ad 169)), (9, .ref (ad 170)), (10, .ref (ad 171)), (11, .ref (ad 172)), (12, .ref (ad 173)), (13, .ref (ad 174)), (14, .ref (ad 175)), (15, .ref (ad 178)), (16, .int x16n9)] → rec3 (σ9, x16n9) = some res → W p l e ({ frames := 5, cells := 192, slots := 2560, locals := 140 } : Room) s m args below meth c H locs kc ns (MQ below (va_Ql (fun (r : Int64) (_ : Unit) => r = res.1) (fun _ => gO D A (GW L y ad0 res.2)) A) args s 192 2560 A) (F0 m 3 ls [])) (hkc : kc + 3 * n9 ≤ 192) (hns : ns + 40 * n9 ≤ 2560) {H : Heap} {locs : List Loc} {ls : Array Slot} (hY : gY D y A s L ad σ H locs) (hl : lv_has ls 27 [(0, .ref (ad 161)), (1, .ref (ad 162)), (2, .ref (ad 163)), (3, .ref (ad 164)), (4, .ref (ad 165)), (5, .ref (ad 166)), (6, .ref (ad 167)), (7, .ref (ad 168)), (8, .ref (ad 169)), (9, .ref (ad 170)), (10, .ref (ad 171)), (11, .ref (ad 172)), (12, .ref (ad 173)), (13, .ref (ad 174)), (14, .ref (ad 175)), (15, .ref (ad 178)), (16, .int x16)]) (h : fL_decides_364 N rec3 σ x16 = some res) : W p l e ({ frames := 5, cells := 192, slots := 2560, locals := 140 } : Room) s m args below meth c H locs kc ns (MQ below (va_Ql (fun (r : Int64) (_ : Unit) => r = res.1) (fun _ => gO D A (GW L y ad0 res.2)) A) args s 192 2560 A) (F0 m 364 ls []) := by
  unfold fL_decides_364 at h
  refine lv_goto (tgt := 3) hx hb dL_decides_364 (by decide) ?_
  exact hrec3 ha (by first | omega | (simp only [g_l0]; omega)) (by first | omega | (simp only [g_l0]; omega)) _ _ _ hY (lv_sub hl [0, 1, 2, 3, 4, 5, 6, 7, 8, 9, 10, 11, 12, 13, 14, 15, 16] rfl) h
def fL_decides_314 (N : Nat) (rec3 : (gS × Int32) → Option (Int64 × gS)) (σ : gS) (x16 : Int32) (x25 : Int32) : Option (Int64 × gS) := if x25 = 2 then (if x16 = 0 then (fL_decides_364 N rec3 σ x16) else (if ((σ.1 181 1) - 1) < 0 ∨ 32 ≤ ((σ.1 181 1) - 1).toNatClampNeg then none else (if (σ.1 179 (((σ.1 181 1) - 1).toNatClampNeg)) < 0 ∨ 24 ≤ (σ.1 179 (((σ.1 181 1) - 1).toNatClampNeg)).toNatClampNeg then none else (if (6 + (σ.1 162 ((σ.1 179 (((σ.1 181 1) - 1).toNatClampNeg)).toNatClampNeg))) < 0 ∨ 14 ≤ (6 + (σ.1 162 ((σ.1 179 (((σ.1 181 1) - 1).toNatClampNeg)).toNatClampNeg))).toNatClampNeg then none else (if (6 + (σ.1 162 ((σ.1 179 (((σ.1 181 1) - 1).toNatClampNeg)).toNatClampNeg))) < 0 ∨ 14 ≤ (6 + (σ.1 162 ((σ.1 179 (((σ.1 181 1) - 1).toNatClampNeg)).toNatClampNeg))).toNatClampNeg then none else (if (((sI σ 178 ((6 + (σ.1 162 ((σ.1 179 (((σ.1 181 1) - 1).toNatClampNeg)).toNatClampNeg))).toNatClampNeg) ((σ.1 178 ((6 + (σ.1 162 ((σ.1 179 (((σ.1 181 1) - 1).toNatClampNeg)).toNatClampNeg))).toNatClampNeg)) + 1)).1 181 1) - 1) < 0 ∨ 32 ≤ (((sI σ 178 ((6 + (σ.1 162 ((σ.1 179 (((σ.1 181 1) - 1).toNatClampNeg)).toNatClampNeg))).toNatClampNeg) ((σ.1 178 ((6 + (σ.1 162 ((σ.1 179 (((σ.1 181 1) - 1).toNatClampNeg)).toNatClampNeg))).toNatClampNeg)) + 1)).1 181 1) - 1).toNatClampNeg then none else ((fL_leaves N (sI σ 178 ((6 + (σ.1 162 ((σ.1 179 (((σ.1 181 1) - 1).toNatClampNeg)).toNatClampNeg))).toNatClampNeg) ((σ.1 178 ((6 + (σ.1 162 ((σ.1 179 (((σ.1 181 1) - 1).toNatClampNeg)).toNatClampNeg))).toNatClampNeg)) + 1)) ((sI σ 178 ((6 + (σ.1 162 ((σ.1 179 (((σ.1 181 1) - 1).toNatClampNeg)).toNatClampNeg))).toNatClampNeg) ((σ.1 178 ((6 + (σ.1 162 ((σ.1 179 (((σ.1 181 1) - 1).toNatClampNeg)).toNatClampNeg))).toNatClampNeg)) + 1)).1 179 ((((sI σ 178 ((6 + (σ.1 162 ((σ.1 179 (((σ.1 181 1) - 1).toNatClampNeg)).toNatClampNeg))).toNatClampNeg) ((σ.1 178 ((6 + (σ.1 162 ((σ.1 179 (((σ.1 181 1) - 1).toNatClampNeg)).toNatClampNeg))).toNatClampNeg)) + 1)).1 181 1) - 1).toNatClampNeg)) (3 : Int32)).bind fun r_8 => fL_decides_364 N rec3 r_8.2 x16))))))) else (fL_decides_364 N rec3 σ x16)
set_option maxRecDepth 100000 in
set_option maxHeartbeats 4000000 in
theorem wL_decides_314 {rec3 : (gS × Int32) → Option (Int64 × gS)} {n9 : Nat} {σ : gS} {x16 : Int32} {x25 : Int32} {ad : Nat → Nat} {kc ns : Nat} (hx : p.tables.exec = Jvm.exec) (hb : c.code = cL_decides) (hr : meth.sig.returnType = (some .long)) (hml : c.maxLocals = 27) (hown : s.vm.findClass RL = some m.cls) (hg : ∀ w ∈ wsL_law, w.before args s = true) (hlocks : meth.locks = false) (hK : gK D y aS s) (hA : ∀ q, s.heap.size ≤ q → A q) (hL : ∀ k, k < 179 → k ∈ L) (hL2 : ∀ k ∈ L, k < 179) (ha : ∀ k, k < 179 → ad k = ad0 k) (hrec3 : ∀ {ad : Nat → Nat} {kc ns : Nat} (ha : ∀ k, k < 179 → ad k = ad0 k) {σ9 : gS} {x16n9 : Int32} (hkc : kc + 3 * n9 ≤ 192) (hns : ns + 40 * n9 ≤ 2560) (H : Heap) (locs : List Loc) (ls : Array Slot), gY D y A s L ad σ9 H locs → lv_has ls 27 [(0, .ref (ad 161)), (1, .ref (ad 162)), (2, .ref (ad 163)), (3, .ref (ad 164)), (4, .ref (ad 165)), (5, .ref (ad 166)), (6, .ref (ad 167)), (7, .ref (ad 168)), (8, .ref (ad 169)), (9, .ref (ad 170)), (10, .ref (ad 171)), (11, .ref (ad 172)), (12, .ref (ad 173)), (13, .ref (ad 174)), (14, .ref (ad 175)), (15, .ref (ad 178)), (16, .int x16n9)] → rec3 (σ9, x16n9) = some res → W p l e ({ frames := 5, cells := 192, slots := 2560, locals := 140 } : Room) s m args below meth c H locs kc ns (MQ below (va_Ql (fun (r : Int64) (_ : Unit) => r = res.1) (fun _ => gO D A (GW L y ad0 res.2)) A) args s 192 2560 A) (F0 m 3 ls [])) (hkc : kc + 3 * n9 ≤ 192) (hns : ns + 40 * n9 ≤ 2560) {H : Heap} {locs : List Loc} {ls : Array Slot} (hY : gY D y A s (L ++ [179, 180, 181]) ad σ H locs) (hl : lv_has ls 27 [(0, .ref (ad 161)), (1, .ref (ad 162)), (2, .ref (ad 163)), (3, .ref (ad 164)), (4, .ref (ad 165)), (5, .ref (ad 166)), (6, .ref (ad 167)), (7, .ref (ad 168)), (8, .ref (ad 169)), (9, .ref (ad 170)), (10, .ref (ad 171)), (11, .ref (ad 172)), (12, .ref (ad 173)), (13, .ref (ad 174)), (14, .ref (ad 175)), (15, .ref (ad 178)), (16, .int x16), (17, .ref (ad 179)), (19, .ref (ad 181)), (25, .int x25)]) (h : fL_decides_314 N rec3 σ x16 x25 = some res) : W p l e ({ frames := 5, cells := 192, slots := 2560, locals := 140 } : Room) s m args below meth c H locs kc ns (MQ below (va_Ql (fun (r : Int64) (_ : Unit) => r = res.1) (fun _ => gO D A (GW L y ad0 res.2)) A) args s 192 2560 A) (F0 m 314 ls []) := by
  unfold fL_decides_314 at h
  refine lv_iload hx hb dL_decides_314 (lv_at hl 19 rfl) ?_
  refine lv_iconst (v := 2) hx hb dL_decides_316 (by decide) ?_
  refine lv_icmp_ne (tgt := 364) hx hb dL_decides_317 (by decide) (fun z_1 => ?_) (fun z_1 => ?_)
  ·
    rw [if_neg z_1] at h
    replace hY := G_drop hY
    exact wL_decides_364 hx hb hr hml hown hg hlocks hK hA hL hL2 ha hrec3 (by first | omega | (simp only [g_l0]; omega)) (by first | omega | (simp only [g_l0]; omega)) hY (lv_sub hl [0, 1, 2, 3, 4, 5, 6, 7, 8, 9, 10, 11, 12, 13, 14, 15, 16] rfl) h
  ·
    rw [if_pos z_1] at h
    refine lv_iload hx hb dL_decides_320 (lv_at hl 16 rfl) ?_
    refine lv_if_eq (tgt := 364) hx hb dL_decides_322 (by decide) (fun z_2 => ?_) (fun z_2 => ?_)
    ·
      rw [if_pos z_2] at h
      replace hY := G_drop hY
      exact wL_decides_364 hx hb hr hml hown hg hlocks hK hA hL hL2 ha hrec3 (by first | omega | (simp only [g_l0]; omega)) (by first | omega | (simp only [g_l0]; omega)) hY (lv_sub hl [0, 1, 2, 3, 4, 5, 6, 7, 8, 9, 10, 11, 12, 13, 14, 15, 16] rfl) h
    ·
      rw [if_neg z_2] at h
      refine lv_aload hx hb dL_decides_325 (lv_at hl 15 rfl) ?_
      refine lv_bipush (v := 6) hx hb dL_decides_327 (by decide +kernel) ?_
      refine lv_aload_n hx hb dL_decides_329 rfl (lv_at hl 1 rfl) ?_
      refine lv_aload hx hb dL_decides_330 (lv_at hl 17 rfl) ?_
      refine lv_aload hx hb dL_decides_332 (lv_at hl 18 rfl) ?_
      refine lv_iconst (v := 1) hx hb dL_decides_334 (by decide) ?_
      refine G_iald (j := 1) hx hb hK hY (by simp) gk_181 (by rw [gl_181]; decide +kernel) (by decide +kernel) dL_decides_335 ?_
      refine lv_iconst (v := 1) hx hb dL_decides_336 (by decide) ?_
      refine lv_isub hx hb dL_decides_337 ?_
      obtain ⟨z_3, h⟩ := g_guard h
      refine G_iald (j := ((σ.1 181 1) - 1).toNatClampNeg) hx hb hK hY (by simp) gk_179 (by rw [gl_179]; exact z_3) rfl dL_decides_338 ?_
      obtain ⟨z_4, h⟩ := g_guard h
      refine G_iald (j := (σ.1 179 (((σ.1 181 1) - 1).toNatClampNeg)).toNatClampNeg) hx hb hK hY (List.mem_append_left _ (hL 162 (by decide))) gk_162 (by rw [gl_162]; exact z_4) rfl dL_decides_339 ?_
      refine lv_iadd hx hb dL_decides_340 ?_
      refine lv_dup2_11 hx hb dL_decides_341 rfl rfl ?_
      obtain ⟨z_5, h⟩ := g_guard h
      refine G_iald (j := (6 + (σ.1 162 ((σ.1 179 (((σ.1 181 1) - 1).toNatClampNeg)).toNatClampNeg))).toNatClampNeg) hx hb hK hY (List.mem_append_left _ (hL 178 (by decide))) gk_178 (by rw [gl_178]; exact z_5) rfl dL_decides_342 ?_
      refine lv_iconst (v := 1) hx hb dL_decides_343 (by decide) ?_
      refine lv_iadd hx hb dL_decides_344 ?_
      obtain ⟨z_6, h⟩ := g_guard h
      refine G_iast (j := (6 + (σ.1 162 ((σ.1 179 (((σ.1 181 1) - 1).toNatClampNeg)).toNatClampNeg))).toNatClampNeg) hx hb hK hY (List.mem_append_left _ (hL 178 (by decide))) gk_178 (by rw [gl_178]; exact z_6) rfl dL_decides_345 ?_
      clear hY
      intro H locs hY
      refine lv_aload_n hx hb dL_decides_346 rfl (lv_at hl 0 rfl) ?_
      refine lv_aload_n hx hb dL_decides_347 rfl (lv_at hl 2 rfl) ?_
      refine lv_aload_n hx hb dL_decides_348 rfl (lv_at hl 3 rfl) ?_
      refine lv_aload hx hb dL_decides_349 (lv_at hl 17 rfl) ?_
      refine lv_aload hx hb dL_decides_351 (lv_at hl 18 rfl) ?_
      refine lv_iconst (v := 1) hx hb dL_decides_353 (by decide) ?_
      refine G_iald (j := 1) hx hb hK hY (by simp) gk_181 (by rw [gl_181]; decide +kernel) (by decide +kernel) dL_decides_354 ?_
      refine lv_iconst (v := 1) hx hb dL_decides_355 (by decide) ?_
      refine lv_isub hx hb dL_decides_356 ?_
      obtain ⟨z_7, h⟩ := g_guard h
      refine G_iald (j := (((sI σ 178 ((6 + (σ.1 162 ((σ.1 179 (((σ.1 181 1) - 1).toNatClampNeg)).toNatClampNeg))).toNatClampNeg) ((σ.1 178 ((6 + (σ.1 162 ((σ.1 179 (((σ.1 181 1) - 1).toNatClampNeg)).toNatClampNeg))).toNatClampNeg)) + 1)).1 181 1) - 1).toNatClampNeg) hx hb hK hY (by simp) gk_179 (by rw [gl_179]; exact z_7) rfl dL_decides_357 ?_
      refine lv_iconst (v := 3) hx hb dL_decides_358 (by decide) ?_
      obtain ⟨r_8, e_9, h⟩ := g_bind h
      refine G_ai hY hA (va_runS (As := [.ref (ad 161), .ref (ad 163), .ref (ad 164), .int ((sI σ 178 ((6 + (σ.1 162 ((σ.1 179 (((σ.1 181 1) - 1).toNatClampNeg)).toNatClampNeg))).toNatClampNeg) ((σ.1 178 ((6 + (σ.1 162 ((σ.1 179 (((σ.1 181 1) - 1).toNatClampNeg)).toNatClampNeg))).toNatClampNeg)) + 1)).1 179 ((((sI σ 178 ((6 + (σ.1 162 ((σ.1 179 (((σ.1 181 1) - 1).toNatClampNeg)).toNatClampNeg))).toNatClampNeg) ((σ.1 178 ((6 + (σ.1 162 ((σ.1 179 (((σ.1 181 1) - 1).toNatClampNeg)).toNatClampNeg))).toNatClampNeg)) + 1)).1 181 1) - 1).toNatClampNeg)), .int 3]) (rest := []) ⟨hx, hb, hml, hown, hg⟩ (kL_leaves l D y aS H.size (L ++ [179, 180, 181]) (fun k hk => List.mem_append_left _ (hL k hk)) ad N (sI σ 178 ((6 + (σ.1 162 ((σ.1 179 (((σ.1 181 1) - 1).toNatClampNeg)).toNatClampNeg))).toNatClampNeg) ((σ.1 178 ((6 + (σ.1 162 ((σ.1 179 (((σ.1 181 1) - 1).toNatClampNeg)).toNatClampNeg))).toNatClampNeg)) + 1)) ((sI σ 178 ((6 + (σ.1 162 ((σ.1 179 (((σ.1 181 1) - 1).toNatClampNeg)).toNatClampNeg))).toNatClampNeg) ((σ.1 178 ((6 + (σ.1 162 ((σ.1 179 (((σ.1 181 1) - 1).toNatClampNeg)).toNatClampNeg))).toNatClampNeg)) + 1)).1 179 ((((sI σ 178 ((6 + (σ.1 162 ((σ.1 179 (((σ.1 181 1) - 1).toNatClampNeg)).toNatClampNeg))).toNatClampNeg) ((σ.1 178 ((6 + (σ.1 162 ((σ.1 179 (((σ.1 181 1) - 1).toNatClampNeg)).toNatClampNeg))).toNatClampNeg)) + 1)).1 181 1) - 1).toNatClampNeg)) (3 : Int32) _ e_9) (va_cwS 5 hg ggS_RL_142_L_leaves rfl rfl rfl (by decide +kernel) ⟨Nat.le_of_ble_eq_true rfl, Nat.le_of_ble_eq_true rfl⟩) (G_pS hK hY) rfl rfl hl.1 rfl (lv_room (Nat.le_of_ble_eq_true rfl)) dL_decides_359 ⟨(by dsimp only; omega), (by dsimp only; omega)⟩) ?_
      clear hY
      rintro _ H locs rfl hY
      refine lv_istore (lv' := [(26, .int r_8.1), (0, .ref (ad 161)), (1, .ref (ad 162)), (2, .ref (ad 163)), (3, .ref (ad 164)), (4, .ref (ad 165)), (5, .ref (ad 166)), (6, .ref (ad 167)), (7, .ref (ad 168)), (8, .ref (ad 169)), (9, .ref (ad 170)), (10, .ref (ad 171)), (11, .ref (ad 172)), (12, .ref (ad 173)), (13, .ref (ad 174)), (14, .ref (ad 175)), (15, .ref (ad 178)), (16, .int x16), (17, .ref (ad 179)), (19, .ref (ad 181)), (25, .int x25)]) hx hb dL_decides_362 hl (by decide) rfl ?_
      clear hl
      intro ls hl
      replace hY := G_drop hY
      exact wL_decides_364 hx hb hr hml hown hg hlocks hK hA hL hL2 ha hrec3 (by first | omega | (simp only [g_l0]; omega)) (by first | omega | (simp only [g_l0]; omega)) hY (lv_sub hl [1, 2, 3, 4, 5, 6, 7, 8, 9, 10, 11, 12, 13, 14, 15, 16, 17] rfl) h
def fL_decides_312 (N : Nat) (rec3 : (gS × Int32) → Option (Int64 × gS)) (σ : gS) (x25 : Int32) (xs0 : Int32) : Option (Int64 × gS) := fL_decides_314 N rec3 σ xs0 x25
set_option maxRecDepth 100000 in
set_option maxHeartbeats 4000000 in
theorem wL_decides_312 {rec3 : (gS × Int32) → Option (Int64 × gS)} {n9 : Nat} {σ : gS} {x25 : Int32} {xs0 : Int32} {ad : Nat → Nat} {kc ns : Nat} (hx : p.tables.exec = Jvm.exec) (hb : c.code = cL_decides) (hr : meth.sig.returnType = (some .long)) (hml : c.maxLocals = 27) (hown : s.vm.findClass RL = some m.cls) (hg : ∀ w ∈ wsL_law, w.before args s = true) (hlocks : meth.locks = false) (hK : gK D y aS s) (hA : ∀ q, s.heap.size ≤ q → A q) (hL : ∀ k, k < 179 → k ∈ L) (hL2 : ∀ k ∈ L, k < 179) (ha : ∀ k, k < 179 → ad k = ad0 k) (hrec3 : ∀ {ad : Nat → Nat} {kc ns : Nat} (ha : ∀ k, k < 179 → ad k = ad0 k) {σ9 : gS} {x16n9 : Int32} (hkc : kc + 3 * n9 ≤ 192) (hns : ns + 40 * n9 ≤ 2560) (H : Heap) (locs : List Loc) (ls : Array Slot), gY D y A s L ad σ9 H locs → lv_has ls 27 [(0, .ref (ad 161)), (1, .ref (ad 162)), (2, .ref (ad 163)), (3, .ref (ad 164)), (4, .ref (ad 165)), (5, .ref (ad 166)), (6, .ref (ad 167)), (7, .ref (ad 168)), (8, .ref (ad 169)), (9, .ref (ad 170)), (10, .ref (ad 171)), (11, .ref (ad 172)), (12, .ref (ad 173)), (13, .ref (ad 174)), (14, .ref (ad 175)), (15, .ref (ad 178)), (16, .int x16n9)] → rec3 (σ9, x16n9) = some res → W p l e ({ frames := 5, cells := 192, slots := 2560, locals := 140 } : Room) s m args below meth c H locs kc ns (MQ below (va_Ql (fun (r : Int64) (_ : Unit) => r = res.1) (fun _ => gO D A (GW L y ad0 res.2)) A) args s 192 2560 A) (F0 m 3 ls [])) (hkc : kc + 3 * n9 ≤ 192) (hns : ns + 40 * n9 ≤ 2560) {H : Heap} {locs : List Loc} {ls : Array Slot} (hY : gY D y A s (L ++ [179, 180, 181]) ad σ H locs) (hl : lv_has ls 27 [(0, .ref (ad 161)), (1, .ref (ad 162)), (2, .ref (ad 163)), (3, .ref (ad 164)), (4, .ref (ad 165)), (5, .ref (ad 166)), (6, .ref (ad 167)), (7, .ref (ad 168)), (8, .ref (ad 169)), (9, .ref (ad 170)), (10, .ref (ad 171)), (11, .ref (ad 172)), (12, .ref (ad 173)), (13, .ref (ad 174)), (14, .ref (ad 175)), (15, .ref (ad 178)), (17, .ref (ad 179)), (19, .ref (ad 181)), (25, .int x25)]) (h : fL_decides_312 N rec3 σ x25 xs0 = some res) : W p l e ({ frames := 5, cells := 192, slots := 2560, locals := 140 } : Room) s m args below meth c H locs kc ns (MQ below (va_Ql (fun (r : Int64) (_ : Unit) => r = res.1) (fun _ => gO D A (GW L y ad0 res.2)) A) args s 192 2560 A) (F0 m 312 ls [.int xs0]) := by
  unfold fL_decides_312 at h
  refine lv_istore (lv' := [(16, .int xs0), (0, .ref (ad 161)), (1, .ref (ad 162)), (2, .ref (ad 163)), (3, .ref (ad 164)), (4, .ref (ad 165)), (5, .ref (ad 166)), (6, .ref (ad 167)), (7, .ref (ad 168)), (8, .ref (ad 169)), (9, .ref (ad 170)), (10, .ref (ad 171)), (11, .ref (ad 172)), (12, .ref (ad 173)), (13, .ref (ad 174)), (14, .ref (ad 175)), (15, .ref (ad 178)), (17, .ref (ad 179)), (19, .ref (ad 181)), (25, .int x25)]) hx hb dL_decides_312 hl (by decide) rfl ?_
  clear hl
  intro ls hl
  exact wL_decides_314 hx hb hr hml hown hg hlocks hK hA hL hL2 ha hrec3 (by first | omega | (simp only [g_l0]; omega)) (by first | omega | (simp only [g_l0]; omega)) hY (lv_sub hl [1, 2, 3, 4, 5, 6, 7, 8, 9, 10, 11, 12, 13, 14, 15, 16, 0, 17, 18, 19] rfl) h
def fL_decides_311 (N : Nat) (rec3 : (gS × Int32) → Option (Int64 × gS)) (σ : gS) (x25 : Int32) : Option (Int64 × gS) := fL_decides_312 N rec3 σ x25 0
set_option maxRecDepth 100000 in
set_option maxHeartbeats 4000000 in
theorem wL_decides_311 {rec3 : (gS × Int32) → Option (Int64 × gS)} {n9 : Nat} {σ : gS} {x25 : Int32} {ad : Nat → Nat} {kc ns : Nat} (hx : p.tables.exec = Jvm.exec) (hb : c.code = cL_decides) (hr : meth.sig.returnType = (some .long)) (hml : c.maxLocals = 27) (hown : s.vm.findClass RL = some m.cls) (hg : ∀ w ∈ wsL_law, w.before args s = true) (hlocks : meth.locks = false) (hK : gK D y aS s) (hA : ∀ q, s.heap.size ≤ q → A q) (hL : ∀ k, k < 179 → k ∈ L) (hL2 : ∀ k ∈ L, k < 179) (ha : ∀ k, k < 179 → ad k = ad0 k) (hrec3 : ∀ {ad : Nat → Nat} {kc ns : Nat} (ha : ∀ k, k < 179 → ad k = ad0 k) {σ9 : gS} {x16n9 : Int32} (hkc : kc + 3 * n9 ≤ 192) (hns : ns + 40 * n9 ≤ 2560) (H : Heap) (locs : List Loc) (ls : Array Slot), gY D y A s L ad σ9 H locs → lv_has ls 27 [(0, .ref (ad 161)), (1, .ref (ad 162)), (2, .ref (ad 163)), (3, .ref (ad 164)), (4, .ref (ad 165)), (5, .ref (ad 166)), (6, .ref (ad 167)), (7, .ref (ad 168)), (8, .ref (ad 169)), (9, .ref (ad 170)), (10, .ref (ad 171)), (11, .ref (ad 172)), (12, .ref (ad 173)), (13, .ref (ad 174)), (14, .ref (ad 175)), (15, .ref (ad 178)), (16, .int x16n9)] → rec3 (σ9, x16n9) = some res → W p l e ({ frames := 5, cells := 192, slots := 2560, locals := 140 } : Room) s m args below meth c H locs kc ns (MQ below (va_Ql (fun (r : Int64) (_ : Unit) => r = res.1) (fun _ => gO D A (GW L y ad0 res.2)) A) args s 192 2560 A) (F0 m 3 ls [])) (hkc : kc + 3 * n9 ≤ 192) (hns : ns + 40 * n9 ≤ 2560) {H : Heap} {locs : List Loc} {ls : Array Slot} (hY : gY D y A s (L ++ [179, 180, 181]) ad σ H locs) (hl : lv_has ls 27 [(0, .ref (ad 161)), (1, .ref (ad 162)), (2, .ref (ad 163)), (3, .ref (ad 164)), (4, .ref (ad 165)), (5, .ref (ad 166)), (6, .ref (ad 167)), (7, .ref (ad 168)), (8, .ref (ad 169)), (9, .ref (ad 170)), (10, .ref (ad 171)), (11, .ref (ad 172)), (12, .ref (ad 173)), (13, .ref (ad 174)), (14, .ref (ad 175)), (15, .ref (ad 178)), (17, .ref (ad 179)), (19, .ref (ad 181)), (25, .int x25)]) (h : fL_decides_311 N rec3 σ x25 = some res) : W p l e ({ frames := 5, cells := 192, slots := 2560, locals := 140 } : Room) s m args below meth c H locs kc ns (MQ below (va_Ql (fun (r : Int64) (_ : Unit) => r = res.1) (fun _ => gO D A (GW L y ad0 res.2)) A) args s 192 2560 A) (F0 m 311 ls []) := by
  unfold fL_decides_311 at h
  refine lv_iconst (v := 0) hx hb dL_decides_311 (by decide) ?_
  exact wL_decides_312 hx hb hr hml hown hg hlocks hK hA hL hL2 ha hrec3 (by first | omega | (simp only [g_l0]; omega)) (by first | omega | (simp only [g_l0]; omega)) hY (lv_sub hl [0, 1, 2, 3, 4, 5, 6, 7, 8, 9, 10, 11, 12, 13, 14, 15, 16, 17, 18] rfl) h
def fL_decides_240 (N : Nat) (rec3 : (gS × Int32) → Option (Int64 × gS)) (σ : gS) (x16 : Int32) (x20 : Int64) (x24 : Int32) (x25 : Int32) : Option (Int64 × gS) := if x25 = 2 then ((fL_bisects N σ x24 x20).bind fun r_2 => if 0 ≤ (r_2.1 181 2) then (fL_decides_311 N rec3 r_2 x25) else ((fL_failed N r_2 x20 (1 : Int32)).bind fun r_5 => if r_5 = 0 then (fL_decides_311 N rec3 r_2 x25) else (fL_decides_312 N rec3 r_2 x25 1))) else (fL_decides_314 N rec3 σ x16 x25)
set_option maxRecDepth 100000 in
set_option maxHeartbeats 4000000 in
theorem wL_decides_240 {rec3 : (gS × Int32) → Option (Int64 × gS)} {n9 : Nat} {σ : gS} {x16 : Int32} {x20 : Int64} {x24 : Int32} {x25 : Int32} {ad : Nat → Nat} {kc ns : Nat} (hx : p.tables.exec = Jvm.exec) (hb : c.code = cL_decides) (hr : meth.sig.returnType = (some .long)) (hml : c.maxLocals = 27) (hown : s.vm.findClass RL = some m.cls) (hg : ∀ w ∈ wsL_law, w.before args s = true) (hlocks : meth.locks = false) (hK : gK D y aS s) (hA : ∀ q, s.heap.size ≤ q → A q) (hL : ∀ k, k < 179 → k ∈ L) (hL2 : ∀ k ∈ L, k < 179) (ha : ∀ k, k < 179 → ad k = ad0 k) (hrec3 : ∀ {ad : Nat → Nat} {kc ns : Nat} (ha : ∀ k, k < 179 → ad k = ad0 k) {σ9 : gS} {x16n9 : Int32} (hkc : kc + 3 * n9 ≤ 192) (hns : ns + 40 * n9 ≤ 2560) (H : Heap) (locs : List Loc) (ls : Array Slot), gY D y A s L ad σ9 H locs → lv_has ls 27 [(0, .ref (ad 161)), (1, .ref (ad 162)), (2, .ref (ad 163)), (3, .ref (ad 164)), (4, .ref (ad 165)), (5, .ref (ad 166)), (6, .ref (ad 167)), (7, .ref (ad 168)), (8, .ref (ad 169)), (9, .ref (ad 170)), (10, .ref (ad 171)), (11, .ref (ad 172)), (12, .ref (ad 173)), (13, .ref (ad 174)), (14, .ref (ad 175)), (15, .ref (ad 178)), (16, .int x16n9)] → rec3 (σ9, x16n9) = some res → W p l e ({ frames := 5, cells := 192, slots := 2560, locals := 140 } : Room) s m args below meth c H locs kc ns (MQ below (va_Ql (fun (r : Int64) (_ : Unit) => r = res.1) (fun _ => gO D A (GW L y ad0 res.2)) A) args s 192 2560 A) (F0 m 3 ls [])) (hkc : kc + 3 * n9 ≤ 192) (hns : ns + 40 * n9 ≤ 2560) {H : Heap} {locs : List Loc} {ls : Array Slot} (hY : gY D y A s (L ++ [179, 180, 181]) ad σ H locs) (hl : lv_has ls 27 [(0, .ref (ad 161)), (1, .ref (ad 162)), (2, .ref (ad 163)), (3, .ref (ad 164)), (4, .ref (ad 165)), (5, .ref (ad 166)), (6, .ref (ad 167)), (7, .ref (ad 168)), (8, .ref (ad 169)), (9, .ref (ad 170)), (10, .ref (ad 171)), (11, .ref (ad 172)), (12, .ref (ad 173)), (13, .ref (ad 174)), (14, .ref (ad 175)), (15, .ref (ad 178)), (16, .int x16), (17, .ref (ad 179)), (19, .ref (ad 181)), (20, .long x20), (24, .int x24), (25, .int x25)]) (h : fL_decides_240 N rec3 σ x16 x20 x24 x25 = some res) : W p l e ({ frames := 5, cells := 192, slots := 2560, locals := 140 } : Room) s m args below meth c H locs kc ns (MQ below (va_Ql (fun (r : Int64) (_ : Unit) => r = res.1) (fun _ => gO D A (GW L y ad0 res.2)) A) args s 192 2560 A) (F0 m 240 ls []) := by
  unfold fL_decides_240 at h
  refine lv_iload hx hb dL_decides_240 (lv_at hl 21 rfl) ?_
  refine lv_iconst (v := 2) hx hb dL_decides_242 (by decide) ?_
  refine lv_icmp_ne (tgt := 314) hx hb dL_decides_243 (by decide) (fun z_1 => ?_) (fun z_1 => ?_)
  ·
    rw [if_neg z_1] at h
    exact wL_decides_314 hx hb hr hml hown hg hlocks hK hA hL hL2 ha hrec3 (by first | omega | (simp only [g_l0]; omega)) (by first | omega | (simp only [g_l0]; omega)) hY (lv_sub hl [0, 1, 2, 3, 4, 5, 6, 7, 8, 9, 10, 11, 12, 13, 14, 15, 16, 17, 18, 21] rfl) h
  ·
    rw [if_pos z_1] at h
    refine lv_aload_n hx hb dL_decides_246 rfl (lv_at hl 0 rfl) ?_
    refine lv_aload_n hx hb dL_decides_247 rfl (lv_at hl 1 rfl) ?_
    refine lv_aload hx hb dL_decides_248 (lv_at hl 7 rfl) ?_
    refine lv_aload hx hb dL_decides_250 (lv_at hl 9 rfl) ?_
    refine lv_aload hx hb dL_decides_252 (lv_at hl 11 rfl) ?_
    refine lv_aload hx hb dL_decides_254 (lv_at hl 12 rfl) ?_
    refine lv_aload hx hb dL_decides_256 (lv_at hl 13 rfl) ?_
    refine lv_aload hx hb dL_decides_258 (lv_at hl 14 rfl) ?_
    refine lv_aload hx hb dL_decides_260 (lv_at hl 15 rfl) ?_
    refine lv_aload hx hb dL_decides_262 (lv_at hl 17 rfl) ?_
    refine lv_iload hx hb dL_decides_264 (lv_at hl 20 rfl) ?_
    refine lv_lload hx hb dL_decides_266 (lv_at hl 19 rfl) ?_
    refine lv_aload hx hb dL_decides_268 (lv_at hl 18 rfl) ?_
    obtain ⟨r_2, e_3, h⟩ := g_bind h
    refine G_av hY hA (va_runS (As := [.ref (ad 161), .ref (ad 162), .ref (ad 168), .ref (ad 170), .ref (ad 172), .ref (ad 173), .ref (ad 174), .ref (ad 175), .ref (ad 178), .ref (ad 179), .int x24, .long x20, .ref (ad 181)]) (rest := []) ⟨hx, hb, hml, hown, hg⟩ (kL_bisects l D y aS H.size (L ++ [179, 180, 181]) (fun k hk => List.mem_append_left _ (hL k hk)) ⟨by simp, by simp, by simp⟩ ad N σ x24 x20 _ e_3) (va_cwS 13 hg ggS_RL_126_L_bisects rfl rfl rfl (by decide +kernel) ⟨Nat.le_of_ble_eq_true rfl, Nat.le_of_ble_eq_true rfl⟩) (G_pS hK hY) rfl rfl hl.1 rfl (lv_room (Nat.le_of_ble_eq_true rfl)) dL_decides_270 ⟨(by dsimp only; omega), (by dsimp only; omega)⟩) ?_
    clear hY
    rintro H locs hY
    refine lv_aload hx hb dL_decides_273 (lv_at hl 18 rfl) ?_
    refine lv_iconst (v := 2) hx hb dL_decides_275 (by decide) ?_
    refine G_iald (j := 2) hx hb hK hY (by simp) gk_181 (by rw [gl_181]; decide +kernel) (by decide +kernel) dL_decides_276 ?_
    refine lv_if_ge (tgt := 311) hx hb dL_decides_277 (by decide) (fun z_4 => ?_) (fun z_4 => ?_)
    ·
      rw [if_pos z_4] at h
      exact wL_decides_311 hx hb hr hml hown hg hlocks hK hA hL hL2 ha hrec3 (by first | omega | (simp only [g_l0]; omega)) (by first | omega | (simp only [g_l0]; omega)) hY (lv_sub hl [0, 1, 2, 3, 4, 5, 6, 7, 8, 9, 10, 11, 12, 13, 14, 15, 17, 18, 21] rfl) h
    ·
      rw [if_neg z_4] at h
      refine lv_aload_n hx hb dL_decides_280 rfl (lv_at hl 0 rfl) ?_
      refine lv_aload_n hx hb dL_decides_281 rfl (lv_at hl 1 rfl) ?_
      refine lv_aload hx hb dL_decides_282 (lv_at hl 7 rfl) ?_
      refine lv_aload hx hb dL_decides_284 (lv_at hl 9 rfl) ?_
      refine lv_aload hx hb dL_decides_286 (lv_at hl 11 rfl) ?_
      refine lv_aload hx hb dL_decides_288 (lv_at hl 12 rfl) ?_
      refine lv_aload hx hb dL_decides_290 (lv_at hl 13 rfl) ?_
      refine lv_aload hx hb dL_decides_292 (lv_at hl 14 rfl) ?_
      refine lv_aload hx hb dL_decides_294 (lv_at hl 17 rfl) ?_
      refine lv_lload hx hb dL_decides_296 (lv_at hl 19 rfl) ?_
      refine lv_aload hx hb dL_decides_298 (lv_at hl 18 rfl) ?_
      refine lv_iconst (v := 1) hx hb dL_decides_300 (by decide) ?_
      obtain ⟨r_5, e_6, h⟩ := g_bind h
      refine G_ai hY hA (va_runS (As := [.ref (ad 161), .ref (ad 162), .ref (ad 168), .ref (ad 170), .ref (ad 172), .ref (ad 173), .ref (ad 174), .ref (ad 175), .ref (ad 179), .long x20, .ref (ad 181), .int 1]) (rest := []) ⟨hx, hb, hml, hown, hg⟩ (kL_failed l D y aS H.size (L ++ [179, 180, 181]) (fun k hk => List.mem_append_left _ (hL k hk)) ⟨by simp, by simp, by simp⟩ ad N r_2 x20 (1 : Int32) _ e_6) (va_cwS 12 hg ggS_RL_130_L_failed rfl rfl rfl (by decide +kernel) ⟨Nat.le_of_ble_eq_true rfl, Nat.le_of_ble_eq_true rfl⟩) (G_pS hK hY) rfl rfl hl.1 rfl (lv_room (Nat.le_of_ble_eq_true rfl)) dL_decides_301 ⟨(by dsimp only; omega), (by dsimp only; omega)⟩) ?_
      clear hY
      rintro _ H locs rfl hY
      refine lv_if_eq (tgt := 311) hx hb dL_decides_304 (by decide) (fun z_7 => ?_) (fun z_7 => ?_)
      ·
        rw [if_pos z_7] at h
        exact wL_decides_311 hx hb hr hml hown hg hlocks hK hA hL hL2 ha hrec3 (by first | omega | (simp only [g_l0]; omega)) (by first | omega | (simp only [g_l0]; omega)) hY (lv_sub hl [0, 1, 2, 3, 4, 5, 6, 7, 8, 9, 10, 11, 12, 13, 14, 15, 17, 18, 21] rfl) h
      ·
        rw [if_neg z_7] at h
        refine lv_iconst (v := 1) hx hb dL_decides_307 (by decide) ?_
        refine lv_goto (tgt := 312) hx hb dL_decides_308 (by decide) ?_
        exact wL_decides_312 hx hb hr hml hown hg hlocks hK hA hL hL2 ha hrec3 (by first | omega | (simp only [g_l0]; omega)) (by first | omega | (simp only [g_l0]; omega)) hY (lv_sub hl [0, 1, 2, 3, 4, 5, 6, 7, 8, 9, 10, 11, 12, 13, 14, 15, 17, 18, 21] rfl) h
def fL_decides_217 (N : Nat) (rec3 : (gS × Int32) → Option (Int64 × gS)) (σ : gS) (x16 : Int32) (x20 : Int64) (x24 : Int32) (x25 : Int32) : Option (Int64 × gS) := if x25 = 1 then (if (σ.1 161 1) < 0 ∨ 26 ≤ (σ.1 161 1).toNatClampNeg then none else (fL_decides_240 N rec3 (sI (sJ σ 171 ((σ.1 161 1).toNatClampNeg) (σ.2.1 180 0)) 161 1 (((sJ σ 171 ((σ.1 161 1).toNatClampNeg) (σ.2.1 180 0)).1 161 1) + 1)) x16 x20 x24 x25)) else (fL_decides_240 N rec3 σ x16 x20 x24 x25)
set_option maxRecDepth 100000 in
set_option maxHeartbeats 4000000 in
theorem wL_decides_217 {rec3 : (gS × Int32) → Option (Int64 × gS)} {n9 : Nat} {σ : gS} {x16 : Int32} {x20 : Int64} {x24 : Int32} {x25 : Int32} {ad : Nat → Nat} {kc ns : Nat} (hx : p.tables.exec = Jvm.exec) (hb : c.code = cL_decides) (hr : meth.sig.returnType = (some .long)) (hml : c.maxLocals = 27) (hown : s.vm.findClass RL = some m.cls) (hg : ∀ w ∈ wsL_law, w.before args s = true) (hlocks : meth.locks = false) (hK : gK D y aS s) (hA : ∀ q, s.heap.size ≤ q → A q) (hL : ∀ k, k < 179 → k ∈ L) (hL2 : ∀ k ∈ L, k < 179) (ha : ∀ k, k < 179 → ad k = ad0 k) (hrec3 : ∀ {ad : Nat → Nat} {kc ns : Nat} (ha : ∀ k, k < 179 → ad k = ad0 k) {σ9 : gS} {x16n9 : Int32} (hkc : kc + 3 * n9 ≤ 192) (hns : ns + 40 * n9 ≤ 2560) (H : Heap) (locs : List Loc) (ls : Array Slot), gY D y A s L ad σ9 H locs → lv_has ls 27 [(0, .ref (ad 161)), (1, .ref (ad 162)), (2, .ref (ad 163)), (3, .ref (ad 164)), (4, .ref (ad 165)), (5, .ref (ad 166)), (6, .ref (ad 167)), (7, .ref (ad 168)), (8, .ref (ad 169)), (9, .ref (ad 170)), (10, .ref (ad 171)), (11, .ref (ad 172)), (12, .ref (ad 173)), (13, .ref (ad 174)), (14, .ref (ad 175)), (15, .ref (ad 178)), (16, .int x16n9)] → rec3 (σ9, x16n9) = some res → W p l e ({ frames := 5, cells := 192, slots := 2560, locals := 140 } : Room) s m args below meth c H locs kc ns (MQ below (va_Ql (fun (r : Int64) (_ : Unit) => r = res.1) (fun _ => gO D A (GW L y ad0 res.2)) A) args s 192 2560 A) (F0 m 3 ls [])) (hkc : kc + 3 * n9 ≤ 192) (hns : ns + 40 * n9 ≤ 2560) {H : Heap} {locs : List Loc} {ls : Array Slot} (hY : gY D y A s (L ++ [179, 180, 181]) ad σ H locs) (hl : lv_has ls 27 [(0, .ref (ad 161)), (1, .ref (ad 162)), (2, .ref (ad 163)), (3, .ref (ad 164)), (4, .ref (ad 165)), (5, .ref (ad 166)), (6, .ref (ad 167)), (7, .ref (ad 168)), (8, .ref (ad 169)), (9, .ref (ad 170)), (10, .ref (ad 171)), (11, .ref (ad 172)), (12, .ref (ad 173)), (13, .ref (ad 174)), (14, .ref (ad 175)), (15, .ref (ad 178)), (16, .int x16), (17, .ref (ad 179)), (18, .ref (ad 180)), (19, .ref (ad 181)), (20, .long x20), (24, .int x24), (25, .int x25)]) (h : fL_decides_217 N rec3 σ x16 x20 x24 x25 = some res) : W p l e ({ frames := 5, cells := 192, slots := 2560, locals := 140 } : Room) s m args below meth c H locs kc ns (MQ below (va_Ql (fun (r : Int64) (_ : Unit) => r = res.1) (fun _ => gO D A (GW L y ad0 res.2)) A) args s 192 2560 A) (F0 m 217 ls []) := by
  unfold fL_decides_217 at h
  refine lv_iload hx hb dL_decides_217 (lv_at hl 22 rfl) ?_
  refine lv_iconst (v := 1) hx hb dL_decides_219 (by decide) ?_
  refine lv_icmp_ne (tgt := 240) hx hb dL_decides_220 (by decide) (fun z_1 => ?_) (fun z_1 => ?_)
  ·
    rw [if_neg z_1] at h
    exact wL_decides_240 hx hb hr hml hown hg hlocks hK hA hL hL2 ha hrec3 (by first | omega | (simp only [g_l0]; omega)) (by first | omega | (simp only [g_l0]; omega)) hY (lv_sub hl [0, 1, 2, 3, 4, 5, 6, 7, 8, 9, 10, 11, 12, 13, 14, 15, 16, 17, 19, 20, 21, 22] rfl) h
  ·
    rw [if_pos z_1] at h
    refine lv_aload hx hb dL_decides_223 (lv_at hl 10 rfl) ?_
    refine lv_aload_n hx hb dL_decides_225 rfl (lv_at hl 0 rfl) ?_
    refine lv_iconst (v := 1) hx hb dL_decides_226 (by decide) ?_
    refine G_iald (j := 1) hx hb hK hY (List.mem_append_left _ (hL 161 (by decide))) gk_161 (by rw [gl_161]; decide +kernel) (by decide +kernel) dL_decides_227 ?_
    refine lv_aload hx hb dL_decides_228 (lv_at hl 18 rfl) ?_
    refine lv_iconst (v := 0) hx hb dL_decides_230 (by decide) ?_
    refine G_lald (j := 0) hx hb hK hY (by simp) gk_180 (by rw [gl_180]; decide +kernel) (by decide +kernel) dL_decides_231 ?_
    obtain ⟨z_2, h⟩ := g_guard h
    refine G_last (j := (σ.1 161 1).toNatClampNeg) hx hb hK hY (List.mem_append_left _ (hL 171 (by decide))) gk_171 (by rw [gl_171]; exact z_2) rfl dL_decides_232 ?_
    clear hY
    intro H locs hY
    refine lv_aload_n hx hb dL_decides_233 rfl (lv_at hl 0 rfl) ?_
    refine lv_iconst (v := 1) hx hb dL_decides_234 (by decide) ?_
    refine lv_dup2_11 hx hb dL_decides_235 rfl rfl ?_
    refine G_iald (j := 1) hx hb hK hY (List.mem_append_left _ (hL 161 (by decide))) gk_161 (by rw [gl_161]; decide +kernel) (by decide +kernel) dL_decides_236 ?_
    refine lv_iconst (v := 1) hx hb dL_decides_237 (by decide) ?_
    refine lv_iadd hx hb dL_decides_238 ?_
    refine G_iast (j := 1) hx hb hK hY (List.mem_append_left _ (hL 161 (by decide))) gk_161 (by rw [gl_161]; decide +kernel) (by decide +kernel) dL_decides_239 ?_
    clear hY
    intro H locs hY
    exact wL_decides_240 hx hb hr hml hown hg hlocks hK hA hL hL2 ha hrec3 (by first | omega | (simp only [g_l0]; omega)) (by first | omega | (simp only [g_l0]; omega)) hY (lv_sub hl [0, 1, 2, 3, 4, 5, 6, 7, 8, 9, 10, 11, 12, 13, 14, 15, 16, 17, 19, 20, 21, 22] rfl) h
def fL_decides_179 (N : Nat) (rec3 : (gS × Int32) → Option (Int64 × gS)) (x16 : Int32) (x20 : Int64) (x24 : Int32) (x25 : Int32) (rec179 : (gS × Int32) → Option (Int64 × gS)) (xx : gS × Int32) : Option (Int64 × gS) := match xx with
  | (σ, x26) => if x24 ≤ x26 then (fL_decides_217 N rec3 σ x16 x20 x24 x25) else (if x25 = 1 then (if x26 < 0 ∨ 32 ≤ x26.toNatClampNeg then none else (if (σ.1 179 x26.toNatClampNeg) < 0 ∨ 24 ≤ (σ.1 179 x26.toNatClampNeg).toNatClampNeg then none else (if x26 < 0 ∨ 32 ≤ x26.toNatClampNeg then none else (if ((sI σ 164 ((σ.1 179 x26.toNatClampNeg).toNatClampNeg) 2).1 179 x26.toNatClampNeg) < 0 ∨ 24 ≤ ((sI σ 164 ((σ.1 179 x26.toNatClampNeg).toNatClampNeg) 2).1 179 x26.toNatClampNeg).toNatClampNeg then none else (rec179 ((sI (sI σ 164 ((σ.1 179 x26.toNatClampNeg).toNatClampNeg) 2) 167 (((sI σ 164 ((σ.1 179 x26.toNatClampNeg).toNatClampNeg) 2).1 179 x26.toNatClampNeg).toNatClampNeg) ((sI σ 164 ((σ.1 179 x26.toNatClampNeg).toNatClampNeg) 2).1 161 1)), (x26 + 1))))))) else (fL_decides_217 N rec3 σ x16 x20 x24 x25))
set_option maxRecDepth 100000 in
set_option maxHeartbeats 4000000 in
theorem wL_decides_179 {n9 : Nat} {rec3 : (gS × Int32) → Option (Int64 × gS)} {x16 : Int32} {x20 : Int64} {x24 : Int32} {x25 : Int32} (hx : p.tables.exec = Jvm.exec) (hb : c.code = cL_decides) (hr : meth.sig.returnType = (some .long)) (hml : c.maxLocals = 27) (hown : s.vm.findClass RL = some m.cls) (hg : ∀ w ∈ wsL_law, w.before args s = true) (hlocks : meth.locks = false) (hK : gK D y aS s) (hA : ∀ q, s.heap.size ≤ q → A q) (hL : ∀ k, k < 179 → k ∈ L) (hL2 : ∀ k ∈ L, k < 179) (hrec3 : ∀ {ad : Nat → Nat} {kc ns : Nat} (ha : ∀ k, k < 179 → ad k = ad0 k) {σ9 : gS} {x16n9 : Int32} (hkc : kc + 3 * n9 ≤ 192) (hns : ns + 40 * n9 ≤ 2560) (H : Heap) (locs : List Loc) (ls : Array Slot), gY D y A s L ad σ9 H locs → lv_has ls 27 [(0, .ref (ad 161)), (1, .ref (ad 162)), (2, .ref (ad 163)), (3, .ref (ad 164)), (4, .ref (ad 165)), (5, .ref (ad 166)), (6, .ref (ad 167)), (7, .ref (ad 168)), (8, .ref (ad 169)), (9, .ref (ad 170)), (10, .ref (ad 171)), (11, .ref (ad 172)), (12, .ref (ad 173)), (13, .ref (ad 174)), (14, .ref (ad 175)), (15, .ref (ad 178)), (16, .int x16n9)] → rec3 (σ9, x16n9) = some res → W p l e ({ frames := 5, cells := 192, slots := 2560, locals := 140 } : Room) s m args below meth c H locs kc ns (MQ below (va_Ql (fun (r : Int64) (_ : Unit) => r = res.1) (fun _ => gO D A (GW L y ad0 res.2)) A) args s 192 2560 A) (F0 m 3 ls [])) : ∀ (n : Nat) {ad : Nat → Nat} {kc ns : Nat} (ha : ∀ k, k < 179 → ad k = ad0 k) {σ : gS} {x26 : Int32} (hkc : kc + 3 * n9 ≤ 192) (hns : ns + 40 * n9 ≤ 2560) (H : Heap) (locs : List Loc) (ls : Array Slot), gY D y A s (L ++ [179, 180, 181]) ad σ H locs → lv_has ls 27 [(0, .ref (ad 161)), (1, .ref (ad 162)), (2, .ref (ad 163)), (3, .ref (ad 164)), (4, .ref (ad 165)), (5, .ref (ad 166)), (6, .ref (ad 167)), (7, .ref (ad 168)), (8, .ref (ad 169)), (9, .ref (ad 170)), (10, .ref (ad 171)), (11, .ref (ad 172)), (12, .ref (ad 173)), (13, .ref (ad 174)), (14, .ref (ad 175)), (15, .ref (ad 178)), (16, .int x16), (17, .ref (ad 179)), (18, .ref (ad 180)), (19, .ref (ad 181)), (20, .long x20), (24, .int x24), (25, .int x25), (26, .int x26)] → lp (fL_decides_179 N rec3 x16 x20 x24 x25) n (σ, x26) = some res → W p l e ({ frames := 5, cells := 192, slots := 2560, locals := 140 } : Room) s m args below meth c H locs kc ns (MQ below (va_Ql (fun (r : Int64) (_ : Unit) => r = res.1) (fun _ => gO D A (GW L y ad0 res.2)) A) args s 192 2560 A) (F0 m 179 ls []) := by
  intro n
  induction n with
  | zero => intro ad kc ns ha σ x26 hkc hns H locs ls hY hl h; exact nomatch (show none = some res from h)
  | succ n hrec179 =>
    intro ad kc ns ha σ x26 hkc hns H locs ls hY hl h
    replace h : fL_decides_179 N rec3 x16 x20 x24 x25 (lp (fL_decides_179 N rec3 x16 x20 x24 x25) n) (σ, x26) = some res := h
    generalize lp (fL_decides_179 N rec3 x16 x20 x24 x25) n = rec179 at h hrec179
    unfold fL_decides_179 at h
    try dsimp only at h
    refine lv_iload hx hb dL_decides_179 (lv_at hl 23 rfl) ?_
    refine lv_iload hx hb dL_decides_181 (lv_at hl 21 rfl) ?_
    refine lv_icmp_ge (tgt := 217) hx hb dL_decides_183 (by decide) (fun z_1 => ?_) (fun z_1 => ?_)
    ·
      rw [if_pos z_1] at h
      exact wL_decides_217 hx hb hr hml hown hg hlocks hK hA hL hL2 ha hrec3 (by first | omega | (simp only [g_l0]; omega)) (by first | omega | (simp only [g_l0]; omega)) hY (lv_sub hl [0, 1, 2, 3, 4, 5, 6, 7, 8, 9, 10, 11, 12, 13, 14, 15, 16, 17, 18, 19, 20, 21, 22] rfl) h
    ·
      rw [if_neg z_1] at h
      refine lv_iload hx hb dL_decides_186 (lv_at hl 22 rfl) ?_
      refine lv_iconst (v := 1) hx hb dL_decides_188 (by decide) ?_
      refine lv_icmp_ne (tgt := 217) hx hb dL_decides_189 (by decide) (fun z_2 => ?_) (fun z_2 => ?_)
      ·
        rw [if_neg z_2] at h
        exact wL_decides_217 hx hb hr hml hown hg hlocks hK hA hL hL2 ha hrec3 (by first | omega | (simp only [g_l0]; omega)) (by first | omega | (simp only [g_l0]; omega)) hY (lv_sub hl [0, 1, 2, 3, 4, 5, 6, 7, 8, 9, 10, 11, 12, 13, 14, 15, 16, 17, 18, 19, 20, 21, 22] rfl) h
      ·
        rw [if_pos z_2] at h
        refine lv_aload_n hx hb dL_decides_192 rfl (lv_at hl 3 rfl) ?_
        refine lv_aload hx hb dL_decides_193 (lv_at hl 17 rfl) ?_
        refine lv_iload hx hb dL_decides_195 (lv_at hl 23 rfl) ?_
        obtain ⟨z_3, h⟩ := g_guard h
        refine G_iald (j := x26.toNatClampNeg) hx hb hK hY (by simp) gk_179 (by rw [gl_179]; exact z_3) rfl dL_decides_197 ?_
        refine lv_iconst (v := 2) hx hb dL_decides_198 (by decide) ?_
        obtain ⟨z_4, h⟩ := g_guard h
        refine G_iast (j := (σ.1 179 x26.toNatClampNeg).toNatClampNeg) hx hb hK hY (List.mem_append_left _ (hL 164 (by decide))) gk_164 (by rw [gl_164]; exact z_4) rfl dL_decides_199 ?_
        clear hY
        intro H locs hY
        refine lv_aload hx hb dL_decides_200 (lv_at hl 6 rfl) ?_
        refine lv_aload hx hb dL_decides_202 (lv_at hl 17 rfl) ?_
        refine lv_iload hx hb dL_decides_204 (lv_at hl 23 rfl) ?_
        obtain ⟨z_5, h⟩ := g_guard h
        refine G_iald (j := x26.toNatClampNeg) hx hb hK hY (by simp) gk_179 (by rw [gl_179]; exact z_5) rfl dL_decides_206 ?_
        refine lv_aload_n hx hb dL_decides_207 rfl (lv_at hl 0 rfl) ?_
        refine lv_iconst (v := 1) hx hb dL_decides_208 (by decide) ?_
        refine G_iald (j := 1) hx hb hK hY (List.mem_append_left _ (hL 161 (by decide))) gk_161 (by rw [gl_161]; decide +kernel) (by decide +kernel) dL_decides_209 ?_
        obtain ⟨z_6, h⟩ := g_guard h
        refine G_iast (j := ((sI σ 164 ((σ.1 179 x26.toNatClampNeg).toNatClampNeg) 2).1 179 x26.toNatClampNeg).toNatClampNeg) hx hb hK hY (List.mem_append_left _ (hL 167 (by decide))) gk_167 (by rw [gl_167]; exact z_6) rfl dL_decides_210 ?_
        clear hY
        intro H locs hY
        refine lv_iinc (v := (x26 + 1)) (lv' := [(26, .int (x26 + 1)), (0, .ref (ad 161)), (1, .ref (ad 162)), (2, .ref (ad 163)), (3, .ref (ad 164)), (4, .ref (ad 165)), (5, .ref (ad 166)), (6, .ref (ad 167)), (7, .ref (ad 168)), (8, .ref (ad 169)), (9, .ref (ad 170)), (10, .ref (ad 171)), (11, .ref (ad 172)), (12, .ref (ad 173)), (13, .ref (ad 174)), (14, .ref (ad 175)), (15, .ref (ad 178)), (16, .int x16), (17, .ref (ad 179)), (18, .ref (ad 180)), (19, .ref (ad 181)), (20, .long x20), (24, .int x24), (25, .int x25)]) hx hb dL_decides_211 hl (k := 23) rfl rfl (by decide) rfl ?_
        clear hl
        intro ls hl
        refine lv_goto (tgt := 179) hx hb dL_decides_214 (by decide) ?_
        exact hrec179 ha (by first | omega | (simp only [g_l0]; omega)) (by first | omega | (simp only [g_l0]; omega)) _ _ _ hY (lv_sub hl [1, 2, 3, 4, 5, 6, 7, 8, 9, 10, 11, 12, 13, 14, 15, 16, 17, 18, 19, 20, 21, 22, 23, 0] rfl) h
def fL_decides_174 (N : Nat) (rec3 : (gS × Int32) → Option (Int64 × gS)) (σ : gS) (x20 : Int64) (x24 : Int32) (x25 : Int32) (xs0 : Int32) : Option (Int64 × gS) := lp (fL_decides_179 N rec3 xs0 x20 x24 x25) N (σ, 0)
set_option maxRecDepth 100000 in
set_option maxHeartbeats 4000000 in
theorem wL_decides_174 {rec3 : (gS × Int32) → Option (Int64 × gS)} {n9 : Nat} {σ : gS} {x20 : Int64} {x24 : Int32} {x25 : Int32} {xs0 : Int32} {ad : Nat → Nat} {kc ns : Nat} (hx : p.tables.exec = Jvm.exec) (hb : c.code = cL_decides) (hr : meth.sig.returnType = (some .long)) (hml : c.maxLocals = 27) (hown : s.vm.findClass RL = some m.cls) (hg : ∀ w ∈ wsL_law, w.before args s = true) (hlocks : meth.locks = false) (hK : gK D y aS s) (hA : ∀ q, s.heap.size ≤ q → A q) (hL : ∀ k, k < 179 → k ∈ L) (hL2 : ∀ k ∈ L, k < 179) (ha : ∀ k, k < 179 → ad k = ad0 k) (hrec3 : ∀ {ad : Nat → Nat} {kc ns : Nat} (ha : ∀ k, k < 179 → ad k = ad0 k) {σ9 : gS} {x16n9 : Int32} (hkc : kc + 3 * n9 ≤ 192) (hns : ns + 40 * n9 ≤ 2560) (H : Heap) (locs : List Loc) (ls : Array Slot), gY D y A s L ad σ9 H locs → lv_has ls 27 [(0, .ref (ad 161)), (1, .ref (ad 162)), (2, .ref (ad 163)), (3, .ref (ad 164)), (4, .ref (ad 165)), (5, .ref (ad 166)), (6, .ref (ad 167)), (7, .ref (ad 168)), (8, .ref (ad 169)), (9, .ref (ad 170)), (10, .ref (ad 171)), (11, .ref (ad 172)), (12, .ref (ad 173)), (13, .ref (ad 174)), (14, .ref (ad 175)), (15, .ref (ad 178)), (16, .int x16n9)] → rec3 (σ9, x16n9) = some res → W p l e ({ frames := 5, cells := 192, slots := 2560, locals := 140 } : Room) s m args below meth c H locs kc ns (MQ below (va_Ql (fun (r : Int64) (_ : Unit) => r = res.1) (fun _ => gO D A (GW L y ad0 res.2)) A) args s 192 2560 A) (F0 m 3 ls [])) (hkc : kc + 3 * n9 ≤ 192) (hns : ns + 40 * n9 ≤ 2560) {H : Heap} {locs : List Loc} {ls : Array Slot} (hY : gY D y A s (L ++ [179, 180, 181]) ad σ H locs) (hl : lv_has ls 27 [(0, .ref (ad 161)), (1, .ref (ad 162)), (2, .ref (ad 163)), (3, .ref (ad 164)), (4, .ref (ad 165)), (5, .ref (ad 166)), (6, .ref (ad 167)), (7, .ref (ad 168)), (8, .ref (ad 169)), (9, .ref (ad 170)), (10, .ref (ad 171)), (11, .ref (ad 172)), (12, .ref (ad 173)), (13, .ref (ad 174)), (14, .ref (ad 175)), (15, .ref (ad 178)), (17, .ref (ad 179)), (18, .ref (ad 180)), (19, .ref (ad 181)), (20, .long x20), (24, .int x24), (25, .int x25)]) (h : fL_decides_174 N rec3 σ x20 x24 x25 xs0 = some res) : W p l e ({ frames := 5, cells := 192, slots := 2560, locals := 140 } : Room) s m args below meth c H locs kc ns (MQ below (va_Ql (fun (r : Int64) (_ : Unit) => r = res.1) (fun _ => gO D A (GW L y ad0 res.2)) A) args s 192 2560 A) (F0 m 174 ls [.int xs0]) := by
  unfold fL_decides_174 at h
  refine lv_istore (lv' := [(16, .int xs0), (0, .ref (ad 161)), (1, .ref (ad 162)), (2, .ref (ad 163)), (3, .ref (ad 164)), (4, .ref (ad 165)), (5, .ref (ad 166)), (6, .ref (ad 167)), (7, .ref (ad 168)), (8, .ref (ad 169)), (9, .ref (ad 170)), (10, .ref (ad 171)), (11, .ref (ad 172)), (12, .ref (ad 173)), (13, .ref (ad 174)), (14, .ref (ad 175)), (15, .ref (ad 178)), (17, .ref (ad 179)), (18, .ref (ad 180)), (19, .ref (ad 181)), (20, .long x20), (24, .int x24), (25, .int x25)]) hx hb dL_decides_174 hl (by decide) rfl ?_
  clear hl
  intro ls hl
  refine lv_iconst (v := 0) hx hb dL_decides_176 (by decide) ?_
  refine lv_istore (lv' := [(26, .int 0), (16, .int xs0), (0, .ref (ad 161)), (1, .ref (ad 162)), (2, .ref (ad 163)), (3, .ref (ad 164)), (4, .ref (ad 165)), (5, .ref (ad 166)), (6, .ref (ad 167)), (7, .ref (ad 168)), (8, .ref (ad 169)), (9, .ref (ad 170)), (10, .ref (ad 171)), (11, .ref (ad 172)), (12, .ref (ad 173)), (13, .ref (ad 174)), (14, .ref (ad 175)), (15, .ref (ad 178)), (17, .ref (ad 179)), (18, .ref (ad 180)), (19, .ref (ad 181)), (20, .long x20), (24, .int x24), (25, .int x25)]) hx hb dL_decides_177 hl (by decide) rfl ?_
  clear hl
  intro ls hl
  exact wL_decides_179 hx hb hr hml hown hg hlocks hK hA hL hL2 hrec3 N ha (by first | omega | (simp only [g_l0]; omega)) (by first | omega | (simp only [g_l0]; omega)) _ _ _ hY (lv_sub hl [2, 3, 4, 5, 6, 7, 8, 9, 10, 11, 12, 13, 14, 15, 16, 17, 1, 18, 19, 20, 21, 22, 23, 0] rfl) h
def fL_decides_92 (N : Nat) (rec3 : (gS × Int32) → Option (Int64 × gS)) (σ : gS) (x16 : Int32) (x20 : Int64) : Option (Int64 × gS) := if x16 = 0 then (fL_decides_364 N rec3 σ x16) else ((fL_batches N σ x20).bind fun r_2 => (fL_many N r_2.2 r_2.1 (0 : Int32)).bind fun r_4 => (fL_requiredOf N r_2.2 (0 : Int32) r_4).bind fun r_6 => (fL_verdicts N r_2.2 r_6 (r_2.2.2.1 180 0)).bind fun r_8 => if r_8 = 1 then (fL_decides_174 N rec3 r_2.2 x20 r_4 r_8 1) else (fL_decides_174 N rec3 r_2.2 x20 r_4 r_8 0))
set_option maxRecDepth 100000 in
set_option maxHeartbeats 4000000 in
theorem wL_decides_92 {rec3 : (gS × Int32) → Option (Int64 × gS)} {n9 : Nat} {σ : gS} {x16 : Int32} {x20 : Int64} {ad : Nat → Nat} {kc ns : Nat} (hx : p.tables.exec = Jvm.exec) (hb : c.code = cL_decides) (hr : meth.sig.returnType = (some .long)) (hml : c.maxLocals = 27) (hown : s.vm.findClass RL = some m.cls) (hg : ∀ w ∈ wsL_law, w.before args s = true) (hlocks : meth.locks = false) (hK : gK D y aS s) (hA : ∀ q, s.heap.size ≤ q → A q) (hL : ∀ k, k < 179 → k ∈ L) (hL2 : ∀ k ∈ L, k < 179) (ha : ∀ k, k < 179 → ad k = ad0 k) (hrec3 : ∀ {ad : Nat → Nat} {kc ns : Nat} (ha : ∀ k, k < 179 → ad k = ad0 k) {σ9 : gS} {x16n9 : Int32} (hkc : kc + 3 * n9 ≤ 192) (hns : ns + 40 * n9 ≤ 2560) (H : Heap) (locs : List Loc) (ls : Array Slot), gY D y A s L ad σ9 H locs → lv_has ls 27 [(0, .ref (ad 161)), (1, .ref (ad 162)), (2, .ref (ad 163)), (3, .ref (ad 164)), (4, .ref (ad 165)), (5, .ref (ad 166)), (6, .ref (ad 167)), (7, .ref (ad 168)), (8, .ref (ad 169)), (9, .ref (ad 170)), (10, .ref (ad 171)), (11, .ref (ad 172)), (12, .ref (ad 173)), (13, .ref (ad 174)), (14, .ref (ad 175)), (15, .ref (ad 178)), (16, .int x16n9)] → rec3 (σ9, x16n9) = some res → W p l e ({ frames := 5, cells := 192, slots := 2560, locals := 140 } : Room) s m args below meth c H locs kc ns (MQ below (va_Ql (fun (r : Int64) (_ : Unit) => r = res.1) (fun _ => gO D A (GW L y ad0 res.2)) A) args s 192 2560 A) (F0 m 3 ls [])) (hkc : kc + 3 * n9 ≤ 192) (hns : ns + 40 * n9 ≤ 2560) {H : Heap} {locs : List Loc} {ls : Array Slot} (hY : gY D y A s (L ++ [179, 180, 181]) ad σ H locs) (hl : lv_has ls 27 [(0, .ref (ad 161)), (1, .ref (ad 162)), (2, .ref (ad 163)), (3, .ref (ad 164)), (4, .ref (ad 165)), (5, .ref (ad 166)), (6, .ref (ad 167)), (7, .ref (ad 168)), (8, .ref (ad 169)), (9, .ref (ad 170)), (10, .ref (ad 171)), (11, .ref (ad 172)), (12, .ref (ad 173)), (13, .ref (ad 174)), (14, .ref (ad 175)), (15, .ref (ad 178)), (16, .int x16), (17, .ref (ad 179)), (18, .ref (ad 180)), (19, .ref (ad 181)), (20, .long x20)]) (h : fL_decides_92 N rec3 σ x16 x20 = some res) : W p l e ({ frames := 5, cells := 192, slots := 2560, locals := 140 } : Room) s m args below meth c H locs kc ns (MQ below (va_Ql (fun (r : Int64) (_ : Unit) => r = res.1) (fun _ => gO D A (GW L y ad0 res.2)) A) args s 192 2560 A) (F0 m 92 ls []) := by
  unfold fL_decides_92 at h
  refine lv_iload hx hb dL_decides_92 (lv_at hl 16 rfl) ?_
  refine lv_if_eq (tgt := 364) hx hb dL_decides_94 (by decide) (fun z_1 => ?_) (fun z_1 => ?_)
  ·
    rw [if_pos z_1] at h
    replace hY := G_drop hY
    exact wL_decides_364 hx hb hr hml hown hg hlocks hK hA hL hL2 ha hrec3 (by first | omega | (simp only [g_l0]; omega)) (by first | omega | (simp only [g_l0]; omega)) hY (lv_sub hl [0, 1, 2, 3, 4, 5, 6, 7, 8, 9, 10, 11, 12, 13, 14, 15, 16] rfl) h
  ·
    rw [if_neg z_1] at h
    refine lv_aload_n hx hb dL_decides_97 rfl (lv_at hl 0 rfl) ?_
    refine lv_aload_n hx hb dL_decides_98 rfl (lv_at hl 2 rfl) ?_
    refine lv_aload_n hx hb dL_decides_99 rfl (lv_at hl 3 rfl) ?_
    refine lv_aload hx hb dL_decides_100 (lv_at hl 4 rfl) ?_
    refine lv_aload hx hb dL_decides_102 (lv_at hl 5 rfl) ?_
    refine lv_aload hx hb dL_decides_104 (lv_at hl 7 rfl) ?_
    refine lv_aload hx hb dL_decides_106 (lv_at hl 8 rfl) ?_
    refine lv_aload hx hb dL_decides_108 (lv_at hl 9 rfl) ?_
    refine lv_lload hx hb dL_decides_110 (lv_at hl 20 rfl) ?_
    refine lv_aload hx hb dL_decides_112 (lv_at hl 17 rfl) ?_
    refine lv_aload hx hb dL_decides_114 (lv_at hl 18 rfl) ?_
    obtain ⟨r_2, e_3, h⟩ := g_bind h
    refine G_ai hY hA (va_runS (As := [.ref (ad 161), .ref (ad 163), .ref (ad 164), .ref (ad 165), .ref (ad 166), .ref (ad 168), .ref (ad 169), .ref (ad 170), .long x20, .ref (ad 179), .ref (ad 180)]) (rest := []) ⟨hx, hb, hml, hown, hg⟩ (kL_batches l D y aS H.size (L ++ [179, 180, 181]) (fun k hk => List.mem_append_left _ (hL k hk)) ⟨by simp, by simp, by simp⟩ ad N σ x20 _ e_3) (va_cwS 11 hg ggS_RL_122_L_batches rfl rfl rfl (by decide +kernel) ⟨Nat.le_of_ble_eq_true rfl, Nat.le_of_ble_eq_true rfl⟩) (G_pS hK hY) rfl rfl hl.1 rfl (lv_room (Nat.le_of_ble_eq_true rfl)) dL_decides_116 ⟨(by dsimp only; omega), (by dsimp only; omega)⟩) ?_
    clear hY
    rintro _ H locs rfl hY
    refine lv_istore (lv' := [(23, .int r_2.1), (0, .ref (ad 161)), (1, .ref (ad 162)), (2, .ref (ad 163)), (3, .ref (ad 164)), (4, .ref (ad 165)), (5, .ref (ad 166)), (6, .ref (ad 167)), (7, .ref (ad 168)), (8, .ref (ad 169)), (9, .ref (ad 170)), (10, .ref (ad 171)), (11, .ref (ad 172)), (12, .ref (ad 173)), (13, .ref (ad 174)), (14, .ref (ad 175)), (15, .ref (ad 178)), (16, .int x16), (17, .ref (ad 179)), (18, .ref (ad 180)), (19, .ref (ad 181)), (20, .long x20)]) hx hb dL_decides_119 hl (by decide) rfl ?_
    clear hl
    intro ls hl
    refine lv_aload hx hb dL_decides_121 (lv_at hl 18 rfl) ?_
    refine lv_iload hx hb dL_decides_123 (lv_at hl 0 rfl) ?_
    refine lv_iconst (v := 0) hx hb dL_decides_125 (by decide) ?_
    obtain ⟨r_4, e_5, h⟩ := g_bind h
    refine G_ai hY hA (va_runS (As := [.ref (ad 179), .int r_2.1, .int 0]) (rest := []) ⟨hx, hb, hml, hown, hg⟩ (kL_many l D y aS H.size (L ++ [179, 180, 181]) (fun k hk => List.mem_append_left _ (hL k hk)) ⟨by simp, by simp, by simp⟩ ad N r_2.2 r_2.1 (0 : Int32) _ e_5) (va_cwS 3 hg ggS_RL_110_L_many rfl rfl rfl (by decide +kernel) ⟨Nat.le_of_ble_eq_true rfl, Nat.le_of_ble_eq_true rfl⟩) (G_pS hK hY) rfl rfl hl.1 rfl (lv_room (Nat.le_of_ble_eq_true rfl)) dL_decides_126 ⟨(by dsimp only; omega), (by dsimp only; omega)⟩) ?_
    clear hY
    rintro _ H locs rfl hY
    refine lv_istore (lv' := [(24, .int r_4), (23, .int r_2.1), (0, .ref (ad 161)), (1, .ref (ad 162)), (2, .ref (ad 163)), (3, .ref (ad 164)), (4, .ref (ad 165)), (5, .ref (ad 166)), (6, .ref (ad 167)), (7, .ref (ad 168)), (8, .ref (ad 169)), (9, .ref (ad 170)), (10, .ref (ad 171)), (11, .ref (ad 172)), (12, .ref (ad 173)), (13, .ref (ad 174)), (14, .ref (ad 175)), (15, .ref (ad 178)), (16, .int x16), (17, .ref (ad 179)), (18, .ref (ad 180)), (19, .ref (ad 181)), (20, .long x20)]) hx hb dL_decides_129 hl (by decide) rfl ?_
    clear hl
    intro ls hl
    refine lv_aload_n hx hb dL_decides_131 rfl (lv_at hl 2 rfl) ?_
    refine lv_aload hx hb dL_decides_132 (lv_at hl 13 rfl) ?_
    refine lv_aload hx hb dL_decides_134 (lv_at hl 15 rfl) ?_
    refine lv_aload hx hb dL_decides_136 (lv_at hl 16 rfl) ?_
    refine lv_aload_n hx hb dL_decides_138 rfl (lv_at hl 2 rfl) ?_
    refine lv_aload_n hx hb dL_decides_139 rfl (lv_at hl 3 rfl) ?_
    refine lv_aload hx hb dL_decides_140 (lv_at hl 9 rfl) ?_
    refine lv_aload hx hb dL_decides_142 (lv_at hl 13 rfl) ?_
    refine lv_aload hx hb dL_decides_144 (lv_at hl 14 rfl) ?_
    refine lv_aload hx hb dL_decides_146 (lv_at hl 19 rfl) ?_
    refine lv_iconst (v := 0) hx hb dL_decides_148 (by decide) ?_
    refine lv_iload hx hb dL_decides_149 (lv_at hl 0 rfl) ?_
    obtain ⟨r_6, e_7, h⟩ := g_bind h
    refine G_ai hY hA (va_runS (As := [.ref (ad 161), .ref (ad 162), .ref (ad 168), .ref (ad 172), .ref (ad 173), .ref (ad 179), .int 0, .int r_4]) (rest := [.ref (ad 175), .ref (ad 174), .ref (ad 172), .ref (ad 161)]) ⟨hx, hb, hml, hown, hg⟩ (kL_requiredOf l D y aS H.size (L ++ [179, 180, 181]) (fun k hk => List.mem_append_left _ (hL k hk)) ⟨by simp, by simp, by simp⟩ ad N r_2.2 (0 : Int32) r_4 _ e_7) (va_cwS 8 hg ggS_RL_56_L_requiredOf rfl rfl rfl (by decide +kernel) ⟨Nat.le_of_ble_eq_true rfl, Nat.le_of_ble_eq_true rfl⟩) (G_pS hK hY) rfl rfl hl.1 rfl (lv_room (Nat.le_of_ble_eq_true rfl)) dL_decides_151 ⟨(by dsimp only; omega), (by dsimp only; omega)⟩) ?_
    clear hY
    rintro _ H locs rfl hY
    refine lv_aload hx hb dL_decides_154 (lv_at hl 20 rfl) ?_
    refine lv_iconst (v := 0) hx hb dL_decides_156 (by decide) ?_
    refine G_lald (j := 0) hx hb hK hY (by simp) gk_180 (by rw [gl_180]; decide +kernel) (by decide +kernel) dL_decides_157 ?_
    obtain ⟨r_8, e_9, h⟩ := g_bind h
    refine G_ai hY hA (va_runS (As := [.ref (ad 161), .ref (ad 172), .ref (ad 174), .ref (ad 175), .int r_6, .long (r_2.2.2.1 180 0)]) (rest := []) ⟨hx, hb, hml, hown, hg⟩ (kL_verdicts l D y aS H.size (L ++ [179, 180, 181]) (fun k hk => List.mem_append_left _ (hL k hk)) ad N r_2.2 r_6 (r_2.2.2.1 180 0) _ e_9) (va_cwS 6 hg ggS_RL_64_L_verdicts rfl rfl rfl (by decide +kernel) ⟨Nat.le_of_ble_eq_true rfl, Nat.le_of_ble_eq_true rfl⟩) (G_pS hK hY) rfl rfl hl.1 rfl (lv_room (Nat.le_of_ble_eq_true rfl)) dL_decides_158 ⟨(by dsimp only; omega), (by dsimp only; omega)⟩) ?_
    clear hY
    rintro _ H locs rfl hY
    refine lv_istore (lv' := [(25, .int r_8), (24, .int r_4), (23, .int r_2.1), (0, .ref (ad 161)), (1, .ref (ad 162)), (2, .ref (ad 163)), (3, .ref (ad 164)), (4, .ref (ad 165)), (5, .ref (ad 166)), (6, .ref (ad 167)), (7, .ref (ad 168)), (8, .ref (ad 169)), (9, .ref (ad 170)), (10, .ref (ad 171)), (11, .ref (ad 172)), (12, .ref (ad 173)), (13, .ref (ad 174)), (14, .ref (ad 175)), (15, .ref (ad 178)), (16, .int x16), (17, .ref (ad 179)), (18, .ref (ad 180)), (19, .ref (ad 181)), (20, .long x20)]) hx hb dL_decides_161 hl (by decide) rfl ?_
    clear hl
    intro ls hl
    refine lv_iload hx hb dL_decides_163 (lv_at hl 0 rfl) ?_
    refine lv_iconst (v := 1) hx hb dL_decides_165 (by decide) ?_
    refine lv_icmp_ne (tgt := 173) hx hb dL_decides_166 (by decide) (fun z_10 => ?_) (fun z_10 => ?_)
    ·
      rw [if_neg z_10] at h
      refine lv_iconst (v := 0) hx hb dL_decides_173 (by decide) ?_
      exact wL_decides_174 hx hb hr hml hown hg hlocks hK hA hL hL2 ha hrec3 (by first | omega | (simp only [g_l0]; omega)) (by first | omega | (simp only [g_l0]; omega)) hY (lv_sub hl [3, 4, 5, 6, 7, 8, 9, 10, 11, 12, 13, 14, 15, 16, 17, 18, 20, 21, 22, 23, 1, 0] rfl) h
    ·
      rw [if_pos z_10] at h
      refine lv_iconst (v := 1) hx hb dL_decides_169 (by decide) ?_
      refine lv_goto (tgt := 174) hx hb dL_decides_170 (by decide) ?_
      exact wL_decides_174 hx hb hr hml hown hg hlocks hK hA hL hL2 ha hrec3 (by first | omega | (simp only [g_l0]; omega)) (by first | omega | (simp only [g_l0]; omega)) hY (lv_sub hl [3, 4, 5, 6, 7, 8, 9, 10, 11, 12, 13, 14, 15, 16, 17, 18, 20, 21, 22, 23, 1, 0] rfl) h
def fL_decides_57 (N : Nat) (rec3 : (gS × Int32) → Option (Int64 × gS)) (σ : gS) (x20 : Int64) (x22 : Int32) (xs0 : Int32) : Option (Int64 × gS) := if xs0 = 0 then (fL_decides_92 N rec3 σ xs0 x20) else ((fL_fits N σ x22 x20).bind fun r_2 => if r_2 = 0 then ((fL_leaves N σ x22 (4 : Int32)).bind fun r_5 => fL_decides_364 N rec3 r_5.2 xs0) else (fL_decides_92 N rec3 σ xs0 x20))
set_option maxRecDepth 100000 in
set_option maxHeartbeats 4000000 in
theorem wL_decides_57 {rec3 : (gS × Int32) → Option (Int64 × gS)} {n9 : Nat} {σ : gS} {x20 : Int64} {x22 : Int32} {xs0 : Int32} {ad : Nat → Nat} {kc ns : Nat} (hx : p.tables.exec = Jvm.exec) (hb : c.code = cL_decides) (hr : meth.sig.returnType = (some .long)) (hml : c.maxLocals = 27) (hown : s.vm.findClass RL = some m.cls) (hg : ∀ w ∈ wsL_law, w.before args s = true) (hlocks : meth.locks = false) (hK : gK D y aS s) (hA : ∀ q, s.heap.size ≤ q → A q) (hL : ∀ k, k < 179 → k ∈ L) (hL2 : ∀ k ∈ L, k < 179) (ha : ∀ k, k < 179 → ad k = ad0 k) (hrec3 : ∀ {ad : Nat → Nat} {kc ns : Nat} (ha : ∀ k, k < 179 → ad k = ad0 k) {σ9 : gS} {x16n9 : Int32} (hkc : kc + 3 * n9 ≤ 192) (hns : ns + 40 * n9 ≤ 2560) (H : Heap) (locs : List Loc) (ls : Array Slot), gY D y A s L ad σ9 H locs → lv_has ls 27 [(0, .ref (ad 161)), (1, .ref (ad 162)), (2, .ref (ad 163)), (3, .ref (ad 164)), (4, .ref (ad 165)), (5, .ref (ad 166)), (6, .ref (ad 167)), (7, .ref (ad 168)), (8, .ref (ad 169)), (9, .ref (ad 170)), (10, .ref (ad 171)), (11, .ref (ad 172)), (12, .ref (ad 173)), (13, .ref (ad 174)), (14, .ref (ad 175)), (15, .ref (ad 178)), (16, .int x16n9)] → rec3 (σ9, x16n9) = some res → W p l e ({ frames := 5, cells := 192, slots := 2560, locals := 140 } : Room) s m args below meth c H locs kc ns (MQ below (va_Ql (fun (r : Int64) (_ : Unit) => r = res.1) (fun _ => gO D A (GW L y ad0 res.2)) A) args s 192 2560 A) (F0 m 3 ls [])) (hkc : kc + 3 * n9 ≤ 192) (hns : ns + 40 * n9 ≤ 2560) {H : Heap} {locs : List Loc} {ls : Array Slot} (hY : gY D y A s (L ++ [179, 180, 181]) ad σ H locs) (hl : lv_has ls 27 [(0, .ref (ad 161)), (1, .ref (ad 162)), (2, .ref (ad 163)), (3, .ref (ad 164)), (4, .ref (ad 165)), (5, .ref (ad 166)), (6, .ref (ad 167)), (7, .ref (ad 168)), (8, .ref (ad 169)), (9, .ref (ad 170)), (10, .ref (ad 171)), (11, .ref (ad 172)), (12, .ref (ad 173)), (13, .ref (ad 174)), (14, .ref (ad 175)), (15, .ref (ad 178)), (17, .ref (ad 179)), (18, .ref (ad 180)), (19, .ref (ad 181)), (20, .long x20), (22, .int x22)]) (h : fL_decides_57 N rec3 σ x20 x22 xs0 = some res) : W p l e ({ frames := 5, cells := 192, slots := 2560, locals := 140 } : Room) s m args below meth c H locs kc ns (MQ below (va_Ql (fun (r : Int64) (_ : Unit) => r = res.1) (fun _ => gO D A (GW L y ad0 res.2)) A) args s 192 2560 A) (F0 m 57 ls [.int xs0]) := by
  unfold fL_decides_57 at h
  refine lv_istore (lv' := [(16, .int xs0), (0, .ref (ad 161)), (1, .ref (ad 162)), (2, .ref (ad 163)), (3, .ref (ad 164)), (4, .ref (ad 165)), (5, .ref (ad 166)), (6, .ref (ad 167)), (7, .ref (ad 168)), (8, .ref (ad 169)), (9, .ref (ad 170)), (10, .ref (ad 171)), (11, .ref (ad 172)), (12, .ref (ad 173)), (13, .ref (ad 174)), (14, .ref (ad 175)), (15, .ref (ad 178)), (17, .ref (ad 179)), (18, .ref (ad 180)), (19, .ref (ad 181)), (20, .long x20), (22, .int x22)]) hx hb dL_decides_57 hl (by decide) rfl ?_
  clear hl
  intro ls hl
  refine lv_iload hx hb dL_decides_59 (lv_at hl 0 rfl) ?_
  refine lv_if_eq (tgt := 92) hx hb dL_decides_61 (by decide) (fun z_1 => ?_) (fun z_1 => ?_)
  ·
    rw [if_pos z_1] at h
    exact wL_decides_92 hx hb hr hml hown hg hlocks hK hA hL hL2 ha hrec3 (by first | omega | (simp only [g_l0]; omega)) (by first | omega | (simp only [g_l0]; omega)) hY (lv_sub hl [1, 2, 3, 4, 5, 6, 7, 8, 9, 10, 11, 12, 13, 14, 15, 16, 0, 17, 18, 19, 20] rfl) h
  ·
    rw [if_neg z_1] at h
    refine lv_aload hx hb dL_decides_64 (lv_at hl 8 rfl) ?_
    refine lv_aload hx hb dL_decides_66 (lv_at hl 9 rfl) ?_
    refine lv_iload hx hb dL_decides_68 (lv_at hl 21 rfl) ?_
    refine lv_lload hx hb dL_decides_70 (lv_at hl 20 rfl) ?_
    obtain ⟨r_2, e_3, h⟩ := g_bind h
    refine G_ai hY hA (va_runS (As := [.ref (ad 168), .ref (ad 169), .int x22, .long x20]) (rest := []) ⟨hx, hb, hml, hown, hg⟩ (kL_fits l D y aS H.size (L ++ [179, 180, 181]) (fun k hk => List.mem_append_left _ (hL k hk)) ad N σ x22 x20 _ e_3) (va_cwS 4 hg ggS_RL_45_L_fits rfl rfl rfl (by decide +kernel) ⟨Nat.le_of_ble_eq_true rfl, Nat.le_of_ble_eq_true rfl⟩) (G_pS hK hY) rfl rfl hl.1 rfl (lv_room (Nat.le_of_ble_eq_true rfl)) dL_decides_72 ⟨(by dsimp only; omega), (by dsimp only; omega)⟩) ?_
    clear hY
    rintro _ H locs rfl hY
    refine lv_if_ne (tgt := 92) hx hb dL_decides_75 (by decide) (fun z_4 => ?_) (fun z_4 => ?_)
    ·
      rw [if_neg z_4] at h
      exact wL_decides_92 hx hb hr hml hown hg hlocks hK hA hL hL2 ha hrec3 (by first | omega | (simp only [g_l0]; omega)) (by first | omega | (simp only [g_l0]; omega)) hY (lv_sub hl [1, 2, 3, 4, 5, 6, 7, 8, 9, 10, 11, 12, 13, 14, 15, 16, 0, 17, 18, 19, 20] rfl) h
    ·
      rw [if_pos z_4] at h
      refine lv_aload_n hx hb dL_decides_78 rfl (lv_at hl 1 rfl) ?_
      refine lv_aload_n hx hb dL_decides_79 rfl (lv_at hl 3 rfl) ?_
      refine lv_aload_n hx hb dL_decides_80 rfl (lv_at hl 4 rfl) ?_
      refine lv_iload hx hb dL_decides_81 (lv_at hl 21 rfl) ?_
      refine lv_iconst (v := 4) hx hb dL_decides_83 (by decide) ?_
      obtain ⟨r_5, e_6, h⟩ := g_bind h
      refine G_ai hY hA (va_runS (As := [.ref (ad 161), .ref (ad 163), .ref (ad 164), .int x22, .int 4]) (rest := []) ⟨hx, hb, hml, hown, hg⟩ (kL_leaves l D y aS H.size (L ++ [179, 180, 181]) (fun k hk => List.mem_append_left _ (hL k hk)) ad N σ x22 (4 : Int32) _ e_6) (va_cwS 5 hg ggS_RL_142_L_leaves rfl rfl rfl (by decide +kernel) ⟨Nat.le_of_ble_eq_true rfl, Nat.le_of_ble_eq_true rfl⟩) (G_pS hK hY) rfl rfl hl.1 rfl (lv_room (Nat.le_of_ble_eq_true rfl)) dL_decides_84 ⟨(by dsimp only; omega), (by dsimp only; omega)⟩) ?_
      clear hY
      rintro _ H locs rfl hY
      refine lv_istore (lv' := [(23, .int r_5.1), (16, .int xs0), (0, .ref (ad 161)), (1, .ref (ad 162)), (2, .ref (ad 163)), (3, .ref (ad 164)), (4, .ref (ad 165)), (5, .ref (ad 166)), (6, .ref (ad 167)), (7, .ref (ad 168)), (8, .ref (ad 169)), (9, .ref (ad 170)), (10, .ref (ad 171)), (11, .ref (ad 172)), (12, .ref (ad 173)), (13, .ref (ad 174)), (14, .ref (ad 175)), (15, .ref (ad 178)), (17, .ref (ad 179)), (18, .ref (ad 180)), (19, .ref (ad 181)), (20, .long x20), (22, .int x22)]) hx hb dL_decides_87 hl (by decide) rfl ?_
      clear hl
      intro ls hl
      refine lv_goto (tgt := 364) hx hb dL_decides_89 (by decide) ?_
      replace hY := G_drop hY
      exact wL_decides_364 hx hb hr hml hown hg hlocks hK hA hL hL2 ha hrec3 (by first | omega | (simp only [g_l0]; omega)) (by first | omega | (simp only [g_l0]; omega)) hY (lv_sub hl [2, 3, 4, 5, 6, 7, 8, 9, 10, 11, 12, 13, 14, 15, 16, 17, 1] rfl) h
def fL_decides_3 (N : Nat) (rec3 : (gS × Int32) → Option (Int64 × gS)) (xx : gS × Int32) : Option (Int64 × gS) := match xx with
  | (σ, x16) => if x16 = 0 then (if ((σ.1 161 1) - 1) < 0 ∨ 26 ≤ ((σ.1 161 1) - 1).toNatClampNeg then none else (some ((σ.2.1 171 (((σ.1 161 1) - 1).toNatClampNeg)), σ))) else (if (((zI (zJ (zI σ 179) 180) 181).1 161 1) - 1) < 0 ∨ 26 ≤ (((zI (zJ (zI σ 179) 180) 181).1 161 1) - 1).toNatClampNeg then none else ((fL_next N (zI (zJ (zI σ 179) 180) 181) (0 : Int32)).bind fun r_4 => if r_4 < 0 then (fL_decides_57 N rec3 (zI (zJ (zI σ 179) 180) 181) ((zI (zJ (zI σ 179) 180) 181).2.1 171 ((((zI (zJ (zI σ 179) 180) 181).1 161 1) - 1).toNatClampNeg)) r_4 0) else (fL_decides_57 N rec3 (zI (zJ (zI σ 179) 180) 181) ((zI (zJ (zI σ 179) 180) 181).2.1 171 ((((zI (zJ (zI σ 179) 180) 181).1 161 1) - 1).toNatClampNeg)) r_4 1)))
set_option maxRecDepth 100000 in
set_option maxHeartbeats 4000000 in
theorem wL_decides_3 (hx : p.tables.exec = Jvm.exec) (hb : c.code = cL_decides) (hr : meth.sig.returnType = (some .long)) (hml : c.maxLocals = 27) (hown : s.vm.findClass RL = some m.cls) (hg : ∀ w ∈ wsL_law, w.before args s = true) (hlocks : meth.locks = false) (hK : gK D y aS s) (hA : ∀ q, s.heap.size ≤ q → A q) (hL : ∀ k, k < 179 → k ∈ L) (hL2 : ∀ k ∈ L, k < 179) : ∀ (n : Nat) {ad : Nat → Nat} {kc ns : Nat} (ha : ∀ k, k < 179 → ad k = ad0 k) {σ : gS} {x16 : Int32} (hkc : kc + 3 * n ≤ 192) (hns : ns + 40 * n ≤ 2560) (H : Heap) (locs : List Loc) (ls : Array Slot), gY D y A s L ad σ H locs → lv_has ls 27 [(0, .ref (ad 161)), (1, .ref (ad 162)), (2, .ref (ad 163)), (3, .ref (ad 164)), (4, .ref (ad 165)), (5, .ref (ad 166)), (6, .ref (ad 167)), (7, .ref (ad 168)), (8, .ref (ad 169)), (9, .ref (ad 170)), (10, .ref (ad 171)), (11, .ref (ad 172)), (12, .ref (ad 173)), (13, .ref (ad 174)), (14, .ref (ad 175)), (15, .ref (ad 178)), (16, .int x16)] → lp (fL_decides_3 N) n (σ, x16) = some res → W p l e ({ frames := 5, cells := 192, slots := 2560, locals := 140 } : Room) s m args below meth c H locs kc ns (MQ below (va_Ql (fun (r : Int64) (_ : Unit) => r = res.1) (fun _ => gO D A (GW L y ad0 res.2)) A) args s 192 2560 A) (F0 m 3 ls []) := by
  intro n
  induction n with
  | zero => intro ad kc ns ha σ x16 hkc hns H locs ls hY hl h; exact nomatch (show none = some res from h)
  | succ n hrec3 =>
    intro ad kc ns ha σ x16 hkc hns H locs ls hY hl h
    replace h : fL_decides_3 N (lp (fL_decides_3 N) n) (σ, x16) = some res := h
    generalize lp (fL_decides_3 N) n = rec3 at h hrec3
    unfold fL_decides_3 at h
    try dsimp only at h
    refine lv_iload hx hb dL_decides_3 (lv_at hl 16 rfl) ?_
    refine lv_if_eq (tgt := 367) hx hb dL_decides_5 (by decide) (fun z_1 => ?_) (fun z_1 => ?_)
    ·
      rw [if_pos z_1] at h
      refine lv_aload hx hb dL_decides_367 (lv_at hl 10 rfl) ?_
      refine lv_aload_n hx hb dL_decides_369 rfl (lv_at hl 0 rfl) ?_
      refine lv_iconst (v := 1) hx hb dL_decides_370 (by decide) ?_
      refine G_iald (j := 1) hx hb hK hY (hL 161 (by decide)) gk_161 (by rw [gl_161]; decide +kernel) (by decide +kernel) dL_decides_371 ?_
      refine lv_iconst (v := 1) hx hb dL_decides_372 (by decide) ?_
      refine lv_isub hx hb dL_decides_373 ?_
      obtain ⟨z_2, h⟩ := g_guard h
      refine G_lald (j := ((σ.1 161 1) - 1).toNatClampNeg) hx hb hK hY (hL 171 (by decide)) gk_171 (by rw [gl_171]; exact z_2) rfl dL_decides_374 ?_
      cases h
      replace hY := G_ad hL2 ha hY
      exact g_lret hx hb hr hlocks () hY.1 hY.2.1 hY.2.2 rfl (by omega) (by omega) dL_decides_375
    ·
      rw [if_neg z_1] at h
      refine lv_bipush (v := 32) hx hb dL_decides_8 (by decide +kernel) ?_
      refine G_newI (K := 179) hx hb hg hK hA hY hL2 (by decide) gk_179 (by decide +kernel) (by rw [gl_179]; decide +kernel) (by rw [gl_179]; decide +kernel) (by dsimp only; omega) (by dsimp only; rw [gl_179]; omega) dL_decides_10 ?_
      intro q179 H hY
      obtain ⟨ad, had⟩ : ∃ x, x = adU ad 179 q179 := ⟨_, rfl⟩
      rw [← had] at hY ⊢
      have hu := adU_ne had
      clear had
      rw [gl_179]
      replace hl : lv_has ls 27 [(0, .ref (ad 161)), (1, .ref (ad 162)), (2, .ref (ad 163)), (3, .ref (ad 164)), (4, .ref (ad 165)), (5, .ref (ad 166)), (6, .ref (ad 167)), (7, .ref (ad 168)), (8, .ref (ad 169)), (9, .ref (ad 170)), (10, .ref (ad 171)), (11, .ref (ad 172)), (12, .ref (ad 173)), (13, .ref (ad 174)), (14, .ref (ad 175)), (15, .ref (ad 178)), (16, .int x16)] := by rw [hu 161 (by decide), hu 162 (by decide), hu 163 (by decide), hu 164 (by decide), hu 165 (by decide), hu 166 (by decide), hu 167 (by decide), hu 168 (by decide), hu 169 (by decide), hu 170 (by decide), hu 171 (by decide), hu 172 (by decide), hu 173 (by decide), hu 174 (by decide), hu 175 (by decide), hu 178 (by decide)]; exact hl
      replace ha : ∀ k, k < 179 → ad k = ad0 k := fun k hk => (hu k (by omega)).trans (ha k hk)
      clear hu
      refine lv_astore (lv' := [(17, .ref (ad 179)), (0, .ref (ad 161)), (1, .ref (ad 162)), (2, .ref (ad 163)), (3, .ref (ad 164)), (4, .ref (ad 165)), (5, .ref (ad 166)), (6, .ref (ad 167)), (7, .ref (ad 168)), (8, .ref (ad 169)), (9, .ref (ad 170)), (10, .ref (ad 171)), (11, .ref (ad 172)), (12, .ref (ad 173)), (13, .ref (ad 174)), (14, .ref (ad 175)), (15, .ref (ad 178)), (16, .int x16)]) hx hb dL_decides_12 hl (by decide) rfl ?_
      clear hl
      intro ls hl
      refine lv_iconst (v := 5) hx hb dL_decides_14 (by decide) ?_
      refine G_newJ (K := 180) hx hb hg hK hA hY (fun k hk => (List.mem_append.mp hk).elim (fun h => Nat.lt_trans (hL2 k h) (by decide)) (fun h => by simp at h; omega)) (by decide) gk_180 (by decide +kernel) (by rw [gl_180]; decide +kernel) (by rw [gl_180]; decide +kernel) (by dsimp only; omega) (by dsimp only; rw [gl_180]; omega) dL_decides_15 ?_
      intro q180 H hY
      obtain ⟨ad, had⟩ : ∃ x, x = adU ad 180 q180 := ⟨_, rfl⟩
      rw [← had] at hY ⊢
      have hu := adU_ne had
      clear had
      rw [gl_180]
      replace hl : lv_has ls 27 [(17, .ref (ad 179)), (0, .ref (ad 161)), (1, .ref (ad 162)), (2, .ref (ad 163)), (3, .ref (ad 164)), (4, .ref (ad 165)), (5, .ref (ad 166)), (6, .ref (ad 167)), (7, .ref (ad 168)), (8, .ref (ad 169)), (9, .ref (ad 170)), (10, .ref (ad 171)), (11, .ref (ad 172)), (12, .ref (ad 173)), (13, .ref (ad 174)), (14, .ref (ad 175)), (15, .ref (ad 178)), (16, .int x16)] := by rw [hu 179 (by decide), hu 161 (by decide), hu 162 (by decide), hu 163 (by decide), hu 164 (by decide), hu 165 (by decide), hu 166 (by decide), hu 167 (by decide), hu 168 (by decide), hu 169 (by decide), hu 170 (by decide), hu 171 (by decide), hu 172 (by decide), hu 173 (by decide), hu 174 (by decide), hu 175 (by decide), hu 178 (by decide)]; exact hl
      replace ha : ∀ k, k < 179 → ad k = ad0 k := fun k hk => (hu k (by omega)).trans (ha k hk)
      clear hu
      replace hY : gY D y A s (L ++ [179, 180]) ad (zJ (zI σ 179) 180) H locs := by rw [List.append_assoc] at hY; exact hY
      refine lv_astore (lv' := [(18, .ref (ad 180)), (17, .ref (ad 179)), (0, .ref (ad 161)), (1, .ref (ad 162)), (2, .ref (ad 163)), (3, .ref (ad 164)), (4, .ref (ad 165)), (5, .ref (ad 166)), (6, .ref (ad 167)), (7, .ref (ad 168)), (8, .ref (ad 169)), (9, .ref (ad 170)), (10, .ref (ad 171)), (11, .ref (ad 172)), (12, .ref (ad 173)), (13, .ref (ad 174)), (14, .ref (ad 175)), (15, .ref (ad 178)), (16, .int x16)]) hx hb dL_decides_17 hl (by decide) rfl ?_
      clear hl
      intro ls hl
      refine lv_iconst (v := 3) hx hb dL_decides_19 (by decide) ?_
      refine G_newI (K := 181) hx hb hg hK hA hY (fun k hk => (List.mem_append.mp hk).elim (fun h => Nat.lt_trans (hL2 k h) (by decide)) (fun h => by simp at h; omega)) (by decide) gk_181 (by decide +kernel) (by rw [gl_181]; decide +kernel) (by rw [gl_181]; decide +kernel) (by dsimp only; omega) (by dsimp only; rw [gl_181]; omega) dL_decides_20 ?_
      intro q181 H hY
      obtain ⟨ad, had⟩ : ∃ x, x = adU ad 181 q181 := ⟨_, rfl⟩
      rw [← had] at hY ⊢
      have hu := adU_ne had
      clear had
      rw [gl_181]
      replace hl : lv_has ls 27 [(18, .ref (ad 180)), (17, .ref (ad 179)), (0, .ref (ad 161)), (1, .ref (ad 162)), (2, .ref (ad 163)), (3, .ref (ad 164)), (4, .ref (ad 165)), (5, .ref (ad 166)), (6, .ref (ad 167)), (7, .ref (ad 168)), (8, .ref (ad 169)), (9, .ref (ad 170)), (10, .ref (ad 171)), (11, .ref (ad 172)), (12, .ref (ad 173)), (13, .ref (ad 174)), (14, .ref (ad 175)), (15, .ref (ad 178)), (16, .int x16)] := by rw [hu 180 (by decide), hu 179 (by decide), hu 161 (by decide), hu 162 (by decide), hu 163 (by decide), hu 164 (by decide), hu 165 (by decide), hu 166 (by decide), hu 167 (by decide), hu 168 (by decide), hu 169 (by decide), hu 170 (by decide), hu 171 (by decide), hu 172 (by decide), hu 173 (by decide), hu 174 (by decide), hu 175 (by decide), hu 178 (by decide)]; exact hl
      replace ha : ∀ k, k < 179 → ad k = ad0 k := fun k hk => (hu k (by omega)).trans (ha k hk)
      clear hu
      replace hY : gY D y A s (L ++ [179, 180, 181]) ad (zI (zJ (zI σ 179) 180) 181) H locs := by rw [List.append_assoc] at hY; exact hY
      refine lv_astore (lv' := [(19, .ref (ad 181)), (18, .ref (ad 180)), (17, .ref (ad 179)), (0, .ref (ad 161)), (1, .ref (ad 162)), (2, .ref (ad 163)), (3, .ref (ad 164)), (4, .ref (ad 165)), (5, .ref (ad 166)), (6, .ref (ad 167)), (7, .ref (ad 168)), (8, .ref (ad 169)), (9, .ref (ad 170)), (10, .ref (ad 171)), (11, .ref (ad 172)), (12, .ref (ad 173)), (13, .ref (ad 174)), (14, .ref (ad 175)), (15, .ref (ad 178)), (16, .int x16)]) hx hb dL_decides_22 hl (by decide) rfl ?_
      clear hl
      intro ls hl
      refine lv_aload hx hb dL_decides_24 (lv_at hl 13 rfl) ?_
      refine lv_aload_n hx hb dL_decides_26 rfl (lv_at hl 3 rfl) ?_
      refine lv_iconst (v := 1) hx hb dL_decides_27 (by decide) ?_
      refine G_iald (j := 1) hx hb hK hY (List.mem_append_left _ (hL 161 (by decide))) gk_161 (by rw [gl_161]; decide +kernel) (by decide +kernel) dL_decides_28 ?_
      refine lv_iconst (v := 1) hx hb dL_decides_29 (by decide) ?_
      refine lv_isub hx hb dL_decides_30 ?_
      obtain ⟨z_3, h⟩ := g_guard h
      refine G_lald (j := (((zI (zJ (zI σ 179) 180) 181).1 161 1) - 1).toNatClampNeg) hx hb hK hY (List.mem_append_left _ (hL 171 (by decide))) gk_171 (by rw [gl_171]; exact z_3) rfl dL_decides_31 ?_
      refine lv_lstore (lv' := [(20, .long ((zI (zJ (zI σ 179) 180) 181).2.1 171 ((((zI (zJ (zI σ 179) 180) 181).1 161 1) - 1).toNatClampNeg))), (19, .ref (ad 181)), (18, .ref (ad 180)), (17, .ref (ad 179)), (0, .ref (ad 161)), (1, .ref (ad 162)), (2, .ref (ad 163)), (3, .ref (ad 164)), (4, .ref (ad 165)), (5, .ref (ad 166)), (6, .ref (ad 167)), (7, .ref (ad 168)), (8, .ref (ad 169)), (9, .ref (ad 170)), (10, .ref (ad 171)), (11, .ref (ad 172)), (12, .ref (ad 173)), (13, .ref (ad 174)), (14, .ref (ad 175)), (15, .ref (ad 178)), (16, .int x16)]) hx hb dL_decides_32 hl (by decide) rfl ?_
      clear hl
      intro ls hl
      refine lv_aload_n hx hb dL_decides_34 rfl (lv_at hl 4 rfl) ?_
      refine lv_aload_n hx hb dL_decides_35 rfl (lv_at hl 6 rfl) ?_
      refine lv_aload_n hx hb dL_decides_36 rfl (lv_at hl 7 rfl) ?_
      refine lv_aload hx hb dL_decides_37 (lv_at hl 8 rfl) ?_
      refine lv_aload hx hb dL_decides_39 (lv_at hl 9 rfl) ?_
      refine lv_iconst (v := 0) hx hb dL_decides_41 (by decide) ?_
      obtain ⟨r_4, e_5, h⟩ := g_bind h
      refine G_ai hY hA (va_runS (As := [.ref (ad 161), .ref (ad 163), .ref (ad 164), .ref (ad 165), .ref (ad 166), .int 0]) (rest := []) ⟨hx, hb, hml, hown, hg⟩ (kL_next l D y aS H.size (L ++ [179, 180, 181]) (fun k hk => List.mem_append_left _ (hL k hk)) ad N (zI (zJ (zI σ 179) 180) 181) (0 : Int32) _ e_5) (va_cwS 6 hg ggS_RL_41_L_next rfl rfl rfl (by decide +kernel) ⟨Nat.le_of_ble_eq_true rfl, Nat.le_of_ble_eq_true rfl⟩) (G_pS hK hY) rfl rfl hl.1 rfl (lv_room (Nat.le_of_ble_eq_true rfl)) dL_decides_42 ⟨(by dsimp only; omega), (by dsimp only; omega)⟩) ?_
      clear hY
      rintro _ H locs rfl hY
      refine lv_istore (lv' := [(22, .int r_4), (20, .long ((zI (zJ (zI σ 179) 180) 181).2.1 171 ((((zI (zJ (zI σ 179) 180) 181).1 161 1) - 1).toNatClampNeg))), (19, .ref (ad 181)), (18, .ref (ad 180)), (17, .ref (ad 179)), (0, .ref (ad 161)), (1, .ref (ad 162)), (2, .ref (ad 163)), (3, .ref (ad 164)), (4, .ref (ad 165)), (5, .ref (ad 166)), (6, .ref (ad 167)), (7, .ref (ad 168)), (8, .ref (ad 169)), (9, .ref (ad 170)), (10, .ref (ad 171)), (11, .ref (ad 172)), (12, .ref (ad 173)), (13, .ref (ad 174)), (14, .ref (ad 175)), (15, .ref (ad 178)), (16, .int x16)]) hx hb dL_decides_45 hl (by decide) rfl ?_
      clear hl
      intro ls hl
      refine lv_iload hx hb dL_decides_47 (lv_at hl 0 rfl) ?_
      refine lv_if_lt (tgt := 56) hx hb dL_decides_49 (by decide) (fun z_6 => ?_) (fun z_6 => ?_)
      ·
        rw [if_pos z_6] at h
        refine lv_iconst (v := 0) hx hb dL_decides_56 (by decide) ?_
        exact wL_decides_57 hx hb hr hml hown hg hlocks hK hA hL hL2 ha hrec3 (by first | omega | (simp only [g_l0]; omega)) (by first | omega | (simp only [g_l0]; omega)) hY (lv_sub hl [5, 6, 7, 8, 9, 10, 11, 12, 13, 14, 15, 16, 17, 18, 19, 20, 4, 3, 2, 1, 0] rfl) h
      ·
        rw [if_neg z_6] at h
        refine lv_iconst (v := 1) hx hb dL_decides_52 (by decide) ?_
        refine lv_goto (tgt := 57) hx hb dL_decides_53 (by decide) ?_
        exact wL_decides_57 hx hb hr hml hown hg hlocks hK hA hL hL2 ha hrec3 (by first | omega | (simp only [g_l0]; omega)) (by first | omega | (simp only [g_l0]; omega)) hY (lv_sub hl [5, 6, 7, 8, 9, 10, 11, 12, 13, 14, 15, 16, 17, 18, 19, 20, 4, 3, 2, 1, 0] rfl) h
end
def fL_decides (N : Nat) (σ : gS) : Option (Int64 × gS) := lp (fL_decides_3 N) 64 (σ, 1)
set_option maxRecDepth 100000 in
set_option maxHeartbeats 4000000 in
theorem kL_decides (l : Launch) (D : va_G) (y : Nat → ClassId) (aS : Nat → Nat) (sz : Nat) (L : List Nat) (hL : ∀ k, k < 179 → k ∈ L) (hL2 : ∀ k ∈ L, k < 179) (ad : Nat → Nat) (ad0 : Nat → Nat) (ha : ∀ k, k < 179 → ad k = ad0 k) (N : Nat) (σ : gS) (res : (Int64 × gS)) (h : fL_decides N σ = some res) : Met l yL_decides (Cond.code yL_decides cL_decides 27 (some .long) :: wsL_law) ({ frames := 5, cells := 192, slots := 2560, locals := 140 } : Room) (va_Pc [.ref (ad 161), .ref (ad 162), .ref (ad 163), .ref (ad 164), .ref (ad 165), .ref (ad 166), .ref (ad 167), .ref (ad 168), .ref (ad 169), .ref (ad 170), .ref (ad 171), .ref (ad 172), .ref (ad 173), .ref (ad 174), .ref (ad 175), .ref (ad 178)] (gI D y aS (GW L y ad σ) sz)) (va_Ql (fun (r : Int64) (_ : Unit) => r = res.1) (fun _ => gO D (va_A (GW L y ad σ) sz) (GW L y ad0 res.2)) (va_A (GW L y ad σ) sz)) 192 2560 (va_A (GW L y ad σ) sz) := by
  refine g_of (by decide) (Nat.le_of_ble_eq_true rfl) ?_
  intro p e s m below meth c ls A hx hb hr hml hown hg hlocks hin hsz hK hP hD hS hA hAe hl
  rw [← hAe]
  replace hown : s.vm.findClass RL = some m.cls := hown
  have hY : gY D y A s L ad σ s.heap [] := ⟨hP, hD, hS⟩
  clear hP hD hS
  replace hl : lv_has ls 27 [(0, .ref (ad 161)), (1, .ref (ad 162)), (2, .ref (ad 163)), (3, .ref (ad 164)), (4, .ref (ad 165)), (5, .ref (ad 166)), (6, .ref (ad 167)), (7, .ref (ad 168)), (8, .ref (ad 169)), (9, .ref (ad 170)), (10, .ref (ad 171)), (11, .ref (ad 172)), (12, .ref (ad 173)), (13, .ref (ad 174)), (14, .ref (ad 175)), (15, .ref (ad 178))] := hl
  unfold fL_decides at h
  refine lv_iconst (v := 1) hx hb dL_decides_0 (by decide) ?_
  refine lv_istore (lv' := [(16, .int 1), (0, .ref (ad 161)), (1, .ref (ad 162)), (2, .ref (ad 163)), (3, .ref (ad 164)), (4, .ref (ad 165)), (5, .ref (ad 166)), (6, .ref (ad 167)), (7, .ref (ad 168)), (8, .ref (ad 169)), (9, .ref (ad 170)), (10, .ref (ad 171)), (11, .ref (ad 172)), (12, .ref (ad 173)), (13, .ref (ad 174)), (14, .ref (ad 175)), (15, .ref (ad 178))]) hx hb dL_decides_1 hl (by decide) rfl ?_
  clear hl
  intro ls hl
  exact wL_decides_3 hx hb hr hml hown hg hlocks hK hA hL hL2 64 ha (by first | omega | (simp only [g_l0]; omega)) (by first | omega | (simp only [g_l0]; omega)) _ _ _ hY (lv_sub hl [1, 2, 3, 4, 5, 6, 7, 8, 9, 10, 11, 12, 13, 14, 15, 16, 0] rfl) h
