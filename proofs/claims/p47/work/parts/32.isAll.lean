def dt188_L_isAll : List (Nat × Instr × Nat) := [(907, (.ireturn, 1)), (906, (.iconst 0, 1)), (888, (.iload 22, 2)), (890, (.ifCond .eq 16, 3)), (893, (.aload_n 0, 1)), (894, (.invokevirtual 198, 3)), (897, (.iload 29, 2)), (899, (.if_icmp .ne 7, 3)), (902, (.iconst 1, 1)), (903, (.goto 4, 3)), (886, (.istore 29, 2)), (885, (.iconst 0, 1)), (789, (.istore 29, 2)), (791, (.iload 29, 2)), (793, (.ifCond .eq 95, 3)), (796, (.aload_n 1, 1)), (797, (.aload_n 2, 1)), (798, (.aload 8, 2)), (800, (.aload 10, 2)), (802, (.aload 12, 2)), (804, (.aload 13, 2)), (806, (.aload 14, 2)), (808, (.aload 15, 2)), (810, (.aload 17, 2)), (812, (.aload 19, 2)), (814, (.iload 28, 2)), (816, (.lload 25, 2)), (818, (.aload 21, 2)), (820, (.invokestatic 126, 3)), (823, (.aload 21, 2)), (825, (.iconst 2, 1)), (826, (.iaload, 1)), (827, (.ifCond .ge 58, 3)), (830, (.aload_n 1, 1)), (831, (.aload_n 2, 1)), (832, (.aload 8, 2)), (834, (.aload 10, 2)), (836, (.aload 12, 2)), (838, (.aload 13, 2)), (840, (.aload 14, 2)), (842, (.aload 15, 2)), (844, (.aload 19, 2)), (846, (.lload 25, 2)), (848, (.aload 21, 2)), (850, (.iconst 2, 1)), (851, (.invokestatic 130, 3)), (854, (.aload_n 1, 1)), (855, (.aload_n 2, 1)), (856, (.aload 8, 2)), (858, (.aload 10, 2)), (860, (.aload 12, 2)), (862, (.aload 13, 2)), (864, (.aload 14, 2)), (866, (.aload 15, 2)), (868, (.aload 19, 2)), (870, (.lload 25, 2)), (872, (.aload 21, 2)), (874, (.iconst 3, 1)), (875, (.invokestatic 130, 3)), (878, (.if_icmp .ne 7, 3))]
theorem dt188_L_isAll_ok : ∀ q ∈ dt188_L_isAll, decode cL_isAll q.1 = .ok q.2 := by decide +kernel
theorem dL_isAll_907 : decode cL_isAll 907 = .ok (.ireturn, 1) := g_dec dt188_L_isAll_ok (k := 0) rfl
theorem dL_isAll_906 : decode cL_isAll 906 = .ok (.iconst 0, 1) := g_dec dt188_L_isAll_ok (k := 1) rfl
theorem dL_isAll_888 : decode cL_isAll 888 = .ok (.iload 22, 2) := g_dec dt188_L_isAll_ok (k := 2) rfl
theorem dL_isAll_890 : decode cL_isAll 890 = .ok (.ifCond .eq 16, 3) := g_dec dt188_L_isAll_ok (k := 3) rfl
theorem dL_isAll_893 : decode cL_isAll 893 = .ok (.aload_n 0, 1) := g_dec dt188_L_isAll_ok (k := 4) rfl
theorem dL_isAll_894 : decode cL_isAll 894 = .ok (.invokevirtual 198, 3) := g_dec dt188_L_isAll_ok (k := 5) rfl
theorem dL_isAll_897 : decode cL_isAll 897 = .ok (.iload 29, 2) := g_dec dt188_L_isAll_ok (k := 6) rfl
theorem dL_isAll_899 : decode cL_isAll 899 = .ok (.if_icmp .ne 7, 3) := g_dec dt188_L_isAll_ok (k := 7) rfl
theorem dL_isAll_902 : decode cL_isAll 902 = .ok (.iconst 1, 1) := g_dec dt188_L_isAll_ok (k := 8) rfl
theorem dL_isAll_903 : decode cL_isAll 903 = .ok (.goto 4, 3) := g_dec dt188_L_isAll_ok (k := 9) rfl
theorem dL_isAll_886 : decode cL_isAll 886 = .ok (.istore 29, 2) := g_dec dt188_L_isAll_ok (k := 10) rfl
theorem dL_isAll_885 : decode cL_isAll 885 = .ok (.iconst 0, 1) := g_dec dt188_L_isAll_ok (k := 11) rfl
theorem dL_isAll_789 : decode cL_isAll 789 = .ok (.istore 29, 2) := g_dec dt188_L_isAll_ok (k := 12) rfl
theorem dL_isAll_791 : decode cL_isAll 791 = .ok (.iload 29, 2) := g_dec dt188_L_isAll_ok (k := 13) rfl
theorem dL_isAll_793 : decode cL_isAll 793 = .ok (.ifCond .eq 95, 3) := g_dec dt188_L_isAll_ok (k := 14) rfl
theorem dL_isAll_796 : decode cL_isAll 796 = .ok (.aload_n 1, 1) := g_dec dt188_L_isAll_ok (k := 15) rfl
theorem dL_isAll_797 : decode cL_isAll 797 = .ok (.aload_n 2, 1) := g_dec dt188_L_isAll_ok (k := 16) rfl
theorem dL_isAll_798 : decode cL_isAll 798 = .ok (.aload 8, 2) := g_dec dt188_L_isAll_ok (k := 17) rfl
theorem dL_isAll_800 : decode cL_isAll 800 = .ok (.aload 10, 2) := g_dec dt188_L_isAll_ok (k := 18) rfl
theorem dL_isAll_802 : decode cL_isAll 802 = .ok (.aload 12, 2) := g_dec dt188_L_isAll_ok (k := 19) rfl
theorem dL_isAll_804 : decode cL_isAll 804 = .ok (.aload 13, 2) := g_dec dt188_L_isAll_ok (k := 20) rfl
theorem dL_isAll_806 : decode cL_isAll 806 = .ok (.aload 14, 2) := g_dec dt188_L_isAll_ok (k := 21) rfl
theorem dL_isAll_808 : decode cL_isAll 808 = .ok (.aload 15, 2) := g_dec dt188_L_isAll_ok (k := 22) rfl
theorem dL_isAll_810 : decode cL_isAll 810 = .ok (.aload 17, 2) := g_dec dt188_L_isAll_ok (k := 23) rfl
theorem dL_isAll_812 : decode cL_isAll 812 = .ok (.aload 19, 2) := g_dec dt188_L_isAll_ok (k := 24) rfl
theorem dL_isAll_814 : decode cL_isAll 814 = .ok (.iload 28, 2) := g_dec dt188_L_isAll_ok (k := 25) rfl
theorem dL_isAll_816 : decode cL_isAll 816 = .ok (.lload 25, 2) := g_dec dt188_L_isAll_ok (k := 26) rfl
theorem dL_isAll_818 : decode cL_isAll 818 = .ok (.aload 21, 2) := g_dec dt188_L_isAll_ok (k := 27) rfl
theorem dL_isAll_820 : decode cL_isAll 820 = .ok (.invokestatic 126, 3) := g_dec dt188_L_isAll_ok (k := 28) rfl
theorem dL_isAll_823 : decode cL_isAll 823 = .ok (.aload 21, 2) := g_dec dt188_L_isAll_ok (k := 29) rfl
theorem dL_isAll_825 : decode cL_isAll 825 = .ok (.iconst 2, 1) := g_dec dt188_L_isAll_ok (k := 30) rfl
theorem dL_isAll_826 : decode cL_isAll 826 = .ok (.iaload, 1) := g_dec dt188_L_isAll_ok (k := 31) rfl
theorem dL_isAll_827 : decode cL_isAll 827 = .ok (.ifCond .ge 58, 3) := g_dec dt188_L_isAll_ok (k := 32) rfl
theorem dL_isAll_830 : decode cL_isAll 830 = .ok (.aload_n 1, 1) := g_dec dt188_L_isAll_ok (k := 33) rfl
theorem dL_isAll_831 : decode cL_isAll 831 = .ok (.aload_n 2, 1) := g_dec dt188_L_isAll_ok (k := 34) rfl
theorem dL_isAll_832 : decode cL_isAll 832 = .ok (.aload 8, 2) := g_dec dt188_L_isAll_ok (k := 35) rfl
theorem dL_isAll_834 : decode cL_isAll 834 = .ok (.aload 10, 2) := g_dec dt188_L_isAll_ok (k := 36) rfl
theorem dL_isAll_836 : decode cL_isAll 836 = .ok (.aload 12, 2) := g_dec dt188_L_isAll_ok (k := 37) rfl
theorem dL_isAll_838 : decode cL_isAll 838 = .ok (.aload 13, 2) := g_dec dt188_L_isAll_ok (k := 38) rfl
theorem dL_isAll_840 : decode cL_isAll 840 = .ok (.aload 14, 2) := g_dec dt188_L_isAll_ok (k := 39) rfl
theorem dL_isAll_842 : decode cL_isAll 842 = .ok (.aload 15, 2) := g_dec dt188_L_isAll_ok (k := 40) rfl
theorem dL_isAll_844 : decode cL_isAll 844 = .ok (.aload 19, 2) := g_dec dt188_L_isAll_ok (k := 41) rfl
theorem dL_isAll_846 : decode cL_isAll 846 = .ok (.lload 25, 2) := g_dec dt188_L_isAll_ok (k := 42) rfl
theorem dL_isAll_848 : decode cL_isAll 848 = .ok (.aload 21, 2) := g_dec dt188_L_isAll_ok (k := 43) rfl
theorem dL_isAll_850 : decode cL_isAll 850 = .ok (.iconst 2, 1) := g_dec dt188_L_isAll_ok (k := 44) rfl
theorem dL_isAll_851 : decode cL_isAll 851 = .ok (.invokestatic 130, 3) := g_dec dt188_L_isAll_ok (k := 45) rfl
theorem dL_isAll_854 : decode cL_isAll 854 = .ok (.aload_n 1, 1) := g_dec dt188_L_isAll_ok (k := 46) rfl
theorem dL_isAll_855 : decode cL_isAll 855 = .ok (.aload_n 2, 1) := g_dec dt188_L_isAll_ok (k := 47) rfl
theorem dL_isAll_856 : decode cL_isAll 856 = .ok (.aload 8, 2) := g_dec dt188_L_isAll_ok (k := 48) rfl
theorem dL_isAll_858 : decode cL_isAll 858 = .ok (.aload 10, 2) := g_dec dt188_L_isAll_ok (k := 49) rfl
theorem dL_isAll_860 : decode cL_isAll 860 = .ok (.aload 12, 2) := g_dec dt188_L_isAll_ok (k := 50) rfl
theorem dL_isAll_862 : decode cL_isAll 862 = .ok (.aload 13, 2) := g_dec dt188_L_isAll_ok (k := 51) rfl
theorem dL_isAll_864 : decode cL_isAll 864 = .ok (.aload 14, 2) := g_dec dt188_L_isAll_ok (k := 52) rfl
theorem dL_isAll_866 : decode cL_isAll 866 = .ok (.aload 15, 2) := g_dec dt188_L_isAll_ok (k := 53) rfl
theorem dL_isAll_868 : decode cL_isAll 868 = .ok (.aload 19, 2) := g_dec dt188_L_isAll_ok (k := 54) rfl
theorem dL_isAll_870 : decode cL_isAll 870 = .ok (.lload 25, 2) := g_dec dt188_L_isAll_ok (k := 55) rfl
theorem dL_isAll_872 : decode cL_isAll 872 = .ok (.aload 21, 2) := g_dec dt188_L_isAll_ok (k := 56) rfl
theorem dL_isAll_874 : decode cL_isAll 874 = .ok (.iconst 3, 1) := g_dec dt188_L_isAll_ok (k := 57) rfl
theorem dL_isAll_875 : decode cL_isAll 875 = .ok (.invokestatic 130, 3) := g_dec dt188_L_isAll_ok (k := 58) rfl
theorem dL_isAll_878 : decode cL_isAll 878 = .ok (.if_icmp .ne 7, 3) := g_dec dt188_L_isAll_ok (k := 59) rfl
def dt189_L_isAll : List (Nat × Instr × Nat) := [(881, (.iconst 1, 1)), (882, (.goto 4, 3)), (788, (.iconst 0, 1)), (735, (.aload 19, 2)), (737, (.iload 27, 2)), (739, (.iconst 0, 1)), (740, (.invokestatic 110, 3)), (743, (.istore 28, 2)), (745, (.iload 28, 2)), (747, (.ifCond .le 41, 3)), (750, (.aload_n 1, 1)), (751, (.aload 12, 2)), (753, (.aload 14, 2)), (755, (.aload 15, 2)), (757, (.aload_n 1, 1)), (758, (.aload_n 2, 1)), (759, (.aload 8, 2)), (761, (.aload 12, 2)), (763, (.aload 13, 2)), (765, (.aload 19, 2)), (767, (.iconst 0, 1)), (768, (.iload 28, 2)), (770, (.invokestatic 56, 3)), (773, (.aload 20, 2)), (775, (.iconst 0, 1)), (776, (.laload, 1)), (777, (.invokestatic 64, 3)), (780, (.iconst 2, 1)), (781, (.if_icmp .ne 7, 3)), (784, (.iconst 1, 1)), (785, (.goto 4, 3)), (727, (.istore 22, 2)), (729, (.iinc 28 1, 3)), (732, (.goto (-94), 3)), (726, (.iconst 0, 1)), (722, (.iconst 1, 1)), (723, (.goto 4, 3)), (719, (.if_icmp .ne 7, 3)), (638, (.iload 28, 2)), (640, (.bipush 8, 2)), (642, (.if_icmp .ge 93, 3)), (645, (.iload 22, 2)), (647, (.ifCond .eq 88, 3)), (650, (.aload_n 0, 1)), (651, (.iload 28, 2)), (653, (.invokevirtual 189, 3)), (656, (.aload 17, 2)), (658, (.bipush 6, 2)), (660, (.iload 28, 2)), (662, (.iadd, 1)), (663, (.iaload, 1)), (664, (.if_icmp .ne 62, 3)), (667, (.iload 28, 2)), (669, (.iconst 2, 1)), (670, (.if_icmp .gt 52, 3)), (673, (.aload_n 0, 1)), (674, (.iload 28, 2)), (676, (.invokevirtual 192, 3)), (679, (.aload 17, 2)), (681, (.iload 28, 2))]
theorem dt189_L_isAll_ok : ∀ q ∈ dt189_L_isAll, decode cL_isAll q.1 = .ok q.2 := by decide +kernel
theorem dL_isAll_881 : decode cL_isAll 881 = .ok (.iconst 1, 1) := g_dec dt189_L_isAll_ok (k := 0) rfl
theorem dL_isAll_882 : decode cL_isAll 882 = .ok (.goto 4, 3) := g_dec dt189_L_isAll_ok (k := 1) rfl
theorem dL_isAll_788 : decode cL_isAll 788 = .ok (.iconst 0, 1) := g_dec dt189_L_isAll_ok (k := 2) rfl
theorem dL_isAll_735 : decode cL_isAll 735 = .ok (.aload 19, 2) := g_dec dt189_L_isAll_ok (k := 3) rfl
theorem dL_isAll_737 : decode cL_isAll 737 = .ok (.iload 27, 2) := g_dec dt189_L_isAll_ok (k := 4) rfl
theorem dL_isAll_739 : decode cL_isAll 739 = .ok (.iconst 0, 1) := g_dec dt189_L_isAll_ok (k := 5) rfl
theorem dL_isAll_740 : decode cL_isAll 740 = .ok (.invokestatic 110, 3) := g_dec dt189_L_isAll_ok (k := 6) rfl
theorem dL_isAll_743 : decode cL_isAll 743 = .ok (.istore 28, 2) := g_dec dt189_L_isAll_ok (k := 7) rfl
theorem dL_isAll_745 : decode cL_isAll 745 = .ok (.iload 28, 2) := g_dec dt189_L_isAll_ok (k := 8) rfl
theorem dL_isAll_747 : decode cL_isAll 747 = .ok (.ifCond .le 41, 3) := g_dec dt189_L_isAll_ok (k := 9) rfl
theorem dL_isAll_750 : decode cL_isAll 750 = .ok (.aload_n 1, 1) := g_dec dt189_L_isAll_ok (k := 10) rfl
theorem dL_isAll_751 : decode cL_isAll 751 = .ok (.aload 12, 2) := g_dec dt189_L_isAll_ok (k := 11) rfl
theorem dL_isAll_753 : decode cL_isAll 753 = .ok (.aload 14, 2) := g_dec dt189_L_isAll_ok (k := 12) rfl
theorem dL_isAll_755 : decode cL_isAll 755 = .ok (.aload 15, 2) := g_dec dt189_L_isAll_ok (k := 13) rfl
theorem dL_isAll_757 : decode cL_isAll 757 = .ok (.aload_n 1, 1) := g_dec dt189_L_isAll_ok (k := 14) rfl
theorem dL_isAll_758 : decode cL_isAll 758 = .ok (.aload_n 2, 1) := g_dec dt189_L_isAll_ok (k := 15) rfl
theorem dL_isAll_759 : decode cL_isAll 759 = .ok (.aload 8, 2) := g_dec dt189_L_isAll_ok (k := 16) rfl
theorem dL_isAll_761 : decode cL_isAll 761 = .ok (.aload 12, 2) := g_dec dt189_L_isAll_ok (k := 17) rfl
theorem dL_isAll_763 : decode cL_isAll 763 = .ok (.aload 13, 2) := g_dec dt189_L_isAll_ok (k := 18) rfl
theorem dL_isAll_765 : decode cL_isAll 765 = .ok (.aload 19, 2) := g_dec dt189_L_isAll_ok (k := 19) rfl
theorem dL_isAll_767 : decode cL_isAll 767 = .ok (.iconst 0, 1) := g_dec dt189_L_isAll_ok (k := 20) rfl
theorem dL_isAll_768 : decode cL_isAll 768 = .ok (.iload 28, 2) := g_dec dt189_L_isAll_ok (k := 21) rfl
theorem dL_isAll_770 : decode cL_isAll 770 = .ok (.invokestatic 56, 3) := g_dec dt189_L_isAll_ok (k := 22) rfl
theorem dL_isAll_773 : decode cL_isAll 773 = .ok (.aload 20, 2) := g_dec dt189_L_isAll_ok (k := 23) rfl
theorem dL_isAll_775 : decode cL_isAll 775 = .ok (.iconst 0, 1) := g_dec dt189_L_isAll_ok (k := 24) rfl
theorem dL_isAll_776 : decode cL_isAll 776 = .ok (.laload, 1) := g_dec dt189_L_isAll_ok (k := 25) rfl
theorem dL_isAll_777 : decode cL_isAll 777 = .ok (.invokestatic 64, 3) := g_dec dt189_L_isAll_ok (k := 26) rfl
theorem dL_isAll_780 : decode cL_isAll 780 = .ok (.iconst 2, 1) := g_dec dt189_L_isAll_ok (k := 27) rfl
theorem dL_isAll_781 : decode cL_isAll 781 = .ok (.if_icmp .ne 7, 3) := g_dec dt189_L_isAll_ok (k := 28) rfl
theorem dL_isAll_784 : decode cL_isAll 784 = .ok (.iconst 1, 1) := g_dec dt189_L_isAll_ok (k := 29) rfl
theorem dL_isAll_785 : decode cL_isAll 785 = .ok (.goto 4, 3) := g_dec dt189_L_isAll_ok (k := 30) rfl
theorem dL_isAll_727 : decode cL_isAll 727 = .ok (.istore 22, 2) := g_dec dt189_L_isAll_ok (k := 31) rfl
theorem dL_isAll_729 : decode cL_isAll 729 = .ok (.iinc 28 1, 3) := g_dec dt189_L_isAll_ok (k := 32) rfl
theorem dL_isAll_732 : decode cL_isAll 732 = .ok (.goto (-94), 3) := g_dec dt189_L_isAll_ok (k := 33) rfl
theorem dL_isAll_726 : decode cL_isAll 726 = .ok (.iconst 0, 1) := g_dec dt189_L_isAll_ok (k := 34) rfl
theorem dL_isAll_722 : decode cL_isAll 722 = .ok (.iconst 1, 1) := g_dec dt189_L_isAll_ok (k := 35) rfl
theorem dL_isAll_723 : decode cL_isAll 723 = .ok (.goto 4, 3) := g_dec dt189_L_isAll_ok (k := 36) rfl
theorem dL_isAll_719 : decode cL_isAll 719 = .ok (.if_icmp .ne 7, 3) := g_dec dt189_L_isAll_ok (k := 37) rfl
theorem dL_isAll_638 : decode cL_isAll 638 = .ok (.iload 28, 2) := g_dec dt189_L_isAll_ok (k := 38) rfl
theorem dL_isAll_640 : decode cL_isAll 640 = .ok (.bipush 8, 2) := g_dec dt189_L_isAll_ok (k := 39) rfl
theorem dL_isAll_642 : decode cL_isAll 642 = .ok (.if_icmp .ge 93, 3) := g_dec dt189_L_isAll_ok (k := 40) rfl
theorem dL_isAll_645 : decode cL_isAll 645 = .ok (.iload 22, 2) := g_dec dt189_L_isAll_ok (k := 41) rfl
theorem dL_isAll_647 : decode cL_isAll 647 = .ok (.ifCond .eq 88, 3) := g_dec dt189_L_isAll_ok (k := 42) rfl
theorem dL_isAll_650 : decode cL_isAll 650 = .ok (.aload_n 0, 1) := g_dec dt189_L_isAll_ok (k := 43) rfl
theorem dL_isAll_651 : decode cL_isAll 651 = .ok (.iload 28, 2) := g_dec dt189_L_isAll_ok (k := 44) rfl
theorem dL_isAll_653 : decode cL_isAll 653 = .ok (.invokevirtual 189, 3) := g_dec dt189_L_isAll_ok (k := 45) rfl
theorem dL_isAll_656 : decode cL_isAll 656 = .ok (.aload 17, 2) := g_dec dt189_L_isAll_ok (k := 46) rfl
theorem dL_isAll_658 : decode cL_isAll 658 = .ok (.bipush 6, 2) := g_dec dt189_L_isAll_ok (k := 47) rfl
theorem dL_isAll_660 : decode cL_isAll 660 = .ok (.iload 28, 2) := g_dec dt189_L_isAll_ok (k := 48) rfl
theorem dL_isAll_662 : decode cL_isAll 662 = .ok (.iadd, 1) := g_dec dt189_L_isAll_ok (k := 49) rfl
theorem dL_isAll_663 : decode cL_isAll 663 = .ok (.iaload, 1) := g_dec dt189_L_isAll_ok (k := 50) rfl
theorem dL_isAll_664 : decode cL_isAll 664 = .ok (.if_icmp .ne 62, 3) := g_dec dt189_L_isAll_ok (k := 51) rfl
theorem dL_isAll_667 : decode cL_isAll 667 = .ok (.iload 28, 2) := g_dec dt189_L_isAll_ok (k := 52) rfl
theorem dL_isAll_669 : decode cL_isAll 669 = .ok (.iconst 2, 1) := g_dec dt189_L_isAll_ok (k := 53) rfl
theorem dL_isAll_670 : decode cL_isAll 670 = .ok (.if_icmp .gt 52, 3) := g_dec dt189_L_isAll_ok (k := 54) rfl
theorem dL_isAll_673 : decode cL_isAll 673 = .ok (.aload_n 0, 1) := g_dec dt189_L_isAll_ok (k := 55) rfl
theorem dL_isAll_674 : decode cL_isAll 674 = .ok (.iload 28, 2) := g_dec dt189_L_isAll_ok (k := 56) rfl
theorem dL_isAll_676 : decode cL_isAll 676 = .ok (.invokevirtual 192, 3) := g_dec dt189_L_isAll_ok (k := 57) rfl
theorem dL_isAll_679 : decode cL_isAll 679 = .ok (.aload 17, 2) := g_dec dt189_L_isAll_ok (k := 58) rfl
theorem dL_isAll_681 : decode cL_isAll 681 = .ok (.iload 28, 2) := g_dec dt189_L_isAll_ok (k := 59) rfl
def dt190_L_isAll : List (Nat × Instr × Nat) := [(683, (.iaload, 1)), (684, (.if_icmp .ne 42, 3)), (687, (.aload_n 0, 1)), (688, (.iload 28, 2)), (690, (.invokevirtual 195, 3)), (693, (.aload 16, 2)), (695, (.bipush 6, 2)), (697, (.iload 28, 2)), (699, (.imul, 1)), (700, (.iconst 4, 1)), (701, (.iadd, 1)), (702, (.iaload, 1)), (703, (.iconst 1, 1)), (704, (.if_icmp .ne 14, 3)), (718, (.iconst (-1), 1)), (707, (.aload 16, 2)), (709, (.bipush 6, 2)), (711, (.iload 28, 2)), (713, (.imul, 1)), (714, (.iaload, 1)), (715, (.goto 4, 3)), (635, (.iconst 0, 1)), (636, (.istore 28, 2)), (627, (.istore 22, 2)), (629, (.iinc 28 1, 3)), (632, (.goto (-136), 3)), (626, (.iconst 0, 1)), (619, (.if_icmp .ne 7, 3)), (622, (.iconst 1, 1)), (623, (.goto 4, 3)), (554, (.iadd, 1)), (555, (.istore 29, 2)), (557, (.iinc 30 1, 3)), (560, (.goto (-45), 3)), (515, (.iload 30, 2)), (517, (.aload_n 1, 1)), (518, (.iconst 4, 1)), (519, (.iaload, 1)), (520, (.if_icmp .ge 43, 3)), (563, (.aload_n 0, 1)), (564, (.iload 28, 2)), (566, (.invokevirtual 179, 3)), (569, (.iload 29, 2)), (571, (.if_icmp .ne 55, 3)), (574, (.aload_n 0, 1)), (575, (.iload 28, 2)), (577, (.invokevirtual 182, 3)), (580, (.aload 12, 2)), (582, (.bipush 12, 2)), (584, (.iload 28, 2)), (586, (.imul, 1)), (587, (.iconst 5, 1)), (588, (.iadd, 1)), (589, (.iaload, 1)), (590, (.if_icmp .ne 36, 3)), (593, (.aload_n 0, 1)), (594, (.iload 28, 2)), (596, (.invokevirtual 185, 3)), (599, (.aload 12, 2)), (601, (.bipush 12, 2))]
theorem dt190_L_isAll_ok : ∀ q ∈ dt190_L_isAll, decode cL_isAll q.1 = .ok q.2 := by decide +kernel
theorem dL_isAll_683 : decode cL_isAll 683 = .ok (.iaload, 1) := g_dec dt190_L_isAll_ok (k := 0) rfl
theorem dL_isAll_684 : decode cL_isAll 684 = .ok (.if_icmp .ne 42, 3) := g_dec dt190_L_isAll_ok (k := 1) rfl
theorem dL_isAll_687 : decode cL_isAll 687 = .ok (.aload_n 0, 1) := g_dec dt190_L_isAll_ok (k := 2) rfl
theorem dL_isAll_688 : decode cL_isAll 688 = .ok (.iload 28, 2) := g_dec dt190_L_isAll_ok (k := 3) rfl
theorem dL_isAll_690 : decode cL_isAll 690 = .ok (.invokevirtual 195, 3) := g_dec dt190_L_isAll_ok (k := 4) rfl
theorem dL_isAll_693 : decode cL_isAll 693 = .ok (.aload 16, 2) := g_dec dt190_L_isAll_ok (k := 5) rfl
theorem dL_isAll_695 : decode cL_isAll 695 = .ok (.bipush 6, 2) := g_dec dt190_L_isAll_ok (k := 6) rfl
theorem dL_isAll_697 : decode cL_isAll 697 = .ok (.iload 28, 2) := g_dec dt190_L_isAll_ok (k := 7) rfl
theorem dL_isAll_699 : decode cL_isAll 699 = .ok (.imul, 1) := g_dec dt190_L_isAll_ok (k := 8) rfl
theorem dL_isAll_700 : decode cL_isAll 700 = .ok (.iconst 4, 1) := g_dec dt190_L_isAll_ok (k := 9) rfl
theorem dL_isAll_701 : decode cL_isAll 701 = .ok (.iadd, 1) := g_dec dt190_L_isAll_ok (k := 10) rfl
theorem dL_isAll_702 : decode cL_isAll 702 = .ok (.iaload, 1) := g_dec dt190_L_isAll_ok (k := 11) rfl
theorem dL_isAll_703 : decode cL_isAll 703 = .ok (.iconst 1, 1) := g_dec dt190_L_isAll_ok (k := 12) rfl
theorem dL_isAll_704 : decode cL_isAll 704 = .ok (.if_icmp .ne 14, 3) := g_dec dt190_L_isAll_ok (k := 13) rfl
theorem dL_isAll_718 : decode cL_isAll 718 = .ok (.iconst (-1), 1) := g_dec dt190_L_isAll_ok (k := 14) rfl
theorem dL_isAll_707 : decode cL_isAll 707 = .ok (.aload 16, 2) := g_dec dt190_L_isAll_ok (k := 15) rfl
theorem dL_isAll_709 : decode cL_isAll 709 = .ok (.bipush 6, 2) := g_dec dt190_L_isAll_ok (k := 16) rfl
theorem dL_isAll_711 : decode cL_isAll 711 = .ok (.iload 28, 2) := g_dec dt190_L_isAll_ok (k := 17) rfl
theorem dL_isAll_713 : decode cL_isAll 713 = .ok (.imul, 1) := g_dec dt190_L_isAll_ok (k := 18) rfl
theorem dL_isAll_714 : decode cL_isAll 714 = .ok (.iaload, 1) := g_dec dt190_L_isAll_ok (k := 19) rfl
theorem dL_isAll_715 : decode cL_isAll 715 = .ok (.goto 4, 3) := g_dec dt190_L_isAll_ok (k := 20) rfl
theorem dL_isAll_635 : decode cL_isAll 635 = .ok (.iconst 0, 1) := g_dec dt190_L_isAll_ok (k := 21) rfl
theorem dL_isAll_636 : decode cL_isAll 636 = .ok (.istore 28, 2) := g_dec dt190_L_isAll_ok (k := 22) rfl
theorem dL_isAll_627 : decode cL_isAll 627 = .ok (.istore 22, 2) := g_dec dt190_L_isAll_ok (k := 23) rfl
theorem dL_isAll_629 : decode cL_isAll 629 = .ok (.iinc 28 1, 3) := g_dec dt190_L_isAll_ok (k := 24) rfl
theorem dL_isAll_632 : decode cL_isAll 632 = .ok (.goto (-136), 3) := g_dec dt190_L_isAll_ok (k := 25) rfl
theorem dL_isAll_626 : decode cL_isAll 626 = .ok (.iconst 0, 1) := g_dec dt190_L_isAll_ok (k := 26) rfl
theorem dL_isAll_619 : decode cL_isAll 619 = .ok (.if_icmp .ne 7, 3) := g_dec dt190_L_isAll_ok (k := 27) rfl
theorem dL_isAll_622 : decode cL_isAll 622 = .ok (.iconst 1, 1) := g_dec dt190_L_isAll_ok (k := 28) rfl
theorem dL_isAll_623 : decode cL_isAll 623 = .ok (.goto 4, 3) := g_dec dt190_L_isAll_ok (k := 29) rfl
theorem dL_isAll_554 : decode cL_isAll 554 = .ok (.iadd, 1) := g_dec dt190_L_isAll_ok (k := 30) rfl
theorem dL_isAll_555 : decode cL_isAll 555 = .ok (.istore 29, 2) := g_dec dt190_L_isAll_ok (k := 31) rfl
theorem dL_isAll_557 : decode cL_isAll 557 = .ok (.iinc 30 1, 3) := g_dec dt190_L_isAll_ok (k := 32) rfl
theorem dL_isAll_560 : decode cL_isAll 560 = .ok (.goto (-45), 3) := g_dec dt190_L_isAll_ok (k := 33) rfl
theorem dL_isAll_515 : decode cL_isAll 515 = .ok (.iload 30, 2) := g_dec dt190_L_isAll_ok (k := 34) rfl
theorem dL_isAll_517 : decode cL_isAll 517 = .ok (.aload_n 1, 1) := g_dec dt190_L_isAll_ok (k := 35) rfl
theorem dL_isAll_518 : decode cL_isAll 518 = .ok (.iconst 4, 1) := g_dec dt190_L_isAll_ok (k := 36) rfl
theorem dL_isAll_519 : decode cL_isAll 519 = .ok (.iaload, 1) := g_dec dt190_L_isAll_ok (k := 37) rfl
theorem dL_isAll_520 : decode cL_isAll 520 = .ok (.if_icmp .ge 43, 3) := g_dec dt190_L_isAll_ok (k := 38) rfl
theorem dL_isAll_563 : decode cL_isAll 563 = .ok (.aload_n 0, 1) := g_dec dt190_L_isAll_ok (k := 39) rfl
theorem dL_isAll_564 : decode cL_isAll 564 = .ok (.iload 28, 2) := g_dec dt190_L_isAll_ok (k := 40) rfl
theorem dL_isAll_566 : decode cL_isAll 566 = .ok (.invokevirtual 179, 3) := g_dec dt190_L_isAll_ok (k := 41) rfl
theorem dL_isAll_569 : decode cL_isAll 569 = .ok (.iload 29, 2) := g_dec dt190_L_isAll_ok (k := 42) rfl
theorem dL_isAll_571 : decode cL_isAll 571 = .ok (.if_icmp .ne 55, 3) := g_dec dt190_L_isAll_ok (k := 43) rfl
theorem dL_isAll_574 : decode cL_isAll 574 = .ok (.aload_n 0, 1) := g_dec dt190_L_isAll_ok (k := 44) rfl
theorem dL_isAll_575 : decode cL_isAll 575 = .ok (.iload 28, 2) := g_dec dt190_L_isAll_ok (k := 45) rfl
theorem dL_isAll_577 : decode cL_isAll 577 = .ok (.invokevirtual 182, 3) := g_dec dt190_L_isAll_ok (k := 46) rfl
theorem dL_isAll_580 : decode cL_isAll 580 = .ok (.aload 12, 2) := g_dec dt190_L_isAll_ok (k := 47) rfl
theorem dL_isAll_582 : decode cL_isAll 582 = .ok (.bipush 12, 2) := g_dec dt190_L_isAll_ok (k := 48) rfl
theorem dL_isAll_584 : decode cL_isAll 584 = .ok (.iload 28, 2) := g_dec dt190_L_isAll_ok (k := 49) rfl
theorem dL_isAll_586 : decode cL_isAll 586 = .ok (.imul, 1) := g_dec dt190_L_isAll_ok (k := 50) rfl
theorem dL_isAll_587 : decode cL_isAll 587 = .ok (.iconst 5, 1) := g_dec dt190_L_isAll_ok (k := 51) rfl
theorem dL_isAll_588 : decode cL_isAll 588 = .ok (.iadd, 1) := g_dec dt190_L_isAll_ok (k := 52) rfl
theorem dL_isAll_589 : decode cL_isAll 589 = .ok (.iaload, 1) := g_dec dt190_L_isAll_ok (k := 53) rfl
theorem dL_isAll_590 : decode cL_isAll 590 = .ok (.if_icmp .ne 36, 3) := g_dec dt190_L_isAll_ok (k := 54) rfl
theorem dL_isAll_593 : decode cL_isAll 593 = .ok (.aload_n 0, 1) := g_dec dt190_L_isAll_ok (k := 55) rfl
theorem dL_isAll_594 : decode cL_isAll 594 = .ok (.iload 28, 2) := g_dec dt190_L_isAll_ok (k := 56) rfl
theorem dL_isAll_596 : decode cL_isAll 596 = .ok (.invokevirtual 185, 3) := g_dec dt190_L_isAll_ok (k := 57) rfl
theorem dL_isAll_599 : decode cL_isAll 599 = .ok (.aload 12, 2) := g_dec dt190_L_isAll_ok (k := 58) rfl
theorem dL_isAll_601 : decode cL_isAll 601 = .ok (.bipush 12, 2) := g_dec dt190_L_isAll_ok (k := 59) rfl
def dt191_L_isAll : List (Nat × Instr × Nat) := [(603, (.iload 28, 2)), (605, (.imul, 1)), (606, (.bipush 6, 2)), (608, (.iadd, 1)), (609, (.iaload, 1)), (610, (.iconst 1, 1)), (611, (.if_icmp .ne 7, 3)), (618, (.iconst 0, 1)), (614, (.iconst 1, 1)), (615, (.goto 4, 3)), (523, (.iload 29, 2)), (525, (.aload 14, 2)), (527, (.iload 30, 2)), (529, (.laload, 1)), (530, (.bipush 50, 2)), (532, (.lshr, 1)), (533, (.iload 28, 2)), (535, (.i2l, 1)), (536, (.lcmp, 1)), (537, (.ifCond .ne 16, 3)), (553, (.iconst 0, 1)), (540, (.aload 15, 2)), (542, (.iload 30, 2)), (544, (.iaload, 1)), (545, (.iconst 4, 1)), (546, (.idiv, 1)), (547, (.bipush 16, 2)), (549, (.irem, 1)), (550, (.goto 4, 3)), (496, (.iload 28, 2)), (498, (.aload_n 1, 1)), (499, (.iconst 2, 1)), (500, (.iaload, 1)), (501, (.if_icmp .ge 134, 3)), (504, (.iload 22, 2)), (506, (.ifCond .eq 129, 3)), (509, (.iconst 0, 1)), (510, (.istore 29, 2)), (512, (.iconst 0, 1)), (513, (.istore 30, 2)), (493, (.iconst 0, 1)), (494, (.istore 28, 2)), (487, (.iinc 28 2, 3)), (490, (.goto (-122), 3)), (479, (.istore 22, 2)), (481, (.iinc 29 1, 3)), (484, (.goto (-51), 3)), (433, (.iload 29, 2)), (435, (.aload_n 1, 1)), (436, (.iconst 2, 1)), (437, (.iaload, 1)), (438, (.if_icmp .ge 49, 3)), (441, (.iload 22, 2)), (443, (.ifCond .eq 44, 3)), (446, (.aload_n 0, 1)), (447, (.iload 29, 2)), (449, (.iload 28, 2)), (451, (.invokevirtual 177, 3)), (454, (.aload_n 1, 1)), (455, (.aload 12, 2))]
theorem dt191_L_isAll_ok : ∀ q ∈ dt191_L_isAll, decode cL_isAll q.1 = .ok q.2 := by decide +kernel
theorem dL_isAll_603 : decode cL_isAll 603 = .ok (.iload 28, 2) := g_dec dt191_L_isAll_ok (k := 0) rfl
theorem dL_isAll_605 : decode cL_isAll 605 = .ok (.imul, 1) := g_dec dt191_L_isAll_ok (k := 1) rfl
theorem dL_isAll_606 : decode cL_isAll 606 = .ok (.bipush 6, 2) := g_dec dt191_L_isAll_ok (k := 2) rfl
theorem dL_isAll_608 : decode cL_isAll 608 = .ok (.iadd, 1) := g_dec dt191_L_isAll_ok (k := 3) rfl
theorem dL_isAll_609 : decode cL_isAll 609 = .ok (.iaload, 1) := g_dec dt191_L_isAll_ok (k := 4) rfl
theorem dL_isAll_610 : decode cL_isAll 610 = .ok (.iconst 1, 1) := g_dec dt191_L_isAll_ok (k := 5) rfl
theorem dL_isAll_611 : decode cL_isAll 611 = .ok (.if_icmp .ne 7, 3) := g_dec dt191_L_isAll_ok (k := 6) rfl
theorem dL_isAll_618 : decode cL_isAll 618 = .ok (.iconst 0, 1) := g_dec dt191_L_isAll_ok (k := 7) rfl
theorem dL_isAll_614 : decode cL_isAll 614 = .ok (.iconst 1, 1) := g_dec dt191_L_isAll_ok (k := 8) rfl
theorem dL_isAll_615 : decode cL_isAll 615 = .ok (.goto 4, 3) := g_dec dt191_L_isAll_ok (k := 9) rfl
theorem dL_isAll_523 : decode cL_isAll 523 = .ok (.iload 29, 2) := g_dec dt191_L_isAll_ok (k := 10) rfl
theorem dL_isAll_525 : decode cL_isAll 525 = .ok (.aload 14, 2) := g_dec dt191_L_isAll_ok (k := 11) rfl
theorem dL_isAll_527 : decode cL_isAll 527 = .ok (.iload 30, 2) := g_dec dt191_L_isAll_ok (k := 12) rfl
theorem dL_isAll_529 : decode cL_isAll 529 = .ok (.laload, 1) := g_dec dt191_L_isAll_ok (k := 13) rfl
theorem dL_isAll_530 : decode cL_isAll 530 = .ok (.bipush 50, 2) := g_dec dt191_L_isAll_ok (k := 14) rfl
theorem dL_isAll_532 : decode cL_isAll 532 = .ok (.lshr, 1) := g_dec dt191_L_isAll_ok (k := 15) rfl
theorem dL_isAll_533 : decode cL_isAll 533 = .ok (.iload 28, 2) := g_dec dt191_L_isAll_ok (k := 16) rfl
theorem dL_isAll_535 : decode cL_isAll 535 = .ok (.i2l, 1) := g_dec dt191_L_isAll_ok (k := 17) rfl
theorem dL_isAll_536 : decode cL_isAll 536 = .ok (.lcmp, 1) := g_dec dt191_L_isAll_ok (k := 18) rfl
theorem dL_isAll_537 : decode cL_isAll 537 = .ok (.ifCond .ne 16, 3) := g_dec dt191_L_isAll_ok (k := 19) rfl
theorem dL_isAll_553 : decode cL_isAll 553 = .ok (.iconst 0, 1) := g_dec dt191_L_isAll_ok (k := 20) rfl
theorem dL_isAll_540 : decode cL_isAll 540 = .ok (.aload 15, 2) := g_dec dt191_L_isAll_ok (k := 21) rfl
theorem dL_isAll_542 : decode cL_isAll 542 = .ok (.iload 30, 2) := g_dec dt191_L_isAll_ok (k := 22) rfl
theorem dL_isAll_544 : decode cL_isAll 544 = .ok (.iaload, 1) := g_dec dt191_L_isAll_ok (k := 23) rfl
theorem dL_isAll_545 : decode cL_isAll 545 = .ok (.iconst 4, 1) := g_dec dt191_L_isAll_ok (k := 24) rfl
theorem dL_isAll_546 : decode cL_isAll 546 = .ok (.idiv, 1) := g_dec dt191_L_isAll_ok (k := 25) rfl
theorem dL_isAll_547 : decode cL_isAll 547 = .ok (.bipush 16, 2) := g_dec dt191_L_isAll_ok (k := 26) rfl
theorem dL_isAll_549 : decode cL_isAll 549 = .ok (.irem, 1) := g_dec dt191_L_isAll_ok (k := 27) rfl
theorem dL_isAll_550 : decode cL_isAll 550 = .ok (.goto 4, 3) := g_dec dt191_L_isAll_ok (k := 28) rfl
theorem dL_isAll_496 : decode cL_isAll 496 = .ok (.iload 28, 2) := g_dec dt191_L_isAll_ok (k := 29) rfl
theorem dL_isAll_498 : decode cL_isAll 498 = .ok (.aload_n 1, 1) := g_dec dt191_L_isAll_ok (k := 30) rfl
theorem dL_isAll_499 : decode cL_isAll 499 = .ok (.iconst 2, 1) := g_dec dt191_L_isAll_ok (k := 31) rfl
theorem dL_isAll_500 : decode cL_isAll 500 = .ok (.iaload, 1) := g_dec dt191_L_isAll_ok (k := 32) rfl
theorem dL_isAll_501 : decode cL_isAll 501 = .ok (.if_icmp .ge 134, 3) := g_dec dt191_L_isAll_ok (k := 33) rfl
theorem dL_isAll_504 : decode cL_isAll 504 = .ok (.iload 22, 2) := g_dec dt191_L_isAll_ok (k := 34) rfl
theorem dL_isAll_506 : decode cL_isAll 506 = .ok (.ifCond .eq 129, 3) := g_dec dt191_L_isAll_ok (k := 35) rfl
theorem dL_isAll_509 : decode cL_isAll 509 = .ok (.iconst 0, 1) := g_dec dt191_L_isAll_ok (k := 36) rfl
theorem dL_isAll_510 : decode cL_isAll 510 = .ok (.istore 29, 2) := g_dec dt191_L_isAll_ok (k := 37) rfl
theorem dL_isAll_512 : decode cL_isAll 512 = .ok (.iconst 0, 1) := g_dec dt191_L_isAll_ok (k := 38) rfl
theorem dL_isAll_513 : decode cL_isAll 513 = .ok (.istore 30, 2) := g_dec dt191_L_isAll_ok (k := 39) rfl
theorem dL_isAll_493 : decode cL_isAll 493 = .ok (.iconst 0, 1) := g_dec dt191_L_isAll_ok (k := 40) rfl
theorem dL_isAll_494 : decode cL_isAll 494 = .ok (.istore 28, 2) := g_dec dt191_L_isAll_ok (k := 41) rfl
theorem dL_isAll_487 : decode cL_isAll 487 = .ok (.iinc 28 2, 3) := g_dec dt191_L_isAll_ok (k := 42) rfl
theorem dL_isAll_490 : decode cL_isAll 490 = .ok (.goto (-122), 3) := g_dec dt191_L_isAll_ok (k := 43) rfl
theorem dL_isAll_479 : decode cL_isAll 479 = .ok (.istore 22, 2) := g_dec dt191_L_isAll_ok (k := 44) rfl
theorem dL_isAll_481 : decode cL_isAll 481 = .ok (.iinc 29 1, 3) := g_dec dt191_L_isAll_ok (k := 45) rfl
theorem dL_isAll_484 : decode cL_isAll 484 = .ok (.goto (-51), 3) := g_dec dt191_L_isAll_ok (k := 46) rfl
theorem dL_isAll_433 : decode cL_isAll 433 = .ok (.iload 29, 2) := g_dec dt191_L_isAll_ok (k := 47) rfl
theorem dL_isAll_435 : decode cL_isAll 435 = .ok (.aload_n 1, 1) := g_dec dt191_L_isAll_ok (k := 48) rfl
theorem dL_isAll_436 : decode cL_isAll 436 = .ok (.iconst 2, 1) := g_dec dt191_L_isAll_ok (k := 49) rfl
theorem dL_isAll_437 : decode cL_isAll 437 = .ok (.iaload, 1) := g_dec dt191_L_isAll_ok (k := 50) rfl
theorem dL_isAll_438 : decode cL_isAll 438 = .ok (.if_icmp .ge 49, 3) := g_dec dt191_L_isAll_ok (k := 51) rfl
theorem dL_isAll_441 : decode cL_isAll 441 = .ok (.iload 22, 2) := g_dec dt191_L_isAll_ok (k := 52) rfl
theorem dL_isAll_443 : decode cL_isAll 443 = .ok (.ifCond .eq 44, 3) := g_dec dt191_L_isAll_ok (k := 53) rfl
theorem dL_isAll_446 : decode cL_isAll 446 = .ok (.aload_n 0, 1) := g_dec dt191_L_isAll_ok (k := 54) rfl
theorem dL_isAll_447 : decode cL_isAll 447 = .ok (.iload 29, 2) := g_dec dt191_L_isAll_ok (k := 55) rfl
theorem dL_isAll_449 : decode cL_isAll 449 = .ok (.iload 28, 2) := g_dec dt191_L_isAll_ok (k := 56) rfl
theorem dL_isAll_451 : decode cL_isAll 451 = .ok (.invokevirtual 177, 3) := g_dec dt191_L_isAll_ok (k := 57) rfl
theorem dL_isAll_454 : decode cL_isAll 454 = .ok (.aload_n 1, 1) := g_dec dt191_L_isAll_ok (k := 58) rfl
theorem dL_isAll_455 : decode cL_isAll 455 = .ok (.aload 12, 2) := g_dec dt191_L_isAll_ok (k := 59) rfl
def dt192_L_isAll : List (Nat × Instr × Nat) := [(457, (.aload 14, 2)), (459, (.aload 15, 2)), (461, (.iload 29, 2)), (463, (.aload 11, 2)), (465, (.iload 28, 2)), (467, (.laload, 1)), (468, (.invokestatic 25, 3)), (471, (.if_icmp .ne 7, 3)), (478, (.iconst 0, 1)), (474, (.iconst 1, 1)), (475, (.goto 4, 3)), (430, (.iconst 0, 1)), (431, (.istore 29, 2)), (422, (.istore 22, 2)), (424, (.iinc 29 1, 3)), (427, (.goto (-43), 3)), (384, (.iload 29, 2)), (386, (.bipush 12, 2)), (388, (.if_icmp .ge 42, 3)), (391, (.iload 22, 2)), (393, (.ifCond .eq 37, 3)), (396, (.aload_n 0, 1)), (397, (.iload 28, 2)), (399, (.iload 29, 2)), (401, (.invokevirtual 174, 3)), (404, (.aload 11, 2)), (406, (.iload 28, 2)), (408, (.laload, 1)), (409, (.iload 29, 2)), (411, (.invokestatic 29, 3)), (414, (.if_icmp .ne 7, 3)), (421, (.iconst 0, 1)), (417, (.iconst 1, 1)), (418, (.goto 4, 3)), (368, (.iload 28, 2)), (370, (.aload_n 1, 1)), (371, (.iconst 1, 1)), (372, (.iaload, 1)), (373, (.if_icmp .ge 120, 3)), (376, (.iload 22, 2)), (378, (.ifCond .eq 115, 3)), (381, (.iconst 0, 1)), (382, (.istore 29, 2)), (362, (.iload 18, 2)), (364, (.iconst 2, 1)), (365, (.irem, 1)), (366, (.istore 28, 2)), (354, (.istore 22, 2)), (356, (.iinc 28 1, 3)), (359, (.goto (-142), 3)), (353, (.iconst 0, 1)), (349, (.iconst 1, 1)), (350, (.goto 4, 3)), (269, (.istore 29, 2)), (271, (.iinc 30 1, 3)), (274, (.goto (-38), 3)), (236, (.iload 30, 2)), (238, (.iload 27, 2)), (240, (.if_icmp .ge 37, 3)), (277, (.aload_n 0, 1))]
theorem dt192_L_isAll_ok : ∀ q ∈ dt192_L_isAll, decode cL_isAll q.1 = .ok q.2 := by decide +kernel
theorem dL_isAll_457 : decode cL_isAll 457 = .ok (.aload 14, 2) := g_dec dt192_L_isAll_ok (k := 0) rfl
theorem dL_isAll_459 : decode cL_isAll 459 = .ok (.aload 15, 2) := g_dec dt192_L_isAll_ok (k := 1) rfl
theorem dL_isAll_461 : decode cL_isAll 461 = .ok (.iload 29, 2) := g_dec dt192_L_isAll_ok (k := 2) rfl
theorem dL_isAll_463 : decode cL_isAll 463 = .ok (.aload 11, 2) := g_dec dt192_L_isAll_ok (k := 3) rfl
theorem dL_isAll_465 : decode cL_isAll 465 = .ok (.iload 28, 2) := g_dec dt192_L_isAll_ok (k := 4) rfl
theorem dL_isAll_467 : decode cL_isAll 467 = .ok (.laload, 1) := g_dec dt192_L_isAll_ok (k := 5) rfl
theorem dL_isAll_468 : decode cL_isAll 468 = .ok (.invokestatic 25, 3) := g_dec dt192_L_isAll_ok (k := 6) rfl
theorem dL_isAll_471 : decode cL_isAll 471 = .ok (.if_icmp .ne 7, 3) := g_dec dt192_L_isAll_ok (k := 7) rfl
theorem dL_isAll_478 : decode cL_isAll 478 = .ok (.iconst 0, 1) := g_dec dt192_L_isAll_ok (k := 8) rfl
theorem dL_isAll_474 : decode cL_isAll 474 = .ok (.iconst 1, 1) := g_dec dt192_L_isAll_ok (k := 9) rfl
theorem dL_isAll_475 : decode cL_isAll 475 = .ok (.goto 4, 3) := g_dec dt192_L_isAll_ok (k := 10) rfl
theorem dL_isAll_430 : decode cL_isAll 430 = .ok (.iconst 0, 1) := g_dec dt192_L_isAll_ok (k := 11) rfl
theorem dL_isAll_431 : decode cL_isAll 431 = .ok (.istore 29, 2) := g_dec dt192_L_isAll_ok (k := 12) rfl
theorem dL_isAll_422 : decode cL_isAll 422 = .ok (.istore 22, 2) := g_dec dt192_L_isAll_ok (k := 13) rfl
theorem dL_isAll_424 : decode cL_isAll 424 = .ok (.iinc 29 1, 3) := g_dec dt192_L_isAll_ok (k := 14) rfl
theorem dL_isAll_427 : decode cL_isAll 427 = .ok (.goto (-43), 3) := g_dec dt192_L_isAll_ok (k := 15) rfl
theorem dL_isAll_384 : decode cL_isAll 384 = .ok (.iload 29, 2) := g_dec dt192_L_isAll_ok (k := 16) rfl
theorem dL_isAll_386 : decode cL_isAll 386 = .ok (.bipush 12, 2) := g_dec dt192_L_isAll_ok (k := 17) rfl
theorem dL_isAll_388 : decode cL_isAll 388 = .ok (.if_icmp .ge 42, 3) := g_dec dt192_L_isAll_ok (k := 18) rfl
theorem dL_isAll_391 : decode cL_isAll 391 = .ok (.iload 22, 2) := g_dec dt192_L_isAll_ok (k := 19) rfl
theorem dL_isAll_393 : decode cL_isAll 393 = .ok (.ifCond .eq 37, 3) := g_dec dt192_L_isAll_ok (k := 20) rfl
theorem dL_isAll_396 : decode cL_isAll 396 = .ok (.aload_n 0, 1) := g_dec dt192_L_isAll_ok (k := 21) rfl
theorem dL_isAll_397 : decode cL_isAll 397 = .ok (.iload 28, 2) := g_dec dt192_L_isAll_ok (k := 22) rfl
theorem dL_isAll_399 : decode cL_isAll 399 = .ok (.iload 29, 2) := g_dec dt192_L_isAll_ok (k := 23) rfl
theorem dL_isAll_401 : decode cL_isAll 401 = .ok (.invokevirtual 174, 3) := g_dec dt192_L_isAll_ok (k := 24) rfl
theorem dL_isAll_404 : decode cL_isAll 404 = .ok (.aload 11, 2) := g_dec dt192_L_isAll_ok (k := 25) rfl
theorem dL_isAll_406 : decode cL_isAll 406 = .ok (.iload 28, 2) := g_dec dt192_L_isAll_ok (k := 26) rfl
theorem dL_isAll_408 : decode cL_isAll 408 = .ok (.laload, 1) := g_dec dt192_L_isAll_ok (k := 27) rfl
theorem dL_isAll_409 : decode cL_isAll 409 = .ok (.iload 29, 2) := g_dec dt192_L_isAll_ok (k := 28) rfl
theorem dL_isAll_411 : decode cL_isAll 411 = .ok (.invokestatic 29, 3) := g_dec dt192_L_isAll_ok (k := 29) rfl
theorem dL_isAll_414 : decode cL_isAll 414 = .ok (.if_icmp .ne 7, 3) := g_dec dt192_L_isAll_ok (k := 30) rfl
theorem dL_isAll_421 : decode cL_isAll 421 = .ok (.iconst 0, 1) := g_dec dt192_L_isAll_ok (k := 31) rfl
theorem dL_isAll_417 : decode cL_isAll 417 = .ok (.iconst 1, 1) := g_dec dt192_L_isAll_ok (k := 32) rfl
theorem dL_isAll_418 : decode cL_isAll 418 = .ok (.goto 4, 3) := g_dec dt192_L_isAll_ok (k := 33) rfl
theorem dL_isAll_368 : decode cL_isAll 368 = .ok (.iload 28, 2) := g_dec dt192_L_isAll_ok (k := 34) rfl
theorem dL_isAll_370 : decode cL_isAll 370 = .ok (.aload_n 1, 1) := g_dec dt192_L_isAll_ok (k := 35) rfl
theorem dL_isAll_371 : decode cL_isAll 371 = .ok (.iconst 1, 1) := g_dec dt192_L_isAll_ok (k := 36) rfl
theorem dL_isAll_372 : decode cL_isAll 372 = .ok (.iaload, 1) := g_dec dt192_L_isAll_ok (k := 37) rfl
theorem dL_isAll_373 : decode cL_isAll 373 = .ok (.if_icmp .ge 120, 3) := g_dec dt192_L_isAll_ok (k := 38) rfl
theorem dL_isAll_376 : decode cL_isAll 376 = .ok (.iload 22, 2) := g_dec dt192_L_isAll_ok (k := 39) rfl
theorem dL_isAll_378 : decode cL_isAll 378 = .ok (.ifCond .eq 115, 3) := g_dec dt192_L_isAll_ok (k := 40) rfl
theorem dL_isAll_381 : decode cL_isAll 381 = .ok (.iconst 0, 1) := g_dec dt192_L_isAll_ok (k := 41) rfl
theorem dL_isAll_382 : decode cL_isAll 382 = .ok (.istore 29, 2) := g_dec dt192_L_isAll_ok (k := 42) rfl
theorem dL_isAll_362 : decode cL_isAll 362 = .ok (.iload 18, 2) := g_dec dt192_L_isAll_ok (k := 43) rfl
theorem dL_isAll_364 : decode cL_isAll 364 = .ok (.iconst 2, 1) := g_dec dt192_L_isAll_ok (k := 44) rfl
theorem dL_isAll_365 : decode cL_isAll 365 = .ok (.irem, 1) := g_dec dt192_L_isAll_ok (k := 45) rfl
theorem dL_isAll_366 : decode cL_isAll 366 = .ok (.istore 28, 2) := g_dec dt192_L_isAll_ok (k := 46) rfl
theorem dL_isAll_354 : decode cL_isAll 354 = .ok (.istore 22, 2) := g_dec dt192_L_isAll_ok (k := 47) rfl
theorem dL_isAll_356 : decode cL_isAll 356 = .ok (.iinc 28 1, 3) := g_dec dt192_L_isAll_ok (k := 48) rfl
theorem dL_isAll_359 : decode cL_isAll 359 = .ok (.goto (-142), 3) := g_dec dt192_L_isAll_ok (k := 49) rfl
theorem dL_isAll_353 : decode cL_isAll 353 = .ok (.iconst 0, 1) := g_dec dt192_L_isAll_ok (k := 50) rfl
theorem dL_isAll_349 : decode cL_isAll 349 = .ok (.iconst 1, 1) := g_dec dt192_L_isAll_ok (k := 51) rfl
theorem dL_isAll_350 : decode cL_isAll 350 = .ok (.goto 4, 3) := g_dec dt192_L_isAll_ok (k := 52) rfl
theorem dL_isAll_269 : decode cL_isAll 269 = .ok (.istore 29, 2) := g_dec dt192_L_isAll_ok (k := 53) rfl
theorem dL_isAll_271 : decode cL_isAll 271 = .ok (.iinc 30 1, 3) := g_dec dt192_L_isAll_ok (k := 54) rfl
theorem dL_isAll_274 : decode cL_isAll 274 = .ok (.goto (-38), 3) := g_dec dt192_L_isAll_ok (k := 55) rfl
theorem dL_isAll_236 : decode cL_isAll 236 = .ok (.iload 30, 2) := g_dec dt192_L_isAll_ok (k := 56) rfl
theorem dL_isAll_238 : decode cL_isAll 238 = .ok (.iload 27, 2) := g_dec dt192_L_isAll_ok (k := 57) rfl
theorem dL_isAll_240 : decode cL_isAll 240 = .ok (.if_icmp .ge 37, 3) := g_dec dt192_L_isAll_ok (k := 58) rfl
theorem dL_isAll_277 : decode cL_isAll 277 = .ok (.aload_n 0, 1) := g_dec dt192_L_isAll_ok (k := 59) rfl
def dt193_L_isAll : List (Nat × Instr × Nat) := [(278, (.iload 28, 2)), (280, (.invokevirtual 165, 3)), (283, (.aload 4, 2)), (285, (.iload 28, 2)), (287, (.iaload, 1)), (288, (.if_icmp .ne 65, 3)), (291, (.aload_n 0, 1)), (292, (.iload 28, 2)), (294, (.invokevirtual 97, 3)), (297, (.aload 7, 2)), (299, (.iload 28, 2)), (301, (.iaload, 1)), (302, (.if_icmp .ne 51, 3)), (305, (.aload_n 0, 1)), (306, (.iload 28, 2)), (308, (.invokevirtual 168, 3)), (311, (.aload_n 1, 1)), (312, (.aload_n 2, 1)), (313, (.aload 8, 2)), (315, (.aload 12, 2)), (317, (.aload 13, 2)), (319, (.iload 28, 2)), (321, (.invokestatic 53, 3)), (324, (.if_icmp .ne 29, 3)), (327, (.iload 28, 2)), (329, (.iconst 4, 1)), (330, (.irem, 1)), (331, (.iload 18, 2)), (333, (.iconst 4, 1)), (334, (.irem, 1)), (335, (.if_icmp .ne 14, 3)), (338, (.aload_n 0, 1)), (339, (.iload 28, 2)), (341, (.invokevirtual 171, 3)), (344, (.iload 29, 2)), (346, (.if_icmp .ne 7, 3)), (243, (.aload 19, 2)), (245, (.iload 30, 2)), (247, (.iaload, 1)), (248, (.bipush 100, 2)), (250, (.irem, 1)), (251, (.iload 28, 2)), (253, (.if_icmp .ne 14, 3)), (267, (.iload 29, 2)), (256, (.aload 19, 2)), (258, (.iload 30, 2)), (260, (.iaload, 1)), (261, (.bipush 100, 2)), (263, (.idiv, 1)), (264, (.goto 5, 3)), (217, (.iload 28, 2)), (219, (.aload_n 1, 1)), (220, (.iconst 0, 1)), (221, (.iaload, 1)), (222, (.if_icmp .ge 140, 3)), (225, (.iload 22, 2)), (227, (.ifCond .eq 135, 3)), (230, (.iconst (-1), 1)), (231, (.istore 29, 2)), (233, (.iconst 0, 1))]
theorem dt193_L_isAll_ok : ∀ q ∈ dt193_L_isAll, decode cL_isAll q.1 = .ok q.2 := by decide +kernel
theorem dL_isAll_278 : decode cL_isAll 278 = .ok (.iload 28, 2) := g_dec dt193_L_isAll_ok (k := 0) rfl
theorem dL_isAll_280 : decode cL_isAll 280 = .ok (.invokevirtual 165, 3) := g_dec dt193_L_isAll_ok (k := 1) rfl
theorem dL_isAll_283 : decode cL_isAll 283 = .ok (.aload 4, 2) := g_dec dt193_L_isAll_ok (k := 2) rfl
theorem dL_isAll_285 : decode cL_isAll 285 = .ok (.iload 28, 2) := g_dec dt193_L_isAll_ok (k := 3) rfl
theorem dL_isAll_287 : decode cL_isAll 287 = .ok (.iaload, 1) := g_dec dt193_L_isAll_ok (k := 4) rfl
theorem dL_isAll_288 : decode cL_isAll 288 = .ok (.if_icmp .ne 65, 3) := g_dec dt193_L_isAll_ok (k := 5) rfl
theorem dL_isAll_291 : decode cL_isAll 291 = .ok (.aload_n 0, 1) := g_dec dt193_L_isAll_ok (k := 6) rfl
theorem dL_isAll_292 : decode cL_isAll 292 = .ok (.iload 28, 2) := g_dec dt193_L_isAll_ok (k := 7) rfl
theorem dL_isAll_294 : decode cL_isAll 294 = .ok (.invokevirtual 97, 3) := g_dec dt193_L_isAll_ok (k := 8) rfl
theorem dL_isAll_297 : decode cL_isAll 297 = .ok (.aload 7, 2) := g_dec dt193_L_isAll_ok (k := 9) rfl
theorem dL_isAll_299 : decode cL_isAll 299 = .ok (.iload 28, 2) := g_dec dt193_L_isAll_ok (k := 10) rfl
theorem dL_isAll_301 : decode cL_isAll 301 = .ok (.iaload, 1) := g_dec dt193_L_isAll_ok (k := 11) rfl
theorem dL_isAll_302 : decode cL_isAll 302 = .ok (.if_icmp .ne 51, 3) := g_dec dt193_L_isAll_ok (k := 12) rfl
theorem dL_isAll_305 : decode cL_isAll 305 = .ok (.aload_n 0, 1) := g_dec dt193_L_isAll_ok (k := 13) rfl
theorem dL_isAll_306 : decode cL_isAll 306 = .ok (.iload 28, 2) := g_dec dt193_L_isAll_ok (k := 14) rfl
theorem dL_isAll_308 : decode cL_isAll 308 = .ok (.invokevirtual 168, 3) := g_dec dt193_L_isAll_ok (k := 15) rfl
theorem dL_isAll_311 : decode cL_isAll 311 = .ok (.aload_n 1, 1) := g_dec dt193_L_isAll_ok (k := 16) rfl
theorem dL_isAll_312 : decode cL_isAll 312 = .ok (.aload_n 2, 1) := g_dec dt193_L_isAll_ok (k := 17) rfl
theorem dL_isAll_313 : decode cL_isAll 313 = .ok (.aload 8, 2) := g_dec dt193_L_isAll_ok (k := 18) rfl
theorem dL_isAll_315 : decode cL_isAll 315 = .ok (.aload 12, 2) := g_dec dt193_L_isAll_ok (k := 19) rfl
theorem dL_isAll_317 : decode cL_isAll 317 = .ok (.aload 13, 2) := g_dec dt193_L_isAll_ok (k := 20) rfl
theorem dL_isAll_319 : decode cL_isAll 319 = .ok (.iload 28, 2) := g_dec dt193_L_isAll_ok (k := 21) rfl
theorem dL_isAll_321 : decode cL_isAll 321 = .ok (.invokestatic 53, 3) := g_dec dt193_L_isAll_ok (k := 22) rfl
theorem dL_isAll_324 : decode cL_isAll 324 = .ok (.if_icmp .ne 29, 3) := g_dec dt193_L_isAll_ok (k := 23) rfl
theorem dL_isAll_327 : decode cL_isAll 327 = .ok (.iload 28, 2) := g_dec dt193_L_isAll_ok (k := 24) rfl
theorem dL_isAll_329 : decode cL_isAll 329 = .ok (.iconst 4, 1) := g_dec dt193_L_isAll_ok (k := 25) rfl
theorem dL_isAll_330 : decode cL_isAll 330 = .ok (.irem, 1) := g_dec dt193_L_isAll_ok (k := 26) rfl
theorem dL_isAll_331 : decode cL_isAll 331 = .ok (.iload 18, 2) := g_dec dt193_L_isAll_ok (k := 27) rfl
theorem dL_isAll_333 : decode cL_isAll 333 = .ok (.iconst 4, 1) := g_dec dt193_L_isAll_ok (k := 28) rfl
theorem dL_isAll_334 : decode cL_isAll 334 = .ok (.irem, 1) := g_dec dt193_L_isAll_ok (k := 29) rfl
theorem dL_isAll_335 : decode cL_isAll 335 = .ok (.if_icmp .ne 14, 3) := g_dec dt193_L_isAll_ok (k := 30) rfl
theorem dL_isAll_338 : decode cL_isAll 338 = .ok (.aload_n 0, 1) := g_dec dt193_L_isAll_ok (k := 31) rfl
theorem dL_isAll_339 : decode cL_isAll 339 = .ok (.iload 28, 2) := g_dec dt193_L_isAll_ok (k := 32) rfl
theorem dL_isAll_341 : decode cL_isAll 341 = .ok (.invokevirtual 171, 3) := g_dec dt193_L_isAll_ok (k := 33) rfl
theorem dL_isAll_344 : decode cL_isAll 344 = .ok (.iload 29, 2) := g_dec dt193_L_isAll_ok (k := 34) rfl
theorem dL_isAll_346 : decode cL_isAll 346 = .ok (.if_icmp .ne 7, 3) := g_dec dt193_L_isAll_ok (k := 35) rfl
theorem dL_isAll_243 : decode cL_isAll 243 = .ok (.aload 19, 2) := g_dec dt193_L_isAll_ok (k := 36) rfl
theorem dL_isAll_245 : decode cL_isAll 245 = .ok (.iload 30, 2) := g_dec dt193_L_isAll_ok (k := 37) rfl
theorem dL_isAll_247 : decode cL_isAll 247 = .ok (.iaload, 1) := g_dec dt193_L_isAll_ok (k := 38) rfl
theorem dL_isAll_248 : decode cL_isAll 248 = .ok (.bipush 100, 2) := g_dec dt193_L_isAll_ok (k := 39) rfl
theorem dL_isAll_250 : decode cL_isAll 250 = .ok (.irem, 1) := g_dec dt193_L_isAll_ok (k := 40) rfl
theorem dL_isAll_251 : decode cL_isAll 251 = .ok (.iload 28, 2) := g_dec dt193_L_isAll_ok (k := 41) rfl
theorem dL_isAll_253 : decode cL_isAll 253 = .ok (.if_icmp .ne 14, 3) := g_dec dt193_L_isAll_ok (k := 42) rfl
theorem dL_isAll_267 : decode cL_isAll 267 = .ok (.iload 29, 2) := g_dec dt193_L_isAll_ok (k := 43) rfl
theorem dL_isAll_256 : decode cL_isAll 256 = .ok (.aload 19, 2) := g_dec dt193_L_isAll_ok (k := 44) rfl
theorem dL_isAll_258 : decode cL_isAll 258 = .ok (.iload 30, 2) := g_dec dt193_L_isAll_ok (k := 45) rfl
theorem dL_isAll_260 : decode cL_isAll 260 = .ok (.iaload, 1) := g_dec dt193_L_isAll_ok (k := 46) rfl
theorem dL_isAll_261 : decode cL_isAll 261 = .ok (.bipush 100, 2) := g_dec dt193_L_isAll_ok (k := 47) rfl
theorem dL_isAll_263 : decode cL_isAll 263 = .ok (.idiv, 1) := g_dec dt193_L_isAll_ok (k := 48) rfl
theorem dL_isAll_264 : decode cL_isAll 264 = .ok (.goto 5, 3) := g_dec dt193_L_isAll_ok (k := 49) rfl
theorem dL_isAll_217 : decode cL_isAll 217 = .ok (.iload 28, 2) := g_dec dt193_L_isAll_ok (k := 50) rfl
theorem dL_isAll_219 : decode cL_isAll 219 = .ok (.aload_n 1, 1) := g_dec dt193_L_isAll_ok (k := 51) rfl
theorem dL_isAll_220 : decode cL_isAll 220 = .ok (.iconst 0, 1) := g_dec dt193_L_isAll_ok (k := 52) rfl
theorem dL_isAll_221 : decode cL_isAll 221 = .ok (.iaload, 1) := g_dec dt193_L_isAll_ok (k := 53) rfl
theorem dL_isAll_222 : decode cL_isAll 222 = .ok (.if_icmp .ge 140, 3) := g_dec dt193_L_isAll_ok (k := 54) rfl
theorem dL_isAll_225 : decode cL_isAll 225 = .ok (.iload 22, 2) := g_dec dt193_L_isAll_ok (k := 55) rfl
theorem dL_isAll_227 : decode cL_isAll 227 = .ok (.ifCond .eq 135, 3) := g_dec dt193_L_isAll_ok (k := 56) rfl
theorem dL_isAll_230 : decode cL_isAll 230 = .ok (.iconst (-1), 1) := g_dec dt193_L_isAll_ok (k := 57) rfl
theorem dL_isAll_231 : decode cL_isAll 231 = .ok (.istore 29, 2) := g_dec dt193_L_isAll_ok (k := 58) rfl
theorem dL_isAll_233 : decode cL_isAll 233 = .ok (.iconst 0, 1) := g_dec dt193_L_isAll_ok (k := 59) rfl
def dt194_L_isAll : List (Nat × Instr × Nat) := [(234, (.istore 30, 2)), (177, (.istore 22, 2)), (179, (.aload 11, 2)), (181, (.aload_n 1, 1)), (182, (.iconst 1, 1)), (183, (.iaload, 1)), (184, (.iconst 1, 1)), (185, (.isub, 1)), (186, (.laload, 1)), (187, (.lstore 25, 2)), (189, (.aload_n 1, 1)), (190, (.aload_n 3, 1)), (191, (.aload 4, 2)), (193, (.aload 5, 2)), (195, (.aload 6, 2)), (197, (.aload 8, 2)), (199, (.aload 9, 2)), (201, (.aload 10, 2)), (203, (.lload 25, 2)), (205, (.aload 19, 2)), (207, (.aload 20, 2)), (209, (.invokestatic 122, 3)), (212, (.istore 27, 2)), (214, (.iconst 0, 1)), (215, (.istore 28, 2)), (176, (.iconst 0, 1)), (143, (.iload 22, 2)), (145, (.ifCond .eq 31, 3)), (148, (.aload_n 0, 1)), (149, (.invokevirtual 158, 3)), (152, (.iload 24, 2)), (154, (.if_icmp .ne 22, 3)), (157, (.aload_n 0, 1)), (158, (.bipush 7, 2)), (160, (.iload 24, 2)), (162, (.iconst 0, 1)), (163, (.iconst 0, 1)), (164, (.invokestatic 161, 3)), (167, (.bipush (-11), 2)), (169, (.if_icmp .ne 7, 3)), (172, (.iconst 1, 1)), (173, (.goto 4, 3)), (120, (.istore 22, 2)), (122, (.iinc 24 1, 3)), (125, (.aload_n 1, 1)), (126, (.aload_n 3, 1)), (127, (.aload 4, 2)), (129, (.aload 5, 2)), (131, (.aload 6, 2)), (133, (.iload 23, 2)), (135, (.invokestatic 41, 3)), (138, (.istore 25, 2)), (140, (.goto (-55), 3)), (85, (.iload 25, 2)), (87, (.ifCond .lt 56, 3)), (90, (.iload 22, 2)), (92, (.ifCond .eq 51, 3)), (95, (.iload 23, 2)), (97, (.iconst 1, 1)), (98, (.iload 25, 2))]
theorem dt194_L_isAll_ok : ∀ q ∈ dt194_L_isAll, decode cL_isAll q.1 = .ok q.2 := by decide +kernel
theorem dL_isAll_234 : decode cL_isAll 234 = .ok (.istore 30, 2) := g_dec dt194_L_isAll_ok (k := 0) rfl
theorem dL_isAll_177 : decode cL_isAll 177 = .ok (.istore 22, 2) := g_dec dt194_L_isAll_ok (k := 1) rfl
theorem dL_isAll_179 : decode cL_isAll 179 = .ok (.aload 11, 2) := g_dec dt194_L_isAll_ok (k := 2) rfl
theorem dL_isAll_181 : decode cL_isAll 181 = .ok (.aload_n 1, 1) := g_dec dt194_L_isAll_ok (k := 3) rfl
theorem dL_isAll_182 : decode cL_isAll 182 = .ok (.iconst 1, 1) := g_dec dt194_L_isAll_ok (k := 4) rfl
theorem dL_isAll_183 : decode cL_isAll 183 = .ok (.iaload, 1) := g_dec dt194_L_isAll_ok (k := 5) rfl
theorem dL_isAll_184 : decode cL_isAll 184 = .ok (.iconst 1, 1) := g_dec dt194_L_isAll_ok (k := 6) rfl
theorem dL_isAll_185 : decode cL_isAll 185 = .ok (.isub, 1) := g_dec dt194_L_isAll_ok (k := 7) rfl
theorem dL_isAll_186 : decode cL_isAll 186 = .ok (.laload, 1) := g_dec dt194_L_isAll_ok (k := 8) rfl
theorem dL_isAll_187 : decode cL_isAll 187 = .ok (.lstore 25, 2) := g_dec dt194_L_isAll_ok (k := 9) rfl
theorem dL_isAll_189 : decode cL_isAll 189 = .ok (.aload_n 1, 1) := g_dec dt194_L_isAll_ok (k := 10) rfl
theorem dL_isAll_190 : decode cL_isAll 190 = .ok (.aload_n 3, 1) := g_dec dt194_L_isAll_ok (k := 11) rfl
theorem dL_isAll_191 : decode cL_isAll 191 = .ok (.aload 4, 2) := g_dec dt194_L_isAll_ok (k := 12) rfl
theorem dL_isAll_193 : decode cL_isAll 193 = .ok (.aload 5, 2) := g_dec dt194_L_isAll_ok (k := 13) rfl
theorem dL_isAll_195 : decode cL_isAll 195 = .ok (.aload 6, 2) := g_dec dt194_L_isAll_ok (k := 14) rfl
theorem dL_isAll_197 : decode cL_isAll 197 = .ok (.aload 8, 2) := g_dec dt194_L_isAll_ok (k := 15) rfl
theorem dL_isAll_199 : decode cL_isAll 199 = .ok (.aload 9, 2) := g_dec dt194_L_isAll_ok (k := 16) rfl
theorem dL_isAll_201 : decode cL_isAll 201 = .ok (.aload 10, 2) := g_dec dt194_L_isAll_ok (k := 17) rfl
theorem dL_isAll_203 : decode cL_isAll 203 = .ok (.lload 25, 2) := g_dec dt194_L_isAll_ok (k := 18) rfl
theorem dL_isAll_205 : decode cL_isAll 205 = .ok (.aload 19, 2) := g_dec dt194_L_isAll_ok (k := 19) rfl
theorem dL_isAll_207 : decode cL_isAll 207 = .ok (.aload 20, 2) := g_dec dt194_L_isAll_ok (k := 20) rfl
theorem dL_isAll_209 : decode cL_isAll 209 = .ok (.invokestatic 122, 3) := g_dec dt194_L_isAll_ok (k := 21) rfl
theorem dL_isAll_212 : decode cL_isAll 212 = .ok (.istore 27, 2) := g_dec dt194_L_isAll_ok (k := 22) rfl
theorem dL_isAll_214 : decode cL_isAll 214 = .ok (.iconst 0, 1) := g_dec dt194_L_isAll_ok (k := 23) rfl
theorem dL_isAll_215 : decode cL_isAll 215 = .ok (.istore 28, 2) := g_dec dt194_L_isAll_ok (k := 24) rfl
theorem dL_isAll_176 : decode cL_isAll 176 = .ok (.iconst 0, 1) := g_dec dt194_L_isAll_ok (k := 25) rfl
theorem dL_isAll_143 : decode cL_isAll 143 = .ok (.iload 22, 2) := g_dec dt194_L_isAll_ok (k := 26) rfl
theorem dL_isAll_145 : decode cL_isAll 145 = .ok (.ifCond .eq 31, 3) := g_dec dt194_L_isAll_ok (k := 27) rfl
theorem dL_isAll_148 : decode cL_isAll 148 = .ok (.aload_n 0, 1) := g_dec dt194_L_isAll_ok (k := 28) rfl
theorem dL_isAll_149 : decode cL_isAll 149 = .ok (.invokevirtual 158, 3) := g_dec dt194_L_isAll_ok (k := 29) rfl
theorem dL_isAll_152 : decode cL_isAll 152 = .ok (.iload 24, 2) := g_dec dt194_L_isAll_ok (k := 30) rfl
theorem dL_isAll_154 : decode cL_isAll 154 = .ok (.if_icmp .ne 22, 3) := g_dec dt194_L_isAll_ok (k := 31) rfl
theorem dL_isAll_157 : decode cL_isAll 157 = .ok (.aload_n 0, 1) := g_dec dt194_L_isAll_ok (k := 32) rfl
theorem dL_isAll_158 : decode cL_isAll 158 = .ok (.bipush 7, 2) := g_dec dt194_L_isAll_ok (k := 33) rfl
theorem dL_isAll_160 : decode cL_isAll 160 = .ok (.iload 24, 2) := g_dec dt194_L_isAll_ok (k := 34) rfl
theorem dL_isAll_162 : decode cL_isAll 162 = .ok (.iconst 0, 1) := g_dec dt194_L_isAll_ok (k := 35) rfl
theorem dL_isAll_163 : decode cL_isAll 163 = .ok (.iconst 0, 1) := g_dec dt194_L_isAll_ok (k := 36) rfl
theorem dL_isAll_164 : decode cL_isAll 164 = .ok (.invokestatic 161, 3) := g_dec dt194_L_isAll_ok (k := 37) rfl
theorem dL_isAll_167 : decode cL_isAll 167 = .ok (.bipush (-11), 2) := g_dec dt194_L_isAll_ok (k := 38) rfl
theorem dL_isAll_169 : decode cL_isAll 169 = .ok (.if_icmp .ne 7, 3) := g_dec dt194_L_isAll_ok (k := 39) rfl
theorem dL_isAll_172 : decode cL_isAll 172 = .ok (.iconst 1, 1) := g_dec dt194_L_isAll_ok (k := 40) rfl
theorem dL_isAll_173 : decode cL_isAll 173 = .ok (.goto 4, 3) := g_dec dt194_L_isAll_ok (k := 41) rfl
theorem dL_isAll_120 : decode cL_isAll 120 = .ok (.istore 22, 2) := g_dec dt194_L_isAll_ok (k := 42) rfl
theorem dL_isAll_122 : decode cL_isAll 122 = .ok (.iinc 24 1, 3) := g_dec dt194_L_isAll_ok (k := 43) rfl
theorem dL_isAll_125 : decode cL_isAll 125 = .ok (.aload_n 1, 1) := g_dec dt194_L_isAll_ok (k := 44) rfl
theorem dL_isAll_126 : decode cL_isAll 126 = .ok (.aload_n 3, 1) := g_dec dt194_L_isAll_ok (k := 45) rfl
theorem dL_isAll_127 : decode cL_isAll 127 = .ok (.aload 4, 2) := g_dec dt194_L_isAll_ok (k := 46) rfl
theorem dL_isAll_129 : decode cL_isAll 129 = .ok (.aload 5, 2) := g_dec dt194_L_isAll_ok (k := 47) rfl
theorem dL_isAll_131 : decode cL_isAll 131 = .ok (.aload 6, 2) := g_dec dt194_L_isAll_ok (k := 48) rfl
theorem dL_isAll_133 : decode cL_isAll 133 = .ok (.iload 23, 2) := g_dec dt194_L_isAll_ok (k := 49) rfl
theorem dL_isAll_135 : decode cL_isAll 135 = .ok (.invokestatic 41, 3) := g_dec dt194_L_isAll_ok (k := 50) rfl
theorem dL_isAll_138 : decode cL_isAll 138 = .ok (.istore 25, 2) := g_dec dt194_L_isAll_ok (k := 51) rfl
theorem dL_isAll_140 : decode cL_isAll 140 = .ok (.goto (-55), 3) := g_dec dt194_L_isAll_ok (k := 52) rfl
theorem dL_isAll_85 : decode cL_isAll 85 = .ok (.iload 25, 2) := g_dec dt194_L_isAll_ok (k := 53) rfl
theorem dL_isAll_87 : decode cL_isAll 87 = .ok (.ifCond .lt 56, 3) := g_dec dt194_L_isAll_ok (k := 54) rfl
theorem dL_isAll_90 : decode cL_isAll 90 = .ok (.iload 22, 2) := g_dec dt194_L_isAll_ok (k := 55) rfl
theorem dL_isAll_92 : decode cL_isAll 92 = .ok (.ifCond .eq 51, 3) := g_dec dt194_L_isAll_ok (k := 56) rfl
theorem dL_isAll_95 : decode cL_isAll 95 = .ok (.iload 23, 2) := g_dec dt194_L_isAll_ok (k := 57) rfl
theorem dL_isAll_97 : decode cL_isAll 97 = .ok (.iconst 1, 1) := g_dec dt194_L_isAll_ok (k := 58) rfl
theorem dL_isAll_98 : decode cL_isAll 98 = .ok (.iload 25, 2) := g_dec dt194_L_isAll_ok (k := 59) rfl
def dt195_L_isAll : List (Nat × Instr × Nat) := [(100, (.ishl, 1)), (101, (.ior, 1)), (102, (.istore 23, 2)), (104, (.aload_n 0, 1)), (105, (.iload 24, 2)), (107, (.invokevirtual 94, 3)), (110, (.iload 25, 2)), (112, (.if_icmp .ne 7, 3)), (119, (.iconst 0, 1)), (115, (.iconst 1, 1)), (116, (.goto 4, 3)), (63, (.istore 22, 2)), (65, (.iconst 0, 1)), (66, (.istore 23, 2)), (68, (.iconst 0, 1)), (69, (.istore 24, 2)), (71, (.aload_n 1, 1)), (72, (.aload_n 3, 1)), (73, (.aload 4, 2)), (75, (.aload 5, 2)), (77, (.aload 6, 2)), (79, (.iconst 0, 1)), (80, (.invokestatic 41, 3)), (83, (.istore 25, 2)), (62, (.iconst 0, 1)), (0, (.bipush 32, 2)), (2, (.newarray .int, 2)), (4, (.astore 19, 2)), (6, (.iconst 5, 1)), (7, (.newarray .long, 2)), (9, (.astore 20, 2)), (11, (.iconst 3, 1)), (12, (.newarray .int, 2)), (14, (.astore 21, 2)), (16, (.aload_n 0, 1)), (17, (.invokevirtual 146, 3)), (20, (.aload_n 1, 1)), (21, (.bipush 10, 2)), (23, (.iaload, 1)), (24, (.if_icmp .ne 38, 3)), (27, (.aload_n 0, 1)), (28, (.invokevirtual 149, 3)), (31, (.aload_n 1, 1)), (32, (.iconst 0, 1)), (33, (.iaload, 1)), (34, (.if_icmp .ne 28, 3)), (37, (.aload_n 0, 1)), (38, (.invokevirtual 152, 3)), (41, (.aload_n 1, 1)), (42, (.iconst 1, 1)), (43, (.iaload, 1)), (44, (.if_icmp .ne 18, 3)), (47, (.aload_n 0, 1)), (48, (.invokevirtual 155, 3)), (51, (.aload_n 1, 1)), (52, (.bipush 9, 2)), (54, (.iaload, 1)), (55, (.if_icmp .ne 7, 3)), (58, (.iconst 1, 1)), (59, (.goto 4, 3))]
theorem dt195_L_isAll_ok : ∀ q ∈ dt195_L_isAll, decode cL_isAll q.1 = .ok q.2 := by decide +kernel
theorem dL_isAll_100 : decode cL_isAll 100 = .ok (.ishl, 1) := g_dec dt195_L_isAll_ok (k := 0) rfl
theorem dL_isAll_101 : decode cL_isAll 101 = .ok (.ior, 1) := g_dec dt195_L_isAll_ok (k := 1) rfl
theorem dL_isAll_102 : decode cL_isAll 102 = .ok (.istore 23, 2) := g_dec dt195_L_isAll_ok (k := 2) rfl
theorem dL_isAll_104 : decode cL_isAll 104 = .ok (.aload_n 0, 1) := g_dec dt195_L_isAll_ok (k := 3) rfl
theorem dL_isAll_105 : decode cL_isAll 105 = .ok (.iload 24, 2) := g_dec dt195_L_isAll_ok (k := 4) rfl
theorem dL_isAll_107 : decode cL_isAll 107 = .ok (.invokevirtual 94, 3) := g_dec dt195_L_isAll_ok (k := 5) rfl
theorem dL_isAll_110 : decode cL_isAll 110 = .ok (.iload 25, 2) := g_dec dt195_L_isAll_ok (k := 6) rfl
theorem dL_isAll_112 : decode cL_isAll 112 = .ok (.if_icmp .ne 7, 3) := g_dec dt195_L_isAll_ok (k := 7) rfl
theorem dL_isAll_119 : decode cL_isAll 119 = .ok (.iconst 0, 1) := g_dec dt195_L_isAll_ok (k := 8) rfl
theorem dL_isAll_115 : decode cL_isAll 115 = .ok (.iconst 1, 1) := g_dec dt195_L_isAll_ok (k := 9) rfl
theorem dL_isAll_116 : decode cL_isAll 116 = .ok (.goto 4, 3) := g_dec dt195_L_isAll_ok (k := 10) rfl
theorem dL_isAll_63 : decode cL_isAll 63 = .ok (.istore 22, 2) := g_dec dt195_L_isAll_ok (k := 11) rfl
theorem dL_isAll_65 : decode cL_isAll 65 = .ok (.iconst 0, 1) := g_dec dt195_L_isAll_ok (k := 12) rfl
theorem dL_isAll_66 : decode cL_isAll 66 = .ok (.istore 23, 2) := g_dec dt195_L_isAll_ok (k := 13) rfl
theorem dL_isAll_68 : decode cL_isAll 68 = .ok (.iconst 0, 1) := g_dec dt195_L_isAll_ok (k := 14) rfl
theorem dL_isAll_69 : decode cL_isAll 69 = .ok (.istore 24, 2) := g_dec dt195_L_isAll_ok (k := 15) rfl
theorem dL_isAll_71 : decode cL_isAll 71 = .ok (.aload_n 1, 1) := g_dec dt195_L_isAll_ok (k := 16) rfl
theorem dL_isAll_72 : decode cL_isAll 72 = .ok (.aload_n 3, 1) := g_dec dt195_L_isAll_ok (k := 17) rfl
theorem dL_isAll_73 : decode cL_isAll 73 = .ok (.aload 4, 2) := g_dec dt195_L_isAll_ok (k := 18) rfl
theorem dL_isAll_75 : decode cL_isAll 75 = .ok (.aload 5, 2) := g_dec dt195_L_isAll_ok (k := 19) rfl
theorem dL_isAll_77 : decode cL_isAll 77 = .ok (.aload 6, 2) := g_dec dt195_L_isAll_ok (k := 20) rfl
theorem dL_isAll_79 : decode cL_isAll 79 = .ok (.iconst 0, 1) := g_dec dt195_L_isAll_ok (k := 21) rfl
theorem dL_isAll_80 : decode cL_isAll 80 = .ok (.invokestatic 41, 3) := g_dec dt195_L_isAll_ok (k := 22) rfl
theorem dL_isAll_83 : decode cL_isAll 83 = .ok (.istore 25, 2) := g_dec dt195_L_isAll_ok (k := 23) rfl
theorem dL_isAll_62 : decode cL_isAll 62 = .ok (.iconst 0, 1) := g_dec dt195_L_isAll_ok (k := 24) rfl
theorem dL_isAll_0 : decode cL_isAll 0 = .ok (.bipush 32, 2) := g_dec dt195_L_isAll_ok (k := 25) rfl
theorem dL_isAll_2 : decode cL_isAll 2 = .ok (.newarray .int, 2) := g_dec dt195_L_isAll_ok (k := 26) rfl
theorem dL_isAll_4 : decode cL_isAll 4 = .ok (.astore 19, 2) := g_dec dt195_L_isAll_ok (k := 27) rfl
theorem dL_isAll_6 : decode cL_isAll 6 = .ok (.iconst 5, 1) := g_dec dt195_L_isAll_ok (k := 28) rfl
theorem dL_isAll_7 : decode cL_isAll 7 = .ok (.newarray .long, 2) := g_dec dt195_L_isAll_ok (k := 29) rfl
theorem dL_isAll_9 : decode cL_isAll 9 = .ok (.astore 20, 2) := g_dec dt195_L_isAll_ok (k := 30) rfl
theorem dL_isAll_11 : decode cL_isAll 11 = .ok (.iconst 3, 1) := g_dec dt195_L_isAll_ok (k := 31) rfl
theorem dL_isAll_12 : decode cL_isAll 12 = .ok (.newarray .int, 2) := g_dec dt195_L_isAll_ok (k := 32) rfl
theorem dL_isAll_14 : decode cL_isAll 14 = .ok (.astore 21, 2) := g_dec dt195_L_isAll_ok (k := 33) rfl
theorem dL_isAll_16 : decode cL_isAll 16 = .ok (.aload_n 0, 1) := g_dec dt195_L_isAll_ok (k := 34) rfl
theorem dL_isAll_17 : decode cL_isAll 17 = .ok (.invokevirtual 146, 3) := g_dec dt195_L_isAll_ok (k := 35) rfl
theorem dL_isAll_20 : decode cL_isAll 20 = .ok (.aload_n 1, 1) := g_dec dt195_L_isAll_ok (k := 36) rfl
theorem dL_isAll_21 : decode cL_isAll 21 = .ok (.bipush 10, 2) := g_dec dt195_L_isAll_ok (k := 37) rfl
theorem dL_isAll_23 : decode cL_isAll 23 = .ok (.iaload, 1) := g_dec dt195_L_isAll_ok (k := 38) rfl
theorem dL_isAll_24 : decode cL_isAll 24 = .ok (.if_icmp .ne 38, 3) := g_dec dt195_L_isAll_ok (k := 39) rfl
theorem dL_isAll_27 : decode cL_isAll 27 = .ok (.aload_n 0, 1) := g_dec dt195_L_isAll_ok (k := 40) rfl
theorem dL_isAll_28 : decode cL_isAll 28 = .ok (.invokevirtual 149, 3) := g_dec dt195_L_isAll_ok (k := 41) rfl
theorem dL_isAll_31 : decode cL_isAll 31 = .ok (.aload_n 1, 1) := g_dec dt195_L_isAll_ok (k := 42) rfl
theorem dL_isAll_32 : decode cL_isAll 32 = .ok (.iconst 0, 1) := g_dec dt195_L_isAll_ok (k := 43) rfl
theorem dL_isAll_33 : decode cL_isAll 33 = .ok (.iaload, 1) := g_dec dt195_L_isAll_ok (k := 44) rfl
theorem dL_isAll_34 : decode cL_isAll 34 = .ok (.if_icmp .ne 28, 3) := g_dec dt195_L_isAll_ok (k := 45) rfl
theorem dL_isAll_37 : decode cL_isAll 37 = .ok (.aload_n 0, 1) := g_dec dt195_L_isAll_ok (k := 46) rfl
theorem dL_isAll_38 : decode cL_isAll 38 = .ok (.invokevirtual 152, 3) := g_dec dt195_L_isAll_ok (k := 47) rfl
theorem dL_isAll_41 : decode cL_isAll 41 = .ok (.aload_n 1, 1) := g_dec dt195_L_isAll_ok (k := 48) rfl
theorem dL_isAll_42 : decode cL_isAll 42 = .ok (.iconst 1, 1) := g_dec dt195_L_isAll_ok (k := 49) rfl
theorem dL_isAll_43 : decode cL_isAll 43 = .ok (.iaload, 1) := g_dec dt195_L_isAll_ok (k := 50) rfl
theorem dL_isAll_44 : decode cL_isAll 44 = .ok (.if_icmp .ne 18, 3) := g_dec dt195_L_isAll_ok (k := 51) rfl
theorem dL_isAll_47 : decode cL_isAll 47 = .ok (.aload_n 0, 1) := g_dec dt195_L_isAll_ok (k := 52) rfl
theorem dL_isAll_48 : decode cL_isAll 48 = .ok (.invokevirtual 155, 3) := g_dec dt195_L_isAll_ok (k := 53) rfl
theorem dL_isAll_51 : decode cL_isAll 51 = .ok (.aload_n 1, 1) := g_dec dt195_L_isAll_ok (k := 54) rfl
theorem dL_isAll_52 : decode cL_isAll 52 = .ok (.bipush 9, 2) := g_dec dt195_L_isAll_ok (k := 55) rfl
theorem dL_isAll_54 : decode cL_isAll 54 = .ok (.iaload, 1) := g_dec dt195_L_isAll_ok (k := 56) rfl
theorem dL_isAll_55 : decode cL_isAll 55 = .ok (.if_icmp .ne 7, 3) := g_dec dt195_L_isAll_ok (k := 57) rfl
theorem dL_isAll_58 : decode cL_isAll 58 = .ok (.iconst 1, 1) := g_dec dt195_L_isAll_ok (k := 58) rfl
theorem dL_isAll_59 : decode cL_isAll 59 = .ok (.goto 4, 3) := g_dec dt195_L_isAll_ok (k := 59) rfl
theorem ggV_RL_198_X11_isBroken : GoodIn wsL_law (wsV RL 198 RX11 yX11_isBroken (Cond.code yX11_isBroken cX11_isBroken 1 (some .boolean) :: wsL_law)) := g_gi (fun _ h => h) gW_good (List.forall_mem_cons.mpr ⟨⟨gw_569, rfl⟩, List.forall_mem_cons.mpr ⟨⟨gw_570, rfl⟩, List.forall_mem_cons.mpr ⟨⟨gw_571, rfl⟩, List.forall_mem_cons.mpr ⟨⟨gw_2, rfl⟩, fun _ h => nomatch h⟩⟩⟩⟩) ⟨gw_572, rfl⟩
theorem ggV_RL_189_X11_blame : GoodIn wsL_law (wsV RL 189 RX11 yX11_blame (Cond.code yX11_blame cX11_blame 2 (some .int) :: wsL_law)) := g_gi (fun _ h => h) gW_good (List.forall_mem_cons.mpr ⟨⟨gw_534, rfl⟩, List.forall_mem_cons.mpr ⟨⟨gw_535, rfl⟩, List.forall_mem_cons.mpr ⟨⟨gw_536, rfl⟩, List.forall_mem_cons.mpr ⟨⟨gw_2, rfl⟩, fun _ h => nomatch h⟩⟩⟩⟩) ⟨gw_537, rfl⟩
theorem ggV_RL_192_X11_use : GoodIn wsL_law (wsV RL 192 RX11 yX11_use (Cond.code yX11_use cX11_use 2 (some .int) :: wsL_law)) := g_gi (fun _ h => h) gW_good (List.forall_mem_cons.mpr ⟨⟨gw_538, rfl⟩, List.forall_mem_cons.mpr ⟨⟨gw_539, rfl⟩, List.forall_mem_cons.mpr ⟨⟨gw_540, rfl⟩, List.forall_mem_cons.mpr ⟨⟨gw_2, rfl⟩, fun _ h => nomatch h⟩⟩⟩⟩) ⟨gw_541, rfl⟩
theorem ggV_RL_195_X11_running : GoodIn wsL_law (wsV RL 195 RX11 yX11_running (Cond.code yX11_running cX11_running 2 (some .int) :: wsL_law)) := g_gi (fun _ h => h) gW_good (List.forall_mem_cons.mpr ⟨⟨gw_542, rfl⟩, List.forall_mem_cons.mpr ⟨⟨gw_543, rfl⟩, List.forall_mem_cons.mpr ⟨⟨gw_544, rfl⟩, List.forall_mem_cons.mpr ⟨⟨gw_2, rfl⟩, fun _ h => nomatch h⟩⟩⟩⟩) ⟨gw_545, rfl⟩
theorem ggV_RL_179_X11_runs : GoodIn wsL_law (wsV RL 179 RX11 yX11_runs (Cond.code yX11_runs cX11_runs 2 (some .int) :: wsL_law)) := g_gi (fun _ h => h) gW_good (List.forall_mem_cons.mpr ⟨⟨gw_515, rfl⟩, List.forall_mem_cons.mpr ⟨⟨gw_516, rfl⟩, List.forall_mem_cons.mpr ⟨⟨gw_517, rfl⟩, List.forall_mem_cons.mpr ⟨⟨gw_2, rfl⟩, fun _ h => nomatch h⟩⟩⟩⟩) ⟨gw_518, rfl⟩
theorem ggV_RL_182_X11_flaked : GoodIn wsL_law (wsV RL 182 RX11 yX11_flaked (Cond.code yX11_flaked cX11_flaked 2 (some .int) :: wsL_law)) := g_gi (fun _ h => h) gW_good (List.forall_mem_cons.mpr ⟨⟨gw_520, rfl⟩, List.forall_mem_cons.mpr ⟨⟨gw_521, rfl⟩, List.forall_mem_cons.mpr ⟨⟨gw_522, rfl⟩, List.forall_mem_cons.mpr ⟨⟨gw_2, rfl⟩, fun _ h => nomatch h⟩⟩⟩⟩) ⟨gw_523, rfl⟩
theorem ggV_RL_185_X11_isQuarantined : GoodIn wsL_law (wsV RL 185 RX11 yX11_isQuarantined (Cond.code yX11_isQuarantined cX11_isQuarantined 2 (some .boolean) :: wsL_law)) := g_gi (fun _ h => h) gW_good (List.forall_mem_cons.mpr ⟨⟨gw_525, rfl⟩, List.forall_mem_cons.mpr ⟨⟨gw_526, rfl⟩, List.forall_mem_cons.mpr ⟨⟨gw_527, rfl⟩, List.forall_mem_cons.mpr ⟨⟨gw_2, rfl⟩, fun _ h => nomatch h⟩⟩⟩⟩) ⟨gw_528, rfl⟩
theorem ggV_RL_177_X11_verdict : GoodIn wsL_law (wsV RL 177 RX11 yX11_verdict (Cond.code yX11_verdict cX11_verdict 3 (some .int) :: wsL_law)) := g_gi (fun _ h => h) gW_good (List.forall_mem_cons.mpr ⟨⟨gw_486, rfl⟩, List.forall_mem_cons.mpr ⟨⟨gw_487, rfl⟩, List.forall_mem_cons.mpr ⟨⟨gw_488, rfl⟩, List.forall_mem_cons.mpr ⟨⟨gw_2, rfl⟩, fun _ h => nomatch h⟩⟩⟩⟩) ⟨gw_489, rfl⟩
theorem ggV_RL_174_X11_content : GoodIn wsL_law (wsV RL 174 RX11 yX11_content (Cond.code yX11_content cX11_content 3 (some .int) :: wsL_law)) := g_gi (fun _ h => h) gW_good (List.forall_mem_cons.mpr ⟨⟨gw_479, rfl⟩, List.forall_mem_cons.mpr ⟨⟨gw_480, rfl⟩, List.forall_mem_cons.mpr ⟨⟨gw_481, rfl⟩, List.forall_mem_cons.mpr ⟨⟨gw_2, rfl⟩, fun _ h => nomatch h⟩⟩⟩⟩) ⟨gw_482, rfl⟩
theorem ggV_RL_165_X11_state : GoodIn wsL_law (wsV RL 165 RX11 yX11_state (Cond.code yX11_state cX11_state 2 (some .int) :: wsL_law)) := g_gi (fun _ h => h) gW_good (List.forall_mem_cons.mpr ⟨⟨gw_459, rfl⟩, List.forall_mem_cons.mpr ⟨⟨gw_460, rfl⟩, List.forall_mem_cons.mpr ⟨⟨gw_461, rfl⟩, List.forall_mem_cons.mpr ⟨⟨gw_2, rfl⟩, fun _ h => nomatch h⟩⟩⟩⟩) ⟨gw_462, rfl⟩
theorem ggV_RL_168_X11_requires : GoodIn wsL_law (wsV RL 168 RX11 yX11_requires (Cond.code yX11_requires cX11_requires 2 (some .int) :: wsL_law)) := g_gi (fun _ h => h) gW_good (List.forall_mem_cons.mpr ⟨⟨gw_463, rfl⟩, List.forall_mem_cons.mpr ⟨⟨gw_464, rfl⟩, List.forall_mem_cons.mpr ⟨⟨gw_465, rfl⟩, List.forall_mem_cons.mpr ⟨⟨gw_2, rfl⟩, fun _ h => nomatch h⟩⟩⟩⟩) ⟨gw_466, rfl⟩
theorem ggV_RL_171_X11_batchOf : GoodIn wsL_law (wsV RL 171 RX11 yX11_batchOf (Cond.code yX11_batchOf cX11_batchOf 2 (some .int) :: wsL_law)) := g_gi (fun _ h => h) gW_good (List.forall_mem_cons.mpr ⟨⟨gw_470, rfl⟩, List.forall_mem_cons.mpr ⟨⟨gw_471, rfl⟩, List.forall_mem_cons.mpr ⟨⟨gw_472, rfl⟩, List.forall_mem_cons.mpr ⟨⟨gw_2, rfl⟩, fun _ h => nomatch h⟩⟩⟩⟩) ⟨gw_473, rfl⟩
theorem ggV_RL_158_X11_queued : GoodIn wsL_law (wsV RL 158 RX11 yX11_queued (Cond.code yX11_queued cX11_queued 1 (some .int) :: wsL_law)) := g_gi (fun _ h => h) gW_good (List.forall_mem_cons.mpr ⟨⟨gw_294, rfl⟩, List.forall_mem_cons.mpr ⟨⟨gw_295, rfl⟩, List.forall_mem_cons.mpr ⟨⟨gw_296, rfl⟩, List.forall_mem_cons.mpr ⟨⟨gw_2, rfl⟩, fun _ h => nomatch h⟩⟩⟩⟩) ⟨gw_297, rfl⟩
theorem ggS_RL_161_L_does : GoodIn wsL_law (va_wsS RL 161 yL_does (Cond.codeWith yL_does cL_does 6 (some .int) [(0, 121, 122, 100), (0, 121, 127, 102), (0, 121, 132, 104)] :: wsL_law)) := g_gi (fun _ h => h) gW_good (List.forall_mem_cons.mpr ⟨⟨gw_298, rfl⟩, List.forall_mem_cons.mpr ⟨⟨gw_299, rfl⟩, List.forall_mem_cons.mpr ⟨⟨gw_162, rfl⟩, fun _ h => nomatch h⟩⟩⟩) ⟨gw_300, rfl⟩
theorem ggV_RL_146_X11_clock : GoodIn wsL_law (wsV RL 146 RX11 yX11_clock (Cond.code yX11_clock cX11_clock 1 (some .int) :: wsL_law)) := g_gi (fun _ h => h) gW_good (List.forall_mem_cons.mpr ⟨⟨gw_164, rfl⟩, List.forall_mem_cons.mpr ⟨⟨gw_165, rfl⟩, List.forall_mem_cons.mpr ⟨⟨gw_166, rfl⟩, List.forall_mem_cons.mpr ⟨⟨gw_2, rfl⟩, fun _ h => nomatch h⟩⟩⟩⟩) ⟨gw_167, rfl⟩
theorem ggV_RL_149_X11_changes : GoodIn wsL_law (wsV RL 149 RX11 yX11_changes (Cond.code yX11_changes cX11_changes 1 (some .int) :: wsL_law)) := g_gi (fun _ h => h) gW_good (List.forall_mem_cons.mpr ⟨⟨gw_169, rfl⟩, List.forall_mem_cons.mpr ⟨⟨gw_170, rfl⟩, List.forall_mem_cons.mpr ⟨⟨gw_171, rfl⟩, List.forall_mem_cons.mpr ⟨⟨gw_2, rfl⟩, fun _ h => nomatch h⟩⟩⟩⟩) ⟨gw_172, rfl⟩
theorem ggV_RL_152_X11_commits : GoodIn wsL_law (wsV RL 152 RX11 yX11_commits (Cond.code yX11_commits cX11_commits 1 (some .int) :: wsL_law)) := g_gi (fun _ h => h) gW_good (List.forall_mem_cons.mpr ⟨⟨gw_174, rfl⟩, List.forall_mem_cons.mpr ⟨⟨gw_175, rfl⟩, List.forall_mem_cons.mpr ⟨⟨gw_176, rfl⟩, List.forall_mem_cons.mpr ⟨⟨gw_2, rfl⟩, fun _ h => nomatch h⟩⟩⟩⟩) ⟨gw_177, rfl⟩
theorem ggV_RL_155_X11_fullFailed : GoodIn wsL_law (wsV RL 155 RX11 yX11_fullFailed (Cond.code yX11_fullFailed cX11_fullFailed 1 (some .int) :: wsL_law)) := g_gi (fun _ h => h) gW_good (List.forall_mem_cons.mpr ⟨⟨gw_179, rfl⟩, List.forall_mem_cons.mpr ⟨⟨gw_180, rfl⟩, List.forall_mem_cons.mpr ⟨⟨gw_181, rfl⟩, List.forall_mem_cons.mpr ⟨⟨gw_2, rfl⟩, fun _ h => nomatch h⟩⟩⟩⟩) ⟨gw_182, rfl⟩
section
variable {p : Program} {l : Launch} {e : Env} {s : State} {m : MethodId} {args : Array Value} {below : List Frame} {meth : Method} {c : Code} {D : va_G} {y : Nat → ClassId} {aS : Nat → Nat} {A : Nat → Prop} {L : List Nat} {ad0 : Nat → Nat} {N : Nat} {res : (Int32 × gS)}
def fL_isAll_907 (N : Nat) (σ : gS) (xs0 : Int32) : Option (Int32 × gS) := if ¬ (xs0 = 0 ∨ xs0 = 1) then none else (some (xs0, σ))
set_option maxRecDepth 100000 in
set_option maxHeartbeats 4000000 in
theorem wL_isAll_907 {σ : gS} {xs0 : Int32} {ad : Nat → Nat} {kc ns : Nat} (hx : p.tables.exec = Jvm.exec) (hb : c.code = cL_isAll) (hr : meth.sig.returnType = (some .boolean)) (hml : c.maxLocals = 31) (hown : s.vm.findClass RL = some m.cls) (hg : ∀ w ∈ wsL_law, w.before args s = true) (hlocks : meth.locks = false) (hK : gK D y aS s) (hA : ∀ q, s.heap.size ≤ q → A q) (hL : ∀ k, k < 179 → k ∈ L) (hfl : l.stackTraces = false) (hZ : gZ A s s.heap) (hL2 : ∀ k ∈ L, k < 179) (ha : ∀ k, k < 179 → ad k = ad0 k) (hkc : kc ≤ 4) (hns : ns ≤ 46) {H : Heap} {locs : List Loc} {ls : Array Slot} (hY : gY D y A s L ad σ H locs) (hl : lv_has ls 31 []) (h : fL_isAll_907 N σ xs0 = some res) : W p l e ({ frames := 9, cells := 4, slots := 46, locals := 159 } : Room) s m args below meth c H locs kc ns (MQ below (va_Qi (fun (r : Int32) (_ : Unit) => r = res.1) (fun _ => gO D A (GW L y ad0 res.2)) A) args s 4 46 A) (F0 m 907 ls [.int xs0]) := by
  unfold fL_isAll_907 at h
  obtain ⟨z_1, h⟩ := g_guard h
  cases h
  replace hY := G_ad hL2 ha hY
  exact g_iret hx hb hr hlocks () hY.1 hY.2.1 hY.2.2 (g_nz (Classical.not_not.mp z_1)) rfl (by omega) (by omega) dL_isAll_907
def fL_isAll_906 (N : Nat) (σ : gS) : Option (Int32 × gS) := fL_isAll_907 N σ 0
set_option maxRecDepth 100000 in
set_option maxHeartbeats 4000000 in
theorem wL_isAll_906 {σ : gS} {ad : Nat → Nat} {kc ns : Nat} (hx : p.tables.exec = Jvm.exec) (hb : c.code = cL_isAll) (hr : meth.sig.returnType = (some .boolean)) (hml : c.maxLocals = 31) (hown : s.vm.findClass RL = some m.cls) (hg : ∀ w ∈ wsL_law, w.before args s = true) (hlocks : meth.locks = false) (hK : gK D y aS s) (hA : ∀ q, s.heap.size ≤ q → A q) (hL : ∀ k, k < 179 → k ∈ L) (hfl : l.stackTraces = false) (hZ : gZ A s s.heap) (hL2 : ∀ k ∈ L, k < 179) (ha : ∀ k, k < 179 → ad k = ad0 k) (hkc : kc ≤ 4) (hns : ns ≤ 46) {H : Heap} {locs : List Loc} {ls : Array Slot} (hY : gY D y A s L ad σ H locs) (hl : lv_has ls 31 []) (h : fL_isAll_906 N σ = some res) : W p l e ({ frames := 9, cells := 4, slots := 46, locals := 159 } : Room) s m args below meth c H locs kc ns (MQ below (va_Qi (fun (r : Int32) (_ : Unit) => r = res.1) (fun _ => gO D A (GW L y ad0 res.2)) A) args s 4 46 A) (F0 m 906 ls []) := by
  unfold fL_isAll_906 at h
  refine lv_iconst (v := 0) hx hb dL_isAll_906 (by decide) ?_
  exact wL_isAll_907 hx hb hr hml hown hg hlocks hK hA hL hfl hZ hL2 ha (by first | omega | (simp only [g_l0]; omega)) (by first | omega | (simp only [g_l0]; omega)) hY (lv_sub hl [] rfl) h
def fL_isAll_888 (N : Nat) (σ : gS) (x22 : Int32) (x29 : Int32) : Option (Int32 × gS) := if x22 = 0 then (fL_isAll_906 N σ) else ((fX11_isBroken N σ).bind fun r_2 => if r_2.1 = x29 then (fL_isAll_907 N r_2.2 1) else (fL_isAll_906 N r_2.2))
set_option maxRecDepth 100000 in
set_option maxHeartbeats 4000000 in
theorem wL_isAll_888 {σ : gS} {x22 : Int32} {x29 : Int32} {ad : Nat → Nat} {kc ns : Nat} (hx : p.tables.exec = Jvm.exec) (hb : c.code = cL_isAll) (hr : meth.sig.returnType = (some .boolean)) (hml : c.maxLocals = 31) (hown : s.vm.findClass RL = some m.cls) (hg : ∀ w ∈ wsL_law, w.before args s = true) (hlocks : meth.locks = false) (hK : gK D y aS s) (hA : ∀ q, s.heap.size ≤ q → A q) (hL : ∀ k, k < 179 → k ∈ L) (hfl : l.stackTraces = false) (hZ : gZ A s s.heap) (hL2 : ∀ k ∈ L, k < 179) (ha : ∀ k, k < 179 → ad k = ad0 k) (hkc : kc ≤ 4) (hns : ns ≤ 46) {H : Heap} {locs : List Loc} {ls : Array Slot} (hY : gY D y A s L ad σ H locs) (hl : lv_has ls 31 [(0, .ref (ad 0)), (22, .int x22), (29, .int x29)]) (h : fL_isAll_888 N σ x22 x29 = some res) : W p l e ({ frames := 9, cells := 4, slots := 46, locals := 159 } : Room) s m args below meth c H locs kc ns (MQ below (va_Qi (fun (r : Int32) (_ : Unit) => r = res.1) (fun _ => gO D A (GW L y ad0 res.2)) A) args s 4 46 A) (F0 m 888 ls []) := by
  unfold fL_isAll_888 at h
  refine lv_iload hx hb dL_isAll_888 (lv_at hl 1 rfl) ?_
  refine lv_if_eq (tgt := 906) hx hb dL_isAll_890 (by decide) (fun z_1 => ?_) (fun z_1 => ?_)
  ·
    rw [if_pos z_1] at h
    exact wL_isAll_906 hx hb hr hml hown hg hlocks hK hA hL hfl hZ hL2 ha (by first | omega | (simp only [g_l0]; omega)) (by first | omega | (simp only [g_l0]; omega)) hY (lv_sub hl [] rfl) h
  ·
    rw [if_neg z_1] at h
    refine lv_aload_n hx hb dL_isAll_893 rfl (lv_at hl 0 rfl) ?_
    obtain ⟨r_2, e_3, h⟩ := g_bind h
    refine G_ai hY hA (va_runV (As := []) (rest := []) ⟨hx, hb, hml, hown, hg⟩ (kX11_isBroken l D y aS H.size L hL ad N σ _ e_3) (cwV 0 hg ggV_RL_198_X11_isBroken rfl rfl rfl (by decide +kernel) ⟨Nat.le_of_ble_eq_true rfl, Nat.le_of_ble_eq_true rfl⟩) (G_pV (q := (RX11, TX11, 19)) hK hY (hL 0 (by decide)) gk_0 (by decide) rfl) rfl rfl hl.1 rfl (lv_room (Nat.le_of_ble_eq_true rfl)) dL_isAll_894 ⟨(by dsimp only; omega), (by dsimp only; omega)⟩) ?_
    clear hY
    rintro _ H locs rfl hY
    refine lv_iload hx hb dL_isAll_897 (lv_at hl 2 rfl) ?_
    refine lv_icmp_ne (tgt := 906) hx hb dL_isAll_899 (by decide) (fun z_4 => ?_) (fun z_4 => ?_)
    ·
      rw [if_neg z_4] at h
      exact wL_isAll_906 hx hb hr hml hown hg hlocks hK hA hL hfl hZ hL2 ha (by first | omega | (simp only [g_l0]; omega)) (by first | omega | (simp only [g_l0]; omega)) hY (lv_sub hl [] rfl) h
    ·
      rw [if_pos z_4] at h
      refine lv_iconst (v := 1) hx hb dL_isAll_902 (by decide) ?_
      refine lv_goto (tgt := 907) hx hb dL_isAll_903 (by decide) ?_
      exact wL_isAll_907 hx hb hr hml hown hg hlocks hK hA hL hfl hZ hL2 ha (by first | omega | (simp only [g_l0]; omega)) (by first | omega | (simp only [g_l0]; omega)) hY (lv_sub hl [] rfl) h
def fL_isAll_886 (N : Nat) (σ : gS) (x22 : Int32) (xs0 : Int32) : Option (Int32 × gS) := fL_isAll_888 N σ x22 xs0
set_option maxRecDepth 100000 in
set_option maxHeartbeats 4000000 in
theorem wL_isAll_886 {σ : gS} {x22 : Int32} {xs0 : Int32} {ad : Nat → Nat} {kc ns : Nat} (hx : p.tables.exec = Jvm.exec) (hb : c.code = cL_isAll) (hr : meth.sig.returnType = (some .boolean)) (hml : c.maxLocals = 31) (hown : s.vm.findClass RL = some m.cls) (hg : ∀ w ∈ wsL_law, w.before args s = true) (hlocks : meth.locks = false) (hK : gK D y aS s) (hA : ∀ q, s.heap.size ≤ q → A q) (hL : ∀ k, k < 179 → k ∈ L) (hfl : l.stackTraces = false) (hZ : gZ A s s.heap) (hL2 : ∀ k ∈ L, k < 179) (ha : ∀ k, k < 179 → ad k = ad0 k) (hkc : kc ≤ 4) (hns : ns ≤ 46) {H : Heap} {locs : List Loc} {ls : Array Slot} (hY : gY D y A s L ad σ H locs) (hl : lv_has ls 31 [(0, .ref (ad 0)), (22, .int x22)]) (h : fL_isAll_886 N σ x22 xs0 = some res) : W p l e ({ frames := 9, cells := 4, slots := 46, locals := 159 } : Room) s m args below meth c H locs kc ns (MQ below (va_Qi (fun (r : Int32) (_ : Unit) => r = res.1) (fun _ => gO D A (GW L y ad0 res.2)) A) args s 4 46 A) (F0 m 886 ls [.int xs0]) := by
  unfold fL_isAll_886 at h
  refine lv_istore (lv' := [(29, .int xs0), (0, .ref (ad 0)), (22, .int x22)]) hx hb dL_isAll_886 hl (by decide) rfl ?_
  clear hl
  intro ls hl
  exact wL_isAll_888 hx hb hr hml hown hg hlocks hK hA hL hfl hZ hL2 ha (by first | omega | (simp only [g_l0]; omega)) (by first | omega | (simp only [g_l0]; omega)) hY (lv_sub hl [1, 2, 0] rfl) h
def fL_isAll_885 (N : Nat) (σ : gS) (x22 : Int32) : Option (Int32 × gS) := fL_isAll_886 N σ x22 0
set_option maxRecDepth 100000 in
set_option maxHeartbeats 4000000 in
theorem wL_isAll_885 {σ : gS} {x22 : Int32} {ad : Nat → Nat} {kc ns : Nat} (hx : p.tables.exec = Jvm.exec) (hb : c.code = cL_isAll) (hr : meth.sig.returnType = (some .boolean)) (hml : c.maxLocals = 31) (hown : s.vm.findClass RL = some m.cls) (hg : ∀ w ∈ wsL_law, w.before args s = true) (hlocks : meth.locks = false) (hK : gK D y aS s) (hA : ∀ q, s.heap.size ≤ q → A q) (hL : ∀ k, k < 179 → k ∈ L) (hfl : l.stackTraces = false) (hZ : gZ A s s.heap) (hL2 : ∀ k ∈ L, k < 179) (ha : ∀ k, k < 179 → ad k = ad0 k) (hkc : kc ≤ 4) (hns : ns ≤ 46) {H : Heap} {locs : List Loc} {ls : Array Slot} (hY : gY D y A s L ad σ H locs) (hl : lv_has ls 31 [(0, .ref (ad 0)), (22, .int x22)]) (h : fL_isAll_885 N σ x22 = some res) : W p l e ({ frames := 9, cells := 4, slots := 46, locals := 159 } : Room) s m args below meth c H locs kc ns (MQ below (va_Qi (fun (r : Int32) (_ : Unit) => r = res.1) (fun _ => gO D A (GW L y ad0 res.2)) A) args s 4 46 A) (F0 m 885 ls []) := by
  unfold fL_isAll_885 at h
  refine lv_iconst (v := 0) hx hb dL_isAll_885 (by decide) ?_
  exact wL_isAll_886 hx hb hr hml hown hg hlocks hK hA hL hfl hZ hL2 ha (by first | omega | (simp only [g_l0]; omega)) (by first | omega | (simp only [g_l0]; omega)) hY (lv_sub hl [0, 1] rfl) h
def fL_isAll_789 (N : Nat) (σ : gS) (x22 : Int32) (x25 : Int64) (x28 : Int32) (xs0 : Int32) : Option (Int32 × gS) := if xs0 = 0 then (fL_isAll_888 N σ x22 xs0) else ((fL_bisects N σ x28 x25).bind fun r_2 => if 0 ≤ (r_2.1 181 2) then (fL_isAll_885 N r_2 x22) else ((fL_failed N r_2 x25 (2 : Int32)).bind fun r_5 => (fL_failed N r_2 x25 (3 : Int32)).bind fun r_7 => if r_5 = r_7 then (fL_isAll_886 N r_2 x22 1) else (fL_isAll_885 N r_2 x22)))
set_option maxRecDepth 100000 in
set_option maxHeartbeats 4000000 in
theorem wL_isAll_789 {σ : gS} {x22 : Int32} {x25 : Int64} {x28 : Int32} {xs0 : Int32} {ad : Nat → Nat} {kc ns : Nat} (hx : p.tables.exec = Jvm.exec) (hb : c.code = cL_isAll) (hr : meth.sig.returnType = (some .boolean)) (hml : c.maxLocals = 31) (hown : s.vm.findClass RL = some m.cls) (hg : ∀ w ∈ wsL_law, w.before args s = true) (hlocks : meth.locks = false) (hK : gK D y aS s) (hA : ∀ q, s.heap.size ≤ q → A q) (hL : ∀ k, k < 179 → k ∈ L) (hfl : l.stackTraces = false) (hZ : gZ A s s.heap) (hL2 : ∀ k ∈ L, k < 179) (ha : ∀ k, k < 179 → ad k = ad0 k) (hkc : kc ≤ 4) (hns : ns ≤ 46) {H : Heap} {locs : List Loc} {ls : Array Slot} (hY : gY D y A s (L ++ [179, 180, 181]) ad σ H locs) (hl : lv_has ls 31 [(0, .ref (ad 0)), (1, .ref (ad 161)), (2, .ref (ad 162)), (8, .ref (ad 168)), (10, .ref (ad 170)), (12, .ref (ad 172)), (13, .ref (ad 173)), (14, .ref (ad 174)), (15, .ref (ad 175)), (17, .ref (ad 178)), (19, .ref (ad 179)), (21, .ref (ad 181)), (22, .int x22), (25, .long x25), (28, .int x28)]) (h : fL_isAll_789 N σ x22 x25 x28 xs0 = some res) : W p l e ({ frames := 9, cells := 4, slots := 46, locals := 159 } : Room) s m args below meth c H locs kc ns (MQ below (va_Qi (fun (r : Int32) (_ : Unit) => r = res.1) (fun _ => gO D A (GW L y ad0 res.2)) A) args s 4 46 A) (F0 m 789 ls [.int xs0]) := by
  unfold fL_isAll_789 at h
  refine lv_istore (lv' := [(29, .int xs0), (0, .ref (ad 0)), (1, .ref (ad 161)), (2, .ref (ad 162)), (8, .ref (ad 168)), (10, .ref (ad 170)), (12, .ref (ad 172)), (13, .ref (ad 173)), (14, .ref (ad 174)), (15, .ref (ad 175)), (17, .ref (ad 178)), (19, .ref (ad 179)), (21, .ref (ad 181)), (22, .int x22), (25, .long x25), (28, .int x28)]) hx hb dL_isAll_789 hl (by decide) rfl ?_
  clear hl
  intro ls hl
  refine lv_iload hx hb dL_isAll_791 (lv_at hl 0 rfl) ?_
  refine lv_if_eq (tgt := 888) hx hb dL_isAll_793 (by decide) (fun z_1 => ?_) (fun z_1 => ?_)
  ·
    rw [if_pos z_1] at h
    replace hY := G_drop hY
    exact wL_isAll_888 hx hb hr hml hown hg hlocks hK hA hL hfl hZ hL2 ha (by first | omega | (simp only [g_l0]; omega)) (by first | omega | (simp only [g_l0]; omega)) hY (lv_sub hl [1, 13, 0] rfl) h
  ·
    rw [if_neg z_1] at h
    refine lv_aload_n hx hb dL_isAll_796 rfl (lv_at hl 2 rfl) ?_
    refine lv_aload_n hx hb dL_isAll_797 rfl (lv_at hl 3 rfl) ?_
    refine lv_aload hx hb dL_isAll_798 (lv_at hl 4 rfl) ?_
    refine lv_aload hx hb dL_isAll_800 (lv_at hl 5 rfl) ?_
    refine lv_aload hx hb dL_isAll_802 (lv_at hl 6 rfl) ?_
    refine lv_aload hx hb dL_isAll_804 (lv_at hl 7 rfl) ?_
    refine lv_aload hx hb dL_isAll_806 (lv_at hl 8 rfl) ?_
    refine lv_aload hx hb dL_isAll_808 (lv_at hl 9 rfl) ?_
    refine lv_aload hx hb dL_isAll_810 (lv_at hl 10 rfl) ?_
    refine lv_aload hx hb dL_isAll_812 (lv_at hl 11 rfl) ?_
    refine lv_iload hx hb dL_isAll_814 (lv_at hl 15 rfl) ?_
    refine lv_lload hx hb dL_isAll_816 (lv_at hl 14 rfl) ?_
    refine lv_aload hx hb dL_isAll_818 (lv_at hl 12 rfl) ?_
    obtain ⟨r_2, e_3, h⟩ := g_bind h
    refine G_av hY hA (va_runS (As := [.ref (ad 161), .ref (ad 162), .ref (ad 168), .ref (ad 170), .ref (ad 172), .ref (ad 173), .ref (ad 174), .ref (ad 175), .ref (ad 178), .ref (ad 179), .int x28, .long x25, .ref (ad 181)]) (rest := []) ⟨hx, hb, hml, hown, hg⟩ (kL_bisects l D y aS H.size (L ++ [179, 180, 181]) (fun k hk => List.mem_append_left _ (hL k hk)) ⟨by simp, by simp, by simp⟩ ad N σ x28 x25 _ e_3) (va_cwS 13 hg ggS_RL_126_L_bisects rfl rfl rfl (by decide +kernel) ⟨Nat.le_of_ble_eq_true rfl, Nat.le_of_ble_eq_true rfl⟩) (G_pS hK hY) rfl rfl hl.1 rfl (lv_room (Nat.le_of_ble_eq_true rfl)) dL_isAll_820 ⟨(by dsimp only; omega), (by dsimp only; omega)⟩) ?_
    clear hY
    rintro H locs hY
    refine lv_aload hx hb dL_isAll_823 (lv_at hl 12 rfl) ?_
    refine lv_iconst (v := 2) hx hb dL_isAll_825 (by decide) ?_
    refine G_iald (j := 2) hx hb hK hY (by simp) gk_181 (by rw [gl_181]; decide +kernel) (by decide +kernel) dL_isAll_826 ?_
    refine lv_if_ge (tgt := 885) hx hb dL_isAll_827 (by decide) (fun z_4 => ?_) (fun z_4 => ?_)
    ·
      rw [if_pos z_4] at h
      replace hY := G_drop hY
      exact wL_isAll_885 hx hb hr hml hown hg hlocks hK hA hL hfl hZ hL2 ha (by first | omega | (simp only [g_l0]; omega)) (by first | omega | (simp only [g_l0]; omega)) hY (lv_sub hl [1, 13] rfl) h
    ·
      rw [if_neg z_4] at h
      refine lv_aload_n hx hb dL_isAll_830 rfl (lv_at hl 2 rfl) ?_
      refine lv_aload_n hx hb dL_isAll_831 rfl (lv_at hl 3 rfl) ?_
      refine lv_aload hx hb dL_isAll_832 (lv_at hl 4 rfl) ?_
      refine lv_aload hx hb dL_isAll_834 (lv_at hl 5 rfl) ?_
      refine lv_aload hx hb dL_isAll_836 (lv_at hl 6 rfl) ?_
      refine lv_aload hx hb dL_isAll_838 (lv_at hl 7 rfl) ?_
      refine lv_aload hx hb dL_isAll_840 (lv_at hl 8 rfl) ?_
      refine lv_aload hx hb dL_isAll_842 (lv_at hl 9 rfl) ?_
      refine lv_aload hx hb dL_isAll_844 (lv_at hl 11 rfl) ?_
      refine lv_lload hx hb dL_isAll_846 (lv_at hl 14 rfl) ?_
      refine lv_aload hx hb dL_isAll_848 (lv_at hl 12 rfl) ?_
      refine lv_iconst (v := 2) hx hb dL_isAll_850 (by decide) ?_
      obtain ⟨r_5, e_6, h⟩ := g_bind h
      refine G_ai hY hA (va_runS (As := [.ref (ad 161), .ref (ad 162), .ref (ad 168), .ref (ad 170), .ref (ad 172), .ref (ad 173), .ref (ad 174), .ref (ad 175), .ref (ad 179), .long x25, .ref (ad 181), .int 2]) (rest := []) ⟨hx, hb, hml, hown, hg⟩ (kL_failed l D y aS H.size (L ++ [179, 180, 181]) (fun k hk => List.mem_append_left _ (hL k hk)) ⟨by simp, by simp, by simp⟩ ad N r_2 x25 (2 : Int32) _ e_6) (va_cwS 12 hg ggS_RL_130_L_failed rfl rfl rfl (by decide +kernel) ⟨Nat.le_of_ble_eq_true rfl, Nat.le_of_ble_eq_true rfl⟩) (G_pS hK hY) rfl rfl hl.1 rfl (lv_room (Nat.le_of_ble_eq_true rfl)) dL_isAll_851 ⟨(by dsimp only; omega), (by dsimp only; omega)⟩) ?_
      clear hY
      rintro _ H locs rfl hY
      refine lv_aload_n hx hb dL_isAll_854 rfl (lv_at hl 2 rfl) ?_
      refine lv_aload_n hx hb dL_isAll_855 rfl (lv_at hl 3 rfl) ?_
      refine lv_aload hx hb dL_isAll_856 (lv_at hl 4 rfl) ?_
      refine lv_aload hx hb dL_isAll_858 (lv_at hl 5 rfl) ?_
      refine lv_aload hx hb dL_isAll_860 (lv_at hl 6 rfl) ?_
      refine lv_aload hx hb dL_isAll_862 (lv_at hl 7 rfl) ?_
      refine lv_aload hx hb dL_isAll_864 (lv_at hl 8 rfl) ?_
      refine lv_aload hx hb dL_isAll_866 (lv_at hl 9 rfl) ?_
      refine lv_aload hx hb dL_isAll_868 (lv_at hl 11 rfl) ?_
      refine lv_lload hx hb dL_isAll_870 (lv_at hl 14 rfl) ?_
      refine lv_aload hx hb dL_isAll_872 (lv_at hl 12 rfl) ?_
      refine lv_iconst (v := 3) hx hb dL_isAll_874 (by decide) ?_
      obtain ⟨r_7, e_8, h⟩ := g_bind h
      refine G_ai hY hA (va_runS (As := [.ref (ad 161), .ref (ad 162), .ref (ad 168), .ref (ad 170), .ref (ad 172), .ref (ad 173), .ref (ad 174), .ref (ad 175), .ref (ad 179), .long x25, .ref (ad 181), .int 3]) (rest := [.int r_5]) ⟨hx, hb, hml, hown, hg⟩ (kL_failed l D y aS H.size (L ++ [179, 180, 181]) (fun k hk => List.mem_append_left _ (hL k hk)) ⟨by simp, by simp, by simp⟩ ad N r_2 x25 (3 : Int32) _ e_8) (va_cwS 12 hg ggS_RL_130_L_failed rfl rfl rfl (by decide +kernel) ⟨Nat.le_of_ble_eq_true rfl, Nat.le_of_ble_eq_true rfl⟩) (G_pS hK hY) rfl rfl hl.1 rfl (lv_room (Nat.le_of_ble_eq_true rfl)) dL_isAll_875 ⟨(by dsimp only; omega), (by dsimp only; omega)⟩) ?_
      clear hY
      rintro _ H locs rfl hY
      refine lv_icmp_ne (tgt := 885) hx hb dL_isAll_878 (by decide) (fun z_9 => ?_) (fun z_9 => ?_)
      ·
        rw [if_neg z_9] at h
        replace hY := G_drop hY
        exact wL_isAll_885 hx hb hr hml hown hg hlocks hK hA hL hfl hZ hL2 ha (by first | omega | (simp only [g_l0]; omega)) (by first | omega | (simp only [g_l0]; omega)) hY (lv_sub hl [1, 13] rfl) h
      ·
        rw [if_pos z_9] at h
        refine lv_iconst (v := 1) hx hb dL_isAll_881 (by decide) ?_
        refine lv_goto (tgt := 886) hx hb dL_isAll_882 (by decide) ?_
        replace hY := G_drop hY
        exact wL_isAll_886 hx hb hr hml hown hg hlocks hK hA hL hfl hZ hL2 ha (by first | omega | (simp only [g_l0]; omega)) (by first | omega | (simp only [g_l0]; omega)) hY (lv_sub hl [1, 13] rfl) h
def fL_isAll_788 (N : Nat) (σ : gS) (x22 : Int32) (x25 : Int64) (x28 : Int32) : Option (Int32 × gS) := fL_isAll_789 N σ x22 x25 x28 0
set_option maxRecDepth 100000 in
set_option maxHeartbeats 4000000 in
theorem wL_isAll_788 {σ : gS} {x22 : Int32} {x25 : Int64} {x28 : Int32} {ad : Nat → Nat} {kc ns : Nat} (hx : p.tables.exec = Jvm.exec) (hb : c.code = cL_isAll) (hr : meth.sig.returnType = (some .boolean)) (hml : c.maxLocals = 31) (hown : s.vm.findClass RL = some m.cls) (hg : ∀ w ∈ wsL_law, w.before args s = true) (hlocks : meth.locks = false) (hK : gK D y aS s) (hA : ∀ q, s.heap.size ≤ q → A q) (hL : ∀ k, k < 179 → k ∈ L) (hfl : l.stackTraces = false) (hZ : gZ A s s.heap) (hL2 : ∀ k ∈ L, k < 179) (ha : ∀ k, k < 179 → ad k = ad0 k) (hkc : kc ≤ 4) (hns : ns ≤ 46) {H : Heap} {locs : List Loc} {ls : Array Slot} (hY : gY D y A s (L ++ [179, 180, 181]) ad σ H locs) (hl : lv_has ls 31 [(0, .ref (ad 0)), (1, .ref (ad 161)), (2, .ref (ad 162)), (8, .ref (ad 168)), (10, .ref (ad 170)), (12, .ref (ad 172)), (13, .ref (ad 173)), (14, .ref (ad 174)), (15, .ref (ad 175)), (17, .ref (ad 178)), (19, .ref (ad 179)), (21, .ref (ad 181)), (22, .int x22), (25, .long x25), (28, .int x28)]) (h : fL_isAll_788 N σ x22 x25 x28 = some res) : W p l e ({ frames := 9, cells := 4, slots := 46, locals := 159 } : Room) s m args below meth c H locs kc ns (MQ below (va_Qi (fun (r : Int32) (_ : Unit) => r = res.1) (fun _ => gO D A (GW L y ad0 res.2)) A) args s 4 46 A) (F0 m 788 ls []) := by
  unfold fL_isAll_788 at h
  refine lv_iconst (v := 0) hx hb dL_isAll_788 (by decide) ?_
  exact wL_isAll_789 hx hb hr hml hown hg hlocks hK hA hL hfl hZ hL2 ha (by first | omega | (simp only [g_l0]; omega)) (by first | omega | (simp only [g_l0]; omega)) hY (lv_sub hl [0, 1, 2, 3, 4, 5, 6, 7, 8, 9, 10, 11, 12, 13, 14] rfl) h
def fL_isAll_735 (N : Nat) (σ : gS) (x22 : Int32) (x25 : Int64) (x27 : Int32) : Option (Int32 × gS) := (fL_many N σ x27 (0 : Int32)).bind fun r_1 => if r_1 ≤ 0 then (fL_isAll_788 N σ x22 x25 r_1) else ((fL_requiredOf N σ (0 : Int32) r_1).bind fun r_4 => (fL_verdicts N σ r_4 (σ.2.1 180 0)).bind fun r_6 => if r_6 = 2 then (fL_isAll_789 N σ x22 x25 r_1 1) else (fL_isAll_788 N σ x22 x25 r_1))
set_option maxRecDepth 100000 in
set_option maxHeartbeats 4000000 in
theorem wL_isAll_735 {σ : gS} {x22 : Int32} {x25 : Int64} {x27 : Int32} {ad : Nat → Nat} {kc ns : Nat} (hx : p.tables.exec = Jvm.exec) (hb : c.code = cL_isAll) (hr : meth.sig.returnType = (some .boolean)) (hml : c.maxLocals = 31) (hown : s.vm.findClass RL = some m.cls) (hg : ∀ w ∈ wsL_law, w.before args s = true) (hlocks : meth.locks = false) (hK : gK D y aS s) (hA : ∀ q, s.heap.size ≤ q → A q) (hL : ∀ k, k < 179 → k ∈ L) (hfl : l.stackTraces = false) (hZ : gZ A s s.heap) (hL2 : ∀ k ∈ L, k < 179) (ha : ∀ k, k < 179 → ad k = ad0 k) (hkc : kc ≤ 4) (hns : ns ≤ 46) {H : Heap} {locs : List Loc} {ls : Array Slot} (hY : gY D y A s (L ++ [179, 180, 181]) ad σ H locs) (hl : lv_has ls 31 [(0, .ref (ad 0)), (1, .ref (ad 161)), (2, .ref (ad 162)), (8, .ref (ad 168)), (10, .ref (ad 170)), (12, .ref (ad 172)), (13, .ref (ad 173)), (14, .ref (ad 174)), (15, .ref (ad 175)), (17, .ref (ad 178)), (19, .ref (ad 179)), (20, .ref (ad 180)), (21, .ref (ad 181)), (22, .int x22), (25, .long x25), (27, .int x27)]) (h : fL_isAll_735 N σ x22 x25 x27 = some res) : W p l e ({ frames := 9, cells := 4, slots := 46, locals := 159 } : Room) s m args below meth c H locs kc ns (MQ below (va_Qi (fun (r : Int32) (_ : Unit) => r = res.1) (fun _ => gO D A (GW L y ad0 res.2)) A) args s 4 46 A) (F0 m 735 ls []) := by
  unfold fL_isAll_735 at h
  refine lv_aload hx hb dL_isAll_735 (lv_at hl 10 rfl) ?_
  refine lv_iload hx hb dL_isAll_737 (lv_at hl 15 rfl) ?_
  refine lv_iconst (v := 0) hx hb dL_isAll_739 (by decide) ?_
  obtain ⟨r_1, e_2, h⟩ := g_bind h
  refine G_ai hY hA (va_runS (As := [.ref (ad 179), .int x27, .int 0]) (rest := []) ⟨hx, hb, hml, hown, hg⟩ (kL_many l D y aS H.size (L ++ [179, 180, 181]) (fun k hk => List.mem_append_left _ (hL k hk)) ⟨by simp, by simp, by simp⟩ ad N σ x27 (0 : Int32) _ e_2) (va_cwS 3 hg ggS_RL_110_L_many rfl rfl rfl (by decide +kernel) ⟨Nat.le_of_ble_eq_true rfl, Nat.le_of_ble_eq_true rfl⟩) (G_pS hK hY) rfl rfl hl.1 rfl (lv_room (Nat.le_of_ble_eq_true rfl)) dL_isAll_740 ⟨(by dsimp only; omega), (by dsimp only; omega)⟩) ?_
  clear hY
  rintro _ H locs rfl hY
  refine lv_istore (lv' := [(28, .int r_1), (0, .ref (ad 0)), (1, .ref (ad 161)), (2, .ref (ad 162)), (8, .ref (ad 168)), (10, .ref (ad 170)), (12, .ref (ad 172)), (13, .ref (ad 173)), (14, .ref (ad 174)), (15, .ref (ad 175)), (17, .ref (ad 178)), (19, .ref (ad 179)), (20, .ref (ad 180)), (21, .ref (ad 181)), (22, .int x22), (25, .long x25), (27, .int x27)]) hx hb dL_isAll_743 hl (by decide) rfl ?_
  clear hl
  intro ls hl
  refine lv_iload hx hb dL_isAll_745 (lv_at hl 0 rfl) ?_
  refine lv_if_le (tgt := 788) hx hb dL_isAll_747 (by decide) (fun z_3 => ?_) (fun z_3 => ?_)
  ·
    rw [if_pos z_3] at h
    exact wL_isAll_788 hx hb hr hml hown hg hlocks hK hA hL hfl hZ hL2 ha (by first | omega | (simp only [g_l0]; omega)) (by first | omega | (simp only [g_l0]; omega)) hY (lv_sub hl [1, 2, 3, 4, 5, 6, 7, 8, 9, 10, 11, 13, 14, 15, 0] rfl) h
  ·
    rw [if_neg z_3] at h
    refine lv_aload_n hx hb dL_isAll_750 rfl (lv_at hl 2 rfl) ?_
    refine lv_aload hx hb dL_isAll_751 (lv_at hl 6 rfl) ?_
    refine lv_aload hx hb dL_isAll_753 (lv_at hl 8 rfl) ?_
    refine lv_aload hx hb dL_isAll_755 (lv_at hl 9 rfl) ?_
    refine lv_aload_n hx hb dL_isAll_757 rfl (lv_at hl 2 rfl) ?_
    refine lv_aload_n hx hb dL_isAll_758 rfl (lv_at hl 3 rfl) ?_
    refine lv_aload hx hb dL_isAll_759 (lv_at hl 4 rfl) ?_
    refine lv_aload hx hb dL_isAll_761 (lv_at hl 6 rfl) ?_
    refine lv_aload hx hb dL_isAll_763 (lv_at hl 7 rfl) ?_
    refine lv_aload hx hb dL_isAll_765 (lv_at hl 11 rfl) ?_
    refine lv_iconst (v := 0) hx hb dL_isAll_767 (by decide) ?_
    refine lv_iload hx hb dL_isAll_768 (lv_at hl 0 rfl) ?_
    obtain ⟨r_4, e_5, h⟩ := g_bind h
    refine G_ai hY hA (va_runS (As := [.ref (ad 161), .ref (ad 162), .ref (ad 168), .ref (ad 172), .ref (ad 173), .ref (ad 179), .int 0, .int r_1]) (rest := [.ref (ad 175), .ref (ad 174), .ref (ad 172), .ref (ad 161)]) ⟨hx, hb, hml, hown, hg⟩ (kL_requiredOf l D y aS H.size (L ++ [179, 180, 181]) (fun k hk => List.mem_append_left _ (hL k hk)) ⟨by simp, by simp, by simp⟩ ad N σ (0 : Int32) r_1 _ e_5) (va_cwS 8 hg ggS_RL_56_L_requiredOf rfl rfl rfl (by decide +kernel) ⟨Nat.le_of_ble_eq_true rfl, Nat.le_of_ble_eq_true rfl⟩) (G_pS hK hY) rfl rfl hl.1 rfl (lv_room (Nat.le_of_ble_eq_true rfl)) dL_isAll_770 ⟨(by dsimp only; omega), (by dsimp only; omega)⟩) ?_
    clear hY
    rintro _ H locs rfl hY
    refine lv_aload hx hb dL_isAll_773 (lv_at hl 12 rfl) ?_
    refine lv_iconst (v := 0) hx hb dL_isAll_775 (by decide) ?_
    refine G_lald (j := 0) hx hb hK hY (by simp) gk_180 (by rw [gl_180]; decide +kernel) (by decide +kernel) dL_isAll_776 ?_
    obtain ⟨r_6, e_7, h⟩ := g_bind h
    refine G_ai hY hA (va_runS (As := [.ref (ad 161), .ref (ad 172), .ref (ad 174), .ref (ad 175), .int r_4, .long (σ.2.1 180 0)]) (rest := []) ⟨hx, hb, hml, hown, hg⟩ (kL_verdicts l D y aS H.size (L ++ [179, 180, 181]) (fun k hk => List.mem_append_left _ (hL k hk)) ad N σ r_4 (σ.2.1 180 0) _ e_7) (va_cwS 6 hg ggS_RL_64_L_verdicts rfl rfl rfl (by decide +kernel) ⟨Nat.le_of_ble_eq_true rfl, Nat.le_of_ble_eq_true rfl⟩) (G_pS hK hY) rfl rfl hl.1 rfl (lv_room (Nat.le_of_ble_eq_true rfl)) dL_isAll_777 ⟨(by dsimp only; omega), (by dsimp only; omega)⟩) ?_
    clear hY
    rintro _ H locs rfl hY
    refine lv_iconst (v := 2) hx hb dL_isAll_780 (by decide) ?_
    refine lv_icmp_ne (tgt := 788) hx hb dL_isAll_781 (by decide) (fun z_8 => ?_) (fun z_8 => ?_)
    ·
      rw [if_neg z_8] at h
      exact wL_isAll_788 hx hb hr hml hown hg hlocks hK hA hL hfl hZ hL2 ha (by first | omega | (simp only [g_l0]; omega)) (by first | omega | (simp only [g_l0]; omega)) hY (lv_sub hl [1, 2, 3, 4, 5, 6, 7, 8, 9, 10, 11, 13, 14, 15, 0] rfl) h
    ·
      rw [if_pos z_8] at h
      refine lv_iconst (v := 1) hx hb dL_isAll_784 (by decide) ?_
      refine lv_goto (tgt := 789) hx hb dL_isAll_785 (by decide) ?_
      exact wL_isAll_789 hx hb hr hml hown hg hlocks hK hA hL hfl hZ hL2 ha (by first | omega | (simp only [g_l0]; omega)) (by first | omega | (simp only [g_l0]; omega)) hY (lv_sub hl [1, 2, 3, 4, 5, 6, 7, 8, 9, 10, 11, 13, 14, 15, 0] rfl) h
def fL_isAll_727 (N : Nat) (rec638 : (gS × Int32 × Int32) → Option (Int32 × gS)) (σ : gS) (x25 : Int64) (x27 : Int32) (x28 : Int32) (xs0 : Int32) : Option (Int32 × gS) := rec638 (σ, xs0, (x28 + 1))
set_option maxRecDepth 100000 in
set_option maxHeartbeats 4000000 in
theorem wL_isAll_727 {rec638 : (gS × Int32 × Int32) → Option (Int32 × gS)} {σ : gS} {x25 : Int64} {x27 : Int32} {x28 : Int32} {xs0 : Int32} {ad : Nat → Nat} {kc ns : Nat} (hx : p.tables.exec = Jvm.exec) (hb : c.code = cL_isAll) (hr : meth.sig.returnType = (some .boolean)) (hml : c.maxLocals = 31) (hown : s.vm.findClass RL = some m.cls) (hg : ∀ w ∈ wsL_law, w.before args s = true) (hlocks : meth.locks = false) (hK : gK D y aS s) (hA : ∀ q, s.heap.size ≤ q → A q) (hL : ∀ k, k < 179 → k ∈ L) (hfl : l.stackTraces = false) (hZ : gZ A s s.heap) (hL2 : ∀ k ∈ L, k < 179) (ha : ∀ k, k < 179 → ad k = ad0 k) (hrec638 : ∀ {ad : Nat → Nat} {kc ns : Nat} (ha : ∀ k, k < 179 → ad k = ad0 k) {σ9 : gS} {x22n9 : Int32} {x28n9 : Int32} (hkc : kc ≤ 4) (hns : ns ≤ 46) (H : Heap) (locs : List Loc) (ls : Array Slot), gY D y A s (L ++ [179, 180, 181]) ad σ9 H locs → lv_has ls 31 [(0, .ref (ad 0)), (1, .ref (ad 161)), (2, .ref (ad 162)), (8, .ref (ad 168)), (10, .ref (ad 170)), (12, .ref (ad 172)), (13, .ref (ad 173)), (14, .ref (ad 174)), (15, .ref (ad 175)), (16, .ref (ad 176)), (17, .ref (ad 178)), (19, .ref (ad 179)), (20, .ref (ad 180)), (21, .ref (ad 181)), (22, .int x22n9), (25, .long x25), (27, .int x27), (28, .int x28n9)] → rec638 (σ9, x22n9, x28n9) = some res → W p l e ({ frames := 9, cells := 4, slots := 46, locals := 159 } : Room) s m args below meth c H locs kc ns (MQ below (va_Qi (fun (r : Int32) (_ : Unit) => r = res.1) (fun _ => gO D A (GW L y ad0 res.2)) A) args s 4 46 A) (F0 m 638 ls [])) (hkc : kc ≤ 4) (hns : ns ≤ 46) {H : Heap} {locs : List Loc} {ls : Array Slot} (hY : gY D y A s (L ++ [179, 180, 181]) ad σ H locs) (hl : lv_has ls 31 [(0, .ref (ad 0)), (1, .ref (ad 161)), (2, .ref (ad 162)), (8, .ref (ad 168)), (10, .ref (ad 170)), (12, .ref (ad 172)), (13, .ref (ad 173)), (14, .ref (ad 174)), (15, .ref (ad 175)), (16, .ref (ad 176)), (17, .ref (ad 178)), (19, .ref (ad 179)), (20, .ref (ad 180)), (21, .ref (ad 181)), (25, .long x25), (27, .int x27), (28, .int x28)]) (h : fL_isAll_727 N rec638 σ x25 x27 x28 xs0 = some res) : W p l e ({ frames := 9, cells := 4, slots := 46, locals := 159 } : Room) s m args below meth c H locs kc ns (MQ below (va_Qi (fun (r : Int32) (_ : Unit) => r = res.1) (fun _ => gO D A (GW L y ad0 res.2)) A) args s 4 46 A) (F0 m 727 ls [.int xs0]) := by
  unfold fL_isAll_727 at h
  refine lv_istore (lv' := [(22, .int xs0), (0, .ref (ad 0)), (1, .ref (ad 161)), (2, .ref (ad 162)), (8, .ref (ad 168)), (10, .ref (ad 170)), (12, .ref (ad 172)), (13, .ref (ad 173)), (14, .ref (ad 174)), (15, .ref (ad 175)), (16, .ref (ad 176)), (17, .ref (ad 178)), (19, .ref (ad 179)), (20, .ref (ad 180)), (21, .ref (ad 181)), (25, .long x25), (27, .int x27), (28, .int x28)]) hx hb dL_isAll_727 hl (by decide) rfl ?_
  clear hl
  intro ls hl
  refine lv_iinc (v := (x28 + 1)) (lv' := [(28, .int (x28 + 1)), (22, .int xs0), (0, .ref (ad 0)), (1, .ref (ad 161)), (2, .ref (ad 162)), (8, .ref (ad 168)), (10, .ref (ad 170)), (12, .ref (ad 172)), (13, .ref (ad 173)), (14, .ref (ad 174)), (15, .ref (ad 175)), (16, .ref (ad 176)), (17, .ref (ad 178)), (19, .ref (ad 179)), (20, .ref (ad 180)), (21, .ref (ad 181)), (25, .long x25), (27, .int x27)]) hx hb dL_isAll_729 hl (k := 17) rfl rfl (by decide) rfl ?_
  clear hl
  intro ls hl
  refine lv_goto (tgt := 638) hx hb dL_isAll_732 (by decide) ?_
  exact hrec638 ha (by first | omega | (simp only [g_l0]; omega)) (by first | omega | (simp only [g_l0]; omega)) _ _ _ hY (lv_sub hl [2, 3, 4, 5, 6, 7, 8, 9, 10, 11, 12, 13, 14, 15, 1, 16, 17, 0] rfl) h
def fL_isAll_726 (N : Nat) (rec638 : (gS × Int32 × Int32) → Option (Int32 × gS)) (σ : gS) (x25 : Int64) (x27 : Int32) (x28 : Int32) : Option (Int32 × gS) := fL_isAll_727 N rec638 σ x25 x27 x28 0
set_option maxRecDepth 100000 in
set_option maxHeartbeats 4000000 in
theorem wL_isAll_726 {rec638 : (gS × Int32 × Int32) → Option (Int32 × gS)} {σ : gS} {x25 : Int64} {x27 : Int32} {x28 : Int32} {ad : Nat → Nat} {kc ns : Nat} (hx : p.tables.exec = Jvm.exec) (hb : c.code = cL_isAll) (hr : meth.sig.returnType = (some .boolean)) (hml : c.maxLocals = 31) (hown : s.vm.findClass RL = some m.cls) (hg : ∀ w ∈ wsL_law, w.before args s = true) (hlocks : meth.locks = false) (hK : gK D y aS s) (hA : ∀ q, s.heap.size ≤ q → A q) (hL : ∀ k, k < 179 → k ∈ L) (hfl : l.stackTraces = false) (hZ : gZ A s s.heap) (hL2 : ∀ k ∈ L, k < 179) (ha : ∀ k, k < 179 → ad k = ad0 k) (hrec638 : ∀ {ad : Nat → Nat} {kc ns : Nat} (ha : ∀ k, k < 179 → ad k = ad0 k) {σ9 : gS} {x22n9 : Int32} {x28n9 : Int32} (hkc : kc ≤ 4) (hns : ns ≤ 46) (H : Heap) (locs : List Loc) (ls : Array Slot), gY D y A s (L ++ [179, 180, 181]) ad σ9 H locs → lv_has ls 31 [(0, .ref (ad 0)), (1, .ref (ad 161)), (2, .ref (ad 162)), (8, .ref (ad 168)), (10, .ref (ad 170)), (12, .ref (ad 172)), (13, .ref (ad 173)), (14, .ref (ad 174)), (15, .ref (ad 175)), (16, .ref (ad 176)), (17, .ref (ad 178)), (19, .ref (ad 179)), (20, .ref (ad 180)), (21, .ref (ad 181)), (22, .int x22n9), (25, .long x25), (27, .int x27), (28, .int x28n9)] → rec638 (σ9, x22n9, x28n9) = some res → W p l e ({ frames := 9, cells := 4, slots := 46, locals := 159 } : Room) s m args below meth c H locs kc ns (MQ below (va_Qi (fun (r : Int32) (_ : Unit) => r = res.1) (fun _ => gO D A (GW L y ad0 res.2)) A) args s 4 46 A) (F0 m 638 ls [])) (hkc : kc ≤ 4) (hns : ns ≤ 46) {H : Heap} {locs : List Loc} {ls : Array Slot} (hY : gY D y A s (L ++ [179, 180, 181]) ad σ H locs) (hl : lv_has ls 31 [(0, .ref (ad 0)), (1, .ref (ad 161)), (2, .ref (ad 162)), (8, .ref (ad 168)), (10, .ref (ad 170)), (12, .ref (ad 172)), (13, .ref (ad 173)), (14, .ref (ad 174)), (15, .ref (ad 175)), (16, .ref (ad 176)), (17, .ref (ad 178)), (19, .ref (ad 179)), (20, .ref (ad 180)), (21, .ref (ad 181)), (25, .long x25), (27, .int x27), (28, .int x28)]) (h : fL_isAll_726 N rec638 σ x25 x27 x28 = some res) : W p l e ({ frames := 9, cells := 4, slots := 46, locals := 159 } : Room) s m args below meth c H locs kc ns (MQ below (va_Qi (fun (r : Int32) (_ : Unit) => r = res.1) (fun _ => gO D A (GW L y ad0 res.2)) A) args s 4 46 A) (F0 m 726 ls []) := by
  unfold fL_isAll_726 at h
  refine lv_iconst (v := 0) hx hb dL_isAll_726 (by decide) ?_
  exact wL_isAll_727 hx hb hr hml hown hg hlocks hK hA hL hfl hZ hL2 ha hrec638 (by first | omega | (simp only [g_l0]; omega)) (by first | omega | (simp only [g_l0]; omega)) hY (lv_sub hl [0, 1, 2, 3, 4, 5, 6, 7, 8, 9, 10, 11, 12, 13, 14, 15, 16] rfl) h
def fL_isAll_722 (N : Nat) (rec638 : (gS × Int32 × Int32) → Option (Int32 × gS)) (σ : gS) (x25 : Int64) (x27 : Int32) (x28 : Int32) : Option (Int32 × gS) := fL_isAll_727 N rec638 σ x25 x27 x28 1
set_option maxRecDepth 100000 in
set_option maxHeartbeats 4000000 in
theorem wL_isAll_722 {rec638 : (gS × Int32 × Int32) → Option (Int32 × gS)} {σ : gS} {x25 : Int64} {x27 : Int32} {x28 : Int32} {ad : Nat → Nat} {kc ns : Nat} (hx : p.tables.exec = Jvm.exec) (hb : c.code = cL_isAll) (hr : meth.sig.returnType = (some .boolean)) (hml : c.maxLocals = 31) (hown : s.vm.findClass RL = some m.cls) (hg : ∀ w ∈ wsL_law, w.before args s = true) (hlocks : meth.locks = false) (hK : gK D y aS s) (hA : ∀ q, s.heap.size ≤ q → A q) (hL : ∀ k, k < 179 → k ∈ L) (hfl : l.stackTraces = false) (hZ : gZ A s s.heap) (hL2 : ∀ k ∈ L, k < 179) (ha : ∀ k, k < 179 → ad k = ad0 k) (hrec638 : ∀ {ad : Nat → Nat} {kc ns : Nat} (ha : ∀ k, k < 179 → ad k = ad0 k) {σ9 : gS} {x22n9 : Int32} {x28n9 : Int32} (hkc : kc ≤ 4) (hns : ns ≤ 46) (H : Heap) (locs : List Loc) (ls : Array Slot), gY D y A s (L ++ [179, 180, 181]) ad σ9 H locs → lv_has ls 31 [(0, .ref (ad 0)), (1, .ref (ad 161)), (2, .ref (ad 162)), (8, .ref (ad 168)), (10, .ref (ad 170)), (12, .ref (ad 172)), (13, .ref (ad 173)), (14, .ref (ad 174)), (15, .ref (ad 175)), (16, .ref (ad 176)), (17, .ref (ad 178)), (19, .ref (ad 179)), (20, .ref (ad 180)), (21, .ref (ad 181)), (22, .int x22n9), (25, .long x25), (27, .int x27), (28, .int x28n9)] → rec638 (σ9, x22n9, x28n9) = some res → W p l e ({ frames := 9, cells := 4, slots := 46, locals := 159 } : Room) s m args below meth c H locs kc ns (MQ below (va_Qi (fun (r : Int32) (_ : Unit) => r = res.1) (fun _ => gO D A (GW L y ad0 res.2)) A) args s 4 46 A) (F0 m 638 ls [])) (hkc : kc ≤ 4) (hns : ns ≤ 46) {H : Heap} {locs : List Loc} {ls : Array Slot} (hY : gY D y A s (L ++ [179, 180, 181]) ad σ H locs) (hl : lv_has ls 31 [(0, .ref (ad 0)), (1, .ref (ad 161)), (2, .ref (ad 162)), (8, .ref (ad 168)), (10, .ref (ad 170)), (12, .ref (ad 172)), (13, .ref (ad 173)), (14, .ref (ad 174)), (15, .ref (ad 175)), (16, .ref (ad 176)), (17, .ref (ad 178)), (19, .ref (ad 179)), (20, .ref (ad 180)), (21, .ref (ad 181)), (25, .long x25), (27, .int x27), (28, .int x28)]) (h : fL_isAll_722 N rec638 σ x25 x27 x28 = some res) : W p l e ({ frames := 9, cells := 4, slots := 46, locals := 159 } : Room) s m args below meth c H locs kc ns (MQ below (va_Qi (fun (r : Int32) (_ : Unit) => r = res.1) (fun _ => gO D A (GW L y ad0 res.2)) A) args s 4 46 A) (F0 m 722 ls []) := by
  unfold fL_isAll_722 at h
  refine lv_iconst (v := 1) hx hb dL_isAll_722 (by decide) ?_
  refine lv_goto (tgt := 727) hx hb dL_isAll_723 (by decide) ?_
  exact wL_isAll_727 hx hb hr hml hown hg hlocks hK hA hL hfl hZ hL2 ha hrec638 (by first | omega | (simp only [g_l0]; omega)) (by first | omega | (simp only [g_l0]; omega)) hY (lv_sub hl [0, 1, 2, 3, 4, 5, 6, 7, 8, 9, 10, 11, 12, 13, 14, 15, 16] rfl) h
def fL_isAll_719 (N : Nat) (rec638 : (gS × Int32 × Int32) → Option (Int32 × gS)) (σ : gS) (x25 : Int64) (x27 : Int32) (x28 : Int32) (xs0 : Int32) (xs1 : Int32) : Option (Int32 × gS) := if xs1 = xs0 then (fL_isAll_722 N rec638 σ x25 x27 x28) else (fL_isAll_726 N rec638 σ x25 x27 x28)
set_option maxRecDepth 100000 in
set_option maxHeartbeats 4000000 in
theorem wL_isAll_719 {rec638 : (gS × Int32 × Int32) → Option (Int32 × gS)} {σ : gS} {x25 : Int64} {x27 : Int32} {x28 : Int32} {xs0 : Int32} {xs1 : Int32} {ad : Nat → Nat} {kc ns : Nat} (hx : p.tables.exec = Jvm.exec) (hb : c.code = cL_isAll) (hr : meth.sig.returnType = (some .boolean)) (hml : c.maxLocals = 31) (hown : s.vm.findClass RL = some m.cls) (hg : ∀ w ∈ wsL_law, w.before args s = true) (hlocks : meth.locks = false) (hK : gK D y aS s) (hA : ∀ q, s.heap.size ≤ q → A q) (hL : ∀ k, k < 179 → k ∈ L) (hfl : l.stackTraces = false) (hZ : gZ A s s.heap) (hL2 : ∀ k ∈ L, k < 179) (ha : ∀ k, k < 179 → ad k = ad0 k) (hrec638 : ∀ {ad : Nat → Nat} {kc ns : Nat} (ha : ∀ k, k < 179 → ad k = ad0 k) {σ9 : gS} {x22n9 : Int32} {x28n9 : Int32} (hkc : kc ≤ 4) (hns : ns ≤ 46) (H : Heap) (locs : List Loc) (ls : Array Slot), gY D y A s (L ++ [179, 180, 181]) ad σ9 H locs → lv_has ls 31 [(0, .ref (ad 0)), (1, .ref (ad 161)), (2, .ref (ad 162)), (8, .ref (ad 168)), (10, .ref (ad 170)), (12, .ref (ad 172)), (13, .ref (ad 173)), (14, .ref (ad 174)), (15, .ref (ad 175)), (16, .ref (ad 176)), (17, .ref (ad 178)), (19, .ref (ad 179)), (20, .ref (ad 180)), (21, .ref (ad 181)), (22, .int x22n9), (25, .long x25), (27, .int x27), (28, .int x28n9)] → rec638 (σ9, x22n9, x28n9) = some res → W p l e ({ frames := 9, cells := 4, slots := 46, locals := 159 } : Room) s m args below meth c H locs kc ns (MQ below (va_Qi (fun (r : Int32) (_ : Unit) => r = res.1) (fun _ => gO D A (GW L y ad0 res.2)) A) args s 4 46 A) (F0 m 638 ls [])) (hkc : kc ≤ 4) (hns : ns ≤ 46) {H : Heap} {locs : List Loc} {ls : Array Slot} (hY : gY D y A s (L ++ [179, 180, 181]) ad σ H locs) (hl : lv_has ls 31 [(0, .ref (ad 0)), (1, .ref (ad 161)), (2, .ref (ad 162)), (8, .ref (ad 168)), (10, .ref (ad 170)), (12, .ref (ad 172)), (13, .ref (ad 173)), (14, .ref (ad 174)), (15, .ref (ad 175)), (16, .ref (ad 176)), (17, .ref (ad 178)), (19, .ref (ad 179)), (20, .ref (ad 180)), (21, .ref (ad 181)), (25, .long x25), (27, .int x27), (28, .int x28)]) (h : fL_isAll_719 N rec638 σ x25 x27 x28 xs0 xs1 = some res) : W p l e ({ frames := 9, cells := 4, slots := 46, locals := 159 } : Room) s m args below meth c H locs kc ns (MQ below (va_Qi (fun (r : Int32) (_ : Unit) => r = res.1) (fun _ => gO D A (GW L y ad0 res.2)) A) args s 4 46 A) (F0 m 719 ls [.int xs0, .int xs1]) := by
  unfold fL_isAll_719 at h
  refine lv_icmp_ne (tgt := 726) hx hb dL_isAll_719 (by decide) (fun z_1 => ?_) (fun z_1 => ?_)
  ·
    rw [if_neg z_1] at h
    exact wL_isAll_726 hx hb hr hml hown hg hlocks hK hA hL hfl hZ hL2 ha hrec638 (by first | omega | (simp only [g_l0]; omega)) (by first | omega | (simp only [g_l0]; omega)) hY (lv_sub hl [0, 1, 2, 3, 4, 5, 6, 7, 8, 9, 10, 11, 12, 13, 14, 15, 16] rfl) h
  ·
    rw [if_pos z_1] at h
    exact wL_isAll_722 hx hb hr hml hown hg hlocks hK hA hL hfl hZ hL2 ha hrec638 (by first | omega | (simp only [g_l0]; omega)) (by first | omega | (simp only [g_l0]; omega)) hY (lv_sub hl [0, 1, 2, 3, 4, 5, 6, 7, 8, 9, 10, 11, 12, 13, 14, 15, 16] rfl) h
def fL_isAll_638 (N : Nat) (x25 : Int64) (x27 : Int32) (rec638 : (gS × Int32 × Int32) → Option (Int32 × gS)) (xx : gS × Int32 × Int32) : Option (Int32 × gS) := match xx with
  | (σ, x22, x28) => if 8 ≤ x28 then (fL_isAll_735 N σ x22 x25 x27) else (if x22 = 0 then (fL_isAll_735 N σ x22 x25 x27) else ((fX11_blame N σ x28).bind fun r_3 => if (6 + x28) < 0 ∨ 14 ≤ (6 + x28).toNatClampNeg then none else (if r_3 = (σ.1 178 ((6 + x28).toNatClampNeg)) then (if 2 < x28 then (fL_isAll_722 N rec638 σ x25 x27 x28) else ((fX11_use N σ x28).bind fun r_8 => if x28 < 0 ∨ 14 ≤ x28.toNatClampNeg then none else (if r_8 = (σ.1 178 x28.toNatClampNeg) then ((fX11_running N σ x28).bind fun r_12 => if ((6 * x28) + 4) < 0 ∨ 18 ≤ ((6 * x28) + 4).toNatClampNeg then none else (if (σ.1 176 (((6 * x28) + 4).toNatClampNeg)) = 1 then (if (6 * x28) < 0 ∨ 18 ≤ (6 * x28).toNatClampNeg then none else (fL_isAll_719 N rec638 σ x25 x27 x28 (σ.1 176 ((6 * x28).toNatClampNeg)) r_12)) else (fL_isAll_719 N rec638 σ x25 x27 x28 (-1) r_12))) else (fL_isAll_726 N rec638 σ x25 x27 x28)))) else (fL_isAll_726 N rec638 σ x25 x27 x28))))
set_option maxRecDepth 100000 in
set_option maxHeartbeats 4000000 in
theorem wL_isAll_638 {x25 : Int64} {x27 : Int32} (hx : p.tables.exec = Jvm.exec) (hb : c.code = cL_isAll) (hr : meth.sig.returnType = (some .boolean)) (hml : c.maxLocals = 31) (hown : s.vm.findClass RL = some m.cls) (hg : ∀ w ∈ wsL_law, w.before args s = true) (hlocks : meth.locks = false) (hK : gK D y aS s) (hA : ∀ q, s.heap.size ≤ q → A q) (hL : ∀ k, k < 179 → k ∈ L) (hfl : l.stackTraces = false) (hZ : gZ A s s.heap) (hL2 : ∀ k ∈ L, k < 179) : ∀ (n : Nat) {ad : Nat → Nat} {kc ns : Nat} (ha : ∀ k, k < 179 → ad k = ad0 k) {σ : gS} {x22 : Int32} {x28 : Int32} (hkc : kc ≤ 4) (hns : ns ≤ 46) (H : Heap) (locs : List Loc) (ls : Array Slot), gY D y A s (L ++ [179, 180, 181]) ad σ H locs → lv_has ls 31 [(0, .ref (ad 0)), (1, .ref (ad 161)), (2, .ref (ad 162)), (8, .ref (ad 168)), (10, .ref (ad 170)), (12, .ref (ad 172)), (13, .ref (ad 173)), (14, .ref (ad 174)), (15, .ref (ad 175)), (16, .ref (ad 176)), (17, .ref (ad 178)), (19, .ref (ad 179)), (20, .ref (ad 180)), (21, .ref (ad 181)), (22, .int x22), (25, .long x25), (27, .int x27), (28, .int x28)] → lp (fL_isAll_638 N x25 x27) n (σ, x22, x28) = some res → W p l e ({ frames := 9, cells := 4, slots := 46, locals := 159 } : Room) s m args below meth c H locs kc ns (MQ below (va_Qi (fun (r : Int32) (_ : Unit) => r = res.1) (fun _ => gO D A (GW L y ad0 res.2)) A) args s 4 46 A) (F0 m 638 ls []) := by
  intro n
  induction n with
  | zero => intro ad kc ns ha σ x22 x28 hkc hns H locs ls hY hl h; exact nomatch (show none = some res from h)
  | succ n hrec638 =>
    intro ad kc ns ha σ x22 x28 hkc hns H locs ls hY hl h
    replace h : fL_isAll_638 N x25 x27 (lp (fL_isAll_638 N x25 x27) n) (σ, x22, x28) = some res := h
    generalize lp (fL_isAll_638 N x25 x27) n = rec638 at h hrec638
    unfold fL_isAll_638 at h
    try dsimp only at h
    refine lv_iload hx hb dL_isAll_638 (lv_at hl 17 rfl) ?_
    refine lv_bipush (v := 8) hx hb dL_isAll_640 (by decide +kernel) ?_
    refine lv_icmp_ge (tgt := 735) hx hb dL_isAll_642 (by decide) (fun z_1 => ?_) (fun z_1 => ?_)
    ·
      rw [if_pos z_1] at h
      exact wL_isAll_735 hx hb hr hml hown hg hlocks hK hA hL hfl hZ hL2 ha (by first | omega | (simp only [g_l0]; omega)) (by first | omega | (simp only [g_l0]; omega)) hY (lv_sub hl [0, 1, 2, 3, 4, 5, 6, 7, 8, 10, 11, 12, 13, 14, 15, 16] rfl) h
    ·
      rw [if_neg z_1] at h
      refine lv_iload hx hb dL_isAll_645 (lv_at hl 14 rfl) ?_
      refine lv_if_eq (tgt := 735) hx hb dL_isAll_647 (by decide) (fun z_2 => ?_) (fun z_2 => ?_)
      ·
        rw [if_pos z_2] at h
        exact wL_isAll_735 hx hb hr hml hown hg hlocks hK hA hL hfl hZ hL2 ha (by first | omega | (simp only [g_l0]; omega)) (by first | omega | (simp only [g_l0]; omega)) hY (lv_sub hl [0, 1, 2, 3, 4, 5, 6, 7, 8, 10, 11, 12, 13, 14, 15, 16] rfl) h
      ·
        rw [if_neg z_2] at h
        refine lv_aload_n hx hb dL_isAll_650 rfl (lv_at hl 0 rfl) ?_
        refine lv_iload hx hb dL_isAll_651 (lv_at hl 17 rfl) ?_
        obtain ⟨r_3, e_4, h⟩ := g_bind h
        refine G_ai hY hA (va_runV (As := [.int x28]) (rest := []) ⟨hx, hb, hml, hown, hg⟩ (kX11_blame l D y aS H.size (L ++ [179, 180, 181]) (fun k hk => List.mem_append_left _ (hL k hk)) ad N σ x28 _ e_4) (cwV 1 hg ggV_RL_189_X11_blame rfl rfl rfl (by decide +kernel) ⟨Nat.le_of_ble_eq_true rfl, Nat.le_of_ble_eq_true rfl⟩) (G_pV (q := (RX11, TX11, 19)) hK hY (List.mem_append_left _ (hL 0 (by decide))) gk_0 (by decide) rfl) rfl rfl hl.1 rfl (lv_room (Nat.le_of_ble_eq_true rfl)) dL_isAll_653 ⟨(by dsimp only; omega), (by dsimp only; omega)⟩) ?_
        clear hY
        rintro _ H locs rfl hY
        refine lv_aload hx hb dL_isAll_656 (lv_at hl 10 rfl) ?_
        refine lv_bipush (v := 6) hx hb dL_isAll_658 (by decide +kernel) ?_
        refine lv_iload hx hb dL_isAll_660 (lv_at hl 17 rfl) ?_
        refine lv_iadd hx hb dL_isAll_662 ?_
        obtain ⟨z_5, h⟩ := g_guard h
        refine G_iald (j := (6 + x28).toNatClampNeg) hx hb hK hY (List.mem_append_left _ (hL 178 (by decide))) gk_178 (by rw [gl_178]; exact z_5) rfl dL_isAll_663 ?_
        refine lv_icmp_ne (tgt := 726) hx hb dL_isAll_664 (by decide) (fun z_6 => ?_) (fun z_6 => ?_)
        ·
          rw [if_neg z_6] at h
          exact wL_isAll_726 hx hb hr hml hown hg hlocks hK hA hL hfl hZ hL2 ha hrec638 (by first | omega | (simp only [g_l0]; omega)) (by first | omega | (simp only [g_l0]; omega)) hY (lv_sub hl [0, 1, 2, 3, 4, 5, 6, 7, 8, 9, 10, 11, 12, 13, 15, 16, 17] rfl) h
        ·
          rw [if_pos z_6] at h
          refine lv_iload hx hb dL_isAll_667 (lv_at hl 17 rfl) ?_
          refine lv_iconst (v := 2) hx hb dL_isAll_669 (by decide) ?_
          refine lv_icmp_gt (tgt := 722) hx hb dL_isAll_670 (by decide) (fun z_7 => ?_) (fun z_7 => ?_)
          ·
            rw [if_pos z_7] at h
            exact wL_isAll_722 hx hb hr hml hown hg hlocks hK hA hL hfl hZ hL2 ha hrec638 (by first | omega | (simp only [g_l0]; omega)) (by first | omega | (simp only [g_l0]; omega)) hY (lv_sub hl [0, 1, 2, 3, 4, 5, 6, 7, 8, 9, 10, 11, 12, 13, 15, 16, 17] rfl) h
          ·
            rw [if_neg z_7] at h
            refine lv_aload_n hx hb dL_isAll_673 rfl (lv_at hl 0 rfl) ?_
            refine lv_iload hx hb dL_isAll_674 (lv_at hl 17 rfl) ?_
            obtain ⟨r_8, e_9, h⟩ := g_bind h
            refine G_ai hY hA (va_runV (As := [.int x28]) (rest := []) ⟨hx, hb, hml, hown, hg⟩ (kX11_use l D y aS H.size (L ++ [179, 180, 181]) (fun k hk => List.mem_append_left _ (hL k hk)) ad N σ x28 _ e_9) (cwV 1 hg ggV_RL_192_X11_use rfl rfl rfl (by decide +kernel) ⟨Nat.le_of_ble_eq_true rfl, Nat.le_of_ble_eq_true rfl⟩) (G_pV (q := (RX11, TX11, 19)) hK hY (List.mem_append_left _ (hL 0 (by decide))) gk_0 (by decide) rfl) rfl rfl hl.1 rfl (lv_room (Nat.le_of_ble_eq_true rfl)) dL_isAll_676 ⟨(by dsimp only; omega), (by dsimp only; omega)⟩) ?_
            clear hY
            rintro _ H locs rfl hY
            refine lv_aload hx hb dL_isAll_679 (lv_at hl 10 rfl) ?_
            refine lv_iload hx hb dL_isAll_681 (lv_at hl 17 rfl) ?_
            obtain ⟨z_10, h⟩ := g_guard h
            refine G_iald (j := x28.toNatClampNeg) hx hb hK hY (List.mem_append_left _ (hL 178 (by decide))) gk_178 (by rw [gl_178]; exact z_10) rfl dL_isAll_683 ?_
            refine lv_icmp_ne (tgt := 726) hx hb dL_isAll_684 (by decide) (fun z_11 => ?_) (fun z_11 => ?_)
            ·
              rw [if_neg z_11] at h
              exact wL_isAll_726 hx hb hr hml hown hg hlocks hK hA hL hfl hZ hL2 ha hrec638 (by first | omega | (simp only [g_l0]; omega)) (by first | omega | (simp only [g_l0]; omega)) hY (lv_sub hl [0, 1, 2, 3, 4, 5, 6, 7, 8, 9, 10, 11, 12, 13, 15, 16, 17] rfl) h
            ·
              rw [if_pos z_11] at h
              refine lv_aload_n hx hb dL_isAll_687 rfl (lv_at hl 0 rfl) ?_
              refine lv_iload hx hb dL_isAll_688 (lv_at hl 17 rfl) ?_
              obtain ⟨r_12, e_13, h⟩ := g_bind h
              refine G_ai hY hA (va_runV (As := [.int x28]) (rest := []) ⟨hx, hb, hml, hown, hg⟩ (kX11_running l D y aS H.size (L ++ [179, 180, 181]) (fun k hk => List.mem_append_left _ (hL k hk)) ad N σ x28 _ e_13) (cwV 1 hg ggV_RL_195_X11_running rfl rfl rfl (by decide +kernel) ⟨Nat.le_of_ble_eq_true rfl, Nat.le_of_ble_eq_true rfl⟩) (G_pV (q := (RX11, TX11, 19)) hK hY (List.mem_append_left _ (hL 0 (by decide))) gk_0 (by decide) rfl) rfl rfl hl.1 rfl (lv_room (Nat.le_of_ble_eq_true rfl)) dL_isAll_690 ⟨(by dsimp only; omega), (by dsimp only; omega)⟩) ?_
              clear hY
              rintro _ H locs rfl hY
              refine lv_aload hx hb dL_isAll_693 (lv_at hl 9 rfl) ?_
              refine lv_bipush (v := 6) hx hb dL_isAll_695 (by decide +kernel) ?_
              refine lv_iload hx hb dL_isAll_697 (lv_at hl 17 rfl) ?_
              refine lv_imul hx hb dL_isAll_699 ?_
              refine lv_iconst (v := 4) hx hb dL_isAll_700 (by decide) ?_
              refine lv_iadd hx hb dL_isAll_701 ?_
              obtain ⟨z_14, h⟩ := g_guard h
              refine G_iald (j := ((6 * x28) + 4).toNatClampNeg) hx hb hK hY (List.mem_append_left _ (hL 176 (by decide))) gk_176 (by rw [gl_176]; exact z_14) rfl dL_isAll_702 ?_
              refine lv_iconst (v := 1) hx hb dL_isAll_703 (by decide) ?_
              refine lv_icmp_ne (tgt := 718) hx hb dL_isAll_704 (by decide) (fun z_15 => ?_) (fun z_15 => ?_)
              ·
                rw [if_neg z_15] at h
                refine lv_iconst (v := (-1)) hx hb dL_isAll_718 (by decide) ?_
                exact wL_isAll_719 hx hb hr hml hown hg hlocks hK hA hL hfl hZ hL2 ha hrec638 (by first | omega | (simp only [g_l0]; omega)) (by first | omega | (simp only [g_l0]; omega)) hY (lv_sub hl [0, 1, 2, 3, 4, 5, 6, 7, 8, 9, 10, 11, 12, 13, 15, 16, 17] rfl) h
              ·
                rw [if_pos z_15] at h
                refine lv_aload hx hb dL_isAll_707 (lv_at hl 9 rfl) ?_
                refine lv_bipush (v := 6) hx hb dL_isAll_709 (by decide +kernel) ?_
                refine lv_iload hx hb dL_isAll_711 (lv_at hl 17 rfl) ?_
                refine lv_imul hx hb dL_isAll_713 ?_
                obtain ⟨z_16, h⟩ := g_guard h
                refine G_iald (j := (6 * x28).toNatClampNeg) hx hb hK hY (List.mem_append_left _ (hL 176 (by decide))) gk_176 (by rw [gl_176]; exact z_16) rfl dL_isAll_714 ?_
                refine lv_goto (tgt := 719) hx hb dL_isAll_715 (by decide) ?_
                exact wL_isAll_719 hx hb hr hml hown hg hlocks hK hA hL hfl hZ hL2 ha hrec638 (by first | omega | (simp only [g_l0]; omega)) (by first | omega | (simp only [g_l0]; omega)) hY (lv_sub hl [0, 1, 2, 3, 4, 5, 6, 7, 8, 9, 10, 11, 12, 13, 15, 16, 17] rfl) h
def fL_isAll_635 (N : Nat) (σ : gS) (x22 : Int32) (x25 : Int64) (x27 : Int32) : Option (Int32 × gS) := lp (fL_isAll_638 N x25 x27) N (σ, x22, 0)
set_option maxRecDepth 100000 in
set_option maxHeartbeats 4000000 in
theorem wL_isAll_635 {σ : gS} {x22 : Int32} {x25 : Int64} {x27 : Int32} {ad : Nat → Nat} {kc ns : Nat} (hx : p.tables.exec = Jvm.exec) (hb : c.code = cL_isAll) (hr : meth.sig.returnType = (some .boolean)) (hml : c.maxLocals = 31) (hown : s.vm.findClass RL = some m.cls) (hg : ∀ w ∈ wsL_law, w.before args s = true) (hlocks : meth.locks = false) (hK : gK D y aS s) (hA : ∀ q, s.heap.size ≤ q → A q) (hL : ∀ k, k < 179 → k ∈ L) (hfl : l.stackTraces = false) (hZ : gZ A s s.heap) (hL2 : ∀ k ∈ L, k < 179) (ha : ∀ k, k < 179 → ad k = ad0 k) (hkc : kc ≤ 4) (hns : ns ≤ 46) {H : Heap} {locs : List Loc} {ls : Array Slot} (hY : gY D y A s (L ++ [179, 180, 181]) ad σ H locs) (hl : lv_has ls 31 [(0, .ref (ad 0)), (1, .ref (ad 161)), (2, .ref (ad 162)), (8, .ref (ad 168)), (10, .ref (ad 170)), (12, .ref (ad 172)), (13, .ref (ad 173)), (14, .ref (ad 174)), (15, .ref (ad 175)), (16, .ref (ad 176)), (17, .ref (ad 178)), (19, .ref (ad 179)), (20, .ref (ad 180)), (21, .ref (ad 181)), (22, .int x22), (25, .long x25), (27, .int x27)]) (h : fL_isAll_635 N σ x22 x25 x27 = some res) : W p l e ({ frames := 9, cells := 4, slots := 46, locals := 159 } : Room) s m args below meth c H locs kc ns (MQ below (va_Qi (fun (r : Int32) (_ : Unit) => r = res.1) (fun _ => gO D A (GW L y ad0 res.2)) A) args s 4 46 A) (F0 m 635 ls []) := by
  unfold fL_isAll_635 at h
  refine lv_iconst (v := 0) hx hb dL_isAll_635 (by decide) ?_
  refine lv_istore (lv' := [(28, .int 0), (0, .ref (ad 0)), (1, .ref (ad 161)), (2, .ref (ad 162)), (8, .ref (ad 168)), (10, .ref (ad 170)), (12, .ref (ad 172)), (13, .ref (ad 173)), (14, .ref (ad 174)), (15, .ref (ad 175)), (16, .ref (ad 176)), (17, .ref (ad 178)), (19, .ref (ad 179)), (20, .ref (ad 180)), (21, .ref (ad 181)), (22, .int x22), (25, .long x25), (27, .int x27)]) hx hb dL_isAll_636 hl (by decide) rfl ?_
  clear hl
  intro ls hl
  exact wL_isAll_638 hx hb hr hml hown hg hlocks hK hA hL hfl hZ hL2 N ha (by first | omega | (simp only [g_l0]; omega)) (by first | omega | (simp only [g_l0]; omega)) _ _ _ hY (lv_sub hl [1, 2, 3, 4, 5, 6, 7, 8, 9, 10, 11, 12, 13, 14, 15, 16, 17, 0] rfl) h
def fL_isAll_627 (N : Nat) (rec496 : (gS × Int32 × Int32) → Option (Int32 × gS)) (σ : gS) (x25 : Int64) (x27 : Int32) (x28 : Int32) (xs0 : Int32) : Option (Int32 × gS) := rec496 (σ, xs0, (x28 + 1))
set_option maxRecDepth 100000 in
set_option maxHeartbeats 4000000 in
theorem wL_isAll_627 {rec496 : (gS × Int32 × Int32) → Option (Int32 × gS)} {σ : gS} {x25 : Int64} {x27 : Int32} {x28 : Int32} {xs0 : Int32} {ad : Nat → Nat} {kc ns : Nat} (hx : p.tables.exec = Jvm.exec) (hb : c.code = cL_isAll) (hr : meth.sig.returnType = (some .boolean)) (hml : c.maxLocals = 31) (hown : s.vm.findClass RL = some m.cls) (hg : ∀ w ∈ wsL_law, w.before args s = true) (hlocks : meth.locks = false) (hK : gK D y aS s) (hA : ∀ q, s.heap.size ≤ q → A q) (hL : ∀ k, k < 179 → k ∈ L) (hfl : l.stackTraces = false) (hZ : gZ A s s.heap) (hL2 : ∀ k ∈ L, k < 179) (ha : ∀ k, k < 179 → ad k = ad0 k) (hrec496 : ∀ {ad : Nat → Nat} {kc ns : Nat} (ha : ∀ k, k < 179 → ad k = ad0 k) {σ9 : gS} {x22n9 : Int32} {x28n9 : Int32} (hkc : kc ≤ 4) (hns : ns ≤ 46) (H : Heap) (locs : List Loc) (ls : Array Slot), gY D y A s (L ++ [179, 180, 181]) ad σ9 H locs → lv_has ls 31 [(0, .ref (ad 0)), (1, .ref (ad 161)), (2, .ref (ad 162)), (8, .ref (ad 168)), (10, .ref (ad 170)), (12, .ref (ad 172)), (13, .ref (ad 173)), (14, .ref (ad 174)), (15, .ref (ad 175)), (16, .ref (ad 176)), (17, .ref (ad 178)), (19, .ref (ad 179)), (20, .ref (ad 180)), (21, .ref (ad 181)), (22, .int x22n9), (25, .long x25), (27, .int x27), (28, .int x28n9)] → rec496 (σ9, x22n9, x28n9) = some res → W p l e ({ frames := 9, cells := 4, slots := 46, locals := 159 } : Room) s m args below meth c H locs kc ns (MQ below (va_Qi (fun (r : Int32) (_ : Unit) => r = res.1) (fun _ => gO D A (GW L y ad0 res.2)) A) args s 4 46 A) (F0 m 496 ls [])) (hkc : kc ≤ 4) (hns : ns ≤ 46) {H : Heap} {locs : List Loc} {ls : Array Slot} (hY : gY D y A s (L ++ [179, 180, 181]) ad σ H locs) (hl : lv_has ls 31 [(0, .ref (ad 0)), (1, .ref (ad 161)), (2, .ref (ad 162)), (8, .ref (ad 168)), (10, .ref (ad 170)), (12, .ref (ad 172)), (13, .ref (ad 173)), (14, .ref (ad 174)), (15, .ref (ad 175)), (16, .ref (ad 176)), (17, .ref (ad 178)), (19, .ref (ad 179)), (20, .ref (ad 180)), (21, .ref (ad 181)), (25, .long x25), (27, .int x27), (28, .int x28)]) (h : fL_isAll_627 N rec496 σ x25 x27 x28 xs0 = some res) : W p l e ({ frames := 9, cells := 4, slots := 46, locals := 159 } : Room) s m args below meth c H locs kc ns (MQ below (va_Qi (fun (r : Int32) (_ : Unit) => r = res.1) (fun _ => gO D A (GW L y ad0 res.2)) A) args s 4 46 A) (F0 m 627 ls [.int xs0]) := by
  unfold fL_isAll_627 at h
  refine lv_istore (lv' := [(22, .int xs0), (0, .ref (ad 0)), (1, .ref (ad 161)), (2, .ref (ad 162)), (8, .ref (ad 168)), (10, .ref (ad 170)), (12, .ref (ad 172)), (13, .ref (ad 173)), (14, .ref (ad 174)), (15, .ref (ad 175)), (16, .ref (ad 176)), (17, .ref (ad 178)), (19, .ref (ad 179)), (20, .ref (ad 180)), (21, .ref (ad 181)), (25, .long x25), (27, .int x27), (28, .int x28)]) hx hb dL_isAll_627 hl (by decide) rfl ?_
  clear hl
  intro ls hl
  refine lv_iinc (v := (x28 + 1)) (lv' := [(28, .int (x28 + 1)), (22, .int xs0), (0, .ref (ad 0)), (1, .ref (ad 161)), (2, .ref (ad 162)), (8, .ref (ad 168)), (10, .ref (ad 170)), (12, .ref (ad 172)), (13, .ref (ad 173)), (14, .ref (ad 174)), (15, .ref (ad 175)), (16, .ref (ad 176)), (17, .ref (ad 178)), (19, .ref (ad 179)), (20, .ref (ad 180)), (21, .ref (ad 181)), (25, .long x25), (27, .int x27)]) hx hb dL_isAll_629 hl (k := 17) rfl rfl (by decide) rfl ?_
  clear hl
  intro ls hl
  refine lv_goto (tgt := 496) hx hb dL_isAll_632 (by decide) ?_
  exact hrec496 ha (by first | omega | (simp only [g_l0]; omega)) (by first | omega | (simp only [g_l0]; omega)) _ _ _ hY (lv_sub hl [2, 3, 4, 5, 6, 7, 8, 9, 10, 11, 12, 13, 14, 15, 1, 16, 17, 0] rfl) h
def fL_isAll_626 (N : Nat) (rec496 : (gS × Int32 × Int32) → Option (Int32 × gS)) (σ : gS) (x25 : Int64) (x27 : Int32) (x28 : Int32) : Option (Int32 × gS) := fL_isAll_627 N rec496 σ x25 x27 x28 0
set_option maxRecDepth 100000 in
set_option maxHeartbeats 4000000 in
theorem wL_isAll_626 {rec496 : (gS × Int32 × Int32) → Option (Int32 × gS)} {σ : gS} {x25 : Int64} {x27 : Int32} {x28 : Int32} {ad : Nat → Nat} {kc ns : Nat} (hx : p.tables.exec = Jvm.exec) (hb : c.code = cL_isAll) (hr : meth.sig.returnType = (some .boolean)) (hml : c.maxLocals = 31) (hown : s.vm.findClass RL = some m.cls) (hg : ∀ w ∈ wsL_law, w.before args s = true) (hlocks : meth.locks = false) (hK : gK D y aS s) (hA : ∀ q, s.heap.size ≤ q → A q) (hL : ∀ k, k < 179 → k ∈ L) (hfl : l.stackTraces = false) (hZ : gZ A s s.heap) (hL2 : ∀ k ∈ L, k < 179) (ha : ∀ k, k < 179 → ad k = ad0 k) (hrec496 : ∀ {ad : Nat → Nat} {kc ns : Nat} (ha : ∀ k, k < 179 → ad k = ad0 k) {σ9 : gS} {x22n9 : Int32} {x28n9 : Int32} (hkc : kc ≤ 4) (hns : ns ≤ 46) (H : Heap) (locs : List Loc) (ls : Array Slot), gY D y A s (L ++ [179, 180, 181]) ad σ9 H locs → lv_has ls 31 [(0, .ref (ad 0)), (1, .ref (ad 161)), (2, .ref (ad 162)), (8, .ref (ad 168)), (10, .ref (ad 170)), (12, .ref (ad 172)), (13, .ref (ad 173)), (14, .ref (ad 174)), (15, .ref (ad 175)), (16, .ref (ad 176)), (17, .ref (ad 178)), (19, .ref (ad 179)), (20, .ref (ad 180)), (21, .ref (ad 181)), (22, .int x22n9), (25, .long x25), (27, .int x27), (28, .int x28n9)] → rec496 (σ9, x22n9, x28n9) = some res → W p l e ({ frames := 9, cells := 4, slots := 46, locals := 159 } : Room) s m args below meth c H locs kc ns (MQ below (va_Qi (fun (r : Int32) (_ : Unit) => r = res.1) (fun _ => gO D A (GW L y ad0 res.2)) A) args s 4 46 A) (F0 m 496 ls [])) (hkc : kc ≤ 4) (hns : ns ≤ 46) {H : Heap} {locs : List Loc} {ls : Array Slot} (hY : gY D y A s (L ++ [179, 180, 181]) ad σ H locs) (hl : lv_has ls 31 [(0, .ref (ad 0)), (1, .ref (ad 161)), (2, .ref (ad 162)), (8, .ref (ad 168)), (10, .ref (ad 170)), (12, .ref (ad 172)), (13, .ref (ad 173)), (14, .ref (ad 174)), (15, .ref (ad 175)), (16, .ref (ad 176)), (17, .ref (ad 178)), (19, .ref (ad 179)), (20, .ref (ad 180)), (21, .ref (ad 181)), (25, .long x25), (27, .int x27), (28, .int x28)]) (h : fL_isAll_626 N rec496 σ x25 x27 x28 = some res) : W p l e ({ frames := 9, cells := 4, slots := 46, locals := 159 } : Room) s m args below meth c H locs kc ns (MQ below (va_Qi (fun (r : Int32) (_ : Unit) => r = res.1) (fun _ => gO D A (GW L y ad0 res.2)) A) args s 4 46 A) (F0 m 626 ls []) := by
  unfold fL_isAll_626 at h
  refine lv_iconst (v := 0) hx hb dL_isAll_626 (by decide) ?_
  exact wL_isAll_627 hx hb hr hml hown hg hlocks hK hA hL hfl hZ hL2 ha hrec496 (by first | omega | (simp only [g_l0]; omega)) (by first | omega | (simp only [g_l0]; omega)) hY (lv_sub hl [0, 1, 2, 3, 4, 5, 6, 7, 8, 9, 10, 11, 12, 13, 14, 15, 16] rfl) h
def fL_isAll_619 (N : Nat) (rec496 : (gS × Int32 × Int32) → Option (Int32 × gS)) (σ : gS) (x25 : Int64) (x27 : Int32) (x28 : Int32) (xs0 : Int32) (xs1 : Int32) : Option (Int32 × gS) := if xs1 = xs0 then (fL_isAll_627 N rec496 σ x25 x27 x28 1) else (fL_isAll_626 N rec496 σ x25 x27 x28)
set_option maxRecDepth 100000 in
set_option maxHeartbeats 4000000 in
theorem wL_isAll_619 {rec496 : (gS × Int32 × Int32) → Option (Int32 × gS)} {σ : gS} {x25 : Int64} {x27 : Int32} {x28 : Int32} {xs0 : Int32} {xs1 : Int32} {ad : Nat → Nat} {kc ns : Nat} (hx : p.tables.exec = Jvm.exec) (hb : c.code = cL_isAll) (hr : meth.sig.returnType = (some .boolean)) (hml : c.maxLocals = 31) (hown : s.vm.findClass RL = some m.cls) (hg : ∀ w ∈ wsL_law, w.before args s = true) (hlocks : meth.locks = false) (hK : gK D y aS s) (hA : ∀ q, s.heap.size ≤ q → A q) (hL : ∀ k, k < 179 → k ∈ L) (hfl : l.stackTraces = false) (hZ : gZ A s s.heap) (hL2 : ∀ k ∈ L, k < 179) (ha : ∀ k, k < 179 → ad k = ad0 k) (hrec496 : ∀ {ad : Nat → Nat} {kc ns : Nat} (ha : ∀ k, k < 179 → ad k = ad0 k) {σ9 : gS} {x22n9 : Int32} {x28n9 : Int32} (hkc : kc ≤ 4) (hns : ns ≤ 46) (H : Heap) (locs : List Loc) (ls : Array Slot), gY D y A s (L ++ [179, 180, 181]) ad σ9 H locs → lv_has ls 31 [(0, .ref (ad 0)), (1, .ref (ad 161)), (2, .ref (ad 162)), (8, .ref (ad 168)), (10, .ref (ad 170)), (12, .ref (ad 172)), (13, .ref (ad 173)), (14, .ref (ad 174)), (15, .ref (ad 175)), (16, .ref (ad 176)), (17, .ref (ad 178)), (19, .ref (ad 179)), (20, .ref (ad 180)), (21, .ref (ad 181)), (22, .int x22n9), (25, .long x25), (27, .int x27), (28, .int x28n9)] → rec496 (σ9, x22n9, x28n9) = some res → W p l e ({ frames := 9, cells := 4, slots := 46, locals := 159 } : Room) s m args below meth c H locs kc ns (MQ below (va_Qi (fun (r : Int32) (_ : Unit) => r = res.1) (fun _ => gO D A (GW L y ad0 res.2)) A) args s 4 46 A) (F0 m 496 ls [])) (hkc : kc ≤ 4) (hns : ns ≤ 46) {H : Heap} {locs : List Loc} {ls : Array Slot} (hY : gY D y A s (L ++ [179, 180, 181]) ad σ H locs) (hl : lv_has ls 31 [(0, .ref (ad 0)), (1, .ref (ad 161)), (2, .ref (ad 162)), (8, .ref (ad 168)), (10, .ref (ad 170)), (12, .ref (ad 172)), (13, .ref (ad 173)), (14, .ref (ad 174)), (15, .ref (ad 175)), (16, .ref (ad 176)), (17, .ref (ad 178)), (19, .ref (ad 179)), (20, .ref (ad 180)), (21, .ref (ad 181)), (25, .long x25), (27, .int x27), (28, .int x28)]) (h : fL_isAll_619 N rec496 σ x25 x27 x28 xs0 xs1 = some res) : W p l e ({ frames := 9, cells := 4, slots := 46, locals := 159 } : Room) s m args below meth c H locs kc ns (MQ below (va_Qi (fun (r : Int32) (_ : Unit) => r = res.1) (fun _ => gO D A (GW L y ad0 res.2)) A) args s 4 46 A) (F0 m 619 ls [.int xs0, .int xs1]) := by
  unfold fL_isAll_619 at h
  refine lv_icmp_ne (tgt := 626) hx hb dL_isAll_619 (by decide) (fun z_1 => ?_) (fun z_1 => ?_)
  ·
    rw [if_neg z_1] at h
    exact wL_isAll_626 hx hb hr hml hown hg hlocks hK hA hL hfl hZ hL2 ha hrec496 (by first | omega | (simp only [g_l0]; omega)) (by first | omega | (simp only [g_l0]; omega)) hY (lv_sub hl [0, 1, 2, 3, 4, 5, 6, 7, 8, 9, 10, 11, 12, 13, 14, 15, 16] rfl) h
  ·
    rw [if_pos z_1] at h
    refine lv_iconst (v := 1) hx hb dL_isAll_622 (by decide) ?_
    refine lv_goto (tgt := 627) hx hb dL_isAll_623 (by decide) ?_
    exact wL_isAll_627 hx hb hr hml hown hg hlocks hK hA hL hfl hZ hL2 ha hrec496 (by first | omega | (simp only [g_l0]; omega)) (by first | omega | (simp only [g_l0]; omega)) hY (lv_sub hl [0, 1, 2, 3, 4, 5, 6, 7, 8, 9, 10, 11, 12, 13, 14, 15, 16] rfl) h
def fL_isAll_554 (N : Nat) (rec496 : (gS × Int32 × Int32) → Option (Int32 × gS)) (rec515 : (gS × Int32 × Int32) → Option (Int32 × gS)) (σ : gS) (x25 : Int64) (x27 : Int32) (x28 : Int32) (x30 : Int32) (xs0 : Int32) (xs1 : Int32) : Option (Int32 × gS) := rec515 (σ, (xs1 + xs0), (x30 + 1))
set_option maxRecDepth 100000 in
set_option maxHeartbeats 4000000 in
theorem wL_isAll_554 {rec496 : (gS × Int32 × Int32) → Option (Int32 × gS)} {rec515 : (gS × Int32 × Int32) → Option (Int32 × gS)} {σ : gS} {x25 : Int64} {x27 : Int32} {x28 : Int32} {x30 : Int32} {xs0 : Int32} {xs1 : Int32} {ad : Nat → Nat} {kc ns : Nat} (hx : p.tables.exec = Jvm.exec) (hb : c.code = cL_isAll) (hr : meth.sig.returnType = (some .boolean)) (hml : c.maxLocals = 31) (hown : s.vm.findClass RL = some m.cls) (hg : ∀ w ∈ wsL_law, w.before args s = true) (hlocks : meth.locks = false) (hK : gK D y aS s) (hA : ∀ q, s.heap.size ≤ q → A q) (hL : ∀ k, k < 179 → k ∈ L) (hfl : l.stackTraces = false) (hZ : gZ A s s.heap) (hL2 : ∀ k ∈ L, k < 179) (ha : ∀ k, k < 179 → ad k = ad0 k) (hrec496 : ∀ {ad : Nat → Nat} {kc ns : Nat} (ha : ∀ k, k < 179 → ad k = ad0 k) {σ9 : gS} {x22n9 : Int32} {x28n9 : Int32} (hkc : kc ≤ 4) (hns : ns ≤ 46) (H : Heap) (locs : List Loc) (ls : Array Slot), gY D y A s (L ++ [179, 180, 181]) ad σ9 H locs → lv_has ls 31 [(0, .ref (ad 0)), (1, .ref (ad 161)), (2, .ref (ad 162)), (8, .ref (ad 168)), (10, .ref (ad 170)), (12, .ref (ad 172)), (13, .ref (ad 173)), (14, .ref (ad 174)), (15, .ref (ad 175)), (16, .ref (ad 176)), (17, .ref (ad 178)), (19, .ref (ad 179)), (20, .ref (ad 180)), (21, .ref (ad 181)), (22, .int x22n9), (25, .long x25), (27, .int x27), (28, .int x28n9)] → rec496 (σ9, x22n9, x28n9) = some res → W p l e ({ frames := 9, cells := 4, slots := 46, locals := 159 } : Room) s m args below meth c H locs kc ns (MQ below (va_Qi (fun (r : Int32) (_ : Unit) => r = res.1) (fun _ => gO D A (GW L y ad0 res.2)) A) args s 4 46 A) (F0 m 496 ls [])) (hrec515 : ∀ {ad : Nat → Nat} {kc ns : Nat} (ha : ∀ k, k < 179 → ad k = ad0 k) {σ9 : gS} {x29n9 : Int32} {x30n9 : Int32} (hkc : kc ≤ 4) (hns : ns ≤ 46) (H : Heap) (locs : List Loc) (ls : Array Slot), gY D y A s (L ++ [179, 180, 181]) ad σ9 H locs → lv_has ls 31 [(0, .ref (ad 0)), (1, .ref (ad 161)), (2, .ref (ad 162)), (8, .ref (ad 168)), (10, .ref (ad 170)), (12, .ref (ad 172)), (13, .ref (ad 173)), (14, .ref (ad 174)), (15, .ref (ad 175)), (16, .ref (ad 176)), (17, .ref (ad 178)), (19, .ref (ad 179)), (20, .ref (ad 180)), (21, .ref (ad 181)), (25, .long x25), (27, .int x27), (28, .int x28), (29, .int x29n9), (30, .int x30n9)] → rec515 (σ9, x29n9, x30n9) = some res → W p l e ({ frames := 9, cells := 4, slots := 46, locals := 159 } : Room) s m args below meth c H locs kc ns (MQ below (va_Qi (fun (r : Int32) (_ : Unit) => r = res.1) (fun _ => gO D A (GW L y ad0 res.2)) A) args s 4 46 A) (F0 m 515 ls [])) (hkc : kc ≤ 4) (hns : ns ≤ 46) {H : Heap} {locs : List Loc} {ls : Array Slot} (hY : gY D y A s (L ++ [179, 180, 181]) ad σ H locs) (hl : lv_has ls 31 [(0, .ref (ad 0)), (1, .ref (ad 161)), (2, .ref (ad 162)), (8, .ref (ad 168)), (10, .ref (ad 170)), (12, .ref (ad 172)), (13, .ref (ad 173)), (14, .ref (ad 174)), (15, .ref (ad 175)), (16, .ref (ad 176)), (17, .ref (ad 178)), (19, .ref (ad 179)), (20, .ref (ad 180)), (21, .ref (ad 181)), (25, .long x25), (27, .int x27), (28, .int x28), (30, .int x30)]) (h : fL_isAll_554 N rec496 rec515 σ x25 x27 x28 x30 xs0 xs1 = some res) : W p l e ({ frames := 9, cells := 4, slots := 46, locals := 159 } : Room) s m args below meth c H locs kc ns (MQ below (va_Qi (fun (r : Int32) (_ : Unit) => r = res.1) (fun _ => gO D A (GW L y ad0 res.2)) A) args s 4 46 A) (F0 m 554 ls [.int xs0, .int xs1]) := by
  unfold fL_isAll_554 at h
  refine lv_iadd hx hb dL_isAll_554 ?_
  refine lv_istore (lv' := [(29, .int (xs1 + xs0)), (0, .ref (ad 0)), (1, .ref (ad 161)), (2, .ref (ad 162)), (8, .ref (ad 168)), (10, .ref (ad 170)), (12, .ref (ad 172)), (13, .ref (ad 173)), (14, .ref (ad 174)), (15, .ref (ad 175)), (16, .ref (ad 176)), (17, .ref (ad 178)), (19, .ref (ad 179)), (20, .ref (ad 180)), (21, .ref (ad 181)), (25, .long x25), (27, .int x27), (28, .int x28), (30, .int x30)]) hx hb dL_isAll_555 hl (by decide) rfl ?_
  clear hl
  intro ls hl
  refine lv_iinc (v := (x30 + 1)) (lv' := [(30, .int (x30 + 1)), (29, .int (xs1 + xs0)), (0, .ref (ad 0)), (1, .ref (ad 161)), (2, .ref (ad 162)), (8, .ref (ad 168)), (10, .ref (ad 170)), (12, .ref (ad 172)), (13, .ref (ad 173)), (14, .ref (ad 174)), (15, .ref (ad 175)), (16, .ref (ad 176)), (17, .ref (ad 178)), (19, .ref (ad 179)), (20, .ref (ad 180)), (21, .ref (ad 181)), (25, .long x25), (27, .int x27), (28, .int x28)]) hx hb dL_isAll_557 hl (k := 18) rfl rfl (by decide) rfl ?_
  clear hl
  intro ls hl
  refine lv_goto (tgt := 515) hx hb dL_isAll_560 (by decide) ?_
  exact hrec515 ha (by first | omega | (simp only [g_l0]; omega)) (by first | omega | (simp only [g_l0]; omega)) _ _ _ hY (lv_sub hl [2, 3, 4, 5, 6, 7, 8, 9, 10, 11, 12, 13, 14, 15, 16, 17, 18, 1, 0] rfl) h
def fL_isAll_515 (N : Nat) (rec496 : (gS × Int32 × Int32) → Option (Int32 × gS)) (x25 : Int64) (x27 : Int32) (x28 : Int32) (rec515 : (gS × Int32 × Int32) → Option (Int32 × gS)) (xx : gS × Int32 × Int32) : Option (Int32 × gS) := match xx with
  | (σ, x29, x30) => if (σ.1 161 4) ≤ x30 then ((fX11_runs N σ x28).bind fun r_2 => if r_2 = x29 then ((fX11_flaked N σ x28).bind fun r_5 => if ((12 * x28) + 5) < 0 ∨ 48 ≤ ((12 * x28) + 5).toNatClampNeg then none else (if r_5 = (σ.1 172 (((12 * x28) + 5).toNatClampNeg)) then ((fX11_isQuarantined N σ x28).bind fun r_9 => if ((12 * x28) + 6) < 0 ∨ 48 ≤ ((12 * x28) + 6).toNatClampNeg then none else (if (σ.1 172 (((12 * x28) + 6).toNatClampNeg)) = 1 then (fL_isAll_619 N rec496 σ x25 x27 x28 1 r_9) else (fL_isAll_619 N rec496 σ x25 x27 x28 0 r_9))) else (fL_isAll_626 N rec496 σ x25 x27 x28))) else (fL_isAll_626 N rec496 σ x25 x27 x28)) else (if x30 < 0 ∨ 64 ≤ x30.toNatClampNeg then none else (if (lg_cmp (((σ.2.1 174 x30.toNatClampNeg) >>> ((50 : Int32).toInt64 &&& 63))) (x28.toInt64)) = 0 then (if x30 < 0 ∨ 64 ≤ x30.toNatClampNeg then none else (fL_isAll_554 N rec496 rec515 σ x25 x27 x28 x30 (((σ.1 175 x30.toNatClampNeg) / 4) - ((σ.1 175 x30.toNatClampNeg) / 4) / 16 * 16) x29)) else (fL_isAll_554 N rec496 rec515 σ x25 x27 x28 x30 0 x29)))
set_option maxRecDepth 100000 in
set_option maxHeartbeats 4000000 in
theorem wL_isAll_515 {rec496 : (gS × Int32 × Int32) → Option (Int32 × gS)} {x25 : Int64} {x27 : Int32} {x28 : Int32} (hx : p.tables.exec = Jvm.exec) (hb : c.code = cL_isAll) (hr : meth.sig.returnType = (some .boolean)) (hml : c.maxLocals = 31) (hown : s.vm.findClass RL = some m.cls) (hg : ∀ w ∈ wsL_law, w.before args s = true) (hlocks : meth.locks = false) (hK : gK D y aS s) (hA : ∀ q, s.heap.size ≤ q → A q) (hL : ∀ k, k < 179 → k ∈ L) (hfl : l.stackTraces = false) (hZ : gZ A s s.heap) (hL2 : ∀ k ∈ L, k < 179) (hrec496 : ∀ {ad : Nat → Nat} {kc ns : Nat} (ha : ∀ k, k < 179 → ad k = ad0 k) {σ9 : gS} {x22n9 : Int32} {x28n9 : Int32} (hkc : kc ≤ 4) (hns : ns ≤ 46) (H : Heap) (locs : List Loc) (ls : Array Slot), gY D y A s (L ++ [179, 180, 181]) ad σ9 H locs → lv_has ls 31 [(0, .ref (ad 0)), (1, .ref (ad 161)), (2, .ref (ad 162)), (8, .ref (ad 168)), (10, .ref (ad 170)), (12, .ref (ad 172)), (13, .ref (ad 173)), (14, .ref (ad 174)), (15, .ref (ad 175)), (16, .ref (ad 176)), (17, .ref (ad 178)), (19, .ref (ad 179)), (20, .ref (ad 180)), (21, .ref (ad 181)), (22, .int x22n9), (25, .long x25), (27, .int x27), (28, .int x28n9)] → rec496 (σ9, x22n9, x28n9) = some res → W p l e ({ frames := 9, cells := 4, slots := 46, locals := 159 } : Room) s m args below meth c H locs kc ns (MQ below (va_Qi (fun (r : Int32) (_ : Unit) => r = res.1) (fun _ => gO D A (GW L y ad0 res.2)) A) args s 4 46 A) (F0 m 496 ls [])) : ∀ (n : Nat) {ad : Nat → Nat} {kc ns : Nat} (ha : ∀ k, k < 179 → ad k = ad0 k) {σ : gS} {x29 : Int32} {x30 : Int32} (hkc : kc ≤ 4) (hns : ns ≤ 46) (H : Heap) (locs : List Loc) (ls : Array Slot), gY D y A s (L ++ [179, 180, 181]) ad σ H locs → lv_has ls 31 [(0, .ref (ad 0)), (1, .ref (ad 161)), (2, .ref (ad 162)), (8, .ref (ad 168)), (10, .ref (ad 170)), (12, .ref (ad 172)), (13, .ref (ad 173)), (14, .ref (ad 174)), (15, .ref (ad 175)), (16, .ref (ad 176)), (17, .ref (ad 178)), (19, .ref (ad 179)), (20, .ref (ad 180)), (21, .ref (ad 181)), (25, .long x25), (27, .int x27), (28, .int x28), (29, .int x29), (30, .int x30)] → lp (fL_isAll_515 N rec496 x25 x27 x28) n (σ, x29, x30) = some res → W p l e ({ frames := 9, cells := 4, slots := 46, locals := 159 } : Room) s m args below meth c H locs kc ns (MQ below (va_Qi (fun (r : Int32) (_ : Unit) => r = res.1) (fun _ => gO D A (GW L y ad0 res.2)) A) args s 4 46 A) (F0 m 515 ls []) := by
  intro n
  induction n with
  | zero => intro ad kc ns ha σ x29 x30 hkc hns H locs ls hY hl h; exact nomatch (show none = some res from h)
  | succ n hrec515 =>
    intro ad kc ns ha σ x29 x30 hkc hns H locs ls hY hl h
    replace h : fL_isAll_515 N rec496 x25 x27 x28 (lp (fL_isAll_515 N rec496 x25 x27 x28) n) (σ, x29, x30) = some res := h
    generalize lp (fL_isAll_515 N rec496 x25 x27 x28) n = rec515 at h hrec515
    unfold fL_isAll_515 at h
    try dsimp only at h
    refine lv_iload hx hb dL_isAll_515 (lv_at hl 18 rfl) ?_
    refine lv_aload_n hx hb dL_isAll_517 rfl (lv_at hl 1 rfl) ?_
    refine lv_iconst (v := 4) hx hb dL_isAll_518 (by decide) ?_
    refine G_iald (j := 4) hx hb hK hY (List.mem_append_left _ (hL 161 (by decide))) gk_161 (by rw [gl_161]; decide +kernel) (by decide +kernel) dL_isAll_519 ?_
    refine lv_icmp_ge (tgt := 563) hx hb dL_isAll_520 (by decide) (fun z_1 => ?_) (fun z_1 => ?_)
    ·
      rw [if_pos z_1] at h
      refine lv_aload_n hx hb dL_isAll_563 rfl (lv_at hl 0 rfl) ?_
      refine lv_iload hx hb dL_isAll_564 (lv_at hl 16 rfl) ?_
      obtain ⟨r_2, e_3, h⟩ := g_bind h
      refine G_ai hY hA (va_runV (As := [.int x28]) (rest := []) ⟨hx, hb, hml, hown, hg⟩ (kX11_runs l D y aS H.size (L ++ [179, 180, 181]) (fun k hk => List.mem_append_left _ (hL k hk)) ad N σ x28 _ e_3) (cwV 1 hg ggV_RL_179_X11_runs rfl rfl rfl (by decide +kernel) ⟨Nat.le_of_ble_eq_true rfl, Nat.le_of_ble_eq_true rfl⟩) (G_pV (q := (RX11, TX11, 19)) hK hY (List.mem_append_left _ (hL 0 (by decide))) gk_0 (by decide) rfl) rfl rfl hl.1 rfl (lv_room (Nat.le_of_ble_eq_true rfl)) dL_isAll_566 ⟨(by dsimp only; omega), (by dsimp only; omega)⟩) ?_
      clear hY
      rintro _ H locs rfl hY
      refine lv_iload hx hb dL_isAll_569 (lv_at hl 17 rfl) ?_
      refine lv_icmp_ne (tgt := 626) hx hb dL_isAll_571 (by decide) (fun z_4 => ?_) (fun z_4 => ?_)
      ·
        rw [if_neg z_4] at h
        exact wL_isAll_626 hx hb hr hml hown hg hlocks hK hA hL hfl hZ hL2 ha hrec496 (by first | omega | (simp only [g_l0]; omega)) (by first | omega | (simp only [g_l0]; omega)) hY (lv_sub hl [0, 1, 2, 3, 4, 5, 6, 7, 8, 9, 10, 11, 12, 13, 14, 15, 16] rfl) h
      ·
        rw [if_pos z_4] at h
        refine lv_aload_n hx hb dL_isAll_574 rfl (lv_at hl 0 rfl) ?_
        refine lv_iload hx hb dL_isAll_575 (lv_at hl 16 rfl) ?_
        obtain ⟨r_5, e_6, h⟩ := g_bind h
        refine G_ai hY hA (va_runV (As := [.int x28]) (rest := []) ⟨hx, hb, hml, hown, hg⟩ (kX11_flaked l D y aS H.size (L ++ [179, 180, 181]) (fun k hk => List.mem_append_left _ (hL k hk)) ad N σ x28 _ e_6) (cwV 1 hg ggV_RL_182_X11_flaked rfl rfl rfl (by decide +kernel) ⟨Nat.le_of_ble_eq_true rfl, Nat.le_of_ble_eq_true rfl⟩) (G_pV (q := (RX11, TX11, 19)) hK hY (List.mem_append_left _ (hL 0 (by decide))) gk_0 (by decide) rfl) rfl rfl hl.1 rfl (lv_room (Nat.le_of_ble_eq_true rfl)) dL_isAll_577 ⟨(by dsimp only; omega), (by dsimp only; omega)⟩) ?_
        clear hY
        rintro _ H locs rfl hY
        refine lv_aload hx hb dL_isAll_580 (lv_at hl 5 rfl) ?_
        refine lv_bipush (v := 12) hx hb dL_isAll_582 (by decide +kernel) ?_
        refine lv_iload hx hb dL_isAll_584 (lv_at hl 16 rfl) ?_
        refine lv_imul hx hb dL_isAll_586 ?_
        refine lv_iconst (v := 5) hx hb dL_isAll_587 (by decide) ?_
        refine lv_iadd hx hb dL_isAll_588 ?_
        obtain ⟨z_7, h⟩ := g_guard h
        refine G_iald (j := ((12 * x28) + 5).toNatClampNeg) hx hb hK hY (List.mem_append_left _ (hL 172 (by decide))) gk_172 (by rw [gl_172]; exact z_7) rfl dL_isAll_589 ?_
        refine lv_icmp_ne (tgt := 626) hx hb dL_isAll_590 (by decide) (fun z_8 => ?_) (fun z_8 => ?_)
        ·
          rw [if_neg z_8] at h
          exact wL_isAll_626 hx hb hr hml hown hg hlocks hK hA hL hfl hZ hL2 ha hrec496 (by first | omega | (simp only [g_l0]; omega)) (by first | omega | (simp only [g_l0]; omega)) hY (lv_sub hl [0, 1, 2, 3, 4, 5, 6, 7, 8, 9, 10, 11, 12, 13, 14, 15, 16] rfl) h
        ·
          rw [if_pos z_8] at h
          refine lv_aload_n hx hb dL_isAll_593 rfl (lv_at hl 0 rfl) ?_
          refine lv_iload hx hb dL_isAll_594 (lv_at hl 16 rfl) ?_
          obtain ⟨r_9, e_10, h⟩ := g_bind h
          refine G_ai hY hA (va_runV (As := [.int x28]) (rest := []) ⟨hx, hb, hml, hown, hg⟩ (kX11_isQuarantined l D y aS H.size (L ++ [179, 180, 181]) (fun k hk => List.mem_append_left _ (hL k hk)) ad N σ x28 _ e_10) (cwV 1 hg ggV_RL_185_X11_isQuarantined rfl rfl rfl (by decide +kernel) ⟨Nat.le_of_ble_eq_true rfl, Nat.le_of_ble_eq_true rfl⟩) (G_pV (q := (RX11, TX11, 19)) hK hY (List.mem_append_left _ (hL 0 (by decide))) gk_0 (by decide) rfl) rfl rfl hl.1 rfl (lv_room (Nat.le_of_ble_eq_true rfl)) dL_isAll_596 ⟨(by dsimp only; omega), (by dsimp only; omega)⟩) ?_
          clear hY
          rintro _ H locs rfl hY
          refine lv_aload hx hb dL_isAll_599 (lv_at hl 5 rfl) ?_
          refine lv_bipush (v := 12) hx hb dL_isAll_601 (by decide +kernel) ?_
          refine lv_iload hx hb dL_isAll_603 (lv_at hl 16 rfl) ?_
          refine lv_imul hx hb dL_isAll_605 ?_
          refine lv_bipush (v := 6) hx hb dL_isAll_606 (by decide +kernel) ?_
          refine lv_iadd hx hb dL_isAll_608 ?_
          obtain ⟨z_11, h⟩ := g_guard h
          refine G_iald (j := ((12 * x28) + 6).toNatClampNeg) hx hb hK hY (List.mem_append_left _ (hL 172 (by decide))) gk_172 (by rw [gl_172]; exact z_11) rfl dL_isAll_609 ?_
          refine lv_iconst (v := 1) hx hb dL_isAll_610 (by decide) ?_
          refine lv_icmp_ne (tgt := 618) hx hb dL_isAll_611 (by decide) (fun z_12 => ?_) (fun z_12 => ?_)
          ·
            rw [if_neg z_12] at h
            refine lv_iconst (v := 0) hx hb dL_isAll_618 (by decide) ?_
            exact wL_isAll_619 hx hb hr hml hown hg hlocks hK hA hL hfl hZ hL2 ha hrec496 (by first | omega | (simp only [g_l0]; omega)) (by first | omega | (simp only [g_l0]; omega)) hY (lv_sub hl [0, 1, 2, 3, 4, 5, 6, 7, 8, 9, 10, 11, 12, 13, 14, 15, 16] rfl) h
          ·
            rw [if_pos z_12] at h
            refine lv_iconst (v := 1) hx hb dL_isAll_614 (by decide) ?_
            refine lv_goto (tgt := 619) hx hb dL_isAll_615 (by decide) ?_
            exact wL_isAll_619 hx hb hr hml hown hg hlocks hK hA hL hfl hZ hL2 ha hrec496 (by first | omega | (simp only [g_l0]; omega)) (by first | omega | (simp only [g_l0]; omega)) hY (lv_sub hl [0, 1, 2, 3, 4, 5, 6, 7, 8, 9, 10, 11, 12, 13, 14, 15, 16] rfl) h
    ·
      rw [if_neg z_1] at h
      refine lv_iload hx hb dL_isAll_523 (lv_at hl 17 rfl) ?_
      refine lv_aload hx hb dL_isAll_525 (lv_at hl 7 rfl) ?_
      refine lv_iload hx hb dL_isAll_527 (lv_at hl 18 rfl) ?_
      obtain ⟨z_13, h⟩ := g_guard h
      refine G_lald (j := x30.toNatClampNeg) hx hb hK hY (List.mem_append_left _ (hL 174 (by decide))) gk_174 (by rw [gl_174]; exact z_13) rfl dL_isAll_529 ?_
      refine lv_bipush (v := 50) hx hb dL_isAll_530 (by decide +kernel) ?_
      refine lv_lshr (v := (((σ.2.1 174 x30.toNatClampNeg) >>> ((50 : Int32).toInt64 &&& 63)))) hx hb dL_isAll_532 rfl ?_
      refine lv_iload hx hb dL_isAll_533 (lv_at hl 16 rfl) ?_
      refine lv_i2l (v := (x28.toInt64)) hx hb dL_isAll_535 rfl ?_
      refine W.lcmp hx hb dL_isAll_536 ?_
      refine lv_if_ne (tgt := 553) hx hb dL_isAll_537 (by decide) (fun z_14 => ?_) (fun z_14 => ?_)
      ·
        rw [if_neg z_14] at h
        refine lv_iconst (v := 0) hx hb dL_isAll_553 (by decide) ?_
        exact wL_isAll_554 hx hb hr hml hown hg hlocks hK hA hL hfl hZ hL2 ha hrec496 hrec515 (by first | omega | (simp only [g_l0]; omega)) (by first | omega | (simp only [g_l0]; omega)) hY (lv_sub hl [0, 1, 2, 3, 4, 5, 6, 7, 8, 9, 10, 11, 12, 13, 14, 15, 16, 18] rfl) h
      ·
        rw [if_pos z_14] at h
        refine lv_aload hx hb dL_isAll_540 (lv_at hl 8 rfl) ?_
        refine lv_iload hx hb dL_isAll_542 (lv_at hl 18 rfl) ?_
        obtain ⟨z_15, h⟩ := g_guard h
        refine G_iald (j := x30.toNatClampNeg) hx hb hK hY (List.mem_append_left _ (hL 175 (by decide))) gk_175 (by rw [gl_175]; exact z_15) rfl dL_isAll_544 ?_
        refine lv_iconst (v := 4) hx hb dL_isAll_545 (by decide) ?_
        refine lv_idiv hx hb dL_isAll_546 (by decide +kernel) ?_
        refine lv_bipush (v := 16) hx hb dL_isAll_547 (by decide +kernel) ?_
        refine lv_irem hx hb dL_isAll_549 (by decide +kernel) ?_
        refine lv_goto (tgt := 554) hx hb dL_isAll_550 (by decide) ?_
        exact wL_isAll_554 hx hb hr hml hown hg hlocks hK hA hL hfl hZ hL2 ha hrec496 hrec515 (by first | omega | (simp only [g_l0]; omega)) (by first | omega | (simp only [g_l0]; omega)) hY (lv_sub hl [0, 1, 2, 3, 4, 5, 6, 7, 8, 9, 10, 11, 12, 13, 14, 15, 16, 18] rfl) h
def fL_isAll_496 (N : Nat) (x25 : Int64) (x27 : Int32) (rec496 : (gS × Int32 × Int32) → Option (Int32 × gS)) (xx : gS × Int32 × Int32) : Option (Int32 × gS) := match xx with
  | (σ, x22, x28) => if (σ.1 161 2) ≤ x28 then (fL_isAll_635 N σ x22 x25 x27) else (if x22 = 0 then (fL_isAll_635 N σ x22 x25 x27) else (lp (fL_isAll_515 N rec496 x25 x27 x28) N (σ, 0, 0)))
set_option maxRecDepth 100000 in
set_option maxHeartbeats 4000000 in
theorem wL_isAll_496 {x25 : Int64} {x27 : Int32} (hx : p.tables.exec = Jvm.exec) (hb : c.code = cL_isAll) (hr : meth.sig.returnType = (some .boolean)) (hml : c.maxLocals = 31) (hown : s.vm.findClass RL = some m.cls) (hg : ∀ w ∈ wsL_law, w.before args s = true) (hlocks : meth.locks = false) (hK : gK D y aS s) (hA : ∀ q, s.heap.size ≤ q → A q) (hL : ∀ k, k < 179 → k ∈ L) (hfl : l.stackTraces = false) (hZ : gZ A s s.heap) (hL2 : ∀ k ∈ L, k < 179) : ∀ (n : Nat) {ad : Nat → Nat} {kc ns : Nat} (ha : ∀ k, k < 179 → ad k = ad0 k) {σ : gS} {x22 : Int32} {x28 : Int32} (hkc : kc ≤ 4) (hns : ns ≤ 46) (H : Heap) (locs : List Loc) (ls : Array Slot), gY D y A s (L ++ [179, 180, 181]) ad σ H locs → lv_has ls 31 [(0, .ref (ad 0)), (1, .ref (ad 161)), (2, .ref (ad 162)), (8, .ref (ad 168)), (10, .ref (ad 170)), (12, .ref (ad 172)), (13, .ref (ad 173)), (14, .ref (ad 174)), (15, .ref (ad 175)), (16, .ref (ad 176)), (17, .ref (ad 178)), (19, .ref (ad 179)), (20, .ref (ad 180)), (21, .ref (ad 181)), (22, .int x22), (25, .long x25), (27, .int x27), (28, .int x28)] → lp (fL_isAll_496 N x25 x27) n (σ, x22, x28) = some res → W p l e ({ frames := 9, cells := 4, slots := 46, locals := 159 } : Room) s m args below meth c H locs kc ns (MQ below (va_Qi (fun (r : Int32) (_ : Unit) => r = res.1) (fun _ => gO D A (GW L y ad0 res.2)) A) args s 4 46 A) (F0 m 496 ls []) := by
  intro n
  induction n with
  | zero => intro ad kc ns ha σ x22 x28 hkc hns H locs ls hY hl h; exact nomatch (show none = some res from h)
  | succ n hrec496 =>
    intro ad kc ns ha σ x22 x28 hkc hns H locs ls hY hl h
    replace h : fL_isAll_496 N x25 x27 (lp (fL_isAll_496 N x25 x27) n) (σ, x22, x28) = some res := h
    generalize lp (fL_isAll_496 N x25 x27) n = rec496 at h hrec496
    unfold fL_isAll_496 at h
    try dsimp only at h
    refine lv_iload hx hb dL_isAll_496 (lv_at hl 17 rfl) ?_
    refine lv_aload_n hx hb dL_isAll_498 rfl (lv_at hl 1 rfl) ?_
    refine lv_iconst (v := 2) hx hb dL_isAll_499 (by decide) ?_
    refine G_iald (j := 2) hx hb hK hY (List.mem_append_left _ (hL 161 (by decide))) gk_161 (by rw [gl_161]; decide +kernel) (by decide +kernel) dL_isAll_500 ?_
    refine lv_icmp_ge (tgt := 635) hx hb dL_isAll_501 (by decide) (fun z_1 => ?_) (fun z_1 => ?_)
    ·
      rw [if_pos z_1] at h
      exact wL_isAll_635 hx hb hr hml hown hg hlocks hK hA hL hfl hZ hL2 ha (by first | omega | (simp only [g_l0]; omega)) (by first | omega | (simp only [g_l0]; omega)) hY (lv_sub hl [0, 1, 2, 3, 4, 5, 6, 7, 8, 9, 10, 11, 12, 13, 14, 15, 16] rfl) h
    ·
      rw [if_neg z_1] at h
      refine lv_iload hx hb dL_isAll_504 (lv_at hl 14 rfl) ?_
      refine lv_if_eq (tgt := 635) hx hb dL_isAll_506 (by decide) (fun z_2 => ?_) (fun z_2 => ?_)
      ·
        rw [if_pos z_2] at h
        exact wL_isAll_635 hx hb hr hml hown hg hlocks hK hA hL hfl hZ hL2 ha (by first | omega | (simp only [g_l0]; omega)) (by first | omega | (simp only [g_l0]; omega)) hY (lv_sub hl [0, 1, 2, 3, 4, 5, 6, 7, 8, 9, 10, 11, 12, 13, 14, 15, 16] rfl) h
      ·
        rw [if_neg z_2] at h
        refine lv_iconst (v := 0) hx hb dL_isAll_509 (by decide) ?_
        refine lv_istore (lv' := [(29, .int 0), (0, .ref (ad 0)), (1, .ref (ad 161)), (2, .ref (ad 162)), (8, .ref (ad 168)), (10, .ref (ad 170)), (12, .ref (ad 172)), (13, .ref (ad 173)), (14, .ref (ad 174)), (15, .ref (ad 175)), (16, .ref (ad 176)), (17, .ref (ad 178)), (19, .ref (ad 179)), (20, .ref (ad 180)), (21, .ref (ad 181)), (22, .int x22), (25, .long x25), (27, .int x27), (28, .int x28)]) hx hb dL_isAll_510 hl (by decide) rfl ?_
        clear hl
        intro ls hl
        refine lv_iconst (v := 0) hx hb dL_isAll_512 (by decide) ?_
        refine lv_istore (lv' := [(30, .int 0), (29, .int 0), (0, .ref (ad 0)), (1, .ref (ad 161)), (2, .ref (ad 162)), (8, .ref (ad 168)), (10, .ref (ad 170)), (12, .ref (ad 172)), (13, .ref (ad 173)), (14, .ref (ad 174)), (15, .ref (ad 175)), (16, .ref (ad 176)), (17, .ref (ad 178)), (19, .ref (ad 179)), (20, .ref (ad 180)), (21, .ref (ad 181)), (22, .int x22), (25, .long x25), (27, .int x27), (28, .int x28)]) hx hb dL_isAll_513 hl (by decide) rfl ?_
        clear hl
        intro ls hl
        exact wL_isAll_515 hx hb hr hml hown hg hlocks hK hA hL hfl hZ hL2 hrec496 N ha (by first | omega | (simp only [g_l0]; omega)) (by first | omega | (simp only [g_l0]; omega)) _ _ _ hY (lv_sub hl [2, 3, 4, 5, 6, 7, 8, 9, 10, 11, 12, 13, 14, 15, 17, 18, 19, 1, 0] rfl) h
def fL_isAll_493 (N : Nat) (σ : gS) (x22 : Int32) (x25 : Int64) (x27 : Int32) : Option (Int32 × gS) := lp (fL_isAll_496 N x25 x27) N (σ, x22, 0)
set_option maxRecDepth 100000 in
set_option maxHeartbeats 4000000 in
theorem wL_isAll_493 {σ : gS} {x22 : Int32} {x25 : Int64} {x27 : Int32} {ad : Nat → Nat} {kc ns : Nat} (hx : p.tables.exec = Jvm.exec) (hb : c.code = cL_isAll) (hr : meth.sig.returnType = (some .boolean)) (hml : c.maxLocals = 31) (hown : s.vm.findClass RL = some m.cls) (hg : ∀ w ∈ wsL_law, w.before args s = true) (hlocks : meth.locks = false) (hK : gK D y aS s) (hA : ∀ q, s.heap.size ≤ q → A q) (hL : ∀ k, k < 179 → k ∈ L) (hfl : l.stackTraces = false) (hZ : gZ A s s.heap) (hL2 : ∀ k ∈ L, k < 179) (ha : ∀ k, k < 179 → ad k = ad0 k) (hkc : kc ≤ 4) (hns : ns ≤ 46) {H : Heap} {locs : List Loc} {ls : Array Slot} (hY : gY D y A s (L ++ [179, 180, 181]) ad σ H locs) (hl : lv_has ls 31 [(0, .ref (ad 0)), (1, .ref (ad 161)), (2, .ref (ad 162)), (8, .ref (ad 168)), (10, .ref (ad 170)), (12, .ref (ad 172)), (13, .ref (ad 173)), (14, .ref (ad 174)), (15, .ref (ad 175)), (16, .ref (ad 176)), (17, .ref (ad 178)), (19, .ref (ad 179)), (20, .ref (ad 180)), (21, .ref (ad 181)), (22, .int x22), (25, .long x25), (27, .int x27)]) (h : fL_isAll_493 N σ x22 x25 x27 = some res) : W p l e ({ frames := 9, cells := 4, slots := 46, locals := 159 } : Room) s m args below meth c H locs kc ns (MQ below (va_Qi (fun (r : Int32) (_ : Unit) => r = res.1) (fun _ => gO D A (GW L y ad0 res.2)) A) args s 4 46 A) (F0 m 493 ls []) := by
  unfold fL_isAll_493 at h
  refine lv_iconst (v := 0) hx hb dL_isAll_493 (by decide) ?_
  refine lv_istore (lv' := [(28, .int 0), (0, .ref (ad 0)), (1, .ref (ad 161)), (2, .ref (ad 162)), (8, .ref (ad 168)), (10, .ref (ad 170)), (12, .ref (ad 172)), (13, .ref (ad 173)), (14, .ref (ad 174)), (15, .ref (ad 175)), (16, .ref (ad 176)), (17, .ref (ad 178)), (19, .ref (ad 179)), (20, .ref (ad 180)), (21, .ref (ad 181)), (22, .int x22), (25, .long x25), (27, .int x27)]) hx hb dL_isAll_494 hl (by decide) rfl ?_
  clear hl
  intro ls hl
  exact wL_isAll_496 hx hb hr hml hown hg hlocks hK hA hL hfl hZ hL2 N ha (by first | omega | (simp only [g_l0]; omega)) (by first | omega | (simp only [g_l0]; omega)) _ _ _ hY (lv_sub hl [1, 2, 3, 4, 5, 6, 7, 8, 9, 10, 11, 12, 13, 14, 15, 16, 17, 0] rfl) h
def fL_isAll_487 (N : Nat) (rec368 : (gS × Int32 × Int32) → Option (Int32 × gS)) (σ : gS) (x22 : Int32) (x25 : Int64) (x27 : Int32) (x28 : Int32) : Option (Int32 × gS) := rec368 (σ, x22, (x28 + 2))
set_option maxRecDepth 100000 in
set_option maxHeartbeats 4000000 in
theorem wL_isAll_487 {rec368 : (gS × Int32 × Int32) → Option (Int32 × gS)} {σ : gS} {x22 : Int32} {x25 : Int64} {x27 : Int32} {x28 : Int32} {ad : Nat → Nat} {kc ns : Nat} (hx : p.tables.exec = Jvm.exec) (hb : c.code = cL_isAll) (hr : meth.sig.returnType = (some .boolean)) (hml : c.maxLocals = 31) (hown : s.vm.findClass RL = some m.cls) (hg : ∀ w ∈ wsL_law, w.before args s = true) (hlocks : meth.locks = false) (hK : gK D y aS s) (hA : ∀ q, s.heap.size ≤ q → A q) (hL : ∀ k, k < 179 → k ∈ L) (hfl : l.stackTraces = false) (hZ : gZ A s s.heap) (hL2 : ∀ k ∈ L, k < 179) (ha : ∀ k, k < 179 → ad k = ad0 k) (hrec368 : ∀ {ad : Nat → Nat} {kc ns : Nat} (ha : ∀ k, k < 179 → ad k = ad0 k) {σ9 : gS} {x22n9 : Int32} {x28n9 : Int32} (hkc : kc ≤ 4) (hns : ns ≤ 46) (H : Heap) (locs : List Loc) (ls : Array Slot), gY D y A s (L ++ [179, 180, 181]) ad σ9 H locs → lv_has ls 31 [(0, .ref (ad 0)), (1, .ref (ad 161)), (2, .ref (ad 162)), (8, .ref (ad 168)), (10, .ref (ad 170)), (11, .ref (ad 171)), (12, .ref (ad 172)), (13, .ref (ad 173)), (14, .ref (ad 174)), (15, .ref (ad 175)), (16, .ref (ad 176)), (17, .ref (ad 178)), (19, .ref (ad 179)), (20, .ref (ad 180)), (21, .ref (ad 181)), (22, .int x22n9), (25, .long x25), (27, .int x27), (28, .int x28n9)] → rec368 (σ9, x22n9, x28n9) = some res → W p l e ({ frames := 9, cells := 4, slots := 46, locals := 159 } : Room) s m args below meth c H locs kc ns (MQ below (va_Qi (fun (r : Int32) (_ : Unit) => r = res.1) (fun _ => gO D A (GW L y ad0 res.2)) A) args s 4 46 A) (F0 m 368 ls [])) (hkc : kc ≤ 4) (hns : ns ≤ 46) {H : Heap} {locs : List Loc} {ls : Array Slot} (hY : gY D y A s (L ++ [179, 180, 181]) ad σ H locs) (hl : lv_has ls 31 [(0, .ref (ad 0)), (1, .ref (ad 161)), (2, .ref (ad 162)), (8, .ref (ad 168)), (10, .ref (ad 170)), (11, .ref (ad 171)), (12, .ref (ad 172)), (13, .ref (ad 173)), (14, .ref (ad 174)), (15, .ref (ad 175)), (16, .ref (ad 176)), (17, .ref (ad 178)), (19, .ref (ad 179)), (20, .ref (ad 180)), (21, .ref (ad 181)), (22, .int x22), (25, .long x25), (27, .int x27), (28, .int x28)]) (h : fL_isAll_487 N rec368 σ x22 x25 x27 x28 = some res) : W p l e ({ frames := 9, cells := 4, slots := 46, locals := 159 } : Room) s m args below meth c H locs kc ns (MQ below (va_Qi (fun (r : Int32) (_ : Unit) => r = res.1) (fun _ => gO D A (GW L y ad0 res.2)) A) args s 4 46 A) (F0 m 487 ls []) := by
  unfold fL_isAll_487 at h
  refine lv_iinc (v := (x28 + 2)) (lv' := [(28, .int (x28 + 2)), (0, .ref (ad 0)), (1, .ref (ad 161)), (2, .ref (ad 162)), (8, .ref (ad 168)), (10, .ref (ad 170)), (11, .ref (ad 171)), (12, .ref (ad 172)), (13, .ref (ad 173)), (14, .ref (ad 174)), (15, .ref (ad 175)), (16, .ref (ad 176)), (17, .ref (ad 178)), (19, .ref (ad 179)), (20, .ref (ad 180)), (21, .ref (ad 181)), (22, .int x22), (25, .long x25), (27, .int x27)]) hx hb dL_isAll_487 hl (k := 18) rfl rfl (by decide) rfl ?_
  clear hl
  intro ls hl
  refine lv_goto (tgt := 368) hx hb dL_isAll_490 (by decide) ?_
  exact hrec368 ha (by first | omega | (simp only [g_l0]; omega)) (by first | omega | (simp only [g_l0]; omega)) _ _ _ hY (lv_sub hl [1, 2, 3, 4, 5, 6, 7, 8, 9, 10, 11, 12, 13, 14, 15, 16, 17, 18, 0] rfl) h
def fL_isAll_479 (N : Nat) (rec368 : (gS × Int32 × Int32) → Option (Int32 × gS)) (rec433 : (gS × Int32 × Int32) → Option (Int32 × gS)) (σ : gS) (x25 : Int64) (x27 : Int32) (x28 : Int32) (x29 : Int32) (xs0 : Int32) : Option (Int32 × gS) := rec433 (σ, xs0, (x29 + 1))
set_option maxRecDepth 100000 in
set_option maxHeartbeats 4000000 in
theorem wL_isAll_479 {rec368 : (gS × Int32 × Int32) → Option (Int32 × gS)} {rec433 : (gS × Int32 × Int32) → Option (Int32 × gS)} {σ : gS} {x25 : Int64} {x27 : Int32} {x28 : Int32} {x29 : Int32} {xs0 : Int32} {ad : Nat → Nat} {kc ns : Nat} (hx : p.tables.exec = Jvm.exec) (hb : c.code = cL_isAll) (hr : meth.sig.returnType = (some .boolean)) (hml : c.maxLocals = 31) (hown : s.vm.findClass RL = some m.cls) (hg : ∀ w ∈ wsL_law, w.before args s = true) (hlocks : meth.locks = false) (hK : gK D y aS s) (hA : ∀ q, s.heap.size ≤ q → A q) (hL : ∀ k, k < 179 → k ∈ L) (hfl : l.stackTraces = false) (hZ : gZ A s s.heap) (hL2 : ∀ k ∈ L, k < 179) (ha : ∀ k, k < 179 → ad k = ad0 k) (hrec368 : ∀ {ad : Nat → Nat} {kc ns : Nat} (ha : ∀ k, k < 179 → ad k = ad0 k) {σ9 : gS} {x22n9 : Int32} {x28n9 : Int32} (hkc : kc ≤ 4) (hns : ns ≤ 46) (H : Heap) (locs : List Loc) (ls : Array Slot), gY D y A s (L ++ [179, 180, 181]) ad σ9 H locs → lv_has ls 31 [(0, .ref (ad 0)), (1, .ref (ad 161)), (2, .ref (ad 162)), (8, .ref (ad 168)), (10, .ref (ad 170)), (11, .ref (ad 171)), (12, .ref (ad 172)), (13, .ref (ad 173)), (14, .ref (ad 174)), (15, .ref (ad 175)), (16, .ref (ad 176)), (17, .ref (ad 178)), (19, .ref (ad 179)), (20, .ref (ad 180)), (21, .ref (ad 181)), (22, .int x22n9), (25, .long x25), (27, .int x27), (28, .int x28n9)] → rec368 (σ9, x22n9, x28n9) = some res → W p l e ({ frames := 9, cells := 4, slots := 46, locals := 159 } : Room) s m args below meth c H locs kc ns (MQ below (va_Qi (fun (r : Int32) (_ : Unit) => r = res.1) (fun _ => gO D A (GW L y ad0 res.2)) A) args s 4 46 A) (F0 m 368 ls [])) (hrec433 : ∀ {ad : Nat → Nat} {kc ns : Nat} (ha : ∀ k, k < 179 → ad k = ad0 k) {σ9 : gS} {x22n9 : Int32} {x29n9 : Int32} (hkc : kc ≤ 4) (hns : ns ≤ 46) (H : Heap) (locs : List Loc) (ls : Array Slot), gY D y A s (L ++ [179, 180, 181]) ad σ9 H locs → lv_has ls 31 [(0, .ref (ad 0)), (1, .ref (ad 161)), (2, .ref (ad 162)), (8, .ref (ad 168)), (10, .ref (ad 170)), (11, .ref (ad 171)), (12, .ref (ad 172)), (13, .ref (ad 173)), (14, .ref (ad 174)), (15, .ref (ad 175)), (16, .ref (ad 176)), (17, .ref (ad 178)), (19, .ref (ad 179)), (20, .ref (ad 180)), (21, .ref (ad 181)), (22, .int x22n9), (25, .long x25), (27, .int x27), (28, .int x28), (29, .int x29n9)] → rec433 (σ9, x22n9, x29n9) = some res → W p l e ({ frames := 9, cells := 4, slots := 46, locals := 159 } : Room) s m args below meth c H locs kc ns (MQ below (va_Qi (fun (r : Int32) (_ : Unit) => r = res.1) (fun _ => gO D A (GW L y ad0 res.2)) A) args s 4 46 A) (F0 m 433 ls [])) (hkc : kc ≤ 4) (hns : ns ≤ 46) {H : Heap} {locs : List Loc} {ls : Array Slot} (hY : gY D y A s (L ++ [179, 180, 181]) ad σ H locs) (hl : lv_has ls 31 [(0, .ref (ad 0)), (1, .ref (ad 161)), (2, .ref (ad 162)), (8, .ref (ad 168)), (10, .ref (ad 170)), (11, .ref (ad 171)), (12, .ref (ad 172)), (13, .ref (ad 173)), (14, .ref (ad 174)), (15, .ref (ad 175)), (16, .ref (ad 176)), (17, .ref (ad 178)), (19, .ref (ad 179)), (20, .ref (ad 180)), (21, .ref (ad 181)), (25, .long x25), (27, .int x27), (28, .int x28), (29, .int x29)]) (h : fL_isAll_479 N rec368 rec433 σ x25 x27 x28 x29 xs0 = some res) : W p l e ({ frames := 9, cells := 4, slots := 46, locals := 159 } : Room) s m args below meth c H locs kc ns (MQ below (va_Qi (fun (r : Int32) (_ : Unit) => r = res.1) (fun _ => gO D A (GW L y ad0 res.2)) A) args s 4 46 A) (F0 m 479 ls [.int xs0]) := by
  unfold fL_isAll_479 at h
  refine lv_istore (lv' := [(22, .int xs0), (0, .ref (ad 0)), (1, .ref (ad 161)), (2, .ref (ad 162)), (8, .ref (ad 168)), (10, .ref (ad 170)), (11, .ref (ad 171)), (12, .ref (ad 172)), (13, .ref (ad 173)), (14, .ref (ad 174)), (15, .ref (ad 175)), (16, .ref (ad 176)), (17, .ref (ad 178)), (19, .ref (ad 179)), (20, .ref (ad 180)), (21, .ref (ad 181)), (25, .long x25), (27, .int x27), (28, .int x28), (29, .int x29)]) hx hb dL_isAll_479 hl (by decide) rfl ?_
  clear hl
  intro ls hl
  refine lv_iinc (v := (x29 + 1)) (lv' := [(29, .int (x29 + 1)), (22, .int xs0), (0, .ref (ad 0)), (1, .ref (ad 161)), (2, .ref (ad 162)), (8, .ref (ad 168)), (10, .ref (ad 170)), (11, .ref (ad 171)), (12, .ref (ad 172)), (13, .ref (ad 173)), (14, .ref (ad 174)), (15, .ref (ad 175)), (16, .ref (ad 176)), (17, .ref (ad 178)), (19, .ref (ad 179)), (20, .ref (ad 180)), (21, .ref (ad 181)), (25, .long x25), (27, .int x27), (28, .int x28)]) hx hb dL_isAll_481 hl (k := 19) rfl rfl (by decide) rfl ?_
  clear hl
  intro ls hl
  refine lv_goto (tgt := 433) hx hb dL_isAll_484 (by decide) ?_
  exact hrec433 ha (by first | omega | (simp only [g_l0]; omega)) (by first | omega | (simp only [g_l0]; omega)) _ _ _ hY (lv_sub hl [2, 3, 4, 5, 6, 7, 8, 9, 10, 11, 12, 13, 14, 15, 16, 1, 17, 18, 19, 0] rfl) h
def fL_isAll_433 (N : Nat) (rec368 : (gS × Int32 × Int32) → Option (Int32 × gS)) (x25 : Int64) (x27 : Int32) (x28 : Int32) (rec433 : (gS × Int32 × Int32) → Option (Int32 × gS)) (xx : gS × Int32 × Int32) : Option (Int32 × gS) := match xx with
  | (σ, x22, x29) => if (σ.1 161 2) ≤ x29 then (fL_isAll_487 N rec368 σ x22 x25 x27 x28) else (if x22 = 0 then (fL_isAll_487 N rec368 σ x22 x25 x27 x28) else ((fX11_verdict N σ x29 x28).bind fun r_3 => if x28 < 0 ∨ 26 ≤ x28.toNatClampNeg then none else ((fL_verdict N σ x29 (σ.2.1 171 x28.toNatClampNeg)).bind fun r_6 => if r_3 = r_6 then (fL_isAll_479 N rec368 rec433 σ x25 x27 x28 x29 1) else (fL_isAll_479 N rec368 rec433 σ x25 x27 x28 x29 0))))
set_option maxRecDepth 100000 in
set_option maxHeartbeats 4000000 in
theorem wL_isAll_433 {rec368 : (gS × Int32 × Int32) → Option (Int32 × gS)} {x25 : Int64} {x27 : Int32} {x28 : Int32} (hx : p.tables.exec = Jvm.exec) (hb : c.code = cL_isAll) (hr : meth.sig.returnType = (some .boolean)) (hml : c.maxLocals = 31) (hown : s.vm.findClass RL = some m.cls) (hg : ∀ w ∈ wsL_law, w.before args s = true) (hlocks : meth.locks = false) (hK : gK D y aS s) (hA : ∀ q, s.heap.size ≤ q → A q) (hL : ∀ k, k < 179 → k ∈ L) (hfl : l.stackTraces = false) (hZ : gZ A s s.heap) (hL2 : ∀ k ∈ L, k < 179) (hrec368 : ∀ {ad : Nat → Nat} {kc ns : Nat} (ha : ∀ k, k < 179 → ad k = ad0 k) {σ9 : gS} {x22n9 : Int32} {x28n9 : Int32} (hkc : kc ≤ 4) (hns : ns ≤ 46) (H : Heap) (locs : List Loc) (ls : Array Slot), gY D y A s (L ++ [179, 180, 181]) ad σ9 H locs → lv_has ls 31 [(0, .ref (ad 0)), (1, .ref (ad 161)), (2, .ref (ad 162)), (8, .ref (ad 168)), (10, .ref (ad 170)), (11, .ref (ad 171)), (12, .ref (ad 172)), (13, .ref (ad 173)), (14, .ref (ad 174)), (15, .ref (ad 175)), (16, .ref (ad 176)), (17, .ref (ad 178)), (19, .ref (ad 179)), (20, .ref (ad 180)), (21, .ref (ad 181)), (22, .int x22n9), (25, .long x25), (27, .int x27), (28, .int x28n9)] → rec368 (σ9, x22n9, x28n9) = some res → W p l e ({ frames := 9, cells := 4, slots := 46, locals := 159 } : Room) s m args below meth c H locs kc ns (MQ below (va_Qi (fun (r : Int32) (_ : Unit) => r = res.1) (fun _ => gO D A (GW L y ad0 res.2)) A) args s 4 46 A) (F0 m 368 ls [])) : ∀ (n : Nat) {ad : Nat → Nat} {kc ns : Nat} (ha : ∀ k, k < 179 → ad k = ad0 k) {σ : gS} {x22 : Int32} {x29 : Int32} (hkc : kc ≤ 4) (hns : ns ≤ 46) (H : Heap) (locs : List Loc) (ls : Array Slot), gY D y A s (L ++ [179, 180, 181]) ad σ H locs → lv_has ls 31 [(0, .ref (ad 0)), (1, .ref (ad 161)), (2, .ref (ad 162)), (8, .ref (ad 168)), (10, .ref (ad 170)), (11, .ref (ad 171)), (12, .ref (ad 172)), (13, .ref (ad 173)), (14, .ref (ad 174)), (15, .ref (ad 175)), (16, .ref (ad 176)), (17, .ref (ad 178)), (19, .ref (ad 179)), (20, .ref (ad 180)), (21, .ref (ad 181)), (22, .int x22), (25, .long x25), (27, .int x27), (28, .int x28), (29, .int x29)] → lp (fL_isAll_433 N rec368 x25 x27 x28) n (σ, x22, x29) = some res → W p l e ({ frames := 9, cells := 4, slots := 46, locals := 159 } : Room) s m args below meth c H locs kc ns (MQ below (va_Qi (fun (r : Int32) (_ : Unit) => r = res.1) (fun _ => gO D A (GW L y ad0 res.2)) A) args s 4 46 A) (F0 m 433 ls []) := by
  intro n
  induction n with
  | zero => intro ad kc ns ha σ x22 x29 hkc hns H locs ls hY hl h; exact nomatch (show none = some res from h)
  | succ n hrec433 =>
    intro ad kc ns ha σ x22 x29 hkc hns H locs ls hY hl h
    replace h : fL_isAll_433 N rec368 x25 x27 x28 (lp (fL_isAll_433 N rec368 x25 x27 x28) n) (σ, x22, x29) = some res := h
    generalize lp (fL_isAll_433 N rec368 x25 x27 x28) n = rec433 at h hrec433
    unfold fL_isAll_433 at h
    try dsimp only at h
    refine lv_iload hx hb dL_isAll_433 (lv_at hl 19 rfl) ?_
    refine lv_aload_n hx hb dL_isAll_435 rfl (lv_at hl 1 rfl) ?_
    refine lv_iconst (v := 2) hx hb dL_isAll_436 (by decide) ?_
    refine G_iald (j := 2) hx hb hK hY (List.mem_append_left _ (hL 161 (by decide))) gk_161 (by rw [gl_161]; decide +kernel) (by decide +kernel) dL_isAll_437 ?_
    refine lv_icmp_ge (tgt := 487) hx hb dL_isAll_438 (by decide) (fun z_1 => ?_) (fun z_1 => ?_)
    ·
      rw [if_pos z_1] at h
      exact wL_isAll_487 hx hb hr hml hown hg hlocks hK hA hL hfl hZ hL2 ha hrec368 (by first | omega | (simp only [g_l0]; omega)) (by first | omega | (simp only [g_l0]; omega)) hY (lv_sub hl [0, 1, 2, 3, 4, 5, 6, 7, 8, 9, 10, 11, 12, 13, 14, 15, 16, 17, 18] rfl) h
    ·
      rw [if_neg z_1] at h
      refine lv_iload hx hb dL_isAll_441 (lv_at hl 15 rfl) ?_
      refine lv_if_eq (tgt := 487) hx hb dL_isAll_443 (by decide) (fun z_2 => ?_) (fun z_2 => ?_)
      ·
        rw [if_pos z_2] at h
        exact wL_isAll_487 hx hb hr hml hown hg hlocks hK hA hL hfl hZ hL2 ha hrec368 (by first | omega | (simp only [g_l0]; omega)) (by first | omega | (simp only [g_l0]; omega)) hY (lv_sub hl [0, 1, 2, 3, 4, 5, 6, 7, 8, 9, 10, 11, 12, 13, 14, 15, 16, 17, 18] rfl) h
      ·
        rw [if_neg z_2] at h
        refine lv_aload_n hx hb dL_isAll_446 rfl (lv_at hl 0 rfl) ?_
        refine lv_iload hx hb dL_isAll_447 (lv_at hl 19 rfl) ?_
        refine lv_iload hx hb dL_isAll_449 (lv_at hl 18 rfl) ?_
        obtain ⟨r_3, e_4, h⟩ := g_bind h
        refine G_ai hY hA (va_runV (As := [.int x29, .int x28]) (rest := []) ⟨hx, hb, hml, hown, hg⟩ (kX11_verdict l D y aS H.size (L ++ [179, 180, 181]) (fun k hk => List.mem_append_left _ (hL k hk)) ad N σ x29 x28 _ e_4) (cwV 2 hg ggV_RL_177_X11_verdict rfl rfl rfl (by decide +kernel) ⟨Nat.le_of_ble_eq_true rfl, Nat.le_of_ble_eq_true rfl⟩) (G_pV (q := (RX11, TX11, 19)) hK hY (List.mem_append_left _ (hL 0 (by decide))) gk_0 (by decide) rfl) rfl rfl hl.1 rfl (lv_room (Nat.le_of_ble_eq_true rfl)) dL_isAll_451 ⟨(by dsimp only; omega), (by dsimp only; omega)⟩) ?_
        clear hY
        rintro _ H locs rfl hY
        refine lv_aload_n hx hb dL_isAll_454 rfl (lv_at hl 1 rfl) ?_
        refine lv_aload hx hb dL_isAll_455 (lv_at hl 6 rfl) ?_
        refine lv_aload hx hb dL_isAll_457 (lv_at hl 8 rfl) ?_
        refine lv_aload hx hb dL_isAll_459 (lv_at hl 9 rfl) ?_
        refine lv_iload hx hb dL_isAll_461 (lv_at hl 19 rfl) ?_
        refine lv_aload hx hb dL_isAll_463 (lv_at hl 5 rfl) ?_
        refine lv_iload hx hb dL_isAll_465 (lv_at hl 18 rfl) ?_
        obtain ⟨z_5, h⟩ := g_guard h
        refine G_lald (j := x28.toNatClampNeg) hx hb hK hY (List.mem_append_left _ (hL 171 (by decide))) gk_171 (by rw [gl_171]; exact z_5) rfl dL_isAll_467 ?_
        obtain ⟨r_6, e_7, h⟩ := g_bind h
        refine G_ai hY hA (va_runS (As := [.ref (ad 161), .ref (ad 172), .ref (ad 174), .ref (ad 175), .int x29, .long (σ.2.1 171 x28.toNatClampNeg)]) (rest := [.int r_3]) ⟨hx, hb, hml, hown, hg⟩ (kL_verdict l D y aS H.size (L ++ [179, 180, 181]) (fun k hk => List.mem_append_left _ (hL k hk)) ad N σ x29 (σ.2.1 171 x28.toNatClampNeg) _ e_7) (va_cwS 6 hg ggS_RL_25_L_verdict rfl rfl rfl (by decide +kernel) ⟨Nat.le_of_ble_eq_true rfl, Nat.le_of_ble_eq_true rfl⟩) (G_pS hK hY) rfl rfl hl.1 rfl (lv_room (Nat.le_of_ble_eq_true rfl)) dL_isAll_468 ⟨(by dsimp only; omega), (by dsimp only; omega)⟩) ?_
        clear hY
        rintro _ H locs rfl hY
        refine lv_icmp_ne (tgt := 478) hx hb dL_isAll_471 (by decide) (fun z_8 => ?_) (fun z_8 => ?_)
        ·
          rw [if_neg z_8] at h
          refine lv_iconst (v := 0) hx hb dL_isAll_478 (by decide) ?_
          exact wL_isAll_479 hx hb hr hml hown hg hlocks hK hA hL hfl hZ hL2 ha hrec368 hrec433 (by first | omega | (simp only [g_l0]; omega)) (by first | omega | (simp only [g_l0]; omega)) hY (lv_sub hl [0, 1, 2, 3, 4, 5, 6, 7, 8, 9, 10, 11, 12, 13, 14, 16, 17, 18, 19] rfl) h
        ·
          rw [if_pos z_8] at h
          refine lv_iconst (v := 1) hx hb dL_isAll_474 (by decide) ?_
          refine lv_goto (tgt := 479) hx hb dL_isAll_475 (by decide) ?_
          exact wL_isAll_479 hx hb hr hml hown hg hlocks hK hA hL hfl hZ hL2 ha hrec368 hrec433 (by first | omega | (simp only [g_l0]; omega)) (by first | omega | (simp only [g_l0]; omega)) hY (lv_sub hl [0, 1, 2, 3, 4, 5, 6, 7, 8, 9, 10, 11, 12, 13, 14, 16, 17, 18, 19] rfl) h
def fL_isAll_430 (N : Nat) (rec368 : (gS × Int32 × Int32) → Option (Int32 × gS)) (σ : gS) (x22 : Int32) (x25 : Int64) (x27 : Int32) (x28 : Int32) : Option (Int32 × gS) := lp (fL_isAll_433 N rec368 x25 x27 x28) N (σ, x22, 0)
set_option maxRecDepth 100000 in
set_option maxHeartbeats 4000000 in
theorem wL_isAll_430 {rec368 : (gS × Int32 × Int32) → Option (Int32 × gS)} {σ : gS} {x22 : Int32} {x25 : Int64} {x27 : Int32} {x28 : Int32} {ad : Nat → Nat} {kc ns : Nat} (hx : p.tables.exec = Jvm.exec) (hb : c.code = cL_isAll) (hr : meth.sig.returnType = (some .boolean)) (hml : c.maxLocals = 31) (hown : s.vm.findClass RL = some m.cls) (hg : ∀ w ∈ wsL_law, w.before args s = true) (hlocks : meth.locks = false) (hK : gK D y aS s) (hA : ∀ q, s.heap.size ≤ q → A q) (hL : ∀ k, k < 179 → k ∈ L) (hfl : l.stackTraces = false) (hZ : gZ A s s.heap) (hL2 : ∀ k ∈ L, k < 179) (ha : ∀ k, k < 179 → ad k = ad0 k) (hrec368 : ∀ {ad : Nat → Nat} {kc ns : Nat} (ha : ∀ k, k < 179 → ad k = ad0 k) {σ9 : gS} {x22n9 : Int32} {x28n9 : Int32} (hkc : kc ≤ 4) (hns : ns ≤ 46) (H : Heap) (locs : List Loc) (ls : Array Slot), gY D y A s (L ++ [179, 180, 181]) ad σ9 H locs → lv_has ls 31 [(0, .ref (ad 0)), (1, .ref (ad 161)), (2, .ref (ad 162)), (8, .ref (ad 168)), (10, .ref (ad 170)), (11, .ref (ad 171)), (12, .ref (ad 172)), (13, .ref (ad 173)), (14, .ref (ad 174)), (15, .ref (ad 175)), (16, .ref (ad 176)), (17, .ref (ad 178)), (19, .ref (ad 179)), (20, .ref (ad 180)), (21, .ref (ad 181)), (22, .int x22n9), (25, .long x25), (27, .int x27), (28, .int x28n9)] → rec368 (σ9, x22n9, x28n9) = some res → W p l e ({ frames := 9, cells := 4, slots := 46, locals := 159 } : Room) s m args below meth c H locs kc ns (MQ below (va_Qi (fun (r : Int32) (_ : Unit) => r = res.1) (fun _ => gO D A (GW L y ad0 res.2)) A) args s 4 46 A) (F0 m 368 ls [])) (hkc : kc ≤ 4) (hns : ns ≤ 46) {H : Heap} {locs : List Loc} {ls : Array Slot} (hY : gY D y A s (L ++ [179, 180, 181]) ad σ H locs) (hl : lv_has ls 31 [(0, .ref (ad 0)), (1, .ref (ad 161)), (2, .ref (ad 162)), (8, .ref (ad 168)), (10, .ref (ad 170)), (11, .ref (ad 171)), (12, .ref (ad 172)), (13, .ref (ad 173)), (14, .ref (ad 174)), (15, .ref (ad 175)), (16, .ref (ad 176)), (17, .ref (ad 178)), (19, .ref (ad 179)), (20, .ref (ad 180)), (21, .ref (ad 181)), (22, .int x22), (25, .long x25), (27, .int x27), (28, .int x28)]) (h : fL_isAll_430 N rec368 σ x22 x25 x27 x28 = some res) : W p l e ({ frames := 9, cells := 4, slots := 46, locals := 159 } : Room) s m args below meth c H locs kc ns (MQ below (va_Qi (fun (r : Int32) (_ : Unit) => r = res.1) (fun _ => gO D A (GW L y ad0 res.2)) A) args s 4 46 A) (F0 m 430 ls []) := by
  unfold fL_isAll_430 at h
  refine lv_iconst (v := 0) hx hb dL_isAll_430 (by decide) ?_
  refine lv_istore (lv' := [(29, .int 0), (0, .ref (ad 0)), (1, .ref (ad 161)), (2, .ref (ad 162)), (8, .ref (ad 168)), (10, .ref (ad 170)), (11, .ref (ad 171)), (12, .ref (ad 172)), (13, .ref (ad 173)), (14, .ref (ad 174)), (15, .ref (ad 175)), (16, .ref (ad 176)), (17, .ref (ad 178)), (19, .ref (ad 179)), (20, .ref (ad 180)), (21, .ref (ad 181)), (22, .int x22), (25, .long x25), (27, .int x27), (28, .int x28)]) hx hb dL_isAll_431 hl (by decide) rfl ?_
  clear hl
  intro ls hl
  exact wL_isAll_433 hx hb hr hml hown hg hlocks hK hA hL hfl hZ hL2 hrec368 N ha (by first | omega | (simp only [g_l0]; omega)) (by first | omega | (simp only [g_l0]; omega)) _ _ _ hY (lv_sub hl [1, 2, 3, 4, 5, 6, 7, 8, 9, 10, 11, 12, 13, 14, 15, 16, 17, 18, 19, 0] rfl) h
def fL_isAll_422 (N : Nat) (rec368 : (gS × Int32 × Int32) → Option (Int32 × gS)) (rec384 : (gS × Int32 × Int32) → Option (Int32 × gS)) (σ : gS) (x25 : Int64) (x27 : Int32) (x28 : Int32) (x29 : Int32) (xs0 : Int32) : Option (Int32 × gS) := rec384 (σ, xs0, (x29 + 1))
set_option maxRecDepth 100000 in
set_option maxHeartbeats 4000000 in
theorem wL_isAll_422 {rec368 : (gS × Int32 × Int32) → Option (Int32 × gS)} {rec384 : (gS × Int32 × Int32) → Option (Int32 × gS)} {σ : gS} {x25 : Int64} {x27 : Int32} {x28 : Int32} {x29 : Int32} {xs0 : Int32} {ad : Nat → Nat} {kc ns : Nat} (hx : p.tables.exec = Jvm.exec) (hb : c.code = cL_isAll) (hr : meth.sig.returnType = (some .boolean)) (hml : c.maxLocals = 31) (hown : s.vm.findClass RL = some m.cls) (hg : ∀ w ∈ wsL_law, w.before args s = true) (hlocks : meth.locks = false) (hK : gK D y aS s) (hA : ∀ q, s.heap.size ≤ q → A q) (hL : ∀ k, k < 179 → k ∈ L) (hfl : l.stackTraces = false) (hZ : gZ A s s.heap) (hL2 : ∀ k ∈ L, k < 179) (ha : ∀ k, k < 179 → ad k = ad0 k) (hrec368 : ∀ {ad : Nat → Nat} {kc ns : Nat} (ha : ∀ k, k < 179 → ad k = ad0 k) {σ9 : gS} {x22n9 : Int32} {x28n9 : Int32} (hkc : kc ≤ 4) (hns : ns ≤ 46) (H : Heap) (locs : List Loc) (ls : Array Slot), gY D y A s (L ++ [179, 180, 181]) ad σ9 H locs → lv_has ls 31 [(0, .ref (ad 0)), (1, .ref (ad 161)), (2, .ref (ad 162)), (8, .ref (ad 168)), (10, .ref (ad 170)), (11, .ref (ad 171)), (12, .ref (ad 172)), (13, .ref (ad 173)), (14, .ref (ad 174)), (15, .ref (ad 175)), (16, .ref (ad 176)), (17, .ref (ad 178)), (19, .ref (ad 179)), (20, .ref (ad 180)), (21, .ref (ad 181)), (22, .int x22n9), (25, .long x25), (27, .int x27), (28, .int x28n9)] → rec368 (σ9, x22n9, x28n9) = some res → W p l e ({ frames := 9, cells := 4, slots := 46, locals := 159 } : Room) s m args below meth c H locs kc ns (MQ below (va_Qi (fun (r : Int32) (_ : Unit) => r = res.1) (fun _ => gO D A (GW L y ad0 res.2)) A) args s 4 46 A) (F0 m 368 ls [])) (hrec384 : ∀ {ad : Nat → Nat} {kc ns : Nat} (ha : ∀ k, k < 179 → ad k = ad0 k) {σ9 : gS} {x22n9 : Int32} {x29n9 : Int32} (hkc : kc ≤ 4) (hns : ns ≤ 46) (H : Heap) (locs : List Loc) (ls : Array Slot), gY D y A s (L ++ [179, 180, 181]) ad σ9 H locs → lv_has ls 31 [(0, .ref (ad 0)), (1, .ref (ad 161)), (2, .ref (ad 162)), (8, .ref (ad 168)), (10, .ref (ad 170)), (11, .ref (ad 171)), (12, .ref (ad 172)), (13, .ref (ad 173)), (14, .ref (ad 174)), (15, .ref (ad 175)), (16, .ref (ad 176)), (17, .ref (ad 178)), (19, .ref (ad 179)), (20, .ref (ad 180)), (21, .ref (ad 181)), (22, .int x22n9), (25, .long x25), (27, .int x27), (28, .int x28), (29, .int x29n9)] → rec384 (σ9, x22n9, x29n9) = some res → W p l e ({ frames := 9, cells := 4, slots := 46, locals := 159 } : Room) s m args below meth c H locs kc ns (MQ below (va_Qi (fun (r : Int32) (_ : Unit) => r = res.1) (fun _ => gO D A (GW L y ad0 res.2)) A) args s 4 46 A) (F0 m 384 ls [])) (hkc : kc ≤ 4) (hns : ns ≤ 46) {H : Heap} {locs : List Loc} {ls : Array Slot} (hY : gY D y A s (L ++ [179, 180, 181]) ad σ H locs) (hl : lv_has ls 31 [(0, .ref (ad 0)), (1, .ref (ad 161)), (2, .ref (ad 162)), (8, .ref (ad 168)), (10, .ref (ad 170)), (11, .ref (ad 171)), (12, .ref (ad 172)), (13, .ref (ad 173)), (14, .ref (ad 174)), (15, .ref (ad 175)), (16, .ref (ad 176)), (17, .ref (ad 178)), (19, .ref (ad 179)), (20, .ref (ad 180)), (21, .ref (ad 181)), (25, .long x25), (27, .int x27), (28, .int x28), (29, .int x29)]) (h : fL_isAll_422 N rec368 rec384 σ x25 x27 x28 x29 xs0 = some res) : W p l e ({ frames := 9, cells := 4, slots := 46, locals := 159 } : Room) s m args below meth c H locs kc ns (MQ below (va_Qi (fun (r : Int32) (_ : Unit) => r = res.1) (fun _ => gO D A (GW L y ad0 res.2)) A) args s 4 46 A) (F0 m 422 ls [.int xs0]) := by
  unfold fL_isAll_422 at h
  refine lv_istore (lv' := [(22, .int xs0), (0, .ref (ad 0)), (1, .ref (ad 161)), (2, .ref (ad 162)), (8, .ref (ad 168)), (10, .ref (ad 170)), (11, .ref (ad 171)), (12, .ref (ad 172)), (13, .ref (ad 173)), (14, .ref (ad 174)), (15, .ref (ad 175)), (16, .ref (ad 176)), (17, .ref (ad 178)), (19, .ref (ad 179)), (20, .ref (ad 180)), (21, .ref (ad 181)), (25, .long x25), (27, .int x27), (28, .int x28), (29, .int x29)]) hx hb dL_isAll_422 hl (by decide) rfl ?_
  clear hl
  intro ls hl
  refine lv_iinc (v := (x29 + 1)) (lv' := [(29, .int (x29 + 1)), (22, .int xs0), (0, .ref (ad 0)), (1, .ref (ad 161)), (2, .ref (ad 162)), (8, .ref (ad 168)), (10, .ref (ad 170)), (11, .ref (ad 171)), (12, .ref (ad 172)), (13, .ref (ad 173)), (14, .ref (ad 174)), (15, .ref (ad 175)), (16, .ref (ad 176)), (17, .ref (ad 178)), (19, .ref (ad 179)), (20, .ref (ad 180)), (21, .ref (ad 181)), (25, .long x25), (27, .int x27), (28, .int x28)]) hx hb dL_isAll_424 hl (k := 19) rfl rfl (by decide) rfl ?_
  clear hl
  intro ls hl
  refine lv_goto (tgt := 384) hx hb dL_isAll_427 (by decide) ?_
  exact hrec384 ha (by first | omega | (simp only [g_l0]; omega)) (by first | omega | (simp only [g_l0]; omega)) _ _ _ hY (lv_sub hl [2, 3, 4, 5, 6, 7, 8, 9, 10, 11, 12, 13, 14, 15, 16, 1, 17, 18, 19, 0] rfl) h
def fL_isAll_384 (N : Nat) (rec368 : (gS × Int32 × Int32) → Option (Int32 × gS)) (x25 : Int64) (x27 : Int32) (x28 : Int32) (rec384 : (gS × Int32 × Int32) → Option (Int32 × gS)) (xx : gS × Int32 × Int32) : Option (Int32 × gS) := match xx with
  | (σ, x22, x29) => if 12 ≤ x29 then (fL_isAll_430 N rec368 σ x22 x25 x27 x28) else (if x22 = 0 then (fL_isAll_430 N rec368 σ x22 x25 x27 x28) else ((fX11_content N σ x28 x29).bind fun r_3 => if x28 < 0 ∨ 26 ≤ x28.toNatClampNeg then none else ((fL_at N σ (σ.2.1 171 x28.toNatClampNeg) x29).bind fun r_6 => if r_3 = r_6 then (fL_isAll_422 N rec368 rec384 σ x25 x27 x28 x29 1) else (fL_isAll_422 N rec368 rec384 σ x25 x27 x28 x29 0))))
set_option maxRecDepth 100000 in
set_option maxHeartbeats 4000000 in
theorem wL_isAll_384 {rec368 : (gS × Int32 × Int32) → Option (Int32 × gS)} {x25 : Int64} {x27 : Int32} {x28 : Int32} (hx : p.tables.exec = Jvm.exec) (hb : c.code = cL_isAll) (hr : meth.sig.returnType = (some .boolean)) (hml : c.maxLocals = 31) (hown : s.vm.findClass RL = some m.cls) (hg : ∀ w ∈ wsL_law, w.before args s = true) (hlocks : meth.locks = false) (hK : gK D y aS s) (hA : ∀ q, s.heap.size ≤ q → A q) (hL : ∀ k, k < 179 → k ∈ L) (hfl : l.stackTraces = false) (hZ : gZ A s s.heap) (hL2 : ∀ k ∈ L, k < 179) (hrec368 : ∀ {ad : Nat → Nat} {kc ns : Nat} (ha : ∀ k, k < 179 → ad k = ad0 k) {σ9 : gS} {x22n9 : Int32} {x28n9 : Int32} (hkc : kc ≤ 4) (hns : ns ≤ 46) (H : Heap) (locs : List Loc) (ls : Array Slot), gY D y A s (L ++ [179, 180, 181]) ad σ9 H locs → lv_has ls 31 [(0, .ref (ad 0)), (1, .ref (ad 161)), (2, .ref (ad 162)), (8, .ref (ad 168)), (10, .ref (ad 170)), (11, .ref (ad 171)), (12, .ref (ad 172)), (13, .ref (ad 173)), (14, .ref (ad 174)), (15, .ref (ad 175)), (16, .ref (ad 176)), (17, .ref (ad 178)), (19, .ref (ad 179)), (20, .ref (ad 180)), (21, .ref (ad 181)), (22, .int x22n9), (25, .long x25), (27, .int x27), (28, .int x28n9)] → rec368 (σ9, x22n9, x28n9) = some res → W p l e ({ frames := 9, cells := 4, slots := 46, locals := 159 } : Room) s m args below meth c H locs kc ns (MQ below (va_Qi (fun (r : Int32) (_ : Unit) => r = res.1) (fun _ => gO D A (GW L y ad0 res.2)) A) args s 4 46 A) (F0 m 368 ls [])) : ∀ (n : Nat) {ad : Nat → Nat} {kc ns : Nat} (ha : ∀ k, k < 179 → ad k = ad0 k) {σ : gS} {x22 : Int32} {x29 : Int32} (hkc : kc ≤ 4) (hns : ns ≤ 46) (H : Heap) (locs : List Loc) (ls : Array Slot), gY D y A s (L ++ [179, 180, 181]) ad σ H locs → lv_has ls 31 [(0, .ref (ad 0)), (1, .ref (ad 161)), (2, .ref (ad 162)), (8, .ref (ad 168)), (10, .ref (ad 170)), (11, .ref (ad 171)), (12, .ref (ad 172)), (13, .ref (ad 173)), (14, .ref (ad 174)), (15, .ref (ad 175)), (16, .ref (ad 176)), (17, .ref (ad 178)), (19, .ref (ad 179)), (20, .ref (ad 180)), (21, .ref (ad 181)), (22, .int x22), (25, .long x25), (27, .int x27), (28, .int x28), (29, .int x29)] → lp (fL_isAll_384 N rec368 x25 x27 x28) n (σ, x22, x29) = some res → W p l e ({ frames := 9, cells := 4, slots := 46, locals := 159 } : Room) s m args below meth c H locs kc ns (MQ below (va_Qi (fun (r : Int32) (_ : Unit) => r = res.1) (fun _ => gO D A (GW L y ad0 res.2)) A) args s 4 46 A) (F0 m 384 ls []) := by
  intro n
  induction n with
  | zero => intro ad kc ns ha σ x22 x29 hkc hns H locs ls hY hl h; exact nomatch (show none = some res from h)
  | succ n hrec384 =>
    intro ad kc ns ha σ x22 x29 hkc hns H locs ls hY hl h
    replace h : fL_isAll_384 N rec368 x25 x27 x28 (lp (fL_isAll_384 N rec368 x25 x27 x28) n) (σ, x22, x29) = some res := h
    generalize lp (fL_isAll_384 N rec368 x25 x27 x28) n = rec384 at h hrec384
    unfold fL_isAll_384 at h
    try dsimp only at h
    refine lv_iload hx hb dL_isAll_384 (lv_at hl 19 rfl) ?_
    refine lv_bipush (v := 12) hx hb dL_isAll_386 (by decide +kernel) ?_
    refine lv_icmp_ge (tgt := 430) hx hb dL_isAll_388 (by decide) (fun z_1 => ?_) (fun z_1 => ?_)
    ·
      rw [if_pos z_1] at h
      exact wL_isAll_430 hx hb hr hml hown hg hlocks hK hA hL hfl hZ hL2 ha hrec368 (by first | omega | (simp only [g_l0]; omega)) (by first | omega | (simp only [g_l0]; omega)) hY (lv_sub hl [0, 1, 2, 3, 4, 5, 6, 7, 8, 9, 10, 11, 12, 13, 14, 15, 16, 17, 18] rfl) h
    ·
      rw [if_neg z_1] at h
      refine lv_iload hx hb dL_isAll_391 (lv_at hl 15 rfl) ?_
      refine lv_if_eq (tgt := 430) hx hb dL_isAll_393 (by decide) (fun z_2 => ?_) (fun z_2 => ?_)
      ·
        rw [if_pos z_2] at h
        exact wL_isAll_430 hx hb hr hml hown hg hlocks hK hA hL hfl hZ hL2 ha hrec368 (by first | omega | (simp only [g_l0]; omega)) (by first | omega | (simp only [g_l0]; omega)) hY (lv_sub hl [0, 1, 2, 3, 4, 5, 6, 7, 8, 9, 10, 11, 12, 13, 14, 15, 16, 17, 18] rfl) h
      ·
        rw [if_neg z_2] at h
        refine lv_aload_n hx hb dL_isAll_396 rfl (lv_at hl 0 rfl) ?_
        refine lv_iload hx hb dL_isAll_397 (lv_at hl 18 rfl) ?_
        refine lv_iload hx hb dL_isAll_399 (lv_at hl 19 rfl) ?_
        obtain ⟨r_3, e_4, h⟩ := g_bind h
        refine G_ai hY hA (va_runV (As := [.int x28, .int x29]) (rest := []) ⟨hx, hb, hml, hown, hg⟩ (kX11_content l D y aS H.size (L ++ [179, 180, 181]) (fun k hk => List.mem_append_left _ (hL k hk)) ad N σ x28 x29 _ e_4) (cwV 2 hg ggV_RL_174_X11_content rfl rfl rfl (by decide +kernel) ⟨Nat.le_of_ble_eq_true rfl, Nat.le_of_ble_eq_true rfl⟩) (G_pV (q := (RX11, TX11, 19)) hK hY (List.mem_append_left _ (hL 0 (by decide))) gk_0 (by decide) rfl) rfl rfl hl.1 rfl (lv_room (Nat.le_of_ble_eq_true rfl)) dL_isAll_401 ⟨(by dsimp only; omega), (by dsimp only; omega)⟩) ?_
        clear hY
        rintro _ H locs rfl hY
        refine lv_aload hx hb dL_isAll_404 (lv_at hl 5 rfl) ?_
        refine lv_iload hx hb dL_isAll_406 (lv_at hl 18 rfl) ?_
        obtain ⟨z_5, h⟩ := g_guard h
        refine G_lald (j := x28.toNatClampNeg) hx hb hK hY (List.mem_append_left _ (hL 171 (by decide))) gk_171 (by rw [gl_171]; exact z_5) rfl dL_isAll_408 ?_
        refine lv_iload hx hb dL_isAll_409 (lv_at hl 19 rfl) ?_
        obtain ⟨r_6, e_7, h⟩ := g_bind h
        refine G_ai hY hA (va_runS (As := [.long (σ.2.1 171 x28.toNatClampNeg), .int x29]) (rest := [.int r_3]) ⟨hx, hb, hml, hown, hg⟩ (kL_at l D y aS H.size (L ++ [179, 180, 181]) (fun k hk => List.mem_append_left _ (hL k hk)) ad N σ (σ.2.1 171 x28.toNatClampNeg) x29 _ e_7) (va_cwS 2 hg ggS_RL_29_L_at rfl rfl rfl (by decide +kernel) ⟨Nat.le_of_ble_eq_true rfl, Nat.le_of_ble_eq_true rfl⟩) (G_pS hK hY) rfl rfl hl.1 rfl (lv_room (Nat.le_of_ble_eq_true rfl)) dL_isAll_411 ⟨(by dsimp only; omega), (by dsimp only; omega)⟩) ?_
        clear hY
        rintro _ H locs rfl hY
        refine lv_icmp_ne (tgt := 421) hx hb dL_isAll_414 (by decide) (fun z_8 => ?_) (fun z_8 => ?_)
        ·
          rw [if_neg z_8] at h
          refine lv_iconst (v := 0) hx hb dL_isAll_421 (by decide) ?_
          exact wL_isAll_422 hx hb hr hml hown hg hlocks hK hA hL hfl hZ hL2 ha hrec368 hrec384 (by first | omega | (simp only [g_l0]; omega)) (by first | omega | (simp only [g_l0]; omega)) hY (lv_sub hl [0, 1, 2, 3, 4, 5, 6, 7, 8, 9, 10, 11, 12, 13, 14, 16, 17, 18, 19] rfl) h
        ·
          rw [if_pos z_8] at h
          refine lv_iconst (v := 1) hx hb dL_isAll_417 (by decide) ?_
          refine lv_goto (tgt := 422) hx hb dL_isAll_418 (by decide) ?_
          exact wL_isAll_422 hx hb hr hml hown hg hlocks hK hA hL hfl hZ hL2 ha hrec368 hrec384 (by first | omega | (simp only [g_l0]; omega)) (by first | omega | (simp only [g_l0]; omega)) hY (lv_sub hl [0, 1, 2, 3, 4, 5, 6, 7, 8, 9, 10, 11, 12, 13, 14, 16, 17, 18, 19] rfl) h
def fL_isAll_368 (N : Nat) (x25 : Int64) (x27 : Int32) (rec368 : (gS × Int32 × Int32) → Option (Int32 × gS)) (xx : gS × Int32 × Int32) : Option (Int32 × gS) := match xx with
  | (σ, x22, x28) => if (σ.1 161 1) ≤ x28 then (fL_isAll_493 N σ x22 x25 x27) else (if x22 = 0 then (fL_isAll_493 N σ x22 x25 x27) else (lp (fL_isAll_384 N rec368 x25 x27 x28) N (σ, x22, 0)))
set_option maxRecDepth 100000 in
set_option maxHeartbeats 4000000 in
theorem wL_isAll_368 {x25 : Int64} {x27 : Int32} (hx : p.tables.exec = Jvm.exec) (hb : c.code = cL_isAll) (hr : meth.sig.returnType = (some .boolean)) (hml : c.maxLocals = 31) (hown : s.vm.findClass RL = some m.cls) (hg : ∀ w ∈ wsL_law, w.before args s = true) (hlocks : meth.locks = false) (hK : gK D y aS s) (hA : ∀ q, s.heap.size ≤ q → A q) (hL : ∀ k, k < 179 → k ∈ L) (hfl : l.stackTraces = false) (hZ : gZ A s s.heap) (hL2 : ∀ k ∈ L, k < 179) : ∀ (n : Nat) {ad : Nat → Nat} {kc ns : Nat} (ha : ∀ k, k < 179 → ad k = ad0 k) {σ : gS} {x22 : Int32} {x28 : Int32} (hkc : kc ≤ 4) (hns : ns ≤ 46) (H : Heap) (locs : List Loc) (ls : Array Slot), gY D y A s (L ++ [179, 180, 181]) ad σ H locs → lv_has ls 31 [(0, .ref (ad 0)), (1, .ref (ad 161)), (2, .ref (ad 162)), (8, .ref (ad 168)), (10, .ref (ad 170)), (11, .ref (ad 171)), (12, .ref (ad 172)), (13, .ref (ad 173)), (14, .ref (ad 174)), (15, .ref (ad 175)), (16, .ref (ad 176)), (17, .ref (ad 178)), (19, .ref (ad 179)), (20, .ref (ad 180)), (21, .ref (ad 181)), (22, .int x22), (25, .long x25), (27, .int x27), (28, .int x28)] → lp (fL_isAll_368 N x25 x27) n (σ, x22, x28) = some res → W p l e ({ frames := 9, cells := 4, slots := 46, locals := 159 } : Room) s m args below meth c H locs kc ns (MQ below (va_Qi (fun (r : Int32) (_ : Unit) => r = res.1) (fun _ => gO D A (GW L y ad0 res.2)) A) args s 4 46 A) (F0 m 368 ls []) := by
  intro n
  induction n with
  | zero => intro ad kc ns ha σ x22 x28 hkc hns H locs ls hY hl h; exact nomatch (show none = some res from h)
  | succ n hrec368 =>
    intro ad kc ns ha σ x22 x28 hkc hns H locs ls hY hl h
    replace h : fL_isAll_368 N x25 x27 (lp (fL_isAll_368 N x25 x27) n) (σ, x22, x28) = some res := h
    generalize lp (fL_isAll_368 N x25 x27) n = rec368 at h hrec368
    unfold fL_isAll_368 at h
    try dsimp only at h
    refine lv_iload hx hb dL_isAll_368 (lv_at hl 18 rfl) ?_
    refine lv_aload_n hx hb dL_isAll_370 rfl (lv_at hl 1 rfl) ?_
    refine lv_iconst (v := 1) hx hb dL_isAll_371 (by decide) ?_
    refine G_iald (j := 1) hx hb hK hY (List.mem_append_left _ (hL 161 (by decide))) gk_161 (by rw [gl_161]; decide +kernel) (by decide +kernel) dL_isAll_372 ?_
    refine lv_icmp_ge (tgt := 493) hx hb dL_isAll_373 (by decide) (fun z_1 => ?_) (fun z_1 => ?_)
    ·
      rw [if_pos z_1] at h
      exact wL_isAll_493 hx hb hr hml hown hg hlocks hK hA hL hfl hZ hL2 ha (by first | omega | (simp only [g_l0]; omega)) (by first | omega | (simp only [g_l0]; omega)) hY (lv_sub hl [0, 1, 2, 3, 4, 6, 7, 8, 9, 10, 11, 12, 13, 14, 15, 16, 17] rfl) h
    ·
      rw [if_neg z_1] at h
      refine lv_iload hx hb dL_isAll_376 (lv_at hl 15 rfl) ?_
      refine lv_if_eq (tgt := 493) hx hb dL_isAll_378 (by decide) (fun z_2 => ?_) (fun z_2 => ?_)
      ·
        rw [if_pos z_2] at h
        exact wL_isAll_493 hx hb hr hml hown hg hlocks hK hA hL hfl hZ hL2 ha (by first | omega | (simp only [g_l0]; omega)) (by first | omega | (simp only [g_l0]; omega)) hY (lv_sub hl [0, 1, 2, 3, 4, 6, 7, 8, 9, 10, 11, 12, 13, 14, 15, 16, 17] rfl) h
      ·
        rw [if_neg z_2] at h
        refine lv_iconst (v := 0) hx hb dL_isAll_381 (by decide) ?_
        refine lv_istore (lv' := [(29, .int 0), (0, .ref (ad 0)), (1, .ref (ad 161)), (2, .ref (ad 162)), (8, .ref (ad 168)), (10, .ref (ad 170)), (11, .ref (ad 171)), (12, .ref (ad 172)), (13, .ref (ad 173)), (14, .ref (ad 174)), (15, .ref (ad 175)), (16, .ref (ad 176)), (17, .ref (ad 178)), (19, .ref (ad 179)), (20, .ref (ad 180)), (21, .ref (ad 181)), (22, .int x22), (25, .long x25), (27, .int x27), (28, .int x28)]) hx hb dL_isAll_382 hl (by decide) rfl ?_
        clear hl
        intro ls hl
        exact wL_isAll_384 hx hb hr hml hown hg hlocks hK hA hL hfl hZ hL2 hrec368 N ha (by first | omega | (simp only [g_l0]; omega)) (by first | omega | (simp only [g_l0]; omega)) _ _ _ hY (lv_sub hl [1, 2, 3, 4, 5, 6, 7, 8, 9, 10, 11, 12, 13, 14, 15, 16, 17, 18, 19, 0] rfl) h
def fL_isAll_362 (N : Nat) (σ : gS) (x18 : Int32) (x22 : Int32) (x25 : Int64) (x27 : Int32) : Option (Int32 × gS) := lp (fL_isAll_368 N x25 x27) N (σ, x22, (x18 - x18 / 2 * 2))
set_option maxRecDepth 100000 in
set_option maxHeartbeats 4000000 in
theorem wL_isAll_362 {σ : gS} {x18 : Int32} {x22 : Int32} {x25 : Int64} {x27 : Int32} {ad : Nat → Nat} {kc ns : Nat} (hx : p.tables.exec = Jvm.exec) (hb : c.code = cL_isAll) (hr : meth.sig.returnType = (some .boolean)) (hml : c.maxLocals = 31) (hown : s.vm.findClass RL = some m.cls) (hg : ∀ w ∈ wsL_law, w.before args s = true) (hlocks : meth.locks = false) (hK : gK D y aS s) (hA : ∀ q, s.heap.size ≤ q → A q) (hL : ∀ k, k < 179 → k ∈ L) (hfl : l.stackTraces = false) (hZ : gZ A s s.heap) (hL2 : ∀ k ∈ L, k < 179) (ha : ∀ k, k < 179 → ad k = ad0 k) (hkc : kc ≤ 4) (hns : ns ≤ 46) {H : Heap} {locs : List Loc} {ls : Array Slot} (hY : gY D y A s (L ++ [179, 180, 181]) ad σ H locs) (hl : lv_has ls 31 [(0, .ref (ad 0)), (1, .ref (ad 161)), (2, .ref (ad 162)), (8, .ref (ad 168)), (10, .ref (ad 170)), (11, .ref (ad 171)), (12, .ref (ad 172)), (13, .ref (ad 173)), (14, .ref (ad 174)), (15, .ref (ad 175)), (16, .ref (ad 176)), (17, .ref (ad 178)), (18, .int x18), (19, .ref (ad 179)), (20, .ref (ad 180)), (21, .ref (ad 181)), (22, .int x22), (25, .long x25), (27, .int x27)]) (h : fL_isAll_362 N σ x18 x22 x25 x27 = some res) : W p l e ({ frames := 9, cells := 4, slots := 46, locals := 159 } : Room) s m args below meth c H locs kc ns (MQ below (va_Qi (fun (r : Int32) (_ : Unit) => r = res.1) (fun _ => gO D A (GW L y ad0 res.2)) A) args s 4 46 A) (F0 m 362 ls []) := by
  unfold fL_isAll_362 at h
  refine lv_iload hx hb dL_isAll_362 (lv_at hl 12 rfl) ?_
  refine lv_iconst (v := 2) hx hb dL_isAll_364 (by decide) ?_
  refine lv_irem hx hb dL_isAll_365 (by decide +kernel) ?_
  refine lv_istore (lv' := [(28, .int (x18 - x18 / 2 * 2)), (0, .ref (ad 0)), (1, .ref (ad 161)), (2, .ref (ad 162)), (8, .ref (ad 168)), (10, .ref (ad 170)), (11, .ref (ad 171)), (12, .ref (ad 172)), (13, .ref (ad 173)), (14, .ref (ad 174)), (15, .ref (ad 175)), (16, .ref (ad 176)), (17, .ref (ad 178)), (18, .int x18), (19, .ref (ad 179)), (20, .ref (ad 180)), (21, .ref (ad 181)), (22, .int x22), (25, .long x25), (27, .int x27)]) hx hb dL_isAll_366 hl (by decide) rfl ?_
  clear hl
  intro ls hl
  exact wL_isAll_368 hx hb hr hml hown hg hlocks hK hA hL hfl hZ hL2 N ha (by first | omega | (simp only [g_l0]; omega)) (by first | omega | (simp only [g_l0]; omega)) _ _ _ hY (lv_sub hl [1, 2, 3, 4, 5, 6, 7, 8, 9, 10, 11, 12, 14, 15, 16, 17, 18, 19, 0] rfl) h
def fL_isAll_354 (N : Nat) (rec217 : (gS × Int32 × Int32) → Option (Int32 × gS)) (σ : gS) (x18 : Int32) (x25 : Int64) (x27 : Int32) (x28 : Int32) (xs0 : Int32) : Option (Int32 × gS) := rec217 (σ, xs0, (x28 + 1))
set_option maxRecDepth 100000 in
set_option maxHeartbeats 4000000 in
theorem wL_isAll_354 {rec217 : (gS × Int32 × Int32) → Option (Int32 × gS)} {σ : gS} {x18 : Int32} {x25 : Int64} {x27 : Int32} {x28 : Int32} {xs0 : Int32} {ad : Nat → Nat} {kc ns : Nat} (hx : p.tables.exec = Jvm.exec) (hb : c.code = cL_isAll) (hr : meth.sig.returnType = (some .boolean)) (hml : c.maxLocals = 31) (hown : s.vm.findClass RL = some m.cls) (hg : ∀ w ∈ wsL_law, w.before args s = true) (hlocks : meth.locks = false) (hK : gK D y aS s) (hA : ∀ q, s.heap.size ≤ q → A q) (hL : ∀ k, k < 179 → k ∈ L) (hfl : l.stackTraces = false) (hZ : gZ A s s.heap) (hL2 : ∀ k ∈ L, k < 179) (ha : ∀ k, k < 179 → ad k = ad0 k) (hrec217 : ∀ {ad : Nat → Nat} {kc ns : Nat} (ha : ∀ k, k < 179 → ad k = ad0 k) {σ9 : gS} {x22n9 : Int32} {x28n9 : Int32} (hkc : kc ≤ 4) (hns : ns ≤ 46) (H : Heap) (locs : List Loc) (ls : Array Slot), gY D y A s (L ++ [179, 180, 181]) ad σ9 H locs → lv_has ls 31 [(0, .ref (ad 0)), (1, .ref (ad 161)), (2, .ref (ad 162)), (4, .ref (ad 164)), (7, .ref (ad 167)), (8, .ref (ad 168)), (10, .ref (ad 170)), (11, .ref (ad 171)), (12, .ref (ad 172)), (13, .ref (ad 173)), (14, .ref (ad 174)), (15, .ref (ad 175)), (16, .ref (ad 176)), (17, .ref (ad 178)), (18, .int x18), (19, .ref (ad 179)), (20, .ref (ad 180)), (21, .ref (ad 181)), (22, .int x22n9), (25, .long x25), (27, .int x27), (28, .int x28n9)] → rec217 (σ9, x22n9, x28n9) = some res → W p l e ({ frames := 9, cells := 4, slots := 46, locals := 159 } : Room) s m args below meth c H locs kc ns (MQ below (va_Qi (fun (r : Int32) (_ : Unit) => r = res.1) (fun _ => gO D A (GW L y ad0 res.2)) A) args s 4 46 A) (F0 m 217 ls [])) (hkc : kc ≤ 4) (hns : ns ≤ 46) {H : Heap} {locs : List Loc} {ls : Array Slot} (hY : gY D y A s (L ++ [179, 180, 181]) ad σ H locs) (hl : lv_has ls 31 [(0, .ref (ad 0)), (1, .ref (ad 161)), (2, .ref (ad 162)), (4, .ref (ad 164)), (7, .ref (ad 167)), (8, .ref (ad 168)), (10, .ref (ad 170)), (11, .ref (ad 171)), (12, .ref (ad 172)), (13, .ref (ad 173)), (14, .ref (ad 174)), (15, .ref (ad 175)), (16, .ref (ad 176)), (17, .ref (ad 178)), (18, .int x18), (19, .ref (ad 179)), (20, .ref (ad 180)), (21, .ref (ad 181)), (25, .long x25), (27, .int x27), (28, .int x28)]) (h : fL_isAll_354 N rec217 σ x18 x25 x27 x28 xs0 = some res) : W p l e ({ frames := 9, cells := 4, slots := 46, locals := 159 } : Room) s m args below meth c H locs kc ns (MQ below (va_Qi (fun (r : Int32) (_ : Unit) => r = res.1) (fun _ => gO D A (GW L y ad0 res.2)) A) args s 4 46 A) (F0 m 354 ls [.int xs0]) := by
  unfold fL_isAll_354 at h
  refine lv_istore (lv' := [(22, .int xs0), (0, .ref (ad 0)), (1, .ref (ad 161)), (2, .ref (ad 162)), (4, .ref (ad 164)), (7, .ref (ad 167)), (8, .ref (ad 168)), (10, .ref (ad 170)), (11, .ref (ad 171)), (12, .ref (ad 172)), (13, .ref (ad 173)), (14, .ref (ad 174)), (15, .ref (ad 175)), (16, .ref (ad 176)), (17, .ref (ad 178)), (18, .int x18), (19, .ref (ad 179)), (20, .ref (ad 180)), (21, .ref (ad 181)), (25, .long x25), (27, .int x27), (28, .int x28)]) hx hb dL_isAll_354 hl (by decide) rfl ?_
  clear hl
  intro ls hl
  refine lv_iinc (v := (x28 + 1)) (lv' := [(28, .int (x28 + 1)), (22, .int xs0), (0, .ref (ad 0)), (1, .ref (ad 161)), (2, .ref (ad 162)), (4, .ref (ad 164)), (7, .ref (ad 167)), (8, .ref (ad 168)), (10, .ref (ad 170)), (11, .ref (ad 171)), (12, .ref (ad 172)), (13, .ref (ad 173)), (14, .ref (ad 174)), (15, .ref (ad 175)), (16, .ref (ad 176)), (17, .ref (ad 178)), (18, .int x18), (19, .ref (ad 179)), (20, .ref (ad 180)), (21, .ref (ad 181)), (25, .long x25), (27, .int x27)]) hx hb dL_isAll_356 hl (k := 21) rfl rfl (by decide) rfl ?_
  clear hl
  intro ls hl
  refine lv_goto (tgt := 217) hx hb dL_isAll_359 (by decide) ?_
  exact hrec217 ha (by first | omega | (simp only [g_l0]; omega)) (by first | omega | (simp only [g_l0]; omega)) _ _ _ hY (lv_sub hl [2, 3, 4, 5, 6, 7, 8, 9, 10, 11, 12, 13, 14, 15, 16, 17, 18, 19, 1, 20, 21, 0] rfl) h
def fL_isAll_353 (N : Nat) (rec217 : (gS × Int32 × Int32) → Option (Int32 × gS)) (σ : gS) (x18 : Int32) (x25 : Int64) (x27 : Int32) (x28 : Int32) : Option (Int32 × gS) := fL_isAll_354 N rec217 σ x18 x25 x27 x28 0
set_option maxRecDepth 100000 in
set_option maxHeartbeats 4000000 in
theorem wL_isAll_353 {rec217 : (gS × Int32 × Int32) → Option (Int32 × gS)} {σ : gS} {x18 : Int32} {x25 : Int64} {x27 : Int32} {x28 : Int32} {ad : Nat → Nat} {kc ns : Nat} (hx : p.tables.exec = Jvm.exec) (hb : c.code = cL_isAll) (hr : meth.sig.returnType = (some .boolean)) (hml : c.maxLocals = 31) (hown : s.vm.findClass RL = some m.cls) (hg : ∀ w ∈ wsL_law, w.before args s = true) (hlocks : meth.locks = false) (hK : gK D y aS s) (hA : ∀ q, s.heap.size ≤ q → A q) (hL : ∀ k, k < 179 → k ∈ L) (hfl : l.stackTraces = false) (hZ : gZ A s s.heap) (hL2 : ∀ k ∈ L, k < 179) (ha : ∀ k, k < 179 → ad k = ad0 k) (hrec217 : ∀ {ad : Nat → Nat} {kc ns : Nat} (ha : ∀ k, k < 179 → ad k = ad0 k) {σ9 : gS} {x22n9 : Int32} {x28n9 : Int32} (hkc : kc ≤ 4) (hns : ns ≤ 46) (H : Heap) (locs : List Loc) (ls : Array Slot), gY D y A s (L ++ [179, 180, 181]) ad σ9 H locs → lv_has ls 31 [(0, .ref (ad 0)), (1, .ref (ad 161)), (2, .ref (ad 162)), (4, .ref (ad 164)), (7, .ref (ad 167)), (8, .ref (ad 168)), (10, .ref (ad 170)), (11, .ref (ad 171)), (12, .ref (ad 172)), (13, .ref (ad 173)), (14, .ref (ad 174)), (15, .ref (ad 175)), (16, .ref (ad 176)), (17, .ref (ad 178)), (18, .int x18), (19, .ref (ad 179)), (20, .ref (ad 180)), (21, .ref (ad 181)), (22, .int x22n9), (25, .long x25), (27, .int x27), (28, .int x28n9)] → rec217 (σ9, x22n9, x28n9) = some res → W p l e ({ frames := 9, cells := 4, slots := 46, locals := 159 } : Room) s m args below meth c H locs kc ns (MQ below (va_Qi (fun (r : Int32) (_ : Unit) => r = res.1) (fun _ => gO D A (GW L y ad0 res.2)) A) args s 4 46 A) (F0 m 217 ls [])) (hkc : kc ≤ 4) (hns : ns ≤ 46) {H : Heap} {locs : List Loc} {ls : Array Slot} (hY : gY D y A s (L ++ [179, 180, 181]) ad σ H locs) (hl : lv_has ls 31 [(0, .ref (ad 0)), (1, .ref (ad 161)), (2, .ref (ad 162)), (4, .ref (ad 164)), (7, .ref (ad 167)), (8, .ref (ad 168)), (10, .ref (ad 170)), (11, .ref (ad 171)), (12, .ref (ad 172)), (13, .ref (ad 173)), (14, .ref (ad 174)), (15, .ref (ad 175)), (16, .ref (ad 176)), (17, .ref (ad 178)), (18, .int x18), (19, .ref (ad 179)), (20, .ref (ad 180)), (21, .ref (ad 181)), (25, .long x25), (27, .int x27), (28, .int x28)]) (h : fL_isAll_353 N rec217 σ x18 x25 x27 x28 = some res) : W p l e ({ frames := 9, cells := 4, slots := 46, locals := 159 } : Room) s m args below meth c H locs kc ns (MQ below (va_Qi (fun (r : Int32) (_ : Unit) => r = res.1) (fun _ => gO D A (GW L y ad0 res.2)) A) args s 4 46 A) (F0 m 353 ls []) := by
  unfold fL_isAll_353 at h
  refine lv_iconst (v := 0) hx hb dL_isAll_353 (by decide) ?_
  exact wL_isAll_354 hx hb hr hml hown hg hlocks hK hA hL hfl hZ hL2 ha hrec217 (by first | omega | (simp only [g_l0]; omega)) (by first | omega | (simp only [g_l0]; omega)) hY (lv_sub hl [0, 1, 2, 3, 4, 5, 6, 7, 8, 9, 10, 11, 12, 13, 14, 15, 16, 17, 18, 19, 20] rfl) h
def fL_isAll_349 (N : Nat) (rec217 : (gS × Int32 × Int32) → Option (Int32 × gS)) (σ : gS) (x18 : Int32) (x25 : Int64) (x27 : Int32) (x28 : Int32) : Option (Int32 × gS) := fL_isAll_354 N rec217 σ x18 x25 x27 x28 1
set_option maxRecDepth 100000 in
set_option maxHeartbeats 4000000 in
theorem wL_isAll_349 {rec217 : (gS × Int32 × Int32) → Option (Int32 × gS)} {σ : gS} {x18 : Int32} {x25 : Int64} {x27 : Int32} {x28 : Int32} {ad : Nat → Nat} {kc ns : Nat} (hx : p.tables.exec = Jvm.exec) (hb : c.code = cL_isAll) (hr : meth.sig.returnType = (some .boolean)) (hml : c.maxLocals = 31) (hown : s.vm.findClass RL = some m.cls) (hg : ∀ w ∈ wsL_law, w.before args s = true) (hlocks : meth.locks = false) (hK : gK D y aS s) (hA : ∀ q, s.heap.size ≤ q → A q) (hL : ∀ k, k < 179 → k ∈ L) (hfl : l.stackTraces = false) (hZ : gZ A s s.heap) (hL2 : ∀ k ∈ L, k < 179) (ha : ∀ k, k < 179 → ad k = ad0 k) (hrec217 : ∀ {ad : Nat → Nat} {kc ns : Nat} (ha : ∀ k, k < 179 → ad k = ad0 k) {σ9 : gS} {x22n9 : Int32} {x28n9 : Int32} (hkc : kc ≤ 4) (hns : ns ≤ 46) (H : Heap) (locs : List Loc) (ls : Array Slot), gY D y A s (L ++ [179, 180, 181]) ad σ9 H locs → lv_has ls 31 [(0, .ref (ad 0)), (1, .ref (ad 161)), (2, .ref (ad 162)), (4, .ref (ad 164)), (7, .ref (ad 167)), (8, .ref (ad 168)), (10, .ref (ad 170)), (11, .ref (ad 171)), (12, .ref (ad 172)), (13, .ref (ad 173)), (14, .ref (ad 174)), (15, .ref (ad 175)), (16, .ref (ad 176)), (17, .ref (ad 178)), (18, .int x18), (19, .ref (ad 179)), (20, .ref (ad 180)), (21, .ref (ad 181)), (22, .int x22n9), (25, .long x25), (27, .int x27), (28, .int x28n9)] → rec217 (σ9, x22n9, x28n9) = some res → W p l e ({ frames := 9, cells := 4, slots := 46, locals := 159 } : Room) s m args below meth c H locs kc ns (MQ below (va_Qi (fun (r : Int32) (_ : Unit) => r = res.1) (fun _ => gO D A (GW L y ad0 res.2)) A) args s 4 46 A) (F0 m 217 ls [])) (hkc : kc ≤ 4) (hns : ns ≤ 46) {H : Heap} {locs : List Loc} {ls : Array Slot} (hY : gY D y A s (L ++ [179, 180, 181]) ad σ H locs) (hl : lv_has ls 31 [(0, .ref (ad 0)), (1, .ref (ad 161)), (2, .ref (ad 162)), (4, .ref (ad 164)), (7, .ref (ad 167)), (8, .ref (ad 168)), (10, .ref (ad 170)), (11, .ref (ad 171)), (12, .ref (ad 172)), (13, .ref (ad 173)), (14, .ref (ad 174)), (15, .ref (ad 175)), (16, .ref (ad 176)), (17, .ref (ad 178)), (18, .int x18), (19, .ref (ad 179)), (20, .ref (ad 180)), (21, .ref (ad 181)), (25, .long x25), (27, .int x27), (28, .int x28)]) (h : fL_isAll_349 N rec217 σ x18 x25 x27 x28 = some res) : W p l e ({ frames := 9, cells := 4, slots := 46, locals := 159 } : Room) s m args below meth c H locs kc ns (MQ below (va_Qi (fun (r : Int32) (_ : Unit) => r = res.1) (fun _ => gO D A (GW L y ad0 res.2)) A) args s 4 46 A) (F0 m 349 ls []) := by
  unfold fL_isAll_349 at h
  refine lv_iconst (v := 1) hx hb dL_isAll_349 (by decide) ?_
  refine lv_goto (tgt := 354) hx hb dL_isAll_350 (by decide) ?_
  exact wL_isAll_354 hx hb hr hml hown hg hlocks hK hA hL hfl hZ hL2 ha hrec217 (by first | omega | (simp only [g_l0]; omega)) (by first | omega | (simp only [g_l0]; omega)) hY (lv_sub hl [0, 1, 2, 3, 4, 5, 6, 7, 8, 9, 10, 11, 12, 13, 14, 15, 16, 17, 18, 19, 20] rfl) h
def fL_isAll_269 (N : Nat) (rec217 : (gS × Int32 × Int32) → Option (Int32 × gS)) (rec236 : (gS × Int32 × Int32) → Option (Int32 × gS)) (σ : gS) (x18 : Int32) (x25 : Int64) (x27 : Int32) (x28 : Int32) (x30 : Int32) (xs0 : Int32) : Option (Int32 × gS) := rec236 (σ, xs0, (x30 + 1))
set_option maxRecDepth 100000 in
set_option maxHeartbeats 4000000 in
theorem wL_isAll_269 {rec217 : (gS × Int32 × Int32) → Option (Int32 × gS)} {rec236 : (gS × Int32 × Int32) → Option (Int32 × gS)} {σ : gS} {x18 : Int32} {x25 : Int64} {x27 : Int32} {x28 : Int32} {x30 : Int32} {xs0 : Int32} {ad : Nat → Nat} {kc ns : Nat} (hx : p.tables.exec = Jvm.exec) (hb : c.code = cL_isAll) (hr : meth.sig.returnType = (some .boolean)) (hml : c.maxLocals = 31) (hown : s.vm.findClass RL = some m.cls) (hg : ∀ w ∈ wsL_law, w.before args s = true) (hlocks : meth.locks = false) (hK : gK D y aS s) (hA : ∀ q, s.heap.size ≤ q → A q) (hL : ∀ k, k < 179 → k ∈ L) (hfl : l.stackTraces = false) (hZ : gZ A s s.heap) (hL2 : ∀ k ∈ L, k < 179) (ha : ∀ k, k < 179 → ad k = ad0 k) (hrec217 : ∀ {ad : Nat → Nat} {kc ns : Nat} (ha : ∀ k, k < 179 → ad k = ad0 k) {σ9 : gS} {x22n9 : Int32} {x28n9 : Int32} (hkc : kc ≤ 4) (hns : ns ≤ 46) (H : Heap) (locs : List Loc) (ls : Array Slot), gY D y A s (L ++ [179, 180, 181]) ad σ9 H locs → lv_has ls 31 [(0, .ref (ad 0)), (1, .ref (ad 161)), (2, .ref (ad 162)), (4, .ref (ad 164)), (7, .ref (ad 167)), (8, .ref (ad 168)), (10, .ref (ad 170)), (11, .ref (ad 171)), (12, .ref (ad 172)), (13, .ref (ad 173)), (14, .ref (ad 174)), (15, .ref (ad 175)), (16, .ref (ad 176)), (17, .ref (ad 178)), (18, .int x18), (19, .ref (ad 179)), (20, .ref (ad 180)), (21, .ref (ad 181)), (22, .int x22n9), (25, .long x25), (27, .int x27), (28, .int x28n9)] → rec217 (σ9, x22n9, x28n9) = some res → W p l e ({ frames := 9, cells := 4, slots := 46, locals := 159 } : Room) s m args below meth c H locs kc ns (MQ below (va_Qi (fun (r : Int32) (_ : Unit) => r = res.1) (fun _ => gO D A (GW L y ad0 res.2)) A) args s 4 46 A) (F0 m 217 ls [])) (hrec236 : ∀ {ad : Nat → Nat} {kc ns : Nat} (ha : ∀ k, k < 179 → ad k = ad0 k) {σ9 : gS} {x29n9 : Int32} {x30n9 : Int32} (hkc : kc ≤ 4) (hns : ns ≤ 46) (H : Heap) (locs : List Loc) (ls : Array Slot), gY D y A s (L ++ [179, 180, 181]) ad σ9 H locs → lv_has ls 31 [(0, .ref (ad 0)), (1, .ref (ad 161)), (2, .ref (ad 162)), (4, .ref (ad 164)), (7, .ref (ad 167)), (8, .ref (ad 168)), (10, .ref (ad 170)), (11, .ref (ad 171)), (12, .ref (ad 172)), (13, .ref (ad 173)), (14, .ref (ad 174)), (15, .ref (ad 175)), (16, .ref (ad 176)), (17, .ref (ad 178)), (18, .int x18), (19, .ref (ad 179)), (20, .ref (ad 180)), (21, .ref (ad 181)), (25, .long x25), (27, .int x27), (28, .int x28), (29, .int x29n9), (30, .int x30n9)] → rec236 (σ9, x29n9, x30n9) = some res → W p l e ({ frames := 9, cells := 4, slots := 46, locals := 159 } : Room) s m args below meth c H locs kc ns (MQ below (va_Qi (fun (r : Int32) (_ : Unit) => r = res.1) (fun _ => gO D A (GW L y ad0 res.2)) A) args s 4 46 A) (F0 m 236 ls [])) (hkc : kc ≤ 4) (hns : ns ≤ 46) {H : Heap} {locs : List Loc} {ls : Array Slot} (hY : gY D y A s (L ++ [179, 180, 181]) ad σ H locs) (hl : lv_has ls 31 [(0, .ref (ad 0)), (1, .ref (ad 161)), (2, .ref (ad 162)), (4, .ref (ad 164)), (7, .ref (ad 167)), (8, .ref (ad 168)), (10, .ref (ad 170)), (11, .ref (ad 171)), (12, .ref (ad 172)), (13, .ref (ad 173)), (14, .ref (ad 174)), (15, .ref (ad 175)), (16, .ref (ad 176)), (17, .ref (ad 178)), (18, .int x18), (19, .ref (ad 179)), (20, .ref (ad 180)), (21, .ref (ad 181)), (25, .long x25), (27, .int x27), (28, .int x28), (30, .int x30)]) (h : fL_isAll_269 N rec217 rec236 σ x18 x25 x27 x28 x30 xs0 = some res) : W p l e ({ frames := 9, cells := 4, slots := 46, locals := 159 } : Room) s m args below meth c H locs kc ns (MQ below (va_Qi (fun (r : Int32) (_ : Unit) => r = res.1) (fun _ => gO D A (GW L y ad0 res.2)) A) args s 4 46 A) (F0 m 269 ls [.int xs0]) := by
  unfold fL_isAll_269 at h
  refine lv_istore (lv' := [(29, .int xs0), (0, .ref (ad 0)), (1, .ref (ad 161)), (2, .ref (ad 162)), (4, .ref (ad 164)), (7, .ref (ad 167)), (8, .ref (ad 168)), (10, .ref (ad 170)), (11, .ref (ad 171)), (12, .ref (ad 172)), (13, .ref (ad 173)), (14, .ref (ad 174)), (15, .ref (ad 175)), (16, .ref (ad 176)), (17, .ref (ad 178)), (18, .int x18), (19, .ref (ad 179)), (20, .ref (ad 180)), (21, .ref (ad 181)), (25, .long x25), (27, .int x27), (28, .int x28), (30, .int x30)]) hx hb dL_isAll_269 hl (by decide) rfl ?_
  clear hl
  intro ls hl
  refine lv_iinc (v := (x30 + 1)) (lv' := [(30, .int (x30 + 1)), (29, .int xs0), (0, .ref (ad 0)), (1, .ref (ad 161)), (2, .ref (ad 162)), (4, .ref (ad 164)), (7, .ref (ad 167)), (8, .ref (ad 168)), (10, .ref (ad 170)), (11, .ref (ad 171)), (12, .ref (ad 172)), (13, .ref (ad 173)), (14, .ref (ad 174)), (15, .ref (ad 175)), (16, .ref (ad 176)), (17, .ref (ad 178)), (18, .int x18), (19, .ref (ad 179)), (20, .ref (ad 180)), (21, .ref (ad 181)), (25, .long x25), (27, .int x27), (28, .int x28)]) hx hb dL_isAll_271 hl (k := 22) rfl rfl (by decide) rfl ?_
  clear hl
  intro ls hl
  refine lv_goto (tgt := 236) hx hb dL_isAll_274 (by decide) ?_
  exact hrec236 ha (by first | omega | (simp only [g_l0]; omega)) (by first | omega | (simp only [g_l0]; omega)) _ _ _ hY (lv_sub hl [2, 3, 4, 5, 6, 7, 8, 9, 10, 11, 12, 13, 14, 15, 16, 17, 18, 19, 20, 21, 22, 1, 0] rfl) h
def fL_isAll_236 (N : Nat) (rec217 : (gS × Int32 × Int32) → Option (Int32 × gS)) (x18 : Int32) (x25 : Int64) (x27 : Int32) (x28 : Int32) (rec236 : (gS × Int32 × Int32) → Option (Int32 × gS)) (xx : gS × Int32 × Int32) : Option (Int32 × gS) := match xx with
  | (σ, x29, x30) => if x27 ≤ x30 then ((fX11_state N σ x28).bind fun r_2 => if x28 < 0 ∨ 24 ≤ x28.toNatClampNeg then none else (if r_2 = (σ.1 164 x28.toNatClampNeg) then ((fX11_landedBy N σ x28).bind fun r_6 => if x28 < 0 ∨ 24 ≤ x28.toNatClampNeg then none else (if r_6 = (σ.1 167 x28.toNatClampNeg) then ((fX11_requires N σ x28).bind fun r_10 => (fL_required N σ x28).bind fun r_12 => if r_10 = r_12 then (if (x28 - x28 / 4 * 4) = (x18 - x18 / 4 * 4) then ((fX11_batchOf N σ x28).bind fun r_16 => if r_16.1 = x29 then (fL_isAll_349 N rec217 r_16.2 x18 x25 x27 x28) else (fL_isAll_353 N rec217 r_16.2 x18 x25 x27 x28)) else (fL_isAll_349 N rec217 σ x18 x25 x27 x28)) else (fL_isAll_353 N rec217 σ x18 x25 x27 x28)) else (fL_isAll_353 N rec217 σ x18 x25 x27 x28))) else (fL_isAll_353 N rec217 σ x18 x25 x27 x28))) else (if x30 < 0 ∨ 32 ≤ x30.toNatClampNeg then none else (if ((σ.1 179 x30.toNatClampNeg) - (σ.1 179 x30.toNatClampNeg) / 100 * 100) = x28 then (if x30 < 0 ∨ 32 ≤ x30.toNatClampNeg then none else (fL_isAll_269 N rec217 rec236 σ x18 x25 x27 x28 x30 ((σ.1 179 x30.toNatClampNeg) / 100))) else (fL_isAll_269 N rec217 rec236 σ x18 x25 x27 x28 x30 x29)))
set_option maxRecDepth 100000 in
set_option maxHeartbeats 4000000 in
theorem wL_isAll_236 {rec217 : (gS × Int32 × Int32) → Option (Int32 × gS)} {x18 : Int32} {x25 : Int64} {x27 : Int32} {x28 : Int32} (hx : p.tables.exec = Jvm.exec) (hb : c.code = cL_isAll) (hr : meth.sig.returnType = (some .boolean)) (hml : c.maxLocals = 31) (hown : s.vm.findClass RL = some m.cls) (hg : ∀ w ∈ wsL_law, w.before args s = true) (hlocks : meth.locks = false) (hK : gK D y aS s) (hA : ∀ q, s.heap.size ≤ q → A q) (hL : ∀ k, k < 179 → k ∈ L) (hfl : l.stackTraces = false) (hZ : gZ A s s.heap) (hL2 : ∀ k ∈ L, k < 179) (hrec217 : ∀ {ad : Nat → Nat} {kc ns : Nat} (ha : ∀ k, k < 179 → ad k = ad0 k) {σ9 : gS} {x22n9 : Int32} {x28n9 : Int32} (hkc : kc ≤ 4) (hns : ns ≤ 46) (H : Heap) (locs : List Loc) (ls : Array Slot), gY D y A s (L ++ [179, 180, 181]) ad σ9 H locs → lv_has ls 31 [(0, .ref (ad 0)), (1, .ref (ad 161)), (2, .ref (ad 162)), (4, .ref (ad 164)), (7, .ref (ad 167)), (8, .ref (ad 168)), (10, .ref (ad 170)), (11, .ref (ad 171)), (12, .ref (ad 172)), (13, .ref (ad 173)), (14, .ref (ad 174)), (15, .ref (ad 175)), (16, .ref (ad 176)), (17, .ref (ad 178)), (18, .int x18), (19, .ref (ad 179)), (20, .ref (ad 180)), (21, .ref (ad 181)), (22, .int x22n9), (25, .long x25), (27, .int x27), (28, .int x28n9)] → rec217 (σ9, x22n9, x28n9) = some res → W p l e ({ frames := 9, cells := 4, slots := 46, locals := 159 } : Room) s m args below meth c H locs kc ns (MQ below (va_Qi (fun (r : Int32) (_ : Unit) => r = res.1) (fun _ => gO D A (GW L y ad0 res.2)) A) args s 4 46 A) (F0 m 217 ls [])) : ∀ (n : Nat) {ad : Nat → Nat} {kc ns : Nat} (ha : ∀ k, k < 179 → ad k = ad0 k) {σ : gS} {x29 : Int32} {x30 : Int32} (hkc : kc ≤ 4) (hns : ns ≤ 46) (H : Heap) (locs : List Loc) (ls : Array Slot), gY D y A s (L ++ [179, 180, 181]) ad σ H locs → lv_has ls 31 [(0, .ref (ad 0)), (1, .ref (ad 161)), (2, .ref (ad 162)), (4, .ref (ad 164)), (7, .ref (ad 167)), (8, .ref (ad 168)), (10, .ref (ad 170)), (11, .ref (ad 171)), (12, .ref (ad 172)), (13, .ref (ad 173)), (14, .ref (ad 174)), (15, .ref (ad 175)), (16, .ref (ad 176)), (17, .ref (ad 178)), (18, .int x18), (19, .ref (ad 179)), (20, .ref (ad 180)), (21, .ref (ad 181)), (25, .long x25), (27, .int x27), (28, .int x28), (29, .int x29), (30, .int x30)] → lp (fL_isAll_236 N rec217 x18 x25 x27 x28) n (σ, x29, x30) = some res → W p l e ({ frames := 9, cells := 4, slots := 46, locals := 159 } : Room) s m args below meth c H locs kc ns (MQ below (va_Qi (fun (r : Int32) (_ : Unit) => r = res.1) (fun _ => gO D A (GW L y ad0 res.2)) A) args s 4 46 A) (F0 m 236 ls []) := by
  intro n
  induction n with
  | zero => intro ad kc ns ha σ x29 x30 hkc hns H locs ls hY hl h; exact nomatch (show none = some res from h)
  | succ n hrec236 =>
    intro ad kc ns ha σ x29 x30 hkc hns H locs ls hY hl h
    replace h : fL_isAll_236 N rec217 x18 x25 x27 x28 (lp (fL_isAll_236 N rec217 x18 x25 x27 x28) n) (σ, x29, x30) = some res := h
    generalize lp (fL_isAll_236 N rec217 x18 x25 x27 x28) n = rec236 at h hrec236
    unfold fL_isAll_236 at h
    try dsimp only at h
    refine lv_iload hx hb dL_isAll_236 (lv_at hl 22 rfl) ?_
    refine lv_iload hx hb dL_isAll_238 (lv_at hl 19 rfl) ?_
    refine lv_icmp_ge (tgt := 277) hx hb dL_isAll_240 (by decide) (fun z_1 => ?_) (fun z_1 => ?_)
    ·
      rw [if_pos z_1] at h
      refine lv_aload_n hx hb dL_isAll_277 rfl (lv_at hl 0 rfl) ?_
      refine lv_iload hx hb dL_isAll_278 (lv_at hl 20 rfl) ?_
      obtain ⟨r_2, e_3, h⟩ := g_bind h
      refine G_ai hY hA (va_runV (As := [.int x28]) (rest := []) ⟨hx, hb, hml, hown, hg⟩ (kX11_state l D y aS H.size (L ++ [179, 180, 181]) (fun k hk => List.mem_append_left _ (hL k hk)) ad N σ x28 _ e_3) (cwV 1 hg ggV_RL_165_X11_state rfl rfl rfl (by decide +kernel) ⟨Nat.le_of_ble_eq_true rfl, Nat.le_of_ble_eq_true rfl⟩) (G_pV (q := (RX11, TX11, 19)) hK hY (List.mem_append_left _ (hL 0 (by decide))) gk_0 (by decide) rfl) rfl rfl hl.1 rfl (lv_room (Nat.le_of_ble_eq_true rfl)) dL_isAll_280 ⟨(by dsimp only; omega), (by dsimp only; omega)⟩) ?_
      clear hY
      rintro _ H locs rfl hY
      refine lv_aload hx hb dL_isAll_283 (lv_at hl 3 rfl) ?_
      refine lv_iload hx hb dL_isAll_285 (lv_at hl 20 rfl) ?_
      obtain ⟨z_4, h⟩ := g_guard h
      refine G_iald (j := x28.toNatClampNeg) hx hb hK hY (List.mem_append_left _ (hL 164 (by decide))) gk_164 (by rw [gl_164]; exact z_4) rfl dL_isAll_287 ?_
      refine lv_icmp_ne (tgt := 353) hx hb dL_isAll_288 (by decide) (fun z_5 => ?_) (fun z_5 => ?_)
      ·
        rw [if_neg z_5] at h
        exact wL_isAll_353 hx hb hr hml hown hg hlocks hK hA hL hfl hZ hL2 ha hrec217 (by first | omega | (simp only [g_l0]; omega)) (by first | omega | (simp only [g_l0]; omega)) hY (lv_sub hl [0, 1, 2, 3, 4, 5, 6, 7, 8, 9, 10, 11, 12, 13, 14, 15, 16, 17, 18, 19, 20] rfl) h
      ·
        rw [if_pos z_5] at h
        refine lv_aload_n hx hb dL_isAll_291 rfl (lv_at hl 0 rfl) ?_
        refine lv_iload hx hb dL_isAll_292 (lv_at hl 20 rfl) ?_
        obtain ⟨r_6, e_7, h⟩ := g_bind h
        refine G_ai hY hA (va_runV (As := [.int x28]) (rest := []) ⟨hx, hb, hml, hown, hg⟩ (kX11_landedBy l D y aS H.size (L ++ [179, 180, 181]) (fun k hk => List.mem_append_left _ (hL k hk)) ad N σ x28 _ e_7) (cwV 1 hg ggV_RL_97_X11_landedBy rfl rfl rfl (by decide +kernel) ⟨Nat.le_of_ble_eq_true rfl, Nat.le_of_ble_eq_true rfl⟩) (G_pV (q := (RX11, TX11, 19)) hK hY (List.mem_append_left _ (hL 0 (by decide))) gk_0 (by decide) rfl) rfl rfl hl.1 rfl (lv_room (Nat.le_of_ble_eq_true rfl)) dL_isAll_294 ⟨(by dsimp only; omega), (by dsimp only; omega)⟩) ?_
        clear hY
        rintro _ H locs rfl hY
        refine lv_aload hx hb dL_isAll_297 (lv_at hl 4 rfl) ?_
        refine lv_iload hx hb dL_isAll_299 (lv_at hl 20 rfl) ?_
        obtain ⟨z_8, h⟩ := g_guard h
        refine G_iald (j := x28.toNatClampNeg) hx hb hK hY (List.mem_append_left _ (hL 167 (by decide))) gk_167 (by rw [gl_167]; exact z_8) rfl dL_isAll_301 ?_
        refine lv_icmp_ne (tgt := 353) hx hb dL_isAll_302 (by decide) (fun z_9 => ?_) (fun z_9 => ?_)
        ·
          rw [if_neg z_9] at h
          exact wL_isAll_353 hx hb hr hml hown hg hlocks hK hA hL hfl hZ hL2 ha hrec217 (by first | omega | (simp only [g_l0]; omega)) (by first | omega | (simp only [g_l0]; omega)) hY (lv_sub hl [0, 1, 2, 3, 4, 5, 6, 7, 8, 9, 10, 11, 12, 13, 14, 15, 16, 17, 18, 19, 20] rfl) h
        ·
          rw [if_pos z_9] at h
          refine lv_aload_n hx hb dL_isAll_305 rfl (lv_at hl 0 rfl) ?_
          refine lv_iload hx hb dL_isAll_306 (lv_at hl 20 rfl) ?_
          obtain ⟨r_10, e_11, h⟩ := g_bind h
          refine G_ai hY hA (va_runV (As := [.int x28]) (rest := []) ⟨hx, hb, hml, hown, hg⟩ (kX11_requires l D y aS H.size (L ++ [179, 180, 181]) (fun k hk => List.mem_append_left _ (hL k hk)) ad N σ x28 _ e_11) (cwV 1 hg ggV_RL_168_X11_requires rfl rfl rfl (by decide +kernel) ⟨Nat.le_of_ble_eq_true rfl, Nat.le_of_ble_eq_true rfl⟩) (G_pV (q := (RX11, TX11, 19)) hK hY (List.mem_append_left _ (hL 0 (by decide))) gk_0 (by decide) rfl) rfl rfl hl.1 rfl (lv_room (Nat.le_of_ble_eq_true rfl)) dL_isAll_308 ⟨(by dsimp only; omega), (by dsimp only; omega)⟩) ?_
          clear hY
          rintro _ H locs rfl hY
          refine lv_aload_n hx hb dL_isAll_311 rfl (lv_at hl 1 rfl) ?_
          refine lv_aload_n hx hb dL_isAll_312 rfl (lv_at hl 2 rfl) ?_
          refine lv_aload hx hb dL_isAll_313 (lv_at hl 5 rfl) ?_
          refine lv_aload hx hb dL_isAll_315 (lv_at hl 8 rfl) ?_
          refine lv_aload hx hb dL_isAll_317 (lv_at hl 9 rfl) ?_
          refine lv_iload hx hb dL_isAll_319 (lv_at hl 20 rfl) ?_
          obtain ⟨r_12, e_13, h⟩ := g_bind h
          refine G_ai hY hA (va_runS (As := [.ref (ad 161), .ref (ad 162), .ref (ad 168), .ref (ad 172), .ref (ad 173), .int x28]) (rest := [.int r_10]) ⟨hx, hb, hml, hown, hg⟩ (kL_required l D y aS H.size (L ++ [179, 180, 181]) (fun k hk => List.mem_append_left _ (hL k hk)) ad N σ x28 _ e_13) (va_cwS 6 hg ggS_RL_53_L_required rfl rfl rfl (by decide +kernel) ⟨Nat.le_of_ble_eq_true rfl, Nat.le_of_ble_eq_true rfl⟩) (G_pS hK hY) rfl rfl hl.1 rfl (lv_room (Nat.le_of_ble_eq_true rfl)) dL_isAll_321 ⟨(by dsimp only; omega), (by dsimp only; omega)⟩) ?_
          clear hY
          rintro _ H locs rfl hY
          refine lv_icmp_ne (tgt := 353) hx hb dL_isAll_324 (by decide) (fun z_14 => ?_) (fun z_14 => ?_)
          ·
            rw [if_neg z_14] at h
            exact wL_isAll_353 hx hb hr hml hown hg hlocks hK hA hL hfl hZ hL2 ha hrec217 (by first | omega | (simp only [g_l0]; omega)) (by first | omega | (simp only [g_l0]; omega)) hY (lv_sub hl [0, 1, 2, 3, 4, 5, 6, 7, 8, 9, 10, 11, 12, 13, 14, 15, 16, 17, 18, 19, 20] rfl) h
          ·
            rw [if_pos z_14] at h
            refine lv_iload hx hb dL_isAll_327 (lv_at hl 20 rfl) ?_
            refine lv_iconst (v := 4) hx hb dL_isAll_329 (by decide) ?_
            refine lv_irem hx hb dL_isAll_330 (by decide +kernel) ?_
            refine lv_iload hx hb dL_isAll_331 (lv_at hl 14 rfl) ?_
            refine lv_iconst (v := 4) hx hb dL_isAll_333 (by decide) ?_
            refine lv_irem hx hb dL_isAll_334 (by decide +kernel) ?_
            refine lv_icmp_ne (tgt := 349) hx hb dL_isAll_335 (by decide) (fun z_15 => ?_) (fun z_15 => ?_)
            ·
              rw [if_neg z_15] at h
              exact wL_isAll_349 hx hb hr hml hown hg hlocks hK hA hL hfl hZ hL2 ha hrec217 (by first | omega | (simp only [g_l0]; omega)) (by first | omega | (simp only [g_l0]; omega)) hY (lv_sub hl [0, 1, 2, 3, 4, 5, 6, 7, 8, 9, 10, 11, 12, 13, 14, 15, 16, 17, 18, 19, 20] rfl) h
            ·
              rw [if_pos z_15] at h
              refine lv_aload_n hx hb dL_isAll_338 rfl (lv_at hl 0 rfl) ?_
              refine lv_iload hx hb dL_isAll_339 (lv_at hl 20 rfl) ?_
              obtain ⟨r_16, e_17, h⟩ := g_bind h
              refine G_ai hY hA (va_runV (As := [.int x28]) (rest := []) ⟨hx, hb, hml, hown, hg⟩ (kX11_batchOf l D y aS H.size (L ++ [179, 180, 181]) (fun k hk => List.mem_append_left _ (hL k hk)) ad N σ x28 _ e_17) (cwV 1 hg ggV_RL_171_X11_batchOf rfl rfl rfl (by decide +kernel) ⟨Nat.le_of_ble_eq_true rfl, Nat.le_of_ble_eq_true rfl⟩) (G_pV (q := (RX11, TX11, 19)) hK hY (List.mem_append_left _ (hL 0 (by decide))) gk_0 (by decide) rfl) rfl rfl hl.1 rfl (lv_room (Nat.le_of_ble_eq_true rfl)) dL_isAll_341 ⟨(by dsimp only; omega), (by dsimp only; omega)⟩) ?_
              clear hY
              rintro _ H locs rfl hY
              refine lv_iload hx hb dL_isAll_344 (lv_at hl 21 rfl) ?_
              refine lv_icmp_ne (tgt := 353) hx hb dL_isAll_346 (by decide) (fun z_18 => ?_) (fun z_18 => ?_)
              ·
                rw [if_neg z_18] at h
                exact wL_isAll_353 hx hb hr hml hown hg hlocks hK hA hL hfl hZ hL2 ha hrec217 (by first | omega | (simp only [g_l0]; omega)) (by first | omega | (simp only [g_l0]; omega)) hY (lv_sub hl [0, 1, 2, 3, 4, 5, 6, 7, 8, 9, 10, 11, 12, 13, 14, 15, 16, 17, 18, 19, 20] rfl) h
              ·
                rw [if_pos z_18] at h
                exact wL_isAll_349 hx hb hr hml hown hg hlocks hK hA hL hfl hZ hL2 ha hrec217 (by first | omega | (simp only [g_l0]; omega)) (by first | omega | (simp only [g_l0]; omega)) hY (lv_sub hl [0, 1, 2, 3, 4, 5, 6, 7, 8, 9, 10, 11, 12, 13, 14, 15, 16, 17, 18, 19, 20] rfl) h
    ·
      rw [if_neg z_1] at h
      refine lv_aload hx hb dL_isAll_243 (lv_at hl 15 rfl) ?_
      refine lv_iload hx hb dL_isAll_245 (lv_at hl 22 rfl) ?_
      obtain ⟨z_19, h⟩ := g_guard h
      refine G_iald (j := x30.toNatClampNeg) hx hb hK hY (by simp) gk_179 (by rw [gl_179]; exact z_19) rfl dL_isAll_247 ?_
      refine lv_bipush (v := 100) hx hb dL_isAll_248 (by decide +kernel) ?_
      refine lv_irem hx hb dL_isAll_250 (by decide +kernel) ?_
      refine lv_iload hx hb dL_isAll_251 (lv_at hl 20 rfl) ?_
      refine lv_icmp_ne (tgt := 267) hx hb dL_isAll_253 (by decide) (fun z_20 => ?_) (fun z_20 => ?_)
      ·
        rw [if_neg z_20] at h
        refine lv_iload hx hb dL_isAll_267 (lv_at hl 21 rfl) ?_
        exact wL_isAll_269 hx hb hr hml hown hg hlocks hK hA hL hfl hZ hL2 ha hrec217 hrec236 (by first | omega | (simp only [g_l0]; omega)) (by first | omega | (simp only [g_l0]; omega)) hY (lv_sub hl [0, 1, 2, 3, 4, 5, 6, 7, 8, 9, 10, 11, 12, 13, 14, 15, 16, 17, 18, 19, 20, 22] rfl) h
      ·
        rw [if_pos z_20] at h
        refine lv_aload hx hb dL_isAll_256 (lv_at hl 15 rfl) ?_
        refine lv_iload hx hb dL_isAll_258 (lv_at hl 22 rfl) ?_
        obtain ⟨z_21, h⟩ := g_guard h
        refine G_iald (j := x30.toNatClampNeg) hx hb hK hY (by simp) gk_179 (by rw [gl_179]; exact z_21) rfl dL_isAll_260 ?_
        refine lv_bipush (v := 100) hx hb dL_isAll_261 (by decide +kernel) ?_
        refine lv_idiv hx hb dL_isAll_263 (by decide +kernel) ?_
        refine lv_goto (tgt := 269) hx hb dL_isAll_264 (by decide) ?_
        exact wL_isAll_269 hx hb hr hml hown hg hlocks hK hA hL hfl hZ hL2 ha hrec217 hrec236 (by first | omega | (simp only [g_l0]; omega)) (by first | omega | (simp only [g_l0]; omega)) hY (lv_sub hl [0, 1, 2, 3, 4, 5, 6, 7, 8, 9, 10, 11, 12, 13, 14, 15, 16, 17, 18, 19, 20, 22] rfl) h
def fL_isAll_217 (N : Nat) (x18 : Int32) (x25 : Int64) (x27 : Int32) (rec217 : (gS × Int32 × Int32) → Option (Int32 × gS)) (xx : gS × Int32 × Int32) : Option (Int32 × gS) := match xx with
  | (σ, x22, x28) => if (σ.1 161 0) ≤ x28 then (fL_isAll_362 N σ x18 x22 x25 x27) else (if x22 = 0 then (fL_isAll_362 N σ x18 x22 x25 x27) else (lp (fL_isAll_236 N rec217 x18 x25 x27 x28) N (σ, (-1), 0)))
set_option maxRecDepth 100000 in
set_option maxHeartbeats 4000000 in
theorem wL_isAll_217 {x18 : Int32} {x25 : Int64} {x27 : Int32} (hx : p.tables.exec = Jvm.exec) (hb : c.code = cL_isAll) (hr : meth.sig.returnType = (some .boolean)) (hml : c.maxLocals = 31) (hown : s.vm.findClass RL = some m.cls) (hg : ∀ w ∈ wsL_law, w.before args s = true) (hlocks : meth.locks = false) (hK : gK D y aS s) (hA : ∀ q, s.heap.size ≤ q → A q) (hL : ∀ k, k < 179 → k ∈ L) (hfl : l.stackTraces = false) (hZ : gZ A s s.heap) (hL2 : ∀ k ∈ L, k < 179) : ∀ (n : Nat) {ad : Nat → Nat} {kc ns : Nat} (ha : ∀ k, k < 179 → ad k = ad0 k) {σ : gS} {x22 : Int32} {x28 : Int32} (hkc : kc ≤ 4) (hns : ns ≤ 46) (H : Heap) (locs : List Loc) (ls : Array Slot), gY D y A s (L ++ [179, 180, 181]) ad σ H locs → lv_has ls 31 [(0, .ref (ad 0)), (1, .ref (ad 161)), (2, .ref (ad 162)), (4, .ref (ad 164)), (7, .ref (ad 167)), (8, .ref (ad 168)), (10, .ref (ad 170)), (11, .ref (ad 171)), (12, .ref (ad 172)), (13, .ref (ad 173)), (14, .ref (ad 174)), (15, .ref (ad 175)), (16, .ref (ad 176)), (17, .ref (ad 178)), (18, .int x18), (19, .ref (ad 179)), (20, .ref (ad 180)), (21, .ref (ad 181)), (22, .int x22), (25, .long x25), (27, .int x27), (28, .int x28)] → lp (fL_isAll_217 N x18 x25 x27) n (σ, x22, x28) = some res → W p l e ({ frames := 9, cells := 4, slots := 46, locals := 159 } : Room) s m args below meth c H locs kc ns (MQ below (va_Qi (fun (r : Int32) (_ : Unit) => r = res.1) (fun _ => gO D A (GW L y ad0 res.2)) A) args s 4 46 A) (F0 m 217 ls []) := by
  intro n
  induction n with
  | zero => intro ad kc ns ha σ x22 x28 hkc hns H locs ls hY hl h; exact nomatch (show none = some res from h)
  | succ n hrec217 =>
    intro ad kc ns ha σ x22 x28 hkc hns H locs ls hY hl h
    replace h : fL_isAll_217 N x18 x25 x27 (lp (fL_isAll_217 N x18 x25 x27) n) (σ, x22, x28) = some res := h
    generalize lp (fL_isAll_217 N x18 x25 x27) n = rec217 at h hrec217
    unfold fL_isAll_217 at h
    try dsimp only at h
    refine lv_iload hx hb dL_isAll_217 (lv_at hl 21 rfl) ?_
    refine lv_aload_n hx hb dL_isAll_219 rfl (lv_at hl 1 rfl) ?_
    refine lv_iconst (v := 0) hx hb dL_isAll_220 (by decide) ?_
    refine G_iald (j := 0) hx hb hK hY (List.mem_append_left _ (hL 161 (by decide))) gk_161 (by rw [gl_161]; decide +kernel) (by decide +kernel) dL_isAll_221 ?_
    refine lv_icmp_ge (tgt := 362) hx hb dL_isAll_222 (by decide) (fun z_1 => ?_) (fun z_1 => ?_)
    ·
      rw [if_pos z_1] at h
      exact wL_isAll_362 hx hb hr hml hown hg hlocks hK hA hL hfl hZ hL2 ha (by first | omega | (simp only [g_l0]; omega)) (by first | omega | (simp only [g_l0]; omega)) hY (lv_sub hl [0, 1, 2, 5, 6, 7, 8, 9, 10, 11, 12, 13, 14, 15, 16, 17, 18, 19, 20] rfl) h
    ·
      rw [if_neg z_1] at h
      refine lv_iload hx hb dL_isAll_225 (lv_at hl 18 rfl) ?_
      refine lv_if_eq (tgt := 362) hx hb dL_isAll_227 (by decide) (fun z_2 => ?_) (fun z_2 => ?_)
      ·
        rw [if_pos z_2] at h
        exact wL_isAll_362 hx hb hr hml hown hg hlocks hK hA hL hfl hZ hL2 ha (by first | omega | (simp only [g_l0]; omega)) (by first | omega | (simp only [g_l0]; omega)) hY (lv_sub hl [0, 1, 2, 5, 6, 7, 8, 9, 10, 11, 12, 13, 14, 15, 16, 17, 18, 19, 20] rfl) h
      ·
        rw [if_neg z_2] at h
        refine lv_iconst (v := (-1)) hx hb dL_isAll_230 (by decide) ?_
        refine lv_istore (lv' := [(29, .int (-1)), (0, .ref (ad 0)), (1, .ref (ad 161)), (2, .ref (ad 162)), (4, .ref (ad 164)), (7, .ref (ad 167)), (8, .ref (ad 168)), (10, .ref (ad 170)), (11, .ref (ad 171)), (12, .ref (ad 172)), (13, .ref (ad 173)), (14, .ref (ad 174)), (15, .ref (ad 175)), (16, .ref (ad 176)), (17, .ref (ad 178)), (18, .int x18), (19, .ref (ad 179)), (20, .ref (ad 180)), (21, .ref (ad 181)), (22, .int x22), (25, .long x25), (27, .int x27), (28, .int x28)]) hx hb dL_isAll_231 hl (by decide) rfl ?_
        clear hl
        intro ls hl
        refine lv_iconst (v := 0) hx hb dL_isAll_233 (by decide) ?_
        refine lv_istore (lv' := [(30, .int 0), (29, .int (-1)), (0, .ref (ad 0)), (1, .ref (ad 161)), (2, .ref (ad 162)), (4, .ref (ad 164)), (7, .ref (ad 167)), (8, .ref (ad 168)), (10, .ref (ad 170)), (11, .ref (ad 171)), (12, .ref (ad 172)), (13, .ref (ad 173)), (14, .ref (ad 174)), (15, .ref (ad 175)), (16, .ref (ad 176)), (17, .ref (ad 178)), (18, .int x18), (19, .ref (ad 179)), (20, .ref (ad 180)), (21, .ref (ad 181)), (22, .int x22), (25, .long x25), (27, .int x27), (28, .int x28)]) hx hb dL_isAll_234 hl (by decide) rfl ?_
        clear hl
        intro ls hl
        exact wL_isAll_236 hx hb hr hml hown hg hlocks hK hA hL hfl hZ hL2 hrec217 N ha (by first | omega | (simp only [g_l0]; omega)) (by first | omega | (simp only [g_l0]; omega)) _ _ _ hY (lv_sub hl [2, 3, 4, 5, 6, 7, 8, 9, 10, 11, 12, 13, 14, 15, 16, 17, 18, 19, 21, 22, 23, 1, 0] rfl) h
def fL_isAll_177 (N : Nat) (σ : gS) (x18 : Int32) (xs0 : Int32) : Option (Int32 × gS) := if ((σ.1 161 1) - 1) < 0 ∨ 26 ≤ ((σ.1 161 1) - 1).toNatClampNeg then none else ((fL_batches N σ (σ.2.1 171 (((σ.1 161 1) - 1).toNatClampNeg))).bind fun r_2 => lp (fL_isAll_217 N x18 (σ.2.1 171 (((σ.1 161 1) - 1).toNatClampNeg)) r_2.1) N (r_2.2, xs0, 0))
set_option maxRecDepth 100000 in
set_option maxHeartbeats 4000000 in
theorem wL_isAll_177 {σ : gS} {x18 : Int32} {xs0 : Int32} {ad : Nat → Nat} {kc ns : Nat} (hx : p.tables.exec = Jvm.exec) (hb : c.code = cL_isAll) (hr : meth.sig.returnType = (some .boolean)) (hml : c.maxLocals = 31) (hown : s.vm.findClass RL = some m.cls) (hg : ∀ w ∈ wsL_law, w.before args s = true) (hlocks : meth.locks = false) (hK : gK D y aS s) (hA : ∀ q, s.heap.size ≤ q → A q) (hL : ∀ k, k < 179 → k ∈ L) (hfl : l.stackTraces = false) (hZ : gZ A s s.heap) (hL2 : ∀ k ∈ L, k < 179) (ha : ∀ k, k < 179 → ad k = ad0 k) (hkc : kc ≤ 4) (hns : ns ≤ 46) {H : Heap} {locs : List Loc} {ls : Array Slot} (hY : gY D y A s (L ++ [179, 180, 181]) ad σ H locs) (hl : lv_has ls 31 [(0, .ref (ad 0)), (1, .ref (ad 161)), (2, .ref (ad 162)), (3, .ref (ad 163)), (4, .ref (ad 164)), (5, .ref (ad 165)), (6, .ref (ad 166)), (7, .ref (ad 167)), (8, .ref (ad 168)), (9, .ref (ad 169)), (10, .ref (ad 170)), (11, .ref (ad 171)), (12, .ref (ad 172)), (13, .ref (ad 173)), (14, .ref (ad 174)), (15, .ref (ad 175)), (16, .ref (ad 176)), (17, .ref (ad 178)), (18, .int x18), (19, .ref (ad 179)), (20, .ref (ad 180)), (21, .ref (ad 181))]) (h : fL_isAll_177 N σ x18 xs0 = some res) : W p l e ({ frames := 9, cells := 4, slots := 46, locals := 159 } : Room) s m args below meth c H locs kc ns (MQ below (va_Qi (fun (r : Int32) (_ : Unit) => r = res.1) (fun _ => gO D A (GW L y ad0 res.2)) A) args s 4 46 A) (F0 m 177 ls [.int xs0]) := by
  unfold fL_isAll_177 at h
  refine lv_istore (lv' := [(22, .int xs0), (0, .ref (ad 0)), (1, .ref (ad 161)), (2, .ref (ad 162)), (3, .ref (ad 163)), (4, .ref (ad 164)), (5, .ref (ad 165)), (6, .ref (ad 166)), (7, .ref (ad 167)), (8, .ref (ad 168)), (9, .ref (ad 169)), (10, .ref (ad 170)), (11, .ref (ad 171)), (12, .ref (ad 172)), (13, .ref (ad 173)), (14, .ref (ad 174)), (15, .ref (ad 175)), (16, .ref (ad 176)), (17, .ref (ad 178)), (18, .int x18), (19, .ref (ad 179)), (20, .ref (ad 180)), (21, .ref (ad 181))]) hx hb dL_isAll_177 hl (by decide) rfl ?_
  clear hl
  intro ls hl
  refine lv_aload hx hb dL_isAll_179 (lv_at hl 12 rfl) ?_
  refine lv_aload_n hx hb dL_isAll_181 rfl (lv_at hl 2 rfl) ?_
  refine lv_iconst (v := 1) hx hb dL_isAll_182 (by decide) ?_
  refine G_iald (j := 1) hx hb hK hY (List.mem_append_left _ (hL 161 (by decide))) gk_161 (by rw [gl_161]; decide +kernel) (by decide +kernel) dL_isAll_183 ?_
  refine lv_iconst (v := 1) hx hb dL_isAll_184 (by decide) ?_
  refine lv_isub hx hb dL_isAll_185 ?_
  obtain ⟨z_1, h⟩ := g_guard h
  refine G_lald (j := ((σ.1 161 1) - 1).toNatClampNeg) hx hb hK hY (List.mem_append_left _ (hL 171 (by decide))) gk_171 (by rw [gl_171]; exact z_1) rfl dL_isAll_186 ?_
  refine lv_lstore (lv' := [(25, .long (σ.2.1 171 (((σ.1 161 1) - 1).toNatClampNeg))), (22, .int xs0), (0, .ref (ad 0)), (1, .ref (ad 161)), (2, .ref (ad 162)), (3, .ref (ad 163)), (4, .ref (ad 164)), (5, .ref (ad 165)), (6, .ref (ad 166)), (7, .ref (ad 167)), (8, .ref (ad 168)), (9, .ref (ad 169)), (10, .ref (ad 170)), (11, .ref (ad 171)), (12, .ref (ad 172)), (13, .ref (ad 173)), (14, .ref (ad 174)), (15, .ref (ad 175)), (16, .ref (ad 176)), (17, .ref (ad 178)), (18, .int x18), (19, .ref (ad 179)), (20, .ref (ad 180)), (21, .ref (ad 181))]) hx hb dL_isAll_187 hl (by decide) rfl ?_
  clear hl
  intro ls hl
  refine lv_aload_n hx hb dL_isAll_189 rfl (lv_at hl 3 rfl) ?_
  refine lv_aload_n hx hb dL_isAll_190 rfl (lv_at hl 5 rfl) ?_
  refine lv_aload hx hb dL_isAll_191 (lv_at hl 6 rfl) ?_
  refine lv_aload hx hb dL_isAll_193 (lv_at hl 7 rfl) ?_
  refine lv_aload hx hb dL_isAll_195 (lv_at hl 8 rfl) ?_
  refine lv_aload hx hb dL_isAll_197 (lv_at hl 10 rfl) ?_
  refine lv_aload hx hb dL_isAll_199 (lv_at hl 11 rfl) ?_
  refine lv_aload hx hb dL_isAll_201 (lv_at hl 12 rfl) ?_
  refine lv_lload hx hb dL_isAll_203 (lv_at hl 0 rfl) ?_
  refine lv_aload hx hb dL_isAll_205 (lv_at hl 21 rfl) ?_
  refine lv_aload hx hb dL_isAll_207 (lv_at hl 22 rfl) ?_
  obtain ⟨r_2, e_3, h⟩ := g_bind h
  refine G_ai hY hA (va_runS (As := [.ref (ad 161), .ref (ad 163), .ref (ad 164), .ref (ad 165), .ref (ad 166), .ref (ad 168), .ref (ad 169), .ref (ad 170), .long (σ.2.1 171 (((σ.1 161 1) - 1).toNatClampNeg)), .ref (ad 179), .ref (ad 180)]) (rest := []) ⟨hx, hb, hml, hown, hg⟩ (kL_batches l D y aS H.size (L ++ [179, 180, 181]) (fun k hk => List.mem_append_left _ (hL k hk)) ⟨by simp, by simp, by simp⟩ ad N σ (σ.2.1 171 (((σ.1 161 1) - 1).toNatClampNeg)) _ e_3) (va_cwS 11 hg ggS_RL_122_L_batches rfl rfl rfl (by decide +kernel) ⟨Nat.le_of_ble_eq_true rfl, Nat.le_of_ble_eq_true rfl⟩) (G_pS hK hY) rfl rfl hl.1 rfl (lv_room (Nat.le_of_ble_eq_true rfl)) dL_isAll_209 ⟨(by dsimp only; omega), (by dsimp only; omega)⟩) ?_
  clear hY
  rintro _ H locs rfl hY
  refine lv_istore (lv' := [(27, .int r_2.1), (25, .long (σ.2.1 171 (((σ.1 161 1) - 1).toNatClampNeg))), (22, .int xs0), (0, .ref (ad 0)), (1, .ref (ad 161)), (2, .ref (ad 162)), (3, .ref (ad 163)), (4, .ref (ad 164)), (5, .ref (ad 165)), (6, .ref (ad 166)), (7, .ref (ad 167)), (8, .ref (ad 168)), (9, .ref (ad 169)), (10, .ref (ad 170)), (11, .ref (ad 171)), (12, .ref (ad 172)), (13, .ref (ad 173)), (14, .ref (ad 174)), (15, .ref (ad 175)), (16, .ref (ad 176)), (17, .ref (ad 178)), (18, .int x18), (19, .ref (ad 179)), (20, .ref (ad 180)), (21, .ref (ad 181))]) hx hb dL_isAll_212 hl (by decide) rfl ?_
  clear hl
  intro ls hl
  refine lv_iconst (v := 0) hx hb dL_isAll_214 (by decide) ?_
  refine lv_istore (lv' := [(28, .int 0), (27, .int r_2.1), (25, .long (σ.2.1 171 (((σ.1 161 1) - 1).toNatClampNeg))), (22, .int xs0), (0, .ref (ad 0)), (1, .ref (ad 161)), (2, .ref (ad 162)), (3, .ref (ad 163)), (4, .ref (ad 164)), (5, .ref (ad 165)), (6, .ref (ad 166)), (7, .ref (ad 167)), (8, .ref (ad 168)), (9, .ref (ad 169)), (10, .ref (ad 170)), (11, .ref (ad 171)), (12, .ref (ad 172)), (13, .ref (ad 173)), (14, .ref (ad 174)), (15, .ref (ad 175)), (16, .ref (ad 176)), (17, .ref (ad 178)), (18, .int x18), (19, .ref (ad 179)), (20, .ref (ad 180)), (21, .ref (ad 181))]) hx hb dL_isAll_215 hl (by decide) rfl ?_
  clear hl
  intro ls hl
  exact wL_isAll_217 hx hb hr hml hown hg hlocks hK hA hL hfl hZ hL2 N ha (by first | omega | (simp only [g_l0]; omega)) (by first | omega | (simp only [g_l0]; omega)) _ _ _ hY (lv_sub hl [4, 5, 6, 8, 11, 12, 14, 15, 16, 17, 18, 19, 20, 21, 22, 23, 24, 25, 3, 2, 1, 0] rfl) h
def fL_isAll_176 (N : Nat) (σ : gS) (x18 : Int32) : Option (Int32 × gS) := fL_isAll_177 N σ x18 0
set_option maxRecDepth 100000 in
set_option maxHeartbeats 4000000 in
theorem wL_isAll_176 {σ : gS} {x18 : Int32} {ad : Nat → Nat} {kc ns : Nat} (hx : p.tables.exec = Jvm.exec) (hb : c.code = cL_isAll) (hr : meth.sig.returnType = (some .boolean)) (hml : c.maxLocals = 31) (hown : s.vm.findClass RL = some m.cls) (hg : ∀ w ∈ wsL_law, w.before args s = true) (hlocks : meth.locks = false) (hK : gK D y aS s) (hA : ∀ q, s.heap.size ≤ q → A q) (hL : ∀ k, k < 179 → k ∈ L) (hfl : l.stackTraces = false) (hZ : gZ A s s.heap) (hL2 : ∀ k ∈ L, k < 179) (ha : ∀ k, k < 179 → ad k = ad0 k) (hkc : kc ≤ 4) (hns : ns ≤ 46) {H : Heap} {locs : List Loc} {ls : Array Slot} (hY : gY D y A s (L ++ [179, 180, 181]) ad σ H locs) (hl : lv_has ls 31 [(0, .ref (ad 0)), (1, .ref (ad 161)), (2, .ref (ad 162)), (3, .ref (ad 163)), (4, .ref (ad 164)), (5, .ref (ad 165)), (6, .ref (ad 166)), (7, .ref (ad 167)), (8, .ref (ad 168)), (9, .ref (ad 169)), (10, .ref (ad 170)), (11, .ref (ad 171)), (12, .ref (ad 172)), (13, .ref (ad 173)), (14, .ref (ad 174)), (15, .ref (ad 175)), (16, .ref (ad 176)), (17, .ref (ad 178)), (18, .int x18), (19, .ref (ad 179)), (20, .ref (ad 180)), (21, .ref (ad 181))]) (h : fL_isAll_176 N σ x18 = some res) : W p l e ({ frames := 9, cells := 4, slots := 46, locals := 159 } : Room) s m args below meth c H locs kc ns (MQ below (va_Qi (fun (r : Int32) (_ : Unit) => r = res.1) (fun _ => gO D A (GW L y ad0 res.2)) A) args s 4 46 A) (F0 m 176 ls []) := by
  unfold fL_isAll_176 at h
  refine lv_iconst (v := 0) hx hb dL_isAll_176 (by decide) ?_
  exact wL_isAll_177 hx hb hr hml hown hg hlocks hK hA hL hfl hZ hL2 ha (by first | omega | (simp only [g_l0]; omega)) (by first | omega | (simp only [g_l0]; omega)) hY (lv_sub hl [0, 1, 2, 3, 4, 5, 6, 7, 8, 9, 10, 11, 12, 13, 14, 15, 16, 17, 18, 19, 20, 21] rfl) h
def fL_isAll_143 (N : Nat) (σ : gS) (x18 : Int32) (x22 : Int32) (x24 : Int32) : Option (Int32 × gS) := if x22 = 0 then (fL_isAll_176 N σ x18) else ((fX11_queued N σ).bind fun r_2 => if r_2.1 = x24 then ((fL_does N r_2.2 (7 : Int32) x24 (0 : Int32) (0 : Int32)).bind fun r_5 => if r_5.1 = (-11) then (fL_isAll_177 N r_5.2 x18 1) else (fL_isAll_176 N r_5.2 x18)) else (fL_isAll_176 N r_2.2 x18))
set_option maxRecDepth 100000 in
set_option maxHeartbeats 4000000 in
theorem wL_isAll_143 {σ : gS} {x18 : Int32} {x22 : Int32} {x24 : Int32} {ad : Nat → Nat} {kc ns : Nat} (hx : p.tables.exec = Jvm.exec) (hb : c.code = cL_isAll) (hr : meth.sig.returnType = (some .boolean)) (hml : c.maxLocals = 31) (hown : s.vm.findClass RL = some m.cls) (hg : ∀ w ∈ wsL_law, w.before args s = true) (hlocks : meth.locks = false) (hK : gK D y aS s) (hA : ∀ q, s.heap.size ≤ q → A q) (hL : ∀ k, k < 179 → k ∈ L) (hfl : l.stackTraces = false) (hZ : gZ A s s.heap) (hL2 : ∀ k ∈ L, k < 179) (ha : ∀ k, k < 179 → ad k = ad0 k) (hkc : kc ≤ 3) (hns : ns ≤ 40) {H : Heap} {locs : List Loc} {ls : Array Slot} (hY : gY D y A s (L ++ [179, 180, 181]) ad σ H locs) (hl : lv_has ls 31 [(0, .ref (ad 0)), (1, .ref (ad 161)), (2, .ref (ad 162)), (3, .ref (ad 163)), (4, .ref (ad 164)), (5, .ref (ad 165)), (6, .ref (ad 166)), (7, .ref (ad 167)), (8, .ref (ad 168)), (9, .ref (ad 169)), (10, .ref (ad 170)), (11, .ref (ad 171)), (12, .ref (ad 172)), (13, .ref (ad 173)), (14, .ref (ad 174)), (15, .ref (ad 175)), (16, .ref (ad 176)), (17, .ref (ad 178)), (18, .int x18), (19, .ref (ad 179)), (20, .ref (ad 180)), (21, .ref (ad 181)), (22, .int x22), (24, .int x24)]) (h : fL_isAll_143 N σ x18 x22 x24 = some res) : W p l e ({ frames := 9, cells := 4, slots := 46, locals := 159 } : Room) s m args below meth c H locs kc ns (MQ below (va_Qi (fun (r : Int32) (_ : Unit) => r = res.1) (fun _ => gO D A (GW L y ad0 res.2)) A) args s 4 46 A) (F0 m 143 ls []) := by
  unfold fL_isAll_143 at h
  refine lv_iload hx hb dL_isAll_143 (lv_at hl 22 rfl) ?_
  refine lv_if_eq (tgt := 176) hx hb dL_isAll_145 (by decide) (fun z_1 => ?_) (fun z_1 => ?_)
  ·
    rw [if_pos z_1] at h
    exact wL_isAll_176 hx hb hr hml hown hg hlocks hK hA hL hfl hZ hL2 ha (by first | omega | (simp only [g_l0]; omega)) (by first | omega | (simp only [g_l0]; omega)) hY (lv_sub hl [0, 1, 2, 3, 4, 5, 6, 7, 8, 9, 10, 11, 12, 13, 14, 15, 16, 17, 18, 19, 20, 21] rfl) h
  ·
    rw [if_neg z_1] at h
    refine lv_aload_n hx hb dL_isAll_148 rfl (lv_at hl 0 rfl) ?_
    obtain ⟨r_2, e_3, h⟩ := g_bind h
    refine G_ai hY hA (va_runV (As := []) (rest := []) ⟨hx, hb, hml, hown, hg⟩ (kX11_queued l D y aS H.size (L ++ [179, 180, 181]) (fun k hk => List.mem_append_left _ (hL k hk)) ad N σ _ e_3) (cwV 0 hg ggV_RL_158_X11_queued rfl rfl rfl (by decide +kernel) ⟨Nat.le_of_ble_eq_true rfl, Nat.le_of_ble_eq_true rfl⟩) (G_pV (q := (RX11, TX11, 19)) hK hY (List.mem_append_left _ (hL 0 (by decide))) gk_0 (by decide) rfl) rfl rfl hl.1 rfl (lv_room (Nat.le_of_ble_eq_true rfl)) dL_isAll_149 ⟨(by dsimp only; omega), (by dsimp only; omega)⟩) ?_
    clear hY
    rintro _ H locs rfl hY
    refine lv_iload hx hb dL_isAll_152 (lv_at hl 23 rfl) ?_
    refine lv_icmp_ne (tgt := 176) hx hb dL_isAll_154 (by decide) (fun z_4 => ?_) (fun z_4 => ?_)
    ·
      rw [if_neg z_4] at h
      exact wL_isAll_176 hx hb hr hml hown hg hlocks hK hA hL hfl hZ hL2 ha (by first | omega | (simp only [g_l0]; omega)) (by first | omega | (simp only [g_l0]; omega)) hY (lv_sub hl [0, 1, 2, 3, 4, 5, 6, 7, 8, 9, 10, 11, 12, 13, 14, 15, 16, 17, 18, 19, 20, 21] rfl) h
    ·
      rw [if_pos z_4] at h
      refine lv_aload_n hx hb dL_isAll_157 rfl (lv_at hl 0 rfl) ?_
      refine lv_bipush (v := 7) hx hb dL_isAll_158 (by decide +kernel) ?_
      refine lv_iload hx hb dL_isAll_160 (lv_at hl 23 rfl) ?_
      refine lv_iconst (v := 0) hx hb dL_isAll_162 (by decide) ?_
      refine lv_iconst (v := 0) hx hb dL_isAll_163 (by decide) ?_
      obtain ⟨r_5, e_6, h⟩ := g_bind h
      refine G_aiC hY hA (vx_runSW (As := [.ref (ad 0), .int 7, .int x24, .int 0, .int 0]) (rest := []) ⟨hx, hb, hml, hown, hg⟩ (kL_does l hfl D y aS H.size (L ++ [179, 180, 181]) (fun k hk => List.mem_append_left _ (hL k hk)) ad N r_2.2 (7 : Int32) x24 (0 : Int32) (0 : Int32) _ e_6) (vx_cwSW 5 hg ggS_RL_161_L_does rfl rfl rfl (by decide +kernel) ⟨Nat.le_of_ble_eq_true rfl, Nat.le_of_ble_eq_true rfl⟩) (G_xpS hZ hA hK hY) rfl rfl hl.1 rfl (lv_room (Nat.le_of_ble_eq_true rfl)) dL_isAll_164 ⟨(by dsimp only; omega), (by dsimp only; omega)⟩) ?_
      clear hY
      rintro _ H locs rfl hY
      refine lv_bipush (v := (-11)) hx hb dL_isAll_167 (by decide +kernel) ?_
      refine lv_icmp_ne (tgt := 176) hx hb dL_isAll_169 (by decide) (fun z_7 => ?_) (fun z_7 => ?_)
      ·
        rw [if_neg z_7] at h
        exact wL_isAll_176 hx hb hr hml hown hg hlocks hK hA hL hfl hZ hL2 ha (by first | omega | (simp only [g_l0]; omega)) (by first | omega | (simp only [g_l0]; omega)) hY (lv_sub hl [0, 1, 2, 3, 4, 5, 6, 7, 8, 9, 10, 11, 12, 13, 14, 15, 16, 17, 18, 19, 20, 21] rfl) h
      ·
        rw [if_pos z_7] at h
        refine lv_iconst (v := 1) hx hb dL_isAll_172 (by decide) ?_
        refine lv_goto (tgt := 177) hx hb dL_isAll_173 (by decide) ?_
        exact wL_isAll_177 hx hb hr hml hown hg hlocks hK hA hL hfl hZ hL2 ha (by first | omega | (simp only [g_l0]; omega)) (by first | omega | (simp only [g_l0]; omega)) hY (lv_sub hl [0, 1, 2, 3, 4, 5, 6, 7, 8, 9, 10, 11, 12, 13, 14, 15, 16, 17, 18, 19, 20, 21] rfl) h
def fL_isAll_120 (N : Nat) (rec85 : (gS × Int32 × Int32 × Int32 × Int32) → Option (Int32 × gS)) (σ : gS) (x18 : Int32) (x23 : Int32) (x24 : Int32) (xs0 : Int32) : Option (Int32 × gS) := (fL_next N σ x23).bind fun r_1 => rec85 (σ, xs0, x23, (x24 + 1), r_1)
set_option maxRecDepth 100000 in
set_option maxHeartbeats 4000000 in
theorem wL_isAll_120 {rec85 : (gS × Int32 × Int32 × Int32 × Int32) → Option (Int32 × gS)} {σ : gS} {x18 : Int32} {x23 : Int32} {x24 : Int32} {xs0 : Int32} {ad : Nat → Nat} {kc ns : Nat} (hx : p.tables.exec = Jvm.exec) (hb : c.code = cL_isAll) (hr : meth.sig.returnType = (some .boolean)) (hml : c.maxLocals = 31) (hown : s.vm.findClass RL = some m.cls) (hg : ∀ w ∈ wsL_law, w.before args s = true) (hlocks : meth.locks = false) (hK : gK D y aS s) (hA : ∀ q, s.heap.size ≤ q → A q) (hL : ∀ k, k < 179 → k ∈ L) (hfl : l.stackTraces = false) (hZ : gZ A s s.heap) (hL2 : ∀ k ∈ L, k < 179) (ha : ∀ k, k < 179 → ad k = ad0 k) (hrec85 : ∀ {ad : Nat → Nat} {kc ns : Nat} (ha : ∀ k, k < 179 → ad k = ad0 k) {σ9 : gS} {x22n9 : Int32} {x23n9 : Int32} {x24n9 : Int32} {x25n9 : Int32} (hkc : kc ≤ 3) (hns : ns ≤ 40) (H : Heap) (locs : List Loc) (ls : Array Slot), gY D y A s (L ++ [179, 180, 181]) ad σ9 H locs → lv_has ls 31 [(0, .ref (ad 0)), (1, .ref (ad 161)), (2, .ref (ad 162)), (3, .ref (ad 163)), (4, .ref (ad 164)), (5, .ref (ad 165)), (6, .ref (ad 166)), (7, .ref (ad 167)), (8, .ref (ad 168)), (9, .ref (ad 169)), (10, .ref (ad 170)), (11, .ref (ad 171)), (12, .ref (ad 172)), (13, .ref (ad 173)), (14, .ref (ad 174)), (15, .ref (ad 175)), (16, .ref (ad 176)), (17, .ref (ad 178)), (18, .int x18), (19, .ref (ad 179)), (20, .ref (ad 180)), (21, .ref (ad 181)), (22, .int x22n9), (23, .int x23n9), (24, .int x24n9), (25, .int x25n9)] → rec85 (σ9, x22n9, x23n9, x24n9, x25n9) = some res → W p l e ({ frames := 9, cells := 4, slots := 46, locals := 159 } : Room) s m args below meth c H locs kc ns (MQ below (va_Qi (fun (r : Int32) (_ : Unit) => r = res.1) (fun _ => gO D A (GW L y ad0 res.2)) A) args s 4 46 A) (F0 m 85 ls [])) (hkc : kc ≤ 3) (hns : ns ≤ 40) {H : Heap} {locs : List Loc} {ls : Array Slot} (hY : gY D y A s (L ++ [179, 180, 181]) ad σ H locs) (hl : lv_has ls 31 [(0, .ref (ad 0)), (1, .ref (ad 161)), (2, .ref (ad 162)), (3, .ref (ad 163)), (4, .ref (ad 164)), (5, .ref (ad 165)), (6, .ref (ad 166)), (7, .ref (ad 167)), (8, .ref (ad 168)), (9, .ref (ad 169)), (10, .ref (ad 170)), (11, .ref (ad 171)), (12, .ref (ad 172)), (13, .ref (ad 173)), (14, .ref (ad 174)), (15, .ref (ad 175)), (16, .ref (ad 176)), (17, .ref (ad 178)), (18, .int x18), (19, .ref (ad 179)), (20, .ref (ad 180)), (21, .ref (ad 181)), (23, .int x23), (24, .int x24)]) (h : fL_isAll_120 N rec85 σ x18 x23 x24 xs0 = some res) : W p l e ({ frames := 9, cells := 4, slots := 46, locals := 159 } : Room) s m args below meth c H locs kc ns (MQ below (va_Qi (fun (r : Int32) (_ : Unit) => r = res.1) (fun _ => gO D A (GW L y ad0 res.2)) A) args s 4 46 A) (F0 m 120 ls [.int xs0]) := by
  unfold fL_isAll_120 at h
  refine lv_istore (lv' := [(22, .int xs0), (0, .ref (ad 0)), (1, .ref (ad 161)), (2, .ref (ad 162)), (3, .ref (ad 163)), (4, .ref (ad 164)), (5, .ref (ad 165)), (6, .ref (ad 166)), (7, .ref (ad 167)), (8, .ref (ad 168)), (9, .ref (ad 169)), (10, .ref (ad 170)), (11, .ref (ad 171)), (12, .ref (ad 172)), (13, .ref (ad 173)), (14, .ref (ad 174)), (15, .ref (ad 175)), (16, .ref (ad 176)), (17, .ref (ad 178)), (18, .int x18), (19, .ref (ad 179)), (20, .ref (ad 180)), (21, .ref (ad 181)), (23, .int x23), (24, .int x24)]) hx hb dL_isAll_120 hl (by decide) rfl ?_
  clear hl
  intro ls hl
  refine lv_iinc (v := (x24 + 1)) (lv' := [(24, .int (x24 + 1)), (22, .int xs0), (0, .ref (ad 0)), (1, .ref (ad 161)), (2, .ref (ad 162)), (3, .ref (ad 163)), (4, .ref (ad 164)), (5, .ref (ad 165)), (6, .ref (ad 166)), (7, .ref (ad 167)), (8, .ref (ad 168)), (9, .ref (ad 169)), (10, .ref (ad 170)), (11, .ref (ad 171)), (12, .ref (ad 172)), (13, .ref (ad 173)), (14, .ref (ad 174)), (15, .ref (ad 175)), (16, .ref (ad 176)), (17, .ref (ad 178)), (18, .int x18), (19, .ref (ad 179)), (20, .ref (ad 180)), (21, .ref (ad 181)), (23, .int x23)]) hx hb dL_isAll_122 hl (k := 24) rfl rfl (by decide) rfl ?_
  clear hl
  intro ls hl
  refine lv_aload_n hx hb dL_isAll_125 rfl (lv_at hl 3 rfl) ?_
  refine lv_aload_n hx hb dL_isAll_126 rfl (lv_at hl 5 rfl) ?_
  refine lv_aload hx hb dL_isAll_127 (lv_at hl 6 rfl) ?_
  refine lv_aload hx hb dL_isAll_129 (lv_at hl 7 rfl) ?_
  refine lv_aload hx hb dL_isAll_131 (lv_at hl 8 rfl) ?_
  refine lv_iload hx hb dL_isAll_133 (lv_at hl 24 rfl) ?_
  obtain ⟨r_1, e_2, h⟩ := g_bind h
  refine G_ai hY hA (va_runS (As := [.ref (ad 161), .ref (ad 163), .ref (ad 164), .ref (ad 165), .ref (ad 166), .int x23]) (rest := []) ⟨hx, hb, hml, hown, hg⟩ (kL_next l D y aS H.size (L ++ [179, 180, 181]) (fun k hk => List.mem_append_left _ (hL k hk)) ad N σ x23 _ e_2) (va_cwS 6 hg ggS_RL_41_L_next rfl rfl rfl (by decide +kernel) ⟨Nat.le_of_ble_eq_true rfl, Nat.le_of_ble_eq_true rfl⟩) (G_pS hK hY) rfl rfl hl.1 rfl (lv_room (Nat.le_of_ble_eq_true rfl)) dL_isAll_135 ⟨(by dsimp only; omega), (by dsimp only; omega)⟩) ?_
  clear hY
  rintro _ H locs rfl hY
  refine lv_istore (lv' := [(25, .int r_1), (24, .int (x24 + 1)), (22, .int xs0), (0, .ref (ad 0)), (1, .ref (ad 161)), (2, .ref (ad 162)), (3, .ref (ad 163)), (4, .ref (ad 164)), (5, .ref (ad 165)), (6, .ref (ad 166)), (7, .ref (ad 167)), (8, .ref (ad 168)), (9, .ref (ad 169)), (10, .ref (ad 170)), (11, .ref (ad 171)), (12, .ref (ad 172)), (13, .ref (ad 173)), (14, .ref (ad 174)), (15, .ref (ad 175)), (16, .ref (ad 176)), (17, .ref (ad 178)), (18, .int x18), (19, .ref (ad 179)), (20, .ref (ad 180)), (21, .ref (ad 181)), (23, .int x23)]) hx hb dL_isAll_138 hl (by decide) rfl ?_
  clear hl
  intro ls hl
  refine lv_goto (tgt := 85) hx hb dL_isAll_140 (by decide) ?_
  exact hrec85 ha (by first | omega | (simp only [g_l0]; omega)) (by first | omega | (simp only [g_l0]; omega)) _ _ _ hY (lv_sub hl [3, 4, 5, 6, 7, 8, 9, 10, 11, 12, 13, 14, 15, 16, 17, 18, 19, 20, 21, 22, 23, 24, 2, 25, 1, 0] rfl) h
def fL_isAll_85 (N : Nat) (x18 : Int32) (rec85 : (gS × Int32 × Int32 × Int32 × Int32) → Option (Int32 × gS)) (xx : gS × Int32 × Int32 × Int32 × Int32) : Option (Int32 × gS) := match xx with
  | (σ, x22, x23, x24, x25) => if x25 < 0 then (fL_isAll_143 N σ x18 x22 x24) else (if x22 = 0 then (fL_isAll_143 N σ x18 x22 x24) else ((fX11_queuedAt N σ x24).bind fun r_3 => if r_3.1 = x25 then (fL_isAll_120 N rec85 r_3.2 x18 (x23 ||| ((1 : Int32) <<< (x25 &&& 31))) x24 1) else (fL_isAll_120 N rec85 r_3.2 x18 (x23 ||| ((1 : Int32) <<< (x25 &&& 31))) x24 0)))
set_option maxRecDepth 100000 in
set_option maxHeartbeats 4000000 in
theorem wL_isAll_85 {x18 : Int32} (hx : p.tables.exec = Jvm.exec) (hb : c.code = cL_isAll) (hr : meth.sig.returnType = (some .boolean)) (hml : c.maxLocals = 31) (hown : s.vm.findClass RL = some m.cls) (hg : ∀ w ∈ wsL_law, w.before args s = true) (hlocks : meth.locks = false) (hK : gK D y aS s) (hA : ∀ q, s.heap.size ≤ q → A q) (hL : ∀ k, k < 179 → k ∈ L) (hfl : l.stackTraces = false) (hZ : gZ A s s.heap) (hL2 : ∀ k ∈ L, k < 179) : ∀ (n : Nat) {ad : Nat → Nat} {kc ns : Nat} (ha : ∀ k, k < 179 → ad k = ad0 k) {σ : gS} {x22 : Int32} {x23 : Int32} {x24 : Int32} {x25 : Int32} (hkc : kc ≤ 3) (hns : ns ≤ 40) (H : Heap) (locs : List Loc) (ls : Array Slot), gY D y A s (L ++ [179, 180, 181]) ad σ H locs → lv_has ls 31 [(0, .ref (ad 0)), (1, .ref (ad 161)), (2, .ref (ad 162)), (3, .ref (ad 163)), (4, .ref (ad 164)), (5, .ref (ad 165)), (6, .ref (ad 166)), (7, .ref (ad 167)), (8, .ref (ad 168)), (9, .ref (ad 169)), (10, .ref (ad 170)), (11, .ref (ad 171)), (12, .ref (ad 172)), (13, .ref (ad 173)), (14, .ref (ad 174)), (15, .ref (ad 175)), (16, .ref (ad 176)), (17, .ref (ad 178)), (18, .int x18), (19, .ref (ad 179)), (20, .ref (ad 180)), (21, .ref (ad 181)), (22, .int x22), (23, .int x23), (24, .int x24), (25, .int x25)] → lp (fL_isAll_85 N x18) n (σ, x22, x23, x24, x25) = some res → W p l e ({ frames := 9, cells := 4, slots := 46, locals := 159 } : Room) s m args below meth c H locs kc ns (MQ below (va_Qi (fun (r : Int32) (_ : Unit) => r = res.1) (fun _ => gO D A (GW L y ad0 res.2)) A) args s 4 46 A) (F0 m 85 ls []) := by
  intro n
  induction n with
  | zero => intro ad kc ns ha σ x22 x23 x24 x25 hkc hns H locs ls hY hl h; exact nomatch (show none = some res from h)
  | succ n hrec85 =>
    intro ad kc ns ha σ x22 x23 x24 x25 hkc hns H locs ls hY hl h
    replace h : fL_isAll_85 N x18 (lp (fL_isAll_85 N x18) n) (σ, x22, x23, x24, x25) = some res := h
    generalize lp (fL_isAll_85 N x18) n = rec85 at h hrec85
    unfold fL_isAll_85 at h
    try dsimp only at h
    refine lv_iload hx hb dL_isAll_85 (lv_at hl 25 rfl) ?_
    refine lv_if_lt (tgt := 143) hx hb dL_isAll_87 (by decide) (fun z_1 => ?_) (fun z_1 => ?_)
    ·
      rw [if_pos z_1] at h
      exact wL_isAll_143 hx hb hr hml hown hg hlocks hK hA hL hfl hZ hL2 ha (by first | omega | (simp only [g_l0]; omega)) (by first | omega | (simp only [g_l0]; omega)) hY (lv_sub hl [0, 1, 2, 3, 4, 5, 6, 7, 8, 9, 10, 11, 12, 13, 14, 15, 16, 17, 18, 19, 20, 21, 22, 24] rfl) h
    ·
      rw [if_neg z_1] at h
      refine lv_iload hx hb dL_isAll_90 (lv_at hl 22 rfl) ?_
      refine lv_if_eq (tgt := 143) hx hb dL_isAll_92 (by decide) (fun z_2 => ?_) (fun z_2 => ?_)
      ·
        rw [if_pos z_2] at h
        exact wL_isAll_143 hx hb hr hml hown hg hlocks hK hA hL hfl hZ hL2 ha (by first | omega | (simp only [g_l0]; omega)) (by first | omega | (simp only [g_l0]; omega)) hY (lv_sub hl [0, 1, 2, 3, 4, 5, 6, 7, 8, 9, 10, 11, 12, 13, 14, 15, 16, 17, 18, 19, 20, 21, 22, 24] rfl) h
      ·
        rw [if_neg z_2] at h
        refine lv_iload hx hb dL_isAll_95 (lv_at hl 23 rfl) ?_
        refine lv_iconst (v := 1) hx hb dL_isAll_97 (by decide) ?_
        refine lv_iload hx hb dL_isAll_98 (lv_at hl 25 rfl) ?_
        refine lv_ishl hx hb dL_isAll_100 ?_
        refine lv_ior hx hb dL_isAll_101 ?_
        refine lv_istore (lv' := [(23, .int (x23 ||| ((1 : Int32) <<< (x25 &&& 31)))), (0, .ref (ad 0)), (1, .ref (ad 161)), (2, .ref (ad 162)), (3, .ref (ad 163)), (4, .ref (ad 164)), (5, .ref (ad 165)), (6, .ref (ad 166)), (7, .ref (ad 167)), (8, .ref (ad 168)), (9, .ref (ad 169)), (10, .ref (ad 170)), (11, .ref (ad 171)), (12, .ref (ad 172)), (13, .ref (ad 173)), (14, .ref (ad 174)), (15, .ref (ad 175)), (16, .ref (ad 176)), (17, .ref (ad 178)), (18, .int x18), (19, .ref (ad 179)), (20, .ref (ad 180)), (21, .ref (ad 181)), (22, .int x22), (24, .int x24), (25, .int x25)]) hx hb dL_isAll_102 hl (by decide) rfl ?_
        clear hl
        intro ls hl
        refine lv_aload_n hx hb dL_isAll_104 rfl (lv_at hl 1 rfl) ?_
        refine lv_iload hx hb dL_isAll_105 (lv_at hl 24 rfl) ?_
        obtain ⟨r_3, e_4, h⟩ := g_bind h
        refine G_ai hY hA (va_runV (As := [.int x24]) (rest := []) ⟨hx, hb, hml, hown, hg⟩ (kX11_queuedAt l D y aS H.size (L ++ [179, 180, 181]) (fun k hk => List.mem_append_left _ (hL k hk)) ad N σ x24 _ e_4) (cwV 1 hg ggV_RL_94_X11_queuedAt rfl rfl rfl (by decide +kernel) ⟨Nat.le_of_ble_eq_true rfl, Nat.le_of_ble_eq_true rfl⟩) (G_pV (q := (RX11, TX11, 19)) hK hY (List.mem_append_left _ (hL 0 (by decide))) gk_0 (by decide) rfl) rfl rfl hl.1 rfl (lv_room (Nat.le_of_ble_eq_true rfl)) dL_isAll_107 ⟨(by dsimp only; omega), (by dsimp only; omega)⟩) ?_
        clear hY
        rintro _ H locs rfl hY
        refine lv_iload hx hb dL_isAll_110 (lv_at hl 25 rfl) ?_
        refine lv_icmp_ne (tgt := 119) hx hb dL_isAll_112 (by decide) (fun z_5 => ?_) (fun z_5 => ?_)
        ·
          rw [if_neg z_5] at h
          refine lv_iconst (v := 0) hx hb dL_isAll_119 (by decide) ?_
          exact wL_isAll_120 hx hb hr hml hown hg hlocks hK hA hL hfl hZ hL2 ha hrec85 (by first | omega | (simp only [g_l0]; omega)) (by first | omega | (simp only [g_l0]; omega)) hY (lv_sub hl [1, 2, 3, 4, 5, 6, 7, 8, 9, 10, 11, 12, 13, 14, 15, 16, 17, 18, 19, 20, 21, 22, 0, 24] rfl) h
        ·
          rw [if_pos z_5] at h
          refine lv_iconst (v := 1) hx hb dL_isAll_115 (by decide) ?_
          refine lv_goto (tgt := 120) hx hb dL_isAll_116 (by decide) ?_
          exact wL_isAll_120 hx hb hr hml hown hg hlocks hK hA hL hfl hZ hL2 ha hrec85 (by first | omega | (simp only [g_l0]; omega)) (by first | omega | (simp only [g_l0]; omega)) hY (lv_sub hl [1, 2, 3, 4, 5, 6, 7, 8, 9, 10, 11, 12, 13, 14, 15, 16, 17, 18, 19, 20, 21, 22, 0, 24] rfl) h
def fL_isAll_63 (N : Nat) (σ : gS) (x18 : Int32) (xs0 : Int32) : Option (Int32 × gS) := (fL_next N σ (0 : Int32)).bind fun r_1 => lp (fL_isAll_85 N x18) N (σ, xs0, 0, 0, r_1)
set_option maxRecDepth 100000 in
set_option maxHeartbeats 4000000 in
theorem wL_isAll_63 {σ : gS} {x18 : Int32} {xs0 : Int32} {ad : Nat → Nat} {kc ns : Nat} (hx : p.tables.exec = Jvm.exec) (hb : c.code = cL_isAll) (hr : meth.sig.returnType = (some .boolean)) (hml : c.maxLocals = 31) (hown : s.vm.findClass RL = some m.cls) (hg : ∀ w ∈ wsL_law, w.before args s = true) (hlocks : meth.locks = false) (hK : gK D y aS s) (hA : ∀ q, s.heap.size ≤ q → A q) (hL : ∀ k, k < 179 → k ∈ L) (hfl : l.stackTraces = false) (hZ : gZ A s s.heap) (hL2 : ∀ k ∈ L, k < 179) (ha : ∀ k, k < 179 → ad k = ad0 k) (hkc : kc ≤ 3) (hns : ns ≤ 40) {H : Heap} {locs : List Loc} {ls : Array Slot} (hY : gY D y A s (L ++ [179, 180, 181]) ad σ H locs) (hl : lv_has ls 31 [(0, .ref (ad 0)), (1, .ref (ad 161)), (2, .ref (ad 162)), (3, .ref (ad 163)), (4, .ref (ad 164)), (5, .ref (ad 165)), (6, .ref (ad 166)), (7, .ref (ad 167)), (8, .ref (ad 168)), (9, .ref (ad 169)), (10, .ref (ad 170)), (11, .ref (ad 171)), (12, .ref (ad 172)), (13, .ref (ad 173)), (14, .ref (ad 174)), (15, .ref (ad 175)), (16, .ref (ad 176)), (17, .ref (ad 178)), (18, .int x18), (19, .ref (ad 179)), (20, .ref (ad 180)), (21, .ref (ad 181))]) (h : fL_isAll_63 N σ x18 xs0 = some res) : W p l e ({ frames := 9, cells := 4, slots := 46, locals := 159 } : Room) s m args below meth c H locs kc ns (MQ below (va_Qi (fun (r : Int32) (_ : Unit) => r = res.1) (fun _ => gO D A (GW L y ad0 res.2)) A) args s 4 46 A) (F0 m 63 ls [.int xs0]) := by
  unfold fL_isAll_63 at h
  refine lv_istore (lv' := [(22, .int xs0), (0, .ref (ad 0)), (1, .ref (ad 161)), (2, .ref (ad 162)), (3, .ref (ad 163)), (4, .ref (ad 164)), (5, .ref (ad 165)), (6, .ref (ad 166)), (7, .ref (ad 167)), (8, .ref (ad 168)), (9, .ref (ad 169)), (10, .ref (ad 170)), (11, .ref (ad 171)), (12, .ref (ad 172)), (13, .ref (ad 173)), (14, .ref (ad 174)), (15, .ref (ad 175)), (16, .ref (ad 176)), (17, .ref (ad 178)), (18, .int x18), (19, .ref (ad 179)), (20, .ref (ad 180)), (21, .ref (ad 181))]) hx hb dL_isAll_63 hl (by decide) rfl ?_
  clear hl
  intro ls hl
  refine lv_iconst (v := 0) hx hb dL_isAll_65 (by decide) ?_
  refine lv_istore (lv' := [(23, .int 0), (22, .int xs0), (0, .ref (ad 0)), (1, .ref (ad 161)), (2, .ref (ad 162)), (3, .ref (ad 163)), (4, .ref (ad 164)), (5, .ref (ad 165)), (6, .ref (ad 166)), (7, .ref (ad 167)), (8, .ref (ad 168)), (9, .ref (ad 169)), (10, .ref (ad 170)), (11, .ref (ad 171)), (12, .ref (ad 172)), (13, .ref (ad 173)), (14, .ref (ad 174)), (15, .ref (ad 175)), (16, .ref (ad 176)), (17, .ref (ad 178)), (18, .int x18), (19, .ref (ad 179)), (20, .ref (ad 180)), (21, .ref (ad 181))]) hx hb dL_isAll_66 hl (by decide) rfl ?_
  clear hl
  intro ls hl
  refine lv_iconst (v := 0) hx hb dL_isAll_68 (by decide) ?_
  refine lv_istore (lv' := [(24, .int 0), (23, .int 0), (22, .int xs0), (0, .ref (ad 0)), (1, .ref (ad 161)), (2, .ref (ad 162)), (3, .ref (ad 163)), (4, .ref (ad 164)), (5, .ref (ad 165)), (6, .ref (ad 166)), (7, .ref (ad 167)), (8, .ref (ad 168)), (9, .ref (ad 169)), (10, .ref (ad 170)), (11, .ref (ad 171)), (12, .ref (ad 172)), (13, .ref (ad 173)), (14, .ref (ad 174)), (15, .ref (ad 175)), (16, .ref (ad 176)), (17, .ref (ad 178)), (18, .int x18), (19, .ref (ad 179)), (20, .ref (ad 180)), (21, .ref (ad 181))]) hx hb dL_isAll_69 hl (by decide) rfl ?_
  clear hl
  intro ls hl
  refine lv_aload_n hx hb dL_isAll_71 rfl (lv_at hl 4 rfl) ?_
  refine lv_aload_n hx hb dL_isAll_72 rfl (lv_at hl 6 rfl) ?_
  refine lv_aload hx hb dL_isAll_73 (lv_at hl 7 rfl) ?_
  refine lv_aload hx hb dL_isAll_75 (lv_at hl 8 rfl) ?_
  refine lv_aload hx hb dL_isAll_77 (lv_at hl 9 rfl) ?_
  refine lv_iconst (v := 0) hx hb dL_isAll_79 (by decide) ?_
  obtain ⟨r_1, e_2, h⟩ := g_bind h
  refine G_ai hY hA (va_runS (As := [.ref (ad 161), .ref (ad 163), .ref (ad 164), .ref (ad 165), .ref (ad 166), .int 0]) (rest := []) ⟨hx, hb, hml, hown, hg⟩ (kL_next l D y aS H.size (L ++ [179, 180, 181]) (fun k hk => List.mem_append_left _ (hL k hk)) ad N σ (0 : Int32) _ e_2) (va_cwS 6 hg ggS_RL_41_L_next rfl rfl rfl (by decide +kernel) ⟨Nat.le_of_ble_eq_true rfl, Nat.le_of_ble_eq_true rfl⟩) (G_pS hK hY) rfl rfl hl.1 rfl (lv_room (Nat.le_of_ble_eq_true rfl)) dL_isAll_80 ⟨(by dsimp only; omega), (by dsimp only; omega)⟩) ?_
  clear hY
  rintro _ H locs rfl hY
  refine lv_istore (lv' := [(25, .int r_1), (24, .int 0), (23, .int 0), (22, .int xs0), (0, .ref (ad 0)), (1, .ref (ad 161)), (2, .ref (ad 162)), (3, .ref (ad 163)), (4, .ref (ad 164)), (5, .ref (ad 165)), (6, .ref (ad 166)), (7, .ref (ad 167)), (8, .ref (ad 168)), (9, .ref (ad 169)), (10, .ref (ad 170)), (11, .ref (ad 171)), (12, .ref (ad 172)), (13, .ref (ad 173)), (14, .ref (ad 174)), (15, .ref (ad 175)), (16, .ref (ad 176)), (17, .ref (ad 178)), (18, .int x18), (19, .ref (ad 179)), (20, .ref (ad 180)), (21, .ref (ad 181))]) hx hb dL_isAll_83 hl (by decide) rfl ?_
  clear hl
  intro ls hl
  exact wL_isAll_85 hx hb hr hml hown hg hlocks hK hA hL hfl hZ hL2 N ha (by first | omega | (simp only [g_l0]; omega)) (by first | omega | (simp only [g_l0]; omega)) _ _ _ hY (lv_sub hl [4, 5, 6, 7, 8, 9, 10, 11, 12, 13, 14, 15, 16, 17, 18, 19, 20, 21, 22, 23, 24, 25, 3, 2, 1, 0] rfl) h
def fL_isAll_62 (N : Nat) (σ : gS) (x18 : Int32) : Option (Int32 × gS) := fL_isAll_63 N σ x18 0
set_option maxRecDepth 100000 in
set_option maxHeartbeats 4000000 in
theorem wL_isAll_62 {σ : gS} {x18 : Int32} {ad : Nat → Nat} {kc ns : Nat} (hx : p.tables.exec = Jvm.exec) (hb : c.code = cL_isAll) (hr : meth.sig.returnType = (some .boolean)) (hml : c.maxLocals = 31) (hown : s.vm.findClass RL = some m.cls) (hg : ∀ w ∈ wsL_law, w.before args s = true) (hlocks : meth.locks = false) (hK : gK D y aS s) (hA : ∀ q, s.heap.size ≤ q → A q) (hL : ∀ k, k < 179 → k ∈ L) (hfl : l.stackTraces = false) (hZ : gZ A s s.heap) (hL2 : ∀ k ∈ L, k < 179) (ha : ∀ k, k < 179 → ad k = ad0 k) (hkc : kc ≤ 3) (hns : ns ≤ 40) {H : Heap} {locs : List Loc} {ls : Array Slot} (hY : gY D y A s (L ++ [179, 180, 181]) ad σ H locs) (hl : lv_has ls 31 [(0, .ref (ad 0)), (1, .ref (ad 161)), (2, .ref (ad 162)), (3, .ref (ad 163)), (4, .ref (ad 164)), (5, .ref (ad 165)), (6, .ref (ad 166)), (7, .ref (ad 167)), (8, .ref (ad 168)), (9, .ref (ad 169)), (10, .ref (ad 170)), (11, .ref (ad 171)), (12, .ref (ad 172)), (13, .ref (ad 173)), (14, .ref (ad 174)), (15, .ref (ad 175)), (16, .ref (ad 176)), (17, .ref (ad 178)), (18, .int x18), (19, .ref (ad 179)), (20, .ref (ad 180)), (21, .ref (ad 181))]) (h : fL_isAll_62 N σ x18 = some res) : W p l e ({ frames := 9, cells := 4, slots := 46, locals := 159 } : Room) s m args below meth c H locs kc ns (MQ below (va_Qi (fun (r : Int32) (_ : Unit) => r = res.1) (fun _ => gO D A (GW L y ad0 res.2)) A) args s 4 46 A) (F0 m 62 ls []) := by
  unfold fL_isAll_62 at h
  refine lv_iconst (v := 0) hx hb dL_isAll_62 (by decide) ?_
  exact wL_isAll_63 hx hb hr hml hown hg hlocks hK hA hL hfl hZ hL2 ha (by first | omega | (simp only [g_l0]; omega)) (by first | omega | (simp only [g_l0]; omega)) hY (lv_sub hl [0, 1, 2, 3, 4, 5, 6, 7, 8, 9, 10, 11, 12, 13, 14, 15, 16, 17, 18, 19, 20, 21] rfl) h
end
def fL_isAll (N : Nat) (σ : gS) (x18 : Int32) : Option (Int32 × gS) := (fX11_clock N (zI (zJ (zI σ 179) 180) 181)).bind fun r_1 => if r_1 = ((zI (zJ (zI σ 179) 180) 181).1 161 10) then ((fX11_changes N (zI (zJ (zI σ 179) 180) 181)).bind fun r_4 => if r_4 = ((zI (zJ (zI σ 179) 180) 181).1 161 0) then ((fX11_commits N (zI (zJ (zI σ 179) 180) 181)).bind fun r_7 => if r_7 = ((zI (zJ (zI σ 179) 180) 181).1 161 1) then ((fX11_fullFailed N (zI (zJ (zI σ 179) 180) 181)).bind fun r_10 => if r_10 = ((zI (zJ (zI σ 179) 180) 181).1 161 9) then (fL_isAll_63 N (zI (zJ (zI σ 179) 180) 181) x18 1) else (fL_isAll_62 N (zI (zJ (zI σ 179) 180) 181) x18)) else (fL_isAll_62 N (zI (zJ (zI σ 179) 180) 181) x18)) else (fL_isAll_62 N (zI (zJ (zI σ 179) 180) 181) x18)) else (fL_isAll_62 N (zI (zJ (zI σ 179) 180) 181) x18)
set_option maxRecDepth 100000 in
set_option maxHeartbeats 4000000 in
theorem kL_isAll (l : Launch) (hfl : l.stackTraces = false) (D : va_G) (y : Nat → ClassId) (aS : Nat → Nat) (sz : Nat) (L : List Nat) (hL : ∀ k, k < 179 → k ∈ L) (hL2 : ∀ k ∈ L, k < 179) (ad : Nat → Nat) (ad0 : Nat → Nat) (ha : ∀ k, k < 179 → ad k = ad0 k) (N : Nat) (σ : gS) (x18 : Int32) (res : (Int32 × gS)) (h : fL_isAll N σ x18 = some res) : Met l yL_isAll (Cond.code yL_isAll cL_isAll 31 (some .boolean) :: wsL_law) ({ frames := 9, cells := 4, slots := 46, locals := 159 } : Room) (va_Pc [.ref (ad 0), .ref (ad 161), .ref (ad 162), .ref (ad 163), .ref (ad 164), .ref (ad 165), .ref (ad 166), .ref (ad 167), .ref (ad 168), .ref (ad 169), .ref (ad 170), .ref (ad 171), .ref (ad 172), .ref (ad 173), .ref (ad 174), .ref (ad 175), .ref (ad 176), .ref (ad 178), .int x18] (gIX D y aS (GW L y ad σ) sz)) (va_Qi (fun (r : Int32) (_ : Unit) => r = res.1) (fun _ => gO D (va_A (GW L y ad σ) sz) (GW L y ad0 res.2)) (va_A (GW L y ad σ) sz)) 4 46 (va_A (GW L y ad σ) sz) := by
  refine g_ofZ (by decide) (Nat.le_of_ble_eq_true rfl) ?_
  intro p e s m below meth c ls A hx hb hr hml hown hg hlocks hin hsz hK hP hD hS hA hAe hl hZ
  rw [← hAe]
  replace hown : s.vm.findClass RL = some m.cls := hown
  have hY : gY D y A s L ad σ s.heap [] := ⟨hP, hD, hS⟩
  clear hP hD hS
  replace hl : lv_has ls 31 [(0, .ref (ad 0)), (1, .ref (ad 161)), (2, .ref (ad 162)), (3, .ref (ad 163)), (4, .ref (ad 164)), (5, .ref (ad 165)), (6, .ref (ad 166)), (7, .ref (ad 167)), (8, .ref (ad 168)), (9, .ref (ad 169)), (10, .ref (ad 170)), (11, .ref (ad 171)), (12, .ref (ad 172)), (13, .ref (ad 173)), (14, .ref (ad 174)), (15, .ref (ad 175)), (16, .ref (ad 176)), (17, .ref (ad 178)), (18, .int x18)] := hl
  unfold fL_isAll at h
  generalize hlc : ([] : List Loc) = locs at hY ⊢
  clear hlc
  refine lv_bipush (v := 32) hx hb dL_isAll_0 (by decide +kernel) ?_
  refine G_newI (K := 179) hx hb hg hK hA hY hL2 (by decide) gk_179 (by decide +kernel) (by rw [gl_179]; decide +kernel) (by rw [gl_179]; decide +kernel) (by dsimp only; omega) (by dsimp only; rw [gl_179]; omega) dL_isAll_2 ?_
  intro q179 H hY
  obtain ⟨ad, had⟩ : ∃ x, x = adU ad 179 q179 := ⟨_, rfl⟩
  rw [← had] at hY ⊢
  have hu := adU_ne had
  clear had
  rw [gl_179]
  replace hl : lv_has ls 31 [(0, .ref (ad 0)), (1, .ref (ad 161)), (2, .ref (ad 162)), (3, .ref (ad 163)), (4, .ref (ad 164)), (5, .ref (ad 165)), (6, .ref (ad 166)), (7, .ref (ad 167)), (8, .ref (ad 168)), (9, .ref (ad 169)), (10, .ref (ad 170)), (11, .ref (ad 171)), (12, .ref (ad 172)), (13, .ref (ad 173)), (14, .ref (ad 174)), (15, .ref (ad 175)), (16, .ref (ad 176)), (17, .ref (ad 178)), (18, .int x18)] := by rw [hu 0 (by decide), hu 161 (by decide), hu 162 (by decide), hu 163 (by decide), hu 164 (by decide), hu 165 (by decide), hu 166 (by decide), hu 167 (by decide), hu 168 (by decide), hu 169 (by decide), hu 170 (by decide), hu 171 (by decide), hu 172 (by decide), hu 173 (by decide), hu 174 (by decide), hu 175 (by decide), hu 176 (by decide), hu 178 (by decide)]; exact hl
  replace ha : ∀ k, k < 179 → ad k = ad0 k := fun k hk => (hu k (by omega)).trans (ha k hk)
  clear hu
  refine lv_astore (lv' := [(19, .ref (ad 179)), (0, .ref (ad 0)), (1, .ref (ad 161)), (2, .ref (ad 162)), (3, .ref (ad 163)), (4, .ref (ad 164)), (5, .ref (ad 165)), (6, .ref (ad 166)), (7, .ref (ad 167)), (8, .ref (ad 168)), (9, .ref (ad 169)), (10, .ref (ad 170)), (11, .ref (ad 171)), (12, .ref (ad 172)), (13, .ref (ad 173)), (14, .ref (ad 174)), (15, .ref (ad 175)), (16, .ref (ad 176)), (17, .ref (ad 178)), (18, .int x18)]) hx hb dL_isAll_4 hl (by decide) rfl ?_
  clear hl
  intro ls hl
  refine lv_iconst (v := 5) hx hb dL_isAll_6 (by decide) ?_
  refine G_newJ (K := 180) hx hb hg hK hA hY (fun k hk => (List.mem_append.mp hk).elim (fun h => Nat.lt_trans (hL2 k h) (by decide)) (fun h => by simp at h; omega)) (by decide) gk_180 (by decide +kernel) (by rw [gl_180]; decide +kernel) (by rw [gl_180]; decide +kernel) (by dsimp only; omega) (by dsimp only; rw [gl_180]; omega) dL_isAll_7 ?_
  intro q180 H hY
  obtain ⟨ad, had⟩ : ∃ x, x = adU ad 180 q180 := ⟨_, rfl⟩
  rw [← had] at hY ⊢
  have hu := adU_ne had
  clear had
  rw [gl_180]
  replace hl : lv_has ls 31 [(19, .ref (ad 179)), (0, .ref (ad 0)), (1, .ref (ad 161)), (2, .ref (ad 162)), (3, .ref (ad 163)), (4, .ref (ad 164)), (5, .ref (ad 165)), (6, .ref (ad 166)), (7, .ref (ad 167)), (8, .ref (ad 168)), (9, .ref (ad 169)), (10, .ref (ad 170)), (11, .ref (ad 171)), (12, .ref (ad 172)), (13, .ref (ad 173)), (14, .ref (ad 174)), (15, .ref (ad 175)), (16, .ref (ad 176)), (17, .ref (ad 178)), (18, .int x18)] := by rw [hu 179 (by decide), hu 0 (by decide), hu 161 (by decide), hu 162 (by decide), hu 163 (by decide), hu 164 (by decide), hu 165 (by decide), hu 166 (by decide), hu 167 (by decide), hu 168 (by decide), hu 169 (by decide), hu 170 (by decide), hu 171 (by decide), hu 172 (by decide), hu 173 (by decide), hu 174 (by decide), hu 175 (by decide), hu 176 (by decide), hu 178 (by decide)]; exact hl
  replace ha : ∀ k, k < 179 → ad k = ad0 k := fun k hk => (hu k (by omega)).trans (ha k hk)
  clear hu
  replace hY : gY D y A s (L ++ [179, 180]) ad (zJ (zI σ 179) 180) H locs := by rw [List.append_assoc] at hY; exact hY
  refine lv_astore (lv' := [(20, .ref (ad 180)), (19, .ref (ad 179)), (0, .ref (ad 0)), (1, .ref (ad 161)), (2, .ref (ad 162)), (3, .ref (ad 163)), (4, .ref (ad 164)), (5, .ref (ad 165)), (6, .ref (ad 166)), (7, .ref (ad 167)), (8, .ref (ad 168)), (9, .ref (ad 169)), (10, .ref (ad 170)), (11, .ref (ad 171)), (12, .ref (ad 172)), (13, .ref (ad 173)), (14, .ref (ad 174)), (15, .ref (ad 175)), (16, .ref (ad 176)), (17, .ref (ad 178)), (18, .int x18)]) hx hb dL_isAll_9 hl (by decide) rfl ?_
  clear hl
  intro ls hl
  refine lv_iconst (v := 3) hx hb dL_isAll_11 (by decide) ?_
  refine G_newI (K := 181) hx hb hg hK hA hY (fun k hk => (List.mem_append.mp hk).elim (fun h => Nat.lt_trans (hL2 k h) (by decide)) (fun h => by simp at h; omega)) (by decide) gk_181 (by decide +kernel) (by rw [gl_181]; decide +kernel) (by rw [gl_181]; decide +kernel) (by dsimp only; omega) (by dsimp only; rw [gl_181]; omega) dL_isAll_12 ?_
  intro q181 H hY
  obtain ⟨ad, had⟩ : ∃ x, x = adU ad 181 q181 := ⟨_, rfl⟩
  rw [← had] at hY ⊢
  have hu := adU_ne had
  clear had
  rw [gl_181]
  replace hl : lv_has ls 31 [(20, .ref (ad 180)), (19, .ref (ad 179)), (0, .ref (ad 0)), (1, .ref (ad 161)), (2, .ref (ad 162)), (3, .ref (ad 163)), (4, .ref (ad 164)), (5, .ref (ad 165)), (6, .ref (ad 166)), (7, .ref (ad 167)), (8, .ref (ad 168)), (9, .ref (ad 169)), (10, .ref (ad 170)), (11, .ref (ad 171)), (12, .ref (ad 172)), (13, .ref (ad 173)), (14, .ref (ad 174)), (15, .ref (ad 175)), (16, .ref (ad 176)), (17, .ref (ad 178)), (18, .int x18)] := by rw [hu 180 (by decide), hu 179 (by decide), hu 0 (by decide), hu 161 (by decide), hu 162 (by decide), hu 163 (by decide), hu 164 (by decide), hu 165 (by decide), hu 166 (by decide), hu 167 (by decide), hu 168 (by decide), hu 169 (by decide), hu 170 (by decide), hu 171 (by decide), hu 172 (by decide), hu 173 (by decide), hu 174 (by decide), hu 175 (by decide), hu 176 (by decide), hu 178 (by decide)]; exact hl
  replace ha : ∀ k, k < 179 → ad k = ad0 k := fun k hk => (hu k (by omega)).trans (ha k hk)
  clear hu
  replace hY : gY D y A s (L ++ [179, 180, 181]) ad (zI (zJ (zI σ 179) 180) 181) H locs := by rw [List.append_assoc] at hY; exact hY
  refine lv_astore (lv' := [(21, .ref (ad 181)), (20, .ref (ad 180)), (19, .ref (ad 179)), (0, .ref (ad 0)), (1, .ref (ad 161)), (2, .ref (ad 162)), (3, .ref (ad 163)), (4, .ref (ad 164)), (5, .ref (ad 165)), (6, .ref (ad 166)), (7, .ref (ad 167)), (8, .ref (ad 168)), (9, .ref (ad 169)), (10, .ref (ad 170)), (11, .ref (ad 171)), (12, .ref (ad 172)), (13, .ref (ad 173)), (14, .ref (ad 174)), (15, .ref (ad 175)), (16, .ref (ad 176)), (17, .ref (ad 178)), (18, .int x18)]) hx hb dL_isAll_14 hl (by decide) rfl ?_
  clear hl
  intro ls hl
  refine lv_aload_n hx hb dL_isAll_16 rfl (lv_at hl 3 rfl) ?_
  obtain ⟨r_1, e_2, h⟩ := g_bind h
  refine G_ai hY hA (va_runV (As := []) (rest := []) ⟨hx, hb, hml, hown, hg⟩ (kX11_clock l D y aS H.size (L ++ [179, 180, 181]) (fun k hk => List.mem_append_left _ (hL k hk)) ad N (zI (zJ (zI σ 179) 180) 181) _ e_2) (cwV 0 hg ggV_RL_146_X11_clock rfl rfl rfl (by decide +kernel) ⟨Nat.le_of_ble_eq_true rfl, Nat.le_of_ble_eq_true rfl⟩) (G_pV (q := (RX11, TX11, 19)) hK hY (List.mem_append_left _ (hL 0 (by decide))) gk_0 (by decide) rfl) rfl rfl hl.1 rfl (lv_room (Nat.le_of_ble_eq_true rfl)) dL_isAll_17 ⟨(by dsimp only; omega), (by dsimp only; omega)⟩) ?_
  clear hY
  rintro _ H locs rfl hY
  refine lv_aload_n hx hb dL_isAll_20 rfl (lv_at hl 4 rfl) ?_
  refine lv_bipush (v := 10) hx hb dL_isAll_21 (by decide +kernel) ?_
  refine G_iald (j := 10) hx hb hK hY (List.mem_append_left _ (hL 161 (by decide))) gk_161 (by rw [gl_161]; decide +kernel) (by decide +kernel) dL_isAll_23 ?_
  refine lv_icmp_ne (tgt := 62) hx hb dL_isAll_24 (by decide) (fun z_3 => ?_) (fun z_3 => ?_)
  ·
    rw [if_neg z_3] at h
    exact wL_isAll_62 hx hb hr hml hown hg hlocks hK hA hL hfl hZ hL2 ha (by first | omega | (simp only [g_l0]; omega)) (by first | omega | (simp only [g_l0]; omega)) hY (lv_sub hl [3, 4, 5, 6, 7, 8, 9, 10, 11, 12, 13, 14, 15, 16, 17, 18, 19, 20, 21, 2, 1, 0] rfl) h
  ·
    rw [if_pos z_3] at h
    refine lv_aload_n hx hb dL_isAll_27 rfl (lv_at hl 3 rfl) ?_
    obtain ⟨r_4, e_5, h⟩ := g_bind h
    refine G_ai hY hA (va_runV (As := []) (rest := []) ⟨hx, hb, hml, hown, hg⟩ (kX11_changes l D y aS H.size (L ++ [179, 180, 181]) (fun k hk => List.mem_append_left _ (hL k hk)) ad N (zI (zJ (zI σ 179) 180) 181) _ e_5) (cwV 0 hg ggV_RL_149_X11_changes rfl rfl rfl (by decide +kernel) ⟨Nat.le_of_ble_eq_true rfl, Nat.le_of_ble_eq_true rfl⟩) (G_pV (q := (RX11, TX11, 19)) hK hY (List.mem_append_left _ (hL 0 (by decide))) gk_0 (by decide) rfl) rfl rfl hl.1 rfl (lv_room (Nat.le_of_ble_eq_true rfl)) dL_isAll_28 ⟨(by dsimp only; omega), (by dsimp only; omega)⟩) ?_
    clear hY
    rintro _ H locs rfl hY
    refine lv_aload_n hx hb dL_isAll_31 rfl (lv_at hl 4 rfl) ?_
    refine lv_iconst (v := 0) hx hb dL_isAll_32 (by decide) ?_
    refine G_iald (j := 0) hx hb hK hY (List.mem_append_left _ (hL 161 (by decide))) gk_161 (by rw [gl_161]; decide +kernel) (by decide +kernel) dL_isAll_33 ?_
    refine lv_icmp_ne (tgt := 62) hx hb dL_isAll_34 (by decide) (fun z_6 => ?_) (fun z_6 => ?_)
    ·
      rw [if_neg z_6] at h
      exact wL_isAll_62 hx hb hr hml hown hg hlocks hK hA hL hfl hZ hL2 ha (by first | omega | (simp only [g_l0]; omega)) (by first | omega | (simp only [g_l0]; omega)) hY (lv_sub hl [3, 4, 5, 6, 7, 8, 9, 10, 11, 12, 13, 14, 15, 16, 17, 18, 19, 20, 21, 2, 1, 0] rfl) h
    ·
      rw [if_pos z_6] at h
      refine lv_aload_n hx hb dL_isAll_37 rfl (lv_at hl 3 rfl) ?_
      obtain ⟨r_7, e_8, h⟩ := g_bind h
      refine G_ai hY hA (va_runV (As := []) (rest := []) ⟨hx, hb, hml, hown, hg⟩ (kX11_commits l D y aS H.size (L ++ [179, 180, 181]) (fun k hk => List.mem_append_left _ (hL k hk)) ad N (zI (zJ (zI σ 179) 180) 181) _ e_8) (cwV 0 hg ggV_RL_152_X11_commits rfl rfl rfl (by decide +kernel) ⟨Nat.le_of_ble_eq_true rfl, Nat.le_of_ble_eq_true rfl⟩) (G_pV (q := (RX11, TX11, 19)) hK hY (List.mem_append_left _ (hL 0 (by decide))) gk_0 (by decide) rfl) rfl rfl hl.1 rfl (lv_room (Nat.le_of_ble_eq_true rfl)) dL_isAll_38 ⟨(by dsimp only; omega), (by dsimp only; omega)⟩) ?_
      clear hY
      rintro _ H locs rfl hY
      refine lv_aload_n hx hb dL_isAll_41 rfl (lv_at hl 4 rfl) ?_
      refine lv_iconst (v := 1) hx hb dL_isAll_42 (by decide) ?_
      refine G_iald (j := 1) hx hb hK hY (List.mem_append_left _ (hL 161 (by decide))) gk_161 (by rw [gl_161]; decide +kernel) (by decide +kernel) dL_isAll_43 ?_
      refine lv_icmp_ne (tgt := 62) hx hb dL_isAll_44 (by decide) (fun z_9 => ?_) (fun z_9 => ?_)
      ·
        rw [if_neg z_9] at h
        exact wL_isAll_62 hx hb hr hml hown hg hlocks hK hA hL hfl hZ hL2 ha (by first | omega | (simp only [g_l0]; omega)) (by first | omega | (simp only [g_l0]; omega)) hY (lv_sub hl [3, 4, 5, 6, 7, 8, 9, 10, 11, 12, 13, 14, 15, 16, 17, 18, 19, 20, 21, 2, 1, 0] rfl) h
      ·
        rw [if_pos z_9] at h
        refine lv_aload_n hx hb dL_isAll_47 rfl (lv_at hl 3 rfl) ?_
        obtain ⟨r_10, e_11, h⟩ := g_bind h
        refine G_ai hY hA (va_runV (As := []) (rest := []) ⟨hx, hb, hml, hown, hg⟩ (kX11_fullFailed l D y aS H.size (L ++ [179, 180, 181]) (fun k hk => List.mem_append_left _ (hL k hk)) ad N (zI (zJ (zI σ 179) 180) 181) _ e_11) (cwV 0 hg ggV_RL_155_X11_fullFailed rfl rfl rfl (by decide +kernel) ⟨Nat.le_of_ble_eq_true rfl, Nat.le_of_ble_eq_true rfl⟩) (G_pV (q := (RX11, TX11, 19)) hK hY (List.mem_append_left _ (hL 0 (by decide))) gk_0 (by decide) rfl) rfl rfl hl.1 rfl (lv_room (Nat.le_of_ble_eq_true rfl)) dL_isAll_48 ⟨(by dsimp only; omega), (by dsimp only; omega)⟩) ?_
        clear hY
        rintro _ H locs rfl hY
        refine lv_aload_n hx hb dL_isAll_51 rfl (lv_at hl 4 rfl) ?_
        refine lv_bipush (v := 9) hx hb dL_isAll_52 (by decide +kernel) ?_
        refine G_iald (j := 9) hx hb hK hY (List.mem_append_left _ (hL 161 (by decide))) gk_161 (by rw [gl_161]; decide +kernel) (by decide +kernel) dL_isAll_54 ?_
        refine lv_icmp_ne (tgt := 62) hx hb dL_isAll_55 (by decide) (fun z_12 => ?_) (fun z_12 => ?_)
        ·
          rw [if_neg z_12] at h
          exact wL_isAll_62 hx hb hr hml hown hg hlocks hK hA hL hfl hZ hL2 ha (by first | omega | (simp only [g_l0]; omega)) (by first | omega | (simp only [g_l0]; omega)) hY (lv_sub hl [3, 4, 5, 6, 7, 8, 9, 10, 11, 12, 13, 14, 15, 16, 17, 18, 19, 20, 21, 2, 1, 0] rfl) h
        ·
          rw [if_pos z_12] at h
          refine lv_iconst (v := 1) hx hb dL_isAll_58 (by decide) ?_
          refine lv_goto (tgt := 63) hx hb dL_isAll_59 (by decide) ?_
          exact wL_isAll_63 hx hb hr hml hown hg hlocks hK hA hL hfl hZ hL2 ha (by first | omega | (simp only [g_l0]; omega)) (by first | omega | (simp only [g_l0]; omega)) hY (lv_sub hl [3, 4, 5, 6, 7, 8, 9, 10, 11, 12, 13, 14, 15, 16, 17, 18, 19, 20, 21, 2, 1, 0] rfl) h
