theorem dL_holds_701 : decode cL_holds 701 = .ok (.iconst 1, 1) := by decide +kernel
theorem dL_holds_702 : decode cL_holds 702 = .ok (.goto 4, 3) := by decide +kernel
theorem dL_holds_705 : decode cL_holds 705 = .ok (.iconst 0, 1) := by decide +kernel
theorem dL_holds_706 : decode cL_holds 706 = .ok (.istore 18, 2) := by decide +kernel
theorem dL_holds_708 : decode cL_holds 708 = .ok (.goto 88, 3) := by decide +kernel
theorem dL_holds_711 : decode cL_holds 711 = .ok (.aload 11, 2) := by decide +kernel
theorem dL_holds_713 : decode cL_holds 713 = .ok (.iconst 0, 1) := by decide +kernel
theorem dL_holds_714 : decode cL_holds 714 = .ok (.iaload, 1) := by decide +kernel
theorem dL_holds_715 : decode cL_holds 715 = .ok (.ifCond .gt 10, 3) := by decide +kernel
theorem dL_holds_718 : decode cL_holds 718 = .ok (.aload 12, 2) := by decide +kernel
theorem dL_holds_720 : decode cL_holds 720 = .ok (.iconst 0, 1) := by decide +kernel
theorem dL_holds_721 : decode cL_holds 721 = .ok (.iaload, 1) := by decide +kernel
theorem dL_holds_722 : decode cL_holds 722 = .ok (.ifCond .le 74, 3) := by decide +kernel
theorem dL_holds_725 : decode cL_holds 725 = .ok (.aload_n 1, 1) := by decide +kernel
theorem dL_holds_726 : decode cL_holds 726 = .ok (.aload_n 2, 1) := by decide +kernel
theorem dL_holds_727 : decode cL_holds 727 = .ok (.aload 4, 2) := by decide +kernel
theorem dL_holds_729 : decode cL_holds 729 = .ok (.aload 5, 2) := by decide +kernel
theorem dL_holds_731 : decode cL_holds 731 = .ok (.aload 11, 2) := by decide +kernel
theorem dL_holds_733 : decode cL_holds 733 = .ok (.iconst 0, 1) := by decide +kernel
theorem dL_holds_734 : decode cL_holds 734 = .ok (.iaload, 1) := by decide +kernel
theorem dL_holds_735 : decode cL_holds 735 = .ok (.ifCond .le 8, 3) := by decide +kernel
theorem dL_holds_738 : decode cL_holds 738 = .ok (.aload 11, 2) := by decide +kernel
theorem dL_holds_740 : decode cL_holds 740 = .ok (.goto 5, 3) := by decide +kernel
theorem dL_holds_743 : decode cL_holds 743 = .ok (.aload 12, 2) := by decide +kernel
theorem dL_holds_745 : decode cL_holds 745 = .ok (.aload 13, 2) := by decide +kernel
theorem dL_holds_747 : decode cL_holds 747 = .ok (.aload 14, 2) := by decide +kernel
theorem dL_holds_749 : decode cL_holds 749 = .ok (.aload 17, 2) := by decide +kernel
theorem dL_holds_751 : decode cL_holds 751 = .ok (.iload 20, 2) := by decide +kernel
theorem dL_holds_753 : decode cL_holds 753 = .ok (.invokestatic 304, 3) := by decide +kernel
theorem dL_holds_756 : decode cL_holds 756 = .ok (.ifCond .eq 37, 3) := by decide +kernel
theorem dL_holds_759 : decode cL_holds 759 = .ok (.aload_n 1, 1) := by decide +kernel
theorem dL_holds_760 : decode cL_holds 760 = .ok (.aload_n 2, 1) := by decide +kernel
theorem dL_holds_761 : decode cL_holds 761 = .ok (.aload 4, 2) := by decide +kernel
theorem dL_holds_763 : decode cL_holds 763 = .ok (.aload 5, 2) := by decide +kernel
theorem dL_holds_765 : decode cL_holds 765 = .ok (.aload 11, 2) := by decide +kernel
theorem dL_holds_767 : decode cL_holds 767 = .ok (.iconst 0, 1) := by decide +kernel
theorem dL_holds_768 : decode cL_holds 768 = .ok (.iaload, 1) := by decide +kernel
theorem dL_holds_769 : decode cL_holds 769 = .ok (.ifCond .le 8, 3) := by decide +kernel
theorem dL_holds_772 : decode cL_holds 772 = .ok (.aload 11, 2) := by decide +kernel
theorem dL_holds_774 : decode cL_holds 774 = .ok (.goto 5, 3) := by decide +kernel
theorem dL_holds_777 : decode cL_holds 777 = .ok (.aload 12, 2) := by decide +kernel
theorem dL_holds_779 : decode cL_holds 779 = .ok (.iload 20, 2) := by decide +kernel
theorem dL_holds_781 : decode cL_holds 781 = .ok (.iconst 3, 1) := by decide +kernel
theorem dL_holds_782 : decode cL_holds 782 = .ok (.idiv, 1) := by decide +kernel
theorem dL_holds_783 : decode cL_holds 783 = .ok (.invokestatic 308, 3) := by decide +kernel
theorem dL_holds_786 : decode cL_holds 786 = .ok (.ifCond .eq 7, 3) := by decide +kernel
theorem dL_holds_789 : decode cL_holds 789 = .ok (.iconst 1, 1) := by decide +kernel
theorem dL_holds_790 : decode cL_holds 790 = .ok (.goto 4, 3) := by decide +kernel
theorem dL_holds_793 : decode cL_holds 793 = .ok (.iconst 0, 1) := by decide +kernel
theorem dL_holds_794 : decode cL_holds 794 = .ok (.istore 18, 2) := by decide +kernel
theorem dL_holds_796 : decode cL_holds 796 = .ok (.iload 18, 2) := by decide +kernel
theorem dL_holds_798 : decode cL_holds 798 = .ok (.ifCond .eq 41, 3) := by decide +kernel
theorem dL_holds_801 : decode cL_holds 801 = .ok (.iload 19, 2) := by decide +kernel
theorem dL_holds_803 : decode cL_holds 803 = .ok (.iconst 4, 1) := by decide +kernel
theorem dL_holds_804 : decode cL_holds 804 = .ok (.irem, 1) := by decide +kernel
theorem dL_holds_805 : decode cL_holds 805 = .ok (.iconst 3, 1) := by decide +kernel
theorem dL_holds_806 : decode cL_holds 806 = .ok (.if_icmp .lt 29, 3) := by decide +kernel
theorem dL_holds_809 : decode cL_holds 809 = .ok (.aload_n 1, 1) := by decide +kernel
theorem dL_holds_810 : decode cL_holds 810 = .ok (.aload_n 2, 1) := by decide +kernel
theorem dL_holds_811 : decode cL_holds 811 = .ok (.aload 4, 2) := by decide +kernel
theorem dL_holds_813 : decode cL_holds 813 = .ok (.aload 5, 2) := by decide +kernel
theorem dL_holds_815 : decode cL_holds 815 = .ok (.aload 6, 2) := by decide +kernel
theorem dL_holds_817 : decode cL_holds 817 = .ok (.aload 8, 2) := by decide +kernel
theorem dL_holds_819 : decode cL_holds 819 = .ok (.aload 9, 2) := by decide +kernel
theorem dL_holds_821 : decode cL_holds 821 = .ok (.aload 10, 2) := by decide +kernel
theorem dL_holds_823 : decode cL_holds 823 = .ok (.aload 11, 2) := by decide +kernel
theorem dL_holds_825 : decode cL_holds 825 = .ok (.aload 12, 2) := by decide +kernel
theorem dL_holds_827 : decode cL_holds 827 = .ok (.aload 17, 2) := by decide +kernel
theorem dL_holds_829 : decode cL_holds 829 = .ok (.invokestatic 312, 3) := by decide +kernel
theorem dL_holds_832 : decode cL_holds 832 = .ok (.ifCond .eq 7, 3) := by decide +kernel
theorem dL_holds_835 : decode cL_holds 835 = .ok (.iconst 1, 1) := by decide +kernel
theorem dL_holds_836 : decode cL_holds 836 = .ok (.goto 4, 3) := by decide +kernel
theorem dL_holds_839 : decode cL_holds 839 = .ok (.iconst 0, 1) := by decide +kernel
theorem dL_holds_840 : decode cL_holds 840 = .ok (.istore 18, 2) := by decide +kernel
theorem dL_holds_842 : decode cL_holds 842 = .ok (.iinc 19 1, 3) := by decide +kernel
theorem dL_holds_845 : decode cL_holds 845 = .ok (.goto (-729), 3) := by decide +kernel
theorem dL_holds_848 : decode cL_holds 848 = .ok (.iload 18, 2) := by decide +kernel
theorem dL_holds_850 : decode cL_holds 850 = .ok (.ifCond .eq 33, 3) := by decide +kernel
theorem dL_holds_853 : decode cL_holds 853 = .ok (.aload_n 1, 1) := by decide +kernel
theorem dL_holds_854 : decode cL_holds 854 = .ok (.aload_n 2, 1) := by decide +kernel
theorem dL_holds_855 : decode cL_holds 855 = .ok (.aload 4, 2) := by decide +kernel
theorem dL_holds_857 : decode cL_holds 857 = .ok (.aload 5, 2) := by decide +kernel
theorem dL_holds_859 : decode cL_holds 859 = .ok (.aload 6, 2) := by decide +kernel
theorem dL_holds_861 : decode cL_holds 861 = .ok (.aload 8, 2) := by decide +kernel
theorem dL_holds_863 : decode cL_holds 863 = .ok (.aload 9, 2) := by decide +kernel
theorem dL_holds_865 : decode cL_holds 865 = .ok (.aload 10, 2) := by decide +kernel
theorem dL_holds_867 : decode cL_holds 867 = .ok (.aload 11, 2) := by decide +kernel
theorem dL_holds_869 : decode cL_holds 869 = .ok (.aload 12, 2) := by decide +kernel
theorem dL_holds_871 : decode cL_holds 871 = .ok (.aload 17, 2) := by decide +kernel
theorem dL_holds_873 : decode cL_holds 873 = .ok (.invokestatic 312, 3) := by decide +kernel
theorem dL_holds_876 : decode cL_holds 876 = .ok (.ifCond .eq 7, 3) := by decide +kernel
theorem dL_holds_879 : decode cL_holds 879 = .ok (.iconst 1, 1) := by decide +kernel
theorem dL_holds_880 : decode cL_holds 880 = .ok (.goto 4, 3) := by decide +kernel
theorem dL_holds_883 : decode cL_holds 883 = .ok (.iconst 0, 1) := by decide +kernel
theorem dL_holds_884 : decode cL_holds 884 = .ok (.ireturn, 1) := by decide +kernel
