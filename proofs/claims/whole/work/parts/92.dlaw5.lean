/-! ===== the law: its instructions, 5 ===== -/
theorem dLaw_726 : decode code 726 = .ok (.ireturn, 1) := by decide +kernel
theorem dLaw_727 : decode code 727 = .ok (.goto 143, 3) := by decide +kernel
theorem dLaw_730 : decode code 730 = .ok (.aload_n 1, 1) := by decide +kernel
theorem dLaw_731 : decode code 731 = .ok (.aload_n 0, 1) := by decide +kernel
theorem dLaw_732 : decode code 732 = .ok (.iload 4, 2) := by decide +kernel
theorem dLaw_734 : decode code 734 = .ok (.iconst 1, 1) := by decide +kernel
theorem dLaw_735 : decode code 735 = .ok (.iadd, 1) := by decide +kernel
theorem dLaw_736 : decode code 736 = .ok (.iaload, 1) := by decide +kernel
theorem dLaw_737 : decode code 737 = .ok (.invokestatic 102, 3) := by decide +kernel
theorem dLaw_740 : decode code 740 = .ok (.istore 5, 2) := by decide +kernel
theorem dLaw_742 : decode code 742 = .ok (.aload_n 2, 1) := by decide +kernel
theorem dLaw_743 : decode code 743 = .ok (.aload_n 0, 1) := by decide +kernel
theorem dLaw_744 : decode code 744 = .ok (.iload 4, 2) := by decide +kernel
theorem dLaw_746 : decode code 746 = .ok (.iconst 1, 1) := by decide +kernel
theorem dLaw_747 : decode code 747 = .ok (.iadd, 1) := by decide +kernel
theorem dLaw_748 : decode code 748 = .ok (.iaload, 1) := by decide +kernel
theorem dLaw_749 : decode code 749 = .ok (.invokevirtual 104, 3) := by decide +kernel
theorem dLaw_752 : decode code 752 = .ok (.aload_n 2, 1) := by decide +kernel
theorem dLaw_753 : decode code 753 = .ok (.invokevirtual 69, 3) := by decide +kernel
theorem dLaw_756 : decode code 756 = .ok (.iload 5, 2) := by decide +kernel
theorem dLaw_758 : decode code 758 = .ok (.if_icmp .eq 5, 3) := by decide +kernel
theorem dLaw_761 : decode code 761 = .ok (.iconst 0, 1) := by decide +kernel
theorem dLaw_762 : decode code 762 = .ok (.ireturn, 1) := by decide +kernel
theorem dLaw_763 : decode code 763 = .ok (.goto 107, 3) := by decide +kernel
theorem dLaw_766 : decode code 766 = .ok (.aload_n 1, 1) := by decide +kernel
theorem dLaw_767 : decode code 767 = .ok (.invokevirtual 105, 3) := by decide +kernel
theorem dLaw_770 : decode code 770 = .ok (.aload_n 2, 1) := by decide +kernel
theorem dLaw_771 : decode code 771 = .ok (.invokevirtual 108, 3) := by decide +kernel
theorem dLaw_774 : decode code 774 = .ok (.if_icmp .eq 96, 3) := by decide +kernel
theorem dLaw_777 : decode code 777 = .ok (.iconst 0, 1) := by decide +kernel
theorem dLaw_778 : decode code 778 = .ok (.ireturn, 1) := by decide +kernel
theorem dLaw_779 : decode code 779 = .ok (.aload_n 1, 1) := by decide +kernel
theorem dLaw_780 : decode code 780 = .ok (.invokevirtual 109, 3) := by decide +kernel
theorem dLaw_783 : decode code 783 = .ok (.aload_n 2, 1) := by decide +kernel
theorem dLaw_784 : decode code 784 = .ok (.invokevirtual 112, 3) := by decide +kernel
theorem dLaw_787 : decode code 787 = .ok (.goto 83, 3) := by decide +kernel
theorem dLaw_790 : decode code 790 = .ok (.aload_n 1, 1) := by decide +kernel
theorem dLaw_791 : decode code 791 = .ok (.aload_n 0, 1) := by decide +kernel
theorem dLaw_792 : decode code 792 = .ok (.iload 4, 2) := by decide +kernel
theorem dLaw_794 : decode code 794 = .ok (.iconst 1, 1) := by decide +kernel
theorem dLaw_795 : decode code 795 = .ok (.iadd, 1) := by decide +kernel
theorem dLaw_796 : decode code 796 = .ok (.iaload, 1) := by decide +kernel
theorem dLaw_797 : decode code 797 = .ok (.aload_n 0, 1) := by decide +kernel
theorem dLaw_798 : decode code 798 = .ok (.iload 4, 2) := by decide +kernel
theorem dLaw_800 : decode code 800 = .ok (.iconst 2, 1) := by decide +kernel
theorem dLaw_801 : decode code 801 = .ok (.iadd, 1) := by decide +kernel
theorem dLaw_802 : decode code 802 = .ok (.iaload, 1) := by decide +kernel
theorem dLaw_803 : decode code 803 = .ok (.aload_n 0, 1) := by decide +kernel
theorem dLaw_804 : decode code 804 = .ok (.iload 4, 2) := by decide +kernel
theorem dLaw_806 : decode code 806 = .ok (.iconst 3, 1) := by decide +kernel
theorem dLaw_807 : decode code 807 = .ok (.iadd, 1) := by decide +kernel
theorem dLaw_808 : decode code 808 = .ok (.iaload, 1) := by decide +kernel
theorem dLaw_809 : decode code 809 = .ok (.aload_n 3, 1) := by decide +kernel
theorem dLaw_810 : decode code 810 = .ok (.invokestatic 113, 3) := by decide +kernel
theorem dLaw_813 : decode code 813 = .ok (.istore 5, 2) := by decide +kernel
theorem dLaw_815 : decode code 815 = .ok (.aload_n 2, 1) := by decide +kernel
theorem dLaw_816 : decode code 816 = .ok (.aload_n 0, 1) := by decide +kernel
theorem dLaw_817 : decode code 817 = .ok (.iload 4, 2) := by decide +kernel
theorem dLaw_819 : decode code 819 = .ok (.iconst 1, 1) := by decide +kernel
theorem dLaw_820 : decode code 820 = .ok (.iadd, 1) := by decide +kernel
theorem dLaw_821 : decode code 821 = .ok (.iaload, 1) := by decide +kernel
theorem dLaw_822 : decode code 822 = .ok (.aload_n 0, 1) := by decide +kernel
theorem dLaw_823 : decode code 823 = .ok (.iload 4, 2) := by decide +kernel
theorem dLaw_825 : decode code 825 = .ok (.iconst 2, 1) := by decide +kernel
theorem dLaw_826 : decode code 826 = .ok (.iadd, 1) := by decide +kernel
theorem dLaw_827 : decode code 827 = .ok (.iaload, 1) := by decide +kernel
theorem dLaw_828 : decode code 828 = .ok (.aload_n 0, 1) := by decide +kernel
theorem dLaw_829 : decode code 829 = .ok (.iload 4, 2) := by decide +kernel
theorem dLaw_831 : decode code 831 = .ok (.iconst 3, 1) := by decide +kernel
theorem dLaw_832 : decode code 832 = .ok (.iadd, 1) := by decide +kernel
theorem dLaw_833 : decode code 833 = .ok (.iaload, 1) := by decide +kernel
theorem dLaw_834 : decode code 834 = .ok (.invokevirtual 116, 3) := by decide +kernel
theorem dLaw_837 : decode code 837 = .ok (.istore 6, 2) := by decide +kernel
theorem dLaw_839 : decode code 839 = .ok (.aload_n 2, 1) := by decide +kernel
theorem dLaw_840 : decode code 840 = .ok (.invokevirtual 69, 3) := by decide +kernel
theorem dLaw_843 : decode code 843 = .ok (.iload 5, 2) := by decide +kernel
theorem dLaw_845 : decode code 845 = .ok (.if_icmp .eq 5, 3) := by decide +kernel
theorem dLaw_848 : decode code 848 = .ok (.iconst 0, 1) := by decide +kernel
theorem dLaw_849 : decode code 849 = .ok (.ireturn, 1) := by decide +kernel
theorem dLaw_850 : decode code 850 = .ok (.iload 5, 2) := by decide +kernel
theorem dLaw_852 : decode code 852 = .ok (.ifCond .ne 15, 3) := by decide +kernel
theorem dLaw_855 : decode code 855 = .ok (.aload_n 3, 1) := by decide +kernel
theorem dLaw_856 : decode code 856 = .ok (.iconst 0, 1) := by decide +kernel
theorem dLaw_857 : decode code 857 = .ok (.laload, 1) := by decide +kernel
theorem dLaw_858 : decode code 858 = .ok (.iload 6, 2) := by decide +kernel
theorem dLaw_860 : decode code 860 = .ok (.i2l, 1) := by decide +kernel
theorem dLaw_861 : decode code 861 = .ok (.lcmp, 1) := by decide +kernel
theorem dLaw_862 : decode code 862 = .ok (.ifCond .eq 5, 3) := by decide +kernel
theorem dLaw_865 : decode code 865 = .ok (.iconst 0, 1) := by decide +kernel
theorem dLaw_866 : decode code 866 = .ok (.ireturn, 1) := by decide +kernel
theorem dLaw_867 : decode code 867 = .ok (.goto 3, 3) := by decide +kernel
theorem dLaw_870 : decode code 870 = .ok (.iinc 4 6, 3) := by decide +kernel
theorem dLaw_873 : decode code 873 = .ok (.goto (-850), 3) := by decide +kernel
theorem dLaw_876 : decode code 876 = .ok (.iconst 1, 1) := by decide +kernel
theorem dLaw_877 : decode code 877 = .ok (.ireturn, 1) := by decide +kernel
