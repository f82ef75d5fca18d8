/-! the law (by wip/tools/gen_law.py) -/
section TA2
variable {xs : Nat → Int32} {L N K i d mc ms c s : Nat} {D : am_D} {Q : am_O → am_AH → Prop}
theorem r287_781 : am_at 287 781 = some (.aload_n 1, 1, [1]) := by decide +kernel
theorem r287_782 : am_at 287 782 = some (.aload_n 0, 1, [0]) := by decide +kernel
theorem r287_783 : am_at 287 783 = some (.iload 5, 2, [5]) := by decide +kernel
theorem r287_785 : am_at 287 785 = some (.iconst (1), 1, []) := by decide +kernel
theorem r287_786 : am_at 287 786 = some (.iadd, 1, []) := by decide +kernel
theorem r287_787 : am_at 287 787 = some (.iaload, 1, []) := by decide +kernel
theorem r287_788 : am_at 287 788 = some (.aload_n 3, 1, [3]) := by decide +kernel
theorem r287_789 : am_at 287 789 = some (.invokestatic 149, 3, [270, 3, 1020, 0]) := by decide +kernel
theorem r287_792 : am_at 287 792 = some (.istore 6, 2, [6]) := by decide +kernel
theorem r287_794 : am_at 287 794 = some (.aload_n 2, 1, [2]) := by decide +kernel
theorem r287_795 : am_at 287 795 = some (.aload_n 0, 1, [0]) := by decide +kernel
theorem r287_796 : am_at 287 796 = some (.iload 5, 2, [5]) := by decide +kernel
theorem r287_798 : am_at 287 798 = some (.iconst (1), 1, []) := by decide +kernel
theorem r287_799 : am_at 287 799 = some (.iadd, 1, []) := by decide +kernel
theorem r287_800 : am_at 287 800 = some (.iaload, 1, []) := by decide +kernel
theorem r287_801 : am_at 287 801 = some (.invokevirtual 151, 3, [99, 2, 1469, 0]) := by decide +kernel
theorem r287_804 : am_at 287 804 = some (.istore 7, 2, [7]) := by decide +kernel
theorem r287_806 : am_at 287 806 = some (.aload_n 2, 1, [2]) := by decide +kernel
theorem r287_807 : am_at 287 807 = some (.invokevirtual 112, 3, [45, 1, 1294, 0]) := by decide +kernel
theorem r287_810 : am_at 287 810 = some (.iload 6, 2, [6]) := by decide +kernel
theorem r287_812 : am_at 287 812 = some (.if_icmp .eq (5), 3, [817]) := by decide +kernel
theorem r287_815 : am_at 287 815 = some (.iconst (0), 1, []) := by decide +kernel
theorem r287_816 : am_at 287 816 = some (.ireturn, 1, []) := by decide +kernel
theorem r287_817 : am_at 287 817 = some (.iload 6, 2, [6]) := by decide +kernel
theorem r287_819 : am_at 287 819 = some (.ifCond .ne (15), 3, [834]) := by decide +kernel
theorem r287_822 : am_at 287 822 = some (.aload_n 3, 1, [3]) := by decide +kernel
theorem r287_823 : am_at 287 823 = some (.iconst (0), 1, []) := by decide +kernel
theorem r287_824 : am_at 287 824 = some (.laload, 1, []) := by decide +kernel
theorem r287_825 : am_at 287 825 = some (.iload 7, 2, [7]) := by decide +kernel
theorem r287_827 : am_at 287 827 = some (.i2l, 1, []) := by decide +kernel
theorem r287_828 : am_at 287 828 = some (.lcmp, 1, []) := by decide +kernel
theorem r287_829 : am_at 287 829 = some (.ifCond .eq (5), 3, [834]) := by decide +kernel
theorem r287_832 : am_at 287 832 = some (.iconst (0), 1, []) := by decide +kernel
theorem r287_833 : am_at 287 833 = some (.ireturn, 1, []) := by decide +kernel
theorem r287_834 : am_at 287 834 = some (.goto (1122), 3, [1956]) := by decide +kernel
theorem r287_837 : am_at 287 837 = some (.aload_n 1, 1, [1]) := by decide +kernel
theorem r287_838 : am_at 287 838 = some (.aload_n 3, 1, [3]) := by decide +kernel
theorem r287_839 : am_at 287 839 = some (.invokestatic 152, 3, [271, 2, 1054, 0]) := by decide +kernel
theorem r287_842 : am_at 287 842 = some (.istore 6, 2, [6]) := by decide +kernel
theorem r287_844 : am_at 287 844 = some (.aload_n 2, 1, [2]) := by decide +kernel
theorem r287_845 : am_at 287 845 = some (.invokevirtual 154, 3, [101, 1, 1508, 0]) := by decide +kernel
theorem r287_848 : am_at 287 848 = some (.istore 7, 2, [7]) := by decide +kernel
theorem r287_850 : am_at 287 850 = some (.aload_n 2, 1, [2]) := by decide +kernel
theorem r287_851 : am_at 287 851 = some (.invokevirtual 112, 3, [45, 1, 1294, 0]) := by decide +kernel
theorem r287_854 : am_at 287 854 = some (.iload 6, 2, [6]) := by decide +kernel
theorem r287_856 : am_at 287 856 = some (.if_icmp .eq (5), 3, [861]) := by decide +kernel
theorem r287_859 : am_at 287 859 = some (.iconst (0), 1, []) := by decide +kernel
theorem r287_860 : am_at 287 860 = some (.ireturn, 1, []) := by decide +kernel
theorem r287_861 : am_at 287 861 = some (.iload 6, 2, [6]) := by decide +kernel
theorem r287_863 : am_at 287 863 = some (.ifCond .ne (15), 3, [878]) := by decide +kernel
theorem r287_866 : am_at 287 866 = some (.aload_n 3, 1, [3]) := by decide +kernel
theorem r287_867 : am_at 287 867 = some (.iconst (0), 1, []) := by decide +kernel
theorem r287_868 : am_at 287 868 = some (.laload, 1, []) := by decide +kernel
theorem r287_869 : am_at 287 869 = some (.iload 7, 2, [7]) := by decide +kernel
theorem r287_871 : am_at 287 871 = some (.i2l, 1, []) := by decide +kernel
theorem r287_872 : am_at 287 872 = some (.lcmp, 1, []) := by decide +kernel
theorem r287_873 : am_at 287 873 = some (.ifCond .eq (5), 3, [878]) := by decide +kernel
theorem r287_876 : am_at 287 876 = some (.iconst (0), 1, []) := by decide +kernel
theorem r287_877 : am_at 287 877 = some (.ireturn, 1, []) := by decide +kernel
theorem r287_878 : am_at 287 878 = some (.goto (1078), 3, [1956]) := by decide +kernel
theorem r287_881 : am_at 287 881 = some (.aload_n 1, 1, [1]) := by decide +kernel
theorem r287_882 : am_at 287 882 = some (.aload_n 3, 1, [3]) := by decide +kernel
theorem r287_883 : am_at 287 883 = some (.invokestatic 155, 3, [272, 2, 1099, 0]) := by decide +kernel
theorem r287_886 : am_at 287 886 = some (.istore 6, 2, [6]) := by decide +kernel
theorem r287_888 : am_at 287 888 = some (.aload_n 2, 1, [2]) := by decide +kernel
theorem r287_889 : am_at 287 889 = some (.invokevirtual 157, 3, [102, 1, 1516, 0]) := by decide +kernel
theorem r287_892 : am_at 287 892 = some (.istore 7, 2, [7]) := by decide +kernel
theorem r287_894 : am_at 287 894 = some (.aload_n 2, 1, [2]) := by decide +kernel
theorem r287_895 : am_at 287 895 = some (.invokevirtual 112, 3, [45, 1, 1294, 0]) := by decide +kernel
theorem r287_898 : am_at 287 898 = some (.iload 6, 2, [6]) := by decide +kernel
theorem r287_900 : am_at 287 900 = some (.if_icmp .eq (5), 3, [905]) := by decide +kernel
theorem r287_903 : am_at 287 903 = some (.iconst (0), 1, []) := by decide +kernel
theorem r287_904 : am_at 287 904 = some (.ireturn, 1, []) := by decide +kernel
theorem r287_905 : am_at 287 905 = some (.iload 6, 2, [6]) := by decide +kernel
theorem r287_907 : am_at 287 907 = some (.ifCond .ne (15), 3, [922]) := by decide +kernel
theorem r287_910 : am_at 287 910 = some (.aload_n 3, 1, [3]) := by decide +kernel
theorem r287_911 : am_at 287 911 = some (.iconst (0), 1, []) := by decide +kernel
theorem r287_912 : am_at 287 912 = some (.laload, 1, []) := by decide +kernel
theorem r287_913 : am_at 287 913 = some (.iload 7, 2, [7]) := by decide +kernel
theorem r287_915 : am_at 287 915 = some (.i2l, 1, []) := by decide +kernel
theorem r287_916 : am_at 287 916 = some (.lcmp, 1, []) := by decide +kernel
theorem r287_917 : am_at 287 917 = some (.ifCond .eq (5), 3, [922]) := by decide +kernel
theorem r287_920 : am_at 287 920 = some (.iconst (0), 1, []) := by decide +kernel
theorem r287_921 : am_at 287 921 = some (.ireturn, 1, []) := by decide +kernel
theorem r287_922 : am_at 287 922 = some (.goto (1034), 3, [1956]) := by decide +kernel
theorem r287_925 : am_at 287 925 = some (.aload_n 1, 1, [1]) := by decide +kernel
theorem r287_926 : am_at 287 926 = some (.invokevirtual 158, 3, [15, 1, 365, 0]) := by decide +kernel
theorem r287_929 : am_at 287 929 = some (.aload_n 2, 1, [2]) := by decide +kernel
theorem r287_930 : am_at 287 930 = some (.invokevirtual 161, 3, [103, 1, 1520, 0]) := by decide +kernel
theorem r287_933 : am_at 287 933 = some (.if_icmp .eq (1023), 3, [1956]) := by decide +kernel
theorem r287_936 : am_at 287 936 = some (.iconst (0), 1, []) := by decide +kernel
theorem r287_937 : am_at 287 937 = some (.ireturn, 1, []) := by decide +kernel
theorem r287_938 : am_at 287 938 = some (.aload_n 1, 1, [1]) := by decide +kernel
theorem r287_939 : am_at 287 939 = some (.aload_n 3, 1, [3]) := by decide +kernel
theorem r287_940 : am_at 287 940 = some (.invokestatic 162, 3, [273, 2, 1112, 0]) := by decide +kernel
theorem r287_943 : am_at 287 943 = some (.istore 6, 2, [6]) := by decide +kernel
theorem r287_945 : am_at 287 945 = some (.aload_n 2, 1, [2]) := by decide +kernel
theorem r287_946 : am_at 287 946 = some (.invokevirtual 164, 3, [104, 1, 1524, 0]) := by decide +kernel
theorem r287_949 : am_at 287 949 = some (.istore 7, 2, [7]) := by decide +kernel
theorem r287_951 : am_at 287 951 = some (.aload_n 2, 1, [2]) := by decide +kernel
theorem r287_952 : am_at 287 952 = some (.invokevirtual 112, 3, [45, 1, 1294, 0]) := by decide +kernel
theorem r287_955 : am_at 287 955 = some (.iload 6, 2, [6]) := by decide +kernel
theorem r287_957 : am_at 287 957 = some (.if_icmp .eq (5), 3, [962]) := by decide +kernel
theorem r287_960 : am_at 287 960 = some (.iconst (0), 1, []) := by decide +kernel
theorem r287_961 : am_at 287 961 = some (.ireturn, 1, []) := by decide +kernel
theorem r287_962 : am_at 287 962 = some (.iload 6, 2, [6]) := by decide +kernel
theorem r287_964 : am_at 287 964 = some (.ifCond .ne (15), 3, [979]) := by decide +kernel
theorem r287_967 : am_at 287 967 = some (.aload_n 3, 1, [3]) := by decide +kernel
theorem r287_968 : am_at 287 968 = some (.iconst (0), 1, []) := by decide +kernel
theorem r287_969 : am_at 287 969 = some (.laload, 1, []) := by decide +kernel
theorem r287_970 : am_at 287 970 = some (.iload 7, 2, [7]) := by decide +kernel
theorem r287_972 : am_at 287 972 = some (.i2l, 1, []) := by decide +kernel
theorem r287_973 : am_at 287 973 = some (.lcmp, 1, []) := by decide +kernel
theorem r287_974 : am_at 287 974 = some (.ifCond .eq (5), 3, [979]) := by decide +kernel
theorem r287_977 : am_at 287 977 = some (.iconst (0), 1, []) := by decide +kernel
theorem r287_978 : am_at 287 978 = some (.ireturn, 1, []) := by decide +kernel
theorem r287_979 : am_at 287 979 = some (.goto (977), 3, [1956]) := by decide +kernel
theorem r287_982 : am_at 287 982 = some (.aload_n 1, 1, [1]) := by decide +kernel
theorem r287_983 : am_at 287 983 = some (.aload_n 3, 1, [3]) := by decide +kernel
theorem r287_984 : am_at 287 984 = some (.invokestatic 165, 3, [274, 2, 1120, 0]) := by decide +kernel
theorem r287_987 : am_at 287 987 = some (.istore 6, 2, [6]) := by decide +kernel
theorem r287_989 : am_at 287 989 = some (.aload_n 2, 1, [2]) := by decide +kernel
theorem r287_990 : am_at 287 990 = some (.invokevirtual 167, 3, [105, 1, 1528, 0]) := by decide +kernel
theorem r287_993 : am_at 287 993 = some (.istore 7, 2, [7]) := by decide +kernel
theorem r287_995 : am_at 287 995 = some (.aload_n 2, 1, [2]) := by decide +kernel
theorem r287_996 : am_at 287 996 = some (.invokevirtual 112, 3, [45, 1, 1294, 0]) := by decide +kernel
theorem r287_999 : am_at 287 999 = some (.iload 6, 2, [6]) := by decide +kernel
theorem r287_1001 : am_at 287 1001 = some (.if_icmp .eq (5), 3, [1006]) := by decide +kernel
theorem r287_1004 : am_at 287 1004 = some (.iconst (0), 1, []) := by decide +kernel
theorem r287_1005 : am_at 287 1005 = some (.ireturn, 1, []) := by decide +kernel
theorem r287_1006 : am_at 287 1006 = some (.iload 6, 2, [6]) := by decide +kernel
theorem r287_1008 : am_at 287 1008 = some (.ifCond .ne (15), 3, [1023]) := by decide +kernel
theorem r287_1011 : am_at 287 1011 = some (.aload_n 3, 1, [3]) := by decide +kernel
theorem r287_1012 : am_at 287 1012 = some (.iconst (0), 1, []) := by decide +kernel
theorem r287_1013 : am_at 287 1013 = some (.laload, 1, []) := by decide +kernel
theorem r287_1014 : am_at 287 1014 = some (.iload 7, 2, [7]) := by decide +kernel
theorem r287_1016 : am_at 287 1016 = some (.i2l, 1, []) := by decide +kernel
theorem r287_1017 : am_at 287 1017 = some (.lcmp, 1, []) := by decide +kernel
theorem r287_1018 : am_at 287 1018 = some (.ifCond .eq (5), 3, [1023]) := by decide +kernel
theorem r287_1021 : am_at 287 1021 = some (.iconst (0), 1, []) := by decide +kernel
theorem r287_1022 : am_at 287 1022 = some (.ireturn, 1, []) := by decide +kernel
theorem r287_1023 : am_at 287 1023 = some (.goto (933), 3, [1956]) := by decide +kernel
theorem r287_1026 : am_at 287 1026 = some (.aload_n 1, 1, [1]) := by decide +kernel
theorem r287_1027 : am_at 287 1027 = some (.aload_n 0, 1, [0]) := by decide +kernel
theorem r287_1028 : am_at 287 1028 = some (.iload 5, 2, [5]) := by decide +kernel
theorem r287_1030 : am_at 287 1030 = some (.iconst (1), 1, []) := by decide +kernel
theorem r287_1031 : am_at 287 1031 = some (.iadd, 1, []) := by decide +kernel
theorem r287_1032 : am_at 287 1032 = some (.iaload, 1, []) := by decide +kernel
theorem r287_1033 : am_at 287 1033 = some (.aload_n 0, 1, [0]) := by decide +kernel
theorem r287_1034 : am_at 287 1034 = some (.iload 5, 2, [5]) := by decide +kernel
theorem r287_1036 : am_at 287 1036 = some (.iconst (2), 1, []) := by decide +kernel
theorem r287_1037 : am_at 287 1037 = some (.iadd, 1, []) := by decide +kernel
theorem r287_1038 : am_at 287 1038 = some (.iaload, 1, []) := by decide +kernel
theorem r287_1039 : am_at 287 1039 = some (.aload_n 3, 1, [3]) := by decide +kernel
theorem r287_1040 : am_at 287 1040 = some (.invokestatic 168, 3, [275, 4, 1132, 0]) := by decide +kernel
theorem r287_1043 : am_at 287 1043 = some (.istore 6, 2, [6]) := by decide +kernel
theorem r287_1045 : am_at 287 1045 = some (.aload_n 2, 1, [2]) := by decide +kernel
theorem r287_1046 : am_at 287 1046 = some (.aload_n 0, 1, [0]) := by decide +kernel
theorem r287_1047 : am_at 287 1047 = some (.iload 5, 2, [5]) := by decide +kernel
theorem r287_1049 : am_at 287 1049 = some (.iconst (1), 1, []) := by decide +kernel
theorem r287_1050 : am_at 287 1050 = some (.iadd, 1, []) := by decide +kernel
theorem r287_1051 : am_at 287 1051 = some (.iaload, 1, []) := by decide +kernel
theorem r287_1052 : am_at 287 1052 = some (.aload_n 0, 1, [0]) := by decide +kernel
theorem r287_1053 : am_at 287 1053 = some (.iload 5, 2, [5]) := by decide +kernel
theorem r287_1055 : am_at 287 1055 = some (.iconst (2), 1, []) := by decide +kernel
theorem r287_1056 : am_at 287 1056 = some (.iadd, 1, []) := by decide +kernel
theorem r287_1057 : am_at 287 1057 = some (.iaload, 1, []) := by decide +kernel
theorem r287_1058 : am_at 287 1058 = some (.invokevirtual 170, 3, [108, 3, 1532, 0]) := by decide +kernel
theorem r287_1061 : am_at 287 1061 = some (.istore 7, 2, [7]) := by decide +kernel
theorem r287_1063 : am_at 287 1063 = some (.aload_n 2, 1, [2]) := by decide +kernel
theorem r287_1064 : am_at 287 1064 = some (.invokevirtual 112, 3, [45, 1, 1294, 0]) := by decide +kernel
theorem r287_1067 : am_at 287 1067 = some (.iload 6, 2, [6]) := by decide +kernel
theorem r287_1069 : am_at 287 1069 = some (.if_icmp .eq (5), 3, [1074]) := by decide +kernel
theorem r287_1072 : am_at 287 1072 = some (.iconst (0), 1, []) := by decide +kernel
theorem r287_1073 : am_at 287 1073 = some (.ireturn, 1, []) := by decide +kernel
theorem r287_1074 : am_at 287 1074 = some (.iload 6, 2, [6]) := by decide +kernel
theorem r287_1076 : am_at 287 1076 = some (.ifCond .ne (15), 3, [1091]) := by decide +kernel
theorem r287_1079 : am_at 287 1079 = some (.aload_n 3, 1, [3]) := by decide +kernel
theorem r287_1080 : am_at 287 1080 = some (.iconst (0), 1, []) := by decide +kernel
theorem r287_1081 : am_at 287 1081 = some (.laload, 1, []) := by decide +kernel
theorem r287_1082 : am_at 287 1082 = some (.iload 7, 2, [7]) := by decide +kernel
theorem r287_1084 : am_at 287 1084 = some (.i2l, 1, []) := by decide +kernel
theorem r287_1085 : am_at 287 1085 = some (.lcmp, 1, []) := by decide +kernel
theorem r287_1086 : am_at 287 1086 = some (.ifCond .eq (5), 3, [1091]) := by decide +kernel
theorem r287_1089 : am_at 287 1089 = some (.iconst (0), 1, []) := by decide +kernel
theorem r287_1090 : am_at 287 1090 = some (.ireturn, 1, []) := by decide +kernel
theorem r287_1091 : am_at 287 1091 = some (.goto (865), 3, [1956]) := by decide +kernel
theorem law_11 (hi : i + 5 ≤ L) (hL : L ≤ 2560) (hN : 2000 ≤ N) (hI : q_I D) (hc : c + 1 ≤ mc) (hs : s + 6 ≤ ms) (hd : 57 ≤ d) (nx : ∀ D' c' s', q_I D' → c' ≤ c + 1 → s' ≤ s + 6 → am_X xs L 287 d mc ms 1956 [.ref 1000002, .ref 0, .ref 106, .ref 124, .ref 125, .int (Int32.ofNat i), am_dead, am_dead, am_dead, am_dead] [] (am_mk D') c' s' Q) : am_X xs L 287 d mc ms 781 [.ref 1000002, .ref 0, .ref 106, .ref 124, .ref 125, .int (Int32.ofNat i), am_dead, am_dead, am_dead, am_dead] [] (am_mk D) c s Q := by
  obtain ⟨r, D1, b, D2, h1, h2, h3, h4, h5⟩ := g_firstError hN hI (xs (i + 1))
  refine x_ld (v := .ref 0) r287_781 rfl rfl rfl ?_
  refine x_ld (v := .ref 1000002) r287_782 rfl rfl rfl ?_
  refine x_ld (v := .int (Int32.ofNat i)) r287_783 rfl rfl rfl ?_
  refine x_ic (v := 1) r287_785 rfl rfl ?_
  refine x_ar r287_786 rfl trivial rfl ?_
  refine am_topI (v := Int32.ofNat (i + 1)) (q_add i 1).symm ?_
  refine y_ialX (e := (i + 1)) r287_787 (q_vx hL (by omega)) (q_tn (by omega)) rfl ?_
  refine x_ld (v := .ref 124) r287_788 rfl rfl rfl ?_
  refine x_call1 (as := [.ref 0, .int (xs (i + 1)), .ref 124]) (rest := []) r287_789 rfl rfl rfl (by decide) (Nat.le_of_ble_eq_true rfl) (m270_ok h1) (Nat.le_trans (by decide) hd) hc hs rfl ?_
  refine x_sto (lc' := [.ref 1000002, .ref 0, .ref 106, .ref 124, .ref 125, .int (Int32.ofNat i), .int r, am_dead, am_dead, am_dead]) (st' := []) r287_792 rfl rfl rfl rfl ?_
  refine x_ld (v := .ref 106) r287_794 rfl rfl rfl ?_
  refine x_ld (v := .ref 1000002) r287_795 rfl rfl rfl ?_
  refine x_ld (v := .int (Int32.ofNat i)) r287_796 rfl rfl rfl ?_
  refine x_ic (v := 1) r287_798 rfl rfl ?_
  refine x_ar r287_799 rfl trivial rfl ?_
  refine am_topI (v := Int32.ofNat (i + 1)) (q_add i 1).symm ?_
  refine y_ialX (e := (i + 1)) r287_800 (q_vx hL (by omega)) (q_tn (by omega)) rfl ?_
  refine x_call1 (as := [.ref 106, .int (xs (i + 1))]) (rest := []) r287_801 rfl rfl rfl (by decide) (Nat.le_of_ble_eq_true rfl) (m99_ok h2) (Nat.le_trans (by decide) hd) hc hs rfl ?_
  refine x_sto (lc' := [.ref 1000002, .ref 0, .ref 106, .ref 124, .ref 125, .int (Int32.ofNat i), .int r, .int b, am_dead, am_dead]) (st' := []) r287_804 rfl rfl rfl rfl ?_
  refine x_ld (v := .ref 106) r287_806 rfl rfl rfl ?_
  refine x_call1 (as := [.ref 106]) (rest := []) r287_807 rfl rfl rfl (by decide) (Nat.le_of_ble_eq_true rfl) (m45_ok (r := D2.1 106 0) rfl) (Nat.le_trans (by decide) hd) hc hs rfl ?_
  refine x_ld (v := .int r) r287_810 rfl rfl rfl ?_
  refine x_iceqT r287_812 h3 ?_
  refine x_ld (v := .int r) r287_817 rfl rfl rfl ?_
  by_cases q : r = 0
  · refine x_ifneT r287_819 q rfl ?_
    refine x_ld (v := .ref 124) r287_822 rfl rfl rfl ?_
    refine x_ic (v := 0) r287_823 rfl rfl ?_
    refine y_lal (n := 1) (e := 0) r287_824 rfl (by decide) (by decide) rfl rfl ?_
    refine x_ld (v := .int b) r287_825 rfl rfl rfl ?_
    refine x_ar r287_827 rfl trivial rfl ?_
    refine x_ar r287_828 rfl trivial rfl ?_
    refine am_topI (v := 0) (by rw [h4 q, q_lgc]) ?_
    refine x_ifeqT r287_829 rfl ?_
    refine x_goto r287_834 ?_
    exact x_forget (lc0 := [.ref 1000002, .ref 0, .ref 106, .ref 124, .ref 125, .int (Int32.ofNat i), am_dead, am_dead, am_dead, am_dead]) ⟨Or.inl rfl, Or.inl rfl, Or.inl rfl, Or.inl rfl, Or.inl rfl, Or.inl rfl, Or.inr ⟨rfl, rfl⟩, Or.inr ⟨rfl, rfl⟩, Or.inl rfl, Or.inl rfl, trivial⟩ (nx D2 _ _ h5 (Nat.le_refl _) (Nat.le_refl _))
  · refine x_ifneF r287_819 q ?_
    refine x_goto r287_834 ?_
    exact x_forget (lc0 := [.ref 1000002, .ref 0, .ref 106, .ref 124, .ref 125, .int (Int32.ofNat i), am_dead, am_dead, am_dead, am_dead]) ⟨Or.inl rfl, Or.inl rfl, Or.inl rfl, Or.inl rfl, Or.inl rfl, Or.inl rfl, Or.inr ⟨rfl, rfl⟩, Or.inr ⟨rfl, rfl⟩, Or.inl rfl, Or.inl rfl, trivial⟩ (nx D2 _ _ h5 (Nat.le_refl _) (Nat.le_refl _))
theorem law_12 (hi : i + 5 ≤ L) (hL : L ≤ 2560) (hN : 2000 ≤ N) (hI : q_I D) (hc : c + 1 ≤ mc) (hs : s + 6 ≤ ms) (hd : 57 ≤ d) (nx : ∀ D' c' s', q_I D' → c' ≤ c + 1 → s' ≤ s + 6 → am_X xs L 287 d mc ms 1956 [.ref 1000002, .ref 0, .ref 106, .ref 124, .ref 125, .int (Int32.ofNat i), am_dead, am_dead, am_dead, am_dead] [] (am_mk D') c' s' Q) : am_X xs L 287 d mc ms 837 [.ref 1000002, .ref 0, .ref 106, .ref 124, .ref 125, .int (Int32.ofNat i), am_dead, am_dead, am_dead, am_dead] [] (am_mk D) c s Q := by
  obtain ⟨r, D1, b, D2, h1, h2, h3, h4, h5⟩ := g_play hN hI
  refine x_ld (v := .ref 0) r287_837 rfl rfl rfl ?_
  refine x_ld (v := .ref 124) r287_838 rfl rfl rfl ?_
  refine x_call1 (as := [.ref 0, .ref 124]) (rest := []) r287_839 rfl rfl rfl (by decide) (Nat.le_of_ble_eq_true rfl) (m271_ok h1) (Nat.le_trans (by decide) hd) hc hs rfl ?_
  refine x_sto (lc' := [.ref 1000002, .ref 0, .ref 106, .ref 124, .ref 125, .int (Int32.ofNat i), .int r, am_dead, am_dead, am_dead]) (st' := []) r287_842 rfl rfl rfl rfl ?_
  refine x_ld (v := .ref 106) r287_844 rfl rfl rfl ?_
  refine x_call1 (as := [.ref 106]) (rest := []) r287_845 rfl rfl rfl (by decide) (Nat.le_of_ble_eq_true rfl) (m101_ok h2) (Nat.le_trans (by decide) hd) hc hs rfl ?_
  refine x_sto (lc' := [.ref 1000002, .ref 0, .ref 106, .ref 124, .ref 125, .int (Int32.ofNat i), .int r, .int b, am_dead, am_dead]) (st' := []) r287_848 rfl rfl rfl rfl ?_
  refine x_ld (v := .ref 106) r287_850 rfl rfl rfl ?_
  refine x_call1 (as := [.ref 106]) (rest := []) r287_851 rfl rfl rfl (by decide) (Nat.le_of_ble_eq_true rfl) (m45_ok (r := D2.1 106 0) rfl) (Nat.le_trans (by decide) hd) hc hs rfl ?_
  refine x_ld (v := .int r) r287_854 rfl rfl rfl ?_
  refine x_iceqT r287_856 h3 ?_
  refine x_ld (v := .int r) r287_861 rfl rfl rfl ?_
  by_cases q : r = 0
  · refine x_ifneT r287_863 q rfl ?_
    refine x_ld (v := .ref 124) r287_866 rfl rfl rfl ?_
    refine x_ic (v := 0) r287_867 rfl rfl ?_
    refine y_lal (n := 1) (e := 0) r287_868 rfl (by decide) (by decide) rfl rfl ?_
    refine x_ld (v := .int b) r287_869 rfl rfl rfl ?_
    refine x_ar r287_871 rfl trivial rfl ?_
    refine x_ar r287_872 rfl trivial rfl ?_
    refine am_topI (v := 0) (by rw [h4 q, q_lgc]) ?_
    refine x_ifeqT r287_873 rfl ?_
    refine x_goto r287_878 ?_
    exact x_forget (lc0 := [.ref 1000002, .ref 0, .ref 106, .ref 124, .ref 125, .int (Int32.ofNat i), am_dead, am_dead, am_dead, am_dead]) ⟨Or.inl rfl, Or.inl rfl, Or.inl rfl, Or.inl rfl, Or.inl rfl, Or.inl rfl, Or.inr ⟨rfl, rfl⟩, Or.inr ⟨rfl, rfl⟩, Or.inl rfl, Or.inl rfl, trivial⟩ (nx D2 _ _ h5 (Nat.le_refl _) (Nat.le_refl _))
  · refine x_ifneF r287_863 q ?_
    refine x_goto r287_878 ?_
    exact x_forget (lc0 := [.ref 1000002, .ref 0, .ref 106, .ref 124, .ref 125, .int (Int32.ofNat i), am_dead, am_dead, am_dead, am_dead]) ⟨Or.inl rfl, Or.inl rfl, Or.inl rfl, Or.inl rfl, Or.inl rfl, Or.inl rfl, Or.inr ⟨rfl, rfl⟩, Or.inr ⟨rfl, rfl⟩, Or.inl rfl, Or.inl rfl, trivial⟩ (nx D2 _ _ h5 (Nat.le_refl _) (Nat.le_refl _))
theorem law_13 (hi : i + 5 ≤ L) (hL : L ≤ 2560) (hN : 2000 ≤ N) (hI : q_I D) (hc : c + 1 ≤ mc) (hs : s + 6 ≤ ms) (hd : 57 ≤ d) (nx : ∀ D' c' s', q_I D' → c' ≤ c + 1 → s' ≤ s + 6 → am_X xs L 287 d mc ms 1956 [.ref 1000002, .ref 0, .ref 106, .ref 124, .ref 125, .int (Int32.ofNat i), am_dead, am_dead, am_dead, am_dead] [] (am_mk D') c' s' Q) : am_X xs L 287 d mc ms 881 [.ref 1000002, .ref 0, .ref 106, .ref 124, .ref 125, .int (Int32.ofNat i), am_dead, am_dead, am_dead, am_dead] [] (am_mk D) c s Q := by
  obtain ⟨r, D1, b, D2, h1, h2, h3, h4, h5⟩ := g_giveAll hN hI
  refine x_ld (v := .ref 0) r287_881 rfl rfl rfl ?_
  refine x_ld (v := .ref 124) r287_882 rfl rfl rfl ?_
  refine x_call1 (as := [.ref 0, .ref 124]) (rest := []) r287_883 rfl rfl rfl (by decide) (Nat.le_of_ble_eq_true rfl) (m272_ok h1) (Nat.le_trans (by decide) hd) hc hs rfl ?_
  refine x_sto (lc' := [.ref 1000002, .ref 0, .ref 106, .ref 124, .ref 125, .int (Int32.ofNat i), .int r, am_dead, am_dead, am_dead]) (st' := []) r287_886 rfl rfl rfl rfl ?_
  refine x_ld (v := .ref 106) r287_888 rfl rfl rfl ?_
  refine x_call1 (as := [.ref 106]) (rest := []) r287_889 rfl rfl rfl (by decide) (Nat.le_of_ble_eq_true rfl) (m102_ok h2) (Nat.le_trans (by decide) hd) hc hs rfl ?_
  refine x_sto (lc' := [.ref 1000002, .ref 0, .ref 106, .ref 124, .ref 125, .int (Int32.ofNat i), .int r, .int b, am_dead, am_dead]) (st' := []) r287_892 rfl rfl rfl rfl ?_
  refine x_ld (v := .ref 106) r287_894 rfl rfl rfl ?_
  refine x_call1 (as := [.ref 106]) (rest := []) r287_895 rfl rfl rfl (by decide) (Nat.le_of_ble_eq_true rfl) (m45_ok (r := D2.1 106 0) rfl) (Nat.le_trans (by decide) hd) hc hs rfl ?_
  refine x_ld (v := .int r) r287_898 rfl rfl rfl ?_
  refine x_iceqT r287_900 h3 ?_
  refine x_ld (v := .int r) r287_905 rfl rfl rfl ?_
  by_cases q : r = 0
  · refine x_ifneT r287_907 q rfl ?_
    refine x_ld (v := .ref 124) r287_910 rfl rfl rfl ?_
    refine x_ic (v := 0) r287_911 rfl rfl ?_
    refine y_lal (n := 1) (e := 0) r287_912 rfl (by decide) (by decide) rfl rfl ?_
    refine x_ld (v := .int b) r287_913 rfl rfl rfl ?_
    refine x_ar r287_915 rfl trivial rfl ?_
    refine x_ar r287_916 rfl trivial rfl ?_
    refine am_topI (v := 0) (by rw [h4 q, q_lgc]) ?_
    refine x_ifeqT r287_917 rfl ?_
    refine x_goto r287_922 ?_
    exact x_forget (lc0 := [.ref 1000002, .ref 0, .ref 106, .ref 124, .ref 125, .int (Int32.ofNat i), am_dead, am_dead, am_dead, am_dead]) ⟨Or.inl rfl, Or.inl rfl, Or.inl rfl, Or.inl rfl, Or.inl rfl, Or.inl rfl, Or.inr ⟨rfl, rfl⟩, Or.inr ⟨rfl, rfl⟩, Or.inl rfl, Or.inl rfl, trivial⟩ (nx D2 _ _ h5 (Nat.le_refl _) (Nat.le_refl _))
  · refine x_ifneF r287_907 q ?_
    refine x_goto r287_922 ?_
    exact x_forget (lc0 := [.ref 1000002, .ref 0, .ref 106, .ref 124, .ref 125, .int (Int32.ofNat i), am_dead, am_dead, am_dead, am_dead]) ⟨Or.inl rfl, Or.inl rfl, Or.inl rfl, Or.inl rfl, Or.inl rfl, Or.inl rfl, Or.inr ⟨rfl, rfl⟩, Or.inr ⟨rfl, rfl⟩, Or.inl rfl, Or.inl rfl, trivial⟩ (nx D2 _ _ h5 (Nat.le_refl _) (Nat.le_refl _))
theorem law_14 (hi : i + 5 ≤ L) (hL : L ≤ 2560) (hN : 2000 ≤ N) (hI : q_I D) (hc : c + 1 ≤ mc) (hs : s + 6 ≤ ms) (hd : 57 ≤ d) (nx : ∀ D' c' s', q_I D' → c' ≤ c + 1 → s' ≤ s + 6 → am_X xs L 287 d mc ms 1956 [.ref 1000002, .ref 0, .ref 106, .ref 124, .ref 125, .int (Int32.ofNat i), am_dead, am_dead, am_dead, am_dead] [] (am_mk D') c' s' Q) : am_X xs L 287 d mc ms 925 [.ref 1000002, .ref 0, .ref 106, .ref 124, .ref 125, .int (Int32.ofNat i), am_dead, am_dead, am_dead, am_dead] [] (am_mk D) c s Q := by
  obtain ⟨b, D2, h1, h2, h3⟩ := g_keep hN hI
  refine x_ld (v := .ref 0) r287_925 rfl rfl rfl ?_
  refine x_call1 (as := [.ref 0]) (rest := []) r287_926 rfl rfl rfl (by decide) (Nat.le_of_ble_eq_true rfl) (m15_ok (r := m15 D) rfl) (Nat.le_trans (by decide) hd) (Nat.le_of_succ_le hc) (Nat.le_trans (Nat.le_add_right _ _) hs) rfl ?_
  refine x_ld (v := .ref 106) r287_929 rfl rfl rfl ?_
  refine x_call1 (as := [.ref 106]) (rest := [.int (m15 D).1]) r287_930 rfl rfl rfl (by decide) (Nat.le_of_ble_eq_true rfl) (m103_ok h1) (Nat.le_trans (by decide) hd) (Nat.le_of_succ_le hc) (Nat.le_trans (Nat.le_add_right _ _) hs) rfl ?_
  refine x_iceqT r287_933 h2.symm ?_
  exact nx D2 _ _ h3 (Nat.le_add_right _ _) (Nat.le_add_right _ _)
theorem law_15 (hi : i + 5 ≤ L) (hL : L ≤ 2560) (hN : 2000 ≤ N) (hI : q_I D) (hc : c + 1 ≤ mc) (hs : s + 6 ≤ ms) (hd : 57 ≤ d) (nx : ∀ D' c' s', q_I D' → c' ≤ c + 1 → s' ≤ s + 6 → am_X xs L 287 d mc ms 1956 [.ref 1000002, .ref 0, .ref 106, .ref 124, .ref 125, .int (Int32.ofNat i), am_dead, am_dead, am_dead, am_dead] [] (am_mk D') c' s' Q) : am_X xs L 287 d mc ms 938 [.ref 1000002, .ref 0, .ref 106, .ref 124, .ref 125, .int (Int32.ofNat i), am_dead, am_dead, am_dead, am_dead] [] (am_mk D) c s Q := by
  obtain ⟨r, D1, b, D2, h1, h2, h3, h4, h5⟩ := g_goBack hN hI
  refine x_ld (v := .ref 0) r287_938 rfl rfl rfl ?_
  refine x_ld (v := .ref 124) r287_939 rfl rfl rfl ?_
  refine x_call1 (as := [.ref 0, .ref 124]) (rest := []) r287_940 rfl rfl rfl (by decide) (Nat.le_of_ble_eq_true rfl) (m273_ok h1) (Nat.le_trans (by decide) hd) hc hs rfl ?_
  refine x_sto (lc' := [.ref 1000002, .ref 0, .ref 106, .ref 124, .ref 125, .int (Int32.ofNat i), .int r, am_dead, am_dead, am_dead]) (st' := []) r287_943 rfl rfl rfl rfl ?_
  refine x_ld (v := .ref 106) r287_945 rfl rfl rfl ?_
  refine x_call1 (as := [.ref 106]) (rest := []) r287_946 rfl rfl rfl (by decide) (Nat.le_of_ble_eq_true rfl) (m104_ok h2) (Nat.le_trans (by decide) hd) hc hs rfl ?_
  refine x_sto (lc' := [.ref 1000002, .ref 0, .ref 106, .ref 124, .ref 125, .int (Int32.ofNat i), .int r, .int b, am_dead, am_dead]) (st' := []) r287_949 rfl rfl rfl rfl ?_
  refine x_ld (v := .ref 106) r287_951 rfl rfl rfl ?_
  refine x_call1 (as := [.ref 106]) (rest := []) r287_952 rfl rfl rfl (by decide) (Nat.le_of_ble_eq_true rfl) (m45_ok (r := D2.1 106 0) rfl) (Nat.le_trans (by decide) hd) hc hs rfl ?_
  refine x_ld (v := .int r) r287_955 rfl rfl rfl ?_
  refine x_iceqT r287_957 h3 ?_
  refine x_ld (v := .int r) r287_962 rfl rfl rfl ?_
  by_cases q : r = 0
  · refine x_ifneT r287_964 q rfl ?_
    refine x_ld (v := .ref 124) r287_967 rfl rfl rfl ?_
    refine x_ic (v := 0) r287_968 rfl rfl ?_
    refine y_lal (n := 1) (e := 0) r287_969 rfl (by decide) (by decide) rfl rfl ?_
    refine x_ld (v := .int b) r287_970 rfl rfl rfl ?_
    refine x_ar r287_972 rfl trivial rfl ?_
    refine x_ar r287_973 rfl trivial rfl ?_
    refine am_topI (v := 0) (by rw [h4 q, q_lgc]) ?_
    refine x_ifeqT r287_974 rfl ?_
    refine x_goto r287_979 ?_
    exact x_forget (lc0 := [.ref 1000002, .ref 0, .ref 106, .ref 124, .ref 125, .int (Int32.ofNat i), am_dead, am_dead, am_dead, am_dead]) ⟨Or.inl rfl, Or.inl rfl, Or.inl rfl, Or.inl rfl, Or.inl rfl, Or.inl rfl, Or.inr ⟨rfl, rfl⟩, Or.inr ⟨rfl, rfl⟩, Or.inl rfl, Or.inl rfl, trivial⟩ (nx D2 _ _ h5 (Nat.le_refl _) (Nat.le_refl _))
  · refine x_ifneF r287_964 q ?_
    refine x_goto r287_979 ?_
    exact x_forget (lc0 := [.ref 1000002, .ref 0, .ref 106, .ref 124, .ref 125, .int (Int32.ofNat i), am_dead, am_dead, am_dead, am_dead]) ⟨Or.inl rfl, Or.inl rfl, Or.inl rfl, Or.inl rfl, Or.inl rfl, Or.inl rfl, Or.inr ⟨rfl, rfl⟩, Or.inr ⟨rfl, rfl⟩, Or.inl rfl, Or.inl rfl, trivial⟩ (nx D2 _ _ h5 (Nat.le_refl _) (Nat.le_refl _))
theorem law_16 (hi : i + 5 ≤ L) (hL : L ≤ 2560) (hN : 2000 ≤ N) (hI : q_I D) (hc : c + 1 ≤ mc) (hs : s + 6 ≤ ms) (hd : 57 ≤ d) (nx : ∀ D' c' s', q_I D' → c' ≤ c + 1 → s' ≤ s + 6 → am_X xs L 287 d mc ms 1956 [.ref 1000002, .ref 0, .ref 106, .ref 124, .ref 125, .int (Int32.ofNat i), am_dead, am_dead, am_dead, am_dead] [] (am_mk D') c' s' Q) : am_X xs L 287 d mc ms 982 [.ref 1000002, .ref 0, .ref 106, .ref 124, .ref 125, .int (Int32.ofNat i), am_dead, am_dead, am_dead, am_dead] [] (am_mk D) c s Q := by
  obtain ⟨r, D1, b, D2, h1, h2, h3, h4, h5⟩ := g_undo hN hI
  refine x_ld (v := .ref 0) r287_982 rfl rfl rfl ?_
  refine x_ld (v := .ref 124) r287_983 rfl rfl rfl ?_
  refine x_call1 (as := [.ref 0, .ref 124]) (rest := []) r287_984 rfl rfl rfl (by decide) (Nat.le_of_ble_eq_true rfl) (m274_ok h1) (Nat.le_trans (by decide) hd) hc hs rfl ?_
  refine x_sto (lc' := [.ref 1000002, .ref 0, .ref 106, .ref 124, .ref 125, .int (Int32.ofNat i), .int r, am_dead, am_dead, am_dead]) (st' := []) r287_987 rfl rfl rfl rfl ?_
  refine x_ld (v := .ref 106) r287_989 rfl rfl rfl ?_
  refine x_call1 (as := [.ref 106]) (rest := []) r287_990 rfl rfl rfl (by decide) (Nat.le_of_ble_eq_true rfl) (m105_ok h2) (Nat.le_trans (by decide) hd) hc hs rfl ?_
  refine x_sto (lc' := [.ref 1000002, .ref 0, .ref 106, .ref 124, .ref 125, .int (Int32.ofNat i), .int r, .int b, am_dead, am_dead]) (st' := []) r287_993 rfl rfl rfl rfl ?_
  refine x_ld (v := .ref 106) r287_995 rfl rfl rfl ?_
  refine x_call1 (as := [.ref 106]) (rest := []) r287_996 rfl rfl rfl (by decide) (Nat.le_of_ble_eq_true rfl) (m45_ok (r := D2.1 106 0) rfl) (Nat.le_trans (by decide) hd) hc hs rfl ?_
  refine x_ld (v := .int r) r287_999 rfl rfl rfl ?_
  refine x_iceqT r287_1001 h3 ?_
  refine x_ld (v := .int r) r287_1006 rfl rfl rfl ?_
  by_cases q : r = 0
  · refine x_ifneT r287_1008 q rfl ?_
    refine x_ld (v := .ref 124) r287_1011 rfl rfl rfl ?_
    refine x_ic (v := 0) r287_1012 rfl rfl ?_
    refine y_lal (n := 1) (e := 0) r287_1013 rfl (by decide) (by decide) rfl rfl ?_
    refine x_ld (v := .int b) r287_1014 rfl rfl rfl ?_
    refine x_ar r287_1016 rfl trivial rfl ?_
    refine x_ar r287_1017 rfl trivial rfl ?_
    refine am_topI (v := 0) (by rw [h4 q, q_lgc]) ?_
    refine x_ifeqT r287_1018 rfl ?_
    refine x_goto r287_1023 ?_
    exact x_forget (lc0 := [.ref 1000002, .ref 0, .ref 106, .ref 124, .ref 125, .int (Int32.ofNat i), am_dead, am_dead, am_dead, am_dead]) ⟨Or.inl rfl, Or.inl rfl, Or.inl rfl, Or.inl rfl, Or.inl rfl, Or.inl rfl, Or.inr ⟨rfl, rfl⟩, Or.inr ⟨rfl, rfl⟩, Or.inl rfl, Or.inl rfl, trivial⟩ (nx D2 _ _ h5 (Nat.le_refl _) (Nat.le_refl _))
  · refine x_ifneF r287_1008 q ?_
    refine x_goto r287_1023 ?_
    exact x_forget (lc0 := [.ref 1000002, .ref 0, .ref 106, .ref 124, .ref 125, .int (Int32.ofNat i), am_dead, am_dead, am_dead, am_dead]) ⟨Or.inl rfl, Or.inl rfl, Or.inl rfl, Or.inl rfl, Or.inl rfl, Or.inl rfl, Or.inr ⟨rfl, rfl⟩, Or.inr ⟨rfl, rfl⟩, Or.inl rfl, Or.inl rfl, trivial⟩ (nx D2 _ _ h5 (Nat.le_refl _) (Nat.le_refl _))
theorem law_17 (hi : i + 5 ≤ L) (hL : L ≤ 2560) (hN : 2000 ≤ N) (hI : q_I D) (hc : c + 1 ≤ mc) (hs : s + 6 ≤ ms) (hd : 57 ≤ d) (nx : ∀ D' c' s', q_I D' → c' ≤ c + 1 → s' ≤ s + 6 → am_X xs L 287 d mc ms 1956 [.ref 1000002, .ref 0, .ref 106, .ref 124, .ref 125, .int (Int32.ofNat i), am_dead, am_dead, am_dead, am_dead] [] (am_mk D') c' s' Q) : am_X xs L 287 d mc ms 1026 [.ref 1000002, .ref 0, .ref 106, .ref 124, .ref 125, .int (Int32.ofNat i), am_dead, am_dead, am_dead, am_dead] [] (am_mk D) c s Q := by
  obtain ⟨r, D1, b, D2, h1, h2, h3, h4, h5⟩ := g_tile hN hI (xs (i + 1)) (xs (i + 2))
  refine x_ld (v := .ref 0) r287_1026 rfl rfl rfl ?_
  refine x_ld (v := .ref 1000002) r287_1027 rfl rfl rfl ?_
  refine x_ld (v := .int (Int32.ofNat i)) r287_1028 rfl rfl rfl ?_
  refine x_ic (v := 1) r287_1030 rfl rfl ?_
  refine x_ar r287_1031 rfl trivial rfl ?_
  refine am_topI (v := Int32.ofNat (i + 1)) (q_add i 1).symm ?_
  refine y_ialX (e := (i + 1)) r287_1032 (q_vx hL (by omega)) (q_tn (by omega)) rfl ?_
  refine x_ld (v := .ref 1000002) r287_1033 rfl rfl rfl ?_
  refine x_ld (v := .int (Int32.ofNat i)) r287_1034 rfl rfl rfl ?_
  refine x_ic (v := 2) r287_1036 rfl rfl ?_
  refine x_ar r287_1037 rfl trivial rfl ?_
  refine am_topI (v := Int32.ofNat (i + 2)) (q_add i 2).symm ?_
  refine y_ialX (e := (i + 2)) r287_1038 (q_vx hL (by omega)) (q_tn (by omega)) rfl ?_
  refine x_ld (v := .ref 124) r287_1039 rfl rfl rfl ?_
  refine x_call1 (as := [.ref 0, .int (xs (i + 1)), .int (xs (i + 2)), .ref 124]) (rest := []) r287_1040 rfl rfl rfl (by decide) (Nat.le_of_ble_eq_true rfl) (m275_ok h1) (Nat.le_trans (by decide) hd) hc hs rfl ?_
  refine x_sto (lc' := [.ref 1000002, .ref 0, .ref 106, .ref 124, .ref 125, .int (Int32.ofNat i), .int r, am_dead, am_dead, am_dead]) (st' := []) r287_1043 rfl rfl rfl rfl ?_
  refine x_ld (v := .ref 106) r287_1045 rfl rfl rfl ?_
  refine x_ld (v := .ref 1000002) r287_1046 rfl rfl rfl ?_
  refine x_ld (v := .int (Int32.ofNat i)) r287_1047 rfl rfl rfl ?_
  refine x_ic (v := 1) r287_1049 rfl rfl ?_
  refine x_ar r287_1050 rfl trivial rfl ?_
  refine am_topI (v := Int32.ofNat (i + 1)) (q_add i 1).symm ?_
  refine y_ialX (e := (i + 1)) r287_1051 (q_vx hL (by omega)) (q_tn (by omega)) rfl ?_
  refine x_ld (v := .ref 1000002) r287_1052 rfl rfl rfl ?_
  refine x_ld (v := .int (Int32.ofNat i)) r287_1053 rfl rfl rfl ?_
  refine x_ic (v := 2) r287_1055 rfl rfl ?_
  refine x_ar r287_1056 rfl trivial rfl ?_
  refine am_topI (v := Int32.ofNat (i + 2)) (q_add i 2).symm ?_
  refine y_ialX (e := (i + 2)) r287_1057 (q_vx hL (by omega)) (q_tn (by omega)) rfl ?_
  refine x_call1 (as := [.ref 106, .int (xs (i + 1)), .int (xs (i + 2))]) (rest := []) r287_1058 rfl rfl rfl (by decide) (Nat.le_of_ble_eq_true rfl) (m108_ok h2) (Nat.le_trans (by decide) hd) hc hs rfl ?_
  refine x_sto (lc' := [.ref 1000002, .ref 0, .ref 106, .ref 124, .ref 125, .int (Int32.ofNat i), .int r, .int b, am_dead, am_dead]) (st' := []) r287_1061 rfl rfl rfl rfl ?_
  refine x_ld (v := .ref 106) r287_1063 rfl rfl rfl ?_
  refine x_call1 (as := [.ref 106]) (rest := []) r287_1064 rfl rfl rfl (by decide) (Nat.le_of_ble_eq_true rfl) (m45_ok (r := D2.1 106 0) rfl) (Nat.le_trans (by decide) hd) hc hs rfl ?_
  refine x_ld (v := .int r) r287_1067 rfl rfl rfl ?_
  refine x_iceqT r287_1069 h3 ?_
  refine x_ld (v := .int r) r287_1074 rfl rfl rfl ?_
  by_cases q : r = 0
  · refine x_ifneT r287_1076 q rfl ?_
    refine x_ld (v := .ref 124) r287_1079 rfl rfl rfl ?_
    refine x_ic (v := 0) r287_1080 rfl rfl ?_
    refine y_lal (n := 1) (e := 0) r287_1081 rfl (by decide) (by decide) rfl rfl ?_
    refine x_ld (v := .int b) r287_1082 rfl rfl rfl ?_
    refine x_ar r287_1084 rfl trivial rfl ?_
    refine x_ar r287_1085 rfl trivial rfl ?_
    refine am_topI (v := 0) (by rw [h4 q, q_lgc]) ?_
    refine x_ifeqT r287_1086 rfl ?_
    refine x_goto r287_1091 ?_
    exact x_forget (lc0 := [.ref 1000002, .ref 0, .ref 106, .ref 124, .ref 125, .int (Int32.ofNat i), am_dead, am_dead, am_dead, am_dead]) ⟨Or.inl rfl, Or.inl rfl, Or.inl rfl, Or.inl rfl, Or.inl rfl, Or.inl rfl, Or.inr ⟨rfl, rfl⟩, Or.inr ⟨rfl, rfl⟩, Or.inl rfl, Or.inl rfl, trivial⟩ (nx D2 _ _ h5 (Nat.le_refl _) (Nat.le_refl _))
  · refine x_ifneF r287_1076 q ?_
    refine x_goto r287_1091 ?_
    exact x_forget (lc0 := [.ref 1000002, .ref 0, .ref 106, .ref 124, .ref 125, .int (Int32.ofNat i), am_dead, am_dead, am_dead, am_dead]) ⟨Or.inl rfl, Or.inl rfl, Or.inl rfl, Or.inl rfl, Or.inl rfl, Or.inl rfl, Or.inr ⟨rfl, rfl⟩, Or.inr ⟨rfl, rfl⟩, Or.inl rfl, Or.inl rfl, trivial⟩ (nx D2 _ _ h5 (Nat.le_refl _) (Nat.le_refl _))
end TA2
