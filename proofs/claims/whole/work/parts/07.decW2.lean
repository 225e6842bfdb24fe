theorem d_law_754 : decode code 754 = .ok (.goto 338, 3) := by decide +kernel
theorem d_law_757 : decode code 757 = .ok (.aload_n 1, 1) := by decide +kernel
theorem d_law_758 : decode code 758 = .ok (.aload_n 0, 1) := by decide +kernel
theorem d_law_759 : decode code 759 = .ok (.iload 4, 2) := by decide +kernel
theorem d_law_761 : decode code 761 = .ok (.iconst 1, 1) := by decide +kernel
theorem d_law_762 : decode code 762 = .ok (.iadd, 1) := by decide +kernel
theorem d_law_763 : decode code 763 = .ok (.iaload, 1) := by decide +kernel
theorem d_law_764 : decode code 764 = .ok (.aload_n 3, 1) := by decide +kernel
theorem d_law_765 : decode code 765 = .ok (.invokestatic 96, 3) := by decide +kernel
theorem d_law_768 : decode code 768 = .ok (.istore 5, 2) := by decide +kernel
theorem d_law_770 : decode code 770 = .ok (.aload_n 2, 1) := by decide +kernel
theorem d_law_771 : decode code 771 = .ok (.aload_n 0, 1) := by decide +kernel
theorem d_law_772 : decode code 772 = .ok (.iload 4, 2) := by decide +kernel
theorem d_law_774 : decode code 774 = .ok (.iconst 1, 1) := by decide +kernel
theorem d_law_775 : decode code 775 = .ok (.iadd, 1) := by decide +kernel
theorem d_law_776 : decode code 776 = .ok (.iaload, 1) := by decide +kernel
theorem d_law_777 : decode code 777 = .ok (.invokevirtual 98, 3) := by decide +kernel
theorem d_law_780 : decode code 780 = .ok (.istore 6, 2) := by decide +kernel
theorem d_law_782 : decode code 782 = .ok (.aload_n 2, 1) := by decide +kernel
theorem d_law_783 : decode code 783 = .ok (.invokevirtual 66, 3) := by decide +kernel
theorem d_law_786 : decode code 786 = .ok (.iload 5, 2) := by decide +kernel
theorem d_law_788 : decode code 788 = .ok (.if_icmp .eq 5, 3) := by decide +kernel
theorem d_law_791 : decode code 791 = .ok (.iconst 0, 1) := by decide +kernel
theorem d_law_792 : decode code 792 = .ok (.ireturn, 1) := by decide +kernel
theorem d_law_793 : decode code 793 = .ok (.iload 5, 2) := by decide +kernel
theorem d_law_795 : decode code 795 = .ok (.ifCond .ne 15, 3) := by decide +kernel
theorem d_law_798 : decode code 798 = .ok (.aload_n 3, 1) := by decide +kernel
theorem d_law_799 : decode code 799 = .ok (.iconst 0, 1) := by decide +kernel
theorem d_law_800 : decode code 800 = .ok (.laload, 1) := by decide +kernel
theorem d_law_801 : decode code 801 = .ok (.iload 6, 2) := by decide +kernel
theorem d_law_803 : decode code 803 = .ok (.i2l, 1) := by decide +kernel
theorem d_law_804 : decode code 804 = .ok (.lcmp, 1) := by decide +kernel
theorem d_law_805 : decode code 805 = .ok (.ifCond .eq 5, 3) := by decide +kernel
theorem d_law_808 : decode code 808 = .ok (.iconst 0, 1) := by decide +kernel
theorem d_law_809 : decode code 809 = .ok (.ireturn, 1) := by decide +kernel
theorem d_law_810 : decode code 810 = .ok (.goto 282, 3) := by decide +kernel
theorem d_law_813 : decode code 813 = .ok (.aload_n 1, 1) := by decide +kernel
theorem d_law_814 : decode code 814 = .ok (.aload_n 0, 1) := by decide +kernel
theorem d_law_815 : decode code 815 = .ok (.iload 4, 2) := by decide +kernel
theorem d_law_817 : decode code 817 = .ok (.iconst 1, 1) := by decide +kernel
theorem d_law_818 : decode code 818 = .ok (.iadd, 1) := by decide +kernel
theorem d_law_819 : decode code 819 = .ok (.iaload, 1) := by decide +kernel
theorem d_law_820 : decode code 820 = .ok (.aload_n 3, 1) := by decide +kernel
theorem d_law_821 : decode code 821 = .ok (.invokestatic 99, 3) := by decide +kernel
theorem d_law_824 : decode code 824 = .ok (.istore 5, 2) := by decide +kernel
theorem d_law_826 : decode code 826 = .ok (.aload_n 2, 1) := by decide +kernel
theorem d_law_827 : decode code 827 = .ok (.aload_n 0, 1) := by decide +kernel
theorem d_law_828 : decode code 828 = .ok (.iload 4, 2) := by decide +kernel
theorem d_law_830 : decode code 830 = .ok (.iconst 1, 1) := by decide +kernel
theorem d_law_831 : decode code 831 = .ok (.iadd, 1) := by decide +kernel
theorem d_law_832 : decode code 832 = .ok (.iaload, 1) := by decide +kernel
theorem d_law_833 : decode code 833 = .ok (.invokevirtual 101, 3) := by decide +kernel
theorem d_law_836 : decode code 836 = .ok (.istore 6, 2) := by decide +kernel
theorem d_law_838 : decode code 838 = .ok (.aload_n 2, 1) := by decide +kernel
theorem d_law_839 : decode code 839 = .ok (.invokevirtual 66, 3) := by decide +kernel
theorem d_law_842 : decode code 842 = .ok (.iload 5, 2) := by decide +kernel
theorem d_law_844 : decode code 844 = .ok (.if_icmp .eq 5, 3) := by decide +kernel
theorem d_law_847 : decode code 847 = .ok (.iconst 0, 1) := by decide +kernel
theorem d_law_848 : decode code 848 = .ok (.ireturn, 1) := by decide +kernel
theorem d_law_849 : decode code 849 = .ok (.iload 5, 2) := by decide +kernel
theorem d_law_851 : decode code 851 = .ok (.ifCond .ne 15, 3) := by decide +kernel
theorem d_law_854 : decode code 854 = .ok (.aload_n 3, 1) := by decide +kernel
theorem d_law_855 : decode code 855 = .ok (.iconst 0, 1) := by decide +kernel
theorem d_law_856 : decode code 856 = .ok (.laload, 1) := by decide +kernel
theorem d_law_857 : decode code 857 = .ok (.iload 6, 2) := by decide +kernel
theorem d_law_859 : decode code 859 = .ok (.i2l, 1) := by decide +kernel
theorem d_law_860 : decode code 860 = .ok (.lcmp, 1) := by decide +kernel
theorem d_law_861 : decode code 861 = .ok (.ifCond .eq 5, 3) := by decide +kernel
theorem d_law_864 : decode code 864 = .ok (.iconst 0, 1) := by decide +kernel
theorem d_law_865 : decode code 865 = .ok (.ireturn, 1) := by decide +kernel
theorem d_law_866 : decode code 866 = .ok (.goto 226, 3) := by decide +kernel
theorem d_law_869 : decode code 869 = .ok (.aload_n 1, 1) := by decide +kernel
theorem d_law_870 : decode code 870 = .ok (.invokevirtual 102, 3) := by decide +kernel
theorem d_law_873 : decode code 873 = .ok (.aload_n 2, 1) := by decide +kernel
theorem d_law_874 : decode code 874 = .ok (.invokevirtual 105, 3) := by decide +kernel
theorem d_law_877 : decode code 877 = .ok (.if_icmp .eq 215, 3) := by decide +kernel
theorem d_law_880 : decode code 880 = .ok (.iconst 0, 1) := by decide +kernel
theorem d_law_881 : decode code 881 = .ok (.ireturn, 1) := by decide +kernel
theorem d_law_882 : decode code 882 = .ok (.aload_n 1, 1) := by decide +kernel
theorem d_law_883 : decode code 883 = .ok (.invokevirtual 106, 3) := by decide +kernel
theorem d_law_886 : decode code 886 = .ok (.aload_n 2, 1) := by decide +kernel
theorem d_law_887 : decode code 887 = .ok (.invokevirtual 109, 3) := by decide +kernel
theorem d_law_890 : decode code 890 = .ok (.if_icmp .eq 202, 3) := by decide +kernel
theorem d_law_893 : decode code 893 = .ok (.iconst 0, 1) := by decide +kernel
theorem d_law_894 : decode code 894 = .ok (.ireturn, 1) := by decide +kernel
theorem d_law_895 : decode code 895 = .ok (.aload_n 1, 1) := by decide +kernel
theorem d_law_896 : decode code 896 = .ok (.invokevirtual 110, 3) := by decide +kernel
theorem d_law_899 : decode code 899 = .ok (.aload_n 2, 1) := by decide +kernel
theorem d_law_900 : decode code 900 = .ok (.invokevirtual 113, 3) := by decide +kernel
theorem d_law_903 : decode code 903 = .ok (.if_icmp .eq 189, 3) := by decide +kernel
theorem d_law_906 : decode code 906 = .ok (.iconst 0, 1) := by decide +kernel
theorem d_law_907 : decode code 907 = .ok (.ireturn, 1) := by decide +kernel
theorem d_law_908 : decode code 908 = .ok (.aload_n 1, 1) := by decide +kernel
theorem d_law_909 : decode code 909 = .ok (.aload_n 0, 1) := by decide +kernel
theorem d_law_910 : decode code 910 = .ok (.iload 4, 2) := by decide +kernel
theorem d_law_912 : decode code 912 = .ok (.iconst 1, 1) := by decide +kernel
theorem d_law_913 : decode code 913 = .ok (.iadd, 1) := by decide +kernel
theorem d_law_914 : decode code 914 = .ok (.iaload, 1) := by decide +kernel
theorem d_law_915 : decode code 915 = .ok (.aload_n 0, 1) := by decide +kernel
theorem d_law_916 : decode code 916 = .ok (.iload 4, 2) := by decide +kernel
theorem d_law_918 : decode code 918 = .ok (.iconst 2, 1) := by decide +kernel
theorem d_law_919 : decode code 919 = .ok (.iadd, 1) := by decide +kernel
theorem d_law_920 : decode code 920 = .ok (.iaload, 1) := by decide +kernel
theorem d_law_921 : decode code 921 = .ok (.aload_n 3, 1) := by decide +kernel
theorem d_law_922 : decode code 922 = .ok (.invokestatic 114, 3) := by decide +kernel
theorem d_law_925 : decode code 925 = .ok (.istore 5, 2) := by decide +kernel
theorem d_law_927 : decode code 927 = .ok (.aload_n 2, 1) := by decide +kernel
theorem d_law_928 : decode code 928 = .ok (.aload_n 0, 1) := by decide +kernel
theorem d_law_929 : decode code 929 = .ok (.iload 4, 2) := by decide +kernel
theorem d_law_931 : decode code 931 = .ok (.iconst 1, 1) := by decide +kernel
theorem d_law_932 : decode code 932 = .ok (.iadd, 1) := by decide +kernel
theorem d_law_933 : decode code 933 = .ok (.iaload, 1) := by decide +kernel
theorem d_law_934 : decode code 934 = .ok (.aload_n 0, 1) := by decide +kernel
theorem d_law_935 : decode code 935 = .ok (.iload 4, 2) := by decide +kernel
theorem d_law_937 : decode code 937 = .ok (.iconst 2, 1) := by decide +kernel
theorem d_law_938 : decode code 938 = .ok (.iadd, 1) := by decide +kernel
theorem d_law_939 : decode code 939 = .ok (.iaload, 1) := by decide +kernel
theorem d_law_940 : decode code 940 = .ok (.invokevirtual 116, 3) := by decide +kernel
theorem d_law_943 : decode code 943 = .ok (.istore 6, 2) := by decide +kernel
theorem d_law_945 : decode code 945 = .ok (.aload_n 2, 1) := by decide +kernel
theorem d_law_946 : decode code 946 = .ok (.invokevirtual 66, 3) := by decide +kernel
theorem d_law_949 : decode code 949 = .ok (.iload 5, 2) := by decide +kernel
theorem d_law_951 : decode code 951 = .ok (.if_icmp .eq 5, 3) := by decide +kernel
theorem d_law_954 : decode code 954 = .ok (.iconst 0, 1) := by decide +kernel
theorem d_law_955 : decode code 955 = .ok (.ireturn, 1) := by decide +kernel
theorem d_law_956 : decode code 956 = .ok (.iload 5, 2) := by decide +kernel
theorem d_law_958 : decode code 958 = .ok (.ifCond .ne 15, 3) := by decide +kernel
theorem d_law_961 : decode code 961 = .ok (.aload_n 3, 1) := by decide +kernel
theorem d_law_962 : decode code 962 = .ok (.iconst 0, 1) := by decide +kernel
theorem d_law_963 : decode code 963 = .ok (.laload, 1) := by decide +kernel
theorem d_law_964 : decode code 964 = .ok (.iload 6, 2) := by decide +kernel
theorem d_law_966 : decode code 966 = .ok (.i2l, 1) := by decide +kernel
theorem d_law_967 : decode code 967 = .ok (.lcmp, 1) := by decide +kernel
theorem d_law_968 : decode code 968 = .ok (.ifCond .eq 5, 3) := by decide +kernel
theorem d_law_971 : decode code 971 = .ok (.iconst 0, 1) := by decide +kernel
theorem d_law_972 : decode code 972 = .ok (.ireturn, 1) := by decide +kernel
theorem d_law_973 : decode code 973 = .ok (.goto 119, 3) := by decide +kernel
theorem d_law_976 : decode code 976 = .ok (.aload_n 1, 1) := by decide +kernel
theorem d_law_977 : decode code 977 = .ok (.aload_n 0, 1) := by decide +kernel
theorem d_law_978 : decode code 978 = .ok (.iload 4, 2) := by decide +kernel
theorem d_law_980 : decode code 980 = .ok (.iconst 1, 1) := by decide +kernel
theorem d_law_981 : decode code 981 = .ok (.iadd, 1) := by decide +kernel
theorem d_law_982 : decode code 982 = .ok (.iaload, 1) := by decide +kernel
theorem d_law_983 : decode code 983 = .ok (.aload_n 0, 1) := by decide +kernel
theorem d_law_984 : decode code 984 = .ok (.iload 4, 2) := by decide +kernel
theorem d_law_986 : decode code 986 = .ok (.iconst 2, 1) := by decide +kernel
theorem d_law_987 : decode code 987 = .ok (.iadd, 1) := by decide +kernel
theorem d_law_988 : decode code 988 = .ok (.iaload, 1) := by decide +kernel
theorem d_law_989 : decode code 989 = .ok (.ifCond .eq 7, 3) := by decide +kernel
theorem d_law_992 : decode code 992 = .ok (.iconst 1, 1) := by decide +kernel
theorem d_law_993 : decode code 993 = .ok (.goto 4, 3) := by decide +kernel
theorem d_law_996 : decode code 996 = .ok (.iconst 0, 1) := by decide +kernel
theorem d_law_997 : decode code 997 = .ok (.invokevirtual 117, 3) := by decide +kernel
theorem d_law_1000 : decode code 1000 = .ok (.aload_n 2, 1) := by decide +kernel
theorem d_law_1001 : decode code 1001 = .ok (.aload_n 0, 1) := by decide +kernel
theorem d_law_1002 : decode code 1002 = .ok (.iload 4, 2) := by decide +kernel
theorem d_law_1004 : decode code 1004 = .ok (.iconst 1, 1) := by decide +kernel
theorem d_law_1005 : decode code 1005 = .ok (.iadd, 1) := by decide +kernel
theorem d_law_1006 : decode code 1006 = .ok (.iaload, 1) := by decide +kernel
theorem d_law_1007 : decode code 1007 = .ok (.aload_n 0, 1) := by decide +kernel
theorem d_law_1008 : decode code 1008 = .ok (.iload 4, 2) := by decide +kernel
theorem d_law_1010 : decode code 1010 = .ok (.iconst 2, 1) := by decide +kernel
theorem d_law_1011 : decode code 1011 = .ok (.iadd, 1) := by decide +kernel
theorem d_law_1012 : decode code 1012 = .ok (.iaload, 1) := by decide +kernel
theorem d_law_1013 : decode code 1013 = .ok (.ifCond .eq 7, 3) := by decide +kernel
theorem d_law_1016 : decode code 1016 = .ok (.iconst 1, 1) := by decide +kernel
theorem d_law_1017 : decode code 1017 = .ok (.goto 4, 3) := by decide +kernel
theorem d_law_1020 : decode code 1020 = .ok (.iconst 0, 1) := by decide +kernel
theorem d_law_1021 : decode code 1021 = .ok (.invokevirtual 121, 3) := by decide +kernel
theorem d_law_1024 : decode code 1024 = .ok (.if_icmp .eq 68, 3) := by decide +kernel
theorem d_law_1027 : decode code 1027 = .ok (.iconst 0, 1) := by decide +kernel
theorem d_law_1028 : decode code 1028 = .ok (.ireturn, 1) := by decide +kernel
theorem d_law_1029 : decode code 1029 = .ok (.aload_n 1, 1) := by decide +kernel
theorem d_law_1030 : decode code 1030 = .ok (.aload_n 0, 1) := by decide +kernel
theorem d_law_1031 : decode code 1031 = .ok (.iload 4, 2) := by decide +kernel
theorem d_law_1033 : decode code 1033 = .ok (.iconst 1, 1) := by decide +kernel
theorem d_law_1034 : decode code 1034 = .ok (.iadd, 1) := by decide +kernel
theorem d_law_1035 : decode code 1035 = .ok (.iaload, 1) := by decide +kernel
theorem d_law_1036 : decode code 1036 = .ok (.invokevirtual 122, 3) := by decide +kernel
theorem d_law_1039 : decode code 1039 = .ok (.aload_n 2, 1) := by decide +kernel
theorem d_law_1040 : decode code 1040 = .ok (.aload_n 0, 1) := by decide +kernel
theorem d_law_1041 : decode code 1041 = .ok (.iload 4, 2) := by decide +kernel
theorem d_law_1043 : decode code 1043 = .ok (.iconst 1, 1) := by decide +kernel
theorem d_law_1044 : decode code 1044 = .ok (.iadd, 1) := by decide +kernel
theorem d_law_1045 : decode code 1045 = .ok (.iaload, 1) := by decide +kernel
theorem d_law_1046 : decode code 1046 = .ok (.invokevirtual 125, 3) := by decide +kernel
theorem d_law_1049 : decode code 1049 = .ok (.if_icmp .eq 43, 3) := by decide +kernel
theorem d_law_1052 : decode code 1052 = .ok (.iconst 0, 1) := by decide +kernel
theorem d_law_1053 : decode code 1053 = .ok (.ireturn, 1) := by decide +kernel
theorem d_law_1054 : decode code 1054 = .ok (.aload_n 1, 1) := by decide +kernel
theorem d_law_1055 : decode code 1055 = .ok (.aload_n 0, 1) := by decide +kernel
theorem d_law_1056 : decode code 1056 = .ok (.iload 4, 2) := by decide +kernel
theorem d_law_1058 : decode code 1058 = .ok (.iconst 1, 1) := by decide +kernel
theorem d_law_1059 : decode code 1059 = .ok (.iadd, 1) := by decide +kernel
theorem d_law_1060 : decode code 1060 = .ok (.iaload, 1) := by decide +kernel
theorem d_law_1061 : decode code 1061 = .ok (.invokevirtual 126, 3) := by decide +kernel
theorem d_law_1064 : decode code 1064 = .ok (.aload_n 2, 1) := by decide +kernel
theorem d_law_1065 : decode code 1065 = .ok (.aload_n 0, 1) := by decide +kernel
theorem d_law_1066 : decode code 1066 = .ok (.iload 4, 2) := by decide +kernel
theorem d_law_1068 : decode code 1068 = .ok (.iconst 1, 1) := by decide +kernel
theorem d_law_1069 : decode code 1069 = .ok (.iadd, 1) := by decide +kernel
theorem d_law_1070 : decode code 1070 = .ok (.iaload, 1) := by decide +kernel
theorem d_law_1071 : decode code 1071 = .ok (.invokevirtual 129, 3) := by decide +kernel
theorem d_law_1074 : decode code 1074 = .ok (.if_icmp .eq 18, 3) := by decide +kernel
theorem d_law_1077 : decode code 1077 = .ok (.iconst 0, 1) := by decide +kernel
theorem d_law_1078 : decode code 1078 = .ok (.ireturn, 1) := by decide +kernel
theorem d_law_1079 : decode code 1079 = .ok (.aload_n 1, 1) := by decide +kernel
theorem d_law_1080 : decode code 1080 = .ok (.invokevirtual 130, 3) := by decide +kernel
theorem d_law_1083 : decode code 1083 = .ok (.aload_n 2, 1) := by decide +kernel
theorem d_law_1084 : decode code 1084 = .ok (.invokevirtual 133, 3) := by decide +kernel
theorem d_law_1087 : decode code 1087 = .ok (.if_icmp .eq 5, 3) := by decide +kernel
theorem d_law_1090 : decode code 1090 = .ok (.iconst 0, 1) := by decide +kernel
theorem d_law_1091 : decode code 1091 = .ok (.ireturn, 1) := by decide +kernel
theorem d_law_1092 : decode code 1092 = .ok (.iinc 4 4, 3) := by decide +kernel
theorem d_law_1095 : decode code 1095 = .ok (.goto (-1072), 3) := by decide +kernel
theorem d_law_1098 : decode code 1098 = .ok (.iconst 1, 1) := by decide +kernel
theorem d_law_1099 : decode code 1099 = .ok (.ireturn, 1) := by decide +kernel
