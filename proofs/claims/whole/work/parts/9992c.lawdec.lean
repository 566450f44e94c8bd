theorem dL_law_763 : decode code 763 = .ok (.iaload, 1) := by decide +kernel
theorem dL_law_764 : decode code 764 = .ok (.invokevirtual 150, 3) := by decide +kernel
theorem dL_law_767 : decode code 767 = .ok (.istore 6, 2) := by decide +kernel
theorem dL_law_769 : decode code 769 = .ok (.aload_n 2, 1) := by decide +kernel
theorem dL_law_770 : decode code 770 = .ok (.invokevirtual 118, 3) := by decide +kernel
theorem dL_law_773 : decode code 773 = .ok (.iload 5, 2) := by decide +kernel
theorem dL_law_775 : decode code 775 = .ok (.if_icmp .eq 5, 3) := by decide +kernel
theorem dL_law_778 : decode code 778 = .ok (.iconst 0, 1) := by decide +kernel
theorem dL_law_779 : decode code 779 = .ok (.ireturn, 1) := by decide +kernel
theorem dL_law_780 : decode code 780 = .ok (.iload 5, 2) := by decide +kernel
theorem dL_law_782 : decode code 782 = .ok (.ifCond .ne 15, 3) := by decide +kernel
theorem dL_law_785 : decode code 785 = .ok (.aload_n 3, 1) := by decide +kernel
theorem dL_law_786 : decode code 786 = .ok (.iconst 0, 1) := by decide +kernel
theorem dL_law_787 : decode code 787 = .ok (.laload, 1) := by decide +kernel
theorem dL_law_788 : decode code 788 = .ok (.iload 6, 2) := by decide +kernel
theorem dL_law_790 : decode code 790 = .ok (.i2l, 1) := by decide +kernel
theorem dL_law_791 : decode code 791 = .ok (.lcmp, 1) := by decide +kernel
theorem dL_law_792 : decode code 792 = .ok (.ifCond .eq 5, 3) := by decide +kernel
theorem dL_law_795 : decode code 795 = .ok (.iconst 0, 1) := by decide +kernel
theorem dL_law_796 : decode code 796 = .ok (.ireturn, 1) := by decide +kernel
theorem dL_law_797 : decode code 797 = .ok (.goto 1009, 3) := by decide +kernel
theorem dL_law_800 : decode code 800 = .ok (.aload_n 1, 1) := by decide +kernel
theorem dL_law_801 : decode code 801 = .ok (.aload_n 0, 1) := by decide +kernel
theorem dL_law_802 : decode code 802 = .ok (.iload 4, 2) := by decide +kernel
theorem dL_law_804 : decode code 804 = .ok (.iconst 1, 1) := by decide +kernel
theorem dL_law_805 : decode code 805 = .ok (.iadd, 1) := by decide +kernel
theorem dL_law_806 : decode code 806 = .ok (.iaload, 1) := by decide +kernel
theorem dL_law_807 : decode code 807 = .ok (.aload_n 0, 1) := by decide +kernel
theorem dL_law_808 : decode code 808 = .ok (.iload 4, 2) := by decide +kernel
theorem dL_law_810 : decode code 810 = .ok (.iconst 2, 1) := by decide +kernel
theorem dL_law_811 : decode code 811 = .ok (.iadd, 1) := by decide +kernel
theorem dL_law_812 : decode code 812 = .ok (.iaload, 1) := by decide +kernel
theorem dL_law_813 : decode code 813 = .ok (.aload_n 3, 1) := by decide +kernel
theorem dL_law_814 : decode code 814 = .ok (.invokestatic 151, 3) := by decide +kernel
theorem dL_law_817 : decode code 817 = .ok (.istore 5, 2) := by decide +kernel
theorem dL_law_819 : decode code 819 = .ok (.aload_n 2, 1) := by decide +kernel
theorem dL_law_820 : decode code 820 = .ok (.aload_n 0, 1) := by decide +kernel
theorem dL_law_821 : decode code 821 = .ok (.iload 4, 2) := by decide +kernel
theorem dL_law_823 : decode code 823 = .ok (.iconst 1, 1) := by decide +kernel
theorem dL_law_824 : decode code 824 = .ok (.iadd, 1) := by decide +kernel
theorem dL_law_825 : decode code 825 = .ok (.iaload, 1) := by decide +kernel
theorem dL_law_826 : decode code 826 = .ok (.aload_n 0, 1) := by decide +kernel
theorem dL_law_827 : decode code 827 = .ok (.iload 4, 2) := by decide +kernel
theorem dL_law_829 : decode code 829 = .ok (.iconst 2, 1) := by decide +kernel
theorem dL_law_830 : decode code 830 = .ok (.iadd, 1) := by decide +kernel
theorem dL_law_831 : decode code 831 = .ok (.iaload, 1) := by decide +kernel
theorem dL_law_832 : decode code 832 = .ok (.invokevirtual 153, 3) := by decide +kernel
theorem dL_law_835 : decode code 835 = .ok (.istore 6, 2) := by decide +kernel
theorem dL_law_837 : decode code 837 = .ok (.aload_n 2, 1) := by decide +kernel
theorem dL_law_838 : decode code 838 = .ok (.invokevirtual 118, 3) := by decide +kernel
theorem dL_law_841 : decode code 841 = .ok (.iload 5, 2) := by decide +kernel
theorem dL_law_843 : decode code 843 = .ok (.if_icmp .eq 5, 3) := by decide +kernel
theorem dL_law_846 : decode code 846 = .ok (.iconst 0, 1) := by decide +kernel
theorem dL_law_847 : decode code 847 = .ok (.ireturn, 1) := by decide +kernel
theorem dL_law_848 : decode code 848 = .ok (.iload 5, 2) := by decide +kernel
theorem dL_law_850 : decode code 850 = .ok (.ifCond .ne 15, 3) := by decide +kernel
theorem dL_law_853 : decode code 853 = .ok (.aload_n 3, 1) := by decide +kernel
theorem dL_law_854 : decode code 854 = .ok (.iconst 0, 1) := by decide +kernel
theorem dL_law_855 : decode code 855 = .ok (.laload, 1) := by decide +kernel
theorem dL_law_856 : decode code 856 = .ok (.iload 6, 2) := by decide +kernel
theorem dL_law_858 : decode code 858 = .ok (.i2l, 1) := by decide +kernel
theorem dL_law_859 : decode code 859 = .ok (.lcmp, 1) := by decide +kernel
theorem dL_law_860 : decode code 860 = .ok (.ifCond .eq 5, 3) := by decide +kernel
theorem dL_law_863 : decode code 863 = .ok (.iconst 0, 1) := by decide +kernel
theorem dL_law_864 : decode code 864 = .ok (.ireturn, 1) := by decide +kernel
theorem dL_law_865 : decode code 865 = .ok (.goto 941, 3) := by decide +kernel
theorem dL_law_868 : decode code 868 = .ok (.aload_n 1, 1) := by decide +kernel
theorem dL_law_869 : decode code 869 = .ok (.aload_n 0, 1) := by decide +kernel
theorem dL_law_870 : decode code 870 = .ok (.iload 4, 2) := by decide +kernel
theorem dL_law_872 : decode code 872 = .ok (.iconst 1, 1) := by decide +kernel
theorem dL_law_873 : decode code 873 = .ok (.iadd, 1) := by decide +kernel
theorem dL_law_874 : decode code 874 = .ok (.iaload, 1) := by decide +kernel
theorem dL_law_875 : decode code 875 = .ok (.aload_n 0, 1) := by decide +kernel
theorem dL_law_876 : decode code 876 = .ok (.iload 4, 2) := by decide +kernel
theorem dL_law_878 : decode code 878 = .ok (.iconst 2, 1) := by decide +kernel
theorem dL_law_879 : decode code 879 = .ok (.iadd, 1) := by decide +kernel
theorem dL_law_880 : decode code 880 = .ok (.iaload, 1) := by decide +kernel
theorem dL_law_881 : decode code 881 = .ok (.aload_n 0, 1) := by decide +kernel
theorem dL_law_882 : decode code 882 = .ok (.iload 4, 2) := by decide +kernel
theorem dL_law_884 : decode code 884 = .ok (.iconst 3, 1) := by decide +kernel
theorem dL_law_885 : decode code 885 = .ok (.iadd, 1) := by decide +kernel
theorem dL_law_886 : decode code 886 = .ok (.iaload, 1) := by decide +kernel
theorem dL_law_887 : decode code 887 = .ok (.invokestatic 154, 3) := by decide +kernel
theorem dL_law_890 : decode code 890 = .ok (.istore 5, 2) := by decide +kernel
theorem dL_law_892 : decode code 892 = .ok (.aload_n 2, 1) := by decide +kernel
theorem dL_law_893 : decode code 893 = .ok (.aload_n 0, 1) := by decide +kernel
theorem dL_law_894 : decode code 894 = .ok (.iload 4, 2) := by decide +kernel
theorem dL_law_896 : decode code 896 = .ok (.iconst 1, 1) := by decide +kernel
theorem dL_law_897 : decode code 897 = .ok (.iadd, 1) := by decide +kernel
theorem dL_law_898 : decode code 898 = .ok (.iaload, 1) := by decide +kernel
theorem dL_law_899 : decode code 899 = .ok (.aload_n 0, 1) := by decide +kernel
theorem dL_law_900 : decode code 900 = .ok (.iload 4, 2) := by decide +kernel
theorem dL_law_902 : decode code 902 = .ok (.iconst 2, 1) := by decide +kernel
theorem dL_law_903 : decode code 903 = .ok (.iadd, 1) := by decide +kernel
theorem dL_law_904 : decode code 904 = .ok (.iaload, 1) := by decide +kernel
theorem dL_law_905 : decode code 905 = .ok (.aload_n 0, 1) := by decide +kernel
theorem dL_law_906 : decode code 906 = .ok (.iload 4, 2) := by decide +kernel
theorem dL_law_908 : decode code 908 = .ok (.iconst 3, 1) := by decide +kernel
theorem dL_law_909 : decode code 909 = .ok (.iadd, 1) := by decide +kernel
theorem dL_law_910 : decode code 910 = .ok (.iaload, 1) := by decide +kernel
theorem dL_law_911 : decode code 911 = .ok (.invokevirtual 157, 3) := by decide +kernel
theorem dL_law_914 : decode code 914 = .ok (.aload_n 2, 1) := by decide +kernel
theorem dL_law_915 : decode code 915 = .ok (.invokevirtual 118, 3) := by decide +kernel
theorem dL_law_918 : decode code 918 = .ok (.iload 5, 2) := by decide +kernel
theorem dL_law_920 : decode code 920 = .ok (.if_icmp .eq 5, 3) := by decide +kernel
theorem dL_law_923 : decode code 923 = .ok (.iconst 0, 1) := by decide +kernel
theorem dL_law_924 : decode code 924 = .ok (.ireturn, 1) := by decide +kernel
theorem dL_law_925 : decode code 925 = .ok (.goto 881, 3) := by decide +kernel
theorem dL_law_928 : decode code 928 = .ok (.aload_n 1, 1) := by decide +kernel
theorem dL_law_929 : decode code 929 = .ok (.aload_n 0, 1) := by decide +kernel
theorem dL_law_930 : decode code 930 = .ok (.iload 4, 2) := by decide +kernel
theorem dL_law_932 : decode code 932 = .ok (.iconst 1, 1) := by decide +kernel
theorem dL_law_933 : decode code 933 = .ok (.iadd, 1) := by decide +kernel
theorem dL_law_934 : decode code 934 = .ok (.iaload, 1) := by decide +kernel
theorem dL_law_935 : decode code 935 = .ok (.aload_n 0, 1) := by decide +kernel
theorem dL_law_936 : decode code 936 = .ok (.iload 4, 2) := by decide +kernel
theorem dL_law_938 : decode code 938 = .ok (.iconst 2, 1) := by decide +kernel
theorem dL_law_939 : decode code 939 = .ok (.iadd, 1) := by decide +kernel
theorem dL_law_940 : decode code 940 = .ok (.iaload, 1) := by decide +kernel
theorem dL_law_941 : decode code 941 = .ok (.aload_n 0, 1) := by decide +kernel
theorem dL_law_942 : decode code 942 = .ok (.iload 4, 2) := by decide +kernel
theorem dL_law_944 : decode code 944 = .ok (.iconst 3, 1) := by decide +kernel
theorem dL_law_945 : decode code 945 = .ok (.iadd, 1) := by decide +kernel
theorem dL_law_946 : decode code 946 = .ok (.iaload, 1) := by decide +kernel
theorem dL_law_947 : decode code 947 = .ok (.invokestatic 158, 3) := by decide +kernel
theorem dL_law_950 : decode code 950 = .ok (.istore 5, 2) := by decide +kernel
theorem dL_law_952 : decode code 952 = .ok (.aload_n 2, 1) := by decide +kernel
theorem dL_law_953 : decode code 953 = .ok (.aload_n 0, 1) := by decide +kernel
theorem dL_law_954 : decode code 954 = .ok (.iload 4, 2) := by decide +kernel
theorem dL_law_956 : decode code 956 = .ok (.iconst 1, 1) := by decide +kernel
theorem dL_law_957 : decode code 957 = .ok (.iadd, 1) := by decide +kernel
theorem dL_law_958 : decode code 958 = .ok (.iaload, 1) := by decide +kernel
theorem dL_law_959 : decode code 959 = .ok (.aload_n 0, 1) := by decide +kernel
theorem dL_law_960 : decode code 960 = .ok (.iload 4, 2) := by decide +kernel
theorem dL_law_962 : decode code 962 = .ok (.iconst 2, 1) := by decide +kernel
theorem dL_law_963 : decode code 963 = .ok (.iadd, 1) := by decide +kernel
theorem dL_law_964 : decode code 964 = .ok (.iaload, 1) := by decide +kernel
theorem dL_law_965 : decode code 965 = .ok (.aload_n 0, 1) := by decide +kernel
theorem dL_law_966 : decode code 966 = .ok (.iload 4, 2) := by decide +kernel
theorem dL_law_968 : decode code 968 = .ok (.iconst 3, 1) := by decide +kernel
theorem dL_law_969 : decode code 969 = .ok (.iadd, 1) := by decide +kernel
theorem dL_law_970 : decode code 970 = .ok (.iaload, 1) := by decide +kernel
theorem dL_law_971 : decode code 971 = .ok (.invokevirtual 160, 3) := by decide +kernel
theorem dL_law_974 : decode code 974 = .ok (.aload_n 2, 1) := by decide +kernel
theorem dL_law_975 : decode code 975 = .ok (.invokevirtual 118, 3) := by decide +kernel
theorem dL_law_978 : decode code 978 = .ok (.iload 5, 2) := by decide +kernel
theorem dL_law_980 : decode code 980 = .ok (.if_icmp .eq 5, 3) := by decide +kernel
theorem dL_law_983 : decode code 983 = .ok (.iconst 0, 1) := by decide +kernel
theorem dL_law_984 : decode code 984 = .ok (.ireturn, 1) := by decide +kernel
theorem dL_law_985 : decode code 985 = .ok (.goto 821, 3) := by decide +kernel
theorem dL_law_988 : decode code 988 = .ok (.aload_n 1, 1) := by decide +kernel
theorem dL_law_989 : decode code 989 = .ok (.aload_n 0, 1) := by decide +kernel
theorem dL_law_990 : decode code 990 = .ok (.iload 4, 2) := by decide +kernel
theorem dL_law_992 : decode code 992 = .ok (.iconst 1, 1) := by decide +kernel
theorem dL_law_993 : decode code 993 = .ok (.iadd, 1) := by decide +kernel
theorem dL_law_994 : decode code 994 = .ok (.iaload, 1) := by decide +kernel
theorem dL_law_995 : decode code 995 = .ok (.aload_n 0, 1) := by decide +kernel
theorem dL_law_996 : decode code 996 = .ok (.iload 4, 2) := by decide +kernel
theorem dL_law_998 : decode code 998 = .ok (.iconst 2, 1) := by decide +kernel
theorem dL_law_999 : decode code 999 = .ok (.iadd, 1) := by decide +kernel
theorem dL_law_1000 : decode code 1000 = .ok (.iaload, 1) := by decide +kernel
theorem dL_law_1001 : decode code 1001 = .ok (.aload_n 0, 1) := by decide +kernel
theorem dL_law_1002 : decode code 1002 = .ok (.iload 4, 2) := by decide +kernel
theorem dL_law_1004 : decode code 1004 = .ok (.iconst 3, 1) := by decide +kernel
theorem dL_law_1005 : decode code 1005 = .ok (.iadd, 1) := by decide +kernel
theorem dL_law_1006 : decode code 1006 = .ok (.iaload, 1) := by decide +kernel
theorem dL_law_1007 : decode code 1007 = .ok (.invokestatic 161, 3) := by decide +kernel
theorem dL_law_1010 : decode code 1010 = .ok (.istore 5, 2) := by decide +kernel
theorem dL_law_1012 : decode code 1012 = .ok (.aload_n 2, 1) := by decide +kernel
theorem dL_law_1013 : decode code 1013 = .ok (.aload_n 0, 1) := by decide +kernel
theorem dL_law_1014 : decode code 1014 = .ok (.iload 4, 2) := by decide +kernel
theorem dL_law_1016 : decode code 1016 = .ok (.iconst 1, 1) := by decide +kernel
theorem dL_law_1017 : decode code 1017 = .ok (.iadd, 1) := by decide +kernel
theorem dL_law_1018 : decode code 1018 = .ok (.iaload, 1) := by decide +kernel
theorem dL_law_1019 : decode code 1019 = .ok (.aload_n 0, 1) := by decide +kernel
theorem dL_law_1020 : decode code 1020 = .ok (.iload 4, 2) := by decide +kernel
theorem dL_law_1022 : decode code 1022 = .ok (.iconst 2, 1) := by decide +kernel
theorem dL_law_1023 : decode code 1023 = .ok (.iadd, 1) := by decide +kernel
theorem dL_law_1024 : decode code 1024 = .ok (.iaload, 1) := by decide +kernel
theorem dL_law_1025 : decode code 1025 = .ok (.aload_n 0, 1) := by decide +kernel
theorem dL_law_1026 : decode code 1026 = .ok (.iload 4, 2) := by decide +kernel
theorem dL_law_1028 : decode code 1028 = .ok (.iconst 3, 1) := by decide +kernel
theorem dL_law_1029 : decode code 1029 = .ok (.iadd, 1) := by decide +kernel
theorem dL_law_1030 : decode code 1030 = .ok (.iaload, 1) := by decide +kernel
theorem dL_law_1031 : decode code 1031 = .ok (.invokevirtual 163, 3) := by decide +kernel
theorem dL_law_1034 : decode code 1034 = .ok (.aload_n 2, 1) := by decide +kernel
theorem dL_law_1035 : decode code 1035 = .ok (.invokevirtual 118, 3) := by decide +kernel
theorem dL_law_1038 : decode code 1038 = .ok (.iload 5, 2) := by decide +kernel
theorem dL_law_1040 : decode code 1040 = .ok (.if_icmp .eq 5, 3) := by decide +kernel
theorem dL_law_1043 : decode code 1043 = .ok (.iconst 0, 1) := by decide +kernel
theorem dL_law_1044 : decode code 1044 = .ok (.ireturn, 1) := by decide +kernel
theorem dL_law_1045 : decode code 1045 = .ok (.goto 761, 3) := by decide +kernel
theorem dL_law_1048 : decode code 1048 = .ok (.aload_n 1, 1) := by decide +kernel
theorem dL_law_1049 : decode code 1049 = .ok (.aload_n 0, 1) := by decide +kernel
theorem dL_law_1050 : decode code 1050 = .ok (.iload 4, 2) := by decide +kernel
theorem dL_law_1052 : decode code 1052 = .ok (.iconst 1, 1) := by decide +kernel
theorem dL_law_1053 : decode code 1053 = .ok (.iadd, 1) := by decide +kernel
theorem dL_law_1054 : decode code 1054 = .ok (.iaload, 1) := by decide +kernel
theorem dL_law_1055 : decode code 1055 = .ok (.aload_n 0, 1) := by decide +kernel
theorem dL_law_1056 : decode code 1056 = .ok (.iload 4, 2) := by decide +kernel
theorem dL_law_1058 : decode code 1058 = .ok (.iconst 2, 1) := by decide +kernel
theorem dL_law_1059 : decode code 1059 = .ok (.iadd, 1) := by decide +kernel
theorem dL_law_1060 : decode code 1060 = .ok (.iaload, 1) := by decide +kernel
theorem dL_law_1061 : decode code 1061 = .ok (.aload_n 0, 1) := by decide +kernel
theorem dL_law_1062 : decode code 1062 = .ok (.iload 4, 2) := by decide +kernel
theorem dL_law_1064 : decode code 1064 = .ok (.iconst 3, 1) := by decide +kernel
theorem dL_law_1065 : decode code 1065 = .ok (.iadd, 1) := by decide +kernel
theorem dL_law_1066 : decode code 1066 = .ok (.iaload, 1) := by decide +kernel
theorem dL_law_1067 : decode code 1067 = .ok (.invokestatic 164, 3) := by decide +kernel
theorem dL_law_1070 : decode code 1070 = .ok (.istore 5, 2) := by decide +kernel
theorem dL_law_1072 : decode code 1072 = .ok (.aload_n 2, 1) := by decide +kernel
theorem dL_law_1073 : decode code 1073 = .ok (.aload_n 0, 1) := by decide +kernel
theorem dL_law_1074 : decode code 1074 = .ok (.iload 4, 2) := by decide +kernel
theorem dL_law_1076 : decode code 1076 = .ok (.iconst 1, 1) := by decide +kernel
theorem dL_law_1077 : decode code 1077 = .ok (.iadd, 1) := by decide +kernel
theorem dL_law_1078 : decode code 1078 = .ok (.iaload, 1) := by decide +kernel
theorem dL_law_1079 : decode code 1079 = .ok (.aload_n 0, 1) := by decide +kernel
theorem dL_law_1080 : decode code 1080 = .ok (.iload 4, 2) := by decide +kernel
theorem dL_law_1082 : decode code 1082 = .ok (.iconst 2, 1) := by decide +kernel
theorem dL_law_1083 : decode code 1083 = .ok (.iadd, 1) := by decide +kernel
