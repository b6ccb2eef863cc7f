theorem d_La_law_827 : decode code 827 = .ok (.iaload, 1) := by decide +kernel
theorem d_La_law_828 : decode code 828 = .ok (.aload_n 0, 1) := by decide +kernel
theorem d_La_law_829 : decode code 829 = .ok (.iload 4, 2) := by decide +kernel
theorem d_La_law_831 : decode code 831 = .ok (.iconst (2), 1) := by decide +kernel
theorem d_La_law_832 : decode code 832 = .ok (.iadd, 1) := by decide +kernel
theorem d_La_law_833 : decode code 833 = .ok (.iaload, 1) := by decide +kernel
theorem d_La_law_834 : decode code 834 = .ok (.aload_n 3, 1) := by decide +kernel
theorem d_La_law_835 : decode code 835 = .ok (.invokestatic 107, 3) := by decide +kernel
theorem d_La_law_838 : decode code 838 = .ok (.istore 5, 2) := by decide +kernel
theorem d_La_law_840 : decode code 840 = .ok (.aload_n 2, 1) := by decide +kernel
theorem d_La_law_841 : decode code 841 = .ok (.aload_n 0, 1) := by decide +kernel
theorem d_La_law_842 : decode code 842 = .ok (.iload 4, 2) := by decide +kernel
theorem d_La_law_844 : decode code 844 = .ok (.iconst (1), 1) := by decide +kernel
theorem d_La_law_845 : decode code 845 = .ok (.iadd, 1) := by decide +kernel
theorem d_La_law_846 : decode code 846 = .ok (.iaload, 1) := by decide +kernel
theorem d_La_law_847 : decode code 847 = .ok (.aload_n 0, 1) := by decide +kernel
theorem d_La_law_848 : decode code 848 = .ok (.iload 4, 2) := by decide +kernel
theorem d_La_law_850 : decode code 850 = .ok (.iconst (2), 1) := by decide +kernel
theorem d_La_law_851 : decode code 851 = .ok (.iadd, 1) := by decide +kernel
theorem d_La_law_852 : decode code 852 = .ok (.iaload, 1) := by decide +kernel
theorem d_La_law_853 : decode code 853 = .ok (.invokevirtual 109, 3) := by decide +kernel
theorem d_La_law_856 : decode code 856 = .ok (.lstore 6, 2) := by decide +kernel
theorem d_La_law_858 : decode code 858 = .ok (.aload_n 2, 1) := by decide +kernel
theorem d_La_law_859 : decode code 859 = .ok (.invokevirtual 90, 3) := by decide +kernel
theorem d_La_law_862 : decode code 862 = .ok (.iload 5, 2) := by decide +kernel
theorem d_La_law_864 : decode code 864 = .ok (.if_icmp .eq (5), 3) := by decide +kernel
theorem d_La_law_867 : decode code 867 = .ok (.iconst (0), 1) := by decide +kernel
theorem d_La_law_868 : decode code 868 = .ok (.ireturn, 1) := by decide +kernel
theorem d_La_law_869 : decode code 869 = .ok (.iload 5, 2) := by decide +kernel
theorem d_La_law_871 : decode code 871 = .ok (.ifCond .ne (14), 3) := by decide +kernel
theorem d_La_law_874 : decode code 874 = .ok (.aload_n 3, 1) := by decide +kernel
theorem d_La_law_875 : decode code 875 = .ok (.iconst (0), 1) := by decide +kernel
theorem d_La_law_876 : decode code 876 = .ok (.laload, 1) := by decide +kernel
theorem d_La_law_877 : decode code 877 = .ok (.lload 6, 2) := by decide +kernel
theorem d_La_law_879 : decode code 879 = .ok (.lcmp, 1) := by decide +kernel
theorem d_La_law_880 : decode code 880 = .ok (.ifCond .eq (5), 3) := by decide +kernel
theorem d_La_law_883 : decode code 883 = .ok (.iconst (0), 1) := by decide +kernel
theorem d_La_law_884 : decode code 884 = .ok (.ireturn, 1) := by decide +kernel
theorem d_La_law_885 : decode code 885 = .ok (.goto (144), 3) := by decide +kernel
theorem d_La_law_888 : decode code 888 = .ok (.aload_n 1, 1) := by decide +kernel
theorem d_La_law_889 : decode code 889 = .ok (.aload_n 0, 1) := by decide +kernel
theorem d_La_law_890 : decode code 890 = .ok (.iload 4, 2) := by decide +kernel
theorem d_La_law_892 : decode code 892 = .ok (.iconst (1), 1) := by decide +kernel
theorem d_La_law_893 : decode code 893 = .ok (.iadd, 1) := by decide +kernel
theorem d_La_law_894 : decode code 894 = .ok (.iaload, 1) := by decide +kernel
theorem d_La_law_895 : decode code 895 = .ok (.invokevirtual 110, 3) := by decide +kernel
theorem d_La_law_898 : decode code 898 = .ok (.aload_n 2, 1) := by decide +kernel
theorem d_La_law_899 : decode code 899 = .ok (.aload_n 0, 1) := by decide +kernel
theorem d_La_law_900 : decode code 900 = .ok (.iload 4, 2) := by decide +kernel
theorem d_La_law_902 : decode code 902 = .ok (.iconst (1), 1) := by decide +kernel
theorem d_La_law_903 : decode code 903 = .ok (.iadd, 1) := by decide +kernel
theorem d_La_law_904 : decode code 904 = .ok (.iaload, 1) := by decide +kernel
theorem d_La_law_905 : decode code 905 = .ok (.invokevirtual 113, 3) := by decide +kernel
theorem d_La_law_908 : decode code 908 = .ok (.if_icmp .eq (121), 3) := by decide +kernel
theorem d_La_law_911 : decode code 911 = .ok (.iconst (0), 1) := by decide +kernel
theorem d_La_law_912 : decode code 912 = .ok (.ireturn, 1) := by decide +kernel
theorem d_La_law_913 : decode code 913 = .ok (.aload_n 1, 1) := by decide +kernel
theorem d_La_law_914 : decode code 914 = .ok (.aload_n 0, 1) := by decide +kernel
theorem d_La_law_915 : decode code 915 = .ok (.iload 4, 2) := by decide +kernel
theorem d_La_law_917 : decode code 917 = .ok (.iconst (1), 1) := by decide +kernel
theorem d_La_law_918 : decode code 918 = .ok (.iadd, 1) := by decide +kernel
theorem d_La_law_919 : decode code 919 = .ok (.iaload, 1) := by decide +kernel
theorem d_La_law_920 : decode code 920 = .ok (.aload_n 0, 1) := by decide +kernel
theorem d_La_law_921 : decode code 921 = .ok (.iload 4, 2) := by decide +kernel
theorem d_La_law_923 : decode code 923 = .ok (.iconst (2), 1) := by decide +kernel
theorem d_La_law_924 : decode code 924 = .ok (.iadd, 1) := by decide +kernel
theorem d_La_law_925 : decode code 925 = .ok (.iaload, 1) := by decide +kernel
theorem d_La_law_926 : decode code 926 = .ok (.ifCond .eq (7), 3) := by decide +kernel
theorem d_La_law_929 : decode code 929 = .ok (.iconst (1), 1) := by decide +kernel
theorem d_La_law_930 : decode code 930 = .ok (.goto (4), 3) := by decide +kernel
theorem d_La_law_933 : decode code 933 = .ok (.iconst (0), 1) := by decide +kernel
theorem d_La_law_934 : decode code 934 = .ok (.invokevirtual 114, 3) := by decide +kernel
theorem d_La_law_937 : decode code 937 = .ok (.aload_n 2, 1) := by decide +kernel
theorem d_La_law_938 : decode code 938 = .ok (.aload_n 0, 1) := by decide +kernel
theorem d_La_law_939 : decode code 939 = .ok (.iload 4, 2) := by decide +kernel
theorem d_La_law_941 : decode code 941 = .ok (.iconst (1), 1) := by decide +kernel
theorem d_La_law_942 : decode code 942 = .ok (.iadd, 1) := by decide +kernel
theorem d_La_law_943 : decode code 943 = .ok (.iaload, 1) := by decide +kernel
theorem d_La_law_944 : decode code 944 = .ok (.aload_n 0, 1) := by decide +kernel
theorem d_La_law_945 : decode code 945 = .ok (.iload 4, 2) := by decide +kernel
theorem d_La_law_947 : decode code 947 = .ok (.iconst (2), 1) := by decide +kernel
theorem d_La_law_948 : decode code 948 = .ok (.iadd, 1) := by decide +kernel
theorem d_La_law_949 : decode code 949 = .ok (.iaload, 1) := by decide +kernel
theorem d_La_law_950 : decode code 950 = .ok (.ifCond .eq (7), 3) := by decide +kernel
theorem d_La_law_953 : decode code 953 = .ok (.iconst (1), 1) := by decide +kernel
theorem d_La_law_954 : decode code 954 = .ok (.goto (4), 3) := by decide +kernel
theorem d_La_law_957 : decode code 957 = .ok (.iconst (0), 1) := by decide +kernel
theorem d_La_law_958 : decode code 958 = .ok (.invokevirtual 118, 3) := by decide +kernel
theorem d_La_law_961 : decode code 961 = .ok (.if_icmp .eq (68), 3) := by decide +kernel
theorem d_La_law_964 : decode code 964 = .ok (.iconst (0), 1) := by decide +kernel
theorem d_La_law_965 : decode code 965 = .ok (.ireturn, 1) := by decide +kernel
theorem d_La_law_966 : decode code 966 = .ok (.aload_n 1, 1) := by decide +kernel
theorem d_La_law_967 : decode code 967 = .ok (.aload_n 0, 1) := by decide +kernel
theorem d_La_law_968 : decode code 968 = .ok (.iload 4, 2) := by decide +kernel
theorem d_La_law_970 : decode code 970 = .ok (.iconst (1), 1) := by decide +kernel
theorem d_La_law_971 : decode code 971 = .ok (.iadd, 1) := by decide +kernel
theorem d_La_law_972 : decode code 972 = .ok (.iaload, 1) := by decide +kernel
theorem d_La_law_973 : decode code 973 = .ok (.invokevirtual 119, 3) := by decide +kernel
theorem d_La_law_976 : decode code 976 = .ok (.aload_n 2, 1) := by decide +kernel
theorem d_La_law_977 : decode code 977 = .ok (.aload_n 0, 1) := by decide +kernel
theorem d_La_law_978 : decode code 978 = .ok (.iload 4, 2) := by decide +kernel
theorem d_La_law_980 : decode code 980 = .ok (.iconst (1), 1) := by decide +kernel
theorem d_La_law_981 : decode code 981 = .ok (.iadd, 1) := by decide +kernel
theorem d_La_law_982 : decode code 982 = .ok (.iaload, 1) := by decide +kernel
theorem d_La_law_983 : decode code 983 = .ok (.invokevirtual 122, 3) := by decide +kernel
theorem d_La_law_986 : decode code 986 = .ok (.if_icmp .eq (43), 3) := by decide +kernel
theorem d_La_law_989 : decode code 989 = .ok (.iconst (0), 1) := by decide +kernel
theorem d_La_law_990 : decode code 990 = .ok (.ireturn, 1) := by decide +kernel
theorem d_La_law_991 : decode code 991 = .ok (.aload_n 1, 1) := by decide +kernel
theorem d_La_law_992 : decode code 992 = .ok (.aload_n 0, 1) := by decide +kernel
theorem d_La_law_993 : decode code 993 = .ok (.iload 4, 2) := by decide +kernel
theorem d_La_law_995 : decode code 995 = .ok (.iconst (1), 1) := by decide +kernel
theorem d_La_law_996 : decode code 996 = .ok (.iadd, 1) := by decide +kernel
theorem d_La_law_997 : decode code 997 = .ok (.iaload, 1) := by decide +kernel
theorem d_La_law_998 : decode code 998 = .ok (.aload_n 0, 1) := by decide +kernel
theorem d_La_law_999 : decode code 999 = .ok (.iload 4, 2) := by decide +kernel
theorem d_La_law_1001 : decode code 1001 = .ok (.iconst (2), 1) := by decide +kernel
theorem d_La_law_1002 : decode code 1002 = .ok (.iadd, 1) := by decide +kernel
theorem d_La_law_1003 : decode code 1003 = .ok (.iaload, 1) := by decide +kernel
theorem d_La_law_1004 : decode code 1004 = .ok (.invokevirtual 123, 3) := by decide +kernel
theorem d_La_law_1007 : decode code 1007 = .ok (.aload_n 2, 1) := by decide +kernel
theorem d_La_law_1008 : decode code 1008 = .ok (.aload_n 0, 1) := by decide +kernel
theorem d_La_law_1009 : decode code 1009 = .ok (.iload 4, 2) := by decide +kernel
theorem d_La_law_1011 : decode code 1011 = .ok (.iconst (1), 1) := by decide +kernel
theorem d_La_law_1012 : decode code 1012 = .ok (.iadd, 1) := by decide +kernel
theorem d_La_law_1013 : decode code 1013 = .ok (.iaload, 1) := by decide +kernel
theorem d_La_law_1014 : decode code 1014 = .ok (.aload_n 0, 1) := by decide +kernel
theorem d_La_law_1015 : decode code 1015 = .ok (.iload 4, 2) := by decide +kernel
theorem d_La_law_1017 : decode code 1017 = .ok (.iconst (2), 1) := by decide +kernel
theorem d_La_law_1018 : decode code 1018 = .ok (.iadd, 1) := by decide +kernel
theorem d_La_law_1019 : decode code 1019 = .ok (.iaload, 1) := by decide +kernel
theorem d_La_law_1020 : decode code 1020 = .ok (.invokevirtual 126, 3) := by decide +kernel
theorem d_La_law_1023 : decode code 1023 = .ok (.lcmp, 1) := by decide +kernel
theorem d_La_law_1024 : decode code 1024 = .ok (.ifCond .eq (5), 3) := by decide +kernel
theorem d_La_law_1027 : decode code 1027 = .ok (.iconst (0), 1) := by decide +kernel
theorem d_La_law_1028 : decode code 1028 = .ok (.ireturn, 1) := by decide +kernel
theorem d_La_law_1029 : decode code 1029 = .ok (.iinc 4 (5), 3) := by decide +kernel
theorem d_La_law_1032 : decode code 1032 = .ok (.goto (-999), 3) := by decide +kernel
theorem d_La_law_1035 : decode code 1035 = .ok (.iconst (1), 1) := by decide +kernel
theorem d_La_law_1036 : decode code 1036 = .ok (.ireturn, 1) := by decide +kernel
