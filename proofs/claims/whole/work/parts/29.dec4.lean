theorem d_Law_law_839 : decode code 839 = .ok (.iaload, 1) := by decide +kernel
theorem d_Law_law_840 : decode code 840 = .ok (.invokevirtual 105, 3) := by decide +kernel
theorem d_Law_law_843 : decode code 843 = .ok (.lcmp, 1) := by decide +kernel
theorem d_Law_law_844 : decode code 844 = .ok (.ifCond .eq 479, 3) := by decide +kernel
theorem d_Law_law_847 : decode code 847 = .ok (.iconst 0, 1) := by decide +kernel
theorem d_Law_law_849 : decode code 849 = .ok (.aload_n 1, 1) := by decide +kernel
theorem d_Law_law_850 : decode code 850 = .ok (.aload_n 0, 1) := by decide +kernel
theorem d_Law_law_851 : decode code 851 = .ok (.iload_n 3, 1) := by decide +kernel
theorem d_Law_law_852 : decode code 852 = .ok (.iconst 1, 1) := by decide +kernel
theorem d_Law_law_853 : decode code 853 = .ok (.iadd, 1) := by decide +kernel
theorem d_Law_law_854 : decode code 854 = .ok (.iaload, 1) := by decide +kernel
theorem d_Law_law_855 : decode code 855 = .ok (.aload_n 0, 1) := by decide +kernel
theorem d_Law_law_856 : decode code 856 = .ok (.iload_n 3, 1) := by decide +kernel
theorem d_Law_law_857 : decode code 857 = .ok (.iconst 2, 1) := by decide +kernel
theorem d_Law_law_858 : decode code 858 = .ok (.iadd, 1) := by decide +kernel
theorem d_Law_law_859 : decode code 859 = .ok (.iaload, 1) := by decide +kernel
theorem d_Law_law_860 : decode code 860 = .ok (.invokevirtual 106, 3) := by decide +kernel
theorem d_Law_law_863 : decode code 863 = .ok (.aload_n 2, 1) := by decide +kernel
theorem d_Law_law_864 : decode code 864 = .ok (.aload_n 0, 1) := by decide +kernel
theorem d_Law_law_865 : decode code 865 = .ok (.iload_n 3, 1) := by decide +kernel
theorem d_Law_law_866 : decode code 866 = .ok (.iconst 1, 1) := by decide +kernel
theorem d_Law_law_867 : decode code 867 = .ok (.iadd, 1) := by decide +kernel
theorem d_Law_law_868 : decode code 868 = .ok (.iaload, 1) := by decide +kernel
theorem d_Law_law_869 : decode code 869 = .ok (.aload_n 0, 1) := by decide +kernel
theorem d_Law_law_870 : decode code 870 = .ok (.iload_n 3, 1) := by decide +kernel
theorem d_Law_law_871 : decode code 871 = .ok (.iconst 2, 1) := by decide +kernel
theorem d_Law_law_872 : decode code 872 = .ok (.iadd, 1) := by decide +kernel
theorem d_Law_law_873 : decode code 873 = .ok (.iaload, 1) := by decide +kernel
theorem d_Law_law_874 : decode code 874 = .ok (.invokevirtual 109, 3) := by decide +kernel
theorem d_Law_law_877 : decode code 877 = .ok (.lcmp, 1) := by decide +kernel
theorem d_Law_law_878 : decode code 878 = .ok (.ifCond .eq 445, 3) := by decide +kernel
theorem d_Law_law_881 : decode code 881 = .ok (.iconst 0, 1) := by decide +kernel
theorem d_Law_law_883 : decode code 883 = .ok (.aload_n 1, 1) := by decide +kernel
theorem d_Law_law_884 : decode code 884 = .ok (.aload_n 0, 1) := by decide +kernel
theorem d_Law_law_885 : decode code 885 = .ok (.iload_n 3, 1) := by decide +kernel
theorem d_Law_law_886 : decode code 886 = .ok (.iconst 1, 1) := by decide +kernel
theorem d_Law_law_887 : decode code 887 = .ok (.iadd, 1) := by decide +kernel
theorem d_Law_law_888 : decode code 888 = .ok (.iaload, 1) := by decide +kernel
theorem d_Law_law_889 : decode code 889 = .ok (.aload_n 0, 1) := by decide +kernel
theorem d_Law_law_890 : decode code 890 = .ok (.iload_n 3, 1) := by decide +kernel
theorem d_Law_law_891 : decode code 891 = .ok (.iconst 2, 1) := by decide +kernel
theorem d_Law_law_892 : decode code 892 = .ok (.iadd, 1) := by decide +kernel
theorem d_Law_law_893 : decode code 893 = .ok (.iaload, 1) := by decide +kernel
theorem d_Law_law_894 : decode code 894 = .ok (.invokevirtual 110, 3) := by decide +kernel
theorem d_Law_law_897 : decode code 897 = .ok (.aload_n 2, 1) := by decide +kernel
theorem d_Law_law_898 : decode code 898 = .ok (.aload_n 0, 1) := by decide +kernel
theorem d_Law_law_899 : decode code 899 = .ok (.iload_n 3, 1) := by decide +kernel
theorem d_Law_law_900 : decode code 900 = .ok (.iconst 1, 1) := by decide +kernel
theorem d_Law_law_901 : decode code 901 = .ok (.iadd, 1) := by decide +kernel
theorem d_Law_law_902 : decode code 902 = .ok (.iaload, 1) := by decide +kernel
theorem d_Law_law_903 : decode code 903 = .ok (.aload_n 0, 1) := by decide +kernel
theorem d_Law_law_904 : decode code 904 = .ok (.iload_n 3, 1) := by decide +kernel
theorem d_Law_law_905 : decode code 905 = .ok (.iconst 2, 1) := by decide +kernel
theorem d_Law_law_906 : decode code 906 = .ok (.iadd, 1) := by decide +kernel
theorem d_Law_law_907 : decode code 907 = .ok (.iaload, 1) := by decide +kernel
theorem d_Law_law_908 : decode code 908 = .ok (.invokevirtual 113, 3) := by decide +kernel
theorem d_Law_law_911 : decode code 911 = .ok (.if_icmp .eq 412, 3) := by decide +kernel
theorem d_Law_law_914 : decode code 914 = .ok (.iconst 0, 1) := by decide +kernel
theorem d_Law_law_916 : decode code 916 = .ok (.aload_n 1, 1) := by decide +kernel
theorem d_Law_law_917 : decode code 917 = .ok (.invokevirtual 114, 3) := by decide +kernel
theorem d_Law_law_920 : decode code 920 = .ok (.aload_n 2, 1) := by decide +kernel
theorem d_Law_law_921 : decode code 921 = .ok (.invokevirtual 117, 3) := by decide +kernel
theorem d_Law_law_924 : decode code 924 = .ok (.if_icmp .eq 399, 3) := by decide +kernel
theorem d_Law_law_927 : decode code 927 = .ok (.iconst 0, 1) := by decide +kernel
theorem d_Law_law_929 : decode code 929 = .ok (.aload_n 1, 1) := by decide +kernel
theorem d_Law_law_930 : decode code 930 = .ok (.aload_n 0, 1) := by decide +kernel
theorem d_Law_law_931 : decode code 931 = .ok (.iload_n 3, 1) := by decide +kernel
theorem d_Law_law_932 : decode code 932 = .ok (.iconst 1, 1) := by decide +kernel
theorem d_Law_law_933 : decode code 933 = .ok (.iadd, 1) := by decide +kernel
theorem d_Law_law_934 : decode code 934 = .ok (.iaload, 1) := by decide +kernel
theorem d_Law_law_935 : decode code 935 = .ok (.aload_n 0, 1) := by decide +kernel
theorem d_Law_law_936 : decode code 936 = .ok (.iload_n 3, 1) := by decide +kernel
theorem d_Law_law_937 : decode code 937 = .ok (.iconst 2, 1) := by decide +kernel
theorem d_Law_law_938 : decode code 938 = .ok (.iadd, 1) := by decide +kernel
theorem d_Law_law_939 : decode code 939 = .ok (.iaload, 1) := by decide +kernel
theorem d_Law_law_940 : decode code 940 = .ok (.invokevirtual 118, 3) := by decide +kernel
theorem d_Law_law_943 : decode code 943 = .ok (.aload_n 2, 1) := by decide +kernel
theorem d_Law_law_944 : decode code 944 = .ok (.aload_n 0, 1) := by decide +kernel
theorem d_Law_law_945 : decode code 945 = .ok (.iload_n 3, 1) := by decide +kernel
theorem d_Law_law_946 : decode code 946 = .ok (.iconst 1, 1) := by decide +kernel
theorem d_Law_law_947 : decode code 947 = .ok (.iadd, 1) := by decide +kernel
theorem d_Law_law_948 : decode code 948 = .ok (.iaload, 1) := by decide +kernel
theorem d_Law_law_949 : decode code 949 = .ok (.aload_n 0, 1) := by decide +kernel
theorem d_Law_law_950 : decode code 950 = .ok (.iload_n 3, 1) := by decide +kernel
theorem d_Law_law_951 : decode code 951 = .ok (.iconst 2, 1) := by decide +kernel
theorem d_Law_law_952 : decode code 952 = .ok (.iadd, 1) := by decide +kernel
theorem d_Law_law_953 : decode code 953 = .ok (.iaload, 1) := by decide +kernel
theorem d_Law_law_954 : decode code 954 = .ok (.invokevirtual 121, 3) := by decide +kernel
theorem d_Law_law_957 : decode code 957 = .ok (.if_icmp .eq 366, 3) := by decide +kernel
theorem d_Law_law_960 : decode code 960 = .ok (.iconst 0, 1) := by decide +kernel
theorem d_Law_law_962 : decode code 962 = .ok (.aload_n 1, 1) := by decide +kernel
theorem d_Law_law_963 : decode code 963 = .ok (.invokevirtual 122, 3) := by decide +kernel
theorem d_Law_law_966 : decode code 966 = .ok (.aload_n 2, 1) := by decide +kernel
theorem d_Law_law_967 : decode code 967 = .ok (.invokevirtual 125, 3) := by decide +kernel
theorem d_Law_law_970 : decode code 970 = .ok (.if_icmp .eq 353, 3) := by decide +kernel
theorem d_Law_law_973 : decode code 973 = .ok (.iconst 0, 1) := by decide +kernel
theorem d_Law_law_975 : decode code 975 = .ok (.aload_n 1, 1) := by decide +kernel
theorem d_Law_law_976 : decode code 976 = .ok (.invokevirtual 126, 3) := by decide +kernel
theorem d_Law_law_979 : decode code 979 = .ok (.aload_n 2, 1) := by decide +kernel
theorem d_Law_law_980 : decode code 980 = .ok (.invokevirtual 129, 3) := by decide +kernel
theorem d_Law_law_983 : decode code 983 = .ok (.if_icmp .eq 340, 3) := by decide +kernel
theorem d_Law_law_986 : decode code 986 = .ok (.iconst 0, 1) := by decide +kernel
theorem d_Law_law_988 : decode code 988 = .ok (.aload_n 1, 1) := by decide +kernel
theorem d_Law_law_989 : decode code 989 = .ok (.aload_n 0, 1) := by decide +kernel
theorem d_Law_law_990 : decode code 990 = .ok (.iload_n 3, 1) := by decide +kernel
theorem d_Law_law_991 : decode code 991 = .ok (.iconst 1, 1) := by decide +kernel
theorem d_Law_law_992 : decode code 992 = .ok (.iadd, 1) := by decide +kernel
theorem d_Law_law_993 : decode code 993 = .ok (.iaload, 1) := by decide +kernel
theorem d_Law_law_994 : decode code 994 = .ok (.aload_n 0, 1) := by decide +kernel
theorem d_Law_law_995 : decode code 995 = .ok (.iload_n 3, 1) := by decide +kernel
theorem d_Law_law_996 : decode code 996 = .ok (.iconst 2, 1) := by decide +kernel
theorem d_Law_law_997 : decode code 997 = .ok (.iadd, 1) := by decide +kernel
theorem d_Law_law_998 : decode code 998 = .ok (.iaload, 1) := by decide +kernel
theorem d_Law_law_999 : decode code 999 = .ok (.aload_n 0, 1) := by decide +kernel
theorem d_Law_law_1000 : decode code 1000 = .ok (.iload_n 3, 1) := by decide +kernel
theorem d_Law_law_1001 : decode code 1001 = .ok (.iconst 3, 1) := by decide +kernel
theorem d_Law_law_1002 : decode code 1002 = .ok (.iadd, 1) := by decide +kernel
theorem d_Law_law_1003 : decode code 1003 = .ok (.iaload, 1) := by decide +kernel
theorem d_Law_law_1004 : decode code 1004 = .ok (.invokevirtual 130, 3) := by decide +kernel
theorem d_Law_law_1007 : decode code 1007 = .ok (.aload_n 2, 1) := by decide +kernel
theorem d_Law_law_1008 : decode code 1008 = .ok (.aload_n 0, 1) := by decide +kernel
theorem d_Law_law_1009 : decode code 1009 = .ok (.iload_n 3, 1) := by decide +kernel
theorem d_Law_law_1010 : decode code 1010 = .ok (.iconst 1, 1) := by decide +kernel
theorem d_Law_law_1011 : decode code 1011 = .ok (.iadd, 1) := by decide +kernel
theorem d_Law_law_1012 : decode code 1012 = .ok (.iaload, 1) := by decide +kernel
theorem d_Law_law_1013 : decode code 1013 = .ok (.aload_n 0, 1) := by decide +kernel
theorem d_Law_law_1014 : decode code 1014 = .ok (.iload_n 3, 1) := by decide +kernel
theorem d_Law_law_1015 : decode code 1015 = .ok (.iconst 2, 1) := by decide +kernel
theorem d_Law_law_1016 : decode code 1016 = .ok (.iadd, 1) := by decide +kernel
theorem d_Law_law_1017 : decode code 1017 = .ok (.iaload, 1) := by decide +kernel
