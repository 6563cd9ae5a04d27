theorem d_La_law_840 : decode code 840 = .ok (.invokevirtual 93, 3) := by decide +kernel
theorem d_La_law_843 : decode code 843 = .ok (.if_icmp .eq 678, 3) := by decide +kernel
theorem d_La_law_846 : decode code 846 = .ok (.iconst 0, 1) := by decide +kernel
theorem d_La_law_847 : decode code 847 = .ok (.ireturn, 1) := by decide +kernel
theorem d_La_law_848 : decode code 848 = .ok (.aload_n 1, 1) := by decide +kernel
theorem d_La_law_849 : decode code 849 = .ok (.invokevirtual 94, 3) := by decide +kernel
theorem d_La_law_852 : decode code 852 = .ok (.aload_n 2, 1) := by decide +kernel
theorem d_La_law_853 : decode code 853 = .ok (.invokevirtual 97, 3) := by decide +kernel
theorem d_La_law_856 : decode code 856 = .ok (.if_icmp .eq 665, 3) := by decide +kernel
theorem d_La_law_859 : decode code 859 = .ok (.iconst 0, 1) := by decide +kernel
theorem d_La_law_860 : decode code 860 = .ok (.ireturn, 1) := by decide +kernel
theorem d_La_law_861 : decode code 861 = .ok (.aload_n 1, 1) := by decide +kernel
theorem d_La_law_862 : decode code 862 = .ok (.aload_n 0, 1) := by decide +kernel
theorem d_La_law_863 : decode code 863 = .ok (.iload_n 3, 1) := by decide +kernel
theorem d_La_law_864 : decode code 864 = .ok (.iconst 1, 1) := by decide +kernel
theorem d_La_law_865 : decode code 865 = .ok (.iadd, 1) := by decide +kernel
theorem d_La_law_866 : decode code 866 = .ok (.iaload, 1) := by decide +kernel
theorem d_La_law_867 : decode code 867 = .ok (.invokevirtual 98, 3) := by decide +kernel
theorem d_La_law_870 : decode code 870 = .ok (.aload_n 2, 1) := by decide +kernel
theorem d_La_law_871 : decode code 871 = .ok (.aload_n 0, 1) := by decide +kernel
theorem d_La_law_872 : decode code 872 = .ok (.iload_n 3, 1) := by decide +kernel
theorem d_La_law_873 : decode code 873 = .ok (.iconst 1, 1) := by decide +kernel
theorem d_La_law_874 : decode code 874 = .ok (.iadd, 1) := by decide +kernel
theorem d_La_law_875 : decode code 875 = .ok (.iaload, 1) := by decide +kernel
theorem d_La_law_876 : decode code 876 = .ok (.invokevirtual 101, 3) := by decide +kernel
theorem d_La_law_879 : decode code 879 = .ok (.if_icmp .eq 642, 3) := by decide +kernel
theorem d_La_law_882 : decode code 882 = .ok (.iconst 0, 1) := by decide +kernel
theorem d_La_law_883 : decode code 883 = .ok (.ireturn, 1) := by decide +kernel
theorem d_La_law_884 : decode code 884 = .ok (.aload_n 1, 1) := by decide +kernel
theorem d_La_law_885 : decode code 885 = .ok (.aload_n 0, 1) := by decide +kernel
theorem d_La_law_886 : decode code 886 = .ok (.iload_n 3, 1) := by decide +kernel
theorem d_La_law_887 : decode code 887 = .ok (.iconst 1, 1) := by decide +kernel
theorem d_La_law_888 : decode code 888 = .ok (.iadd, 1) := by decide +kernel
theorem d_La_law_889 : decode code 889 = .ok (.iaload, 1) := by decide +kernel
theorem d_La_law_890 : decode code 890 = .ok (.invokevirtual 102, 3) := by decide +kernel
theorem d_La_law_893 : decode code 893 = .ok (.aload_n 2, 1) := by decide +kernel
theorem d_La_law_894 : decode code 894 = .ok (.aload_n 0, 1) := by decide +kernel
theorem d_La_law_895 : decode code 895 = .ok (.iload_n 3, 1) := by decide +kernel
theorem d_La_law_896 : decode code 896 = .ok (.iconst 1, 1) := by decide +kernel
theorem d_La_law_897 : decode code 897 = .ok (.iadd, 1) := by decide +kernel
theorem d_La_law_898 : decode code 898 = .ok (.iaload, 1) := by decide +kernel
theorem d_La_law_899 : decode code 899 = .ok (.invokevirtual 105, 3) := by decide +kernel
theorem d_La_law_902 : decode code 902 = .ok (.if_icmp .eq 619, 3) := by decide +kernel
theorem d_La_law_905 : decode code 905 = .ok (.iconst 0, 1) := by decide +kernel
theorem d_La_law_906 : decode code 906 = .ok (.ireturn, 1) := by decide +kernel
theorem d_La_law_907 : decode code 907 = .ok (.aload_n 1, 1) := by decide +kernel
theorem d_La_law_908 : decode code 908 = .ok (.aload_n 0, 1) := by decide +kernel
theorem d_La_law_909 : decode code 909 = .ok (.iload_n 3, 1) := by decide +kernel
theorem d_La_law_910 : decode code 910 = .ok (.iconst 1, 1) := by decide +kernel
theorem d_La_law_911 : decode code 911 = .ok (.iadd, 1) := by decide +kernel
theorem d_La_law_912 : decode code 912 = .ok (.iaload, 1) := by decide +kernel
theorem d_La_law_913 : decode code 913 = .ok (.aload_n 0, 1) := by decide +kernel
theorem d_La_law_914 : decode code 914 = .ok (.iload_n 3, 1) := by decide +kernel
theorem d_La_law_915 : decode code 915 = .ok (.iconst 2, 1) := by decide +kernel
theorem d_La_law_916 : decode code 916 = .ok (.iadd, 1) := by decide +kernel
theorem d_La_law_917 : decode code 917 = .ok (.iaload, 1) := by decide +kernel
theorem d_La_law_918 : decode code 918 = .ok (.invokevirtual 106, 3) := by decide +kernel
theorem d_La_law_921 : decode code 921 = .ok (.aload_n 2, 1) := by decide +kernel
theorem d_La_law_922 : decode code 922 = .ok (.aload_n 0, 1) := by decide +kernel
theorem d_La_law_923 : decode code 923 = .ok (.iload_n 3, 1) := by decide +kernel
theorem d_La_law_924 : decode code 924 = .ok (.iconst 1, 1) := by decide +kernel
theorem d_La_law_925 : decode code 925 = .ok (.iadd, 1) := by decide +kernel
theorem d_La_law_926 : decode code 926 = .ok (.iaload, 1) := by decide +kernel
theorem d_La_law_927 : decode code 927 = .ok (.aload_n 0, 1) := by decide +kernel
theorem d_La_law_928 : decode code 928 = .ok (.iload_n 3, 1) := by decide +kernel
theorem d_La_law_929 : decode code 929 = .ok (.iconst 2, 1) := by decide +kernel
theorem d_La_law_930 : decode code 930 = .ok (.iadd, 1) := by decide +kernel
theorem d_La_law_931 : decode code 931 = .ok (.iaload, 1) := by decide +kernel
theorem d_La_law_932 : decode code 932 = .ok (.invokevirtual 109, 3) := by decide +kernel
theorem d_La_law_935 : decode code 935 = .ok (.if_icmp .eq 586, 3) := by decide +kernel
theorem d_La_law_938 : decode code 938 = .ok (.iconst 0, 1) := by decide +kernel
theorem d_La_law_939 : decode code 939 = .ok (.ireturn, 1) := by decide +kernel
theorem d_La_law_940 : decode code 940 = .ok (.aload_n 1, 1) := by decide +kernel
theorem d_La_law_941 : decode code 941 = .ok (.aload_n 0, 1) := by decide +kernel
theorem d_La_law_942 : decode code 942 = .ok (.iload_n 3, 1) := by decide +kernel
theorem d_La_law_943 : decode code 943 = .ok (.iconst 1, 1) := by decide +kernel
theorem d_La_law_944 : decode code 944 = .ok (.iadd, 1) := by decide +kernel
theorem d_La_law_945 : decode code 945 = .ok (.iaload, 1) := by decide +kernel
theorem d_La_law_946 : decode code 946 = .ok (.invokevirtual 110, 3) := by decide +kernel
theorem d_La_law_949 : decode code 949 = .ok (.aload_n 2, 1) := by decide +kernel
theorem d_La_law_950 : decode code 950 = .ok (.aload_n 0, 1) := by decide +kernel
theorem d_La_law_951 : decode code 951 = .ok (.iload_n 3, 1) := by decide +kernel
theorem d_La_law_952 : decode code 952 = .ok (.iconst 1, 1) := by decide +kernel
theorem d_La_law_953 : decode code 953 = .ok (.iadd, 1) := by decide +kernel
theorem d_La_law_954 : decode code 954 = .ok (.iaload, 1) := by decide +kernel
theorem d_La_law_955 : decode code 955 = .ok (.invokevirtual 113, 3) := by decide +kernel
theorem d_La_law_958 : decode code 958 = .ok (.if_icmp .eq 563, 3) := by decide +kernel
theorem d_La_law_961 : decode code 961 = .ok (.iconst 0, 1) := by decide +kernel
theorem d_La_law_962 : decode code 962 = .ok (.ireturn, 1) := by decide +kernel
theorem d_La_law_963 : decode code 963 = .ok (.aload_n 1, 1) := by decide +kernel
theorem d_La_law_964 : decode code 964 = .ok (.aload_n 0, 1) := by decide +kernel
theorem d_La_law_965 : decode code 965 = .ok (.iload_n 3, 1) := by decide +kernel
theorem d_La_law_966 : decode code 966 = .ok (.iconst 1, 1) := by decide +kernel
theorem d_La_law_967 : decode code 967 = .ok (.iadd, 1) := by decide +kernel
theorem d_La_law_968 : decode code 968 = .ok (.iaload, 1) := by decide +kernel
theorem d_La_law_969 : decode code 969 = .ok (.aload_n 0, 1) := by decide +kernel
theorem d_La_law_970 : decode code 970 = .ok (.iload_n 3, 1) := by decide +kernel
theorem d_La_law_971 : decode code 971 = .ok (.iconst 2, 1) := by decide +kernel
theorem d_La_law_972 : decode code 972 = .ok (.iadd, 1) := by decide +kernel
theorem d_La_law_973 : decode code 973 = .ok (.iaload, 1) := by decide +kernel
theorem d_La_law_974 : decode code 974 = .ok (.aload_n 0, 1) := by decide +kernel
theorem d_La_law_975 : decode code 975 = .ok (.iload_n 3, 1) := by decide +kernel
theorem d_La_law_976 : decode code 976 = .ok (.iconst 3, 1) := by decide +kernel
theorem d_La_law_977 : decode code 977 = .ok (.iadd, 1) := by decide +kernel
theorem d_La_law_978 : decode code 978 = .ok (.iaload, 1) := by decide +kernel
theorem d_La_law_979 : decode code 979 = .ok (.invokevirtual 114, 3) := by decide +kernel
theorem d_La_law_982 : decode code 982 = .ok (.aload_n 2, 1) := by decide +kernel
theorem d_La_law_983 : decode code 983 = .ok (.aload_n 0, 1) := by decide +kernel
theorem d_La_law_984 : decode code 984 = .ok (.iload_n 3, 1) := by decide +kernel
theorem d_La_law_985 : decode code 985 = .ok (.iconst 1, 1) := by decide +kernel
theorem d_La_law_986 : decode code 986 = .ok (.iadd, 1) := by decide +kernel
theorem d_La_law_987 : decode code 987 = .ok (.iaload, 1) := by decide +kernel
theorem d_La_law_988 : decode code 988 = .ok (.aload_n 0, 1) := by decide +kernel
theorem d_La_law_989 : decode code 989 = .ok (.iload_n 3, 1) := by decide +kernel
theorem d_La_law_990 : decode code 990 = .ok (.iconst 2, 1) := by decide +kernel
theorem d_La_law_991 : decode code 991 = .ok (.iadd, 1) := by decide +kernel
theorem d_La_law_992 : decode code 992 = .ok (.iaload, 1) := by decide +kernel
theorem d_La_law_993 : decode code 993 = .ok (.aload_n 0, 1) := by decide +kernel
theorem d_La_law_994 : decode code 994 = .ok (.iload_n 3, 1) := by decide +kernel
theorem d_La_law_995 : decode code 995 = .ok (.iconst 3, 1) := by decide +kernel
theorem d_La_law_996 : decode code 996 = .ok (.iadd, 1) := by decide +kernel
theorem d_La_law_997 : decode code 997 = .ok (.iaload, 1) := by decide +kernel
theorem d_La_law_998 : decode code 998 = .ok (.invokevirtual 117, 3) := by decide +kernel
theorem d_La_law_1001 : decode code 1001 = .ok (.if_icmp .eq 520, 3) := by decide +kernel
theorem d_La_law_1004 : decode code 1004 = .ok (.iconst 0, 1) := by decide +kernel
theorem d_La_law_1005 : decode code 1005 = .ok (.ireturn, 1) := by decide +kernel
theorem d_La_law_1006 : decode code 1006 = .ok (.aload_n 1, 1) := by decide +kernel
theorem d_La_law_1007 : decode code 1007 = .ok (.invokevirtual 118, 3) := by decide +kernel
theorem d_La_law_1010 : decode code 1010 = .ok (.aload_n 2, 1) := by decide +kernel
theorem d_La_law_1011 : decode code 1011 = .ok (.invokevirtual 121, 3) := by decide +kernel
theorem d_La_law_1014 : decode code 1014 = .ok (.if_icmp .eq 507, 3) := by decide +kernel
theorem d_La_law_1017 : decode code 1017 = .ok (.iconst 0, 1) := by decide +kernel
theorem d_La_law_1018 : decode code 1018 = .ok (.ireturn, 1) := by decide +kernel
