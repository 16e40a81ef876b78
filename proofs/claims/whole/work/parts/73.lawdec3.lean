theorem dLaw_856 : decode cLaw 856 = .ok (.iload 5, 2) := by decide +kernel
theorem dLaw_858 : decode cLaw 858 = .ok (.if_icmp .eq 5, 3) := by decide +kernel
theorem dLaw_861 : decode cLaw 861 = .ok (.iconst 0, 1) := by decide +kernel
theorem dLaw_862 : decode cLaw 862 = .ok (.ireturn, 1) := by decide +kernel
theorem dLaw_863 : decode cLaw 863 = .ok (.iload 5, 2) := by decide +kernel
theorem dLaw_865 : decode cLaw 865 = .ok (.ifCond .ne 15, 3) := by decide +kernel
theorem dLaw_868 : decode cLaw 868 = .ok (.aload_n 3, 1) := by decide +kernel
theorem dLaw_869 : decode cLaw 869 = .ok (.iconst 0, 1) := by decide +kernel
theorem dLaw_870 : decode cLaw 870 = .ok (.laload, 1) := by decide +kernel
theorem dLaw_871 : decode cLaw 871 = .ok (.iload 6, 2) := by decide +kernel
theorem dLaw_873 : decode cLaw 873 = .ok (.i2l, 1) := by decide +kernel
theorem dLaw_874 : decode cLaw 874 = .ok (.lcmp, 1) := by decide +kernel
theorem dLaw_875 : decode cLaw 875 = .ok (.ifCond .eq 5, 3) := by decide +kernel
theorem dLaw_878 : decode cLaw 878 = .ok (.iconst 0, 1) := by decide +kernel
theorem dLaw_879 : decode cLaw 879 = .ok (.ireturn, 1) := by decide +kernel
theorem dLaw_880 : decode cLaw 880 = .ok (.goto 641, 3) := by decide +kernel
theorem dLaw_883 : decode cLaw 883 = .ok (.aload_n 1, 1) := by decide +kernel
theorem dLaw_884 : decode cLaw 884 = .ok (.aload_n 0, 1) := by decide +kernel
theorem dLaw_885 : decode cLaw 885 = .ok (.iload 4, 2) := by decide +kernel
theorem dLaw_887 : decode cLaw 887 = .ok (.iconst 1, 1) := by decide +kernel
theorem dLaw_888 : decode cLaw 888 = .ok (.iadd, 1) := by decide +kernel
theorem dLaw_889 : decode cLaw 889 = .ok (.iaload, 1) := by decide +kernel
theorem dLaw_890 : decode cLaw 890 = .ok (.aload_n 3, 1) := by decide +kernel
theorem dLaw_891 : decode cLaw 891 = .ok (.invokestatic 132, 3) := by decide +kernel
theorem dLaw_894 : decode cLaw 894 = .ok (.istore 5, 2) := by decide +kernel
theorem dLaw_896 : decode cLaw 896 = .ok (.aload_n 2, 1) := by decide +kernel
theorem dLaw_897 : decode cLaw 897 = .ok (.aload_n 0, 1) := by decide +kernel
theorem dLaw_898 : decode cLaw 898 = .ok (.iload 4, 2) := by decide +kernel
theorem dLaw_900 : decode cLaw 900 = .ok (.iconst 1, 1) := by decide +kernel
theorem dLaw_901 : decode cLaw 901 = .ok (.iadd, 1) := by decide +kernel
theorem dLaw_902 : decode cLaw 902 = .ok (.iaload, 1) := by decide +kernel
theorem dLaw_903 : decode cLaw 903 = .ok (.invokevirtual 134, 3) := by decide +kernel
theorem dLaw_906 : decode cLaw 906 = .ok (.istore 6, 2) := by decide +kernel
theorem dLaw_908 : decode cLaw 908 = .ok (.aload_n 2, 1) := by decide +kernel
theorem dLaw_909 : decode cLaw 909 = .ok (.invokevirtual 83, 3) := by decide +kernel
theorem dLaw_912 : decode cLaw 912 = .ok (.iload 5, 2) := by decide +kernel
theorem dLaw_914 : decode cLaw 914 = .ok (.if_icmp .eq 5, 3) := by decide +kernel
theorem dLaw_917 : decode cLaw 917 = .ok (.iconst 0, 1) := by decide +kernel
theorem dLaw_918 : decode cLaw 918 = .ok (.ireturn, 1) := by decide +kernel
theorem dLaw_919 : decode cLaw 919 = .ok (.iload 5, 2) := by decide +kernel
theorem dLaw_921 : decode cLaw 921 = .ok (.ifCond .ne 15, 3) := by decide +kernel
theorem dLaw_924 : decode cLaw 924 = .ok (.aload_n 3, 1) := by decide +kernel
theorem dLaw_925 : decode cLaw 925 = .ok (.iconst 0, 1) := by decide +kernel
theorem dLaw_926 : decode cLaw 926 = .ok (.laload, 1) := by decide +kernel
theorem dLaw_927 : decode cLaw 927 = .ok (.iload 6, 2) := by decide +kernel
theorem dLaw_929 : decode cLaw 929 = .ok (.i2l, 1) := by decide +kernel
theorem dLaw_930 : decode cLaw 930 = .ok (.lcmp, 1) := by decide +kernel
theorem dLaw_931 : decode cLaw 931 = .ok (.ifCond .eq 5, 3) := by decide +kernel
theorem dLaw_934 : decode cLaw 934 = .ok (.iconst 0, 1) := by decide +kernel
theorem dLaw_935 : decode cLaw 935 = .ok (.ireturn, 1) := by decide +kernel
theorem dLaw_936 : decode cLaw 936 = .ok (.goto 585, 3) := by decide +kernel
theorem dLaw_939 : decode cLaw 939 = .ok (.aload_n 1, 1) := by decide +kernel
theorem dLaw_940 : decode cLaw 940 = .ok (.invokevirtual 135, 3) := by decide +kernel
theorem dLaw_943 : decode cLaw 943 = .ok (.aload_n 2, 1) := by decide +kernel
theorem dLaw_944 : decode cLaw 944 = .ok (.invokevirtual 138, 3) := by decide +kernel
theorem dLaw_947 : decode cLaw 947 = .ok (.if_icmp .eq 574, 3) := by decide +kernel
theorem dLaw_950 : decode cLaw 950 = .ok (.iconst 0, 1) := by decide +kernel
theorem dLaw_951 : decode cLaw 951 = .ok (.ireturn, 1) := by decide +kernel
theorem dLaw_952 : decode cLaw 952 = .ok (.aload_n 1, 1) := by decide +kernel
theorem dLaw_953 : decode cLaw 953 = .ok (.aload_n 0, 1) := by decide +kernel
theorem dLaw_954 : decode cLaw 954 = .ok (.iload 4, 2) := by decide +kernel
theorem dLaw_956 : decode cLaw 956 = .ok (.iconst 1, 1) := by decide +kernel
theorem dLaw_957 : decode cLaw 957 = .ok (.iadd, 1) := by decide +kernel
theorem dLaw_958 : decode cLaw 958 = .ok (.iaload, 1) := by decide +kernel
theorem dLaw_959 : decode cLaw 959 = .ok (.aload_n 0, 1) := by decide +kernel
theorem dLaw_960 : decode cLaw 960 = .ok (.iload 4, 2) := by decide +kernel
theorem dLaw_962 : decode cLaw 962 = .ok (.iconst 2, 1) := by decide +kernel
theorem dLaw_963 : decode cLaw 963 = .ok (.iadd, 1) := by decide +kernel
theorem dLaw_964 : decode cLaw 964 = .ok (.iaload, 1) := by decide +kernel
theorem dLaw_965 : decode cLaw 965 = .ok (.aload_n 3, 1) := by decide +kernel
theorem dLaw_966 : decode cLaw 966 = .ok (.invokestatic 139, 3) := by decide +kernel
theorem dLaw_969 : decode cLaw 969 = .ok (.istore 5, 2) := by decide +kernel
theorem dLaw_971 : decode cLaw 971 = .ok (.aload_n 2, 1) := by decide +kernel
theorem dLaw_972 : decode cLaw 972 = .ok (.aload_n 0, 1) := by decide +kernel
theorem dLaw_973 : decode cLaw 973 = .ok (.iload 4, 2) := by decide +kernel
theorem dLaw_975 : decode cLaw 975 = .ok (.iconst 1, 1) := by decide +kernel
theorem dLaw_976 : decode cLaw 976 = .ok (.iadd, 1) := by decide +kernel
theorem dLaw_977 : decode cLaw 977 = .ok (.iaload, 1) := by decide +kernel
theorem dLaw_978 : decode cLaw 978 = .ok (.aload_n 0, 1) := by decide +kernel
theorem dLaw_979 : decode cLaw 979 = .ok (.iload 4, 2) := by decide +kernel
theorem dLaw_981 : decode cLaw 981 = .ok (.iconst 2, 1) := by decide +kernel
theorem dLaw_982 : decode cLaw 982 = .ok (.iadd, 1) := by decide +kernel
theorem dLaw_983 : decode cLaw 983 = .ok (.iaload, 1) := by decide +kernel
theorem dLaw_984 : decode cLaw 984 = .ok (.invokevirtual 141, 3) := by decide +kernel
theorem dLaw_987 : decode cLaw 987 = .ok (.istore 6, 2) := by decide +kernel
theorem dLaw_989 : decode cLaw 989 = .ok (.aload_n 2, 1) := by decide +kernel
theorem dLaw_990 : decode cLaw 990 = .ok (.invokevirtual 83, 3) := by decide +kernel
theorem dLaw_993 : decode cLaw 993 = .ok (.iload 5, 2) := by decide +kernel
theorem dLaw_995 : decode cLaw 995 = .ok (.if_icmp .eq 5, 3) := by decide +kernel
theorem dLaw_998 : decode cLaw 998 = .ok (.iconst 0, 1) := by decide +kernel
theorem dLaw_999 : decode cLaw 999 = .ok (.ireturn, 1) := by decide +kernel
theorem dLaw_1000 : decode cLaw 1000 = .ok (.iload 5, 2) := by decide +kernel
theorem dLaw_1002 : decode cLaw 1002 = .ok (.ifCond .ne 15, 3) := by decide +kernel
theorem dLaw_1005 : decode cLaw 1005 = .ok (.aload_n 3, 1) := by decide +kernel
theorem dLaw_1006 : decode cLaw 1006 = .ok (.iconst 0, 1) := by decide +kernel
theorem dLaw_1007 : decode cLaw 1007 = .ok (.laload, 1) := by decide +kernel
theorem dLaw_1008 : decode cLaw 1008 = .ok (.iload 6, 2) := by decide +kernel
theorem dLaw_1010 : decode cLaw 1010 = .ok (.i2l, 1) := by decide +kernel
theorem dLaw_1011 : decode cLaw 1011 = .ok (.lcmp, 1) := by decide +kernel
theorem dLaw_1012 : decode cLaw 1012 = .ok (.ifCond .eq 5, 3) := by decide +kernel
theorem dLaw_1015 : decode cLaw 1015 = .ok (.iconst 0, 1) := by decide +kernel
theorem dLaw_1016 : decode cLaw 1016 = .ok (.ireturn, 1) := by decide +kernel
theorem dLaw_1017 : decode cLaw 1017 = .ok (.goto 504, 3) := by decide +kernel
theorem dLaw_1020 : decode cLaw 1020 = .ok (.aload_n 1, 1) := by decide +kernel
theorem dLaw_1021 : decode cLaw 1021 = .ok (.aload_n 0, 1) := by decide +kernel
theorem dLaw_1022 : decode cLaw 1022 = .ok (.iload 4, 2) := by decide +kernel
theorem dLaw_1024 : decode cLaw 1024 = .ok (.iconst 1, 1) := by decide +kernel
theorem dLaw_1025 : decode cLaw 1025 = .ok (.iadd, 1) := by decide +kernel
theorem dLaw_1026 : decode cLaw 1026 = .ok (.iaload, 1) := by decide +kernel
theorem dLaw_1027 : decode cLaw 1027 = .ok (.aload_n 3, 1) := by decide +kernel
theorem dLaw_1028 : decode cLaw 1028 = .ok (.invokestatic 142, 3) := by decide +kernel
theorem dLaw_1031 : decode cLaw 1031 = .ok (.istore 5, 2) := by decide +kernel
theorem dLaw_1033 : decode cLaw 1033 = .ok (.aload_n 2, 1) := by decide +kernel
theorem dLaw_1034 : decode cLaw 1034 = .ok (.aload_n 0, 1) := by decide +kernel
theorem dLaw_1035 : decode cLaw 1035 = .ok (.iload 4, 2) := by decide +kernel
theorem dLaw_1037 : decode cLaw 1037 = .ok (.iconst 1, 1) := by decide +kernel
theorem dLaw_1038 : decode cLaw 1038 = .ok (.iadd, 1) := by decide +kernel
theorem dLaw_1039 : decode cLaw 1039 = .ok (.iaload, 1) := by decide +kernel
theorem dLaw_1040 : decode cLaw 1040 = .ok (.invokevirtual 144, 3) := by decide +kernel
theorem dLaw_1043 : decode cLaw 1043 = .ok (.istore 6, 2) := by decide +kernel
theorem dLaw_1045 : decode cLaw 1045 = .ok (.aload_n 2, 1) := by decide +kernel
theorem dLaw_1046 : decode cLaw 1046 = .ok (.invokevirtual 83, 3) := by decide +kernel
theorem dLaw_1049 : decode cLaw 1049 = .ok (.iload 5, 2) := by decide +kernel
theorem dLaw_1051 : decode cLaw 1051 = .ok (.if_icmp .eq 5, 3) := by decide +kernel
theorem dLaw_1054 : decode cLaw 1054 = .ok (.iconst 0, 1) := by decide +kernel
theorem dLaw_1055 : decode cLaw 1055 = .ok (.ireturn, 1) := by decide +kernel
theorem dLaw_1056 : decode cLaw 1056 = .ok (.iload 5, 2) := by decide +kernel
theorem dLaw_1058 : decode cLaw 1058 = .ok (.ifCond .ne 15, 3) := by decide +kernel
theorem dLaw_1061 : decode cLaw 1061 = .ok (.aload_n 3, 1) := by decide +kernel
theorem dLaw_1062 : decode cLaw 1062 = .ok (.iconst 0, 1) := by decide +kernel
theorem dLaw_1063 : decode cLaw 1063 = .ok (.laload, 1) := by decide +kernel
theorem dLaw_1064 : decode cLaw 1064 = .ok (.iload 6, 2) := by decide +kernel
theorem dLaw_1066 : decode cLaw 1066 = .ok (.i2l, 1) := by decide +kernel
theorem dLaw_1067 : decode cLaw 1067 = .ok (.lcmp, 1) := by decide +kernel
theorem dLaw_1068 : decode cLaw 1068 = .ok (.ifCond .eq 5, 3) := by decide +kernel
theorem dLaw_1071 : decode cLaw 1071 = .ok (.iconst 0, 1) := by decide +kernel
theorem dLaw_1072 : decode cLaw 1072 = .ok (.ireturn, 1) := by decide +kernel
theorem dLaw_1073 : decode cLaw 1073 = .ok (.goto 448, 3) := by decide +kernel
theorem dLaw_1076 : decode cLaw 1076 = .ok (.aload_n 1, 1) := by decide +kernel
theorem dLaw_1077 : decode cLaw 1077 = .ok (.aload_n 0, 1) := by decide +kernel
theorem dLaw_1078 : decode cLaw 1078 = .ok (.iload 4, 2) := by decide +kernel
theorem dLaw_1080 : decode cLaw 1080 = .ok (.iconst 1, 1) := by decide +kernel
theorem dLaw_1081 : decode cLaw 1081 = .ok (.iadd, 1) := by decide +kernel
theorem dLaw_1082 : decode cLaw 1082 = .ok (.iaload, 1) := by decide +kernel
theorem dLaw_1083 : decode cLaw 1083 = .ok (.aload_n 3, 1) := by decide +kernel
theorem dLaw_1084 : decode cLaw 1084 = .ok (.invokestatic 145, 3) := by decide +kernel
theorem dLaw_1087 : decode cLaw 1087 = .ok (.istore 5, 2) := by decide +kernel
theorem dLaw_1089 : decode cLaw 1089 = .ok (.aload_n 2, 1) := by decide +kernel
theorem dLaw_1090 : decode cLaw 1090 = .ok (.aload_n 0, 1) := by decide +kernel
theorem dLaw_1091 : decode cLaw 1091 = .ok (.iload 4, 2) := by decide +kernel
theorem dLaw_1093 : decode cLaw 1093 = .ok (.iconst 1, 1) := by decide +kernel
theorem dLaw_1094 : decode cLaw 1094 = .ok (.iadd, 1) := by decide +kernel
theorem dLaw_1095 : decode cLaw 1095 = .ok (.iaload, 1) := by decide +kernel
theorem dLaw_1096 : decode cLaw 1096 = .ok (.invokevirtual 147, 3) := by decide +kernel
theorem dLaw_1099 : decode cLaw 1099 = .ok (.istore 6, 2) := by decide +kernel
theorem dLaw_1101 : decode cLaw 1101 = .ok (.aload_n 2, 1) := by decide +kernel
theorem dLaw_1102 : decode cLaw 1102 = .ok (.invokevirtual 83, 3) := by decide +kernel
theorem dLaw_1105 : decode cLaw 1105 = .ok (.iload 5, 2) := by decide +kernel
theorem dLaw_1107 : decode cLaw 1107 = .ok (.if_icmp .eq 5, 3) := by decide +kernel
theorem dLaw_1110 : decode cLaw 1110 = .ok (.iconst 0, 1) := by decide +kernel
theorem dLaw_1111 : decode cLaw 1111 = .ok (.ireturn, 1) := by decide +kernel
theorem dLaw_1112 : decode cLaw 1112 = .ok (.iload 5, 2) := by decide +kernel
theorem dLaw_1114 : decode cLaw 1114 = .ok (.ifCond .ne 15, 3) := by decide +kernel
theorem dLaw_1117 : decode cLaw 1117 = .ok (.aload_n 3, 1) := by decide +kernel
theorem dLaw_1118 : decode cLaw 1118 = .ok (.iconst 0, 1) := by decide +kernel
theorem dLaw_1119 : decode cLaw 1119 = .ok (.laload, 1) := by decide +kernel
theorem dLaw_1120 : decode cLaw 1120 = .ok (.iload 6, 2) := by decide +kernel
theorem dLaw_1122 : decode cLaw 1122 = .ok (.i2l, 1) := by decide +kernel
theorem dLaw_1123 : decode cLaw 1123 = .ok (.lcmp, 1) := by decide +kernel
theorem dLaw_1124 : decode cLaw 1124 = .ok (.ifCond .eq 5, 3) := by decide +kernel
theorem dLaw_1127 : decode cLaw 1127 = .ok (.iconst 0, 1) := by decide +kernel
theorem dLaw_1128 : decode cLaw 1128 = .ok (.ireturn, 1) := by decide +kernel
theorem dLaw_1129 : decode cLaw 1129 = .ok (.goto 392, 3) := by decide +kernel
theorem dLaw_1132 : decode cLaw 1132 = .ok (.aload_n 1, 1) := by decide +kernel
theorem dLaw_1133 : decode cLaw 1133 = .ok (.invokevirtual 148, 3) := by decide +kernel
theorem dLaw_1136 : decode cLaw 1136 = .ok (.aload_n 2, 1) := by decide +kernel
theorem dLaw_1137 : decode cLaw 1137 = .ok (.invokevirtual 151, 3) := by decide +kernel
theorem dLaw_1140 : decode cLaw 1140 = .ok (.if_icmp .eq 381, 3) := by decide +kernel
theorem dLaw_1143 : decode cLaw 1143 = .ok (.iconst 0, 1) := by decide +kernel
theorem dLaw_1144 : decode cLaw 1144 = .ok (.ireturn, 1) := by decide +kernel
theorem dLaw_1145 : decode cLaw 1145 = .ok (.aload_n 1, 1) := by decide +kernel
theorem dLaw_1146 : decode cLaw 1146 = .ok (.aload_n 0, 1) := by decide +kernel
theorem dLaw_1147 : decode cLaw 1147 = .ok (.iload 4, 2) := by decide +kernel
theorem dLaw_1149 : decode cLaw 1149 = .ok (.iconst 1, 1) := by decide +kernel
theorem dLaw_1150 : decode cLaw 1150 = .ok (.iadd, 1) := by decide +kernel
theorem dLaw_1151 : decode cLaw 1151 = .ok (.iaload, 1) := by decide +kernel
theorem dLaw_1152 : decode cLaw 1152 = .ok (.aload_n 3, 1) := by decide +kernel
theorem dLaw_1153 : decode cLaw 1153 = .ok (.invokestatic 152, 3) := by decide +kernel
theorem dLaw_1156 : decode cLaw 1156 = .ok (.istore 5, 2) := by decide +kernel
theorem dLaw_1158 : decode cLaw 1158 = .ok (.aload_n 2, 1) := by decide +kernel
theorem dLaw_1159 : decode cLaw 1159 = .ok (.aload_n 0, 1) := by decide +kernel
theorem dLaw_1160 : decode cLaw 1160 = .ok (.iload 4, 2) := by decide +kernel
theorem dLaw_1162 : decode cLaw 1162 = .ok (.iconst 1, 1) := by decide +kernel
theorem dLaw_1163 : decode cLaw 1163 = .ok (.iadd, 1) := by decide +kernel
theorem dLaw_1164 : decode cLaw 1164 = .ok (.iaload, 1) := by decide +kernel
theorem dLaw_1165 : decode cLaw 1165 = .ok (.invokevirtual 154, 3) := by decide +kernel
theorem dLaw_1168 : decode cLaw 1168 = .ok (.istore 6, 2) := by decide +kernel
theorem dLaw_1170 : decode cLaw 1170 = .ok (.aload_n 2, 1) := by decide +kernel
theorem dLaw_1171 : decode cLaw 1171 = .ok (.invokevirtual 83, 3) := by decide +kernel
theorem dLaw_1174 : decode cLaw 1174 = .ok (.iload 5, 2) := by decide +kernel
theorem dLaw_1176 : decode cLaw 1176 = .ok (.if_icmp .eq 5, 3) := by decide +kernel
theorem dLaw_1179 : decode cLaw 1179 = .ok (.iconst 0, 1) := by decide +kernel
theorem dLaw_1180 : decode cLaw 1180 = .ok (.ireturn, 1) := by decide +kernel
theorem dLaw_1181 : decode cLaw 1181 = .ok (.iload 5, 2) := by decide +kernel
theorem dLaw_1183 : decode cLaw 1183 = .ok (.ifCond .ne 15, 3) := by decide +kernel
theorem dLaw_1186 : decode cLaw 1186 = .ok (.aload_n 3, 1) := by decide +kernel
theorem dLaw_1187 : decode cLaw 1187 = .ok (.iconst 0, 1) := by decide +kernel
theorem dLaw_1188 : decode cLaw 1188 = .ok (.laload, 1) := by decide +kernel
theorem dLaw_1189 : decode cLaw 1189 = .ok (.iload 6, 2) := by decide +kernel
theorem dLaw_1191 : decode cLaw 1191 = .ok (.i2l, 1) := by decide +kernel
theorem dLaw_1192 : decode cLaw 1192 = .ok (.lcmp, 1) := by decide +kernel
theorem dLaw_1193 : decode cLaw 1193 = .ok (.ifCond .eq 5, 3) := by decide +kernel
theorem dLaw_1196 : decode cLaw 1196 = .ok (.iconst 0, 1) := by decide +kernel
theorem dLaw_1197 : decode cLaw 1197 = .ok (.ireturn, 1) := by decide +kernel
theorem dLaw_1198 : decode cLaw 1198 = .ok (.goto 323, 3) := by decide +kernel
theorem dLaw_1201 : decode cLaw 1201 = .ok (.aload_n 1, 1) := by decide +kernel
theorem dLaw_1202 : decode cLaw 1202 = .ok (.aload_n 0, 1) := by decide +kernel
theorem dLaw_1203 : decode cLaw 1203 = .ok (.iload 4, 2) := by decide +kernel
theorem dLaw_1205 : decode cLaw 1205 = .ok (.iconst 1, 1) := by decide +kernel
theorem dLaw_1206 : decode cLaw 1206 = .ok (.iadd, 1) := by decide +kernel
theorem dLaw_1207 : decode cLaw 1207 = .ok (.iaload, 1) := by decide +kernel
theorem dLaw_1208 : decode cLaw 1208 = .ok (.aload_n 3, 1) := by decide +kernel
theorem dLaw_1209 : decode cLaw 1209 = .ok (.invokestatic 155, 3) := by decide +kernel
theorem dLaw_1212 : decode cLaw 1212 = .ok (.istore 5, 2) := by decide +kernel
theorem dLaw_1214 : decode cLaw 1214 = .ok (.aload_n 2, 1) := by decide +kernel
theorem dLaw_1215 : decode cLaw 1215 = .ok (.aload_n 0, 1) := by decide +kernel
theorem dLaw_1216 : decode cLaw 1216 = .ok (.iload 4, 2) := by decide +kernel
theorem dLaw_1218 : decode cLaw 1218 = .ok (.iconst 1, 1) := by decide +kernel
theorem dLaw_1219 : decode cLaw 1219 = .ok (.iadd, 1) := by decide +kernel
theorem dLaw_1220 : decode cLaw 1220 = .ok (.iaload, 1) := by decide +kernel
theorem dLaw_1221 : decode cLaw 1221 = .ok (.invokevirtual 157, 3) := by decide +kernel
theorem dLaw_1224 : decode cLaw 1224 = .ok (.istore 6, 2) := by decide +kernel
theorem dLaw_1226 : decode cLaw 1226 = .ok (.aload_n 2, 1) := by decide +kernel
theorem dLaw_1227 : decode cLaw 1227 = .ok (.invokevirtual 83, 3) := by decide +kernel
theorem dLaw_1230 : decode cLaw 1230 = .ok (.iload 5, 2) := by decide +kernel
theorem dLaw_1232 : decode cLaw 1232 = .ok (.if_icmp .eq 5, 3) := by decide +kernel
theorem dLaw_1235 : decode cLaw 1235 = .ok (.iconst 0, 1) := by decide +kernel
theorem dLaw_1236 : decode cLaw 1236 = .ok (.ireturn, 1) := by decide +kernel
theorem dLaw_1237 : decode cLaw 1237 = .ok (.iload 5, 2) := by decide +kernel
theorem dLaw_1239 : decode cLaw 1239 = .ok (.ifCond .ne 15, 3) := by decide +kernel
