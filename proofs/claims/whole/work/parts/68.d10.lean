theorem dL_1034 : decode code 1034 = .ok (.iconst 1, 1) := by decide +kernel
theorem dL_1035 : decode code 1035 = .ok (.iadd, 1) := by decide +kernel
theorem dL_1036 : decode code 1036 = .ok (.iaload, 1) := by decide +kernel
theorem dL_1037 : decode code 1037 = .ok (.aload_n 0, 1) := by decide +kernel
theorem dL_1038 : decode code 1038 = .ok (.iload_n 3, 1) := by decide +kernel
theorem dL_1039 : decode code 1039 = .ok (.iconst 2, 1) := by decide +kernel
theorem dL_1040 : decode code 1040 = .ok (.iadd, 1) := by decide +kernel
theorem dL_1041 : decode code 1041 = .ok (.iaload, 1) := by decide +kernel
theorem dL_1042 : decode code 1042 = .ok (.invokevirtual 112, 3) := by decide +kernel
theorem dL_1045 : decode code 1045 = .ok (.aload_n 2, 1) := by decide +kernel
theorem dL_1046 : decode code 1046 = .ok (.aload_n 0, 1) := by decide +kernel
theorem dL_1047 : decode code 1047 = .ok (.iload_n 3, 1) := by decide +kernel
theorem dL_1048 : decode code 1048 = .ok (.iconst 1, 1) := by decide +kernel
theorem dL_1049 : decode code 1049 = .ok (.iadd, 1) := by decide +kernel
theorem dL_1050 : decode code 1050 = .ok (.iaload, 1) := by decide +kernel
theorem dL_1051 : decode code 1051 = .ok (.aload_n 0, 1) := by decide +kernel
theorem dL_1052 : decode code 1052 = .ok (.iload_n 3, 1) := by decide +kernel
theorem dL_1053 : decode code 1053 = .ok (.iconst 2, 1) := by decide +kernel
theorem dL_1054 : decode code 1054 = .ok (.iadd, 1) := by decide +kernel
theorem dL_1055 : decode code 1055 = .ok (.iaload, 1) := by decide +kernel
theorem dL_1056 : decode code 1056 = .ok (.invokevirtual 115, 3) := by decide +kernel
theorem dL_1059 : decode code 1059 = .ok (.if_icmp .eq 506, 3) := by decide +kernel
theorem dL_1062 : decode code 1062 = .ok (.iconst 0, 1) := by decide +kernel
theorem dL_1063 : decode code 1063 = .ok (.ireturn, 1) := by decide +kernel
theorem dL_1064 : decode code 1064 = .ok (.aload_n 1, 1) := by decide +kernel
theorem dL_1065 : decode code 1065 = .ok (.aload_n 0, 1) := by decide +kernel
theorem dL_1066 : decode code 1066 = .ok (.iload_n 3, 1) := by decide +kernel
theorem dL_1067 : decode code 1067 = .ok (.iconst 1, 1) := by decide +kernel
theorem dL_1068 : decode code 1068 = .ok (.iadd, 1) := by decide +kernel
theorem dL_1069 : decode code 1069 = .ok (.iaload, 1) := by decide +kernel
theorem dL_1070 : decode code 1070 = .ok (.aload_n 0, 1) := by decide +kernel
theorem dL_1071 : decode code 1071 = .ok (.iload_n 3, 1) := by decide +kernel
theorem dL_1072 : decode code 1072 = .ok (.iconst 2, 1) := by decide +kernel
theorem dL_1073 : decode code 1073 = .ok (.iadd, 1) := by decide +kernel
theorem dL_1074 : decode code 1074 = .ok (.iaload, 1) := by decide +kernel
theorem dL_1075 : decode code 1075 = .ok (.invokevirtual 116, 3) := by decide +kernel
theorem dL_1078 : decode code 1078 = .ok (.aload_n 2, 1) := by decide +kernel
theorem dL_1079 : decode code 1079 = .ok (.aload_n 0, 1) := by decide +kernel
theorem dL_1080 : decode code 1080 = .ok (.iload_n 3, 1) := by decide +kernel
theorem dL_1081 : decode code 1081 = .ok (.iconst 1, 1) := by decide +kernel
theorem dL_1082 : decode code 1082 = .ok (.iadd, 1) := by decide +kernel
theorem dL_1083 : decode code 1083 = .ok (.iaload, 1) := by decide +kernel
theorem dL_1084 : decode code 1084 = .ok (.aload_n 0, 1) := by decide +kernel
theorem dL_1085 : decode code 1085 = .ok (.iload_n 3, 1) := by decide +kernel
theorem dL_1086 : decode code 1086 = .ok (.iconst 2, 1) := by decide +kernel
theorem dL_1087 : decode code 1087 = .ok (.iadd, 1) := by decide +kernel
theorem dL_1088 : decode code 1088 = .ok (.iaload, 1) := by decide +kernel
theorem dL_1089 : decode code 1089 = .ok (.invokevirtual 119, 3) := by decide +kernel
theorem dL_1092 : decode code 1092 = .ok (.if_icmp .eq 473, 3) := by decide +kernel
theorem dL_1095 : decode code 1095 = .ok (.iconst 0, 1) := by decide +kernel
theorem dL_1096 : decode code 1096 = .ok (.ireturn, 1) := by decide +kernel
theorem dL_1097 : decode code 1097 = .ok (.aload_n 1, 1) := by decide +kernel
theorem dL_1098 : decode code 1098 = .ok (.aload_n 0, 1) := by decide +kernel
theorem dL_1099 : decode code 1099 = .ok (.iload_n 3, 1) := by decide +kernel
theorem dL_1100 : decode code 1100 = .ok (.iconst 1, 1) := by decide +kernel
theorem dL_1101 : decode code 1101 = .ok (.iadd, 1) := by decide +kernel
theorem dL_1102 : decode code 1102 = .ok (.iaload, 1) := by decide +kernel
theorem dL_1103 : decode code 1103 = .ok (.aload_n 0, 1) := by decide +kernel
theorem dL_1104 : decode code 1104 = .ok (.iload_n 3, 1) := by decide +kernel
theorem dL_1105 : decode code 1105 = .ok (.iconst 2, 1) := by decide +kernel
theorem dL_1106 : decode code 1106 = .ok (.iadd, 1) := by decide +kernel
theorem dL_1107 : decode code 1107 = .ok (.iaload, 1) := by decide +kernel
theorem dL_1108 : decode code 1108 = .ok (.invokevirtual 120, 3) := by decide +kernel
theorem dL_1111 : decode code 1111 = .ok (.aload_n 2, 1) := by decide +kernel
theorem dL_1112 : decode code 1112 = .ok (.aload_n 0, 1) := by decide +kernel
theorem dL_1113 : decode code 1113 = .ok (.iload_n 3, 1) := by decide +kernel
theorem dL_1114 : decode code 1114 = .ok (.iconst 1, 1) := by decide +kernel
theorem dL_1115 : decode code 1115 = .ok (.iadd, 1) := by decide +kernel
theorem dL_1116 : decode code 1116 = .ok (.iaload, 1) := by decide +kernel
theorem dL_1117 : decode code 1117 = .ok (.aload_n 0, 1) := by decide +kernel
