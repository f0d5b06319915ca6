section WR
variable {p : Program} {l : Launch} {e : Env} {R : Room} {s : State} {m : MethodId} {args : Array Value} {below : List Frame} {meth : Method} {c : Code} {H : Heap} {locs : List Loc} {cells slots : Nat} {Q : State → Prop}
variable {pc : Nat} {ls : Array Slot} {rest : List Value} {G : GG} {ws : va_W} {A : Nat → Prop} {y0 : MethodName} {b0 : ByteArray} {mL0 : Nat} {rt0 : Option FieldType} {a : Nat} {H0 : Heap}
theorem dL_law_974 : decode cL_law 974 = .ok (.aload_n 1, 1) := by decide +kernel
theorem dL_law_975 : decode cL_law 975 = .ok (.aload_n 0, 1) := by decide +kernel
theorem dL_law_976 : decode cL_law 976 = .ok (.iload_n 3, 1) := by decide +kernel
theorem dL_law_977 : decode cL_law 977 = .ok (.iconst 1, 1) := by decide +kernel
theorem dL_law_978 : decode cL_law 978 = .ok (.iadd, 1) := by decide +kernel
theorem dL_law_979 : decode cL_law 979 = .ok (.iaload, 1) := by decide +kernel
theorem dL_law_980 : decode cL_law 980 = .ok (.aload_n 0, 1) := by decide +kernel
theorem dL_law_981 : decode cL_law 981 = .ok (.iload_n 3, 1) := by decide +kernel
theorem dL_law_982 : decode cL_law 982 = .ok (.iconst 2, 1) := by decide +kernel
theorem dL_law_983 : decode cL_law 983 = .ok (.iadd, 1) := by decide +kernel
theorem dL_law_984 : decode cL_law 984 = .ok (.iaload, 1) := by decide +kernel
theorem dL_law_985 : decode cL_law 985 = .ok (.aload_n 0, 1) := by decide +kernel
theorem dL_law_986 : decode cL_law 986 = .ok (.iload_n 3, 1) := by decide +kernel
theorem dL_law_987 : decode cL_law 987 = .ok (.iconst 3, 1) := by decide +kernel
theorem dL_law_988 : decode cL_law 988 = .ok (.iadd, 1) := by decide +kernel
theorem dL_law_989 : decode cL_law 989 = .ok (.iaload, 1) := by decide +kernel
theorem dL_law_990 : decode cL_law 990 = .ok (.aload_n 0, 1) := by decide +kernel
theorem dL_law_991 : decode cL_law 991 = .ok (.iload_n 3, 1) := by decide +kernel
theorem dL_law_992 : decode cL_law 992 = .ok (.iconst 4, 1) := by decide +kernel
theorem dL_law_993 : decode cL_law 993 = .ok (.iadd, 1) := by decide +kernel
theorem dL_law_994 : decode cL_law 994 = .ok (.iaload, 1) := by decide +kernel
theorem dL_law_995 : decode cL_law 995 = .ok (.aload_n 0, 1) := by decide +kernel
theorem dL_law_996 : decode cL_law 996 = .ok (.iload_n 3, 1) := by decide +kernel
theorem dL_law_997 : decode cL_law 997 = .ok (.iconst 5, 1) := by decide +kernel
theorem dL_law_998 : decode cL_law 998 = .ok (.iadd, 1) := by decide +kernel
theorem dL_law_999 : decode cL_law 999 = .ok (.iaload, 1) := by decide +kernel
theorem dL_law_1000 : decode cL_law 1000 = .ok (.ifCond .eq 7, 3) := by decide +kernel
theorem dL_law_1007 : decode cL_law 1007 = .ok (.iconst 0, 1) := by decide +kernel
theorem dL_law_1008 : decode cL_law 1008 = .ok (.aload_n 0, 1) := by decide +kernel
theorem dL_law_1009 : decode cL_law 1009 = .ok (.iload_n 3, 1) := by decide +kernel
theorem dL_law_1010 : decode cL_law 1010 = .ok (.bipush 6, 2) := by decide +kernel
theorem dL_law_1012 : decode cL_law 1012 = .ok (.iadd, 1) := by decide +kernel
theorem dL_law_1013 : decode cL_law 1013 = .ok (.iaload, 1) := by decide +kernel
theorem dL_law_1014 : decode cL_law 1014 = .ok (.invokevirtual 103, 3) := by decide +kernel
theorem m_754 : Cond.code yX11_saying cX11_saying 8 (some .int) ∈ BW := iB_BW40 _ (List.mem_of_getElem? (i := 14) rfl)
theorem pd_36 : (parseMethodDescriptor "(IIIIZI)I").map (fun d => d.parameters.length) = some 6 := by decide +kernel
theorem m_751 : Cond.methodLink RL 103 yX11_saying ∈ BW := iB_BW40 _ (List.mem_of_getElem? (i := 11) rfl)
theorem m_752 : Cond.instanceMethod yX11_saying ∈ BW := iB_BW40 _ (List.mem_of_getElem? (i := 12) rfl)
theorem m_753 : Cond.selects RX11 yX11_saying yX11_saying ∈ BW := iB_BW40 _ (List.mem_of_getElem? (i := 13) rfl)
theorem si_L_103 : SV RL RX11 103 yX11_saying cX11_saying 8 (some .int) 6 := ⟨⟨m_751, m_752, m_753, m_102, m_754⟩, rfl, nK_RX11.1, nK_RX11.2, pd_36⟩
theorem dL_law_1017 : decode cL_law 1017 = .ok (.pop, 1) := by decide +kernel
theorem dL_law_1018 : decode cL_law 1018 = .ok (.aload_n 2, 1) := by decide +kernel
theorem dL_law_1019 : decode cL_law 1019 = .ok (.aload_n 0, 1) := by decide +kernel
theorem dL_law_1020 : decode cL_law 1020 = .ok (.iload_n 3, 1) := by decide +kernel
theorem dL_law_1021 : decode cL_law 1021 = .ok (.iconst 1, 1) := by decide +kernel
theorem dL_law_1022 : decode cL_law 1022 = .ok (.iadd, 1) := by decide +kernel
theorem dL_law_1023 : decode cL_law 1023 = .ok (.iaload, 1) := by decide +kernel
theorem dL_law_1024 : decode cL_law 1024 = .ok (.aload_n 0, 1) := by decide +kernel
theorem dL_law_1025 : decode cL_law 1025 = .ok (.iload_n 3, 1) := by decide +kernel
theorem dL_law_1026 : decode cL_law 1026 = .ok (.iconst 2, 1) := by decide +kernel
theorem dL_law_1027 : decode cL_law 1027 = .ok (.iadd, 1) := by decide +kernel
theorem dL_law_1028 : decode cL_law 1028 = .ok (.iaload, 1) := by decide +kernel
theorem dL_law_1029 : decode cL_law 1029 = .ok (.aload_n 0, 1) := by decide +kernel
theorem dL_law_1030 : decode cL_law 1030 = .ok (.iload_n 3, 1) := by decide +kernel
theorem dL_law_1031 : decode cL_law 1031 = .ok (.iconst 3, 1) := by decide +kernel
theorem dL_law_1032 : decode cL_law 1032 = .ok (.iadd, 1) := by decide +kernel
theorem dL_law_1033 : decode cL_law 1033 = .ok (.iaload, 1) := by decide +kernel
theorem dL_law_1034 : decode cL_law 1034 = .ok (.aload_n 0, 1) := by decide +kernel
theorem dL_law_1035 : decode cL_law 1035 = .ok (.iload_n 3, 1) := by decide +kernel
theorem dL_law_1036 : decode cL_law 1036 = .ok (.iconst 4, 1) := by decide +kernel
theorem dL_law_1037 : decode cL_law 1037 = .ok (.iadd, 1) := by decide +kernel
theorem dL_law_1038 : decode cL_law 1038 = .ok (.iaload, 1) := by decide +kernel
theorem dL_law_1039 : decode cL_law 1039 = .ok (.aload_n 0, 1) := by decide +kernel
theorem dL_law_1040 : decode cL_law 1040 = .ok (.iload_n 3, 1) := by decide +kernel
theorem dL_law_1041 : decode cL_law 1041 = .ok (.iconst 5, 1) := by decide +kernel
theorem dL_law_1042 : decode cL_law 1042 = .ok (.iadd, 1) := by decide +kernel
theorem dL_law_1043 : decode cL_law 1043 = .ok (.iaload, 1) := by decide +kernel
theorem dL_law_1044 : decode cL_law 1044 = .ok (.ifCond .eq 7, 3) := by decide +kernel
theorem dL_law_1051 : decode cL_law 1051 = .ok (.iconst 0, 1) := by decide +kernel
theorem dL_law_1052 : decode cL_law 1052 = .ok (.aload_n 0, 1) := by decide +kernel
theorem dL_law_1053 : decode cL_law 1053 = .ok (.iload_n 3, 1) := by decide +kernel
theorem dL_law_1054 : decode cL_law 1054 = .ok (.bipush 6, 2) := by decide +kernel
theorem dL_law_1056 : decode cL_law 1056 = .ok (.iadd, 1) := by decide +kernel
theorem dL_law_1057 : decode cL_law 1057 = .ok (.iaload, 1) := by decide +kernel
theorem dL_law_1058 : decode cL_law 1058 = .ok (.invokevirtual 107, 3) := by decide +kernel
theorem m_1284 : Cond.code yX12_saying_ cX12_saying_ 10 (some .int) ∈ BW := iB_BW68 _ (List.mem_of_getElem? (i := 12) rfl)
theorem m_1281 : Cond.methodLink RL 107 yX12_saying_ ∈ BW := iB_BW68 _ (List.mem_of_getElem? (i := 9) rfl)
theorem m_1282 : Cond.instanceMethod yX12_saying_ ∈ BW := iB_BW68 _ (List.mem_of_getElem? (i := 10) rfl)
theorem m_1283 : Cond.selects RX12 yX12_saying_ yX12_saying_ ∈ BW := iB_BW68 _ (List.mem_of_getElem? (i := 11) rfl)
theorem si_L_107 : SV RL RX12 107 yX12_saying_ cX12_saying_ 10 (some .int) 6 := ⟨⟨m_1281, m_1282, m_1283, m_115, m_1284⟩, rfl, nK_RX12.1, nK_RX12.2, pd_36⟩
theorem dL_law_1061 : decode cL_law 1061 = .ok (.pop, 1) := by decide +kernel
theorem dL_law_1062 : decode cL_law 1062 = .ok (.goto 656, 3) := by decide +kernel
theorem dL_law_1003 : decode cL_law 1003 = .ok (.iconst 1, 1) := by decide +kernel
theorem dL_law_1004 : decode cL_law 1004 = .ok (.goto 4, 3) := by decide +kernel
theorem dL_law_1047 : decode cL_law 1047 = .ok (.iconst 1, 1) := by decide +kernel
theorem dL_law_1048 : decode cL_law 1048 = .ok (.goto 4, 3) := by decide +kernel
theorem dL_law_1065 : decode cL_law 1065 = .ok (.aload_n 1, 1) := by decide +kernel
theorem dL_law_1066 : decode cL_law 1066 = .ok (.aload_n 0, 1) := by decide +kernel
theorem dL_law_1067 : decode cL_law 1067 = .ok (.iload_n 3, 1) := by decide +kernel
theorem dL_law_1068 : decode cL_law 1068 = .ok (.iconst 1, 1) := by decide +kernel
theorem dL_law_1069 : decode cL_law 1069 = .ok (.iadd, 1) := by decide +kernel
theorem dL_law_1070 : decode cL_law 1070 = .ok (.iaload, 1) := by decide +kernel
theorem dL_law_1071 : decode cL_law 1071 = .ok (.aload_n 0, 1) := by decide +kernel
theorem dL_law_1072 : decode cL_law 1072 = .ok (.iload_n 3, 1) := by decide +kernel
theorem dL_law_1073 : decode cL_law 1073 = .ok (.iconst 2, 1) := by decide +kernel
theorem dL_law_1074 : decode cL_law 1074 = .ok (.iadd, 1) := by decide +kernel
theorem dL_law_1075 : decode cL_law 1075 = .ok (.iaload, 1) := by decide +kernel
theorem dL_law_1076 : decode cL_law 1076 = .ok (.aload_n 0, 1) := by decide +kernel
theorem dL_law_1077 : decode cL_law 1077 = .ok (.iload_n 3, 1) := by decide +kernel
theorem dL_law_1078 : decode cL_law 1078 = .ok (.iconst 3, 1) := by decide +kernel
theorem dL_law_1079 : decode cL_law 1079 = .ok (.iadd, 1) := by decide +kernel
theorem dL_law_1080 : decode cL_law 1080 = .ok (.iaload, 1) := by decide +kernel
theorem dL_law_1081 : decode cL_law 1081 = .ok (.invokevirtual 108, 3) := by decide +kernel
theorem m_758 : Cond.code yX11_quarrel cX11_quarrel 5 (some .int) ∈ BW := iB_BW40 _ (List.mem_of_getElem? (i := 18) rfl)
theorem m_755 : Cond.methodLink RL 108 yX11_quarrel ∈ BW := iB_BW40 _ (List.mem_of_getElem? (i := 15) rfl)
theorem m_756 : Cond.instanceMethod yX11_quarrel ∈ BW := iB_BW40 _ (List.mem_of_getElem? (i := 16) rfl)
theorem m_757 : Cond.selects RX11 yX11_quarrel yX11_quarrel ∈ BW := iB_BW40 _ (List.mem_of_getElem? (i := 17) rfl)
theorem si_L_108 : SV RL RX11 108 yX11_quarrel cX11_quarrel 5 (some .int) 3 := ⟨⟨m_755, m_756, m_757, m_102, m_758⟩, rfl, nK_RX11.1, nK_RX11.2, pd_19⟩
theorem dL_law_1084 : decode cL_law 1084 = .ok (.pop, 1) := by decide +kernel
theorem dL_law_1085 : decode cL_law 1085 = .ok (.aload_n 2, 1) := by decide +kernel
theorem dL_law_1086 : decode cL_law 1086 = .ok (.aload_n 0, 1) := by decide +kernel
theorem dL_law_1087 : decode cL_law 1087 = .ok (.iload_n 3, 1) := by decide +kernel
theorem dL_law_1088 : decode cL_law 1088 = .ok (.iconst 1, 1) := by decide +kernel
theorem dL_law_1089 : decode cL_law 1089 = .ok (.iadd, 1) := by decide +kernel
theorem dL_law_1090 : decode cL_law 1090 = .ok (.iaload, 1) := by decide +kernel
theorem dL_law_1091 : decode cL_law 1091 = .ok (.aload_n 0, 1) := by decide +kernel
theorem dL_law_1092 : decode cL_law 1092 = .ok (.iload_n 3, 1) := by decide +kernel
theorem dL_law_1093 : decode cL_law 1093 = .ok (.iconst 2, 1) := by decide +kernel
theorem dL_law_1094 : decode cL_law 1094 = .ok (.iadd, 1) := by decide +kernel
theorem dL_law_1095 : decode cL_law 1095 = .ok (.iaload, 1) := by decide +kernel
theorem dL_law_1096 : decode cL_law 1096 = .ok (.aload_n 0, 1) := by decide +kernel
theorem dL_law_1097 : decode cL_law 1097 = .ok (.iload_n 3, 1) := by decide +kernel
theorem dL_law_1098 : decode cL_law 1098 = .ok (.iconst 3, 1) := by decide +kernel
theorem dL_law_1099 : decode cL_law 1099 = .ok (.iadd, 1) := by decide +kernel
theorem dL_law_1100 : decode cL_law 1100 = .ok (.iaload, 1) := by decide +kernel
theorem dL_law_1101 : decode cL_law 1101 = .ok (.invokevirtual 111, 3) := by decide +kernel
theorem m_1288 : Cond.code yX12_quarrel cX12_quarrel 10 (some .int) ∈ BW := iB_BW68 _ (List.mem_of_getElem? (i := 16) rfl)
theorem m_1285 : Cond.methodLink RL 111 yX12_quarrel ∈ BW := iB_BW68 _ (List.mem_of_getElem? (i := 13) rfl)
theorem m_1286 : Cond.instanceMethod yX12_quarrel ∈ BW := iB_BW68 _ (List.mem_of_getElem? (i := 14) rfl)
theorem m_1287 : Cond.selects RX12 yX12_quarrel yX12_quarrel ∈ BW := iB_BW68 _ (List.mem_of_getElem? (i := 15) rfl)
theorem si_L_111 : SV RL RX12 111 yX12_quarrel cX12_quarrel 10 (some .int) 3 := ⟨⟨m_1285, m_1286, m_1287, m_115, m_1288⟩, rfl, nK_RX12.1, nK_RX12.2, pd_19⟩
theorem dL_law_1104 : decode cL_law 1104 = .ok (.pop, 1) := by decide +kernel
theorem dL_law_1105 : decode cL_law 1105 = .ok (.goto 613, 3) := by decide +kernel
theorem dL_law_1108 : decode cL_law 1108 = .ok (.aload_n 1, 1) := by decide +kernel
theorem dL_law_1109 : decode cL_law 1109 = .ok (.invokevirtual 112, 3) := by decide +kernel
theorem m_788 : Cond.code yX11_impossible cX11_impossible 2 (some .int) ∈ BW := iB_BW42 _ (List.mem_of_getElem? (i := 17) rfl)
theorem m_785 : Cond.methodLink RL 112 yX11_impossible ∈ BW := iB_BW42 _ (List.mem_of_getElem? (i := 14) rfl)
theorem m_786 : Cond.instanceMethod yX11_impossible ∈ BW := iB_BW42 _ (List.mem_of_getElem? (i := 15) rfl)
theorem m_787 : Cond.selects RX11 yX11_impossible yX11_impossible ∈ BW := iB_BW42 _ (List.mem_of_getElem? (i := 16) rfl)
theorem si_L_112 : SV RL RX11 112 yX11_impossible cX11_impossible 2 (some .int) 0 := ⟨⟨m_785, m_786, m_787, m_102, m_788⟩, rfl, nK_RX11.1, nK_RX11.2, pd_1⟩
theorem dL_law_1112 : decode cL_law 1112 = .ok (.pop, 1) := by decide +kernel
theorem dL_law_1113 : decode cL_law 1113 = .ok (.aload_n 2, 1) := by decide +kernel
theorem dL_law_1114 : decode cL_law 1114 = .ok (.invokevirtual 115, 3) := by decide +kernel
theorem m_1298 : Cond.code yX12_impossible cX12_impossible 6 (some .int) ∈ BW := iB_BW69 _ (List.mem_of_getElem? (i := 6) rfl)
theorem m_1295 : Cond.methodLink RL 115 yX12_impossible ∈ BW := iB_BW69 _ (List.mem_of_getElem? (i := 3) rfl)
theorem m_1296 : Cond.instanceMethod yX12_impossible ∈ BW := iB_BW69 _ (List.mem_of_getElem? (i := 4) rfl)
theorem m_1297 : Cond.selects RX12 yX12_impossible yX12_impossible ∈ BW := iB_BW69 _ (List.mem_of_getElem? (i := 5) rfl)
theorem si_L_115 : SV RL RX12 115 yX12_impossible cX12_impossible 6 (some .int) 0 := ⟨⟨m_1295, m_1296, m_1297, m_115, m_1298⟩, rfl, nK_RX12.1, nK_RX12.2, pd_1⟩
theorem dL_law_1117 : decode cL_law 1117 = .ok (.pop, 1) := by decide +kernel
theorem dL_law_1118 : decode cL_law 1118 = .ok (.goto 600, 3) := by decide +kernel
theorem dL_law_1121 : decode cL_law 1121 = .ok (.aload_n 1, 1) := by decide +kernel
theorem dL_law_1122 : decode cL_law 1122 = .ok (.aload_n 0, 1) := by decide +kernel
theorem dL_law_1123 : decode cL_law 1123 = .ok (.iload_n 3, 1) := by decide +kernel
theorem dL_law_1124 : decode cL_law 1124 = .ok (.iconst 1, 1) := by decide +kernel
theorem dL_law_1125 : decode cL_law 1125 = .ok (.iadd, 1) := by decide +kernel
theorem dL_law_1126 : decode cL_law 1126 = .ok (.iaload, 1) := by decide +kernel
theorem dL_law_1127 : decode cL_law 1127 = .ok (.aload_n 0, 1) := by decide +kernel
theorem dL_law_1128 : decode cL_law 1128 = .ok (.iload_n 3, 1) := by decide +kernel
theorem dL_law_1129 : decode cL_law 1129 = .ok (.iconst 2, 1) := by decide +kernel
theorem dL_law_1130 : decode cL_law 1130 = .ok (.iadd, 1) := by decide +kernel
theorem dL_law_1131 : decode cL_law 1131 = .ok (.iaload, 1) := by decide +kernel
theorem dL_law_1132 : decode cL_law 1132 = .ok (.aload_n 0, 1) := by decide +kernel
theorem dL_law_1133 : decode cL_law 1133 = .ok (.iload_n 3, 1) := by decide +kernel
theorem dL_law_1134 : decode cL_law 1134 = .ok (.iconst 3, 1) := by decide +kernel
theorem dL_law_1135 : decode cL_law 1135 = .ok (.iadd, 1) := by decide +kernel
theorem dL_law_1136 : decode cL_law 1136 = .ok (.iaload, 1) := by decide +kernel
theorem dL_law_1137 : decode cL_law 1137 = .ok (.aload_n 0, 1) := by decide +kernel
theorem dL_law_1138 : decode cL_law 1138 = .ok (.iload_n 3, 1) := by decide +kernel
theorem dL_law_1139 : decode cL_law 1139 = .ok (.iconst 4, 1) := by decide +kernel
theorem dL_law_1140 : decode cL_law 1140 = .ok (.iadd, 1) := by decide +kernel
theorem dL_law_1141 : decode cL_law 1141 = .ok (.iaload, 1) := by decide +kernel
theorem dL_law_1142 : decode cL_law 1142 = .ok (.invokevirtual 116, 3) := by decide +kernel
theorem m_796 : Cond.code yX11_finding cX11_finding 6 (some .int) ∈ BW := iB_BW43 _ (List.mem_of_getElem? (i := 5) rfl)
theorem m_793 : Cond.methodLink RL 116 yX11_finding ∈ BW := iB_BW43 _ (List.mem_of_getElem? (i := 2) rfl)
theorem m_794 : Cond.instanceMethod yX11_finding ∈ BW := iB_BW43 _ (List.mem_of_getElem? (i := 3) rfl)
theorem m_795 : Cond.selects RX11 yX11_finding yX11_finding ∈ BW := iB_BW43 _ (List.mem_of_getElem? (i := 4) rfl)
theorem si_L_116 : SV RL RX11 116 yX11_finding cX11_finding 6 (some .int) 4 := ⟨⟨m_793, m_794, m_795, m_102, m_796⟩, rfl, nK_RX11.1, nK_RX11.2, pd_17⟩
theorem dL_law_1145 : decode cL_law 1145 = .ok (.aload_n 2, 1) := by decide +kernel
theorem dL_law_1146 : decode cL_law 1146 = .ok (.aload_n 0, 1) := by decide +kernel
theorem dL_law_1147 : decode cL_law 1147 = .ok (.iload_n 3, 1) := by decide +kernel
theorem dL_law_1148 : decode cL_law 1148 = .ok (.iconst 1, 1) := by decide +kernel
theorem dL_law_1149 : decode cL_law 1149 = .ok (.iadd, 1) := by decide +kernel
theorem dL_law_1150 : decode cL_law 1150 = .ok (.iaload, 1) := by decide +kernel
theorem dL_law_1151 : decode cL_law 1151 = .ok (.aload_n 0, 1) := by decide +kernel
theorem dL_law_1152 : decode cL_law 1152 = .ok (.iload_n 3, 1) := by decide +kernel
theorem dL_law_1153 : decode cL_law 1153 = .ok (.iconst 2, 1) := by decide +kernel
theorem dL_law_1154 : decode cL_law 1154 = .ok (.iadd, 1) := by decide +kernel
theorem dL_law_1155 : decode cL_law 1155 = .ok (.iaload, 1) := by decide +kernel
theorem dL_law_1156 : decode cL_law 1156 = .ok (.aload_n 0, 1) := by decide +kernel
theorem dL_law_1157 : decode cL_law 1157 = .ok (.iload_n 3, 1) := by decide +kernel
theorem dL_law_1158 : decode cL_law 1158 = .ok (.iconst 3, 1) := by decide +kernel
theorem dL_law_1159 : decode cL_law 1159 = .ok (.iadd, 1) := by decide +kernel
theorem dL_law_1160 : decode cL_law 1160 = .ok (.iaload, 1) := by decide +kernel
theorem dL_law_1161 : decode cL_law 1161 = .ok (.aload_n 0, 1) := by decide +kernel
theorem dL_law_1162 : decode cL_law 1162 = .ok (.iload_n 3, 1) := by decide +kernel
theorem dL_law_1163 : decode cL_law 1163 = .ok (.iconst 4, 1) := by decide +kernel
theorem dL_law_1164 : decode cL_law 1164 = .ok (.iadd, 1) := by decide +kernel
theorem dL_law_1165 : decode cL_law 1165 = .ok (.iaload, 1) := by decide +kernel
theorem dL_law_1166 : decode cL_law 1166 = .ok (.invokevirtual 119, 3) := by decide +kernel
theorem m_1302 : Cond.code yX12_finding cX12_finding 7 (some .int) ∈ BW := iB_BW69 _ (List.mem_of_getElem? (i := 10) rfl)
theorem m_1299 : Cond.methodLink RL 119 yX12_finding ∈ BW := iB_BW69 _ (List.mem_of_getElem? (i := 7) rfl)
theorem m_1300 : Cond.instanceMethod yX12_finding ∈ BW := iB_BW69 _ (List.mem_of_getElem? (i := 8) rfl)
theorem m_1301 : Cond.selects RX12 yX12_finding yX12_finding ∈ BW := iB_BW69 _ (List.mem_of_getElem? (i := 9) rfl)
theorem si_L_119 : SV RL RX12 119 yX12_finding cX12_finding 7 (some .int) 4 := ⟨⟨m_1299, m_1300, m_1301, m_115, m_1302⟩, rfl, nK_RX12.1, nK_RX12.2, pd_17⟩
theorem dL_law_1169 : decode cL_law 1169 = .ok (.if_icmp .eq 549, 3) := by decide +kernel
theorem dL_law_1174 : decode cL_law 1174 = .ok (.aload_n 1, 1) := by decide +kernel
theorem dL_law_1175 : decode cL_law 1175 = .ok (.aload_n 0, 1) := by decide +kernel
theorem dL_law_1176 : decode cL_law 1176 = .ok (.iload_n 3, 1) := by decide +kernel
theorem dL_law_1177 : decode cL_law 1177 = .ok (.iconst 1, 1) := by decide +kernel
theorem dL_law_1178 : decode cL_law 1178 = .ok (.iadd, 1) := by decide +kernel
theorem dL_law_1179 : decode cL_law 1179 = .ok (.iaload, 1) := by decide +kernel
theorem dL_law_1180 : decode cL_law 1180 = .ok (.aload_n 0, 1) := by decide +kernel
theorem dL_law_1181 : decode cL_law 1181 = .ok (.iload_n 3, 1) := by decide +kernel
theorem dL_law_1182 : decode cL_law 1182 = .ok (.iconst 2, 1) := by decide +kernel
theorem dL_law_1183 : decode cL_law 1183 = .ok (.iadd, 1) := by decide +kernel
theorem dL_law_1184 : decode cL_law 1184 = .ok (.iaload, 1) := by decide +kernel
theorem dL_law_1185 : decode cL_law 1185 = .ok (.invokevirtual 120, 3) := by decide +kernel
theorem m_800 : Cond.code yX11_findingOf cX11_findingOf 4 (some .int) ∈ BW := iB_BW43 _ (List.mem_of_getElem? (i := 9) rfl)
theorem m_797 : Cond.methodLink RL 120 yX11_findingOf ∈ BW := iB_BW43 _ (List.mem_of_getElem? (i := 6) rfl)
theorem m_798 : Cond.instanceMethod yX11_findingOf ∈ BW := iB_BW43 _ (List.mem_of_getElem? (i := 7) rfl)
theorem m_799 : Cond.selects RX11 yX11_findingOf yX11_findingOf ∈ BW := iB_BW43 _ (List.mem_of_getElem? (i := 8) rfl)
theorem si_L_120 : SV RL RX11 120 yX11_findingOf cX11_findingOf 4 (some .int) 2 := ⟨⟨m_797, m_798, m_799, m_102, m_800⟩, rfl, nK_RX11.1, nK_RX11.2, pd_2⟩
theorem dL_law_1188 : decode cL_law 1188 = .ok (.pop, 1) := by decide +kernel
theorem dL_law_1189 : decode cL_law 1189 = .ok (.aload_n 2, 1) := by decide +kernel
theorem dL_law_1190 : decode cL_law 1190 = .ok (.aload_n 0, 1) := by decide +kernel
theorem dL_law_1191 : decode cL_law 1191 = .ok (.iload_n 3, 1) := by decide +kernel
theorem dL_law_1192 : decode cL_law 1192 = .ok (.iconst 1, 1) := by decide +kernel
theorem dL_law_1193 : decode cL_law 1193 = .ok (.iadd, 1) := by decide +kernel
theorem dL_law_1194 : decode cL_law 1194 = .ok (.iaload, 1) := by decide +kernel
theorem dL_law_1195 : decode cL_law 1195 = .ok (.aload_n 0, 1) := by decide +kernel
theorem dL_law_1196 : decode cL_law 1196 = .ok (.iload_n 3, 1) := by decide +kernel
theorem dL_law_1197 : decode cL_law 1197 = .ok (.iconst 2, 1) := by decide +kernel
theorem dL_law_1198 : decode cL_law 1198 = .ok (.iadd, 1) := by decide +kernel
theorem dL_law_1199 : decode cL_law 1199 = .ok (.iaload, 1) := by decide +kernel
theorem dL_law_1200 : decode cL_law 1200 = .ok (.invokevirtual 123, 3) := by decide +kernel
theorem m_1306 : Cond.code yX12_findingOf cX12_findingOf 3 (some .int) ∈ BW := iB_BW69 _ (List.mem_of_getElem? (i := 14) rfl)
theorem m_1303 : Cond.methodLink RL 123 yX12_findingOf ∈ BW := iB_BW69 _ (List.mem_of_getElem? (i := 11) rfl)
theorem m_1304 : Cond.instanceMethod yX12_findingOf ∈ BW := iB_BW69 _ (List.mem_of_getElem? (i := 12) rfl)
theorem m_1305 : Cond.selects RX12 yX12_findingOf yX12_findingOf ∈ BW := iB_BW69 _ (List.mem_of_getElem? (i := 13) rfl)
theorem si_L_123 : SV RL RX12 123 yX12_findingOf cX12_findingOf 3 (some .int) 2 := ⟨⟨m_1303, m_1304, m_1305, m_115, m_1306⟩, rfl, nK_RX12.1, nK_RX12.2, pd_2⟩
theorem dL_law_1203 : decode cL_law 1203 = .ok (.pop, 1) := by decide +kernel
theorem dL_law_1204 : decode cL_law 1204 = .ok (.goto 514, 3) := by decide +kernel
theorem dL_law_1207 : decode cL_law 1207 = .ok (.aload_n 1, 1) := by decide +kernel
theorem dL_law_1208 : decode cL_law 1208 = .ok (.aload_n 0, 1) := by decide +kernel
theorem dL_law_1209 : decode cL_law 1209 = .ok (.iload_n 3, 1) := by decide +kernel
theorem dL_law_1210 : decode cL_law 1210 = .ok (.iconst 1, 1) := by decide +kernel
theorem dL_law_1211 : decode cL_law 1211 = .ok (.iadd, 1) := by decide +kernel
theorem dL_law_1212 : decode cL_law 1212 = .ok (.iaload, 1) := by decide +kernel
theorem dL_law_1213 : decode cL_law 1213 = .ok (.aload_n 0, 1) := by decide +kernel
theorem dL_law_1214 : decode cL_law 1214 = .ok (.iload_n 3, 1) := by decide +kernel
theorem dL_law_1215 : decode cL_law 1215 = .ok (.iconst 2, 1) := by decide +kernel
theorem dL_law_1216 : decode cL_law 1216 = .ok (.iadd, 1) := by decide +kernel
theorem dL_law_1217 : decode cL_law 1217 = .ok (.iaload, 1) := by decide +kernel
theorem dL_law_1218 : decode cL_law 1218 = .ok (.invokevirtual 124, 3) := by decide +kernel
theorem m_827 : Cond.code yX11_warn cX11_warn 4 (some .int) ∈ BW := iB_BW44 _ (List.mem_of_getElem? (i := 16) rfl)
theorem m_824 : Cond.methodLink RL 124 yX11_warn ∈ BW := iB_BW44 _ (List.mem_of_getElem? (i := 13) rfl)
theorem m_825 : Cond.instanceMethod yX11_warn ∈ BW := iB_BW44 _ (List.mem_of_getElem? (i := 14) rfl)
theorem m_826 : Cond.selects RX11 yX11_warn yX11_warn ∈ BW := iB_BW44 _ (List.mem_of_getElem? (i := 15) rfl)
theorem si_L_124 : SV RL RX11 124 yX11_warn cX11_warn 4 (some .int) 2 := ⟨⟨m_824, m_825, m_826, m_102, m_827⟩, rfl, nK_RX11.1, nK_RX11.2, pd_2⟩
theorem dL_law_1221 : decode cL_law 1221 = .ok (.pop, 1) := by decide +kernel
theorem dL_law_1222 : decode cL_law 1222 = .ok (.aload_n 2, 1) := by decide +kernel
theorem dL_law_1223 : decode cL_law 1223 = .ok (.aload_n 0, 1) := by decide +kernel
theorem dL_law_1224 : decode cL_law 1224 = .ok (.iload_n 3, 1) := by decide +kernel
theorem dL_law_1225 : decode cL_law 1225 = .ok (.iconst 1, 1) := by decide +kernel
theorem dL_law_1226 : decode cL_law 1226 = .ok (.iadd, 1) := by decide +kernel
theorem dL_law_1227 : decode cL_law 1227 = .ok (.iaload, 1) := by decide +kernel
theorem dL_law_1228 : decode cL_law 1228 = .ok (.aload_n 0, 1) := by decide +kernel
theorem dL_law_1229 : decode cL_law 1229 = .ok (.iload_n 3, 1) := by decide +kernel
theorem dL_law_1230 : decode cL_law 1230 = .ok (.iconst 2, 1) := by decide +kernel
theorem dL_law_1231 : decode cL_law 1231 = .ok (.iadd, 1) := by decide +kernel
theorem dL_law_1232 : decode cL_law 1232 = .ok (.iaload, 1) := by decide +kernel
theorem dL_law_1233 : decode cL_law 1233 = .ok (.invokevirtual 127, 3) := by decide +kernel
theorem m_1323 : Cond.code yX12_warn cX12_warn 4 (some .int) ∈ BW := iB_BW70 _ (List.mem_of_getElem? (i := 11) rfl)
theorem m_1320 : Cond.methodLink RL 127 yX12_warn ∈ BW := iB_BW70 _ (List.mem_of_getElem? (i := 8) rfl)
theorem m_1321 : Cond.instanceMethod yX12_warn ∈ BW := iB_BW70 _ (List.mem_of_getElem? (i := 9) rfl)
theorem m_1322 : Cond.selects RX12 yX12_warn yX12_warn ∈ BW := iB_BW70 _ (List.mem_of_getElem? (i := 10) rfl)
theorem si_L_127 : SV RL RX12 127 yX12_warn cX12_warn 4 (some .int) 2 := ⟨⟨m_1320, m_1321, m_1322, m_115, m_1323⟩, rfl, nK_RX12.1, nK_RX12.2, pd_2⟩
theorem dL_law_1236 : decode cL_law 1236 = .ok (.pop, 1) := by decide +kernel
theorem dL_law_1237 : decode cL_law 1237 = .ok (.goto 481, 3) := by decide +kernel
theorem dL_law_1240 : decode cL_law 1240 = .ok (.aload_n 1, 1) := by decide +kernel
theorem dL_law_1241 : decode cL_law 1241 = .ok (.aload_n 0, 1) := by decide +kernel
theorem dL_law_1242 : decode cL_law 1242 = .ok (.iload_n 3, 1) := by decide +kernel
theorem dL_law_1243 : decode cL_law 1243 = .ok (.iconst 1, 1) := by decide +kernel
theorem dL_law_1244 : decode cL_law 1244 = .ok (.iadd, 1) := by decide +kernel
theorem dL_law_1245 : decode cL_law 1245 = .ok (.iaload, 1) := by decide +kernel
theorem dL_law_1246 : decode cL_law 1246 = .ok (.aload_n 0, 1) := by decide +kernel
theorem dL_law_1247 : decode cL_law 1247 = .ok (.iload_n 3, 1) := by decide +kernel
theorem dL_law_1248 : decode cL_law 1248 = .ok (.iconst 2, 1) := by decide +kernel
theorem dL_law_1249 : decode cL_law 1249 = .ok (.iadd, 1) := by decide +kernel
theorem dL_law_1250 : decode cL_law 1250 = .ok (.iaload, 1) := by decide +kernel
theorem dL_law_1251 : decode cL_law 1251 = .ok (.invokevirtual 128, 3) := by decide +kernel
theorem m_831 : Cond.code yX11_question cX11_question 4 (some .int) ∈ BW := iB_BW45 _ (List.mem_of_getElem? (i := 0) rfl)
theorem m_828 : Cond.methodLink RL 128 yX11_question ∈ BW := iB_BW44 _ (List.mem_of_getElem? (i := 17) rfl)
theorem m_829 : Cond.instanceMethod yX11_question ∈ BW := iB_BW44 _ (List.mem_of_getElem? (i := 18) rfl)
theorem m_830 : Cond.selects RX11 yX11_question yX11_question ∈ BW := iB_BW44 _ (List.mem_of_getElem? (i := 19) rfl)
theorem si_L_128 : SV RL RX11 128 yX11_question cX11_question 4 (some .int) 2 := ⟨⟨m_828, m_829, m_830, m_102, m_831⟩, rfl, nK_RX11.1, nK_RX11.2, pd_2⟩
theorem dL_law_1254 : decode cL_law 1254 = .ok (.pop, 1) := by decide +kernel
theorem dL_law_1255 : decode cL_law 1255 = .ok (.aload_n 2, 1) := by decide +kernel
theorem dL_law_1256 : decode cL_law 1256 = .ok (.aload_n 0, 1) := by decide +kernel
theorem dL_law_1257 : decode cL_law 1257 = .ok (.iload_n 3, 1) := by decide +kernel
theorem dL_law_1258 : decode cL_law 1258 = .ok (.iconst 1, 1) := by decide +kernel
theorem dL_law_1259 : decode cL_law 1259 = .ok (.iadd, 1) := by decide +kernel
theorem dL_law_1260 : decode cL_law 1260 = .ok (.iaload, 1) := by decide +kernel
theorem dL_law_1261 : decode cL_law 1261 = .ok (.aload_n 0, 1) := by decide +kernel
theorem dL_law_1262 : decode cL_law 1262 = .ok (.iload_n 3, 1) := by decide +kernel
theorem dL_law_1263 : decode cL_law 1263 = .ok (.iconst 2, 1) := by decide +kernel
theorem dL_law_1264 : decode cL_law 1264 = .ok (.iadd, 1) := by decide +kernel
theorem dL_law_1265 : decode cL_law 1265 = .ok (.iaload, 1) := by decide +kernel
theorem dL_law_1266 : decode cL_law 1266 = .ok (.invokevirtual 131, 3) := by decide +kernel
theorem m_1327 : Cond.code yX12_question cX12_question 4 (some .int) ∈ BW := iB_BW71 _ (List.mem_of_getElem? (i := 3) rfl)
theorem m_1324 : Cond.methodLink RL 131 yX12_question ∈ BW := iB_BW71 _ (List.mem_of_getElem? (i := 0) rfl)
theorem m_1325 : Cond.instanceMethod yX12_question ∈ BW := iB_BW71 _ (List.mem_of_getElem? (i := 1) rfl)
theorem m_1326 : Cond.selects RX12 yX12_question yX12_question ∈ BW := iB_BW71 _ (List.mem_of_getElem? (i := 2) rfl)
theorem si_L_131 : SV RL RX12 131 yX12_question cX12_question 4 (some .int) 2 := ⟨⟨m_1324, m_1325, m_1326, m_115, m_1327⟩, rfl, nK_RX12.1, nK_RX12.2, pd_2⟩
theorem dL_law_1269 : decode cL_law 1269 = .ok (.pop, 1) := by decide +kernel
theorem dL_law_1270 : decode cL_law 1270 = .ok (.goto 448, 3) := by decide +kernel
theorem dL_law_1273 : decode cL_law 1273 = .ok (.aload_n 1, 1) := by decide +kernel
theorem dL_law_1274 : decode cL_law 1274 = .ok (.aload_n 0, 1) := by decide +kernel
theorem dL_law_1275 : decode cL_law 1275 = .ok (.iload_n 3, 1) := by decide +kernel
theorem dL_law_1276 : decode cL_law 1276 = .ok (.iconst 1, 1) := by decide +kernel
theorem dL_law_1277 : decode cL_law 1277 = .ok (.iadd, 1) := by decide +kernel
theorem dL_law_1278 : decode cL_law 1278 = .ok (.iaload, 1) := by decide +kernel
theorem dL_law_1279 : decode cL_law 1279 = .ok (.invokevirtual 132, 3) := by decide +kernel
theorem m_835 : Cond.code yX11_round cX11_round 2 (some .int) ∈ BW := iB_BW45 _ (List.mem_of_getElem? (i := 4) rfl)
theorem m_832 : Cond.methodLink RL 132 yX11_round ∈ BW := iB_BW45 _ (List.mem_of_getElem? (i := 1) rfl)
theorem m_833 : Cond.instanceMethod yX11_round ∈ BW := iB_BW45 _ (List.mem_of_getElem? (i := 2) rfl)
theorem m_834 : Cond.selects RX11 yX11_round yX11_round ∈ BW := iB_BW45 _ (List.mem_of_getElem? (i := 3) rfl)
theorem si_L_132 : SV RL RX11 132 yX11_round cX11_round 2 (some .int) 1 := ⟨⟨m_832, m_833, m_834, m_102, m_835⟩, rfl, nK_RX11.1, nK_RX11.2, pd_7⟩
theorem dL_law_1282 : decode cL_law 1282 = .ok (.pop, 1) := by decide +kernel
theorem dL_law_1283 : decode cL_law 1283 = .ok (.aload_n 2, 1) := by decide +kernel
theorem dL_law_1284 : decode cL_law 1284 = .ok (.aload_n 0, 1) := by decide +kernel
theorem dL_law_1285 : decode cL_law 1285 = .ok (.iload_n 3, 1) := by decide +kernel
theorem dL_law_1286 : decode cL_law 1286 = .ok (.iconst 1, 1) := by decide +kernel
theorem dL_law_1287 : decode cL_law 1287 = .ok (.iadd, 1) := by decide +kernel
theorem dL_law_1288 : decode cL_law 1288 = .ok (.iaload, 1) := by decide +kernel
theorem dL_law_1289 : decode cL_law 1289 = .ok (.invokevirtual 135, 3) := by decide +kernel
theorem m_1331 : Cond.code yX12_round cX12_round 4 (some .int) ∈ BW := iB_BW71 _ (List.mem_of_getElem? (i := 7) rfl)
theorem m_1328 : Cond.methodLink RL 135 yX12_round ∈ BW := iB_BW71 _ (List.mem_of_getElem? (i := 4) rfl)
theorem m_1329 : Cond.instanceMethod yX12_round ∈ BW := iB_BW71 _ (List.mem_of_getElem? (i := 5) rfl)
theorem m_1330 : Cond.selects RX12 yX12_round yX12_round ∈ BW := iB_BW71 _ (List.mem_of_getElem? (i := 6) rfl)
theorem si_L_135 : SV RL RX12 135 yX12_round cX12_round 4 (some .int) 1 := ⟨⟨m_1328, m_1329, m_1330, m_115, m_1331⟩, rfl, nK_RX12.1, nK_RX12.2, pd_7⟩
theorem dL_law_1292 : decode cL_law 1292 = .ok (.pop, 1) := by decide +kernel
theorem dL_law_1293 : decode cL_law 1293 = .ok (.goto 425, 3) := by decide +kernel
theorem dL_law_1296 : decode cL_law 1296 = .ok (.aload_n 1, 1) := by decide +kernel
theorem dL_law_1297 : decode cL_law 1297 = .ok (.aload_n 0, 1) := by decide +kernel
theorem dL_law_1298 : decode cL_law 1298 = .ok (.iload_n 3, 1) := by decide +kernel
theorem dL_law_1299 : decode cL_law 1299 = .ok (.iconst 1, 1) := by decide +kernel
theorem dL_law_1300 : decode cL_law 1300 = .ok (.iadd, 1) := by decide +kernel
theorem dL_law_1301 : decode cL_law 1301 = .ok (.iaload, 1) := by decide +kernel
theorem dL_law_1302 : decode cL_law 1302 = .ok (.aload_n 0, 1) := by decide +kernel
theorem dL_law_1303 : decode cL_law 1303 = .ok (.iload_n 3, 1) := by decide +kernel
theorem dL_law_1304 : decode cL_law 1304 = .ok (.iconst 2, 1) := by decide +kernel
theorem dL_law_1305 : decode cL_law 1305 = .ok (.iadd, 1) := by decide +kernel
theorem dL_law_1306 : decode cL_law 1306 = .ok (.iaload, 1) := by decide +kernel
theorem dL_law_1307 : decode cL_law 1307 = .ok (.invokevirtual 136, 3) := by decide +kernel
theorem m_861 : Cond.code yX11_row cX11_row 3 (some .int) ∈ BW := iB_BW46 _ (List.mem_of_getElem? (i := 10) rfl)
theorem m_858 : Cond.methodLink RL 136 yX11_row ∈ BW := iB_BW46 _ (List.mem_of_getElem? (i := 7) rfl)
theorem m_859 : Cond.instanceMethod yX11_row ∈ BW := iB_BW46 _ (List.mem_of_getElem? (i := 8) rfl)
theorem m_860 : Cond.selects RX11 yX11_row yX11_row ∈ BW := iB_BW46 _ (List.mem_of_getElem? (i := 9) rfl)
theorem si_L_136 : SV RL RX11 136 yX11_row cX11_row 3 (some .int) 2 := ⟨⟨m_858, m_859, m_860, m_102, m_861⟩, rfl, nK_RX11.1, nK_RX11.2, pd_2⟩
theorem dL_law_1310 : decode cL_law 1310 = .ok (.pop, 1) := by decide +kernel
theorem dL_law_1311 : decode cL_law 1311 = .ok (.aload_n 2, 1) := by decide +kernel
theorem dL_law_1312 : decode cL_law 1312 = .ok (.aload_n 0, 1) := by decide +kernel
theorem dL_law_1313 : decode cL_law 1313 = .ok (.iload_n 3, 1) := by decide +kernel
theorem dL_law_1314 : decode cL_law 1314 = .ok (.iconst 1, 1) := by decide +kernel
theorem dL_law_1315 : decode cL_law 1315 = .ok (.iadd, 1) := by decide +kernel
theorem dL_law_1316 : decode cL_law 1316 = .ok (.iaload, 1) := by decide +kernel
theorem dL_law_1317 : decode cL_law 1317 = .ok (.aload_n 0, 1) := by decide +kernel
theorem dL_law_1318 : decode cL_law 1318 = .ok (.iload_n 3, 1) := by decide +kernel
theorem dL_law_1319 : decode cL_law 1319 = .ok (.iconst 2, 1) := by decide +kernel
theorem dL_law_1320 : decode cL_law 1320 = .ok (.iadd, 1) := by decide +kernel
theorem dL_law_1321 : decode cL_law 1321 = .ok (.iaload, 1) := by decide +kernel
theorem dL_law_1322 : decode cL_law 1322 = .ok (.invokevirtual 139, 3) := by decide +kernel
theorem m_1338 : Cond.code yX12_row cX12_row 3 (some .int) ∈ BW := iB_BW71 _ (List.mem_of_getElem? (i := 14) rfl)
theorem m_1335 : Cond.methodLink RL 139 yX12_row ∈ BW := iB_BW71 _ (List.mem_of_getElem? (i := 11) rfl)
theorem m_1336 : Cond.instanceMethod yX12_row ∈ BW := iB_BW71 _ (List.mem_of_getElem? (i := 12) rfl)
theorem m_1337 : Cond.selects RX12 yX12_row yX12_row ∈ BW := iB_BW71 _ (List.mem_of_getElem? (i := 13) rfl)
theorem si_L_139 : SV RL RX12 139 yX12_row cX12_row 3 (some .int) 2 := ⟨⟨m_1335, m_1336, m_1337, m_115, m_1338⟩, rfl, nK_RX12.1, nK_RX12.2, pd_2⟩
theorem dL_law_1325 : decode cL_law 1325 = .ok (.pop, 1) := by decide +kernel
theorem dL_law_1326 : decode cL_law 1326 = .ok (.goto 392, 3) := by decide +kernel
theorem dL_law_1329 : decode cL_law 1329 = .ok (.aload_n 1, 1) := by decide +kernel
theorem dL_law_1330 : decode cL_law 1330 = .ok (.aload_n 0, 1) := by decide +kernel
theorem dL_law_1331 : decode cL_law 1331 = .ok (.iload_n 3, 1) := by decide +kernel
theorem dL_law_1332 : decode cL_law 1332 = .ok (.iconst 1, 1) := by decide +kernel
theorem dL_law_1333 : decode cL_law 1333 = .ok (.iadd, 1) := by decide +kernel
theorem dL_law_1334 : decode cL_law 1334 = .ok (.iaload, 1) := by decide +kernel
theorem dL_law_1335 : decode cL_law 1335 = .ok (.aload_n 0, 1) := by decide +kernel
theorem dL_law_1336 : decode cL_law 1336 = .ok (.iload_n 3, 1) := by decide +kernel
theorem dL_law_1337 : decode cL_law 1337 = .ok (.iconst 2, 1) := by decide +kernel
theorem dL_law_1338 : decode cL_law 1338 = .ok (.iadd, 1) := by decide +kernel
theorem dL_law_1339 : decode cL_law 1339 = .ok (.iaload, 1) := by decide +kernel
theorem dL_law_1340 : decode cL_law 1340 = .ok (.aload_n 0, 1) := by decide +kernel
theorem dL_law_1341 : decode cL_law 1341 = .ok (.iload_n 3, 1) := by decide +kernel
theorem dL_law_1342 : decode cL_law 1342 = .ok (.iconst 3, 1) := by decide +kernel
theorem dL_law_1343 : decode cL_law 1343 = .ok (.iadd, 1) := by decide +kernel
theorem dL_law_1344 : decode cL_law 1344 = .ok (.iaload, 1) := by decide +kernel
theorem dL_law_1345 : decode cL_law 1345 = .ok (.invokevirtual 140, 3) := by decide +kernel
theorem m_865 : Cond.code yX11_alterRow cX11_alterRow 5 (some .int) ∈ BW := iB_BW46 _ (List.mem_of_getElem? (i := 14) rfl)
theorem m_862 : Cond.methodLink RL 140 yX11_alterRow ∈ BW := iB_BW46 _ (List.mem_of_getElem? (i := 11) rfl)
theorem m_863 : Cond.instanceMethod yX11_alterRow ∈ BW := iB_BW46 _ (List.mem_of_getElem? (i := 12) rfl)
theorem m_864 : Cond.selects RX11 yX11_alterRow yX11_alterRow ∈ BW := iB_BW46 _ (List.mem_of_getElem? (i := 13) rfl)
theorem si_L_140 : SV RL RX11 140 yX11_alterRow cX11_alterRow 5 (some .int) 3 := ⟨⟨m_862, m_863, m_864, m_102, m_865⟩, rfl, nK_RX11.1, nK_RX11.2, pd_19⟩
theorem dL_law_1348 : decode cL_law 1348 = .ok (.pop, 1) := by decide +kernel
theorem dL_law_1349 : decode cL_law 1349 = .ok (.aload_n 2, 1) := by decide +kernel
theorem dL_law_1350 : decode cL_law 1350 = .ok (.aload_n 0, 1) := by decide +kernel
theorem dL_law_1351 : decode cL_law 1351 = .ok (.iload_n 3, 1) := by decide +kernel
theorem dL_law_1352 : decode cL_law 1352 = .ok (.iconst 1, 1) := by decide +kernel
theorem dL_law_1353 : decode cL_law 1353 = .ok (.iadd, 1) := by decide +kernel
theorem dL_law_1354 : decode cL_law 1354 = .ok (.iaload, 1) := by decide +kernel
theorem dL_law_1355 : decode cL_law 1355 = .ok (.aload_n 0, 1) := by decide +kernel
theorem dL_law_1356 : decode cL_law 1356 = .ok (.iload_n 3, 1) := by decide +kernel
theorem dL_law_1357 : decode cL_law 1357 = .ok (.iconst 2, 1) := by decide +kernel
theorem dL_law_1358 : decode cL_law 1358 = .ok (.iadd, 1) := by decide +kernel
theorem dL_law_1359 : decode cL_law 1359 = .ok (.iaload, 1) := by decide +kernel
theorem dL_law_1360 : decode cL_law 1360 = .ok (.aload_n 0, 1) := by decide +kernel
theorem dL_law_1361 : decode cL_law 1361 = .ok (.iload_n 3, 1) := by decide +kernel
theorem dL_law_1362 : decode cL_law 1362 = .ok (.iconst 3, 1) := by decide +kernel
theorem dL_law_1363 : decode cL_law 1363 = .ok (.iadd, 1) := by decide +kernel
theorem dL_law_1364 : decode cL_law 1364 = .ok (.iaload, 1) := by decide +kernel
theorem dL_law_1365 : decode cL_law 1365 = .ok (.invokevirtual 143, 3) := by decide +kernel
theorem m_1345 : Cond.code yX12_alterRow cX12_alterRow 5 (some .int) ∈ BW := iB_BW72 _ (List.mem_of_getElem? (i := 1) rfl)
theorem m_1342 : Cond.methodLink RL 143 yX12_alterRow ∈ BW := iB_BW71 _ (List.mem_of_getElem? (i := 18) rfl)
theorem m_1343 : Cond.instanceMethod yX12_alterRow ∈ BW := iB_BW71 _ (List.mem_of_getElem? (i := 19) rfl)
theorem m_1344 : Cond.selects RX12 yX12_alterRow yX12_alterRow ∈ BW := iB_BW72 _ (List.mem_of_getElem? (i := 0) rfl)
theorem si_L_143 : SV RL RX12 143 yX12_alterRow cX12_alterRow 5 (some .int) 3 := ⟨⟨m_1342, m_1343, m_1344, m_115, m_1345⟩, rfl, nK_RX12.1, nK_RX12.2, pd_19⟩
theorem dL_law_1368 : decode cL_law 1368 = .ok (.pop, 1) := by decide +kernel
theorem dL_law_1369 : decode cL_law 1369 = .ok (.goto 349, 3) := by decide +kernel
theorem dL_law_1372 : decode cL_law 1372 = .ok (.aload_n 1, 1) := by decide +kernel
theorem dL_law_1373 : decode cL_law 1373 = .ok (.invokevirtual 144, 3) := by decide +kernel
theorem m_869 : Cond.code yX11_dropRow cX11_dropRow 1 (some .int) ∈ BW := iB_BW46 _ (List.mem_of_getElem? (i := 18) rfl)
theorem m_866 : Cond.methodLink RL 144 yX11_dropRow ∈ BW := iB_BW46 _ (List.mem_of_getElem? (i := 15) rfl)
theorem m_867 : Cond.instanceMethod yX11_dropRow ∈ BW := iB_BW46 _ (List.mem_of_getElem? (i := 16) rfl)
theorem m_868 : Cond.selects RX11 yX11_dropRow yX11_dropRow ∈ BW := iB_BW46 _ (List.mem_of_getElem? (i := 17) rfl)
theorem si_L_144 : SV RL RX11 144 yX11_dropRow cX11_dropRow 1 (some .int) 0 := ⟨⟨m_866, m_867, m_868, m_102, m_869⟩, rfl, nK_RX11.1, nK_RX11.2, pd_1⟩
theorem dL_law_1376 : decode cL_law 1376 = .ok (.pop, 1) := by decide +kernel
theorem dL_law_1377 : decode cL_law 1377 = .ok (.aload_n 2, 1) := by decide +kernel
theorem dL_law_1378 : decode cL_law 1378 = .ok (.invokevirtual 147, 3) := by decide +kernel
theorem m_1349 : Cond.code yX12_dropRow cX12_dropRow 1 (some .int) ∈ BW := iB_BW72 _ (List.mem_of_getElem? (i := 5) rfl)
theorem m_1346 : Cond.methodLink RL 147 yX12_dropRow ∈ BW := iB_BW72 _ (List.mem_of_getElem? (i := 2) rfl)
theorem m_1347 : Cond.instanceMethod yX12_dropRow ∈ BW := iB_BW72 _ (List.mem_of_getElem? (i := 3) rfl)
theorem m_1348 : Cond.selects RX12 yX12_dropRow yX12_dropRow ∈ BW := iB_BW72 _ (List.mem_of_getElem? (i := 4) rfl)
theorem si_L_147 : SV RL RX12 147 yX12_dropRow cX12_dropRow 1 (some .int) 0 := ⟨⟨m_1346, m_1347, m_1348, m_115, m_1349⟩, rfl, nK_RX12.1, nK_RX12.2, pd_1⟩
theorem dL_law_1381 : decode cL_law 1381 = .ok (.pop, 1) := by decide +kernel
theorem dL_law_1382 : decode cL_law 1382 = .ok (.goto 336, 3) := by decide +kernel
theorem dL_law_1385 : decode cL_law 1385 = .ok (.aload_n 1, 1) := by decide +kernel
theorem dL_law_1386 : decode cL_law 1386 = .ok (.invokevirtual 148, 3) := by decide +kernel
theorem m_874 : Cond.code yX11_judge cX11_judge 1 (some .int) ∈ BW := iB_BW47 _ (List.mem_of_getElem? (i := 3) rfl)
theorem m_871 : Cond.methodLink RL 148 yX11_judge ∈ BW := iB_BW47 _ (List.mem_of_getElem? (i := 0) rfl)
theorem m_872 : Cond.instanceMethod yX11_judge ∈ BW := iB_BW47 _ (List.mem_of_getElem? (i := 1) rfl)
theorem m_873 : Cond.selects RX11 yX11_judge yX11_judge ∈ BW := iB_BW47 _ (List.mem_of_getElem? (i := 2) rfl)
theorem si_L_148 : SV RL RX11 148 yX11_judge cX11_judge 1 (some .int) 0 := ⟨⟨m_871, m_872, m_873, m_102, m_874⟩, rfl, nK_RX11.1, nK_RX11.2, pd_1⟩
theorem dL_law_1389 : decode cL_law 1389 = .ok (.pop, 1) := by decide +kernel
theorem dL_law_1390 : decode cL_law 1390 = .ok (.aload_n 2, 1) := by decide +kernel
theorem dL_law_1391 : decode cL_law 1391 = .ok (.invokevirtual 151, 3) := by decide +kernel
theorem m_1353 : Cond.code yX12_judge cX12_judge 5 (some .int) ∈ BW := iB_BW72 _ (List.mem_of_getElem? (i := 9) rfl)
theorem m_1350 : Cond.methodLink RL 151 yX12_judge ∈ BW := iB_BW72 _ (List.mem_of_getElem? (i := 6) rfl)
theorem m_1351 : Cond.instanceMethod yX12_judge ∈ BW := iB_BW72 _ (List.mem_of_getElem? (i := 7) rfl)
theorem m_1352 : Cond.selects RX12 yX12_judge yX12_judge ∈ BW := iB_BW72 _ (List.mem_of_getElem? (i := 8) rfl)
theorem si_L_151 : SV RL RX12 151 yX12_judge cX12_judge 5 (some .int) 0 := ⟨⟨m_1350, m_1351, m_1352, m_115, m_1353⟩, rfl, nK_RX12.1, nK_RX12.2, pd_1⟩
theorem dL_law_1394 : decode cL_law 1394 = .ok (.pop, 1) := by decide +kernel
theorem dL_law_1395 : decode cL_law 1395 = .ok (.goto 323, 3) := by decide +kernel
end WR
theorem sm_0_98_99_100 {a0 a1 a2 a3 a4 a5 a6 a7 a8 a9 a10 a11 a12 a13 a14 a15 a16 a17 a18 a19 a20 a21 a22 a23 a24 a25 a26 a27 a28 a29 a30 a31 a32 a33 a34 a35 a36 a37 a38 a39 a40 a41 a42 a43 a44 a45 a46 a47 a48 a49 a50 a51 a52 a53 a54 a55 a56 a57 a58 a59 a60 a61 a62 a63 a64 a65 a66 a67 a68 a69 a70 a71 a72 a73 a74 a75 a76 a77 a78 a79 a80 a81 a82 a83 a84 a85 a86 a87 a88 a89 a90 a91 a92 a93 a94 a95 a96 a97 a98 a99 a100 : Nat × va_E} {l : va_W} : ([0, 98, 99, 100] : List Nat).map (fun i => (a0 :: a1 :: a2 :: a3 :: a4 :: a5 :: a6 :: a7 :: a8 :: a9 :: a10 :: a11 :: a12 :: a13 :: a14 :: a15 :: a16 :: a17 :: a18 :: a19 :: a20 :: a21 :: a22 :: a23 :: a24 :: a25 :: a26 :: a27 :: a28 :: a29 :: a30 :: a31 :: a32 :: a33 :: a34 :: a35 :: a36 :: a37 :: a38 :: a39 :: a40 :: a41 :: a42 :: a43 :: a44 :: a45 :: a46 :: a47 :: a48 :: a49 :: a50 :: a51 :: a52 :: a53 :: a54 :: a55 :: a56 :: a57 :: a58 :: a59 :: a60 :: a61 :: a62 :: a63 :: a64 :: a65 :: a66 :: a67 :: a68 :: a69 :: a70 :: a71 :: a72 :: a73 :: a74 :: a75 :: a76 :: a77 :: a78 :: a79 :: a80 :: a81 :: a82 :: a83 :: a84 :: a85 :: a86 :: a87 :: a88 :: a89 :: a90 :: a91 :: a92 :: a93 :: a94 :: a95 :: a96 :: a97 :: a98 :: a99 :: a100 :: l : va_W)[i]?) = ([a0, a98, a99, a100] : va_W).map some := rfl
theorem fm_0_98_99_100 {a0 a1 a2 a3 a4 a5 a6 a7 a8 a9 a10 a11 a12 a13 a14 a15 a16 a17 a18 a19 a20 a21 a22 a23 a24 a25 a26 a27 a28 a29 a30 a31 a32 a33 a34 a35 a36 a37 a38 a39 a40 a41 a42 a43 a44 a45 a46 a47 a48 a49 a50 a51 a52 a53 a54 a55 a56 a57 a58 a59 a60 a61 a62 a63 a64 a65 a66 a67 a68 a69 a70 a71 a72 a73 a74 a75 a76 a77 a78 a79 a80 a81 a82 a83 a84 a85 a86 a87 a88 a89 a90 a91 a92 a93 a94 a95 a96 a97 a98 a99 a100 : Nat × va_E} {l : va_W} : ([0, 98, 99, 100] : List Nat).filterMap (fun i => (a0 :: a1 :: a2 :: a3 :: a4 :: a5 :: a6 :: a7 :: a8 :: a9 :: a10 :: a11 :: a12 :: a13 :: a14 :: a15 :: a16 :: a17 :: a18 :: a19 :: a20 :: a21 :: a22 :: a23 :: a24 :: a25 :: a26 :: a27 :: a28 :: a29 :: a30 :: a31 :: a32 :: a33 :: a34 :: a35 :: a36 :: a37 :: a38 :: a39 :: a40 :: a41 :: a42 :: a43 :: a44 :: a45 :: a46 :: a47 :: a48 :: a49 :: a50 :: a51 :: a52 :: a53 :: a54 :: a55 :: a56 :: a57 :: a58 :: a59 :: a60 :: a61 :: a62 :: a63 :: a64 :: a65 :: a66 :: a67 :: a68 :: a69 :: a70 :: a71 :: a72 :: a73 :: a74 :: a75 :: a76 :: a77 :: a78 :: a79 :: a80 :: a81 :: a82 :: a83 :: a84 :: a85 :: a86 :: a87 :: a88 :: a89 :: a90 :: a91 :: a92 :: a93 :: a94 :: a95 :: a96 :: a97 :: a98 :: a99 :: a100 :: l : va_W)[i]?) = ([a0, a98, a99, a100] : va_W) := rfl
theorem nd_0_98_99_100 : va_nd [0, 98, 99, 100] = true := by decide
theorem sm_103_107 {a0 a1 a2 a3 a4 a5 a6 a7 a8 a9 a10 a11 a12 a13 a14 a15 a16 a17 a18 a19 a20 a21 a22 a23 a24 a25 a26 a27 a28 a29 a30 a31 a32 a33 a34 a35 a36 a37 a38 a39 a40 a41 a42 a43 a44 a45 a46 a47 a48 a49 a50 a51 a52 a53 a54 a55 a56 a57 a58 a59 a60 a61 a62 a63 a64 a65 a66 a67 a68 a69 a70 a71 a72 a73 a74 a75 a76 a77 a78 a79 a80 a81 a82 a83 a84 a85 a86 a87 a88 a89 a90 a91 a92 a93 a94 a95 a96 a97 a98 a99 a100 a101 a102 a103 a104 a105 a106 a107 : Nat × va_E} {l : va_W} : ([103, 107] : List Nat).map (fun i => (a0 :: a1 :: a2 :: a3 :: a4 :: a5 :: a6 :: a7 :: a8 :: a9 :: a10 :: a11 :: a12 :: a13 :: a14 :: a15 :: a16 :: a17 :: a18 :: a19 :: a20 :: a21 :: a22 :: a23 :: a24 :: a25 :: a26 :: a27 :: a28 :: a29 :: a30 :: a31 :: a32 :: a33 :: a34 :: a35 :: a36 :: a37 :: a38 :: a39 :: a40 :: a41 :: a42 :: a43 :: a44 :: a45 :: a46 :: a47 :: a48 :: a49 :: a50 :: a51 :: a52 :: a53 :: a54 :: a55 :: a56 :: a57 :: a58 :: a59 :: a60 :: a61 :: a62 :: a63 :: a64 :: a65 :: a66 :: a67 :: a68 :: a69 :: a70 :: a71 :: a72 :: a73 :: a74 :: a75 :: a76 :: a77 :: a78 :: a79 :: a80 :: a81 :: a82 :: a83 :: a84 :: a85 :: a86 :: a87 :: a88 :: a89 :: a90 :: a91 :: a92 :: a93 :: a94 :: a95 :: a96 :: a97 :: a98 :: a99 :: a100 :: a101 :: a102 :: a103 :: a104 :: a105 :: a106 :: a107 :: l : va_W)[i]?) = ([a103, a107] : va_W).map some := rfl
theorem fm_103_107 {a0 a1 a2 a3 a4 a5 a6 a7 a8 a9 a10 a11 a12 a13 a14 a15 a16 a17 a18 a19 a20 a21 a22 a23 a24 a25 a26 a27 a28 a29 a30 a31 a32 a33 a34 a35 a36 a37 a38 a39 a40 a41 a42 a43 a44 a45 a46 a47 a48 a49 a50 a51 a52 a53 a54 a55 a56 a57 a58 a59 a60 a61 a62 a63 a64 a65 a66 a67 a68 a69 a70 a71 a72 a73 a74 a75 a76 a77 a78 a79 a80 a81 a82 a83 a84 a85 a86 a87 a88 a89 a90 a91 a92 a93 a94 a95 a96 a97 a98 a99 a100 a101 a102 a103 a104 a105 a106 a107 : Nat × va_E} {l : va_W} : ([103, 107] : List Nat).filterMap (fun i => (a0 :: a1 :: a2 :: a3 :: a4 :: a5 :: a6 :: a7 :: a8 :: a9 :: a10 :: a11 :: a12 :: a13 :: a14 :: a15 :: a16 :: a17 :: a18 :: a19 :: a20 :: a21 :: a22 :: a23 :: a24 :: a25 :: a26 :: a27 :: a28 :: a29 :: a30 :: a31 :: a32 :: a33 :: a34 :: a35 :: a36 :: a37 :: a38 :: a39 :: a40 :: a41 :: a42 :: a43 :: a44 :: a45 :: a46 :: a47 :: a48 :: a49 :: a50 :: a51 :: a52 :: a53 :: a54 :: a55 :: a56 :: a57 :: a58 :: a59 :: a60 :: a61 :: a62 :: a63 :: a64 :: a65 :: a66 :: a67 :: a68 :: a69 :: a70 :: a71 :: a72 :: a73 :: a74 :: a75 :: a76 :: a77 :: a78 :: a79 :: a80 :: a81 :: a82 :: a83 :: a84 :: a85 :: a86 :: a87 :: a88 :: a89 :: a90 :: a91 :: a92 :: a93 :: a94 :: a95 :: a96 :: a97 :: a98 :: a99 :: a100 :: a101 :: a102 :: a103 :: a104 :: a105 :: a106 :: a107 :: l : va_W)[i]?) = ([a103, a107] : va_W) := rfl
theorem nd_103_107 : va_nd [103, 107] = true := by decide
theorem sm_0_1_98_99_100_20_21 {a0 a1 a2 a3 a4 a5 a6 a7 a8 a9 a10 a11 a12 a13 a14 a15 a16 a17 a18 a19 a20 a21 a22 a23 a24 a25 a26 a27 a28 a29 a30 a31 a32 a33 a34 a35 a36 a37 a38 a39 a40 a41 a42 a43 a44 a45 a46 a47 a48 a49 a50 a51 a52 a53 a54 a55 a56 a57 a58 a59 a60 a61 a62 a63 a64 a65 a66 a67 a68 a69 a70 a71 a72 a73 a74 a75 a76 a77 a78 a79 a80 a81 a82 a83 a84 a85 a86 a87 a88 a89 a90 a91 a92 a93 a94 a95 a96 a97 a98 a99 a100 : Nat × va_E} {l : va_W} : ([0, 1, 98, 99, 100, 20, 21] : List Nat).map (fun i => (a0 :: a1 :: a2 :: a3 :: a4 :: a5 :: a6 :: a7 :: a8 :: a9 :: a10 :: a11 :: a12 :: a13 :: a14 :: a15 :: a16 :: a17 :: a18 :: a19 :: a20 :: a21 :: a22 :: a23 :: a24 :: a25 :: a26 :: a27 :: a28 :: a29 :: a30 :: a31 :: a32 :: a33 :: a34 :: a35 :: a36 :: a37 :: a38 :: a39 :: a40 :: a41 :: a42 :: a43 :: a44 :: a45 :: a46 :: a47 :: a48 :: a49 :: a50 :: a51 :: a52 :: a53 :: a54 :: a55 :: a56 :: a57 :: a58 :: a59 :: a60 :: a61 :: a62 :: a63 :: a64 :: a65 :: a66 :: a67 :: a68 :: a69 :: a70 :: a71 :: a72 :: a73 :: a74 :: a75 :: a76 :: a77 :: a78 :: a79 :: a80 :: a81 :: a82 :: a83 :: a84 :: a85 :: a86 :: a87 :: a88 :: a89 :: a90 :: a91 :: a92 :: a93 :: a94 :: a95 :: a96 :: a97 :: a98 :: a99 :: a100 :: l : va_W)[i]?) = ([a0, a1, a98, a99, a100, a20, a21] : va_W).map some := rfl
theorem fm_0_1_98_99_100_20_21 {a0 a1 a2 a3 a4 a5 a6 a7 a8 a9 a10 a11 a12 a13 a14 a15 a16 a17 a18 a19 a20 a21 a22 a23 a24 a25 a26 a27 a28 a29 a30 a31 a32 a33 a34 a35 a36 a37 a38 a39 a40 a41 a42 a43 a44 a45 a46 a47 a48 a49 a50 a51 a52 a53 a54 a55 a56 a57 a58 a59 a60 a61 a62 a63 a64 a65 a66 a67 a68 a69 a70 a71 a72 a73 a74 a75 a76 a77 a78 a79 a80 a81 a82 a83 a84 a85 a86 a87 a88 a89 a90 a91 a92 a93 a94 a95 a96 a97 a98 a99 a100 : Nat × va_E} {l : va_W} : ([0, 1, 98, 99, 100, 20, 21] : List Nat).filterMap (fun i => (a0 :: a1 :: a2 :: a3 :: a4 :: a5 :: a6 :: a7 :: a8 :: a9 :: a10 :: a11 :: a12 :: a13 :: a14 :: a15 :: a16 :: a17 :: a18 :: a19 :: a20 :: a21 :: a22 :: a23 :: a24 :: a25 :: a26 :: a27 :: a28 :: a29 :: a30 :: a31 :: a32 :: a33 :: a34 :: a35 :: a36 :: a37 :: a38 :: a39 :: a40 :: a41 :: a42 :: a43 :: a44 :: a45 :: a46 :: a47 :: a48 :: a49 :: a50 :: a51 :: a52 :: a53 :: a54 :: a55 :: a56 :: a57 :: a58 :: a59 :: a60 :: a61 :: a62 :: a63 :: a64 :: a65 :: a66 :: a67 :: a68 :: a69 :: a70 :: a71 :: a72 :: a73 :: a74 :: a75 :: a76 :: a77 :: a78 :: a79 :: a80 :: a81 :: a82 :: a83 :: a84 :: a85 :: a86 :: a87 :: a88 :: a89 :: a90 :: a91 :: a92 :: a93 :: a94 :: a95 :: a96 :: a97 :: a98 :: a99 :: a100 :: l : va_W)[i]?) = ([a0, a1, a98, a99, a100, a20, a21] : va_W) := rfl
theorem nd_0_1_98_99_100_20_21 : va_nd [0, 1, 98, 99, 100, 20, 21] = true := by decide
theorem sm_103_104_107 {a0 a1 a2 a3 a4 a5 a6 a7 a8 a9 a10 a11 a12 a13 a14 a15 a16 a17 a18 a19 a20 a21 a22 a23 a24 a25 a26 a27 a28 a29 a30 a31 a32 a33 a34 a35 a36 a37 a38 a39 a40 a41 a42 a43 a44 a45 a46 a47 a48 a49 a50 a51 a52 a53 a54 a55 a56 a57 a58 a59 a60 a61 a62 a63 a64 a65 a66 a67 a68 a69 a70 a71 a72 a73 a74 a75 a76 a77 a78 a79 a80 a81 a82 a83 a84 a85 a86 a87 a88 a89 a90 a91 a92 a93 a94 a95 a96 a97 a98 a99 a100 a101 a102 a103 a104 a105 a106 a107 : Nat × va_E} {l : va_W} : ([103, 104, 107] : List Nat).map (fun i => (a0 :: a1 :: a2 :: a3 :: a4 :: a5 :: a6 :: a7 :: a8 :: a9 :: a10 :: a11 :: a12 :: a13 :: a14 :: a15 :: a16 :: a17 :: a18 :: a19 :: a20 :: a21 :: a22 :: a23 :: a24 :: a25 :: a26 :: a27 :: a28 :: a29 :: a30 :: a31 :: a32 :: a33 :: a34 :: a35 :: a36 :: a37 :: a38 :: a39 :: a40 :: a41 :: a42 :: a43 :: a44 :: a45 :: a46 :: a47 :: a48 :: a49 :: a50 :: a51 :: a52 :: a53 :: a54 :: a55 :: a56 :: a57 :: a58 :: a59 :: a60 :: a61 :: a62 :: a63 :: a64 :: a65 :: a66 :: a67 :: a68 :: a69 :: a70 :: a71 :: a72 :: a73 :: a74 :: a75 :: a76 :: a77 :: a78 :: a79 :: a80 :: a81 :: a82 :: a83 :: a84 :: a85 :: a86 :: a87 :: a88 :: a89 :: a90 :: a91 :: a92 :: a93 :: a94 :: a95 :: a96 :: a97 :: a98 :: a99 :: a100 :: a101 :: a102 :: a103 :: a104 :: a105 :: a106 :: a107 :: l : va_W)[i]?) = ([a103, a104, a107] : va_W).map some := rfl
theorem fm_103_104_107 {a0 a1 a2 a3 a4 a5 a6 a7 a8 a9 a10 a11 a12 a13 a14 a15 a16 a17 a18 a19 a20 a21 a22 a23 a24 a25 a26 a27 a28 a29 a30 a31 a32 a33 a34 a35 a36 a37 a38 a39 a40 a41 a42 a43 a44 a45 a46 a47 a48 a49 a50 a51 a52 a53 a54 a55 a56 a57 a58 a59 a60 a61 a62 a63 a64 a65 a66 a67 a68 a69 a70 a71 a72 a73 a74 a75 a76 a77 a78 a79 a80 a81 a82 a83 a84 a85 a86 a87 a88 a89 a90 a91 a92 a93 a94 a95 a96 a97 a98 a99 a100 a101 a102 a103 a104 a105 a106 a107 : Nat × va_E} {l : va_W} : ([103, 104, 107] : List Nat).filterMap (fun i => (a0 :: a1 :: a2 :: a3 :: a4 :: a5 :: a6 :: a7 :: a8 :: a9 :: a10 :: a11 :: a12 :: a13 :: a14 :: a15 :: a16 :: a17 :: a18 :: a19 :: a20 :: a21 :: a22 :: a23 :: a24 :: a25 :: a26 :: a27 :: a28 :: a29 :: a30 :: a31 :: a32 :: a33 :: a34 :: a35 :: a36 :: a37 :: a38 :: a39 :: a40 :: a41 :: a42 :: a43 :: a44 :: a45 :: a46 :: a47 :: a48 :: a49 :: a50 :: a51 :: a52 :: a53 :: a54 :: a55 :: a56 :: a57 :: a58 :: a59 :: a60 :: a61 :: a62 :: a63 :: a64 :: a65 :: a66 :: a67 :: a68 :: a69 :: a70 :: a71 :: a72 :: a73 :: a74 :: a75 :: a76 :: a77 :: a78 :: a79 :: a80 :: a81 :: a82 :: a83 :: a84 :: a85 :: a86 :: a87 :: a88 :: a89 :: a90 :: a91 :: a92 :: a93 :: a94 :: a95 :: a96 :: a97 :: a98 :: a99 :: a100 :: a101 :: a102 :: a103 :: a104 :: a105 :: a106 :: a107 :: l : va_W)[i]?) = ([a103, a104, a107] : va_W) := rfl
theorem nd_103_104_107 : va_nd [103, 104, 107] = true := by decide
set_option maxHeartbeats 8000000 in
set_option maxRecDepth 100000 in
theorem law_20 : LAWC 974 := by
  intro p l e s m below meth c b L xs G K A hf xb bb cc sg do9 ru9 ta9 tp9 ro9 ho9 de9 bpersons bpapers bstamps bversions blines bsteps bsayings bfindings bwarnings bquestions bpersonsc bpapersc bstampsc bversionsc blinesc bstepsc bsayingsc bfindingsc bwarningsc bquestionsc cpersons cpapers cstamps cversions clines csteps csayings cfindings cwarnings cquestions cpersonsc cpapersc cstampsc cversionsc clinesc cstepsc csayingsc cfindingsc cwarningsc cquestionsc tby tln tsp tlnc tspc hs hz hi hw hn ht tr9 clk fi la ml mm sl sm clm hd kc0 km0 kc1 km1 kc2 km2 kc3 km3 kc4 km4 kc5 km5 kc6 km6 kc7 km7 kc8 km8 kc9 km9 kc10 km10 kc11 km11 kc12 km12 fc sh rr tc rrc xm nw nk nt nr nm ns nl nc nF np ntr nb nso nsi nit nsh nsf nss nrc kbpersons kbpapers kbstamps kbversions kblines kbsteps kbsayings kbfindings kbwarnings kbquestions kcpersons kcpapers kcstamps kcversions kclines kcsteps kcsayings kcfindings kcwarnings kcquestions kt ks kn kln ksp jr kr ytp yrm yjr ikp td vd vl gp ktd kvd kvl kgp tkd tf9 dk dn dp da dq cl bo le bi r1 rc rh tf tt9 tl tbv asd st9 tol mroundOf mroundFrom mfromHour mtoHour mfrom mto msort misFault mdeep mcoded mlines mbestCost mdealer mnumber mwhose msize misParted fbpersons fbpapers fbstamps fbversions fblines fbsteps fbsayings fbfindings fbwarnings fbquestions fcpersons fcpapers fcstamps fcversions fclines fcsteps fcsayings fcfindings fcwarnings fcquestions fby ftln ftsp fhw fhn ftr fhs fhz fhi fclm ffi fla fml fmm fsl fsm fk0 fk1 fk2 fk3 fk4 fk5 fk6 fk7 fk8 fk9 fk10 fk11 fk12 ffc fsh frr ftc fht y_nw y_nk y_nt y_nr y_nm y_ns y_nl y_nc y_np y_ntr y_nb y_nso y_nsi y_nit y_nsh y_nsf y_nss y_nrc H locs ls ki hC hK hO hX hL hbl hbA hA hA2 hki hf0 hf1 hf2 hf3 hf4 hf5 hf6 hf7 hf8 hf9 hf10 hf11 hf12 i_kbpersons i_kbpapers i_kbstamps i_kbversions i_kblines i_kbsteps i_kbsayings i_kbfindings i_kbwarnings i_kbquestions i_kcpersons i_kcpapers i_kcstamps i_kcversions i_kclines i_kcsteps i_kcsayings i_kcfindings i_kcwarnings i_kcquestions i_kt i_ks i_kn i_kln i_ksp i_jr i_kr i_ytp i_yrm i_yjr i_tp i_cl i_tol i_ikp i_nw i_vw i_nk i_vk i_mb i_b6 i_sz i_sh i_sl i_sp i_sq i_sc i_sk i_epersons i_epapers i_estamps i_esayings i_efindings i_ewarnings i_equestions i_kpersons i_kpapers i_kstamps i_ksayings i_kfindings i_kwarnings i_kquestions hback hP hD hS hl
  refine Kan8 hC (fun hx hb hr hml hB hown hlocks hnm => ?_)
  refine lv_aload_n hx hb dL_law_974 rfl (lv_at2 hl) ?_
  refine lv_aload_n hx hb dL_law_975 rfl (lv_at3 hl) ?_
  refine lv_iload_n hx hb dL_law_976 rfl (lv_at0 hl) ?_
  refine lv_iconst (v := 1) hx hb dL_law_977 (by decide) ?_
  refine lv_iadd hx hb dL_law_978 ?_
  refine eqi (x1 := nI (ki + 1)) (nI_add ki 1) ?_
  refine va_sld hx hb hX hbl hbA hS (lw_in hL hki (by decide)) dL_law_979 ?_
  refine eqi (x1 := xs (ki + 1)) (congrArg xs (lw_cl hL hki (by decide))) ?_
  refine lv_aload_n hx hb dL_law_980 rfl (lv_at3 hl) ?_
  refine lv_iload_n hx hb dL_law_981 rfl (lv_at0 hl) ?_
  refine lv_iconst (v := 2) hx hb dL_law_982 (by decide) ?_
  refine lv_iadd hx hb dL_law_983 ?_
  refine eqi (x1 := nI (ki + 2)) (nI_add ki 2) ?_
  refine va_sld hx hb hX hbl hbA hS (lw_in hL hki (by decide)) dL_law_984 ?_
  refine eqi (x1 := xs (ki + 2)) (congrArg xs (lw_cl hL hki (by decide))) ?_
  refine lv_aload_n hx hb dL_law_985 rfl (lv_at3 hl) ?_
  refine lv_iload_n hx hb dL_law_986 rfl (lv_at0 hl) ?_
  refine lv_iconst (v := 3) hx hb dL_law_987 (by decide) ?_
  refine lv_iadd hx hb dL_law_988 ?_
  refine eqi (x1 := nI (ki + 3)) (nI_add ki 3) ?_
  refine va_sld hx hb hX hbl hbA hS (lw_in hL hki (by decide)) dL_law_989 ?_
  refine eqi (x1 := xs (ki + 3)) (congrArg xs (lw_cl hL hki (by decide))) ?_
  refine lv_aload_n hx hb dL_law_990 rfl (lv_at3 hl) ?_
  refine lv_iload_n hx hb dL_law_991 rfl (lv_at0 hl) ?_
  refine lv_iconst (v := 4) hx hb dL_law_992 (by decide) ?_
  refine lv_iadd hx hb dL_law_993 ?_
  refine eqi (x1 := nI (ki + 4)) (nI_add ki 4) ?_
  refine va_sld hx hb hX hbl hbA hS (lw_in hL hki (by decide)) dL_law_994 ?_
  refine eqi (x1 := xs (ki + 4)) (congrArg xs (lw_cl hL hki (by decide))) ?_
  refine lv_aload_n hx hb dL_law_995 rfl (lv_at3 hl) ?_
  refine lv_iload_n hx hb dL_law_996 rfl (lv_at0 hl) ?_
  refine lv_iconst (v := 5) hx hb dL_law_997 (by decide) ?_
  refine lv_iadd hx hb dL_law_998 ?_
  refine eqi (x1 := nI (ki + 5)) (nI_add ki 5) ?_
  refine va_sld hx hb hX hbl hbA hS (lw_in hL hki (by decide)) dL_law_999 ?_
  refine eqi (x1 := xs (ki + 5)) (congrArg xs (lw_cl hL hki (by decide))) ?_
  refine lv_if_eq (tgt := 1007) hx hb dL_law_1000 (by decide) (fun c_1000_9639 => ?_) (fun c_1000_9639 => ?_)
  · refine lv_iconst (v := 0) hx hb dL_law_1007 (by decide) ?_
    refine lv_aload_n hx hb dL_law_1008 rfl (lv_at3 hl) ?_
    refine lv_iload_n hx hb dL_law_1009 rfl (lv_at0 hl) ?_
    refine lv_bipush (v := 6) hx hb dL_law_1010 (by decide) ?_
    refine lv_iadd hx hb dL_law_1012 ?_
    refine eqi (x1 := nI (ki + 6)) (nI_add ki 6) ?_
    refine va_sld hx hb hX hbl hbA hS (lw_in hL hki (by decide)) dL_law_1013 ?_
    refine eqi (x1 := xs (ki + 6)) (congrArg xs (lw_cl hL hki (by decide))) ?_
    refine lk_iV hC hK hl hP hD hS hA (p_saying l G xb (xs (ki + 1)) (xs (ki + 2)) (xs (ki + 3)) (xs (ki + 4)) 0 (xs (ki + 6)) bb cc ikp sg do9 ru9 ta9 tp9 ro9 ho9 de9 bpersons bpapers bstamps bversions blines bsteps bsayings bfindings bwarnings bquestions td vd vl gp bsayingsc kbsayings fbsayings bpersonsc kbpersons bpapersc kbpapers (i_kbsayings) (i_kbpersons) (i_kbpapers) (i_sp)) si_L_103 [0, 1, 14, 15, 2, 4] [0, 1, 4, 5, 2, 3] [true, true, true, false, true, false, false, false, false, false, false, false, false, false, true, true, false, false, false, false, false, false, false, false, false, false, false, false, false, false, false, false, false, false, false, false, false, false, false, false, false, false, false, false, false, false, false, false, false, false, false, false, false, false, false, false, false, false, false, false, false, false, false, false, false, false, false, false, false, false, false, false, false, false, false, false, false, false, false, false, false, false, false, false, false, false, false, false, false, false, false, false, false, false, false, false, false, false, false, false, false, false, false, false, false, false, false, false, false, false, false, false, false, false, false, false, false, false, false, false, false, false, false] rfl rfl (by decide +kernel) (by decide +kernel) rfl rfl rfl rfl rfl (Nat.le_of_ble_eq_true rfl) ⟨Nat.le_of_ble_eq_true rfl, Nat.le_of_ble_eq_true rfl⟩ ⟨by first | exact Nat.le_of_ble_eq_true rfl | omega, by first | exact Nat.le_of_ble_eq_true rfl | omega⟩ dL_law_1014 (fun r9640 => Ktu2 fun k19642 gsayings9643 => ?_)
    intro H locs hr9640 hP2 hS
    try dsimp only at hr9640
    refine Kpdr (ws := (WLW G K hf xb bb cc sg do9 ru9 ta9 tp9 ro9 ho9 de9 bpersons bpapers bstamps bversions blines bsteps bsayings bfindings bwarnings bquestions bpersonsc bpapersc bstampsc bversionsc blinesc bstepsc bsayingsc bfindingsc bwarningsc bquestionsc cpersons cpapers cstamps cversions clines csteps csayings cfindings cwarnings cquestions cpersonsc cpapersc cstampsc cversionsc clinesc cstepsc csayingsc cfindingsc cwarningsc cquestionsc tby tln tsp tlnc tspc hs hz hi hw hn ht tr9 clk fi la ml mm sl sm clm hd kc0 km0 kc1 km1 kc2 km2 kc3 km3 kc4 km4 kc5 km5 kc6 km6 kc7 km7 kc8 km8 kc9 km9 kc10 km10 kc11 km11 kc12 km12 fc sh rr tc rrc xm nw nk nt nr nm ns nl nc nF np ntr nb nso nsi nit nsh nsf nss nrc kbpersons kbpapers kbstamps kbversions kblines kbsteps k19642 kbfindings kbwarnings kbquestions kcpersons kcpapers kcstamps kcversions kclines kcsteps kcsayings kcfindings kcwarnings kcquestions kt ks kn kln ksp jr kr ytp yrm yjr ikp td vd vl gp ktd kvd kvl kgp tkd tf9 dk dn dp da dq cl bo le bi r1 rc rh tf tt9 tl tbv asd st9 tol mroundOf mroundFrom mfromHour mtoHour mfrom mto msort misFault mdeep mcoded mlines mbestCost mdealer mnumber mwhose msize misParted fbpersons fbpapers fbstamps fbversions fblines fbsteps gsayings9643 fbfindings fbwarnings fbquestions fcpersons fcpapers fcstamps fcversions fclines fcsteps fcsayings fcfindings fcwarnings fcquestions fby ftln ftsp fhw fhn ftr fhs fhz fhi fclm ffi fla fml fmm fsl fsm fk0 fk1 fk2 fk3 fk4 fk5 fk6 fk7 fk8 fk9 fk10 fk11 fk12 ffc fsh frr ftc fht y_nw y_nk y_nt y_nr y_nm y_ns y_nl y_nc y_np y_ntr y_nb y_nso y_nsi y_nit y_nsh y_nsf y_nss y_nrc)) hP2 (lk_D hD rfl) (fun hP hD => ?_)
    obtain ⟨hr9640, w9644⟩ := hr9640
    obtain rfl := hr9640
    refine lv_pop hx hb dL_law_1017 rfl ?_
    refine lv_aload_n hx hb dL_law_1018 rfl (lv_at1 hl) ?_
    refine lv_aload_n hx hb dL_law_1019 rfl (lv_at3 hl) ?_
    refine lv_iload_n hx hb dL_law_1020 rfl (lv_at0 hl) ?_
    refine lv_iconst (v := 1) hx hb dL_law_1021 (by decide) ?_
    refine lv_iadd hx hb dL_law_1022 ?_
    refine eqi (x1 := nI (ki + 1)) (nI_add ki 1) ?_
    refine va_sld hx hb hX hbl hbA hS (lw_in hL hki (by decide)) dL_law_1023 ?_
    refine eqi (x1 := xs (ki + 1)) (congrArg xs (lw_cl hL hki (by decide))) ?_
    refine lv_aload_n hx hb dL_law_1024 rfl (lv_at3 hl) ?_
    refine lv_iload_n hx hb dL_law_1025 rfl (lv_at0 hl) ?_
    refine lv_iconst (v := 2) hx hb dL_law_1026 (by decide) ?_
    refine lv_iadd hx hb dL_law_1027 ?_
    refine eqi (x1 := nI (ki + 2)) (nI_add ki 2) ?_
    refine va_sld hx hb hX hbl hbA hS (lw_in hL hki (by decide)) dL_law_1028 ?_
    refine eqi (x1 := xs (ki + 2)) (congrArg xs (lw_cl hL hki (by decide))) ?_
    refine lv_aload_n hx hb dL_law_1029 rfl (lv_at3 hl) ?_
    refine lv_iload_n hx hb dL_law_1030 rfl (lv_at0 hl) ?_
    refine lv_iconst (v := 3) hx hb dL_law_1031 (by decide) ?_
    refine lv_iadd hx hb dL_law_1032 ?_
    refine eqi (x1 := nI (ki + 3)) (nI_add ki 3) ?_
    refine va_sld hx hb hX hbl hbA hS (lw_in hL hki (by decide)) dL_law_1033 ?_
    refine eqi (x1 := xs (ki + 3)) (congrArg xs (lw_cl hL hki (by decide))) ?_
    refine lv_aload_n hx hb dL_law_1034 rfl (lv_at3 hl) ?_
    refine lv_iload_n hx hb dL_law_1035 rfl (lv_at0 hl) ?_
    refine lv_iconst (v := 4) hx hb dL_law_1036 (by decide) ?_
    refine lv_iadd hx hb dL_law_1037 ?_
    refine eqi (x1 := nI (ki + 4)) (nI_add ki 4) ?_
    refine va_sld hx hb hX hbl hbA hS (lw_in hL hki (by decide)) dL_law_1038 ?_
    refine eqi (x1 := xs (ki + 4)) (congrArg xs (lw_cl hL hki (by decide))) ?_
    refine lv_aload_n hx hb dL_law_1039 rfl (lv_at3 hl) ?_
    refine lv_iload_n hx hb dL_law_1040 rfl (lv_at0 hl) ?_
    refine lv_iconst (v := 5) hx hb dL_law_1041 (by decide) ?_
    refine lv_iadd hx hb dL_law_1042 ?_
    refine eqi (x1 := nI (ki + 5)) (nI_add ki 5) ?_
    refine va_sld hx hb hX hbl hbA hS (lw_in hL hki (by decide)) dL_law_1043 ?_
    refine eqi (x1 := xs (ki + 5)) (congrArg xs (lw_cl hL hki (by decide))) ?_
    refine lv_if_eq (tgt := 1051) hx hb dL_law_1044 (by decide) (fun _ => ?_) (fun c9 => absurd (c_1000_9639) c9)
    refine lv_iconst (v := 0) hx hb dL_law_1051 (by decide) ?_
    refine lv_aload_n hx hb dL_law_1052 rfl (lv_at3 hl) ?_
    refine lv_iload_n hx hb dL_law_1053 rfl (lv_at0 hl) ?_
    refine lv_bipush (v := 6) hx hb dL_law_1054 (by decide) ?_
    refine lv_iadd hx hb dL_law_1056 ?_
    refine eqi (x1 := nI (ki + 6)) (nI_add ki 6) ?_
    refine va_sld hx hb hX hbl hbA hS (lw_in hL hki (by decide)) dL_law_1057 ?_
    refine eqi (x1 := xs (ki + 6)) (congrArg xs (lw_cl hL hki (by decide))) ?_
    refine lk_iV hC hK hl hP hD hS hA (w_saying l G kbpersons kbpapers kbsayings xm (xs (ki + 1)) (xs (ki + 2)) (xs (ki + 3)) (xs (ki + 4)) 0 (xs (ki + 6)) nw nk ikp nt (nI ytp) nr (nI yrm) mroundOf mroundFrom 0 nm mfromHour mtoHour ns mfrom mto msort misFault mdeep mcoded mlines nl nc nF np ntr nb mbestCost nso nsi nit nsh nsf nss nrc (nI yjr) mdealer mnumber mwhose msize misParted y_nw (i_sc.2.2.2.2.1) (i_kbpersons) (i_sc.2.2.2.2.2.1) (i_kbpapers) (i_sc.2.2.2.2.2.2.2.1) (i_kbsayings) (i_nw) (i_vw)) si_L_107 [103, 104] [0, 1] [false, false, false, false, false, false, false, false, false, false, false, false, false, false, false, false, false, false, false, false, false, false, false, false, false, false, false, false, false, false, false, false, false, false, false, false, false, false, false, false, false, false, false, false, false, false, false, false, false, false, false, false, false, false, false, false, false, false, false, false, false, false, false, false, false, false, false, false, false, false, false, false, false, false, false, false, false, false, false, false, false, false, false, false, false, false, false, false, false, false, false, false, false, false, false, false, false, false, false, false, false, false, false, true, true, false, false, false, false, false, false, false, false, false, false, false, false, false, false, false, false, false, false] rfl rfl (by decide +kernel) (by decide +kernel) rfl rfl rfl rfl rfl (Nat.le_of_ble_eq_true rfl) ⟨Nat.le_of_ble_eq_true rfl, Nat.le_of_ble_eq_true rfl⟩ ⟨by first | exact Nat.le_of_ble_eq_true rfl | omega, by first | exact Nat.le_of_ble_eq_true rfl | omega⟩ dL_law_1058 (fun r9646 gnw9648 H locs hr9646 hP2 hS => ?_)
    try dsimp only at hr9646
    refine Kpdr (ws := (WLW G K hf xb bb cc sg do9 ru9 ta9 tp9 ro9 ho9 de9 bpersons bpapers bstamps bversions blines bsteps bsayings bfindings bwarnings bquestions bpersonsc bpapersc bstampsc bversionsc blinesc bstepsc bsayingsc bfindingsc bwarningsc bquestionsc cpersons cpapers cstamps cversions clines csteps csayings cfindings cwarnings cquestions cpersonsc cpapersc cstampsc cversionsc clinesc cstepsc csayingsc cfindingsc cwarningsc cquestionsc tby tln tsp tlnc tspc hs hz hi hw hn ht tr9 clk fi la ml mm sl sm clm hd kc0 km0 kc1 km1 kc2 km2 kc3 km3 kc4 km4 kc5 km5 kc6 km6 kc7 km7 kc8 km8 kc9 km9 kc10 km10 kc11 km11 kc12 km12 fc sh rr tc rrc xm nw nk nt nr nm ns nl nc nF np ntr nb nso nsi nit nsh nsf nss nrc kbpersons kbpapers kbstamps kbversions kblines kbsteps k19642 kbfindings kbwarnings kbquestions kcpersons kcpapers kcstamps kcversions kclines kcsteps kcsayings kcfindings kcwarnings kcquestions kt ks kn kln ksp jr kr ytp yrm yjr ikp td vd vl gp ktd kvd kvl kgp tkd tf9 dk dn dp da dq cl bo le bi r1 rc rh tf tt9 tl tbv asd st9 tol mroundOf mroundFrom mfromHour mtoHour mfrom mto msort misFault mdeep mcoded mlines mbestCost mdealer mnumber mwhose msize misParted fbpersons fbpapers fbstamps fbversions fblines fbsteps gsayings9643 fbfindings fbwarnings fbquestions fcpersons fcpapers fcstamps fcversions fclines fcsteps fcsayings fcfindings fcwarnings fcquestions fby ftln ftsp fhw fhn ftr fhs fhz fhi fclm ffi fla fml fmm fsl fsm fk0 fk1 fk2 fk3 fk4 fk5 fk6 fk7 fk8 fk9 fk10 fk11 fk12 ffc fsh frr ftc fht gnw9648 y_nk y_nt y_nr y_nm y_ns y_nl y_nc y_np y_ntr y_nb y_nso y_nsi y_nit y_nsh y_nsf y_nss y_nrc)) hP2 (lk_D hD rfl) (fun hP hD => ?_)
    obtain ⟨hr9646, w9649⟩ := hr9646
    obtain rfl := hr9646
    refine lv_pop hx hb dL_law_1061 rfl ?_
    refine lv_goto (tgt := 1718) hx hb dL_law_1062 (by decide) ?_
    obtain ⟨z9651, z9652, z9653, z9654, z9655⟩ := w9644
    obtain ⟨z9656, z9657, z9658, z9659, z9660, z9661, z9662, z9663, z9664, z9665, z9666, z9667, z9668, z9669, z9670⟩ := w9649
    have hs_y_nw : SCX gnw9648 td vd vl gp (nI kbpersons) (nI kbpapers) (nI kbstamps) (nI k19642) (nI kbfindings) (nI kbwarnings) (nI kbquestions) := ⟨(z9658).trans (i_sc.1), (z9659).trans (i_sc.2.1), (z9660).trans (i_sc.2.2.1), (z9661).trans (i_sc.2.2.2.1), (z9662).trans (i_sc.2.2.2.2.1), (z9663).trans (i_sc.2.2.2.2.2.1), (z9664).trans (i_sc.2.2.2.2.2.2.1), (by rw [z9665, z9653, ifc_full (k := kbsayings) (R := 16) (by omega) (by decide)]; first | done | rfl), (z9666).trans (i_sc.2.2.2.2.2.2.2.2.1), (z9667).trans (i_sc.2.2.2.2.2.2.2.2.2.1), (z9668).trans (i_sc.2.2.2.2.2.2.2.2.2.2)⟩
    have he_persons : EQT gnw9648 12 20 fbpersons := EQT.fr i_epersons z9669 (by decide) (by decide)
    have he_papers : EQT gnw9648 32 72 fbpapers := EQT.fr i_epapers z9669 (by decide) (by decide)
    have he_stamps : EQT gnw9648 104 72 fbstamps := EQT.fr i_estamps z9669 (by decide) (by decide)
    have he_sayings : EQT gnw9648 1424 128 gsayings9643 := fun i hi9 => by rw [z9670 i hi9, z9655 i, ifc_full (k := kbsayings) (R := 16) (by omega) (by decide), i_esayings i hi9, rowu_congr (f := shf y_nw 1424) (g := fbsayings) (n := 128) _ i_esayings i hi9, i_sc.1]; first | done | rfl
    have he_findings : EQT gnw9648 1552 48 fbfindings := EQT.fr i_efindings z9669 (by decide) (by decide)
    have he_warnings : EQT gnw9648 1600 48 fbwarnings := EQT.fr i_ewarnings z9669 (by decide) (by decide)
    have he_questions : EQT gnw9648 1648 14 fbquestions := EQT.fr i_equestions z9669 (by decide) (by decide)
    exact hback kbpersons kbpapers kbstamps kbversions kblines kbsteps k19642 kbfindings kbwarnings kbquestions kcpersons kcpapers kcstamps kcversions kclines kcsteps kcsayings kcfindings kcwarnings kcquestions kt ks kn kln ksp jr kr ytp yrm yjr ikp td vd vl gp ktd kvd kvl kgp tkd tf9 dk dn dp da dq cl bo le bi r1 rc rh tf tt9 tl tbv asd st9 tol mroundOf mroundFrom mfromHour mtoHour mfrom mto msort misFault mdeep mcoded mlines mbestCost mdealer mnumber mwhose msize misParted fbpersons fbpapers fbstamps fbversions fblines fbsteps gsayings9643 fbfindings fbwarnings fbquestions fcpersons fcpapers fcstamps fcversions fclines fcsteps fcsayings fcfindings fcwarnings fcquestions fby ftln ftsp fhw fhn ftr fhs fhz fhi fclm ffi fla fml fmm fsl fsm fk0 fk1 fk2 fk3 fk4 fk5 fk6 fk7 fk8 fk9 fk10 fk11 fk12 ffc fsh frr ftc fht gnw9648 y_nk y_nt y_nr y_nm y_ns y_nl y_nc y_np y_ntr y_nb y_nso y_nsi y_nit y_nsh y_nsf y_nss y_nrc H locs ls i_kbpersons i_kbpapers i_kbstamps i_kbversions i_kblines i_kbsteps (by first | assumption | omega | exact Or.inl rfl | exact Or.inr rfl) i_kbfindings i_kbwarnings i_kbquestions i_kcpersons i_kcpapers i_kcstamps i_kcversions i_kclines i_kcsteps i_kcsayings i_kcfindings i_kcwarnings i_kcquestions i_kt i_ks i_kn i_kln i_ksp i_jr i_kr i_ytp i_yrm i_yjr i_tp i_cl i_tol i_ikp (by first | assumption | omega | exact Or.inl rfl | exact Or.inr rfl) (by first | assumption | omega | exact Or.inl rfl | exact Or.inr rfl) i_nk i_vk i_mb i_b6 i_sz i_sh i_sl (by first | assumption | omega | exact Or.inl rfl | exact Or.inr rfl) i_sq (by first | assumption | omega | exact Or.inl rfl | exact Or.inr rfl) i_sk (by first | assumption | omega | exact Or.inl rfl | exact Or.inr rfl) (by first | assumption | omega | exact Or.inl rfl | exact Or.inr rfl) (by first | assumption | omega | exact Or.inl rfl | exact Or.inr rfl) (by first | assumption | omega | exact Or.inl rfl | exact Or.inr rfl) (by first | assumption | omega | exact Or.inl rfl | exact Or.inr rfl) (by first | assumption | omega | exact Or.inl rfl | exact Or.inr rfl) (by first | assumption | omega | exact Or.inl rfl | exact Or.inr rfl) i_kpersons i_kpapers i_kstamps i_ksayings i_kfindings i_kwarnings i_kquestions hP hD hS (lv_sub hl [0, 1, 2, 3] rfl)
  · refine lv_iconst (v := 1) hx hb dL_law_1003 (by decide) ?_
    refine lv_goto (tgt := 1008) hx hb dL_law_1004 (by decide) ?_
    refine lv_aload_n hx hb dL_law_1008 rfl (lv_at3 hl) ?_
    refine lv_iload_n hx hb dL_law_1009 rfl (lv_at0 hl) ?_
    refine lv_bipush (v := 6) hx hb dL_law_1010 (by decide) ?_
    refine lv_iadd hx hb dL_law_1012 ?_
    refine eqi (x1 := nI (ki + 6)) (nI_add ki 6) ?_
    refine va_sld hx hb hX hbl hbA hS (lw_in hL hki (by decide)) dL_law_1013 ?_
    refine eqi (x1 := xs (ki + 6)) (congrArg xs (lw_cl hL hki (by decide))) ?_
    refine lk_iV hC hK hl hP hD hS hA (p_saying l G xb (xs (ki + 1)) (xs (ki + 2)) (xs (ki + 3)) (xs (ki + 4)) 1 (xs (ki + 6)) bb cc ikp sg do9 ru9 ta9 tp9 ro9 ho9 de9 bpersons bpapers bstamps bversions blines bsteps bsayings bfindings bwarnings bquestions td vd vl gp bsayingsc kbsayings fbsayings bpersonsc kbpersons bpapersc kbpapers (i_kbsayings) (i_kbpersons) (i_kbpapers) (i_sp)) si_L_103 [0, 1, 14, 15, 2, 4] [0, 1, 4, 5, 2, 3] [true, true, true, false, true, false, false, false, false, false, false, false, false, false, true, true, false, false, false, false, false, false, false, false, false, false, false, false, false, false, false, false, false, false, false, false, false, false, false, false, false, false, false, false, false, false, false, false, false, false, false, false, false, false, false, false, false, false, false, false, false, false, false, false, false, false, false, false, false, false, false, false, false, false, false, false, false, false, false, false, false, false, false, false, false, false, false, false, false, false, false, false, false, false, false, false, false, false, false, false, false, false, false, false, false, false, false, false, false, false, false, false, false, false, false, false, false, false, false, false, false, false, false] rfl rfl (by decide +kernel) (by decide +kernel) rfl rfl rfl rfl rfl (Nat.le_of_ble_eq_true rfl) ⟨Nat.le_of_ble_eq_true rfl, Nat.le_of_ble_eq_true rfl⟩ ⟨by first | exact Nat.le_of_ble_eq_true rfl | omega, by first | exact Nat.le_of_ble_eq_true rfl | omega⟩ dL_law_1014 (fun r9671 => Ktu2 fun k19673 gsayings9674 => ?_)
    intro H locs hr9671 hP2 hS
    try dsimp only at hr9671
    refine Kpdr (ws := (WLW G K hf xb bb cc sg do9 ru9 ta9 tp9 ro9 ho9 de9 bpersons bpapers bstamps bversions blines bsteps bsayings bfindings bwarnings bquestions bpersonsc bpapersc bstampsc bversionsc blinesc bstepsc bsayingsc bfindingsc bwarningsc bquestionsc cpersons cpapers cstamps cversions clines csteps csayings cfindings cwarnings cquestions cpersonsc cpapersc cstampsc cversionsc clinesc cstepsc csayingsc cfindingsc cwarningsc cquestionsc tby tln tsp tlnc tspc hs hz hi hw hn ht tr9 clk fi la ml mm sl sm clm hd kc0 km0 kc1 km1 kc2 km2 kc3 km3 kc4 km4 kc5 km5 kc6 km6 kc7 km7 kc8 km8 kc9 km9 kc10 km10 kc11 km11 kc12 km12 fc sh rr tc rrc xm nw nk nt nr nm ns nl nc nF np ntr nb nso nsi nit nsh nsf nss nrc kbpersons kbpapers kbstamps kbversions kblines kbsteps k19673 kbfindings kbwarnings kbquestions kcpersons kcpapers kcstamps kcversions kclines kcsteps kcsayings kcfindings kcwarnings kcquestions kt ks kn kln ksp jr kr ytp yrm yjr ikp td vd vl gp ktd kvd kvl kgp tkd tf9 dk dn dp da dq cl bo le bi r1 rc rh tf tt9 tl tbv asd st9 tol mroundOf mroundFrom mfromHour mtoHour mfrom mto msort misFault mdeep mcoded mlines mbestCost mdealer mnumber mwhose msize misParted fbpersons fbpapers fbstamps fbversions fblines fbsteps gsayings9674 fbfindings fbwarnings fbquestions fcpersons fcpapers fcstamps fcversions fclines fcsteps fcsayings fcfindings fcwarnings fcquestions fby ftln ftsp fhw fhn ftr fhs fhz fhi fclm ffi fla fml fmm fsl fsm fk0 fk1 fk2 fk3 fk4 fk5 fk6 fk7 fk8 fk9 fk10 fk11 fk12 ffc fsh frr ftc fht y_nw y_nk y_nt y_nr y_nm y_ns y_nl y_nc y_np y_ntr y_nb y_nso y_nsi y_nit y_nsh y_nsf y_nss y_nrc)) hP2 (lk_D hD rfl) (fun hP hD => ?_)
    obtain ⟨hr9671, w9675⟩ := hr9671
    obtain rfl := hr9671
    refine lv_pop hx hb dL_law_1017 rfl ?_
    refine lv_aload_n hx hb dL_law_1018 rfl (lv_at1 hl) ?_
    refine lv_aload_n hx hb dL_law_1019 rfl (lv_at3 hl) ?_
    refine lv_iload_n hx hb dL_law_1020 rfl (lv_at0 hl) ?_
    refine lv_iconst (v := 1) hx hb dL_law_1021 (by decide) ?_
    refine lv_iadd hx hb dL_law_1022 ?_
    refine eqi (x1 := nI (ki + 1)) (nI_add ki 1) ?_
    refine va_sld hx hb hX hbl hbA hS (lw_in hL hki (by decide)) dL_law_1023 ?_
    refine eqi (x1 := xs (ki + 1)) (congrArg xs (lw_cl hL hki (by decide))) ?_
    refine lv_aload_n hx hb dL_law_1024 rfl (lv_at3 hl) ?_
    refine lv_iload_n hx hb dL_law_1025 rfl (lv_at0 hl) ?_
    refine lv_iconst (v := 2) hx hb dL_law_1026 (by decide) ?_
    refine lv_iadd hx hb dL_law_1027 ?_
    refine eqi (x1 := nI (ki + 2)) (nI_add ki 2) ?_
    refine va_sld hx hb hX hbl hbA hS (lw_in hL hki (by decide)) dL_law_1028 ?_
    refine eqi (x1 := xs (ki + 2)) (congrArg xs (lw_cl hL hki (by decide))) ?_
    refine lv_aload_n hx hb dL_law_1029 rfl (lv_at3 hl) ?_
    refine lv_iload_n hx hb dL_law_1030 rfl (lv_at0 hl) ?_
    refine lv_iconst (v := 3) hx hb dL_law_1031 (by decide) ?_
    refine lv_iadd hx hb dL_law_1032 ?_
    refine eqi (x1 := nI (ki + 3)) (nI_add ki 3) ?_
    refine va_sld hx hb hX hbl hbA hS (lw_in hL hki (by decide)) dL_law_1033 ?_
    refine eqi (x1 := xs (ki + 3)) (congrArg xs (lw_cl hL hki (by decide))) ?_
    refine lv_aload_n hx hb dL_law_1034 rfl (lv_at3 hl) ?_
    refine lv_iload_n hx hb dL_law_1035 rfl (lv_at0 hl) ?_
    refine lv_iconst (v := 4) hx hb dL_law_1036 (by decide) ?_
    refine lv_iadd hx hb dL_law_1037 ?_
    refine eqi (x1 := nI (ki + 4)) (nI_add ki 4) ?_
    refine va_sld hx hb hX hbl hbA hS (lw_in hL hki (by decide)) dL_law_1038 ?_
    refine eqi (x1 := xs (ki + 4)) (congrArg xs (lw_cl hL hki (by decide))) ?_
    refine lv_aload_n hx hb dL_law_1039 rfl (lv_at3 hl) ?_
    refine lv_iload_n hx hb dL_law_1040 rfl (lv_at0 hl) ?_
    refine lv_iconst (v := 5) hx hb dL_law_1041 (by decide) ?_
    refine lv_iadd hx hb dL_law_1042 ?_
    refine eqi (x1 := nI (ki + 5)) (nI_add ki 5) ?_
    refine va_sld hx hb hX hbl hbA hS (lw_in hL hki (by decide)) dL_law_1043 ?_
    refine eqi (x1 := xs (ki + 5)) (congrArg xs (lw_cl hL hki (by decide))) ?_
    refine lv_if_eq (tgt := 1051) hx hb dL_law_1044 (by decide) (fun c9 => absurd c9 (c_1000_9639)) (fun _ => ?_)
    refine lv_iconst (v := 1) hx hb dL_law_1047 (by decide) ?_
    refine lv_goto (tgt := 1052) hx hb dL_law_1048 (by decide) ?_
    refine lv_aload_n hx hb dL_law_1052 rfl (lv_at3 hl) ?_
    refine lv_iload_n hx hb dL_law_1053 rfl (lv_at0 hl) ?_
    refine lv_bipush (v := 6) hx hb dL_law_1054 (by decide) ?_
    refine lv_iadd hx hb dL_law_1056 ?_
    refine eqi (x1 := nI (ki + 6)) (nI_add ki 6) ?_
    refine va_sld hx hb hX hbl hbA hS (lw_in hL hki (by decide)) dL_law_1057 ?_
    refine eqi (x1 := xs (ki + 6)) (congrArg xs (lw_cl hL hki (by decide))) ?_
    refine lk_iV hC hK hl hP hD hS hA (w_saying l G kbpersons kbpapers kbsayings xm (xs (ki + 1)) (xs (ki + 2)) (xs (ki + 3)) (xs (ki + 4)) 1 (xs (ki + 6)) nw nk ikp nt (nI ytp) nr (nI yrm) mroundOf mroundFrom 0 nm mfromHour mtoHour ns mfrom mto msort misFault mdeep mcoded mlines nl nc nF np ntr nb mbestCost nso nsi nit nsh nsf nss nrc (nI yjr) mdealer mnumber mwhose msize misParted y_nw (i_sc.2.2.2.2.1) (i_kbpersons) (i_sc.2.2.2.2.2.1) (i_kbpapers) (i_sc.2.2.2.2.2.2.2.1) (i_kbsayings) (i_nw) (i_vw)) si_L_107 [103, 104] [0, 1] [false, false, false, false, false, false, false, false, false, false, false, false, false, false, false, false, false, false, false, false, false, false, false, false, false, false, false, false, false, false, false, false, false, false, false, false, false, false, false, false, false, false, false, false, false, false, false, false, false, false, false, false, false, false, false, false, false, false, false, false, false, false, false, false, false, false, false, false, false, false, false, false, false, false, false, false, false, false, false, false, false, false, false, false, false, false, false, false, false, false, false, false, false, false, false, false, false, false, false, false, false, false, false, true, true, false, false, false, false, false, false, false, false, false, false, false, false, false, false, false, false, false, false] rfl rfl (by decide +kernel) (by decide +kernel) rfl rfl rfl rfl rfl (Nat.le_of_ble_eq_true rfl) ⟨Nat.le_of_ble_eq_true rfl, Nat.le_of_ble_eq_true rfl⟩ ⟨by first | exact Nat.le_of_ble_eq_true rfl | omega, by first | exact Nat.le_of_ble_eq_true rfl | omega⟩ dL_law_1058 (fun r9677 gnw9679 H locs hr9677 hP2 hS => ?_)
    try dsimp only at hr9677
    refine Kpdr (ws := (WLW G K hf xb bb cc sg do9 ru9 ta9 tp9 ro9 ho9 de9 bpersons bpapers bstamps bversions blines bsteps bsayings bfindings bwarnings bquestions bpersonsc bpapersc bstampsc bversionsc blinesc bstepsc bsayingsc bfindingsc bwarningsc bquestionsc cpersons cpapers cstamps cversions clines csteps csayings cfindings cwarnings cquestions cpersonsc cpapersc cstampsc cversionsc clinesc cstepsc csayingsc cfindingsc cwarningsc cquestionsc tby tln tsp tlnc tspc hs hz hi hw hn ht tr9 clk fi la ml mm sl sm clm hd kc0 km0 kc1 km1 kc2 km2 kc3 km3 kc4 km4 kc5 km5 kc6 km6 kc7 km7 kc8 km8 kc9 km9 kc10 km10 kc11 km11 kc12 km12 fc sh rr tc rrc xm nw nk nt nr nm ns nl nc nF np ntr nb nso nsi nit nsh nsf nss nrc kbpersons kbpapers kbstamps kbversions kblines kbsteps k19673 kbfindings kbwarnings kbquestions kcpersons kcpapers kcstamps kcversions kclines kcsteps kcsayings kcfindings kcwarnings kcquestions kt ks kn kln ksp jr kr ytp yrm yjr ikp td vd vl gp ktd kvd kvl kgp tkd tf9 dk dn dp da dq cl bo le bi r1 rc rh tf tt9 tl tbv asd st9 tol mroundOf mroundFrom mfromHour mtoHour mfrom mto msort misFault mdeep mcoded mlines mbestCost mdealer mnumber mwhose msize misParted fbpersons fbpapers fbstamps fbversions fblines fbsteps gsayings9674 fbfindings fbwarnings fbquestions fcpersons fcpapers fcstamps fcversions fclines fcsteps fcsayings fcfindings fcwarnings fcquestions fby ftln ftsp fhw fhn ftr fhs fhz fhi fclm ffi fla fml fmm fsl fsm fk0 fk1 fk2 fk3 fk4 fk5 fk6 fk7 fk8 fk9 fk10 fk11 fk12 ffc fsh frr ftc fht gnw9679 y_nk y_nt y_nr y_nm y_ns y_nl y_nc y_np y_ntr y_nb y_nso y_nsi y_nit y_nsh y_nsf y_nss y_nrc)) hP2 (lk_D hD rfl) (fun hP hD => ?_)
    obtain ⟨hr9677, w9680⟩ := hr9677
    obtain rfl := hr9677
    refine lv_pop hx hb dL_law_1061 rfl ?_
    refine lv_goto (tgt := 1718) hx hb dL_law_1062 (by decide) ?_
    obtain ⟨z9682, z9683, z9684, z9685, z9686⟩ := w9675
    obtain ⟨z9687, z9688, z9689, z9690, z9691, z9692, z9693, z9694, z9695, z9696, z9697, z9698, z9699, z9700, z9701⟩ := w9680
    have hs_y_nw : SCX gnw9679 td vd vl gp (nI kbpersons) (nI kbpapers) (nI kbstamps) (nI k19673) (nI kbfindings) (nI kbwarnings) (nI kbquestions) := ⟨(z9689).trans (i_sc.1), (z9690).trans (i_sc.2.1), (z9691).trans (i_sc.2.2.1), (z9692).trans (i_sc.2.2.2.1), (z9693).trans (i_sc.2.2.2.2.1), (z9694).trans (i_sc.2.2.2.2.2.1), (z9695).trans (i_sc.2.2.2.2.2.2.1), (by rw [z9696, z9684, ifc_full (k := kbsayings) (R := 16) (by omega) (by decide)]; first | done | rfl), (z9697).trans (i_sc.2.2.2.2.2.2.2.2.1), (z9698).trans (i_sc.2.2.2.2.2.2.2.2.2.1), (z9699).trans (i_sc.2.2.2.2.2.2.2.2.2.2)⟩
    have he_persons : EQT gnw9679 12 20 fbpersons := EQT.fr i_epersons z9700 (by decide) (by decide)
    have he_papers : EQT gnw9679 32 72 fbpapers := EQT.fr i_epapers z9700 (by decide) (by decide)
    have he_stamps : EQT gnw9679 104 72 fbstamps := EQT.fr i_estamps z9700 (by decide) (by decide)
    have he_sayings : EQT gnw9679 1424 128 gsayings9674 := fun i hi9 => by rw [z9701 i hi9, z9686 i, ifc_full (k := kbsayings) (R := 16) (by omega) (by decide), i_esayings i hi9, rowu_congr (f := shf y_nw 1424) (g := fbsayings) (n := 128) _ i_esayings i hi9, i_sc.1]; first | done | rfl
    have he_findings : EQT gnw9679 1552 48 fbfindings := EQT.fr i_efindings z9700 (by decide) (by decide)
    have he_warnings : EQT gnw9679 1600 48 fbwarnings := EQT.fr i_ewarnings z9700 (by decide) (by decide)
    have he_questions : EQT gnw9679 1648 14 fbquestions := EQT.fr i_equestions z9700 (by decide) (by decide)
    exact hback kbpersons kbpapers kbstamps kbversions kblines kbsteps k19673 kbfindings kbwarnings kbquestions kcpersons kcpapers kcstamps kcversions kclines kcsteps kcsayings kcfindings kcwarnings kcquestions kt ks kn kln ksp jr kr ytp yrm yjr ikp td vd vl gp ktd kvd kvl kgp tkd tf9 dk dn dp da dq cl bo le bi r1 rc rh tf tt9 tl tbv asd st9 tol mroundOf mroundFrom mfromHour mtoHour mfrom mto msort misFault mdeep mcoded mlines mbestCost mdealer mnumber mwhose msize misParted fbpersons fbpapers fbstamps fbversions fblines fbsteps gsayings9674 fbfindings fbwarnings fbquestions fcpersons fcpapers fcstamps fcversions fclines fcsteps fcsayings fcfindings fcwarnings fcquestions fby ftln ftsp fhw fhn ftr fhs fhz fhi fclm ffi fla fml fmm fsl fsm fk0 fk1 fk2 fk3 fk4 fk5 fk6 fk7 fk8 fk9 fk10 fk11 fk12 ffc fsh frr ftc fht gnw9679 y_nk y_nt y_nr y_nm y_ns y_nl y_nc y_np y_ntr y_nb y_nso y_nsi y_nit y_nsh y_nsf y_nss y_nrc H locs ls i_kbpersons i_kbpapers i_kbstamps i_kbversions i_kblines i_kbsteps (by first | assumption | omega | exact Or.inl rfl | exact Or.inr rfl) i_kbfindings i_kbwarnings i_kbquestions i_kcpersons i_kcpapers i_kcstamps i_kcversions i_kclines i_kcsteps i_kcsayings i_kcfindings i_kcwarnings i_kcquestions i_kt i_ks i_kn i_kln i_ksp i_jr i_kr i_ytp i_yrm i_yjr i_tp i_cl i_tol i_ikp (by first | assumption | omega | exact Or.inl rfl | exact Or.inr rfl) (by first | assumption | omega | exact Or.inl rfl | exact Or.inr rfl) i_nk i_vk i_mb i_b6 i_sz i_sh i_sl (by first | assumption | omega | exact Or.inl rfl | exact Or.inr rfl) i_sq (by first | assumption | omega | exact Or.inl rfl | exact Or.inr rfl) i_sk (by first | assumption | omega | exact Or.inl rfl | exact Or.inr rfl) (by first | assumption | omega | exact Or.inl rfl | exact Or.inr rfl) (by first | assumption | omega | exact Or.inl rfl | exact Or.inr rfl) (by first | assumption | omega | exact Or.inl rfl | exact Or.inr rfl) (by first | assumption | omega | exact Or.inl rfl | exact Or.inr rfl) (by first | assumption | omega | exact Or.inl rfl | exact Or.inr rfl) (by first | assumption | omega | exact Or.inl rfl | exact Or.inr rfl) i_kpersons i_kpapers i_kstamps i_ksayings i_kfindings i_kwarnings i_kquestions hP hD hS (lv_sub hl [0, 1, 2, 3] rfl)
set_option maxHeartbeats 8000000 in
set_option maxRecDepth 100000 in
theorem law_21 : LAWC 1065 := by
  intro p l e s m below meth c b L xs G K A hf xb bb cc sg do9 ru9 ta9 tp9 ro9 ho9 de9 bpersons bpapers bstamps bversions blines bsteps bsayings bfindings bwarnings bquestions bpersonsc bpapersc bstampsc bversionsc blinesc bstepsc bsayingsc bfindingsc bwarningsc bquestionsc cpersons cpapers cstamps cversions clines csteps csayings cfindings cwarnings cquestions cpersonsc cpapersc cstampsc cversionsc clinesc cstepsc csayingsc cfindingsc cwarningsc cquestionsc tby tln tsp tlnc tspc hs hz hi hw hn ht tr9 clk fi la ml mm sl sm clm hd kc0 km0 kc1 km1 kc2 km2 kc3 km3 kc4 km4 kc5 km5 kc6 km6 kc7 km7 kc8 km8 kc9 km9 kc10 km10 kc11 km11 kc12 km12 fc sh rr tc rrc xm nw nk nt nr nm ns nl nc nF np ntr nb nso nsi nit nsh nsf nss nrc kbpersons kbpapers kbstamps kbversions kblines kbsteps kbsayings kbfindings kbwarnings kbquestions kcpersons kcpapers kcstamps kcversions kclines kcsteps kcsayings kcfindings kcwarnings kcquestions kt ks kn kln ksp jr kr ytp yrm yjr ikp td vd vl gp ktd kvd kvl kgp tkd tf9 dk dn dp da dq cl bo le bi r1 rc rh tf tt9 tl tbv asd st9 tol mroundOf mroundFrom mfromHour mtoHour mfrom mto msort misFault mdeep mcoded mlines mbestCost mdealer mnumber mwhose msize misParted fbpersons fbpapers fbstamps fbversions fblines fbsteps fbsayings fbfindings fbwarnings fbquestions fcpersons fcpapers fcstamps fcversions fclines fcsteps fcsayings fcfindings fcwarnings fcquestions fby ftln ftsp fhw fhn ftr fhs fhz fhi fclm ffi fla fml fmm fsl fsm fk0 fk1 fk2 fk3 fk4 fk5 fk6 fk7 fk8 fk9 fk10 fk11 fk12 ffc fsh frr ftc fht y_nw y_nk y_nt y_nr y_nm y_ns y_nl y_nc y_np y_ntr y_nb y_nso y_nsi y_nit y_nsh y_nsf y_nss y_nrc H locs ls ki hC hK hO hX hL hbl hbA hA hA2 hki hf0 hf1 hf2 hf3 hf4 hf5 hf6 hf7 hf8 hf9 hf10 hf11 hf12 i_kbpersons i_kbpapers i_kbstamps i_kbversions i_kblines i_kbsteps i_kbsayings i_kbfindings i_kbwarnings i_kbquestions i_kcpersons i_kcpapers i_kcstamps i_kcversions i_kclines i_kcsteps i_kcsayings i_kcfindings i_kcwarnings i_kcquestions i_kt i_ks i_kn i_kln i_ksp i_jr i_kr i_ytp i_yrm i_yjr i_tp i_cl i_tol i_ikp i_nw i_vw i_nk i_vk i_mb i_b6 i_sz i_sh i_sl i_sp i_sq i_sc i_sk i_epersons i_epapers i_estamps i_esayings i_efindings i_ewarnings i_equestions i_kpersons i_kpapers i_kstamps i_ksayings i_kfindings i_kwarnings i_kquestions hback hP hD hS hl
  refine Kan8 hC (fun hx hb hr hml hB hown hlocks hnm => ?_)
  refine lv_aload_n hx hb dL_law_1065 rfl (lv_at2 hl) ?_
  refine lv_aload_n hx hb dL_law_1066 rfl (lv_at3 hl) ?_
  refine lv_iload_n hx hb dL_law_1067 rfl (lv_at0 hl) ?_
  refine lv_iconst (v := 1) hx hb dL_law_1068 (by decide) ?_
  refine lv_iadd hx hb dL_law_1069 ?_
  refine eqi (x1 := nI (ki + 1)) (nI_add ki 1) ?_
  refine va_sld hx hb hX hbl hbA hS (lw_in hL hki (by decide)) dL_law_1070 ?_
  refine eqi (x1 := xs (ki + 1)) (congrArg xs (lw_cl hL hki (by decide))) ?_
  refine lv_aload_n hx hb dL_law_1071 rfl (lv_at3 hl) ?_
  refine lv_iload_n hx hb dL_law_1072 rfl (lv_at0 hl) ?_
  refine lv_iconst (v := 2) hx hb dL_law_1073 (by decide) ?_
  refine lv_iadd hx hb dL_law_1074 ?_
  refine eqi (x1 := nI (ki + 2)) (nI_add ki 2) ?_
  refine va_sld hx hb hX hbl hbA hS (lw_in hL hki (by decide)) dL_law_1075 ?_
  refine eqi (x1 := xs (ki + 2)) (congrArg xs (lw_cl hL hki (by decide))) ?_
  refine lv_aload_n hx hb dL_law_1076 rfl (lv_at3 hl) ?_
  refine lv_iload_n hx hb dL_law_1077 rfl (lv_at0 hl) ?_
  refine lv_iconst (v := 3) hx hb dL_law_1078 (by decide) ?_
  refine lv_iadd hx hb dL_law_1079 ?_
  refine eqi (x1 := nI (ki + 3)) (nI_add ki 3) ?_
  refine va_sld hx hb hX hbl hbA hS (lw_in hL hki (by decide)) dL_law_1080 ?_
  refine eqi (x1 := xs (ki + 3)) (congrArg xs (lw_cl hL hki (by decide))) ?_
  refine lk_iV hC hK hl hP hD hS hA (p_quarrel l G xb (xs (ki + 1)) (xs (ki + 2)) (xs (ki + 3)) bb cc ikp sg do9 ru9 ta9 tp9 ro9 ho9 de9 clk fi la ml mm sl sm cl clm fclm ffi fla fml fmm fsl fsm tf tt9 tl tbv bpersons bpapers bstamps bversions blines bsteps bsayings bfindings bwarnings bquestions td vd vl gp bpapersc kbpapers fbpapers bpersonsc kbpersons fbpersons bsayingsc kbsayings fbsayings bstampsc kbstamps fbstamps (i_kbpapers) (i_kbpersons) (i_kbsayings) (i_kbstamps) (i_cl)) si_L_108 [0, 57, 58, 59, 60, 61, 62, 63, 64, 65, 97, 1, 4, 5, 2, 3, 14, 15, 6, 7] [0, 11, 14, 15, 12, 13, 18, 19, 16, 17, 1, 2, 3, 4, 5, 6, 7, 8, 9, 10] [true, true, true, true, true, true, true, true, false, false, false, false, false, false, true, true, false, false, false, false, false, false, false, false, false, false, false, false, false, false, false, false, false, false, false, false, false, false, false, false, false, false, false, false, false, false, false, false, false, false, false, false, false, false, false, false, false, true, true, true, true, true, true, true, true, true, false, false, false, false, false, false, false, false, false, false, false, false, false, false, false, false, false, false, false, false, false, false, false, false, false, false, false, false, false, false, false, true, false, false, false, false, false, false, false, false, false, false, false, false, false, false, false, false, false, false, false, false, false, false, false, false, false] rfl rfl (by decide +kernel) (by decide +kernel) rfl rfl rfl rfl rfl (Nat.le_of_ble_eq_true rfl) ⟨Nat.le_of_ble_eq_true rfl, Nat.le_of_ble_eq_true rfl⟩ ⟨by first | exact Nat.le_of_ble_eq_true rfl | omega, by first | exact Nat.le_of_ble_eq_true rfl | omega⟩ dL_law_1081 (fun r9702 => Ktu12 fun cl19704 gclm9705 gfi9706 gla9707 gml9708 gmm9709 gsl9710 gsm9711 tf19712 tt19713 tl19714 tb19715 => ?_)
  intro H locs hr9702 hP2 hS
  try dsimp only at hr9702
  refine Kpdr (ws := (WLW G K hf xb bb cc sg do9 ru9 ta9 tp9 ro9 ho9 de9 bpersons bpapers bstamps bversions blines bsteps bsayings bfindings bwarnings bquestions bpersonsc bpapersc bstampsc bversionsc blinesc bstepsc bsayingsc bfindingsc bwarningsc bquestionsc cpersons cpapers cstamps cversions clines csteps csayings cfindings cwarnings cquestions cpersonsc cpapersc cstampsc cversionsc clinesc cstepsc csayingsc cfindingsc cwarningsc cquestionsc tby tln tsp tlnc tspc hs hz hi hw hn ht tr9 clk fi la ml mm sl sm clm hd kc0 km0 kc1 km1 kc2 km2 kc3 km3 kc4 km4 kc5 km5 kc6 km6 kc7 km7 kc8 km8 kc9 km9 kc10 km10 kc11 km11 kc12 km12 fc sh rr tc rrc xm nw nk nt nr nm ns nl nc nF np ntr nb nso nsi nit nsh nsf nss nrc kbpersons kbpapers kbstamps kbversions kblines kbsteps kbsayings kbfindings kbwarnings kbquestions kcpersons kcpapers kcstamps kcversions kclines kcsteps kcsayings kcfindings kcwarnings kcquestions kt ks kn kln ksp jr kr ytp yrm yjr ikp td vd vl gp ktd kvd kvl kgp tkd tf9 dk dn dp da dq cl19704 bo le bi r1 rc rh tf19712 tt19713 tl19714 tb19715 asd st9 tol mroundOf mroundFrom mfromHour mtoHour mfrom mto msort misFault mdeep mcoded mlines mbestCost mdealer mnumber mwhose msize misParted fbpersons fbpapers fbstamps fbversions fblines fbsteps fbsayings fbfindings fbwarnings fbquestions fcpersons fcpapers fcstamps fcversions fclines fcsteps fcsayings fcfindings fcwarnings fcquestions fby ftln ftsp fhw fhn ftr fhs fhz fhi gclm9705 gfi9706 gla9707 gml9708 gmm9709 gsl9710 gsm9711 fk0 fk1 fk2 fk3 fk4 fk5 fk6 fk7 fk8 fk9 fk10 fk11 fk12 ffc fsh frr ftc fht y_nw y_nk y_nt y_nr y_nm y_ns y_nl y_nc y_np y_ntr y_nb y_nso y_nsi y_nit y_nsh y_nsf y_nss y_nrc)) hP2 (lk_D hD rfl) (fun hP hD => ?_)
  obtain ⟨hr9702, w9716⟩ := hr9702
  refine lv_pop hx hb dL_law_1084 rfl ?_
  refine lv_aload_n hx hb dL_law_1085 rfl (lv_at1 hl) ?_
  refine lv_aload_n hx hb dL_law_1086 rfl (lv_at3 hl) ?_
  refine lv_iload_n hx hb dL_law_1087 rfl (lv_at0 hl) ?_
  refine lv_iconst (v := 1) hx hb dL_law_1088 (by decide) ?_
  refine lv_iadd hx hb dL_law_1089 ?_
  refine eqi (x1 := nI (ki + 1)) (nI_add ki 1) ?_
  refine va_sld hx hb hX hbl hbA hS (lw_in hL hki (by decide)) dL_law_1090 ?_
  refine eqi (x1 := xs (ki + 1)) (congrArg xs (lw_cl hL hki (by decide))) ?_
  refine lv_aload_n hx hb dL_law_1091 rfl (lv_at3 hl) ?_
  refine lv_iload_n hx hb dL_law_1092 rfl (lv_at0 hl) ?_
  refine lv_iconst (v := 2) hx hb dL_law_1093 (by decide) ?_
  refine lv_iadd hx hb dL_law_1094 ?_
  refine eqi (x1 := nI (ki + 2)) (nI_add ki 2) ?_
  refine va_sld hx hb hX hbl hbA hS (lw_in hL hki (by decide)) dL_law_1095 ?_
  refine eqi (x1 := xs (ki + 2)) (congrArg xs (lw_cl hL hki (by decide))) ?_
  refine lv_aload_n hx hb dL_law_1096 rfl (lv_at3 hl) ?_
  refine lv_iload_n hx hb dL_law_1097 rfl (lv_at0 hl) ?_
  refine lv_iconst (v := 3) hx hb dL_law_1098 (by decide) ?_
  refine lv_iadd hx hb dL_law_1099 ?_
  refine eqi (x1 := nI (ki + 3)) (nI_add ki 3) ?_
  refine va_sld hx hb hX hbl hbA hS (lw_in hL hki (by decide)) dL_law_1100 ?_
  refine eqi (x1 := xs (ki + 3)) (congrArg xs (lw_cl hL hki (by decide))) ?_
  refine lk_iV hC hK hl hP hD hS hA (r_quarrel l G xm (xs (ki + 1)) (xs (ki + 2)) (xs (ki + 3)) nw nk ikp nt (nI ytp) nr (nI yrm) mroundOf mroundFrom nm mfromHour mtoHour ns mfrom mto msort misFault mdeep mcoded mlines nl nc nF np ntr nb mbestCost nso nsi nit nsh nsf nss nrc (nI yjr) mdealer mnumber mwhose msize misParted y_nw y_nm (i_nw) (i_mb)) si_L_111 [103, 104, 108] [0, 1, 2] [false, false, false, false, false, false, false, false, false, false, false, false, false, false, false, false, false, false, false, false, false, false, false, false, false, false, false, false, false, false, false, false, false, false, false, false, false, false, false, false, false, false, false, false, false, false, false, false, false, false, false, false, false, false, false, false, false, false, false, false, false, false, false, false, false, false, false, false, false, false, false, false, false, false, false, false, false, false, false, false, false, false, false, false, false, false, false, false, false, false, false, false, false, false, false, false, false, false, false, false, false, false, false, true, true, false, false, false, true, false, false, false, false, false, false, false, false, false, false, false, false, false, false] rfl rfl (by decide +kernel) (by decide +kernel) rfl rfl rfl rfl rfl (Nat.le_of_ble_eq_true rfl) ⟨Nat.le_of_ble_eq_true rfl, Nat.le_of_ble_eq_true rfl⟩ ⟨by first | exact Nat.le_of_ble_eq_true rfl | omega, by first | exact Nat.le_of_ble_eq_true rfl | omega⟩ dL_law_1101 (fun r9717 => Ktu3 fun fh19719 th19720 gnm9721 => ?_)
  intro H locs hr9717 hP2 hS
  try dsimp only at hr9717
  refine Kpdr (ws := (WLW G K hf xb bb cc sg do9 ru9 ta9 tp9 ro9 ho9 de9 bpersons bpapers bstamps bversions blines bsteps bsayings bfindings bwarnings bquestions bpersonsc bpapersc bstampsc bversionsc blinesc bstepsc bsayingsc bfindingsc bwarningsc bquestionsc cpersons cpapers cstamps cversions clines csteps csayings cfindings cwarnings cquestions cpersonsc cpapersc cstampsc cversionsc clinesc cstepsc csayingsc cfindingsc cwarningsc cquestionsc tby tln tsp tlnc tspc hs hz hi hw hn ht tr9 clk fi la ml mm sl sm clm hd kc0 km0 kc1 km1 kc2 km2 kc3 km3 kc4 km4 kc5 km5 kc6 km6 kc7 km7 kc8 km8 kc9 km9 kc10 km10 kc11 km11 kc12 km12 fc sh rr tc rrc xm nw nk nt nr nm ns nl nc nF np ntr nb nso nsi nit nsh nsf nss nrc kbpersons kbpapers kbstamps kbversions kblines kbsteps kbsayings kbfindings kbwarnings kbquestions kcpersons kcpapers kcstamps kcversions kclines kcsteps kcsayings kcfindings kcwarnings kcquestions kt ks kn kln ksp jr kr ytp yrm yjr ikp td vd vl gp ktd kvd kvl kgp tkd tf9 dk dn dp da dq cl19704 bo le bi r1 rc rh tf19712 tt19713 tl19714 tb19715 asd st9 tol mroundOf mroundFrom fh19719 th19720 mfrom mto msort misFault mdeep mcoded mlines mbestCost mdealer mnumber mwhose msize misParted fbpersons fbpapers fbstamps fbversions fblines fbsteps fbsayings fbfindings fbwarnings fbquestions fcpersons fcpapers fcstamps fcversions fclines fcsteps fcsayings fcfindings fcwarnings fcquestions fby ftln ftsp fhw fhn ftr fhs fhz fhi gclm9705 gfi9706 gla9707 gml9708 gmm9709 gsl9710 gsm9711 fk0 fk1 fk2 fk3 fk4 fk5 fk6 fk7 fk8 fk9 fk10 fk11 fk12 ffc fsh frr ftc fht y_nw y_nk y_nt y_nr gnm9721 y_ns y_nl y_nc y_np y_ntr y_nb y_nso y_nsi y_nit y_nsh y_nsf y_nss y_nrc)) hP2 (lk_D hD rfl) (fun hP hD => ?_)
  obtain ⟨hr9717, w9722⟩ := hr9717
  refine lv_pop hx hb dL_law_1104 rfl ?_
  refine lv_goto (tgt := 1718) hx hb dL_law_1105 (by decide) ?_
  exact hback kbpersons kbpapers kbstamps kbversions kblines kbsteps kbsayings kbfindings kbwarnings kbquestions kcpersons kcpapers kcstamps kcversions kclines kcsteps kcsayings kcfindings kcwarnings kcquestions kt ks kn kln ksp jr kr ytp yrm yjr ikp td vd vl gp ktd kvd kvl kgp tkd tf9 dk dn dp da dq cl19704 bo le bi r1 rc rh tf19712 tt19713 tl19714 tb19715 asd st9 tol mroundOf mroundFrom fh19719 th19720 mfrom mto msort misFault mdeep mcoded mlines mbestCost mdealer mnumber mwhose msize misParted fbpersons fbpapers fbstamps fbversions fblines fbsteps fbsayings fbfindings fbwarnings fbquestions fcpersons fcpapers fcstamps fcversions fclines fcsteps fcsayings fcfindings fcwarnings fcquestions fby ftln ftsp fhw fhn ftr fhs fhz fhi gclm9705 gfi9706 gla9707 gml9708 gmm9709 gsl9710 gsm9711 fk0 fk1 fk2 fk3 fk4 fk5 fk6 fk7 fk8 fk9 fk10 fk11 fk12 ffc fsh frr ftc fht y_nw y_nk y_nt y_nr gnm9721 y_ns y_nl y_nc y_np y_ntr y_nb y_nso y_nsi y_nit y_nsh y_nsf y_nss y_nrc H locs ls i_kbpersons i_kbpapers i_kbstamps i_kbversions i_kblines i_kbsteps i_kbsayings i_kbfindings i_kbwarnings i_kbquestions i_kcpersons i_kcpapers i_kcstamps i_kcversions i_kclines i_kcsteps i_kcsayings i_kcfindings i_kcwarnings i_kcquestions i_kt i_ks i_kn i_kln i_ksp i_jr i_kr i_ytp i_yrm i_yjr i_tp (by first | assumption | omega | exact Or.inl rfl | exact Or.inr rfl) i_tol i_ikp i_nw i_vw i_nk i_vk (by first | assumption | omega | exact Or.inl rfl | exact Or.inr rfl) i_b6 i_sz i_sh i_sl i_sp i_sq i_sc i_sk i_epersons i_epapers i_estamps i_esayings i_efindings i_ewarnings i_equestions i_kpersons i_kpapers i_kstamps i_ksayings i_kfindings i_kwarnings i_kquestions hP hD hS (lv_sub hl [0, 1, 2, 3] rfl)
set_option maxHeartbeats 8000000 in
set_option maxRecDepth 100000 in
theorem law_22 : LAWC 1108 := by
  intro p l e s m below meth c b L xs G K A hf xb bb cc sg do9 ru9 ta9 tp9 ro9 ho9 de9 bpersons bpapers bstamps bversions blines bsteps bsayings bfindings bwarnings bquestions bpersonsc bpapersc bstampsc bversionsc blinesc bstepsc bsayingsc bfindingsc bwarningsc bquestionsc cpersons cpapers cstamps cversions clines csteps csayings cfindings cwarnings cquestions cpersonsc cpapersc cstampsc cversionsc clinesc cstepsc csayingsc cfindingsc cwarningsc cquestionsc tby tln tsp tlnc tspc hs hz hi hw hn ht tr9 clk fi la ml mm sl sm clm hd kc0 km0 kc1 km1 kc2 km2 kc3 km3 kc4 km4 kc5 km5 kc6 km6 kc7 km7 kc8 km8 kc9 km9 kc10 km10 kc11 km11 kc12 km12 fc sh rr tc rrc xm nw nk nt nr nm ns nl nc nF np ntr nb nso nsi nit nsh nsf nss nrc kbpersons kbpapers kbstamps kbversions kblines kbsteps kbsayings kbfindings kbwarnings kbquestions kcpersons kcpapers kcstamps kcversions kclines kcsteps kcsayings kcfindings kcwarnings kcquestions kt ks kn kln ksp jr kr ytp yrm yjr ikp td vd vl gp ktd kvd kvl kgp tkd tf9 dk dn dp da dq cl bo le bi r1 rc rh tf tt9 tl tbv asd st9 tol mroundOf mroundFrom mfromHour mtoHour mfrom mto msort misFault mdeep mcoded mlines mbestCost mdealer mnumber mwhose msize misParted fbpersons fbpapers fbstamps fbversions fblines fbsteps fbsayings fbfindings fbwarnings fbquestions fcpersons fcpapers fcstamps fcversions fclines fcsteps fcsayings fcfindings fcwarnings fcquestions fby ftln ftsp fhw fhn ftr fhs fhz fhi fclm ffi fla fml fmm fsl fsm fk0 fk1 fk2 fk3 fk4 fk5 fk6 fk7 fk8 fk9 fk10 fk11 fk12 ffc fsh frr ftc fht y_nw y_nk y_nt y_nr y_nm y_ns y_nl y_nc y_np y_ntr y_nb y_nso y_nsi y_nit y_nsh y_nsf y_nss y_nrc H locs ls ki hC hK hO hX hL hbl hbA hA hA2 hki hf0 hf1 hf2 hf3 hf4 hf5 hf6 hf7 hf8 hf9 hf10 hf11 hf12 i_kbpersons i_kbpapers i_kbstamps i_kbversions i_kblines i_kbsteps i_kbsayings i_kbfindings i_kbwarnings i_kbquestions i_kcpersons i_kcpapers i_kcstamps i_kcversions i_kclines i_kcsteps i_kcsayings i_kcfindings i_kcwarnings i_kcquestions i_kt i_ks i_kn i_kln i_ksp i_jr i_kr i_ytp i_yrm i_yjr i_tp i_cl i_tol i_ikp i_nw i_vw i_nk i_vk i_mb i_b6 i_sz i_sh i_sl i_sp i_sq i_sc i_sk i_epersons i_epapers i_estamps i_esayings i_efindings i_ewarnings i_equestions i_kpersons i_kpapers i_kstamps i_ksayings i_kfindings i_kwarnings i_kquestions hback hP hD hS hl
  refine Kan8 hC (fun hx hb hr hml hB hown hlocks hnm => ?_)
  refine lv_aload_n hx hb dL_law_1108 rfl (lv_at2 hl) ?_
  refine lk_iV hC hK hl hP hD hS hA (p_impossible l G xb bb cc ikp sg do9 ru9 ta9 tp9 ro9 ho9 de9 clk fi la ml mm sl sm cl clm fclm ffi fla fml fmm fsl fsm tf tt9 tl tbv bpersons bpapers bstamps bversions blines bsteps bsayings bfindings bwarnings bquestions td vd vl gp bpapersc kbpapers fbpapers bpersonsc kbpersons fbpersons bsayingsc kbsayings fbsayings bstampsc kbstamps fbstamps (i_kbpapers) (i_kbpersons) (i_kbsayings) (i_kbstamps) (i_cl)) si_L_112 [0, 57, 58, 59, 60, 61, 62, 63, 64, 65, 97, 1, 4, 5, 2, 3, 14, 15, 6, 7] [0, 11, 14, 15, 12, 13, 18, 19, 16, 17, 1, 2, 3, 4, 5, 6, 7, 8, 9, 10] [true, true, true, true, true, true, true, true, false, false, false, false, false, false, true, true, false, false, false, false, false, false, false, false, false, false, false, false, false, false, false, false, false, false, false, false, false, false, false, false, false, false, false, false, false, false, false, false, false, false, false, false, false, false, false, false, false, true, true, true, true, true, true, true, true, true, false, false, false, false, false, false, false, false, false, false, false, false, false, false, false, false, false, false, false, false, false, false, false, false, false, false, false, false, false, false, false, true, false, false, false, false, false, false, false, false, false, false, false, false, false, false, false, false, false, false, false, false, false, false, false, false, false] rfl rfl (by decide +kernel) (by decide +kernel) rfl rfl rfl rfl rfl (Nat.le_of_ble_eq_true rfl) ⟨Nat.le_of_ble_eq_true rfl, Nat.le_of_ble_eq_true rfl⟩ ⟨by first | exact Nat.le_of_ble_eq_true rfl | omega, by first | exact Nat.le_of_ble_eq_true rfl | omega⟩ dL_law_1109 (fun r9723 => Ktu10 fun cl19725 gclm9726 gfi9727 gla9728 gml9729 gmm9730 gsl9731 gsm9732 tf19733 tt19734 => ?_)
  intro H locs hr9723 hP2 hS
  try dsimp only at hr9723
  refine Kpdr (ws := (WLW G K hf xb bb cc sg do9 ru9 ta9 tp9 ro9 ho9 de9 bpersons bpapers bstamps bversions blines bsteps bsayings bfindings bwarnings bquestions bpersonsc bpapersc bstampsc bversionsc blinesc bstepsc bsayingsc bfindingsc bwarningsc bquestionsc cpersons cpapers cstamps cversions clines csteps csayings cfindings cwarnings cquestions cpersonsc cpapersc cstampsc cversionsc clinesc cstepsc csayingsc cfindingsc cwarningsc cquestionsc tby tln tsp tlnc tspc hs hz hi hw hn ht tr9 clk fi la ml mm sl sm clm hd kc0 km0 kc1 km1 kc2 km2 kc3 km3 kc4 km4 kc5 km5 kc6 km6 kc7 km7 kc8 km8 kc9 km9 kc10 km10 kc11 km11 kc12 km12 fc sh rr tc rrc xm nw nk nt nr nm ns nl nc nF np ntr nb nso nsi nit nsh nsf nss nrc kbpersons kbpapers kbstamps kbversions kblines kbsteps kbsayings kbfindings kbwarnings kbquestions kcpersons kcpapers kcstamps kcversions kclines kcsteps kcsayings kcfindings kcwarnings kcquestions kt ks kn kln ksp jr kr ytp yrm yjr ikp td vd vl gp ktd kvd kvl kgp tkd tf9 dk dn dp da dq cl19725 bo le bi r1 rc rh tf19733 tt19734 tl tbv asd st9 tol mroundOf mroundFrom mfromHour mtoHour mfrom mto msort misFault mdeep mcoded mlines mbestCost mdealer mnumber mwhose msize misParted fbpersons fbpapers fbstamps fbversions fblines fbsteps fbsayings fbfindings fbwarnings fbquestions fcpersons fcpapers fcstamps fcversions fclines fcsteps fcsayings fcfindings fcwarnings fcquestions fby ftln ftsp fhw fhn ftr fhs fhz fhi gclm9726 gfi9727 gla9728 gml9729 gmm9730 gsl9731 gsm9732 fk0 fk1 fk2 fk3 fk4 fk5 fk6 fk7 fk8 fk9 fk10 fk11 fk12 ffc fsh frr ftc fht y_nw y_nk y_nt y_nr y_nm y_ns y_nl y_nc y_np y_ntr y_nb y_nso y_nsi y_nit y_nsh y_nsf y_nss y_nrc)) hP2 (lk_D hD rfl) (fun hP hD => ?_)
  obtain ⟨hr9723, w9735⟩ := hr9723
  refine lv_pop hx hb dL_law_1112 rfl ?_
  refine lv_aload_n hx hb dL_law_1113 rfl (lv_at1 hl) ?_
  refine lk_iV hC hK hl hP hD hS hA (r_impossible l G xm nw nk ikp nt (nI ytp) nr (nI yrm) mroundOf mroundFrom nm mfromHour mtoHour ns mfrom mto msort misFault mdeep mcoded mlines nl nc nF np ntr nb mbestCost nso nsi nit nsh nsf nss nrc (nI yjr) mdealer mnumber mwhose msize misParted y_nw y_nm (i_nw) (i_mb)) si_L_115 [103, 104, 108] [0, 1, 2] [false, false, false, false, false, false, false, false, false, false, false, false, false, false, false, false, false, false, false, false, false, false, false, false, false, false, false, false, false, false, false, false, false, false, false, false, false, false, false, false, false, false, false, false, false, false, false, false, false, false, false, false, false, false, false, false, false, false, false, false, false, false, false, false, false, false, false, false, false, false, false, false, false, false, false, false, false, false, false, false, false, false, false, false, false, false, false, false, false, false, false, false, false, false, false, false, false, false, false, false, false, false, false, true, true, false, false, false, true, false, false, false, false, false, false, false, false, false, false, false, false, false, false] rfl rfl (by decide +kernel) (by decide +kernel) rfl rfl rfl rfl rfl (Nat.le_of_ble_eq_true rfl) ⟨Nat.le_of_ble_eq_true rfl, Nat.le_of_ble_eq_true rfl⟩ ⟨by first | exact Nat.le_of_ble_eq_true rfl | omega, by first | exact Nat.le_of_ble_eq_true rfl | omega⟩ dL_law_1114 (fun r9736 => Ktu3 fun fh19738 th19739 gnm9740 => ?_)
  intro H locs hr9736 hP2 hS
  try dsimp only at hr9736
  refine Kpdr (ws := (WLW G K hf xb bb cc sg do9 ru9 ta9 tp9 ro9 ho9 de9 bpersons bpapers bstamps bversions blines bsteps bsayings bfindings bwarnings bquestions bpersonsc bpapersc bstampsc bversionsc blinesc bstepsc bsayingsc bfindingsc bwarningsc bquestionsc cpersons cpapers cstamps cversions clines csteps csayings cfindings cwarnings cquestions cpersonsc cpapersc cstampsc cversionsc clinesc cstepsc csayingsc cfindingsc cwarningsc cquestionsc tby tln tsp tlnc tspc hs hz hi hw hn ht tr9 clk fi la ml mm sl sm clm hd kc0 km0 kc1 km1 kc2 km2 kc3 km3 kc4 km4 kc5 km5 kc6 km6 kc7 km7 kc8 km8 kc9 km9 kc10 km10 kc11 km11 kc12 km12 fc sh rr tc rrc xm nw nk nt nr nm ns nl nc nF np ntr nb nso nsi nit nsh nsf nss nrc kbpersons kbpapers kbstamps kbversions kblines kbsteps kbsayings kbfindings kbwarnings kbquestions kcpersons kcpapers kcstamps kcversions kclines kcsteps kcsayings kcfindings kcwarnings kcquestions kt ks kn kln ksp jr kr ytp yrm yjr ikp td vd vl gp ktd kvd kvl kgp tkd tf9 dk dn dp da dq cl19725 bo le bi r1 rc rh tf19733 tt19734 tl tbv asd st9 tol mroundOf mroundFrom fh19738 th19739 mfrom mto msort misFault mdeep mcoded mlines mbestCost mdealer mnumber mwhose msize misParted fbpersons fbpapers fbstamps fbversions fblines fbsteps fbsayings fbfindings fbwarnings fbquestions fcpersons fcpapers fcstamps fcversions fclines fcsteps fcsayings fcfindings fcwarnings fcquestions fby ftln ftsp fhw fhn ftr fhs fhz fhi gclm9726 gfi9727 gla9728 gml9729 gmm9730 gsl9731 gsm9732 fk0 fk1 fk2 fk3 fk4 fk5 fk6 fk7 fk8 fk9 fk10 fk11 fk12 ffc fsh frr ftc fht y_nw y_nk y_nt y_nr gnm9740 y_ns y_nl y_nc y_np y_ntr y_nb y_nso y_nsi y_nit y_nsh y_nsf y_nss y_nrc)) hP2 (lk_D hD rfl) (fun hP hD => ?_)
  obtain ⟨hr9736, w9741⟩ := hr9736
  refine lv_pop hx hb dL_law_1117 rfl ?_
  refine lv_goto (tgt := 1718) hx hb dL_law_1118 (by decide) ?_
  exact hback kbpersons kbpapers kbstamps kbversions kblines kbsteps kbsayings kbfindings kbwarnings kbquestions kcpersons kcpapers kcstamps kcversions kclines kcsteps kcsayings kcfindings kcwarnings kcquestions kt ks kn kln ksp jr kr ytp yrm yjr ikp td vd vl gp ktd kvd kvl kgp tkd tf9 dk dn dp da dq cl19725 bo le bi r1 rc rh tf19733 tt19734 tl tbv asd st9 tol mroundOf mroundFrom fh19738 th19739 mfrom mto msort misFault mdeep mcoded mlines mbestCost mdealer mnumber mwhose msize misParted fbpersons fbpapers fbstamps fbversions fblines fbsteps fbsayings fbfindings fbwarnings fbquestions fcpersons fcpapers fcstamps fcversions fclines fcsteps fcsayings fcfindings fcwarnings fcquestions fby ftln ftsp fhw fhn ftr fhs fhz fhi gclm9726 gfi9727 gla9728 gml9729 gmm9730 gsl9731 gsm9732 fk0 fk1 fk2 fk3 fk4 fk5 fk6 fk7 fk8 fk9 fk10 fk11 fk12 ffc fsh frr ftc fht y_nw y_nk y_nt y_nr gnm9740 y_ns y_nl y_nc y_np y_ntr y_nb y_nso y_nsi y_nit y_nsh y_nsf y_nss y_nrc H locs ls i_kbpersons i_kbpapers i_kbstamps i_kbversions i_kblines i_kbsteps i_kbsayings i_kbfindings i_kbwarnings i_kbquestions i_kcpersons i_kcpapers i_kcstamps i_kcversions i_kclines i_kcsteps i_kcsayings i_kcfindings i_kcwarnings i_kcquestions i_kt i_ks i_kn i_kln i_ksp i_jr i_kr i_ytp i_yrm i_yjr i_tp (by first | assumption | omega | exact Or.inl rfl | exact Or.inr rfl) i_tol i_ikp i_nw i_vw i_nk i_vk (by first | assumption | omega | exact Or.inl rfl | exact Or.inr rfl) i_b6 i_sz i_sh i_sl i_sp i_sq i_sc i_sk i_epersons i_epapers i_estamps i_esayings i_efindings i_ewarnings i_equestions i_kpersons i_kpapers i_kstamps i_ksayings i_kfindings i_kwarnings i_kquestions hP hD hS (lv_sub hl [0, 1, 2, 3] rfl)
set_option maxHeartbeats 8000000 in
set_option maxRecDepth 100000 in
theorem law_23 : LAWC 1121 := by
  intro p l e s m below meth c b L xs G K A hf xb bb cc sg do9 ru9 ta9 tp9 ro9 ho9 de9 bpersons bpapers bstamps bversions blines bsteps bsayings bfindings bwarnings bquestions bpersonsc bpapersc bstampsc bversionsc blinesc bstepsc bsayingsc bfindingsc bwarningsc bquestionsc cpersons cpapers cstamps cversions clines csteps csayings cfindings cwarnings cquestions cpersonsc cpapersc cstampsc cversionsc clinesc cstepsc csayingsc cfindingsc cwarningsc cquestionsc tby tln tsp tlnc tspc hs hz hi hw hn ht tr9 clk fi la ml mm sl sm clm hd kc0 km0 kc1 km1 kc2 km2 kc3 km3 kc4 km4 kc5 km5 kc6 km6 kc7 km7 kc8 km8 kc9 km9 kc10 km10 kc11 km11 kc12 km12 fc sh rr tc rrc xm nw nk nt nr nm ns nl nc nF np ntr nb nso nsi nit nsh nsf nss nrc kbpersons kbpapers kbstamps kbversions kblines kbsteps kbsayings kbfindings kbwarnings kbquestions kcpersons kcpapers kcstamps kcversions kclines kcsteps kcsayings kcfindings kcwarnings kcquestions kt ks kn kln ksp jr kr ytp yrm yjr ikp td vd vl gp ktd kvd kvl kgp tkd tf9 dk dn dp da dq cl bo le bi r1 rc rh tf tt9 tl tbv asd st9 tol mroundOf mroundFrom mfromHour mtoHour mfrom mto msort misFault mdeep mcoded mlines mbestCost mdealer mnumber mwhose msize misParted fbpersons fbpapers fbstamps fbversions fblines fbsteps fbsayings fbfindings fbwarnings fbquestions fcpersons fcpapers fcstamps fcversions fclines fcsteps fcsayings fcfindings fcwarnings fcquestions fby ftln ftsp fhw fhn ftr fhs fhz fhi fclm ffi fla fml fmm fsl fsm fk0 fk1 fk2 fk3 fk4 fk5 fk6 fk7 fk8 fk9 fk10 fk11 fk12 ffc fsh frr ftc fht y_nw y_nk y_nt y_nr y_nm y_ns y_nl y_nc y_np y_ntr y_nb y_nso y_nsi y_nit y_nsh y_nsf y_nss y_nrc H locs ls ki hC hK hO hX hL hbl hbA hA hA2 hki hf0 hf1 hf2 hf3 hf4 hf5 hf6 hf7 hf8 hf9 hf10 hf11 hf12 i_kbpersons i_kbpapers i_kbstamps i_kbversions i_kblines i_kbsteps i_kbsayings i_kbfindings i_kbwarnings i_kbquestions i_kcpersons i_kcpapers i_kcstamps i_kcversions i_kclines i_kcsteps i_kcsayings i_kcfindings i_kcwarnings i_kcquestions i_kt i_ks i_kn i_kln i_ksp i_jr i_kr i_ytp i_yrm i_yjr i_tp i_cl i_tol i_ikp i_nw i_vw i_nk i_vk i_mb i_b6 i_sz i_sh i_sl i_sp i_sq i_sc i_sk i_epersons i_epapers i_estamps i_esayings i_efindings i_ewarnings i_equestions i_kpersons i_kpapers i_kstamps i_ksayings i_kfindings i_kwarnings i_kquestions hback hP hD hS hl
  refine Kan8 hC (fun hx hb hr hml hB hown hlocks hnm => ?_)
  refine lv_aload_n hx hb dL_law_1121 rfl (lv_at2 hl) ?_
  refine lv_aload_n hx hb dL_law_1122 rfl (lv_at3 hl) ?_
  refine lv_iload_n hx hb dL_law_1123 rfl (lv_at0 hl) ?_
  refine lv_iconst (v := 1) hx hb dL_law_1124 (by decide) ?_
  refine lv_iadd hx hb dL_law_1125 ?_
  refine eqi (x1 := nI (ki + 1)) (nI_add ki 1) ?_
  refine va_sld hx hb hX hbl hbA hS (lw_in hL hki (by decide)) dL_law_1126 ?_
  refine eqi (x1 := xs (ki + 1)) (congrArg xs (lw_cl hL hki (by decide))) ?_
  refine lv_aload_n hx hb dL_law_1127 rfl (lv_at3 hl) ?_
  refine lv_iload_n hx hb dL_law_1128 rfl (lv_at0 hl) ?_
  refine lv_iconst (v := 2) hx hb dL_law_1129 (by decide) ?_
  refine lv_iadd hx hb dL_law_1130 ?_
  refine eqi (x1 := nI (ki + 2)) (nI_add ki 2) ?_
  refine va_sld hx hb hX hbl hbA hS (lw_in hL hki (by decide)) dL_law_1131 ?_
  refine eqi (x1 := xs (ki + 2)) (congrArg xs (lw_cl hL hki (by decide))) ?_
  refine lv_aload_n hx hb dL_law_1132 rfl (lv_at3 hl) ?_
  refine lv_iload_n hx hb dL_law_1133 rfl (lv_at0 hl) ?_
  refine lv_iconst (v := 3) hx hb dL_law_1134 (by decide) ?_
  refine lv_iadd hx hb dL_law_1135 ?_
  refine eqi (x1 := nI (ki + 3)) (nI_add ki 3) ?_
  refine va_sld hx hb hX hbl hbA hS (lw_in hL hki (by decide)) dL_law_1136 ?_
  refine eqi (x1 := xs (ki + 3)) (congrArg xs (lw_cl hL hki (by decide))) ?_
  refine lv_aload_n hx hb dL_law_1137 rfl (lv_at3 hl) ?_
  refine lv_iload_n hx hb dL_law_1138 rfl (lv_at0 hl) ?_
  refine lv_iconst (v := 4) hx hb dL_law_1139 (by decide) ?_
  refine lv_iadd hx hb dL_law_1140 ?_
  refine eqi (x1 := nI (ki + 4)) (nI_add ki 4) ?_
  refine va_sld hx hb hX hbl hbA hS (lw_in hL hki (by decide)) dL_law_1141 ?_
  refine eqi (x1 := xs (ki + 4)) (congrArg xs (lw_cl hL hki (by decide))) ?_
  refine lk_iV hC hK hl hP hD hS hA (p_finding l G xb (xs (ki + 1)) (xs (ki + 2)) (xs (ki + 3)) (xs (ki + 4)) bb cc ikp sg do9 ru9 ta9 tp9 ro9 ho9 de9 bpersons bpapers bstamps bversions blines bsteps bsayings bfindings bwarnings bquestions td vd vl gp bfindingsc kbfindings fbfindings bpersonsc kbpersons (i_kbfindings) (i_kbpersons)) si_L_116 [0, 1, 16, 17, 2] [0, 1, 4, 2, 3] [true, true, true, false, false, false, false, false, false, false, false, false, false, false, false, false, true, true, false, false, false, false, false, false, false, false, false, false, false, false, false, false, false, false, false, false, false, false, false, false, false, false, false, false, false, false, false, false, false, false, false, false, false, false, false, false, false, false, false, false, false, false, false, false, false, false, false, false, false, false, false, false, false, false, false, false, false, false, false, false, false, false, false, false, false, false, false, false, false, false, false, false, false, false, false, false, false, false, false, false, false, false, false, false, false, false, false, false, false, false, false, false, false, false, false, false, false, false, false, false, false, false, false] rfl rfl (by decide +kernel) (by decide +kernel) rfl rfl rfl rfl rfl (Nat.le_of_ble_eq_true rfl) ⟨Nat.le_of_ble_eq_true rfl, Nat.le_of_ble_eq_true rfl⟩ ⟨by first | exact Nat.le_of_ble_eq_true rfl | omega, by first | exact Nat.le_of_ble_eq_true rfl | omega⟩ dL_law_1142 (fun r9742 => Ktu2 fun k19744 gfindings9745 => ?_)
  intro H locs hr9742 hP2 hS
  try dsimp only at hr9742
  refine Kpdr (ws := (WLW G K hf xb bb cc sg do9 ru9 ta9 tp9 ro9 ho9 de9 bpersons bpapers bstamps bversions blines bsteps bsayings bfindings bwarnings bquestions bpersonsc bpapersc bstampsc bversionsc blinesc bstepsc bsayingsc bfindingsc bwarningsc bquestionsc cpersons cpapers cstamps cversions clines csteps csayings cfindings cwarnings cquestions cpersonsc cpapersc cstampsc cversionsc clinesc cstepsc csayingsc cfindingsc cwarningsc cquestionsc tby tln tsp tlnc tspc hs hz hi hw hn ht tr9 clk fi la ml mm sl sm clm hd kc0 km0 kc1 km1 kc2 km2 kc3 km3 kc4 km4 kc5 km5 kc6 km6 kc7 km7 kc8 km8 kc9 km9 kc10 km10 kc11 km11 kc12 km12 fc sh rr tc rrc xm nw nk nt nr nm ns nl nc nF np ntr nb nso nsi nit nsh nsf nss nrc kbpersons kbpapers kbstamps kbversions kblines kbsteps kbsayings k19744 kbwarnings kbquestions kcpersons kcpapers kcstamps kcversions kclines kcsteps kcsayings kcfindings kcwarnings kcquestions kt ks kn kln ksp jr kr ytp yrm yjr ikp td vd vl gp ktd kvd kvl kgp tkd tf9 dk dn dp da dq cl bo le bi r1 rc rh tf tt9 tl tbv asd st9 tol mroundOf mroundFrom mfromHour mtoHour mfrom mto msort misFault mdeep mcoded mlines mbestCost mdealer mnumber mwhose msize misParted fbpersons fbpapers fbstamps fbversions fblines fbsteps fbsayings gfindings9745 fbwarnings fbquestions fcpersons fcpapers fcstamps fcversions fclines fcsteps fcsayings fcfindings fcwarnings fcquestions fby ftln ftsp fhw fhn ftr fhs fhz fhi fclm ffi fla fml fmm fsl fsm fk0 fk1 fk2 fk3 fk4 fk5 fk6 fk7 fk8 fk9 fk10 fk11 fk12 ffc fsh frr ftc fht y_nw y_nk y_nt y_nr y_nm y_ns y_nl y_nc y_np y_ntr y_nb y_nso y_nsi y_nit y_nsh y_nsf y_nss y_nrc)) hP2 (lk_D hD rfl) (fun hP hD => ?_)
  obtain ⟨hr9742, w9746⟩ := hr9742
  obtain rfl := hr9742
  refine lv_aload_n hx hb dL_law_1145 rfl (lv_at1 hl) ?_
  refine lv_aload_n hx hb dL_law_1146 rfl (lv_at3 hl) ?_
  refine lv_iload_n hx hb dL_law_1147 rfl (lv_at0 hl) ?_
  refine lv_iconst (v := 1) hx hb dL_law_1148 (by decide) ?_
  refine lv_iadd hx hb dL_law_1149 ?_
  refine eqi (x1 := nI (ki + 1)) (nI_add ki 1) ?_
  refine va_sld hx hb hX hbl hbA hS (lw_in hL hki (by decide)) dL_law_1150 ?_
  refine eqi (x1 := xs (ki + 1)) (congrArg xs (lw_cl hL hki (by decide))) ?_
  refine lv_aload_n hx hb dL_law_1151 rfl (lv_at3 hl) ?_
  refine lv_iload_n hx hb dL_law_1152 rfl (lv_at0 hl) ?_
  refine lv_iconst (v := 2) hx hb dL_law_1153 (by decide) ?_
  refine lv_iadd hx hb dL_law_1154 ?_
  refine eqi (x1 := nI (ki + 2)) (nI_add ki 2) ?_
  refine va_sld hx hb hX hbl hbA hS (lw_in hL hki (by decide)) dL_law_1155 ?_
  refine eqi (x1 := xs (ki + 2)) (congrArg xs (lw_cl hL hki (by decide))) ?_
  refine lv_aload_n hx hb dL_law_1156 rfl (lv_at3 hl) ?_
  refine lv_iload_n hx hb dL_law_1157 rfl (lv_at0 hl) ?_
  refine lv_iconst (v := 3) hx hb dL_law_1158 (by decide) ?_
  refine lv_iadd hx hb dL_law_1159 ?_
  refine eqi (x1 := nI (ki + 3)) (nI_add ki 3) ?_
  refine va_sld hx hb hX hbl hbA hS (lw_in hL hki (by decide)) dL_law_1160 ?_
  refine eqi (x1 := xs (ki + 3)) (congrArg xs (lw_cl hL hki (by decide))) ?_
  refine lv_aload_n hx hb dL_law_1161 rfl (lv_at3 hl) ?_
  refine lv_iload_n hx hb dL_law_1162 rfl (lv_at0 hl) ?_
  refine lv_iconst (v := 4) hx hb dL_law_1163 (by decide) ?_
  refine lv_iadd hx hb dL_law_1164 ?_
  refine eqi (x1 := nI (ki + 4)) (nI_add ki 4) ?_
  refine va_sld hx hb hX hbl hbA hS (lw_in hL hki (by decide)) dL_law_1165 ?_
  refine eqi (x1 := xs (ki + 4)) (congrArg xs (lw_cl hL hki (by decide))) ?_
  refine lk_iV hC hK hl hP hD hS hA (w_finding l G kbpersons kbfindings xm (xs (ki + 1)) (xs (ki + 2)) (xs (ki + 3)) (xs (ki + 4)) nw nk ikp nt (nI ytp) nr (nI yrm) mroundOf mroundFrom 0 nm mfromHour mtoHour ns mfrom mto msort misFault mdeep mcoded mlines nl nc nF np ntr nb mbestCost nso nsi nit nsh nsf nss nrc (nI yjr) mdealer mnumber mwhose msize misParted y_nw (i_sc.2.2.2.2.1) (i_kbpersons) (i_sc.2.2.2.2.2.2.2.2.1) (i_kbfindings) (i_nw) (i_vw)) si_L_119 [103, 104] [0, 1] [false, false, false, false, false, false, false, false, false, false, false, false, false, false, false, false, false, false, false, false, false, false, false, false, false, false, false, false, false, false, false, false, false, false, false, false, false, false, false, false, false, false, false, false, false, false, false, false, false, false, false, false, false, false, false, false, false, false, false, false, false, false, false, false, false, false, false, false, false, false, false, false, false, false, false, false, false, false, false, false, false, false, false, false, false, false, false, false, false, false, false, false, false, false, false, false, false, false, false, false, false, false, false, true, true, false, false, false, false, false, false, false, false, false, false, false, false, false, false, false, false, false, false] rfl rfl (by decide +kernel) (by decide +kernel) rfl rfl rfl rfl rfl (Nat.le_of_ble_eq_true rfl) ⟨Nat.le_of_ble_eq_true rfl, Nat.le_of_ble_eq_true rfl⟩ ⟨by first | exact Nat.le_of_ble_eq_true rfl | omega, by first | exact Nat.le_of_ble_eq_true rfl | omega⟩ dL_law_1166 (fun r9748 gnw9750 H locs hr9748 hP2 hS => ?_)
  try dsimp only at hr9748
  refine Kpdr (ws := (WLW G K hf xb bb cc sg do9 ru9 ta9 tp9 ro9 ho9 de9 bpersons bpapers bstamps bversions blines bsteps bsayings bfindings bwarnings bquestions bpersonsc bpapersc bstampsc bversionsc blinesc bstepsc bsayingsc bfindingsc bwarningsc bquestionsc cpersons cpapers cstamps cversions clines csteps csayings cfindings cwarnings cquestions cpersonsc cpapersc cstampsc cversionsc clinesc cstepsc csayingsc cfindingsc cwarningsc cquestionsc tby tln tsp tlnc tspc hs hz hi hw hn ht tr9 clk fi la ml mm sl sm clm hd kc0 km0 kc1 km1 kc2 km2 kc3 km3 kc4 km4 kc5 km5 kc6 km6 kc7 km7 kc8 km8 kc9 km9 kc10 km10 kc11 km11 kc12 km12 fc sh rr tc rrc xm nw nk nt nr nm ns nl nc nF np ntr nb nso nsi nit nsh nsf nss nrc kbpersons kbpapers kbstamps kbversions kblines kbsteps kbsayings k19744 kbwarnings kbquestions kcpersons kcpapers kcstamps kcversions kclines kcsteps kcsayings kcfindings kcwarnings kcquestions kt ks kn kln ksp jr kr ytp yrm yjr ikp td vd vl gp ktd kvd kvl kgp tkd tf9 dk dn dp da dq cl bo le bi r1 rc rh tf tt9 tl tbv asd st9 tol mroundOf mroundFrom mfromHour mtoHour mfrom mto msort misFault mdeep mcoded mlines mbestCost mdealer mnumber mwhose msize misParted fbpersons fbpapers fbstamps fbversions fblines fbsteps fbsayings gfindings9745 fbwarnings fbquestions fcpersons fcpapers fcstamps fcversions fclines fcsteps fcsayings fcfindings fcwarnings fcquestions fby ftln ftsp fhw fhn ftr fhs fhz fhi fclm ffi fla fml fmm fsl fsm fk0 fk1 fk2 fk3 fk4 fk5 fk6 fk7 fk8 fk9 fk10 fk11 fk12 ffc fsh frr ftc fht gnw9750 y_nk y_nt y_nr y_nm y_ns y_nl y_nc y_np y_ntr y_nb y_nso y_nsi y_nit y_nsh y_nsf y_nss y_nrc)) hP2 (lk_D hD rfl) (fun hP hD => ?_)
  obtain ⟨hr9748, w9751⟩ := hr9748
  obtain rfl := hr9748
  refine lv_icmp_eq (tgt := 1718) hx hb dL_law_1169 (by decide) (fun _ => ?_) (fun c9 => absurd ((by rw [ifc_full (k := kbfindings) (R := 12) (by omega) (by decide)]; first | done | rfl)) c9)
  obtain ⟨z9753, z9754, z9755, z9756⟩ := w9746
  obtain ⟨z9757, z9758, z9759, z9760, z9761, z9762, z9763, z9764, z9765, z9766, z9767, z9768, z9769, z9770, z9771⟩ := w9751
  have hs_y_nw : SCX gnw9750 td vd vl gp (nI kbpersons) (nI kbpapers) (nI kbstamps) (nI kbsayings) (nI k19744) (nI kbwarnings) (nI kbquestions) := ⟨(z9759).trans (i_sc.1), (z9760).trans (i_sc.2.1), (z9761).trans (i_sc.2.2.1), (z9762).trans (i_sc.2.2.2.1), (z9763).trans (i_sc.2.2.2.2.1), (z9764).trans (i_sc.2.2.2.2.2.1), (z9765).trans (i_sc.2.2.2.2.2.2.1), (z9766).trans (i_sc.2.2.2.2.2.2.2.1), (by rw [z9767, z9755, ifc_full (k := kbfindings) (R := 12) (by omega) (by decide)]; first | done | rfl), (z9768).trans (i_sc.2.2.2.2.2.2.2.2.2.1), (z9769).trans (i_sc.2.2.2.2.2.2.2.2.2.2)⟩
  have he_persons : EQT gnw9750 12 20 fbpersons := EQT.fr i_epersons z9770 (by decide) (by decide)
  have he_papers : EQT gnw9750 32 72 fbpapers := EQT.fr i_epapers z9770 (by decide) (by decide)
  have he_stamps : EQT gnw9750 104 72 fbstamps := EQT.fr i_estamps z9770 (by decide) (by decide)
  have he_sayings : EQT gnw9750 1424 128 fbsayings := EQT.fr i_esayings z9770 (by decide) (by decide)
  have he_findings : EQT gnw9750 1552 48 gfindings9745 := fun i hi9 => by rw [z9771 i hi9, z9756 i, ifc_full (k := kbfindings) (R := 12) (by omega) (by decide), i_efindings i hi9, rowu_congr (f := shf y_nw 1552) (g := fbfindings) (n := 48) _ i_efindings i hi9]; first | done | rfl
  have he_warnings : EQT gnw9750 1600 48 fbwarnings := EQT.fr i_ewarnings z9770 (by decide) (by decide)
  have he_questions : EQT gnw9750 1648 14 fbquestions := EQT.fr i_equestions z9770 (by decide) (by decide)
  exact hback kbpersons kbpapers kbstamps kbversions kblines kbsteps kbsayings k19744 kbwarnings kbquestions kcpersons kcpapers kcstamps kcversions kclines kcsteps kcsayings kcfindings kcwarnings kcquestions kt ks kn kln ksp jr kr ytp yrm yjr ikp td vd vl gp ktd kvd kvl kgp tkd tf9 dk dn dp da dq cl bo le bi r1 rc rh tf tt9 tl tbv asd st9 tol mroundOf mroundFrom mfromHour mtoHour mfrom mto msort misFault mdeep mcoded mlines mbestCost mdealer mnumber mwhose msize misParted fbpersons fbpapers fbstamps fbversions fblines fbsteps fbsayings gfindings9745 fbwarnings fbquestions fcpersons fcpapers fcstamps fcversions fclines fcsteps fcsayings fcfindings fcwarnings fcquestions fby ftln ftsp fhw fhn ftr fhs fhz fhi fclm ffi fla fml fmm fsl fsm fk0 fk1 fk2 fk3 fk4 fk5 fk6 fk7 fk8 fk9 fk10 fk11 fk12 ffc fsh frr ftc fht gnw9750 y_nk y_nt y_nr y_nm y_ns y_nl y_nc y_np y_ntr y_nb y_nso y_nsi y_nit y_nsh y_nsf y_nss y_nrc H locs ls i_kbpersons i_kbpapers i_kbstamps i_kbversions i_kblines i_kbsteps i_kbsayings (by first | assumption | omega | exact Or.inl rfl | exact Or.inr rfl) i_kbwarnings i_kbquestions i_kcpersons i_kcpapers i_kcstamps i_kcversions i_kclines i_kcsteps i_kcsayings i_kcfindings i_kcwarnings i_kcquestions i_kt i_ks i_kn i_kln i_ksp i_jr i_kr i_ytp i_yrm i_yjr i_tp i_cl i_tol i_ikp (by first | assumption | omega | exact Or.inl rfl | exact Or.inr rfl) (by first | assumption | omega | exact Or.inl rfl | exact Or.inr rfl) i_nk i_vk i_mb i_b6 i_sz i_sh i_sl i_sp i_sq (by first | assumption | omega | exact Or.inl rfl | exact Or.inr rfl) i_sk (by first | assumption | omega | exact Or.inl rfl | exact Or.inr rfl) (by first | assumption | omega | exact Or.inl rfl | exact Or.inr rfl) (by first | assumption | omega | exact Or.inl rfl | exact Or.inr rfl) (by first | assumption | omega | exact Or.inl rfl | exact Or.inr rfl) (by first | assumption | omega | exact Or.inl rfl | exact Or.inr rfl) (by first | assumption | omega | exact Or.inl rfl | exact Or.inr rfl) (by first | assumption | omega | exact Or.inl rfl | exact Or.inr rfl) i_kpersons i_kpapers i_kstamps i_ksayings i_kfindings i_kwarnings i_kquestions hP hD hS (lv_sub hl [0, 1, 2, 3] rfl)
set_option maxHeartbeats 8000000 in
set_option maxRecDepth 100000 in
theorem law_24 : LAWC 1174 := by
  intro p l e s m below meth c b L xs G K A hf xb bb cc sg do9 ru9 ta9 tp9 ro9 ho9 de9 bpersons bpapers bstamps bversions blines bsteps bsayings bfindings bwarnings bquestions bpersonsc bpapersc bstampsc bversionsc blinesc bstepsc bsayingsc bfindingsc bwarningsc bquestionsc cpersons cpapers cstamps cversions clines csteps csayings cfindings cwarnings cquestions cpersonsc cpapersc cstampsc cversionsc clinesc cstepsc csayingsc cfindingsc cwarningsc cquestionsc tby tln tsp tlnc tspc hs hz hi hw hn ht tr9 clk fi la ml mm sl sm clm hd kc0 km0 kc1 km1 kc2 km2 kc3 km3 kc4 km4 kc5 km5 kc6 km6 kc7 km7 kc8 km8 kc9 km9 kc10 km10 kc11 km11 kc12 km12 fc sh rr tc rrc xm nw nk nt nr nm ns nl nc nF np ntr nb nso nsi nit nsh nsf nss nrc kbpersons kbpapers kbstamps kbversions kblines kbsteps kbsayings kbfindings kbwarnings kbquestions kcpersons kcpapers kcstamps kcversions kclines kcsteps kcsayings kcfindings kcwarnings kcquestions kt ks kn kln ksp jr kr ytp yrm yjr ikp td vd vl gp ktd kvd kvl kgp tkd tf9 dk dn dp da dq cl bo le bi r1 rc rh tf tt9 tl tbv asd st9 tol mroundOf mroundFrom mfromHour mtoHour mfrom mto msort misFault mdeep mcoded mlines mbestCost mdealer mnumber mwhose msize misParted fbpersons fbpapers fbstamps fbversions fblines fbsteps fbsayings fbfindings fbwarnings fbquestions fcpersons fcpapers fcstamps fcversions fclines fcsteps fcsayings fcfindings fcwarnings fcquestions fby ftln ftsp fhw fhn ftr fhs fhz fhi fclm ffi fla fml fmm fsl fsm fk0 fk1 fk2 fk3 fk4 fk5 fk6 fk7 fk8 fk9 fk10 fk11 fk12 ffc fsh frr ftc fht y_nw y_nk y_nt y_nr y_nm y_ns y_nl y_nc y_np y_ntr y_nb y_nso y_nsi y_nit y_nsh y_nsf y_nss y_nrc H locs ls ki hC hK hO hX hL hbl hbA hA hA2 hki hf0 hf1 hf2 hf3 hf4 hf5 hf6 hf7 hf8 hf9 hf10 hf11 hf12 i_kbpersons i_kbpapers i_kbstamps i_kbversions i_kblines i_kbsteps i_kbsayings i_kbfindings i_kbwarnings i_kbquestions i_kcpersons i_kcpapers i_kcstamps i_kcversions i_kclines i_kcsteps i_kcsayings i_kcfindings i_kcwarnings i_kcquestions i_kt i_ks i_kn i_kln i_ksp i_jr i_kr i_ytp i_yrm i_yjr i_tp i_cl i_tol i_ikp i_nw i_vw i_nk i_vk i_mb i_b6 i_sz i_sh i_sl i_sp i_sq i_sc i_sk i_epersons i_epapers i_estamps i_esayings i_efindings i_ewarnings i_equestions i_kpersons i_kpapers i_kstamps i_ksayings i_kfindings i_kwarnings i_kquestions hback hP hD hS hl
  refine Kan8 hC (fun hx hb hr hml hB hown hlocks hnm => ?_)
  refine lv_aload_n hx hb dL_law_1174 rfl (lv_at2 hl) ?_
  refine lv_aload_n hx hb dL_law_1175 rfl (lv_at3 hl) ?_
  refine lv_iload_n hx hb dL_law_1176 rfl (lv_at0 hl) ?_
  refine lv_iconst (v := 1) hx hb dL_law_1177 (by decide) ?_
  refine lv_iadd hx hb dL_law_1178 ?_
  refine eqi (x1 := nI (ki + 1)) (nI_add ki 1) ?_
  refine va_sld hx hb hX hbl hbA hS (lw_in hL hki (by decide)) dL_law_1179 ?_
  refine eqi (x1 := xs (ki + 1)) (congrArg xs (lw_cl hL hki (by decide))) ?_
  refine lv_aload_n hx hb dL_law_1180 rfl (lv_at3 hl) ?_
  refine lv_iload_n hx hb dL_law_1181 rfl (lv_at0 hl) ?_
  refine lv_iconst (v := 2) hx hb dL_law_1182 (by decide) ?_
  refine lv_iadd hx hb dL_law_1183 ?_
  refine eqi (x1 := nI (ki + 2)) (nI_add ki 2) ?_
  refine va_sld hx hb hX hbl hbA hS (lw_in hL hki (by decide)) dL_law_1184 ?_
  refine eqi (x1 := xs (ki + 2)) (congrArg xs (lw_cl hL hki (by decide))) ?_
  refine lk_iV hC hK hl hP hD hS hA (p_findingOf l G xb (xs (ki + 1)) (xs (ki + 2)) bb cc ikp sg do9 ru9 ta9 tp9 ro9 ho9 de9 clk fi la ml mm sl sm cl clm fclm ffi fla fml fmm fsl fsm fc sh r1 rc rh ffc fsh bpersons bpapers bstamps bversions blines bsteps bsayings bfindings bwarnings bquestions td vd vl gp bversionsc kbversions fbversions bpersonsc kbpersons fbpersons bpapersc kbpapers fbpapers blinesc kblines fblines bstepsc kbsteps fbsteps bstampsc kbstamps fbstamps bfindingsc kbfindings fbfindings bsayingsc kbsayings fbsayings bwarningsc kbwarnings fbwarnings (i_kbversions) (i_kbpersons) (i_kbpapers) (i_kblines) (i_kbsteps) (i_kbstamps) (i_kbfindings) (i_kbsayings) (i_kbwarnings) (i_cl)) si_L_120 [0, 57, 58, 59, 60, 61, 62, 63, 64, 65, 94, 95, 96, 1, 8, 9, 2, 3, 4, 5, 10, 11, 12, 13, 6, 7, 16, 17, 14, 15, 18, 19] [0, 13, 16, 17, 18, 19, 24, 25, 14, 15, 20, 21, 22, 23, 28, 29, 26, 27, 30, 31, 1, 2, 3, 4, 5, 6, 7, 8, 9, 10, 11, 12] [true, true, true, true, true, true, true, true, true, true, true, true, true, true, true, true, true, true, true, true, false, false, false, false, false, false, false, false, false, false, false, false, false, false, false, false, false, false, false, false, false, false, false, false, false, false, false, false, false, false, false, false, false, false, false, false, false, true, true, true, true, true, true, true, true, true, false, false, false, false, false, false, false, false, false, false, false, false, false, false, false, false, false, false, false, false, false, false, false, false, false, false, false, false, true, true, true, false, false, false, false, false, false, false, false, false, false, false, false, false, false, false, false, false, false, false, false, false, false, false, false, false, false] rfl rfl (by decide +kernel) (by decide +kernel) rfl rfl rfl rfl rfl (Nat.le_of_ble_eq_true rfl) ⟨Nat.le_of_ble_eq_true rfl, Nat.le_of_ble_eq_true rfl⟩ ⟨by first | exact Nat.le_of_ble_eq_true rfl | omega, by first | exact Nat.le_of_ble_eq_true rfl | omega⟩ dL_law_1185 (fun r9772 => Ktu13 fun cl19774 gclm9775 gfi9776 gla9777 gml9778 gmm9779 gsl9780 gsm9781 r119782 rc19783 rh19784 gfc9785 gsh9786 => ?_)
  intro H locs hr9772 hP2 hS
  try dsimp only at hr9772
  refine Kpdr (ws := (WLW G K hf xb bb cc sg do9 ru9 ta9 tp9 ro9 ho9 de9 bpersons bpapers bstamps bversions blines bsteps bsayings bfindings bwarnings bquestions bpersonsc bpapersc bstampsc bversionsc blinesc bstepsc bsayingsc bfindingsc bwarningsc bquestionsc cpersons cpapers cstamps cversions clines csteps csayings cfindings cwarnings cquestions cpersonsc cpapersc cstampsc cversionsc clinesc cstepsc csayingsc cfindingsc cwarningsc cquestionsc tby tln tsp tlnc tspc hs hz hi hw hn ht tr9 clk fi la ml mm sl sm clm hd kc0 km0 kc1 km1 kc2 km2 kc3 km3 kc4 km4 kc5 km5 kc6 km6 kc7 km7 kc8 km8 kc9 km9 kc10 km10 kc11 km11 kc12 km12 fc sh rr tc rrc xm nw nk nt nr nm ns nl nc nF np ntr nb nso nsi nit nsh nsf nss nrc kbpersons kbpapers kbstamps kbversions kblines kbsteps kbsayings kbfindings kbwarnings kbquestions kcpersons kcpapers kcstamps kcversions kclines kcsteps kcsayings kcfindings kcwarnings kcquestions kt ks kn kln ksp jr kr ytp yrm yjr ikp td vd vl gp ktd kvd kvl kgp tkd tf9 dk dn dp da dq cl19774 bo le bi r119782 rc19783 rh19784 tf tt9 tl tbv asd st9 tol mroundOf mroundFrom mfromHour mtoHour mfrom mto msort misFault mdeep mcoded mlines mbestCost mdealer mnumber mwhose msize misParted fbpersons fbpapers fbstamps fbversions fblines fbsteps fbsayings fbfindings fbwarnings fbquestions fcpersons fcpapers fcstamps fcversions fclines fcsteps fcsayings fcfindings fcwarnings fcquestions fby ftln ftsp fhw fhn ftr fhs fhz fhi gclm9775 gfi9776 gla9777 gml9778 gmm9779 gsl9780 gsm9781 fk0 fk1 fk2 fk3 fk4 fk5 fk6 fk7 fk8 fk9 fk10 fk11 fk12 gfc9785 gsh9786 frr ftc fht y_nw y_nk y_nt y_nr y_nm y_ns y_nl y_nc y_np y_ntr y_nb y_nso y_nsi y_nit y_nsh y_nsf y_nss y_nrc)) hP2 (lk_D hD rfl) (fun hP hD => ?_)
  obtain ⟨hr9772, w9787⟩ := hr9772
  refine lv_pop hx hb dL_law_1188 rfl ?_
  refine lv_aload_n hx hb dL_law_1189 rfl (lv_at1 hl) ?_
  refine lv_aload_n hx hb dL_law_1190 rfl (lv_at3 hl) ?_
  refine lv_iload_n hx hb dL_law_1191 rfl (lv_at0 hl) ?_
  refine lv_iconst (v := 1) hx hb dL_law_1192 (by decide) ?_
  refine lv_iadd hx hb dL_law_1193 ?_
  refine eqi (x1 := nI (ki + 1)) (nI_add ki 1) ?_
  refine va_sld hx hb hX hbl hbA hS (lw_in hL hki (by decide)) dL_law_1194 ?_
  refine eqi (x1 := xs (ki + 1)) (congrArg xs (lw_cl hL hki (by decide))) ?_
  refine lv_aload_n hx hb dL_law_1195 rfl (lv_at3 hl) ?_
  refine lv_iload_n hx hb dL_law_1196 rfl (lv_at0 hl) ?_
  refine lv_iconst (v := 2) hx hb dL_law_1197 (by decide) ?_
  refine lv_iadd hx hb dL_law_1198 ?_
  refine eqi (x1 := nI (ki + 2)) (nI_add ki 2) ?_
  refine va_sld hx hb hX hbl hbA hS (lw_in hL hki (by decide)) dL_law_1199 ?_
  refine eqi (x1 := xs (ki + 2)) (congrArg xs (lw_cl hL hki (by decide))) ?_
  refine lk_iV hC hK hl hP hD hS hA (r_findingOf l G xm (xs (ki + 1)) (xs (ki + 2)) nw nk ikp nt (nI ytp) nr (nI yrm) mroundOf mroundFrom nm mfromHour mtoHour ns mfrom mto msort misFault mdeep mcoded mlines nl nc nF np ntr nb mbestCost nso nsi nit nsh nsf nss nrc (nI yjr) mdealer mnumber mwhose msize misParted y_nw y_nm y_ns y_np (i_nw) (i_vw) (i_mb)) si_L_123 [103, 104, 108, 109, 112] [0, 1, 2, 3, 4] [false, false, false, false, false, false, false, false, false, false, false, false, false, false, false, false, false, false, false, false, false, false, false, false, false, false, false, false, false, false, false, false, false, false, false, false, false, false, false, false, false, false, false, false, false, false, false, false, false, false, false, false, false, false, false, false, false, false, false, false, false, false, false, false, false, false, false, false, false, false, false, false, false, false, false, false, false, false, false, false, false, false, false, false, false, false, false, false, false, false, false, false, false, false, false, false, false, false, false, false, false, false, false, true, true, false, false, false, true, true, false, false, true, false, false, false, false, false, false, false, false, false, false] rfl rfl (by decide +kernel) (by decide +kernel) rfl rfl rfl rfl rfl (Nat.le_of_ble_eq_true rfl) ⟨Nat.le_of_ble_eq_true rfl, Nat.le_of_ble_eq_true rfl⟩ ⟨by first | exact Nat.le_of_ble_eq_true rfl | omega, by first | exact Nat.le_of_ble_eq_true rfl | omega⟩ dL_law_1200 (fun r9788 => Ktu5 fun fh19790 th19791 gnm9792 gns9793 gnp9794 => ?_)
  intro H locs hr9788 hP2 hS
  try dsimp only at hr9788
  refine Kpdr (ws := (WLW G K hf xb bb cc sg do9 ru9 ta9 tp9 ro9 ho9 de9 bpersons bpapers bstamps bversions blines bsteps bsayings bfindings bwarnings bquestions bpersonsc bpapersc bstampsc bversionsc blinesc bstepsc bsayingsc bfindingsc bwarningsc bquestionsc cpersons cpapers cstamps cversions clines csteps csayings cfindings cwarnings cquestions cpersonsc cpapersc cstampsc cversionsc clinesc cstepsc csayingsc cfindingsc cwarningsc cquestionsc tby tln tsp tlnc tspc hs hz hi hw hn ht tr9 clk fi la ml mm sl sm clm hd kc0 km0 kc1 km1 kc2 km2 kc3 km3 kc4 km4 kc5 km5 kc6 km6 kc7 km7 kc8 km8 kc9 km9 kc10 km10 kc11 km11 kc12 km12 fc sh rr tc rrc xm nw nk nt nr nm ns nl nc nF np ntr nb nso nsi nit nsh nsf nss nrc kbpersons kbpapers kbstamps kbversions kblines kbsteps kbsayings kbfindings kbwarnings kbquestions kcpersons kcpapers kcstamps kcversions kclines kcsteps kcsayings kcfindings kcwarnings kcquestions kt ks kn kln ksp jr kr ytp yrm yjr ikp td vd vl gp ktd kvd kvl kgp tkd tf9 dk dn dp da dq cl19774 bo le bi r119782 rc19783 rh19784 tf tt9 tl tbv asd st9 tol mroundOf mroundFrom fh19790 th19791 mfrom mto msort misFault mdeep mcoded mlines mbestCost mdealer mnumber mwhose msize misParted fbpersons fbpapers fbstamps fbversions fblines fbsteps fbsayings fbfindings fbwarnings fbquestions fcpersons fcpapers fcstamps fcversions fclines fcsteps fcsayings fcfindings fcwarnings fcquestions fby ftln ftsp fhw fhn ftr fhs fhz fhi gclm9775 gfi9776 gla9777 gml9778 gmm9779 gsl9780 gsm9781 fk0 fk1 fk2 fk3 fk4 fk5 fk6 fk7 fk8 fk9 fk10 fk11 fk12 gfc9785 gsh9786 frr ftc fht y_nw y_nk y_nt y_nr gnm9792 gns9793 y_nl y_nc gnp9794 y_ntr y_nb y_nso y_nsi y_nit y_nsh y_nsf y_nss y_nrc)) hP2 (lk_D hD rfl) (fun hP hD => ?_)
  obtain ⟨hr9788, w9795⟩ := hr9788
  refine lv_pop hx hb dL_law_1203 rfl ?_
  refine lv_goto (tgt := 1718) hx hb dL_law_1204 (by decide) ?_
  exact hback kbpersons kbpapers kbstamps kbversions kblines kbsteps kbsayings kbfindings kbwarnings kbquestions kcpersons kcpapers kcstamps kcversions kclines kcsteps kcsayings kcfindings kcwarnings kcquestions kt ks kn kln ksp jr kr ytp yrm yjr ikp td vd vl gp ktd kvd kvl kgp tkd tf9 dk dn dp da dq cl19774 bo le bi r119782 rc19783 rh19784 tf tt9 tl tbv asd st9 tol mroundOf mroundFrom fh19790 th19791 mfrom mto msort misFault mdeep mcoded mlines mbestCost mdealer mnumber mwhose msize misParted fbpersons fbpapers fbstamps fbversions fblines fbsteps fbsayings fbfindings fbwarnings fbquestions fcpersons fcpapers fcstamps fcversions fclines fcsteps fcsayings fcfindings fcwarnings fcquestions fby ftln ftsp fhw fhn ftr fhs fhz fhi gclm9775 gfi9776 gla9777 gml9778 gmm9779 gsl9780 gsm9781 fk0 fk1 fk2 fk3 fk4 fk5 fk6 fk7 fk8 fk9 fk10 fk11 fk12 gfc9785 gsh9786 frr ftc fht y_nw y_nk y_nt y_nr gnm9792 gns9793 y_nl y_nc gnp9794 y_ntr y_nb y_nso y_nsi y_nit y_nsh y_nsf y_nss y_nrc H locs ls i_kbpersons i_kbpapers i_kbstamps i_kbversions i_kblines i_kbsteps i_kbsayings i_kbfindings i_kbwarnings i_kbquestions i_kcpersons i_kcpapers i_kcstamps i_kcversions i_kclines i_kcsteps i_kcsayings i_kcfindings i_kcwarnings i_kcquestions i_kt i_ks i_kn i_kln i_ksp i_jr i_kr i_ytp i_yrm i_yjr i_tp (by first | assumption | omega | exact Or.inl rfl | exact Or.inr rfl) i_tol i_ikp i_nw i_vw i_nk i_vk (by first | assumption | omega | exact Or.inl rfl | exact Or.inr rfl) i_b6 i_sz i_sh i_sl i_sp i_sq i_sc i_sk i_epersons i_epapers i_estamps i_esayings i_efindings i_ewarnings i_equestions i_kpersons i_kpapers i_kstamps i_ksayings i_kfindings i_kwarnings i_kquestions hP hD hS (lv_sub hl [0, 1, 2, 3] rfl)
set_option maxHeartbeats 8000000 in
set_option maxRecDepth 100000 in
theorem law_25 : LAWC 1207 := by
  intro p l e s m below meth c b L xs G K A hf xb bb cc sg do9 ru9 ta9 tp9 ro9 ho9 de9 bpersons bpapers bstamps bversions blines bsteps bsayings bfindings bwarnings bquestions bpersonsc bpapersc bstampsc bversionsc blinesc bstepsc bsayingsc bfindingsc bwarningsc bquestionsc cpersons cpapers cstamps cversions clines csteps csayings cfindings cwarnings cquestions cpersonsc cpapersc cstampsc cversionsc clinesc cstepsc csayingsc cfindingsc cwarningsc cquestionsc tby tln tsp tlnc tspc hs hz hi hw hn ht tr9 clk fi la ml mm sl sm clm hd kc0 km0 kc1 km1 kc2 km2 kc3 km3 kc4 km4 kc5 km5 kc6 km6 kc7 km7 kc8 km8 kc9 km9 kc10 km10 kc11 km11 kc12 km12 fc sh rr tc rrc xm nw nk nt nr nm ns nl nc nF np ntr nb nso nsi nit nsh nsf nss nrc kbpersons kbpapers kbstamps kbversions kblines kbsteps kbsayings kbfindings kbwarnings kbquestions kcpersons kcpapers kcstamps kcversions kclines kcsteps kcsayings kcfindings kcwarnings kcquestions kt ks kn kln ksp jr kr ytp yrm yjr ikp td vd vl gp ktd kvd kvl kgp tkd tf9 dk dn dp da dq cl bo le bi r1 rc rh tf tt9 tl tbv asd st9 tol mroundOf mroundFrom mfromHour mtoHour mfrom mto msort misFault mdeep mcoded mlines mbestCost mdealer mnumber mwhose msize misParted fbpersons fbpapers fbstamps fbversions fblines fbsteps fbsayings fbfindings fbwarnings fbquestions fcpersons fcpapers fcstamps fcversions fclines fcsteps fcsayings fcfindings fcwarnings fcquestions fby ftln ftsp fhw fhn ftr fhs fhz fhi fclm ffi fla fml fmm fsl fsm fk0 fk1 fk2 fk3 fk4 fk5 fk6 fk7 fk8 fk9 fk10 fk11 fk12 ffc fsh frr ftc fht y_nw y_nk y_nt y_nr y_nm y_ns y_nl y_nc y_np y_ntr y_nb y_nso y_nsi y_nit y_nsh y_nsf y_nss y_nrc H locs ls ki hC hK hO hX hL hbl hbA hA hA2 hki hf0 hf1 hf2 hf3 hf4 hf5 hf6 hf7 hf8 hf9 hf10 hf11 hf12 i_kbpersons i_kbpapers i_kbstamps i_kbversions i_kblines i_kbsteps i_kbsayings i_kbfindings i_kbwarnings i_kbquestions i_kcpersons i_kcpapers i_kcstamps i_kcversions i_kclines i_kcsteps i_kcsayings i_kcfindings i_kcwarnings i_kcquestions i_kt i_ks i_kn i_kln i_ksp i_jr i_kr i_ytp i_yrm i_yjr i_tp i_cl i_tol i_ikp i_nw i_vw i_nk i_vk i_mb i_b6 i_sz i_sh i_sl i_sp i_sq i_sc i_sk i_epersons i_epapers i_estamps i_esayings i_efindings i_ewarnings i_equestions i_kpersons i_kpapers i_kstamps i_ksayings i_kfindings i_kwarnings i_kquestions hback hP hD hS hl
  refine Kan8 hC (fun hx hb hr hml hB hown hlocks hnm => ?_)
  refine lv_aload_n hx hb dL_law_1207 rfl (lv_at2 hl) ?_
  refine lv_aload_n hx hb dL_law_1208 rfl (lv_at3 hl) ?_
  refine lv_iload_n hx hb dL_law_1209 rfl (lv_at0 hl) ?_
  refine lv_iconst (v := 1) hx hb dL_law_1210 (by decide) ?_
  refine lv_iadd hx hb dL_law_1211 ?_
  refine eqi (x1 := nI (ki + 1)) (nI_add ki 1) ?_
  refine va_sld hx hb hX hbl hbA hS (lw_in hL hki (by decide)) dL_law_1212 ?_
  refine eqi (x1 := xs (ki + 1)) (congrArg xs (lw_cl hL hki (by decide))) ?_
  refine lv_aload_n hx hb dL_law_1213 rfl (lv_at3 hl) ?_
  refine lv_iload_n hx hb dL_law_1214 rfl (lv_at0 hl) ?_
  refine lv_iconst (v := 2) hx hb dL_law_1215 (by decide) ?_
  refine lv_iadd hx hb dL_law_1216 ?_
  refine eqi (x1 := nI (ki + 2)) (nI_add ki 2) ?_
  refine va_sld hx hb hX hbl hbA hS (lw_in hL hki (by decide)) dL_law_1217 ?_
  refine eqi (x1 := xs (ki + 2)) (congrArg xs (lw_cl hL hki (by decide))) ?_
  refine lk_iV hC hK hl hP hD hS hA (p_warn l G xb (xs (ki + 1)) (xs (ki + 2)) bb cc ikp sg do9 ru9 ta9 tp9 ro9 ho9 de9 bpersons bpapers bstamps bversions blines bsteps bsayings bfindings bwarnings bquestions td vd vl gp bwarningsc kbwarnings fbwarnings bpersonsc kbpersons bpapersc kbpapers (i_kbwarnings) (i_kbpersons) (i_kbpapers)) si_L_124 [0, 1, 18, 19, 2, 4] [0, 1, 4, 5, 2, 3] [true, true, true, false, true, false, false, false, false, false, false, false, false, false, false, false, false, false, true, true, false, false, false, false, false, false, false, false, false, false, false, false, false, false, false, false, false, false, false, false, false, false, false, false, false, false, false, false, false, false, false, false, false, false, false, false, false, false, false, false, false, false, false, false, false, false, false, false, false, false, false, false, false, false, false, false, false, false, false, false, false, false, false, false, false, false, false, false, false, false, false, false, false, false, false, false, false, false, false, false, false, false, false, false, false, false, false, false, false, false, false, false, false, false, false, false, false, false, false, false, false, false, false] rfl rfl (by decide +kernel) (by decide +kernel) rfl rfl rfl rfl rfl (Nat.le_of_ble_eq_true rfl) ⟨Nat.le_of_ble_eq_true rfl, Nat.le_of_ble_eq_true rfl⟩ ⟨by first | exact Nat.le_of_ble_eq_true rfl | omega, by first | exact Nat.le_of_ble_eq_true rfl | omega⟩ dL_law_1218 (fun r9796 => Ktu2 fun k19798 gwarnings9799 => ?_)
  intro H locs hr9796 hP2 hS
  try dsimp only at hr9796
  refine Kpdr (ws := (WLW G K hf xb bb cc sg do9 ru9 ta9 tp9 ro9 ho9 de9 bpersons bpapers bstamps bversions blines bsteps bsayings bfindings bwarnings bquestions bpersonsc bpapersc bstampsc bversionsc blinesc bstepsc bsayingsc bfindingsc bwarningsc bquestionsc cpersons cpapers cstamps cversions clines csteps csayings cfindings cwarnings cquestions cpersonsc cpapersc cstampsc cversionsc clinesc cstepsc csayingsc cfindingsc cwarningsc cquestionsc tby tln tsp tlnc tspc hs hz hi hw hn ht tr9 clk fi la ml mm sl sm clm hd kc0 km0 kc1 km1 kc2 km2 kc3 km3 kc4 km4 kc5 km5 kc6 km6 kc7 km7 kc8 km8 kc9 km9 kc10 km10 kc11 km11 kc12 km12 fc sh rr tc rrc xm nw nk nt nr nm ns nl nc nF np ntr nb nso nsi nit nsh nsf nss nrc kbpersons kbpapers kbstamps kbversions kblines kbsteps kbsayings kbfindings k19798 kbquestions kcpersons kcpapers kcstamps kcversions kclines kcsteps kcsayings kcfindings kcwarnings kcquestions kt ks kn kln ksp jr kr ytp yrm yjr ikp td vd vl gp ktd kvd kvl kgp tkd tf9 dk dn dp da dq cl bo le bi r1 rc rh tf tt9 tl tbv asd st9 tol mroundOf mroundFrom mfromHour mtoHour mfrom mto msort misFault mdeep mcoded mlines mbestCost mdealer mnumber mwhose msize misParted fbpersons fbpapers fbstamps fbversions fblines fbsteps fbsayings fbfindings gwarnings9799 fbquestions fcpersons fcpapers fcstamps fcversions fclines fcsteps fcsayings fcfindings fcwarnings fcquestions fby ftln ftsp fhw fhn ftr fhs fhz fhi fclm ffi fla fml fmm fsl fsm fk0 fk1 fk2 fk3 fk4 fk5 fk6 fk7 fk8 fk9 fk10 fk11 fk12 ffc fsh frr ftc fht y_nw y_nk y_nt y_nr y_nm y_ns y_nl y_nc y_np y_ntr y_nb y_nso y_nsi y_nit y_nsh y_nsf y_nss y_nrc)) hP2 (lk_D hD rfl) (fun hP hD => ?_)
  obtain ⟨hr9796, w9800⟩ := hr9796
  obtain rfl := hr9796
  refine lv_pop hx hb dL_law_1221 rfl ?_
  refine lv_aload_n hx hb dL_law_1222 rfl (lv_at1 hl) ?_
  refine lv_aload_n hx hb dL_law_1223 rfl (lv_at3 hl) ?_
  refine lv_iload_n hx hb dL_law_1224 rfl (lv_at0 hl) ?_
  refine lv_iconst (v := 1) hx hb dL_law_1225 (by decide) ?_
  refine lv_iadd hx hb dL_law_1226 ?_
  refine eqi (x1 := nI (ki + 1)) (nI_add ki 1) ?_
  refine va_sld hx hb hX hbl hbA hS (lw_in hL hki (by decide)) dL_law_1227 ?_
  refine eqi (x1 := xs (ki + 1)) (congrArg xs (lw_cl hL hki (by decide))) ?_
  refine lv_aload_n hx hb dL_law_1228 rfl (lv_at3 hl) ?_
  refine lv_iload_n hx hb dL_law_1229 rfl (lv_at0 hl) ?_
  refine lv_iconst (v := 2) hx hb dL_law_1230 (by decide) ?_
  refine lv_iadd hx hb dL_law_1231 ?_
  refine eqi (x1 := nI (ki + 2)) (nI_add ki 2) ?_
  refine va_sld hx hb hX hbl hbA hS (lw_in hL hki (by decide)) dL_law_1232 ?_
  refine eqi (x1 := xs (ki + 2)) (congrArg xs (lw_cl hL hki (by decide))) ?_
  refine lk_iV hC hK hl hP hD hS hA (w_warn l G kbpersons kbpapers kbwarnings xm (xs (ki + 1)) (xs (ki + 2)) nw nk ikp nt (nI ytp) nr (nI yrm) mroundOf mroundFrom 0 nm mfromHour mtoHour ns mfrom mto msort misFault mdeep mcoded mlines nl nc nF np ntr nb mbestCost nso nsi nit nsh nsf nss nrc (nI yjr) mdealer mnumber mwhose msize misParted y_nw (i_sc.2.2.2.2.1) (i_kbpersons) (i_sc.2.2.2.2.2.1) (i_kbpapers) (i_sc.2.2.2.2.2.2.2.2.2.1) (i_kbwarnings) (i_nw) (i_vw)) si_L_127 [103, 104] [0, 1] [false, false, false, false, false, false, false, false, false, false, false, false, false, false, false, false, false, false, false, false, false, false, false, false, false, false, false, false, false, false, false, false, false, false, false, false, false, false, false, false, false, false, false, false, false, false, false, false, false, false, false, false, false, false, false, false, false, false, false, false, false, false, false, false, false, false, false, false, false, false, false, false, false, false, false, false, false, false, false, false, false, false, false, false, false, false, false, false, false, false, false, false, false, false, false, false, false, false, false, false, false, false, false, true, true, false, false, false, false, false, false, false, false, false, false, false, false, false, false, false, false, false, false] rfl rfl (by decide +kernel) (by decide +kernel) rfl rfl rfl rfl rfl (Nat.le_of_ble_eq_true rfl) ⟨Nat.le_of_ble_eq_true rfl, Nat.le_of_ble_eq_true rfl⟩ ⟨by first | exact Nat.le_of_ble_eq_true rfl | omega, by first | exact Nat.le_of_ble_eq_true rfl | omega⟩ dL_law_1233 (fun r9802 gnw9804 H locs hr9802 hP2 hS => ?_)
  try dsimp only at hr9802
  refine Kpdr (ws := (WLW G K hf xb bb cc sg do9 ru9 ta9 tp9 ro9 ho9 de9 bpersons bpapers bstamps bversions blines bsteps bsayings bfindings bwarnings bquestions bpersonsc bpapersc bstampsc bversionsc blinesc bstepsc bsayingsc bfindingsc bwarningsc bquestionsc cpersons cpapers cstamps cversions clines csteps csayings cfindings cwarnings cquestions cpersonsc cpapersc cstampsc cversionsc clinesc cstepsc csayingsc cfindingsc cwarningsc cquestionsc tby tln tsp tlnc tspc hs hz hi hw hn ht tr9 clk fi la ml mm sl sm clm hd kc0 km0 kc1 km1 kc2 km2 kc3 km3 kc4 km4 kc5 km5 kc6 km6 kc7 km7 kc8 km8 kc9 km9 kc10 km10 kc11 km11 kc12 km12 fc sh rr tc rrc xm nw nk nt nr nm ns nl nc nF np ntr nb nso nsi nit nsh nsf nss nrc kbpersons kbpapers kbstamps kbversions kblines kbsteps kbsayings kbfindings k19798 kbquestions kcpersons kcpapers kcstamps kcversions kclines kcsteps kcsayings kcfindings kcwarnings kcquestions kt ks kn kln ksp jr kr ytp yrm yjr ikp td vd vl gp ktd kvd kvl kgp tkd tf9 dk dn dp da dq cl bo le bi r1 rc rh tf tt9 tl tbv asd st9 tol mroundOf mroundFrom mfromHour mtoHour mfrom mto msort misFault mdeep mcoded mlines mbestCost mdealer mnumber mwhose msize misParted fbpersons fbpapers fbstamps fbversions fblines fbsteps fbsayings fbfindings gwarnings9799 fbquestions fcpersons fcpapers fcstamps fcversions fclines fcsteps fcsayings fcfindings fcwarnings fcquestions fby ftln ftsp fhw fhn ftr fhs fhz fhi fclm ffi fla fml fmm fsl fsm fk0 fk1 fk2 fk3 fk4 fk5 fk6 fk7 fk8 fk9 fk10 fk11 fk12 ffc fsh frr ftc fht gnw9804 y_nk y_nt y_nr y_nm y_ns y_nl y_nc y_np y_ntr y_nb y_nso y_nsi y_nit y_nsh y_nsf y_nss y_nrc)) hP2 (lk_D hD rfl) (fun hP hD => ?_)
  obtain ⟨hr9802, w9805⟩ := hr9802
  obtain rfl := hr9802
  refine lv_pop hx hb dL_law_1236 rfl ?_
  refine lv_goto (tgt := 1718) hx hb dL_law_1237 (by decide) ?_
  obtain ⟨z9807, z9808, z9809, z9810⟩ := w9800
  obtain ⟨z9811, z9812, z9813, z9814, z9815, z9816, z9817, z9818, z9819, z9820, z9821, z9822, z9823, z9824, z9825⟩ := w9805
  have hs_y_nw : SCX gnw9804 td vd vl gp (nI kbpersons) (nI kbpapers) (nI kbstamps) (nI kbsayings) (nI kbfindings) (nI k19798) (nI kbquestions) := ⟨(z9813).trans (i_sc.1), (z9814).trans (i_sc.2.1), (z9815).trans (i_sc.2.2.1), (z9816).trans (i_sc.2.2.2.1), (z9817).trans (i_sc.2.2.2.2.1), (z9818).trans (i_sc.2.2.2.2.2.1), (z9819).trans (i_sc.2.2.2.2.2.2.1), (z9820).trans (i_sc.2.2.2.2.2.2.2.1), (z9821).trans (i_sc.2.2.2.2.2.2.2.2.1), (by rw [z9822, z9809, ifc_full (k := kbwarnings) (R := 16) (by omega) (by decide)]; first | done | rfl), (z9823).trans (i_sc.2.2.2.2.2.2.2.2.2.2)⟩
  have he_persons : EQT gnw9804 12 20 fbpersons := EQT.fr i_epersons z9824 (by decide) (by decide)
  have he_papers : EQT gnw9804 32 72 fbpapers := EQT.fr i_epapers z9824 (by decide) (by decide)
  have he_stamps : EQT gnw9804 104 72 fbstamps := EQT.fr i_estamps z9824 (by decide) (by decide)
  have he_sayings : EQT gnw9804 1424 128 fbsayings := EQT.fr i_esayings z9824 (by decide) (by decide)
  have he_findings : EQT gnw9804 1552 48 fbfindings := EQT.fr i_efindings z9824 (by decide) (by decide)
  have he_warnings : EQT gnw9804 1600 48 gwarnings9799 := fun i hi9 => by rw [z9825 i hi9, z9810 i, ifc_full (k := kbwarnings) (R := 16) (by omega) (by decide), i_ewarnings i hi9, rowu_congr (f := shf y_nw 1600) (g := fbwarnings) (n := 48) _ i_ewarnings i hi9, i_sc.1]; first | done | rfl
  have he_questions : EQT gnw9804 1648 14 fbquestions := EQT.fr i_equestions z9824 (by decide) (by decide)
  exact hback kbpersons kbpapers kbstamps kbversions kblines kbsteps kbsayings kbfindings k19798 kbquestions kcpersons kcpapers kcstamps kcversions kclines kcsteps kcsayings kcfindings kcwarnings kcquestions kt ks kn kln ksp jr kr ytp yrm yjr ikp td vd vl gp ktd kvd kvl kgp tkd tf9 dk dn dp da dq cl bo le bi r1 rc rh tf tt9 tl tbv asd st9 tol mroundOf mroundFrom mfromHour mtoHour mfrom mto msort misFault mdeep mcoded mlines mbestCost mdealer mnumber mwhose msize misParted fbpersons fbpapers fbstamps fbversions fblines fbsteps fbsayings fbfindings gwarnings9799 fbquestions fcpersons fcpapers fcstamps fcversions fclines fcsteps fcsayings fcfindings fcwarnings fcquestions fby ftln ftsp fhw fhn ftr fhs fhz fhi fclm ffi fla fml fmm fsl fsm fk0 fk1 fk2 fk3 fk4 fk5 fk6 fk7 fk8 fk9 fk10 fk11 fk12 ffc fsh frr ftc fht gnw9804 y_nk y_nt y_nr y_nm y_ns y_nl y_nc y_np y_ntr y_nb y_nso y_nsi y_nit y_nsh y_nsf y_nss y_nrc H locs ls i_kbpersons i_kbpapers i_kbstamps i_kbversions i_kblines i_kbsteps i_kbsayings i_kbfindings (by first | assumption | omega | exact Or.inl rfl | exact Or.inr rfl) i_kbquestions i_kcpersons i_kcpapers i_kcstamps i_kcversions i_kclines i_kcsteps i_kcsayings i_kcfindings i_kcwarnings i_kcquestions i_kt i_ks i_kn i_kln i_ksp i_jr i_kr i_ytp i_yrm i_yjr i_tp i_cl i_tol i_ikp (by first | assumption | omega | exact Or.inl rfl | exact Or.inr rfl) (by first | assumption | omega | exact Or.inl rfl | exact Or.inr rfl) i_nk i_vk i_mb i_b6 i_sz i_sh i_sl i_sp i_sq (by first | assumption | omega | exact Or.inl rfl | exact Or.inr rfl) i_sk (by first | assumption | omega | exact Or.inl rfl | exact Or.inr rfl) (by first | assumption | omega | exact Or.inl rfl | exact Or.inr rfl) (by first | assumption | omega | exact Or.inl rfl | exact Or.inr rfl) (by first | assumption | omega | exact Or.inl rfl | exact Or.inr rfl) (by first | assumption | omega | exact Or.inl rfl | exact Or.inr rfl) (by first | assumption | omega | exact Or.inl rfl | exact Or.inr rfl) (by first | assumption | omega | exact Or.inl rfl | exact Or.inr rfl) i_kpersons i_kpapers i_kstamps i_ksayings i_kfindings i_kwarnings i_kquestions hP hD hS (lv_sub hl [0, 1, 2, 3] rfl)
set_option maxHeartbeats 8000000 in
set_option maxRecDepth 100000 in
theorem law_26 : LAWC 1240 := by
  intro p l e s m below meth c b L xs G K A hf xb bb cc sg do9 ru9 ta9 tp9 ro9 ho9 de9 bpersons bpapers bstamps bversions blines bsteps bsayings bfindings bwarnings bquestions bpersonsc bpapersc bstampsc bversionsc blinesc bstepsc bsayingsc bfindingsc bwarningsc bquestionsc cpersons cpapers cstamps cversions clines csteps csayings cfindings cwarnings cquestions cpersonsc cpapersc cstampsc cversionsc clinesc cstepsc csayingsc cfindingsc cwarningsc cquestionsc tby tln tsp tlnc tspc hs hz hi hw hn ht tr9 clk fi la ml mm sl sm clm hd kc0 km0 kc1 km1 kc2 km2 kc3 km3 kc4 km4 kc5 km5 kc6 km6 kc7 km7 kc8 km8 kc9 km9 kc10 km10 kc11 km11 kc12 km12 fc sh rr tc rrc xm nw nk nt nr nm ns nl nc nF np ntr nb nso nsi nit nsh nsf nss nrc kbpersons kbpapers kbstamps kbversions kblines kbsteps kbsayings kbfindings kbwarnings kbquestions kcpersons kcpapers kcstamps kcversions kclines kcsteps kcsayings kcfindings kcwarnings kcquestions kt ks kn kln ksp jr kr ytp yrm yjr ikp td vd vl gp ktd kvd kvl kgp tkd tf9 dk dn dp da dq cl bo le bi r1 rc rh tf tt9 tl tbv asd st9 tol mroundOf mroundFrom mfromHour mtoHour mfrom mto msort misFault mdeep mcoded mlines mbestCost mdealer mnumber mwhose msize misParted fbpersons fbpapers fbstamps fbversions fblines fbsteps fbsayings fbfindings fbwarnings fbquestions fcpersons fcpapers fcstamps fcversions fclines fcsteps fcsayings fcfindings fcwarnings fcquestions fby ftln ftsp fhw fhn ftr fhs fhz fhi fclm ffi fla fml fmm fsl fsm fk0 fk1 fk2 fk3 fk4 fk5 fk6 fk7 fk8 fk9 fk10 fk11 fk12 ffc fsh frr ftc fht y_nw y_nk y_nt y_nr y_nm y_ns y_nl y_nc y_np y_ntr y_nb y_nso y_nsi y_nit y_nsh y_nsf y_nss y_nrc H locs ls ki hC hK hO hX hL hbl hbA hA hA2 hki hf0 hf1 hf2 hf3 hf4 hf5 hf6 hf7 hf8 hf9 hf10 hf11 hf12 i_kbpersons i_kbpapers i_kbstamps i_kbversions i_kblines i_kbsteps i_kbsayings i_kbfindings i_kbwarnings i_kbquestions i_kcpersons i_kcpapers i_kcstamps i_kcversions i_kclines i_kcsteps i_kcsayings i_kcfindings i_kcwarnings i_kcquestions i_kt i_ks i_kn i_kln i_ksp i_jr i_kr i_ytp i_yrm i_yjr i_tp i_cl i_tol i_ikp i_nw i_vw i_nk i_vk i_mb i_b6 i_sz i_sh i_sl i_sp i_sq i_sc i_sk i_epersons i_epapers i_estamps i_esayings i_efindings i_ewarnings i_equestions i_kpersons i_kpapers i_kstamps i_ksayings i_kfindings i_kwarnings i_kquestions hback hP hD hS hl
  refine Kan8 hC (fun hx hb hr hml hB hown hlocks hnm => ?_)
  refine lv_aload_n hx hb dL_law_1240 rfl (lv_at2 hl) ?_
  refine lv_aload_n hx hb dL_law_1241 rfl (lv_at3 hl) ?_
  refine lv_iload_n hx hb dL_law_1242 rfl (lv_at0 hl) ?_
  refine lv_iconst (v := 1) hx hb dL_law_1243 (by decide) ?_
  refine lv_iadd hx hb dL_law_1244 ?_
  refine eqi (x1 := nI (ki + 1)) (nI_add ki 1) ?_
  refine va_sld hx hb hX hbl hbA hS (lw_in hL hki (by decide)) dL_law_1245 ?_
  refine eqi (x1 := xs (ki + 1)) (congrArg xs (lw_cl hL hki (by decide))) ?_
  refine lv_aload_n hx hb dL_law_1246 rfl (lv_at3 hl) ?_
  refine lv_iload_n hx hb dL_law_1247 rfl (lv_at0 hl) ?_
  refine lv_iconst (v := 2) hx hb dL_law_1248 (by decide) ?_
  refine lv_iadd hx hb dL_law_1249 ?_
  refine eqi (x1 := nI (ki + 2)) (nI_add ki 2) ?_
  refine va_sld hx hb hX hbl hbA hS (lw_in hL hki (by decide)) dL_law_1250 ?_
  refine eqi (x1 := xs (ki + 2)) (congrArg xs (lw_cl hL hki (by decide))) ?_
  refine lk_iV hC hK hl hP hD hS hA (p_question l G xb (xs (ki + 1)) (xs (ki + 2)) bb cc ikp sg do9 ru9 ta9 tp9 ro9 ho9 de9 bpersons bpapers bstamps bversions blines bsteps bsayings bfindings bwarnings bquestions td vd vl gp bquestionsc kbquestions fbquestions (i_kbquestions)) si_L_128 [0, 1, 20, 21] [0, 1, 2, 3] [true, true, false, false, false, false, false, false, false, false, false, false, false, false, false, false, false, false, false, false, true, true, false, false, false, false, false, false, false, false, false, false, false, false, false, false, false, false, false, false, false, false, false, false, false, false, false, false, false, false, false, false, false, false, false, false, false, false, false, false, false, false, false, false, false, false, false, false, false, false, false, false, false, false, false, false, false, false, false, false, false, false, false, false, false, false, false, false, false, false, false, false, false, false, false, false, false, false, false, false, false, false, false, false, false, false, false, false, false, false, false, false, false, false, false, false, false, false, false, false, false, false, false] rfl rfl (by decide +kernel) (by decide +kernel) rfl rfl rfl rfl rfl (Nat.le_of_ble_eq_true rfl) ⟨Nat.le_of_ble_eq_true rfl, Nat.le_of_ble_eq_true rfl⟩ ⟨by first | exact Nat.le_of_ble_eq_true rfl | omega, by first | exact Nat.le_of_ble_eq_true rfl | omega⟩ dL_law_1251 (fun r9826 => Ktu2 fun k19828 gquestions9829 => ?_)
  intro H locs hr9826 hP2 hS
  try dsimp only at hr9826
  refine Kpdr (ws := (WLW G K hf xb bb cc sg do9 ru9 ta9 tp9 ro9 ho9 de9 bpersons bpapers bstamps bversions blines bsteps bsayings bfindings bwarnings bquestions bpersonsc bpapersc bstampsc bversionsc blinesc bstepsc bsayingsc bfindingsc bwarningsc bquestionsc cpersons cpapers cstamps cversions clines csteps csayings cfindings cwarnings cquestions cpersonsc cpapersc cstampsc cversionsc clinesc cstepsc csayingsc cfindingsc cwarningsc cquestionsc tby tln tsp tlnc tspc hs hz hi hw hn ht tr9 clk fi la ml mm sl sm clm hd kc0 km0 kc1 km1 kc2 km2 kc3 km3 kc4 km4 kc5 km5 kc6 km6 kc7 km7 kc8 km8 kc9 km9 kc10 km10 kc11 km11 kc12 km12 fc sh rr tc rrc xm nw nk nt nr nm ns nl nc nF np ntr nb nso nsi nit nsh nsf nss nrc kbpersons kbpapers kbstamps kbversions kblines kbsteps kbsayings kbfindings kbwarnings k19828 kcpersons kcpapers kcstamps kcversions kclines kcsteps kcsayings kcfindings kcwarnings kcquestions kt ks kn kln ksp jr kr ytp yrm yjr ikp td vd vl gp ktd kvd kvl kgp tkd tf9 dk dn dp da dq cl bo le bi r1 rc rh tf tt9 tl tbv asd st9 tol mroundOf mroundFrom mfromHour mtoHour mfrom mto msort misFault mdeep mcoded mlines mbestCost mdealer mnumber mwhose msize misParted fbpersons fbpapers fbstamps fbversions fblines fbsteps fbsayings fbfindings fbwarnings gquestions9829 fcpersons fcpapers fcstamps fcversions fclines fcsteps fcsayings fcfindings fcwarnings fcquestions fby ftln ftsp fhw fhn ftr fhs fhz fhi fclm ffi fla fml fmm fsl fsm fk0 fk1 fk2 fk3 fk4 fk5 fk6 fk7 fk8 fk9 fk10 fk11 fk12 ffc fsh frr ftc fht y_nw y_nk y_nt y_nr y_nm y_ns y_nl y_nc y_np y_ntr y_nb y_nso y_nsi y_nit y_nsh y_nsf y_nss y_nrc)) hP2 (lk_D hD rfl) (fun hP hD => ?_)
  obtain ⟨hr9826, w9830⟩ := hr9826
  obtain rfl := hr9826
  refine lv_pop hx hb dL_law_1254 rfl ?_
  refine lv_aload_n hx hb dL_law_1255 rfl (lv_at1 hl) ?_
  refine lv_aload_n hx hb dL_law_1256 rfl (lv_at3 hl) ?_
  refine lv_iload_n hx hb dL_law_1257 rfl (lv_at0 hl) ?_
  refine lv_iconst (v := 1) hx hb dL_law_1258 (by decide) ?_
  refine lv_iadd hx hb dL_law_1259 ?_
  refine eqi (x1 := nI (ki + 1)) (nI_add ki 1) ?_
  refine va_sld hx hb hX hbl hbA hS (lw_in hL hki (by decide)) dL_law_1260 ?_
  refine eqi (x1 := xs (ki + 1)) (congrArg xs (lw_cl hL hki (by decide))) ?_
  refine lv_aload_n hx hb dL_law_1261 rfl (lv_at3 hl) ?_
  refine lv_iload_n hx hb dL_law_1262 rfl (lv_at0 hl) ?_
  refine lv_iconst (v := 2) hx hb dL_law_1263 (by decide) ?_
  refine lv_iadd hx hb dL_law_1264 ?_
  refine eqi (x1 := nI (ki + 2)) (nI_add ki 2) ?_
  refine va_sld hx hb hX hbl hbA hS (lw_in hL hki (by decide)) dL_law_1265 ?_
  refine eqi (x1 := xs (ki + 2)) (congrArg xs (lw_cl hL hki (by decide))) ?_
  refine lk_iV hC hK hl hP hD hS hA (w_question l G kbquestions xm (xs (ki + 1)) (xs (ki + 2)) nw nk ikp nt (nI ytp) nr (nI yrm) mroundOf mroundFrom 0 nm mfromHour mtoHour ns mfrom mto msort misFault mdeep mcoded mlines nl nc nF np ntr nb mbestCost nso nsi nit nsh nsf nss nrc (nI yjr) mdealer mnumber mwhose msize misParted y_nw (i_sc.2.2.2.2.2.2.2.2.2.2) (i_kbquestions) (i_nw) (i_vw)) si_L_131 [103, 104] [0, 1] [false, false, false, false, false, false, false, false, false, false, false, false, false, false, false, false, false, false, false, false, false, false, false, false, false, false, false, false, false, false, false, false, false, false, false, false, false, false, false, false, false, false, false, false, false, false, false, false, false, false, false, false, false, false, false, false, false, false, false, false, false, false, false, false, false, false, false, false, false, false, false, false, false, false, false, false, false, false, false, false, false, false, false, false, false, false, false, false, false, false, false, false, false, false, false, false, false, false, false, false, false, false, false, true, true, false, false, false, false, false, false, false, false, false, false, false, false, false, false, false, false, false, false] rfl rfl (by decide +kernel) (by decide +kernel) rfl rfl rfl rfl rfl (Nat.le_of_ble_eq_true rfl) ⟨Nat.le_of_ble_eq_true rfl, Nat.le_of_ble_eq_true rfl⟩ ⟨by first | exact Nat.le_of_ble_eq_true rfl | omega, by first | exact Nat.le_of_ble_eq_true rfl | omega⟩ dL_law_1266 (fun r9832 gnw9834 H locs hr9832 hP2 hS => ?_)
  try dsimp only at hr9832
  refine Kpdr (ws := (WLW G K hf xb bb cc sg do9 ru9 ta9 tp9 ro9 ho9 de9 bpersons bpapers bstamps bversions blines bsteps bsayings bfindings bwarnings bquestions bpersonsc bpapersc bstampsc bversionsc blinesc bstepsc bsayingsc bfindingsc bwarningsc bquestionsc cpersons cpapers cstamps cversions clines csteps csayings cfindings cwarnings cquestions cpersonsc cpapersc cstampsc cversionsc clinesc cstepsc csayingsc cfindingsc cwarningsc cquestionsc tby tln tsp tlnc tspc hs hz hi hw hn ht tr9 clk fi la ml mm sl sm clm hd kc0 km0 kc1 km1 kc2 km2 kc3 km3 kc4 km4 kc5 km5 kc6 km6 kc7 km7 kc8 km8 kc9 km9 kc10 km10 kc11 km11 kc12 km12 fc sh rr tc rrc xm nw nk nt nr nm ns nl nc nF np ntr nb nso nsi nit nsh nsf nss nrc kbpersons kbpapers kbstamps kbversions kblines kbsteps kbsayings kbfindings kbwarnings k19828 kcpersons kcpapers kcstamps kcversions kclines kcsteps kcsayings kcfindings kcwarnings kcquestions kt ks kn kln ksp jr kr ytp yrm yjr ikp td vd vl gp ktd kvd kvl kgp tkd tf9 dk dn dp da dq cl bo le bi r1 rc rh tf tt9 tl tbv asd st9 tol mroundOf mroundFrom mfromHour mtoHour mfrom mto msort misFault mdeep mcoded mlines mbestCost mdealer mnumber mwhose msize misParted fbpersons fbpapers fbstamps fbversions fblines fbsteps fbsayings fbfindings fbwarnings gquestions9829 fcpersons fcpapers fcstamps fcversions fclines fcsteps fcsayings fcfindings fcwarnings fcquestions fby ftln ftsp fhw fhn ftr fhs fhz fhi fclm ffi fla fml fmm fsl fsm fk0 fk1 fk2 fk3 fk4 fk5 fk6 fk7 fk8 fk9 fk10 fk11 fk12 ffc fsh frr ftc fht gnw9834 y_nk y_nt y_nr y_nm y_ns y_nl y_nc y_np y_ntr y_nb y_nso y_nsi y_nit y_nsh y_nsf y_nss y_nrc)) hP2 (lk_D hD rfl) (fun hP hD => ?_)
  obtain ⟨hr9832, w9835⟩ := hr9832
  obtain rfl := hr9832
  refine lv_pop hx hb dL_law_1269 rfl ?_
  refine lv_goto (tgt := 1718) hx hb dL_law_1270 (by decide) ?_
  obtain ⟨z9837, z9838, z9839, z9840⟩ := w9830
  obtain ⟨z9841, z9842, z9843, z9844, z9845, z9846, z9847, z9848, z9849, z9850, z9851, z9852, z9853, z9854, z9855⟩ := w9835
  have hs_y_nw : SCX gnw9834 td vd vl gp (nI kbpersons) (nI kbpapers) (nI kbstamps) (nI kbsayings) (nI kbfindings) (nI kbwarnings) (nI k19828) := ⟨(z9843).trans (i_sc.1), (z9844).trans (i_sc.2.1), (z9845).trans (i_sc.2.2.1), (z9846).trans (i_sc.2.2.2.1), (z9847).trans (i_sc.2.2.2.2.1), (z9848).trans (i_sc.2.2.2.2.2.1), (z9849).trans (i_sc.2.2.2.2.2.2.1), (z9850).trans (i_sc.2.2.2.2.2.2.2.1), (z9851).trans (i_sc.2.2.2.2.2.2.2.2.1), (z9852).trans (i_sc.2.2.2.2.2.2.2.2.2.1), (by rw [z9853, z9839, ifc_full (k := kbquestions) (R := 7) (by omega) (by decide)]; first | done | rfl)⟩
  have he_persons : EQT gnw9834 12 20 fbpersons := EQT.fr i_epersons z9854 (by decide) (by decide)
  have he_papers : EQT gnw9834 32 72 fbpapers := EQT.fr i_epapers z9854 (by decide) (by decide)
  have he_stamps : EQT gnw9834 104 72 fbstamps := EQT.fr i_estamps z9854 (by decide) (by decide)
  have he_sayings : EQT gnw9834 1424 128 fbsayings := EQT.fr i_esayings z9854 (by decide) (by decide)
  have he_findings : EQT gnw9834 1552 48 fbfindings := EQT.fr i_efindings z9854 (by decide) (by decide)
  have he_warnings : EQT gnw9834 1600 48 fbwarnings := EQT.fr i_ewarnings z9854 (by decide) (by decide)
  have he_questions : EQT gnw9834 1648 14 gquestions9829 := fun i hi9 => by rw [z9855 i hi9, z9840 i, ifc_full (k := kbquestions) (R := 7) (by omega) (by decide), i_equestions i hi9, rowu_congr (f := shf y_nw 1648) (g := fbquestions) (n := 14) _ i_equestions i hi9]; first | done | rfl
  exact hback kbpersons kbpapers kbstamps kbversions kblines kbsteps kbsayings kbfindings kbwarnings k19828 kcpersons kcpapers kcstamps kcversions kclines kcsteps kcsayings kcfindings kcwarnings kcquestions kt ks kn kln ksp jr kr ytp yrm yjr ikp td vd vl gp ktd kvd kvl kgp tkd tf9 dk dn dp da dq cl bo le bi r1 rc rh tf tt9 tl tbv asd st9 tol mroundOf mroundFrom mfromHour mtoHour mfrom mto msort misFault mdeep mcoded mlines mbestCost mdealer mnumber mwhose msize misParted fbpersons fbpapers fbstamps fbversions fblines fbsteps fbsayings fbfindings fbwarnings gquestions9829 fcpersons fcpapers fcstamps fcversions fclines fcsteps fcsayings fcfindings fcwarnings fcquestions fby ftln ftsp fhw fhn ftr fhs fhz fhi fclm ffi fla fml fmm fsl fsm fk0 fk1 fk2 fk3 fk4 fk5 fk6 fk7 fk8 fk9 fk10 fk11 fk12 ffc fsh frr ftc fht gnw9834 y_nk y_nt y_nr y_nm y_ns y_nl y_nc y_np y_ntr y_nb y_nso y_nsi y_nit y_nsh y_nsf y_nss y_nrc H locs ls i_kbpersons i_kbpapers i_kbstamps i_kbversions i_kblines i_kbsteps i_kbsayings i_kbfindings i_kbwarnings (by first | assumption | omega | exact Or.inl rfl | exact Or.inr rfl) i_kcpersons i_kcpapers i_kcstamps i_kcversions i_kclines i_kcsteps i_kcsayings i_kcfindings i_kcwarnings i_kcquestions i_kt i_ks i_kn i_kln i_ksp i_jr i_kr i_ytp i_yrm i_yjr i_tp i_cl i_tol i_ikp (by first | assumption | omega | exact Or.inl rfl | exact Or.inr rfl) (by first | assumption | omega | exact Or.inl rfl | exact Or.inr rfl) i_nk i_vk i_mb i_b6 i_sz i_sh i_sl i_sp i_sq (by first | assumption | omega | exact Or.inl rfl | exact Or.inr rfl) i_sk (by first | assumption | omega | exact Or.inl rfl | exact Or.inr rfl) (by first | assumption | omega | exact Or.inl rfl | exact Or.inr rfl) (by first | assumption | omega | exact Or.inl rfl | exact Or.inr rfl) (by first | assumption | omega | exact Or.inl rfl | exact Or.inr rfl) (by first | assumption | omega | exact Or.inl rfl | exact Or.inr rfl) (by first | assumption | omega | exact Or.inl rfl | exact Or.inr rfl) (by first | assumption | omega | exact Or.inl rfl | exact Or.inr rfl) i_kpersons i_kpapers i_kstamps i_ksayings i_kfindings i_kwarnings i_kquestions hP hD hS (lv_sub hl [0, 1, 2, 3] rfl)
set_option maxHeartbeats 8000000 in
set_option maxRecDepth 100000 in
theorem law_27 : LAWC 1273 := by
  intro p l e s m below meth c b L xs G K A hf xb bb cc sg do9 ru9 ta9 tp9 ro9 ho9 de9 bpersons bpapers bstamps bversions blines bsteps bsayings bfindings bwarnings bquestions bpersonsc bpapersc bstampsc bversionsc blinesc bstepsc bsayingsc bfindingsc bwarningsc bquestionsc cpersons cpapers cstamps cversions clines csteps csayings cfindings cwarnings cquestions cpersonsc cpapersc cstampsc cversionsc clinesc cstepsc csayingsc cfindingsc cwarningsc cquestionsc tby tln tsp tlnc tspc hs hz hi hw hn ht tr9 clk fi la ml mm sl sm clm hd kc0 km0 kc1 km1 kc2 km2 kc3 km3 kc4 km4 kc5 km5 kc6 km6 kc7 km7 kc8 km8 kc9 km9 kc10 km10 kc11 km11 kc12 km12 fc sh rr tc rrc xm nw nk nt nr nm ns nl nc nF np ntr nb nso nsi nit nsh nsf nss nrc kbpersons kbpapers kbstamps kbversions kblines kbsteps kbsayings kbfindings kbwarnings kbquestions kcpersons kcpapers kcstamps kcversions kclines kcsteps kcsayings kcfindings kcwarnings kcquestions kt ks kn kln ksp jr kr ytp yrm yjr ikp td vd vl gp ktd kvd kvl kgp tkd tf9 dk dn dp da dq cl bo le bi r1 rc rh tf tt9 tl tbv asd st9 tol mroundOf mroundFrom mfromHour mtoHour mfrom mto msort misFault mdeep mcoded mlines mbestCost mdealer mnumber mwhose msize misParted fbpersons fbpapers fbstamps fbversions fblines fbsteps fbsayings fbfindings fbwarnings fbquestions fcpersons fcpapers fcstamps fcversions fclines fcsteps fcsayings fcfindings fcwarnings fcquestions fby ftln ftsp fhw fhn ftr fhs fhz fhi fclm ffi fla fml fmm fsl fsm fk0 fk1 fk2 fk3 fk4 fk5 fk6 fk7 fk8 fk9 fk10 fk11 fk12 ffc fsh frr ftc fht y_nw y_nk y_nt y_nr y_nm y_ns y_nl y_nc y_np y_ntr y_nb y_nso y_nsi y_nit y_nsh y_nsf y_nss y_nrc H locs ls ki hC hK hO hX hL hbl hbA hA hA2 hki hf0 hf1 hf2 hf3 hf4 hf5 hf6 hf7 hf8 hf9 hf10 hf11 hf12 i_kbpersons i_kbpapers i_kbstamps i_kbversions i_kblines i_kbsteps i_kbsayings i_kbfindings i_kbwarnings i_kbquestions i_kcpersons i_kcpapers i_kcstamps i_kcversions i_kclines i_kcsteps i_kcsayings i_kcfindings i_kcwarnings i_kcquestions i_kt i_ks i_kn i_kln i_ksp i_jr i_kr i_ytp i_yrm i_yjr i_tp i_cl i_tol i_ikp i_nw i_vw i_nk i_vk i_mb i_b6 i_sz i_sh i_sl i_sp i_sq i_sc i_sk i_epersons i_epapers i_estamps i_esayings i_efindings i_ewarnings i_equestions i_kpersons i_kpapers i_kstamps i_ksayings i_kfindings i_kwarnings i_kquestions hback hP hD hS hl
  refine Kan8 hC (fun hx hb hr hml hB hown hlocks hnm => ?_)
  refine lv_aload_n hx hb dL_law_1273 rfl (lv_at2 hl) ?_
  refine lv_aload_n hx hb dL_law_1274 rfl (lv_at3 hl) ?_
  refine lv_iload_n hx hb dL_law_1275 rfl (lv_at0 hl) ?_
  refine lv_iconst (v := 1) hx hb dL_law_1276 (by decide) ?_
  refine lv_iadd hx hb dL_law_1277 ?_
  refine eqi (x1 := nI (ki + 1)) (nI_add ki 1) ?_
  refine va_sld hx hb hX hbl hbA hS (lw_in hL hki (by decide)) dL_law_1278 ?_
  refine eqi (x1 := xs (ki + 1)) (congrArg xs (lw_cl hL hki (by decide))) ?_
  refine lk_iV hC hK hl hP hD hS hA (p_round l G xb (xs (ki + 1)) bb cc ikp sg do9 ru9 ta9 tp9 ro9 ho9 de9 bpersons bpapers bstamps bversions blines bsteps bsayings bfindings bwarnings bquestions td vd vl gp rr tc asd st9 tol rrc kr frr ftc bquestionsc kbquestions fbquestions (i_kbquestions) (i_kr) (i_tol)) si_L_132 [0, 1, 98, 99, 100, 101, 20, 21] [0, 1, 6, 7, 2, 3, 4, 5] [true, true, false, false, false, false, false, false, false, false, false, false, false, false, false, false, false, false, false, false, true, true, false, false, false, false, false, false, false, false, false, false, false, false, false, false, false, false, false, false, false, false, false, false, false, false, false, false, false, false, false, false, false, false, false, false, false, false, false, false, false, false, false, false, false, false, false, false, false, false, false, false, false, false, false, false, false, false, false, false, false, false, false, false, false, false, false, false, false, false, false, false, false, false, false, false, false, false, true, true, true, true, false, false, false, false, false, false, false, false, false, false, false, false, false, false, false, false, false, false, false, false, false] rfl rfl (by decide +kernel) (by decide +kernel) rfl rfl rfl rfl rfl (Nat.le_of_ble_eq_true rfl) ⟨Nat.le_of_ble_eq_true rfl, Nat.le_of_ble_eq_true rfl⟩ ⟨by first | exact Nat.le_of_ble_eq_true rfl | omega, by first | exact Nat.le_of_ble_eq_true rfl | omega⟩ dL_law_1279 (fun r9856 => Ktu6 fun as19858 st19859 to19860 nr9861 grr9862 gtc9863 => ?_)
  intro H locs hr9856 hP2 hS
  try dsimp only at hr9856
  refine Kpdr (ws := (WLW G K hf xb bb cc sg do9 ru9 ta9 tp9 ro9 ho9 de9 bpersons bpapers bstamps bversions blines bsteps bsayings bfindings bwarnings bquestions bpersonsc bpapersc bstampsc bversionsc blinesc bstepsc bsayingsc bfindingsc bwarningsc bquestionsc cpersons cpapers cstamps cversions clines csteps csayings cfindings cwarnings cquestions cpersonsc cpapersc cstampsc cversionsc clinesc cstepsc csayingsc cfindingsc cwarningsc cquestionsc tby tln tsp tlnc tspc hs hz hi hw hn ht tr9 clk fi la ml mm sl sm clm hd kc0 km0 kc1 km1 kc2 km2 kc3 km3 kc4 km4 kc5 km5 kc6 km6 kc7 km7 kc8 km8 kc9 km9 kc10 km10 kc11 km11 kc12 km12 fc sh rr tc rrc xm nw nk nt nr nm ns nl nc nF np ntr nb nso nsi nit nsh nsf nss nrc kbpersons kbpapers kbstamps kbversions kblines kbsteps kbsayings kbfindings kbwarnings kbquestions kcpersons kcpapers kcstamps kcversions kclines kcsteps kcsayings kcfindings kcwarnings kcquestions kt ks kn kln ksp jr nr9861 ytp yrm yjr ikp td vd vl gp ktd kvd kvl kgp tkd tf9 dk dn dp da dq cl bo le bi r1 rc rh tf tt9 tl tbv as19858 st19859 to19860 mroundOf mroundFrom mfromHour mtoHour mfrom mto msort misFault mdeep mcoded mlines mbestCost mdealer mnumber mwhose msize misParted fbpersons fbpapers fbstamps fbversions fblines fbsteps fbsayings fbfindings fbwarnings fbquestions fcpersons fcpapers fcstamps fcversions fclines fcsteps fcsayings fcfindings fcwarnings fcquestions fby ftln ftsp fhw fhn ftr fhs fhz fhi fclm ffi fla fml fmm fsl fsm fk0 fk1 fk2 fk3 fk4 fk5 fk6 fk7 fk8 fk9 fk10 fk11 fk12 ffc fsh grr9862 gtc9863 fht y_nw y_nk y_nt y_nr y_nm y_ns y_nl y_nc y_np y_ntr y_nb y_nso y_nsi y_nit y_nsh y_nsf y_nss y_nrc)) hP2 (lk_D hD rfl) (fun hP hD => ?_)
  obtain ⟨hr9856, w9864⟩ := hr9856
  refine lv_pop hx hb dL_law_1282 rfl ?_
  refine lv_aload_n hx hb dL_law_1283 rfl (lv_at1 hl) ?_
  refine lv_aload_n hx hb dL_law_1284 rfl (lv_at3 hl) ?_
  refine lv_iload_n hx hb dL_law_1285 rfl (lv_at0 hl) ?_
  refine lv_iconst (v := 1) hx hb dL_law_1286 (by decide) ?_
  refine lv_iadd hx hb dL_law_1287 ?_
  refine eqi (x1 := nI (ki + 1)) (nI_add ki 1) ?_
  refine va_sld hx hb hX hbl hbA hS (lw_in hL hki (by decide)) dL_law_1288 ?_
  refine eqi (x1 := xs (ki + 1)) (congrArg xs (lw_cl hL hki (by decide))) ?_
  refine lk_iV hC hK hl hP hD hS hA (w_round l G xm (xs (ki + 1)) nw nk ikp nt (nI ytp) nr yrm mroundOf mroundFrom 0 nm mfromHour mtoHour ns mfrom mto msort misFault mdeep mcoded mlines nl nc nF np ntr nb mbestCost nso nsi nit nsh nsf nss nrc (nI yjr) mdealer mnumber mwhose msize misParted y_nw y_ntr y_nb y_nr (i_yrm) (i_b6) (i_nw)) si_L_135 [103, 104, 113, 114, 107] [0, 1, 4, 2, 3] [false, false, false, false, false, false, false, false, false, false, false, false, false, false, false, false, false, false, false, false, false, false, false, false, false, false, false, false, false, false, false, false, false, false, false, false, false, false, false, false, false, false, false, false, false, false, false, false, false, false, false, false, false, false, false, false, false, false, false, false, false, false, false, false, false, false, false, false, false, false, false, false, false, false, false, false, false, false, false, false, false, false, false, false, false, false, false, false, false, false, false, false, false, false, false, false, false, false, false, false, false, false, false, true, true, false, false, true, false, false, false, false, false, true, true, false, false, false, false, false, false, false, false] rfl rfl (by decide +kernel) (by decide +kernel) rfl rfl rfl rfl rfl (Nat.le_of_ble_eq_true rfl) ⟨Nat.le_of_ble_eq_true rfl, Nat.le_of_ble_eq_true rfl⟩ ⟨by first | exact Nat.le_of_ble_eq_true rfl | omega, by first | exact Nat.le_of_ble_eq_true rfl | omega⟩ dL_law_1289 (fun r9865 => Ktu7 fun bc19867 rm19868 ro19869 rf19870 gtr9871 gbe9872 gnr9873 => ?_)
  intro H locs hr9865 hP2 hS
  try dsimp only at hr9865
  refine Kpdr (ws := (WLW G K hf xb bb cc sg do9 ru9 ta9 tp9 ro9 ho9 de9 bpersons bpapers bstamps bversions blines bsteps bsayings bfindings bwarnings bquestions bpersonsc bpapersc bstampsc bversionsc blinesc bstepsc bsayingsc bfindingsc bwarningsc bquestionsc cpersons cpapers cstamps cversions clines csteps csayings cfindings cwarnings cquestions cpersonsc cpapersc cstampsc cversionsc clinesc cstepsc csayingsc cfindingsc cwarningsc cquestionsc tby tln tsp tlnc tspc hs hz hi hw hn ht tr9 clk fi la ml mm sl sm clm hd kc0 km0 kc1 km1 kc2 km2 kc3 km3 kc4 km4 kc5 km5 kc6 km6 kc7 km7 kc8 km8 kc9 km9 kc10 km10 kc11 km11 kc12 km12 fc sh rr tc rrc xm nw nk nt nr nm ns nl nc nF np ntr nb nso nsi nit nsh nsf nss nrc kbpersons kbpapers kbstamps kbversions kblines kbsteps kbsayings kbfindings kbwarnings kbquestions kcpersons kcpapers kcstamps kcversions kclines kcsteps kcsayings kcfindings kcwarnings kcquestions kt ks kn kln ksp jr nr9861 ytp rm19868 yjr ikp td vd vl gp ktd kvd kvl kgp tkd tf9 dk dn dp da dq cl bo le bi r1 rc rh tf tt9 tl tbv as19858 st19859 to19860 ro19869 rf19870 mfromHour mtoHour mfrom mto msort misFault mdeep mcoded mlines bc19867 mdealer mnumber mwhose msize misParted fbpersons fbpapers fbstamps fbversions fblines fbsteps fbsayings fbfindings fbwarnings fbquestions fcpersons fcpapers fcstamps fcversions fclines fcsteps fcsayings fcfindings fcwarnings fcquestions fby ftln ftsp fhw fhn ftr fhs fhz fhi fclm ffi fla fml fmm fsl fsm fk0 fk1 fk2 fk3 fk4 fk5 fk6 fk7 fk8 fk9 fk10 fk11 fk12 ffc fsh grr9862 gtc9863 fht y_nw y_nk y_nt gnr9873 y_nm y_ns y_nl y_nc y_np gtr9871 gbe9872 y_nso y_nsi y_nit y_nsh y_nsf y_nss y_nrc)) hP2 (lk_D hD rfl) (fun hP hD => ?_)
  obtain ⟨hr9865, w9874⟩ := hr9865
  refine lv_pop hx hb dL_law_1292 rfl ?_
  refine lv_goto (tgt := 1718) hx hb dL_law_1293 (by decide) ?_
  obtain ⟨z9875, z9876⟩ := w9864
  obtain ⟨z9877, z9878⟩ := w9874
  exact hback kbpersons kbpapers kbstamps kbversions kblines kbsteps kbsayings kbfindings kbwarnings kbquestions kcpersons kcpapers kcstamps kcversions kclines kcsteps kcsayings kcfindings kcwarnings kcquestions kt ks kn kln ksp jr nr9861 ytp rm19868 yjr ikp td vd vl gp ktd kvd kvl kgp tkd tf9 dk dn dp da dq cl bo le bi r1 rc rh tf tt9 tl tbv as19858 st19859 to19860 ro19869 rf19870 mfromHour mtoHour mfrom mto msort misFault mdeep mcoded mlines bc19867 mdealer mnumber mwhose msize misParted fbpersons fbpapers fbstamps fbversions fblines fbsteps fbsayings fbfindings fbwarnings fbquestions fcpersons fcpapers fcstamps fcversions fclines fcsteps fcsayings fcfindings fcwarnings fcquestions fby ftln ftsp fhw fhn ftr fhs fhz fhi fclm ffi fla fml fmm fsl fsm fk0 fk1 fk2 fk3 fk4 fk5 fk6 fk7 fk8 fk9 fk10 fk11 fk12 ffc fsh grr9862 gtc9863 fht y_nw y_nk y_nt gnr9873 y_nm y_ns y_nl y_nc y_np gtr9871 gbe9872 y_nso y_nsi y_nit y_nsh y_nsf y_nss y_nrc H locs ls i_kbpersons i_kbpapers i_kbstamps i_kbversions i_kblines i_kbsteps i_kbsayings i_kbfindings i_kbwarnings i_kbquestions i_kcpersons i_kcpapers i_kcstamps i_kcversions i_kclines i_kcsteps i_kcsayings i_kcfindings i_kcwarnings i_kcquestions i_kt i_ks i_kn i_kln i_ksp i_jr (by first | assumption | omega | exact Or.inl rfl | exact Or.inr rfl) i_ytp (by first | assumption | omega | exact Or.inl rfl | exact Or.inr rfl) i_yjr i_tp i_cl (by first | assumption | omega | exact Or.inl rfl | exact Or.inr rfl) i_ikp i_nw i_vw i_nk i_vk i_mb (by first | assumption | omega | exact Or.inl rfl | exact Or.inr rfl) i_sz i_sh i_sl i_sp i_sq i_sc i_sk i_epersons i_epapers i_estamps i_esayings i_efindings i_ewarnings i_equestions i_kpersons i_kpapers i_kstamps i_ksayings i_kfindings i_kwarnings i_kquestions hP hD hS (lv_sub hl [0, 1, 2, 3] rfl)
set_option maxHeartbeats 8000000 in
set_option maxRecDepth 100000 in
theorem law_28 : LAWC 1296 := by
  intro p l e s m below meth c b L xs G K A hf xb bb cc sg do9 ru9 ta9 tp9 ro9 ho9 de9 bpersons bpapers bstamps bversions blines bsteps bsayings bfindings bwarnings bquestions bpersonsc bpapersc bstampsc bversionsc blinesc bstepsc bsayingsc bfindingsc bwarningsc bquestionsc cpersons cpapers cstamps cversions clines csteps csayings cfindings cwarnings cquestions cpersonsc cpapersc cstampsc cversionsc clinesc cstepsc csayingsc cfindingsc cwarningsc cquestionsc tby tln tsp tlnc tspc hs hz hi hw hn ht tr9 clk fi la ml mm sl sm clm hd kc0 km0 kc1 km1 kc2 km2 kc3 km3 kc4 km4 kc5 km5 kc6 km6 kc7 km7 kc8 km8 kc9 km9 kc10 km10 kc11 km11 kc12 km12 fc sh rr tc rrc xm nw nk nt nr nm ns nl nc nF np ntr nb nso nsi nit nsh nsf nss nrc kbpersons kbpapers kbstamps kbversions kblines kbsteps kbsayings kbfindings kbwarnings kbquestions kcpersons kcpapers kcstamps kcversions kclines kcsteps kcsayings kcfindings kcwarnings kcquestions kt ks kn kln ksp jr kr ytp yrm yjr ikp td vd vl gp ktd kvd kvl kgp tkd tf9 dk dn dp da dq cl bo le bi r1 rc rh tf tt9 tl tbv asd st9 tol mroundOf mroundFrom mfromHour mtoHour mfrom mto msort misFault mdeep mcoded mlines mbestCost mdealer mnumber mwhose msize misParted fbpersons fbpapers fbstamps fbversions fblines fbsteps fbsayings fbfindings fbwarnings fbquestions fcpersons fcpapers fcstamps fcversions fclines fcsteps fcsayings fcfindings fcwarnings fcquestions fby ftln ftsp fhw fhn ftr fhs fhz fhi fclm ffi fla fml fmm fsl fsm fk0 fk1 fk2 fk3 fk4 fk5 fk6 fk7 fk8 fk9 fk10 fk11 fk12 ffc fsh frr ftc fht y_nw y_nk y_nt y_nr y_nm y_ns y_nl y_nc y_np y_ntr y_nb y_nso y_nsi y_nit y_nsh y_nsf y_nss y_nrc H locs ls ki hC hK hO hX hL hbl hbA hA hA2 hki hf0 hf1 hf2 hf3 hf4 hf5 hf6 hf7 hf8 hf9 hf10 hf11 hf12 i_kbpersons i_kbpapers i_kbstamps i_kbversions i_kblines i_kbsteps i_kbsayings i_kbfindings i_kbwarnings i_kbquestions i_kcpersons i_kcpapers i_kcstamps i_kcversions i_kclines i_kcsteps i_kcsayings i_kcfindings i_kcwarnings i_kcquestions i_kt i_ks i_kn i_kln i_ksp i_jr i_kr i_ytp i_yrm i_yjr i_tp i_cl i_tol i_ikp i_nw i_vw i_nk i_vk i_mb i_b6 i_sz i_sh i_sl i_sp i_sq i_sc i_sk i_epersons i_epapers i_estamps i_esayings i_efindings i_ewarnings i_equestions i_kpersons i_kpapers i_kstamps i_ksayings i_kfindings i_kwarnings i_kquestions hback hP hD hS hl
  refine Kan8 hC (fun hx hb hr hml hB hown hlocks hnm => ?_)
  refine lv_aload_n hx hb dL_law_1296 rfl (lv_at2 hl) ?_
  refine lv_aload_n hx hb dL_law_1297 rfl (lv_at3 hl) ?_
  refine lv_iload_n hx hb dL_law_1298 rfl (lv_at0 hl) ?_
  refine lv_iconst (v := 1) hx hb dL_law_1299 (by decide) ?_
  refine lv_iadd hx hb dL_law_1300 ?_
  refine eqi (x1 := nI (ki + 1)) (nI_add ki 1) ?_
  refine va_sld hx hb hX hbl hbA hS (lw_in hL hki (by decide)) dL_law_1301 ?_
  refine eqi (x1 := xs (ki + 1)) (congrArg xs (lw_cl hL hki (by decide))) ?_
  refine lv_aload_n hx hb dL_law_1302 rfl (lv_at3 hl) ?_
  refine lv_iload_n hx hb dL_law_1303 rfl (lv_at0 hl) ?_
  refine lv_iconst (v := 2) hx hb dL_law_1304 (by decide) ?_
  refine lv_iadd hx hb dL_law_1305 ?_
  refine eqi (x1 := nI (ki + 2)) (nI_add ki 2) ?_
  refine va_sld hx hb hX hbl hbA hS (lw_in hL hki (by decide)) dL_law_1306 ?_
  refine eqi (x1 := xs (ki + 2)) (congrArg xs (lw_cl hL hki (by decide))) ?_
  refine pV hC hK hl hP hD (p_row l G xb (xs (ki + 1)) (xs (ki + 2)) bb cc ikp sg do9 ru9 ta9 tp9 ro9 ho9 de9 rr tc asd st9 tol rrc kr frr (i_kr)) si_L_136 [0, 98, 99, 100] sm_0_98_99_100 fm_0_98_99_100 nd_0_98_99_100 rfl rfl rfl rfl rfl (Nat.le_of_ble_eq_true rfl) ⟨Nat.le_of_ble_eq_true rfl, Nat.le_of_ble_eq_true rfl⟩ ⟨by first | exact Nat.le_of_ble_eq_true rfl | exact Nat.zero_le _, by first | exact Nat.le_of_ble_eq_true rfl | exact Nat.zero_le _⟩ dL_law_1307 (fun r9879 hr9879 => ?_)
  refine lv_pop hx hb dL_law_1310 rfl ?_
  refine lv_aload_n hx hb dL_law_1311 rfl (lv_at1 hl) ?_
  refine lv_aload_n hx hb dL_law_1312 rfl (lv_at3 hl) ?_
  refine lv_iload_n hx hb dL_law_1313 rfl (lv_at0 hl) ?_
  refine lv_iconst (v := 1) hx hb dL_law_1314 (by decide) ?_
  refine lv_iadd hx hb dL_law_1315 ?_
  refine eqi (x1 := nI (ki + 1)) (nI_add ki 1) ?_
  refine va_sld hx hb hX hbl hbA hS (lw_in hL hki (by decide)) dL_law_1316 ?_
  refine eqi (x1 := xs (ki + 1)) (congrArg xs (lw_cl hL hki (by decide))) ?_
  refine lv_aload_n hx hb dL_law_1317 rfl (lv_at3 hl) ?_
  refine lv_iload_n hx hb dL_law_1318 rfl (lv_at0 hl) ?_
  refine lv_iconst (v := 2) hx hb dL_law_1319 (by decide) ?_
  refine lv_iadd hx hb dL_law_1320 ?_
  refine eqi (x1 := nI (ki + 2)) (nI_add ki 2) ?_
  refine va_sld hx hb hX hbl hbA hS (lw_in hL hki (by decide)) dL_law_1321 ?_
  refine eqi (x1 := xs (ki + 2)) (congrArg xs (lw_cl hL hki (by decide))) ?_
  refine pV hC hK hl hP hD (r_row l G xm (xs (ki + 1)) (xs (ki + 2)) nw nk ikp nt (nI ytp) nr yrm mroundOf mroundFrom 0 nm mfromHour mtoHour ns mfrom mto msort misFault mdeep mcoded mlines nl nc nF np ntr nb mbestCost nso nsi nit nsh nsf nss nrc (nI yjr) mdealer mnumber mwhose msize misParted y_nr (i_yrm)) si_L_139 [103, 107] sm_103_107 fm_103_107 nd_103_107 rfl rfl rfl rfl rfl (Nat.le_of_ble_eq_true rfl) ⟨Nat.le_of_ble_eq_true rfl, Nat.le_of_ble_eq_true rfl⟩ ⟨by first | exact Nat.le_of_ble_eq_true rfl | exact Nat.zero_le _, by first | exact Nat.le_of_ble_eq_true rfl | exact Nat.zero_le _⟩ dL_law_1322 (fun r9880 hr9880 => ?_)
  refine lv_pop hx hb dL_law_1325 rfl ?_
  refine lv_goto (tgt := 1718) hx hb dL_law_1326 (by decide) ?_
  exact hback kbpersons kbpapers kbstamps kbversions kblines kbsteps kbsayings kbfindings kbwarnings kbquestions kcpersons kcpapers kcstamps kcversions kclines kcsteps kcsayings kcfindings kcwarnings kcquestions kt ks kn kln ksp jr kr ytp yrm yjr ikp td vd vl gp ktd kvd kvl kgp tkd tf9 dk dn dp da dq cl bo le bi r1 rc rh tf tt9 tl tbv asd st9 tol mroundOf mroundFrom mfromHour mtoHour mfrom mto msort misFault mdeep mcoded mlines mbestCost mdealer mnumber mwhose msize misParted fbpersons fbpapers fbstamps fbversions fblines fbsteps fbsayings fbfindings fbwarnings fbquestions fcpersons fcpapers fcstamps fcversions fclines fcsteps fcsayings fcfindings fcwarnings fcquestions fby ftln ftsp fhw fhn ftr fhs fhz fhi fclm ffi fla fml fmm fsl fsm fk0 fk1 fk2 fk3 fk4 fk5 fk6 fk7 fk8 fk9 fk10 fk11 fk12 ffc fsh frr ftc fht y_nw y_nk y_nt y_nr y_nm y_ns y_nl y_nc y_np y_ntr y_nb y_nso y_nsi y_nit y_nsh y_nsf y_nss y_nrc H locs ls i_kbpersons i_kbpapers i_kbstamps i_kbversions i_kblines i_kbsteps i_kbsayings i_kbfindings i_kbwarnings i_kbquestions i_kcpersons i_kcpapers i_kcstamps i_kcversions i_kclines i_kcsteps i_kcsayings i_kcfindings i_kcwarnings i_kcquestions i_kt i_ks i_kn i_kln i_ksp i_jr i_kr i_ytp i_yrm i_yjr i_tp i_cl i_tol i_ikp i_nw i_vw i_nk i_vk i_mb i_b6 i_sz i_sh i_sl i_sp i_sq i_sc i_sk i_epersons i_epapers i_estamps i_esayings i_efindings i_ewarnings i_equestions i_kpersons i_kpapers i_kstamps i_ksayings i_kfindings i_kwarnings i_kquestions hP hD hS (lv_sub hl [0, 1, 2, 3] rfl)
set_option maxHeartbeats 8000000 in
set_option maxRecDepth 100000 in
theorem law_29 : LAWC 1329 := by
  intro p l e s m below meth c b L xs G K A hf xb bb cc sg do9 ru9 ta9 tp9 ro9 ho9 de9 bpersons bpapers bstamps bversions blines bsteps bsayings bfindings bwarnings bquestions bpersonsc bpapersc bstampsc bversionsc blinesc bstepsc bsayingsc bfindingsc bwarningsc bquestionsc cpersons cpapers cstamps cversions clines csteps csayings cfindings cwarnings cquestions cpersonsc cpapersc cstampsc cversionsc clinesc cstepsc csayingsc cfindingsc cwarningsc cquestionsc tby tln tsp tlnc tspc hs hz hi hw hn ht tr9 clk fi la ml mm sl sm clm hd kc0 km0 kc1 km1 kc2 km2 kc3 km3 kc4 km4 kc5 km5 kc6 km6 kc7 km7 kc8 km8 kc9 km9 kc10 km10 kc11 km11 kc12 km12 fc sh rr tc rrc xm nw nk nt nr nm ns nl nc nF np ntr nb nso nsi nit nsh nsf nss nrc kbpersons kbpapers kbstamps kbversions kblines kbsteps kbsayings kbfindings kbwarnings kbquestions kcpersons kcpapers kcstamps kcversions kclines kcsteps kcsayings kcfindings kcwarnings kcquestions kt ks kn kln ksp jr kr ytp yrm yjr ikp td vd vl gp ktd kvd kvl kgp tkd tf9 dk dn dp da dq cl bo le bi r1 rc rh tf tt9 tl tbv asd st9 tol mroundOf mroundFrom mfromHour mtoHour mfrom mto msort misFault mdeep mcoded mlines mbestCost mdealer mnumber mwhose msize misParted fbpersons fbpapers fbstamps fbversions fblines fbsteps fbsayings fbfindings fbwarnings fbquestions fcpersons fcpapers fcstamps fcversions fclines fcsteps fcsayings fcfindings fcwarnings fcquestions fby ftln ftsp fhw fhn ftr fhs fhz fhi fclm ffi fla fml fmm fsl fsm fk0 fk1 fk2 fk3 fk4 fk5 fk6 fk7 fk8 fk9 fk10 fk11 fk12 ffc fsh frr ftc fht y_nw y_nk y_nt y_nr y_nm y_ns y_nl y_nc y_np y_ntr y_nb y_nso y_nsi y_nit y_nsh y_nsf y_nss y_nrc H locs ls ki hC hK hO hX hL hbl hbA hA hA2 hki hf0 hf1 hf2 hf3 hf4 hf5 hf6 hf7 hf8 hf9 hf10 hf11 hf12 i_kbpersons i_kbpapers i_kbstamps i_kbversions i_kblines i_kbsteps i_kbsayings i_kbfindings i_kbwarnings i_kbquestions i_kcpersons i_kcpapers i_kcstamps i_kcversions i_kclines i_kcsteps i_kcsayings i_kcfindings i_kcwarnings i_kcquestions i_kt i_ks i_kn i_kln i_ksp i_jr i_kr i_ytp i_yrm i_yjr i_tp i_cl i_tol i_ikp i_nw i_vw i_nk i_vk i_mb i_b6 i_sz i_sh i_sl i_sp i_sq i_sc i_sk i_epersons i_epapers i_estamps i_esayings i_efindings i_ewarnings i_equestions i_kpersons i_kpapers i_kstamps i_ksayings i_kfindings i_kwarnings i_kquestions hback hP hD hS hl
  refine Kan8 hC (fun hx hb hr hml hB hown hlocks hnm => ?_)
  refine lv_aload_n hx hb dL_law_1329 rfl (lv_at2 hl) ?_
  refine lv_aload_n hx hb dL_law_1330 rfl (lv_at3 hl) ?_
  refine lv_iload_n hx hb dL_law_1331 rfl (lv_at0 hl) ?_
  refine lv_iconst (v := 1) hx hb dL_law_1332 (by decide) ?_
  refine lv_iadd hx hb dL_law_1333 ?_
  refine eqi (x1 := nI (ki + 1)) (nI_add ki 1) ?_
  refine va_sld hx hb hX hbl hbA hS (lw_in hL hki (by decide)) dL_law_1334 ?_
  refine eqi (x1 := xs (ki + 1)) (congrArg xs (lw_cl hL hki (by decide))) ?_
  refine lv_aload_n hx hb dL_law_1335 rfl (lv_at3 hl) ?_
  refine lv_iload_n hx hb dL_law_1336 rfl (lv_at0 hl) ?_
  refine lv_iconst (v := 2) hx hb dL_law_1337 (by decide) ?_
  refine lv_iadd hx hb dL_law_1338 ?_
  refine eqi (x1 := nI (ki + 2)) (nI_add ki 2) ?_
  refine va_sld hx hb hX hbl hbA hS (lw_in hL hki (by decide)) dL_law_1339 ?_
  refine eqi (x1 := xs (ki + 2)) (congrArg xs (lw_cl hL hki (by decide))) ?_
  refine lv_aload_n hx hb dL_law_1340 rfl (lv_at3 hl) ?_
  refine lv_iload_n hx hb dL_law_1341 rfl (lv_at0 hl) ?_
  refine lv_iconst (v := 3) hx hb dL_law_1342 (by decide) ?_
  refine lv_iadd hx hb dL_law_1343 ?_
  refine eqi (x1 := nI (ki + 3)) (nI_add ki 3) ?_
  refine va_sld hx hb hX hbl hbA hS (lw_in hL hki (by decide)) dL_law_1344 ?_
  refine eqi (x1 := xs (ki + 3)) (congrArg xs (lw_cl hL hki (by decide))) ?_
  refine lk_iV hC hK hl hP hD hS hA (p_alterRow l G xb (xs (ki + 1)) (xs (ki + 2)) (xs (ki + 3)) bb cc ikp sg do9 ru9 ta9 tp9 ro9 ho9 de9 rr tc asd st9 tol rrc kr frr (i_kr)) si_L_140 [0, 98, 99, 100] [0, 1, 2, 3] [true, false, false, false, false, false, false, false, false, false, false, false, false, false, false, false, false, false, false, false, false, false, false, false, false, false, false, false, false, false, false, false, false, false, false, false, false, false, false, false, false, false, false, false, false, false, false, false, false, false, false, false, false, false, false, false, false, false, false, false, false, false, false, false, false, false, false, false, false, false, false, false, false, false, false, false, false, false, false, false, false, false, false, false, false, false, false, false, false, false, false, false, false, false, false, false, false, false, true, true, true, false, false, false, false, false, false, false, false, false, false, false, false, false, false, false, false, false, false, false, false, false, false] rfl rfl (by decide +kernel) (by decide +kernel) rfl rfl rfl rfl rfl (Nat.le_of_ble_eq_true rfl) ⟨Nat.le_of_ble_eq_true rfl, Nat.le_of_ble_eq_true rfl⟩ ⟨by first | exact Nat.le_of_ble_eq_true rfl | omega, by first | exact Nat.le_of_ble_eq_true rfl | omega⟩ dL_law_1345 (fun r9881 grr9883 H locs hr9881 hP2 hS => ?_)
  try dsimp only at hr9881
  refine Kpdr (ws := (WLW G K hf xb bb cc sg do9 ru9 ta9 tp9 ro9 ho9 de9 bpersons bpapers bstamps bversions blines bsteps bsayings bfindings bwarnings bquestions bpersonsc bpapersc bstampsc bversionsc blinesc bstepsc bsayingsc bfindingsc bwarningsc bquestionsc cpersons cpapers cstamps cversions clines csteps csayings cfindings cwarnings cquestions cpersonsc cpapersc cstampsc cversionsc clinesc cstepsc csayingsc cfindingsc cwarningsc cquestionsc tby tln tsp tlnc tspc hs hz hi hw hn ht tr9 clk fi la ml mm sl sm clm hd kc0 km0 kc1 km1 kc2 km2 kc3 km3 kc4 km4 kc5 km5 kc6 km6 kc7 km7 kc8 km8 kc9 km9 kc10 km10 kc11 km11 kc12 km12 fc sh rr tc rrc xm nw nk nt nr nm ns nl nc nF np ntr nb nso nsi nit nsh nsf nss nrc kbpersons kbpapers kbstamps kbversions kblines kbsteps kbsayings kbfindings kbwarnings kbquestions kcpersons kcpapers kcstamps kcversions kclines kcsteps kcsayings kcfindings kcwarnings kcquestions kt ks kn kln ksp jr kr ytp yrm yjr ikp td vd vl gp ktd kvd kvl kgp tkd tf9 dk dn dp da dq cl bo le bi r1 rc rh tf tt9 tl tbv asd st9 tol mroundOf mroundFrom mfromHour mtoHour mfrom mto msort misFault mdeep mcoded mlines mbestCost mdealer mnumber mwhose msize misParted fbpersons fbpapers fbstamps fbversions fblines fbsteps fbsayings fbfindings fbwarnings fbquestions fcpersons fcpapers fcstamps fcversions fclines fcsteps fcsayings fcfindings fcwarnings fcquestions fby ftln ftsp fhw fhn ftr fhs fhz fhi fclm ffi fla fml fmm fsl fsm fk0 fk1 fk2 fk3 fk4 fk5 fk6 fk7 fk8 fk9 fk10 fk11 fk12 ffc fsh grr9883 ftc fht y_nw y_nk y_nt y_nr y_nm y_ns y_nl y_nc y_np y_ntr y_nb y_nso y_nsi y_nit y_nsh y_nsf y_nss y_nrc)) hP2 (lk_D hD rfl) (fun hP hD => ?_)
  refine lv_pop hx hb dL_law_1348 rfl ?_
  refine lv_aload_n hx hb dL_law_1349 rfl (lv_at1 hl) ?_
  refine lv_aload_n hx hb dL_law_1350 rfl (lv_at3 hl) ?_
  refine lv_iload_n hx hb dL_law_1351 rfl (lv_at0 hl) ?_
  refine lv_iconst (v := 1) hx hb dL_law_1352 (by decide) ?_
  refine lv_iadd hx hb dL_law_1353 ?_
  refine eqi (x1 := nI (ki + 1)) (nI_add ki 1) ?_
  refine va_sld hx hb hX hbl hbA hS (lw_in hL hki (by decide)) dL_law_1354 ?_
  refine eqi (x1 := xs (ki + 1)) (congrArg xs (lw_cl hL hki (by decide))) ?_
  refine lv_aload_n hx hb dL_law_1355 rfl (lv_at3 hl) ?_
  refine lv_iload_n hx hb dL_law_1356 rfl (lv_at0 hl) ?_
  refine lv_iconst (v := 2) hx hb dL_law_1357 (by decide) ?_
  refine lv_iadd hx hb dL_law_1358 ?_
  refine eqi (x1 := nI (ki + 2)) (nI_add ki 2) ?_
  refine va_sld hx hb hX hbl hbA hS (lw_in hL hki (by decide)) dL_law_1359 ?_
  refine eqi (x1 := xs (ki + 2)) (congrArg xs (lw_cl hL hki (by decide))) ?_
  refine lv_aload_n hx hb dL_law_1360 rfl (lv_at3 hl) ?_
  refine lv_iload_n hx hb dL_law_1361 rfl (lv_at0 hl) ?_
  refine lv_iconst (v := 3) hx hb dL_law_1362 (by decide) ?_
  refine lv_iadd hx hb dL_law_1363 ?_
  refine eqi (x1 := nI (ki + 3)) (nI_add ki 3) ?_
  refine va_sld hx hb hX hbl hbA hS (lw_in hL hki (by decide)) dL_law_1364 ?_
  refine eqi (x1 := xs (ki + 3)) (congrArg xs (lw_cl hL hki (by decide))) ?_
  refine lk_iV hC hK hl hP hD hS hA (w_alterRow l G xm (xs (ki + 1)) (xs (ki + 2)) (xs (ki + 3)) nw nk ikp nt (nI ytp) nr yrm mroundOf mroundFrom 0 nm mfromHour mtoHour ns mfrom mto msort misFault mdeep mcoded mlines nl nc nF np ntr nb mbestCost nso nsi nit nsh nsf nss nrc (nI yjr) mdealer mnumber mwhose msize misParted y_nr (i_yrm)) si_L_143 [103, 107] [0, 1] [false, false, false, false, false, false, false, false, false, false, false, false, false, false, false, false, false, false, false, false, false, false, false, false, false, false, false, false, false, false, false, false, false, false, false, false, false, false, false, false, false, false, false, false, false, false, false, false, false, false, false, false, false, false, false, false, false, false, false, false, false, false, false, false, false, false, false, false, false, false, false, false, false, false, false, false, false, false, false, false, false, false, false, false, false, false, false, false, false, false, false, false, false, false, false, false, false, false, false, false, false, false, false, true, false, false, false, true, false, false, false, false, false, false, false, false, false, false, false, false, false, false, false] rfl rfl (by decide +kernel) (by decide +kernel) rfl rfl rfl rfl rfl (Nat.le_of_ble_eq_true rfl) ⟨Nat.le_of_ble_eq_true rfl, Nat.le_of_ble_eq_true rfl⟩ ⟨by first | exact Nat.le_of_ble_eq_true rfl | omega, by first | exact Nat.le_of_ble_eq_true rfl | omega⟩ dL_law_1365 (fun r9884 gnr9886 H locs hr9884 hP2 hS => ?_)
  try dsimp only at hr9884
  refine Kpdr (ws := (WLW G K hf xb bb cc sg do9 ru9 ta9 tp9 ro9 ho9 de9 bpersons bpapers bstamps bversions blines bsteps bsayings bfindings bwarnings bquestions bpersonsc bpapersc bstampsc bversionsc blinesc bstepsc bsayingsc bfindingsc bwarningsc bquestionsc cpersons cpapers cstamps cversions clines csteps csayings cfindings cwarnings cquestions cpersonsc cpapersc cstampsc cversionsc clinesc cstepsc csayingsc cfindingsc cwarningsc cquestionsc tby tln tsp tlnc tspc hs hz hi hw hn ht tr9 clk fi la ml mm sl sm clm hd kc0 km0 kc1 km1 kc2 km2 kc3 km3 kc4 km4 kc5 km5 kc6 km6 kc7 km7 kc8 km8 kc9 km9 kc10 km10 kc11 km11 kc12 km12 fc sh rr tc rrc xm nw nk nt nr nm ns nl nc nF np ntr nb nso nsi nit nsh nsf nss nrc kbpersons kbpapers kbstamps kbversions kblines kbsteps kbsayings kbfindings kbwarnings kbquestions kcpersons kcpapers kcstamps kcversions kclines kcsteps kcsayings kcfindings kcwarnings kcquestions kt ks kn kln ksp jr kr ytp yrm yjr ikp td vd vl gp ktd kvd kvl kgp tkd tf9 dk dn dp da dq cl bo le bi r1 rc rh tf tt9 tl tbv asd st9 tol mroundOf mroundFrom mfromHour mtoHour mfrom mto msort misFault mdeep mcoded mlines mbestCost mdealer mnumber mwhose msize misParted fbpersons fbpapers fbstamps fbversions fblines fbsteps fbsayings fbfindings fbwarnings fbquestions fcpersons fcpapers fcstamps fcversions fclines fcsteps fcsayings fcfindings fcwarnings fcquestions fby ftln ftsp fhw fhn ftr fhs fhz fhi fclm ffi fla fml fmm fsl fsm fk0 fk1 fk2 fk3 fk4 fk5 fk6 fk7 fk8 fk9 fk10 fk11 fk12 ffc fsh grr9883 ftc fht y_nw y_nk y_nt gnr9886 y_nm y_ns y_nl y_nc y_np y_ntr y_nb y_nso y_nsi y_nit y_nsh y_nsf y_nss y_nrc)) hP2 (lk_D hD rfl) (fun hP hD => ?_)
  refine lv_pop hx hb dL_law_1368 rfl ?_
  refine lv_goto (tgt := 1718) hx hb dL_law_1369 (by decide) ?_
  exact hback kbpersons kbpapers kbstamps kbversions kblines kbsteps kbsayings kbfindings kbwarnings kbquestions kcpersons kcpapers kcstamps kcversions kclines kcsteps kcsayings kcfindings kcwarnings kcquestions kt ks kn kln ksp jr kr ytp yrm yjr ikp td vd vl gp ktd kvd kvl kgp tkd tf9 dk dn dp da dq cl bo le bi r1 rc rh tf tt9 tl tbv asd st9 tol mroundOf mroundFrom mfromHour mtoHour mfrom mto msort misFault mdeep mcoded mlines mbestCost mdealer mnumber mwhose msize misParted fbpersons fbpapers fbstamps fbversions fblines fbsteps fbsayings fbfindings fbwarnings fbquestions fcpersons fcpapers fcstamps fcversions fclines fcsteps fcsayings fcfindings fcwarnings fcquestions fby ftln ftsp fhw fhn ftr fhs fhz fhi fclm ffi fla fml fmm fsl fsm fk0 fk1 fk2 fk3 fk4 fk5 fk6 fk7 fk8 fk9 fk10 fk11 fk12 ffc fsh grr9883 ftc fht y_nw y_nk y_nt gnr9886 y_nm y_ns y_nl y_nc y_np y_ntr y_nb y_nso y_nsi y_nit y_nsh y_nsf y_nss y_nrc H locs ls i_kbpersons i_kbpapers i_kbstamps i_kbversions i_kblines i_kbsteps i_kbsayings i_kbfindings i_kbwarnings i_kbquestions i_kcpersons i_kcpapers i_kcstamps i_kcversions i_kclines i_kcsteps i_kcsayings i_kcfindings i_kcwarnings i_kcquestions i_kt i_ks i_kn i_kln i_ksp i_jr i_kr i_ytp i_yrm i_yjr i_tp i_cl i_tol i_ikp i_nw i_vw i_nk i_vk i_mb i_b6 i_sz i_sh i_sl i_sp i_sq i_sc i_sk i_epersons i_epapers i_estamps i_esayings i_efindings i_ewarnings i_equestions i_kpersons i_kpapers i_kstamps i_ksayings i_kfindings i_kwarnings i_kquestions hP hD hS (lv_sub hl [0, 1, 2, 3] rfl)
set_option maxHeartbeats 8000000 in
set_option maxRecDepth 100000 in
theorem law_30 : LAWC 1372 := by
  intro p l e s m below meth c b L xs G K A hf xb bb cc sg do9 ru9 ta9 tp9 ro9 ho9 de9 bpersons bpapers bstamps bversions blines bsteps bsayings bfindings bwarnings bquestions bpersonsc bpapersc bstampsc bversionsc blinesc bstepsc bsayingsc bfindingsc bwarningsc bquestionsc cpersons cpapers cstamps cversions clines csteps csayings cfindings cwarnings cquestions cpersonsc cpapersc cstampsc cversionsc clinesc cstepsc csayingsc cfindingsc cwarningsc cquestionsc tby tln tsp tlnc tspc hs hz hi hw hn ht tr9 clk fi la ml mm sl sm clm hd kc0 km0 kc1 km1 kc2 km2 kc3 km3 kc4 km4 kc5 km5 kc6 km6 kc7 km7 kc8 km8 kc9 km9 kc10 km10 kc11 km11 kc12 km12 fc sh rr tc rrc xm nw nk nt nr nm ns nl nc nF np ntr nb nso nsi nit nsh nsf nss nrc kbpersons kbpapers kbstamps kbversions kblines kbsteps kbsayings kbfindings kbwarnings kbquestions kcpersons kcpapers kcstamps kcversions kclines kcsteps kcsayings kcfindings kcwarnings kcquestions kt ks kn kln ksp jr kr ytp yrm yjr ikp td vd vl gp ktd kvd kvl kgp tkd tf9 dk dn dp da dq cl bo le bi r1 rc rh tf tt9 tl tbv asd st9 tol mroundOf mroundFrom mfromHour mtoHour mfrom mto msort misFault mdeep mcoded mlines mbestCost mdealer mnumber mwhose msize misParted fbpersons fbpapers fbstamps fbversions fblines fbsteps fbsayings fbfindings fbwarnings fbquestions fcpersons fcpapers fcstamps fcversions fclines fcsteps fcsayings fcfindings fcwarnings fcquestions fby ftln ftsp fhw fhn ftr fhs fhz fhi fclm ffi fla fml fmm fsl fsm fk0 fk1 fk2 fk3 fk4 fk5 fk6 fk7 fk8 fk9 fk10 fk11 fk12 ffc fsh frr ftc fht y_nw y_nk y_nt y_nr y_nm y_ns y_nl y_nc y_np y_ntr y_nb y_nso y_nsi y_nit y_nsh y_nsf y_nss y_nrc H locs ls ki hC hK hO hX hL hbl hbA hA hA2 hki hf0 hf1 hf2 hf3 hf4 hf5 hf6 hf7 hf8 hf9 hf10 hf11 hf12 i_kbpersons i_kbpapers i_kbstamps i_kbversions i_kblines i_kbsteps i_kbsayings i_kbfindings i_kbwarnings i_kbquestions i_kcpersons i_kcpapers i_kcstamps i_kcversions i_kclines i_kcsteps i_kcsayings i_kcfindings i_kcwarnings i_kcquestions i_kt i_ks i_kn i_kln i_ksp i_jr i_kr i_ytp i_yrm i_yjr i_tp i_cl i_tol i_ikp i_nw i_vw i_nk i_vk i_mb i_b6 i_sz i_sh i_sl i_sp i_sq i_sc i_sk i_epersons i_epapers i_estamps i_esayings i_efindings i_ewarnings i_equestions i_kpersons i_kpapers i_kstamps i_ksayings i_kfindings i_kwarnings i_kquestions hback hP hD hS hl
  refine Kan8 hC (fun hx hb hr hml hB hown hlocks hnm => ?_)
  refine lv_aload_n hx hb dL_law_1372 rfl (lv_at2 hl) ?_
  refine lk_iV hC hK hl hP hD hS hA (p_dropRow l G xb bb cc ikp sg do9 ru9 ta9 tp9 ro9 ho9 de9 rr tc asd st9 tol rrc kr (i_kr)) si_L_144 [0, 98, 99] [0, 1, 2] [true, false, false, false, false, false, false, false, false, false, false, false, false, false, false, false, false, false, false, false, false, false, false, false, false, false, false, false, false, false, false, false, false, false, false, false, false, false, false, false, false, false, false, false, false, false, false, false, false, false, false, false, false, false, false, false, false, false, false, false, false, false, false, false, false, false, false, false, false, false, false, false, false, false, false, false, false, false, false, false, false, false, false, false, false, false, false, false, false, false, false, false, false, false, false, false, false, false, true, true, false, false, false, false, false, false, false, false, false, false, false, false, false, false, false, false, false, false, false, false, false, false, false] rfl rfl (by decide +kernel) (by decide +kernel) rfl rfl rfl rfl rfl (Nat.le_of_ble_eq_true rfl) ⟨Nat.le_of_ble_eq_true rfl, Nat.le_of_ble_eq_true rfl⟩ ⟨by first | exact Nat.le_of_ble_eq_true rfl | omega, by first | exact Nat.le_of_ble_eq_true rfl | omega⟩ dL_law_1373 (fun r9887 nr9889 H locs hr9887 hP2 hS => ?_)
  try dsimp only at hr9887
  refine Kpdr (ws := (WLW G K hf xb bb cc sg do9 ru9 ta9 tp9 ro9 ho9 de9 bpersons bpapers bstamps bversions blines bsteps bsayings bfindings bwarnings bquestions bpersonsc bpapersc bstampsc bversionsc blinesc bstepsc bsayingsc bfindingsc bwarningsc bquestionsc cpersons cpapers cstamps cversions clines csteps csayings cfindings cwarnings cquestions cpersonsc cpapersc cstampsc cversionsc clinesc cstepsc csayingsc cfindingsc cwarningsc cquestionsc tby tln tsp tlnc tspc hs hz hi hw hn ht tr9 clk fi la ml mm sl sm clm hd kc0 km0 kc1 km1 kc2 km2 kc3 km3 kc4 km4 kc5 km5 kc6 km6 kc7 km7 kc8 km8 kc9 km9 kc10 km10 kc11 km11 kc12 km12 fc sh rr tc rrc xm nw nk nt nr nm ns nl nc nF np ntr nb nso nsi nit nsh nsf nss nrc kbpersons kbpapers kbstamps kbversions kblines kbsteps kbsayings kbfindings kbwarnings kbquestions kcpersons kcpapers kcstamps kcversions kclines kcsteps kcsayings kcfindings kcwarnings kcquestions kt ks kn kln ksp jr nr9889 ytp yrm yjr ikp td vd vl gp ktd kvd kvl kgp tkd tf9 dk dn dp da dq cl bo le bi r1 rc rh tf tt9 tl tbv asd st9 tol mroundOf mroundFrom mfromHour mtoHour mfrom mto msort misFault mdeep mcoded mlines mbestCost mdealer mnumber mwhose msize misParted fbpersons fbpapers fbstamps fbversions fblines fbsteps fbsayings fbfindings fbwarnings fbquestions fcpersons fcpapers fcstamps fcversions fclines fcsteps fcsayings fcfindings fcwarnings fcquestions fby ftln ftsp fhw fhn ftr fhs fhz fhi fclm ffi fla fml fmm fsl fsm fk0 fk1 fk2 fk3 fk4 fk5 fk6 fk7 fk8 fk9 fk10 fk11 fk12 ffc fsh frr ftc fht y_nw y_nk y_nt y_nr y_nm y_ns y_nl y_nc y_np y_ntr y_nb y_nso y_nsi y_nit y_nsh y_nsf y_nss y_nrc)) hP2 (lk_D hD rfl) (fun hP hD => ?_)
  obtain ⟨hr9887, w9890⟩ := hr9887
  refine lv_pop hx hb dL_law_1376 rfl ?_
  refine lv_aload_n hx hb dL_law_1377 rfl (lv_at1 hl) ?_
  refine lk_iV hC hK hl hP hD hS hA (w_dropRow l G xm nw nk ikp nt (nI ytp) nr yrm mroundOf mroundFrom 0 nm mfromHour mtoHour ns mfrom mto msort misFault mdeep mcoded mlines nl nc nF np ntr nb mbestCost nso nsi nit nsh nsf nss nrc (nI yjr) mdealer mnumber mwhose msize misParted (i_yrm)) si_L_147 [103] [0] [false, false, false, false, false, false, false, false, false, false, false, false, false, false, false, false, false, false, false, false, false, false, false, false, false, false, false, false, false, false, false, false, false, false, false, false, false, false, false, false, false, false, false, false, false, false, false, false, false, false, false, false, false, false, false, false, false, false, false, false, false, false, false, false, false, false, false, false, false, false, false, false, false, false, false, false, false, false, false, false, false, false, false, false, false, false, false, false, false, false, false, false, false, false, false, false, false, false, false, false, false, false, false, true, false, false, false, false, false, false, false, false, false, false, false, false, false, false, false, false, false, false, false] rfl rfl (by decide +kernel) (by decide +kernel) rfl rfl rfl rfl rfl (Nat.le_of_ble_eq_true rfl) ⟨Nat.le_of_ble_eq_true rfl, Nat.le_of_ble_eq_true rfl⟩ ⟨by first | exact Nat.le_of_ble_eq_true rfl | omega, by first | exact Nat.le_of_ble_eq_true rfl | omega⟩ dL_law_1378 (fun r9891 rm19893 H locs hr9891 hP2 hS => ?_)
  try dsimp only at hr9891
  refine Kpdr (ws := (WLW G K hf xb bb cc sg do9 ru9 ta9 tp9 ro9 ho9 de9 bpersons bpapers bstamps bversions blines bsteps bsayings bfindings bwarnings bquestions bpersonsc bpapersc bstampsc bversionsc blinesc bstepsc bsayingsc bfindingsc bwarningsc bquestionsc cpersons cpapers cstamps cversions clines csteps csayings cfindings cwarnings cquestions cpersonsc cpapersc cstampsc cversionsc clinesc cstepsc csayingsc cfindingsc cwarningsc cquestionsc tby tln tsp tlnc tspc hs hz hi hw hn ht tr9 clk fi la ml mm sl sm clm hd kc0 km0 kc1 km1 kc2 km2 kc3 km3 kc4 km4 kc5 km5 kc6 km6 kc7 km7 kc8 km8 kc9 km9 kc10 km10 kc11 km11 kc12 km12 fc sh rr tc rrc xm nw nk nt nr nm ns nl nc nF np ntr nb nso nsi nit nsh nsf nss nrc kbpersons kbpapers kbstamps kbversions kblines kbsteps kbsayings kbfindings kbwarnings kbquestions kcpersons kcpapers kcstamps kcversions kclines kcsteps kcsayings kcfindings kcwarnings kcquestions kt ks kn kln ksp jr nr9889 ytp rm19893 yjr ikp td vd vl gp ktd kvd kvl kgp tkd tf9 dk dn dp da dq cl bo le bi r1 rc rh tf tt9 tl tbv asd st9 tol mroundOf mroundFrom mfromHour mtoHour mfrom mto msort misFault mdeep mcoded mlines mbestCost mdealer mnumber mwhose msize misParted fbpersons fbpapers fbstamps fbversions fblines fbsteps fbsayings fbfindings fbwarnings fbquestions fcpersons fcpapers fcstamps fcversions fclines fcsteps fcsayings fcfindings fcwarnings fcquestions fby ftln ftsp fhw fhn ftr fhs fhz fhi fclm ffi fla fml fmm fsl fsm fk0 fk1 fk2 fk3 fk4 fk5 fk6 fk7 fk8 fk9 fk10 fk11 fk12 ffc fsh frr ftc fht y_nw y_nk y_nt y_nr y_nm y_ns y_nl y_nc y_np y_ntr y_nb y_nso y_nsi y_nit y_nsh y_nsf y_nss y_nrc)) hP2 (lk_D hD rfl) (fun hP hD => ?_)
  obtain ⟨hr9891, w9894⟩ := hr9891
  refine lv_pop hx hb dL_law_1381 rfl ?_
  refine lv_goto (tgt := 1718) hx hb dL_law_1382 (by decide) ?_
  exact hback kbpersons kbpapers kbstamps kbversions kblines kbsteps kbsayings kbfindings kbwarnings kbquestions kcpersons kcpapers kcstamps kcversions kclines kcsteps kcsayings kcfindings kcwarnings kcquestions kt ks kn kln ksp jr nr9889 ytp rm19893 yjr ikp td vd vl gp ktd kvd kvl kgp tkd tf9 dk dn dp da dq cl bo le bi r1 rc rh tf tt9 tl tbv asd st9 tol mroundOf mroundFrom mfromHour mtoHour mfrom mto msort misFault mdeep mcoded mlines mbestCost mdealer mnumber mwhose msize misParted fbpersons fbpapers fbstamps fbversions fblines fbsteps fbsayings fbfindings fbwarnings fbquestions fcpersons fcpapers fcstamps fcversions fclines fcsteps fcsayings fcfindings fcwarnings fcquestions fby ftln ftsp fhw fhn ftr fhs fhz fhi fclm ffi fla fml fmm fsl fsm fk0 fk1 fk2 fk3 fk4 fk5 fk6 fk7 fk8 fk9 fk10 fk11 fk12 ffc fsh frr ftc fht y_nw y_nk y_nt y_nr y_nm y_ns y_nl y_nc y_np y_ntr y_nb y_nso y_nsi y_nit y_nsh y_nsf y_nss y_nrc H locs ls i_kbpersons i_kbpapers i_kbstamps i_kbversions i_kblines i_kbsteps i_kbsayings i_kbfindings i_kbwarnings i_kbquestions i_kcpersons i_kcpapers i_kcstamps i_kcversions i_kclines i_kcsteps i_kcsayings i_kcfindings i_kcwarnings i_kcquestions i_kt i_ks i_kn i_kln i_ksp i_jr (by first | assumption | omega | exact Or.inl rfl | exact Or.inr rfl) i_ytp (by first | assumption | omega | exact Or.inl rfl | exact Or.inr rfl) i_yjr i_tp i_cl i_tol i_ikp i_nw i_vw i_nk i_vk i_mb i_b6 i_sz i_sh i_sl i_sp i_sq i_sc i_sk i_epersons i_epapers i_estamps i_esayings i_efindings i_ewarnings i_equestions i_kpersons i_kpapers i_kstamps i_ksayings i_kfindings i_kwarnings i_kquestions hP hD hS (lv_sub hl [0, 1, 2, 3] rfl)
set_option maxHeartbeats 8000000 in
set_option maxRecDepth 100000 in
theorem law_31 : LAWC 1385 := by
  intro p l e s m below meth c b L xs G K A hf xb bb cc sg do9 ru9 ta9 tp9 ro9 ho9 de9 bpersons bpapers bstamps bversions blines bsteps bsayings bfindings bwarnings bquestions bpersonsc bpapersc bstampsc bversionsc blinesc bstepsc bsayingsc bfindingsc bwarningsc bquestionsc cpersons cpapers cstamps cversions clines csteps csayings cfindings cwarnings cquestions cpersonsc cpapersc cstampsc cversionsc clinesc cstepsc csayingsc cfindingsc cwarningsc cquestionsc tby tln tsp tlnc tspc hs hz hi hw hn ht tr9 clk fi la ml mm sl sm clm hd kc0 km0 kc1 km1 kc2 km2 kc3 km3 kc4 km4 kc5 km5 kc6 km6 kc7 km7 kc8 km8 kc9 km9 kc10 km10 kc11 km11 kc12 km12 fc sh rr tc rrc xm nw nk nt nr nm ns nl nc nF np ntr nb nso nsi nit nsh nsf nss nrc kbpersons kbpapers kbstamps kbversions kblines kbsteps kbsayings kbfindings kbwarnings kbquestions kcpersons kcpapers kcstamps kcversions kclines kcsteps kcsayings kcfindings kcwarnings kcquestions kt ks kn kln ksp jr kr ytp yrm yjr ikp td vd vl gp ktd kvd kvl kgp tkd tf9 dk dn dp da dq cl bo le bi r1 rc rh tf tt9 tl tbv asd st9 tol mroundOf mroundFrom mfromHour mtoHour mfrom mto msort misFault mdeep mcoded mlines mbestCost mdealer mnumber mwhose msize misParted fbpersons fbpapers fbstamps fbversions fblines fbsteps fbsayings fbfindings fbwarnings fbquestions fcpersons fcpapers fcstamps fcversions fclines fcsteps fcsayings fcfindings fcwarnings fcquestions fby ftln ftsp fhw fhn ftr fhs fhz fhi fclm ffi fla fml fmm fsl fsm fk0 fk1 fk2 fk3 fk4 fk5 fk6 fk7 fk8 fk9 fk10 fk11 fk12 ffc fsh frr ftc fht y_nw y_nk y_nt y_nr y_nm y_ns y_nl y_nc y_np y_ntr y_nb y_nso y_nsi y_nit y_nsh y_nsf y_nss y_nrc H locs ls ki hC hK hO hX hL hbl hbA hA hA2 hki hf0 hf1 hf2 hf3 hf4 hf5 hf6 hf7 hf8 hf9 hf10 hf11 hf12 i_kbpersons i_kbpapers i_kbstamps i_kbversions i_kblines i_kbsteps i_kbsayings i_kbfindings i_kbwarnings i_kbquestions i_kcpersons i_kcpapers i_kcstamps i_kcversions i_kclines i_kcsteps i_kcsayings i_kcfindings i_kcwarnings i_kcquestions i_kt i_ks i_kn i_kln i_ksp i_jr i_kr i_ytp i_yrm i_yjr i_tp i_cl i_tol i_ikp i_nw i_vw i_nk i_vk i_mb i_b6 i_sz i_sh i_sl i_sp i_sq i_sc i_sk i_epersons i_epapers i_estamps i_esayings i_efindings i_ewarnings i_equestions i_kpersons i_kpapers i_kstamps i_ksayings i_kfindings i_kwarnings i_kquestions hback hP hD hS hl
  refine Kan8 hC (fun hx hb hr hml hB hown hlocks hnm => ?_)
  refine lv_aload_n hx hb dL_law_1385 rfl (lv_at2 hl) ?_
  refine pV hC hK hl hP hD (p_judge l G xb bb cc ikp sg do9 ru9 ta9 tp9 ro9 ho9 de9 bpersons bpapers bstamps bversions blines bsteps bsayings bfindings bwarnings bquestions td vd vl gp rr tc asd st9 tol rrc kr frr bquestionsc kbquestions fbquestions (i_kr) (i_kbquestions) (i_tol)) si_L_148 [0, 1, 98, 99, 100, 20, 21] sm_0_1_98_99_100_20_21 fm_0_1_98_99_100_20_21 nd_0_1_98_99_100_20_21 rfl rfl rfl rfl rfl (Nat.le_of_ble_eq_true rfl) ⟨Nat.le_of_ble_eq_true rfl, Nat.le_of_ble_eq_true rfl⟩ ⟨by first | exact Nat.le_of_ble_eq_true rfl | exact Nat.zero_le _, by first | exact Nat.le_of_ble_eq_true rfl | exact Nat.zero_le _⟩ dL_law_1386 (fun r9895 hr9895 => ?_)
  refine lv_pop hx hb dL_law_1389 rfl ?_
  refine lv_aload_n hx hb dL_law_1390 rfl (lv_at1 hl) ?_
  refine pV hC hK hl hP hD (r_judge l G xm nw nk ikp nt (nI ytp) nr yrm mroundOf mroundFrom 0 nm mfromHour mtoHour ns mfrom mto msort misFault mdeep mcoded mlines nl nc nF np ntr nb mbestCost nso nsi nit nsh nsf nss nrc (nI yjr) mdealer mnumber mwhose msize misParted y_nw y_nr (i_yrm) (i_nw)) si_L_151 [103, 104, 107] sm_103_104_107 fm_103_104_107 nd_103_104_107 rfl rfl rfl rfl rfl (Nat.le_of_ble_eq_true rfl) ⟨Nat.le_of_ble_eq_true rfl, Nat.le_of_ble_eq_true rfl⟩ ⟨by first | exact Nat.le_of_ble_eq_true rfl | exact Nat.zero_le _, by first | exact Nat.le_of_ble_eq_true rfl | exact Nat.zero_le _⟩ dL_law_1391 (fun r9896 hr9896 => ?_)
  refine lv_pop hx hb dL_law_1394 rfl ?_
  refine lv_goto (tgt := 1718) hx hb dL_law_1395 (by decide) ?_
  exact hback kbpersons kbpapers kbstamps kbversions kblines kbsteps kbsayings kbfindings kbwarnings kbquestions kcpersons kcpapers kcstamps kcversions kclines kcsteps kcsayings kcfindings kcwarnings kcquestions kt ks kn kln ksp jr kr ytp yrm yjr ikp td vd vl gp ktd kvd kvl kgp tkd tf9 dk dn dp da dq cl bo le bi r1 rc rh tf tt9 tl tbv asd st9 tol mroundOf mroundFrom mfromHour mtoHour mfrom mto msort misFault mdeep mcoded mlines mbestCost mdealer mnumber mwhose msize misParted fbpersons fbpapers fbstamps fbversions fblines fbsteps fbsayings fbfindings fbwarnings fbquestions fcpersons fcpapers fcstamps fcversions fclines fcsteps fcsayings fcfindings fcwarnings fcquestions fby ftln ftsp fhw fhn ftr fhs fhz fhi fclm ffi fla fml fmm fsl fsm fk0 fk1 fk2 fk3 fk4 fk5 fk6 fk7 fk8 fk9 fk10 fk11 fk12 ffc fsh frr ftc fht y_nw y_nk y_nt y_nr y_nm y_ns y_nl y_nc y_np y_ntr y_nb y_nso y_nsi y_nit y_nsh y_nsf y_nss y_nrc H locs ls i_kbpersons i_kbpapers i_kbstamps i_kbversions i_kblines i_kbsteps i_kbsayings i_kbfindings i_kbwarnings i_kbquestions i_kcpersons i_kcpapers i_kcstamps i_kcversions i_kclines i_kcsteps i_kcsayings i_kcfindings i_kcwarnings i_kcquestions i_kt i_ks i_kn i_kln i_ksp i_jr i_kr i_ytp i_yrm i_yjr i_tp i_cl i_tol i_ikp i_nw i_vw i_nk i_vk i_mb i_b6 i_sz i_sh i_sl i_sp i_sq i_sc i_sk i_epersons i_epapers i_estamps i_esayings i_efindings i_ewarnings i_equestions i_kpersons i_kpapers i_kstamps i_ksayings i_kfindings i_kwarnings i_kquestions hP hD hS (lv_sub hl [0, 1, 2, 3] rfl)
