abbrev b_Mod_widthOf : ByteArray := prog_8_method_7_code
def y_Mod_widthOf : MethodName := ⟨"CircuitDeskModel", "widthOf", "(IIII)I"⟩
def w_Mod_widthOf : List Cond := .code y_Mod_widthOf b_Mod_widthOf 6 (some .int) :: lw_gw
theorem d_Mod_widthOf_0 : decode b_Mod_widthOf 0 = .ok (.iload_n 1, 1) := by decide +kernel
theorem d_Mod_widthOf_1 : decode b_Mod_widthOf 1 = .ok (.bipush 11, 2) := by decide +kernel
theorem d_Mod_widthOf_3 : decode b_Mod_widthOf 3 = .ok (.if_icmp .ne 32, 3) := by decide +kernel
theorem d_Mod_widthOf_6 : decode b_Mod_widthOf 6 = .ok (.iload_n 3, 1) := by decide +kernel
theorem d_Mod_widthOf_7 : decode b_Mod_widthOf 7 = .ok (.iconst 1, 1) := by decide +kernel
theorem d_Mod_widthOf_8 : decode b_Mod_widthOf 8 = .ok (.bipush 8, 2) := by decide +kernel
theorem d_Mod_widthOf_10 : decode b_Mod_widthOf 10 = .ok (.invokestatic 81, 3) := by decide +kernel
theorem d_Mod_widthOf_13 : decode b_Mod_widthOf 13 = .ok (.ifCond .eq 20, 3) := by decide +kernel
theorem d_Mod_widthOf_16 : decode b_Mod_widthOf 16 = .ok (.iload_n 2, 1) := by decide +kernel
theorem d_Mod_widthOf_17 : decode b_Mod_widthOf 17 = .ok (.iconst 0, 1) := by decide +kernel
theorem d_Mod_widthOf_18 : decode b_Mod_widthOf 18 = .ok (.iconst 1, 1) := by decide +kernel
theorem d_Mod_widthOf_19 : decode b_Mod_widthOf 19 = .ok (.iload_n 3, 1) := by decide +kernel
theorem d_Mod_widthOf_20 : decode b_Mod_widthOf 20 = .ok (.ishl, 1) := by decide +kernel
theorem d_Mod_widthOf_21 : decode b_Mod_widthOf 21 = .ok (.iconst 1, 1) := by decide +kernel
theorem d_Mod_widthOf_22 : decode b_Mod_widthOf 22 = .ok (.isub, 1) := by decide +kernel
theorem d_Mod_widthOf_23 : decode b_Mod_widthOf 23 = .ok (.invokestatic 81, 3) := by decide +kernel
theorem d_Mod_widthOf_26 : decode b_Mod_widthOf 26 = .ok (.ifCond .eq 7, 3) := by decide +kernel
theorem d_Mod_widthOf_29 : decode b_Mod_widthOf 29 = .ok (.iload_n 3, 1) := by decide +kernel
theorem d_Mod_widthOf_30 : decode b_Mod_widthOf 30 = .ok (.goto 4, 3) := by decide +kernel
theorem d_Mod_widthOf_33 : decode b_Mod_widthOf 33 = .ok (.iconst 0, 1) := by decide +kernel
theorem d_Mod_widthOf_34 : decode b_Mod_widthOf 34 = .ok (.ireturn, 1) := by decide +kernel
theorem d_Mod_widthOf_35 : decode b_Mod_widthOf 35 = .ok (.iload_n 1, 1) := by decide +kernel
theorem d_Mod_widthOf_36 : decode b_Mod_widthOf 36 = .ok (.iconst 0, 1) := by decide +kernel
theorem d_Mod_widthOf_37 : decode b_Mod_widthOf 37 = .ok (.bipush 10, 2) := by decide +kernel
theorem d_Mod_widthOf_39 : decode b_Mod_widthOf 39 = .ok (.invokestatic 81, 3) := by decide +kernel
theorem d_Mod_widthOf_42 : decode b_Mod_widthOf 42 = .ok (.ifCond .eq 11, 3) := by decide +kernel
theorem d_Mod_widthOf_45 : decode b_Mod_widthOf 45 = .ok (.aload_n 0, 1) := by decide +kernel
theorem d_Mod_widthOf_46 : decode b_Mod_widthOf 46 = .ok (.iload_n 2, 1) := by decide +kernel
theorem d_Mod_widthOf_47 : decode b_Mod_widthOf 47 = .ok (.invokevirtual 93, 3) := by decide +kernel
theorem d_Mod_widthOf_50 : decode b_Mod_widthOf 50 = .ok (.ifCond .ne 5, 3) := by decide +kernel
theorem d_Mod_widthOf_53 : decode b_Mod_widthOf 53 = .ok (.iconst 0, 1) := by decide +kernel
theorem d_Mod_widthOf_54 : decode b_Mod_widthOf 54 = .ok (.ireturn, 1) := by decide +kernel
theorem d_Mod_widthOf_55 : decode b_Mod_widthOf 55 = .ok (.iload_n 1, 1) := by decide +kernel
theorem d_Mod_widthOf_56 : decode b_Mod_widthOf 56 = .ok (.ifCond .ne 10, 3) := by decide +kernel
theorem d_Mod_widthOf_59 : decode b_Mod_widthOf 59 = .ok (.aload_n 0, 1) := by decide +kernel
theorem d_Mod_widthOf_60 : decode b_Mod_widthOf 60 = .ok (.getfield 13, 3) := by decide +kernel
theorem d_Mod_widthOf_63 : decode b_Mod_widthOf 63 = .ok (.iload_n 2, 1) := by decide +kernel
theorem d_Mod_widthOf_64 : decode b_Mod_widthOf 64 = .ok (.iaload, 1) := by decide +kernel
theorem d_Mod_widthOf_65 : decode b_Mod_widthOf 65 = .ok (.ireturn, 1) := by decide +kernel
theorem d_Mod_widthOf_66 : decode b_Mod_widthOf 66 = .ok (.iload_n 1, 1) := by decide +kernel
theorem d_Mod_widthOf_67 : decode b_Mod_widthOf 67 = .ok (.bipush 9, 2) := by decide +kernel
theorem d_Mod_widthOf_69 : decode b_Mod_widthOf 69 = .ok (.if_icmp .ne 44, 3) := by decide +kernel
theorem d_Mod_widthOf_72 : decode b_Mod_widthOf 72 = .ok (.iload_n 3, 1) := by decide +kernel
theorem d_Mod_widthOf_73 : decode b_Mod_widthOf 73 = .ok (.iconst 0, 1) := by decide +kernel
theorem d_Mod_widthOf_74 : decode b_Mod_widthOf 74 = .ok (.bipush 8, 2) := by decide +kernel
theorem d_Mod_widthOf_76 : decode b_Mod_widthOf 76 = .ok (.invokestatic 81, 3) := by decide +kernel
theorem d_Mod_widthOf_79 : decode b_Mod_widthOf 79 = .ok (.ifCond .eq 32, 3) := by decide +kernel
theorem d_Mod_widthOf_82 : decode b_Mod_widthOf 82 = .ok (.iload 4, 2) := by decide +kernel
theorem d_Mod_widthOf_84 : decode b_Mod_widthOf 84 = .ok (.iconst 1, 1) := by decide +kernel
theorem d_Mod_widthOf_85 : decode b_Mod_widthOf 85 = .ok (.bipush 8, 2) := by decide +kernel
theorem d_Mod_widthOf_87 : decode b_Mod_widthOf 87 = .ok (.invokestatic 81, 3) := by decide +kernel
theorem d_Mod_widthOf_90 : decode b_Mod_widthOf 90 = .ok (.ifCond .eq 21, 3) := by decide +kernel
theorem d_Mod_widthOf_93 : decode b_Mod_widthOf 93 = .ok (.iload_n 3, 1) := by decide +kernel
theorem d_Mod_widthOf_94 : decode b_Mod_widthOf 94 = .ok (.iload 4, 2) := by decide +kernel
theorem d_Mod_widthOf_96 : decode b_Mod_widthOf 96 = .ok (.iadd, 1) := by decide +kernel
theorem d_Mod_widthOf_97 : decode b_Mod_widthOf 97 = .ok (.aload_n 0, 1) := by decide +kernel
theorem d_Mod_widthOf_98 : decode b_Mod_widthOf 98 = .ok (.getfield 13, 3) := by decide +kernel
theorem d_Mod_widthOf_101 : decode b_Mod_widthOf 101 = .ok (.iload_n 2, 1) := by decide +kernel
theorem d_Mod_widthOf_102 : decode b_Mod_widthOf 102 = .ok (.iaload, 1) := by decide +kernel
theorem d_Mod_widthOf_103 : decode b_Mod_widthOf 103 = .ok (.if_icmp .gt 8, 3) := by decide +kernel
theorem d_Mod_widthOf_106 : decode b_Mod_widthOf 106 = .ok (.iload 4, 2) := by decide +kernel
theorem d_Mod_widthOf_108 : decode b_Mod_widthOf 108 = .ok (.goto 4, 3) := by decide +kernel
theorem d_Mod_widthOf_111 : decode b_Mod_widthOf 111 = .ok (.iconst 0, 1) := by decide +kernel
theorem d_Mod_widthOf_112 : decode b_Mod_widthOf 112 = .ok (.ireturn, 1) := by decide +kernel
theorem d_Mod_widthOf_113 : decode b_Mod_widthOf 113 = .ok (.aload_n 0, 1) := by decide +kernel
theorem d_Mod_widthOf_114 : decode b_Mod_widthOf 114 = .ok (.iload_n 3, 1) := by decide +kernel
theorem d_Mod_widthOf_115 : decode b_Mod_widthOf 115 = .ok (.invokevirtual 93, 3) := by decide +kernel
theorem d_Mod_widthOf_118 : decode b_Mod_widthOf 118 = .ok (.ifCond .ne 5, 3) := by decide +kernel
theorem d_Mod_widthOf_121 : decode b_Mod_widthOf 121 = .ok (.iconst 0, 1) := by decide +kernel
theorem d_Mod_widthOf_122 : decode b_Mod_widthOf 122 = .ok (.ireturn, 1) := by decide +kernel
theorem d_Mod_widthOf_123 : decode b_Mod_widthOf 123 = .ok (.iload_n 1, 1) := by decide +kernel
theorem d_Mod_widthOf_124 : decode b_Mod_widthOf 124 = .ok (.bipush 10, 2) := by decide +kernel
theorem d_Mod_widthOf_126 : decode b_Mod_widthOf 126 = .ok (.if_icmp .ne 43, 3) := by decide +kernel
theorem d_Mod_widthOf_129 : decode b_Mod_widthOf 129 = .ok (.aload_n 0, 1) := by decide +kernel
theorem d_Mod_widthOf_130 : decode b_Mod_widthOf 130 = .ok (.iload 4, 2) := by decide +kernel
theorem d_Mod_widthOf_132 : decode b_Mod_widthOf 132 = .ok (.invokevirtual 93, 3) := by decide +kernel
theorem d_Mod_widthOf_135 : decode b_Mod_widthOf 135 = .ok (.ifCond .eq 32, 3) := by decide +kernel
theorem d_Mod_widthOf_138 : decode b_Mod_widthOf 138 = .ok (.aload_n 0, 1) := by decide +kernel
theorem d_Mod_widthOf_139 : decode b_Mod_widthOf 139 = .ok (.getfield 13, 3) := by decide +kernel
theorem d_Mod_widthOf_142 : decode b_Mod_widthOf 142 = .ok (.iload_n 2, 1) := by decide +kernel
theorem d_Mod_widthOf_143 : decode b_Mod_widthOf 143 = .ok (.iaload, 1) := by decide +kernel
theorem d_Mod_widthOf_144 : decode b_Mod_widthOf 144 = .ok (.iconst 1, 1) := by decide +kernel
theorem d_Mod_widthOf_145 : decode b_Mod_widthOf 145 = .ok (.if_icmp .ne 22, 3) := by decide +kernel
theorem d_Mod_widthOf_148 : decode b_Mod_widthOf 148 = .ok (.aload_n 0, 1) := by decide +kernel
theorem d_Mod_widthOf_149 : decode b_Mod_widthOf 149 = .ok (.getfield 13, 3) := by decide +kernel
theorem d_Mod_widthOf_152 : decode b_Mod_widthOf 152 = .ok (.iload_n 3, 1) := by decide +kernel
theorem d_Mod_widthOf_153 : decode b_Mod_widthOf 153 = .ok (.iaload, 1) := by decide +kernel
theorem d_Mod_widthOf_154 : decode b_Mod_widthOf 154 = .ok (.aload_n 0, 1) := by decide +kernel
theorem d_Mod_widthOf_155 : decode b_Mod_widthOf 155 = .ok (.getfield 13, 3) := by decide +kernel
theorem d_Mod_widthOf_158 : decode b_Mod_widthOf 158 = .ok (.iload 4, 2) := by decide +kernel
theorem d_Mod_widthOf_160 : decode b_Mod_widthOf 160 = .ok (.iaload, 1) := by decide +kernel
theorem d_Mod_widthOf_161 : decode b_Mod_widthOf 161 = .ok (.invokestatic 97, 3) := by decide +kernel
theorem d_Mod_widthOf_164 : decode b_Mod_widthOf 164 = .ok (.goto 4, 3) := by decide +kernel
theorem d_Mod_widthOf_167 : decode b_Mod_widthOf 167 = .ok (.iconst 0, 1) := by decide +kernel
theorem d_Mod_widthOf_168 : decode b_Mod_widthOf 168 = .ok (.ireturn, 1) := by decide +kernel
theorem d_Mod_widthOf_169 : decode b_Mod_widthOf 169 = .ok (.aload_n 0, 1) := by decide +kernel
theorem d_Mod_widthOf_170 : decode b_Mod_widthOf 170 = .ok (.getfield 13, 3) := by decide +kernel
theorem d_Mod_widthOf_173 : decode b_Mod_widthOf 173 = .ok (.iload_n 2, 1) := by decide +kernel
theorem d_Mod_widthOf_174 : decode b_Mod_widthOf 174 = .ok (.iaload, 1) := by decide +kernel
theorem d_Mod_widthOf_175 : decode b_Mod_widthOf 175 = .ok (.aload_n 0, 1) := by decide +kernel
theorem d_Mod_widthOf_176 : decode b_Mod_widthOf 176 = .ok (.getfield 13, 3) := by decide +kernel
theorem d_Mod_widthOf_179 : decode b_Mod_widthOf 179 = .ok (.iload_n 3, 1) := by decide +kernel
theorem d_Mod_widthOf_180 : decode b_Mod_widthOf 180 = .ok (.iaload, 1) := by decide +kernel
theorem d_Mod_widthOf_181 : decode b_Mod_widthOf 181 = .ok (.invokestatic 97, 3) := by decide +kernel
theorem d_Mod_widthOf_184 : decode b_Mod_widthOf 184 = .ok (.istore 5, 2) := by decide +kernel
theorem d_Mod_widthOf_186 : decode b_Mod_widthOf 186 = .ok (.iload_n 1, 1) := by decide +kernel
theorem d_Mod_widthOf_187 : decode b_Mod_widthOf 187 = .ok (.bipush 6, 2) := by decide +kernel
theorem d_Mod_widthOf_189 : decode b_Mod_widthOf 189 = .ok (.if_icmp .eq 9, 3) := by decide +kernel
theorem d_Mod_widthOf_192 : decode b_Mod_widthOf 192 = .ok (.iload_n 1, 1) := by decide +kernel
theorem d_Mod_widthOf_193 : decode b_Mod_widthOf 193 = .ok (.bipush 7, 2) := by decide +kernel
theorem d_Mod_widthOf_195 : decode b_Mod_widthOf 195 = .ok (.if_icmp .ne 7, 3) := by decide +kernel
theorem d_Mod_widthOf_198 : decode b_Mod_widthOf 198 = .ok (.iconst 1, 1) := by decide +kernel
theorem d_Mod_widthOf_199 : decode b_Mod_widthOf 199 = .ok (.goto 39, 3) := by decide +kernel
theorem d_Mod_widthOf_202 : decode b_Mod_widthOf 202 = .ok (.iload_n 1, 1) := by decide +kernel
theorem d_Mod_widthOf_203 : decode b_Mod_widthOf 203 = .ok (.iconst 4, 1) := by decide +kernel
theorem d_Mod_widthOf_204 : decode b_Mod_widthOf 204 = .ok (.if_icmp .ne 10, 3) := by decide +kernel
theorem d_Mod_widthOf_207 : decode b_Mod_widthOf 207 = .ok (.iload 5, 2) := by decide +kernel
theorem d_Mod_widthOf_209 : decode b_Mod_widthOf 209 = .ok (.iconst 1, 1) := by decide +kernel
theorem d_Mod_widthOf_210 : decode b_Mod_widthOf 210 = .ok (.iadd, 1) := by decide +kernel
theorem d_Mod_widthOf_211 : decode b_Mod_widthOf 211 = .ok (.goto 27, 3) := by decide +kernel
theorem d_Mod_widthOf_214 : decode b_Mod_widthOf 214 = .ok (.iload_n 1, 1) := by decide +kernel
theorem d_Mod_widthOf_215 : decode b_Mod_widthOf 215 = .ok (.bipush 8, 2) := by decide +kernel
theorem d_Mod_widthOf_217 : decode b_Mod_widthOf 217 = .ok (.if_icmp .ne 19, 3) := by decide +kernel
theorem d_Mod_widthOf_220 : decode b_Mod_widthOf 220 = .ok (.aload_n 0, 1) := by decide +kernel
theorem d_Mod_widthOf_221 : decode b_Mod_widthOf 221 = .ok (.getfield 13, 3) := by decide +kernel
theorem d_Mod_widthOf_224 : decode b_Mod_widthOf 224 = .ok (.iload_n 2, 1) := by decide +kernel
theorem d_Mod_widthOf_225 : decode b_Mod_widthOf 225 = .ok (.iaload, 1) := by decide +kernel
theorem d_Mod_widthOf_226 : decode b_Mod_widthOf 226 = .ok (.aload_n 0, 1) := by decide +kernel
theorem d_Mod_widthOf_227 : decode b_Mod_widthOf 227 = .ok (.getfield 13, 3) := by decide +kernel
theorem d_Mod_widthOf_230 : decode b_Mod_widthOf 230 = .ok (.iload_n 3, 1) := by decide +kernel
theorem d_Mod_widthOf_231 : decode b_Mod_widthOf 231 = .ok (.iaload, 1) := by decide +kernel
theorem d_Mod_widthOf_232 : decode b_Mod_widthOf 232 = .ok (.iadd, 1) := by decide +kernel
theorem d_Mod_widthOf_233 : decode b_Mod_widthOf 233 = .ok (.goto 5, 3) := by decide +kernel
theorem d_Mod_widthOf_236 : decode b_Mod_widthOf 236 = .ok (.iload 5, 2) := by decide +kernel
theorem d_Mod_widthOf_238 : decode b_Mod_widthOf 238 = .ok (.ireturn, 1) := by decide +kernel
abbrev b_Mod_node : ByteArray := prog_8_method_8_code
def y_Mod_node : MethodName := ⟨"CircuitDeskModel", "node", "(IIII)I"⟩
def w_Mod_node : List Cond := .code y_Mod_node b_Mod_node 7 (some .int) :: lw_gw
theorem d_Mod_node_0 : decode b_Mod_node 0 = .ok (.aload_n 0, 1) := by decide +kernel
theorem d_Mod_node_1 : decode b_Mod_node 1 = .ok (.iload_n 1, 1) := by decide +kernel
theorem d_Mod_node_2 : decode b_Mod_node 2 = .ok (.iload_n 2, 1) := by decide +kernel
theorem d_Mod_node_3 : decode b_Mod_node 3 = .ok (.iload_n 3, 1) := by decide +kernel
theorem d_Mod_node_4 : decode b_Mod_node 4 = .ok (.iload 4, 2) := by decide +kernel
theorem d_Mod_node_6 : decode b_Mod_node 6 = .ok (.invokevirtual 100, 3) := by decide +kernel
theorem d_Mod_node_9 : decode b_Mod_node 9 = .ok (.istore 5, 2) := by decide +kernel
theorem d_Mod_node_11 : decode b_Mod_node 11 = .ok (.iload 5, 2) := by decide +kernel
theorem d_Mod_node_13 : decode b_Mod_node 13 = .ok (.iconst 1, 1) := by decide +kernel
theorem d_Mod_node_14 : decode b_Mod_node 14 = .ok (.bipush 8, 2) := by decide +kernel
theorem d_Mod_node_16 : decode b_Mod_node 16 = .ok (.invokestatic 81, 3) := by decide +kernel
theorem d_Mod_node_19 : decode b_Mod_node 19 = .ok (.ifCond .ne 5, 3) := by decide +kernel
theorem d_Mod_node_22 : decode b_Mod_node 22 = .ok (.iconst (-1), 1) := by decide +kernel
theorem d_Mod_node_23 : decode b_Mod_node 23 = .ok (.ireturn, 1) := by decide +kernel
theorem d_Mod_node_24 : decode b_Mod_node 24 = .ok (.aload_n 0, 1) := by decide +kernel
theorem d_Mod_node_25 : decode b_Mod_node 25 = .ok (.getfield 78, 3) := by decide +kernel
theorem d_Mod_node_28 : decode b_Mod_node 28 = .ok (.bipush 14, 2) := by decide +kernel
theorem d_Mod_node_30 : decode b_Mod_node 30 = .ok (.if_icmp .ne 6, 3) := by decide +kernel
theorem d_Mod_node_33 : decode b_Mod_node 33 = .ok (.bipush (-3), 2) := by decide +kernel
theorem d_Mod_node_35 : decode b_Mod_node 35 = .ok (.ireturn, 1) := by decide +kernel
theorem d_Mod_node_36 : decode b_Mod_node 36 = .ok (.aload_n 0, 1) := by decide +kernel
theorem d_Mod_node_37 : decode b_Mod_node 37 = .ok (.iconst 3, 1) := by decide +kernel
theorem d_Mod_node_38 : decode b_Mod_node 38 = .ok (.iload 5, 2) := by decide +kernel
theorem d_Mod_node_40 : decode b_Mod_node 40 = .ok (.invokevirtual 89, 3) := by decide +kernel
theorem d_Mod_node_43 : decode b_Mod_node 43 = .ok (.istore 6, 2) := by decide +kernel
theorem d_Mod_node_45 : decode b_Mod_node 45 = .ok (.aload_n 0, 1) := by decide +kernel
theorem d_Mod_node_46 : decode b_Mod_node 46 = .ok (.getfield 19, 3) := by decide +kernel
theorem d_Mod_node_49 : decode b_Mod_node 49 = .ok (.iload 6, 2) := by decide +kernel
theorem d_Mod_node_51 : decode b_Mod_node 51 = .ok (.iload_n 1, 1) := by decide +kernel
theorem d_Mod_node_52 : decode b_Mod_node 52 = .ok (.iastore, 1) := by decide +kernel
theorem d_Mod_node_53 : decode b_Mod_node 53 = .ok (.aload_n 0, 1) := by decide +kernel
theorem d_Mod_node_54 : decode b_Mod_node 54 = .ok (.getfield 22, 3) := by decide +kernel
theorem d_Mod_node_57 : decode b_Mod_node 57 = .ok (.iload 6, 2) := by decide +kernel
theorem d_Mod_node_59 : decode b_Mod_node 59 = .ok (.iload_n 2, 1) := by decide +kernel
theorem d_Mod_node_60 : decode b_Mod_node 60 = .ok (.iastore, 1) := by decide +kernel
theorem d_Mod_node_61 : decode b_Mod_node 61 = .ok (.aload_n 0, 1) := by decide +kernel
theorem d_Mod_node_62 : decode b_Mod_node 62 = .ok (.getfield 25, 3) := by decide +kernel
theorem d_Mod_node_65 : decode b_Mod_node 65 = .ok (.iload 6, 2) := by decide +kernel
theorem d_Mod_node_67 : decode b_Mod_node 67 = .ok (.iload_n 3, 1) := by decide +kernel
theorem d_Mod_node_68 : decode b_Mod_node 68 = .ok (.iastore, 1) := by decide +kernel
theorem d_Mod_node_69 : decode b_Mod_node 69 = .ok (.aload_n 0, 1) := by decide +kernel
theorem d_Mod_node_70 : decode b_Mod_node 70 = .ok (.getfield 28, 3) := by decide +kernel
theorem d_Mod_node_73 : decode b_Mod_node 73 = .ok (.iload 6, 2) := by decide +kernel
theorem d_Mod_node_75 : decode b_Mod_node 75 = .ok (.iload 4, 2) := by decide +kernel
theorem d_Mod_node_77 : decode b_Mod_node 77 = .ok (.iastore, 1) := by decide +kernel
theorem d_Mod_node_78 : decode b_Mod_node 78 = .ok (.iload 6, 2) := by decide +kernel
theorem d_Mod_node_80 : decode b_Mod_node 80 = .ok (.ireturn, 1) := by decide +kernel
abbrev b_Mod_deep : ByteArray := prog_8_method_9_code
def y_Mod_deep : MethodName := ⟨"CircuitDeskModel", "deep", "(I)I"⟩
def w_Mod_deep : List Cond := .code y_Mod_deep b_Mod_deep 4 (some .int) :: lw_gw
theorem d_Mod_deep_0 : decode b_Mod_deep 0 = .ok (.iconst 0, 1) := by decide +kernel
theorem d_Mod_deep_1 : decode b_Mod_deep 1 = .ok (.istore_n 2, 1) := by decide +kernel
theorem d_Mod_deep_2 : decode b_Mod_deep 2 = .ok (.iconst 0, 1) := by decide +kernel
theorem d_Mod_deep_3 : decode b_Mod_deep 3 = .ok (.istore_n 3, 1) := by decide +kernel
theorem d_Mod_deep_4 : decode b_Mod_deep 4 = .ok (.iload_n 3, 1) := by decide +kernel
theorem d_Mod_deep_5 : decode b_Mod_deep 5 = .ok (.iload_n 1, 1) := by decide +kernel
theorem d_Mod_deep_6 : decode b_Mod_deep 6 = .ok (.if_icmp .ge 41, 3) := by decide +kernel
theorem d_Mod_deep_9 : decode b_Mod_deep 9 = .ok (.iload_n 2, 1) := by decide +kernel
theorem d_Mod_deep_10 : decode b_Mod_deep 10 = .ok (.aload_n 0, 1) := by decide +kernel
theorem d_Mod_deep_11 : decode b_Mod_deep 11 = .ok (.getfield 34, 3) := by decide +kernel
theorem d_Mod_deep_14 : decode b_Mod_deep 14 = .ok (.iload_n 3, 1) := by decide +kernel
theorem d_Mod_deep_15 : decode b_Mod_deep 15 = .ok (.iaload, 1) := by decide +kernel
theorem d_Mod_deep_16 : decode b_Mod_deep 16 = .ok (.iconst 1, 1) := by decide +kernel
theorem d_Mod_deep_17 : decode b_Mod_deep 17 = .ok (.if_icmp .ne 7, 3) := by decide +kernel
theorem d_Mod_deep_20 : decode b_Mod_deep 20 = .ok (.iconst 1, 1) := by decide +kernel
theorem d_Mod_deep_21 : decode b_Mod_deep 21 = .ok (.goto 18, 3) := by decide +kernel
theorem d_Mod_deep_24 : decode b_Mod_deep 24 = .ok (.aload_n 0, 1) := by decide +kernel
theorem d_Mod_deep_25 : decode b_Mod_deep 25 = .ok (.getfield 34, 3) := by decide +kernel
theorem d_Mod_deep_28 : decode b_Mod_deep 28 = .ok (.iload_n 3, 1) := by decide +kernel
theorem d_Mod_deep_29 : decode b_Mod_deep 29 = .ok (.iaload, 1) := by decide +kernel
theorem d_Mod_deep_30 : decode b_Mod_deep 30 = .ok (.iconst 3, 1) := by decide +kernel
theorem d_Mod_deep_31 : decode b_Mod_deep 31 = .ok (.if_icmp .ne 7, 3) := by decide +kernel
theorem d_Mod_deep_34 : decode b_Mod_deep 34 = .ok (.iconst (-1), 1) := by decide +kernel
theorem d_Mod_deep_35 : decode b_Mod_deep 35 = .ok (.goto 4, 3) := by decide +kernel
theorem d_Mod_deep_38 : decode b_Mod_deep 38 = .ok (.iconst 0, 1) := by decide +kernel
theorem d_Mod_deep_39 : decode b_Mod_deep 39 = .ok (.iadd, 1) := by decide +kernel
theorem d_Mod_deep_40 : decode b_Mod_deep 40 = .ok (.istore_n 2, 1) := by decide +kernel
theorem d_Mod_deep_41 : decode b_Mod_deep 41 = .ok (.iinc 3 1, 3) := by decide +kernel
theorem d_Mod_deep_44 : decode b_Mod_deep 44 = .ok (.goto (-40), 3) := by decide +kernel
theorem d_Mod_deep_47 : decode b_Mod_deep 47 = .ok (.iload_n 2, 1) := by decide +kernel
theorem d_Mod_deep_48 : decode b_Mod_deep 48 = .ok (.ireturn, 1) := by decide +kernel
abbrev b_Mod_hasElse : ByteArray := prog_8_method_10_code
def y_Mod_hasElse : MethodName := ⟨"CircuitDeskModel", "hasElse", "()Z"⟩
def w_Mod_hasElse : List Cond := .code y_Mod_hasElse b_Mod_hasElse 3 (some .boolean) :: lw_gw
theorem d_Mod_hasElse_0 : decode b_Mod_hasElse 0 = .ok (.aload_n 0, 1) := by decide +kernel
theorem d_Mod_hasElse_1 : decode b_Mod_hasElse 1 = .ok (.aload_n 0, 1) := by decide +kernel
theorem d_Mod_hasElse_2 : decode b_Mod_hasElse 2 = .ok (.getfield 104, 3) := by decide +kernel
theorem d_Mod_hasElse_5 : decode b_Mod_hasElse 5 = .ok (.invokevirtual 107, 3) := by decide +kernel
theorem d_Mod_hasElse_8 : decode b_Mod_hasElse 8 = .ok (.istore_n 1, 1) := by decide +kernel
theorem d_Mod_hasElse_9 : decode b_Mod_hasElse 9 = .ok (.aload_n 0, 1) := by decide +kernel
theorem d_Mod_hasElse_10 : decode b_Mod_hasElse 10 = .ok (.getfield 104, 3) := by decide +kernel
theorem d_Mod_hasElse_13 : decode b_Mod_hasElse 13 = .ok (.iconst 1, 1) := by decide +kernel
theorem d_Mod_hasElse_14 : decode b_Mod_hasElse 14 = .ok (.isub, 1) := by decide +kernel
theorem d_Mod_hasElse_15 : decode b_Mod_hasElse 15 = .ok (.istore_n 2, 1) := by decide +kernel
theorem d_Mod_hasElse_16 : decode b_Mod_hasElse 16 = .ok (.aload_n 0, 1) := by decide +kernel
theorem d_Mod_hasElse_17 : decode b_Mod_hasElse 17 = .ok (.getfield 34, 3) := by decide +kernel
theorem d_Mod_hasElse_20 : decode b_Mod_hasElse 20 = .ok (.iload_n 2, 1) := by decide +kernel
theorem d_Mod_hasElse_21 : decode b_Mod_hasElse 21 = .ok (.iaload, 1) := by decide +kernel
theorem d_Mod_hasElse_22 : decode b_Mod_hasElse 22 = .ok (.iconst 1, 1) := by decide +kernel
theorem d_Mod_hasElse_23 : decode b_Mod_hasElse 23 = .ok (.if_icmp .ne 14, 3) := by decide +kernel
theorem d_Mod_hasElse_26 : decode b_Mod_hasElse 26 = .ok (.aload_n 0, 1) := by decide +kernel
theorem d_Mod_hasElse_27 : decode b_Mod_hasElse 27 = .ok (.iload_n 2, 1) := by decide +kernel
theorem d_Mod_hasElse_28 : decode b_Mod_hasElse 28 = .ok (.invokevirtual 107, 3) := by decide +kernel
theorem d_Mod_hasElse_31 : decode b_Mod_hasElse 31 = .ok (.iload_n 1, 1) := by decide +kernel
theorem d_Mod_hasElse_32 : decode b_Mod_hasElse 32 = .ok (.iconst 1, 1) := by decide +kernel
theorem d_Mod_hasElse_33 : decode b_Mod_hasElse 33 = .ok (.isub, 1) := by decide +kernel
theorem d_Mod_hasElse_34 : decode b_Mod_hasElse 34 = .ok (.if_icmp .eq 30, 3) := by decide +kernel
theorem d_Mod_hasElse_37 : decode b_Mod_hasElse 37 = .ok (.aload_n 0, 1) := by decide +kernel
theorem d_Mod_hasElse_38 : decode b_Mod_hasElse 38 = .ok (.getfield 34, 3) := by decide +kernel
theorem d_Mod_hasElse_41 : decode b_Mod_hasElse 41 = .ok (.iload_n 2, 1) := by decide +kernel
theorem d_Mod_hasElse_42 : decode b_Mod_hasElse 42 = .ok (.iaload, 1) := by decide +kernel
theorem d_Mod_hasElse_43 : decode b_Mod_hasElse 43 = .ok (.iconst 2, 1) := by decide +kernel
theorem d_Mod_hasElse_44 : decode b_Mod_hasElse 44 = .ok (.if_icmp .ne 14, 3) := by decide +kernel
theorem d_Mod_hasElse_47 : decode b_Mod_hasElse 47 = .ok (.aload_n 0, 1) := by decide +kernel
theorem d_Mod_hasElse_48 : decode b_Mod_hasElse 48 = .ok (.iload_n 2, 1) := by decide +kernel
theorem d_Mod_hasElse_49 : decode b_Mod_hasElse 49 = .ok (.invokevirtual 107, 3) := by decide +kernel
theorem d_Mod_hasElse_52 : decode b_Mod_hasElse 52 = .ok (.iload_n 1, 1) := by decide +kernel
theorem d_Mod_hasElse_53 : decode b_Mod_hasElse 53 = .ok (.if_icmp .ne 5, 3) := by decide +kernel
theorem d_Mod_hasElse_56 : decode b_Mod_hasElse 56 = .ok (.iconst 1, 1) := by decide +kernel
theorem d_Mod_hasElse_57 : decode b_Mod_hasElse 57 = .ok (.ireturn, 1) := by decide +kernel
theorem d_Mod_hasElse_58 : decode b_Mod_hasElse 58 = .ok (.iinc 2 (-1), 3) := by decide +kernel
theorem d_Mod_hasElse_61 : decode b_Mod_hasElse 61 = .ok (.goto (-45), 3) := by decide +kernel
theorem d_Mod_hasElse_64 : decode b_Mod_hasElse 64 = .ok (.iconst 0, 1) := by decide +kernel
theorem d_Mod_hasElse_65 : decode b_Mod_hasElse 65 = .ok (.ireturn, 1) := by decide +kernel
set_option maxHeartbeats 4000000 in
set_option maxRecDepth 100000 in
theorem c_Mod_widthOf (l : Launch) (dC : Nat → ClassId) (dI : Nat → Nat → Nat) (cI cZ : ClassId) (a_mod a_mkind a_mwidth a_mreset a_mop a_mka a_mkb a_mkc a_mheld a_msort a_mof a_mfrom a_mbit a_mdone a_mrests a_mxx a_myy a_mdepth a_mone a_mbefore a_mfirst a_mturned : Nat) (tt sz : Nat) (mN : Nat) (mMs : Nat) (mG : Nat) (mCk : Nat) (mFw : Int32) (mRd : Nat) (mWd : Nat → Nat) (o0 : Int32) (x : Int32) (y : Int32) (z : Int32) (b_mN : mN ≤ 14) (b_mMs : mMs ≤ 20) (b_mG : mG ≤ 1280) (b_mRd : mRd ≤ 1) (b_mWd : ∀ j, mWd j < 9) : Met l y_Mod_widthOf w_Mod_widthOf ({ frames := 2, cells := 0, slots := 0, locals := 43 }) (va_Pc [.ref a_mod, .int o0, .int x, .int y, .int z] (PW (dC, dI) classes [(cI, .int), (cZ, .boolean)] tt [(a_mod, .inr (6, [.ref a_mkind, .ref a_mwidth, .ref a_mreset, .ref a_mop, .ref a_mka, .ref a_mkb, .ref a_mkc, .ref a_mheld, .int (nI mN), .ref a_msort, .ref a_mof, .ref a_mfrom, .int (nI mMs), .ref a_mbit, .ref a_mdone, .ref a_mrests, .ref a_mxx, .ref a_myy, .ref a_mdepth, .ref a_mone, .int (nI mG), .int (nI mCk), .int mFw, .int (nI mRd), .ref a_mbefore, .ref a_mfirst, .ref a_mturned])), (a_mwidth, .inl (cI, 14, .inl (nF mWd)))] sz)) (va_Qi (fun (r : Int32) (u : Unit) => (r = nI (nwd mN mWd o0 x y z))) (AT (dC, dI) classes [(cI, .int), (cZ, .boolean)] (va_A [(a_mod, .inr (6, [.ref a_mkind, .ref a_mwidth, .ref a_mreset, .ref a_mop, .ref a_mka, .ref a_mkb, .ref a_mkc, .ref a_mheld, .int (nI mN), .ref a_msort, .ref a_mof, .ref a_mfrom, .int (nI mMs), .ref a_mbit, .ref a_mdone, .ref a_mrests, .ref a_mxx, .ref a_myy, .ref a_mdepth, .ref a_mone, .int (nI mG), .int (nI mCk), .int mFw, .int (nI mRd), .ref a_mbefore, .ref a_mfirst, .ref a_mturned])), (a_mwidth, .inl (cI, 14, .inl (nF mWd)))] sz) (fun (u : Unit) => [(a_mod, .inr (6, [.ref a_mkind, .ref a_mwidth, .ref a_mreset, .ref a_mop, .ref a_mka, .ref a_mkb, .ref a_mkc, .ref a_mheld, .int (nI mN), .ref a_msort, .ref a_mof, .ref a_mfrom, .int (nI mMs), .ref a_mbit, .ref a_mdone, .ref a_mrests, .ref a_mxx, .ref a_myy, .ref a_mdepth, .ref a_mone, .int (nI mG), .int (nI mCk), .int mFw, .int (nI mRd), .ref a_mbefore, .ref a_mfirst, .ref a_mturned])), (a_mwidth, .inl (cI, 14, .inl (nF mWd)))])) (va_A [(a_mod, .inr (6, [.ref a_mkind, .ref a_mwidth, .ref a_mreset, .ref a_mop, .ref a_mka, .ref a_mkb, .ref a_mkc, .ref a_mheld, .int (nI mN), .ref a_msort, .ref a_mof, .ref a_mfrom, .int (nI mMs), .ref a_mbit, .ref a_mdone, .ref a_mrests, .ref a_mxx, .ref a_myy, .ref a_mdepth, .ref a_mone, .int (nI mG), .int (nI mCk), .int mFw, .int (nI mRd), .ref a_mbefore, .ref a_mfirst, .ref a_mturned])), (a_mwidth, .inl (cI, 14, .inl (nF mWd)))] sz)) 0 0 (va_A [(a_mod, .inr (6, [.ref a_mkind, .ref a_mwidth, .ref a_mreset, .ref a_mop, .ref a_mka, .ref a_mkb, .ref a_mkc, .ref a_mheld, .int (nI mN), .ref a_msort, .ref a_mof, .ref a_mfrom, .int (nI mMs), .ref a_mbit, .ref a_mdone, .ref a_mrests, .ref a_mxx, .ref a_myy, .ref a_mdepth, .ref a_mone, .int (nI mG), .int (nI mCk), .int mFw, .int (nI mRd), .ref a_mbefore, .ref a_mfirst, .ref a_mturned])), (a_mwidth, .inl (cI, 14, .inl (nF mWd)))] sz) := by
  refine Met.ofW (cc := b_Mod_widthOf) (maxL := 6) (ret := (some .int)) (by decide) rfl ?_
  intro p e s m args below meth c s₁ B hml hv
  obtain ⟨rfl, hsz, hP, hK, hD0, hE⟩ := hv
  have hx := B.exec
  have hb := B.bytes
  have hr := B.returns
  have hts := atoms_spec (ws := w_Mod_widthOf) B.pre
  have hown : s.vm.findClass R_Mod = some m.cls := findClass_of_methodNamed B.named
  have hlocks := B.notSynchronized
  subst hsz
  have hD := hD0.self (sz := s.heap.size)
  generalize hAe : va_A [(a_mod, .inr (6, [.ref a_mkind, .ref a_mwidth, .ref a_mreset, .ref a_mop, .ref a_mka, .ref a_mkb, .ref a_mkc, .ref a_mheld, .int (nI mN), .ref a_msort, .ref a_mof, .ref a_mfrom, .int (nI mMs), .ref a_mbit, .ref a_mdone, .ref a_mrests, .ref a_mxx, .ref a_myy, .ref a_mdepth, .ref a_mone, .int (nI mG), .int (nI mCk), .int mFw, .int (nI mRd), .ref a_mbefore, .ref a_mfirst, .ref a_mturned])), (a_mwidth, .inl (cI, 14, .inl (nF mWd)))] s.heap.size = A at hD hE ⊢
  have hA : ∀ q : Nat, s.heap.size ≤ q → A q := fun q h => by rw [← hAe]; exact Or.inr h
  have hS : va_S A s.heap s.heap [] := va_S.rf
  have hP : va_P (dC, dI) classes [(a_mod, .inr (6, [.ref a_mkind, .ref a_mwidth, .ref a_mreset, .ref a_mop, .ref a_mka, .ref a_mkb, .ref a_mkc, .ref a_mheld, .int (nI mN), .ref a_msort, .ref a_mof, .ref a_mfrom, .int (nI mMs), .ref a_mbit, .ref a_mdone, .ref a_mrests, .ref a_mxx, .ref a_myy, .ref a_mdepth, .ref a_mone, .int (nI mG), .int (nI mCk), .int mFw, .int (nI mRd), .ref a_mbefore, .ref a_mfirst, .ref a_mturned])), (a_mwidth, .inl (cI, 14, .inl (nF mWd)))] s.heap := hP
  have hl := lv_entry ([.ref a_mod, .int o0, .int x, .int y, .int z]) (n := 6) (Nat.le_of_ble_eq_true rfl)
  rw [lg_entry_eq]
  generalize (lg_sl ([.ref a_mod, .int o0, .int x, .int y, .int z]) ++ List.replicate (6 - (lg_sl ([.ref a_mod, .int o0, .int x, .int y, .int z])).length) Slot.unset).toArray = ls at hl ⊢
  have hl : lv_has ls 6 [(0, .ref a_mod), (1, .int o0), (2, .int x), (3, .int y), (4, .int z)] := hl
  refine lv_iload_n hx hb d_Mod_widthOf_0 rfl (lv_at hl 1 rfl) ?_
  refine lv_bipush (v := nI 11) hx hb d_Mod_widthOf_1 rfl ?_
  refine lv_icmp_ne (tgt := 35) hx hb d_Mod_widthOf_3 (by decide) (fun c3 => ?_) (fun c3 => ?_)
  · skip
    have c3 : ¬ (o0.toInt = ((11 : Nat) : Int)) := fun h => c3 ((ri_eq rfl (nI_toInt (show _ < 2 ^ 31 by omega))).mpr h)
    refine lv_iload_n hx hb d_Mod_widthOf_35 rfl (lv_at hl 1 rfl) ?_
    refine lv_iconst (v := nI 0) hx hb d_Mod_widthOf_36 rfl ?_
    refine lv_bipush (v := nI 10) hx hb d_Mod_widthOf_37 rfl ?_
    refine k_i (wr := [(a_mod, .inr (6, [.ref a_mkind, .ref a_mwidth, .ref a_mreset, .ref a_mop, .ref a_mka, .ref a_mkb, .ref a_mkc, .ref a_mheld, .int (nI mN), .ref a_msort, .ref a_mof, .ref a_mfrom, .int (nI mMs), .ref a_mbit, .ref a_mdone, .ref a_mrests, .ref a_mxx, .ref a_myy, .ref a_mdepth, .ref a_mone, .int (nI mG), .int (nI mCk), .int mFw, .int (nI mRd), .ref a_mbefore, .ref a_mfirst, .ref a_mturned])), (a_mwidth, .inl (cI, 14, .inl (nF mWd)))]) (w2 := fun (u : Unit) => [(a_mod, .inr (6, [.ref a_mkind, .ref a_mwidth, .ref a_mreset, .ref a_mop, .ref a_mka, .ref a_mkb, .ref a_mkc, .ref a_mheld, .int (nI mN), .ref a_msort, .ref a_mof, .ref a_mfrom, .int (nI mMs), .ref a_mbit, .ref a_mdone, .ref a_mrests, .ref a_mxx, .ref a_myy, .ref a_mdepth, .ref a_mone, .int (nI mG), .int (nI mCk), .int mFw, .int (nI mRd), .ref a_mbefore, .ref a_mfirst, .ref a_mturned])), (a_mwidth, .inl (cI, 14, .inl (nF mWd)))]) (va_runS (As := [.int o0, .int (nI 0), .int (nI 10)]) (rest := []) ⟨hx, hb, hml, hown, hts⟩ (c_Mod_inN l dC dI cI cZ  tt s.heap.size  o0 0 10 (by omega) (by omega)) (va_cwS 3 hts (gd_S in_tl (mw 628 rfl rfl) (mw 629 rfl rfl) (mw 47 rfl rfl) (mw 630 rfl rfl)) rfl rfl rfl (by decide +kernel) ⟨Nat.le_of_ble_eq_true rfl, Nat.le_of_ble_eq_true rfl⟩) (k_preS hK hP hD hS hA hE [] (by decide) rfl) rfl rfl hl.1 rfl (lv_room (Nat.le_of_ble_eq_true rfl)) d_Mod_widthOf_39 ⟨Nat.zero_le _, Nat.zero_le _⟩) hP hD hS hA [] [0, 1] [0, 1] rfl rfl (by decide) (by decide) (by decide) (fun _ => rfl) (fun r_1 u H locs hw hP hD hS => ?_)
    obtain rfl : (r_1 = nI (inr o0.toInt ((0 : Nat) : Int) ((10 : Nat) : Int))) := hw
    have hP : va_P (dC, dI) classes [(a_mod, .inr (6, [.ref a_mkind, .ref a_mwidth, .ref a_mreset, .ref a_mop, .ref a_mka, .ref a_mkb, .ref a_mkc, .ref a_mheld, .int (nI mN), .ref a_msort, .ref a_mof, .ref a_mfrom, .int (nI mMs), .ref a_mbit, .ref a_mdone, .ref a_mrests, .ref a_mxx, .ref a_myy, .ref a_mdepth, .ref a_mone, .int (nI mG), .int (nI mCk), .int mFw, .int (nI mRd), .ref a_mbefore, .ref a_mfirst, .ref a_mturned])), (a_mwidth, .inl (cI, 14, .inl (nF mWd)))] H := hP
    have hD : va_D A [(a_mod, .inr (6, [.ref a_mkind, .ref a_mwidth, .ref a_mreset, .ref a_mop, .ref a_mka, .ref a_mkb, .ref a_mkc, .ref a_mheld, .int (nI mN), .ref a_msort, .ref a_mof, .ref a_mfrom, .int (nI mMs), .ref a_mbit, .ref a_mdone, .ref a_mrests, .ref a_mxx, .ref a_myy, .ref a_mdepth, .ref a_mone, .int (nI mG), .int (nI mCk), .int mFw, .int (nI mRd), .ref a_mbefore, .ref a_mfirst, .ref a_mturned])), (a_mwidth, .inl (cI, 14, .inl (nF mWd)))] := hD
    refine lv_if_eq (tgt := 53) hx hb d_Mod_widthOf_42 (by decide) (fun c42 => ?_) (fun c42 => ?_)
    · skip
      have c42 : (inr o0.toInt ((0 : Nat) : Int) ((10 : Nat) : Int)) = 0 := (nI_eq0 (Nat.lt_of_le_of_lt (inr_le _ _ _) (by decide))).mp c42
      have q42 := inr_0 c42
      refine lv_iconst (v := nI 0) hx hb d_Mod_widthOf_53 rfl ?_
      exact W.iret (v := nI 0) hx hb hr (fun t ht hW => ⟨⟨nI 0, (), rfl, (by rw [nwd_0 (by omega)]), by rw [ht]; exact hP, va_K.moved hW.alike hK, hD⟩, hS.F ht⟩) hS.2.2 d_Mod_widthOf_54
    · skip
      have c42 : ¬ ((inr o0.toInt ((0 : Nat) : Int) ((10 : Nat) : Int)) = 0) := fun h => c42 ((nI_eq0 (Nat.lt_of_le_of_lt (inr_le _ _ _) (by decide))).mpr h)
      have q42 := inr_1 c42
      refine lv_aload_n hx hb d_Mod_widthOf_45 rfl (lv_at hl 0 rfl) ?_
      refine lv_iload_n hx hb d_Mod_widthOf_46 rfl (lv_at hl 2 rfl) ?_
      refine k_i (wr := [(a_mwidth, .inl (cI, 14, .inl (nF mWd)))]) (w2 := fun (u : Unit) => [(a_mod, .inr (6, [.ref a_mkind, .ref a_mwidth, .ref a_mreset, .ref a_mop, .ref a_mka, .ref a_mkb, .ref a_mkc, .ref a_mheld, .int (nI mN), .ref a_msort, .ref a_mof, .ref a_mfrom, .int (nI mMs), .ref a_mbit, .ref a_mdone, .ref a_mrests, .ref a_mxx, .ref a_myy, .ref a_mdepth, .ref a_mone, .int (nI mG), .int (nI mCk), .int mFw, .int (nI mRd), .ref a_mbefore, .ref a_mfirst, .ref a_mturned])), (a_mwidth, .inl (cI, 14, .inl (nF mWd)))]) (va_runV (As := [.int x]) (rest := []) ⟨hx, hb, hml, hown, hts⟩ (c_Mod_is l dC dI cI cZ a_mod a_mkind a_mwidth a_mreset a_mop a_mka a_mkb a_mkc a_mheld a_msort a_mof a_mfrom a_mbit a_mdone a_mrests a_mxx a_myy a_mdepth a_mone a_mbefore a_mfirst a_mturned tt H.size mN mMs mG mCk mFw mRd x (by omega) (by omega) (by omega) (by omega)) (cwV 1 hts (gd_V in_tl (mw 643 rfl rfl) (mw 645 rfl rfl) (mw 21 rfl rfl) (mw 47 rfl rfl) (mw 646 rfl rfl)) rfl rfl rfl (by decide +kernel) ⟨Nat.le_of_ble_eq_true rfl, Nat.le_of_ble_eq_true rfl⟩) (k_preV hK hP hD hS hA hE [0] (by decide) rfl 6 0 rfl rfl) rfl rfl hl.1 rfl (lv_room (Nat.le_of_ble_eq_true rfl)) d_Mod_widthOf_47 ⟨Nat.zero_le _, Nat.zero_le _⟩) hP hD hS hA [0] [1] [1, 0] rfl rfl (by decide) (by decide) (by decide) (fun _ => rfl) (fun r_2 u H locs hw hP hD hS => ?_)
      obtain rfl : (r_2 = nI (hs mN x)) := hw
      have hP : va_P (dC, dI) classes [(a_mod, .inr (6, [.ref a_mkind, .ref a_mwidth, .ref a_mreset, .ref a_mop, .ref a_mka, .ref a_mkb, .ref a_mkc, .ref a_mheld, .int (nI mN), .ref a_msort, .ref a_mof, .ref a_mfrom, .int (nI mMs), .ref a_mbit, .ref a_mdone, .ref a_mrests, .ref a_mxx, .ref a_myy, .ref a_mdepth, .ref a_mone, .int (nI mG), .int (nI mCk), .int mFw, .int (nI mRd), .ref a_mbefore, .ref a_mfirst, .ref a_mturned])), (a_mwidth, .inl (cI, 14, .inl (nF mWd)))] H := hP
      have hD : va_D A [(a_mod, .inr (6, [.ref a_mkind, .ref a_mwidth, .ref a_mreset, .ref a_mop, .ref a_mka, .ref a_mkb, .ref a_mkc, .ref a_mheld, .int (nI mN), .ref a_msort, .ref a_mof, .ref a_mfrom, .int (nI mMs), .ref a_mbit, .ref a_mdone, .ref a_mrests, .ref a_mxx, .ref a_myy, .ref a_mdepth, .ref a_mone, .int (nI mG), .int (nI mCk), .int mFw, .int (nI mRd), .ref a_mbefore, .ref a_mfirst, .ref a_mturned])), (a_mwidth, .inl (cI, 14, .inl (nF mWd)))] := hD
      refine lv_if_ne (tgt := 55) hx hb d_Mod_widthOf_50 (by decide) (fun c50 => ?_) (fun c50 => ?_)
      · skip
        have c50 : ¬ ((hs mN x) = 0) := fun h => c50 ((nI_eq0 (by have := hs_le mN x; omega)).mpr h)
        have hs1 : hs mN x = 1 := by have := hs_le mN x; omega
        obtain ⟨X, eX, hXn, hXb⟩ := hs_of (n := mN) (x := x) (by rw [hs1]; decide)
        rw [eX] at hl
        refine lv_iload_n hx hb d_Mod_widthOf_55 rfl (lv_at hl 1 rfl) ?_
        refine lv_if_ne (tgt := 66) hx hb d_Mod_widthOf_56 (by decide) (fun c56 => ?_) (fun c56 => ?_)
        · skip
          have c56 : ¬ (o0.toInt = 0) := fun h => c56 ((ri_eq rfl rfl).mpr h)
          refine lv_iload_n hx hb d_Mod_widthOf_66 rfl (lv_at hl 1 rfl) ?_
          refine lv_bipush (v := nI 9) hx hb d_Mod_widthOf_67 rfl ?_
          refine lv_icmp_ne (tgt := 113) hx hb d_Mod_widthOf_69 (by decide) (fun c69 => ?_) (fun c69 => ?_)
          · skip
            have c69 : ¬ (o0.toInt = ((9 : Nat) : Int)) := fun h => c69 ((ri_eq rfl (nI_toInt (show _ < 2 ^ 31 by omega))).mpr h)
            refine lv_aload_n hx hb d_Mod_widthOf_113 rfl (lv_at hl 0 rfl) ?_
            refine lv_iload_n hx hb d_Mod_widthOf_114 rfl (lv_at hl 3 rfl) ?_
            refine k_i (wr := [(a_mwidth, .inl (cI, 14, .inl (nF mWd)))]) (w2 := fun (u : Unit) => [(a_mod, .inr (6, [.ref a_mkind, .ref a_mwidth, .ref a_mreset, .ref a_mop, .ref a_mka, .ref a_mkb, .ref a_mkc, .ref a_mheld, .int (nI mN), .ref a_msort, .ref a_mof, .ref a_mfrom, .int (nI mMs), .ref a_mbit, .ref a_mdone, .ref a_mrests, .ref a_mxx, .ref a_myy, .ref a_mdepth, .ref a_mone, .int (nI mG), .int (nI mCk), .int mFw, .int (nI mRd), .ref a_mbefore, .ref a_mfirst, .ref a_mturned])), (a_mwidth, .inl (cI, 14, .inl (nF mWd)))]) (va_runV (As := [.int y]) (rest := []) ⟨hx, hb, hml, hown, hts⟩ (c_Mod_is l dC dI cI cZ a_mod a_mkind a_mwidth a_mreset a_mop a_mka a_mkb a_mkc a_mheld a_msort a_mof a_mfrom a_mbit a_mdone a_mrests a_mxx a_myy a_mdepth a_mone a_mbefore a_mfirst a_mturned tt H.size mN mMs mG mCk mFw mRd y (by omega) (by omega) (by omega) (by omega)) (cwV 1 hts (gd_V in_tl (mw 643 rfl rfl) (mw 645 rfl rfl) (mw 21 rfl rfl) (mw 47 rfl rfl) (mw 646 rfl rfl)) rfl rfl rfl (by decide +kernel) ⟨Nat.le_of_ble_eq_true rfl, Nat.le_of_ble_eq_true rfl⟩) (k_preV hK hP hD hS hA hE [0] (by decide) rfl 6 0 rfl rfl) rfl rfl hl.1 rfl (lv_room (Nat.le_of_ble_eq_true rfl)) d_Mod_widthOf_115 ⟨Nat.zero_le _, Nat.zero_le _⟩) hP hD hS hA [0] [1] [1, 0] rfl rfl (by decide) (by decide) (by decide) (fun _ => rfl) (fun r_3 u H locs hw hP hD hS => ?_)
            obtain rfl : (r_3 = nI (hs mN y)) := hw
            have hP : va_P (dC, dI) classes [(a_mod, .inr (6, [.ref a_mkind, .ref a_mwidth, .ref a_mreset, .ref a_mop, .ref a_mka, .ref a_mkb, .ref a_mkc, .ref a_mheld, .int (nI mN), .ref a_msort, .ref a_mof, .ref a_mfrom, .int (nI mMs), .ref a_mbit, .ref a_mdone, .ref a_mrests, .ref a_mxx, .ref a_myy, .ref a_mdepth, .ref a_mone, .int (nI mG), .int (nI mCk), .int mFw, .int (nI mRd), .ref a_mbefore, .ref a_mfirst, .ref a_mturned])), (a_mwidth, .inl (cI, 14, .inl (nF mWd)))] H := hP
            have hD : va_D A [(a_mod, .inr (6, [.ref a_mkind, .ref a_mwidth, .ref a_mreset, .ref a_mop, .ref a_mka, .ref a_mkb, .ref a_mkc, .ref a_mheld, .int (nI mN), .ref a_msort, .ref a_mof, .ref a_mfrom, .int (nI mMs), .ref a_mbit, .ref a_mdone, .ref a_mrests, .ref a_mxx, .ref a_myy, .ref a_mdepth, .ref a_mone, .int (nI mG), .int (nI mCk), .int mFw, .int (nI mRd), .ref a_mbefore, .ref a_mfirst, .ref a_mturned])), (a_mwidth, .inl (cI, 14, .inl (nF mWd)))] := hD
            refine lv_if_ne (tgt := 123) hx hb d_Mod_widthOf_118 (by decide) (fun c118 => ?_) (fun c118 => ?_)
            · skip
              have c118 : ¬ ((hs mN y) = 0) := fun h => c118 ((nI_eq0 (by have := hs_le mN y; omega)).mpr h)
              have hs2 : hs mN y = 1 := by have := hs_le mN y; omega
              obtain ⟨Y, eY, hYn, hYb⟩ := hs_of (n := mN) (x := y) (by rw [hs2]; decide)
              rw [eY] at hl
              refine lv_iload_n hx hb d_Mod_widthOf_123 rfl (lv_at hl 1 rfl) ?_
              refine lv_bipush (v := nI 10) hx hb d_Mod_widthOf_124 rfl ?_
              refine lv_icmp_ne (tgt := 169) hx hb d_Mod_widthOf_126 (by decide) (fun c126 => ?_) (fun c126 => ?_)
              · skip
                have c126 : ¬ (o0.toInt = ((10 : Nat) : Int)) := fun h => c126 ((ri_eq rfl (nI_toInt (show _ < 2 ^ 31 by omega))).mpr h)
                refine lv_aload_n hx hb d_Mod_widthOf_169 rfl (lv_at hl 0 rfl) ?_
                refine va_get (D := (dC, dI)) (ci := 6) (v := .ref a_mwidth) (C := R_Mod) (T := F_Mod) (N := 27) hx hb hts (wi i_Mod) hown hK hP 0 rfl rfl 1 (by decide) (hts _ (mt 543 rfl rfl)) (fun _ h9 => h9) rfl d_Mod_widthOf_170 ?_
                refine lv_iload_n hx hb d_Mod_widthOf_173 rfl (lv_at hl 2 rfl) ?_
                refine k_ild hx hb hK hP 1 0 rfl rfl (by omega) (by decide) d_Mod_widthOf_174 ?_
                have hb_4 := b_mWd X
                refine lv_aload_n hx hb d_Mod_widthOf_175 rfl (lv_at hl 0 rfl) ?_
                refine va_get (D := (dC, dI)) (ci := 6) (v := .ref a_mwidth) (C := R_Mod) (T := F_Mod) (N := 27) hx hb hts (wi i_Mod) hown hK hP 0 rfl rfl 1 (by decide) (hts _ (mt 543 rfl rfl)) (fun _ h9 => h9) rfl d_Mod_widthOf_176 ?_
                refine lv_iload_n hx hb d_Mod_widthOf_179 rfl (lv_at hl 3 rfl) ?_
                refine k_ild hx hb hK hP 1 0 rfl rfl (by omega) (by decide) d_Mod_widthOf_180 ?_
                have hb_5 := b_mWd Y
                refine k_i (wr := [(a_mod, .inr (6, [.ref a_mkind, .ref a_mwidth, .ref a_mreset, .ref a_mop, .ref a_mka, .ref a_mkb, .ref a_mkc, .ref a_mheld, .int (nI mN), .ref a_msort, .ref a_mof, .ref a_mfrom, .int (nI mMs), .ref a_mbit, .ref a_mdone, .ref a_mrests, .ref a_mxx, .ref a_myy, .ref a_mdepth, .ref a_mone, .int (nI mG), .int (nI mCk), .int mFw, .int (nI mRd), .ref a_mbefore, .ref a_mfirst, .ref a_mturned])), (a_mwidth, .inl (cI, 14, .inl (nF mWd)))]) (w2 := fun (u : Unit) => [(a_mod, .inr (6, [.ref a_mkind, .ref a_mwidth, .ref a_mreset, .ref a_mop, .ref a_mka, .ref a_mkb, .ref a_mkc, .ref a_mheld, .int (nI mN), .ref a_msort, .ref a_mof, .ref a_mfrom, .int (nI mMs), .ref a_mbit, .ref a_mdone, .ref a_mrests, .ref a_mxx, .ref a_myy, .ref a_mdepth, .ref a_mone, .int (nI mG), .int (nI mCk), .int mFw, .int (nI mRd), .ref a_mbefore, .ref a_mfirst, .ref a_mturned])), (a_mwidth, .inl (cI, 14, .inl (nF mWd)))]) (va_runS (As := [.int (nI (mWd X)), .int (nI (mWd Y))]) (rest := []) ⟨hx, hb, hml, hown, hts⟩ (c_Mod_more l dC dI cI cZ  tt H.size  (mWd X) (mWd Y) (by omega) (by omega)) (va_cwS 2 hts (gd_S in_tl (mw 647 rfl rfl) (mw 648 rfl rfl) (mw 47 rfl rfl) (mw 649 rfl rfl)) rfl rfl rfl (by decide +kernel) ⟨Nat.le_of_ble_eq_true rfl, Nat.le_of_ble_eq_true rfl⟩) (k_preS hK hP hD hS hA hE [] (by decide) rfl) rfl rfl hl.1 rfl (lv_room (Nat.le_of_ble_eq_true rfl)) d_Mod_widthOf_181 ⟨Nat.zero_le _, Nat.zero_le _⟩) hP hD hS hA [] [0, 1] [0, 1] rfl rfl (by decide) (by decide) (by decide) (fun _ => rfl) (fun r_6 u H locs hw hP hD hS => ?_)
                obtain rfl : (r_6 = nI (max (mWd X) (mWd Y))) := hw
                have hP : va_P (dC, dI) classes [(a_mod, .inr (6, [.ref a_mkind, .ref a_mwidth, .ref a_mreset, .ref a_mop, .ref a_mka, .ref a_mkb, .ref a_mkc, .ref a_mheld, .int (nI mN), .ref a_msort, .ref a_mof, .ref a_mfrom, .int (nI mMs), .ref a_mbit, .ref a_mdone, .ref a_mrests, .ref a_mxx, .ref a_myy, .ref a_mdepth, .ref a_mone, .int (nI mG), .int (nI mCk), .int mFw, .int (nI mRd), .ref a_mbefore, .ref a_mfirst, .ref a_mturned])), (a_mwidth, .inl (cI, 14, .inl (nF mWd)))] H := hP
                have hD : va_D A [(a_mod, .inr (6, [.ref a_mkind, .ref a_mwidth, .ref a_mreset, .ref a_mop, .ref a_mka, .ref a_mkb, .ref a_mkc, .ref a_mheld, .int (nI mN), .ref a_msort, .ref a_mof, .ref a_mfrom, .int (nI mMs), .ref a_mbit, .ref a_mdone, .ref a_mrests, .ref a_mxx, .ref a_myy, .ref a_mdepth, .ref a_mone, .int (nI mG), .int (nI mCk), .int mFw, .int (nI mRd), .ref a_mbefore, .ref a_mfirst, .ref a_mturned])), (a_mwidth, .inl (cI, 14, .inl (nF mWd)))] := hD
                refine lv_istore (lv' := [(5, .int (nI (max (mWd X) (mWd Y)))), (0, .ref a_mod), (1, .int o0), (2, .int (nI X)), (3, .int (nI Y)), (4, .int z)]) hx hb d_Mod_widthOf_184 hl (by decide) rfl (fun ls hl => ?_)
                refine lv_iload_n hx hb d_Mod_widthOf_186 rfl (lv_at hl 2 rfl) ?_
                refine lv_bipush (v := nI 6) hx hb d_Mod_widthOf_187 rfl ?_
                refine lv_icmp_eq (tgt := 198) hx hb d_Mod_widthOf_189 (by decide) (fun c189 => ?_) (fun c189 => ?_)
                · skip
                  have c189 : o0.toInt = ((6 : Nat) : Int) := (ri_eq rfl (nI_toInt (show _ < 2 ^ 31 by omega))).mp c189
                  refine lv_iconst (v := nI 1) hx hb d_Mod_widthOf_198 rfl ?_
                  refine lv_goto (tgt := 238) hx hb d_Mod_widthOf_199 (by decide) ?_
                  exact W.iret (v := nI 1) hx hb hr (fun t ht hW => ⟨⟨nI 1, (), rfl, (by rw [nwd_k 6 c189 (by decide) (Or.inr hs1) (Or.inr hs2) (Or.inl (by decide))]; rfl), by rw [ht]; exact hP, va_K.moved hW.alike hK, hD⟩, hS.F ht⟩) hS.2.2 d_Mod_widthOf_238
                · skip
                  have c189 : ¬ (o0.toInt = ((6 : Nat) : Int)) := fun h => c189 ((ri_eq rfl (nI_toInt (show _ < 2 ^ 31 by omega))).mpr h)
                  refine lv_iload_n hx hb d_Mod_widthOf_192 rfl (lv_at hl 2 rfl) ?_
                  refine lv_bipush (v := nI 7) hx hb d_Mod_widthOf_193 rfl ?_
                  refine lv_icmp_ne (tgt := 202) hx hb d_Mod_widthOf_195 (by decide) (fun c195 => ?_) (fun c195 => ?_)
                  · skip
                    have c195 : ¬ (o0.toInt = ((7 : Nat) : Int)) := fun h => c195 ((ri_eq rfl (nI_toInt (show _ < 2 ^ 31 by omega))).mpr h)
                    refine lv_iload_n hx hb d_Mod_widthOf_202 rfl (lv_at hl 2 rfl) ?_
                    refine lv_iconst (v := nI 4) hx hb d_Mod_widthOf_203 rfl ?_
                    refine lv_icmp_ne (tgt := 214) hx hb d_Mod_widthOf_204 (by decide) (fun c204 => ?_) (fun c204 => ?_)
                    · skip
                      have c204 : ¬ (o0.toInt = ((4 : Nat) : Int)) := fun h => c204 ((ri_eq rfl (nI_toInt (show _ < 2 ^ 31 by omega))).mpr h)
                      refine lv_iload_n hx hb d_Mod_widthOf_214 rfl (lv_at hl 2 rfl) ?_
                      refine lv_bipush (v := nI 8) hx hb d_Mod_widthOf_215 rfl ?_
                      refine lv_icmp_ne (tgt := 236) hx hb d_Mod_widthOf_217 (by decide) (fun c217 => ?_) (fun c217 => ?_)
                      · skip
                        have c217 : ¬ (o0.toInt = ((8 : Nat) : Int)) := fun h => c217 ((ri_eq rfl (nI_toInt (show _ < 2 ^ 31 by omega))).mpr h)
                        refine lv_iload hx hb d_Mod_widthOf_236 (lv_at hl 0 rfl) ?_
                        exact W.iret (v := nI (max (mWd X) (mWd Y))) hx hb hr (fun t ht hW => ⟨⟨nI (max (mWd X) (mWd Y)), (), rfl, (by rcases (show o0.toInt = 1 ∨ o0.toInt = 2 ∨ o0.toInt = 3 ∨ o0.toInt = 5 by omega) with e | e | e | e <;> first | (rw [nwd_k 1 e (by decide) (Or.inr hs1) (Or.inr hs2) (Or.inl (by decide))]; show _ = nI (max (mWd (ix x)) (mWd (ix y))); rw [ix_of eX hXb, ix_of eY hYb]) | (rw [nwd_k 2 e (by decide) (Or.inr hs1) (Or.inr hs2) (Or.inl (by decide))]; show _ = nI (max (mWd (ix x)) (mWd (ix y))); rw [ix_of eX hXb, ix_of eY hYb]) | (rw [nwd_k 3 e (by decide) (Or.inr hs1) (Or.inr hs2) (Or.inl (by decide))]; show _ = nI (max (mWd (ix x)) (mWd (ix y))); rw [ix_of eX hXb, ix_of eY hYb]) | (rw [nwd_k 5 e (by decide) (Or.inr hs1) (Or.inr hs2) (Or.inl (by decide))]; show _ = nI (max (mWd (ix x)) (mWd (ix y))); rw [ix_of eX hXb, ix_of eY hYb])), by rw [ht]; exact hP, va_K.moved hW.alike hK, hD⟩, hS.F ht⟩) hS.2.2 d_Mod_widthOf_238
                      · skip
                        have c217 : o0.toInt = ((8 : Nat) : Int) := (ri_eq rfl (nI_toInt (show _ < 2 ^ 31 by omega))).mp c217
                        refine lv_aload_n hx hb d_Mod_widthOf_220 rfl (lv_at hl 1 rfl) ?_
                        refine va_get (D := (dC, dI)) (ci := 6) (v := .ref a_mwidth) (C := R_Mod) (T := F_Mod) (N := 27) hx hb hts (wi i_Mod) hown hK hP 0 rfl rfl 1 (by decide) (hts _ (mt 543 rfl rfl)) (fun _ h9 => h9) rfl d_Mod_widthOf_221 ?_
                        refine lv_iload_n hx hb d_Mod_widthOf_224 rfl (lv_at hl 3 rfl) ?_
                        refine k_ild hx hb hK hP 1 0 rfl rfl (by omega) (by decide) d_Mod_widthOf_225 ?_
                        have hb_7 := b_mWd X
                        refine lv_aload_n hx hb d_Mod_widthOf_226 rfl (lv_at hl 1 rfl) ?_
                        refine va_get (D := (dC, dI)) (ci := 6) (v := .ref a_mwidth) (C := R_Mod) (T := F_Mod) (N := 27) hx hb hts (wi i_Mod) hown hK hP 0 rfl rfl 1 (by decide) (hts _ (mt 543 rfl rfl)) (fun _ h9 => h9) rfl d_Mod_widthOf_227 ?_
                        refine lv_iload_n hx hb d_Mod_widthOf_230 rfl (lv_at hl 4 rfl) ?_
                        refine k_ild hx hb hK hP 1 0 rfl rfl (by omega) (by decide) d_Mod_widthOf_231 ?_
                        have hb_8 := b_mWd Y
                        refine lv_iadd hx hb d_Mod_widthOf_232 ?_
                        refine k_top (nI_add _ _) ?_
                        refine lv_goto (tgt := 238) hx hb d_Mod_widthOf_233 (by decide) ?_
                        exact W.iret (v := nI ((mWd X) + (mWd Y))) hx hb hr (fun t ht hW => ⟨⟨nI ((mWd X) + (mWd Y)), (), rfl, (by rw [nwd_k 8 c217 (by decide) (Or.inr hs1) (Or.inr hs2) (Or.inl (by decide))]; show _ = nI (mWd (ix x) + mWd (ix y)); rw [ix_of eX hXb, ix_of eY hYb]), by rw [ht]; exact hP, va_K.moved hW.alike hK, hD⟩, hS.F ht⟩) hS.2.2 d_Mod_widthOf_238
                    · skip
                      have c204 : o0.toInt = ((4 : Nat) : Int) := (ri_eq rfl (nI_toInt (show _ < 2 ^ 31 by omega))).mp c204
                      refine lv_iload hx hb d_Mod_widthOf_207 (lv_at hl 0 rfl) ?_
                      refine lv_iconst (v := nI 1) hx hb d_Mod_widthOf_209 rfl ?_
                      refine lv_iadd hx hb d_Mod_widthOf_210 ?_
                      refine k_top (nI_add _ _) ?_
                      refine lv_goto (tgt := 238) hx hb d_Mod_widthOf_211 (by decide) ?_
                      exact W.iret (v := nI ((max (mWd X) (mWd Y)) + 1)) hx hb hr (fun t ht hW => ⟨⟨nI ((max (mWd X) (mWd Y)) + 1), (), rfl, (by rw [nwd_k 4 c204 (by decide) (Or.inr hs1) (Or.inr hs2) (Or.inl (by decide))]; show _ = nI (max (mWd (ix x)) (mWd (ix y)) + 1); rw [ix_of eX hXb, ix_of eY hYb]), by rw [ht]; exact hP, va_K.moved hW.alike hK, hD⟩, hS.F ht⟩) hS.2.2 d_Mod_widthOf_238
                  · skip
                    have c195 : o0.toInt = ((7 : Nat) : Int) := (ri_eq rfl (nI_toInt (show _ < 2 ^ 31 by omega))).mp c195
                    refine lv_iconst (v := nI 1) hx hb d_Mod_widthOf_198 rfl ?_
                    refine lv_goto (tgt := 238) hx hb d_Mod_widthOf_199 (by decide) ?_
                    exact W.iret (v := nI 1) hx hb hr (fun t ht hW => ⟨⟨nI 1, (), rfl, (by rw [nwd_k 7 c195 (by decide) (Or.inr hs1) (Or.inr hs2) (Or.inl (by decide))]; rfl), by rw [ht]; exact hP, va_K.moved hW.alike hK, hD⟩, hS.F ht⟩) hS.2.2 d_Mod_widthOf_238
              · skip
                have c126 : o0.toInt = ((10 : Nat) : Int) := (ri_eq rfl (nI_toInt (show _ < 2 ^ 31 by omega))).mp c126
                refine lv_aload_n hx hb d_Mod_widthOf_129 rfl (lv_at hl 0 rfl) ?_
                refine lv_iload hx hb d_Mod_widthOf_130 (lv_at hl 4 rfl) ?_
                refine k_i (wr := [(a_mwidth, .inl (cI, 14, .inl (nF mWd)))]) (w2 := fun (u : Unit) => [(a_mod, .inr (6, [.ref a_mkind, .ref a_mwidth, .ref a_mreset, .ref a_mop, .ref a_mka, .ref a_mkb, .ref a_mkc, .ref a_mheld, .int (nI mN), .ref a_msort, .ref a_mof, .ref a_mfrom, .int (nI mMs), .ref a_mbit, .ref a_mdone, .ref a_mrests, .ref a_mxx, .ref a_myy, .ref a_mdepth, .ref a_mone, .int (nI mG), .int (nI mCk), .int mFw, .int (nI mRd), .ref a_mbefore, .ref a_mfirst, .ref a_mturned])), (a_mwidth, .inl (cI, 14, .inl (nF mWd)))]) (va_runV (As := [.int z]) (rest := []) ⟨hx, hb, hml, hown, hts⟩ (c_Mod_is l dC dI cI cZ a_mod a_mkind a_mwidth a_mreset a_mop a_mka a_mkb a_mkc a_mheld a_msort a_mof a_mfrom a_mbit a_mdone a_mrests a_mxx a_myy a_mdepth a_mone a_mbefore a_mfirst a_mturned tt H.size mN mMs mG mCk mFw mRd z (by omega) (by omega) (by omega) (by omega)) (cwV 1 hts (gd_V in_tl (mw 643 rfl rfl) (mw 645 rfl rfl) (mw 21 rfl rfl) (mw 47 rfl rfl) (mw 646 rfl rfl)) rfl rfl rfl (by decide +kernel) ⟨Nat.le_of_ble_eq_true rfl, Nat.le_of_ble_eq_true rfl⟩) (k_preV hK hP hD hS hA hE [0] (by decide) rfl 6 0 rfl rfl) rfl rfl hl.1 rfl (lv_room (Nat.le_of_ble_eq_true rfl)) d_Mod_widthOf_132 ⟨Nat.zero_le _, Nat.zero_le _⟩) hP hD hS hA [0] [1] [1, 0] rfl rfl (by decide) (by decide) (by decide) (fun _ => rfl) (fun r_9 u H locs hw hP hD hS => ?_)
                obtain rfl : (r_9 = nI (hs mN z)) := hw
                have hP : va_P (dC, dI) classes [(a_mod, .inr (6, [.ref a_mkind, .ref a_mwidth, .ref a_mreset, .ref a_mop, .ref a_mka, .ref a_mkb, .ref a_mkc, .ref a_mheld, .int (nI mN), .ref a_msort, .ref a_mof, .ref a_mfrom, .int (nI mMs), .ref a_mbit, .ref a_mdone, .ref a_mrests, .ref a_mxx, .ref a_myy, .ref a_mdepth, .ref a_mone, .int (nI mG), .int (nI mCk), .int mFw, .int (nI mRd), .ref a_mbefore, .ref a_mfirst, .ref a_mturned])), (a_mwidth, .inl (cI, 14, .inl (nF mWd)))] H := hP
                have hD : va_D A [(a_mod, .inr (6, [.ref a_mkind, .ref a_mwidth, .ref a_mreset, .ref a_mop, .ref a_mka, .ref a_mkb, .ref a_mkc, .ref a_mheld, .int (nI mN), .ref a_msort, .ref a_mof, .ref a_mfrom, .int (nI mMs), .ref a_mbit, .ref a_mdone, .ref a_mrests, .ref a_mxx, .ref a_myy, .ref a_mdepth, .ref a_mone, .int (nI mG), .int (nI mCk), .int mFw, .int (nI mRd), .ref a_mbefore, .ref a_mfirst, .ref a_mturned])), (a_mwidth, .inl (cI, 14, .inl (nF mWd)))] := hD
                refine lv_if_eq (tgt := 167) hx hb d_Mod_widthOf_135 (by decide) (fun c135 => ?_) (fun c135 => ?_)
                · skip
                  have c135 : (hs mN z) = 0 := (nI_eq0 (by have := hs_le mN z; omega)).mp c135
                  refine lv_iconst (v := nI 0) hx hb d_Mod_widthOf_167 rfl ?_
                  exact W.iret (v := nI 0) hx hb hr (fun t ht hW => ⟨⟨nI 0, (), rfl, (by rw [nwd_kn 10 c126 (fun q => by have h3 : tab 10 = 3 := rfl; omega)]), by rw [ht]; exact hP, va_K.moved hW.alike hK, hD⟩, hS.F ht⟩) hS.2.2 d_Mod_widthOf_168
                · skip
                  have c135 : ¬ ((hs mN z) = 0) := fun h => c135 ((nI_eq0 (by have := hs_le mN z; omega)).mpr h)
                  have hs3 : hs mN z = 1 := by have := hs_le mN z; omega
                  obtain ⟨Z, eZ, hZn, hZb⟩ := hs_of (n := mN) (x := z) (by rw [hs3]; decide)
                  rw [eZ] at hl
                  refine lv_aload_n hx hb d_Mod_widthOf_138 rfl (lv_at hl 0 rfl) ?_
                  refine va_get (D := (dC, dI)) (ci := 6) (v := .ref a_mwidth) (C := R_Mod) (T := F_Mod) (N := 27) hx hb hts (wi i_Mod) hown hK hP 0 rfl rfl 1 (by decide) (hts _ (mt 543 rfl rfl)) (fun _ h9 => h9) rfl d_Mod_widthOf_139 ?_
                  refine lv_iload_n hx hb d_Mod_widthOf_142 rfl (lv_at hl 2 rfl) ?_
                  refine k_ild hx hb hK hP 1 0 rfl rfl (by omega) (by decide) d_Mod_widthOf_143 ?_
                  have hb_10 := b_mWd X
                  refine lv_iconst (v := nI 1) hx hb d_Mod_widthOf_144 rfl ?_
                  refine lv_icmp_ne (tgt := 167) hx hb d_Mod_widthOf_145 (by decide) (fun c145 => ?_) (fun c145 => ?_)
                  · skip
                    have c145 : ¬ ((mWd X) = 1) := fun h => c145 ((nI_eq (by omega) (by omega)).mpr h)
                    refine lv_iconst (v := nI 0) hx hb d_Mod_widthOf_167 rfl ?_
                    exact W.iret (v := nI 0) hx hb hr (fun t ht hW => ⟨⟨nI 0, (), rfl, (by rw [nwd_k 10 c126 (by decide) (Or.inr hs1) (Or.inr hs2) (Or.inr hs3)]; show _ = nI (if mWd (ix x) = 1 then max (mWd (ix y)) (mWd (ix z)) else 0); rw [ix_of eX hXb, if_neg c145]), by rw [ht]; exact hP, va_K.moved hW.alike hK, hD⟩, hS.F ht⟩) hS.2.2 d_Mod_widthOf_168
                  · skip
                    have c145 : (mWd X) = 1 := (nI_eq (by omega) (by omega)).mp c145
                    refine lv_aload_n hx hb d_Mod_widthOf_148 rfl (lv_at hl 0 rfl) ?_
                    refine va_get (D := (dC, dI)) (ci := 6) (v := .ref a_mwidth) (C := R_Mod) (T := F_Mod) (N := 27) hx hb hts (wi i_Mod) hown hK hP 0 rfl rfl 1 (by decide) (hts _ (mt 543 rfl rfl)) (fun _ h9 => h9) rfl d_Mod_widthOf_149 ?_
                    refine lv_iload_n hx hb d_Mod_widthOf_152 rfl (lv_at hl 3 rfl) ?_
                    refine k_ild hx hb hK hP 1 0 rfl rfl (by omega) (by decide) d_Mod_widthOf_153 ?_
                    have hb_11 := b_mWd Y
                    refine lv_aload_n hx hb d_Mod_widthOf_154 rfl (lv_at hl 0 rfl) ?_
                    refine va_get (D := (dC, dI)) (ci := 6) (v := .ref a_mwidth) (C := R_Mod) (T := F_Mod) (N := 27) hx hb hts (wi i_Mod) hown hK hP 0 rfl rfl 1 (by decide) (hts _ (mt 543 rfl rfl)) (fun _ h9 => h9) rfl d_Mod_widthOf_155 ?_
                    refine lv_iload hx hb d_Mod_widthOf_158 (lv_at hl 4 rfl) ?_
                    refine k_ild hx hb hK hP 1 0 rfl rfl (by omega) (by decide) d_Mod_widthOf_160 ?_
                    have hb_12 := b_mWd Z
                    refine k_i (wr := [(a_mod, .inr (6, [.ref a_mkind, .ref a_mwidth, .ref a_mreset, .ref a_mop, .ref a_mka, .ref a_mkb, .ref a_mkc, .ref a_mheld, .int (nI mN), .ref a_msort, .ref a_mof, .ref a_mfrom, .int (nI mMs), .ref a_mbit, .ref a_mdone, .ref a_mrests, .ref a_mxx, .ref a_myy, .ref a_mdepth, .ref a_mone, .int (nI mG), .int (nI mCk), .int mFw, .int (nI mRd), .ref a_mbefore, .ref a_mfirst, .ref a_mturned])), (a_mwidth, .inl (cI, 14, .inl (nF mWd)))]) (w2 := fun (u : Unit) => [(a_mod, .inr (6, [.ref a_mkind, .ref a_mwidth, .ref a_mreset, .ref a_mop, .ref a_mka, .ref a_mkb, .ref a_mkc, .ref a_mheld, .int (nI mN), .ref a_msort, .ref a_mof, .ref a_mfrom, .int (nI mMs), .ref a_mbit, .ref a_mdone, .ref a_mrests, .ref a_mxx, .ref a_myy, .ref a_mdepth, .ref a_mone, .int (nI mG), .int (nI mCk), .int mFw, .int (nI mRd), .ref a_mbefore, .ref a_mfirst, .ref a_mturned])), (a_mwidth, .inl (cI, 14, .inl (nF mWd)))]) (va_runS (As := [.int (nI (mWd Y)), .int (nI (mWd Z))]) (rest := []) ⟨hx, hb, hml, hown, hts⟩ (c_Mod_more l dC dI cI cZ  tt H.size  (mWd Y) (mWd Z) (by omega) (by omega)) (va_cwS 2 hts (gd_S in_tl (mw 647 rfl rfl) (mw 648 rfl rfl) (mw 47 rfl rfl) (mw 649 rfl rfl)) rfl rfl rfl (by decide +kernel) ⟨Nat.le_of_ble_eq_true rfl, Nat.le_of_ble_eq_true rfl⟩) (k_preS hK hP hD hS hA hE [] (by decide) rfl) rfl rfl hl.1 rfl (lv_room (Nat.le_of_ble_eq_true rfl)) d_Mod_widthOf_161 ⟨Nat.zero_le _, Nat.zero_le _⟩) hP hD hS hA [] [0, 1] [0, 1] rfl rfl (by decide) (by decide) (by decide) (fun _ => rfl) (fun r_13 u H locs hw hP hD hS => ?_)
                    obtain rfl : (r_13 = nI (max (mWd Y) (mWd Z))) := hw
                    have hP : va_P (dC, dI) classes [(a_mod, .inr (6, [.ref a_mkind, .ref a_mwidth, .ref a_mreset, .ref a_mop, .ref a_mka, .ref a_mkb, .ref a_mkc, .ref a_mheld, .int (nI mN), .ref a_msort, .ref a_mof, .ref a_mfrom, .int (nI mMs), .ref a_mbit, .ref a_mdone, .ref a_mrests, .ref a_mxx, .ref a_myy, .ref a_mdepth, .ref a_mone, .int (nI mG), .int (nI mCk), .int mFw, .int (nI mRd), .ref a_mbefore, .ref a_mfirst, .ref a_mturned])), (a_mwidth, .inl (cI, 14, .inl (nF mWd)))] H := hP
                    have hD : va_D A [(a_mod, .inr (6, [.ref a_mkind, .ref a_mwidth, .ref a_mreset, .ref a_mop, .ref a_mka, .ref a_mkb, .ref a_mkc, .ref a_mheld, .int (nI mN), .ref a_msort, .ref a_mof, .ref a_mfrom, .int (nI mMs), .ref a_mbit, .ref a_mdone, .ref a_mrests, .ref a_mxx, .ref a_myy, .ref a_mdepth, .ref a_mone, .int (nI mG), .int (nI mCk), .int mFw, .int (nI mRd), .ref a_mbefore, .ref a_mfirst, .ref a_mturned])), (a_mwidth, .inl (cI, 14, .inl (nF mWd)))] := hD
                    refine lv_goto (tgt := 168) hx hb d_Mod_widthOf_164 (by decide) ?_
                    exact W.iret (v := nI (max (mWd Y) (mWd Z))) hx hb hr (fun t ht hW => ⟨⟨nI (max (mWd Y) (mWd Z)), (), rfl, (by rw [nwd_k 10 c126 (by decide) (Or.inr hs1) (Or.inr hs2) (Or.inr hs3)]; show _ = nI (if mWd (ix x) = 1 then max (mWd (ix y)) (mWd (ix z)) else 0); rw [ix_of eX hXb, ix_of eY hYb, ix_of eZ hZb, if_pos c145]), by rw [ht]; exact hP, va_K.moved hW.alike hK, hD⟩, hS.F ht⟩) hS.2.2 d_Mod_widthOf_168
            · skip
              have c118 : (hs mN y) = 0 := (nI_eq0 (by have := hs_le mN y; omega)).mp c118
              refine lv_iconst (v := nI 0) hx hb d_Mod_widthOf_121 rfl ?_
              exact W.iret (v := nI 0) hx hb hr (fun t ht hW => ⟨⟨nI 0, (), rfl, (by rw [nwd_0 (fun q => by have hq := q.2.2.2.1; obtain ⟨O, eO, hO, hOb⟩ := raw_nat (x := o0) (by omega); rw [ix_of eO hOb] at hq; have := tab_2 (o := O) (by omega) (by omega) (by omega); omega)]), by rw [ht]; exact hP, va_K.moved hW.alike hK, hD⟩, hS.F ht⟩) hS.2.2 d_Mod_widthOf_122
          · skip
            have c69 : o0.toInt = ((9 : Nat) : Int) := (ri_eq rfl (nI_toInt (show _ < 2 ^ 31 by omega))).mp c69
            refine lv_iload_n hx hb d_Mod_widthOf_72 rfl (lv_at hl 3 rfl) ?_
            refine lv_iconst (v := nI 0) hx hb d_Mod_widthOf_73 rfl ?_
            refine lv_bipush (v := nI 8) hx hb d_Mod_widthOf_74 rfl ?_
            refine k_i (wr := [(a_mod, .inr (6, [.ref a_mkind, .ref a_mwidth, .ref a_mreset, .ref a_mop, .ref a_mka, .ref a_mkb, .ref a_mkc, .ref a_mheld, .int (nI mN), .ref a_msort, .ref a_mof, .ref a_mfrom, .int (nI mMs), .ref a_mbit, .ref a_mdone, .ref a_mrests, .ref a_mxx, .ref a_myy, .ref a_mdepth, .ref a_mone, .int (nI mG), .int (nI mCk), .int mFw, .int (nI mRd), .ref a_mbefore, .ref a_mfirst, .ref a_mturned])), (a_mwidth, .inl (cI, 14, .inl (nF mWd)))]) (w2 := fun (u : Unit) => [(a_mod, .inr (6, [.ref a_mkind, .ref a_mwidth, .ref a_mreset, .ref a_mop, .ref a_mka, .ref a_mkb, .ref a_mkc, .ref a_mheld, .int (nI mN), .ref a_msort, .ref a_mof, .ref a_mfrom, .int (nI mMs), .ref a_mbit, .ref a_mdone, .ref a_mrests, .ref a_mxx, .ref a_myy, .ref a_mdepth, .ref a_mone, .int (nI mG), .int (nI mCk), .int mFw, .int (nI mRd), .ref a_mbefore, .ref a_mfirst, .ref a_mturned])), (a_mwidth, .inl (cI, 14, .inl (nF mWd)))]) (va_runS (As := [.int y, .int (nI 0), .int (nI 8)]) (rest := []) ⟨hx, hb, hml, hown, hts⟩ (c_Mod_inN l dC dI cI cZ  tt H.size  y 0 8 (by omega) (by omega)) (va_cwS 3 hts (gd_S in_tl (mw 628 rfl rfl) (mw 629 rfl rfl) (mw 47 rfl rfl) (mw 630 rfl rfl)) rfl rfl rfl (by decide +kernel) ⟨Nat.le_of_ble_eq_true rfl, Nat.le_of_ble_eq_true rfl⟩) (k_preS hK hP hD hS hA hE [] (by decide) rfl) rfl rfl hl.1 rfl (lv_room (Nat.le_of_ble_eq_true rfl)) d_Mod_widthOf_76 ⟨Nat.zero_le _, Nat.zero_le _⟩) hP hD hS hA [] [0, 1] [0, 1] rfl rfl (by decide) (by decide) (by decide) (fun _ => rfl) (fun r_14 u H locs hw hP hD hS => ?_)
            obtain rfl : (r_14 = nI (inr y.toInt ((0 : Nat) : Int) ((8 : Nat) : Int))) := hw
            have hP : va_P (dC, dI) classes [(a_mod, .inr (6, [.ref a_mkind, .ref a_mwidth, .ref a_mreset, .ref a_mop, .ref a_mka, .ref a_mkb, .ref a_mkc, .ref a_mheld, .int (nI mN), .ref a_msort, .ref a_mof, .ref a_mfrom, .int (nI mMs), .ref a_mbit, .ref a_mdone, .ref a_mrests, .ref a_mxx, .ref a_myy, .ref a_mdepth, .ref a_mone, .int (nI mG), .int (nI mCk), .int mFw, .int (nI mRd), .ref a_mbefore, .ref a_mfirst, .ref a_mturned])), (a_mwidth, .inl (cI, 14, .inl (nF mWd)))] H := hP
            have hD : va_D A [(a_mod, .inr (6, [.ref a_mkind, .ref a_mwidth, .ref a_mreset, .ref a_mop, .ref a_mka, .ref a_mkb, .ref a_mkc, .ref a_mheld, .int (nI mN), .ref a_msort, .ref a_mof, .ref a_mfrom, .int (nI mMs), .ref a_mbit, .ref a_mdone, .ref a_mrests, .ref a_mxx, .ref a_myy, .ref a_mdepth, .ref a_mone, .int (nI mG), .int (nI mCk), .int mFw, .int (nI mRd), .ref a_mbefore, .ref a_mfirst, .ref a_mturned])), (a_mwidth, .inl (cI, 14, .inl (nF mWd)))] := hD
            refine lv_if_eq (tgt := 111) hx hb d_Mod_widthOf_79 (by decide) (fun c79 => ?_) (fun c79 => ?_)
            · skip
              have c79 : (inr y.toInt ((0 : Nat) : Int) ((8 : Nat) : Int)) = 0 := (nI_eq0 (Nat.lt_of_le_of_lt (inr_le _ _ _) (by decide))).mp c79
              have q79 := inr_0 c79
              refine lv_iconst (v := nI 0) hx hb d_Mod_widthOf_111 rfl ?_
              exact W.iret (v := nI 0) hx hb hr (fun t ht hW => ⟨⟨nI 0, (), rfl, (by rw [nwd_k 9 c69 (by decide) (Or.inr hs1) (Or.inl (by decide)) (Or.inl (by decide))]; show _ = nI (if 0 ≤ y.toInt ∧ 1 ≤ z.toInt ∧ y.toInt ≤ 8 ∧ z.toInt ≤ 8 ∧ y.toInt + z.toInt ≤ mWd (ix x) then ix z else 0); rw [if_neg (by omega)]), by rw [ht]; exact hP, va_K.moved hW.alike hK, hD⟩, hS.F ht⟩) hS.2.2 d_Mod_widthOf_112
            · skip
              have c79 : ¬ ((inr y.toInt ((0 : Nat) : Int) ((8 : Nat) : Int)) = 0) := fun h => c79 ((nI_eq0 (Nat.lt_of_le_of_lt (inr_le _ _ _) (by decide))).mpr h)
              have q79 := inr_1 c79
              refine lv_iload hx hb d_Mod_widthOf_82 (lv_at hl 4 rfl) ?_
              refine lv_iconst (v := nI 1) hx hb d_Mod_widthOf_84 rfl ?_
              refine lv_bipush (v := nI 8) hx hb d_Mod_widthOf_85 rfl ?_
              refine k_i (wr := [(a_mod, .inr (6, [.ref a_mkind, .ref a_mwidth, .ref a_mreset, .ref a_mop, .ref a_mka, .ref a_mkb, .ref a_mkc, .ref a_mheld, .int (nI mN), .ref a_msort, .ref a_mof, .ref a_mfrom, .int (nI mMs), .ref a_mbit, .ref a_mdone, .ref a_mrests, .ref a_mxx, .ref a_myy, .ref a_mdepth, .ref a_mone, .int (nI mG), .int (nI mCk), .int mFw, .int (nI mRd), .ref a_mbefore, .ref a_mfirst, .ref a_mturned])), (a_mwidth, .inl (cI, 14, .inl (nF mWd)))]) (w2 := fun (u : Unit) => [(a_mod, .inr (6, [.ref a_mkind, .ref a_mwidth, .ref a_mreset, .ref a_mop, .ref a_mka, .ref a_mkb, .ref a_mkc, .ref a_mheld, .int (nI mN), .ref a_msort, .ref a_mof, .ref a_mfrom, .int (nI mMs), .ref a_mbit, .ref a_mdone, .ref a_mrests, .ref a_mxx, .ref a_myy, .ref a_mdepth, .ref a_mone, .int (nI mG), .int (nI mCk), .int mFw, .int (nI mRd), .ref a_mbefore, .ref a_mfirst, .ref a_mturned])), (a_mwidth, .inl (cI, 14, .inl (nF mWd)))]) (va_runS (As := [.int z, .int (nI 1), .int (nI 8)]) (rest := []) ⟨hx, hb, hml, hown, hts⟩ (c_Mod_inN l dC dI cI cZ  tt H.size  z 1 8 (by omega) (by omega)) (va_cwS 3 hts (gd_S in_tl (mw 628 rfl rfl) (mw 629 rfl rfl) (mw 47 rfl rfl) (mw 630 rfl rfl)) rfl rfl rfl (by decide +kernel) ⟨Nat.le_of_ble_eq_true rfl, Nat.le_of_ble_eq_true rfl⟩) (k_preS hK hP hD hS hA hE [] (by decide) rfl) rfl rfl hl.1 rfl (lv_room (Nat.le_of_ble_eq_true rfl)) d_Mod_widthOf_87 ⟨Nat.zero_le _, Nat.zero_le _⟩) hP hD hS hA [] [0, 1] [0, 1] rfl rfl (by decide) (by decide) (by decide) (fun _ => rfl) (fun r_15 u H locs hw hP hD hS => ?_)
              obtain rfl : (r_15 = nI (inr z.toInt ((1 : Nat) : Int) ((8 : Nat) : Int))) := hw
              have hP : va_P (dC, dI) classes [(a_mod, .inr (6, [.ref a_mkind, .ref a_mwidth, .ref a_mreset, .ref a_mop, .ref a_mka, .ref a_mkb, .ref a_mkc, .ref a_mheld, .int (nI mN), .ref a_msort, .ref a_mof, .ref a_mfrom, .int (nI mMs), .ref a_mbit, .ref a_mdone, .ref a_mrests, .ref a_mxx, .ref a_myy, .ref a_mdepth, .ref a_mone, .int (nI mG), .int (nI mCk), .int mFw, .int (nI mRd), .ref a_mbefore, .ref a_mfirst, .ref a_mturned])), (a_mwidth, .inl (cI, 14, .inl (nF mWd)))] H := hP
              have hD : va_D A [(a_mod, .inr (6, [.ref a_mkind, .ref a_mwidth, .ref a_mreset, .ref a_mop, .ref a_mka, .ref a_mkb, .ref a_mkc, .ref a_mheld, .int (nI mN), .ref a_msort, .ref a_mof, .ref a_mfrom, .int (nI mMs), .ref a_mbit, .ref a_mdone, .ref a_mrests, .ref a_mxx, .ref a_myy, .ref a_mdepth, .ref a_mone, .int (nI mG), .int (nI mCk), .int mFw, .int (nI mRd), .ref a_mbefore, .ref a_mfirst, .ref a_mturned])), (a_mwidth, .inl (cI, 14, .inl (nF mWd)))] := hD
              refine lv_if_eq (tgt := 111) hx hb d_Mod_widthOf_90 (by decide) (fun c90 => ?_) (fun c90 => ?_)
              · skip
                have c90 : (inr z.toInt ((1 : Nat) : Int) ((8 : Nat) : Int)) = 0 := (nI_eq0 (Nat.lt_of_le_of_lt (inr_le _ _ _) (by decide))).mp c90
                have q90 := inr_0 c90
                refine lv_iconst (v := nI 0) hx hb d_Mod_widthOf_111 rfl ?_
                exact W.iret (v := nI 0) hx hb hr (fun t ht hW => ⟨⟨nI 0, (), rfl, (by rw [nwd_k 9 c69 (by decide) (Or.inr hs1) (Or.inl (by decide)) (Or.inl (by decide))]; show _ = nI (if 0 ≤ y.toInt ∧ 1 ≤ z.toInt ∧ y.toInt ≤ 8 ∧ z.toInt ≤ 8 ∧ y.toInt + z.toInt ≤ mWd (ix x) then ix z else 0); rw [if_neg (by omega)]), by rw [ht]; exact hP, va_K.moved hW.alike hK, hD⟩, hS.F ht⟩) hS.2.2 d_Mod_widthOf_112
              · skip
                have c90 : ¬ ((inr z.toInt ((1 : Nat) : Int) ((8 : Nat) : Int)) = 0) := fun h => c90 ((nI_eq0 (Nat.lt_of_le_of_lt (inr_le _ _ _) (by decide))).mpr h)
                have q90 := inr_1 c90
                obtain ⟨Y, eY, hY, hYb⟩ := raw_nat (x := y) (by omega)
                rw [eY] at hl
                obtain ⟨Z, eZ, hZ, hZb⟩ := raw_nat (x := z) (by omega)
                rw [eZ] at hl
                refine lv_iload_n hx hb d_Mod_widthOf_93 rfl (lv_at hl 3 rfl) ?_
                refine lv_iload hx hb d_Mod_widthOf_94 (lv_at hl 4 rfl) ?_
                refine lv_iadd hx hb d_Mod_widthOf_96 ?_
                refine k_top (nI_add _ _) ?_
                refine lv_aload_n hx hb d_Mod_widthOf_97 rfl (lv_at hl 0 rfl) ?_
                refine va_get (D := (dC, dI)) (ci := 6) (v := .ref a_mwidth) (C := R_Mod) (T := F_Mod) (N := 27) hx hb hts (wi i_Mod) hown hK hP 0 rfl rfl 1 (by decide) (hts _ (mt 543 rfl rfl)) (fun _ h9 => h9) rfl d_Mod_widthOf_98 ?_
                refine lv_iload_n hx hb d_Mod_widthOf_101 rfl (lv_at hl 2 rfl) ?_
                refine k_ild hx hb hK hP 1 0 rfl rfl (by omega) (by decide) d_Mod_widthOf_102 ?_
                have hb_16 := b_mWd X
                refine lv_icmp_gt (tgt := 111) hx hb d_Mod_widthOf_103 (by decide) (fun c103 => ?_) (fun c103 => ?_)
                · skip
                  have c103 : (mWd X) < (Y + Z) := (nI_ltI (by omega) (by omega)).mp c103
                  refine lv_iconst (v := nI 0) hx hb d_Mod_widthOf_111 rfl ?_
                  exact W.iret (v := nI 0) hx hb hr (fun t ht hW => ⟨⟨nI 0, (), rfl, (by rw [nwd_k 9 c69 (by decide) (Or.inr hs1) (Or.inl (by decide)) (Or.inl (by decide))]; show _ = nI (if 0 ≤ y.toInt ∧ 1 ≤ z.toInt ∧ y.toInt ≤ 8 ∧ z.toInt ≤ 8 ∧ y.toInt + z.toInt ≤ mWd (ix x) then ix z else 0); rw [ix_of eX hXb, if_neg (by omega)]), by rw [ht]; exact hP, va_K.moved hW.alike hK, hD⟩, hS.F ht⟩) hS.2.2 d_Mod_widthOf_112
                · skip
                  have c103 : ¬ ((mWd X) < (Y + Z)) := fun h => c103 ((nI_ltI (by omega) (by omega)).mpr h)
                  refine lv_iload hx hb d_Mod_widthOf_106 (lv_at hl 4 rfl) ?_
                  refine lv_goto (tgt := 112) hx hb d_Mod_widthOf_108 (by decide) ?_
                  exact W.iret (v := nI Z) hx hb hr (fun t ht hW => ⟨⟨nI Z, (), rfl, (by rw [nwd_k 9 c69 (by decide) (Or.inr hs1) (Or.inl (by decide)) (Or.inl (by decide))]; show _ = nI (if 0 ≤ y.toInt ∧ 1 ≤ z.toInt ∧ y.toInt ≤ 8 ∧ z.toInt ≤ 8 ∧ y.toInt + z.toInt ≤ mWd (ix x) then ix z else 0); rw [ix_of eX hXb, if_pos (by omega), ix_of eZ hZb]), by rw [ht]; exact hP, va_K.moved hW.alike hK, hD⟩, hS.F ht⟩) hS.2.2 d_Mod_widthOf_112
        · skip
          have c56 : o0.toInt = 0 := (ri_eq rfl rfl).mp c56
          refine lv_aload_n hx hb d_Mod_widthOf_59 rfl (lv_at hl 0 rfl) ?_
          refine va_get (D := (dC, dI)) (ci := 6) (v := .ref a_mwidth) (C := R_Mod) (T := F_Mod) (N := 27) hx hb hts (wi i_Mod) hown hK hP 0 rfl rfl 1 (by decide) (hts _ (mt 543 rfl rfl)) (fun _ h9 => h9) rfl d_Mod_widthOf_60 ?_
          refine lv_iload_n hx hb d_Mod_widthOf_63 rfl (lv_at hl 2 rfl) ?_
          refine k_ild hx hb hK hP 1 0 rfl rfl (by omega) (by decide) d_Mod_widthOf_64 ?_
          have hb_17 := b_mWd X
          exact W.iret (v := nI (mWd X)) hx hb hr (fun t ht hW => ⟨⟨nI (mWd X), (), rfl, (by rw [nwd_k 0 c56 (by decide) (Or.inr hs1) (Or.inl (by decide)) (Or.inl (by decide))]; show _ = nI (mWd (ix x)); rw [ix_of eX hXb]), by rw [ht]; exact hP, va_K.moved hW.alike hK, hD⟩, hS.F ht⟩) hS.2.2 d_Mod_widthOf_65
      · skip
        have c50 : (hs mN x) = 0 := (nI_eq0 (by have := hs_le mN x; omega)).mp c50
        refine lv_iconst (v := nI 0) hx hb d_Mod_widthOf_53 rfl ?_
        exact W.iret (v := nI 0) hx hb hr (fun t ht hW => ⟨⟨nI 0, (), rfl, (by rw [nwd_0 (fun q => by have hq := q.2.2.1; obtain ⟨O, eO, hO, hOb⟩ := raw_nat (x := o0) (by omega); rw [ix_of eO hOb] at hq; have := tab_10 (o := O) (by omega); omega)]), by rw [ht]; exact hP, va_K.moved hW.alike hK, hD⟩, hS.F ht⟩) hS.2.2 d_Mod_widthOf_54
  · skip
    have c3 : o0.toInt = ((11 : Nat) : Int) := (ri_eq rfl (nI_toInt (show _ < 2 ^ 31 by omega))).mp c3
    refine lv_iload_n hx hb d_Mod_widthOf_6 rfl (lv_at hl 3 rfl) ?_
    refine lv_iconst (v := nI 1) hx hb d_Mod_widthOf_7 rfl ?_
    refine lv_bipush (v := nI 8) hx hb d_Mod_widthOf_8 rfl ?_
    refine k_i (wr := [(a_mod, .inr (6, [.ref a_mkind, .ref a_mwidth, .ref a_mreset, .ref a_mop, .ref a_mka, .ref a_mkb, .ref a_mkc, .ref a_mheld, .int (nI mN), .ref a_msort, .ref a_mof, .ref a_mfrom, .int (nI mMs), .ref a_mbit, .ref a_mdone, .ref a_mrests, .ref a_mxx, .ref a_myy, .ref a_mdepth, .ref a_mone, .int (nI mG), .int (nI mCk), .int mFw, .int (nI mRd), .ref a_mbefore, .ref a_mfirst, .ref a_mturned])), (a_mwidth, .inl (cI, 14, .inl (nF mWd)))]) (w2 := fun (u : Unit) => [(a_mod, .inr (6, [.ref a_mkind, .ref a_mwidth, .ref a_mreset, .ref a_mop, .ref a_mka, .ref a_mkb, .ref a_mkc, .ref a_mheld, .int (nI mN), .ref a_msort, .ref a_mof, .ref a_mfrom, .int (nI mMs), .ref a_mbit, .ref a_mdone, .ref a_mrests, .ref a_mxx, .ref a_myy, .ref a_mdepth, .ref a_mone, .int (nI mG), .int (nI mCk), .int mFw, .int (nI mRd), .ref a_mbefore, .ref a_mfirst, .ref a_mturned])), (a_mwidth, .inl (cI, 14, .inl (nF mWd)))]) (va_runS (As := [.int y, .int (nI 1), .int (nI 8)]) (rest := []) ⟨hx, hb, hml, hown, hts⟩ (c_Mod_inN l dC dI cI cZ  tt s.heap.size  y 1 8 (by omega) (by omega)) (va_cwS 3 hts (gd_S in_tl (mw 628 rfl rfl) (mw 629 rfl rfl) (mw 47 rfl rfl) (mw 630 rfl rfl)) rfl rfl rfl (by decide +kernel) ⟨Nat.le_of_ble_eq_true rfl, Nat.le_of_ble_eq_true rfl⟩) (k_preS hK hP hD hS hA hE [] (by decide) rfl) rfl rfl hl.1 rfl (lv_room (Nat.le_of_ble_eq_true rfl)) d_Mod_widthOf_10 ⟨Nat.zero_le _, Nat.zero_le _⟩) hP hD hS hA [] [0, 1] [0, 1] rfl rfl (by decide) (by decide) (by decide) (fun _ => rfl) (fun r_18 u H locs hw hP hD hS => ?_)
    obtain rfl : (r_18 = nI (inr y.toInt ((1 : Nat) : Int) ((8 : Nat) : Int))) := hw
    have hP : va_P (dC, dI) classes [(a_mod, .inr (6, [.ref a_mkind, .ref a_mwidth, .ref a_mreset, .ref a_mop, .ref a_mka, .ref a_mkb, .ref a_mkc, .ref a_mheld, .int (nI mN), .ref a_msort, .ref a_mof, .ref a_mfrom, .int (nI mMs), .ref a_mbit, .ref a_mdone, .ref a_mrests, .ref a_mxx, .ref a_myy, .ref a_mdepth, .ref a_mone, .int (nI mG), .int (nI mCk), .int mFw, .int (nI mRd), .ref a_mbefore, .ref a_mfirst, .ref a_mturned])), (a_mwidth, .inl (cI, 14, .inl (nF mWd)))] H := hP
    have hD : va_D A [(a_mod, .inr (6, [.ref a_mkind, .ref a_mwidth, .ref a_mreset, .ref a_mop, .ref a_mka, .ref a_mkb, .ref a_mkc, .ref a_mheld, .int (nI mN), .ref a_msort, .ref a_mof, .ref a_mfrom, .int (nI mMs), .ref a_mbit, .ref a_mdone, .ref a_mrests, .ref a_mxx, .ref a_myy, .ref a_mdepth, .ref a_mone, .int (nI mG), .int (nI mCk), .int mFw, .int (nI mRd), .ref a_mbefore, .ref a_mfirst, .ref a_mturned])), (a_mwidth, .inl (cI, 14, .inl (nF mWd)))] := hD
    refine lv_if_eq (tgt := 33) hx hb d_Mod_widthOf_13 (by decide) (fun c13 => ?_) (fun c13 => ?_)
    · skip
      have c13 : (inr y.toInt ((1 : Nat) : Int) ((8 : Nat) : Int)) = 0 := (nI_eq0 (Nat.lt_of_le_of_lt (inr_le _ _ _) (by decide))).mp c13
      have q13 := inr_0 c13
      refine lv_iconst (v := nI 0) hx hb d_Mod_widthOf_33 rfl ?_
      exact W.iret (v := nI 0) hx hb hr (fun t ht hW => ⟨⟨nI 0, (), rfl, (by rw [nwd_k 11 c3 (by decide) (Or.inl (by decide)) (Or.inl (by decide)) (Or.inl (by decide))]; show _ = nI (if 1 ≤ y.toInt ∧ y.toInt ≤ 8 ∧ 0 ≤ x.toInt ∧ x.toInt < ((2 ^ ix y : Nat) : Int) then ix y else 0); rw [if_neg (by omega)]), by rw [ht]; exact hP, va_K.moved hW.alike hK, hD⟩, hS.F ht⟩) hS.2.2 d_Mod_widthOf_34
    · skip
      have c13 : ¬ ((inr y.toInt ((1 : Nat) : Int) ((8 : Nat) : Int)) = 0) := fun h => c13 ((nI_eq0 (Nat.lt_of_le_of_lt (inr_le _ _ _) (by decide))).mpr h)
      have q13 := inr_1 c13
      obtain ⟨Y, eY, hY, hYb⟩ := raw_nat (x := y) (by omega)
      rw [eY] at hl
      have hp8 := pow8 (n := Y) (by omega)
      have hpp := Nat.two_pow_pos Y
      refine lv_iload_n hx hb d_Mod_widthOf_16 rfl (lv_at hl 2 rfl) ?_
      refine lv_iconst (v := nI 0) hx hb d_Mod_widthOf_17 rfl ?_
      refine lv_iconst (v := nI 1) hx hb d_Mod_widthOf_18 rfl ?_
      refine lv_iload_n hx hb d_Mod_widthOf_19 rfl (lv_at hl 3 rfl) ?_
      refine lv_ishl hx hb d_Mod_widthOf_20 ?_
      refine k_top (nI_shl _ (by omega)) ?_
      refine lv_iconst (v := nI 1) hx hb d_Mod_widthOf_21 rfl ?_
      refine lv_isub hx hb d_Mod_widthOf_22 ?_
      refine k_top (pk_sub (by have := Nat.two_pow_pos Y; omega)) ?_
      refine k_i (wr := [(a_mod, .inr (6, [.ref a_mkind, .ref a_mwidth, .ref a_mreset, .ref a_mop, .ref a_mka, .ref a_mkb, .ref a_mkc, .ref a_mheld, .int (nI mN), .ref a_msort, .ref a_mof, .ref a_mfrom, .int (nI mMs), .ref a_mbit, .ref a_mdone, .ref a_mrests, .ref a_mxx, .ref a_myy, .ref a_mdepth, .ref a_mone, .int (nI mG), .int (nI mCk), .int mFw, .int (nI mRd), .ref a_mbefore, .ref a_mfirst, .ref a_mturned])), (a_mwidth, .inl (cI, 14, .inl (nF mWd)))]) (w2 := fun (u : Unit) => [(a_mod, .inr (6, [.ref a_mkind, .ref a_mwidth, .ref a_mreset, .ref a_mop, .ref a_mka, .ref a_mkb, .ref a_mkc, .ref a_mheld, .int (nI mN), .ref a_msort, .ref a_mof, .ref a_mfrom, .int (nI mMs), .ref a_mbit, .ref a_mdone, .ref a_mrests, .ref a_mxx, .ref a_myy, .ref a_mdepth, .ref a_mone, .int (nI mG), .int (nI mCk), .int mFw, .int (nI mRd), .ref a_mbefore, .ref a_mfirst, .ref a_mturned])), (a_mwidth, .inl (cI, 14, .inl (nF mWd)))]) (va_runS (As := [.int x, .int (nI 0), .int (nI ((1 * 2 ^ Y) - 1))]) (rest := []) ⟨hx, hb, hml, hown, hts⟩ (c_Mod_inN l dC dI cI cZ  tt H.size  x 0 ((1 * 2 ^ Y) - 1) (by omega) (by omega)) (va_cwS 3 hts (gd_S in_tl (mw 628 rfl rfl) (mw 629 rfl rfl) (mw 47 rfl rfl) (mw 630 rfl rfl)) rfl rfl rfl (by decide +kernel) ⟨Nat.le_of_ble_eq_true rfl, Nat.le_of_ble_eq_true rfl⟩) (k_preS hK hP hD hS hA hE [] (by decide) rfl) rfl rfl hl.1 rfl (lv_room (Nat.le_of_ble_eq_true rfl)) d_Mod_widthOf_23 ⟨Nat.zero_le _, Nat.zero_le _⟩) hP hD hS hA [] [0, 1] [0, 1] rfl rfl (by decide) (by decide) (by decide) (fun _ => rfl) (fun r_19 u H locs hw hP hD hS => ?_)
      obtain rfl : (r_19 = nI (inr x.toInt ((0 : Nat) : Int) ((((1 * 2 ^ Y) - 1) : Nat) : Int))) := hw
      have hP : va_P (dC, dI) classes [(a_mod, .inr (6, [.ref a_mkind, .ref a_mwidth, .ref a_mreset, .ref a_mop, .ref a_mka, .ref a_mkb, .ref a_mkc, .ref a_mheld, .int (nI mN), .ref a_msort, .ref a_mof, .ref a_mfrom, .int (nI mMs), .ref a_mbit, .ref a_mdone, .ref a_mrests, .ref a_mxx, .ref a_myy, .ref a_mdepth, .ref a_mone, .int (nI mG), .int (nI mCk), .int mFw, .int (nI mRd), .ref a_mbefore, .ref a_mfirst, .ref a_mturned])), (a_mwidth, .inl (cI, 14, .inl (nF mWd)))] H := hP
      have hD : va_D A [(a_mod, .inr (6, [.ref a_mkind, .ref a_mwidth, .ref a_mreset, .ref a_mop, .ref a_mka, .ref a_mkb, .ref a_mkc, .ref a_mheld, .int (nI mN), .ref a_msort, .ref a_mof, .ref a_mfrom, .int (nI mMs), .ref a_mbit, .ref a_mdone, .ref a_mrests, .ref a_mxx, .ref a_myy, .ref a_mdepth, .ref a_mone, .int (nI mG), .int (nI mCk), .int mFw, .int (nI mRd), .ref a_mbefore, .ref a_mfirst, .ref a_mturned])), (a_mwidth, .inl (cI, 14, .inl (nF mWd)))] := hD
      refine lv_if_eq (tgt := 33) hx hb d_Mod_widthOf_26 (by decide) (fun c26 => ?_) (fun c26 => ?_)
      · skip
        have c26 : (inr x.toInt ((0 : Nat) : Int) ((((1 * 2 ^ Y) - 1) : Nat) : Int)) = 0 := (nI_eq0 (Nat.lt_of_le_of_lt (inr_le _ _ _) (by decide))).mp c26
        have q26 := inr_0 c26
        refine lv_iconst (v := nI 0) hx hb d_Mod_widthOf_33 rfl ?_
        exact W.iret (v := nI 0) hx hb hr (fun t ht hW => ⟨⟨nI 0, (), rfl, (by rw [nwd_k 11 c3 (by decide) (Or.inl (by decide)) (Or.inl (by decide)) (Or.inl (by decide))]; show _ = nI (if 1 ≤ y.toInt ∧ y.toInt ≤ 8 ∧ 0 ≤ x.toInt ∧ x.toInt < ((2 ^ ix y : Nat) : Int) then ix y else 0); rw [ix_of eY hYb, if_neg (by omega)]), by rw [ht]; exact hP, va_K.moved hW.alike hK, hD⟩, hS.F ht⟩) hS.2.2 d_Mod_widthOf_34
      · skip
        have c26 : ¬ ((inr x.toInt ((0 : Nat) : Int) ((((1 * 2 ^ Y) - 1) : Nat) : Int)) = 0) := fun h => c26 ((nI_eq0 (Nat.lt_of_le_of_lt (inr_le _ _ _) (by decide))).mpr h)
        have q26 := inr_1 c26
        refine lv_iload_n hx hb d_Mod_widthOf_29 rfl (lv_at hl 3 rfl) ?_
        refine lv_goto (tgt := 34) hx hb d_Mod_widthOf_30 (by decide) ?_
        exact W.iret (v := nI Y) hx hb hr (fun t ht hW => ⟨⟨nI Y, (), rfl, (by rw [nwd_k 11 c3 (by decide) (Or.inl (by decide)) (Or.inl (by decide)) (Or.inl (by decide))]; show _ = nI (if 1 ≤ y.toInt ∧ y.toInt ≤ 8 ∧ 0 ≤ x.toInt ∧ x.toInt < ((2 ^ ix y : Nat) : Int) then ix y else 0); rw [ix_of eY hYb, if_pos (by omega)]), by rw [ht]; exact hP, va_K.moved hW.alike hK, hD⟩, hS.F ht⟩) hS.2.2 d_Mod_widthOf_34
set_option maxHeartbeats 4000000 in
set_option maxRecDepth 100000 in
theorem c_Mod_node (l : Launch) (dC : Nat → ClassId) (dI : Nat → Nat → Nat) (cI cZ : ClassId) (a_mod a_mkind a_mwidth a_mreset a_mop a_mka a_mkb a_mkc a_mheld a_msort a_mof a_mfrom a_mbit a_mdone a_mrests a_mxx a_myy a_mdepth a_mone a_mbefore a_mfirst a_mturned : Nat) (tt sz : Nat) (mN : Nat) (mMs : Nat) (mG : Nat) (mCk : Nat) (mFw : Int32) (mRd : Nat) (mKd : Nat → Nat) (mWd : Nat → Nat) (mRs : Nat → Nat) (mHd : Nat → Nat) (mOp : Nat → Int32) (mAa : Nat → Int32) (mAb : Nat → Int32) (mAc : Nat → Int32) (o0 : Int32) (x : Int32) (y : Int32) (z : Int32) (b_mN : mN ≤ 14) (b_mMs : mMs ≤ 20) (b_mG : mG ≤ 1280) (b_mRd : mRd ≤ 1) (b_mKd : ∀ j, mKd j < 4) (b_mWd : ∀ j, mWd j < 9) (b_mRs : ∀ j, mRs j < 256) (b_mHd : ∀ j, mHd j < 256) : Met l y_Mod_node w_Mod_node ({ frames := 3, cells := 0, slots := 0, locals := 68 }) (va_Pc [.ref a_mod, .int o0, .int x, .int y, .int z] (PW (dC, dI) classes [(cI, .int), (cZ, .boolean)] tt [(a_mod, .inr (6, [.ref a_mkind, .ref a_mwidth, .ref a_mreset, .ref a_mop, .ref a_mka, .ref a_mkb, .ref a_mkc, .ref a_mheld, .int (nI mN), .ref a_msort, .ref a_mof, .ref a_mfrom, .int (nI mMs), .ref a_mbit, .ref a_mdone, .ref a_mrests, .ref a_mxx, .ref a_myy, .ref a_mdepth, .ref a_mone, .int (nI mG), .int (nI mCk), .int mFw, .int (nI mRd), .ref a_mbefore, .ref a_mfirst, .ref a_mturned])), (a_mkind, .inl (cI, 14, .inl (nF mKd))), (a_mwidth, .inl (cI, 14, .inl (nF mWd))), (a_mreset, .inl (cI, 14, .inl (nF mRs))), (a_mheld, .inl (cI, 14, .inl (nF mHd))), (a_mop, .inl (cI, 14, .inl mOp)), (a_mka, .inl (cI, 14, .inl mAa)), (a_mkb, .inl (cI, 14, .inl mAb)), (a_mkc, .inl (cI, 14, .inl mAc))] sz)) (va_Qi (fun (r : Int32) (u : Nat × (Nat → Nat) × (Nat → Nat) × (Nat → Nat) × (Nat → Nat) × (Nat → Int32) × (Nat → Int32) × (Nat → Int32) × (Nat → Int32) × Nat) => (u.1 ≤ 14) ∧ (∀ j, u.2.1 j < 4) ∧ (∀ j, u.2.2.1 j < 9) ∧ (∀ j, u.2.2.2.1 j < 256) ∧ (∀ j, u.2.2.2.2.1 j < 256) ∧ (u.2.2.2.2.2.2.2.2.2 ≤ 1) ∧ (((nwd mN mWd o0 x y z < 1 ∨ 8 < nwd mN mWd o0 x y z) ∧ (-1) = r ∧ mN = u.1 ∧ mKd = u.2.1 ∧ mWd = u.2.2.1 ∧ mRs = u.2.2.2.1 ∧ mHd = u.2.2.2.2.1 ∧ mOp = u.2.2.2.2.2.1 ∧ mAa = u.2.2.2.2.2.2.1 ∧ mAb = u.2.2.2.2.2.2.2.1 ∧ mAc = u.2.2.2.2.2.2.2.2.1 ∧ mRd = u.2.2.2.2.2.2.2.2.2) ∨ (1 ≤ nwd mN mWd o0 x y z ∧ nwd mN mWd o0 x y z ≤ 8 ∧ mN = 14 ∧ (-3) = r ∧ mN = u.1 ∧ mKd = u.2.1 ∧ mWd = u.2.2.1 ∧ mRs = u.2.2.2.1 ∧ mHd = u.2.2.2.2.1 ∧ mOp = u.2.2.2.2.2.1 ∧ mAa = u.2.2.2.2.2.2.1 ∧ mAb = u.2.2.2.2.2.2.2.1 ∧ mAc = u.2.2.2.2.2.2.2.2.1 ∧ mRd = u.2.2.2.2.2.2.2.2.2) ∨ (1 ≤ nwd mN mWd o0 x y z ∧ nwd mN mWd o0 x y z ≤ 8 ∧ mN < 14 ∧ nI mN = r ∧ mN + 1 = u.1 ∧ upN mKd mN 3 = u.2.1 ∧ upN mWd mN (nwd mN mWd o0 x y z) = u.2.2.1 ∧ upN mRs mN 0 = u.2.2.2.1 ∧ upN mHd mN 0 = u.2.2.2.2.1 ∧ upd mOp mN o0 = u.2.2.2.2.2.1 ∧ upd mAa mN x = u.2.2.2.2.2.2.1 ∧ upd mAb mN y = u.2.2.2.2.2.2.2.1 ∧ upd mAc mN z = u.2.2.2.2.2.2.2.2.1 ∧ 0 = u.2.2.2.2.2.2.2.2.2))) (AT (dC, dI) classes [(cI, .int), (cZ, .boolean)] (va_A [(a_mod, .inr (6, [.ref a_mkind, .ref a_mwidth, .ref a_mreset, .ref a_mop, .ref a_mka, .ref a_mkb, .ref a_mkc, .ref a_mheld, .int (nI mN), .ref a_msort, .ref a_mof, .ref a_mfrom, .int (nI mMs), .ref a_mbit, .ref a_mdone, .ref a_mrests, .ref a_mxx, .ref a_myy, .ref a_mdepth, .ref a_mone, .int (nI mG), .int (nI mCk), .int mFw, .int (nI mRd), .ref a_mbefore, .ref a_mfirst, .ref a_mturned])), (a_mkind, .inl (cI, 14, .inl (nF mKd))), (a_mwidth, .inl (cI, 14, .inl (nF mWd))), (a_mreset, .inl (cI, 14, .inl (nF mRs))), (a_mheld, .inl (cI, 14, .inl (nF mHd))), (a_mop, .inl (cI, 14, .inl mOp)), (a_mka, .inl (cI, 14, .inl mAa)), (a_mkb, .inl (cI, 14, .inl mAb)), (a_mkc, .inl (cI, 14, .inl mAc))] sz) (fun (u : Nat × (Nat → Nat) × (Nat → Nat) × (Nat → Nat) × (Nat → Nat) × (Nat → Int32) × (Nat → Int32) × (Nat → Int32) × (Nat → Int32) × Nat) => [(a_mod, .inr (6, [.ref a_mkind, .ref a_mwidth, .ref a_mreset, .ref a_mop, .ref a_mka, .ref a_mkb, .ref a_mkc, .ref a_mheld, .int (nI u.1), .ref a_msort, .ref a_mof, .ref a_mfrom, .int (nI mMs), .ref a_mbit, .ref a_mdone, .ref a_mrests, .ref a_mxx, .ref a_myy, .ref a_mdepth, .ref a_mone, .int (nI mG), .int (nI mCk), .int mFw, .int (nI u.2.2.2.2.2.2.2.2.2), .ref a_mbefore, .ref a_mfirst, .ref a_mturned])), (a_mkind, .inl (cI, 14, .inl (nF u.2.1))), (a_mwidth, .inl (cI, 14, .inl (nF u.2.2.1))), (a_mreset, .inl (cI, 14, .inl (nF u.2.2.2.1))), (a_mheld, .inl (cI, 14, .inl (nF u.2.2.2.2.1))), (a_mop, .inl (cI, 14, .inl u.2.2.2.2.2.1)), (a_mka, .inl (cI, 14, .inl u.2.2.2.2.2.2.1)), (a_mkb, .inl (cI, 14, .inl u.2.2.2.2.2.2.2.1)), (a_mkc, .inl (cI, 14, .inl u.2.2.2.2.2.2.2.2.1))])) (va_A [(a_mod, .inr (6, [.ref a_mkind, .ref a_mwidth, .ref a_mreset, .ref a_mop, .ref a_mka, .ref a_mkb, .ref a_mkc, .ref a_mheld, .int (nI mN), .ref a_msort, .ref a_mof, .ref a_mfrom, .int (nI mMs), .ref a_mbit, .ref a_mdone, .ref a_mrests, .ref a_mxx, .ref a_myy, .ref a_mdepth, .ref a_mone, .int (nI mG), .int (nI mCk), .int mFw, .int (nI mRd), .ref a_mbefore, .ref a_mfirst, .ref a_mturned])), (a_mkind, .inl (cI, 14, .inl (nF mKd))), (a_mwidth, .inl (cI, 14, .inl (nF mWd))), (a_mreset, .inl (cI, 14, .inl (nF mRs))), (a_mheld, .inl (cI, 14, .inl (nF mHd))), (a_mop, .inl (cI, 14, .inl mOp)), (a_mka, .inl (cI, 14, .inl mAa)), (a_mkb, .inl (cI, 14, .inl mAb)), (a_mkc, .inl (cI, 14, .inl mAc))] sz)) 0 0 (va_A [(a_mod, .inr (6, [.ref a_mkind, .ref a_mwidth, .ref a_mreset, .ref a_mop, .ref a_mka, .ref a_mkb, .ref a_mkc, .ref a_mheld, .int (nI mN), .ref a_msort, .ref a_mof, .ref a_mfrom, .int (nI mMs), .ref a_mbit, .ref a_mdone, .ref a_mrests, .ref a_mxx, .ref a_myy, .ref a_mdepth, .ref a_mone, .int (nI mG), .int (nI mCk), .int mFw, .int (nI mRd), .ref a_mbefore, .ref a_mfirst, .ref a_mturned])), (a_mkind, .inl (cI, 14, .inl (nF mKd))), (a_mwidth, .inl (cI, 14, .inl (nF mWd))), (a_mreset, .inl (cI, 14, .inl (nF mRs))), (a_mheld, .inl (cI, 14, .inl (nF mHd))), (a_mop, .inl (cI, 14, .inl mOp)), (a_mka, .inl (cI, 14, .inl mAa)), (a_mkb, .inl (cI, 14, .inl mAb)), (a_mkc, .inl (cI, 14, .inl mAc))] sz) := by
  refine Met.ofW (cc := b_Mod_node) (maxL := 7) (ret := (some .int)) (by decide) rfl ?_
  intro p e s m args below meth c s₁ B hml hv
  obtain ⟨rfl, hsz, hP, hK, hD0, hE⟩ := hv
  have hx := B.exec
  have hb := B.bytes
  have hr := B.returns
  have hts := atoms_spec (ws := w_Mod_node) B.pre
  have hown : s.vm.findClass R_Mod = some m.cls := findClass_of_methodNamed B.named
  have hlocks := B.notSynchronized
  subst hsz
  have hD := hD0.self (sz := s.heap.size)
  generalize hAe : va_A [(a_mod, .inr (6, [.ref a_mkind, .ref a_mwidth, .ref a_mreset, .ref a_mop, .ref a_mka, .ref a_mkb, .ref a_mkc, .ref a_mheld, .int (nI mN), .ref a_msort, .ref a_mof, .ref a_mfrom, .int (nI mMs), .ref a_mbit, .ref a_mdone, .ref a_mrests, .ref a_mxx, .ref a_myy, .ref a_mdepth, .ref a_mone, .int (nI mG), .int (nI mCk), .int mFw, .int (nI mRd), .ref a_mbefore, .ref a_mfirst, .ref a_mturned])), (a_mkind, .inl (cI, 14, .inl (nF mKd))), (a_mwidth, .inl (cI, 14, .inl (nF mWd))), (a_mreset, .inl (cI, 14, .inl (nF mRs))), (a_mheld, .inl (cI, 14, .inl (nF mHd))), (a_mop, .inl (cI, 14, .inl mOp)), (a_mka, .inl (cI, 14, .inl mAa)), (a_mkb, .inl (cI, 14, .inl mAb)), (a_mkc, .inl (cI, 14, .inl mAc))] s.heap.size = A at hD hE ⊢
  have hA : ∀ q : Nat, s.heap.size ≤ q → A q := fun q h => by rw [← hAe]; exact Or.inr h
  have hS : va_S A s.heap s.heap [] := va_S.rf
  have hP : va_P (dC, dI) classes [(a_mod, .inr (6, [.ref a_mkind, .ref a_mwidth, .ref a_mreset, .ref a_mop, .ref a_mka, .ref a_mkb, .ref a_mkc, .ref a_mheld, .int (nI mN), .ref a_msort, .ref a_mof, .ref a_mfrom, .int (nI mMs), .ref a_mbit, .ref a_mdone, .ref a_mrests, .ref a_mxx, .ref a_myy, .ref a_mdepth, .ref a_mone, .int (nI mG), .int (nI mCk), .int mFw, .int (nI mRd), .ref a_mbefore, .ref a_mfirst, .ref a_mturned])), (a_mkind, .inl (cI, 14, .inl (nF mKd))), (a_mwidth, .inl (cI, 14, .inl (nF mWd))), (a_mreset, .inl (cI, 14, .inl (nF mRs))), (a_mheld, .inl (cI, 14, .inl (nF mHd))), (a_mop, .inl (cI, 14, .inl mOp)), (a_mka, .inl (cI, 14, .inl mAa)), (a_mkb, .inl (cI, 14, .inl mAb)), (a_mkc, .inl (cI, 14, .inl mAc))] s.heap := hP
  have hl := lv_entry ([.ref a_mod, .int o0, .int x, .int y, .int z]) (n := 7) (Nat.le_of_ble_eq_true rfl)
  rw [lg_entry_eq]
  generalize (lg_sl ([.ref a_mod, .int o0, .int x, .int y, .int z]) ++ List.replicate (7 - (lg_sl ([.ref a_mod, .int o0, .int x, .int y, .int z])).length) Slot.unset).toArray = ls at hl ⊢
  have hl : lv_has ls 7 [(0, .ref a_mod), (1, .int o0), (2, .int x), (3, .int y), (4, .int z)] := hl
  refine lv_aload_n hx hb d_Mod_node_0 rfl (lv_at hl 0 rfl) ?_
  refine lv_iload_n hx hb d_Mod_node_1 rfl (lv_at hl 1 rfl) ?_
  refine lv_iload_n hx hb d_Mod_node_2 rfl (lv_at hl 2 rfl) ?_
  refine lv_iload_n hx hb d_Mod_node_3 rfl (lv_at hl 3 rfl) ?_
  refine lv_iload hx hb d_Mod_node_4 (lv_at hl 4 rfl) ?_
  refine k_i (wr := [(a_mkind, .inl (cI, 14, .inl (nF mKd))), (a_mreset, .inl (cI, 14, .inl (nF mRs))), (a_mheld, .inl (cI, 14, .inl (nF mHd))), (a_mop, .inl (cI, 14, .inl mOp)), (a_mka, .inl (cI, 14, .inl mAa)), (a_mkb, .inl (cI, 14, .inl mAb)), (a_mkc, .inl (cI, 14, .inl mAc))]) (w2 := fun (u : Unit) => [(a_mod, .inr (6, [.ref a_mkind, .ref a_mwidth, .ref a_mreset, .ref a_mop, .ref a_mka, .ref a_mkb, .ref a_mkc, .ref a_mheld, .int (nI mN), .ref a_msort, .ref a_mof, .ref a_mfrom, .int (nI mMs), .ref a_mbit, .ref a_mdone, .ref a_mrests, .ref a_mxx, .ref a_myy, .ref a_mdepth, .ref a_mone, .int (nI mG), .int (nI mCk), .int mFw, .int (nI mRd), .ref a_mbefore, .ref a_mfirst, .ref a_mturned])), (a_mkind, .inl (cI, 14, .inl (nF mKd))), (a_mwidth, .inl (cI, 14, .inl (nF mWd))), (a_mreset, .inl (cI, 14, .inl (nF mRs))), (a_mheld, .inl (cI, 14, .inl (nF mHd))), (a_mop, .inl (cI, 14, .inl mOp)), (a_mka, .inl (cI, 14, .inl mAa)), (a_mkb, .inl (cI, 14, .inl mAb)), (a_mkc, .inl (cI, 14, .inl mAc))]) (va_runV (As := [.int o0, .int x, .int y, .int z]) (rest := []) ⟨hx, hb, hml, hown, hts⟩ (c_Mod_widthOf l dC dI cI cZ a_mod a_mkind a_mwidth a_mreset a_mop a_mka a_mkb a_mkc a_mheld a_msort a_mof a_mfrom a_mbit a_mdone a_mrests a_mxx a_myy a_mdepth a_mone a_mbefore a_mfirst a_mturned tt s.heap.size mN mMs mG mCk mFw mRd mWd o0 x y z (by omega) (by omega) (by omega) (by omega) b_mWd) (cwV 4 hts (gd_V in_tl (mw 639 rfl rfl) (mw 641 rfl rfl) (mw 20 rfl rfl) (mw 47 rfl rfl) (mw 642 rfl rfl)) rfl rfl rfl (by decide +kernel) ⟨Nat.le_of_ble_eq_true rfl, Nat.le_of_ble_eq_true rfl⟩) (k_preV hK hP hD hS hA hE [0, 2] (by decide) rfl 6 0 rfl rfl) rfl rfl hl.1 rfl (lv_room (Nat.le_of_ble_eq_true rfl)) d_Mod_node_6 ⟨Nat.zero_le _, Nat.zero_le _⟩) hP hD hS hA [0, 2] [1, 3, 4, 5, 6, 7, 8] [7, 0, 8, 1, 2, 3, 4, 5, 6] rfl rfl (by decide) (by decide) (by decide) (fun _ => rfl) (fun r_1 u H locs hw hP hD hS => ?_)
  obtain rfl : (r_1 = nI (nwd mN mWd o0 x y z)) := hw
  have hP : va_P (dC, dI) classes [(a_mod, .inr (6, [.ref a_mkind, .ref a_mwidth, .ref a_mreset, .ref a_mop, .ref a_mka, .ref a_mkb, .ref a_mkc, .ref a_mheld, .int (nI mN), .ref a_msort, .ref a_mof, .ref a_mfrom, .int (nI mMs), .ref a_mbit, .ref a_mdone, .ref a_mrests, .ref a_mxx, .ref a_myy, .ref a_mdepth, .ref a_mone, .int (nI mG), .int (nI mCk), .int mFw, .int (nI mRd), .ref a_mbefore, .ref a_mfirst, .ref a_mturned])), (a_mkind, .inl (cI, 14, .inl (nF mKd))), (a_mwidth, .inl (cI, 14, .inl (nF mWd))), (a_mreset, .inl (cI, 14, .inl (nF mRs))), (a_mheld, .inl (cI, 14, .inl (nF mHd))), (a_mop, .inl (cI, 14, .inl mOp)), (a_mka, .inl (cI, 14, .inl mAa)), (a_mkb, .inl (cI, 14, .inl mAb)), (a_mkc, .inl (cI, 14, .inl mAc))] H := hP
  have hD : va_D A [(a_mod, .inr (6, [.ref a_mkind, .ref a_mwidth, .ref a_mreset, .ref a_mop, .ref a_mka, .ref a_mkb, .ref a_mkc, .ref a_mheld, .int (nI mN), .ref a_msort, .ref a_mof, .ref a_mfrom, .int (nI mMs), .ref a_mbit, .ref a_mdone, .ref a_mrests, .ref a_mxx, .ref a_myy, .ref a_mdepth, .ref a_mone, .int (nI mG), .int (nI mCk), .int mFw, .int (nI mRd), .ref a_mbefore, .ref a_mfirst, .ref a_mturned])), (a_mkind, .inl (cI, 14, .inl (nF mKd))), (a_mwidth, .inl (cI, 14, .inl (nF mWd))), (a_mreset, .inl (cI, 14, .inl (nF mRs))), (a_mheld, .inl (cI, 14, .inl (nF mHd))), (a_mop, .inl (cI, 14, .inl mOp)), (a_mka, .inl (cI, 14, .inl mAa)), (a_mkb, .inl (cI, 14, .inl mAb)), (a_mkc, .inl (cI, 14, .inl mAc))] := hD
  have hw100 := nwd_lt (n := mN) b_mWd o0 x y z
  refine lv_istore (lv' := [(5, .int (nI (nwd mN mWd o0 x y z))), (0, .ref a_mod), (1, .int o0), (2, .int x), (3, .int y), (4, .int z)]) hx hb d_Mod_node_9 hl (by decide) rfl (fun ls hl => ?_)
  refine lv_iload hx hb d_Mod_node_11 (lv_at hl 0 rfl) ?_
  refine lv_iconst (v := nI 1) hx hb d_Mod_node_13 rfl ?_
  refine lv_bipush (v := nI 8) hx hb d_Mod_node_14 rfl ?_
  refine k_i (wr := [(a_mod, .inr (6, [.ref a_mkind, .ref a_mwidth, .ref a_mreset, .ref a_mop, .ref a_mka, .ref a_mkb, .ref a_mkc, .ref a_mheld, .int (nI mN), .ref a_msort, .ref a_mof, .ref a_mfrom, .int (nI mMs), .ref a_mbit, .ref a_mdone, .ref a_mrests, .ref a_mxx, .ref a_myy, .ref a_mdepth, .ref a_mone, .int (nI mG), .int (nI mCk), .int mFw, .int (nI mRd), .ref a_mbefore, .ref a_mfirst, .ref a_mturned])), (a_mkind, .inl (cI, 14, .inl (nF mKd))), (a_mwidth, .inl (cI, 14, .inl (nF mWd))), (a_mreset, .inl (cI, 14, .inl (nF mRs))), (a_mheld, .inl (cI, 14, .inl (nF mHd))), (a_mop, .inl (cI, 14, .inl mOp)), (a_mka, .inl (cI, 14, .inl mAa)), (a_mkb, .inl (cI, 14, .inl mAb)), (a_mkc, .inl (cI, 14, .inl mAc))]) (w2 := fun (u : Unit) => [(a_mod, .inr (6, [.ref a_mkind, .ref a_mwidth, .ref a_mreset, .ref a_mop, .ref a_mka, .ref a_mkb, .ref a_mkc, .ref a_mheld, .int (nI mN), .ref a_msort, .ref a_mof, .ref a_mfrom, .int (nI mMs), .ref a_mbit, .ref a_mdone, .ref a_mrests, .ref a_mxx, .ref a_myy, .ref a_mdepth, .ref a_mone, .int (nI mG), .int (nI mCk), .int mFw, .int (nI mRd), .ref a_mbefore, .ref a_mfirst, .ref a_mturned])), (a_mkind, .inl (cI, 14, .inl (nF mKd))), (a_mwidth, .inl (cI, 14, .inl (nF mWd))), (a_mreset, .inl (cI, 14, .inl (nF mRs))), (a_mheld, .inl (cI, 14, .inl (nF mHd))), (a_mop, .inl (cI, 14, .inl mOp)), (a_mka, .inl (cI, 14, .inl mAa)), (a_mkb, .inl (cI, 14, .inl mAb)), (a_mkc, .inl (cI, 14, .inl mAc))]) (va_runS (As := [.int (nI (nwd mN mWd o0 x y z)), .int (nI 1), .int (nI 8)]) (rest := []) ⟨hx, hb, hml, hown, hts⟩ (c_Mod_inN l dC dI cI cZ  tt H.size  (nI (nwd mN mWd o0 x y z)) 1 8 (by omega) (by omega)) (va_cwS 3 hts (gd_S in_tl (mw 628 rfl rfl) (mw 629 rfl rfl) (mw 47 rfl rfl) (mw 630 rfl rfl)) rfl rfl rfl (by decide +kernel) ⟨Nat.le_of_ble_eq_true rfl, Nat.le_of_ble_eq_true rfl⟩) (k_preS hK hP hD hS hA hE [] (by decide) rfl) rfl rfl hl.1 rfl (lv_room (Nat.le_of_ble_eq_true rfl)) d_Mod_node_16 ⟨Nat.zero_le _, Nat.zero_le _⟩) hP hD hS hA [] [0, 1, 2, 3, 4, 5, 6, 7, 8] [0, 1, 2, 3, 4, 5, 6, 7, 8] rfl rfl (by decide) (by decide) (by decide) (fun _ => rfl) (fun r_2 u H locs hw hP hD hS => ?_)
  obtain rfl : (r_2 = nI (inr (nI (nwd mN mWd o0 x y z)).toInt ((1 : Nat) : Int) ((8 : Nat) : Int))) := hw
  have hP : va_P (dC, dI) classes [(a_mod, .inr (6, [.ref a_mkind, .ref a_mwidth, .ref a_mreset, .ref a_mop, .ref a_mka, .ref a_mkb, .ref a_mkc, .ref a_mheld, .int (nI mN), .ref a_msort, .ref a_mof, .ref a_mfrom, .int (nI mMs), .ref a_mbit, .ref a_mdone, .ref a_mrests, .ref a_mxx, .ref a_myy, .ref a_mdepth, .ref a_mone, .int (nI mG), .int (nI mCk), .int mFw, .int (nI mRd), .ref a_mbefore, .ref a_mfirst, .ref a_mturned])), (a_mkind, .inl (cI, 14, .inl (nF mKd))), (a_mwidth, .inl (cI, 14, .inl (nF mWd))), (a_mreset, .inl (cI, 14, .inl (nF mRs))), (a_mheld, .inl (cI, 14, .inl (nF mHd))), (a_mop, .inl (cI, 14, .inl mOp)), (a_mka, .inl (cI, 14, .inl mAa)), (a_mkb, .inl (cI, 14, .inl mAb)), (a_mkc, .inl (cI, 14, .inl mAc))] H := hP
  have hD : va_D A [(a_mod, .inr (6, [.ref a_mkind, .ref a_mwidth, .ref a_mreset, .ref a_mop, .ref a_mka, .ref a_mkb, .ref a_mkc, .ref a_mheld, .int (nI mN), .ref a_msort, .ref a_mof, .ref a_mfrom, .int (nI mMs), .ref a_mbit, .ref a_mdone, .ref a_mrests, .ref a_mxx, .ref a_myy, .ref a_mdepth, .ref a_mone, .int (nI mG), .int (nI mCk), .int mFw, .int (nI mRd), .ref a_mbefore, .ref a_mfirst, .ref a_mturned])), (a_mkind, .inl (cI, 14, .inl (nF mKd))), (a_mwidth, .inl (cI, 14, .inl (nF mWd))), (a_mreset, .inl (cI, 14, .inl (nF mRs))), (a_mheld, .inl (cI, 14, .inl (nF mHd))), (a_mop, .inl (cI, 14, .inl mOp)), (a_mka, .inl (cI, 14, .inl mAa)), (a_mkb, .inl (cI, 14, .inl mAb)), (a_mkc, .inl (cI, 14, .inl mAc))] := hD
  refine lv_if_ne (tgt := 24) hx hb d_Mod_node_19 (by decide) (fun c19 => ?_) (fun c19 => ?_)
  · skip
    have c19 : ¬ ((inr (nI (nwd mN mWd o0 x y z)).toInt ((1 : Nat) : Int) ((8 : Nat) : Int)) = 0) := fun h => c19 ((nI_eq0 (Nat.lt_of_le_of_lt (inr_le _ _ _) (by decide))).mpr h)
    have q19 := inr_1 c19
    rw [nI_ti (by omega)] at q19
    refine lv_aload_n hx hb d_Mod_node_24 rfl (lv_at hl 1 rfl) ?_
    refine va_get (D := (dC, dI)) (ci := 6) (v := .int (nI mN)) (C := R_Mod) (T := F_Mod) (N := 27) hx hb hts (wi i_Mod) hown hK hP 0 rfl rfl 8 (by decide) (hts _ (mt 550 rfl rfl)) (fun _ h9 => h9) rfl d_Mod_node_25 ?_
    refine lv_bipush (v := nI 14) hx hb d_Mod_node_28 rfl ?_
    refine lv_icmp_ne (tgt := 36) hx hb d_Mod_node_30 (by decide) (fun c30 => ?_) (fun c30 => ?_)
    · skip
      have c30 : ¬ (mN = 14) := fun h => c30 ((nI_eq (by omega) (by omega)).mpr h)
      refine lv_aload_n hx hb d_Mod_node_36 rfl (lv_at hl 1 rfl) ?_
      refine lv_iconst (v := nI 3) hx hb d_Mod_node_37 rfl ?_
      refine lv_iload hx hb d_Mod_node_38 (lv_at hl 0 rfl) ?_
      refine k_i (wr := [(a_mka, .inl (cI, 14, .inl mAa)), (a_mkb, .inl (cI, 14, .inl mAb)), (a_mkc, .inl (cI, 14, .inl mAc))]) (w2 := fun (u : Unit) => [(a_mod, .inr (6, [.ref a_mkind, .ref a_mwidth, .ref a_mreset, .ref a_mop, .ref a_mka, .ref a_mkb, .ref a_mkc, .ref a_mheld, .int (nI (mN + 1)), .ref a_msort, .ref a_mof, .ref a_mfrom, .int (nI mMs), .ref a_mbit, .ref a_mdone, .ref a_mrests, .ref a_mxx, .ref a_myy, .ref a_mdepth, .ref a_mone, .int (nI mG), .int (nI mCk), .int mFw, .int (nI 0), .ref a_mbefore, .ref a_mfirst, .ref a_mturned])), (a_mkind, .inl (cI, 14, .inl (nF (upN mKd mN 3)))), (a_mwidth, .inl (cI, 14, .inl (nF (upN mWd mN (nwd mN mWd o0 x y z))))), (a_mreset, .inl (cI, 14, .inl (nF (upN mRs mN 0)))), (a_mheld, .inl (cI, 14, .inl (nF (upN mHd mN 0)))), (a_mop, .inl (cI, 14, .inl (upd mOp mN (-2 : Int32)))), (a_mka, .inl (cI, 14, .inl mAa)), (a_mkb, .inl (cI, 14, .inl mAb)), (a_mkc, .inl (cI, 14, .inl mAc))]) (va_runV (As := [.int (nI 3), .int (nI (nwd mN mWd o0 x y z))]) (rest := []) ⟨hx, hb, hml, hown, hts⟩ (c_Mod_make l dC dI cI cZ a_mod a_mkind a_mwidth a_mreset a_mop a_mka a_mkb a_mkc a_mheld a_msort a_mof a_mfrom a_mbit a_mdone a_mrests a_mxx a_myy a_mdepth a_mone a_mbefore a_mfirst a_mturned tt H.size mN mMs mG mCk mFw mRd mKd mWd mRs mHd mOp 3 (nwd mN mWd o0 x y z) (by omega) (by omega) (by omega) (by omega) b_mKd b_mWd b_mRs b_mHd (by omega) (by omega) (by omega)) (cwV 2 hts (gd_V in_tl (mw 631 rfl rfl) (mw 633 rfl rfl) (mw 19 rfl rfl) (mw 47 rfl rfl) (mw 634 rfl rfl)) rfl rfl rfl (by decide +kernel) ⟨Nat.le_of_ble_eq_true rfl, Nat.le_of_ble_eq_true rfl⟩) (k_preV hK hP hD hS hA hE [0, 1, 2, 3, 4, 5] (by decide) rfl 6 0 rfl rfl) rfl rfl hl.1 rfl (lv_room (Nat.le_of_ble_eq_true rfl)) d_Mod_node_40 ⟨Nat.zero_le _, Nat.zero_le _⟩) hP hD hS hA [0, 1, 2, 3, 4, 5] [6, 7, 8] [3, 4, 5, 6, 7, 8, 0, 1, 2] rfl rfl (by decide) (by decide) (by decide) (fun _ => rfl) (fun r_3 u H locs hw hP hD hS => ?_)
      obtain rfl : (r_3 = nI mN) := hw
      have hP : va_P (dC, dI) classes [(a_mod, .inr (6, [.ref a_mkind, .ref a_mwidth, .ref a_mreset, .ref a_mop, .ref a_mka, .ref a_mkb, .ref a_mkc, .ref a_mheld, .int (nI (mN + 1)), .ref a_msort, .ref a_mof, .ref a_mfrom, .int (nI mMs), .ref a_mbit, .ref a_mdone, .ref a_mrests, .ref a_mxx, .ref a_myy, .ref a_mdepth, .ref a_mone, .int (nI mG), .int (nI mCk), .int mFw, .int (nI 0), .ref a_mbefore, .ref a_mfirst, .ref a_mturned])), (a_mkind, .inl (cI, 14, .inl (nF (upN mKd mN 3)))), (a_mwidth, .inl (cI, 14, .inl (nF (upN mWd mN (nwd mN mWd o0 x y z))))), (a_mreset, .inl (cI, 14, .inl (nF (upN mRs mN 0)))), (a_mheld, .inl (cI, 14, .inl (nF (upN mHd mN 0)))), (a_mop, .inl (cI, 14, .inl (upd mOp mN (-2 : Int32)))), (a_mka, .inl (cI, 14, .inl mAa)), (a_mkb, .inl (cI, 14, .inl mAb)), (a_mkc, .inl (cI, 14, .inl mAc))] H := hP
      have hD : va_D A [(a_mod, .inr (6, [.ref a_mkind, .ref a_mwidth, .ref a_mreset, .ref a_mop, .ref a_mka, .ref a_mkb, .ref a_mkc, .ref a_mheld, .int (nI (mN + 1)), .ref a_msort, .ref a_mof, .ref a_mfrom, .int (nI mMs), .ref a_mbit, .ref a_mdone, .ref a_mrests, .ref a_mxx, .ref a_myy, .ref a_mdepth, .ref a_mone, .int (nI mG), .int (nI mCk), .int mFw, .int (nI 0), .ref a_mbefore, .ref a_mfirst, .ref a_mturned])), (a_mkind, .inl (cI, 14, .inl (nF (upN mKd mN 3)))), (a_mwidth, .inl (cI, 14, .inl (nF (upN mWd mN (nwd mN mWd o0 x y z))))), (a_mreset, .inl (cI, 14, .inl (nF (upN mRs mN 0)))), (a_mheld, .inl (cI, 14, .inl (nF (upN mHd mN 0)))), (a_mop, .inl (cI, 14, .inl (upd mOp mN (-2 : Int32)))), (a_mka, .inl (cI, 14, .inl mAa)), (a_mkb, .inl (cI, 14, .inl mAb)), (a_mkc, .inl (cI, 14, .inl mAc))] := hD
      have bK : ∀ j, upN mKd mN 3 j < 4 := upN_lt b_mKd (by omega)
      have bW : ∀ j, upN mWd mN (nwd mN mWd o0 x y z) j < 9 := upN_lt b_mWd (by omega)
      have bR : ∀ j, upN mRs mN 0 j < 256 := upN_lt b_mRs (by decide)
      have bH : ∀ j, upN mHd mN 0 j < 256 := upN_lt b_mHd (by decide)
      refine lv_istore (lv' := [(6, .int (nI mN)), (5, .int (nI (nwd mN mWd o0 x y z))), (0, .ref a_mod), (1, .int o0), (2, .int x), (3, .int y), (4, .int z)]) hx hb d_Mod_node_43 hl (by decide) rfl (fun ls hl => ?_)
      refine lv_aload_n hx hb d_Mod_node_45 rfl (lv_at hl 2 rfl) ?_
      refine va_get (D := (dC, dI)) (ci := 6) (v := .ref a_mop) (C := R_Mod) (T := F_Mod) (N := 27) hx hb hts (wi i_Mod) hown hK hP 0 rfl rfl 3 (by decide) (hts _ (mt 545 rfl rfl)) (fun _ h9 => h9) rfl d_Mod_node_46 ?_
      refine lv_iload hx hb d_Mod_node_49 (lv_at hl 0 rfl) ?_
      refine lv_iload_n hx hb d_Mod_node_51 rfl (lv_at hl 3 rfl) ?_
      refine k_rst hx hb hK hP hD hS 5 0 rfl rfl (by omega) (by decide) d_Mod_node_52 (fun H locs hP hD hS => ?_)
      have hP : va_P (dC, dI) classes [(a_mod, .inr (6, [.ref a_mkind, .ref a_mwidth, .ref a_mreset, .ref a_mop, .ref a_mka, .ref a_mkb, .ref a_mkc, .ref a_mheld, .int (nI (mN + 1)), .ref a_msort, .ref a_mof, .ref a_mfrom, .int (nI mMs), .ref a_mbit, .ref a_mdone, .ref a_mrests, .ref a_mxx, .ref a_myy, .ref a_mdepth, .ref a_mone, .int (nI mG), .int (nI mCk), .int mFw, .int (nI 0), .ref a_mbefore, .ref a_mfirst, .ref a_mturned])), (a_mkind, .inl (cI, 14, .inl (nF (upN mKd mN 3)))), (a_mwidth, .inl (cI, 14, .inl (nF (upN mWd mN (nwd mN mWd o0 x y z))))), (a_mreset, .inl (cI, 14, .inl (nF (upN mRs mN 0)))), (a_mheld, .inl (cI, 14, .inl (nF (upN mHd mN 0)))), (a_mop, .inl (cI, 14, .inl (upd (upd mOp mN (-2 : Int32)) mN o0))), (a_mka, .inl (cI, 14, .inl mAa)), (a_mkb, .inl (cI, 14, .inl mAb)), (a_mkc, .inl (cI, 14, .inl mAc))] H := hP
      have hD : va_D A [(a_mod, .inr (6, [.ref a_mkind, .ref a_mwidth, .ref a_mreset, .ref a_mop, .ref a_mka, .ref a_mkb, .ref a_mkc, .ref a_mheld, .int (nI (mN + 1)), .ref a_msort, .ref a_mof, .ref a_mfrom, .int (nI mMs), .ref a_mbit, .ref a_mdone, .ref a_mrests, .ref a_mxx, .ref a_myy, .ref a_mdepth, .ref a_mone, .int (nI mG), .int (nI mCk), .int mFw, .int (nI 0), .ref a_mbefore, .ref a_mfirst, .ref a_mturned])), (a_mkind, .inl (cI, 14, .inl (nF (upN mKd mN 3)))), (a_mwidth, .inl (cI, 14, .inl (nF (upN mWd mN (nwd mN mWd o0 x y z))))), (a_mreset, .inl (cI, 14, .inl (nF (upN mRs mN 0)))), (a_mheld, .inl (cI, 14, .inl (nF (upN mHd mN 0)))), (a_mop, .inl (cI, 14, .inl (upd (upd mOp mN (-2 : Int32)) mN o0))), (a_mka, .inl (cI, 14, .inl mAa)), (a_mkb, .inl (cI, 14, .inl mAb)), (a_mkc, .inl (cI, 14, .inl mAc))] := hD
      refine lv_aload_n hx hb d_Mod_node_53 rfl (lv_at hl 2 rfl) ?_
      refine va_get (D := (dC, dI)) (ci := 6) (v := .ref a_mka) (C := R_Mod) (T := F_Mod) (N := 27) hx hb hts (wi i_Mod) hown hK hP 0 rfl rfl 4 (by decide) (hts _ (mt 546 rfl rfl)) (fun _ h9 => h9) rfl d_Mod_node_54 ?_
      refine lv_iload hx hb d_Mod_node_57 (lv_at hl 0 rfl) ?_
      refine lv_iload_n hx hb d_Mod_node_59 rfl (lv_at hl 4 rfl) ?_
      refine k_rst hx hb hK hP hD hS 6 0 rfl rfl (by omega) (by decide) d_Mod_node_60 (fun H locs hP hD hS => ?_)
      have hP : va_P (dC, dI) classes [(a_mod, .inr (6, [.ref a_mkind, .ref a_mwidth, .ref a_mreset, .ref a_mop, .ref a_mka, .ref a_mkb, .ref a_mkc, .ref a_mheld, .int (nI (mN + 1)), .ref a_msort, .ref a_mof, .ref a_mfrom, .int (nI mMs), .ref a_mbit, .ref a_mdone, .ref a_mrests, .ref a_mxx, .ref a_myy, .ref a_mdepth, .ref a_mone, .int (nI mG), .int (nI mCk), .int mFw, .int (nI 0), .ref a_mbefore, .ref a_mfirst, .ref a_mturned])), (a_mkind, .inl (cI, 14, .inl (nF (upN mKd mN 3)))), (a_mwidth, .inl (cI, 14, .inl (nF (upN mWd mN (nwd mN mWd o0 x y z))))), (a_mreset, .inl (cI, 14, .inl (nF (upN mRs mN 0)))), (a_mheld, .inl (cI, 14, .inl (nF (upN mHd mN 0)))), (a_mop, .inl (cI, 14, .inl (upd (upd mOp mN (-2 : Int32)) mN o0))), (a_mka, .inl (cI, 14, .inl (upd mAa mN x))), (a_mkb, .inl (cI, 14, .inl mAb)), (a_mkc, .inl (cI, 14, .inl mAc))] H := hP
      have hD : va_D A [(a_mod, .inr (6, [.ref a_mkind, .ref a_mwidth, .ref a_mreset, .ref a_mop, .ref a_mka, .ref a_mkb, .ref a_mkc, .ref a_mheld, .int (nI (mN + 1)), .ref a_msort, .ref a_mof, .ref a_mfrom, .int (nI mMs), .ref a_mbit, .ref a_mdone, .ref a_mrests, .ref a_mxx, .ref a_myy, .ref a_mdepth, .ref a_mone, .int (nI mG), .int (nI mCk), .int mFw, .int (nI 0), .ref a_mbefore, .ref a_mfirst, .ref a_mturned])), (a_mkind, .inl (cI, 14, .inl (nF (upN mKd mN 3)))), (a_mwidth, .inl (cI, 14, .inl (nF (upN mWd mN (nwd mN mWd o0 x y z))))), (a_mreset, .inl (cI, 14, .inl (nF (upN mRs mN 0)))), (a_mheld, .inl (cI, 14, .inl (nF (upN mHd mN 0)))), (a_mop, .inl (cI, 14, .inl (upd (upd mOp mN (-2 : Int32)) mN o0))), (a_mka, .inl (cI, 14, .inl (upd mAa mN x))), (a_mkb, .inl (cI, 14, .inl mAb)), (a_mkc, .inl (cI, 14, .inl mAc))] := hD
      refine lv_aload_n hx hb d_Mod_node_61 rfl (lv_at hl 2 rfl) ?_
      refine va_get (D := (dC, dI)) (ci := 6) (v := .ref a_mkb) (C := R_Mod) (T := F_Mod) (N := 27) hx hb hts (wi i_Mod) hown hK hP 0 rfl rfl 5 (by decide) (hts _ (mt 547 rfl rfl)) (fun _ h9 => h9) rfl d_Mod_node_62 ?_
      refine lv_iload hx hb d_Mod_node_65 (lv_at hl 0 rfl) ?_
      refine lv_iload_n hx hb d_Mod_node_67 rfl (lv_at hl 5 rfl) ?_
      refine k_rst hx hb hK hP hD hS 7 0 rfl rfl (by omega) (by decide) d_Mod_node_68 (fun H locs hP hD hS => ?_)
      have hP : va_P (dC, dI) classes [(a_mod, .inr (6, [.ref a_mkind, .ref a_mwidth, .ref a_mreset, .ref a_mop, .ref a_mka, .ref a_mkb, .ref a_mkc, .ref a_mheld, .int (nI (mN + 1)), .ref a_msort, .ref a_mof, .ref a_mfrom, .int (nI mMs), .ref a_mbit, .ref a_mdone, .ref a_mrests, .ref a_mxx, .ref a_myy, .ref a_mdepth, .ref a_mone, .int (nI mG), .int (nI mCk), .int mFw, .int (nI 0), .ref a_mbefore, .ref a_mfirst, .ref a_mturned])), (a_mkind, .inl (cI, 14, .inl (nF (upN mKd mN 3)))), (a_mwidth, .inl (cI, 14, .inl (nF (upN mWd mN (nwd mN mWd o0 x y z))))), (a_mreset, .inl (cI, 14, .inl (nF (upN mRs mN 0)))), (a_mheld, .inl (cI, 14, .inl (nF (upN mHd mN 0)))), (a_mop, .inl (cI, 14, .inl (upd (upd mOp mN (-2 : Int32)) mN o0))), (a_mka, .inl (cI, 14, .inl (upd mAa mN x))), (a_mkb, .inl (cI, 14, .inl (upd mAb mN y))), (a_mkc, .inl (cI, 14, .inl mAc))] H := hP
      have hD : va_D A [(a_mod, .inr (6, [.ref a_mkind, .ref a_mwidth, .ref a_mreset, .ref a_mop, .ref a_mka, .ref a_mkb, .ref a_mkc, .ref a_mheld, .int (nI (mN + 1)), .ref a_msort, .ref a_mof, .ref a_mfrom, .int (nI mMs), .ref a_mbit, .ref a_mdone, .ref a_mrests, .ref a_mxx, .ref a_myy, .ref a_mdepth, .ref a_mone, .int (nI mG), .int (nI mCk), .int mFw, .int (nI 0), .ref a_mbefore, .ref a_mfirst, .ref a_mturned])), (a_mkind, .inl (cI, 14, .inl (nF (upN mKd mN 3)))), (a_mwidth, .inl (cI, 14, .inl (nF (upN mWd mN (nwd mN mWd o0 x y z))))), (a_mreset, .inl (cI, 14, .inl (nF (upN mRs mN 0)))), (a_mheld, .inl (cI, 14, .inl (nF (upN mHd mN 0)))), (a_mop, .inl (cI, 14, .inl (upd (upd mOp mN (-2 : Int32)) mN o0))), (a_mka, .inl (cI, 14, .inl (upd mAa mN x))), (a_mkb, .inl (cI, 14, .inl (upd mAb mN y))), (a_mkc, .inl (cI, 14, .inl mAc))] := hD
      refine lv_aload_n hx hb d_Mod_node_69 rfl (lv_at hl 2 rfl) ?_
      refine va_get (D := (dC, dI)) (ci := 6) (v := .ref a_mkc) (C := R_Mod) (T := F_Mod) (N := 27) hx hb hts (wi i_Mod) hown hK hP 0 rfl rfl 6 (by decide) (hts _ (mt 548 rfl rfl)) (fun _ h9 => h9) rfl d_Mod_node_70 ?_
      refine lv_iload hx hb d_Mod_node_73 (lv_at hl 0 rfl) ?_
      refine lv_iload hx hb d_Mod_node_75 (lv_at hl 6 rfl) ?_
      refine k_rst hx hb hK hP hD hS 8 0 rfl rfl (by omega) (by decide) d_Mod_node_77 (fun H locs hP hD hS => ?_)
      have hP : va_P (dC, dI) classes [(a_mod, .inr (6, [.ref a_mkind, .ref a_mwidth, .ref a_mreset, .ref a_mop, .ref a_mka, .ref a_mkb, .ref a_mkc, .ref a_mheld, .int (nI (mN + 1)), .ref a_msort, .ref a_mof, .ref a_mfrom, .int (nI mMs), .ref a_mbit, .ref a_mdone, .ref a_mrests, .ref a_mxx, .ref a_myy, .ref a_mdepth, .ref a_mone, .int (nI mG), .int (nI mCk), .int mFw, .int (nI 0), .ref a_mbefore, .ref a_mfirst, .ref a_mturned])), (a_mkind, .inl (cI, 14, .inl (nF (upN mKd mN 3)))), (a_mwidth, .inl (cI, 14, .inl (nF (upN mWd mN (nwd mN mWd o0 x y z))))), (a_mreset, .inl (cI, 14, .inl (nF (upN mRs mN 0)))), (a_mheld, .inl (cI, 14, .inl (nF (upN mHd mN 0)))), (a_mop, .inl (cI, 14, .inl (upd (upd mOp mN (-2 : Int32)) mN o0))), (a_mka, .inl (cI, 14, .inl (upd mAa mN x))), (a_mkb, .inl (cI, 14, .inl (upd mAb mN y))), (a_mkc, .inl (cI, 14, .inl (upd mAc mN z)))] H := hP
      have hD : va_D A [(a_mod, .inr (6, [.ref a_mkind, .ref a_mwidth, .ref a_mreset, .ref a_mop, .ref a_mka, .ref a_mkb, .ref a_mkc, .ref a_mheld, .int (nI (mN + 1)), .ref a_msort, .ref a_mof, .ref a_mfrom, .int (nI mMs), .ref a_mbit, .ref a_mdone, .ref a_mrests, .ref a_mxx, .ref a_myy, .ref a_mdepth, .ref a_mone, .int (nI mG), .int (nI mCk), .int mFw, .int (nI 0), .ref a_mbefore, .ref a_mfirst, .ref a_mturned])), (a_mkind, .inl (cI, 14, .inl (nF (upN mKd mN 3)))), (a_mwidth, .inl (cI, 14, .inl (nF (upN mWd mN (nwd mN mWd o0 x y z))))), (a_mreset, .inl (cI, 14, .inl (nF (upN mRs mN 0)))), (a_mheld, .inl (cI, 14, .inl (nF (upN mHd mN 0)))), (a_mop, .inl (cI, 14, .inl (upd (upd mOp mN (-2 : Int32)) mN o0))), (a_mka, .inl (cI, 14, .inl (upd mAa mN x))), (a_mkb, .inl (cI, 14, .inl (upd mAb mN y))), (a_mkc, .inl (cI, 14, .inl (upd mAc mN z)))] := hD
      refine lv_iload hx hb d_Mod_node_78 (lv_at hl 0 rfl) ?_
      exact W.iret (v := nI mN) hx hb hr (fun t ht hW => ⟨⟨nI mN, (mN + 1, upN mKd mN 3, upN mWd mN (nwd mN mWd o0 x y z), upN mRs mN 0, upN mHd mN 0, upd (upd mOp mN (-2 : Int32)) mN o0, upd mAa mN x, upd mAb mN y, upd mAc mN z, 0), rfl, ⟨(show (mN + 1) ≤ 14 from by omega), bK, bW, bR, bH, (show 0 ≤ 1 from by omega), (show ((nwd mN mWd o0 x y z < 1 ∨ 8 < nwd mN mWd o0 x y z) ∧ (-1) = (nI mN) ∧ mN = (mN + 1) ∧ mKd = (upN mKd mN 3) ∧ mWd = (upN mWd mN (nwd mN mWd o0 x y z)) ∧ mRs = (upN mRs mN 0) ∧ mHd = (upN mHd mN 0) ∧ mOp = (upd (upd mOp mN (-2 : Int32)) mN o0) ∧ mAa = (upd mAa mN x) ∧ mAb = (upd mAb mN y) ∧ mAc = (upd mAc mN z) ∧ mRd = 0) ∨ (1 ≤ nwd mN mWd o0 x y z ∧ nwd mN mWd o0 x y z ≤ 8 ∧ mN = 14 ∧ (-3) = (nI mN) ∧ mN = (mN + 1) ∧ mKd = (upN mKd mN 3) ∧ mWd = (upN mWd mN (nwd mN mWd o0 x y z)) ∧ mRs = (upN mRs mN 0) ∧ mHd = (upN mHd mN 0) ∧ mOp = (upd (upd mOp mN (-2 : Int32)) mN o0) ∧ mAa = (upd mAa mN x) ∧ mAb = (upd mAb mN y) ∧ mAc = (upd mAc mN z) ∧ mRd = 0) ∨ (1 ≤ nwd mN mWd o0 x y z ∧ nwd mN mWd o0 x y z ≤ 8 ∧ mN < 14 ∧ nI mN = (nI mN) ∧ mN + 1 = (mN + 1) ∧ upN mKd mN 3 = (upN mKd mN 3) ∧ upN mWd mN (nwd mN mWd o0 x y z) = (upN mWd mN (nwd mN mWd o0 x y z)) ∧ upN mRs mN 0 = (upN mRs mN 0) ∧ upN mHd mN 0 = (upN mHd mN 0) ∧ upd mOp mN o0 = (upd (upd mOp mN (-2 : Int32)) mN o0) ∧ upd mAa mN x = (upd mAa mN x) ∧ upd mAb mN y = (upd mAb mN y) ∧ upd mAc mN z = (upd mAc mN z) ∧ 0 = 0) from Or.inr (Or.inr ⟨by omega, by omega, by omega, rfl, rfl, rfl, rfl, rfl, rfl, by rw [upd_upd], rfl, rfl, rfl, rfl⟩))⟩, by rw [ht]; exact hP, va_K.moved hW.alike hK, hD⟩, hS.F ht⟩) hS.2.2 d_Mod_node_80
    · skip
      have c30 : mN = 14 := (nI_eq (by omega) (by omega)).mp c30
      refine lv_bipush (v := (-3 : Int32)) hx hb d_Mod_node_33 rfl ?_
      exact W.iret (v := (-3 : Int32)) hx hb hr (fun t ht hW => ⟨⟨(-3 : Int32), (mN, mKd, mWd, mRs, mHd, mOp, mAa, mAb, mAc, mRd), rfl, ⟨(show mN ≤ 14 from by omega), b_mKd, b_mWd, b_mRs, b_mHd, (show mRd ≤ 1 from by omega), (show ((nwd mN mWd o0 x y z < 1 ∨ 8 < nwd mN mWd o0 x y z) ∧ (-1) = (-3 : Int32) ∧ mN = mN ∧ mKd = mKd ∧ mWd = mWd ∧ mRs = mRs ∧ mHd = mHd ∧ mOp = mOp ∧ mAa = mAa ∧ mAb = mAb ∧ mAc = mAc ∧ mRd = mRd) ∨ (1 ≤ nwd mN mWd o0 x y z ∧ nwd mN mWd o0 x y z ≤ 8 ∧ mN = 14 ∧ (-3) = (-3 : Int32) ∧ mN = mN ∧ mKd = mKd ∧ mWd = mWd ∧ mRs = mRs ∧ mHd = mHd ∧ mOp = mOp ∧ mAa = mAa ∧ mAb = mAb ∧ mAc = mAc ∧ mRd = mRd) ∨ (1 ≤ nwd mN mWd o0 x y z ∧ nwd mN mWd o0 x y z ≤ 8 ∧ mN < 14 ∧ nI mN = (-3 : Int32) ∧ mN + 1 = mN ∧ upN mKd mN 3 = mKd ∧ upN mWd mN (nwd mN mWd o0 x y z) = mWd ∧ upN mRs mN 0 = mRs ∧ upN mHd mN 0 = mHd ∧ upd mOp mN o0 = mOp ∧ upd mAa mN x = mAa ∧ upd mAb mN y = mAb ∧ upd mAc mN z = mAc ∧ 0 = mRd) from Or.inr (Or.inl ⟨by omega, by omega, c30, rfl, rfl, rfl, rfl, rfl, rfl, rfl, rfl, rfl, rfl, rfl⟩))⟩, by rw [ht]; exact hP, va_K.moved hW.alike hK, hD⟩, hS.F ht⟩) hS.2.2 d_Mod_node_35
  · skip
    have c19 : (inr (nI (nwd mN mWd o0 x y z)).toInt ((1 : Nat) : Int) ((8 : Nat) : Int)) = 0 := (nI_eq0 (Nat.lt_of_le_of_lt (inr_le _ _ _) (by decide))).mp c19
    have q19 := inr_0 c19
    rw [nI_ti (by omega)] at q19
    refine lv_iconst (v := (-1 : Int32)) hx hb d_Mod_node_22 rfl ?_
    exact W.iret (v := (-1 : Int32)) hx hb hr (fun t ht hW => ⟨⟨(-1 : Int32), (mN, mKd, mWd, mRs, mHd, mOp, mAa, mAb, mAc, mRd), rfl, ⟨(show mN ≤ 14 from by omega), b_mKd, b_mWd, b_mRs, b_mHd, (show mRd ≤ 1 from by omega), (show ((nwd mN mWd o0 x y z < 1 ∨ 8 < nwd mN mWd o0 x y z) ∧ (-1) = (-1 : Int32) ∧ mN = mN ∧ mKd = mKd ∧ mWd = mWd ∧ mRs = mRs ∧ mHd = mHd ∧ mOp = mOp ∧ mAa = mAa ∧ mAb = mAb ∧ mAc = mAc ∧ mRd = mRd) ∨ (1 ≤ nwd mN mWd o0 x y z ∧ nwd mN mWd o0 x y z ≤ 8 ∧ mN = 14 ∧ (-3) = (-1 : Int32) ∧ mN = mN ∧ mKd = mKd ∧ mWd = mWd ∧ mRs = mRs ∧ mHd = mHd ∧ mOp = mOp ∧ mAa = mAa ∧ mAb = mAb ∧ mAc = mAc ∧ mRd = mRd) ∨ (1 ≤ nwd mN mWd o0 x y z ∧ nwd mN mWd o0 x y z ≤ 8 ∧ mN < 14 ∧ nI mN = (-1 : Int32) ∧ mN + 1 = mN ∧ upN mKd mN 3 = mKd ∧ upN mWd mN (nwd mN mWd o0 x y z) = mWd ∧ upN mRs mN 0 = mRs ∧ upN mHd mN 0 = mHd ∧ upd mOp mN o0 = mOp ∧ upd mAa mN x = mAa ∧ upd mAb mN y = mAb ∧ upd mAc mN z = mAc ∧ 0 = mRd) from Or.inl ⟨by omega, rfl, rfl, rfl, rfl, rfl, rfl, rfl, rfl, rfl, rfl, rfl⟩)⟩, by rw [ht]; exact hP, va_K.moved hW.alike hK, hD⟩, hS.F ht⟩) hS.2.2 d_Mod_node_23
set_option maxHeartbeats 4000000 in
set_option maxRecDepth 100000 in
theorem c_Mod_deep (l : Launch) (dC : Nat → ClassId) (dI : Nat → Nat → Nat) (cI cZ : ClassId) (a_mod a_mkind a_mwidth a_mreset a_mop a_mka a_mkb a_mkc a_mheld a_msort a_mof a_mfrom a_mbit a_mdone a_mrests a_mxx a_myy a_mdepth a_mone a_mbefore a_mfirst a_mturned : Nat) (tt sz : Nat) (mN : Nat) (mMs : Nat) (mG : Nat) (mCk : Nat) (mFw : Int32) (mRd : Nat) (mSo : Nat → Nat) (q1 : Nat) (b_mN : mN ≤ 14) (b_mMs : mMs ≤ 20) (b_mG : mG ≤ 1280) (b_mRd : mRd ≤ 1) (b_mSo : ∀ j, mSo j < 4) (hLG : LG mSo mMs) (hq1 : q1 ≤ mMs) : Met l y_Mod_deep w_Mod_deep ({ frames := 0, cells := 0, slots := 0, locals := 0 }) (va_Pc [.ref a_mod, .int (nI q1)] (PW (dC, dI) classes [(cI, .int), (cZ, .boolean)] tt [(a_mod, .inr (6, [.ref a_mkind, .ref a_mwidth, .ref a_mreset, .ref a_mop, .ref a_mka, .ref a_mkb, .ref a_mkc, .ref a_mheld, .int (nI mN), .ref a_msort, .ref a_mof, .ref a_mfrom, .int (nI mMs), .ref a_mbit, .ref a_mdone, .ref a_mrests, .ref a_mxx, .ref a_myy, .ref a_mdepth, .ref a_mone, .int (nI mG), .int (nI mCk), .int mFw, .int (nI mRd), .ref a_mbefore, .ref a_mfirst, .ref a_mturned])), (a_msort, .inl (cI, 20, .inl (nF mSo)))] sz)) (va_Qi (fun (r : Int32) (u : Unit) => (r = nI (dp mSo q1))) (AT (dC, dI) classes [(cI, .int), (cZ, .boolean)] (va_A [(a_mod, .inr (6, [.ref a_mkind, .ref a_mwidth, .ref a_mreset, .ref a_mop, .ref a_mka, .ref a_mkb, .ref a_mkc, .ref a_mheld, .int (nI mN), .ref a_msort, .ref a_mof, .ref a_mfrom, .int (nI mMs), .ref a_mbit, .ref a_mdone, .ref a_mrests, .ref a_mxx, .ref a_myy, .ref a_mdepth, .ref a_mone, .int (nI mG), .int (nI mCk), .int mFw, .int (nI mRd), .ref a_mbefore, .ref a_mfirst, .ref a_mturned])), (a_msort, .inl (cI, 20, .inl (nF mSo)))] sz) (fun (u : Unit) => [(a_mod, .inr (6, [.ref a_mkind, .ref a_mwidth, .ref a_mreset, .ref a_mop, .ref a_mka, .ref a_mkb, .ref a_mkc, .ref a_mheld, .int (nI mN), .ref a_msort, .ref a_mof, .ref a_mfrom, .int (nI mMs), .ref a_mbit, .ref a_mdone, .ref a_mrests, .ref a_mxx, .ref a_myy, .ref a_mdepth, .ref a_mone, .int (nI mG), .int (nI mCk), .int mFw, .int (nI mRd), .ref a_mbefore, .ref a_mfirst, .ref a_mturned])), (a_msort, .inl (cI, 20, .inl (nF mSo)))])) (va_A [(a_mod, .inr (6, [.ref a_mkind, .ref a_mwidth, .ref a_mreset, .ref a_mop, .ref a_mka, .ref a_mkb, .ref a_mkc, .ref a_mheld, .int (nI mN), .ref a_msort, .ref a_mof, .ref a_mfrom, .int (nI mMs), .ref a_mbit, .ref a_mdone, .ref a_mrests, .ref a_mxx, .ref a_myy, .ref a_mdepth, .ref a_mone, .int (nI mG), .int (nI mCk), .int mFw, .int (nI mRd), .ref a_mbefore, .ref a_mfirst, .ref a_mturned])), (a_msort, .inl (cI, 20, .inl (nF mSo)))] sz)) 0 0 (va_A [(a_mod, .inr (6, [.ref a_mkind, .ref a_mwidth, .ref a_mreset, .ref a_mop, .ref a_mka, .ref a_mkb, .ref a_mkc, .ref a_mheld, .int (nI mN), .ref a_msort, .ref a_mof, .ref a_mfrom, .int (nI mMs), .ref a_mbit, .ref a_mdone, .ref a_mrests, .ref a_mxx, .ref a_myy, .ref a_mdepth, .ref a_mone, .int (nI mG), .int (nI mCk), .int mFw, .int (nI mRd), .ref a_mbefore, .ref a_mfirst, .ref a_mturned])), (a_msort, .inl (cI, 20, .inl (nF mSo)))] sz) := by
  refine Met.ofW (cc := b_Mod_deep) (maxL := 4) (ret := (some .int)) (by decide) rfl ?_
  intro p e s m args below meth c s₁ B hml hv
  obtain ⟨rfl, hsz, hP, hK, hD0, hE⟩ := hv
  have hx := B.exec
  have hb := B.bytes
  have hr := B.returns
  have hts := atoms_spec (ws := w_Mod_deep) B.pre
  have hown : s.vm.findClass R_Mod = some m.cls := findClass_of_methodNamed B.named
  have hlocks := B.notSynchronized
  subst hsz
  have hD := hD0.self (sz := s.heap.size)
  generalize hAe : va_A [(a_mod, .inr (6, [.ref a_mkind, .ref a_mwidth, .ref a_mreset, .ref a_mop, .ref a_mka, .ref a_mkb, .ref a_mkc, .ref a_mheld, .int (nI mN), .ref a_msort, .ref a_mof, .ref a_mfrom, .int (nI mMs), .ref a_mbit, .ref a_mdone, .ref a_mrests, .ref a_mxx, .ref a_myy, .ref a_mdepth, .ref a_mone, .int (nI mG), .int (nI mCk), .int mFw, .int (nI mRd), .ref a_mbefore, .ref a_mfirst, .ref a_mturned])), (a_msort, .inl (cI, 20, .inl (nF mSo)))] s.heap.size = A at hD hE ⊢
  have hA : ∀ q : Nat, s.heap.size ≤ q → A q := fun q h => by rw [← hAe]; exact Or.inr h
  have hS : va_S A s.heap s.heap [] := va_S.rf
  have hP : va_P (dC, dI) classes [(a_mod, .inr (6, [.ref a_mkind, .ref a_mwidth, .ref a_mreset, .ref a_mop, .ref a_mka, .ref a_mkb, .ref a_mkc, .ref a_mheld, .int (nI mN), .ref a_msort, .ref a_mof, .ref a_mfrom, .int (nI mMs), .ref a_mbit, .ref a_mdone, .ref a_mrests, .ref a_mxx, .ref a_myy, .ref a_mdepth, .ref a_mone, .int (nI mG), .int (nI mCk), .int mFw, .int (nI mRd), .ref a_mbefore, .ref a_mfirst, .ref a_mturned])), (a_msort, .inl (cI, 20, .inl (nF mSo)))] s.heap := hP
  have hl := lv_entry ([.ref a_mod, .int (nI q1)]) (n := 4) (Nat.le_of_ble_eq_true rfl)
  rw [lg_entry_eq]
  generalize (lg_sl ([.ref a_mod, .int (nI q1)]) ++ List.replicate (4 - (lg_sl ([.ref a_mod, .int (nI q1)])).length) Slot.unset).toArray = ls at hl ⊢
  have hl : lv_has ls 4 [(0, .ref a_mod), (1, .int (nI q1))] := hl
  refine lv_iconst (v := nI 0) hx hb d_Mod_deep_0 rfl ?_
  refine lv_istore_n (lv' := [(2, .int (nI 0)), (0, .ref a_mod), (1, .int (nI q1))]) hx hb d_Mod_deep_1 rfl hl (by decide) rfl (fun ls hl => ?_)
  refine lv_iconst (v := nI 0) hx hb d_Mod_deep_2 rfl ?_
  refine lv_istore_n (lv' := [(3, .int (nI 0)), (2, .int (nI 0)), (0, .ref a_mod), (1, .int (nI q1))]) hx hb d_Mod_deep_3 rfl hl (by decide) rfl (fun ls hl => ?_)
  have hI_1 : (0 = dp mSo 0) ∧ (0 ≤ q1) := ⟨rfl, (by omega)⟩
  refine k_loop (σ := Nat × Nat) (D := (dC, dI)) (cl := classes) (A := A) (H0 := s.heap) (fun x => [(a_mod, .inr (6, [.ref a_mkind, .ref a_mwidth, .ref a_mreset, .ref a_mop, .ref a_mka, .ref a_mkb, .ref a_mkc, .ref a_mheld, .int (nI mN), .ref a_msort, .ref a_mof, .ref a_mfrom, .int (nI mMs), .ref a_mbit, .ref a_mdone, .ref a_mrests, .ref a_mxx, .ref a_myy, .ref a_mdepth, .ref a_mone, .int (nI mG), .int (nI mCk), .int mFw, .int (nI mRd), .ref a_mbefore, .ref a_mfirst, .ref a_mturned])), (a_msort, .inl (cI, 20, .inl (nF mSo)))]) (fun x => [(3, .int (nI x.2)), (2, .int (nI x.1)), (0, .ref a_mod), (1, .int (nI q1))]) (fun x => (x.1 = dp mSo x.2) ∧ (x.2 ≤ q1)) (fun x => q1 - x.2) ?_ (0, 0) hI_1 hP hD hS (lv_sub hl [0, 1, 2, 3] rfl)
  rintro ⟨d, k⟩ hI ih_2 H locs ls hP hD hS hl
  obtain ⟨hd, hk⟩ : (d = dp mSo k) ∧ (k ≤ q1) := hI
  have hP : va_P (dC, dI) classes [(a_mod, .inr (6, [.ref a_mkind, .ref a_mwidth, .ref a_mreset, .ref a_mop, .ref a_mka, .ref a_mkb, .ref a_mkc, .ref a_mheld, .int (nI mN), .ref a_msort, .ref a_mof, .ref a_mfrom, .int (nI mMs), .ref a_mbit, .ref a_mdone, .ref a_mrests, .ref a_mxx, .ref a_myy, .ref a_mdepth, .ref a_mone, .int (nI mG), .int (nI mCk), .int mFw, .int (nI mRd), .ref a_mbefore, .ref a_mfirst, .ref a_mturned])), (a_msort, .inl (cI, 20, .inl (nF mSo)))] H := hP
  have hD : va_D A [(a_mod, .inr (6, [.ref a_mkind, .ref a_mwidth, .ref a_mreset, .ref a_mop, .ref a_mka, .ref a_mkb, .ref a_mkc, .ref a_mheld, .int (nI mN), .ref a_msort, .ref a_mof, .ref a_mfrom, .int (nI mMs), .ref a_mbit, .ref a_mdone, .ref a_mrests, .ref a_mxx, .ref a_myy, .ref a_mdepth, .ref a_mone, .int (nI mG), .int (nI mCk), .int mFw, .int (nI mRd), .ref a_mbefore, .ref a_mfirst, .ref a_mturned])), (a_msort, .inl (cI, 20, .inl (nF mSo)))] := hD
  have hl : lv_has ls 4 [(3, .int (nI k)), (2, .int (nI d)), (0, .ref a_mod), (1, .int (nI q1))] := hl
  refine lv_iload_n hx hb d_Mod_deep_4 rfl (lv_at hl 0 rfl) ?_
  refine lv_iload_n hx hb d_Mod_deep_5 rfl (lv_at hl 3 rfl) ?_
  refine lv_icmp_ge (tgt := 47) hx hb d_Mod_deep_6 (by decide) (fun c6 => ?_) (fun c6 => ?_)
  · skip
    have c6 : q1 ≤ k := (nI_leI (by omega) (by omega)).mp c6
    refine lv_iload_n hx hb d_Mod_deep_47 rfl (lv_at hl 1 rfl) ?_
    exact W.iret (v := nI d) hx hb hr (fun t ht hW => ⟨⟨nI d, (), rfl, (by rw [hd, show k = q1 by omega]), by rw [ht]; exact hP, va_K.moved hW.alike hK, hD⟩, hS.F ht⟩) hS.2.2 d_Mod_deep_48
  · skip
    have c6 : ¬ (q1 ≤ k) := fun h => c6 ((nI_leI (by omega) (by omega)).mpr h)
    have g1 := hLG k (by omega)
    have g4 := dp_le hLG k (by omega)
    refine lv_iload_n hx hb d_Mod_deep_9 rfl (lv_at hl 1 rfl) ?_
    refine lv_aload_n hx hb d_Mod_deep_10 rfl (lv_at hl 2 rfl) ?_
    refine va_get (D := (dC, dI)) (ci := 6) (v := .ref a_msort) (C := R_Mod) (T := F_Mod) (N := 27) hx hb hts (wi i_Mod) hown hK hP 0 rfl rfl 9 (by decide) (hts _ (mt 551 rfl rfl)) (fun _ h9 => h9) rfl d_Mod_deep_11 ?_
    refine lv_iload_n hx hb d_Mod_deep_14 rfl (lv_at hl 0 rfl) ?_
    refine k_ild hx hb hK hP 1 0 rfl rfl (by omega) (by decide) d_Mod_deep_15 ?_
    have hb_3 := b_mSo k
    refine lv_iconst (v := nI 1) hx hb d_Mod_deep_16 rfl ?_
    refine lv_icmp_ne (tgt := 24) hx hb d_Mod_deep_17 (by decide) (fun c17 => ?_) (fun c17 => ?_)
    · skip
      have c17 : ¬ ((mSo k) = 1) := fun h => c17 ((nI_eq (by omega) (by omega)).mpr h)
      refine lv_aload_n hx hb d_Mod_deep_24 rfl (lv_at hl 2 rfl) ?_
      refine va_get (D := (dC, dI)) (ci := 6) (v := .ref a_msort) (C := R_Mod) (T := F_Mod) (N := 27) hx hb hts (wi i_Mod) hown hK hP 0 rfl rfl 9 (by decide) (hts _ (mt 551 rfl rfl)) (fun _ h9 => h9) rfl d_Mod_deep_25 ?_
      refine lv_iload_n hx hb d_Mod_deep_28 rfl (lv_at hl 0 rfl) ?_
      refine k_ild hx hb hK hP 1 0 rfl rfl (by omega) (by decide) d_Mod_deep_29 ?_
      have hb_4 := b_mSo k
      refine lv_iconst (v := nI 3) hx hb d_Mod_deep_30 rfl ?_
      refine lv_icmp_ne (tgt := 38) hx hb d_Mod_deep_31 (by decide) (fun c31 => ?_) (fun c31 => ?_)
      · skip
        have c31 : ¬ ((mSo k) = 3) := fun h => c31 ((nI_eq (by omega) (by omega)).mpr h)
        refine lv_iconst (v := nI 0) hx hb d_Mod_deep_38 rfl ?_
        refine lv_iadd hx hb d_Mod_deep_39 ?_
        refine k_top (nI_add _ _) ?_
        refine lv_istore_n (lv' := [(2, .int (nI (d + 0))), (3, .int (nI k)), (0, .ref a_mod), (1, .int (nI q1))]) hx hb d_Mod_deep_40 rfl hl (by decide) rfl (fun ls hl => ?_)
        refine lv_iinc (v := nI (k + 1)) (lv' := [(3, .int (nI (k + 1))), (2, .int (nI (d + 0))), (0, .ref a_mod), (1, .int (nI q1))]) hx hb d_Mod_deep_41 hl (k := 1) rfl (k_inc _ 1) (by decide) rfl (fun ls hl => ?_)
        refine lv_goto (tgt := 4) hx hb d_Mod_deep_44 (by decide) ?_
        have hI_5 : ((d + 0) = dp mSo (k + 1)) ∧ ((k + 1) ≤ q1) := ⟨(by rw [hd]; exact (dp_o c17 c31).symm), (by omega)⟩
        exact ih_2 (d + 0, k + 1) hI_5 (show q1 - (k + 1) < q1 - k from by omega) _ _ _ hP hD hS (lv_sub hl [0, 1, 2, 3] rfl)
      · skip
        have c31 : (mSo k) = 3 := (nI_eq (by omega) (by omega)).mp c31
        have g2 := g1.2.1 c31
        refine lv_iconst (v := (-1 : Int32)) hx hb d_Mod_deep_34 rfl ?_
        refine lv_goto (tgt := 39) hx hb d_Mod_deep_35 (by decide) ?_
        refine lv_iadd hx hb d_Mod_deep_39 ?_
        refine k_top (show (nI d) + (-1 : Int32) = nI (d - 1) from (k_m1 (by omega))) ?_
        refine lv_istore_n (lv' := [(2, .int (nI (d - 1))), (3, .int (nI k)), (0, .ref a_mod), (1, .int (nI q1))]) hx hb d_Mod_deep_40 rfl hl (by decide) rfl (fun ls hl => ?_)
        refine lv_iinc (v := nI (k + 1)) (lv' := [(3, .int (nI (k + 1))), (2, .int (nI (d - 1))), (0, .ref a_mod), (1, .int (nI q1))]) hx hb d_Mod_deep_41 hl (k := 1) rfl (k_inc _ 1) (by decide) rfl (fun ls hl => ?_)
        refine lv_goto (tgt := 4) hx hb d_Mod_deep_44 (by decide) ?_
        have hI_6 : ((d - 1) = dp mSo (k + 1)) ∧ ((k + 1) ≤ q1) := ⟨(by rw [hd]; exact (dp_e c31).symm), (by omega)⟩
        exact ih_2 (d - 1, k + 1) hI_6 (show q1 - (k + 1) < q1 - k from by omega) _ _ _ hP hD hS (lv_sub hl [0, 1, 2, 3] rfl)
    · skip
      have c17 : (mSo k) = 1 := (nI_eq (by omega) (by omega)).mp c17
      refine lv_iconst (v := nI 1) hx hb d_Mod_deep_20 rfl ?_
      refine lv_goto (tgt := 39) hx hb d_Mod_deep_21 (by decide) ?_
      refine lv_iadd hx hb d_Mod_deep_39 ?_
      refine k_top (nI_add _ _) ?_
      refine lv_istore_n (lv' := [(2, .int (nI (d + 1))), (3, .int (nI k)), (0, .ref a_mod), (1, .int (nI q1))]) hx hb d_Mod_deep_40 rfl hl (by decide) rfl (fun ls hl => ?_)
      refine lv_iinc (v := nI (k + 1)) (lv' := [(3, .int (nI (k + 1))), (2, .int (nI (d + 1))), (0, .ref a_mod), (1, .int (nI q1))]) hx hb d_Mod_deep_41 hl (k := 1) rfl (k_inc _ 1) (by decide) rfl (fun ls hl => ?_)
      refine lv_goto (tgt := 4) hx hb d_Mod_deep_44 (by decide) ?_
      have hI_7 : ((d + 1) = dp mSo (k + 1)) ∧ ((k + 1) ≤ q1) := ⟨(by rw [hd]; exact (dp_w c17).symm), (by omega)⟩
      exact ih_2 (d + 1, k + 1) hI_7 (show q1 - (k + 1) < q1 - k from by omega) _ _ _ hP hD hS (lv_sub hl [0, 1, 2, 3] rfl)
set_option maxHeartbeats 4000000 in
set_option maxRecDepth 100000 in
theorem c_Mod_hasElse (l : Launch) (dC : Nat → ClassId) (dI : Nat → Nat → Nat) (cI cZ : ClassId) (a_mod a_mkind a_mwidth a_mreset a_mop a_mka a_mkb a_mkc a_mheld a_msort a_mof a_mfrom a_mbit a_mdone a_mrests a_mxx a_myy a_mdepth a_mone a_mbefore a_mfirst a_mturned : Nat) (tt sz : Nat) (mN : Nat) (mMs : Nat) (mG : Nat) (mCk : Nat) (mFw : Int32) (mRd : Nat) (mSo : Nat → Nat) (b_mN : mN ≤ 14) (b_mMs : mMs ≤ 20) (b_mG : mG ≤ 1280) (b_mRd : mRd ≤ 1) (b_mSo : ∀ j, mSo j < 4) (hLG : LG mSo mMs) (hd0 : 0 < dp mSo mMs) : Met l y_Mod_hasElse w_Mod_hasElse ({ frames := 1, cells := 0, slots := 0, locals := 23 }) (va_Pc [.ref a_mod] (PW (dC, dI) classes [(cI, .int), (cZ, .boolean)] tt [(a_mod, .inr (6, [.ref a_mkind, .ref a_mwidth, .ref a_mreset, .ref a_mop, .ref a_mka, .ref a_mkb, .ref a_mkc, .ref a_mheld, .int (nI mN), .ref a_msort, .ref a_mof, .ref a_mfrom, .int (nI mMs), .ref a_mbit, .ref a_mdone, .ref a_mrests, .ref a_mxx, .ref a_myy, .ref a_mdepth, .ref a_mone, .int (nI mG), .int (nI mCk), .int mFw, .int (nI mRd), .ref a_mbefore, .ref a_mfirst, .ref a_mturned])), (a_msort, .inl (cI, 20, .inl (nF mSo)))] sz)) (va_Qi (fun (r : Int32) (u : Unit) => (r = nI (es mSo mMs (dp mSo mMs)))) (AT (dC, dI) classes [(cI, .int), (cZ, .boolean)] (va_A [(a_mod, .inr (6, [.ref a_mkind, .ref a_mwidth, .ref a_mreset, .ref a_mop, .ref a_mka, .ref a_mkb, .ref a_mkc, .ref a_mheld, .int (nI mN), .ref a_msort, .ref a_mof, .ref a_mfrom, .int (nI mMs), .ref a_mbit, .ref a_mdone, .ref a_mrests, .ref a_mxx, .ref a_myy, .ref a_mdepth, .ref a_mone, .int (nI mG), .int (nI mCk), .int mFw, .int (nI mRd), .ref a_mbefore, .ref a_mfirst, .ref a_mturned])), (a_msort, .inl (cI, 20, .inl (nF mSo)))] sz) (fun (u : Unit) => [(a_mod, .inr (6, [.ref a_mkind, .ref a_mwidth, .ref a_mreset, .ref a_mop, .ref a_mka, .ref a_mkb, .ref a_mkc, .ref a_mheld, .int (nI mN), .ref a_msort, .ref a_mof, .ref a_mfrom, .int (nI mMs), .ref a_mbit, .ref a_mdone, .ref a_mrests, .ref a_mxx, .ref a_myy, .ref a_mdepth, .ref a_mone, .int (nI mG), .int (nI mCk), .int mFw, .int (nI mRd), .ref a_mbefore, .ref a_mfirst, .ref a_mturned])), (a_msort, .inl (cI, 20, .inl (nF mSo)))])) (va_A [(a_mod, .inr (6, [.ref a_mkind, .ref a_mwidth, .ref a_mreset, .ref a_mop, .ref a_mka, .ref a_mkb, .ref a_mkc, .ref a_mheld, .int (nI mN), .ref a_msort, .ref a_mof, .ref a_mfrom, .int (nI mMs), .ref a_mbit, .ref a_mdone, .ref a_mrests, .ref a_mxx, .ref a_myy, .ref a_mdepth, .ref a_mone, .int (nI mG), .int (nI mCk), .int mFw, .int (nI mRd), .ref a_mbefore, .ref a_mfirst, .ref a_mturned])), (a_msort, .inl (cI, 20, .inl (nF mSo)))] sz)) 0 0 (va_A [(a_mod, .inr (6, [.ref a_mkind, .ref a_mwidth, .ref a_mreset, .ref a_mop, .ref a_mka, .ref a_mkb, .ref a_mkc, .ref a_mheld, .int (nI mN), .ref a_msort, .ref a_mof, .ref a_mfrom, .int (nI mMs), .ref a_mbit, .ref a_mdone, .ref a_mrests, .ref a_mxx, .ref a_myy, .ref a_mdepth, .ref a_mone, .int (nI mG), .int (nI mCk), .int mFw, .int (nI mRd), .ref a_mbefore, .ref a_mfirst, .ref a_mturned])), (a_msort, .inl (cI, 20, .inl (nF mSo)))] sz) := by
  refine Met.ofW (cc := b_Mod_hasElse) (maxL := 3) (ret := (some .boolean)) (by decide) rfl ?_
  intro p e s m args below meth c s₁ B hml hv
  obtain ⟨rfl, hsz, hP, hK, hD0, hE⟩ := hv
  have hx := B.exec
  have hb := B.bytes
  have hr := B.returns
  have hts := atoms_spec (ws := w_Mod_hasElse) B.pre
  have hown : s.vm.findClass R_Mod = some m.cls := findClass_of_methodNamed B.named
  have hlocks := B.notSynchronized
  subst hsz
  have hD := hD0.self (sz := s.heap.size)
  generalize hAe : va_A [(a_mod, .inr (6, [.ref a_mkind, .ref a_mwidth, .ref a_mreset, .ref a_mop, .ref a_mka, .ref a_mkb, .ref a_mkc, .ref a_mheld, .int (nI mN), .ref a_msort, .ref a_mof, .ref a_mfrom, .int (nI mMs), .ref a_mbit, .ref a_mdone, .ref a_mrests, .ref a_mxx, .ref a_myy, .ref a_mdepth, .ref a_mone, .int (nI mG), .int (nI mCk), .int mFw, .int (nI mRd), .ref a_mbefore, .ref a_mfirst, .ref a_mturned])), (a_msort, .inl (cI, 20, .inl (nF mSo)))] s.heap.size = A at hD hE ⊢
  have hA : ∀ q : Nat, s.heap.size ≤ q → A q := fun q h => by rw [← hAe]; exact Or.inr h
  have hS : va_S A s.heap s.heap [] := va_S.rf
  have hP : va_P (dC, dI) classes [(a_mod, .inr (6, [.ref a_mkind, .ref a_mwidth, .ref a_mreset, .ref a_mop, .ref a_mka, .ref a_mkb, .ref a_mkc, .ref a_mheld, .int (nI mN), .ref a_msort, .ref a_mof, .ref a_mfrom, .int (nI mMs), .ref a_mbit, .ref a_mdone, .ref a_mrests, .ref a_mxx, .ref a_myy, .ref a_mdepth, .ref a_mone, .int (nI mG), .int (nI mCk), .int mFw, .int (nI mRd), .ref a_mbefore, .ref a_mfirst, .ref a_mturned])), (a_msort, .inl (cI, 20, .inl (nF mSo)))] s.heap := hP
  have hl := lv_entry ([.ref a_mod]) (n := 3) (Nat.le_of_ble_eq_true rfl)
  rw [lg_entry_eq]
  generalize (lg_sl ([.ref a_mod]) ++ List.replicate (3 - (lg_sl ([.ref a_mod])).length) Slot.unset).toArray = ls at hl ⊢
  have hl : lv_has ls 3 [(0, .ref a_mod)] := hl
  refine lv_aload_n hx hb d_Mod_hasElse_0 rfl (lv_at hl 0 rfl) ?_
  refine lv_aload_n hx hb d_Mod_hasElse_1 rfl (lv_at hl 0 rfl) ?_
  refine va_get (D := (dC, dI)) (ci := 6) (v := .int (nI mMs)) (C := R_Mod) (T := F_Mod) (N := 27) hx hb hts (wi i_Mod) hown hK hP 0 rfl rfl 12 (by decide) (hts _ (mt 554 rfl rfl)) (fun _ h9 => h9) rfl d_Mod_hasElse_2 ?_
  refine k_i (wr := []) (w2 := fun (u : Unit) => [(a_mod, .inr (6, [.ref a_mkind, .ref a_mwidth, .ref a_mreset, .ref a_mop, .ref a_mka, .ref a_mkb, .ref a_mkc, .ref a_mheld, .int (nI mN), .ref a_msort, .ref a_mof, .ref a_mfrom, .int (nI mMs), .ref a_mbit, .ref a_mdone, .ref a_mrests, .ref a_mxx, .ref a_myy, .ref a_mdepth, .ref a_mone, .int (nI mG), .int (nI mCk), .int mFw, .int (nI mRd), .ref a_mbefore, .ref a_mfirst, .ref a_mturned])), (a_msort, .inl (cI, 20, .inl (nF mSo)))]) (va_runV (As := [.int (nI mMs)]) (rest := []) ⟨hx, hb, hml, hown, hts⟩ (c_Mod_deep l dC dI cI cZ a_mod a_mkind a_mwidth a_mreset a_mop a_mka a_mkb a_mkc a_mheld a_msort a_mof a_mfrom a_mbit a_mdone a_mrests a_mxx a_myy a_mdepth a_mone a_mbefore a_mfirst a_mturned tt s.heap.size mN mMs mG mCk mFw mRd mSo mMs (by omega) (by omega) (by omega) (by omega) b_mSo hLG (by omega)) (cwV 1 hts (gd_V in_tl (mw 654 rfl rfl) (mw 656 rfl rfl) (mw 22 rfl rfl) (mw 47 rfl rfl) (mw 657 rfl rfl)) rfl rfl rfl (by decide +kernel) ⟨Nat.le_of_ble_eq_true rfl, Nat.le_of_ble_eq_true rfl⟩) (k_preV hK hP hD hS hA hE [0, 1] (by decide) rfl 6 0 rfl rfl) rfl rfl hl.1 rfl (lv_room (Nat.le_of_ble_eq_true rfl)) d_Mod_hasElse_5 ⟨Nat.zero_le _, Nat.zero_le _⟩) hP hD hS hA [0, 1] [] [0, 1] rfl rfl (by decide) (by decide) (by decide) (fun _ => rfl) (fun r_1 u H locs hw hP hD hS => ?_)
  obtain rfl : (r_1 = nI (dp mSo mMs)) := hw
  have hP : va_P (dC, dI) classes [(a_mod, .inr (6, [.ref a_mkind, .ref a_mwidth, .ref a_mreset, .ref a_mop, .ref a_mka, .ref a_mkb, .ref a_mkc, .ref a_mheld, .int (nI mN), .ref a_msort, .ref a_mof, .ref a_mfrom, .int (nI mMs), .ref a_mbit, .ref a_mdone, .ref a_mrests, .ref a_mxx, .ref a_myy, .ref a_mdepth, .ref a_mone, .int (nI mG), .int (nI mCk), .int mFw, .int (nI mRd), .ref a_mbefore, .ref a_mfirst, .ref a_mturned])), (a_msort, .inl (cI, 20, .inl (nF mSo)))] H := hP
  have hD : va_D A [(a_mod, .inr (6, [.ref a_mkind, .ref a_mwidth, .ref a_mreset, .ref a_mop, .ref a_mka, .ref a_mkb, .ref a_mkc, .ref a_mheld, .int (nI mN), .ref a_msort, .ref a_mof, .ref a_mfrom, .int (nI mMs), .ref a_mbit, .ref a_mdone, .ref a_mrests, .ref a_mxx, .ref a_myy, .ref a_mdepth, .ref a_mone, .int (nI mG), .int (nI mCk), .int mFw, .int (nI mRd), .ref a_mbefore, .ref a_mfirst, .ref a_mturned])), (a_msort, .inl (cI, 20, .inl (nF mSo)))] := hD
  refine lv_istore_n (lv' := [(1, .int (nI (dp mSo mMs))), (0, .ref a_mod)]) hx hb d_Mod_hasElse_8 rfl hl (by decide) rfl (fun ls hl => ?_)
  refine lv_aload_n hx hb d_Mod_hasElse_9 rfl (lv_at hl 1 rfl) ?_
  refine va_get (D := (dC, dI)) (ci := 6) (v := .int (nI mMs)) (C := R_Mod) (T := F_Mod) (N := 27) hx hb hts (wi i_Mod) hown hK hP 0 rfl rfl 12 (by decide) (hts _ (mt 554 rfl rfl)) (fun _ h9 => h9) rfl d_Mod_hasElse_10 ?_
  refine lv_iconst (v := nI 1) hx hb d_Mod_hasElse_13 rfl ?_
  refine lv_isub hx hb d_Mod_hasElse_14 ?_
  refine k_top (pk_sub (by have := dp_pos hd0; omega)) ?_
  refine lv_istore_n (lv' := [(2, .int (nI (mMs - 1))), (1, .int (nI (dp mSo mMs))), (0, .ref a_mod)]) hx hb d_Mod_hasElse_15 rfl hl (by decide) rfl (fun ls hl => ?_)
  have hmp := dp_pos hd0
  have g4 := dp_le hLG mMs (Nat.le_refl _)
  have hI_2 : ((mMs - 1) < mMs) ∧ (dp mSo mMs ≤ dp mSo ((mMs - 1) + 1)) ∧ (es mSo mMs (dp mSo mMs) = es mSo ((mMs - 1) + 1) (dp mSo mMs)) := ⟨(by omega), (by rw [show mMs - 1 + 1 = mMs by omega]; exact Nat.le_refl _), (by rw [show mMs - 1 + 1 = mMs by omega])⟩
  refine k_loop (σ := Nat) (D := (dC, dI)) (cl := classes) (A := A) (H0 := s.heap) (fun x => [(a_mod, .inr (6, [.ref a_mkind, .ref a_mwidth, .ref a_mreset, .ref a_mop, .ref a_mka, .ref a_mkb, .ref a_mkc, .ref a_mheld, .int (nI mN), .ref a_msort, .ref a_mof, .ref a_mfrom, .int (nI mMs), .ref a_mbit, .ref a_mdone, .ref a_mrests, .ref a_mxx, .ref a_myy, .ref a_mdepth, .ref a_mone, .int (nI mG), .int (nI mCk), .int mFw, .int (nI mRd), .ref a_mbefore, .ref a_mfirst, .ref a_mturned])), (a_msort, .inl (cI, 20, .inl (nF mSo)))]) (fun x => [(2, .int (nI x)), (1, .int (nI (dp mSo mMs))), (0, .ref a_mod)]) (fun x => (x < mMs) ∧ (dp mSo mMs ≤ dp mSo (x + 1)) ∧ (es mSo mMs (dp mSo mMs) = es mSo (x + 1) (dp mSo mMs))) (fun x => x) ?_ (mMs - 1) hI_2 hP hD hS (lv_sub hl [0, 1, 2] rfl)
  intro k hI ih_3 H locs ls hP hD hS hl
  obtain ⟨hk, hdp, hes⟩ : (k < mMs) ∧ (dp mSo mMs ≤ dp mSo (k + 1)) ∧ (es mSo mMs (dp mSo mMs) = es mSo (k + 1) (dp mSo mMs)) := hI
  have hP : va_P (dC, dI) classes [(a_mod, .inr (6, [.ref a_mkind, .ref a_mwidth, .ref a_mreset, .ref a_mop, .ref a_mka, .ref a_mkb, .ref a_mkc, .ref a_mheld, .int (nI mN), .ref a_msort, .ref a_mof, .ref a_mfrom, .int (nI mMs), .ref a_mbit, .ref a_mdone, .ref a_mrests, .ref a_mxx, .ref a_myy, .ref a_mdepth, .ref a_mone, .int (nI mG), .int (nI mCk), .int mFw, .int (nI mRd), .ref a_mbefore, .ref a_mfirst, .ref a_mturned])), (a_msort, .inl (cI, 20, .inl (nF mSo)))] H := hP
  have hD : va_D A [(a_mod, .inr (6, [.ref a_mkind, .ref a_mwidth, .ref a_mreset, .ref a_mop, .ref a_mka, .ref a_mkb, .ref a_mkc, .ref a_mheld, .int (nI mN), .ref a_msort, .ref a_mof, .ref a_mfrom, .int (nI mMs), .ref a_mbit, .ref a_mdone, .ref a_mrests, .ref a_mxx, .ref a_myy, .ref a_mdepth, .ref a_mone, .int (nI mG), .int (nI mCk), .int mFw, .int (nI mRd), .ref a_mbefore, .ref a_mfirst, .ref a_mturned])), (a_msort, .inl (cI, 20, .inl (nF mSo)))] := hD
  have hl : lv_has ls 3 [(2, .int (nI k)), (1, .int (nI (dp mSo mMs))), (0, .ref a_mod)] := hl
  refine lv_aload_n hx hb d_Mod_hasElse_16 rfl (lv_at hl 2 rfl) ?_
  refine va_get (D := (dC, dI)) (ci := 6) (v := .ref a_msort) (C := R_Mod) (T := F_Mod) (N := 27) hx hb hts (wi i_Mod) hown hK hP 0 rfl rfl 9 (by decide) (hts _ (mt 551 rfl rfl)) (fun _ h9 => h9) rfl d_Mod_hasElse_17 ?_
  refine lv_iload_n hx hb d_Mod_hasElse_20 rfl (lv_at hl 0 rfl) ?_
  refine k_ild hx hb hK hP 1 0 rfl rfl (by omega) (by decide) d_Mod_hasElse_21 ?_
  have hb_4 := b_mSo k
  refine lv_iconst (v := nI 1) hx hb d_Mod_hasElse_22 rfl ?_
  refine lv_icmp_ne (tgt := 37) hx hb d_Mod_hasElse_23 (by decide) (fun c23 => ?_) (fun c23 => ?_)
  · skip
    have c23 : ¬ ((mSo k) = 1) := fun h => c23 ((nI_eq (by omega) (by omega)).mpr h)
    refine lv_aload_n hx hb d_Mod_hasElse_37 rfl (lv_at hl 2 rfl) ?_
    refine va_get (D := (dC, dI)) (ci := 6) (v := .ref a_msort) (C := R_Mod) (T := F_Mod) (N := 27) hx hb hts (wi i_Mod) hown hK hP 0 rfl rfl 9 (by decide) (hts _ (mt 551 rfl rfl)) (fun _ h9 => h9) rfl d_Mod_hasElse_38 ?_
    refine lv_iload_n hx hb d_Mod_hasElse_41 rfl (lv_at hl 0 rfl) ?_
    refine k_ild hx hb hK hP 1 0 rfl rfl (by omega) (by decide) d_Mod_hasElse_42 ?_
    have hb_5 := b_mSo k
    refine lv_iconst (v := nI 2) hx hb d_Mod_hasElse_43 rfl ?_
    refine lv_icmp_ne (tgt := 58) hx hb d_Mod_hasElse_44 (by decide) (fun c44 => ?_) (fun c44 => ?_)
    · skip
      have c44 : ¬ ((mSo k) = 2) := fun h => c44 ((nI_eq (by omega) (by omega)).mpr h)
      have hn1 : ¬ (mSo k = 1 ∧ dp mSo k = dp mSo mMs - 1) := by omega
      have hn2 : ¬ (mSo k = 2 ∧ dp mSo k = dp mSo mMs) := by omega
      have hb1 := back_dp hdp hn1 hd0
      have hkp := dp_pos (So := mSo) (k := k) (by omega)
      refine lv_iinc (v := nI (k - 1)) (lv' := [(2, .int (nI (k - 1))), (1, .int (nI (dp mSo mMs))), (0, .ref a_mod)]) hx hb d_Mod_hasElse_58 hl (k := 0) rfl (k_dec (by omega)) (by decide) rfl (fun ls hl => ?_)
      refine lv_goto (tgt := 16) hx hb d_Mod_hasElse_61 (by decide) ?_
      have hI_6 : ((k - 1) < mMs) ∧ (dp mSo mMs ≤ dp mSo ((k - 1) + 1)) ∧ (es mSo mMs (dp mSo mMs) = es mSo ((k - 1) + 1) (dp mSo mMs)) := ⟨(by omega), (by rw [show k - 1 + 1 = k by omega]; exact hb1), (by rw [show k - 1 + 1 = k by omega, hes]; exact back_es hn1 hn2 hd0)⟩
      exact ih_3 (k - 1) hI_6 (show (k - 1) < k from by omega) _ _ _ hP hD hS (lv_sub hl [0, 1, 2] rfl)
    · skip
      have c44 : (mSo k) = 2 := (nI_eq (by omega) (by omega)).mp c44
      refine lv_aload_n hx hb d_Mod_hasElse_47 rfl (lv_at hl 2 rfl) ?_
      refine lv_iload_n hx hb d_Mod_hasElse_48 rfl (lv_at hl 0 rfl) ?_
      refine k_i (wr := []) (w2 := fun (u : Unit) => [(a_mod, .inr (6, [.ref a_mkind, .ref a_mwidth, .ref a_mreset, .ref a_mop, .ref a_mka, .ref a_mkb, .ref a_mkc, .ref a_mheld, .int (nI mN), .ref a_msort, .ref a_mof, .ref a_mfrom, .int (nI mMs), .ref a_mbit, .ref a_mdone, .ref a_mrests, .ref a_mxx, .ref a_myy, .ref a_mdepth, .ref a_mone, .int (nI mG), .int (nI mCk), .int mFw, .int (nI mRd), .ref a_mbefore, .ref a_mfirst, .ref a_mturned])), (a_msort, .inl (cI, 20, .inl (nF mSo)))]) (va_runV (As := [.int (nI k)]) (rest := []) ⟨hx, hb, hml, hown, hts⟩ (c_Mod_deep l dC dI cI cZ a_mod a_mkind a_mwidth a_mreset a_mop a_mka a_mkb a_mkc a_mheld a_msort a_mof a_mfrom a_mbit a_mdone a_mrests a_mxx a_myy a_mdepth a_mone a_mbefore a_mfirst a_mturned tt H.size mN mMs mG mCk mFw mRd mSo k (by omega) (by omega) (by omega) (by omega) b_mSo hLG (by omega)) (cwV 1 hts (gd_V in_tl (mw 654 rfl rfl) (mw 656 rfl rfl) (mw 22 rfl rfl) (mw 47 rfl rfl) (mw 657 rfl rfl)) rfl rfl rfl (by decide +kernel) ⟨Nat.le_of_ble_eq_true rfl, Nat.le_of_ble_eq_true rfl⟩) (k_preV hK hP hD hS hA hE [0, 1] (by decide) rfl 6 0 rfl rfl) rfl rfl hl.1 rfl (lv_room (Nat.le_of_ble_eq_true rfl)) d_Mod_hasElse_49 ⟨Nat.zero_le _, Nat.zero_le _⟩) hP hD hS hA [0, 1] [] [0, 1] rfl rfl (by decide) (by decide) (by decide) (fun _ => rfl) (fun r_7 u H locs hw hP hD hS => ?_)
      obtain rfl : (r_7 = nI (dp mSo k)) := hw
      have hP : va_P (dC, dI) classes [(a_mod, .inr (6, [.ref a_mkind, .ref a_mwidth, .ref a_mreset, .ref a_mop, .ref a_mka, .ref a_mkb, .ref a_mkc, .ref a_mheld, .int (nI mN), .ref a_msort, .ref a_mof, .ref a_mfrom, .int (nI mMs), .ref a_mbit, .ref a_mdone, .ref a_mrests, .ref a_mxx, .ref a_myy, .ref a_mdepth, .ref a_mone, .int (nI mG), .int (nI mCk), .int mFw, .int (nI mRd), .ref a_mbefore, .ref a_mfirst, .ref a_mturned])), (a_msort, .inl (cI, 20, .inl (nF mSo)))] H := hP
      have hD : va_D A [(a_mod, .inr (6, [.ref a_mkind, .ref a_mwidth, .ref a_mreset, .ref a_mop, .ref a_mka, .ref a_mkb, .ref a_mkc, .ref a_mheld, .int (nI mN), .ref a_msort, .ref a_mof, .ref a_mfrom, .int (nI mMs), .ref a_mbit, .ref a_mdone, .ref a_mrests, .ref a_mxx, .ref a_myy, .ref a_mdepth, .ref a_mone, .int (nI mG), .int (nI mCk), .int mFw, .int (nI mRd), .ref a_mbefore, .ref a_mfirst, .ref a_mturned])), (a_msort, .inl (cI, 20, .inl (nF mSo)))] := hD
      have g5 := dp_le hLG k (by omega)
      refine lv_iload_n hx hb d_Mod_hasElse_52 rfl (lv_at hl 1 rfl) ?_
      refine lv_icmp_ne (tgt := 58) hx hb d_Mod_hasElse_53 (by decide) (fun c53 => ?_) (fun c53 => ?_)
      · skip
        have c53 : ¬ ((dp mSo k) = (dp mSo mMs)) := fun h => c53 ((nI_eq (by omega) (by omega)).mpr h)
        have hn1 : ¬ (mSo k = 1 ∧ dp mSo k = dp mSo mMs - 1) := by omega
        have hn2 : ¬ (mSo k = 2 ∧ dp mSo k = dp mSo mMs) := by omega
        have hb1 := back_dp hdp hn1 hd0
        have hkp := dp_pos (So := mSo) (k := k) (by omega)
        refine lv_iinc (v := nI (k - 1)) (lv' := [(2, .int (nI (k - 1))), (1, .int (nI (dp mSo mMs))), (0, .ref a_mod)]) hx hb d_Mod_hasElse_58 hl (k := 0) rfl (k_dec (by omega)) (by decide) rfl (fun ls hl => ?_)
        refine lv_goto (tgt := 16) hx hb d_Mod_hasElse_61 (by decide) ?_
        have hI_8 : ((k - 1) < mMs) ∧ (dp mSo mMs ≤ dp mSo ((k - 1) + 1)) ∧ (es mSo mMs (dp mSo mMs) = es mSo ((k - 1) + 1) (dp mSo mMs)) := ⟨(by omega), (by rw [show k - 1 + 1 = k by omega]; exact hb1), (by rw [show k - 1 + 1 = k by omega, hes]; exact back_es hn1 hn2 hd0)⟩
        exact ih_3 (k - 1) hI_8 (show (k - 1) < k from by omega) _ _ _ hP hD hS (lv_sub hl [0, 1, 2] rfl)
      · skip
        have c53 : (dp mSo k) = (dp mSo mMs) := (nI_eq (by omega) (by omega)).mp c53
        refine lv_iconst (v := nI 1) hx hb d_Mod_hasElse_56 rfl ?_
        exact W.zret (v := nI 1) (ty := .boolean) hx hb hr (k_narZ (by omega)) (fun t ht hW => ⟨⟨nI 1, (), rfl, (by rw [hes, es_2 c44, if_pos c53.symm]), by rw [ht]; exact hP, va_K.moved hW.alike hK, hD⟩, hS.F ht⟩) hS.2.2 d_Mod_hasElse_57
  · skip
    have c23 : (mSo k) = 1 := (nI_eq (by omega) (by omega)).mp c23
    refine lv_aload_n hx hb d_Mod_hasElse_26 rfl (lv_at hl 2 rfl) ?_
    refine lv_iload_n hx hb d_Mod_hasElse_27 rfl (lv_at hl 0 rfl) ?_
    refine k_i (wr := []) (w2 := fun (u : Unit) => [(a_mod, .inr (6, [.ref a_mkind, .ref a_mwidth, .ref a_mreset, .ref a_mop, .ref a_mka, .ref a_mkb, .ref a_mkc, .ref a_mheld, .int (nI mN), .ref a_msort, .ref a_mof, .ref a_mfrom, .int (nI mMs), .ref a_mbit, .ref a_mdone, .ref a_mrests, .ref a_mxx, .ref a_myy, .ref a_mdepth, .ref a_mone, .int (nI mG), .int (nI mCk), .int mFw, .int (nI mRd), .ref a_mbefore, .ref a_mfirst, .ref a_mturned])), (a_msort, .inl (cI, 20, .inl (nF mSo)))]) (va_runV (As := [.int (nI k)]) (rest := []) ⟨hx, hb, hml, hown, hts⟩ (c_Mod_deep l dC dI cI cZ a_mod a_mkind a_mwidth a_mreset a_mop a_mka a_mkb a_mkc a_mheld a_msort a_mof a_mfrom a_mbit a_mdone a_mrests a_mxx a_myy a_mdepth a_mone a_mbefore a_mfirst a_mturned tt H.size mN mMs mG mCk mFw mRd mSo k (by omega) (by omega) (by omega) (by omega) b_mSo hLG (by omega)) (cwV 1 hts (gd_V in_tl (mw 654 rfl rfl) (mw 656 rfl rfl) (mw 22 rfl rfl) (mw 47 rfl rfl) (mw 657 rfl rfl)) rfl rfl rfl (by decide +kernel) ⟨Nat.le_of_ble_eq_true rfl, Nat.le_of_ble_eq_true rfl⟩) (k_preV hK hP hD hS hA hE [0, 1] (by decide) rfl 6 0 rfl rfl) rfl rfl hl.1 rfl (lv_room (Nat.le_of_ble_eq_true rfl)) d_Mod_hasElse_28 ⟨Nat.zero_le _, Nat.zero_le _⟩) hP hD hS hA [0, 1] [] [0, 1] rfl rfl (by decide) (by decide) (by decide) (fun _ => rfl) (fun r_9 u H locs hw hP hD hS => ?_)
    obtain rfl : (r_9 = nI (dp mSo k)) := hw
    have hP : va_P (dC, dI) classes [(a_mod, .inr (6, [.ref a_mkind, .ref a_mwidth, .ref a_mreset, .ref a_mop, .ref a_mka, .ref a_mkb, .ref a_mkc, .ref a_mheld, .int (nI mN), .ref a_msort, .ref a_mof, .ref a_mfrom, .int (nI mMs), .ref a_mbit, .ref a_mdone, .ref a_mrests, .ref a_mxx, .ref a_myy, .ref a_mdepth, .ref a_mone, .int (nI mG), .int (nI mCk), .int mFw, .int (nI mRd), .ref a_mbefore, .ref a_mfirst, .ref a_mturned])), (a_msort, .inl (cI, 20, .inl (nF mSo)))] H := hP
    have hD : va_D A [(a_mod, .inr (6, [.ref a_mkind, .ref a_mwidth, .ref a_mreset, .ref a_mop, .ref a_mka, .ref a_mkb, .ref a_mkc, .ref a_mheld, .int (nI mN), .ref a_msort, .ref a_mof, .ref a_mfrom, .int (nI mMs), .ref a_mbit, .ref a_mdone, .ref a_mrests, .ref a_mxx, .ref a_myy, .ref a_mdepth, .ref a_mone, .int (nI mG), .int (nI mCk), .int mFw, .int (nI mRd), .ref a_mbefore, .ref a_mfirst, .ref a_mturned])), (a_msort, .inl (cI, 20, .inl (nF mSo)))] := hD
    have g5 := dp_le hLG k (by omega)
    refine lv_iload_n hx hb d_Mod_hasElse_31 rfl (lv_at hl 1 rfl) ?_
    refine lv_iconst (v := nI 1) hx hb d_Mod_hasElse_32 rfl ?_
    refine lv_isub hx hb d_Mod_hasElse_33 ?_
    refine k_top (pk_sub (by omega)) ?_
    refine lv_icmp_eq (tgt := 64) hx hb d_Mod_hasElse_34 (by decide) (fun c34 => ?_) (fun c34 => ?_)
    · skip
      have c34 : (dp mSo k) = ((dp mSo mMs) - 1) := (nI_eq (by omega) (by omega)).mp c34
      refine lv_iconst (v := nI 0) hx hb d_Mod_hasElse_64 rfl ?_
      exact W.zret (v := nI 0) (ty := .boolean) hx hb hr (k_narZ (by omega)) (fun t ht hW => ⟨⟨nI 0, (), rfl, (by rw [hes, es_1 c23, if_pos (by omega)]), by rw [ht]; exact hP, va_K.moved hW.alike hK, hD⟩, hS.F ht⟩) hS.2.2 d_Mod_hasElse_65
    · skip
      have c34 : ¬ ((dp mSo k) = ((dp mSo mMs) - 1)) := fun h => c34 ((nI_eq (by omega) (by omega)).mpr h)
      refine lv_aload_n hx hb d_Mod_hasElse_37 rfl (lv_at hl 2 rfl) ?_
      refine va_get (D := (dC, dI)) (ci := 6) (v := .ref a_msort) (C := R_Mod) (T := F_Mod) (N := 27) hx hb hts (wi i_Mod) hown hK hP 0 rfl rfl 9 (by decide) (hts _ (mt 551 rfl rfl)) (fun _ h9 => h9) rfl d_Mod_hasElse_38 ?_
      refine lv_iload_n hx hb d_Mod_hasElse_41 rfl (lv_at hl 0 rfl) ?_
      refine k_ild hx hb hK hP 1 0 rfl rfl (by omega) (by decide) d_Mod_hasElse_42 ?_
      have hb_10 := b_mSo k
      refine lv_iconst (v := nI 2) hx hb d_Mod_hasElse_43 rfl ?_
      refine lv_icmp_ne (tgt := 58) hx hb d_Mod_hasElse_44 (by decide) (fun c44 => ?_) (fun c44 => ?_)
      · skip
        have c44 : ¬ ((mSo k) = 2) := fun h => c44 ((nI_eq (by omega) (by omega)).mpr h)
        have hn1 : ¬ (mSo k = 1 ∧ dp mSo k = dp mSo mMs - 1) := by omega
        have hn2 : ¬ (mSo k = 2 ∧ dp mSo k = dp mSo mMs) := by omega
        have hb1 := back_dp hdp hn1 hd0
        have hkp := dp_pos (So := mSo) (k := k) (by omega)
        refine lv_iinc (v := nI (k - 1)) (lv' := [(2, .int (nI (k - 1))), (1, .int (nI (dp mSo mMs))), (0, .ref a_mod)]) hx hb d_Mod_hasElse_58 hl (k := 0) rfl (k_dec (by omega)) (by decide) rfl (fun ls hl => ?_)
        refine lv_goto (tgt := 16) hx hb d_Mod_hasElse_61 (by decide) ?_
        have hI_11 : ((k - 1) < mMs) ∧ (dp mSo mMs ≤ dp mSo ((k - 1) + 1)) ∧ (es mSo mMs (dp mSo mMs) = es mSo ((k - 1) + 1) (dp mSo mMs)) := ⟨(by omega), (by rw [show k - 1 + 1 = k by omega]; exact hb1), (by rw [show k - 1 + 1 = k by omega, hes]; exact back_es hn1 hn2 hd0)⟩
        exact ih_3 (k - 1) hI_11 (show (k - 1) < k from by omega) _ _ _ hP hD hS (lv_sub hl [0, 1, 2] rfl)
      · skip
        have c44 : (mSo k) = 2 := (nI_eq (by omega) (by omega)).mp c44
        refine lv_aload_n hx hb d_Mod_hasElse_47 rfl (lv_at hl 2 rfl) ?_
        refine lv_iload_n hx hb d_Mod_hasElse_48 rfl (lv_at hl 0 rfl) ?_
        refine k_i (wr := []) (w2 := fun (u : Unit) => [(a_mod, .inr (6, [.ref a_mkind, .ref a_mwidth, .ref a_mreset, .ref a_mop, .ref a_mka, .ref a_mkb, .ref a_mkc, .ref a_mheld, .int (nI mN), .ref a_msort, .ref a_mof, .ref a_mfrom, .int (nI mMs), .ref a_mbit, .ref a_mdone, .ref a_mrests, .ref a_mxx, .ref a_myy, .ref a_mdepth, .ref a_mone, .int (nI mG), .int (nI mCk), .int mFw, .int (nI mRd), .ref a_mbefore, .ref a_mfirst, .ref a_mturned])), (a_msort, .inl (cI, 20, .inl (nF mSo)))]) (va_runV (As := [.int (nI k)]) (rest := []) ⟨hx, hb, hml, hown, hts⟩ (c_Mod_deep l dC dI cI cZ a_mod a_mkind a_mwidth a_mreset a_mop a_mka a_mkb a_mkc a_mheld a_msort a_mof a_mfrom a_mbit a_mdone a_mrests a_mxx a_myy a_mdepth a_mone a_mbefore a_mfirst a_mturned tt H.size mN mMs mG mCk mFw mRd mSo k (by omega) (by omega) (by omega) (by omega) b_mSo hLG (by omega)) (cwV 1 hts (gd_V in_tl (mw 654 rfl rfl) (mw 656 rfl rfl) (mw 22 rfl rfl) (mw 47 rfl rfl) (mw 657 rfl rfl)) rfl rfl rfl (by decide +kernel) ⟨Nat.le_of_ble_eq_true rfl, Nat.le_of_ble_eq_true rfl⟩) (k_preV hK hP hD hS hA hE [0, 1] (by decide) rfl 6 0 rfl rfl) rfl rfl hl.1 rfl (lv_room (Nat.le_of_ble_eq_true rfl)) d_Mod_hasElse_49 ⟨Nat.zero_le _, Nat.zero_le _⟩) hP hD hS hA [0, 1] [] [0, 1] rfl rfl (by decide) (by decide) (by decide) (fun _ => rfl) (fun r_12 u H locs hw hP hD hS => ?_)
        obtain rfl : (r_12 = nI (dp mSo k)) := hw
        have hP : va_P (dC, dI) classes [(a_mod, .inr (6, [.ref a_mkind, .ref a_mwidth, .ref a_mreset, .ref a_mop, .ref a_mka, .ref a_mkb, .ref a_mkc, .ref a_mheld, .int (nI mN), .ref a_msort, .ref a_mof, .ref a_mfrom, .int (nI mMs), .ref a_mbit, .ref a_mdone, .ref a_mrests, .ref a_mxx, .ref a_myy, .ref a_mdepth, .ref a_mone, .int (nI mG), .int (nI mCk), .int mFw, .int (nI mRd), .ref a_mbefore, .ref a_mfirst, .ref a_mturned])), (a_msort, .inl (cI, 20, .inl (nF mSo)))] H := hP
        have hD : va_D A [(a_mod, .inr (6, [.ref a_mkind, .ref a_mwidth, .ref a_mreset, .ref a_mop, .ref a_mka, .ref a_mkb, .ref a_mkc, .ref a_mheld, .int (nI mN), .ref a_msort, .ref a_mof, .ref a_mfrom, .int (nI mMs), .ref a_mbit, .ref a_mdone, .ref a_mrests, .ref a_mxx, .ref a_myy, .ref a_mdepth, .ref a_mone, .int (nI mG), .int (nI mCk), .int mFw, .int (nI mRd), .ref a_mbefore, .ref a_mfirst, .ref a_mturned])), (a_msort, .inl (cI, 20, .inl (nF mSo)))] := hD
        have g5 := dp_le hLG k (by omega)
        refine lv_iload_n hx hb d_Mod_hasElse_52 rfl (lv_at hl 1 rfl) ?_
        refine lv_icmp_ne (tgt := 58) hx hb d_Mod_hasElse_53 (by decide) (fun c53 => ?_) (fun c53 => ?_)
        · skip
          have c53 : ¬ ((dp mSo k) = (dp mSo mMs)) := fun h => c53 ((nI_eq (by omega) (by omega)).mpr h)
          have hn1 : ¬ (mSo k = 1 ∧ dp mSo k = dp mSo mMs - 1) := by omega
          have hn2 : ¬ (mSo k = 2 ∧ dp mSo k = dp mSo mMs) := by omega
          have hb1 := back_dp hdp hn1 hd0
          have hkp := dp_pos (So := mSo) (k := k) (by omega)
          refine lv_iinc (v := nI (k - 1)) (lv' := [(2, .int (nI (k - 1))), (1, .int (nI (dp mSo mMs))), (0, .ref a_mod)]) hx hb d_Mod_hasElse_58 hl (k := 0) rfl (k_dec (by omega)) (by decide) rfl (fun ls hl => ?_)
          refine lv_goto (tgt := 16) hx hb d_Mod_hasElse_61 (by decide) ?_
          have hI_13 : ((k - 1) < mMs) ∧ (dp mSo mMs ≤ dp mSo ((k - 1) + 1)) ∧ (es mSo mMs (dp mSo mMs) = es mSo ((k - 1) + 1) (dp mSo mMs)) := ⟨(by omega), (by rw [show k - 1 + 1 = k by omega]; exact hb1), (by rw [show k - 1 + 1 = k by omega, hes]; exact back_es hn1 hn2 hd0)⟩
          exact ih_3 (k - 1) hI_13 (show (k - 1) < k from by omega) _ _ _ hP hD hS (lv_sub hl [0, 1, 2] rfl)
        · skip
          have c53 : (dp mSo k) = (dp mSo mMs) := (nI_eq (by omega) (by omega)).mp c53
          refine lv_iconst (v := nI 1) hx hb d_Mod_hasElse_56 rfl ?_
          exact W.zret (v := nI 1) (ty := .boolean) hx hb hr (k_narZ (by omega)) (fun t ht hW => ⟨⟨nI 1, (), rfl, (by rw [hes, es_2 c44, if_pos c53.symm]), by rw [ht]; exact hP, va_K.moved hW.alike hK, hD⟩, hS.F ht⟩) hS.2.2 d_Mod_hasElse_57
