theorem zd_M_init_0 : decode zb_M_init 0 = .ok (.aload_n 0, 1) := by decide +kernel
theorem zd_M_init_1 : decode zb_M_init 1 = .ok (.invokespecial 1, 3) := by decide +kernel
theorem zd_M_init_4 : decode zb_M_init 4 = .ok (.aload_n 0, 1) := by decide +kernel
theorem zd_M_init_5 : decode zb_M_init 5 = .ok (.bipush 12, 2) := by decide +kernel
theorem zd_M_init_7 : decode zb_M_init 7 = .ok (.newarray .int, 2) := by decide +kernel
theorem zd_M_init_9 : decode zb_M_init 9 = .ok (.putfield 7, 3) := by decide +kernel
theorem zd_M_init_12 : decode zb_M_init 12 = .ok (.aload_n 0, 1) := by decide +kernel
theorem zd_M_init_13 : decode zb_M_init 13 = .ok (.bipush 12, 2) := by decide +kernel
theorem zd_M_init_15 : decode zb_M_init 15 = .ok (.newarray .int, 2) := by decide +kernel
theorem zd_M_init_17 : decode zb_M_init 17 = .ok (.putfield 13, 3) := by decide +kernel
theorem zd_M_init_20 : decode zb_M_init 20 = .ok (.aload_n 0, 1) := by decide +kernel
theorem zd_M_init_21 : decode zb_M_init 21 = .ok (.bipush 12, 2) := by decide +kernel
theorem zd_M_init_23 : decode zb_M_init 23 = .ok (.newarray .int, 2) := by decide +kernel
theorem zd_M_init_25 : decode zb_M_init 25 = .ok (.putfield 16, 3) := by decide +kernel
theorem zd_M_init_28 : decode zb_M_init 28 = .ok (.aload_n 0, 1) := by decide +kernel
theorem zd_M_init_29 : decode zb_M_init 29 = .ok (.bipush 12, 2) := by decide +kernel
theorem zd_M_init_31 : decode zb_M_init 31 = .ok (.newarray .int, 2) := by decide +kernel
theorem zd_M_init_33 : decode zb_M_init 33 = .ok (.putfield 19, 3) := by decide +kernel
theorem zd_M_init_36 : decode zb_M_init 36 = .ok (.aload_n 0, 1) := by decide +kernel
theorem zd_M_init_37 : decode zb_M_init 37 = .ok (.bipush 12, 2) := by decide +kernel
theorem zd_M_init_39 : decode zb_M_init 39 = .ok (.newarray .int, 2) := by decide +kernel
theorem zd_M_init_41 : decode zb_M_init 41 = .ok (.putfield 22, 3) := by decide +kernel
theorem zd_M_init_44 : decode zb_M_init 44 = .ok (.aload_n 0, 1) := by decide +kernel
theorem zd_M_init_45 : decode zb_M_init 45 = .ok (.bipush 12, 2) := by decide +kernel
theorem zd_M_init_47 : decode zb_M_init 47 = .ok (.newarray .int, 2) := by decide +kernel
theorem zd_M_init_49 : decode zb_M_init 49 = .ok (.putfield 25, 3) := by decide +kernel
theorem zd_M_init_52 : decode zb_M_init 52 = .ok (.aload_n 0, 1) := by decide +kernel
theorem zd_M_init_53 : decode zb_M_init 53 = .ok (.bipush 12, 2) := by decide +kernel
theorem zd_M_init_55 : decode zb_M_init 55 = .ok (.newarray .int, 2) := by decide +kernel
theorem zd_M_init_57 : decode zb_M_init 57 = .ok (.putfield 28, 3) := by decide +kernel
theorem zd_M_init_60 : decode zb_M_init 60 = .ok (.aload_n 0, 1) := by decide +kernel
theorem zd_M_init_61 : decode zb_M_init 61 = .ok (.bipush 12, 2) := by decide +kernel
theorem zd_M_init_63 : decode zb_M_init 63 = .ok (.newarray .int, 2) := by decide +kernel
theorem zd_M_init_65 : decode zb_M_init 65 = .ok (.putfield 31, 3) := by decide +kernel
theorem zd_M_init_68 : decode zb_M_init 68 = .ok (.aload_n 0, 1) := by decide +kernel
theorem zd_M_init_69 : decode zb_M_init 69 = .ok (.bipush 100, 2) := by decide +kernel
theorem zd_M_init_71 : decode zb_M_init 71 = .ok (.newarray .int, 2) := by decide +kernel
theorem zd_M_init_73 : decode zb_M_init 73 = .ok (.putfield 34, 3) := by decide +kernel
theorem zd_M_init_76 : decode zb_M_init 76 = .ok (.aload_n 0, 1) := by decide +kernel
theorem zd_M_init_77 : decode zb_M_init 77 = .ok (.bipush 100, 2) := by decide +kernel
theorem zd_M_init_79 : decode zb_M_init 79 = .ok (.newarray .int, 2) := by decide +kernel
theorem zd_M_init_81 : decode zb_M_init 81 = .ok (.putfield 37, 3) := by decide +kernel
theorem zd_M_init_84 : decode zb_M_init 84 = .ok (.aload_n 0, 1) := by decide +kernel
theorem zd_M_init_85 : decode zb_M_init 85 = .ok (.bipush 100, 2) := by decide +kernel
theorem zd_M_init_87 : decode zb_M_init 87 = .ok (.newarray .int, 2) := by decide +kernel
theorem zd_M_init_89 : decode zb_M_init 89 = .ok (.putfield 40, 3) := by decide +kernel
theorem zd_M_init_92 : decode zb_M_init 92 = .ok (.aload_n 0, 1) := by decide +kernel
theorem zd_M_init_93 : decode zb_M_init 93 = .ok (.bipush 100, 2) := by decide +kernel
theorem zd_M_init_95 : decode zb_M_init 95 = .ok (.newarray .int, 2) := by decide +kernel
theorem zd_M_init_97 : decode zb_M_init 97 = .ok (.putfield 43, 3) := by decide +kernel
theorem zd_M_init_100 : decode zb_M_init 100 = .ok (.aload_n 0, 1) := by decide +kernel
theorem zd_M_init_101 : decode zb_M_init 101 = .ok (.bipush 100, 2) := by decide +kernel
theorem zd_M_init_103 : decode zb_M_init 103 = .ok (.newarray .int, 2) := by decide +kernel
theorem zd_M_init_105 : decode zb_M_init 105 = .ok (.putfield 46, 3) := by decide +kernel
theorem zd_M_init_108 : decode zb_M_init 108 = .ok (.aload_n 0, 1) := by decide +kernel
theorem zd_M_init_109 : decode zb_M_init 109 = .ok (.bipush 100, 2) := by decide +kernel
theorem zd_M_init_111 : decode zb_M_init 111 = .ok (.newarray .int, 2) := by decide +kernel
theorem zd_M_init_113 : decode zb_M_init 113 = .ok (.putfield 49, 3) := by decide +kernel
theorem zd_M_init_116 : decode zb_M_init 116 = .ok (.aload_n 0, 1) := by decide +kernel
theorem zd_M_init_117 : decode zb_M_init 117 = .ok (.bipush 100, 2) := by decide +kernel
theorem zd_M_init_119 : decode zb_M_init 119 = .ok (.newarray .boolean, 2) := by decide +kernel
theorem zd_M_init_121 : decode zb_M_init 121 = .ok (.putfield 52, 3) := by decide +kernel
theorem zd_M_init_124 : decode zb_M_init 124 = .ok (.aload_n 0, 1) := by decide +kernel
theorem zd_M_init_125 : decode zb_M_init 125 = .ok (.sipush 196, 3) := by decide +kernel
theorem zd_M_init_128 : decode zb_M_init 128 = .ok (.newarray .int, 2) := by decide +kernel
theorem zd_M_init_130 : decode zb_M_init 130 = .ok (.putfield 56, 3) := by decide +kernel
theorem zd_M_init_133 : decode zb_M_init 133 = .ok (.aload_n 0, 1) := by decide +kernel
theorem zd_M_init_134 : decode zb_M_init 134 = .ok (.sipush 392, 3) := by decide +kernel
theorem zd_M_init_137 : decode zb_M_init 137 = .ok (.newarray .int, 2) := by decide +kernel
theorem zd_M_init_139 : decode zb_M_init 139 = .ok (.putfield 59, 3) := by decide +kernel
theorem zd_M_init_142 : decode zb_M_init 142 = .ok (.aload_n 0, 1) := by decide +kernel
theorem zd_M_init_143 : decode zb_M_init 143 = .ok (.iconst 2, 1) := by decide +kernel
theorem zd_M_init_144 : decode zb_M_init 144 = .ok (.newarray .int, 2) := by decide +kernel
theorem zd_M_init_146 : decode zb_M_init 146 = .ok (.putfield 62, 3) := by decide +kernel
theorem zd_M_init_149 : decode zb_M_init 149 = .ok (.aload_n 0, 1) := by decide +kernel
theorem zd_M_init_150 : decode zb_M_init 150 = .ok (.sipush 196, 3) := by decide +kernel
theorem zd_M_init_153 : decode zb_M_init 153 = .ok (.newarray .boolean, 2) := by decide +kernel
theorem zd_M_init_155 : decode zb_M_init 155 = .ok (.putfield 65, 3) := by decide +kernel
theorem zd_M_init_158 : decode zb_M_init 158 = .ok (.aload_n 0, 1) := by decide +kernel
theorem zd_M_init_159 : decode zb_M_init 159 = .ok (.sipush 1764, 3) := by decide +kernel
theorem zd_M_init_162 : decode zb_M_init 162 = .ok (.newarray .boolean, 2) := by decide +kernel
theorem zd_M_init_164 : decode zb_M_init 164 = .ok (.putfield 68, 3) := by decide +kernel
theorem zd_M_init_167 : decode zb_M_init 167 = .ok (.aload_n 0, 1) := by decide +kernel
theorem zd_M_init_168 : decode zb_M_init 168 = .ok (.iload_n 1, 1) := by decide +kernel
theorem zd_M_init_169 : decode zb_M_init 169 = .ok (.iconst 1, 1) := by decide +kernel
theorem zd_M_init_170 : decode zb_M_init 170 = .ok (.bipush 8, 2) := by decide +kernel
theorem zd_M_init_172 : decode zb_M_init 172 = .ok (.invokestatic 71, 3) := by decide +kernel
theorem zd_M_init_175 : decode zb_M_init 175 = .ok (.putfield 75, 3) := by decide +kernel
theorem zd_M_init_178 : decode zb_M_init 178 = .ok (.aload_n 0, 1) := by decide +kernel
theorem zd_M_init_179 : decode zb_M_init 179 = .ok (.iload_n 2, 1) := by decide +kernel
theorem zd_M_init_180 : decode zb_M_init 180 = .ok (.iconst 4, 1) := by decide +kernel
theorem zd_M_init_181 : decode zb_M_init 181 = .ok (.bipush 40, 2) := by decide +kernel
theorem zd_M_init_183 : decode zb_M_init 183 = .ok (.invokestatic 71, 3) := by decide +kernel
theorem zd_M_init_186 : decode zb_M_init 186 = .ok (.putfield 79, 3) := by decide +kernel
theorem zd_M_init_189 : decode zb_M_init 189 = .ok (.aload_n 0, 1) := by decide +kernel
theorem zd_M_init_190 : decode zb_M_init 190 = .ok (.iload_n 3, 1) := by decide +kernel
theorem zd_M_init_191 : decode zb_M_init 191 = .ok (.iconst 0, 1) := by decide +kernel
theorem zd_M_init_192 : decode zb_M_init 192 = .ok (.bipush 40, 2) := by decide +kernel
theorem zd_M_init_194 : decode zb_M_init 194 = .ok (.invokestatic 71, 3) := by decide +kernel
theorem zd_M_init_197 : decode zb_M_init 197 = .ok (.putfield 82, 3) := by decide +kernel
theorem zd_M_init_200 : decode zb_M_init 200 = .ok (.aload_n 0, 1) := by decide +kernel
theorem zd_M_init_201 : decode zb_M_init 201 = .ok (.iload 4, 2) := by decide +kernel
theorem zd_M_init_203 : decode zb_M_init 203 = .ok (.iconst 1, 1) := by decide +kernel
theorem zd_M_init_204 : decode zb_M_init 204 = .ok (.bipush 40, 2) := by decide +kernel
theorem zd_M_init_206 : decode zb_M_init 206 = .ok (.invokestatic 71, 3) := by decide +kernel
theorem zd_M_init_209 : decode zb_M_init 209 = .ok (.putfield 85, 3) := by decide +kernel
theorem zd_M_init_212 : decode zb_M_init 212 = .ok (.aload_n 0, 1) := by decide +kernel
theorem zd_M_init_213 : decode zb_M_init 213 = .ok (.getfield 62, 3) := by decide +kernel
theorem zd_M_init_216 : decode zb_M_init 216 = .ok (.iconst 0, 1) := by decide +kernel
theorem zd_M_init_217 : decode zb_M_init 217 = .ok (.iconst 1, 1) := by decide +kernel
theorem zd_M_init_218 : decode zb_M_init 218 = .ok (.iastore, 1) := by decide +kernel
theorem zd_M_init_219 : decode zb_M_init 219 = .ok (.aload_n 0, 1) := by decide +kernel
theorem zd_M_init_220 : decode zb_M_init 220 = .ok (.getfield 62, 3) := by decide +kernel
theorem zd_M_init_223 : decode zb_M_init 223 = .ok (.iconst 1, 1) := by decide +kernel
theorem zd_M_init_224 : decode zb_M_init 224 = .ok (.iconst 1, 1) := by decide +kernel
theorem zd_M_init_225 : decode zb_M_init 225 = .ok (.iastore, 1) := by decide +kernel
theorem zd_M_init_226 : decode zb_M_init 226 = .ok (.return_, 1) := by decide +kernel
theorem zd_M_nearest_0 : decode zb_M_nearest 0 = .ok (.iload_n 0, 1) := by decide +kernel
theorem zd_M_nearest_1 : decode zb_M_nearest 1 = .ok (.iload_n 1, 1) := by decide +kernel
theorem zd_M_nearest_2 : decode zb_M_nearest 2 = .ok (.if_icmp .ge 7, 3) := by decide +kernel
theorem zd_M_nearest_5 : decode zb_M_nearest 5 = .ok (.iload_n 1, 1) := by decide +kernel
theorem zd_M_nearest_6 : decode zb_M_nearest 6 = .ok (.goto 13, 3) := by decide +kernel
theorem zd_M_nearest_9 : decode zb_M_nearest 9 = .ok (.iload_n 0, 1) := by decide +kernel
theorem zd_M_nearest_10 : decode zb_M_nearest 10 = .ok (.iload_n 2, 1) := by decide +kernel
theorem zd_M_nearest_11 : decode zb_M_nearest 11 = .ok (.if_icmp .le 7, 3) := by decide +kernel
theorem zd_M_nearest_14 : decode zb_M_nearest 14 = .ok (.iload_n 2, 1) := by decide +kernel
theorem zd_M_nearest_15 : decode zb_M_nearest 15 = .ok (.goto 4, 3) := by decide +kernel
theorem zd_M_nearest_18 : decode zb_M_nearest 18 = .ok (.iload_n 0, 1) := by decide +kernel
theorem zd_M_nearest_19 : decode zb_M_nearest 19 = .ok (.ireturn, 1) := by decide +kernel
theorem zd_M_flow_0 : decode zb_M_flow 0 = .ok (.iload_n 1, 1) := by decide +kernel
theorem zd_M_flow_1 : decode zb_M_flow 1 = .ok (.ifCond .lt 42, 3) := by decide +kernel
theorem zd_M_flow_4 : decode zb_M_flow 4 = .ok (.iload_n 1, 1) := by decide +kernel
theorem zd_M_flow_5 : decode zb_M_flow 5 = .ok (.bipush 7, 2) := by decide +kernel
theorem zd_M_flow_7 : decode zb_M_flow 7 = .ok (.if_icmp .gt 36, 3) := by decide +kernel
theorem zd_M_flow_10 : decode zb_M_flow 10 = .ok (.iload_n 2, 1) := by decide +kernel
theorem zd_M_flow_11 : decode zb_M_flow 11 = .ok (.ifCond .lt 32, 3) := by decide +kernel
theorem zd_M_flow_14 : decode zb_M_flow 14 = .ok (.iload_n 2, 1) := by decide +kernel
theorem zd_M_flow_15 : decode zb_M_flow 15 = .ok (.bipush 7, 2) := by decide +kernel
theorem zd_M_flow_17 : decode zb_M_flow 17 = .ok (.if_icmp .gt 26, 3) := by decide +kernel
theorem zd_M_flow_20 : decode zb_M_flow 20 = .ok (.iload_n 1, 1) := by decide +kernel
theorem zd_M_flow_21 : decode zb_M_flow 21 = .ok (.iload_n 2, 1) := by decide +kernel
theorem zd_M_flow_22 : decode zb_M_flow 22 = .ok (.if_icmp .eq 21, 3) := by decide +kernel
theorem zd_M_flow_25 : decode zb_M_flow 25 = .ok (.iload_n 3, 1) := by decide +kernel
theorem zd_M_flow_26 : decode zb_M_flow 26 = .ok (.ifCond .lt 17, 3) := by decide +kernel
theorem zd_M_flow_29 : decode zb_M_flow 29 = .ok (.iload_n 3, 1) := by decide +kernel
theorem zd_M_flow_30 : decode zb_M_flow 30 = .ok (.iconst 1, 1) := by decide +kernel
theorem zd_M_flow_31 : decode zb_M_flow 31 = .ok (.if_icmp .gt 12, 3) := by decide +kernel
theorem zd_M_flow_34 : decode zb_M_flow 34 = .ok (.aload_n 0, 1) := by decide +kernel
theorem zd_M_flow_35 : decode zb_M_flow 35 = .ok (.getfield 88, 3) := by decide +kernel
theorem zd_M_flow_38 : decode zb_M_flow 38 = .ok (.bipush 12, 2) := by decide +kernel
theorem zd_M_flow_40 : decode zb_M_flow 40 = .ok (.if_icmp .lt 5, 3) := by decide +kernel
theorem zd_M_flow_43 : decode zb_M_flow 43 = .ok (.iconst (-1), 1) := by decide +kernel
theorem zd_M_flow_44 : decode zb_M_flow 44 = .ok (.ireturn, 1) := by decide +kernel
theorem zd_M_flow_45 : decode zb_M_flow 45 = .ok (.aload_n 0, 1) := by decide +kernel
theorem zd_M_flow_46 : decode zb_M_flow 46 = .ok (.getfield 7, 3) := by decide +kernel
theorem zd_M_flow_49 : decode zb_M_flow 49 = .ok (.aload_n 0, 1) := by decide +kernel
theorem zd_M_flow_50 : decode zb_M_flow 50 = .ok (.getfield 88, 3) := by decide +kernel
theorem zd_M_flow_53 : decode zb_M_flow 53 = .ok (.iload_n 1, 1) := by decide +kernel
theorem zd_M_flow_54 : decode zb_M_flow 54 = .ok (.iastore, 1) := by decide +kernel
theorem zd_M_flow_55 : decode zb_M_flow 55 = .ok (.aload_n 0, 1) := by decide +kernel
theorem zd_M_flow_56 : decode zb_M_flow 56 = .ok (.getfield 13, 3) := by decide +kernel
theorem zd_M_flow_59 : decode zb_M_flow 59 = .ok (.aload_n 0, 1) := by decide +kernel
theorem zd_M_flow_60 : decode zb_M_flow 60 = .ok (.getfield 88, 3) := by decide +kernel
theorem zd_M_flow_63 : decode zb_M_flow 63 = .ok (.iload_n 2, 1) := by decide +kernel
theorem zd_M_flow_64 : decode zb_M_flow 64 = .ok (.iastore, 1) := by decide +kernel
theorem zd_M_flow_65 : decode zb_M_flow 65 = .ok (.aload_n 0, 1) := by decide +kernel
theorem zd_M_flow_66 : decode zb_M_flow 66 = .ok (.getfield 16, 3) := by decide +kernel
theorem zd_M_flow_69 : decode zb_M_flow 69 = .ok (.aload_n 0, 1) := by decide +kernel
theorem zd_M_flow_70 : decode zb_M_flow 70 = .ok (.getfield 88, 3) := by decide +kernel
theorem zd_M_flow_73 : decode zb_M_flow 73 = .ok (.iload_n 3, 1) := by decide +kernel
theorem zd_M_flow_74 : decode zb_M_flow 74 = .ok (.iastore, 1) := by decide +kernel
theorem zd_M_flow_75 : decode zb_M_flow 75 = .ok (.aload_n 0, 1) := by decide +kernel
theorem zd_M_flow_76 : decode zb_M_flow 76 = .ok (.getfield 19, 3) := by decide +kernel
theorem zd_M_flow_79 : decode zb_M_flow 79 = .ok (.aload_n 0, 1) := by decide +kernel
theorem zd_M_flow_80 : decode zb_M_flow 80 = .ok (.getfield 88, 3) := by decide +kernel
theorem zd_M_flow_83 : decode zb_M_flow 83 = .ok (.bipush 64, 2) := by decide +kernel
theorem zd_M_flow_85 : decode zb_M_flow 85 = .ok (.iastore, 1) := by decide +kernel
theorem zd_M_flow_86 : decode zb_M_flow 86 = .ok (.aload_n 0, 1) := by decide +kernel
theorem zd_M_flow_87 : decode zb_M_flow 87 = .ok (.getfield 22, 3) := by decide +kernel
theorem zd_M_flow_90 : decode zb_M_flow 90 = .ok (.aload_n 0, 1) := by decide +kernel
theorem zd_M_flow_91 : decode zb_M_flow 91 = .ok (.getfield 88, 3) := by decide +kernel
theorem zd_M_flow_94 : decode zb_M_flow 94 = .ok (.bipush 64, 2) := by decide +kernel
theorem zd_M_flow_96 : decode zb_M_flow 96 = .ok (.iastore, 1) := by decide +kernel
theorem zd_M_flow_97 : decode zb_M_flow 97 = .ok (.aload_n 0, 1) := by decide +kernel
theorem zd_M_flow_98 : decode zb_M_flow 98 = .ok (.getfield 25, 3) := by decide +kernel
theorem zd_M_flow_101 : decode zb_M_flow 101 = .ok (.aload_n 0, 1) := by decide +kernel
theorem zd_M_flow_102 : decode zb_M_flow 102 = .ok (.getfield 88, 3) := by decide +kernel
theorem zd_M_flow_105 : decode zb_M_flow 105 = .ok (.bipush 64, 2) := by decide +kernel
theorem zd_M_flow_107 : decode zb_M_flow 107 = .ok (.iastore, 1) := by decide +kernel
theorem zd_M_flow_108 : decode zb_M_flow 108 = .ok (.aload_n 0, 1) := by decide +kernel
theorem zd_M_flow_109 : decode zb_M_flow 109 = .ok (.aload_n 0, 1) := by decide +kernel
theorem zd_M_flow_110 : decode zb_M_flow 110 = .ok (.getfield 88, 3) := by decide +kernel
theorem zd_M_flow_113 : decode zb_M_flow 113 = .ok (.iconst 1, 1) := by decide +kernel
theorem zd_M_flow_114 : decode zb_M_flow 114 = .ok (.iadd, 1) := by decide +kernel
theorem zd_M_flow_115 : decode zb_M_flow 115 = .ok (.putfield 88, 3) := by decide +kernel
theorem zd_M_flow_118 : decode zb_M_flow 118 = .ok (.aload_n 0, 1) := by decide +kernel
theorem zd_M_flow_119 : decode zb_M_flow 119 = .ok (.getfield 88, 3) := by decide +kernel
theorem zd_M_flow_122 : decode zb_M_flow 122 = .ok (.iconst 1, 1) := by decide +kernel
theorem zd_M_flow_123 : decode zb_M_flow 123 = .ok (.isub, 1) := by decide +kernel
theorem zd_M_flow_124 : decode zb_M_flow 124 = .ok (.ireturn, 1) := by decide +kernel
theorem zd_M_share_0 : decode zb_M_share 0 = .ok (.iload_n 1, 1) := by decide +kernel
theorem zd_M_share_1 : decode zb_M_share 1 = .ok (.ifCond .lt 19, 3) := by decide +kernel
theorem zd_M_share_4 : decode zb_M_share 4 = .ok (.iload_n 1, 1) := by decide +kernel
theorem zd_M_share_5 : decode zb_M_share 5 = .ok (.iconst 1, 1) := by decide +kernel
theorem zd_M_share_6 : decode zb_M_share 6 = .ok (.if_icmp .gt 14, 3) := by decide +kernel
theorem zd_M_share_9 : decode zb_M_share 9 = .ok (.iload_n 2, 1) := by decide +kernel
theorem zd_M_share_10 : decode zb_M_share 10 = .ok (.iconst 1, 1) := by decide +kernel
theorem zd_M_share_11 : decode zb_M_share 11 = .ok (.if_icmp .lt 9, 3) := by decide +kernel
theorem zd_M_share_14 : decode zb_M_share 14 = .ok (.iload_n 2, 1) := by decide +kernel
theorem zd_M_share_15 : decode zb_M_share 15 = .ok (.bipush 8, 2) := by decide +kernel
theorem zd_M_share_17 : decode zb_M_share 17 = .ok (.if_icmp .le 5, 3) := by decide +kernel
theorem zd_M_share_20 : decode zb_M_share 20 = .ok (.iconst 0, 1) := by decide +kernel
theorem zd_M_share_21 : decode zb_M_share 21 = .ok (.ireturn, 1) := by decide +kernel
theorem zd_M_share_22 : decode zb_M_share 22 = .ok (.aload_n 0, 1) := by decide +kernel
theorem zd_M_share_23 : decode zb_M_share 23 = .ok (.getfield 62, 3) := by decide +kernel
theorem zd_M_share_26 : decode zb_M_share 26 = .ok (.iload_n 1, 1) := by decide +kernel
theorem zd_M_share_27 : decode zb_M_share 27 = .ok (.iload_n 2, 1) := by decide +kernel
theorem zd_M_share_28 : decode zb_M_share 28 = .ok (.iastore, 1) := by decide +kernel
theorem zd_M_share_29 : decode zb_M_share 29 = .ok (.iconst 1, 1) := by decide +kernel
theorem zd_M_share_30 : decode zb_M_share 30 = .ok (.ireturn, 1) := by decide +kernel
theorem zd_M_inject_0 : decode zb_M_inject 0 = .ok (.aload_n 0, 1) := by decide +kernel
theorem zd_M_inject_1 : decode zb_M_inject 1 = .ok (.iload_n 1, 1) := by decide +kernel
theorem zd_M_inject_2 : decode zb_M_inject 2 = .ok (.invokevirtual 112, 3) := by decide +kernel
theorem zd_M_inject_5 : decode zb_M_inject 5 = .ok (.ifCond .eq 22, 3) := by decide +kernel
theorem zd_M_inject_8 : decode zb_M_inject 8 = .ok (.iload_n 2, 1) := by decide +kernel
theorem zd_M_inject_9 : decode zb_M_inject 9 = .ok (.iconst 1, 1) := by decide +kernel
theorem zd_M_inject_10 : decode zb_M_inject 10 = .ok (.if_icmp .lt 17, 3) := by decide +kernel
theorem zd_M_inject_13 : decode zb_M_inject 13 = .ok (.iload_n 2, 1) := by decide +kernel
theorem zd_M_inject_14 : decode zb_M_inject 14 = .ok (.iconst 4, 1) := by decide +kernel
theorem zd_M_inject_15 : decode zb_M_inject 15 = .ok (.if_icmp .gt 12, 3) := by decide +kernel
theorem zd_M_inject_18 : decode zb_M_inject 18 = .ok (.aload_n 0, 1) := by decide +kernel
theorem zd_M_inject_19 : decode zb_M_inject 19 = .ok (.getfield 91, 3) := by decide +kernel
theorem zd_M_inject_22 : decode zb_M_inject 22 = .ok (.bipush 100, 2) := by decide +kernel
theorem zd_M_inject_24 : decode zb_M_inject 24 = .ok (.if_icmp .lt 5, 3) := by decide +kernel
theorem zd_M_inject_27 : decode zb_M_inject 27 = .ok (.iconst (-1), 1) := by decide +kernel
theorem zd_M_inject_28 : decode zb_M_inject 28 = .ok (.ireturn, 1) := by decide +kernel
theorem zd_M_inject_29 : decode zb_M_inject 29 = .ok (.aload_n 0, 1) := by decide +kernel
theorem zd_M_inject_30 : decode zb_M_inject 30 = .ok (.getfield 34, 3) := by decide +kernel
theorem zd_M_inject_33 : decode zb_M_inject 33 = .ok (.aload_n 0, 1) := by decide +kernel
theorem zd_M_inject_34 : decode zb_M_inject 34 = .ok (.getfield 91, 3) := by decide +kernel
theorem zd_M_inject_37 : decode zb_M_inject 37 = .ok (.iload_n 1, 1) := by decide +kernel
theorem zd_M_inject_38 : decode zb_M_inject 38 = .ok (.iastore, 1) := by decide +kernel
theorem zd_M_inject_39 : decode zb_M_inject 39 = .ok (.aload_n 0, 1) := by decide +kernel
theorem zd_M_inject_40 : decode zb_M_inject 40 = .ok (.getfield 37, 3) := by decide +kernel
theorem zd_M_inject_43 : decode zb_M_inject 43 = .ok (.aload_n 0, 1) := by decide +kernel
theorem zd_M_inject_44 : decode zb_M_inject 44 = .ok (.getfield 91, 3) := by decide +kernel
theorem zd_M_inject_47 : decode zb_M_inject 47 = .ok (.iload_n 2, 1) := by decide +kernel
theorem zd_M_inject_48 : decode zb_M_inject 48 = .ok (.iastore, 1) := by decide +kernel
theorem zd_M_inject_49 : decode zb_M_inject 49 = .ok (.aload_n 0, 1) := by decide +kernel
theorem zd_M_inject_50 : decode zb_M_inject 50 = .ok (.getfield 43, 3) := by decide +kernel
theorem zd_M_inject_53 : decode zb_M_inject 53 = .ok (.aload_n 0, 1) := by decide +kernel
theorem zd_M_inject_54 : decode zb_M_inject 54 = .ok (.getfield 91, 3) := by decide +kernel
theorem zd_M_inject_57 : decode zb_M_inject 57 = .ok (.iconst 0, 1) := by decide +kernel
theorem zd_M_inject_58 : decode zb_M_inject 58 = .ok (.iastore, 1) := by decide +kernel
theorem zd_M_inject_59 : decode zb_M_inject 59 = .ok (.aload_n 0, 1) := by decide +kernel
theorem zd_M_inject_60 : decode zb_M_inject 60 = .ok (.aload_n 0, 1) := by decide +kernel
theorem zd_M_inject_61 : decode zb_M_inject 61 = .ok (.getfield 91, 3) := by decide +kernel
theorem zd_M_inject_64 : decode zb_M_inject 64 = .ok (.invokevirtual 116, 3) := by decide +kernel
theorem zd_M_inject_67 : decode zb_M_inject 67 = .ok (.aload_n 0, 1) := by decide +kernel
theorem zd_M_inject_68 : decode zb_M_inject 68 = .ok (.aload_n 0, 1) := by decide +kernel
theorem zd_M_inject_69 : decode zb_M_inject 69 = .ok (.getfield 91, 3) := by decide +kernel
theorem zd_M_inject_72 : decode zb_M_inject 72 = .ok (.iconst 1, 1) := by decide +kernel
theorem zd_M_inject_73 : decode zb_M_inject 73 = .ok (.iadd, 1) := by decide +kernel
theorem zd_M_inject_74 : decode zb_M_inject 74 = .ok (.putfield 91, 3) := by decide +kernel
theorem zd_M_inject_77 : decode zb_M_inject 77 = .ok (.aload_n 0, 1) := by decide +kernel
theorem zd_M_inject_78 : decode zb_M_inject 78 = .ok (.getfield 91, 3) := by decide +kernel
theorem zd_M_inject_81 : decode zb_M_inject 81 = .ok (.iconst 1, 1) := by decide +kernel
theorem zd_M_inject_82 : decode zb_M_inject 82 = .ok (.isub, 1) := by decide +kernel
theorem zd_M_inject_83 : decode zb_M_inject 83 = .ok (.ireturn, 1) := by decide +kernel
theorem zd_M_isFlow_0 : decode zb_M_isFlow 0 = .ok (.iload_n 1, 1) := by decide +kernel
theorem zd_M_isFlow_1 : decode zb_M_isFlow 1 = .ok (.ifCond .lt 15, 3) := by decide +kernel
theorem zd_M_isFlow_4 : decode zb_M_isFlow 4 = .ok (.iload_n 1, 1) := by decide +kernel
theorem zd_M_isFlow_5 : decode zb_M_isFlow 5 = .ok (.aload_n 0, 1) := by decide +kernel
theorem zd_M_isFlow_6 : decode zb_M_isFlow 6 = .ok (.getfield 88, 3) := by decide +kernel
theorem zd_M_isFlow_9 : decode zb_M_isFlow 9 = .ok (.if_icmp .ge 7, 3) := by decide +kernel
theorem zd_M_isFlow_12 : decode zb_M_isFlow 12 = .ok (.iconst 1, 1) := by decide +kernel
theorem zd_M_isFlow_13 : decode zb_M_isFlow 13 = .ok (.goto 4, 3) := by decide +kernel
theorem zd_M_isFlow_16 : decode zb_M_isFlow 16 = .ok (.iconst 0, 1) := by decide +kernel
theorem zd_M_isFlow_17 : decode zb_M_isFlow 17 = .ok (.ireturn, 1) := by decide +kernel
theorem zd_M_enqueue_0 : decode zb_M_enqueue 0 = .ok (.aload_n 0, 1) := by decide +kernel
theorem zd_M_enqueue_1 : decode zb_M_enqueue 1 = .ok (.getfield 40, 3) := by decide +kernel
theorem zd_M_enqueue_4 : decode zb_M_enqueue 4 = .ok (.iload_n 1, 1) := by decide +kernel
theorem zd_M_enqueue_5 : decode zb_M_enqueue 5 = .ok (.iconst 1, 1) := by decide +kernel
theorem zd_M_enqueue_6 : decode zb_M_enqueue 6 = .ok (.iastore, 1) := by decide +kernel
theorem zd_M_enqueue_7 : decode zb_M_enqueue 7 = .ok (.aload_n 0, 1) := by decide +kernel
theorem zd_M_enqueue_8 : decode zb_M_enqueue 8 = .ok (.getfield 46, 3) := by decide +kernel
theorem zd_M_enqueue_11 : decode zb_M_enqueue 11 = .ok (.iload_n 1, 1) := by decide +kernel
theorem zd_M_enqueue_12 : decode zb_M_enqueue 12 = .ok (.aload_n 0, 1) := by decide +kernel
theorem zd_M_enqueue_13 : decode zb_M_enqueue 13 = .ok (.getfield 109, 3) := by decide +kernel
theorem zd_M_enqueue_16 : decode zb_M_enqueue 16 = .ok (.iastore, 1) := by decide +kernel
theorem zd_M_enqueue_17 : decode zb_M_enqueue 17 = .ok (.aload_n 0, 1) := by decide +kernel
theorem zd_M_enqueue_18 : decode zb_M_enqueue 18 = .ok (.aload_n 0, 1) := by decide +kernel
theorem zd_M_enqueue_19 : decode zb_M_enqueue 19 = .ok (.getfield 109, 3) := by decide +kernel
theorem zd_M_enqueue_22 : decode zb_M_enqueue 22 = .ok (.iconst 1, 1) := by decide +kernel
theorem zd_M_enqueue_23 : decode zb_M_enqueue 23 = .ok (.iadd, 1) := by decide +kernel
theorem zd_M_enqueue_24 : decode zb_M_enqueue 24 = .ok (.putfield 109, 3) := by decide +kernel
theorem zd_M_enqueue_27 : decode zb_M_enqueue 27 = .ok (.return_, 1) := by decide +kernel
theorem zd_M_tick_0 : decode zb_M_tick 0 = .ok (.iload_n 1, 1) := by decide +kernel
theorem zd_M_tick_1 : decode zb_M_tick 1 = .ok (.iconst 1, 1) := by decide +kernel
theorem zd_M_tick_2 : decode zb_M_tick 2 = .ok (.if_icmp .lt 9, 3) := by decide +kernel
theorem zd_M_tick_5 : decode zb_M_tick 5 = .ok (.iload_n 1, 1) := by decide +kernel
theorem zd_M_tick_6 : decode zb_M_tick 6 = .ok (.bipush 20, 2) := by decide +kernel
theorem zd_M_tick_8 : decode zb_M_tick 8 = .ok (.if_icmp .le 5, 3) := by decide +kernel
theorem zd_M_tick_11 : decode zb_M_tick 11 = .ok (.iconst (-1), 1) := by decide +kernel
theorem zd_M_tick_12 : decode zb_M_tick 12 = .ok (.ireturn, 1) := by decide +kernel
theorem zd_M_tick_13 : decode zb_M_tick 13 = .ok (.aload_n 0, 1) := by decide +kernel
theorem zd_M_tick_14 : decode zb_M_tick 14 = .ok (.invokevirtual 150, 3) := by decide +kernel
theorem zd_M_tick_17 : decode zb_M_tick 17 = .ok (.istore_n 2, 1) := by decide +kernel
theorem zd_M_tick_18 : decode zb_M_tick 18 = .ok (.iconst 0, 1) := by decide +kernel
theorem zd_M_tick_19 : decode zb_M_tick 19 = .ok (.istore_n 3, 1) := by decide +kernel
theorem zd_M_tick_20 : decode zb_M_tick 20 = .ok (.iload_n 3, 1) := by decide +kernel
theorem zd_M_tick_21 : decode zb_M_tick 21 = .ok (.iload_n 1, 1) := by decide +kernel
theorem zd_M_tick_22 : decode zb_M_tick 22 = .ok (.if_icmp .ge 158, 3) := by decide +kernel
theorem zd_M_tick_25 : decode zb_M_tick 25 = .ok (.aload_n 0, 1) := by decide +kernel
theorem zd_M_tick_26 : decode zb_M_tick 26 = .ok (.aload_n 0, 1) := by decide +kernel
theorem zd_M_tick_27 : decode zb_M_tick 27 = .ok (.getfield 106, 3) := by decide +kernel
theorem zd_M_tick_30 : decode zb_M_tick 30 = .ok (.iconst 1, 1) := by decide +kernel
theorem zd_M_tick_31 : decode zb_M_tick 31 = .ok (.iadd, 1) := by decide +kernel
theorem zd_M_tick_32 : decode zb_M_tick 32 = .ok (.putfield 106, 3) := by decide +kernel
theorem zd_M_tick_35 : decode zb_M_tick 35 = .ok (.aload_n 0, 1) := by decide +kernel
theorem zd_M_tick_36 : decode zb_M_tick 36 = .ok (.invokevirtual 154, 3) := by decide +kernel
theorem zd_M_tick_39 : decode zb_M_tick 39 = .ok (.iconst 0, 1) := by decide +kernel
theorem zd_M_tick_40 : decode zb_M_tick 40 = .ok (.istore 4, 2) := by decide +kernel
theorem zd_M_tick_42 : decode zb_M_tick 42 = .ok (.iload 4, 2) := by decide +kernel
theorem zd_M_tick_44 : decode zb_M_tick 44 = .ok (.aload_n 0, 1) := by decide +kernel
theorem zd_M_tick_45 : decode zb_M_tick 45 = .ok (.getfield 88, 3) := by decide +kernel
theorem zd_M_tick_48 : decode zb_M_tick 48 = .ok (.if_icmp .ge 15, 3) := by decide +kernel
theorem zd_M_tick_51 : decode zb_M_tick 51 = .ok (.aload_n 0, 1) := by decide +kernel
theorem zd_M_tick_52 : decode zb_M_tick 52 = .ok (.iload 4, 2) := by decide +kernel
theorem zd_M_tick_54 : decode zb_M_tick 54 = .ok (.invokevirtual 157, 3) := by decide +kernel
theorem zd_M_tick_57 : decode zb_M_tick 57 = .ok (.iinc 4 1, 3) := by decide +kernel
theorem zd_M_tick_60 : decode zb_M_tick 60 = .ok (.goto (-18), 3) := by decide +kernel
theorem zd_M_tick_63 : decode zb_M_tick 63 = .ok (.aload_n 0, 1) := by decide +kernel
theorem zd_M_tick_64 : decode zb_M_tick 64 = .ok (.invokevirtual 160, 3) := by decide +kernel
theorem zd_M_tick_67 : decode zb_M_tick 67 = .ok (.iconst 0, 1) := by decide +kernel
theorem zd_M_tick_68 : decode zb_M_tick 68 = .ok (.istore 4, 2) := by decide +kernel
theorem zd_M_tick_70 : decode zb_M_tick 70 = .ok (.iload 4, 2) := by decide +kernel
theorem zd_M_tick_72 : decode zb_M_tick 72 = .ok (.sipush 196, 3) := by decide +kernel
theorem zd_M_tick_75 : decode zb_M_tick 75 = .ok (.if_icmp .ge 56, 3) := by decide +kernel
theorem zd_M_tick_78 : decode zb_M_tick 78 = .ok (.iload 4, 2) := by decide +kernel
theorem zd_M_tick_80 : decode zb_M_tick 80 = .ok (.bipush 14, 2) := by decide +kernel
theorem zd_M_tick_82 : decode zb_M_tick 82 = .ok (.idiv, 1) := by decide +kernel
theorem zd_M_tick_83 : decode zb_M_tick 83 = .ok (.iload 4, 2) := by decide +kernel
theorem zd_M_tick_85 : decode zb_M_tick 85 = .ok (.bipush 14, 2) := by decide +kernel
theorem zd_M_tick_87 : decode zb_M_tick 87 = .ok (.irem, 1) := by decide +kernel
theorem zd_M_tick_88 : decode zb_M_tick 88 = .ok (.invokestatic 129, 3) := by decide +kernel
theorem zd_M_tick_91 : decode zb_M_tick 91 = .ok (.ifCond .eq 34, 3) := by decide +kernel
theorem zd_M_tick_94 : decode zb_M_tick 94 = .ok (.aload_n 0, 1) := by decide +kernel
theorem zd_M_tick_95 : decode zb_M_tick 95 = .ok (.iload 4, 2) := by decide +kernel
theorem zd_M_tick_97 : decode zb_M_tick 97 = .ok (.bipush 14, 2) := by decide +kernel
theorem zd_M_tick_99 : decode zb_M_tick 99 = .ok (.idiv, 1) := by decide +kernel
theorem zd_M_tick_100 : decode zb_M_tick 100 = .ok (.iload 4, 2) := by decide +kernel
theorem zd_M_tick_102 : decode zb_M_tick 102 = .ok (.bipush 14, 2) := by decide +kernel
theorem zd_M_tick_104 : decode zb_M_tick 104 = .ok (.irem, 1) := by decide +kernel
theorem zd_M_tick_105 : decode zb_M_tick 105 = .ok (.invokevirtual 163, 3) := by decide +kernel
theorem zd_M_tick_108 : decode zb_M_tick 108 = .ok (.ifCond .ne 17, 3) := by decide +kernel
theorem zd_M_tick_111 : decode zb_M_tick 111 = .ok (.aload_n 0, 1) := by decide +kernel
theorem zd_M_tick_112 : decode zb_M_tick 112 = .ok (.iload 4, 2) := by decide +kernel
theorem zd_M_tick_114 : decode zb_M_tick 114 = .ok (.bipush 14, 2) := by decide +kernel
theorem zd_M_tick_116 : decode zb_M_tick 116 = .ok (.idiv, 1) := by decide +kernel
theorem zd_M_tick_117 : decode zb_M_tick 117 = .ok (.iload 4, 2) := by decide +kernel
theorem zd_M_tick_119 : decode zb_M_tick 119 = .ok (.bipush 14, 2) := by decide +kernel
theorem zd_M_tick_121 : decode zb_M_tick 121 = .ok (.irem, 1) := by decide +kernel
theorem zd_M_tick_122 : decode zb_M_tick 122 = .ok (.invokevirtual 166, 3) := by decide +kernel
theorem zd_M_tick_125 : decode zb_M_tick 125 = .ok (.iinc 4 1, 3) := by decide +kernel
theorem zd_M_tick_128 : decode zb_M_tick 128 = .ok (.goto (-58), 3) := by decide +kernel
theorem zd_M_tick_131 : decode zb_M_tick 131 = .ok (.iconst 0, 1) := by decide +kernel
theorem zd_M_tick_132 : decode zb_M_tick 132 = .ok (.istore 4, 2) := by decide +kernel
theorem zd_M_tick_134 : decode zb_M_tick 134 = .ok (.iload 4, 2) := by decide +kernel
theorem zd_M_tick_136 : decode zb_M_tick 136 = .ok (.sipush 196, 3) := by decide +kernel
theorem zd_M_tick_139 : decode zb_M_tick 139 = .ok (.if_icmp .ge 35, 3) := by decide +kernel
theorem zd_M_tick_142 : decode zb_M_tick 142 = .ok (.aload_n 0, 1) := by decide +kernel
theorem zd_M_tick_143 : decode zb_M_tick 143 = .ok (.getfield 68, 3) := by decide +kernel
theorem zd_M_tick_146 : decode zb_M_tick 146 = .ok (.aload_n 0, 1) := by decide +kernel
theorem zd_M_tick_147 : decode zb_M_tick 147 = .ok (.getfield 106, 3) := by decide +kernel
theorem zd_M_tick_150 : decode zb_M_tick 150 = .ok (.bipush 9, 2) := by decide +kernel
theorem zd_M_tick_152 : decode zb_M_tick 152 = .ok (.irem, 1) := by decide +kernel
theorem zd_M_tick_153 : decode zb_M_tick 153 = .ok (.sipush 196, 3) := by decide +kernel
theorem zd_M_tick_156 : decode zb_M_tick 156 = .ok (.imul, 1) := by decide +kernel
theorem zd_M_tick_157 : decode zb_M_tick 157 = .ok (.iload 4, 2) := by decide +kernel
theorem zd_M_tick_159 : decode zb_M_tick 159 = .ok (.iadd, 1) := by decide +kernel
theorem zd_M_tick_160 : decode zb_M_tick 160 = .ok (.aload_n 0, 1) := by decide +kernel
theorem zd_M_tick_161 : decode zb_M_tick 161 = .ok (.getfield 65, 3) := by decide +kernel
theorem zd_M_tick_164 : decode zb_M_tick 164 = .ok (.iload 4, 2) := by decide +kernel
theorem zd_M_tick_166 : decode zb_M_tick 166 = .ok (.baload, 1) := by decide +kernel
theorem zd_M_tick_167 : decode zb_M_tick 167 = .ok (.bastore, 1) := by decide +kernel
theorem zd_M_tick_168 : decode zb_M_tick 168 = .ok (.iinc 4 1, 3) := by decide +kernel
theorem zd_M_tick_171 : decode zb_M_tick 171 = .ok (.goto (-37), 3) := by decide +kernel
theorem zd_M_tick_174 : decode zb_M_tick 174 = .ok (.iinc 3 1, 3) := by decide +kernel
theorem zd_M_tick_177 : decode zb_M_tick 177 = .ok (.goto (-157), 3) := by decide +kernel
theorem zd_M_tick_180 : decode zb_M_tick 180 = .ok (.aload_n 0, 1) := by decide +kernel
theorem zd_M_tick_181 : decode zb_M_tick 181 = .ok (.invokevirtual 150, 3) := by decide +kernel
theorem zd_M_tick_184 : decode zb_M_tick 184 = .ok (.iload_n 2, 1) := by decide +kernel
theorem zd_M_tick_185 : decode zb_M_tick 185 = .ok (.isub, 1) := by decide +kernel
theorem zd_M_tick_186 : decode zb_M_tick 186 = .ok (.ireturn, 1) := by decide +kernel
theorem zd_M_arrived_0 : decode zb_M_arrived 0 = .ok (.iconst 0, 1) := by decide +kernel
theorem zd_M_arrived_1 : decode zb_M_arrived 1 = .ok (.istore_n 1, 1) := by decide +kernel
theorem zd_M_arrived_2 : decode zb_M_arrived 2 = .ok (.iconst 0, 1) := by decide +kernel
theorem zd_M_arrived_3 : decode zb_M_arrived 3 = .ok (.istore_n 2, 1) := by decide +kernel
theorem zd_M_arrived_4 : decode zb_M_arrived 4 = .ok (.iload_n 2, 1) := by decide +kernel
theorem zd_M_arrived_5 : decode zb_M_arrived 5 = .ok (.aload_n 0, 1) := by decide +kernel
theorem zd_M_arrived_6 : decode zb_M_arrived 6 = .ok (.getfield 91, 3) := by decide +kernel
theorem zd_M_arrived_9 : decode zb_M_arrived 9 = .ok (.if_icmp .ge 27, 3) := by decide +kernel
theorem zd_M_arrived_12 : decode zb_M_arrived 12 = .ok (.aload_n 0, 1) := by decide +kernel
theorem zd_M_arrived_13 : decode zb_M_arrived 13 = .ok (.getfield 40, 3) := by decide +kernel
theorem zd_M_arrived_16 : decode zb_M_arrived 16 = .ok (.iload_n 2, 1) := by decide +kernel
theorem zd_M_arrived_17 : decode zb_M_arrived 17 = .ok (.iaload, 1) := by decide +kernel
theorem zd_M_arrived_18 : decode zb_M_arrived 18 = .ok (.iconst 4, 1) := by decide +kernel
theorem zd_M_arrived_19 : decode zb_M_arrived 19 = .ok (.if_icmp .ne 9, 3) := by decide +kernel
theorem zd_M_arrived_22 : decode zb_M_arrived 22 = .ok (.iload_n 1, 1) := by decide +kernel
theorem zd_M_arrived_23 : decode zb_M_arrived 23 = .ok (.iconst 1, 1) := by decide +kernel
theorem zd_M_arrived_24 : decode zb_M_arrived 24 = .ok (.iadd, 1) := by decide +kernel
theorem zd_M_arrived_25 : decode zb_M_arrived 25 = .ok (.goto 4, 3) := by decide +kernel
theorem zd_M_arrived_28 : decode zb_M_arrived 28 = .ok (.iload_n 1, 1) := by decide +kernel
theorem zd_M_arrived_29 : decode zb_M_arrived 29 = .ok (.istore_n 1, 1) := by decide +kernel
theorem zd_M_arrived_30 : decode zb_M_arrived 30 = .ok (.iinc 2 1, 3) := by decide +kernel
theorem zd_M_arrived_33 : decode zb_M_arrived 33 = .ok (.goto (-29), 3) := by decide +kernel
theorem zd_M_arrived_36 : decode zb_M_arrived 36 = .ok (.iload_n 1, 1) := by decide +kernel
theorem zd_M_arrived_37 : decode zb_M_arrived 37 = .ok (.ireturn, 1) := by decide +kernel
theorem zd_M_endSending_0 : decode zb_M_endSending 0 = .ok (.iconst 0, 1) := by decide +kernel
theorem zd_M_endSending_1 : decode zb_M_endSending 1 = .ok (.istore_n 1, 1) := by decide +kernel
theorem zd_M_endSending_2 : decode zb_M_endSending 2 = .ok (.iload_n 1, 1) := by decide +kernel
theorem zd_M_endSending_3 : decode zb_M_endSending 3 = .ok (.aload_n 0, 1) := by decide +kernel
theorem zd_M_endSending_4 : decode zb_M_endSending 4 = .ok (.getfield 91, 3) := by decide +kernel
theorem zd_M_endSending_7 : decode zb_M_endSending 7 = .ok (.if_icmp .ge 140, 3) := by decide +kernel
theorem zd_M_endSending_10 : decode zb_M_endSending 10 = .ok (.aload_n 0, 1) := by decide +kernel
theorem zd_M_endSending_11 : decode zb_M_endSending 11 = .ok (.getfield 40, 3) := by decide +kernel
theorem zd_M_endSending_14 : decode zb_M_endSending 14 = .ok (.iload_n 1, 1) := by decide +kernel
theorem zd_M_endSending_15 : decode zb_M_endSending 15 = .ok (.iaload, 1) := by decide +kernel
theorem zd_M_endSending_16 : decode zb_M_endSending 16 = .ok (.iconst 2, 1) := by decide +kernel
theorem zd_M_endSending_17 : decode zb_M_endSending 17 = .ok (.if_icmp .ne 124, 3) := by decide +kernel
theorem zd_M_endSending_20 : decode zb_M_endSending 20 = .ok (.aload_n 0, 1) := by decide +kernel
theorem zd_M_endSending_21 : decode zb_M_endSending 21 = .ok (.getfield 49, 3) := by decide +kernel
theorem zd_M_endSending_24 : decode zb_M_endSending 24 = .ok (.iload_n 1, 1) := by decide +kernel
theorem zd_M_endSending_25 : decode zb_M_endSending 25 = .ok (.iaload, 1) := by decide +kernel
theorem zd_M_endSending_26 : decode zb_M_endSending 26 = .ok (.aload_n 0, 1) := by decide +kernel
theorem zd_M_endSending_27 : decode zb_M_endSending 27 = .ok (.getfield 106, 3) := by decide +kernel
theorem zd_M_endSending_30 : decode zb_M_endSending 30 = .ok (.if_icmp .ne 111, 3) := by decide +kernel
theorem zd_M_endSending_33 : decode zb_M_endSending 33 = .ok (.aload_n 0, 1) := by decide +kernel
theorem zd_M_endSending_34 : decode zb_M_endSending 34 = .ok (.getfield 40, 3) := by decide +kernel
theorem zd_M_endSending_37 : decode zb_M_endSending 37 = .ok (.iload_n 1, 1) := by decide +kernel
theorem zd_M_endSending_38 : decode zb_M_endSending 38 = .ok (.iconst 3, 1) := by decide +kernel
theorem zd_M_endSending_39 : decode zb_M_endSending 39 = .ok (.iastore, 1) := by decide +kernel
theorem zd_M_endSending_40 : decode zb_M_endSending 40 = .ok (.aload_n 0, 1) := by decide +kernel
theorem zd_M_endSending_41 : decode zb_M_endSending 41 = .ok (.getfield 34, 3) := by decide +kernel
theorem zd_M_endSending_44 : decode zb_M_endSending 44 = .ok (.iload_n 1, 1) := by decide +kernel
theorem zd_M_endSending_45 : decode zb_M_endSending 45 = .ok (.iaload, 1) := by decide +kernel
theorem zd_M_endSending_46 : decode zb_M_endSending 46 = .ok (.istore_n 2, 1) := by decide +kernel
theorem zd_M_endSending_47 : decode zb_M_endSending 47 = .ok (.aload_n 0, 1) := by decide +kernel
theorem zd_M_endSending_48 : decode zb_M_endSending 48 = .ok (.getfield 43, 3) := by decide +kernel
theorem zd_M_endSending_51 : decode zb_M_endSending 51 = .ok (.iload_n 1, 1) := by decide +kernel
theorem zd_M_endSending_52 : decode zb_M_endSending 52 = .ok (.iaload, 1) := by decide +kernel
theorem zd_M_endSending_53 : decode zb_M_endSending 53 = .ok (.ifCond .le 88, 3) := by decide +kernel
theorem zd_M_endSending_56 : decode zb_M_endSending 56 = .ok (.aload_n 0, 1) := by decide +kernel
theorem zd_M_endSending_57 : decode zb_M_endSending 57 = .ok (.getfield 16, 3) := by decide +kernel
theorem zd_M_endSending_60 : decode zb_M_endSending 60 = .ok (.iload_n 2, 1) := by decide +kernel
theorem zd_M_endSending_61 : decode zb_M_endSending 61 = .ok (.iaload, 1) := by decide +kernel
theorem zd_M_endSending_62 : decode zb_M_endSending 62 = .ok (.ifCond .ne 79, 3) := by decide +kernel
theorem zd_M_endSending_65 : decode zb_M_endSending 65 = .ok (.aload_n 0, 1) := by decide +kernel
theorem zd_M_endSending_66 : decode zb_M_endSending 66 = .ok (.iload_n 2, 1) := by decide +kernel
theorem zd_M_endSending_67 : decode zb_M_endSending 67 = .ok (.aload_n 0, 1) := by decide +kernel
theorem zd_M_endSending_68 : decode zb_M_endSending 68 = .ok (.getfield 43, 3) := by decide +kernel
theorem zd_M_endSending_71 : decode zb_M_endSending 71 = .ok (.iload_n 1, 1) := by decide +kernel
theorem zd_M_endSending_72 : decode zb_M_endSending 72 = .ok (.iaload, 1) := by decide +kernel
theorem zd_M_endSending_73 : decode zb_M_endSending 73 = .ok (.iconst 1, 1) := by decide +kernel
theorem zd_M_endSending_74 : decode zb_M_endSending 74 = .ok (.isub, 1) := by decide +kernel
theorem zd_M_endSending_75 : decode zb_M_endSending 75 = .ok (.invokevirtual 98, 3) := by decide +kernel
theorem zd_M_endSending_78 : decode zb_M_endSending 78 = .ok (.istore_n 3, 1) := by decide +kernel
theorem zd_M_endSending_79 : decode zb_M_endSending 79 = .ok (.aload_n 0, 1) := by decide +kernel
theorem zd_M_endSending_80 : decode zb_M_endSending 80 = .ok (.iload_n 2, 1) := by decide +kernel
theorem zd_M_endSending_81 : decode zb_M_endSending 81 = .ok (.aload_n 0, 1) := by decide +kernel
theorem zd_M_endSending_82 : decode zb_M_endSending 82 = .ok (.getfield 43, 3) := by decide +kernel
theorem zd_M_endSending_85 : decode zb_M_endSending 85 = .ok (.iload_n 1, 1) := by decide +kernel
theorem zd_M_endSending_86 : decode zb_M_endSending 86 = .ok (.iaload, 1) := by decide +kernel
theorem zd_M_endSending_87 : decode zb_M_endSending 87 = .ok (.invokevirtual 98, 3) := by decide +kernel
theorem zd_M_endSending_90 : decode zb_M_endSending 90 = .ok (.istore 4, 2) := by decide +kernel
theorem zd_M_endSending_92 : decode zb_M_endSending 92 = .ok (.aload_n 0, 1) := by decide +kernel
theorem zd_M_endSending_93 : decode zb_M_endSending 93 = .ok (.getfield 65, 3) := by decide +kernel
theorem zd_M_endSending_96 : decode zb_M_endSending 96 = .ok (.bipush 14, 2) := by decide +kernel
theorem zd_M_endSending_98 : decode zb_M_endSending 98 = .ok (.iload_n 3, 1) := by decide +kernel
theorem zd_M_endSending_99 : decode zb_M_endSending 99 = .ok (.imul, 1) := by decide +kernel
theorem zd_M_endSending_100 : decode zb_M_endSending 100 = .ok (.iload 4, 2) := by decide +kernel
theorem zd_M_endSending_102 : decode zb_M_endSending 102 = .ok (.iadd, 1) := by decide +kernel
theorem zd_M_endSending_103 : decode zb_M_endSending 103 = .ok (.aload_n 0, 1) := by decide +kernel
theorem zd_M_endSending_104 : decode zb_M_endSending 104 = .ok (.getfield 65, 3) := by decide +kernel
theorem zd_M_endSending_107 : decode zb_M_endSending 107 = .ok (.bipush 14, 2) := by decide +kernel
theorem zd_M_endSending_109 : decode zb_M_endSending 109 = .ok (.iload_n 3, 1) := by decide +kernel
theorem zd_M_endSending_110 : decode zb_M_endSending 110 = .ok (.imul, 1) := by decide +kernel
theorem zd_M_endSending_111 : decode zb_M_endSending 111 = .ok (.iload 4, 2) := by decide +kernel
theorem zd_M_endSending_113 : decode zb_M_endSending 113 = .ok (.iadd, 1) := by decide +kernel
theorem zd_M_endSending_114 : decode zb_M_endSending 114 = .ok (.baload, 1) := by decide +kernel
theorem zd_M_endSending_115 : decode zb_M_endSending 115 = .ok (.ifCond .eq 24, 3) := by decide +kernel
theorem zd_M_endSending_118 : decode zb_M_endSending 118 = .ok (.aload_n 0, 1) := by decide +kernel
theorem zd_M_endSending_119 : decode zb_M_endSending 119 = .ok (.iload_n 3, 1) := by decide +kernel
theorem zd_M_endSending_120 : decode zb_M_endSending 120 = .ok (.iload 4, 2) := by decide +kernel
theorem zd_M_endSending_122 : decode zb_M_endSending 122 = .ok (.iconst 0, 1) := by decide +kernel
theorem zd_M_endSending_123 : decode zb_M_endSending 123 = .ok (.invokevirtual 120, 3) := by decide +kernel
theorem zd_M_endSending_126 : decode zb_M_endSending 126 = .ok (.aload_n 0, 1) := by decide +kernel
theorem zd_M_endSending_127 : decode zb_M_endSending 127 = .ok (.getfield 79, 3) := by decide +kernel
theorem zd_M_endSending_130 : decode zb_M_endSending 130 = .ok (.iconst 2, 1) := by decide +kernel
theorem zd_M_endSending_131 : decode zb_M_endSending 131 = .ok (.idiv, 1) := by decide +kernel
theorem zd_M_endSending_132 : decode zb_M_endSending 132 = .ok (.if_icmp .le 7, 3) := by decide +kernel
theorem zd_M_endSending_135 : decode zb_M_endSending 135 = .ok (.iconst 1, 1) := by decide +kernel
theorem zd_M_endSending_136 : decode zb_M_endSending 136 = .ok (.goto 4, 3) := by decide +kernel
theorem zd_M_endSending_139 : decode zb_M_endSending 139 = .ok (.iconst 0, 1) := by decide +kernel
theorem zd_M_endSending_140 : decode zb_M_endSending 140 = .ok (.bastore, 1) := by decide +kernel
theorem zd_M_endSending_141 : decode zb_M_endSending 141 = .ok (.iinc 1 1, 3) := by decide +kernel
theorem zd_M_endSending_144 : decode zb_M_endSending 144 = .ok (.goto (-142), 3) := by decide +kernel
theorem zd_M_endSending_147 : decode zb_M_endSending 147 = .ok (.return_, 1) := by decide +kernel
theorem zd_M_nodeAt_0 : decode zb_M_nodeAt 0 = .ok (.iload_n 2, 1) := by decide +kernel
theorem zd_M_nodeAt_1 : decode zb_M_nodeAt 1 = .ok (.ifCond .ne 10, 3) := by decide +kernel
theorem zd_M_nodeAt_4 : decode zb_M_nodeAt 4 = .ok (.aload_n 0, 1) := by decide +kernel
theorem zd_M_nodeAt_5 : decode zb_M_nodeAt 5 = .ok (.getfield 7, 3) := by decide +kernel
theorem zd_M_nodeAt_8 : decode zb_M_nodeAt 8 = .ok (.iload_n 1, 1) := by decide +kernel
theorem zd_M_nodeAt_9 : decode zb_M_nodeAt 9 = .ok (.iaload, 1) := by decide +kernel
theorem zd_M_nodeAt_10 : decode zb_M_nodeAt 10 = .ok (.ireturn, 1) := by decide +kernel
theorem zd_M_nodeAt_11 : decode zb_M_nodeAt 11 = .ok (.iload_n 2, 1) := by decide +kernel
theorem zd_M_nodeAt_12 : decode zb_M_nodeAt 12 = .ok (.aload_n 0, 1) := by decide +kernel
theorem zd_M_nodeAt_13 : decode zb_M_nodeAt 13 = .ok (.iload_n 1, 1) := by decide +kernel
theorem zd_M_nodeAt_14 : decode zb_M_nodeAt 14 = .ok (.invokevirtual 94, 3) := by decide +kernel
theorem zd_M_nodeAt_17 : decode zb_M_nodeAt 17 = .ok (.if_icmp .ne 10, 3) := by decide +kernel
theorem zd_M_nodeAt_20 : decode zb_M_nodeAt 20 = .ok (.aload_n 0, 1) := by decide +kernel
theorem zd_M_nodeAt_21 : decode zb_M_nodeAt 21 = .ok (.getfield 13, 3) := by decide +kernel
theorem zd_M_nodeAt_24 : decode zb_M_nodeAt 24 = .ok (.iload_n 1, 1) := by decide +kernel
theorem zd_M_nodeAt_25 : decode zb_M_nodeAt 25 = .ok (.iaload, 1) := by decide +kernel
theorem zd_M_nodeAt_26 : decode zb_M_nodeAt 26 = .ok (.ireturn, 1) := by decide +kernel
theorem zd_M_nodeAt_27 : decode zb_M_nodeAt 27 = .ok (.iload_n 2, 1) := by decide +kernel
theorem zd_M_nodeAt_28 : decode zb_M_nodeAt 28 = .ok (.iconst 2, 1) := by decide +kernel
theorem zd_M_nodeAt_29 : decode zb_M_nodeAt 29 = .ok (.if_icmp .ne 32, 3) := by decide +kernel
theorem zd_M_nodeAt_32 : decode zb_M_nodeAt 32 = .ok (.iload_n 1, 1) := by decide +kernel
theorem zd_M_nodeAt_33 : decode zb_M_nodeAt 33 = .ok (.iconst 1, 1) := by decide +kernel
theorem zd_M_nodeAt_34 : decode zb_M_nodeAt 34 = .ok (.iand, 1) := by decide +kernel
theorem zd_M_nodeAt_35 : decode zb_M_nodeAt 35 = .ok (.iload_n 1, 1) := by decide +kernel
theorem zd_M_nodeAt_36 : decode zb_M_nodeAt 36 = .ok (.iconst 1, 1) := by decide +kernel
theorem zd_M_nodeAt_37 : decode zb_M_nodeAt 37 = .ok (.ishr, 1) := by decide +kernel
theorem zd_M_nodeAt_38 : decode zb_M_nodeAt 38 = .ok (.iconst 1, 1) := by decide +kernel
theorem zd_M_nodeAt_39 : decode zb_M_nodeAt 39 = .ok (.iand, 1) := by decide +kernel
theorem zd_M_nodeAt_40 : decode zb_M_nodeAt 40 = .ok (.iadd, 1) := by decide +kernel
theorem zd_M_nodeAt_41 : decode zb_M_nodeAt 41 = .ok (.iload_n 1, 1) := by decide +kernel
theorem zd_M_nodeAt_42 : decode zb_M_nodeAt 42 = .ok (.iconst 2, 1) := by decide +kernel
theorem zd_M_nodeAt_43 : decode zb_M_nodeAt 43 = .ok (.ishr, 1) := by decide +kernel
theorem zd_M_nodeAt_44 : decode zb_M_nodeAt 44 = .ok (.iconst 1, 1) := by decide +kernel
theorem zd_M_nodeAt_45 : decode zb_M_nodeAt 45 = .ok (.iand, 1) := by decide +kernel
theorem zd_M_nodeAt_46 : decode zb_M_nodeAt 46 = .ok (.iadd, 1) := by decide +kernel
theorem zd_M_nodeAt_47 : decode zb_M_nodeAt 47 = .ok (.iload_n 1, 1) := by decide +kernel
theorem zd_M_nodeAt_48 : decode zb_M_nodeAt 48 = .ok (.iconst 3, 1) := by decide +kernel
theorem zd_M_nodeAt_49 : decode zb_M_nodeAt 49 = .ok (.ishr, 1) := by decide +kernel
theorem zd_M_nodeAt_50 : decode zb_M_nodeAt 50 = .ok (.iconst 1, 1) := by decide +kernel
theorem zd_M_nodeAt_51 : decode zb_M_nodeAt 51 = .ok (.iand, 1) := by decide +kernel
theorem zd_M_nodeAt_52 : decode zb_M_nodeAt 52 = .ok (.iadd, 1) := by decide +kernel
theorem zd_M_nodeAt_53 : decode zb_M_nodeAt 53 = .ok (.istore_n 3, 1) := by decide +kernel
theorem zd_M_nodeAt_54 : decode zb_M_nodeAt 54 = .ok (.bipush 12, 2) := by decide +kernel
theorem zd_M_nodeAt_56 : decode zb_M_nodeAt 56 = .ok (.iload_n 3, 1) := by decide +kernel
theorem zd_M_nodeAt_57 : decode zb_M_nodeAt 57 = .ok (.iconst 2, 1) := by decide +kernel
theorem zd_M_nodeAt_58 : decode zb_M_nodeAt 58 = .ok (.irem, 1) := by decide +kernel
theorem zd_M_nodeAt_59 : decode zb_M_nodeAt 59 = .ok (.iadd, 1) := by decide +kernel
theorem zd_M_nodeAt_60 : decode zb_M_nodeAt 60 = .ok (.ireturn, 1) := by decide +kernel
theorem zd_M_nodeAt_61 : decode zb_M_nodeAt 61 = .ok (.bipush 8, 2) := by decide +kernel
theorem zd_M_nodeAt_63 : decode zb_M_nodeAt 63 = .ok (.iload_n 2, 1) := by decide +kernel
theorem zd_M_nodeAt_64 : decode zb_M_nodeAt 64 = .ok (.iconst 1, 1) := by decide +kernel
theorem zd_M_nodeAt_65 : decode zb_M_nodeAt 65 = .ok (.if_icmp .ne 12, 3) := by decide +kernel
theorem zd_M_nodeAt_68 : decode zb_M_nodeAt 68 = .ok (.aload_n 0, 1) := by decide +kernel
theorem zd_M_nodeAt_69 : decode zb_M_nodeAt 69 = .ok (.getfield 7, 3) := by decide +kernel
theorem zd_M_nodeAt_72 : decode zb_M_nodeAt 72 = .ok (.iload_n 1, 1) := by decide +kernel
theorem zd_M_nodeAt_73 : decode zb_M_nodeAt 73 = .ok (.iaload, 1) := by decide +kernel
theorem zd_M_nodeAt_74 : decode zb_M_nodeAt 74 = .ok (.goto 9, 3) := by decide +kernel
theorem zd_M_nodeAt_77 : decode zb_M_nodeAt 77 = .ok (.aload_n 0, 1) := by decide +kernel
theorem zd_M_nodeAt_78 : decode zb_M_nodeAt 78 = .ok (.getfield 13, 3) := by decide +kernel
theorem zd_M_nodeAt_81 : decode zb_M_nodeAt 81 = .ok (.iload_n 1, 1) := by decide +kernel
theorem zd_M_nodeAt_82 : decode zb_M_nodeAt 82 = .ok (.iaload, 1) := by decide +kernel
theorem zd_M_nodeAt_83 : decode zb_M_nodeAt 83 = .ok (.iconst 2, 1) := by decide +kernel
theorem zd_M_nodeAt_84 : decode zb_M_nodeAt 84 = .ok (.idiv, 1) := by decide +kernel
theorem zd_M_nodeAt_85 : decode zb_M_nodeAt 85 = .ok (.iadd, 1) := by decide +kernel
theorem zd_M_nodeAt_86 : decode zb_M_nodeAt 86 = .ok (.ireturn, 1) := by decide +kernel
theorem zd_M_end_0 : decode zb_M_end 0 = .ok (.aload_n 0, 1) := by decide +kernel
theorem zd_M_end_1 : decode zb_M_end 1 = .ok (.getfield 7, 3) := by decide +kernel
theorem zd_M_end_4 : decode zb_M_end 4 = .ok (.iload_n 1, 1) := by decide +kernel
theorem zd_M_end_5 : decode zb_M_end 5 = .ok (.iaload, 1) := by decide +kernel
theorem zd_M_end_6 : decode zb_M_end 6 = .ok (.iconst 2, 1) := by decide +kernel
theorem zd_M_end_7 : decode zb_M_end 7 = .ok (.idiv, 1) := by decide +kernel
theorem zd_M_end_8 : decode zb_M_end 8 = .ok (.aload_n 0, 1) := by decide +kernel
theorem zd_M_end_9 : decode zb_M_end 9 = .ok (.getfield 13, 3) := by decide +kernel
theorem zd_M_end_12 : decode zb_M_end 12 = .ok (.iload_n 1, 1) := by decide +kernel
theorem zd_M_end_13 : decode zb_M_end 13 = .ok (.iaload, 1) := by decide +kernel
theorem zd_M_end_14 : decode zb_M_end 14 = .ok (.iconst 2, 1) := by decide +kernel
theorem zd_M_end_15 : decode zb_M_end 15 = .ok (.idiv, 1) := by decide +kernel
theorem zd_M_end_16 : decode zb_M_end 16 = .ok (.if_icmp .ne 7, 3) := by decide +kernel
theorem zd_M_end_19 : decode zb_M_end 19 = .ok (.iconst 2, 1) := by decide +kernel
theorem zd_M_end_20 : decode zb_M_end 20 = .ok (.goto 4, 3) := by decide +kernel
theorem zd_M_end_23 : decode zb_M_end 23 = .ok (.iconst 4, 1) := by decide +kernel
theorem zd_M_end_24 : decode zb_M_end 24 = .ok (.ireturn, 1) := by decide +kernel
theorem zd_M_holds_0 : decode zb_M_holds 0 = .ok (.iconst 0, 1) := by decide +kernel
theorem zd_M_holds_1 : decode zb_M_holds 1 = .ok (.istore 4, 2) := by decide +kernel
theorem zd_M_holds_3 : decode zb_M_holds 3 = .ok (.iconst 0, 1) := by decide +kernel
theorem zd_M_holds_4 : decode zb_M_holds 4 = .ok (.istore 5, 2) := by decide +kernel
theorem zd_M_holds_6 : decode zb_M_holds 6 = .ok (.iload 5, 2) := by decide +kernel
theorem zd_M_holds_8 : decode zb_M_holds 8 = .ok (.aload_n 0, 1) := by decide +kernel
theorem zd_M_holds_9 : decode zb_M_holds 9 = .ok (.getfield 91, 3) := by decide +kernel
theorem zd_M_holds_12 : decode zb_M_holds 12 = .ok (.if_icmp .ge 120, 3) := by decide +kernel
theorem zd_M_holds_15 : decode zb_M_holds 15 = .ok (.aload_n 0, 1) := by decide +kernel
theorem zd_M_holds_16 : decode zb_M_holds 16 = .ok (.getfield 34, 3) := by decide +kernel
theorem zd_M_holds_19 : decode zb_M_holds 19 = .ok (.iload 5, 2) := by decide +kernel
theorem zd_M_holds_21 : decode zb_M_holds 21 = .ok (.iaload, 1) := by decide +kernel
theorem zd_M_holds_22 : decode zb_M_holds 22 = .ok (.istore 6, 2) := by decide +kernel
theorem zd_M_holds_24 : decode zb_M_holds 24 = .ok (.aload_n 0, 1) := by decide +kernel
theorem zd_M_holds_25 : decode zb_M_holds 25 = .ok (.getfield 43, 3) := by decide +kernel
theorem zd_M_holds_28 : decode zb_M_holds 28 = .ok (.iload 5, 2) := by decide +kernel
theorem zd_M_holds_30 : decode zb_M_holds 30 = .ok (.iaload, 1) := by decide +kernel
theorem zd_M_holds_31 : decode zb_M_holds 31 = .ok (.istore 7, 2) := by decide +kernel
theorem zd_M_holds_33 : decode zb_M_holds 33 = .ok (.aload_n 0, 1) := by decide +kernel
theorem zd_M_holds_34 : decode zb_M_holds 34 = .ok (.getfield 40, 3) := by decide +kernel
theorem zd_M_holds_37 : decode zb_M_holds 37 = .ok (.iload 5, 2) := by decide +kernel
theorem zd_M_holds_39 : decode zb_M_holds 39 = .ok (.iaload, 1) := by decide +kernel
theorem zd_M_holds_40 : decode zb_M_holds 40 = .ok (.iconst 1, 1) := by decide +kernel
theorem zd_M_holds_41 : decode zb_M_holds 41 = .ok (.if_icmp .eq 14, 3) := by decide +kernel
theorem zd_M_holds_44 : decode zb_M_holds 44 = .ok (.aload_n 0, 1) := by decide +kernel
theorem zd_M_holds_45 : decode zb_M_holds 45 = .ok (.getfield 40, 3) := by decide +kernel
theorem zd_M_holds_48 : decode zb_M_holds 48 = .ok (.iload 5, 2) := by decide +kernel
theorem zd_M_holds_50 : decode zb_M_holds 50 = .ok (.iaload, 1) := by decide +kernel
theorem zd_M_holds_51 : decode zb_M_holds 51 = .ok (.iconst 2, 1) := by decide +kernel
theorem zd_M_holds_52 : decode zb_M_holds 52 = .ok (.if_icmp .ne 23, 3) := by decide +kernel
theorem zd_M_holds_55 : decode zb_M_holds 55 = .ok (.iload 7, 2) := by decide +kernel
theorem zd_M_holds_57 : decode zb_M_holds 57 = .ok (.ifCond .le 18, 3) := by decide +kernel
theorem zd_M_holds_60 : decode zb_M_holds 60 = .ok (.aload_n 0, 1) := by decide +kernel
theorem zd_M_holds_61 : decode zb_M_holds 61 = .ok (.getfield 16, 3) := by decide +kernel
theorem zd_M_holds_64 : decode zb_M_holds 64 = .ok (.iload 6, 2) := by decide +kernel
theorem zd_M_holds_66 : decode zb_M_holds 66 = .ok (.iaload, 1) := by decide +kernel
theorem zd_M_holds_67 : decode zb_M_holds 67 = .ok (.iload_n 3, 1) := by decide +kernel
theorem zd_M_holds_68 : decode zb_M_holds 68 = .ok (.if_icmp .ne 7, 3) := by decide +kernel
theorem zd_M_holds_71 : decode zb_M_holds 71 = .ok (.iconst 1, 1) := by decide +kernel
theorem zd_M_holds_72 : decode zb_M_holds 72 = .ok (.goto 4, 3) := by decide +kernel
theorem zd_M_holds_75 : decode zb_M_holds 75 = .ok (.iconst 0, 1) := by decide +kernel
theorem zd_M_holds_76 : decode zb_M_holds 76 = .ok (.istore 8, 2) := by decide +kernel
theorem zd_M_holds_78 : decode zb_M_holds 78 = .ok (.iload 8, 2) := by decide +kernel
theorem zd_M_holds_80 : decode zb_M_holds 80 = .ok (.ifCond .eq 42, 3) := by decide +kernel
theorem zd_M_holds_83 : decode zb_M_holds 83 = .ok (.aload_n 0, 1) := by decide +kernel
theorem zd_M_holds_84 : decode zb_M_holds 84 = .ok (.iload 6, 2) := by decide +kernel
theorem zd_M_holds_86 : decode zb_M_holds 86 = .ok (.iload 7, 2) := by decide +kernel
theorem zd_M_holds_88 : decode zb_M_holds 88 = .ok (.invokevirtual 98, 3) := by decide +kernel
theorem zd_M_holds_91 : decode zb_M_holds 91 = .ok (.iload_n 2, 1) := by decide +kernel
theorem zd_M_holds_92 : decode zb_M_holds 92 = .ok (.if_icmp .ne 30, 3) := by decide +kernel
theorem zd_M_holds_95 : decode zb_M_holds 95 = .ok (.aload_n 0, 1) := by decide +kernel
theorem zd_M_holds_96 : decode zb_M_holds 96 = .ok (.iload 6, 2) := by decide +kernel
theorem zd_M_holds_98 : decode zb_M_holds 98 = .ok (.iload 7, 2) := by decide +kernel
theorem zd_M_holds_100 : decode zb_M_holds 100 = .ok (.iconst 1, 1) := by decide +kernel
theorem zd_M_holds_101 : decode zb_M_holds 101 = .ok (.isub, 1) := by decide +kernel
theorem zd_M_holds_102 : decode zb_M_holds 102 = .ok (.invokevirtual 98, 3) := by decide +kernel
theorem zd_M_holds_105 : decode zb_M_holds 105 = .ok (.iload_n 1, 1) := by decide +kernel
theorem zd_M_holds_106 : decode zb_M_holds 106 = .ok (.if_icmp .ne 16, 3) := by decide +kernel
theorem zd_M_holds_109 : decode zb_M_holds 109 = .ok (.iload 4, 2) := by decide +kernel
theorem zd_M_holds_111 : decode zb_M_holds 111 = .ok (.aload_n 0, 1) := by decide +kernel
theorem zd_M_holds_112 : decode zb_M_holds 112 = .ok (.getfield 37, 3) := by decide +kernel
theorem zd_M_holds_115 : decode zb_M_holds 115 = .ok (.iload 5, 2) := by decide +kernel
theorem zd_M_holds_117 : decode zb_M_holds 117 = .ok (.iaload, 1) := by decide +kernel
theorem zd_M_holds_118 : decode zb_M_holds 118 = .ok (.iadd, 1) := by decide +kernel
theorem zd_M_holds_119 : decode zb_M_holds 119 = .ok (.goto 5, 3) := by decide +kernel
theorem zd_M_holds_122 : decode zb_M_holds 122 = .ok (.iload 4, 2) := by decide +kernel
theorem zd_M_holds_124 : decode zb_M_holds 124 = .ok (.istore 4, 2) := by decide +kernel
theorem zd_M_holds_126 : decode zb_M_holds 126 = .ok (.iinc 5 1, 3) := by decide +kernel
theorem zd_M_holds_129 : decode zb_M_holds 129 = .ok (.goto (-123), 3) := by decide +kernel
theorem zd_M_holds_132 : decode zb_M_holds 132 = .ok (.iload 4, 2) := by decide +kernel
theorem zd_M_holds_134 : decode zb_M_holds 134 = .ok (.ireturn, 1) := by decide +kernel
theorem zd_M_slow_0 : decode zb_M_slow 0 = .ok (.aload_n 0, 1) := by decide +kernel
theorem zd_M_slow_1 : decode zb_M_slow 1 = .ok (.iload_n 1, 1) := by decide +kernel
theorem zd_M_slow_2 : decode zb_M_slow 2 = .ok (.invokevirtual 123, 3) := by decide +kernel
theorem zd_M_slow_5 : decode zb_M_slow 5 = .ok (.ifCond .eq 85, 3) := by decide +kernel
theorem zd_M_slow_8 : decode zb_M_slow 8 = .ok (.aload_n 0, 1) := by decide +kernel
theorem zd_M_slow_9 : decode zb_M_slow 9 = .ok (.getfield 22, 3) := by decide +kernel
theorem zd_M_slow_12 : decode zb_M_slow 12 = .ok (.iload_n 1, 1) := by decide +kernel
theorem zd_M_slow_13 : decode zb_M_slow 13 = .ok (.aload_n 0, 1) := by decide +kernel
theorem zd_M_slow_14 : decode zb_M_slow 14 = .ok (.getfield 19, 3) := by decide +kernel
theorem zd_M_slow_17 : decode zb_M_slow 17 = .ok (.iload_n 1, 1) := by decide +kernel
theorem zd_M_slow_18 : decode zb_M_slow 18 = .ok (.iaload, 1) := by decide +kernel
theorem zd_M_slow_19 : decode zb_M_slow 19 = .ok (.iastore, 1) := by decide +kernel
theorem zd_M_slow_20 : decode zb_M_slow 20 = .ok (.aload_n 0, 1) := by decide +kernel
theorem zd_M_slow_21 : decode zb_M_slow 21 = .ok (.getfield 19, 3) := by decide +kernel
theorem zd_M_slow_24 : decode zb_M_slow 24 = .ok (.iload_n 1, 1) := by decide +kernel
theorem zd_M_slow_25 : decode zb_M_slow 25 = .ok (.iaload, 1) := by decide +kernel
theorem zd_M_slow_26 : decode zb_M_slow 26 = .ok (.aload_n 0, 1) := by decide +kernel
theorem zd_M_slow_27 : decode zb_M_slow 27 = .ok (.getfield 19, 3) := by decide +kernel
theorem zd_M_slow_30 : decode zb_M_slow 30 = .ok (.iload_n 1, 1) := by decide +kernel
theorem zd_M_slow_31 : decode zb_M_slow 31 = .ok (.iaload, 1) := by decide +kernel
theorem zd_M_slow_32 : decode zb_M_slow 32 = .ok (.aload_n 0, 1) := by decide +kernel
theorem zd_M_slow_33 : decode zb_M_slow 33 = .ok (.getfield 25, 3) := by decide +kernel
theorem zd_M_slow_36 : decode zb_M_slow 36 = .ok (.iload_n 1, 1) := by decide +kernel
theorem zd_M_slow_37 : decode zb_M_slow 37 = .ok (.iaload, 1) := by decide +kernel
theorem zd_M_slow_38 : decode zb_M_slow 38 = .ok (.imul, 1) := by decide +kernel
theorem zd_M_slow_39 : decode zb_M_slow 39 = .ok (.sipush 128, 3) := by decide +kernel
theorem zd_M_slow_42 : decode zb_M_slow 42 = .ok (.idiv, 1) := by decide +kernel
theorem zd_M_slow_43 : decode zb_M_slow 43 = .ok (.isub, 1) := by decide +kernel
theorem zd_M_slow_44 : decode zb_M_slow 44 = .ok (.istore_n 2, 1) := by decide +kernel
theorem zd_M_slow_45 : decode zb_M_slow 45 = .ok (.aload_n 0, 1) := by decide +kernel
theorem zd_M_slow_46 : decode zb_M_slow 46 = .ok (.getfield 19, 3) := by decide +kernel
theorem zd_M_slow_49 : decode zb_M_slow 49 = .ok (.iload_n 1, 1) := by decide +kernel
theorem zd_M_slow_50 : decode zb_M_slow 50 = .ok (.iload_n 2, 1) := by decide +kernel
theorem zd_M_slow_51 : decode zb_M_slow 51 = .ok (.iconst 1, 1) := by decide +kernel
theorem zd_M_slow_52 : decode zb_M_slow 52 = .ok (.if_icmp .ge 7, 3) := by decide +kernel
theorem zd_M_slow_55 : decode zb_M_slow 55 = .ok (.iconst 1, 1) := by decide +kernel
theorem zd_M_slow_56 : decode zb_M_slow 56 = .ok (.goto 4, 3) := by decide +kernel
theorem zd_M_slow_59 : decode zb_M_slow 59 = .ok (.iload_n 2, 1) := by decide +kernel
theorem zd_M_slow_60 : decode zb_M_slow 60 = .ok (.iastore, 1) := by decide +kernel
theorem zd_M_slow_61 : decode zb_M_slow 61 = .ok (.aload_n 0, 1) := by decide +kernel
theorem zd_M_slow_62 : decode zb_M_slow 62 = .ok (.getfield 25, 3) := by decide +kernel
theorem zd_M_slow_65 : decode zb_M_slow 65 = .ok (.iload_n 1, 1) := by decide +kernel
theorem zd_M_slow_66 : decode zb_M_slow 66 = .ok (.bipush 15, 2) := by decide +kernel
theorem zd_M_slow_68 : decode zb_M_slow 68 = .ok (.aload_n 0, 1) := by decide +kernel
theorem zd_M_slow_69 : decode zb_M_slow 69 = .ok (.getfield 25, 3) := by decide +kernel
theorem zd_M_slow_72 : decode zb_M_slow 72 = .ok (.iload_n 1, 1) := by decide +kernel
theorem zd_M_slow_73 : decode zb_M_slow 73 = .ok (.iaload, 1) := by decide +kernel
theorem zd_M_slow_74 : decode zb_M_slow 74 = .ok (.imul, 1) := by decide +kernel
theorem zd_M_slow_75 : decode zb_M_slow 75 = .ok (.bipush 64, 2) := by decide +kernel
theorem zd_M_slow_77 : decode zb_M_slow 77 = .ok (.iadd, 1) := by decide +kernel
theorem zd_M_slow_78 : decode zb_M_slow 78 = .ok (.bipush 16, 2) := by decide +kernel
theorem zd_M_slow_80 : decode zb_M_slow 80 = .ok (.idiv, 1) := by decide +kernel
theorem zd_M_slow_81 : decode zb_M_slow 81 = .ok (.iastore, 1) := by decide +kernel
theorem zd_M_slow_82 : decode zb_M_slow 82 = .ok (.aload_n 0, 1) := by decide +kernel
theorem zd_M_slow_83 : decode zb_M_slow 83 = .ok (.getfield 28, 3) := by decide +kernel
theorem zd_M_slow_86 : decode zb_M_slow 86 = .ok (.iload_n 1, 1) := by decide +kernel
theorem zd_M_slow_87 : decode zb_M_slow 87 = .ok (.iconst 0, 1) := by decide +kernel
theorem zd_M_slow_88 : decode zb_M_slow 88 = .ok (.iastore, 1) := by decide +kernel
theorem zd_M_slow_89 : decode zb_M_slow 89 = .ok (.return_, 1) := by decide +kernel
theorem zd_M_slow_90 : decode zb_M_slow 90 = .ok (.aload_n 0, 1) := by decide +kernel
theorem zd_M_slow_91 : decode zb_M_slow 91 = .ok (.getfield 28, 3) := by decide +kernel
theorem zd_M_slow_94 : decode zb_M_slow 94 = .ok (.iload_n 1, 1) := by decide +kernel
theorem zd_M_slow_95 : decode zb_M_slow 95 = .ok (.aload_n 0, 1) := by decide +kernel
theorem zd_M_slow_96 : decode zb_M_slow 96 = .ok (.getfield 28, 3) := by decide +kernel
theorem zd_M_slow_99 : decode zb_M_slow 99 = .ok (.iload_n 1, 1) := by decide +kernel
theorem zd_M_slow_100 : decode zb_M_slow 100 = .ok (.iaload, 1) := by decide +kernel
theorem zd_M_slow_101 : decode zb_M_slow 101 = .ok (.iconst 1, 1) := by decide +kernel
theorem zd_M_slow_102 : decode zb_M_slow 102 = .ok (.iadd, 1) := by decide +kernel
theorem zd_M_slow_103 : decode zb_M_slow 103 = .ok (.iastore, 1) := by decide +kernel
theorem zd_M_slow_104 : decode zb_M_slow 104 = .ok (.aload_n 0, 1) := by decide +kernel
theorem zd_M_slow_105 : decode zb_M_slow 105 = .ok (.getfield 28, 3) := by decide +kernel
theorem zd_M_slow_108 : decode zb_M_slow 108 = .ok (.iload_n 1, 1) := by decide +kernel
theorem zd_M_slow_109 : decode zb_M_slow 109 = .ok (.iaload, 1) := by decide +kernel
theorem zd_M_slow_110 : decode zb_M_slow 110 = .ok (.bipush 16, 2) := by decide +kernel
theorem zd_M_slow_112 : decode zb_M_slow 112 = .ok (.if_icmp .ne 51, 3) := by decide +kernel
theorem zd_M_slow_115 : decode zb_M_slow 115 = .ok (.aload_n 0, 1) := by decide +kernel
theorem zd_M_slow_116 : decode zb_M_slow 116 = .ok (.getfield 28, 3) := by decide +kernel
theorem zd_M_slow_119 : decode zb_M_slow 119 = .ok (.iload_n 1, 1) := by decide +kernel
theorem zd_M_slow_120 : decode zb_M_slow 120 = .ok (.iconst 0, 1) := by decide +kernel
theorem zd_M_slow_121 : decode zb_M_slow 121 = .ok (.iastore, 1) := by decide +kernel
theorem zd_M_slow_122 : decode zb_M_slow 122 = .ok (.aload_n 0, 1) := by decide +kernel
theorem zd_M_slow_123 : decode zb_M_slow 123 = .ok (.getfield 25, 3) := by decide +kernel
theorem zd_M_slow_126 : decode zb_M_slow 126 = .ok (.iload_n 1, 1) := by decide +kernel
theorem zd_M_slow_127 : decode zb_M_slow 127 = .ok (.bipush 15, 2) := by decide +kernel
theorem zd_M_slow_129 : decode zb_M_slow 129 = .ok (.aload_n 0, 1) := by decide +kernel
theorem zd_M_slow_130 : decode zb_M_slow 130 = .ok (.getfield 25, 3) := by decide +kernel
theorem zd_M_slow_133 : decode zb_M_slow 133 = .ok (.iload_n 1, 1) := by decide +kernel
theorem zd_M_slow_134 : decode zb_M_slow 134 = .ok (.iaload, 1) := by decide +kernel
theorem zd_M_slow_135 : decode zb_M_slow 135 = .ok (.imul, 1) := by decide +kernel
theorem zd_M_slow_136 : decode zb_M_slow 136 = .ok (.bipush 16, 2) := by decide +kernel
theorem zd_M_slow_138 : decode zb_M_slow 138 = .ok (.idiv, 1) := by decide +kernel
theorem zd_M_slow_139 : decode zb_M_slow 139 = .ok (.iastore, 1) := by decide +kernel
theorem zd_M_slow_140 : decode zb_M_slow 140 = .ok (.aload_n 0, 1) := by decide +kernel
theorem zd_M_slow_141 : decode zb_M_slow 141 = .ok (.getfield 19, 3) := by decide +kernel
theorem zd_M_slow_144 : decode zb_M_slow 144 = .ok (.iload_n 1, 1) := by decide +kernel
theorem zd_M_slow_145 : decode zb_M_slow 145 = .ok (.aload_n 0, 1) := by decide +kernel
theorem zd_M_slow_146 : decode zb_M_slow 146 = .ok (.getfield 19, 3) := by decide +kernel
theorem zd_M_slow_149 : decode zb_M_slow 149 = .ok (.iload_n 1, 1) := by decide +kernel
theorem zd_M_slow_150 : decode zb_M_slow 150 = .ok (.iaload, 1) := by decide +kernel
theorem zd_M_slow_151 : decode zb_M_slow 151 = .ok (.aload_n 0, 1) := by decide +kernel
theorem zd_M_slow_152 : decode zb_M_slow 152 = .ok (.getfield 22, 3) := by decide +kernel
theorem zd_M_slow_155 : decode zb_M_slow 155 = .ok (.iload_n 1, 1) := by decide +kernel
theorem zd_M_slow_156 : decode zb_M_slow 156 = .ok (.iaload, 1) := by decide +kernel
theorem zd_M_slow_157 : decode zb_M_slow 157 = .ok (.iadd, 1) := by decide +kernel
theorem zd_M_slow_158 : decode zb_M_slow 158 = .ok (.iconst 1, 1) := by decide +kernel
theorem zd_M_slow_159 : decode zb_M_slow 159 = .ok (.iadd, 1) := by decide +kernel
theorem zd_M_slow_160 : decode zb_M_slow 160 = .ok (.iconst 2, 1) := by decide +kernel
theorem zd_M_slow_161 : decode zb_M_slow 161 = .ok (.idiv, 1) := by decide +kernel
theorem zd_M_slow_162 : decode zb_M_slow 162 = .ok (.iastore, 1) := by decide +kernel
theorem zd_M_slow_163 : decode zb_M_slow 163 = .ok (.return_, 1) := by decide +kernel
theorem zd_M_told_0 : decode zb_M_told 0 = .ok (.iconst 0, 1) := by decide +kernel
theorem zd_M_told_1 : decode zb_M_told 1 = .ok (.istore_n 2, 1) := by decide +kernel
theorem zd_M_told_2 : decode zb_M_told 2 = .ok (.iconst 0, 1) := by decide +kernel
theorem zd_M_told_3 : decode zb_M_told 3 = .ok (.istore_n 3, 1) := by decide +kernel
theorem zd_M_told_4 : decode zb_M_told 4 = .ok (.iload_n 3, 1) := by decide +kernel
theorem zd_M_told_5 : decode zb_M_told 5 = .ok (.aload_n 0, 1) := by decide +kernel
theorem zd_M_told_6 : decode zb_M_told 6 = .ok (.getfield 91, 3) := by decide +kernel
theorem zd_M_told_9 : decode zb_M_told 9 = .ok (.if_icmp .ge 66, 3) := by decide +kernel
theorem zd_M_told_12 : decode zb_M_told 12 = .ok (.iload_n 2, 1) := by decide +kernel
theorem zd_M_told_13 : decode zb_M_told 13 = .ok (.ifCond .ne 50, 3) := by decide +kernel
theorem zd_M_told_16 : decode zb_M_told 16 = .ok (.aload_n 0, 1) := by decide +kernel
theorem zd_M_told_17 : decode zb_M_told 17 = .ok (.getfield 34, 3) := by decide +kernel
theorem zd_M_told_20 : decode zb_M_told 20 = .ok (.iload_n 3, 1) := by decide +kernel
theorem zd_M_told_21 : decode zb_M_told 21 = .ok (.iaload, 1) := by decide +kernel
theorem zd_M_told_22 : decode zb_M_told 22 = .ok (.iload_n 1, 1) := by decide +kernel
theorem zd_M_told_23 : decode zb_M_told 23 = .ok (.if_icmp .ne 44, 3) := by decide +kernel
theorem zd_M_told_26 : decode zb_M_told 26 = .ok (.aload_n 0, 1) := by decide +kernel
theorem zd_M_told_27 : decode zb_M_told 27 = .ok (.getfield 40, 3) := by decide +kernel
theorem zd_M_told_30 : decode zb_M_told 30 = .ok (.iload_n 3, 1) := by decide +kernel
theorem zd_M_told_31 : decode zb_M_told 31 = .ok (.iaload, 1) := by decide +kernel
theorem zd_M_told_32 : decode zb_M_told 32 = .ok (.iconst 4, 1) := by decide +kernel
theorem zd_M_told_33 : decode zb_M_told 33 = .ok (.if_icmp .ne 34, 3) := by decide +kernel
theorem zd_M_told_36 : decode zb_M_told 36 = .ok (.aload_n 0, 1) := by decide +kernel
theorem zd_M_told_37 : decode zb_M_told 37 = .ok (.getfield 52, 3) := by decide +kernel
theorem zd_M_told_40 : decode zb_M_told 40 = .ok (.iload_n 3, 1) := by decide +kernel
theorem zd_M_told_41 : decode zb_M_told 41 = .ok (.baload, 1) := by decide +kernel
theorem zd_M_told_42 : decode zb_M_told 42 = .ok (.ifCond .eq 25, 3) := by decide +kernel
theorem zd_M_told_45 : decode zb_M_told 45 = .ok (.aload_n 0, 1) := by decide +kernel
theorem zd_M_told_46 : decode zb_M_told 46 = .ok (.getfield 49, 3) := by decide +kernel
theorem zd_M_told_49 : decode zb_M_told 49 = .ok (.iload_n 3, 1) := by decide +kernel
theorem zd_M_told_50 : decode zb_M_told 50 = .ok (.iaload, 1) := by decide +kernel
theorem zd_M_told_51 : decode zb_M_told 51 = .ok (.aload_n 0, 1) := by decide +kernel
theorem zd_M_told_52 : decode zb_M_told 52 = .ok (.getfield 106, 3) := by decide +kernel
theorem zd_M_told_55 : decode zb_M_told 55 = .ok (.aload_n 0, 1) := by decide +kernel
theorem zd_M_told_56 : decode zb_M_told 56 = .ok (.getfield 75, 3) := by decide +kernel
theorem zd_M_told_59 : decode zb_M_told 59 = .ok (.isub, 1) := by decide +kernel
theorem zd_M_told_60 : decode zb_M_told 60 = .ok (.if_icmp .ne 7, 3) := by decide +kernel
theorem zd_M_told_63 : decode zb_M_told 63 = .ok (.iconst 1, 1) := by decide +kernel
theorem zd_M_told_64 : decode zb_M_told 64 = .ok (.goto 4, 3) := by decide +kernel
theorem zd_M_told_67 : decode zb_M_told 67 = .ok (.iconst 0, 1) := by decide +kernel
theorem zd_M_told_68 : decode zb_M_told 68 = .ok (.istore_n 2, 1) := by decide +kernel
theorem zd_M_told_69 : decode zb_M_told 69 = .ok (.iinc 3 1, 3) := by decide +kernel
theorem zd_M_told_72 : decode zb_M_told 72 = .ok (.goto (-68), 3) := by decide +kernel
theorem zd_M_told_75 : decode zb_M_told 75 = .ok (.iload_n 2, 1) := by decide +kernel
theorem zd_M_told_76 : decode zb_M_told 76 = .ok (.ireturn, 1) := by decide +kernel
theorem zd_M_arrivals_0 : decode zb_M_arrivals 0 = .ok (.iconst 0, 1) := by decide +kernel
theorem zd_M_arrivals_1 : decode zb_M_arrivals 1 = .ok (.istore_n 1, 1) := by decide +kernel
theorem zd_M_arrivals_2 : decode zb_M_arrivals 2 = .ok (.iload_n 1, 1) := by decide +kernel
theorem zd_M_arrivals_3 : decode zb_M_arrivals 3 = .ok (.bipush 14, 2) := by decide +kernel
theorem zd_M_arrivals_5 : decode zb_M_arrivals 5 = .ok (.if_icmp .ge 92, 3) := by decide +kernel
theorem zd_M_arrivals_8 : decode zb_M_arrivals 8 = .ok (.iconst 0, 1) := by decide +kernel
theorem zd_M_arrivals_9 : decode zb_M_arrivals 9 = .ok (.istore_n 2, 1) := by decide +kernel
theorem zd_M_arrivals_10 : decode zb_M_arrivals 10 = .ok (.iload_n 2, 1) := by decide +kernel
theorem zd_M_arrivals_11 : decode zb_M_arrivals 11 = .ok (.bipush 14, 2) := by decide +kernel
theorem zd_M_arrivals_13 : decode zb_M_arrivals 13 = .ok (.if_icmp .ge 78, 3) := by decide +kernel
theorem zd_M_arrivals_16 : decode zb_M_arrivals 16 = .ok (.iconst 0, 1) := by decide +kernel
theorem zd_M_arrivals_17 : decode zb_M_arrivals 17 = .ok (.istore_n 3, 1) := by decide +kernel
theorem zd_M_arrivals_18 : decode zb_M_arrivals 18 = .ok (.iload_n 3, 1) := by decide +kernel
theorem zd_M_arrivals_19 : decode zb_M_arrivals 19 = .ok (.aload_n 0, 1) := by decide +kernel
theorem zd_M_arrivals_20 : decode zb_M_arrivals 20 = .ok (.getfield 91, 3) := by decide +kernel
theorem zd_M_arrivals_23 : decode zb_M_arrivals 23 = .ok (.if_icmp .ge 62, 3) := by decide +kernel
theorem zd_M_arrivals_26 : decode zb_M_arrivals 26 = .ok (.iload_n 2, 1) := by decide +kernel
theorem zd_M_arrivals_27 : decode zb_M_arrivals 27 = .ok (.iload_n 1, 1) := by decide +kernel
theorem zd_M_arrivals_28 : decode zb_M_arrivals 28 = .ok (.invokestatic 129, 3) := by decide +kernel
theorem zd_M_arrivals_31 : decode zb_M_arrivals 31 = .ok (.ifCond .eq 54, 3) := by decide +kernel
theorem zd_M_arrivals_34 : decode zb_M_arrivals 34 = .ok (.aload_n 0, 1) := by decide +kernel
theorem zd_M_arrivals_35 : decode zb_M_arrivals 35 = .ok (.getfield 40, 3) := by decide +kernel
theorem zd_M_arrivals_38 : decode zb_M_arrivals 38 = .ok (.iload_n 3, 1) := by decide +kernel
theorem zd_M_arrivals_39 : decode zb_M_arrivals 39 = .ok (.iaload, 1) := by decide +kernel
theorem zd_M_arrivals_40 : decode zb_M_arrivals 40 = .ok (.iconst 3, 1) := by decide +kernel
theorem zd_M_arrivals_41 : decode zb_M_arrivals 41 = .ok (.if_icmp .ne 38, 3) := by decide +kernel
theorem zd_M_arrivals_44 : decode zb_M_arrivals 44 = .ok (.aload_n 0, 1) := by decide +kernel
theorem zd_M_arrivals_45 : decode zb_M_arrivals 45 = .ok (.getfield 49, 3) := by decide +kernel
theorem zd_M_arrivals_48 : decode zb_M_arrivals 48 = .ok (.iload_n 3, 1) := by decide +kernel
theorem zd_M_arrivals_49 : decode zb_M_arrivals 49 = .ok (.iaload, 1) := by decide +kernel
theorem zd_M_arrivals_50 : decode zb_M_arrivals 50 = .ok (.aload_n 0, 1) := by decide +kernel
theorem zd_M_arrivals_51 : decode zb_M_arrivals 51 = .ok (.getfield 75, 3) := by decide +kernel
theorem zd_M_arrivals_54 : decode zb_M_arrivals 54 = .ok (.iadd, 1) := by decide +kernel
theorem zd_M_arrivals_55 : decode zb_M_arrivals 55 = .ok (.aload_n 0, 1) := by decide +kernel
theorem zd_M_arrivals_56 : decode zb_M_arrivals 56 = .ok (.getfield 106, 3) := by decide +kernel
theorem zd_M_arrivals_59 : decode zb_M_arrivals 59 = .ok (.if_icmp .ne 20, 3) := by decide +kernel
theorem zd_M_arrivals_62 : decode zb_M_arrivals 62 = .ok (.aload_n 0, 1) := by decide +kernel
theorem zd_M_arrivals_63 : decode zb_M_arrivals 63 = .ok (.iload_n 3, 1) := by decide +kernel
theorem zd_M_arrivals_64 : decode zb_M_arrivals 64 = .ok (.iload_n 2, 1) := by decide +kernel
theorem zd_M_arrivals_65 : decode zb_M_arrivals 65 = .ok (.iload_n 1, 1) := by decide +kernel
theorem zd_M_arrivals_66 : decode zb_M_arrivals 66 = .ok (.invokevirtual 102, 3) := by decide +kernel
theorem zd_M_arrivals_69 : decode zb_M_arrivals 69 = .ok (.ifCond .eq 10, 3) := by decide +kernel
theorem zd_M_arrivals_72 : decode zb_M_arrivals 72 = .ok (.aload_n 0, 1) := by decide +kernel
theorem zd_M_arrivals_73 : decode zb_M_arrivals 73 = .ok (.iload_n 3, 1) := by decide +kernel
theorem zd_M_arrivals_74 : decode zb_M_arrivals 74 = .ok (.iload_n 2, 1) := by decide +kernel
theorem zd_M_arrivals_75 : decode zb_M_arrivals 75 = .ok (.iload_n 1, 1) := by decide +kernel
theorem zd_M_arrivals_76 : decode zb_M_arrivals 76 = .ok (.invokevirtual 133, 3) := by decide +kernel
theorem zd_M_arrivals_79 : decode zb_M_arrivals 79 = .ok (.iinc 3 1, 3) := by decide +kernel
theorem zd_M_arrivals_82 : decode zb_M_arrivals 82 = .ok (.goto (-64), 3) := by decide +kernel
theorem zd_M_arrivals_85 : decode zb_M_arrivals 85 = .ok (.iinc 2 1, 3) := by decide +kernel
theorem zd_M_arrivals_88 : decode zb_M_arrivals 88 = .ok (.goto (-78), 3) := by decide +kernel
theorem zd_M_arrivals_91 : decode zb_M_arrivals 91 = .ok (.iinc 1 1, 3) := by decide +kernel
theorem zd_M_arrivals_94 : decode zb_M_arrivals 94 = .ok (.goto (-92), 3) := by decide +kernel
theorem zd_M_arrivals_97 : decode zb_M_arrivals 97 = .ok (.return_, 1) := by decide +kernel
theorem zd_M_isPort_0 : decode zb_M_isPort 0 = .ok (.iload_n 0, 1) := by decide +kernel
theorem zd_M_isPort_1 : decode zb_M_isPort 1 = .ok (.ifCond .lt 19, 3) := by decide +kernel
theorem zd_M_isPort_4 : decode zb_M_isPort 4 = .ok (.iload_n 1, 1) := by decide +kernel
theorem zd_M_isPort_5 : decode zb_M_isPort 5 = .ok (.ifCond .lt 15, 3) := by decide +kernel
theorem zd_M_isPort_8 : decode zb_M_isPort 8 = .ok (.iload_n 0, 1) := by decide +kernel
theorem zd_M_isPort_9 : decode zb_M_isPort 9 = .ok (.bipush 13, 2) := by decide +kernel
theorem zd_M_isPort_11 : decode zb_M_isPort 11 = .ok (.if_icmp .gt 9, 3) := by decide +kernel
theorem zd_M_isPort_14 : decode zb_M_isPort 14 = .ok (.iload_n 1, 1) := by decide +kernel
theorem zd_M_isPort_15 : decode zb_M_isPort 15 = .ok (.bipush 13, 2) := by decide +kernel
theorem zd_M_isPort_17 : decode zb_M_isPort 17 = .ok (.if_icmp .le 5, 3) := by decide +kernel
theorem zd_M_isPort_20 : decode zb_M_isPort 20 = .ok (.iconst 0, 1) := by decide +kernel
theorem zd_M_isPort_21 : decode zb_M_isPort 21 = .ok (.ireturn, 1) := by decide +kernel
theorem zd_M_isPort_22 : decode zb_M_isPort 22 = .ok (.iload_n 0, 1) := by decide +kernel
theorem zd_M_isPort_23 : decode zb_M_isPort 23 = .ok (.iload_n 1, 1) := by decide +kernel
theorem zd_M_isPort_24 : decode zb_M_isPort 24 = .ok (.if_icmp .ge 7, 3) := by decide +kernel
theorem zd_M_isPort_27 : decode zb_M_isPort 27 = .ok (.iload_n 0, 1) := by decide +kernel
theorem zd_M_isPort_28 : decode zb_M_isPort 28 = .ok (.goto 4, 3) := by decide +kernel
theorem zd_M_isPort_31 : decode zb_M_isPort 31 = .ok (.iload_n 1, 1) := by decide +kernel
theorem zd_M_isPort_32 : decode zb_M_isPort 32 = .ok (.istore_n 2, 1) := by decide +kernel
theorem zd_M_isPort_33 : decode zb_M_isPort 33 = .ok (.iload_n 0, 1) := by decide +kernel
theorem zd_M_isPort_34 : decode zb_M_isPort 34 = .ok (.iload_n 1, 1) := by decide +kernel
theorem zd_M_isPort_35 : decode zb_M_isPort 35 = .ok (.if_icmp .ge 7, 3) := by decide +kernel
theorem zd_M_isPort_38 : decode zb_M_isPort 38 = .ok (.iload_n 1, 1) := by decide +kernel
theorem zd_M_isPort_39 : decode zb_M_isPort 39 = .ok (.goto 4, 3) := by decide +kernel
theorem zd_M_isPort_42 : decode zb_M_isPort 42 = .ok (.iload_n 0, 1) := by decide +kernel
theorem zd_M_isPort_43 : decode zb_M_isPort 43 = .ok (.istore_n 3, 1) := by decide +kernel
theorem zd_M_isPort_44 : decode zb_M_isPort 44 = .ok (.iload_n 2, 1) := by decide +kernel
theorem zd_M_isPort_45 : decode zb_M_isPort 45 = .ok (.bipush 8, 2) := by decide +kernel
theorem zd_M_isPort_47 : decode zb_M_isPort 47 = .ok (.if_icmp .ge 21, 3) := by decide +kernel
theorem zd_M_isPort_50 : decode zb_M_isPort 50 = .ok (.iload_n 3, 1) := by decide +kernel
theorem zd_M_isPort_51 : decode zb_M_isPort 51 = .ok (.bipush 8, 2) := by decide +kernel
theorem zd_M_isPort_53 : decode zb_M_isPort 53 = .ok (.iload_n 2, 1) := by decide +kernel
theorem zd_M_isPort_54 : decode zb_M_isPort 54 = .ok (.iconst 2, 1) := by decide +kernel
theorem zd_M_isPort_55 : decode zb_M_isPort 55 = .ok (.idiv, 1) := by decide +kernel
theorem zd_M_isPort_56 : decode zb_M_isPort 56 = .ok (.iadd, 1) := by decide +kernel
theorem zd_M_isPort_57 : decode zb_M_isPort 57 = .ok (.if_icmp .ne 7, 3) := by decide +kernel
theorem zd_M_isPort_60 : decode zb_M_isPort 60 = .ok (.iconst 1, 1) := by decide +kernel
theorem zd_M_isPort_61 : decode zb_M_isPort 61 = .ok (.goto 24, 3) := by decide +kernel
theorem zd_M_isPort_64 : decode zb_M_isPort 64 = .ok (.iconst 0, 1) := by decide +kernel
theorem zd_M_isPort_65 : decode zb_M_isPort 65 = .ok (.goto 20, 3) := by decide +kernel
theorem zd_M_isPort_68 : decode zb_M_isPort 68 = .ok (.iload_n 2, 1) := by decide +kernel
theorem zd_M_isPort_69 : decode zb_M_isPort 69 = .ok (.bipush 12, 2) := by decide +kernel
theorem zd_M_isPort_71 : decode zb_M_isPort 71 = .ok (.if_icmp .ge 13, 3) := by decide +kernel
theorem zd_M_isPort_74 : decode zb_M_isPort 74 = .ok (.iload_n 3, 1) := by decide +kernel
theorem zd_M_isPort_75 : decode zb_M_isPort 75 = .ok (.bipush 11, 2) := by decide +kernel
theorem zd_M_isPort_77 : decode zb_M_isPort 77 = .ok (.if_icmp .le 7, 3) := by decide +kernel
theorem zd_M_isPort_80 : decode zb_M_isPort 80 = .ok (.iconst 1, 1) := by decide +kernel
theorem zd_M_isPort_81 : decode zb_M_isPort 81 = .ok (.goto 4, 3) := by decide +kernel
theorem zd_M_isPort_84 : decode zb_M_isPort 84 = .ok (.iconst 0, 1) := by decide +kernel
theorem zd_M_isPort_85 : decode zb_M_isPort 85 = .ok (.ireturn, 1) := by decide +kernel
theorem zd_M_between_0 : decode zb_M_between 0 = .ok (.aload_n 0, 1) := by decide +kernel
theorem zd_M_between_1 : decode zb_M_between 1 = .ok (.getfield 34, 3) := by decide +kernel
theorem zd_M_between_4 : decode zb_M_between 4 = .ok (.iload_n 1, 1) := by decide +kernel
theorem zd_M_between_5 : decode zb_M_between 5 = .ok (.iaload, 1) := by decide +kernel
theorem zd_M_between_6 : decode zb_M_between 6 = .ok (.istore 4, 2) := by decide +kernel
theorem zd_M_between_8 : decode zb_M_between 8 = .ok (.aload_n 0, 1) := by decide +kernel
theorem zd_M_between_9 : decode zb_M_between 9 = .ok (.getfield 43, 3) := by decide +kernel
theorem zd_M_between_12 : decode zb_M_between 12 = .ok (.iload_n 1, 1) := by decide +kernel
theorem zd_M_between_13 : decode zb_M_between 13 = .ok (.iaload, 1) := by decide +kernel
theorem zd_M_between_14 : decode zb_M_between 14 = .ok (.istore 5, 2) := by decide +kernel
theorem zd_M_between_16 : decode zb_M_between 16 = .ok (.aload_n 0, 1) := by decide +kernel
theorem zd_M_between_17 : decode zb_M_between 17 = .ok (.getfield 40, 3) := by decide +kernel
theorem zd_M_between_20 : decode zb_M_between 20 = .ok (.iload_n 1, 1) := by decide +kernel
theorem zd_M_between_21 : decode zb_M_between 21 = .ok (.iaload, 1) := by decide +kernel
theorem zd_M_between_22 : decode zb_M_between 22 = .ok (.iconst 4, 1) := by decide +kernel
theorem zd_M_between_23 : decode zb_M_between 23 = .ok (.if_icmp .ge 33, 3) := by decide +kernel
theorem zd_M_between_26 : decode zb_M_between 26 = .ok (.aload_n 0, 1) := by decide +kernel
theorem zd_M_between_27 : decode zb_M_between 27 = .ok (.iload 4, 2) := by decide +kernel
theorem zd_M_between_29 : decode zb_M_between 29 = .ok (.iload 5, 2) := by decide +kernel
theorem zd_M_between_31 : decode zb_M_between 31 = .ok (.invokevirtual 98, 3) := by decide +kernel
theorem zd_M_between_34 : decode zb_M_between 34 = .ok (.iload_n 2, 1) := by decide +kernel
theorem zd_M_between_35 : decode zb_M_between 35 = .ok (.if_icmp .ne 21, 3) := by decide +kernel
theorem zd_M_between_38 : decode zb_M_between 38 = .ok (.aload_n 0, 1) := by decide +kernel
theorem zd_M_between_39 : decode zb_M_between 39 = .ok (.iload 4, 2) := by decide +kernel
theorem zd_M_between_41 : decode zb_M_between 41 = .ok (.iload 5, 2) := by decide +kernel
theorem zd_M_between_43 : decode zb_M_between 43 = .ok (.iconst 1, 1) := by decide +kernel
theorem zd_M_between_44 : decode zb_M_between 44 = .ok (.iadd, 1) := by decide +kernel
theorem zd_M_between_45 : decode zb_M_between 45 = .ok (.invokevirtual 98, 3) := by decide +kernel
theorem zd_M_between_48 : decode zb_M_between 48 = .ok (.iload_n 3, 1) := by decide +kernel
theorem zd_M_between_49 : decode zb_M_between 49 = .ok (.if_icmp .ne 7, 3) := by decide +kernel
theorem zd_M_between_52 : decode zb_M_between 52 = .ok (.iconst 1, 1) := by decide +kernel
theorem zd_M_between_53 : decode zb_M_between 53 = .ok (.goto 4, 3) := by decide +kernel
theorem zd_M_between_56 : decode zb_M_between 56 = .ok (.iconst 0, 1) := by decide +kernel
theorem zd_M_between_57 : decode zb_M_between 57 = .ok (.ireturn, 1) := by decide +kernel
theorem zd_M_arrive_0 : decode zb_M_arrive 0 = .ok (.aload_n 0, 1) := by decide +kernel
theorem zd_M_arrive_1 : decode zb_M_arrive 1 = .ok (.getfield 34, 3) := by decide +kernel
theorem zd_M_arrive_4 : decode zb_M_arrive 4 = .ok (.iload_n 1, 1) := by decide +kernel
theorem zd_M_arrive_5 : decode zb_M_arrive 5 = .ok (.iaload, 1) := by decide +kernel
theorem zd_M_arrive_6 : decode zb_M_arrive 6 = .ok (.istore 4, 2) := by decide +kernel
theorem zd_M_arrive_8 : decode zb_M_arrive 8 = .ok (.aload_n 0, 1) := by decide +kernel
theorem zd_M_arrive_9 : decode zb_M_arrive 9 = .ok (.getfield 16, 3) := by decide +kernel
theorem zd_M_arrive_12 : decode zb_M_arrive 12 = .ok (.iload 4, 2) := by decide +kernel
theorem zd_M_arrive_14 : decode zb_M_arrive 14 = .ok (.iaload, 1) := by decide +kernel
theorem zd_M_arrive_15 : decode zb_M_arrive 15 = .ok (.istore 5, 2) := by decide +kernel
theorem zd_M_arrive_17 : decode zb_M_arrive 17 = .ok (.aload_n 0, 1) := by decide +kernel
theorem zd_M_arrive_18 : decode zb_M_arrive 18 = .ok (.getfield 43, 3) := by decide +kernel
theorem zd_M_arrive_21 : decode zb_M_arrive 21 = .ok (.iload_n 1, 1) := by decide +kernel
theorem zd_M_arrive_22 : decode zb_M_arrive 22 = .ok (.iaload, 1) := by decide +kernel
theorem zd_M_arrive_23 : decode zb_M_arrive 23 = .ok (.iconst 1, 1) := by decide +kernel
theorem zd_M_arrive_24 : decode zb_M_arrive 24 = .ok (.iadd, 1) := by decide +kernel
theorem zd_M_arrive_25 : decode zb_M_arrive 25 = .ok (.aload_n 0, 1) := by decide +kernel
theorem zd_M_arrive_26 : decode zb_M_arrive 26 = .ok (.iload 4, 2) := by decide +kernel
theorem zd_M_arrive_28 : decode zb_M_arrive 28 = .ok (.invokevirtual 94, 3) := by decide +kernel
theorem zd_M_arrive_31 : decode zb_M_arrive 31 = .ok (.if_icmp .ne 35, 3) := by decide +kernel
theorem zd_M_arrive_34 : decode zb_M_arrive 34 = .ok (.aload_n 0, 1) := by decide +kernel
theorem zd_M_arrive_35 : decode zb_M_arrive 35 = .ok (.getfield 43, 3) := by decide +kernel
theorem zd_M_arrive_38 : decode zb_M_arrive 38 = .ok (.iload_n 1, 1) := by decide +kernel
theorem zd_M_arrive_39 : decode zb_M_arrive 39 = .ok (.aload_n 0, 1) := by decide +kernel
theorem zd_M_arrive_40 : decode zb_M_arrive 40 = .ok (.getfield 43, 3) := by decide +kernel
theorem zd_M_arrive_43 : decode zb_M_arrive 43 = .ok (.iload_n 1, 1) := by decide +kernel
theorem zd_M_arrive_44 : decode zb_M_arrive 44 = .ok (.iaload, 1) := by decide +kernel
theorem zd_M_arrive_45 : decode zb_M_arrive 45 = .ok (.iconst 1, 1) := by decide +kernel
theorem zd_M_arrive_46 : decode zb_M_arrive 46 = .ok (.iadd, 1) := by decide +kernel
theorem zd_M_arrive_47 : decode zb_M_arrive 47 = .ok (.iastore, 1) := by decide +kernel
theorem zd_M_arrive_48 : decode zb_M_arrive 48 = .ok (.aload_n 0, 1) := by decide +kernel
theorem zd_M_arrive_49 : decode zb_M_arrive 49 = .ok (.getfield 40, 3) := by decide +kernel
theorem zd_M_arrive_52 : decode zb_M_arrive 52 = .ok (.iload_n 1, 1) := by decide +kernel
theorem zd_M_arrive_53 : decode zb_M_arrive 53 = .ok (.iconst 4, 1) := by decide +kernel
theorem zd_M_arrive_54 : decode zb_M_arrive 54 = .ok (.iastore, 1) := by decide +kernel
theorem zd_M_arrive_55 : decode zb_M_arrive 55 = .ok (.aload_n 0, 1) := by decide +kernel
theorem zd_M_arrive_56 : decode zb_M_arrive 56 = .ok (.getfield 49, 3) := by decide +kernel
theorem zd_M_arrive_59 : decode zb_M_arrive 59 = .ok (.iload_n 1, 1) := by decide +kernel
theorem zd_M_arrive_60 : decode zb_M_arrive 60 = .ok (.aload_n 0, 1) := by decide +kernel
theorem zd_M_arrive_61 : decode zb_M_arrive 61 = .ok (.getfield 106, 3) := by decide +kernel
theorem zd_M_arrive_64 : decode zb_M_arrive 64 = .ok (.iastore, 1) := by decide +kernel
theorem zd_M_arrive_65 : decode zb_M_arrive 65 = .ok (.return_, 1) := by decide +kernel
theorem zd_M_arrive_66 : decode zb_M_arrive 66 = .ok (.aload_n 0, 1) := by decide +kernel
theorem zd_M_arrive_67 : decode zb_M_arrive 67 = .ok (.iload_n 2, 1) := by decide +kernel
theorem zd_M_arrive_68 : decode zb_M_arrive 68 = .ok (.iload_n 3, 1) := by decide +kernel
theorem zd_M_arrive_69 : decode zb_M_arrive 69 = .ok (.iload 5, 2) := by decide +kernel
theorem zd_M_arrive_71 : decode zb_M_arrive 71 = .ok (.invokevirtual 120, 3) := by decide +kernel
theorem zd_M_arrive_74 : decode zb_M_arrive 74 = .ok (.aload_n 0, 1) := by decide +kernel
theorem zd_M_arrive_75 : decode zb_M_arrive 75 = .ok (.getfield 37, 3) := by decide +kernel
theorem zd_M_arrive_78 : decode zb_M_arrive 78 = .ok (.iload_n 1, 1) := by decide +kernel
theorem zd_M_arrive_79 : decode zb_M_arrive 79 = .ok (.iaload, 1) := by decide +kernel
theorem zd_M_arrive_80 : decode zb_M_arrive 80 = .ok (.iadd, 1) := by decide +kernel
theorem zd_M_arrive_81 : decode zb_M_arrive 81 = .ok (.iload 5, 2) := by decide +kernel
theorem zd_M_arrive_83 : decode zb_M_arrive 83 = .ok (.iconst 1, 1) := by decide +kernel
theorem zd_M_arrive_84 : decode zb_M_arrive 84 = .ok (.if_icmp .ne 10, 3) := by decide +kernel
theorem zd_M_arrive_87 : decode zb_M_arrive 87 = .ok (.aload_n 0, 1) := by decide +kernel
theorem zd_M_arrive_88 : decode zb_M_arrive 88 = .ok (.getfield 79, 3) := by decide +kernel
theorem zd_M_arrive_91 : decode zb_M_arrive 91 = .ok (.goto 12, 3) := by decide +kernel
theorem zd_M_arrive_94 : decode zb_M_arrive 94 = .ok (.aload_n 0, 1) := by decide +kernel
theorem zd_M_arrive_95 : decode zb_M_arrive 95 = .ok (.getfield 79, 3) := by decide +kernel
theorem zd_M_arrive_98 : decode zb_M_arrive 98 = .ok (.aload_n 0, 1) := by decide +kernel
theorem zd_M_arrive_99 : decode zb_M_arrive 99 = .ok (.getfield 82, 3) := by decide +kernel
theorem zd_M_arrive_102 : decode zb_M_arrive 102 = .ok (.iadd, 1) := by decide +kernel
theorem zd_M_arrive_103 : decode zb_M_arrive 103 = .ok (.if_icmp .le 7, 3) := by decide +kernel
theorem zd_M_arrive_106 : decode zb_M_arrive 106 = .ok (.iconst 1, 1) := by decide +kernel
theorem zd_M_arrive_107 : decode zb_M_arrive 107 = .ok (.goto 4, 3) := by decide +kernel
theorem zd_M_arrive_110 : decode zb_M_arrive 110 = .ok (.iconst 0, 1) := by decide +kernel
theorem zd_M_arrive_111 : decode zb_M_arrive 111 = .ok (.istore 6, 2) := by decide +kernel
theorem zd_M_arrive_113 : decode zb_M_arrive 113 = .ok (.aload_n 0, 1) := by decide +kernel
theorem zd_M_arrive_114 : decode zb_M_arrive 114 = .ok (.getfield 43, 3) := by decide +kernel
theorem zd_M_arrive_117 : decode zb_M_arrive 117 = .ok (.iload_n 1, 1) := by decide +kernel
theorem zd_M_arrive_118 : decode zb_M_arrive 118 = .ok (.aload_n 0, 1) := by decide +kernel
theorem zd_M_arrive_119 : decode zb_M_arrive 119 = .ok (.getfield 43, 3) := by decide +kernel
theorem zd_M_arrive_122 : decode zb_M_arrive 122 = .ok (.iload_n 1, 1) := by decide +kernel
theorem zd_M_arrive_123 : decode zb_M_arrive 123 = .ok (.iaload, 1) := by decide +kernel
theorem zd_M_arrive_124 : decode zb_M_arrive 124 = .ok (.iconst 1, 1) := by decide +kernel
theorem zd_M_arrive_125 : decode zb_M_arrive 125 = .ok (.iadd, 1) := by decide +kernel
theorem zd_M_arrive_126 : decode zb_M_arrive 126 = .ok (.iastore, 1) := by decide +kernel
theorem zd_M_arrive_127 : decode zb_M_arrive 127 = .ok (.iload 6, 2) := by decide +kernel
theorem zd_M_arrive_129 : decode zb_M_arrive 129 = .ok (.ifCond .eq 11, 3) := by decide +kernel
theorem zd_M_arrive_132 : decode zb_M_arrive 132 = .ok (.aload_n 0, 1) := by decide +kernel
theorem zd_M_arrive_133 : decode zb_M_arrive 133 = .ok (.getfield 40, 3) := by decide +kernel
theorem zd_M_arrive_136 : decode zb_M_arrive 136 = .ok (.iload_n 1, 1) := by decide +kernel
theorem zd_M_arrive_137 : decode zb_M_arrive 137 = .ok (.iconst 5, 1) := by decide +kernel
theorem zd_M_arrive_138 : decode zb_M_arrive 138 = .ok (.iastore, 1) := by decide +kernel
theorem zd_M_arrive_139 : decode zb_M_arrive 139 = .ok (.return_, 1) := by decide +kernel
theorem zd_M_arrive_140 : decode zb_M_arrive 140 = .ok (.aload_n 0, 1) := by decide +kernel
theorem zd_M_arrive_141 : decode zb_M_arrive 141 = .ok (.iload_n 1, 1) := by decide +kernel
theorem zd_M_arrive_142 : decode zb_M_arrive 142 = .ok (.invokevirtual 116, 3) := by decide +kernel
theorem zd_M_arrive_145 : decode zb_M_arrive 145 = .ok (.aload_n 0, 1) := by decide +kernel
theorem zd_M_arrive_146 : decode zb_M_arrive 146 = .ok (.iload 4, 2) := by decide +kernel
theorem zd_M_arrive_148 : decode zb_M_arrive 148 = .ok (.aload_n 0, 1) := by decide +kernel
theorem zd_M_arrive_149 : decode zb_M_arrive 149 = .ok (.getfield 43, 3) := by decide +kernel
theorem zd_M_arrive_152 : decode zb_M_arrive 152 = .ok (.iload_n 1, 1) := by decide +kernel
theorem zd_M_arrive_153 : decode zb_M_arrive 153 = .ok (.iaload, 1) := by decide +kernel
theorem zd_M_arrive_154 : decode zb_M_arrive 154 = .ok (.iconst 1, 1) := by decide +kernel
theorem zd_M_arrive_155 : decode zb_M_arrive 155 = .ok (.iadd, 1) := by decide +kernel
theorem zd_M_arrive_156 : decode zb_M_arrive 156 = .ok (.invokevirtual 98, 3) := by decide +kernel
theorem zd_M_arrive_159 : decode zb_M_arrive 159 = .ok (.istore 7, 2) := by decide +kernel
theorem zd_M_arrive_161 : decode zb_M_arrive 161 = .ok (.aload_n 0, 1) := by decide +kernel
theorem zd_M_arrive_162 : decode zb_M_arrive 162 = .ok (.getfield 52, 3) := by decide +kernel
theorem zd_M_arrive_165 : decode zb_M_arrive 165 = .ok (.iload_n 1, 1) := by decide +kernel
theorem zd_M_arrive_166 : decode zb_M_arrive 166 = .ok (.aload_n 0, 1) := by decide +kernel
theorem zd_M_arrive_167 : decode zb_M_arrive 167 = .ok (.getfield 52, 3) := by decide +kernel
theorem zd_M_arrive_170 : decode zb_M_arrive 170 = .ok (.iload_n 1, 1) := by decide +kernel
theorem zd_M_arrive_171 : decode zb_M_arrive 171 = .ok (.baload, 1) := by decide +kernel
theorem zd_M_arrive_172 : decode zb_M_arrive 172 = .ok (.ifCond .ne 19, 3) := by decide +kernel
theorem zd_M_arrive_175 : decode zb_M_arrive 175 = .ok (.aload_n 0, 1) := by decide +kernel
theorem zd_M_arrive_176 : decode zb_M_arrive 176 = .ok (.iload_n 3, 1) := by decide +kernel
theorem zd_M_arrive_177 : decode zb_M_arrive 177 = .ok (.iload 7, 2) := by decide +kernel
theorem zd_M_arrive_179 : decode zb_M_arrive 179 = .ok (.iload 5, 2) := by decide +kernel
theorem zd_M_arrive_181 : decode zb_M_arrive 181 = .ok (.invokevirtual 126, 3) := by decide +kernel
theorem zd_M_arrive_184 : decode zb_M_arrive 184 = .ok (.aload_n 0, 1) := by decide +kernel
theorem zd_M_arrive_185 : decode zb_M_arrive 185 = .ok (.getfield 85, 3) := by decide +kernel
theorem zd_M_arrive_188 : decode zb_M_arrive 188 = .ok (.if_icmp .le 7, 3) := by decide +kernel
theorem zd_M_arrive_191 : decode zb_M_arrive 191 = .ok (.iconst 1, 1) := by decide +kernel
theorem zd_M_arrive_192 : decode zb_M_arrive 192 = .ok (.goto 4, 3) := by decide +kernel
theorem zd_M_arrive_195 : decode zb_M_arrive 195 = .ok (.iconst 0, 1) := by decide +kernel
theorem zd_M_arrive_196 : decode zb_M_arrive 196 = .ok (.bastore, 1) := by decide +kernel
theorem zd_M_arrive_197 : decode zb_M_arrive 197 = .ok (.aload_n 0, 1) := by decide +kernel
theorem zd_M_arrive_198 : decode zb_M_arrive 198 = .ok (.getfield 65, 3) := by decide +kernel
theorem zd_M_arrive_201 : decode zb_M_arrive 201 = .ok (.bipush 14, 2) := by decide +kernel
theorem zd_M_arrive_203 : decode zb_M_arrive 203 = .ok (.iload_n 2, 1) := by decide +kernel
theorem zd_M_arrive_204 : decode zb_M_arrive 204 = .ok (.imul, 1) := by decide +kernel
theorem zd_M_arrive_205 : decode zb_M_arrive 205 = .ok (.iload_n 3, 1) := by decide +kernel
theorem zd_M_arrive_206 : decode zb_M_arrive 206 = .ok (.iadd, 1) := by decide +kernel
theorem zd_M_arrive_207 : decode zb_M_arrive 207 = .ok (.aload_n 0, 1) := by decide +kernel
theorem zd_M_arrive_208 : decode zb_M_arrive 208 = .ok (.getfield 65, 3) := by decide +kernel
theorem zd_M_arrive_211 : decode zb_M_arrive 211 = .ok (.bipush 14, 2) := by decide +kernel
theorem zd_M_arrive_213 : decode zb_M_arrive 213 = .ok (.iload_n 2, 1) := by decide +kernel
theorem zd_M_arrive_214 : decode zb_M_arrive 214 = .ok (.imul, 1) := by decide +kernel
theorem zd_M_arrive_215 : decode zb_M_arrive 215 = .ok (.iload_n 3, 1) := by decide +kernel
theorem zd_M_arrive_216 : decode zb_M_arrive 216 = .ok (.iadd, 1) := by decide +kernel
theorem zd_M_arrive_217 : decode zb_M_arrive 217 = .ok (.baload, 1) := by decide +kernel
theorem zd_M_arrive_218 : decode zb_M_arrive 218 = .ok (.ifCond .ne 22, 3) := by decide +kernel
theorem zd_M_arrive_221 : decode zb_M_arrive 221 = .ok (.iload 5, 2) := by decide +kernel
theorem zd_M_arrive_223 : decode zb_M_arrive 223 = .ok (.ifCond .ne 21, 3) := by decide +kernel
theorem zd_M_arrive_226 : decode zb_M_arrive 226 = .ok (.aload_n 0, 1) := by decide +kernel
theorem zd_M_arrive_227 : decode zb_M_arrive 227 = .ok (.iload_n 2, 1) := by decide +kernel
theorem zd_M_arrive_228 : decode zb_M_arrive 228 = .ok (.iload_n 3, 1) := by decide +kernel
theorem zd_M_arrive_229 : decode zb_M_arrive 229 = .ok (.iconst 0, 1) := by decide +kernel
theorem zd_M_arrive_230 : decode zb_M_arrive 230 = .ok (.invokevirtual 120, 3) := by decide +kernel
theorem zd_M_arrive_233 : decode zb_M_arrive 233 = .ok (.aload_n 0, 1) := by decide +kernel
theorem zd_M_arrive_234 : decode zb_M_arrive 234 = .ok (.getfield 79, 3) := by decide +kernel
theorem zd_M_arrive_237 : decode zb_M_arrive 237 = .ok (.if_icmp .lt 7, 3) := by decide +kernel
theorem zd_M_arrive_240 : decode zb_M_arrive 240 = .ok (.iconst 1, 1) := by decide +kernel
theorem zd_M_arrive_241 : decode zb_M_arrive 241 = .ok (.goto 4, 3) := by decide +kernel
theorem zd_M_arrive_244 : decode zb_M_arrive 244 = .ok (.iconst 0, 1) := by decide +kernel
theorem zd_M_arrive_245 : decode zb_M_arrive 245 = .ok (.bastore, 1) := by decide +kernel
theorem zd_M_arrive_246 : decode zb_M_arrive 246 = .ok (.return_, 1) := by decide +kernel
theorem zd_M_queueLength_0 : decode zb_M_queueLength 0 = .ok (.iconst 0, 1) := by decide +kernel
theorem zd_M_queueLength_1 : decode zb_M_queueLength 1 = .ok (.istore 4, 2) := by decide +kernel
theorem zd_M_queueLength_3 : decode zb_M_queueLength 3 = .ok (.iconst 0, 1) := by decide +kernel
theorem zd_M_queueLength_4 : decode zb_M_queueLength 4 = .ok (.istore 5, 2) := by decide +kernel
theorem zd_M_queueLength_6 : decode zb_M_queueLength 6 = .ok (.iload 5, 2) := by decide +kernel
theorem zd_M_queueLength_8 : decode zb_M_queueLength 8 = .ok (.aload_n 0, 1) := by decide +kernel
theorem zd_M_queueLength_9 : decode zb_M_queueLength 9 = .ok (.getfield 91, 3) := by decide +kernel
theorem zd_M_queueLength_12 : decode zb_M_queueLength 12 = .ok (.if_icmp .ge 76, 3) := by decide +kernel
theorem zd_M_queueLength_15 : decode zb_M_queueLength 15 = .ok (.aload_n 0, 1) := by decide +kernel
theorem zd_M_queueLength_16 : decode zb_M_queueLength 16 = .ok (.getfield 40, 3) := by decide +kernel
theorem zd_M_queueLength_19 : decode zb_M_queueLength 19 = .ok (.iload 5, 2) := by decide +kernel
theorem zd_M_queueLength_21 : decode zb_M_queueLength 21 = .ok (.iaload, 1) := by decide +kernel
theorem zd_M_queueLength_22 : decode zb_M_queueLength 22 = .ok (.iconst 1, 1) := by decide +kernel
theorem zd_M_queueLength_23 : decode zb_M_queueLength 23 = .ok (.if_icmp .ne 34, 3) := by decide +kernel
theorem zd_M_queueLength_26 : decode zb_M_queueLength 26 = .ok (.aload_n 0, 1) := by decide +kernel
theorem zd_M_queueLength_27 : decode zb_M_queueLength 27 = .ok (.getfield 16, 3) := by decide +kernel
theorem zd_M_queueLength_30 : decode zb_M_queueLength 30 = .ok (.aload_n 0, 1) := by decide +kernel
theorem zd_M_queueLength_31 : decode zb_M_queueLength 31 = .ok (.getfield 34, 3) := by decide +kernel
theorem zd_M_queueLength_34 : decode zb_M_queueLength 34 = .ok (.iload 5, 2) := by decide +kernel
theorem zd_M_queueLength_36 : decode zb_M_queueLength 36 = .ok (.iaload, 1) := by decide +kernel
theorem zd_M_queueLength_37 : decode zb_M_queueLength 37 = .ok (.iaload, 1) := by decide +kernel
theorem zd_M_queueLength_38 : decode zb_M_queueLength 38 = .ok (.iload_n 3, 1) := by decide +kernel
theorem zd_M_queueLength_39 : decode zb_M_queueLength 39 = .ok (.if_icmp .ne 18, 3) := by decide +kernel
theorem zd_M_queueLength_42 : decode zb_M_queueLength 42 = .ok (.aload_n 0, 1) := by decide +kernel
theorem zd_M_queueLength_43 : decode zb_M_queueLength 43 = .ok (.iload 5, 2) := by decide +kernel
theorem zd_M_queueLength_45 : decode zb_M_queueLength 45 = .ok (.iload_n 1, 1) := by decide +kernel
theorem zd_M_queueLength_46 : decode zb_M_queueLength 46 = .ok (.iload_n 2, 1) := by decide +kernel
theorem zd_M_queueLength_47 : decode zb_M_queueLength 47 = .ok (.invokevirtual 102, 3) := by decide +kernel
theorem zd_M_queueLength_50 : decode zb_M_queueLength 50 = .ok (.ifCond .eq 7, 3) := by decide +kernel
theorem zd_M_queueLength_53 : decode zb_M_queueLength 53 = .ok (.iconst 1, 1) := by decide +kernel
theorem zd_M_queueLength_54 : decode zb_M_queueLength 54 = .ok (.goto 4, 3) := by decide +kernel
theorem zd_M_queueLength_57 : decode zb_M_queueLength 57 = .ok (.iconst 0, 1) := by decide +kernel
theorem zd_M_queueLength_58 : decode zb_M_queueLength 58 = .ok (.istore 6, 2) := by decide +kernel
theorem zd_M_queueLength_60 : decode zb_M_queueLength 60 = .ok (.iload 6, 2) := by decide +kernel
theorem zd_M_queueLength_62 : decode zb_M_queueLength 62 = .ok (.ifCond .eq 16, 3) := by decide +kernel
theorem zd_M_queueLength_65 : decode zb_M_queueLength 65 = .ok (.iload 4, 2) := by decide +kernel
theorem zd_M_queueLength_67 : decode zb_M_queueLength 67 = .ok (.aload_n 0, 1) := by decide +kernel
theorem zd_M_queueLength_68 : decode zb_M_queueLength 68 = .ok (.getfield 37, 3) := by decide +kernel
theorem zd_M_queueLength_71 : decode zb_M_queueLength 71 = .ok (.iload 5, 2) := by decide +kernel
theorem zd_M_queueLength_73 : decode zb_M_queueLength 73 = .ok (.iaload, 1) := by decide +kernel
theorem zd_M_queueLength_74 : decode zb_M_queueLength 74 = .ok (.iadd, 1) := by decide +kernel
theorem zd_M_queueLength_75 : decode zb_M_queueLength 75 = .ok (.goto 5, 3) := by decide +kernel
theorem zd_M_queueLength_78 : decode zb_M_queueLength 78 = .ok (.iload 4, 2) := by decide +kernel
theorem zd_M_queueLength_80 : decode zb_M_queueLength 80 = .ok (.istore 4, 2) := by decide +kernel
theorem zd_M_queueLength_82 : decode zb_M_queueLength 82 = .ok (.iinc 5 1, 3) := by decide +kernel
theorem zd_M_queueLength_85 : decode zb_M_queueLength 85 = .ok (.goto (-79), 3) := by decide +kernel
theorem zd_M_queueLength_88 : decode zb_M_queueLength 88 = .ok (.iload 4, 2) := by decide +kernel
theorem zd_M_queueLength_90 : decode zb_M_queueLength 90 = .ok (.ireturn, 1) := by decide +kernel
theorem zd_M_sends_0 : decode zb_M_sends 0 = .ok (.iconst 0, 1) := by decide +kernel
theorem zd_M_sends_1 : decode zb_M_sends 1 = .ok (.istore_n 3, 1) := by decide +kernel
theorem zd_M_sends_2 : decode zb_M_sends 2 = .ok (.iconst 0, 1) := by decide +kernel
theorem zd_M_sends_3 : decode zb_M_sends 3 = .ok (.istore 4, 2) := by decide +kernel
theorem zd_M_sends_5 : decode zb_M_sends 5 = .ok (.iload 4, 2) := by decide +kernel
theorem zd_M_sends_7 : decode zb_M_sends 7 = .ok (.aload_n 0, 1) := by decide +kernel
theorem zd_M_sends_8 : decode zb_M_sends 8 = .ok (.getfield 91, 3) := by decide +kernel
theorem zd_M_sends_11 : decode zb_M_sends 11 = .ok (.if_icmp .ge 41, 3) := by decide +kernel
theorem zd_M_sends_14 : decode zb_M_sends 14 = .ok (.iload_n 3, 1) := by decide +kernel
theorem zd_M_sends_15 : decode zb_M_sends 15 = .ok (.ifCond .ne 25, 3) := by decide +kernel
theorem zd_M_sends_18 : decode zb_M_sends 18 = .ok (.aload_n 0, 1) := by decide +kernel
theorem zd_M_sends_19 : decode zb_M_sends 19 = .ok (.getfield 40, 3) := by decide +kernel
theorem zd_M_sends_22 : decode zb_M_sends 22 = .ok (.iload 4, 2) := by decide +kernel
theorem zd_M_sends_24 : decode zb_M_sends 24 = .ok (.iaload, 1) := by decide +kernel
theorem zd_M_sends_25 : decode zb_M_sends 25 = .ok (.iconst 2, 1) := by decide +kernel
theorem zd_M_sends_26 : decode zb_M_sends 26 = .ok (.if_icmp .ne 18, 3) := by decide +kernel
theorem zd_M_sends_29 : decode zb_M_sends 29 = .ok (.aload_n 0, 1) := by decide +kernel
theorem zd_M_sends_30 : decode zb_M_sends 30 = .ok (.iload 4, 2) := by decide +kernel
theorem zd_M_sends_32 : decode zb_M_sends 32 = .ok (.iload_n 1, 1) := by decide +kernel
theorem zd_M_sends_33 : decode zb_M_sends 33 = .ok (.iload_n 2, 1) := by decide +kernel
theorem zd_M_sends_34 : decode zb_M_sends 34 = .ok (.invokevirtual 102, 3) := by decide +kernel
theorem zd_M_sends_37 : decode zb_M_sends 37 = .ok (.ifCond .eq 7, 3) := by decide +kernel
theorem zd_M_sends_40 : decode zb_M_sends 40 = .ok (.iconst 1, 1) := by decide +kernel
theorem zd_M_sends_41 : decode zb_M_sends 41 = .ok (.goto 4, 3) := by decide +kernel
theorem zd_M_sends_44 : decode zb_M_sends 44 = .ok (.iconst 0, 1) := by decide +kernel
theorem zd_M_sends_45 : decode zb_M_sends 45 = .ok (.istore_n 3, 1) := by decide +kernel
theorem zd_M_sends_46 : decode zb_M_sends 46 = .ok (.iinc 4 1, 3) := by decide +kernel
theorem zd_M_sends_49 : decode zb_M_sends 49 = .ok (.goto (-44), 3) := by decide +kernel
theorem zd_M_sends_52 : decode zb_M_sends 52 = .ok (.iload_n 3, 1) := by decide +kernel
theorem zd_M_sends_53 : decode zb_M_sends 53 = .ok (.ireturn, 1) := by decide +kernel
theorem zd_M_choose_0 : decode zb_M_choose 0 = .ok (.bipush 14, 2) := by decide +kernel
theorem zd_M_choose_2 : decode zb_M_choose 2 = .ok (.iload_n 1, 1) := by decide +kernel
theorem zd_M_choose_3 : decode zb_M_choose 3 = .ok (.imul, 1) := by decide +kernel
theorem zd_M_choose_4 : decode zb_M_choose 4 = .ok (.iload_n 2, 1) := by decide +kernel
theorem zd_M_choose_5 : decode zb_M_choose 5 = .ok (.iadd, 1) := by decide +kernel
theorem zd_M_choose_6 : decode zb_M_choose 6 = .ok (.istore_n 3, 1) := by decide +kernel
theorem zd_M_choose_7 : decode zb_M_choose 7 = .ok (.aload_n 0, 1) := by decide +kernel
theorem zd_M_choose_8 : decode zb_M_choose 8 = .ok (.iload_n 1, 1) := by decide +kernel
theorem zd_M_choose_9 : decode zb_M_choose 9 = .ok (.iload_n 2, 1) := by decide +kernel
theorem zd_M_choose_10 : decode zb_M_choose 10 = .ok (.iconst 0, 1) := by decide +kernel
theorem zd_M_choose_11 : decode zb_M_choose 11 = .ok (.invokevirtual 143, 3) := by decide +kernel
theorem zd_M_choose_14 : decode zb_M_choose 14 = .ok (.istore 4, 2) := by decide +kernel
theorem zd_M_choose_16 : decode zb_M_choose 16 = .ok (.aload_n 0, 1) := by decide +kernel
theorem zd_M_choose_17 : decode zb_M_choose 17 = .ok (.iload_n 1, 1) := by decide +kernel
theorem zd_M_choose_18 : decode zb_M_choose 18 = .ok (.iload_n 2, 1) := by decide +kernel
theorem zd_M_choose_19 : decode zb_M_choose 19 = .ok (.iconst 1, 1) := by decide +kernel
theorem zd_M_choose_20 : decode zb_M_choose 20 = .ok (.invokevirtual 143, 3) := by decide +kernel
theorem zd_M_choose_23 : decode zb_M_choose 23 = .ok (.istore 5, 2) := by decide +kernel
theorem zd_M_choose_25 : decode zb_M_choose 25 = .ok (.iload 4, 2) := by decide +kernel
theorem zd_M_choose_27 : decode zb_M_choose 27 = .ok (.ifCond .ne 8, 3) := by decide +kernel
theorem zd_M_choose_30 : decode zb_M_choose 30 = .ok (.iload 5, 2) := by decide +kernel
theorem zd_M_choose_32 : decode zb_M_choose 32 = .ok (.ifCond .eq 7, 3) := by decide +kernel
theorem zd_M_choose_35 : decode zb_M_choose 35 = .ok (.iconst 1, 1) := by decide +kernel
theorem zd_M_choose_36 : decode zb_M_choose 36 = .ok (.goto 4, 3) := by decide +kernel
theorem zd_M_choose_39 : decode zb_M_choose 39 = .ok (.iconst 0, 1) := by decide +kernel
theorem zd_M_choose_40 : decode zb_M_choose 40 = .ok (.istore 6, 2) := by decide +kernel
theorem zd_M_choose_42 : decode zb_M_choose 42 = .ok (.iconst 0, 1) := by decide +kernel
theorem zd_M_choose_43 : decode zb_M_choose 43 = .ok (.istore 7, 2) := by decide +kernel
theorem zd_M_choose_45 : decode zb_M_choose 45 = .ok (.iload 7, 2) := by decide +kernel
theorem zd_M_choose_47 : decode zb_M_choose 47 = .ok (.bipush 40, 2) := by decide +kernel
theorem zd_M_choose_49 : decode zb_M_choose 49 = .ok (.if_icmp .ge 223, 3) := by decide +kernel
theorem zd_M_choose_52 : decode zb_M_choose 52 = .ok (.iload 6, 2) := by decide +kernel
theorem zd_M_choose_54 : decode zb_M_choose 54 = .ok (.ifCond .eq 218, 3) := by decide +kernel
theorem zd_M_choose_57 : decode zb_M_choose 57 = .ok (.aload_n 0, 1) := by decide +kernel
theorem zd_M_choose_58 : decode zb_M_choose 58 = .ok (.getfield 56, 3) := by decide +kernel
theorem zd_M_choose_61 : decode zb_M_choose 61 = .ok (.iload_n 3, 1) := by decide +kernel
theorem zd_M_choose_62 : decode zb_M_choose 62 = .ok (.iaload, 1) := by decide +kernel
theorem zd_M_choose_63 : decode zb_M_choose 63 = .ok (.istore 8, 2) := by decide +kernel
theorem zd_M_choose_65 : decode zb_M_choose 65 = .ok (.iload 8, 2) := by decide +kernel
theorem zd_M_choose_67 : decode zb_M_choose 67 = .ok (.ifCond .ne 8, 3) := by decide +kernel
theorem zd_M_choose_70 : decode zb_M_choose 70 = .ok (.iload 4, 2) := by decide +kernel
theorem zd_M_choose_72 : decode zb_M_choose 72 = .ok (.goto 5, 3) := by decide +kernel
theorem zd_M_choose_75 : decode zb_M_choose 75 = .ok (.iload 5, 2) := by decide +kernel
theorem zd_M_choose_77 : decode zb_M_choose 77 = .ok (.istore 9, 2) := by decide +kernel
theorem zd_M_choose_79 : decode zb_M_choose 79 = .ok (.aload_n 0, 1) := by decide +kernel
theorem zd_M_choose_80 : decode zb_M_choose 80 = .ok (.iload_n 1, 1) := by decide +kernel
theorem zd_M_choose_81 : decode zb_M_choose 81 = .ok (.iload_n 2, 1) := by decide +kernel
theorem zd_M_choose_82 : decode zb_M_choose 82 = .ok (.iload 8, 2) := by decide +kernel
theorem zd_M_choose_84 : decode zb_M_choose 84 = .ok (.invokevirtual 137, 3) := by decide +kernel
theorem zd_M_choose_87 : decode zb_M_choose 87 = .ok (.istore 10, 2) := by decide +kernel
theorem zd_M_choose_89 : decode zb_M_choose 89 = .ok (.iload 9, 2) := by decide +kernel
theorem zd_M_choose_91 : decode zb_M_choose 91 = .ok (.ifCond .eq 67, 3) := by decide +kernel
theorem zd_M_choose_94 : decode zb_M_choose 94 = .ok (.aload_n 0, 1) := by decide +kernel
theorem zd_M_choose_95 : decode zb_M_choose 95 = .ok (.getfield 37, 3) := by decide +kernel
theorem zd_M_choose_98 : decode zb_M_choose 98 = .ok (.iload 10, 2) := by decide +kernel
theorem zd_M_choose_100 : decode zb_M_choose 100 = .ok (.iaload, 1) := by decide +kernel
theorem zd_M_choose_101 : decode zb_M_choose 101 = .ok (.aload_n 0, 1) := by decide +kernel
theorem zd_M_choose_102 : decode zb_M_choose 102 = .ok (.getfield 59, 3) := by decide +kernel
theorem zd_M_choose_105 : decode zb_M_choose 105 = .ok (.iconst 2, 1) := by decide +kernel
theorem zd_M_choose_106 : decode zb_M_choose 106 = .ok (.iload_n 3, 1) := by decide +kernel
theorem zd_M_choose_107 : decode zb_M_choose 107 = .ok (.imul, 1) := by decide +kernel
theorem zd_M_choose_108 : decode zb_M_choose 108 = .ok (.iload 8, 2) := by decide +kernel
theorem zd_M_choose_110 : decode zb_M_choose 110 = .ok (.iadd, 1) := by decide +kernel
theorem zd_M_choose_111 : decode zb_M_choose 111 = .ok (.iaload, 1) := by decide +kernel
theorem zd_M_choose_112 : decode zb_M_choose 112 = .ok (.if_icmp .gt 46, 3) := by decide +kernel
theorem zd_M_choose_115 : decode zb_M_choose 115 = .ok (.aload_n 0, 1) := by decide +kernel
theorem zd_M_choose_116 : decode zb_M_choose 116 = .ok (.iload 10, 2) := by decide +kernel
theorem zd_M_choose_118 : decode zb_M_choose 118 = .ok (.iload_n 1, 1) := by decide +kernel
theorem zd_M_choose_119 : decode zb_M_choose 119 = .ok (.invokevirtual 146, 3) := by decide +kernel
theorem zd_M_choose_122 : decode zb_M_choose 122 = .ok (.aload_n 0, 1) := by decide +kernel
theorem zd_M_choose_123 : decode zb_M_choose 123 = .ok (.getfield 59, 3) := by decide +kernel
theorem zd_M_choose_126 : decode zb_M_choose 126 = .ok (.iconst 2, 1) := by decide +kernel
theorem zd_M_choose_127 : decode zb_M_choose 127 = .ok (.iload_n 3, 1) := by decide +kernel
theorem zd_M_choose_128 : decode zb_M_choose 128 = .ok (.imul, 1) := by decide +kernel
theorem zd_M_choose_129 : decode zb_M_choose 129 = .ok (.iload 8, 2) := by decide +kernel
theorem zd_M_choose_131 : decode zb_M_choose 131 = .ok (.iadd, 1) := by decide +kernel
theorem zd_M_choose_132 : decode zb_M_choose 132 = .ok (.aload_n 0, 1) := by decide +kernel
theorem zd_M_choose_133 : decode zb_M_choose 133 = .ok (.getfield 59, 3) := by decide +kernel
theorem zd_M_choose_136 : decode zb_M_choose 136 = .ok (.iconst 2, 1) := by decide +kernel
theorem zd_M_choose_137 : decode zb_M_choose 137 = .ok (.iload_n 3, 1) := by decide +kernel
theorem zd_M_choose_138 : decode zb_M_choose 138 = .ok (.imul, 1) := by decide +kernel
theorem zd_M_choose_139 : decode zb_M_choose 139 = .ok (.iload 8, 2) := by decide +kernel
theorem zd_M_choose_141 : decode zb_M_choose 141 = .ok (.iadd, 1) := by decide +kernel
theorem zd_M_choose_142 : decode zb_M_choose 142 = .ok (.iaload, 1) := by decide +kernel
theorem zd_M_choose_143 : decode zb_M_choose 143 = .ok (.aload_n 0, 1) := by decide +kernel
theorem zd_M_choose_144 : decode zb_M_choose 144 = .ok (.getfield 37, 3) := by decide +kernel
theorem zd_M_choose_147 : decode zb_M_choose 147 = .ok (.iload 10, 2) := by decide +kernel
theorem zd_M_choose_149 : decode zb_M_choose 149 = .ok (.iaload, 1) := by decide +kernel
theorem zd_M_choose_150 : decode zb_M_choose 150 = .ok (.isub, 1) := by decide +kernel
theorem zd_M_choose_151 : decode zb_M_choose 151 = .ok (.iastore, 1) := by decide +kernel
theorem zd_M_choose_152 : decode zb_M_choose 152 = .ok (.iconst 0, 1) := by decide +kernel
theorem zd_M_choose_153 : decode zb_M_choose 153 = .ok (.istore 6, 2) := by decide +kernel
theorem zd_M_choose_155 : decode zb_M_choose 155 = .ok (.goto 111, 3) := by decide +kernel
theorem zd_M_choose_158 : decode zb_M_choose 158 = .ok (.aload_n 0, 1) := by decide +kernel
theorem zd_M_choose_159 : decode zb_M_choose 159 = .ok (.getfield 59, 3) := by decide +kernel
theorem zd_M_choose_162 : decode zb_M_choose 162 = .ok (.iconst 2, 1) := by decide +kernel
theorem zd_M_choose_163 : decode zb_M_choose 163 = .ok (.iload_n 3, 1) := by decide +kernel
theorem zd_M_choose_164 : decode zb_M_choose 164 = .ok (.imul, 1) := by decide +kernel
theorem zd_M_choose_165 : decode zb_M_choose 165 = .ok (.iload 8, 2) := by decide +kernel
theorem zd_M_choose_167 : decode zb_M_choose 167 = .ok (.iadd, 1) := by decide +kernel
theorem zd_M_choose_168 : decode zb_M_choose 168 = .ok (.iload 9, 2) := by decide +kernel
theorem zd_M_choose_170 : decode zb_M_choose 170 = .ok (.ifCond .eq 17, 3) := by decide +kernel
theorem zd_M_choose_173 : decode zb_M_choose 173 = .ok (.aload_n 0, 1) := by decide +kernel
theorem zd_M_choose_174 : decode zb_M_choose 174 = .ok (.getfield 59, 3) := by decide +kernel
theorem zd_M_choose_177 : decode zb_M_choose 177 = .ok (.iconst 2, 1) := by decide +kernel
theorem zd_M_choose_178 : decode zb_M_choose 178 = .ok (.iload_n 3, 1) := by decide +kernel
theorem zd_M_choose_179 : decode zb_M_choose 179 = .ok (.imul, 1) := by decide +kernel
theorem zd_M_choose_180 : decode zb_M_choose 180 = .ok (.iload 8, 2) := by decide +kernel
theorem zd_M_choose_182 : decode zb_M_choose 182 = .ok (.iadd, 1) := by decide +kernel
theorem zd_M_choose_183 : decode zb_M_choose 183 = .ok (.iaload, 1) := by decide +kernel
theorem zd_M_choose_184 : decode zb_M_choose 184 = .ok (.goto 4, 3) := by decide +kernel
theorem zd_M_choose_187 : decode zb_M_choose 187 = .ok (.iconst 0, 1) := by decide +kernel
theorem zd_M_choose_188 : decode zb_M_choose 188 = .ok (.iastore, 1) := by decide +kernel
theorem zd_M_choose_189 : decode zb_M_choose 189 = .ok (.iconst 1, 1) := by decide +kernel
theorem zd_M_choose_190 : decode zb_M_choose 190 = .ok (.iload 8, 2) := by decide +kernel
theorem zd_M_choose_192 : decode zb_M_choose 192 = .ok (.isub, 1) := by decide +kernel
theorem zd_M_choose_193 : decode zb_M_choose 193 = .ok (.istore 11, 2) := by decide +kernel
theorem zd_M_choose_195 : decode zb_M_choose 195 = .ok (.aload_n 0, 1) := by decide +kernel
theorem zd_M_choose_196 : decode zb_M_choose 196 = .ok (.getfield 56, 3) := by decide +kernel
theorem zd_M_choose_199 : decode zb_M_choose 199 = .ok (.iload_n 3, 1) := by decide +kernel
theorem zd_M_choose_200 : decode zb_M_choose 200 = .ok (.iload 11, 2) := by decide +kernel
theorem zd_M_choose_202 : decode zb_M_choose 202 = .ok (.iastore, 1) := by decide +kernel
theorem zd_M_choose_203 : decode zb_M_choose 203 = .ok (.iload 11, 2) := by decide +kernel
theorem zd_M_choose_205 : decode zb_M_choose 205 = .ok (.ifCond .ne 8, 3) := by decide +kernel
theorem zd_M_choose_208 : decode zb_M_choose 208 = .ok (.iload 4, 2) := by decide +kernel
theorem zd_M_choose_210 : decode zb_M_choose 210 = .ok (.goto 5, 3) := by decide +kernel
theorem zd_M_choose_213 : decode zb_M_choose 213 = .ok (.iload 5, 2) := by decide +kernel
theorem zd_M_choose_215 : decode zb_M_choose 215 = .ok (.istore 12, 2) := by decide +kernel
theorem zd_M_choose_217 : decode zb_M_choose 217 = .ok (.aload_n 0, 1) := by decide +kernel
theorem zd_M_choose_218 : decode zb_M_choose 218 = .ok (.getfield 59, 3) := by decide +kernel
theorem zd_M_choose_221 : decode zb_M_choose 221 = .ok (.iconst 2, 1) := by decide +kernel
theorem zd_M_choose_222 : decode zb_M_choose 222 = .ok (.iload_n 3, 1) := by decide +kernel
theorem zd_M_choose_223 : decode zb_M_choose 223 = .ok (.imul, 1) := by decide +kernel
theorem zd_M_choose_224 : decode zb_M_choose 224 = .ok (.iload 11, 2) := by decide +kernel
theorem zd_M_choose_226 : decode zb_M_choose 226 = .ok (.iadd, 1) := by decide +kernel
theorem zd_M_choose_227 : decode zb_M_choose 227 = .ok (.iload 12, 2) := by decide +kernel
theorem zd_M_choose_229 : decode zb_M_choose 229 = .ok (.ifCond .eq 25, 3) := by decide +kernel
theorem zd_M_choose_232 : decode zb_M_choose 232 = .ok (.aload_n 0, 1) := by decide +kernel
theorem zd_M_choose_233 : decode zb_M_choose 233 = .ok (.getfield 59, 3) := by decide +kernel
theorem zd_M_choose_236 : decode zb_M_choose 236 = .ok (.iconst 2, 1) := by decide +kernel
theorem zd_M_choose_237 : decode zb_M_choose 237 = .ok (.iload_n 3, 1) := by decide +kernel
theorem zd_M_choose_238 : decode zb_M_choose 238 = .ok (.imul, 1) := by decide +kernel
theorem zd_M_choose_239 : decode zb_M_choose 239 = .ok (.iload 11, 2) := by decide +kernel
theorem zd_M_choose_241 : decode zb_M_choose 241 = .ok (.iadd, 1) := by decide +kernel
theorem zd_M_choose_242 : decode zb_M_choose 242 = .ok (.iaload, 1) := by decide +kernel
theorem zd_M_choose_243 : decode zb_M_choose 243 = .ok (.aload_n 0, 1) := by decide +kernel
theorem zd_M_choose_244 : decode zb_M_choose 244 = .ok (.getfield 62, 3) := by decide +kernel
theorem zd_M_choose_247 : decode zb_M_choose 247 = .ok (.iload 11, 2) := by decide +kernel
theorem zd_M_choose_249 : decode zb_M_choose 249 = .ok (.iaload, 1) := by decide +kernel
theorem zd_M_choose_250 : decode zb_M_choose 250 = .ok (.iadd, 1) := by decide +kernel
theorem zd_M_choose_251 : decode zb_M_choose 251 = .ok (.goto 14, 3) := by decide +kernel
theorem zd_M_choose_254 : decode zb_M_choose 254 = .ok (.aload_n 0, 1) := by decide +kernel
theorem zd_M_choose_255 : decode zb_M_choose 255 = .ok (.getfield 59, 3) := by decide +kernel
theorem zd_M_choose_258 : decode zb_M_choose 258 = .ok (.iconst 2, 1) := by decide +kernel
theorem zd_M_choose_259 : decode zb_M_choose 259 = .ok (.iload_n 3, 1) := by decide +kernel
theorem zd_M_choose_260 : decode zb_M_choose 260 = .ok (.imul, 1) := by decide +kernel
theorem zd_M_choose_261 : decode zb_M_choose 261 = .ok (.iload 11, 2) := by decide +kernel
theorem zd_M_choose_263 : decode zb_M_choose 263 = .ok (.iadd, 1) := by decide +kernel
theorem zd_M_choose_264 : decode zb_M_choose 264 = .ok (.iaload, 1) := by decide +kernel
theorem zd_M_choose_265 : decode zb_M_choose 265 = .ok (.iastore, 1) := by decide +kernel
theorem zd_M_choose_266 : decode zb_M_choose 266 = .ok (.iinc 7 1, 3) := by decide +kernel
theorem zd_M_choose_269 : decode zb_M_choose 269 = .ok (.goto (-224), 3) := by decide +kernel
theorem zd_M_choose_272 : decode zb_M_choose 272 = .ok (.return_, 1) := by decide +kernel
theorem zd_M_ready_0 : decode zb_M_ready 0 = .ok (.aload_n 0, 1) := by decide +kernel
theorem zd_M_ready_1 : decode zb_M_ready 1 = .ok (.iload_n 1, 1) := by decide +kernel
theorem zd_M_ready_2 : decode zb_M_ready 2 = .ok (.iload_n 2, 1) := by decide +kernel
theorem zd_M_ready_3 : decode zb_M_ready 3 = .ok (.iload_n 3, 1) := by decide +kernel
theorem zd_M_ready_4 : decode zb_M_ready 4 = .ok (.invokevirtual 137, 3) := by decide +kernel
theorem zd_M_ready_7 : decode zb_M_ready 7 = .ok (.istore 4, 2) := by decide +kernel
theorem zd_M_ready_9 : decode zb_M_ready 9 = .ok (.iload 4, 2) := by decide +kernel
theorem zd_M_ready_11 : decode zb_M_ready 11 = .ok (.ifCond .lt 16, 3) := by decide +kernel
theorem zd_M_ready_14 : decode zb_M_ready 14 = .ok (.iload_n 3, 1) := by decide +kernel
theorem zd_M_ready_15 : decode zb_M_ready 15 = .ok (.ifCond .ne 14, 3) := by decide +kernel
theorem zd_M_ready_18 : decode zb_M_ready 18 = .ok (.aload_n 0, 1) := by decide +kernel
theorem zd_M_ready_19 : decode zb_M_ready 19 = .ok (.iload_n 1, 1) := by decide +kernel
theorem zd_M_ready_20 : decode zb_M_ready 20 = .ok (.iload_n 2, 1) := by decide +kernel
theorem zd_M_ready_21 : decode zb_M_ready 21 = .ok (.invokevirtual 140, 3) := by decide +kernel
theorem zd_M_ready_24 : decode zb_M_ready 24 = .ok (.ifCond .eq 5, 3) := by decide +kernel
theorem zd_M_ready_27 : decode zb_M_ready 27 = .ok (.iconst 0, 1) := by decide +kernel
theorem zd_M_ready_28 : decode zb_M_ready 28 = .ok (.ireturn, 1) := by decide +kernel
theorem zd_M_ready_29 : decode zb_M_ready 29 = .ok (.iload_n 1, 1) := by decide +kernel
theorem zd_M_ready_30 : decode zb_M_ready 30 = .ok (.bipush 7, 2) := by decide +kernel
theorem zd_M_ready_32 : decode zb_M_ready 32 = .ok (.if_icmp .gt 22, 3) := by decide +kernel
theorem zd_M_ready_35 : decode zb_M_ready 35 = .ok (.aload_n 0, 1) := by decide +kernel
theorem zd_M_ready_36 : decode zb_M_ready 36 = .ok (.getfield 31, 3) := by decide +kernel
theorem zd_M_ready_39 : decode zb_M_ready 39 = .ok (.aload_n 0, 1) := by decide +kernel
theorem zd_M_ready_40 : decode zb_M_ready 40 = .ok (.getfield 34, 3) := by decide +kernel
theorem zd_M_ready_43 : decode zb_M_ready 43 = .ok (.iload 4, 2) := by decide +kernel
theorem zd_M_ready_45 : decode zb_M_ready 45 = .ok (.iaload, 1) := by decide +kernel
theorem zd_M_ready_46 : decode zb_M_ready 46 = .ok (.iaload, 1) := by decide +kernel
theorem zd_M_ready_47 : decode zb_M_ready 47 = .ok (.aload_n 0, 1) := by decide +kernel
theorem zd_M_ready_48 : decode zb_M_ready 48 = .ok (.getfield 106, 3) := by decide +kernel
theorem zd_M_ready_51 : decode zb_M_ready 51 = .ok (.if_icmp .gt 7, 3) := by decide +kernel
theorem zd_M_ready_54 : decode zb_M_ready 54 = .ok (.iconst 1, 1) := by decide +kernel
theorem zd_M_ready_55 : decode zb_M_ready 55 = .ok (.goto 4, 3) := by decide +kernel
theorem zd_M_ready_58 : decode zb_M_ready 58 = .ok (.iconst 0, 1) := by decide +kernel
theorem zd_M_ready_59 : decode zb_M_ready 59 = .ok (.ireturn, 1) := by decide +kernel
theorem zd_M_first_0 : decode zb_M_first 0 = .ok (.iconst (-1), 1) := by decide +kernel
theorem zd_M_first_1 : decode zb_M_first 1 = .ok (.istore 4, 2) := by decide +kernel
theorem zd_M_first_3 : decode zb_M_first 3 = .ok (.iconst 0, 1) := by decide +kernel
theorem zd_M_first_4 : decode zb_M_first 4 = .ok (.istore 5, 2) := by decide +kernel
theorem zd_M_first_6 : decode zb_M_first 6 = .ok (.iload 5, 2) := by decide +kernel
theorem zd_M_first_8 : decode zb_M_first 8 = .ok (.aload_n 0, 1) := by decide +kernel
theorem zd_M_first_9 : decode zb_M_first 9 = .ok (.getfield 91, 3) := by decide +kernel
theorem zd_M_first_12 : decode zb_M_first 12 = .ok (.if_icmp .ge 90, 3) := by decide +kernel
theorem zd_M_first_15 : decode zb_M_first 15 = .ok (.aload_n 0, 1) := by decide +kernel
theorem zd_M_first_16 : decode zb_M_first 16 = .ok (.getfield 40, 3) := by decide +kernel
theorem zd_M_first_19 : decode zb_M_first 19 = .ok (.iload 5, 2) := by decide +kernel
theorem zd_M_first_21 : decode zb_M_first 21 = .ok (.iaload, 1) := by decide +kernel
theorem zd_M_first_22 : decode zb_M_first 22 = .ok (.iconst 1, 1) := by decide +kernel
theorem zd_M_first_23 : decode zb_M_first 23 = .ok (.if_icmp .ne 34, 3) := by decide +kernel
theorem zd_M_first_26 : decode zb_M_first 26 = .ok (.aload_n 0, 1) := by decide +kernel
theorem zd_M_first_27 : decode zb_M_first 27 = .ok (.getfield 16, 3) := by decide +kernel
theorem zd_M_first_30 : decode zb_M_first 30 = .ok (.aload_n 0, 1) := by decide +kernel
theorem zd_M_first_31 : decode zb_M_first 31 = .ok (.getfield 34, 3) := by decide +kernel
theorem zd_M_first_34 : decode zb_M_first 34 = .ok (.iload 5, 2) := by decide +kernel
theorem zd_M_first_36 : decode zb_M_first 36 = .ok (.iaload, 1) := by decide +kernel
theorem zd_M_first_37 : decode zb_M_first 37 = .ok (.iaload, 1) := by decide +kernel
theorem zd_M_first_38 : decode zb_M_first 38 = .ok (.iload_n 3, 1) := by decide +kernel
theorem zd_M_first_39 : decode zb_M_first 39 = .ok (.if_icmp .ne 18, 3) := by decide +kernel
theorem zd_M_first_42 : decode zb_M_first 42 = .ok (.aload_n 0, 1) := by decide +kernel
theorem zd_M_first_43 : decode zb_M_first 43 = .ok (.iload 5, 2) := by decide +kernel
theorem zd_M_first_45 : decode zb_M_first 45 = .ok (.iload_n 1, 1) := by decide +kernel
theorem zd_M_first_46 : decode zb_M_first 46 = .ok (.iload_n 2, 1) := by decide +kernel
theorem zd_M_first_47 : decode zb_M_first 47 = .ok (.invokevirtual 102, 3) := by decide +kernel
theorem zd_M_first_50 : decode zb_M_first 50 = .ok (.ifCond .eq 7, 3) := by decide +kernel
theorem zd_M_first_53 : decode zb_M_first 53 = .ok (.iconst 1, 1) := by decide +kernel
theorem zd_M_first_54 : decode zb_M_first 54 = .ok (.goto 4, 3) := by decide +kernel
theorem zd_M_first_57 : decode zb_M_first 57 = .ok (.iconst 0, 1) := by decide +kernel
theorem zd_M_first_58 : decode zb_M_first 58 = .ok (.istore 6, 2) := by decide +kernel
theorem zd_M_first_60 : decode zb_M_first 60 = .ok (.iload 6, 2) := by decide +kernel
theorem zd_M_first_62 : decode zb_M_first 62 = .ok (.ifCond .eq 30, 3) := by decide +kernel
theorem zd_M_first_65 : decode zb_M_first 65 = .ok (.iload 4, 2) := by decide +kernel
theorem zd_M_first_67 : decode zb_M_first 67 = .ok (.ifCond .lt 20, 3) := by decide +kernel
theorem zd_M_first_70 : decode zb_M_first 70 = .ok (.aload_n 0, 1) := by decide +kernel
theorem zd_M_first_71 : decode zb_M_first 71 = .ok (.getfield 46, 3) := by decide +kernel
theorem zd_M_first_74 : decode zb_M_first 74 = .ok (.iload 5, 2) := by decide +kernel
theorem zd_M_first_76 : decode zb_M_first 76 = .ok (.iaload, 1) := by decide +kernel
theorem zd_M_first_77 : decode zb_M_first 77 = .ok (.aload_n 0, 1) := by decide +kernel
theorem zd_M_first_78 : decode zb_M_first 78 = .ok (.getfield 46, 3) := by decide +kernel
theorem zd_M_first_81 : decode zb_M_first 81 = .ok (.iload 4, 2) := by decide +kernel
theorem zd_M_first_83 : decode zb_M_first 83 = .ok (.iaload, 1) := by decide +kernel
theorem zd_M_first_84 : decode zb_M_first 84 = .ok (.if_icmp .ge 8, 3) := by decide +kernel
theorem zd_M_first_87 : decode zb_M_first 87 = .ok (.iload 5, 2) := by decide +kernel
theorem zd_M_first_89 : decode zb_M_first 89 = .ok (.goto 5, 3) := by decide +kernel
theorem zd_M_first_92 : decode zb_M_first 92 = .ok (.iload 4, 2) := by decide +kernel
theorem zd_M_first_94 : decode zb_M_first 94 = .ok (.istore 4, 2) := by decide +kernel
theorem zd_M_first_96 : decode zb_M_first 96 = .ok (.iinc 5 1, 3) := by decide +kernel
theorem zd_M_first_99 : decode zb_M_first 99 = .ok (.goto (-93), 3) := by decide +kernel
theorem zd_M_first_102 : decode zb_M_first 102 = .ok (.iload 4, 2) := by decide +kernel
theorem zd_M_first_104 : decode zb_M_first 104 = .ok (.ireturn, 1) := by decide +kernel
theorem zd_M_isPaused_0 : decode zb_M_isPaused 0 = .ok (.aload_n 0, 1) := by decide +kernel
theorem zd_M_isPaused_1 : decode zb_M_isPaused 1 = .ok (.getfield 106, 3) := by decide +kernel
theorem zd_M_isPaused_4 : decode zb_M_isPaused 4 = .ok (.aload_n 0, 1) := by decide +kernel
theorem zd_M_isPaused_5 : decode zb_M_isPaused 5 = .ok (.getfield 75, 3) := by decide +kernel
theorem zd_M_isPaused_8 : decode zb_M_isPaused 8 = .ok (.if_icmp .le 38, 3) := by decide +kernel
theorem zd_M_isPaused_11 : decode zb_M_isPaused 11 = .ok (.aload_n 0, 1) := by decide +kernel
theorem zd_M_isPaused_12 : decode zb_M_isPaused 12 = .ok (.getfield 68, 3) := by decide +kernel
theorem zd_M_isPaused_15 : decode zb_M_isPaused 15 = .ok (.aload_n 0, 1) := by decide +kernel
theorem zd_M_isPaused_16 : decode zb_M_isPaused 16 = .ok (.getfield 106, 3) := by decide +kernel
theorem zd_M_isPaused_19 : decode zb_M_isPaused 19 = .ok (.aload_n 0, 1) := by decide +kernel
theorem zd_M_isPaused_20 : decode zb_M_isPaused 20 = .ok (.getfield 75, 3) := by decide +kernel
theorem zd_M_isPaused_23 : decode zb_M_isPaused 23 = .ok (.isub, 1) := by decide +kernel
theorem zd_M_isPaused_24 : decode zb_M_isPaused 24 = .ok (.bipush 9, 2) := by decide +kernel
theorem zd_M_isPaused_26 : decode zb_M_isPaused 26 = .ok (.irem, 1) := by decide +kernel
theorem zd_M_isPaused_27 : decode zb_M_isPaused 27 = .ok (.sipush 196, 3) := by decide +kernel
theorem zd_M_isPaused_30 : decode zb_M_isPaused 30 = .ok (.imul, 1) := by decide +kernel
theorem zd_M_isPaused_31 : decode zb_M_isPaused 31 = .ok (.bipush 14, 2) := by decide +kernel
theorem zd_M_isPaused_33 : decode zb_M_isPaused 33 = .ok (.iload_n 1, 1) := by decide +kernel
theorem zd_M_isPaused_34 : decode zb_M_isPaused 34 = .ok (.imul, 1) := by decide +kernel
theorem zd_M_isPaused_35 : decode zb_M_isPaused 35 = .ok (.iadd, 1) := by decide +kernel
theorem zd_M_isPaused_36 : decode zb_M_isPaused 36 = .ok (.iload_n 2, 1) := by decide +kernel
theorem zd_M_isPaused_37 : decode zb_M_isPaused 37 = .ok (.iadd, 1) := by decide +kernel
theorem zd_M_isPaused_38 : decode zb_M_isPaused 38 = .ok (.baload, 1) := by decide +kernel
theorem zd_M_isPaused_39 : decode zb_M_isPaused 39 = .ok (.ifCond .eq 7, 3) := by decide +kernel
theorem zd_M_isPaused_42 : decode zb_M_isPaused 42 = .ok (.iconst 1, 1) := by decide +kernel
theorem zd_M_isPaused_43 : decode zb_M_isPaused 43 = .ok (.goto 4, 3) := by decide +kernel
theorem zd_M_isPaused_46 : decode zb_M_isPaused 46 = .ok (.iconst 0, 1) := by decide +kernel
theorem zd_M_isPaused_47 : decode zb_M_isPaused 47 = .ok (.ireturn, 1) := by decide +kernel
theorem zd_M_begin_0 : decode zb_M_begin 0 = .ok (.aload_n 0, 1) := by decide +kernel
theorem zd_M_begin_1 : decode zb_M_begin 1 = .ok (.getfield 34, 3) := by decide +kernel
theorem zd_M_begin_4 : decode zb_M_begin 4 = .ok (.iload_n 1, 1) := by decide +kernel
theorem zd_M_begin_5 : decode zb_M_begin 5 = .ok (.iaload, 1) := by decide +kernel
theorem zd_M_begin_6 : decode zb_M_begin 6 = .ok (.istore_n 3, 1) := by decide +kernel
theorem zd_M_begin_7 : decode zb_M_begin 7 = .ok (.aload_n 0, 1) := by decide +kernel
theorem zd_M_begin_8 : decode zb_M_begin 8 = .ok (.getfield 40, 3) := by decide +kernel
theorem zd_M_begin_11 : decode zb_M_begin 11 = .ok (.iload_n 1, 1) := by decide +kernel
theorem zd_M_begin_12 : decode zb_M_begin 12 = .ok (.iconst 2, 1) := by decide +kernel
theorem zd_M_begin_13 : decode zb_M_begin 13 = .ok (.iastore, 1) := by decide +kernel
theorem zd_M_begin_14 : decode zb_M_begin 14 = .ok (.aload_n 0, 1) := by decide +kernel
theorem zd_M_begin_15 : decode zb_M_begin 15 = .ok (.getfield 49, 3) := by decide +kernel
theorem zd_M_begin_18 : decode zb_M_begin 18 = .ok (.iload_n 1, 1) := by decide +kernel
theorem zd_M_begin_19 : decode zb_M_begin 19 = .ok (.aload_n 0, 1) := by decide +kernel
theorem zd_M_begin_20 : decode zb_M_begin 20 = .ok (.getfield 106, 3) := by decide +kernel
theorem zd_M_begin_23 : decode zb_M_begin 23 = .ok (.aload_n 0, 1) := by decide +kernel
theorem zd_M_begin_24 : decode zb_M_begin 24 = .ok (.getfield 37, 3) := by decide +kernel
theorem zd_M_begin_27 : decode zb_M_begin 27 = .ok (.iload_n 1, 1) := by decide +kernel
theorem zd_M_begin_28 : decode zb_M_begin 28 = .ok (.iaload, 1) := by decide +kernel
theorem zd_M_begin_29 : decode zb_M_begin 29 = .ok (.iadd, 1) := by decide +kernel
theorem zd_M_begin_30 : decode zb_M_begin 30 = .ok (.iastore, 1) := by decide +kernel
theorem zd_M_begin_31 : decode zb_M_begin 31 = .ok (.iload_n 2, 1) := by decide +kernel
theorem zd_M_begin_32 : decode zb_M_begin 32 = .ok (.bipush 8, 2) := by decide +kernel
theorem zd_M_begin_34 : decode zb_M_begin 34 = .ok (.if_icmp .ge 39, 3) := by decide +kernel
theorem zd_M_begin_37 : decode zb_M_begin 37 = .ok (.aload_n 0, 1) := by decide +kernel
theorem zd_M_begin_38 : decode zb_M_begin 38 = .ok (.getfield 31, 3) := by decide +kernel
theorem zd_M_begin_41 : decode zb_M_begin 41 = .ok (.iload_n 3, 1) := by decide +kernel
theorem zd_M_begin_42 : decode zb_M_begin 42 = .ok (.aload_n 0, 1) := by decide +kernel
theorem zd_M_begin_43 : decode zb_M_begin 43 = .ok (.getfield 106, 3) := by decide +kernel
theorem zd_M_begin_46 : decode zb_M_begin 46 = .ok (.bipush 64, 2) := by decide +kernel
theorem zd_M_begin_48 : decode zb_M_begin 48 = .ok (.aload_n 0, 1) := by decide +kernel
theorem zd_M_begin_49 : decode zb_M_begin 49 = .ok (.getfield 37, 3) := by decide +kernel
theorem zd_M_begin_52 : decode zb_M_begin 52 = .ok (.iload_n 1, 1) := by decide +kernel
theorem zd_M_begin_53 : decode zb_M_begin 53 = .ok (.iaload, 1) := by decide +kernel
theorem zd_M_begin_54 : decode zb_M_begin 54 = .ok (.imul, 1) := by decide +kernel
theorem zd_M_begin_55 : decode zb_M_begin 55 = .ok (.aload_n 0, 1) := by decide +kernel
theorem zd_M_begin_56 : decode zb_M_begin 56 = .ok (.getfield 19, 3) := by decide +kernel
theorem zd_M_begin_59 : decode zb_M_begin 59 = .ok (.iload_n 3, 1) := by decide +kernel
theorem zd_M_begin_60 : decode zb_M_begin 60 = .ok (.iaload, 1) := by decide +kernel
theorem zd_M_begin_61 : decode zb_M_begin 61 = .ok (.iadd, 1) := by decide +kernel
theorem zd_M_begin_62 : decode zb_M_begin 62 = .ok (.iconst 1, 1) := by decide +kernel
theorem zd_M_begin_63 : decode zb_M_begin 63 = .ok (.isub, 1) := by decide +kernel
theorem zd_M_begin_64 : decode zb_M_begin 64 = .ok (.aload_n 0, 1) := by decide +kernel
theorem zd_M_begin_65 : decode zb_M_begin 65 = .ok (.getfield 19, 3) := by decide +kernel
theorem zd_M_begin_68 : decode zb_M_begin 68 = .ok (.iload_n 3, 1) := by decide +kernel
theorem zd_M_begin_69 : decode zb_M_begin 69 = .ok (.iaload, 1) := by decide +kernel
theorem zd_M_begin_70 : decode zb_M_begin 70 = .ok (.idiv, 1) := by decide +kernel
theorem zd_M_begin_71 : decode zb_M_begin 71 = .ok (.iadd, 1) := by decide +kernel
theorem zd_M_begin_72 : decode zb_M_begin 72 = .ok (.iastore, 1) := by decide +kernel
theorem zd_M_begin_73 : decode zb_M_begin 73 = .ok (.return_, 1) := by decide +kernel
theorem zd_M_clock_0 : decode zb_M_clock 0 = .ok (.aload_n 0, 1) := by decide +kernel
theorem zd_M_clock_1 : decode zb_M_clock 1 = .ok (.getfield 106, 3) := by decide +kernel
theorem zd_M_clock_4 : decode zb_M_clock 4 = .ok (.ireturn, 1) := by decide +kernel
theorem zd_M_state_0 : decode zb_M_state 0 = .ok (.aload_n 0, 1) := by decide +kernel
theorem zd_M_state_1 : decode zb_M_state 1 = .ok (.iload_n 1, 1) := by decide +kernel
theorem zd_M_state_2 : decode zb_M_state 2 = .ok (.invokevirtual 169, 3) := by decide +kernel
theorem zd_M_state_5 : decode zb_M_state 5 = .ok (.ifCond .eq 12, 3) := by decide +kernel
theorem zd_M_state_8 : decode zb_M_state 8 = .ok (.aload_n 0, 1) := by decide +kernel
theorem zd_M_state_9 : decode zb_M_state 9 = .ok (.getfield 40, 3) := by decide +kernel
theorem zd_M_state_12 : decode zb_M_state 12 = .ok (.iload_n 1, 1) := by decide +kernel
theorem zd_M_state_13 : decode zb_M_state 13 = .ok (.iaload, 1) := by decide +kernel
theorem zd_M_state_14 : decode zb_M_state 14 = .ok (.goto 4, 3) := by decide +kernel
theorem zd_M_state_17 : decode zb_M_state 17 = .ok (.iconst (-1), 1) := by decide +kernel
theorem zd_M_state_18 : decode zb_M_state 18 = .ok (.ireturn, 1) := by decide +kernel
theorem zd_M_isFrame_0 : decode zb_M_isFrame 0 = .ok (.iload_n 1, 1) := by decide +kernel
theorem zd_M_isFrame_1 : decode zb_M_isFrame 1 = .ok (.ifCond .lt 15, 3) := by decide +kernel
theorem zd_M_isFrame_4 : decode zb_M_isFrame 4 = .ok (.iload_n 1, 1) := by decide +kernel
theorem zd_M_isFrame_5 : decode zb_M_isFrame 5 = .ok (.aload_n 0, 1) := by decide +kernel
theorem zd_M_isFrame_6 : decode zb_M_isFrame 6 = .ok (.getfield 91, 3) := by decide +kernel
theorem zd_M_isFrame_9 : decode zb_M_isFrame 9 = .ok (.if_icmp .ge 7, 3) := by decide +kernel
theorem zd_M_isFrame_12 : decode zb_M_isFrame 12 = .ok (.iconst 1, 1) := by decide +kernel
theorem zd_M_isFrame_13 : decode zb_M_isFrame 13 = .ok (.goto 4, 3) := by decide +kernel
theorem zd_M_isFrame_16 : decode zb_M_isFrame 16 = .ok (.iconst 0, 1) := by decide +kernel
theorem zd_M_isFrame_17 : decode zb_M_isFrame 17 = .ok (.ireturn, 1) := by decide +kernel
theorem zd_M_node_0 : decode zb_M_node 0 = .ok (.aload_n 0, 1) := by decide +kernel
theorem zd_M_node_1 : decode zb_M_node 1 = .ok (.iload_n 1, 1) := by decide +kernel
theorem zd_M_node_2 : decode zb_M_node 2 = .ok (.invokevirtual 169, 3) := by decide +kernel
theorem zd_M_node_5 : decode zb_M_node 5 = .ok (.ifCond .eq 22, 3) := by decide +kernel
theorem zd_M_node_8 : decode zb_M_node 8 = .ok (.aload_n 0, 1) := by decide +kernel
theorem zd_M_node_9 : decode zb_M_node 9 = .ok (.aload_n 0, 1) := by decide +kernel
theorem zd_M_node_10 : decode zb_M_node 10 = .ok (.getfield 34, 3) := by decide +kernel
theorem zd_M_node_13 : decode zb_M_node 13 = .ok (.iload_n 1, 1) := by decide +kernel
theorem zd_M_node_14 : decode zb_M_node 14 = .ok (.iaload, 1) := by decide +kernel
theorem zd_M_node_15 : decode zb_M_node 15 = .ok (.aload_n 0, 1) := by decide +kernel
theorem zd_M_node_16 : decode zb_M_node 16 = .ok (.getfield 43, 3) := by decide +kernel
theorem zd_M_node_19 : decode zb_M_node 19 = .ok (.iload_n 1, 1) := by decide +kernel
theorem zd_M_node_20 : decode zb_M_node 20 = .ok (.iaload, 1) := by decide +kernel
theorem zd_M_node_21 : decode zb_M_node 21 = .ok (.invokevirtual 98, 3) := by decide +kernel
theorem zd_M_node_24 : decode zb_M_node 24 = .ok (.goto 4, 3) := by decide +kernel
theorem zd_M_node_27 : decode zb_M_node 27 = .ok (.iconst (-1), 1) := by decide +kernel
theorem zd_M_node_28 : decode zb_M_node 28 = .ok (.ireturn, 1) := by decide +kernel
theorem zd_M_marked_0 : decode zb_M_marked 0 = .ok (.aload_n 0, 1) := by decide +kernel
theorem zd_M_marked_1 : decode zb_M_marked 1 = .ok (.iload_n 1, 1) := by decide +kernel
theorem zd_M_marked_2 : decode zb_M_marked 2 = .ok (.invokevirtual 169, 3) := by decide +kernel
theorem zd_M_marked_5 : decode zb_M_marked 5 = .ok (.ifCond .eq 16, 3) := by decide +kernel
theorem zd_M_marked_8 : decode zb_M_marked 8 = .ok (.aload_n 0, 1) := by decide +kernel
theorem zd_M_marked_9 : decode zb_M_marked 9 = .ok (.getfield 52, 3) := by decide +kernel
theorem zd_M_marked_12 : decode zb_M_marked 12 = .ok (.iload_n 1, 1) := by decide +kernel
theorem zd_M_marked_13 : decode zb_M_marked 13 = .ok (.baload, 1) := by decide +kernel
theorem zd_M_marked_14 : decode zb_M_marked 14 = .ok (.ifCond .eq 7, 3) := by decide +kernel
theorem zd_M_marked_17 : decode zb_M_marked 17 = .ok (.iconst 1, 1) := by decide +kernel
theorem zd_M_marked_18 : decode zb_M_marked 18 = .ok (.goto 4, 3) := by decide +kernel
theorem zd_M_marked_21 : decode zb_M_marked 21 = .ok (.iconst 0, 1) := by decide +kernel
theorem zd_M_marked_22 : decode zb_M_marked 22 = .ok (.ireturn, 1) := by decide +kernel
theorem zd_M_queued_0 : decode zb_M_queued 0 = .ok (.iload_n 1, 1) := by decide +kernel
theorem zd_M_queued_1 : decode zb_M_queued 1 = .ok (.iload_n 2, 1) := by decide +kernel
theorem zd_M_queued_2 : decode zb_M_queued 2 = .ok (.invokestatic 129, 3) := by decide +kernel
theorem zd_M_queued_5 : decode zb_M_queued 5 = .ok (.ifCond .eq 22, 3) := by decide +kernel
theorem zd_M_queued_8 : decode zb_M_queued 8 = .ok (.iload_n 3, 1) := by decide +kernel
theorem zd_M_queued_9 : decode zb_M_queued 9 = .ok (.ifCond .eq 8, 3) := by decide +kernel
theorem zd_M_queued_12 : decode zb_M_queued 12 = .ok (.iload_n 3, 1) := by decide +kernel
theorem zd_M_queued_13 : decode zb_M_queued 13 = .ok (.iconst 1, 1) := by decide +kernel
theorem zd_M_queued_14 : decode zb_M_queued 14 = .ok (.if_icmp .ne 13, 3) := by decide +kernel
theorem zd_M_queued_17 : decode zb_M_queued 17 = .ok (.aload_n 0, 1) := by decide +kernel
theorem zd_M_queued_18 : decode zb_M_queued 18 = .ok (.iload_n 1, 1) := by decide +kernel
theorem zd_M_queued_19 : decode zb_M_queued 19 = .ok (.iload_n 2, 1) := by decide +kernel
theorem zd_M_queued_20 : decode zb_M_queued 20 = .ok (.iload_n 3, 1) := by decide +kernel
theorem zd_M_queued_21 : decode zb_M_queued 21 = .ok (.invokevirtual 126, 3) := by decide +kernel
theorem zd_M_queued_24 : decode zb_M_queued 24 = .ok (.goto 4, 3) := by decide +kernel
theorem zd_M_queued_27 : decode zb_M_queued 27 = .ok (.iconst (-1), 1) := by decide +kernel
theorem zd_M_queued_28 : decode zb_M_queued 28 = .ok (.ireturn, 1) := by decide +kernel
theorem zd_M_held_0 : decode zb_M_held 0 = .ok (.iload_n 1, 1) := by decide +kernel
theorem zd_M_held_1 : decode zb_M_held 1 = .ok (.iload_n 2, 1) := by decide +kernel
theorem zd_M_held_2 : decode zb_M_held 2 = .ok (.invokestatic 129, 3) := by decide +kernel
theorem zd_M_held_5 : decode zb_M_held 5 = .ok (.ifCond .eq 12, 3) := by decide +kernel
theorem zd_M_held_8 : decode zb_M_held 8 = .ok (.iload_n 3, 1) := by decide +kernel
theorem zd_M_held_9 : decode zb_M_held 9 = .ok (.ifCond .lt 8, 3) := by decide +kernel
theorem zd_M_held_12 : decode zb_M_held 12 = .ok (.iload_n 3, 1) := by decide +kernel
theorem zd_M_held_13 : decode zb_M_held 13 = .ok (.iconst 1, 1) := by decide +kernel
theorem zd_M_held_14 : decode zb_M_held 14 = .ok (.if_icmp .le 5, 3) := by decide +kernel
theorem zd_M_held_17 : decode zb_M_held 17 = .ok (.iconst (-1), 1) := by decide +kernel
theorem zd_M_held_18 : decode zb_M_held 18 = .ok (.ireturn, 1) := by decide +kernel
theorem zd_M_held_19 : decode zb_M_held 19 = .ok (.iload_n 2, 1) := by decide +kernel
theorem zd_M_held_20 : decode zb_M_held 20 = .ok (.bipush 8, 2) := by decide +kernel
theorem zd_M_held_22 : decode zb_M_held 22 = .ok (.if_icmp .ge 7, 3) := by decide +kernel
theorem zd_M_held_25 : decode zb_M_held 25 = .ok (.iconst 0, 1) := by decide +kernel
theorem zd_M_held_26 : decode zb_M_held 26 = .ok (.goto 10, 3) := by decide +kernel
theorem zd_M_held_29 : decode zb_M_held 29 = .ok (.aload_n 0, 1) := by decide +kernel
theorem zd_M_held_30 : decode zb_M_held 30 = .ok (.iload_n 1, 1) := by decide +kernel
theorem zd_M_held_31 : decode zb_M_held 31 = .ok (.iload_n 2, 1) := by decide +kernel
theorem zd_M_held_32 : decode zb_M_held 32 = .ok (.iload_n 3, 1) := by decide +kernel
theorem zd_M_held_33 : decode zb_M_held 33 = .ok (.invokevirtual 120, 3) := by decide +kernel
theorem zd_M_held_36 : decode zb_M_held 36 = .ok (.ireturn, 1) := by decide +kernel
theorem zd_M_asks_0 : decode zb_M_asks 0 = .ok (.iload_n 1, 1) := by decide +kernel
theorem zd_M_asks_1 : decode zb_M_asks 1 = .ok (.iload_n 2, 1) := by decide +kernel
theorem zd_M_asks_2 : decode zb_M_asks 2 = .ok (.invokestatic 129, 3) := by decide +kernel
theorem zd_M_asks_5 : decode zb_M_asks 5 = .ok (.ifCond .eq 21, 3) := by decide +kernel
theorem zd_M_asks_8 : decode zb_M_asks 8 = .ok (.aload_n 0, 1) := by decide +kernel
theorem zd_M_asks_9 : decode zb_M_asks 9 = .ok (.getfield 65, 3) := by decide +kernel
theorem zd_M_asks_12 : decode zb_M_asks 12 = .ok (.bipush 14, 2) := by decide +kernel
theorem zd_M_asks_14 : decode zb_M_asks 14 = .ok (.iload_n 1, 1) := by decide +kernel
theorem zd_M_asks_15 : decode zb_M_asks 15 = .ok (.imul, 1) := by decide +kernel
theorem zd_M_asks_16 : decode zb_M_asks 16 = .ok (.iload_n 2, 1) := by decide +kernel
theorem zd_M_asks_17 : decode zb_M_asks 17 = .ok (.iadd, 1) := by decide +kernel
theorem zd_M_asks_18 : decode zb_M_asks 18 = .ok (.baload, 1) := by decide +kernel
theorem zd_M_asks_19 : decode zb_M_asks 19 = .ok (.ifCond .eq 7, 3) := by decide +kernel
theorem zd_M_asks_22 : decode zb_M_asks 22 = .ok (.iconst 1, 1) := by decide +kernel
theorem zd_M_asks_23 : decode zb_M_asks 23 = .ok (.goto 4, 3) := by decide +kernel
theorem zd_M_asks_26 : decode zb_M_asks 26 = .ok (.iconst 0, 1) := by decide +kernel
theorem zd_M_asks_27 : decode zb_M_asks 27 = .ok (.ireturn, 1) := by decide +kernel
theorem zd_M_paused_0 : decode zb_M_paused 0 = .ok (.iload_n 1, 1) := by decide +kernel
theorem zd_M_paused_1 : decode zb_M_paused 1 = .ok (.iload_n 2, 1) := by decide +kernel
theorem zd_M_paused_2 : decode zb_M_paused 2 = .ok (.invokestatic 129, 3) := by decide +kernel
theorem zd_M_paused_5 : decode zb_M_paused 5 = .ok (.ifCond .eq 16, 3) := by decide +kernel
theorem zd_M_paused_8 : decode zb_M_paused 8 = .ok (.aload_n 0, 1) := by decide +kernel
theorem zd_M_paused_9 : decode zb_M_paused 9 = .ok (.iload_n 1, 1) := by decide +kernel
theorem zd_M_paused_10 : decode zb_M_paused 10 = .ok (.iload_n 2, 1) := by decide +kernel
theorem zd_M_paused_11 : decode zb_M_paused 11 = .ok (.invokevirtual 140, 3) := by decide +kernel
theorem zd_M_paused_14 : decode zb_M_paused 14 = .ok (.ifCond .eq 7, 3) := by decide +kernel
theorem zd_M_paused_17 : decode zb_M_paused 17 = .ok (.iconst 1, 1) := by decide +kernel
theorem zd_M_paused_18 : decode zb_M_paused 18 = .ok (.goto 4, 3) := by decide +kernel
theorem zd_M_paused_21 : decode zb_M_paused 21 = .ok (.iconst 0, 1) := by decide +kernel
theorem zd_M_paused_22 : decode zb_M_paused 22 = .ok (.ireturn, 1) := by decide +kernel
theorem zd_M_rate_0 : decode zb_M_rate 0 = .ok (.aload_n 0, 1) := by decide +kernel
theorem zd_M_rate_1 : decode zb_M_rate 1 = .ok (.iload_n 1, 1) := by decide +kernel
theorem zd_M_rate_2 : decode zb_M_rate 2 = .ok (.invokevirtual 112, 3) := by decide +kernel
theorem zd_M_rate_5 : decode zb_M_rate 5 = .ok (.ifCond .eq 12, 3) := by decide +kernel
theorem zd_M_rate_8 : decode zb_M_rate 8 = .ok (.aload_n 0, 1) := by decide +kernel
theorem zd_M_rate_9 : decode zb_M_rate 9 = .ok (.getfield 19, 3) := by decide +kernel
theorem zd_M_rate_12 : decode zb_M_rate 12 = .ok (.iload_n 1, 1) := by decide +kernel
theorem zd_M_rate_13 : decode zb_M_rate 13 = .ok (.iaload, 1) := by decide +kernel
theorem zd_M_rate_14 : decode zb_M_rate 14 = .ok (.goto 4, 3) := by decide +kernel
theorem zd_M_rate_17 : decode zb_M_rate 17 = .ok (.iconst 0, 1) := by decide +kernel
theorem zd_M_rate_18 : decode zb_M_rate 18 = .ok (.ireturn, 1) := by decide +kernel
theorem zd_M_alpha_0 : decode zb_M_alpha 0 = .ok (.aload_n 0, 1) := by decide +kernel
theorem zd_M_alpha_1 : decode zb_M_alpha 1 = .ok (.iload_n 1, 1) := by decide +kernel
theorem zd_M_alpha_2 : decode zb_M_alpha 2 = .ok (.invokevirtual 112, 3) := by decide +kernel
theorem zd_M_alpha_5 : decode zb_M_alpha 5 = .ok (.ifCond .eq 12, 3) := by decide +kernel
theorem zd_M_alpha_8 : decode zb_M_alpha 8 = .ok (.aload_n 0, 1) := by decide +kernel
theorem zd_M_alpha_9 : decode zb_M_alpha 9 = .ok (.getfield 25, 3) := by decide +kernel
theorem zd_M_alpha_12 : decode zb_M_alpha 12 = .ok (.iload_n 1, 1) := by decide +kernel
theorem zd_M_alpha_13 : decode zb_M_alpha 13 = .ok (.iaload, 1) := by decide +kernel
theorem zd_M_alpha_14 : decode zb_M_alpha 14 = .ok (.goto 4, 3) := by decide +kernel
theorem zd_M_alpha_17 : decode zb_M_alpha 17 = .ok (.iconst 0, 1) := by decide +kernel
theorem zd_M_alpha_18 : decode zb_M_alpha 18 = .ok (.ireturn, 1) := by decide +kernel
theorem zd_M_received_0 : decode zb_M_received 0 = .ok (.aload_n 0, 1) := by decide +kernel
theorem zd_M_received_1 : decode zb_M_received 1 = .ok (.iload_n 1, 1) := by decide +kernel
theorem zd_M_received_2 : decode zb_M_received 2 = .ok (.invokevirtual 112, 3) := by decide +kernel
theorem zd_M_received_5 : decode zb_M_received 5 = .ok (.ifCond .eq 12, 3) := by decide +kernel
theorem zd_M_received_8 : decode zb_M_received 8 = .ok (.aload_n 0, 1) := by decide +kernel
theorem zd_M_received_9 : decode zb_M_received 9 = .ok (.iload_n 1, 1) := by decide +kernel
theorem zd_M_received_10 : decode zb_M_received 10 = .ok (.iconst 4, 1) := by decide +kernel
theorem zd_M_received_11 : decode zb_M_received 11 = .ok (.invokevirtual 172, 3) := by decide +kernel
theorem zd_M_received_14 : decode zb_M_received 14 = .ok (.goto 4, 3) := by decide +kernel
theorem zd_M_received_17 : decode zb_M_received 17 = .ok (.iconst 0, 1) := by decide +kernel
theorem zd_M_received_18 : decode zb_M_received 18 = .ok (.ireturn, 1) := by decide +kernel
theorem zd_M_countOf_0 : decode zb_M_countOf 0 = .ok (.iconst 0, 1) := by decide +kernel
theorem zd_M_countOf_1 : decode zb_M_countOf 1 = .ok (.istore_n 3, 1) := by decide +kernel
theorem zd_M_countOf_2 : decode zb_M_countOf 2 = .ok (.iconst 0, 1) := by decide +kernel
theorem zd_M_countOf_3 : decode zb_M_countOf 3 = .ok (.istore 4, 2) := by decide +kernel
theorem zd_M_countOf_5 : decode zb_M_countOf 5 = .ok (.iload 4, 2) := by decide +kernel
theorem zd_M_countOf_7 : decode zb_M_countOf 7 = .ok (.aload_n 0, 1) := by decide +kernel
theorem zd_M_countOf_8 : decode zb_M_countOf 8 = .ok (.getfield 91, 3) := by decide +kernel
theorem zd_M_countOf_11 : decode zb_M_countOf 11 = .ok (.if_icmp .ge 39, 3) := by decide +kernel
theorem zd_M_countOf_14 : decode zb_M_countOf 14 = .ok (.aload_n 0, 1) := by decide +kernel
theorem zd_M_countOf_15 : decode zb_M_countOf 15 = .ok (.getfield 34, 3) := by decide +kernel
theorem zd_M_countOf_18 : decode zb_M_countOf 18 = .ok (.iload 4, 2) := by decide +kernel
theorem zd_M_countOf_20 : decode zb_M_countOf 20 = .ok (.iaload, 1) := by decide +kernel
theorem zd_M_countOf_21 : decode zb_M_countOf 21 = .ok (.iload_n 1, 1) := by decide +kernel
theorem zd_M_countOf_22 : decode zb_M_countOf 22 = .ok (.if_icmp .ne 20, 3) := by decide +kernel
theorem zd_M_countOf_25 : decode zb_M_countOf 25 = .ok (.aload_n 0, 1) := by decide +kernel
theorem zd_M_countOf_26 : decode zb_M_countOf 26 = .ok (.getfield 40, 3) := by decide +kernel
theorem zd_M_countOf_29 : decode zb_M_countOf 29 = .ok (.iload 4, 2) := by decide +kernel
theorem zd_M_countOf_31 : decode zb_M_countOf 31 = .ok (.iaload, 1) := by decide +kernel
theorem zd_M_countOf_32 : decode zb_M_countOf 32 = .ok (.iload_n 2, 1) := by decide +kernel
theorem zd_M_countOf_33 : decode zb_M_countOf 33 = .ok (.if_icmp .ne 9, 3) := by decide +kernel
theorem zd_M_countOf_36 : decode zb_M_countOf 36 = .ok (.iload_n 3, 1) := by decide +kernel
theorem zd_M_countOf_37 : decode zb_M_countOf 37 = .ok (.iconst 1, 1) := by decide +kernel
theorem zd_M_countOf_38 : decode zb_M_countOf 38 = .ok (.iadd, 1) := by decide +kernel
theorem zd_M_countOf_39 : decode zb_M_countOf 39 = .ok (.goto 4, 3) := by decide +kernel
theorem zd_M_countOf_42 : decode zb_M_countOf 42 = .ok (.iload_n 3, 1) := by decide +kernel
theorem zd_M_countOf_43 : decode zb_M_countOf 43 = .ok (.istore_n 3, 1) := by decide +kernel
theorem zd_M_countOf_44 : decode zb_M_countOf 44 = .ok (.iinc 4 1, 3) := by decide +kernel
theorem zd_M_countOf_47 : decode zb_M_countOf 47 = .ok (.goto (-42), 3) := by decide +kernel
theorem zd_M_countOf_50 : decode zb_M_countOf 50 = .ok (.iload_n 3, 1) := by decide +kernel
theorem zd_M_countOf_51 : decode zb_M_countOf 51 = .ok (.ireturn, 1) := by decide +kernel
theorem zd_M_dropped_0 : decode zb_M_dropped 0 = .ok (.aload_n 0, 1) := by decide +kernel
theorem zd_M_dropped_1 : decode zb_M_dropped 1 = .ok (.iload_n 1, 1) := by decide +kernel
theorem zd_M_dropped_2 : decode zb_M_dropped 2 = .ok (.invokevirtual 112, 3) := by decide +kernel
theorem zd_M_dropped_5 : decode zb_M_dropped 5 = .ok (.ifCond .eq 12, 3) := by decide +kernel
theorem zd_M_dropped_8 : decode zb_M_dropped 8 = .ok (.aload_n 0, 1) := by decide +kernel
theorem zd_M_dropped_9 : decode zb_M_dropped 9 = .ok (.iload_n 1, 1) := by decide +kernel
theorem zd_M_dropped_10 : decode zb_M_dropped 10 = .ok (.iconst 5, 1) := by decide +kernel
theorem zd_M_dropped_11 : decode zb_M_dropped 11 = .ok (.invokevirtual 172, 3) := by decide +kernel
theorem zd_M_dropped_14 : decode zb_M_dropped 14 = .ok (.goto 4, 3) := by decide +kernel
theorem zd_M_dropped_17 : decode zb_M_dropped 17 = .ok (.iconst 0, 1) := by decide +kernel
theorem zd_M_dropped_18 : decode zb_M_dropped 18 = .ok (.ireturn, 1) := by decide +kernel
theorem zd_M_last_0 : decode zb_M_last 0 = .ok (.iconst (-1), 1) := by decide +kernel
theorem zd_M_last_1 : decode zb_M_last 1 = .ok (.istore_n 2, 1) := by decide +kernel
theorem zd_M_last_2 : decode zb_M_last 2 = .ok (.iconst 0, 1) := by decide +kernel
theorem zd_M_last_3 : decode zb_M_last 3 = .ok (.istore_n 3, 1) := by decide +kernel
theorem zd_M_last_4 : decode zb_M_last 4 = .ok (.iload_n 3, 1) := by decide +kernel
theorem zd_M_last_5 : decode zb_M_last 5 = .ok (.aload_n 0, 1) := by decide +kernel
theorem zd_M_last_6 : decode zb_M_last 6 = .ok (.getfield 91, 3) := by decide +kernel
theorem zd_M_last_9 : decode zb_M_last 9 = .ok (.if_icmp .ge 74, 3) := by decide +kernel
theorem zd_M_last_12 : decode zb_M_last 12 = .ok (.aload_n 0, 1) := by decide +kernel
theorem zd_M_last_13 : decode zb_M_last 13 = .ok (.iload_n 1, 1) := by decide +kernel
theorem zd_M_last_14 : decode zb_M_last 14 = .ok (.invokevirtual 112, 3) := by decide +kernel
theorem zd_M_last_17 : decode zb_M_last 17 = .ok (.ifCond .eq 66, 3) := by decide +kernel
theorem zd_M_last_20 : decode zb_M_last 20 = .ok (.aload_n 0, 1) := by decide +kernel
theorem zd_M_last_21 : decode zb_M_last 21 = .ok (.getfield 34, 3) := by decide +kernel
theorem zd_M_last_24 : decode zb_M_last 24 = .ok (.iload_n 3, 1) := by decide +kernel
theorem zd_M_last_25 : decode zb_M_last 25 = .ok (.iaload, 1) := by decide +kernel
theorem zd_M_last_26 : decode zb_M_last 26 = .ok (.iload_n 1, 1) := by decide +kernel
theorem zd_M_last_27 : decode zb_M_last 27 = .ok (.if_icmp .ne 17, 3) := by decide +kernel
theorem zd_M_last_30 : decode zb_M_last 30 = .ok (.aload_n 0, 1) := by decide +kernel
theorem zd_M_last_31 : decode zb_M_last 31 = .ok (.getfield 40, 3) := by decide +kernel
theorem zd_M_last_34 : decode zb_M_last 34 = .ok (.iload_n 3, 1) := by decide +kernel
theorem zd_M_last_35 : decode zb_M_last 35 = .ok (.iaload, 1) := by decide +kernel
theorem zd_M_last_36 : decode zb_M_last 36 = .ok (.iconst 4, 1) := by decide +kernel
theorem zd_M_last_37 : decode zb_M_last 37 = .ok (.if_icmp .ne 7, 3) := by decide +kernel
theorem zd_M_last_40 : decode zb_M_last 40 = .ok (.iconst 1, 1) := by decide +kernel
theorem zd_M_last_41 : decode zb_M_last 41 = .ok (.goto 4, 3) := by decide +kernel
theorem zd_M_last_44 : decode zb_M_last 44 = .ok (.iconst 0, 1) := by decide +kernel
theorem zd_M_last_45 : decode zb_M_last 45 = .ok (.istore 4, 2) := by decide +kernel
theorem zd_M_last_47 : decode zb_M_last 47 = .ok (.iload 4, 2) := by decide +kernel
theorem zd_M_last_49 : decode zb_M_last 49 = .ok (.ifCond .eq 26, 3) := by decide +kernel
theorem zd_M_last_52 : decode zb_M_last 52 = .ok (.iload_n 2, 1) := by decide +kernel
theorem zd_M_last_53 : decode zb_M_last 53 = .ok (.ifCond .lt 18, 3) := by decide +kernel
theorem zd_M_last_56 : decode zb_M_last 56 = .ok (.aload_n 0, 1) := by decide +kernel
theorem zd_M_last_57 : decode zb_M_last 57 = .ok (.getfield 49, 3) := by decide +kernel
theorem zd_M_last_60 : decode zb_M_last 60 = .ok (.iload_n 3, 1) := by decide +kernel
theorem zd_M_last_61 : decode zb_M_last 61 = .ok (.iaload, 1) := by decide +kernel
theorem zd_M_last_62 : decode zb_M_last 62 = .ok (.aload_n 0, 1) := by decide +kernel
theorem zd_M_last_63 : decode zb_M_last 63 = .ok (.getfield 49, 3) := by decide +kernel
theorem zd_M_last_66 : decode zb_M_last 66 = .ok (.iload_n 2, 1) := by decide +kernel
theorem zd_M_last_67 : decode zb_M_last 67 = .ok (.iaload, 1) := by decide +kernel
theorem zd_M_last_68 : decode zb_M_last 68 = .ok (.if_icmp .le 7, 3) := by decide +kernel
theorem zd_M_last_71 : decode zb_M_last 71 = .ok (.iload_n 3, 1) := by decide +kernel
theorem zd_M_last_72 : decode zb_M_last 72 = .ok (.goto 4, 3) := by decide +kernel
theorem zd_M_last_75 : decode zb_M_last 75 = .ok (.iload_n 2, 1) := by decide +kernel
theorem zd_M_last_76 : decode zb_M_last 76 = .ok (.istore_n 2, 1) := by decide +kernel
theorem zd_M_last_77 : decode zb_M_last 77 = .ok (.iinc 3 1, 3) := by decide +kernel
theorem zd_M_last_80 : decode zb_M_last 80 = .ok (.goto (-76), 3) := by decide +kernel
theorem zd_M_last_83 : decode zb_M_last 83 = .ok (.iload_n 2, 1) := by decide +kernel
theorem zd_M_last_84 : decode zb_M_last 84 = .ok (.ireturn, 1) := by decide +kernel
