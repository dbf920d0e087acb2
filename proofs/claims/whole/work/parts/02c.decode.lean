/-! decode rows -/
theorem dX10_init_0 : decode cX10_init 0 = .ok (.aload_n 0, 1) := by decide +kernel
theorem dX10_init_1 : decode cX10_init 1 = .ok (.invokespecial 1, 3) := by decide +kernel
theorem dX10_init_4 : decode cX10_init 4 = .ok (.aload_n 0, 1) := by decide +kernel
theorem dX10_init_5 : decode cX10_init 5 = .ok (.bipush 7, 2) := by decide +kernel
theorem dX10_init_7 : decode cX10_init 7 = .ok (.newarray .boolean, 2) := by decide +kernel
theorem dX10_init_9 : decode cX10_init 9 = .ok (.putfield 7, 3) := by decide +kernel
theorem dX10_init_12 : decode cX10_init 12 = .ok (.aload_n 0, 1) := by decide +kernel
theorem dX10_init_13 : decode cX10_init 13 = .ok (.bipush 81, 2) := by decide +kernel
theorem dX10_init_15 : decode cX10_init 15 = .ok (.newarray .int, 2) := by decide +kernel
theorem dX10_init_17 : decode cX10_init 17 = .ok (.putfield 13, 3) := by decide +kernel
theorem dX10_init_20 : decode cX10_init 20 = .ok (.aload_n 0, 1) := by decide +kernel
theorem dX10_init_21 : decode cX10_init 21 = .ok (.bipush 81, 2) := by decide +kernel
theorem dX10_init_23 : decode cX10_init 23 = .ok (.newarray .int, 2) := by decide +kernel
theorem dX10_init_25 : decode cX10_init 25 = .ok (.putfield 17, 3) := by decide +kernel
theorem dX10_init_28 : decode cX10_init 28 = .ok (.aload_n 0, 1) := by decide +kernel
theorem dX10_init_29 : decode cX10_init 29 = .ok (.bipush 81, 2) := by decide +kernel
theorem dX10_init_31 : decode cX10_init 31 = .ok (.newarray .int, 2) := by decide +kernel
theorem dX10_init_33 : decode cX10_init 33 = .ok (.putfield 20, 3) := by decide +kernel
theorem dX10_init_36 : decode cX10_init 36 = .ok (.aload_n 0, 1) := by decide +kernel
theorem dX10_init_37 : decode cX10_init 37 = .ok (.bipush 81, 2) := by decide +kernel
theorem dX10_init_39 : decode cX10_init 39 = .ok (.newarray .boolean, 2) := by decide +kernel
theorem dX10_init_41 : decode cX10_init 41 = .ok (.putfield 23, 3) := by decide +kernel
theorem dX10_init_44 : decode cX10_init 44 = .ok (.aload_n 0, 1) := by decide +kernel
theorem dX10_init_45 : decode cX10_init 45 = .ok (.sipush 2430, 3) := by decide +kernel
theorem dX10_init_48 : decode cX10_init 48 = .ok (.newarray .int, 2) := by decide +kernel
theorem dX10_init_50 : decode cX10_init 50 = .ok (.putfield 26, 3) := by decide +kernel
theorem dX10_init_53 : decode cX10_init 53 = .ok (.aload_n 0, 1) := by decide +kernel
theorem dX10_init_54 : decode cX10_init 54 = .ok (.sipush 2430, 3) := by decide +kernel
theorem dX10_init_57 : decode cX10_init 57 = .ok (.newarray .int, 2) := by decide +kernel
theorem dX10_init_59 : decode cX10_init 59 = .ok (.putfield 29, 3) := by decide +kernel
theorem dX10_init_62 : decode cX10_init 62 = .ok (.aload_n 0, 1) := by decide +kernel
theorem dX10_init_63 : decode cX10_init 63 = .ok (.sipush 24300, 3) := by decide +kernel
theorem dX10_init_66 : decode cX10_init 66 = .ok (.newarray .int, 2) := by decide +kernel
theorem dX10_init_68 : decode cX10_init 68 = .ok (.putfield 32, 3) := by decide +kernel
theorem dX10_init_71 : decode cX10_init 71 = .ok (.aload_n 0, 1) := by decide +kernel
theorem dX10_init_72 : decode cX10_init 72 = .ok (.bipush 21, 2) := by decide +kernel
theorem dX10_init_74 : decode cX10_init 74 = .ok (.newarray .int, 2) := by decide +kernel
theorem dX10_init_76 : decode cX10_init 76 = .ok (.putfield 35, 3) := by decide +kernel
theorem dX10_init_79 : decode cX10_init 79 = .ok (.aload_n 0, 1) := by decide +kernel
theorem dX10_init_80 : decode cX10_init 80 = .ok (.bipush 21, 2) := by decide +kernel
theorem dX10_init_82 : decode cX10_init 82 = .ok (.newarray .int, 2) := by decide +kernel
theorem dX10_init_84 : decode cX10_init 84 = .ok (.putfield 38, 3) := by decide +kernel
theorem dX10_init_87 : decode cX10_init 87 = .ok (.aload_n 0, 1) := by decide +kernel
theorem dX10_init_88 : decode cX10_init 88 = .ok (.bipush 21, 2) := by decide +kernel
theorem dX10_init_90 : decode cX10_init 90 = .ok (.newarray .int, 2) := by decide +kernel
theorem dX10_init_92 : decode cX10_init 92 = .ok (.putfield 41, 3) := by decide +kernel
theorem dX10_init_95 : decode cX10_init 95 = .ok (.aload_n 0, 1) := by decide +kernel
theorem dX10_init_96 : decode cX10_init 96 = .ok (.sipush 1260, 3) := by decide +kernel
theorem dX10_init_99 : decode cX10_init 99 = .ok (.newarray .int, 2) := by decide +kernel
theorem dX10_init_101 : decode cX10_init 101 = .ok (.putfield 44, 3) := by decide +kernel
theorem dX10_init_104 : decode cX10_init 104 = .ok (.aload_n 0, 1) := by decide +kernel
theorem dX10_init_105 : decode cX10_init 105 = .ok (.bipush 21, 2) := by decide +kernel
theorem dX10_init_107 : decode cX10_init 107 = .ok (.newarray .boolean, 2) := by decide +kernel
theorem dX10_init_109 : decode cX10_init 109 = .ok (.putfield 47, 3) := by decide +kernel
theorem dX10_init_112 : decode cX10_init 112 = .ok (.aload_n 0, 1) := by decide +kernel
theorem dX10_init_113 : decode cX10_init 113 = .ok (.bipush 21, 2) := by decide +kernel
theorem dX10_init_115 : decode cX10_init 115 = .ok (.newarray .boolean, 2) := by decide +kernel
theorem dX10_init_117 : decode cX10_init 117 = .ok (.putfield 50, 3) := by decide +kernel
theorem dX10_init_120 : decode cX10_init 120 = .ok (.aload_n 0, 1) := by decide +kernel
theorem dX10_init_121 : decode cX10_init 121 = .ok (.bipush 20, 2) := by decide +kernel
theorem dX10_init_123 : decode cX10_init 123 = .ok (.newarray .int, 2) := by decide +kernel
theorem dX10_init_125 : decode cX10_init 125 = .ok (.putfield 53, 3) := by decide +kernel
theorem dX10_init_128 : decode cX10_init 128 = .ok (.aload_n 0, 1) := by decide +kernel
theorem dX10_init_129 : decode cX10_init 129 = .ok (.bipush 20, 2) := by decide +kernel
theorem dX10_init_131 : decode cX10_init 131 = .ok (.newarray .int, 2) := by decide +kernel
theorem dX10_init_133 : decode cX10_init 133 = .ok (.putfield 56, 3) := by decide +kernel
theorem dX10_init_136 : decode cX10_init 136 = .ok (.aload_n 0, 1) := by decide +kernel
theorem dX10_init_137 : decode cX10_init 137 = .ok (.sipush 200, 3) := by decide +kernel
theorem dX10_init_140 : decode cX10_init 140 = .ok (.newarray .int, 2) := by decide +kernel
theorem dX10_init_142 : decode cX10_init 142 = .ok (.putfield 59, 3) := by decide +kernel
theorem dX10_init_145 : decode cX10_init 145 = .ok (.aload_n 0, 1) := by decide +kernel
theorem dX10_init_146 : decode cX10_init 146 = .ok (.bipush 20, 2) := by decide +kernel
theorem dX10_init_148 : decode cX10_init 148 = .ok (.newarray .boolean, 2) := by decide +kernel
theorem dX10_init_150 : decode cX10_init 150 = .ok (.putfield 62, 3) := by decide +kernel
theorem dX10_init_153 : decode cX10_init 153 = .ok (.aload_n 0, 1) := by decide +kernel
theorem dX10_init_154 : decode cX10_init 154 = .ok (.iconst 3, 1) := by decide +kernel
theorem dX10_init_155 : decode cX10_init 155 = .ok (.putfield 65, 3) := by decide +kernel
theorem dX10_init_158 : decode cX10_init 158 = .ok (.aload_n 0, 1) := by decide +kernel
theorem dX10_init_159 : decode cX10_init 159 = .ok (.bipush 60, 2) := by decide +kernel
theorem dX10_init_161 : decode cX10_init 161 = .ok (.newarray .int, 2) := by decide +kernel
theorem dX10_init_163 : decode cX10_init 163 = .ok (.putfield 69, 3) := by decide +kernel
theorem dX10_init_166 : decode cX10_init 166 = .ok (.aload_n 0, 1) := by decide +kernel
theorem dX10_init_167 : decode cX10_init 167 = .ok (.bipush 60, 2) := by decide +kernel
theorem dX10_init_169 : decode cX10_init 169 = .ok (.newarray .int, 2) := by decide +kernel
theorem dX10_init_171 : decode cX10_init 171 = .ok (.putfield 72, 3) := by decide +kernel
theorem dX10_init_174 : decode cX10_init 174 = .ok (.aload_n 0, 1) := by decide +kernel
theorem dX10_init_175 : decode cX10_init 175 = .ok (.bipush 60, 2) := by decide +kernel
theorem dX10_init_177 : decode cX10_init 177 = .ok (.newarray .int, 2) := by decide +kernel
theorem dX10_init_179 : decode cX10_init 179 = .ok (.putfield 75, 3) := by decide +kernel
theorem dX10_init_182 : decode cX10_init 182 = .ok (.aload_n 0, 1) := by decide +kernel
theorem dX10_init_183 : decode cX10_init 183 = .ok (.sipush 250, 3) := by decide +kernel
theorem dX10_init_186 : decode cX10_init 186 = .ok (.newarray .int, 2) := by decide +kernel
theorem dX10_init_188 : decode cX10_init 188 = .ok (.putfield 78, 3) := by decide +kernel
theorem dX10_init_191 : decode cX10_init 191 = .ok (.aload_n 0, 1) := by decide +kernel
theorem dX10_init_192 : decode cX10_init 192 = .ok (.sipush 250, 3) := by decide +kernel
theorem dX10_init_195 : decode cX10_init 195 = .ok (.newarray .int, 2) := by decide +kernel
theorem dX10_init_197 : decode cX10_init 197 = .ok (.putfield 81, 3) := by decide +kernel
theorem dX10_init_200 : decode cX10_init 200 = .ok (.return_, 1) := by decide +kernel
theorem dX10_thrown_0 : decode cX10_thrown 0 = .ok (.aload_n 0, 1) := by decide +kernel
theorem dX10_thrown_1 : decode cX10_thrown 1 = .ok (.getfield 84, 3) := by decide +kernel
theorem dX10_thrown_4 : decode cX10_thrown 4 = .ok (.ireturn, 1) := by decide +kernel
theorem dX10_isLibrary_0 : decode cX10_isLibrary 0 = .ok (.iload_n 1, 1) := by decide +kernel
theorem dX10_isLibrary_1 : decode cX10_isLibrary 1 = .ok (.iconst 1, 1) := by decide +kernel
theorem dX10_isLibrary_2 : decode cX10_isLibrary 2 = .ok (.if_icmp .lt 15, 3) := by decide +kernel
theorem dX10_isLibrary_5 : decode cX10_isLibrary 5 = .ok (.iload_n 1, 1) := by decide +kernel
theorem dX10_isLibrary_6 : decode cX10_isLibrary 6 = .ok (.aload_n 0, 1) := by decide +kernel
theorem dX10_isLibrary_7 : decode cX10_isLibrary 7 = .ok (.getfield 87, 3) := by decide +kernel
theorem dX10_isLibrary_10 : decode cX10_isLibrary 10 = .ok (.if_icmp .gt 7, 3) := by decide +kernel
theorem dX10_isLibrary_13 : decode cX10_isLibrary 13 = .ok (.iconst 1, 1) := by decide +kernel
theorem dX10_isLibrary_14 : decode cX10_isLibrary 14 = .ok (.goto 4, 3) := by decide +kernel
theorem dX10_isLibrary_17 : decode cX10_isLibrary 17 = .ok (.iconst 0, 1) := by decide +kernel
theorem dX10_isLibrary_18 : decode cX10_isLibrary 18 = .ok (.ireturn, 1) := by decide +kernel
theorem dX10_isMember_0 : decode cX10_isMember 0 = .ok (.iload_n 1, 1) := by decide +kernel
theorem dX10_isMember_1 : decode cX10_isMember 1 = .ok (.iconst 1, 1) := by decide +kernel
theorem dX10_isMember_2 : decode cX10_isMember 2 = .ok (.if_icmp .lt 24, 3) := by decide +kernel
theorem dX10_isMember_5 : decode cX10_isMember 5 = .ok (.iload_n 1, 1) := by decide +kernel
theorem dX10_isMember_6 : decode cX10_isMember 6 = .ok (.aload_n 0, 1) := by decide +kernel
theorem dX10_isMember_7 : decode cX10_isMember 7 = .ok (.getfield 90, 3) := by decide +kernel
theorem dX10_isMember_10 : decode cX10_isMember 10 = .ok (.if_icmp .gt 16, 3) := by decide +kernel
theorem dX10_isMember_13 : decode cX10_isMember 13 = .ok (.aload_n 0, 1) := by decide +kernel
theorem dX10_isMember_14 : decode cX10_isMember 14 = .ok (.getfield 23, 3) := by decide +kernel
theorem dX10_isMember_17 : decode cX10_isMember 17 = .ok (.iload_n 1, 1) := by decide +kernel
theorem dX10_isMember_18 : decode cX10_isMember 18 = .ok (.baload, 1) := by decide +kernel
theorem dX10_isMember_19 : decode cX10_isMember 19 = .ok (.ifCond .ne 7, 3) := by decide +kernel
theorem dX10_isMember_22 : decode cX10_isMember 22 = .ok (.iconst 1, 1) := by decide +kernel
theorem dX10_isMember_23 : decode cX10_isMember 23 = .ok (.goto 4, 3) := by decide +kernel
theorem dX10_isMember_26 : decode cX10_isMember 26 = .ok (.iconst 0, 1) := by decide +kernel
theorem dX10_isMember_27 : decode cX10_isMember 27 = .ok (.ireturn, 1) := by decide +kernel
theorem dX10_isSet_0 : decode cX10_isSet 0 = .ok (.iload_n 1, 1) := by decide +kernel
theorem dX10_isSet_1 : decode cX10_isSet 1 = .ok (.iconst 1, 1) := by decide +kernel
theorem dX10_isSet_2 : decode cX10_isSet 2 = .ok (.if_icmp .lt 24, 3) := by decide +kernel
theorem dX10_isSet_5 : decode cX10_isSet 5 = .ok (.iload_n 1, 1) := by decide +kernel
theorem dX10_isSet_6 : decode cX10_isSet 6 = .ok (.aload_n 0, 1) := by decide +kernel
theorem dX10_isSet_7 : decode cX10_isSet 7 = .ok (.getfield 93, 3) := by decide +kernel
theorem dX10_isSet_10 : decode cX10_isSet 10 = .ok (.if_icmp .gt 16, 3) := by decide +kernel
theorem dX10_isSet_13 : decode cX10_isSet 13 = .ok (.aload_n 0, 1) := by decide +kernel
theorem dX10_isSet_14 : decode cX10_isSet 14 = .ok (.getfield 50, 3) := by decide +kernel
theorem dX10_isSet_17 : decode cX10_isSet 17 = .ok (.iload_n 1, 1) := by decide +kernel
theorem dX10_isSet_18 : decode cX10_isSet 18 = .ok (.baload, 1) := by decide +kernel
theorem dX10_isSet_19 : decode cX10_isSet 19 = .ok (.ifCond .ne 7, 3) := by decide +kernel
theorem dX10_isSet_22 : decode cX10_isSet 22 = .ok (.iconst 1, 1) := by decide +kernel
theorem dX10_isSet_23 : decode cX10_isSet 23 = .ok (.goto 4, 3) := by decide +kernel
theorem dX10_isSet_26 : decode cX10_isSet 26 = .ok (.iconst 0, 1) := by decide +kernel
theorem dX10_isSet_27 : decode cX10_isSet 27 = .ok (.ireturn, 1) := by decide +kernel
theorem dX10_isName_0 : decode cX10_isName 0 = .ok (.iload_n 0, 1) := by decide +kernel
theorem dX10_isName_1 : decode cX10_isName 1 = .ok (.ifCond .lt 13, 3) := by decide +kernel
theorem dX10_isName_4 : decode cX10_isName 4 = .ok (.iload_n 0, 1) := by decide +kernel
theorem dX10_isName_5 : decode cX10_isName 5 = .ok (.bipush 100, 2) := by decide +kernel
theorem dX10_isName_7 : decode cX10_isName 7 = .ok (.if_icmp .ge 7, 3) := by decide +kernel
theorem dX10_isName_10 : decode cX10_isName 10 = .ok (.iconst 1, 1) := by decide +kernel
theorem dX10_isName_11 : decode cX10_isName 11 = .ok (.goto 4, 3) := by decide +kernel
theorem dX10_isName_14 : decode cX10_isName 14 = .ok (.iconst 0, 1) := by decide +kernel
theorem dX10_isName_15 : decode cX10_isName 15 = .ok (.ireturn, 1) := by decide +kernel
theorem dX10_memberOf_0 : decode cX10_memberOf 0 = .ok (.iconst 1, 1) := by decide +kernel
theorem dX10_memberOf_1 : decode cX10_memberOf 1 = .ok (.istore_n 3, 1) := by decide +kernel
theorem dX10_memberOf_2 : decode cX10_memberOf 2 = .ok (.iload_n 3, 1) := by decide +kernel
theorem dX10_memberOf_3 : decode cX10_memberOf 3 = .ok (.aload_n 0, 1) := by decide +kernel
theorem dX10_memberOf_4 : decode cX10_memberOf 4 = .ok (.getfield 90, 3) := by decide +kernel
theorem dX10_memberOf_7 : decode cX10_memberOf 7 = .ok (.if_icmp .gt 40, 3) := by decide +kernel
theorem dX10_memberOf_10 : decode cX10_memberOf 10 = .ok (.aload_n 0, 1) := by decide +kernel
theorem dX10_memberOf_11 : decode cX10_memberOf 11 = .ok (.getfield 23, 3) := by decide +kernel
theorem dX10_memberOf_14 : decode cX10_memberOf 14 = .ok (.iload_n 3, 1) := by decide +kernel
theorem dX10_memberOf_15 : decode cX10_memberOf 15 = .ok (.baload, 1) := by decide +kernel
theorem dX10_memberOf_16 : decode cX10_memberOf 16 = .ok (.ifCond .ne 25, 3) := by decide +kernel
theorem dX10_memberOf_19 : decode cX10_memberOf 19 = .ok (.aload_n 0, 1) := by decide +kernel
theorem dX10_memberOf_20 : decode cX10_memberOf 20 = .ok (.getfield 13, 3) := by decide +kernel
theorem dX10_memberOf_23 : decode cX10_memberOf 23 = .ok (.iload_n 3, 1) := by decide +kernel
theorem dX10_memberOf_24 : decode cX10_memberOf 24 = .ok (.iaload, 1) := by decide +kernel
theorem dX10_memberOf_25 : decode cX10_memberOf 25 = .ok (.iload_n 1, 1) := by decide +kernel
theorem dX10_memberOf_26 : decode cX10_memberOf 26 = .ok (.if_icmp .ne 15, 3) := by decide +kernel
theorem dX10_memberOf_29 : decode cX10_memberOf 29 = .ok (.aload_n 0, 1) := by decide +kernel
theorem dX10_memberOf_30 : decode cX10_memberOf 30 = .ok (.getfield 17, 3) := by decide +kernel
theorem dX10_memberOf_33 : decode cX10_memberOf 33 = .ok (.iload_n 3, 1) := by decide +kernel
theorem dX10_memberOf_34 : decode cX10_memberOf 34 = .ok (.iaload, 1) := by decide +kernel
theorem dX10_memberOf_35 : decode cX10_memberOf 35 = .ok (.iload_n 2, 1) := by decide +kernel
theorem dX10_memberOf_36 : decode cX10_memberOf 36 = .ok (.if_icmp .ne 5, 3) := by decide +kernel
theorem dX10_memberOf_39 : decode cX10_memberOf 39 = .ok (.iload_n 3, 1) := by decide +kernel
theorem dX10_memberOf_40 : decode cX10_memberOf 40 = .ok (.ireturn, 1) := by decide +kernel
theorem dX10_memberOf_41 : decode cX10_memberOf 41 = .ok (.iinc 3 1, 3) := by decide +kernel
theorem dX10_memberOf_44 : decode cX10_memberOf 44 = .ok (.goto (-42), 3) := by decide +kernel
theorem dX10_memberOf_47 : decode cX10_memberOf 47 = .ok (.iconst 0, 1) := by decide +kernel
theorem dX10_memberOf_48 : decode cX10_memberOf 48 = .ok (.ireturn, 1) := by decide +kernel
theorem dX10_setOf_0 : decode cX10_setOf 0 = .ok (.iconst 1, 1) := by decide +kernel
theorem dX10_setOf_1 : decode cX10_setOf 1 = .ok (.istore_n 2, 1) := by decide +kernel
theorem dX10_setOf_2 : decode cX10_setOf 2 = .ok (.iload_n 2, 1) := by decide +kernel
theorem dX10_setOf_3 : decode cX10_setOf 3 = .ok (.aload_n 0, 1) := by decide +kernel
theorem dX10_setOf_4 : decode cX10_setOf 4 = .ok (.getfield 93, 3) := by decide +kernel
theorem dX10_setOf_7 : decode cX10_setOf 7 = .ok (.if_icmp .gt 30, 3) := by decide +kernel
theorem dX10_setOf_10 : decode cX10_setOf 10 = .ok (.aload_n 0, 1) := by decide +kernel
theorem dX10_setOf_11 : decode cX10_setOf 11 = .ok (.getfield 50, 3) := by decide +kernel
theorem dX10_setOf_14 : decode cX10_setOf 14 = .ok (.iload_n 2, 1) := by decide +kernel
theorem dX10_setOf_15 : decode cX10_setOf 15 = .ok (.baload, 1) := by decide +kernel
theorem dX10_setOf_16 : decode cX10_setOf 16 = .ok (.ifCond .ne 15, 3) := by decide +kernel
theorem dX10_setOf_19 : decode cX10_setOf 19 = .ok (.aload_n 0, 1) := by decide +kernel
theorem dX10_setOf_20 : decode cX10_setOf 20 = .ok (.getfield 35, 3) := by decide +kernel
theorem dX10_setOf_23 : decode cX10_setOf 23 = .ok (.iload_n 2, 1) := by decide +kernel
theorem dX10_setOf_24 : decode cX10_setOf 24 = .ok (.iaload, 1) := by decide +kernel
theorem dX10_setOf_25 : decode cX10_setOf 25 = .ok (.iload_n 1, 1) := by decide +kernel
theorem dX10_setOf_26 : decode cX10_setOf 26 = .ok (.if_icmp .ne 5, 3) := by decide +kernel
theorem dX10_setOf_29 : decode cX10_setOf 29 = .ok (.iload_n 2, 1) := by decide +kernel
theorem dX10_setOf_30 : decode cX10_setOf 30 = .ok (.ireturn, 1) := by decide +kernel
theorem dX10_setOf_31 : decode cX10_setOf 31 = .ok (.iinc 2 1, 3) := by decide +kernel
theorem dX10_setOf_34 : decode cX10_setOf 34 = .ok (.goto (-32), 3) := by decide +kernel
theorem dX10_setOf_37 : decode cX10_setOf 37 = .ok (.iconst 0, 1) := by decide +kernel
theorem dX10_setOf_38 : decode cX10_setOf 38 = .ok (.ireturn, 1) := by decide +kernel
theorem dX10_library_0 : decode cX10_library 0 = .ok (.aload_n 0, 1) := by decide +kernel
theorem dX10_library_1 : decode cX10_library 1 = .ok (.iconst 0, 1) := by decide +kernel
theorem dX10_library_2 : decode cX10_library 2 = .ok (.putfield 84, 3) := by decide +kernel
theorem dX10_library_5 : decode cX10_library 5 = .ok (.aload_n 0, 1) := by decide +kernel
theorem dX10_library_6 : decode cX10_library 6 = .ok (.getfield 87, 3) := by decide +kernel
theorem dX10_library_9 : decode cX10_library 9 = .ok (.bipush 6, 2) := by decide +kernel
theorem dX10_library_11 : decode cX10_library 11 = .ok (.if_icmp .ne 5, 3) := by decide +kernel
theorem dX10_library_14 : decode cX10_library 14 = .ok (.iconst (-1), 1) := by decide +kernel
theorem dX10_library_15 : decode cX10_library 15 = .ok (.ireturn, 1) := by decide +kernel
theorem dX10_library_16 : decode cX10_library 16 = .ok (.aload_n 0, 1) := by decide +kernel
theorem dX10_library_17 : decode cX10_library 17 = .ok (.dup, 1) := by decide +kernel
theorem dX10_library_18 : decode cX10_library 18 = .ok (.getfield 87, 3) := by decide +kernel
theorem dX10_library_21 : decode cX10_library 21 = .ok (.iconst 1, 1) := by decide +kernel
theorem dX10_library_22 : decode cX10_library 22 = .ok (.iadd, 1) := by decide +kernel
theorem dX10_library_23 : decode cX10_library 23 = .ok (.putfield 87, 3) := by decide +kernel
theorem dX10_library_26 : decode cX10_library 26 = .ok (.aload_n 0, 1) := by decide +kernel
theorem dX10_library_27 : decode cX10_library 27 = .ok (.getfield 7, 3) := by decide +kernel
theorem dX10_library_30 : decode cX10_library 30 = .ok (.aload_n 0, 1) := by decide +kernel
theorem dX10_library_31 : decode cX10_library 31 = .ok (.getfield 87, 3) := by decide +kernel
theorem dX10_library_34 : decode cX10_library 34 = .ok (.iload_n 1, 1) := by decide +kernel
theorem dX10_library_35 : decode cX10_library 35 = .ok (.bastore, 1) := by decide +kernel
theorem dX10_library_36 : decode cX10_library 36 = .ok (.aload_n 0, 1) := by decide +kernel
theorem dX10_library_37 : decode cX10_library 37 = .ok (.getfield 87, 3) := by decide +kernel
theorem dX10_library_40 : decode cX10_library 40 = .ok (.ireturn, 1) := by decide +kernel
theorem dX10_newMember_0 : decode cX10_newMember 0 = .ok (.aload_n 0, 1) := by decide +kernel
theorem dX10_newMember_1 : decode cX10_newMember 1 = .ok (.dup, 1) := by decide +kernel
theorem dX10_newMember_2 : decode cX10_newMember 2 = .ok (.getfield 90, 3) := by decide +kernel
theorem dX10_newMember_5 : decode cX10_newMember 5 = .ok (.iconst 1, 1) := by decide +kernel
theorem dX10_newMember_6 : decode cX10_newMember 6 = .ok (.iadd, 1) := by decide +kernel
theorem dX10_newMember_7 : decode cX10_newMember 7 = .ok (.putfield 90, 3) := by decide +kernel
theorem dX10_newMember_10 : decode cX10_newMember 10 = .ok (.aload_n 0, 1) := by decide +kernel
theorem dX10_newMember_11 : decode cX10_newMember 11 = .ok (.getfield 13, 3) := by decide +kernel
theorem dX10_newMember_14 : decode cX10_newMember 14 = .ok (.aload_n 0, 1) := by decide +kernel
theorem dX10_newMember_15 : decode cX10_newMember 15 = .ok (.getfield 90, 3) := by decide +kernel
theorem dX10_newMember_18 : decode cX10_newMember 18 = .ok (.iload_n 1, 1) := by decide +kernel
theorem dX10_newMember_19 : decode cX10_newMember 19 = .ok (.iastore, 1) := by decide +kernel
theorem dX10_newMember_20 : decode cX10_newMember 20 = .ok (.aload_n 0, 1) := by decide +kernel
theorem dX10_newMember_21 : decode cX10_newMember 21 = .ok (.getfield 17, 3) := by decide +kernel
theorem dX10_newMember_24 : decode cX10_newMember 24 = .ok (.aload_n 0, 1) := by decide +kernel
theorem dX10_newMember_25 : decode cX10_newMember 25 = .ok (.getfield 90, 3) := by decide +kernel
theorem dX10_newMember_28 : decode cX10_newMember 28 = .ok (.iload_n 2, 1) := by decide +kernel
theorem dX10_newMember_29 : decode cX10_newMember 29 = .ok (.iastore, 1) := by decide +kernel
theorem dX10_newMember_30 : decode cX10_newMember 30 = .ok (.aload_n 0, 1) := by decide +kernel
theorem dX10_newMember_31 : decode cX10_newMember 31 = .ok (.getfield 20, 3) := by decide +kernel
theorem dX10_newMember_34 : decode cX10_newMember 34 = .ok (.aload_n 0, 1) := by decide +kernel
theorem dX10_newMember_35 : decode cX10_newMember 35 = .ok (.getfield 90, 3) := by decide +kernel
theorem dX10_newMember_38 : decode cX10_newMember 38 = .ok (.iconst 0, 1) := by decide +kernel
theorem dX10_newMember_39 : decode cX10_newMember 39 = .ok (.iastore, 1) := by decide +kernel
theorem dX10_newMember_40 : decode cX10_newMember 40 = .ok (.aload_n 0, 1) := by decide +kernel
theorem dX10_newMember_41 : decode cX10_newMember 41 = .ok (.getfield 90, 3) := by decide +kernel
theorem dX10_newMember_44 : decode cX10_newMember 44 = .ok (.ireturn, 1) := by decide +kernel
theorem dX10_member_0 : decode cX10_member 0 = .ok (.aload_n 0, 1) := by decide +kernel
theorem dX10_member_1 : decode cX10_member 1 = .ok (.iconst 0, 1) := by decide +kernel
theorem dX10_member_2 : decode cX10_member 2 = .ok (.putfield 84, 3) := by decide +kernel
theorem dX10_member_5 : decode cX10_member 5 = .ok (.aload_n 0, 1) := by decide +kernel
theorem dX10_member_6 : decode cX10_member 6 = .ok (.iload_n 1, 1) := by decide +kernel
theorem dX10_member_7 : decode cX10_member 7 = .ok (.invokevirtual 96, 3) := by decide +kernel
theorem dX10_member_10 : decode cX10_member 10 = .ok (.ifCond .ne 6, 3) := by decide +kernel
theorem dX10_member_13 : decode cX10_member 13 = .ok (.bipush (-2), 2) := by decide +kernel
theorem dX10_member_15 : decode cX10_member 15 = .ok (.ireturn, 1) := by decide +kernel
theorem dX10_member_16 : decode cX10_member 16 = .ok (.iload_n 2, 1) := by decide +kernel
theorem dX10_member_17 : decode cX10_member 17 = .ok (.invokestatic 100, 3) := by decide +kernel
theorem dX10_member_20 : decode cX10_member 20 = .ok (.ifCond .ne 6, 3) := by decide +kernel
theorem dX10_member_23 : decode cX10_member 23 = .ok (.bipush (-4), 2) := by decide +kernel
theorem dX10_member_25 : decode cX10_member 25 = .ok (.ireturn, 1) := by decide +kernel
theorem dX10_member_26 : decode cX10_member 26 = .ok (.aload_n 0, 1) := by decide +kernel
theorem dX10_member_27 : decode cX10_member 27 = .ok (.iload_n 1, 1) := by decide +kernel
theorem dX10_member_28 : decode cX10_member 28 = .ok (.iload_n 2, 1) := by decide +kernel
theorem dX10_member_29 : decode cX10_member 29 = .ok (.invokevirtual 103, 3) := by decide +kernel
theorem dX10_member_32 : decode cX10_member 32 = .ok (.ifCond .le 6, 3) := by decide +kernel
theorem dX10_member_35 : decode cX10_member 35 = .ok (.bipush (-5), 2) := by decide +kernel
theorem dX10_member_37 : decode cX10_member 37 = .ok (.ireturn, 1) := by decide +kernel
theorem dX10_member_38 : decode cX10_member 38 = .ok (.aload_n 0, 1) := by decide +kernel
theorem dX10_member_39 : decode cX10_member 39 = .ok (.getfield 90, 3) := by decide +kernel
theorem dX10_member_42 : decode cX10_member 42 = .ok (.bipush 80, 2) := by decide +kernel
theorem dX10_member_44 : decode cX10_member 44 = .ok (.if_icmp .ne 7, 3) := by decide +kernel
theorem dX10_member_47 : decode cX10_member 47 = .ok (.iconst (-1), 1) := by decide +kernel
theorem dX10_member_48 : decode cX10_member 48 = .ok (.goto 9, 3) := by decide +kernel
theorem dX10_member_51 : decode cX10_member 51 = .ok (.aload_n 0, 1) := by decide +kernel
theorem dX10_member_52 : decode cX10_member 52 = .ok (.iload_n 1, 1) := by decide +kernel
theorem dX10_member_53 : decode cX10_member 53 = .ok (.iload_n 2, 1) := by decide +kernel
theorem dX10_member_54 : decode cX10_member 54 = .ok (.invokevirtual 107, 3) := by decide +kernel
theorem dX10_member_57 : decode cX10_member 57 = .ok (.ireturn, 1) := by decide +kernel
theorem dX10_placeOf_0 : decode cX10_placeOf 0 = .ok (.bipush 30, 2) := by decide +kernel
theorem dX10_placeOf_2 : decode cX10_placeOf 2 = .ok (.iload_n 1, 1) := by decide +kernel
theorem dX10_placeOf_3 : decode cX10_placeOf 3 = .ok (.imul, 1) := by decide +kernel
theorem dX10_placeOf_4 : decode cX10_placeOf 4 = .ok (.istore_n 3, 1) := by decide +kernel
theorem dX10_placeOf_5 : decode cX10_placeOf 5 = .ok (.iload_n 3, 1) := by decide +kernel
theorem dX10_placeOf_6 : decode cX10_placeOf 6 = .ok (.bipush 30, 2) := by decide +kernel
theorem dX10_placeOf_8 : decode cX10_placeOf 8 = .ok (.iload_n 1, 1) := by decide +kernel
theorem dX10_placeOf_9 : decode cX10_placeOf 9 = .ok (.imul, 1) := by decide +kernel
theorem dX10_placeOf_10 : decode cX10_placeOf 10 = .ok (.aload_n 0, 1) := by decide +kernel
theorem dX10_placeOf_11 : decode cX10_placeOf 11 = .ok (.getfield 20, 3) := by decide +kernel
theorem dX10_placeOf_14 : decode cX10_placeOf 14 = .ok (.iload_n 1, 1) := by decide +kernel
theorem dX10_placeOf_15 : decode cX10_placeOf 15 = .ok (.iaload, 1) := by decide +kernel
theorem dX10_placeOf_16 : decode cX10_placeOf 16 = .ok (.iadd, 1) := by decide +kernel
theorem dX10_placeOf_17 : decode cX10_placeOf 17 = .ok (.if_icmp .ge 19, 3) := by decide +kernel
theorem dX10_placeOf_20 : decode cX10_placeOf 20 = .ok (.aload_n 0, 1) := by decide +kernel
theorem dX10_placeOf_21 : decode cX10_placeOf 21 = .ok (.getfield 26, 3) := by decide +kernel
theorem dX10_placeOf_24 : decode cX10_placeOf 24 = .ok (.iload_n 3, 1) := by decide +kernel
theorem dX10_placeOf_25 : decode cX10_placeOf 25 = .ok (.iaload, 1) := by decide +kernel
theorem dX10_placeOf_26 : decode cX10_placeOf 26 = .ok (.iload_n 2, 1) := by decide +kernel
theorem dX10_placeOf_27 : decode cX10_placeOf 27 = .ok (.if_icmp .ge 9, 3) := by decide +kernel
theorem dX10_placeOf_30 : decode cX10_placeOf 30 = .ok (.iinc 3 1, 3) := by decide +kernel
theorem dX10_placeOf_33 : decode cX10_placeOf 33 = .ok (.goto (-28), 3) := by decide +kernel
theorem dX10_placeOf_36 : decode cX10_placeOf 36 = .ok (.iload_n 3, 1) := by decide +kernel
theorem dX10_placeOf_37 : decode cX10_placeOf 37 = .ok (.ireturn, 1) := by decide +kernel
theorem dX10_isAt_0 : decode cX10_isAt 0 = .ok (.iload_n 2, 1) := by decide +kernel
theorem dX10_isAt_1 : decode cX10_isAt 1 = .ok (.bipush 30, 2) := by decide +kernel
theorem dX10_isAt_3 : decode cX10_isAt 3 = .ok (.iload_n 1, 1) := by decide +kernel
theorem dX10_isAt_4 : decode cX10_isAt 4 = .ok (.imul, 1) := by decide +kernel
theorem dX10_isAt_5 : decode cX10_isAt 5 = .ok (.aload_n 0, 1) := by decide +kernel
theorem dX10_isAt_6 : decode cX10_isAt 6 = .ok (.getfield 20, 3) := by decide +kernel
theorem dX10_isAt_9 : decode cX10_isAt 9 = .ok (.iload_n 1, 1) := by decide +kernel
theorem dX10_isAt_10 : decode cX10_isAt 10 = .ok (.iaload, 1) := by decide +kernel
theorem dX10_isAt_11 : decode cX10_isAt 11 = .ok (.iadd, 1) := by decide +kernel
theorem dX10_isAt_12 : decode cX10_isAt 12 = .ok (.if_icmp .ge 17, 3) := by decide +kernel
theorem dX10_isAt_15 : decode cX10_isAt 15 = .ok (.aload_n 0, 1) := by decide +kernel
theorem dX10_isAt_16 : decode cX10_isAt 16 = .ok (.getfield 26, 3) := by decide +kernel
theorem dX10_isAt_19 : decode cX10_isAt 19 = .ok (.iload_n 2, 1) := by decide +kernel
theorem dX10_isAt_20 : decode cX10_isAt 20 = .ok (.iaload, 1) := by decide +kernel
theorem dX10_isAt_21 : decode cX10_isAt 21 = .ok (.iload_n 3, 1) := by decide +kernel
theorem dX10_isAt_22 : decode cX10_isAt 22 = .ok (.if_icmp .ne 7, 3) := by decide +kernel
theorem dX10_isAt_25 : decode cX10_isAt 25 = .ok (.iconst 1, 1) := by decide +kernel
theorem dX10_isAt_26 : decode cX10_isAt 26 = .ok (.goto 4, 3) := by decide +kernel
theorem dX10_isAt_29 : decode cX10_isAt 29 = .ok (.iconst 0, 1) := by decide +kernel
theorem dX10_isAt_30 : decode cX10_isAt 30 = .ok (.ireturn, 1) := by decide +kernel
theorem dX10_moveLine_0 : decode cX10_moveLine 0 = .ok (.aload_n 0, 1) := by decide +kernel
theorem dX10_moveLine_1 : decode cX10_moveLine 1 = .ok (.getfield 26, 3) := by decide +kernel
theorem dX10_moveLine_4 : decode cX10_moveLine 4 = .ok (.iload_n 2, 1) := by decide +kernel
theorem dX10_moveLine_5 : decode cX10_moveLine 5 = .ok (.aload_n 0, 1) := by decide +kernel
theorem dX10_moveLine_6 : decode cX10_moveLine 6 = .ok (.getfield 26, 3) := by decide +kernel
theorem dX10_moveLine_9 : decode cX10_moveLine 9 = .ok (.iload_n 1, 1) := by decide +kernel
theorem dX10_moveLine_10 : decode cX10_moveLine 10 = .ok (.iaload, 1) := by decide +kernel
theorem dX10_moveLine_11 : decode cX10_moveLine 11 = .ok (.iastore, 1) := by decide +kernel
theorem dX10_moveLine_12 : decode cX10_moveLine 12 = .ok (.aload_n 0, 1) := by decide +kernel
theorem dX10_moveLine_13 : decode cX10_moveLine 13 = .ok (.getfield 29, 3) := by decide +kernel
theorem dX10_moveLine_16 : decode cX10_moveLine 16 = .ok (.iload_n 2, 1) := by decide +kernel
theorem dX10_moveLine_17 : decode cX10_moveLine 17 = .ok (.aload_n 0, 1) := by decide +kernel
theorem dX10_moveLine_18 : decode cX10_moveLine 18 = .ok (.getfield 29, 3) := by decide +kernel
theorem dX10_moveLine_21 : decode cX10_moveLine 21 = .ok (.iload_n 1, 1) := by decide +kernel
theorem dX10_moveLine_22 : decode cX10_moveLine 22 = .ok (.iaload, 1) := by decide +kernel
theorem dX10_moveLine_23 : decode cX10_moveLine 23 = .ok (.iastore, 1) := by decide +kernel
theorem dX10_moveLine_24 : decode cX10_moveLine 24 = .ok (.iconst 0, 1) := by decide +kernel
theorem dX10_moveLine_25 : decode cX10_moveLine 25 = .ok (.istore_n 3, 1) := by decide +kernel
theorem dX10_moveLine_26 : decode cX10_moveLine 26 = .ok (.iload_n 3, 1) := by decide +kernel
theorem dX10_moveLine_27 : decode cX10_moveLine 27 = .ok (.bipush 10, 2) := by decide +kernel
theorem dX10_moveLine_29 : decode cX10_moveLine 29 = .ok (.if_icmp .ge 31, 3) := by decide +kernel
theorem dX10_moveLine_32 : decode cX10_moveLine 32 = .ok (.aload_n 0, 1) := by decide +kernel
theorem dX10_moveLine_33 : decode cX10_moveLine 33 = .ok (.getfield 32, 3) := by decide +kernel
theorem dX10_moveLine_36 : decode cX10_moveLine 36 = .ok (.bipush 10, 2) := by decide +kernel
theorem dX10_moveLine_38 : decode cX10_moveLine 38 = .ok (.iload_n 2, 1) := by decide +kernel
theorem dX10_moveLine_39 : decode cX10_moveLine 39 = .ok (.imul, 1) := by decide +kernel
theorem dX10_moveLine_40 : decode cX10_moveLine 40 = .ok (.iload_n 3, 1) := by decide +kernel
theorem dX10_moveLine_41 : decode cX10_moveLine 41 = .ok (.iadd, 1) := by decide +kernel
theorem dX10_moveLine_42 : decode cX10_moveLine 42 = .ok (.aload_n 0, 1) := by decide +kernel
theorem dX10_moveLine_43 : decode cX10_moveLine 43 = .ok (.getfield 32, 3) := by decide +kernel
theorem dX10_moveLine_46 : decode cX10_moveLine 46 = .ok (.bipush 10, 2) := by decide +kernel
theorem dX10_moveLine_48 : decode cX10_moveLine 48 = .ok (.iload_n 1, 1) := by decide +kernel
theorem dX10_moveLine_49 : decode cX10_moveLine 49 = .ok (.imul, 1) := by decide +kernel
theorem dX10_moveLine_50 : decode cX10_moveLine 50 = .ok (.iload_n 3, 1) := by decide +kernel
theorem dX10_moveLine_51 : decode cX10_moveLine 51 = .ok (.iadd, 1) := by decide +kernel
theorem dX10_moveLine_52 : decode cX10_moveLine 52 = .ok (.iaload, 1) := by decide +kernel
theorem dX10_moveLine_53 : decode cX10_moveLine 53 = .ok (.iastore, 1) := by decide +kernel
theorem dX10_moveLine_54 : decode cX10_moveLine 54 = .ok (.iinc 3 1, 3) := by decide +kernel
theorem dX10_moveLine_57 : decode cX10_moveLine 57 = .ok (.goto (-31), 3) := by decide +kernel
theorem dX10_moveLine_60 : decode cX10_moveLine 60 = .ok (.return_, 1) := by decide +kernel
theorem dX10_open_0 : decode cX10_open 0 = .ok (.bipush 30, 2) := by decide +kernel
theorem dX10_open_2 : decode cX10_open 2 = .ok (.iload_n 1, 1) := by decide +kernel
theorem dX10_open_3 : decode cX10_open 3 = .ok (.imul, 1) := by decide +kernel
theorem dX10_open_4 : decode cX10_open 4 = .ok (.aload_n 0, 1) := by decide +kernel
theorem dX10_open_5 : decode cX10_open 5 = .ok (.getfield 20, 3) := by decide +kernel
theorem dX10_open_8 : decode cX10_open 8 = .ok (.iload_n 1, 1) := by decide +kernel
theorem dX10_open_9 : decode cX10_open 9 = .ok (.iaload, 1) := by decide +kernel
theorem dX10_open_10 : decode cX10_open 10 = .ok (.iadd, 1) := by decide +kernel
theorem dX10_open_11 : decode cX10_open 11 = .ok (.istore 4, 2) := by decide +kernel
theorem dX10_open_13 : decode cX10_open 13 = .ok (.iload 4, 2) := by decide +kernel
theorem dX10_open_15 : decode cX10_open 15 = .ok (.iload_n 2, 1) := by decide +kernel
theorem dX10_open_16 : decode cX10_open 16 = .ok (.if_icmp .le 19, 3) := by decide +kernel
theorem dX10_open_19 : decode cX10_open 19 = .ok (.aload_n 0, 1) := by decide +kernel
theorem dX10_open_20 : decode cX10_open 20 = .ok (.iload 4, 2) := by decide +kernel
theorem dX10_open_22 : decode cX10_open 22 = .ok (.iconst 1, 1) := by decide +kernel
theorem dX10_open_23 : decode cX10_open 23 = .ok (.isub, 1) := by decide +kernel
theorem dX10_open_24 : decode cX10_open 24 = .ok (.iload 4, 2) := by decide +kernel
theorem dX10_open_26 : decode cX10_open 26 = .ok (.invokevirtual 110, 3) := by decide +kernel
theorem dX10_open_29 : decode cX10_open 29 = .ok (.iinc 4 (-1), 3) := by decide +kernel
theorem dX10_open_32 : decode cX10_open 32 = .ok (.goto (-19), 3) := by decide +kernel
theorem dX10_open_35 : decode cX10_open 35 = .ok (.aload_n 0, 1) := by decide +kernel
theorem dX10_open_36 : decode cX10_open 36 = .ok (.getfield 20, 3) := by decide +kernel
theorem dX10_open_39 : decode cX10_open 39 = .ok (.iload_n 1, 1) := by decide +kernel
theorem dX10_open_40 : decode cX10_open 40 = .ok (.dup2, 1) := by decide +kernel
theorem dX10_open_41 : decode cX10_open 41 = .ok (.iaload, 1) := by decide +kernel
theorem dX10_open_42 : decode cX10_open 42 = .ok (.iconst 1, 1) := by decide +kernel
theorem dX10_open_43 : decode cX10_open 43 = .ok (.iadd, 1) := by decide +kernel
theorem dX10_open_44 : decode cX10_open 44 = .ok (.iastore, 1) := by decide +kernel
theorem dX10_open_45 : decode cX10_open 45 = .ok (.aload_n 0, 1) := by decide +kernel
theorem dX10_open_46 : decode cX10_open 46 = .ok (.getfield 26, 3) := by decide +kernel
theorem dX10_open_49 : decode cX10_open 49 = .ok (.iload_n 2, 1) := by decide +kernel
theorem dX10_open_50 : decode cX10_open 50 = .ok (.iload_n 3, 1) := by decide +kernel
theorem dX10_open_51 : decode cX10_open 51 = .ok (.iastore, 1) := by decide +kernel
theorem dX10_open_52 : decode cX10_open 52 = .ok (.aload_n 0, 1) := by decide +kernel
theorem dX10_open_53 : decode cX10_open 53 = .ok (.getfield 29, 3) := by decide +kernel
theorem dX10_open_56 : decode cX10_open 56 = .ok (.iload_n 2, 1) := by decide +kernel
theorem dX10_open_57 : decode cX10_open 57 = .ok (.iconst 0, 1) := by decide +kernel
theorem dX10_open_58 : decode cX10_open 58 = .ok (.iastore, 1) := by decide +kernel
theorem dX10_open_59 : decode cX10_open 59 = .ok (.return_, 1) := by decide +kernel
theorem dX10_shut_0 : decode cX10_shut 0 = .ok (.aload_n 0, 1) := by decide +kernel
theorem dX10_shut_1 : decode cX10_shut 1 = .ok (.getfield 20, 3) := by decide +kernel
theorem dX10_shut_4 : decode cX10_shut 4 = .ok (.iload_n 1, 1) := by decide +kernel
theorem dX10_shut_5 : decode cX10_shut 5 = .ok (.dup2, 1) := by decide +kernel
theorem dX10_shut_6 : decode cX10_shut 6 = .ok (.iaload, 1) := by decide +kernel
theorem dX10_shut_7 : decode cX10_shut 7 = .ok (.iconst 1, 1) := by decide +kernel
theorem dX10_shut_8 : decode cX10_shut 8 = .ok (.isub, 1) := by decide +kernel
theorem dX10_shut_9 : decode cX10_shut 9 = .ok (.iastore, 1) := by decide +kernel
theorem dX10_shut_10 : decode cX10_shut 10 = .ok (.iload_n 2, 1) := by decide +kernel
theorem dX10_shut_11 : decode cX10_shut 11 = .ok (.istore_n 3, 1) := by decide +kernel
theorem dX10_shut_12 : decode cX10_shut 12 = .ok (.iload_n 3, 1) := by decide +kernel
theorem dX10_shut_13 : decode cX10_shut 13 = .ok (.bipush 30, 2) := by decide +kernel
theorem dX10_shut_15 : decode cX10_shut 15 = .ok (.iload_n 1, 1) := by decide +kernel
theorem dX10_shut_16 : decode cX10_shut 16 = .ok (.imul, 1) := by decide +kernel
theorem dX10_shut_17 : decode cX10_shut 17 = .ok (.aload_n 0, 1) := by decide +kernel
theorem dX10_shut_18 : decode cX10_shut 18 = .ok (.getfield 20, 3) := by decide +kernel
theorem dX10_shut_21 : decode cX10_shut 21 = .ok (.iload_n 1, 1) := by decide +kernel
theorem dX10_shut_22 : decode cX10_shut 22 = .ok (.iaload, 1) := by decide +kernel
theorem dX10_shut_23 : decode cX10_shut 23 = .ok (.iadd, 1) := by decide +kernel
theorem dX10_shut_24 : decode cX10_shut 24 = .ok (.if_icmp .ge 17, 3) := by decide +kernel
theorem dX10_shut_27 : decode cX10_shut 27 = .ok (.aload_n 0, 1) := by decide +kernel
theorem dX10_shut_28 : decode cX10_shut 28 = .ok (.iload_n 3, 1) := by decide +kernel
theorem dX10_shut_29 : decode cX10_shut 29 = .ok (.iconst 1, 1) := by decide +kernel
theorem dX10_shut_30 : decode cX10_shut 30 = .ok (.iadd, 1) := by decide +kernel
theorem dX10_shut_31 : decode cX10_shut 31 = .ok (.iload_n 3, 1) := by decide +kernel
theorem dX10_shut_32 : decode cX10_shut 32 = .ok (.invokevirtual 110, 3) := by decide +kernel
theorem dX10_shut_35 : decode cX10_shut 35 = .ok (.iinc 3 1, 3) := by decide +kernel
theorem dX10_shut_38 : decode cX10_shut 38 = .ok (.goto (-26), 3) := by decide +kernel
theorem dX10_shut_41 : decode cX10_shut 41 = .ok (.return_, 1) := by decide +kernel
theorem dX10_isSign_0 : decode cX10_isSign 0 = .ok (.iload_n 0, 1) := by decide +kernel
theorem dX10_isSign_1 : decode cX10_isSign 1 = .ok (.bipush 32, 2) := by decide +kernel
theorem dX10_isSign_3 : decode cX10_isSign 3 = .ok (.if_icmp .lt 13, 3) := by decide +kernel
theorem dX10_isSign_6 : decode cX10_isSign 6 = .ok (.iload_n 0, 1) := by decide +kernel
theorem dX10_isSign_7 : decode cX10_isSign 7 = .ok (.bipush 126, 2) := by decide +kernel
theorem dX10_isSign_9 : decode cX10_isSign 9 = .ok (.if_icmp .gt 7, 3) := by decide +kernel
theorem dX10_isSign_12 : decode cX10_isSign 12 = .ok (.iconst 1, 1) := by decide +kernel
theorem dX10_isSign_13 : decode cX10_isSign 13 = .ok (.goto 4, 3) := by decide +kernel
theorem dX10_isSign_16 : decode cX10_isSign 16 = .ok (.iconst 0, 1) := by decide +kernel
theorem dX10_isSign_17 : decode cX10_isSign 17 = .ok (.ireturn, 1) := by decide +kernel
theorem dX10_isNumber_0 : decode cX10_isNumber 0 = .ok (.iload_n 0, 1) := by decide +kernel
theorem dX10_isNumber_1 : decode cX10_isNumber 1 = .ok (.iconst 1, 1) := by decide +kernel
theorem dX10_isNumber_2 : decode cX10_isNumber 2 = .ok (.if_icmp .lt 14, 3) := by decide +kernel
theorem dX10_isNumber_5 : decode cX10_isNumber 5 = .ok (.iload_n 0, 1) := by decide +kernel
theorem dX10_isNumber_6 : decode cX10_isNumber 6 = .ok (.sipush 9999, 3) := by decide +kernel
theorem dX10_isNumber_9 : decode cX10_isNumber 9 = .ok (.if_icmp .gt 7, 3) := by decide +kernel
theorem dX10_isNumber_12 : decode cX10_isNumber 12 = .ok (.iconst 1, 1) := by decide +kernel
theorem dX10_isNumber_13 : decode cX10_isNumber 13 = .ok (.goto 4, 3) := by decide +kernel
theorem dX10_isNumber_16 : decode cX10_isNumber 16 = .ok (.iconst 0, 1) := by decide +kernel
theorem dX10_isNumber_17 : decode cX10_isNumber 17 = .ok (.ireturn, 1) := by decide +kernel
theorem dX10_line_0 : decode cX10_line 0 = .ok (.aload_n 0, 1) := by decide +kernel
theorem dX10_line_1 : decode cX10_line 1 = .ok (.iconst 0, 1) := by decide +kernel
theorem dX10_line_2 : decode cX10_line 2 = .ok (.putfield 84, 3) := by decide +kernel
theorem dX10_line_5 : decode cX10_line 5 = .ok (.aload_n 0, 1) := by decide +kernel
theorem dX10_line_6 : decode cX10_line 6 = .ok (.iload_n 1, 1) := by decide +kernel
theorem dX10_line_7 : decode cX10_line 7 = .ok (.invokevirtual 114, 3) := by decide +kernel
theorem dX10_line_10 : decode cX10_line 10 = .ok (.ifCond .eq 17, 3) := by decide +kernel
theorem dX10_line_13 : decode cX10_line 13 = .ok (.iload_n 2, 1) := by decide +kernel
theorem dX10_line_14 : decode cX10_line 14 = .ok (.invokestatic 117, 3) := by decide +kernel
theorem dX10_line_17 : decode cX10_line 17 = .ok (.ifCond .eq 10, 3) := by decide +kernel
theorem dX10_line_20 : decode cX10_line 20 = .ok (.iload_n 3, 1) := by decide +kernel
theorem dX10_line_21 : decode cX10_line 21 = .ok (.invokestatic 120, 3) := by decide +kernel
theorem dX10_line_24 : decode cX10_line 24 = .ok (.ifCond .ne 4, 3) := by decide +kernel
theorem dX10_line_27 : decode cX10_line 27 = .ok (.return_, 1) := by decide +kernel
theorem dX10_line_28 : decode cX10_line 28 = .ok (.aload_n 0, 1) := by decide +kernel
theorem dX10_line_29 : decode cX10_line 29 = .ok (.iload_n 1, 1) := by decide +kernel
theorem dX10_line_30 : decode cX10_line 30 = .ok (.iload_n 2, 1) := by decide +kernel
theorem dX10_line_31 : decode cX10_line 31 = .ok (.invokevirtual 123, 3) := by decide +kernel
theorem dX10_line_34 : decode cX10_line 34 = .ok (.istore 4, 2) := by decide +kernel
theorem dX10_line_36 : decode cX10_line 36 = .ok (.aload_n 0, 1) := by decide +kernel
theorem dX10_line_37 : decode cX10_line 37 = .ok (.iload_n 1, 1) := by decide +kernel
theorem dX10_line_38 : decode cX10_line 38 = .ok (.iload 4, 2) := by decide +kernel
theorem dX10_line_40 : decode cX10_line 40 = .ok (.iload_n 2, 1) := by decide +kernel
theorem dX10_line_41 : decode cX10_line 41 = .ok (.invokevirtual 126, 3) := by decide +kernel
theorem dX10_line_44 : decode cX10_line 44 = .ok (.istore 5, 2) := by decide +kernel
theorem dX10_line_46 : decode cX10_line 46 = .ok (.iload 5, 2) := by decide +kernel
theorem dX10_line_48 : decode cX10_line 48 = .ok (.ifCond .eq 18, 3) := by decide +kernel
theorem dX10_line_51 : decode cX10_line 51 = .ok (.aload_n 0, 1) := by decide +kernel
theorem dX10_line_52 : decode cX10_line 52 = .ok (.getfield 29, 3) := by decide +kernel
theorem dX10_line_55 : decode cX10_line 55 = .ok (.iload 4, 2) := by decide +kernel
theorem dX10_line_57 : decode cX10_line 57 = .ok (.iaload, 1) := by decide +kernel
theorem dX10_line_58 : decode cX10_line 58 = .ok (.bipush 10, 2) := by decide +kernel
theorem dX10_line_60 : decode cX10_line 60 = .ok (.if_icmp .ne 18, 3) := by decide +kernel
theorem dX10_line_63 : decode cX10_line 63 = .ok (.goto 14, 3) := by decide +kernel
theorem dX10_line_66 : decode cX10_line 66 = .ok (.aload_n 0, 1) := by decide +kernel
theorem dX10_line_67 : decode cX10_line 67 = .ok (.getfield 20, 3) := by decide +kernel
theorem dX10_line_70 : decode cX10_line 70 = .ok (.iload_n 1, 1) := by decide +kernel
theorem dX10_line_71 : decode cX10_line 71 = .ok (.iaload, 1) := by decide +kernel
theorem dX10_line_72 : decode cX10_line 72 = .ok (.bipush 30, 2) := by decide +kernel
theorem dX10_line_74 : decode cX10_line 74 = .ok (.if_icmp .ne 4, 3) := by decide +kernel
theorem dX10_line_77 : decode cX10_line 77 = .ok (.return_, 1) := by decide +kernel
theorem dX10_line_78 : decode cX10_line 78 = .ok (.iload 5, 2) := by decide +kernel
theorem dX10_line_80 : decode cX10_line 80 = .ok (.ifCond .ne 11, 3) := by decide +kernel
theorem dX10_line_83 : decode cX10_line 83 = .ok (.aload_n 0, 1) := by decide +kernel
theorem dX10_line_84 : decode cX10_line 84 = .ok (.iload_n 1, 1) := by decide +kernel
theorem dX10_line_85 : decode cX10_line 85 = .ok (.iload 4, 2) := by decide +kernel
theorem dX10_line_87 : decode cX10_line 87 = .ok (.iload_n 2, 1) := by decide +kernel
theorem dX10_line_88 : decode cX10_line 88 = .ok (.invokevirtual 130, 3) := by decide +kernel
theorem dX10_line_91 : decode cX10_line 91 = .ok (.aload_n 0, 1) := by decide +kernel
theorem dX10_line_92 : decode cX10_line 92 = .ok (.getfield 32, 3) := by decide +kernel
theorem dX10_line_95 : decode cX10_line 95 = .ok (.bipush 10, 2) := by decide +kernel
theorem dX10_line_97 : decode cX10_line 97 = .ok (.iload 4, 2) := by decide +kernel
theorem dX10_line_99 : decode cX10_line 99 = .ok (.imul, 1) := by decide +kernel
theorem dX10_line_100 : decode cX10_line 100 = .ok (.aload_n 0, 1) := by decide +kernel
theorem dX10_line_101 : decode cX10_line 101 = .ok (.getfield 29, 3) := by decide +kernel
theorem dX10_line_104 : decode cX10_line 104 = .ok (.iload 4, 2) := by decide +kernel
theorem dX10_line_106 : decode cX10_line 106 = .ok (.iaload, 1) := by decide +kernel
theorem dX10_line_107 : decode cX10_line 107 = .ok (.iadd, 1) := by decide +kernel
theorem dX10_line_108 : decode cX10_line 108 = .ok (.iload_n 3, 1) := by decide +kernel
theorem dX10_line_109 : decode cX10_line 109 = .ok (.iastore, 1) := by decide +kernel
theorem dX10_line_110 : decode cX10_line 110 = .ok (.aload_n 0, 1) := by decide +kernel
theorem dX10_line_111 : decode cX10_line 111 = .ok (.getfield 29, 3) := by decide +kernel
theorem dX10_line_114 : decode cX10_line 114 = .ok (.iload 4, 2) := by decide +kernel
theorem dX10_line_116 : decode cX10_line 116 = .ok (.dup2, 1) := by decide +kernel
theorem dX10_line_117 : decode cX10_line 117 = .ok (.iaload, 1) := by decide +kernel
theorem dX10_line_118 : decode cX10_line 118 = .ok (.iconst 1, 1) := by decide +kernel
theorem dX10_line_119 : decode cX10_line 119 = .ok (.iadd, 1) := by decide +kernel
theorem dX10_line_120 : decode cX10_line 120 = .ok (.iastore, 1) := by decide +kernel
theorem dX10_line_121 : decode cX10_line 121 = .ok (.return_, 1) := by decide +kernel
theorem dX10_acts_0 : decode cX10_acts 0 = .ok (.aload_n 0, 1) := by decide +kernel
theorem dX10_acts_1 : decode cX10_acts 1 = .ok (.iload_n 1, 1) := by decide +kernel
theorem dX10_acts_2 : decode cX10_acts 2 = .ok (.aload_n 0, 1) := by decide +kernel
theorem dX10_acts_3 : decode cX10_acts 3 = .ok (.getfield 134, 3) := by decide +kernel
theorem dX10_acts_6 : decode cX10_acts 6 = .ok (.if_icmp .le 7, 3) := by decide +kernel
theorem dX10_acts_9 : decode cX10_acts 9 = .ok (.iload_n 1, 1) := by decide +kernel
theorem dX10_acts_10 : decode cX10_acts 10 = .ok (.goto 7, 3) := by decide +kernel
theorem dX10_acts_13 : decode cX10_acts 13 = .ok (.aload_n 0, 1) := by decide +kernel
theorem dX10_acts_14 : decode cX10_acts 14 = .ok (.getfield 134, 3) := by decide +kernel
theorem dX10_acts_17 : decode cX10_acts 17 = .ok (.putfield 134, 3) := by decide +kernel
theorem dX10_acts_20 : decode cX10_acts 20 = .ok (.aload_n 0, 1) := by decide +kernel
theorem dX10_acts_21 : decode cX10_acts 21 = .ok (.dup, 1) := by decide +kernel
theorem dX10_acts_22 : decode cX10_acts 22 = .ok (.getfield 137, 3) := by decide +kernel
theorem dX10_acts_25 : decode cX10_acts 25 = .ok (.aload_n 0, 1) := by decide +kernel
theorem dX10_acts_26 : decode cX10_acts 26 = .ok (.getfield 140, 3) := by decide +kernel
theorem dX10_acts_29 : decode cX10_acts 29 = .ok (.ifCond .eq 7, 3) := by decide +kernel
theorem dX10_acts_32 : decode cX10_acts 32 = .ok (.iconst 1, 1) := by decide +kernel
theorem dX10_acts_33 : decode cX10_acts 33 = .ok (.goto 4, 3) := by decide +kernel
theorem dX10_acts_36 : decode cX10_acts 36 = .ok (.iconst 0, 1) := by decide +kernel
theorem dX10_acts_37 : decode cX10_acts 37 = .ok (.iadd, 1) := by decide +kernel
theorem dX10_acts_38 : decode cX10_acts 38 = .ok (.putfield 137, 3) := by decide +kernel
theorem dX10_acts_41 : decode cX10_acts 41 = .ok (.aload_n 0, 1) := by decide +kernel
theorem dX10_acts_42 : decode cX10_acts 42 = .ok (.getfield 140, 3) := by decide +kernel
theorem dX10_acts_45 : decode cX10_acts 45 = .ok (.ifCond .ne 7, 3) := by decide +kernel
theorem dX10_acts_48 : decode cX10_acts 48 = .ok (.iconst 1, 1) := by decide +kernel
theorem dX10_acts_49 : decode cX10_acts 49 = .ok (.goto 4, 3) := by decide +kernel
theorem dX10_acts_52 : decode cX10_acts 52 = .ok (.iconst 0, 1) := by decide +kernel
theorem dX10_acts_53 : decode cX10_acts 53 = .ok (.ireturn, 1) := by decide +kernel
theorem dX10_lines_0 : decode cX10_lines 0 = .ok (.aload_n 0, 1) := by decide +kernel
theorem dX10_lines_1 : decode cX10_lines 1 = .ok (.getfield 20, 3) := by decide +kernel
theorem dX10_lines_4 : decode cX10_lines 4 = .ok (.iload_n 2, 1) := by decide +kernel
theorem dX10_lines_5 : decode cX10_lines 5 = .ok (.aload_n 0, 1) := by decide +kernel
theorem dX10_lines_6 : decode cX10_lines 6 = .ok (.getfield 20, 3) := by decide +kernel
theorem dX10_lines_9 : decode cX10_lines 9 = .ok (.iload_n 1, 1) := by decide +kernel
theorem dX10_lines_10 : decode cX10_lines 10 = .ok (.iaload, 1) := by decide +kernel
theorem dX10_lines_11 : decode cX10_lines 11 = .ok (.iastore, 1) := by decide +kernel
theorem dX10_lines_12 : decode cX10_lines 12 = .ok (.iconst 0, 1) := by decide +kernel
theorem dX10_lines_13 : decode cX10_lines 13 = .ok (.istore_n 3, 1) := by decide +kernel
theorem dX10_lines_14 : decode cX10_lines 14 = .ok (.iload_n 3, 1) := by decide +kernel
theorem dX10_lines_15 : decode cX10_lines 15 = .ok (.aload_n 0, 1) := by decide +kernel
theorem dX10_lines_16 : decode cX10_lines 16 = .ok (.getfield 20, 3) := by decide +kernel
theorem dX10_lines_19 : decode cX10_lines 19 = .ok (.iload_n 1, 1) := by decide +kernel
theorem dX10_lines_20 : decode cX10_lines 20 = .ok (.iaload, 1) := by decide +kernel
theorem dX10_lines_21 : decode cX10_lines 21 = .ok (.if_icmp .ge 25, 3) := by decide +kernel
theorem dX10_lines_24 : decode cX10_lines 24 = .ok (.aload_n 0, 1) := by decide +kernel
theorem dX10_lines_25 : decode cX10_lines 25 = .ok (.bipush 30, 2) := by decide +kernel
theorem dX10_lines_27 : decode cX10_lines 27 = .ok (.iload_n 1, 1) := by decide +kernel
theorem dX10_lines_28 : decode cX10_lines 28 = .ok (.imul, 1) := by decide +kernel
theorem dX10_lines_29 : decode cX10_lines 29 = .ok (.iload_n 3, 1) := by decide +kernel
theorem dX10_lines_30 : decode cX10_lines 30 = .ok (.iadd, 1) := by decide +kernel
theorem dX10_lines_31 : decode cX10_lines 31 = .ok (.bipush 30, 2) := by decide +kernel
theorem dX10_lines_33 : decode cX10_lines 33 = .ok (.iload_n 2, 1) := by decide +kernel
theorem dX10_lines_34 : decode cX10_lines 34 = .ok (.imul, 1) := by decide +kernel
theorem dX10_lines_35 : decode cX10_lines 35 = .ok (.iload_n 3, 1) := by decide +kernel
theorem dX10_lines_36 : decode cX10_lines 36 = .ok (.iadd, 1) := by decide +kernel
theorem dX10_lines_37 : decode cX10_lines 37 = .ok (.invokevirtual 110, 3) := by decide +kernel
theorem dX10_lines_40 : decode cX10_lines 40 = .ok (.iinc 3 1, 3) := by decide +kernel
theorem dX10_lines_43 : decode cX10_lines 43 = .ok (.goto (-29), 3) := by decide +kernel
theorem dX10_lines_46 : decode cX10_lines 46 = .ok (.return_, 1) := by decide +kernel
theorem dX10_one_0 : decode cX10_one 0 = .ok (.aload_n 0, 1) := by decide +kernel
theorem dX10_one_1 : decode cX10_one 1 = .ok (.iload_n 2, 1) := by decide +kernel
theorem dX10_one_2 : decode cX10_one 2 = .ok (.iload_n 3, 1) := by decide +kernel
theorem dX10_one_3 : decode cX10_one 3 = .ok (.invokevirtual 103, 3) := by decide +kernel
theorem dX10_one_6 : decode cX10_one 6 = .ok (.istore 5, 2) := by decide +kernel
theorem dX10_one_8 : decode cX10_one 8 = .ok (.iload 5, 2) := by decide +kernel
theorem dX10_one_10 : decode cX10_one 10 = .ok (.iload_n 1, 1) := by decide +kernel
theorem dX10_one_11 : decode cX10_one 11 = .ok (.if_icmp .ne 5, 3) := by decide +kernel
theorem dX10_one_14 : decode cX10_one 14 = .ok (.iconst 0, 1) := by decide +kernel
theorem dX10_one_15 : decode cX10_one 15 = .ok (.ireturn, 1) := by decide +kernel
theorem dX10_one_16 : decode cX10_one 16 = .ok (.iload 5, 2) := by decide +kernel
theorem dX10_one_18 : decode cX10_one 18 = .ok (.ifCond .le 14, 3) := by decide +kernel
theorem dX10_one_21 : decode cX10_one 21 = .ok (.aload_n 0, 1) := by decide +kernel
theorem dX10_one_22 : decode cX10_one 22 = .ok (.getfield 7, 3) := by decide +kernel
theorem dX10_one_25 : decode cX10_one 25 = .ok (.iload_n 2, 1) := by decide +kernel
theorem dX10_one_26 : decode cX10_one 26 = .ok (.baload, 1) := by decide +kernel
theorem dX10_one_27 : decode cX10_one 27 = .ok (.ifCond .ne 5, 3) := by decide +kernel
theorem dX10_one_30 : decode cX10_one 30 = .ok (.iconst 4, 1) := by decide +kernel
theorem dX10_one_31 : decode cX10_one 31 = .ok (.ireturn, 1) := by decide +kernel
theorem dX10_one_32 : decode cX10_one 32 = .ok (.iload 4, 2) := by decide +kernel
theorem dX10_one_34 : decode cX10_one 34 = .ok (.ifCond .ne 5, 3) := by decide +kernel
theorem dX10_one_37 : decode cX10_one 37 = .ok (.iconst 0, 1) := by decide +kernel
theorem dX10_one_38 : decode cX10_one 38 = .ok (.ireturn, 1) := by decide +kernel
theorem dX10_one_39 : decode cX10_one 39 = .ok (.aload_n 0, 1) := by decide +kernel
theorem dX10_one_40 : decode cX10_one 40 = .ok (.iload_n 1, 1) := by decide +kernel
theorem dX10_one_41 : decode cX10_one 41 = .ok (.iload 5, 2) := by decide +kernel
theorem dX10_one_43 : decode cX10_one 43 = .ok (.ifCond .le 8, 3) := by decide +kernel
theorem dX10_one_46 : decode cX10_one 46 = .ok (.iload 5, 2) := by decide +kernel
theorem dX10_one_48 : decode cX10_one 48 = .ok (.goto 9, 3) := by decide +kernel
theorem dX10_one_51 : decode cX10_one 51 = .ok (.aload_n 0, 1) := by decide +kernel
theorem dX10_one_52 : decode cX10_one 52 = .ok (.iload_n 2, 1) := by decide +kernel
theorem dX10_one_53 : decode cX10_one 53 = .ok (.iload_n 3, 1) := by decide +kernel
theorem dX10_one_54 : decode cX10_one 54 = .ok (.invokevirtual 107, 3) := by decide +kernel
theorem dX10_one_57 : decode cX10_one 57 = .ok (.invokevirtual 144, 3) := by decide +kernel
theorem dX10_one_60 : decode cX10_one 60 = .ok (.iconst 0, 1) := by decide +kernel
theorem dX10_one_61 : decode cX10_one 61 = .ok (.ireturn, 1) := by decide +kernel
theorem dX10_copy_0 : decode cX10_copy 0 = .ok (.aload_n 0, 1) := by decide +kernel
theorem dX10_copy_1 : decode cX10_copy 1 = .ok (.iconst 0, 1) := by decide +kernel
theorem dX10_copy_2 : decode cX10_copy 2 = .ok (.putfield 84, 3) := by decide +kernel
theorem dX10_copy_5 : decode cX10_copy 5 = .ok (.aload_n 0, 1) := by decide +kernel
theorem dX10_copy_6 : decode cX10_copy 6 = .ok (.iload_n 1, 1) := by decide +kernel
theorem dX10_copy_7 : decode cX10_copy 7 = .ok (.invokevirtual 96, 3) := by decide +kernel
theorem dX10_copy_10 : decode cX10_copy 10 = .ok (.ifCond .eq 11, 3) := by decide +kernel
theorem dX10_copy_13 : decode cX10_copy 13 = .ok (.aload_n 0, 1) := by decide +kernel
theorem dX10_copy_14 : decode cX10_copy 14 = .ok (.iload_n 2, 1) := by decide +kernel
theorem dX10_copy_15 : decode cX10_copy 15 = .ok (.invokevirtual 96, 3) := by decide +kernel
theorem dX10_copy_18 : decode cX10_copy 18 = .ok (.ifCond .ne 6, 3) := by decide +kernel
theorem dX10_copy_21 : decode cX10_copy 21 = .ok (.bipush (-2), 2) := by decide +kernel
theorem dX10_copy_23 : decode cX10_copy 23 = .ok (.ireturn, 1) := by decide +kernel
theorem dX10_copy_24 : decode cX10_copy 24 = .ok (.iload_n 3, 1) := by decide +kernel
theorem dX10_copy_25 : decode cX10_copy 25 = .ok (.iconst (-1), 1) := by decide +kernel
theorem dX10_copy_26 : decode cX10_copy 26 = .ok (.if_icmp .eq 10, 3) := by decide +kernel
theorem dX10_copy_29 : decode cX10_copy 29 = .ok (.iload_n 3, 1) := by decide +kernel
theorem dX10_copy_30 : decode cX10_copy 30 = .ok (.invokestatic 100, 3) := by decide +kernel
theorem dX10_copy_33 : decode cX10_copy 33 = .ok (.ifCond .eq 17, 3) := by decide +kernel
theorem dX10_copy_36 : decode cX10_copy 36 = .ok (.iload 4, 2) := by decide +kernel
theorem dX10_copy_38 : decode cX10_copy 38 = .ok (.iconst (-1), 1) := by decide +kernel
theorem dX10_copy_39 : decode cX10_copy 39 = .ok (.if_icmp .eq 14, 3) := by decide +kernel
theorem dX10_copy_42 : decode cX10_copy 42 = .ok (.iload 4, 2) := by decide +kernel
theorem dX10_copy_44 : decode cX10_copy 44 = .ok (.invokestatic 100, 3) := by decide +kernel
theorem dX10_copy_47 : decode cX10_copy 47 = .ok (.ifCond .ne 6, 3) := by decide +kernel
theorem dX10_copy_50 : decode cX10_copy 50 = .ok (.bipush (-4), 2) := by decide +kernel
theorem dX10_copy_52 : decode cX10_copy 52 = .ok (.ireturn, 1) := by decide +kernel
theorem dX10_copy_53 : decode cX10_copy 53 = .ok (.iconst 0, 1) := by decide +kernel
theorem dX10_copy_54 : decode cX10_copy 54 = .ok (.istore 5, 2) := by decide +kernel
theorem dX10_copy_56 : decode cX10_copy 56 = .ok (.iconst 0, 1) := by decide +kernel
theorem dX10_copy_57 : decode cX10_copy 57 = .ok (.istore 6, 2) := by decide +kernel
theorem dX10_copy_59 : decode cX10_copy 59 = .ok (.iconst 0, 1) := by decide +kernel
theorem dX10_copy_60 : decode cX10_copy 60 = .ok (.istore 7, 2) := by decide +kernel
theorem dX10_copy_62 : decode cX10_copy 62 = .ok (.iconst 0, 1) := by decide +kernel
theorem dX10_copy_63 : decode cX10_copy 63 = .ok (.istore 8, 2) := by decide +kernel
theorem dX10_copy_65 : decode cX10_copy 65 = .ok (.iload 8, 2) := by decide +kernel
theorem dX10_copy_67 : decode cX10_copy 67 = .ok (.bipush 100, 2) := by decide +kernel
theorem dX10_copy_69 : decode cX10_copy 69 = .ok (.if_icmp .ge 107, 3) := by decide +kernel
theorem dX10_copy_72 : decode cX10_copy 72 = .ok (.iload_n 3, 1) := by decide +kernel
theorem dX10_copy_73 : decode cX10_copy 73 = .ok (.iconst (-1), 1) := by decide +kernel
theorem dX10_copy_74 : decode cX10_copy 74 = .ok (.if_icmp .eq 9, 3) := by decide +kernel
theorem dX10_copy_77 : decode cX10_copy 77 = .ok (.iload 8, 2) := by decide +kernel
theorem dX10_copy_79 : decode cX10_copy 79 = .ok (.iload_n 3, 1) := by decide +kernel
theorem dX10_copy_80 : decode cX10_copy 80 = .ok (.if_icmp .ne 13, 3) := by decide +kernel
theorem dX10_copy_83 : decode cX10_copy 83 = .ok (.aload_n 0, 1) := by decide +kernel
theorem dX10_copy_84 : decode cX10_copy 84 = .ok (.iload_n 1, 1) := by decide +kernel
theorem dX10_copy_85 : decode cX10_copy 85 = .ok (.iload 8, 2) := by decide +kernel
theorem dX10_copy_87 : decode cX10_copy 87 = .ok (.invokevirtual 103, 3) := by decide +kernel
theorem dX10_copy_90 : decode cX10_copy 90 = .ok (.goto 4, 3) := by decide +kernel
theorem dX10_copy_93 : decode cX10_copy 93 = .ok (.iconst 0, 1) := by decide +kernel
theorem dX10_copy_94 : decode cX10_copy 94 = .ok (.istore 9, 2) := by decide +kernel
theorem dX10_copy_96 : decode cX10_copy 96 = .ok (.iload 9, 2) := by decide +kernel
theorem dX10_copy_98 : decode cX10_copy 98 = .ok (.ifCond .ne 6, 3) := by decide +kernel
theorem dX10_copy_101 : decode cX10_copy 101 = .ok (.goto 69, 3) := by decide +kernel
theorem dX10_copy_104 : decode cX10_copy 104 = .ok (.iload 4, 2) := by decide +kernel
theorem dX10_copy_106 : decode cX10_copy 106 = .ok (.iconst (-1), 1) := by decide +kernel
theorem dX10_copy_107 : decode cX10_copy 107 = .ok (.if_icmp .ne 8, 3) := by decide +kernel
theorem dX10_copy_110 : decode cX10_copy 110 = .ok (.iload 8, 2) := by decide +kernel
theorem dX10_copy_112 : decode cX10_copy 112 = .ok (.goto 5, 3) := by decide +kernel
theorem dX10_copy_115 : decode cX10_copy 115 = .ok (.iload 4, 2) := by decide +kernel
theorem dX10_copy_117 : decode cX10_copy 117 = .ok (.istore 10, 2) := by decide +kernel
theorem dX10_copy_119 : decode cX10_copy 119 = .ok (.iinc 5 1, 3) := by decide +kernel
theorem dX10_copy_122 : decode cX10_copy 122 = .ok (.iload 6, 2) := by decide +kernel
theorem dX10_copy_124 : decode cX10_copy 124 = .ok (.aload_n 0, 1) := by decide +kernel
theorem dX10_copy_125 : decode cX10_copy 125 = .ok (.iload_n 2, 1) := by decide +kernel
theorem dX10_copy_126 : decode cX10_copy 126 = .ok (.iload 10, 2) := by decide +kernel
theorem dX10_copy_128 : decode cX10_copy 128 = .ok (.invokevirtual 103, 3) := by decide +kernel
theorem dX10_copy_131 : decode cX10_copy 131 = .ok (.ifCond .ne 7, 3) := by decide +kernel
theorem dX10_copy_134 : decode cX10_copy 134 = .ok (.iconst 1, 1) := by decide +kernel
theorem dX10_copy_135 : decode cX10_copy 135 = .ok (.goto 4, 3) := by decide +kernel
theorem dX10_copy_138 : decode cX10_copy 138 = .ok (.iconst 0, 1) := by decide +kernel
theorem dX10_copy_139 : decode cX10_copy 139 = .ok (.iadd, 1) := by decide +kernel
theorem dX10_copy_140 : decode cX10_copy 140 = .ok (.istore 6, 2) := by decide +kernel
theorem dX10_copy_142 : decode cX10_copy 142 = .ok (.aload_n 0, 1) := by decide +kernel
theorem dX10_copy_143 : decode cX10_copy 143 = .ok (.iload 9, 2) := by decide +kernel
theorem dX10_copy_145 : decode cX10_copy 145 = .ok (.iload_n 2, 1) := by decide +kernel
theorem dX10_copy_146 : decode cX10_copy 146 = .ok (.iload 10, 2) := by decide +kernel
theorem dX10_copy_148 : decode cX10_copy 148 = .ok (.iconst 0, 1) := by decide +kernel
theorem dX10_copy_149 : decode cX10_copy 149 = .ok (.invokevirtual 147, 3) := by decide +kernel
theorem dX10_copy_152 : decode cX10_copy 152 = .ok (.istore 11, 2) := by decide +kernel
theorem dX10_copy_154 : decode cX10_copy 154 = .ok (.iload 11, 2) := by decide +kernel
theorem dX10_copy_156 : decode cX10_copy 156 = .ok (.iload 7, 2) := by decide +kernel
theorem dX10_copy_158 : decode cX10_copy 158 = .ok (.if_icmp .le 8, 3) := by decide +kernel
theorem dX10_copy_161 : decode cX10_copy 161 = .ok (.iload 11, 2) := by decide +kernel
theorem dX10_copy_163 : decode cX10_copy 163 = .ok (.goto 5, 3) := by decide +kernel
theorem dX10_copy_166 : decode cX10_copy 166 = .ok (.iload 7, 2) := by decide +kernel
theorem dX10_copy_168 : decode cX10_copy 168 = .ok (.istore 7, 2) := by decide +kernel
theorem dX10_copy_170 : decode cX10_copy 170 = .ok (.iinc 8 1, 3) := by decide +kernel
theorem dX10_copy_173 : decode cX10_copy 173 = .ok (.goto (-108), 3) := by decide +kernel
theorem dX10_copy_176 : decode cX10_copy 176 = .ok (.iload 5, 2) := by decide +kernel
theorem dX10_copy_178 : decode cX10_copy 178 = .ok (.ifCond .eq 15, 3) := by decide +kernel
theorem dX10_copy_181 : decode cX10_copy 181 = .ok (.iload 5, 2) := by decide +kernel
theorem dX10_copy_183 : decode cX10_copy 183 = .ok (.iconst 1, 1) := by decide +kernel
theorem dX10_copy_184 : decode cX10_copy 184 = .ok (.if_icmp .le 16, 3) := by decide +kernel
theorem dX10_copy_187 : decode cX10_copy 187 = .ok (.iload 4, 2) := by decide +kernel
theorem dX10_copy_189 : decode cX10_copy 189 = .ok (.iconst (-1), 1) := by decide +kernel
theorem dX10_copy_190 : decode cX10_copy 190 = .ok (.if_icmp .eq 10, 3) := by decide +kernel
theorem dX10_copy_193 : decode cX10_copy 193 = .ok (.bipush 8, 2) := by decide +kernel
theorem dX10_copy_195 : decode cX10_copy 195 = .ok (.istore 7, 2) := by decide +kernel
theorem dX10_copy_197 : decode cX10_copy 197 = .ok (.goto 19, 3) := by decide +kernel
theorem dX10_copy_200 : decode cX10_copy 200 = .ok (.aload_n 0, 1) := by decide +kernel
theorem dX10_copy_201 : decode cX10_copy 201 = .ok (.getfield 90, 3) := by decide +kernel
theorem dX10_copy_204 : decode cX10_copy 204 = .ok (.iload 6, 2) := by decide +kernel
theorem dX10_copy_206 : decode cX10_copy 206 = .ok (.iadd, 1) := by decide +kernel
theorem dX10_copy_207 : decode cX10_copy 207 = .ok (.bipush 80, 2) := by decide +kernel
theorem dX10_copy_209 : decode cX10_copy 209 = .ok (.if_icmp .le 7, 3) := by decide +kernel
theorem dX10_copy_212 : decode cX10_copy 212 = .ok (.bipush 12, 2) := by decide +kernel
theorem dX10_copy_214 : decode cX10_copy 214 = .ok (.istore 7, 2) := by decide +kernel
theorem dX10_copy_216 : decode cX10_copy 216 = .ok (.aload_n 0, 1) := by decide +kernel
theorem dX10_copy_217 : decode cX10_copy 217 = .ok (.iload 7, 2) := by decide +kernel
theorem dX10_copy_219 : decode cX10_copy 219 = .ok (.invokevirtual 151, 3) := by decide +kernel
theorem dX10_copy_222 : decode cX10_copy 222 = .ok (.ifCond .eq 9, 3) := by decide +kernel
theorem dX10_copy_225 : decode cX10_copy 225 = .ok (.iload 7, 2) := by decide +kernel
theorem dX10_copy_227 : decode cX10_copy 227 = .ok (.iconst 4, 1) := by decide +kernel
theorem dX10_copy_228 : decode cX10_copy 228 = .ok (.if_icmp .le 6, 3) := by decide +kernel
theorem dX10_copy_231 : decode cX10_copy 231 = .ok (.iload 7, 2) := by decide +kernel
theorem dX10_copy_233 : decode cX10_copy 233 = .ok (.ireturn, 1) := by decide +kernel
theorem dX10_copy_234 : decode cX10_copy 234 = .ok (.aload_n 0, 1) := by decide +kernel
theorem dX10_copy_235 : decode cX10_copy 235 = .ok (.getfield 90, 3) := by decide +kernel
theorem dX10_copy_238 : decode cX10_copy 238 = .ok (.istore 8, 2) := by decide +kernel
theorem dX10_copy_240 : decode cX10_copy 240 = .ok (.iconst 0, 1) := by decide +kernel
theorem dX10_copy_241 : decode cX10_copy 241 = .ok (.istore 9, 2) := by decide +kernel
theorem dX10_copy_243 : decode cX10_copy 243 = .ok (.iload 9, 2) := by decide +kernel
theorem dX10_copy_245 : decode cX10_copy 245 = .ok (.bipush 100, 2) := by decide +kernel
theorem dX10_copy_247 : decode cX10_copy 247 = .ok (.if_icmp .ge 71, 3) := by decide +kernel
theorem dX10_copy_250 : decode cX10_copy 250 = .ok (.iload_n 3, 1) := by decide +kernel
theorem dX10_copy_251 : decode cX10_copy 251 = .ok (.iconst (-1), 1) := by decide +kernel
theorem dX10_copy_252 : decode cX10_copy 252 = .ok (.if_icmp .eq 9, 3) := by decide +kernel
theorem dX10_copy_255 : decode cX10_copy 255 = .ok (.iload 9, 2) := by decide +kernel
theorem dX10_copy_257 : decode cX10_copy 257 = .ok (.iload_n 3, 1) := by decide +kernel
theorem dX10_copy_258 : decode cX10_copy 258 = .ok (.if_icmp .ne 13, 3) := by decide +kernel
theorem dX10_copy_261 : decode cX10_copy 261 = .ok (.aload_n 0, 1) := by decide +kernel
theorem dX10_copy_262 : decode cX10_copy 262 = .ok (.iload_n 1, 1) := by decide +kernel
theorem dX10_copy_263 : decode cX10_copy 263 = .ok (.iload 9, 2) := by decide +kernel
theorem dX10_copy_265 : decode cX10_copy 265 = .ok (.invokevirtual 103, 3) := by decide +kernel
theorem dX10_copy_268 : decode cX10_copy 268 = .ok (.goto 4, 3) := by decide +kernel
theorem dX10_copy_271 : decode cX10_copy 271 = .ok (.iconst 0, 1) := by decide +kernel
theorem dX10_copy_272 : decode cX10_copy 272 = .ok (.istore 10, 2) := by decide +kernel
theorem dX10_copy_274 : decode cX10_copy 274 = .ok (.iload 10, 2) := by decide +kernel
theorem dX10_copy_276 : decode cX10_copy 276 = .ok (.ifCond .eq 36, 3) := by decide +kernel
theorem dX10_copy_279 : decode cX10_copy 279 = .ok (.iload 10, 2) := by decide +kernel
theorem dX10_copy_281 : decode cX10_copy 281 = .ok (.iload 8, 2) := by decide +kernel
theorem dX10_copy_283 : decode cX10_copy 283 = .ok (.if_icmp .le 6, 3) := by decide +kernel
theorem dX10_copy_286 : decode cX10_copy 286 = .ok (.goto 26, 3) := by decide +kernel
theorem dX10_copy_289 : decode cX10_copy 289 = .ok (.aload_n 0, 1) := by decide +kernel
theorem dX10_copy_290 : decode cX10_copy 290 = .ok (.iload 10, 2) := by decide +kernel
theorem dX10_copy_292 : decode cX10_copy 292 = .ok (.iload_n 2, 1) := by decide +kernel
theorem dX10_copy_293 : decode cX10_copy 293 = .ok (.iload 4, 2) := by decide +kernel
theorem dX10_copy_295 : decode cX10_copy 295 = .ok (.iconst (-1), 1) := by decide +kernel
theorem dX10_copy_296 : decode cX10_copy 296 = .ok (.if_icmp .ne 8, 3) := by decide +kernel
theorem dX10_copy_299 : decode cX10_copy 299 = .ok (.iload 9, 2) := by decide +kernel
theorem dX10_copy_301 : decode cX10_copy 301 = .ok (.goto 5, 3) := by decide +kernel
theorem dX10_copy_304 : decode cX10_copy 304 = .ok (.iload 4, 2) := by decide +kernel
theorem dX10_copy_306 : decode cX10_copy 306 = .ok (.iconst 1, 1) := by decide +kernel
theorem dX10_copy_307 : decode cX10_copy 307 = .ok (.invokevirtual 147, 3) := by decide +kernel
theorem dX10_copy_310 : decode cX10_copy 310 = .ok (.istore 11, 2) := by decide +kernel
theorem dX10_copy_312 : decode cX10_copy 312 = .ok (.iinc 9 1, 3) := by decide +kernel
theorem dX10_copy_315 : decode cX10_copy 315 = .ok (.goto (-72), 3) := by decide +kernel
theorem dX10_copy_318 : decode cX10_copy 318 = .ok (.iload 7, 2) := by decide +kernel
theorem dX10_copy_320 : decode cX10_copy 320 = .ok (.ireturn, 1) := by decide +kernel
theorem dX10_move_0 : decode cX10_move 0 = .ok (.aload_n 0, 1) := by decide +kernel
theorem dX10_move_1 : decode cX10_move 1 = .ok (.iconst 0, 1) := by decide +kernel
theorem dX10_move_2 : decode cX10_move 2 = .ok (.putfield 84, 3) := by decide +kernel
theorem dX10_move_5 : decode cX10_move 5 = .ok (.aload_n 0, 1) := by decide +kernel
theorem dX10_move_6 : decode cX10_move 6 = .ok (.iload_n 1, 1) := by decide +kernel
theorem dX10_move_7 : decode cX10_move 7 = .ok (.invokevirtual 96, 3) := by decide +kernel
theorem dX10_move_10 : decode cX10_move 10 = .ok (.ifCond .eq 11, 3) := by decide +kernel
theorem dX10_move_13 : decode cX10_move 13 = .ok (.aload_n 0, 1) := by decide +kernel
theorem dX10_move_14 : decode cX10_move 14 = .ok (.iload_n 2, 1) := by decide +kernel
theorem dX10_move_15 : decode cX10_move 15 = .ok (.invokevirtual 96, 3) := by decide +kernel
theorem dX10_move_18 : decode cX10_move 18 = .ok (.ifCond .ne 6, 3) := by decide +kernel
theorem dX10_move_21 : decode cX10_move 21 = .ok (.bipush (-2), 2) := by decide +kernel
theorem dX10_move_23 : decode cX10_move 23 = .ok (.ireturn, 1) := by decide +kernel
theorem dX10_move_24 : decode cX10_move 24 = .ok (.iload_n 3, 1) := by decide +kernel
theorem dX10_move_25 : decode cX10_move 25 = .ok (.invokestatic 100, 3) := by decide +kernel
theorem dX10_move_28 : decode cX10_move 28 = .ok (.ifCond .eq 17, 3) := by decide +kernel
theorem dX10_move_31 : decode cX10_move 31 = .ok (.iload 4, 2) := by decide +kernel
theorem dX10_move_33 : decode cX10_move 33 = .ok (.iconst (-1), 1) := by decide +kernel
theorem dX10_move_34 : decode cX10_move 34 = .ok (.if_icmp .eq 14, 3) := by decide +kernel
theorem dX10_move_37 : decode cX10_move 37 = .ok (.iload 4, 2) := by decide +kernel
theorem dX10_move_39 : decode cX10_move 39 = .ok (.invokestatic 100, 3) := by decide +kernel
theorem dX10_move_42 : decode cX10_move 42 = .ok (.ifCond .ne 6, 3) := by decide +kernel
theorem dX10_move_45 : decode cX10_move 45 = .ok (.bipush (-4), 2) := by decide +kernel
theorem dX10_move_47 : decode cX10_move 47 = .ok (.ireturn, 1) := by decide +kernel
theorem dX10_move_48 : decode cX10_move 48 = .ok (.aload_n 0, 1) := by decide +kernel
theorem dX10_move_49 : decode cX10_move 49 = .ok (.iload_n 1, 1) := by decide +kernel
theorem dX10_move_50 : decode cX10_move 50 = .ok (.iload_n 3, 1) := by decide +kernel
theorem dX10_move_51 : decode cX10_move 51 = .ok (.invokevirtual 103, 3) := by decide +kernel
theorem dX10_move_54 : decode cX10_move 54 = .ok (.istore 5, 2) := by decide +kernel
theorem dX10_move_56 : decode cX10_move 56 = .ok (.iload 4, 2) := by decide +kernel
theorem dX10_move_58 : decode cX10_move 58 = .ok (.iconst (-1), 1) := by decide +kernel
theorem dX10_move_59 : decode cX10_move 59 = .ok (.if_icmp .ne 7, 3) := by decide +kernel
theorem dX10_move_62 : decode cX10_move 62 = .ok (.iload_n 3, 1) := by decide +kernel
theorem dX10_move_63 : decode cX10_move 63 = .ok (.goto 5, 3) := by decide +kernel
theorem dX10_move_66 : decode cX10_move 66 = .ok (.iload 4, 2) := by decide +kernel
theorem dX10_move_68 : decode cX10_move 68 = .ok (.istore 6, 2) := by decide +kernel
theorem dX10_move_70 : decode cX10_move 70 = .ok (.iload 5, 2) := by decide +kernel
theorem dX10_move_72 : decode cX10_move 72 = .ok (.ifCond .ne 7, 3) := by decide +kernel
theorem dX10_move_75 : decode cX10_move 75 = .ok (.iconst 0, 1) := by decide +kernel
theorem dX10_move_76 : decode cX10_move 76 = .ok (.goto 10, 3) := by decide +kernel
theorem dX10_move_79 : decode cX10_move 79 = .ok (.aload_n 0, 1) := by decide +kernel
theorem dX10_move_80 : decode cX10_move 80 = .ok (.iload_n 2, 1) := by decide +kernel
theorem dX10_move_81 : decode cX10_move 81 = .ok (.iload 6, 2) := by decide +kernel
theorem dX10_move_83 : decode cX10_move 83 = .ok (.invokevirtual 103, 3) := by decide +kernel
theorem dX10_move_86 : decode cX10_move 86 = .ok (.istore 7, 2) := by decide +kernel
theorem dX10_move_88 : decode cX10_move 88 = .ok (.iload 5, 2) := by decide +kernel
theorem dX10_move_90 : decode cX10_move 90 = .ok (.ifCond .ne 8, 3) := by decide +kernel
theorem dX10_move_93 : decode cX10_move 93 = .ok (.bipush 8, 2) := by decide +kernel
theorem dX10_move_95 : decode cX10_move 95 = .ok (.goto 32, 3) := by decide +kernel
theorem dX10_move_98 : decode cX10_move 98 = .ok (.iload 7, 2) := by decide +kernel
theorem dX10_move_100 : decode cX10_move 100 = .ok (.ifCond .ne 17, 3) := by decide +kernel
theorem dX10_move_103 : decode cX10_move 103 = .ok (.aload_n 0, 1) := by decide +kernel
theorem dX10_move_104 : decode cX10_move 104 = .ok (.getfield 90, 3) := by decide +kernel
theorem dX10_move_107 : decode cX10_move 107 = .ok (.bipush 80, 2) := by decide +kernel
theorem dX10_move_109 : decode cX10_move 109 = .ok (.if_icmp .ne 8, 3) := by decide +kernel
theorem dX10_move_112 : decode cX10_move 112 = .ok (.bipush 12, 2) := by decide +kernel
theorem dX10_move_114 : decode cX10_move 114 = .ok (.goto 13, 3) := by decide +kernel
theorem dX10_move_117 : decode cX10_move 117 = .ok (.aload_n 0, 1) := by decide +kernel
theorem dX10_move_118 : decode cX10_move 118 = .ok (.iload 5, 2) := by decide +kernel
theorem dX10_move_120 : decode cX10_move 120 = .ok (.iload_n 2, 1) := by decide +kernel
theorem dX10_move_121 : decode cX10_move 121 = .ok (.iload 6, 2) := by decide +kernel
theorem dX10_move_123 : decode cX10_move 123 = .ok (.iconst 0, 1) := by decide +kernel
theorem dX10_move_124 : decode cX10_move 124 = .ok (.invokevirtual 147, 3) := by decide +kernel
theorem dX10_move_127 : decode cX10_move 127 = .ok (.istore 8, 2) := by decide +kernel
theorem dX10_move_129 : decode cX10_move 129 = .ok (.aload_n 0, 1) := by decide +kernel
theorem dX10_move_130 : decode cX10_move 130 = .ok (.iload 8, 2) := by decide +kernel
theorem dX10_move_132 : decode cX10_move 132 = .ok (.invokevirtual 151, 3) := by decide +kernel
theorem dX10_move_135 : decode cX10_move 135 = .ok (.ifCond .eq 15, 3) := by decide +kernel
theorem dX10_move_138 : decode cX10_move 138 = .ok (.iload 8, 2) := by decide +kernel
theorem dX10_move_140 : decode cX10_move 140 = .ok (.ifCond .gt 10, 3) := by decide +kernel
theorem dX10_move_143 : decode cX10_move 143 = .ok (.iload 7, 2) := by decide +kernel
theorem dX10_move_145 : decode cX10_move 145 = .ok (.iload 5, 2) := by decide +kernel
theorem dX10_move_147 : decode cX10_move 147 = .ok (.if_icmp .ne 6, 3) := by decide +kernel
theorem dX10_move_150 : decode cX10_move 150 = .ok (.iload 8, 2) := by decide +kernel
theorem dX10_move_152 : decode cX10_move 152 = .ok (.ireturn, 1) := by decide +kernel
theorem dX10_move_153 : decode cX10_move 153 = .ok (.aload_n 0, 1) := by decide +kernel
theorem dX10_move_154 : decode cX10_move 154 = .ok (.iload 5, 2) := by decide +kernel
theorem dX10_move_156 : decode cX10_move 156 = .ok (.iload_n 2, 1) := by decide +kernel
theorem dX10_move_157 : decode cX10_move 157 = .ok (.iload 6, 2) := by decide +kernel
theorem dX10_move_159 : decode cX10_move 159 = .ok (.iconst 1, 1) := by decide +kernel
theorem dX10_move_160 : decode cX10_move 160 = .ok (.invokevirtual 147, 3) := by decide +kernel
theorem dX10_move_163 : decode cX10_move 163 = .ok (.istore 9, 2) := by decide +kernel
theorem dX10_move_165 : decode cX10_move 165 = .ok (.aload_n 0, 1) := by decide +kernel
theorem dX10_move_166 : decode cX10_move 166 = .ok (.getfield 23, 3) := by decide +kernel
theorem dX10_move_169 : decode cX10_move 169 = .ok (.iload 5, 2) := by decide +kernel
theorem dX10_move_171 : decode cX10_move 171 = .ok (.iconst 1, 1) := by decide +kernel
theorem dX10_move_172 : decode cX10_move 172 = .ok (.bastore, 1) := by decide +kernel
theorem dX10_move_173 : decode cX10_move 173 = .ok (.iload 9, 2) := by decide +kernel
theorem dX10_move_175 : decode cX10_move 175 = .ok (.ireturn, 1) := by decide +kernel
theorem dX10_delete_0 : decode cX10_delete 0 = .ok (.aload_n 0, 1) := by decide +kernel
theorem dX10_delete_1 : decode cX10_delete 1 = .ok (.iconst 0, 1) := by decide +kernel
theorem dX10_delete_2 : decode cX10_delete 2 = .ok (.putfield 84, 3) := by decide +kernel
theorem dX10_delete_5 : decode cX10_delete 5 = .ok (.aload_n 0, 1) := by decide +kernel
theorem dX10_delete_6 : decode cX10_delete 6 = .ok (.iload_n 1, 1) := by decide +kernel
theorem dX10_delete_7 : decode cX10_delete 7 = .ok (.invokevirtual 154, 3) := by decide +kernel
theorem dX10_delete_10 : decode cX10_delete 10 = .ok (.ifCond .ne 6, 3) := by decide +kernel
theorem dX10_delete_13 : decode cX10_delete 13 = .ok (.bipush (-2), 2) := by decide +kernel
theorem dX10_delete_15 : decode cX10_delete 15 = .ok (.ireturn, 1) := by decide +kernel
theorem dX10_delete_16 : decode cX10_delete 16 = .ok (.aload_n 0, 1) := by decide +kernel
theorem dX10_delete_17 : decode cX10_delete 17 = .ok (.getfield 47, 3) := by decide +kernel
theorem dX10_delete_20 : decode cX10_delete 20 = .ok (.iload_n 1, 1) := by decide +kernel
theorem dX10_delete_21 : decode cX10_delete 21 = .ok (.baload, 1) := by decide +kernel
theorem dX10_delete_22 : decode cX10_delete 22 = .ok (.ifCond .eq 8, 3) := by decide +kernel
theorem dX10_delete_25 : decode cX10_delete 25 = .ok (.bipush 8, 2) := by decide +kernel
theorem dX10_delete_27 : decode cX10_delete 27 = .ok (.goto 4, 3) := by decide +kernel
theorem dX10_delete_30 : decode cX10_delete 30 = .ok (.iconst 0, 1) := by decide +kernel
theorem dX10_delete_31 : decode cX10_delete 31 = .ok (.istore_n 2, 1) := by decide +kernel
theorem dX10_delete_32 : decode cX10_delete 32 = .ok (.aload_n 0, 1) := by decide +kernel
theorem dX10_delete_33 : decode cX10_delete 33 = .ok (.iload_n 2, 1) := by decide +kernel
theorem dX10_delete_34 : decode cX10_delete 34 = .ok (.invokevirtual 151, 3) := by decide +kernel
theorem dX10_delete_37 : decode cX10_delete 37 = .ok (.ifCond .eq 14, 3) := by decide +kernel
theorem dX10_delete_40 : decode cX10_delete 40 = .ok (.iload_n 2, 1) := by decide +kernel
theorem dX10_delete_41 : decode cX10_delete 41 = .ok (.ifCond .ne 10, 3) := by decide +kernel
theorem dX10_delete_44 : decode cX10_delete 44 = .ok (.aload_n 0, 1) := by decide +kernel
theorem dX10_delete_45 : decode cX10_delete 45 = .ok (.getfield 50, 3) := by decide +kernel
theorem dX10_delete_48 : decode cX10_delete 48 = .ok (.iload_n 1, 1) := by decide +kernel
theorem dX10_delete_49 : decode cX10_delete 49 = .ok (.iconst 1, 1) := by decide +kernel
theorem dX10_delete_50 : decode cX10_delete 50 = .ok (.bastore, 1) := by decide +kernel
theorem dX10_delete_51 : decode cX10_delete 51 = .ok (.iload_n 2, 1) := by decide +kernel
theorem dX10_delete_52 : decode cX10_delete 52 = .ok (.ireturn, 1) := by decide +kernel
theorem dX10_alter_0 : decode cX10_alter 0 = .ok (.aload_n 0, 1) := by decide +kernel
theorem dX10_alter_1 : decode cX10_alter 1 = .ok (.iconst 0, 1) := by decide +kernel
theorem dX10_alter_2 : decode cX10_alter 2 = .ok (.putfield 84, 3) := by decide +kernel
theorem dX10_alter_5 : decode cX10_alter 5 = .ok (.aload_n 0, 1) := by decide +kernel
theorem dX10_alter_6 : decode cX10_alter 6 = .ok (.iload_n 1, 1) := by decide +kernel
theorem dX10_alter_7 : decode cX10_alter 7 = .ok (.invokevirtual 154, 3) := by decide +kernel
theorem dX10_alter_10 : decode cX10_alter 10 = .ok (.ifCond .ne 6, 3) := by decide +kernel
theorem dX10_alter_13 : decode cX10_alter 13 = .ok (.bipush (-2), 2) := by decide +kernel
theorem dX10_alter_15 : decode cX10_alter 15 = .ok (.ireturn, 1) := by decide +kernel
theorem dX10_alter_16 : decode cX10_alter 16 = .ok (.iload_n 2, 1) := by decide +kernel
theorem dX10_alter_17 : decode cX10_alter 17 = .ok (.invokestatic 100, 3) := by decide +kernel
theorem dX10_alter_20 : decode cX10_alter 20 = .ok (.ifCond .ne 6, 3) := by decide +kernel
theorem dX10_alter_23 : decode cX10_alter 23 = .ok (.bipush (-4), 2) := by decide +kernel
theorem dX10_alter_25 : decode cX10_alter 25 = .ok (.ireturn, 1) := by decide +kernel
theorem dX10_alter_26 : decode cX10_alter 26 = .ok (.aload_n 0, 1) := by decide +kernel
theorem dX10_alter_27 : decode cX10_alter 27 = .ok (.iload_n 2, 1) := by decide +kernel
theorem dX10_alter_28 : decode cX10_alter 28 = .ok (.invokevirtual 157, 3) := by decide +kernel
theorem dX10_alter_31 : decode cX10_alter 31 = .ok (.istore_n 3, 1) := by decide +kernel
theorem dX10_alter_32 : decode cX10_alter 32 = .ok (.iload_n 3, 1) := by decide +kernel
theorem dX10_alter_33 : decode cX10_alter 33 = .ok (.iload_n 1, 1) := by decide +kernel
theorem dX10_alter_34 : decode cX10_alter 34 = .ok (.if_icmp .ne 7, 3) := by decide +kernel
theorem dX10_alter_37 : decode cX10_alter 37 = .ok (.iconst 4, 1) := by decide +kernel
theorem dX10_alter_38 : decode cX10_alter 38 = .ok (.goto 13, 3) := by decide +kernel
theorem dX10_alter_41 : decode cX10_alter 41 = .ok (.iload_n 3, 1) := by decide +kernel
theorem dX10_alter_42 : decode cX10_alter 42 = .ok (.ifCond .le 8, 3) := by decide +kernel
theorem dX10_alter_45 : decode cX10_alter 45 = .ok (.bipush 8, 2) := by decide +kernel
theorem dX10_alter_47 : decode cX10_alter 47 = .ok (.goto 4, 3) := by decide +kernel
theorem dX10_alter_50 : decode cX10_alter 50 = .ok (.iconst 0, 1) := by decide +kernel
theorem dX10_alter_51 : decode cX10_alter 51 = .ok (.istore 4, 2) := by decide +kernel
theorem dX10_alter_53 : decode cX10_alter 53 = .ok (.aload_n 0, 1) := by decide +kernel
theorem dX10_alter_54 : decode cX10_alter 54 = .ok (.iload 4, 2) := by decide +kernel
theorem dX10_alter_56 : decode cX10_alter 56 = .ok (.invokevirtual 151, 3) := by decide +kernel
theorem dX10_alter_59 : decode cX10_alter 59 = .ok (.ifCond .eq 15, 3) := by decide +kernel
theorem dX10_alter_62 : decode cX10_alter 62 = .ok (.iload 4, 2) := by decide +kernel
theorem dX10_alter_64 : decode cX10_alter 64 = .ok (.ifCond .ne 10, 3) := by decide +kernel
theorem dX10_alter_67 : decode cX10_alter 67 = .ok (.aload_n 0, 1) := by decide +kernel
theorem dX10_alter_68 : decode cX10_alter 68 = .ok (.getfield 35, 3) := by decide +kernel
theorem dX10_alter_71 : decode cX10_alter 71 = .ok (.iload_n 1, 1) := by decide +kernel
theorem dX10_alter_72 : decode cX10_alter 72 = .ok (.iload_n 2, 1) := by decide +kernel
theorem dX10_alter_73 : decode cX10_alter 73 = .ok (.iastore, 1) := by decide +kernel
theorem dX10_alter_74 : decode cX10_alter 74 = .ok (.iload 4, 2) := by decide +kernel
theorem dX10_alter_76 : decode cX10_alter 76 = .ok (.ireturn, 1) := by decide +kernel
theorem dX10_append_0 : decode cX10_append 0 = .ok (.aload_n 0, 1) := by decide +kernel
theorem dX10_append_1 : decode cX10_append 1 = .ok (.getfield 44, 3) := by decide +kernel
theorem dX10_append_4 : decode cX10_append 4 = .ok (.bipush 60, 2) := by decide +kernel
theorem dX10_append_6 : decode cX10_append 6 = .ok (.iload_n 1, 1) := by decide +kernel
theorem dX10_append_7 : decode cX10_append 7 = .ok (.imul, 1) := by decide +kernel
theorem dX10_append_8 : decode cX10_append 8 = .ok (.aload_n 0, 1) := by decide +kernel
theorem dX10_append_9 : decode cX10_append 9 = .ok (.getfield 41, 3) := by decide +kernel
theorem dX10_append_12 : decode cX10_append 12 = .ok (.iload_n 1, 1) := by decide +kernel
theorem dX10_append_13 : decode cX10_append 13 = .ok (.iaload, 1) := by decide +kernel
theorem dX10_append_14 : decode cX10_append 14 = .ok (.iadd, 1) := by decide +kernel
theorem dX10_append_15 : decode cX10_append 15 = .ok (.iload_n 2, 1) := by decide +kernel
theorem dX10_append_16 : decode cX10_append 16 = .ok (.iastore, 1) := by decide +kernel
theorem dX10_append_17 : decode cX10_append 17 = .ok (.aload_n 0, 1) := by decide +kernel
theorem dX10_append_18 : decode cX10_append 18 = .ok (.getfield 41, 3) := by decide +kernel
theorem dX10_append_21 : decode cX10_append 21 = .ok (.iload_n 1, 1) := by decide +kernel
theorem dX10_append_22 : decode cX10_append 22 = .ok (.dup2, 1) := by decide +kernel
theorem dX10_append_23 : decode cX10_append 23 = .ok (.iaload, 1) := by decide +kernel
theorem dX10_append_24 : decode cX10_append 24 = .ok (.iconst 1, 1) := by decide +kernel
theorem dX10_append_25 : decode cX10_append 25 = .ok (.iadd, 1) := by decide +kernel
theorem dX10_append_26 : decode cX10_append 26 = .ok (.iastore, 1) := by decide +kernel
theorem dX10_append_27 : decode cX10_append 27 = .ok (.aload_n 0, 1) := by decide +kernel
theorem dX10_append_28 : decode cX10_append 28 = .ok (.getfield 38, 3) := by decide +kernel
theorem dX10_append_31 : decode cX10_append 31 = .ok (.iload_n 1, 1) := by decide +kernel
theorem dX10_append_32 : decode cX10_append 32 = .ok (.aload_n 0, 1) := by decide +kernel
theorem dX10_append_33 : decode cX10_append 33 = .ok (.getfield 41, 3) := by decide +kernel
theorem dX10_append_36 : decode cX10_append 36 = .ok (.iload_n 1, 1) := by decide +kernel
theorem dX10_append_37 : decode cX10_append 37 = .ok (.iaload, 1) := by decide +kernel
theorem dX10_append_38 : decode cX10_append 38 = .ok (.iastore, 1) := by decide +kernel
theorem dX10_append_39 : decode cX10_append 39 = .ok (.return_, 1) := by decide +kernel
theorem dX10_repro_0 : decode cX10_repro 0 = .ok (.aload_n 0, 1) := by decide +kernel
theorem dX10_repro_1 : decode cX10_repro 1 = .ok (.iconst 0, 1) := by decide +kernel
theorem dX10_repro_2 : decode cX10_repro 2 = .ok (.putfield 84, 3) := by decide +kernel
theorem dX10_repro_5 : decode cX10_repro 5 = .ok (.aload_n 0, 1) := by decide +kernel
theorem dX10_repro_6 : decode cX10_repro 6 = .ok (.iload_n 1, 1) := by decide +kernel
theorem dX10_repro_7 : decode cX10_repro 7 = .ok (.invokevirtual 154, 3) := by decide +kernel
theorem dX10_repro_10 : decode cX10_repro 10 = .ok (.ifCond .eq 11, 3) := by decide +kernel
theorem dX10_repro_13 : decode cX10_repro 13 = .ok (.aload_n 0, 1) := by decide +kernel
theorem dX10_repro_14 : decode cX10_repro 14 = .ok (.iload_n 2, 1) := by decide +kernel
theorem dX10_repro_15 : decode cX10_repro 15 = .ok (.invokevirtual 154, 3) := by decide +kernel
theorem dX10_repro_18 : decode cX10_repro 18 = .ok (.ifCond .ne 6, 3) := by decide +kernel
theorem dX10_repro_21 : decode cX10_repro 21 = .ok (.bipush (-2), 2) := by decide +kernel
theorem dX10_repro_23 : decode cX10_repro 23 = .ok (.ireturn, 1) := by decide +kernel
theorem dX10_repro_24 : decode cX10_repro 24 = .ok (.aload_n 0, 1) := by decide +kernel
theorem dX10_repro_25 : decode cX10_repro 25 = .ok (.getfield 41, 3) := by decide +kernel
theorem dX10_repro_28 : decode cX10_repro 28 = .ok (.iload_n 1, 1) := by decide +kernel
theorem dX10_repro_29 : decode cX10_repro 29 = .ok (.iaload, 1) := by decide +kernel
theorem dX10_repro_30 : decode cX10_repro 30 = .ok (.istore_n 3, 1) := by decide +kernel
theorem dX10_repro_31 : decode cX10_repro 31 = .ok (.iload_n 1, 1) := by decide +kernel
theorem dX10_repro_32 : decode cX10_repro 32 = .ok (.iload_n 2, 1) := by decide +kernel
theorem dX10_repro_33 : decode cX10_repro 33 = .ok (.if_icmp .ne 8, 3) := by decide +kernel
theorem dX10_repro_36 : decode cX10_repro 36 = .ok (.bipush 8, 2) := by decide +kernel
theorem dX10_repro_38 : decode cX10_repro 38 = .ok (.goto 30, 3) := by decide +kernel
theorem dX10_repro_41 : decode cX10_repro 41 = .ok (.iload_n 3, 1) := by decide +kernel
theorem dX10_repro_42 : decode cX10_repro 42 = .ok (.aload_n 0, 1) := by decide +kernel
theorem dX10_repro_43 : decode cX10_repro 43 = .ok (.getfield 41, 3) := by decide +kernel
theorem dX10_repro_46 : decode cX10_repro 46 = .ok (.iload_n 2, 1) := by decide +kernel
theorem dX10_repro_47 : decode cX10_repro 47 = .ok (.iaload, 1) := by decide +kernel
theorem dX10_repro_48 : decode cX10_repro 48 = .ok (.iadd, 1) := by decide +kernel
theorem dX10_repro_49 : decode cX10_repro 49 = .ok (.bipush 60, 2) := by decide +kernel
theorem dX10_repro_51 : decode cX10_repro 51 = .ok (.if_icmp .le 8, 3) := by decide +kernel
theorem dX10_repro_54 : decode cX10_repro 54 = .ok (.bipush 12, 2) := by decide +kernel
theorem dX10_repro_56 : decode cX10_repro 56 = .ok (.goto 12, 3) := by decide +kernel
theorem dX10_repro_59 : decode cX10_repro 59 = .ok (.iload_n 3, 1) := by decide +kernel
theorem dX10_repro_60 : decode cX10_repro 60 = .ok (.ifCond .ne 7, 3) := by decide +kernel
theorem dX10_repro_63 : decode cX10_repro 63 = .ok (.iconst 4, 1) := by decide +kernel
theorem dX10_repro_64 : decode cX10_repro 64 = .ok (.goto 4, 3) := by decide +kernel
theorem dX10_repro_67 : decode cX10_repro 67 = .ok (.iconst 0, 1) := by decide +kernel
theorem dX10_repro_68 : decode cX10_repro 68 = .ok (.istore 4, 2) := by decide +kernel
theorem dX10_repro_70 : decode cX10_repro 70 = .ok (.aload_n 0, 1) := by decide +kernel
theorem dX10_repro_71 : decode cX10_repro 71 = .ok (.iload 4, 2) := by decide +kernel
theorem dX10_repro_73 : decode cX10_repro 73 = .ok (.invokevirtual 151, 3) := by decide +kernel
theorem dX10_repro_76 : decode cX10_repro 76 = .ok (.ifCond .eq 8, 3) := by decide +kernel
theorem dX10_repro_79 : decode cX10_repro 79 = .ok (.iload 4, 2) := by decide +kernel
theorem dX10_repro_81 : decode cX10_repro 81 = .ok (.ifCond .le 6, 3) := by decide +kernel
theorem dX10_repro_84 : decode cX10_repro 84 = .ok (.iload 4, 2) := by decide +kernel
theorem dX10_repro_86 : decode cX10_repro 86 = .ok (.ireturn, 1) := by decide +kernel
theorem dX10_repro_87 : decode cX10_repro 87 = .ok (.iconst 0, 1) := by decide +kernel
theorem dX10_repro_88 : decode cX10_repro 88 = .ok (.istore 5, 2) := by decide +kernel
theorem dX10_repro_90 : decode cX10_repro 90 = .ok (.iload 5, 2) := by decide +kernel
theorem dX10_repro_92 : decode cX10_repro 92 = .ok (.iload_n 3, 1) := by decide +kernel
theorem dX10_repro_93 : decode cX10_repro 93 = .ok (.if_icmp .ge 26, 3) := by decide +kernel
theorem dX10_repro_96 : decode cX10_repro 96 = .ok (.aload_n 0, 1) := by decide +kernel
theorem dX10_repro_97 : decode cX10_repro 97 = .ok (.iload_n 2, 1) := by decide +kernel
theorem dX10_repro_98 : decode cX10_repro 98 = .ok (.aload_n 0, 1) := by decide +kernel
theorem dX10_repro_99 : decode cX10_repro 99 = .ok (.getfield 44, 3) := by decide +kernel
theorem dX10_repro_102 : decode cX10_repro 102 = .ok (.bipush 60, 2) := by decide +kernel
theorem dX10_repro_104 : decode cX10_repro 104 = .ok (.iload_n 1, 1) := by decide +kernel
theorem dX10_repro_105 : decode cX10_repro 105 = .ok (.imul, 1) := by decide +kernel
theorem dX10_repro_106 : decode cX10_repro 106 = .ok (.iload 5, 2) := by decide +kernel
theorem dX10_repro_108 : decode cX10_repro 108 = .ok (.iadd, 1) := by decide +kernel
theorem dX10_repro_109 : decode cX10_repro 109 = .ok (.iaload, 1) := by decide +kernel
theorem dX10_repro_110 : decode cX10_repro 110 = .ok (.invokevirtual 161, 3) := by decide +kernel
theorem dX10_repro_113 : decode cX10_repro 113 = .ok (.iinc 5 1, 3) := by decide +kernel
theorem dX10_repro_116 : decode cX10_repro 116 = .ok (.goto (-26), 3) := by decide +kernel
theorem dX10_repro_119 : decode cX10_repro 119 = .ok (.iload 4, 2) := by decide +kernel
theorem dX10_repro_121 : decode cX10_repro 121 = .ok (.ireturn, 1) := by decide +kernel
theorem dX10_generate_0 : decode cX10_generate 0 = .ok (.aload_n 0, 1) := by decide +kernel
theorem dX10_generate_1 : decode cX10_generate 1 = .ok (.iconst 0, 1) := by decide +kernel
theorem dX10_generate_2 : decode cX10_generate 2 = .ok (.putfield 84, 3) := by decide +kernel
theorem dX10_generate_5 : decode cX10_generate 5 = .ok (.aload_n 0, 1) := by decide +kernel
theorem dX10_generate_6 : decode cX10_generate 6 = .ok (.iload_n 1, 1) := by decide +kernel
theorem dX10_generate_7 : decode cX10_generate 7 = .ok (.invokevirtual 154, 3) := by decide +kernel
theorem dX10_generate_10 : decode cX10_generate 10 = .ok (.ifCond .ne 6, 3) := by decide +kernel
theorem dX10_generate_13 : decode cX10_generate 13 = .ok (.bipush (-2), 2) := by decide +kernel
theorem dX10_generate_15 : decode cX10_generate 15 = .ok (.ireturn, 1) := by decide +kernel
theorem dX10_generate_16 : decode cX10_generate 16 = .ok (.iload_n 2, 1) := by decide +kernel
theorem dX10_generate_17 : decode cX10_generate 17 = .ok (.iconst 1, 1) := by decide +kernel
theorem dX10_generate_18 : decode cX10_generate 18 = .ok (.if_icmp .lt 9, 3) := by decide +kernel
theorem dX10_generate_21 : decode cX10_generate 21 = .ok (.iload_n 2, 1) := by decide +kernel
theorem dX10_generate_22 : decode cX10_generate 22 = .ok (.bipush 60, 2) := by decide +kernel
theorem dX10_generate_24 : decode cX10_generate 24 = .ok (.if_icmp .le 6, 3) := by decide +kernel
theorem dX10_generate_27 : decode cX10_generate 27 = .ok (.bipush (-4), 2) := by decide +kernel
theorem dX10_generate_29 : decode cX10_generate 29 = .ok (.ireturn, 1) := by decide +kernel
theorem dX10_generate_30 : decode cX10_generate 30 = .ok (.aload_n 0, 1) := by decide +kernel
theorem dX10_generate_31 : decode cX10_generate 31 = .ok (.getfield 41, 3) := by decide +kernel
theorem dX10_generate_34 : decode cX10_generate 34 = .ok (.iload_n 1, 1) := by decide +kernel
theorem dX10_generate_35 : decode cX10_generate 35 = .ok (.iaload, 1) := by decide +kernel
theorem dX10_generate_36 : decode cX10_generate 36 = .ok (.iload_n 2, 1) := by decide +kernel
theorem dX10_generate_37 : decode cX10_generate 37 = .ok (.iadd, 1) := by decide +kernel
theorem dX10_generate_38 : decode cX10_generate 38 = .ok (.bipush 60, 2) := by decide +kernel
theorem dX10_generate_40 : decode cX10_generate 40 = .ok (.if_icmp .le 8, 3) := by decide +kernel
theorem dX10_generate_43 : decode cX10_generate 43 = .ok (.bipush 12, 2) := by decide +kernel
theorem dX10_generate_45 : decode cX10_generate 45 = .ok (.goto 4, 3) := by decide +kernel
theorem dX10_generate_48 : decode cX10_generate 48 = .ok (.iconst 0, 1) := by decide +kernel
theorem dX10_generate_49 : decode cX10_generate 49 = .ok (.istore 5, 2) := by decide +kernel
theorem dX10_generate_51 : decode cX10_generate 51 = .ok (.aload_n 0, 1) := by decide +kernel
theorem dX10_generate_52 : decode cX10_generate 52 = .ok (.iload 5, 2) := by decide +kernel
theorem dX10_generate_54 : decode cX10_generate 54 = .ok (.invokevirtual 151, 3) := by decide +kernel
theorem dX10_generate_57 : decode cX10_generate 57 = .ok (.ifCond .eq 8, 3) := by decide +kernel
theorem dX10_generate_60 : decode cX10_generate 60 = .ok (.iload 5, 2) := by decide +kernel
theorem dX10_generate_62 : decode cX10_generate 62 = .ok (.ifCond .le 6, 3) := by decide +kernel
theorem dX10_generate_65 : decode cX10_generate 65 = .ok (.iload 5, 2) := by decide +kernel
theorem dX10_generate_67 : decode cX10_generate 67 = .ok (.ireturn, 1) := by decide +kernel
theorem dX10_generate_68 : decode cX10_generate 68 = .ok (.iload_n 3, 1) := by decide +kernel
theorem dX10_generate_69 : decode cX10_generate 69 = .ok (.istore 6, 2) := by decide +kernel
theorem dX10_generate_71 : decode cX10_generate 71 = .ok (.iconst 0, 1) := by decide +kernel
theorem dX10_generate_72 : decode cX10_generate 72 = .ok (.istore 7, 2) := by decide +kernel
theorem dX10_generate_74 : decode cX10_generate 74 = .ok (.iload 7, 2) := by decide +kernel
theorem dX10_generate_76 : decode cX10_generate 76 = .ok (.iload_n 2, 1) := by decide +kernel
theorem dX10_generate_77 : decode cX10_generate 77 = .ok (.if_icmp .ge 23, 3) := by decide +kernel
theorem dX10_generate_80 : decode cX10_generate 80 = .ok (.aload_n 0, 1) := by decide +kernel
theorem dX10_generate_81 : decode cX10_generate 81 = .ok (.iload_n 1, 1) := by decide +kernel
theorem dX10_generate_82 : decode cX10_generate 82 = .ok (.iload 6, 2) := by decide +kernel
theorem dX10_generate_84 : decode cX10_generate 84 = .ok (.invokevirtual 161, 3) := by decide +kernel
theorem dX10_generate_87 : decode cX10_generate 87 = .ok (.iload 6, 2) := by decide +kernel
theorem dX10_generate_89 : decode cX10_generate 89 = .ok (.iload 4, 2) := by decide +kernel
theorem dX10_generate_91 : decode cX10_generate 91 = .ok (.iadd, 1) := by decide +kernel
theorem dX10_generate_92 : decode cX10_generate 92 = .ok (.istore 6, 2) := by decide +kernel
theorem dX10_generate_94 : decode cX10_generate 94 = .ok (.iinc 7 1, 3) := by decide +kernel
theorem dX10_generate_97 : decode cX10_generate 97 = .ok (.goto (-23), 3) := by decide +kernel
theorem dX10_generate_100 : decode cX10_generate 100 = .ok (.iload 5, 2) := by decide +kernel
theorem dX10_generate_102 : decode cX10_generate 102 = .ok (.ireturn, 1) := by decide +kernel
theorem dX10_verify_0 : decode cX10_verify 0 = .ok (.aload_n 0, 1) := by decide +kernel
theorem dX10_verify_1 : decode cX10_verify 1 = .ok (.iconst 0, 1) := by decide +kernel
theorem dX10_verify_2 : decode cX10_verify 2 = .ok (.putfield 84, 3) := by decide +kernel
theorem dX10_verify_5 : decode cX10_verify 5 = .ok (.aload_n 0, 1) := by decide +kernel
theorem dX10_verify_6 : decode cX10_verify 6 = .ok (.iload_n 1, 1) := by decide +kernel
theorem dX10_verify_7 : decode cX10_verify 7 = .ok (.invokevirtual 154, 3) := by decide +kernel
theorem dX10_verify_10 : decode cX10_verify 10 = .ok (.ifCond .ne 6, 3) := by decide +kernel
theorem dX10_verify_13 : decode cX10_verify 13 = .ok (.bipush (-2), 2) := by decide +kernel
theorem dX10_verify_15 : decode cX10_verify 15 = .ok (.ireturn, 1) := by decide +kernel
theorem dX10_verify_16 : decode cX10_verify 16 = .ok (.aload_n 0, 1) := by decide +kernel
theorem dX10_verify_17 : decode cX10_verify 17 = .ok (.getfield 41, 3) := by decide +kernel
theorem dX10_verify_20 : decode cX10_verify 20 = .ok (.iload_n 1, 1) := by decide +kernel
theorem dX10_verify_21 : decode cX10_verify 21 = .ok (.iaload, 1) := by decide +kernel
theorem dX10_verify_22 : decode cX10_verify 22 = .ok (.aload_n 0, 1) := by decide +kernel
theorem dX10_verify_23 : decode cX10_verify 23 = .ok (.getfield 38, 3) := by decide +kernel
theorem dX10_verify_26 : decode cX10_verify 26 = .ok (.iload_n 1, 1) := by decide +kernel
theorem dX10_verify_27 : decode cX10_verify 27 = .ok (.iaload, 1) := by decide +kernel
theorem dX10_verify_28 : decode cX10_verify 28 = .ok (.if_icmp .ne 7, 3) := by decide +kernel
theorem dX10_verify_31 : decode cX10_verify 31 = .ok (.iconst 4, 1) := by decide +kernel
theorem dX10_verify_32 : decode cX10_verify 32 = .ok (.goto 4, 3) := by decide +kernel
theorem dX10_verify_35 : decode cX10_verify 35 = .ok (.iconst 0, 1) := by decide +kernel
theorem dX10_verify_36 : decode cX10_verify 36 = .ok (.istore_n 2, 1) := by decide +kernel
theorem dX10_verify_37 : decode cX10_verify 37 = .ok (.aload_n 0, 1) := by decide +kernel
theorem dX10_verify_38 : decode cX10_verify 38 = .ok (.iload_n 2, 1) := by decide +kernel
theorem dX10_verify_39 : decode cX10_verify 39 = .ok (.invokevirtual 151, 3) := by decide +kernel
theorem dX10_verify_42 : decode cX10_verify 42 = .ok (.ifCond .eq 15, 3) := by decide +kernel
theorem dX10_verify_45 : decode cX10_verify 45 = .ok (.aload_n 0, 1) := by decide +kernel
theorem dX10_verify_46 : decode cX10_verify 46 = .ok (.getfield 41, 3) := by decide +kernel
theorem dX10_verify_49 : decode cX10_verify 49 = .ok (.iload_n 1, 1) := by decide +kernel
theorem dX10_verify_50 : decode cX10_verify 50 = .ok (.aload_n 0, 1) := by decide +kernel
theorem dX10_verify_51 : decode cX10_verify 51 = .ok (.getfield 38, 3) := by decide +kernel
theorem dX10_verify_54 : decode cX10_verify 54 = .ok (.iload_n 1, 1) := by decide +kernel
theorem dX10_verify_55 : decode cX10_verify 55 = .ok (.iaload, 1) := by decide +kernel
theorem dX10_verify_56 : decode cX10_verify 56 = .ok (.iastore, 1) := by decide +kernel
theorem dX10_verify_57 : decode cX10_verify 57 = .ok (.iload_n 2, 1) := by decide +kernel
theorem dX10_verify_58 : decode cX10_verify 58 = .ok (.ireturn, 1) := by decide +kernel
theorem dX10_alike_0 : decode cX10_alike 0 = .ok (.aload_n 0, 1) := by decide +kernel
theorem dX10_alike_1 : decode cX10_alike 1 = .ok (.getfield 29, 3) := by decide +kernel
theorem dX10_alike_4 : decode cX10_alike 4 = .ok (.iload_n 1, 1) := by decide +kernel
theorem dX10_alike_5 : decode cX10_alike 5 = .ok (.iaload, 1) := by decide +kernel
theorem dX10_alike_6 : decode cX10_alike 6 = .ok (.aload_n 0, 1) := by decide +kernel
theorem dX10_alike_7 : decode cX10_alike 7 = .ok (.getfield 29, 3) := by decide +kernel
theorem dX10_alike_10 : decode cX10_alike 10 = .ok (.iload_n 2, 1) := by decide +kernel
theorem dX10_alike_11 : decode cX10_alike 11 = .ok (.iaload, 1) := by decide +kernel
theorem dX10_alike_12 : decode cX10_alike 12 = .ok (.if_icmp .ne 7, 3) := by decide +kernel
theorem dX10_alike_15 : decode cX10_alike 15 = .ok (.iconst 1, 1) := by decide +kernel
theorem dX10_alike_16 : decode cX10_alike 16 = .ok (.goto 4, 3) := by decide +kernel
theorem dX10_alike_19 : decode cX10_alike 19 = .ok (.iconst 0, 1) := by decide +kernel
theorem dX10_alike_20 : decode cX10_alike 20 = .ok (.istore_n 3, 1) := by decide +kernel
theorem dX10_alike_21 : decode cX10_alike 21 = .ok (.iconst 0, 1) := by decide +kernel
theorem dX10_alike_22 : decode cX10_alike 22 = .ok (.istore 4, 2) := by decide +kernel
theorem dX10_alike_24 : decode cX10_alike 24 = .ok (.iload 4, 2) := by decide +kernel
theorem dX10_alike_26 : decode cX10_alike 26 = .ok (.aload_n 0, 1) := by decide +kernel
theorem dX10_alike_27 : decode cX10_alike 27 = .ok (.getfield 29, 3) := by decide +kernel
theorem dX10_alike_30 : decode cX10_alike 30 = .ok (.iload_n 1, 1) := by decide +kernel
theorem dX10_alike_31 : decode cX10_alike 31 = .ok (.iaload, 1) := by decide +kernel
theorem dX10_alike_32 : decode cX10_alike 32 = .ok (.if_icmp .ge 46, 3) := by decide +kernel
theorem dX10_alike_35 : decode cX10_alike 35 = .ok (.iload_n 3, 1) := by decide +kernel
theorem dX10_alike_36 : decode cX10_alike 36 = .ok (.ifCond .eq 42, 3) := by decide +kernel
theorem dX10_alike_39 : decode cX10_alike 39 = .ok (.aload_n 0, 1) := by decide +kernel
theorem dX10_alike_40 : decode cX10_alike 40 = .ok (.getfield 32, 3) := by decide +kernel
theorem dX10_alike_43 : decode cX10_alike 43 = .ok (.bipush 10, 2) := by decide +kernel
theorem dX10_alike_45 : decode cX10_alike 45 = .ok (.iload_n 1, 1) := by decide +kernel
theorem dX10_alike_46 : decode cX10_alike 46 = .ok (.imul, 1) := by decide +kernel
theorem dX10_alike_47 : decode cX10_alike 47 = .ok (.iload 4, 2) := by decide +kernel
theorem dX10_alike_49 : decode cX10_alike 49 = .ok (.iadd, 1) := by decide +kernel
theorem dX10_alike_50 : decode cX10_alike 50 = .ok (.iaload, 1) := by decide +kernel
theorem dX10_alike_51 : decode cX10_alike 51 = .ok (.aload_n 0, 1) := by decide +kernel
theorem dX10_alike_52 : decode cX10_alike 52 = .ok (.getfield 32, 3) := by decide +kernel
theorem dX10_alike_55 : decode cX10_alike 55 = .ok (.bipush 10, 2) := by decide +kernel
theorem dX10_alike_57 : decode cX10_alike 57 = .ok (.iload_n 2, 1) := by decide +kernel
theorem dX10_alike_58 : decode cX10_alike 58 = .ok (.imul, 1) := by decide +kernel
theorem dX10_alike_59 : decode cX10_alike 59 = .ok (.iload 4, 2) := by decide +kernel
theorem dX10_alike_61 : decode cX10_alike 61 = .ok (.iadd, 1) := by decide +kernel
theorem dX10_alike_62 : decode cX10_alike 62 = .ok (.iaload, 1) := by decide +kernel
theorem dX10_alike_63 : decode cX10_alike 63 = .ok (.if_icmp .ne 7, 3) := by decide +kernel
theorem dX10_alike_66 : decode cX10_alike 66 = .ok (.iconst 1, 1) := by decide +kernel
theorem dX10_alike_67 : decode cX10_alike 67 = .ok (.goto 4, 3) := by decide +kernel
theorem dX10_alike_70 : decode cX10_alike 70 = .ok (.iconst 0, 1) := by decide +kernel
theorem dX10_alike_71 : decode cX10_alike 71 = .ok (.istore_n 3, 1) := by decide +kernel
theorem dX10_alike_72 : decode cX10_alike 72 = .ok (.iinc 4 1, 3) := by decide +kernel
theorem dX10_alike_75 : decode cX10_alike 75 = .ok (.goto (-51), 3) := by decide +kernel
theorem dX10_alike_78 : decode cX10_alike 78 = .ok (.iload_n 3, 1) := by decide +kernel
theorem dX10_alike_79 : decode cX10_alike 79 = .ok (.ireturn, 1) := by decide +kernel
theorem dX10_differs_0 : decode cX10_differs 0 = .ok (.aload_n 0, 1) := by decide +kernel
theorem dX10_differs_1 : decode cX10_differs 1 = .ok (.getfield 69, 3) := by decide +kernel
theorem dX10_differs_4 : decode cX10_differs 4 = .ok (.aload_n 0, 1) := by decide +kernel
theorem dX10_differs_5 : decode cX10_differs 5 = .ok (.getfield 164, 3) := by decide +kernel
theorem dX10_differs_8 : decode cX10_differs 8 = .ok (.iload_n 1, 1) := by decide +kernel
theorem dX10_differs_9 : decode cX10_differs 9 = .ok (.iastore, 1) := by decide +kernel
theorem dX10_differs_10 : decode cX10_differs 10 = .ok (.aload_n 0, 1) := by decide +kernel
theorem dX10_differs_11 : decode cX10_differs 11 = .ok (.getfield 72, 3) := by decide +kernel
theorem dX10_differs_14 : decode cX10_differs 14 = .ok (.aload_n 0, 1) := by decide +kernel
theorem dX10_differs_15 : decode cX10_differs 15 = .ok (.getfield 164, 3) := by decide +kernel
theorem dX10_differs_18 : decode cX10_differs 18 = .ok (.iload_n 2, 1) := by decide +kernel
theorem dX10_differs_19 : decode cX10_differs 19 = .ok (.iastore, 1) := by decide +kernel
theorem dX10_differs_20 : decode cX10_differs 20 = .ok (.aload_n 0, 1) := by decide +kernel
theorem dX10_differs_21 : decode cX10_differs 21 = .ok (.getfield 75, 3) := by decide +kernel
theorem dX10_differs_24 : decode cX10_differs 24 = .ok (.aload_n 0, 1) := by decide +kernel
theorem dX10_differs_25 : decode cX10_differs 25 = .ok (.getfield 164, 3) := by decide +kernel
theorem dX10_differs_28 : decode cX10_differs 28 = .ok (.iload_n 3, 1) := by decide +kernel
theorem dX10_differs_29 : decode cX10_differs 29 = .ok (.iastore, 1) := by decide +kernel
theorem dX10_differs_30 : decode cX10_differs 30 = .ok (.aload_n 0, 1) := by decide +kernel
theorem dX10_differs_31 : decode cX10_differs 31 = .ok (.dup, 1) := by decide +kernel
theorem dX10_differs_32 : decode cX10_differs 32 = .ok (.getfield 164, 3) := by decide +kernel
theorem dX10_differs_35 : decode cX10_differs 35 = .ok (.iconst 1, 1) := by decide +kernel
theorem dX10_differs_36 : decode cX10_differs 36 = .ok (.iadd, 1) := by decide +kernel
theorem dX10_differs_37 : decode cX10_differs 37 = .ok (.putfield 164, 3) := by decide +kernel
theorem dX10_differs_40 : decode cX10_differs 40 = .ok (.return_, 1) := by decide +kernel
theorem dX10_skip_0 : decode cX10_skip 0 = .ok (.iconst 1, 1) := by decide +kernel
theorem dX10_skip_1 : decode cX10_skip 1 = .ok (.istore 5, 2) := by decide +kernel
theorem dX10_skip_3 : decode cX10_skip 3 = .ok (.iload 5, 2) := by decide +kernel
theorem dX10_skip_5 : decode cX10_skip 5 = .ok (.aload_n 0, 1) := by decide +kernel
theorem dX10_skip_6 : decode cX10_skip 6 = .ok (.getfield 65, 3) := by decide +kernel
theorem dX10_skip_9 : decode cX10_skip 9 = .ok (.if_icmp .gt 73, 3) := by decide +kernel
theorem dX10_skip_12 : decode cX10_skip 12 = .ok (.iconst 0, 1) := by decide +kernel
theorem dX10_skip_13 : decode cX10_skip 13 = .ok (.istore 6, 2) := by decide +kernel
theorem dX10_skip_15 : decode cX10_skip 15 = .ok (.iload 6, 2) := by decide +kernel
theorem dX10_skip_17 : decode cX10_skip 17 = .ok (.iload 5, 2) := by decide +kernel
theorem dX10_skip_19 : decode cX10_skip 19 = .ok (.if_icmp .gt 57, 3) := by decide +kernel
theorem dX10_skip_22 : decode cX10_skip 22 = .ok (.iload_n 1, 1) := by decide +kernel
theorem dX10_skip_23 : decode cX10_skip 23 = .ok (.iload 6, 2) := by decide +kernel
theorem dX10_skip_25 : decode cX10_skip 25 = .ok (.iadd, 1) := by decide +kernel
theorem dX10_skip_26 : decode cX10_skip 26 = .ok (.istore 7, 2) := by decide +kernel
theorem dX10_skip_28 : decode cX10_skip 28 = .ok (.iload_n 3, 1) := by decide +kernel
theorem dX10_skip_29 : decode cX10_skip 29 = .ok (.iload 5, 2) := by decide +kernel
theorem dX10_skip_31 : decode cX10_skip 31 = .ok (.iadd, 1) := by decide +kernel
theorem dX10_skip_32 : decode cX10_skip 32 = .ok (.iload 6, 2) := by decide +kernel
theorem dX10_skip_34 : decode cX10_skip 34 = .ok (.isub, 1) := by decide +kernel
theorem dX10_skip_35 : decode cX10_skip 35 = .ok (.istore 8, 2) := by decide +kernel
theorem dX10_skip_37 : decode cX10_skip 37 = .ok (.iload 7, 2) := by decide +kernel
theorem dX10_skip_39 : decode cX10_skip 39 = .ok (.iload_n 2, 1) := by decide +kernel
theorem dX10_skip_40 : decode cX10_skip 40 = .ok (.if_icmp .ge 30, 3) := by decide +kernel
theorem dX10_skip_43 : decode cX10_skip 43 = .ok (.iload 8, 2) := by decide +kernel
theorem dX10_skip_45 : decode cX10_skip 45 = .ok (.iload 4, 2) := by decide +kernel
theorem dX10_skip_47 : decode cX10_skip 47 = .ok (.if_icmp .ge 23, 3) := by decide +kernel
theorem dX10_skip_50 : decode cX10_skip 50 = .ok (.aload_n 0, 1) := by decide +kernel
theorem dX10_skip_51 : decode cX10_skip 51 = .ok (.iload 7, 2) := by decide +kernel
theorem dX10_skip_53 : decode cX10_skip 53 = .ok (.iload 8, 2) := by decide +kernel
theorem dX10_skip_55 : decode cX10_skip 55 = .ok (.invokevirtual 167, 3) := by decide +kernel
theorem dX10_skip_58 : decode cX10_skip 58 = .ok (.ifCond .eq 12, 3) := by decide +kernel
theorem dX10_skip_61 : decode cX10_skip 61 = .ok (.bipush 10, 2) := by decide +kernel
theorem dX10_skip_63 : decode cX10_skip 63 = .ok (.iload 5, 2) := by decide +kernel
theorem dX10_skip_65 : decode cX10_skip 65 = .ok (.imul, 1) := by decide +kernel
theorem dX10_skip_66 : decode cX10_skip 66 = .ok (.iload 6, 2) := by decide +kernel
theorem dX10_skip_68 : decode cX10_skip 68 = .ok (.iadd, 1) := by decide +kernel
theorem dX10_skip_69 : decode cX10_skip 69 = .ok (.ireturn, 1) := by decide +kernel
theorem dX10_skip_70 : decode cX10_skip 70 = .ok (.iinc 6 1, 3) := by decide +kernel
theorem dX10_skip_73 : decode cX10_skip 73 = .ok (.goto (-58), 3) := by decide +kernel
theorem dX10_skip_76 : decode cX10_skip 76 = .ok (.iinc 5 1, 3) := by decide +kernel
theorem dX10_skip_79 : decode cX10_skip 79 = .ok (.goto (-76), 3) := by decide +kernel
theorem dX10_skip_82 : decode cX10_skip 82 = .ok (.iconst 0, 1) := by decide +kernel
theorem dX10_skip_83 : decode cX10_skip 83 = .ok (.ireturn, 1) := by decide +kernel
theorem dX10_compare_0 : decode cX10_compare 0 = .ok (.aload_n 0, 1) := by decide +kernel
theorem dX10_compare_1 : decode cX10_compare 1 = .ok (.iconst 0, 1) := by decide +kernel
theorem dX10_compare_2 : decode cX10_compare 2 = .ok (.putfield 84, 3) := by decide +kernel
theorem dX10_compare_5 : decode cX10_compare 5 = .ok (.aload_n 0, 1) := by decide +kernel
theorem dX10_compare_6 : decode cX10_compare 6 = .ok (.iload_n 1, 1) := by decide +kernel
theorem dX10_compare_7 : decode cX10_compare 7 = .ok (.invokevirtual 114, 3) := by decide +kernel
theorem dX10_compare_10 : decode cX10_compare 10 = .ok (.ifCond .eq 11, 3) := by decide +kernel
theorem dX10_compare_13 : decode cX10_compare 13 = .ok (.aload_n 0, 1) := by decide +kernel
theorem dX10_compare_14 : decode cX10_compare 14 = .ok (.iload_n 2, 1) := by decide +kernel
theorem dX10_compare_15 : decode cX10_compare 15 = .ok (.invokevirtual 114, 3) := by decide +kernel
theorem dX10_compare_18 : decode cX10_compare 18 = .ok (.ifCond .ne 6, 3) := by decide +kernel
theorem dX10_compare_21 : decode cX10_compare 21 = .ok (.bipush (-2), 2) := by decide +kernel
theorem dX10_compare_23 : decode cX10_compare 23 = .ok (.ireturn, 1) := by decide +kernel
theorem dX10_compare_24 : decode cX10_compare 24 = .ok (.aload_n 0, 1) := by decide +kernel
theorem dX10_compare_25 : decode cX10_compare 25 = .ok (.iconst 0, 1) := by decide +kernel
theorem dX10_compare_26 : decode cX10_compare 26 = .ok (.putfield 164, 3) := by decide +kernel
theorem dX10_compare_29 : decode cX10_compare 29 = .ok (.bipush 30, 2) := by decide +kernel
theorem dX10_compare_31 : decode cX10_compare 31 = .ok (.iload_n 1, 1) := by decide +kernel
theorem dX10_compare_32 : decode cX10_compare 32 = .ok (.imul, 1) := by decide +kernel
theorem dX10_compare_33 : decode cX10_compare 33 = .ok (.istore_n 3, 1) := by decide +kernel
theorem dX10_compare_34 : decode cX10_compare 34 = .ok (.bipush 30, 2) := by decide +kernel
theorem dX10_compare_36 : decode cX10_compare 36 = .ok (.iload_n 2, 1) := by decide +kernel
theorem dX10_compare_37 : decode cX10_compare 37 = .ok (.imul, 1) := by decide +kernel
theorem dX10_compare_38 : decode cX10_compare 38 = .ok (.istore 4, 2) := by decide +kernel
theorem dX10_compare_40 : decode cX10_compare 40 = .ok (.iload_n 3, 1) := by decide +kernel
theorem dX10_compare_41 : decode cX10_compare 41 = .ok (.aload_n 0, 1) := by decide +kernel
theorem dX10_compare_42 : decode cX10_compare 42 = .ok (.getfield 20, 3) := by decide +kernel
theorem dX10_compare_45 : decode cX10_compare 45 = .ok (.iload_n 1, 1) := by decide +kernel
theorem dX10_compare_46 : decode cX10_compare 46 = .ok (.iaload, 1) := by decide +kernel
theorem dX10_compare_47 : decode cX10_compare 47 = .ok (.iadd, 1) := by decide +kernel
theorem dX10_compare_48 : decode cX10_compare 48 = .ok (.istore 5, 2) := by decide +kernel
theorem dX10_compare_50 : decode cX10_compare 50 = .ok (.iload 4, 2) := by decide +kernel
theorem dX10_compare_52 : decode cX10_compare 52 = .ok (.aload_n 0, 1) := by decide +kernel
theorem dX10_compare_53 : decode cX10_compare 53 = .ok (.getfield 20, 3) := by decide +kernel
theorem dX10_compare_56 : decode cX10_compare 56 = .ok (.iload_n 2, 1) := by decide +kernel
theorem dX10_compare_57 : decode cX10_compare 57 = .ok (.iaload, 1) := by decide +kernel
theorem dX10_compare_58 : decode cX10_compare 58 = .ok (.iadd, 1) := by decide +kernel
theorem dX10_compare_59 : decode cX10_compare 59 = .ok (.istore 6, 2) := by decide +kernel
theorem dX10_compare_61 : decode cX10_compare 61 = .ok (.iload_n 3, 1) := by decide +kernel
theorem dX10_compare_62 : decode cX10_compare 62 = .ok (.iload 5, 2) := by decide +kernel
theorem dX10_compare_64 : decode cX10_compare 64 = .ok (.if_icmp .lt 10, 3) := by decide +kernel
theorem dX10_compare_67 : decode cX10_compare 67 = .ok (.iload 4, 2) := by decide +kernel
theorem dX10_compare_69 : decode cX10_compare 69 = .ok (.iload 6, 2) := by decide +kernel
theorem dX10_compare_71 : decode cX10_compare 71 = .ok (.if_icmp .ge 222, 3) := by decide +kernel
theorem dX10_compare_74 : decode cX10_compare 74 = .ok (.iload_n 3, 1) := by decide +kernel
theorem dX10_compare_75 : decode cX10_compare 75 = .ok (.iload 5, 2) := by decide +kernel
theorem dX10_compare_77 : decode cX10_compare 77 = .ok (.if_icmp .ge 29, 3) := by decide +kernel
theorem dX10_compare_80 : decode cX10_compare 80 = .ok (.iload 4, 2) := by decide +kernel
theorem dX10_compare_82 : decode cX10_compare 82 = .ok (.iload 6, 2) := by decide +kernel
theorem dX10_compare_84 : decode cX10_compare 84 = .ok (.if_icmp .ge 22, 3) := by decide +kernel
theorem dX10_compare_87 : decode cX10_compare 87 = .ok (.aload_n 0, 1) := by decide +kernel
theorem dX10_compare_88 : decode cX10_compare 88 = .ok (.iload_n 3, 1) := by decide +kernel
theorem dX10_compare_89 : decode cX10_compare 89 = .ok (.iload 4, 2) := by decide +kernel
theorem dX10_compare_91 : decode cX10_compare 91 = .ok (.invokevirtual 167, 3) := by decide +kernel
theorem dX10_compare_94 : decode cX10_compare 94 = .ok (.ifCond .eq 12, 3) := by decide +kernel
theorem dX10_compare_97 : decode cX10_compare 97 = .ok (.iinc 3 1, 3) := by decide +kernel
theorem dX10_compare_100 : decode cX10_compare 100 = .ok (.iinc 4 1, 3) := by decide +kernel
theorem dX10_compare_103 : decode cX10_compare 103 = .ok (.goto (-42), 3) := by decide +kernel
theorem dX10_compare_106 : decode cX10_compare 106 = .ok (.iload_n 3, 1) := by decide +kernel
theorem dX10_compare_107 : decode cX10_compare 107 = .ok (.iload 5, 2) := by decide +kernel
theorem dX10_compare_109 : decode cX10_compare 109 = .ok (.if_icmp .ge 14, 3) := by decide +kernel
theorem dX10_compare_112 : decode cX10_compare 112 = .ok (.iload 4, 2) := by decide +kernel
theorem dX10_compare_114 : decode cX10_compare 114 = .ok (.iload 6, 2) := by decide +kernel
theorem dX10_compare_116 : decode cX10_compare 116 = .ok (.if_icmp .ge 7, 3) := by decide +kernel
theorem dX10_compare_119 : decode cX10_compare 119 = .ok (.iconst 1, 1) := by decide +kernel
theorem dX10_compare_120 : decode cX10_compare 120 = .ok (.goto 4, 3) := by decide +kernel
theorem dX10_compare_123 : decode cX10_compare 123 = .ok (.iconst 0, 1) := by decide +kernel
theorem dX10_compare_124 : decode cX10_compare 124 = .ok (.istore 7, 2) := by decide +kernel
theorem dX10_compare_126 : decode cX10_compare 126 = .ok (.iload 7, 2) := by decide +kernel
theorem dX10_compare_128 : decode cX10_compare 128 = .ok (.ifCond .eq 17, 3) := by decide +kernel
theorem dX10_compare_131 : decode cX10_compare 131 = .ok (.aload_n 0, 1) := by decide +kernel
theorem dX10_compare_132 : decode cX10_compare 132 = .ok (.iload_n 3, 1) := by decide +kernel
theorem dX10_compare_133 : decode cX10_compare 133 = .ok (.iload 5, 2) := by decide +kernel
theorem dX10_compare_135 : decode cX10_compare 135 = .ok (.iload 4, 2) := by decide +kernel
theorem dX10_compare_137 : decode cX10_compare 137 = .ok (.iload 6, 2) := by decide +kernel
theorem dX10_compare_139 : decode cX10_compare 139 = .ok (.invokevirtual 171, 3) := by decide +kernel
theorem dX10_compare_142 : decode cX10_compare 142 = .ok (.goto 4, 3) := by decide +kernel
theorem dX10_compare_145 : decode cX10_compare 145 = .ok (.iconst 0, 1) := by decide +kernel
theorem dX10_compare_146 : decode cX10_compare 146 = .ok (.istore 8, 2) := by decide +kernel
theorem dX10_compare_148 : decode cX10_compare 148 = .ok (.iload 7, 2) := by decide +kernel
theorem dX10_compare_150 : decode cX10_compare 150 = .ok (.ifCond .eq 11, 3) := by decide +kernel
theorem dX10_compare_153 : decode cX10_compare 153 = .ok (.iload 8, 2) := by decide +kernel
theorem dX10_compare_155 : decode cX10_compare 155 = .ok (.bipush 10, 2) := by decide +kernel
theorem dX10_compare_157 : decode cX10_compare 157 = .ok (.irem, 1) := by decide +kernel
theorem dX10_compare_158 : decode cX10_compare 158 = .ok (.goto 7, 3) := by decide +kernel
theorem dX10_compare_161 : decode cX10_compare 161 = .ok (.iload 5, 2) := by decide +kernel
theorem dX10_compare_163 : decode cX10_compare 163 = .ok (.iload_n 3, 1) := by decide +kernel
theorem dX10_compare_164 : decode cX10_compare 164 = .ok (.isub, 1) := by decide +kernel
theorem dX10_compare_165 : decode cX10_compare 165 = .ok (.istore 9, 2) := by decide +kernel
theorem dX10_compare_167 : decode cX10_compare 167 = .ok (.iload 7, 2) := by decide +kernel
theorem dX10_compare_169 : decode cX10_compare 169 = .ok (.ifCond .eq 17, 3) := by decide +kernel
theorem dX10_compare_172 : decode cX10_compare 172 = .ok (.iload 8, 2) := by decide +kernel
theorem dX10_compare_174 : decode cX10_compare 174 = .ok (.bipush 10, 2) := by decide +kernel
theorem dX10_compare_176 : decode cX10_compare 176 = .ok (.idiv, 1) := by decide +kernel
theorem dX10_compare_177 : decode cX10_compare 177 = .ok (.iload 8, 2) := by decide +kernel
theorem dX10_compare_179 : decode cX10_compare 179 = .ok (.bipush 10, 2) := by decide +kernel
theorem dX10_compare_181 : decode cX10_compare 181 = .ok (.irem, 1) := by decide +kernel
theorem dX10_compare_182 : decode cX10_compare 182 = .ok (.isub, 1) := by decide +kernel
theorem dX10_compare_183 : decode cX10_compare 183 = .ok (.goto 8, 3) := by decide +kernel
theorem dX10_compare_186 : decode cX10_compare 186 = .ok (.iload 6, 2) := by decide +kernel
theorem dX10_compare_188 : decode cX10_compare 188 = .ok (.iload 4, 2) := by decide +kernel
theorem dX10_compare_190 : decode cX10_compare 190 = .ok (.isub, 1) := by decide +kernel
theorem dX10_compare_191 : decode cX10_compare 191 = .ok (.istore 10, 2) := by decide +kernel
theorem dX10_compare_193 : decode cX10_compare 193 = .ok (.iload 7, 2) := by decide +kernel
theorem dX10_compare_195 : decode cX10_compare 195 = .ok (.ifCond .eq 32, 3) := by decide +kernel
theorem dX10_compare_198 : decode cX10_compare 198 = .ok (.iload 8, 2) := by decide +kernel
theorem dX10_compare_200 : decode cX10_compare 200 = .ok (.ifCond .ne 27, 3) := by decide +kernel
theorem dX10_compare_203 : decode cX10_compare 203 = .ok (.aload_n 0, 1) := by decide +kernel
theorem dX10_compare_204 : decode cX10_compare 204 = .ok (.iconst 3, 1) := by decide +kernel
theorem dX10_compare_205 : decode cX10_compare 205 = .ok (.aload_n 0, 1) := by decide +kernel
theorem dX10_compare_206 : decode cX10_compare 206 = .ok (.getfield 26, 3) := by decide +kernel
theorem dX10_compare_209 : decode cX10_compare 209 = .ok (.iload_n 3, 1) := by decide +kernel
theorem dX10_compare_210 : decode cX10_compare 210 = .ok (.iaload, 1) := by decide +kernel
theorem dX10_compare_211 : decode cX10_compare 211 = .ok (.aload_n 0, 1) := by decide +kernel
theorem dX10_compare_212 : decode cX10_compare 212 = .ok (.getfield 26, 3) := by decide +kernel
theorem dX10_compare_215 : decode cX10_compare 215 = .ok (.iload 4, 2) := by decide +kernel
theorem dX10_compare_217 : decode cX10_compare 217 = .ok (.iaload, 1) := by decide +kernel
theorem dX10_compare_218 : decode cX10_compare 218 = .ok (.invokevirtual 175, 3) := by decide +kernel
theorem dX10_compare_221 : decode cX10_compare 221 = .ok (.iinc 3 1, 3) := by decide +kernel
theorem dX10_compare_224 : decode cX10_compare 224 = .ok (.iinc 4 1, 3) := by decide +kernel
theorem dX10_compare_227 : decode cX10_compare 227 = .ok (.iconst 0, 1) := by decide +kernel
theorem dX10_compare_228 : decode cX10_compare 228 = .ok (.istore 11, 2) := by decide +kernel
theorem dX10_compare_230 : decode cX10_compare 230 = .ok (.iload 11, 2) := by decide +kernel
theorem dX10_compare_232 : decode cX10_compare 232 = .ok (.iload 9, 2) := by decide +kernel
theorem dX10_compare_234 : decode cX10_compare 234 = .ok (.if_icmp .ge 24, 3) := by decide +kernel
theorem dX10_compare_237 : decode cX10_compare 237 = .ok (.aload_n 0, 1) := by decide +kernel
theorem dX10_compare_238 : decode cX10_compare 238 = .ok (.iconst 1, 1) := by decide +kernel
theorem dX10_compare_239 : decode cX10_compare 239 = .ok (.aload_n 0, 1) := by decide +kernel
theorem dX10_compare_240 : decode cX10_compare 240 = .ok (.getfield 26, 3) := by decide +kernel
theorem dX10_compare_243 : decode cX10_compare 243 = .ok (.iload_n 3, 1) := by decide +kernel
theorem dX10_compare_244 : decode cX10_compare 244 = .ok (.iaload, 1) := by decide +kernel
theorem dX10_compare_245 : decode cX10_compare 245 = .ok (.iconst 0, 1) := by decide +kernel
theorem dX10_compare_246 : decode cX10_compare 246 = .ok (.invokevirtual 175, 3) := by decide +kernel
theorem dX10_compare_249 : decode cX10_compare 249 = .ok (.iinc 3 1, 3) := by decide +kernel
theorem dX10_compare_252 : decode cX10_compare 252 = .ok (.iinc 11 1, 3) := by decide +kernel
theorem dX10_compare_255 : decode cX10_compare 255 = .ok (.goto (-25), 3) := by decide +kernel
theorem dX10_compare_258 : decode cX10_compare 258 = .ok (.iconst 0, 1) := by decide +kernel
theorem dX10_compare_259 : decode cX10_compare 259 = .ok (.istore 11, 2) := by decide +kernel
theorem dX10_compare_261 : decode cX10_compare 261 = .ok (.iload 11, 2) := by decide +kernel
theorem dX10_compare_263 : decode cX10_compare 263 = .ok (.iload 10, 2) := by decide +kernel
theorem dX10_compare_265 : decode cX10_compare 265 = .ok (.if_icmp .ge 25, 3) := by decide +kernel
theorem dX10_compare_268 : decode cX10_compare 268 = .ok (.aload_n 0, 1) := by decide +kernel
theorem dX10_compare_269 : decode cX10_compare 269 = .ok (.iconst 2, 1) := by decide +kernel
theorem dX10_compare_270 : decode cX10_compare 270 = .ok (.iconst 0, 1) := by decide +kernel
theorem dX10_compare_271 : decode cX10_compare 271 = .ok (.aload_n 0, 1) := by decide +kernel
theorem dX10_compare_272 : decode cX10_compare 272 = .ok (.getfield 26, 3) := by decide +kernel
theorem dX10_compare_275 : decode cX10_compare 275 = .ok (.iload 4, 2) := by decide +kernel
theorem dX10_compare_277 : decode cX10_compare 277 = .ok (.iaload, 1) := by decide +kernel
theorem dX10_compare_278 : decode cX10_compare 278 = .ok (.invokevirtual 175, 3) := by decide +kernel
theorem dX10_compare_281 : decode cX10_compare 281 = .ok (.iinc 4 1, 3) := by decide +kernel
theorem dX10_compare_284 : decode cX10_compare 284 = .ok (.iinc 11 1, 3) := by decide +kernel
theorem dX10_compare_287 : decode cX10_compare 287 = .ok (.goto (-26), 3) := by decide +kernel
theorem dX10_compare_290 : decode cX10_compare 290 = .ok (.goto (-229), 3) := by decide +kernel
theorem dX10_compare_293 : decode cX10_compare 293 = .ok (.aload_n 0, 1) := by decide +kernel
theorem dX10_compare_294 : decode cX10_compare 294 = .ok (.getfield 164, 3) := by decide +kernel
theorem dX10_compare_297 : decode cX10_compare 297 = .ok (.ireturn, 1) := by decide +kernel
theorem dX10_differ_0 : decode cX10_differ 0 = .ok (.aload_n 0, 1) := by decide +kernel
theorem dX10_differ_1 : decode cX10_differ 1 = .ok (.iconst 0, 1) := by decide +kernel
theorem dX10_differ_2 : decode cX10_differ 2 = .ok (.putfield 84, 3) := by decide +kernel
theorem dX10_differ_5 : decode cX10_differ 5 = .ok (.iload_n 1, 1) := by decide +kernel
theorem dX10_differ_6 : decode cX10_differ 6 = .ok (.ifCond .lt 11, 3) := by decide +kernel
theorem dX10_differ_9 : decode cX10_differ 9 = .ok (.iload_n 1, 1) := by decide +kernel
theorem dX10_differ_10 : decode cX10_differ 10 = .ok (.aload_n 0, 1) := by decide +kernel
theorem dX10_differ_11 : decode cX10_differ 11 = .ok (.getfield 164, 3) := by decide +kernel
theorem dX10_differ_14 : decode cX10_differ 14 = .ok (.if_icmp .lt 5, 3) := by decide +kernel
theorem dX10_differ_17 : decode cX10_differ 17 = .ok (.iconst (-1), 1) := by decide +kernel
theorem dX10_differ_18 : decode cX10_differ 18 = .ok (.ireturn, 1) := by decide +kernel
theorem dX10_differ_19 : decode cX10_differ 19 = .ok (.iload_n 2, 1) := by decide +kernel
theorem dX10_differ_20 : decode cX10_differ 20 = .ok (.ifCond .ne 12, 3) := by decide +kernel
theorem dX10_differ_23 : decode cX10_differ 23 = .ok (.aload_n 0, 1) := by decide +kernel
theorem dX10_differ_24 : decode cX10_differ 24 = .ok (.getfield 69, 3) := by decide +kernel
theorem dX10_differ_27 : decode cX10_differ 27 = .ok (.iload_n 1, 1) := by decide +kernel
theorem dX10_differ_28 : decode cX10_differ 28 = .ok (.iaload, 1) := by decide +kernel
theorem dX10_differ_29 : decode cX10_differ 29 = .ok (.goto 32, 3) := by decide +kernel
theorem dX10_differ_32 : decode cX10_differ 32 = .ok (.iload_n 2, 1) := by decide +kernel
theorem dX10_differ_33 : decode cX10_differ 33 = .ok (.iconst 1, 1) := by decide +kernel
theorem dX10_differ_34 : decode cX10_differ 34 = .ok (.if_icmp .ne 12, 3) := by decide +kernel
theorem dX10_differ_37 : decode cX10_differ 37 = .ok (.aload_n 0, 1) := by decide +kernel
theorem dX10_differ_38 : decode cX10_differ 38 = .ok (.getfield 72, 3) := by decide +kernel
theorem dX10_differ_41 : decode cX10_differ 41 = .ok (.iload_n 1, 1) := by decide +kernel
theorem dX10_differ_42 : decode cX10_differ 42 = .ok (.iaload, 1) := by decide +kernel
theorem dX10_differ_43 : decode cX10_differ 43 = .ok (.goto 18, 3) := by decide +kernel
theorem dX10_differ_46 : decode cX10_differ 46 = .ok (.iload_n 2, 1) := by decide +kernel
theorem dX10_differ_47 : decode cX10_differ 47 = .ok (.iconst 2, 1) := by decide +kernel
theorem dX10_differ_48 : decode cX10_differ 48 = .ok (.if_icmp .ne 12, 3) := by decide +kernel
theorem dX10_differ_51 : decode cX10_differ 51 = .ok (.aload_n 0, 1) := by decide +kernel
theorem dX10_differ_52 : decode cX10_differ 52 = .ok (.getfield 75, 3) := by decide +kernel
theorem dX10_differ_55 : decode cX10_differ 55 = .ok (.iload_n 1, 1) := by decide +kernel
theorem dX10_differ_56 : decode cX10_differ 56 = .ok (.iaload, 1) := by decide +kernel
theorem dX10_differ_57 : decode cX10_differ 57 = .ok (.goto 4, 3) := by decide +kernel
theorem dX10_differ_60 : decode cX10_differ 60 = .ok (.iconst (-1), 1) := by decide +kernel
theorem dX10_differ_61 : decode cX10_differ 61 = .ok (.ireturn, 1) := by decide +kernel
theorem dX10_ahead_0 : decode cX10_ahead 0 = .ok (.aload_n 0, 1) := by decide +kernel
theorem dX10_ahead_1 : decode cX10_ahead 1 = .ok (.iconst 0, 1) := by decide +kernel
theorem dX10_ahead_2 : decode cX10_ahead 2 = .ok (.putfield 84, 3) := by decide +kernel
theorem dX10_ahead_5 : decode cX10_ahead 5 = .ok (.iload_n 1, 1) := by decide +kernel
theorem dX10_ahead_6 : decode cX10_ahead 6 = .ok (.ifCond .lt 9, 3) := by decide +kernel
theorem dX10_ahead_9 : decode cX10_ahead 9 = .ok (.iload_n 1, 1) := by decide +kernel
theorem dX10_ahead_10 : decode cX10_ahead 10 = .ok (.bipush 9, 2) := by decide +kernel
theorem dX10_ahead_12 : decode cX10_ahead 12 = .ok (.if_icmp .le 6, 3) := by decide +kernel
theorem dX10_ahead_15 : decode cX10_ahead 15 = .ok (.bipush (-4), 2) := by decide +kernel
theorem dX10_ahead_17 : decode cX10_ahead 17 = .ok (.ireturn, 1) := by decide +kernel
theorem dX10_ahead_18 : decode cX10_ahead 18 = .ok (.aload_n 0, 1) := by decide +kernel
theorem dX10_ahead_19 : decode cX10_ahead 19 = .ok (.getfield 65, 3) := by decide +kernel
theorem dX10_ahead_22 : decode cX10_ahead 22 = .ok (.istore_n 2, 1) := by decide +kernel
theorem dX10_ahead_23 : decode cX10_ahead 23 = .ok (.aload_n 0, 1) := by decide +kernel
theorem dX10_ahead_24 : decode cX10_ahead 24 = .ok (.iload_n 1, 1) := by decide +kernel
theorem dX10_ahead_25 : decode cX10_ahead 25 = .ok (.putfield 65, 3) := by decide +kernel
theorem dX10_ahead_28 : decode cX10_ahead 28 = .ok (.iload_n 2, 1) := by decide +kernel
theorem dX10_ahead_29 : decode cX10_ahead 29 = .ok (.ireturn, 1) := by decide +kernel
theorem dX10_change_0 : decode cX10_change 0 = .ok (.aload_n 0, 1) := by decide +kernel
theorem dX10_change_1 : decode cX10_change 1 = .ok (.iconst 0, 1) := by decide +kernel
theorem dX10_change_2 : decode cX10_change 2 = .ok (.putfield 84, 3) := by decide +kernel
theorem dX10_change_5 : decode cX10_change 5 = .ok (.iload_n 1, 1) := by decide +kernel
theorem dX10_change_6 : decode cX10_change 6 = .ok (.invokestatic 117, 3) := by decide +kernel
theorem dX10_change_9 : decode cX10_change 9 = .ok (.ifCond .eq 14, 3) := by decide +kernel
theorem dX10_change_12 : decode cX10_change 12 = .ok (.iload_n 2, 1) := by decide +kernel
theorem dX10_change_13 : decode cX10_change 13 = .ok (.ifCond .eq 11, 3) := by decide +kernel
theorem dX10_change_16 : decode cX10_change 16 = .ok (.iload_n 2, 1) := by decide +kernel
theorem dX10_change_17 : decode cX10_change 17 = .ok (.invokestatic 120, 3) := by decide +kernel
theorem dX10_change_20 : decode cX10_change 20 = .ok (.ifCond .ne 4, 3) := by decide +kernel
theorem dX10_change_23 : decode cX10_change 23 = .ok (.return_, 1) := by decide +kernel
theorem dX10_change_24 : decode cX10_change 24 = .ok (.aload_n 0, 1) := by decide +kernel
theorem dX10_change_25 : decode cX10_change 25 = .ok (.getfield 178, 3) := by decide +kernel
theorem dX10_change_28 : decode cX10_change 28 = .ok (.iconst 1, 1) := by decide +kernel
theorem dX10_change_29 : decode cX10_change 29 = .ok (.isub, 1) := by decide +kernel
theorem dX10_change_30 : decode cX10_change 30 = .ok (.istore_n 3, 1) := by decide +kernel
theorem dX10_change_31 : decode cX10_change 31 = .ok (.iload_n 2, 1) := by decide +kernel
theorem dX10_change_32 : decode cX10_change 32 = .ok (.ifCond .eq 65, 3) := by decide +kernel
theorem dX10_change_35 : decode cX10_change 35 = .ok (.iload_n 3, 1) := by decide +kernel
theorem dX10_change_36 : decode cX10_change 36 = .ok (.ifCond .lt 61, 3) := by decide +kernel
theorem dX10_change_39 : decode cX10_change 39 = .ok (.aload_n 0, 1) := by decide +kernel
theorem dX10_change_40 : decode cX10_change 40 = .ok (.getfield 53, 3) := by decide +kernel
theorem dX10_change_43 : decode cX10_change 43 = .ok (.iload_n 3, 1) := by decide +kernel
theorem dX10_change_44 : decode cX10_change 44 = .ok (.iaload, 1) := by decide +kernel
theorem dX10_change_45 : decode cX10_change 45 = .ok (.iload_n 1, 1) := by decide +kernel
theorem dX10_change_46 : decode cX10_change 46 = .ok (.if_icmp .ne 51, 3) := by decide +kernel
theorem dX10_change_49 : decode cX10_change 49 = .ok (.aload_n 0, 1) := by decide +kernel
theorem dX10_change_50 : decode cX10_change 50 = .ok (.getfield 62, 3) := by decide +kernel
theorem dX10_change_53 : decode cX10_change 53 = .ok (.iload_n 3, 1) := by decide +kernel
theorem dX10_change_54 : decode cX10_change 54 = .ok (.baload, 1) := by decide +kernel
theorem dX10_change_55 : decode cX10_change 55 = .ok (.ifCond .ne 42, 3) := by decide +kernel
theorem dX10_change_58 : decode cX10_change 58 = .ok (.aload_n 0, 1) := by decide +kernel
theorem dX10_change_59 : decode cX10_change 59 = .ok (.getfield 56, 3) := by decide +kernel
theorem dX10_change_62 : decode cX10_change 62 = .ok (.iload_n 3, 1) := by decide +kernel
theorem dX10_change_63 : decode cX10_change 63 = .ok (.iaload, 1) := by decide +kernel
theorem dX10_change_64 : decode cX10_change 64 = .ok (.bipush 10, 2) := by decide +kernel
theorem dX10_change_66 : decode cX10_change 66 = .ok (.if_icmp .ge 31, 3) := by decide +kernel
theorem dX10_change_69 : decode cX10_change 69 = .ok (.aload_n 0, 1) := by decide +kernel
theorem dX10_change_70 : decode cX10_change 70 = .ok (.getfield 59, 3) := by decide +kernel
theorem dX10_change_73 : decode cX10_change 73 = .ok (.bipush 10, 2) := by decide +kernel
theorem dX10_change_75 : decode cX10_change 75 = .ok (.iload_n 3, 1) := by decide +kernel
theorem dX10_change_76 : decode cX10_change 76 = .ok (.imul, 1) := by decide +kernel
theorem dX10_change_77 : decode cX10_change 77 = .ok (.aload_n 0, 1) := by decide +kernel
theorem dX10_change_78 : decode cX10_change 78 = .ok (.getfield 56, 3) := by decide +kernel
theorem dX10_change_81 : decode cX10_change 81 = .ok (.iload_n 3, 1) := by decide +kernel
theorem dX10_change_82 : decode cX10_change 82 = .ok (.iaload, 1) := by decide +kernel
theorem dX10_change_83 : decode cX10_change 83 = .ok (.iadd, 1) := by decide +kernel
theorem dX10_change_84 : decode cX10_change 84 = .ok (.iload_n 2, 1) := by decide +kernel
theorem dX10_change_85 : decode cX10_change 85 = .ok (.iastore, 1) := by decide +kernel
theorem dX10_change_86 : decode cX10_change 86 = .ok (.aload_n 0, 1) := by decide +kernel
theorem dX10_change_87 : decode cX10_change 87 = .ok (.getfield 56, 3) := by decide +kernel
theorem dX10_change_90 : decode cX10_change 90 = .ok (.iload_n 3, 1) := by decide +kernel
theorem dX10_change_91 : decode cX10_change 91 = .ok (.dup2, 1) := by decide +kernel
theorem dX10_change_92 : decode cX10_change 92 = .ok (.iaload, 1) := by decide +kernel
theorem dX10_change_93 : decode cX10_change 93 = .ok (.iconst 1, 1) := by decide +kernel
theorem dX10_change_94 : decode cX10_change 94 = .ok (.iadd, 1) := by decide +kernel
theorem dX10_change_95 : decode cX10_change 95 = .ok (.iastore, 1) := by decide +kernel
theorem dX10_change_96 : decode cX10_change 96 = .ok (.return_, 1) := by decide +kernel
theorem dX10_change_97 : decode cX10_change 97 = .ok (.aload_n 0, 1) := by decide +kernel
theorem dX10_change_98 : decode cX10_change 98 = .ok (.getfield 178, 3) := by decide +kernel
theorem dX10_change_101 : decode cX10_change 101 = .ok (.bipush 20, 2) := by decide +kernel
theorem dX10_change_103 : decode cX10_change 103 = .ok (.if_icmp .ne 4, 3) := by decide +kernel
theorem dX10_change_106 : decode cX10_change 106 = .ok (.return_, 1) := by decide +kernel
theorem dX10_change_107 : decode cX10_change 107 = .ok (.aload_n 0, 1) := by decide +kernel
theorem dX10_change_108 : decode cX10_change 108 = .ok (.getfield 53, 3) := by decide +kernel
theorem dX10_change_111 : decode cX10_change 111 = .ok (.aload_n 0, 1) := by decide +kernel
theorem dX10_change_112 : decode cX10_change 112 = .ok (.getfield 178, 3) := by decide +kernel
theorem dX10_change_115 : decode cX10_change 115 = .ok (.iload_n 1, 1) := by decide +kernel
theorem dX10_change_116 : decode cX10_change 116 = .ok (.iastore, 1) := by decide +kernel
theorem dX10_change_117 : decode cX10_change 117 = .ok (.aload_n 0, 1) := by decide +kernel
theorem dX10_change_118 : decode cX10_change 118 = .ok (.getfield 62, 3) := by decide +kernel
theorem dX10_change_121 : decode cX10_change 121 = .ok (.aload_n 0, 1) := by decide +kernel
theorem dX10_change_122 : decode cX10_change 122 = .ok (.getfield 178, 3) := by decide +kernel
theorem dX10_change_125 : decode cX10_change 125 = .ok (.iload_n 2, 1) := by decide +kernel
theorem dX10_change_126 : decode cX10_change 126 = .ok (.ifCond .ne 7, 3) := by decide +kernel
theorem dX10_change_129 : decode cX10_change 129 = .ok (.iconst 1, 1) := by decide +kernel
theorem dX10_change_130 : decode cX10_change 130 = .ok (.goto 4, 3) := by decide +kernel
theorem dX10_change_133 : decode cX10_change 133 = .ok (.iconst 0, 1) := by decide +kernel
theorem dX10_change_134 : decode cX10_change 134 = .ok (.bastore, 1) := by decide +kernel
theorem dX10_change_135 : decode cX10_change 135 = .ok (.aload_n 0, 1) := by decide +kernel
theorem dX10_change_136 : decode cX10_change 136 = .ok (.getfield 56, 3) := by decide +kernel
theorem dX10_change_139 : decode cX10_change 139 = .ok (.aload_n 0, 1) := by decide +kernel
theorem dX10_change_140 : decode cX10_change 140 = .ok (.getfield 178, 3) := by decide +kernel
theorem dX10_change_143 : decode cX10_change 143 = .ok (.iload_n 2, 1) := by decide +kernel
theorem dX10_change_144 : decode cX10_change 144 = .ok (.ifCond .ne 7, 3) := by decide +kernel
theorem dX10_change_147 : decode cX10_change 147 = .ok (.iconst 0, 1) := by decide +kernel
theorem dX10_change_148 : decode cX10_change 148 = .ok (.goto 4, 3) := by decide +kernel
theorem dX10_change_151 : decode cX10_change 151 = .ok (.iconst 1, 1) := by decide +kernel
theorem dX10_change_152 : decode cX10_change 152 = .ok (.iastore, 1) := by decide +kernel
theorem dX10_change_153 : decode cX10_change 153 = .ok (.aload_n 0, 1) := by decide +kernel
theorem dX10_change_154 : decode cX10_change 154 = .ok (.getfield 59, 3) := by decide +kernel
theorem dX10_change_157 : decode cX10_change 157 = .ok (.bipush 10, 2) := by decide +kernel
theorem dX10_change_159 : decode cX10_change 159 = .ok (.aload_n 0, 1) := by decide +kernel
theorem dX10_change_160 : decode cX10_change 160 = .ok (.getfield 178, 3) := by decide +kernel
theorem dX10_change_163 : decode cX10_change 163 = .ok (.imul, 1) := by decide +kernel
theorem dX10_change_164 : decode cX10_change 164 = .ok (.iload_n 2, 1) := by decide +kernel
theorem dX10_change_165 : decode cX10_change 165 = .ok (.iastore, 1) := by decide +kernel
theorem dX10_change_166 : decode cX10_change 166 = .ok (.aload_n 0, 1) := by decide +kernel
theorem dX10_change_167 : decode cX10_change 167 = .ok (.dup, 1) := by decide +kernel
theorem dX10_change_168 : decode cX10_change 168 = .ok (.getfield 178, 3) := by decide +kernel
theorem dX10_change_171 : decode cX10_change 171 = .ok (.iconst 1, 1) := by decide +kernel
theorem dX10_change_172 : decode cX10_change 172 = .ok (.iadd, 1) := by decide +kernel
theorem dX10_change_173 : decode cX10_change 173 = .ok (.putfield 178, 3) := by decide +kernel
theorem dX10_change_176 : decode cX10_change 176 = .ok (.return_, 1) := by decide +kernel
theorem dX10_refuses_0 : decode cX10_refuses 0 = .ok (.iconst 0, 1) := by decide +kernel
theorem dX10_refuses_1 : decode cX10_refuses 1 = .ok (.istore_n 2, 1) := by decide +kernel
theorem dX10_refuses_2 : decode cX10_refuses 2 = .ok (.aload_n 0, 1) := by decide +kernel
theorem dX10_refuses_3 : decode cX10_refuses 3 = .ok (.getfield 20, 3) := by decide +kernel
theorem dX10_refuses_6 : decode cX10_refuses 6 = .ok (.iload_n 1, 1) := by decide +kernel
theorem dX10_refuses_7 : decode cX10_refuses 7 = .ok (.iaload, 1) := by decide +kernel
theorem dX10_refuses_8 : decode cX10_refuses 8 = .ok (.istore_n 3, 1) := by decide +kernel
theorem dX10_refuses_9 : decode cX10_refuses 9 = .ok (.iconst 0, 1) := by decide +kernel
theorem dX10_refuses_10 : decode cX10_refuses 10 = .ok (.istore 4, 2) := by decide +kernel
theorem dX10_refuses_12 : decode cX10_refuses 12 = .ok (.iload 4, 2) := by decide +kernel
theorem dX10_refuses_14 : decode cX10_refuses 14 = .ok (.aload_n 0, 1) := by decide +kernel
theorem dX10_refuses_15 : decode cX10_refuses 15 = .ok (.getfield 178, 3) := by decide +kernel
theorem dX10_refuses_18 : decode cX10_refuses 18 = .ok (.if_icmp .ge 107, 3) := by decide +kernel
theorem dX10_refuses_21 : decode cX10_refuses 21 = .ok (.aload_n 0, 1) := by decide +kernel
theorem dX10_refuses_22 : decode cX10_refuses 22 = .ok (.iload_n 1, 1) := by decide +kernel
theorem dX10_refuses_23 : decode cX10_refuses 23 = .ok (.aload_n 0, 1) := by decide +kernel
theorem dX10_refuses_24 : decode cX10_refuses 24 = .ok (.iload_n 1, 1) := by decide +kernel
theorem dX10_refuses_25 : decode cX10_refuses 25 = .ok (.aload_n 0, 1) := by decide +kernel
theorem dX10_refuses_26 : decode cX10_refuses 26 = .ok (.getfield 53, 3) := by decide +kernel
theorem dX10_refuses_29 : decode cX10_refuses 29 = .ok (.iload 4, 2) := by decide +kernel
theorem dX10_refuses_31 : decode cX10_refuses 31 = .ok (.iaload, 1) := by decide +kernel
theorem dX10_refuses_32 : decode cX10_refuses 32 = .ok (.invokevirtual 123, 3) := by decide +kernel
theorem dX10_refuses_35 : decode cX10_refuses 35 = .ok (.aload_n 0, 1) := by decide +kernel
theorem dX10_refuses_36 : decode cX10_refuses 36 = .ok (.getfield 53, 3) := by decide +kernel
theorem dX10_refuses_39 : decode cX10_refuses 39 = .ok (.iload 4, 2) := by decide +kernel
theorem dX10_refuses_41 : decode cX10_refuses 41 = .ok (.iaload, 1) := by decide +kernel
theorem dX10_refuses_42 : decode cX10_refuses 42 = .ok (.invokevirtual 126, 3) := by decide +kernel
theorem dX10_refuses_45 : decode cX10_refuses 45 = .ok (.istore 5, 2) := by decide +kernel
theorem dX10_refuses_47 : decode cX10_refuses 47 = .ok (.iload_n 3, 1) := by decide +kernel
theorem dX10_refuses_48 : decode cX10_refuses 48 = .ok (.aload_n 0, 1) := by decide +kernel
theorem dX10_refuses_49 : decode cX10_refuses 49 = .ok (.getfield 62, 3) := by decide +kernel
theorem dX10_refuses_52 : decode cX10_refuses 52 = .ok (.iload 4, 2) := by decide +kernel
theorem dX10_refuses_54 : decode cX10_refuses 54 = .ok (.baload, 1) := by decide +kernel
theorem dX10_refuses_55 : decode cX10_refuses 55 = .ok (.ifCond .eq 7, 3) := by decide +kernel
theorem dX10_refuses_58 : decode cX10_refuses 58 = .ok (.iconst (-1), 1) := by decide +kernel
theorem dX10_refuses_59 : decode cX10_refuses 59 = .ok (.goto 13, 3) := by decide +kernel
theorem dX10_refuses_62 : decode cX10_refuses 62 = .ok (.iload 5, 2) := by decide +kernel
theorem dX10_refuses_64 : decode cX10_refuses 64 = .ok (.ifCond .eq 7, 3) := by decide +kernel
theorem dX10_refuses_67 : decode cX10_refuses 67 = .ok (.iconst 0, 1) := by decide +kernel
theorem dX10_refuses_68 : decode cX10_refuses 68 = .ok (.goto 4, 3) := by decide +kernel
theorem dX10_refuses_71 : decode cX10_refuses 71 = .ok (.iconst 1, 1) := by decide +kernel
theorem dX10_refuses_72 : decode cX10_refuses 72 = .ok (.iadd, 1) := by decide +kernel
theorem dX10_refuses_73 : decode cX10_refuses 73 = .ok (.istore_n 3, 1) := by decide +kernel
theorem dX10_refuses_74 : decode cX10_refuses 74 = .ok (.aload_n 0, 1) := by decide +kernel
theorem dX10_refuses_75 : decode cX10_refuses 75 = .ok (.getfield 53, 3) := by decide +kernel
theorem dX10_refuses_78 : decode cX10_refuses 78 = .ok (.iload 4, 2) := by decide +kernel
theorem dX10_refuses_80 : decode cX10_refuses 80 = .ok (.iaload, 1) := by decide +kernel
theorem dX10_refuses_81 : decode cX10_refuses 81 = .ok (.iload_n 2, 1) := by decide +kernel
theorem dX10_refuses_82 : decode cX10_refuses 82 = .ok (.if_icmp .le 24, 3) := by decide +kernel
theorem dX10_refuses_85 : decode cX10_refuses 85 = .ok (.aload_n 0, 1) := by decide +kernel
theorem dX10_refuses_86 : decode cX10_refuses 86 = .ok (.getfield 62, 3) := by decide +kernel
theorem dX10_refuses_89 : decode cX10_refuses 89 = .ok (.iload 4, 2) := by decide +kernel
theorem dX10_refuses_91 : decode cX10_refuses 91 = .ok (.baload, 1) := by decide +kernel
theorem dX10_refuses_92 : decode cX10_refuses 92 = .ok (.ifCond .eq 8, 3) := by decide +kernel
theorem dX10_refuses_95 : decode cX10_refuses 95 = .ok (.iload 5, 2) := by decide +kernel
theorem dX10_refuses_97 : decode cX10_refuses 97 = .ok (.ifCond .eq 9, 3) := by decide +kernel
theorem dX10_refuses_100 : decode cX10_refuses 100 = .ok (.iload_n 3, 1) := by decide +kernel
theorem dX10_refuses_101 : decode cX10_refuses 101 = .ok (.bipush 30, 2) := by decide +kernel
theorem dX10_refuses_103 : decode cX10_refuses 103 = .ok (.if_icmp .le 8, 3) := by decide +kernel
theorem dX10_refuses_106 : decode cX10_refuses 106 = .ok (.iload 4, 2) := by decide +kernel
theorem dX10_refuses_108 : decode cX10_refuses 108 = .ok (.iconst 1, 1) := by decide +kernel
theorem dX10_refuses_109 : decode cX10_refuses 109 = .ok (.iadd, 1) := by decide +kernel
theorem dX10_refuses_110 : decode cX10_refuses 110 = .ok (.ireturn, 1) := by decide +kernel
theorem dX10_refuses_111 : decode cX10_refuses 111 = .ok (.aload_n 0, 1) := by decide +kernel
theorem dX10_refuses_112 : decode cX10_refuses 112 = .ok (.getfield 53, 3) := by decide +kernel
theorem dX10_refuses_115 : decode cX10_refuses 115 = .ok (.iload 4, 2) := by decide +kernel
theorem dX10_refuses_117 : decode cX10_refuses 117 = .ok (.iaload, 1) := by decide +kernel
theorem dX10_refuses_118 : decode cX10_refuses 118 = .ok (.istore_n 2, 1) := by decide +kernel
theorem dX10_refuses_119 : decode cX10_refuses 119 = .ok (.iinc 4 1, 3) := by decide +kernel
theorem dX10_refuses_122 : decode cX10_refuses 122 = .ok (.goto (-110), 3) := by decide +kernel
theorem dX10_refuses_125 : decode cX10_refuses 125 = .ok (.iconst 0, 1) := by decide +kernel
theorem dX10_refuses_126 : decode cX10_refuses 126 = .ok (.ireturn, 1) := by decide +kernel
theorem dX10_update_0 : decode cX10_update 0 = .ok (.aload_n 0, 1) := by decide +kernel
theorem dX10_update_1 : decode cX10_update 1 = .ok (.iconst 0, 1) := by decide +kernel
theorem dX10_update_2 : decode cX10_update 2 = .ok (.putfield 84, 3) := by decide +kernel
theorem dX10_update_5 : decode cX10_update 5 = .ok (.aload_n 0, 1) := by decide +kernel
theorem dX10_update_6 : decode cX10_update 6 = .ok (.iload_n 1, 1) := by decide +kernel
theorem dX10_update_7 : decode cX10_update 7 = .ok (.invokevirtual 114, 3) := by decide +kernel
theorem dX10_update_10 : decode cX10_update 10 = .ok (.ifCond .ne 6, 3) := by decide +kernel
theorem dX10_update_13 : decode cX10_update 13 = .ok (.bipush (-100), 2) := by decide +kernel
theorem dX10_update_15 : decode cX10_update 15 = .ok (.ireturn, 1) := by decide +kernel
theorem dX10_update_16 : decode cX10_update 16 = .ok (.aload_n 0, 1) := by decide +kernel
theorem dX10_update_17 : decode cX10_update 17 = .ok (.iload_n 1, 1) := by decide +kernel
theorem dX10_update_18 : decode cX10_update 18 = .ok (.invokevirtual 181, 3) := by decide +kernel
theorem dX10_update_21 : decode cX10_update 21 = .ok (.istore_n 2, 1) := by decide +kernel
theorem dX10_update_22 : decode cX10_update 22 = .ok (.iconst 0, 1) := by decide +kernel
theorem dX10_update_23 : decode cX10_update 23 = .ok (.istore_n 3, 1) := by decide +kernel
theorem dX10_update_24 : decode cX10_update 24 = .ok (.iload_n 3, 1) := by decide +kernel
theorem dX10_update_25 : decode cX10_update 25 = .ok (.aload_n 0, 1) := by decide +kernel
theorem dX10_update_26 : decode cX10_update 26 = .ok (.getfield 178, 3) := by decide +kernel
theorem dX10_update_29 : decode cX10_update 29 = .ok (.if_icmp .ge 132, 3) := by decide +kernel
theorem dX10_update_32 : decode cX10_update 32 = .ok (.iload_n 2, 1) := by decide +kernel
theorem dX10_update_33 : decode cX10_update 33 = .ok (.ifCond .ne 128, 3) := by decide +kernel
theorem dX10_update_36 : decode cX10_update 36 = .ok (.aload_n 0, 1) := by decide +kernel
theorem dX10_update_37 : decode cX10_update 37 = .ok (.iload_n 1, 1) := by decide +kernel
theorem dX10_update_38 : decode cX10_update 38 = .ok (.aload_n 0, 1) := by decide +kernel
theorem dX10_update_39 : decode cX10_update 39 = .ok (.getfield 53, 3) := by decide +kernel
theorem dX10_update_42 : decode cX10_update 42 = .ok (.iload_n 3, 1) := by decide +kernel
theorem dX10_update_43 : decode cX10_update 43 = .ok (.iaload, 1) := by decide +kernel
theorem dX10_update_44 : decode cX10_update 44 = .ok (.invokevirtual 123, 3) := by decide +kernel
theorem dX10_update_47 : decode cX10_update 47 = .ok (.istore 4, 2) := by decide +kernel
theorem dX10_update_49 : decode cX10_update 49 = .ok (.aload_n 0, 1) := by decide +kernel
theorem dX10_update_50 : decode cX10_update 50 = .ok (.getfield 62, 3) := by decide +kernel
theorem dX10_update_53 : decode cX10_update 53 = .ok (.iload_n 3, 1) := by decide +kernel
theorem dX10_update_54 : decode cX10_update 54 = .ok (.baload, 1) := by decide +kernel
theorem dX10_update_55 : decode cX10_update 55 = .ok (.ifCond .eq 13, 3) := by decide +kernel
theorem dX10_update_58 : decode cX10_update 58 = .ok (.aload_n 0, 1) := by decide +kernel
theorem dX10_update_59 : decode cX10_update 59 = .ok (.iload_n 1, 1) := by decide +kernel
theorem dX10_update_60 : decode cX10_update 60 = .ok (.iload 4, 2) := by decide +kernel
theorem dX10_update_62 : decode cX10_update 62 = .ok (.invokevirtual 184, 3) := by decide +kernel
theorem dX10_update_65 : decode cX10_update 65 = .ok (.goto 90, 3) := by decide +kernel
theorem dX10_update_68 : decode cX10_update 68 = .ok (.aload_n 0, 1) := by decide +kernel
theorem dX10_update_69 : decode cX10_update 69 = .ok (.iload_n 1, 1) := by decide +kernel
theorem dX10_update_70 : decode cX10_update 70 = .ok (.iload 4, 2) := by decide +kernel
theorem dX10_update_72 : decode cX10_update 72 = .ok (.aload_n 0, 1) := by decide +kernel
theorem dX10_update_73 : decode cX10_update 73 = .ok (.getfield 53, 3) := by decide +kernel
theorem dX10_update_76 : decode cX10_update 76 = .ok (.iload_n 3, 1) := by decide +kernel
theorem dX10_update_77 : decode cX10_update 77 = .ok (.iaload, 1) := by decide +kernel
theorem dX10_update_78 : decode cX10_update 78 = .ok (.invokevirtual 126, 3) := by decide +kernel
theorem dX10_update_81 : decode cX10_update 81 = .ok (.ifCond .ne 16, 3) := by decide +kernel
theorem dX10_update_84 : decode cX10_update 84 = .ok (.aload_n 0, 1) := by decide +kernel
theorem dX10_update_85 : decode cX10_update 85 = .ok (.iload_n 1, 1) := by decide +kernel
theorem dX10_update_86 : decode cX10_update 86 = .ok (.iload 4, 2) := by decide +kernel
theorem dX10_update_88 : decode cX10_update 88 = .ok (.aload_n 0, 1) := by decide +kernel
theorem dX10_update_89 : decode cX10_update 89 = .ok (.getfield 53, 3) := by decide +kernel
theorem dX10_update_92 : decode cX10_update 92 = .ok (.iload_n 3, 1) := by decide +kernel
theorem dX10_update_93 : decode cX10_update 93 = .ok (.iaload, 1) := by decide +kernel
theorem dX10_update_94 : decode cX10_update 94 = .ok (.invokevirtual 130, 3) := by decide +kernel
theorem dX10_update_97 : decode cX10_update 97 = .ok (.aload_n 0, 1) := by decide +kernel
theorem dX10_update_98 : decode cX10_update 98 = .ok (.getfield 29, 3) := by decide +kernel
theorem dX10_update_101 : decode cX10_update 101 = .ok (.iload 4, 2) := by decide +kernel
theorem dX10_update_103 : decode cX10_update 103 = .ok (.aload_n 0, 1) := by decide +kernel
theorem dX10_update_104 : decode cX10_update 104 = .ok (.getfield 56, 3) := by decide +kernel
theorem dX10_update_107 : decode cX10_update 107 = .ok (.iload_n 3, 1) := by decide +kernel
theorem dX10_update_108 : decode cX10_update 108 = .ok (.iaload, 1) := by decide +kernel
theorem dX10_update_109 : decode cX10_update 109 = .ok (.iastore, 1) := by decide +kernel
theorem dX10_update_110 : decode cX10_update 110 = .ok (.iconst 0, 1) := by decide +kernel
theorem dX10_update_111 : decode cX10_update 111 = .ok (.istore 5, 2) := by decide +kernel
theorem dX10_update_113 : decode cX10_update 113 = .ok (.iload 5, 2) := by decide +kernel
theorem dX10_update_115 : decode cX10_update 115 = .ok (.aload_n 0, 1) := by decide +kernel
theorem dX10_update_116 : decode cX10_update 116 = .ok (.getfield 56, 3) := by decide +kernel
theorem dX10_update_119 : decode cX10_update 119 = .ok (.iload_n 3, 1) := by decide +kernel
theorem dX10_update_120 : decode cX10_update 120 = .ok (.iaload, 1) := by decide +kernel
theorem dX10_update_121 : decode cX10_update 121 = .ok (.if_icmp .ge 34, 3) := by decide +kernel
theorem dX10_update_124 : decode cX10_update 124 = .ok (.aload_n 0, 1) := by decide +kernel
theorem dX10_update_125 : decode cX10_update 125 = .ok (.getfield 32, 3) := by decide +kernel
theorem dX10_update_128 : decode cX10_update 128 = .ok (.bipush 10, 2) := by decide +kernel
theorem dX10_update_130 : decode cX10_update 130 = .ok (.iload 4, 2) := by decide +kernel
theorem dX10_update_132 : decode cX10_update 132 = .ok (.imul, 1) := by decide +kernel
theorem dX10_update_133 : decode cX10_update 133 = .ok (.iload 5, 2) := by decide +kernel
theorem dX10_update_135 : decode cX10_update 135 = .ok (.iadd, 1) := by decide +kernel
theorem dX10_update_136 : decode cX10_update 136 = .ok (.aload_n 0, 1) := by decide +kernel
theorem dX10_update_137 : decode cX10_update 137 = .ok (.getfield 59, 3) := by decide +kernel
theorem dX10_update_140 : decode cX10_update 140 = .ok (.bipush 10, 2) := by decide +kernel
theorem dX10_update_142 : decode cX10_update 142 = .ok (.iload_n 3, 1) := by decide +kernel
theorem dX10_update_143 : decode cX10_update 143 = .ok (.imul, 1) := by decide +kernel
theorem dX10_update_144 : decode cX10_update 144 = .ok (.iload 5, 2) := by decide +kernel
theorem dX10_update_146 : decode cX10_update 146 = .ok (.iadd, 1) := by decide +kernel
theorem dX10_update_147 : decode cX10_update 147 = .ok (.iaload, 1) := by decide +kernel
theorem dX10_update_148 : decode cX10_update 148 = .ok (.iastore, 1) := by decide +kernel
theorem dX10_update_149 : decode cX10_update 149 = .ok (.iinc 5 1, 3) := by decide +kernel
theorem dX10_update_152 : decode cX10_update 152 = .ok (.goto (-39), 3) := by decide +kernel
theorem dX10_update_155 : decode cX10_update 155 = .ok (.iinc 3 1, 3) := by decide +kernel
theorem dX10_update_158 : decode cX10_update 158 = .ok (.goto (-134), 3) := by decide +kernel
theorem dX10_update_161 : decode cX10_update 161 = .ok (.aload_n 0, 1) := by decide +kernel
theorem dX10_update_162 : decode cX10_update 162 = .ok (.iconst 0, 1) := by decide +kernel
theorem dX10_update_163 : decode cX10_update 163 = .ok (.putfield 178, 3) := by decide +kernel
theorem dX10_update_166 : decode cX10_update 166 = .ok (.iload_n 2, 1) := by decide +kernel
theorem dX10_update_167 : decode cX10_update 167 = .ok (.ifCond .le 9, 3) := by decide +kernel
theorem dX10_update_170 : decode cX10_update 170 = .ok (.iconst 0, 1) := by decide +kernel
theorem dX10_update_171 : decode cX10_update 171 = .ok (.iload_n 2, 1) := by decide +kernel
theorem dX10_update_172 : decode cX10_update 172 = .ok (.isub, 1) := by decide +kernel
theorem dX10_update_173 : decode cX10_update 173 = .ok (.goto 9, 3) := by decide +kernel
theorem dX10_update_176 : decode cX10_update 176 = .ok (.aload_n 0, 1) := by decide +kernel
theorem dX10_update_177 : decode cX10_update 177 = .ok (.getfield 20, 3) := by decide +kernel
theorem dX10_update_180 : decode cX10_update 180 = .ok (.iload_n 1, 1) := by decide +kernel
theorem dX10_update_181 : decode cX10_update 181 = .ok (.iaload, 1) := by decide +kernel
theorem dX10_update_182 : decode cX10_update 182 = .ok (.ireturn, 1) := by decide +kernel
theorem dX10_newSet_0 : decode cX10_newSet 0 = .ok (.aload_n 0, 1) := by decide +kernel
theorem dX10_newSet_1 : decode cX10_newSet 1 = .ok (.dup, 1) := by decide +kernel
theorem dX10_newSet_2 : decode cX10_newSet 2 = .ok (.getfield 93, 3) := by decide +kernel
theorem dX10_newSet_5 : decode cX10_newSet 5 = .ok (.iconst 1, 1) := by decide +kernel
theorem dX10_newSet_6 : decode cX10_newSet 6 = .ok (.iadd, 1) := by decide +kernel
theorem dX10_newSet_7 : decode cX10_newSet 7 = .ok (.putfield 93, 3) := by decide +kernel
theorem dX10_newSet_10 : decode cX10_newSet 10 = .ok (.aload_n 0, 1) := by decide +kernel
theorem dX10_newSet_11 : decode cX10_newSet 11 = .ok (.getfield 35, 3) := by decide +kernel
theorem dX10_newSet_14 : decode cX10_newSet 14 = .ok (.aload_n 0, 1) := by decide +kernel
theorem dX10_newSet_15 : decode cX10_newSet 15 = .ok (.getfield 93, 3) := by decide +kernel
theorem dX10_newSet_18 : decode cX10_newSet 18 = .ok (.iload_n 1, 1) := by decide +kernel
theorem dX10_newSet_19 : decode cX10_newSet 19 = .ok (.iastore, 1) := by decide +kernel
theorem dX10_newSet_20 : decode cX10_newSet 20 = .ok (.aload_n 0, 1) := by decide +kernel
theorem dX10_newSet_21 : decode cX10_newSet 21 = .ok (.getfield 47, 3) := by decide +kernel
theorem dX10_newSet_24 : decode cX10_newSet 24 = .ok (.aload_n 0, 1) := by decide +kernel
theorem dX10_newSet_25 : decode cX10_newSet 25 = .ok (.getfield 93, 3) := by decide +kernel
theorem dX10_newSet_28 : decode cX10_newSet 28 = .ok (.iload_n 2, 1) := by decide +kernel
theorem dX10_newSet_29 : decode cX10_newSet 29 = .ok (.bastore, 1) := by decide +kernel
theorem dX10_newSet_30 : decode cX10_newSet 30 = .ok (.aload_n 0, 1) := by decide +kernel
theorem dX10_newSet_31 : decode cX10_newSet 31 = .ok (.getfield 38, 3) := by decide +kernel
theorem dX10_newSet_34 : decode cX10_newSet 34 = .ok (.aload_n 0, 1) := by decide +kernel
theorem dX10_newSet_35 : decode cX10_newSet 35 = .ok (.getfield 93, 3) := by decide +kernel
theorem dX10_newSet_38 : decode cX10_newSet 38 = .ok (.iconst 0, 1) := by decide +kernel
theorem dX10_newSet_39 : decode cX10_newSet 39 = .ok (.iastore, 1) := by decide +kernel
theorem dX10_newSet_40 : decode cX10_newSet 40 = .ok (.aload_n 0, 1) := by decide +kernel
theorem dX10_newSet_41 : decode cX10_newSet 41 = .ok (.getfield 41, 3) := by decide +kernel
theorem dX10_newSet_44 : decode cX10_newSet 44 = .ok (.aload_n 0, 1) := by decide +kernel
theorem dX10_newSet_45 : decode cX10_newSet 45 = .ok (.getfield 93, 3) := by decide +kernel
theorem dX10_newSet_48 : decode cX10_newSet 48 = .ok (.iconst 0, 1) := by decide +kernel
theorem dX10_newSet_49 : decode cX10_newSet 49 = .ok (.iastore, 1) := by decide +kernel
theorem dX10_newSet_50 : decode cX10_newSet 50 = .ok (.aload_n 0, 1) := by decide +kernel
theorem dX10_newSet_51 : decode cX10_newSet 51 = .ok (.getfield 93, 3) := by decide +kernel
theorem dX10_newSet_54 : decode cX10_newSet 54 = .ok (.ireturn, 1) := by decide +kernel
theorem dX10_define_0 : decode cX10_define 0 = .ok (.aload_n 0, 1) := by decide +kernel
theorem dX10_define_1 : decode cX10_define 1 = .ok (.iconst 0, 1) := by decide +kernel
theorem dX10_define_2 : decode cX10_define 2 = .ok (.putfield 84, 3) := by decide +kernel
theorem dX10_define_5 : decode cX10_define 5 = .ok (.iload_n 1, 1) := by decide +kernel
theorem dX10_define_6 : decode cX10_define 6 = .ok (.invokestatic 100, 3) := by decide +kernel
theorem dX10_define_9 : decode cX10_define 9 = .ok (.ifCond .ne 6, 3) := by decide +kernel
theorem dX10_define_12 : decode cX10_define 12 = .ok (.bipush (-4), 2) := by decide +kernel
theorem dX10_define_14 : decode cX10_define 14 = .ok (.ireturn, 1) := by decide +kernel
theorem dX10_define_15 : decode cX10_define 15 = .ok (.aload_n 0, 1) := by decide +kernel
theorem dX10_define_16 : decode cX10_define 16 = .ok (.iload_n 1, 1) := by decide +kernel
theorem dX10_define_17 : decode cX10_define 17 = .ok (.invokevirtual 157, 3) := by decide +kernel
theorem dX10_define_20 : decode cX10_define 20 = .ok (.ifCond .le 6, 3) := by decide +kernel
theorem dX10_define_23 : decode cX10_define 23 = .ok (.bipush (-5), 2) := by decide +kernel
theorem dX10_define_25 : decode cX10_define 25 = .ok (.ireturn, 1) := by decide +kernel
theorem dX10_define_26 : decode cX10_define 26 = .ok (.aload_n 0, 1) := by decide +kernel
theorem dX10_define_27 : decode cX10_define 27 = .ok (.getfield 93, 3) := by decide +kernel
theorem dX10_define_30 : decode cX10_define 30 = .ok (.bipush 20, 2) := by decide +kernel
theorem dX10_define_32 : decode cX10_define 32 = .ok (.if_icmp .ne 7, 3) := by decide +kernel
theorem dX10_define_35 : decode cX10_define 35 = .ok (.iconst (-1), 1) := by decide +kernel
theorem dX10_define_36 : decode cX10_define 36 = .ok (.goto 9, 3) := by decide +kernel
theorem dX10_define_39 : decode cX10_define 39 = .ok (.aload_n 0, 1) := by decide +kernel
theorem dX10_define_40 : decode cX10_define 40 = .ok (.iload_n 1, 1) := by decide +kernel
theorem dX10_define_41 : decode cX10_define 41 = .ok (.iload_n 2, 1) := by decide +kernel
theorem dX10_define_42 : decode cX10_define 42 = .ok (.invokevirtual 187, 3) := by decide +kernel
theorem dX10_define_45 : decode cX10_define 45 = .ok (.ireturn, 1) := by decide +kernel
theorem dX10_record_0 : decode cX10_record 0 = .ok (.aload_n 0, 1) := by decide +kernel
theorem dX10_record_1 : decode cX10_record 1 = .ok (.iconst 0, 1) := by decide +kernel
theorem dX10_record_2 : decode cX10_record 2 = .ok (.putfield 84, 3) := by decide +kernel
theorem dX10_record_5 : decode cX10_record 5 = .ok (.aload_n 0, 1) := by decide +kernel
theorem dX10_record_6 : decode cX10_record 6 = .ok (.iload_n 1, 1) := by decide +kernel
theorem dX10_record_7 : decode cX10_record 7 = .ok (.invokevirtual 154, 3) := by decide +kernel
theorem dX10_record_10 : decode cX10_record 10 = .ok (.ifCond .ne 6, 3) := by decide +kernel
theorem dX10_record_13 : decode cX10_record 13 = .ok (.bipush (-2), 2) := by decide +kernel
theorem dX10_record_15 : decode cX10_record 15 = .ok (.ireturn, 1) := by decide +kernel
theorem dX10_record_16 : decode cX10_record 16 = .ok (.aload_n 0, 1) := by decide +kernel
theorem dX10_record_17 : decode cX10_record 17 = .ok (.getfield 38, 3) := by decide +kernel
theorem dX10_record_20 : decode cX10_record 20 = .ok (.iload_n 1, 1) := by decide +kernel
theorem dX10_record_21 : decode cX10_record 21 = .ok (.iaload, 1) := by decide +kernel
theorem dX10_record_22 : decode cX10_record 22 = .ok (.bipush 60, 2) := by decide +kernel
theorem dX10_record_24 : decode cX10_record 24 = .ok (.if_icmp .ne 5, 3) := by decide +kernel
theorem dX10_record_27 : decode cX10_record 27 = .ok (.iconst (-1), 1) := by decide +kernel
theorem dX10_record_28 : decode cX10_record 28 = .ok (.ireturn, 1) := by decide +kernel
theorem dX10_record_29 : decode cX10_record 29 = .ok (.aload_n 0, 1) := by decide +kernel
theorem dX10_record_30 : decode cX10_record 30 = .ok (.getfield 44, 3) := by decide +kernel
theorem dX10_record_33 : decode cX10_record 33 = .ok (.bipush 60, 2) := by decide +kernel
theorem dX10_record_35 : decode cX10_record 35 = .ok (.iload_n 1, 1) := by decide +kernel
theorem dX10_record_36 : decode cX10_record 36 = .ok (.imul, 1) := by decide +kernel
theorem dX10_record_37 : decode cX10_record 37 = .ok (.aload_n 0, 1) := by decide +kernel
theorem dX10_record_38 : decode cX10_record 38 = .ok (.getfield 38, 3) := by decide +kernel
theorem dX10_record_41 : decode cX10_record 41 = .ok (.iload_n 1, 1) := by decide +kernel
theorem dX10_record_42 : decode cX10_record 42 = .ok (.iaload, 1) := by decide +kernel
theorem dX10_record_43 : decode cX10_record 43 = .ok (.iadd, 1) := by decide +kernel
theorem dX10_record_44 : decode cX10_record 44 = .ok (.iload_n 2, 1) := by decide +kernel
theorem dX10_record_45 : decode cX10_record 45 = .ok (.iastore, 1) := by decide +kernel
theorem dX10_record_46 : decode cX10_record 46 = .ok (.aload_n 0, 1) := by decide +kernel
theorem dX10_record_47 : decode cX10_record 47 = .ok (.getfield 38, 3) := by decide +kernel
theorem dX10_record_50 : decode cX10_record 50 = .ok (.iload_n 1, 1) := by decide +kernel
theorem dX10_record_51 : decode cX10_record 51 = .ok (.dup2, 1) := by decide +kernel
theorem dX10_record_52 : decode cX10_record 52 = .ok (.iaload, 1) := by decide +kernel
theorem dX10_record_53 : decode cX10_record 53 = .ok (.iconst 1, 1) := by decide +kernel
theorem dX10_record_54 : decode cX10_record 54 = .ok (.iadd, 1) := by decide +kernel
theorem dX10_record_55 : decode cX10_record 55 = .ok (.iastore, 1) := by decide +kernel
theorem dX10_record_56 : decode cX10_record 56 = .ok (.aload_n 0, 1) := by decide +kernel
theorem dX10_record_57 : decode cX10_record 57 = .ok (.getfield 38, 3) := by decide +kernel
theorem dX10_record_60 : decode cX10_record 60 = .ok (.iload_n 1, 1) := by decide +kernel
theorem dX10_record_61 : decode cX10_record 61 = .ok (.iaload, 1) := by decide +kernel
theorem dX10_record_62 : decode cX10_record 62 = .ok (.ireturn, 1) := by decide +kernel
theorem dX10_export0_0 : decode cX10_export0 0 = .ok (.aload_n 0, 1) := by decide +kernel
theorem dX10_export0_1 : decode cX10_export0 1 = .ok (.iconst 0, 1) := by decide +kernel
theorem dX10_export0_2 : decode cX10_export0 2 = .ok (.putfield 84, 3) := by decide +kernel
theorem dX10_export0_5 : decode cX10_export0 5 = .ok (.aload_n 0, 1) := by decide +kernel
theorem dX10_export0_6 : decode cX10_export0 6 = .ok (.iload_n 1, 1) := by decide +kernel
theorem dX10_export0_7 : decode cX10_export0 7 = .ok (.invokevirtual 154, 3) := by decide +kernel
theorem dX10_export0_10 : decode cX10_export0 10 = .ok (.ifCond .ne 6, 3) := by decide +kernel
theorem dX10_export0_13 : decode cX10_export0 13 = .ok (.bipush (-2), 2) := by decide +kernel
theorem dX10_export0_15 : decode cX10_export0 15 = .ok (.ireturn, 1) := by decide +kernel
theorem dX10_export0_16 : decode cX10_export0 16 = .ok (.aload_n 0, 1) := by decide +kernel
theorem dX10_export0_17 : decode cX10_export0 17 = .ok (.iconst 4, 1) := by decide +kernel
theorem dX10_export0_18 : decode cX10_export0 18 = .ok (.iconst 4, 1) := by decide +kernel
theorem dX10_export0_19 : decode cX10_export0 19 = .ok (.aload_n 0, 1) := by decide +kernel
theorem dX10_export0_20 : decode cX10_export0 20 = .ok (.getfield 41, 3) := by decide +kernel
theorem dX10_export0_23 : decode cX10_export0 23 = .ok (.iload_n 1, 1) := by decide +kernel
theorem dX10_export0_24 : decode cX10_export0 24 = .ok (.iaload, 1) := by decide +kernel
theorem dX10_export0_25 : decode cX10_export0 25 = .ok (.imul, 1) := by decide +kernel
theorem dX10_export0_26 : decode cX10_export0 26 = .ok (.iadd, 1) := by decide +kernel
theorem dX10_export0_27 : decode cX10_export0 27 = .ok (.putfield 191, 3) := by decide +kernel
theorem dX10_export0_30 : decode cX10_export0 30 = .ok (.aload_n 0, 1) := by decide +kernel
theorem dX10_export0_31 : decode cX10_export0 31 = .ok (.getfield 78, 3) := by decide +kernel
theorem dX10_export0_34 : decode cX10_export0 34 = .ok (.iconst 0, 1) := by decide +kernel
theorem dX10_export0_35 : decode cX10_export0 35 = .ok (.bipush 69, 2) := by decide +kernel
theorem dX10_export0_37 : decode cX10_export0 37 = .ok (.iastore, 1) := by decide +kernel
theorem dX10_export0_38 : decode cX10_export0 38 = .ok (.aload_n 0, 1) := by decide +kernel
theorem dX10_export0_39 : decode cX10_export0 39 = .ok (.getfield 78, 3) := by decide +kernel
theorem dX10_export0_42 : decode cX10_export0 42 = .ok (.iconst 1, 1) := by decide +kernel
theorem dX10_export0_43 : decode cX10_export0 43 = .ok (.aload_n 0, 1) := by decide +kernel
theorem dX10_export0_44 : decode cX10_export0 44 = .ok (.getfield 35, 3) := by decide +kernel
theorem dX10_export0_47 : decode cX10_export0 47 = .ok (.iload_n 1, 1) := by decide +kernel
theorem dX10_export0_48 : decode cX10_export0 48 = .ok (.iaload, 1) := by decide +kernel
theorem dX10_export0_49 : decode cX10_export0 49 = .ok (.iastore, 1) := by decide +kernel
theorem dX10_export0_50 : decode cX10_export0 50 = .ok (.aload_n 0, 1) := by decide +kernel
theorem dX10_export0_51 : decode cX10_export0 51 = .ok (.getfield 78, 3) := by decide +kernel
theorem dX10_export0_54 : decode cX10_export0 54 = .ok (.iconst 2, 1) := by decide +kernel
theorem dX10_export0_55 : decode cX10_export0 55 = .ok (.aload_n 0, 1) := by decide +kernel
theorem dX10_export0_56 : decode cX10_export0 56 = .ok (.getfield 47, 3) := by decide +kernel
theorem dX10_export0_59 : decode cX10_export0 59 = .ok (.iload_n 1, 1) := by decide +kernel
theorem dX10_export0_60 : decode cX10_export0 60 = .ok (.baload, 1) := by decide +kernel
theorem dX10_export0_61 : decode cX10_export0 61 = .ok (.ifCond .eq 7, 3) := by decide +kernel
theorem dX10_export0_64 : decode cX10_export0 64 = .ok (.iconst 1, 1) := by decide +kernel
theorem dX10_export0_65 : decode cX10_export0 65 = .ok (.goto 4, 3) := by decide +kernel
theorem dX10_export0_68 : decode cX10_export0 68 = .ok (.iconst 0, 1) := by decide +kernel
theorem dX10_export0_69 : decode cX10_export0 69 = .ok (.iastore, 1) := by decide +kernel
theorem dX10_export0_70 : decode cX10_export0 70 = .ok (.aload_n 0, 1) := by decide +kernel
theorem dX10_export0_71 : decode cX10_export0 71 = .ok (.getfield 78, 3) := by decide +kernel
theorem dX10_export0_74 : decode cX10_export0 74 = .ok (.iconst 3, 1) := by decide +kernel
theorem dX10_export0_75 : decode cX10_export0 75 = .ok (.aload_n 0, 1) := by decide +kernel
theorem dX10_export0_76 : decode cX10_export0 76 = .ok (.getfield 41, 3) := by decide +kernel
theorem dX10_export0_79 : decode cX10_export0 79 = .ok (.iload_n 1, 1) := by decide +kernel
theorem dX10_export0_80 : decode cX10_export0 80 = .ok (.iaload, 1) := by decide +kernel
theorem dX10_export0_81 : decode cX10_export0 81 = .ok (.iastore, 1) := by decide +kernel
theorem dX10_export0_82 : decode cX10_export0 82 = .ok (.iconst 0, 1) := by decide +kernel
theorem dX10_export0_83 : decode cX10_export0 83 = .ok (.istore_n 2, 1) := by decide +kernel
theorem dX10_export0_84 : decode cX10_export0 84 = .ok (.iload_n 2, 1) := by decide +kernel
theorem dX10_export0_85 : decode cX10_export0 85 = .ok (.iconst 4, 1) := by decide +kernel
theorem dX10_export0_86 : decode cX10_export0 86 = .ok (.aload_n 0, 1) := by decide +kernel
theorem dX10_export0_87 : decode cX10_export0 87 = .ok (.getfield 41, 3) := by decide +kernel
theorem dX10_export0_90 : decode cX10_export0 90 = .ok (.iload_n 1, 1) := by decide +kernel
theorem dX10_export0_91 : decode cX10_export0 91 = .ok (.iaload, 1) := by decide +kernel
theorem dX10_export0_92 : decode cX10_export0 92 = .ok (.imul, 1) := by decide +kernel
theorem dX10_export0_93 : decode cX10_export0 93 = .ok (.if_icmp .ge 44, 3) := by decide +kernel
theorem dX10_export0_96 : decode cX10_export0 96 = .ok (.aload_n 0, 1) := by decide +kernel
theorem dX10_export0_97 : decode cX10_export0 97 = .ok (.getfield 78, 3) := by decide +kernel
theorem dX10_export0_100 : decode cX10_export0 100 = .ok (.iconst 4, 1) := by decide +kernel
theorem dX10_export0_101 : decode cX10_export0 101 = .ok (.iload_n 2, 1) := by decide +kernel
theorem dX10_export0_102 : decode cX10_export0 102 = .ok (.iadd, 1) := by decide +kernel
theorem dX10_export0_103 : decode cX10_export0 103 = .ok (.aload_n 0, 1) := by decide +kernel
theorem dX10_export0_104 : decode cX10_export0 104 = .ok (.getfield 44, 3) := by decide +kernel
theorem dX10_export0_107 : decode cX10_export0 107 = .ok (.bipush 60, 2) := by decide +kernel
theorem dX10_export0_109 : decode cX10_export0 109 = .ok (.iload_n 1, 1) := by decide +kernel
theorem dX10_export0_110 : decode cX10_export0 110 = .ok (.imul, 1) := by decide +kernel
theorem dX10_export0_111 : decode cX10_export0 111 = .ok (.iload_n 2, 1) := by decide +kernel
theorem dX10_export0_112 : decode cX10_export0 112 = .ok (.iconst 4, 1) := by decide +kernel
theorem dX10_export0_113 : decode cX10_export0 113 = .ok (.idiv, 1) := by decide +kernel
theorem dX10_export0_114 : decode cX10_export0 114 = .ok (.iadd, 1) := by decide +kernel
theorem dX10_export0_115 : decode cX10_export0 115 = .ok (.iaload, 1) := by decide +kernel
theorem dX10_export0_116 : decode cX10_export0 116 = .ok (.bipush 24, 2) := by decide +kernel
theorem dX10_export0_118 : decode cX10_export0 118 = .ok (.bipush 8, 2) := by decide +kernel
theorem dX10_export0_120 : decode cX10_export0 120 = .ok (.iload_n 2, 1) := by decide +kernel
theorem dX10_export0_121 : decode cX10_export0 121 = .ok (.iconst 4, 1) := by decide +kernel
theorem dX10_export0_122 : decode cX10_export0 122 = .ok (.irem, 1) := by decide +kernel
theorem dX10_export0_123 : decode cX10_export0 123 = .ok (.imul, 1) := by decide +kernel
theorem dX10_export0_124 : decode cX10_export0 124 = .ok (.isub, 1) := by decide +kernel
theorem dX10_export0_125 : decode cX10_export0 125 = .ok (.ishr, 1) := by decide +kernel
theorem dX10_export0_126 : decode cX10_export0 126 = .ok (.sipush 255, 3) := by decide +kernel
theorem dX10_export0_129 : decode cX10_export0 129 = .ok (.iand, 1) := by decide +kernel
theorem dX10_export0_130 : decode cX10_export0 130 = .ok (.iastore, 1) := by decide +kernel
theorem dX10_export0_131 : decode cX10_export0 131 = .ok (.iinc 2 1, 3) := by decide +kernel
theorem dX10_export0_134 : decode cX10_export0 134 = .ok (.goto (-50), 3) := by decide +kernel
theorem dX10_export0_137 : decode cX10_export0 137 = .ok (.aload_n 0, 1) := by decide +kernel
theorem dX10_export0_138 : decode cX10_export0 138 = .ok (.getfield 191, 3) := by decide +kernel
theorem dX10_export0_141 : decode cX10_export0 141 = .ok (.ireturn, 1) := by decide +kernel
theorem dX10_octet_0 : decode cX10_octet 0 = .ok (.aload_n 0, 1) := by decide +kernel
theorem dX10_octet_1 : decode cX10_octet 1 = .ok (.iload_n 1, 1) := by decide +kernel
theorem dX10_octet_2 : decode cX10_octet 2 = .ok (.ifCond .lt 11, 3) := by decide +kernel
theorem dX10_octet_5 : decode cX10_octet 5 = .ok (.iload_n 1, 1) := by decide +kernel
theorem dX10_octet_6 : decode cX10_octet 6 = .ok (.aload_n 0, 1) := by decide +kernel
theorem dX10_octet_7 : decode cX10_octet 7 = .ok (.getfield 191, 3) := by decide +kernel
theorem dX10_octet_10 : decode cX10_octet 10 = .ok (.if_icmp .lt 7, 3) := by decide +kernel
theorem dX10_octet_13 : decode cX10_octet 13 = .ok (.iconst 1, 1) := by decide +kernel
theorem dX10_octet_14 : decode cX10_octet 14 = .ok (.goto 4, 3) := by decide +kernel
theorem dX10_octet_17 : decode cX10_octet 17 = .ok (.iconst 0, 1) := by decide +kernel
theorem dX10_octet_18 : decode cX10_octet 18 = .ok (.putfield 84, 3) := by decide +kernel
theorem dX10_octet_21 : decode cX10_octet 21 = .ok (.aload_n 0, 1) := by decide +kernel
theorem dX10_octet_22 : decode cX10_octet 22 = .ok (.getfield 84, 3) := by decide +kernel
theorem dX10_octet_25 : decode cX10_octet 25 = .ok (.ifCond .le 7, 3) := by decide +kernel
theorem dX10_octet_28 : decode cX10_octet 28 = .ok (.iconst 0, 1) := by decide +kernel
theorem dX10_octet_29 : decode cX10_octet 29 = .ok (.goto 10, 3) := by decide +kernel
theorem dX10_octet_32 : decode cX10_octet 32 = .ok (.aload_n 0, 1) := by decide +kernel
theorem dX10_octet_33 : decode cX10_octet 33 = .ok (.getfield 78, 3) := by decide +kernel
theorem dX10_octet_36 : decode cX10_octet 36 = .ok (.iload_n 1, 1) := by decide +kernel
theorem dX10_octet_37 : decode cX10_octet 37 = .ok (.iaload, 1) := by decide +kernel
theorem dX10_octet_38 : decode cX10_octet 38 = .ok (.i2b, 1) := by decide +kernel
theorem dX10_octet_39 : decode cX10_octet 39 = .ok (.ireturn, 1) := by decide +kernel
theorem dX10_bars_0 : decode cX10_bars 0 = .ok (.aload_n 0, 1) := by decide +kernel
theorem dX10_bars_1 : decode cX10_bars 1 = .ok (.iload_n 1, 1) := by decide +kernel
theorem dX10_bars_2 : decode cX10_bars 2 = .ok (.invokevirtual 157, 3) := by decide +kernel
theorem dX10_bars_5 : decode cX10_bars 5 = .ok (.istore_n 2, 1) := by decide +kernel
theorem dX10_bars_6 : decode cX10_bars 6 = .ok (.iload_n 2, 1) := by decide +kernel
theorem dX10_bars_7 : decode cX10_bars 7 = .ok (.ifCond .le 12, 3) := by decide +kernel
theorem dX10_bars_10 : decode cX10_bars 10 = .ok (.aload_n 0, 1) := by decide +kernel
theorem dX10_bars_11 : decode cX10_bars 11 = .ok (.getfield 47, 3) := by decide +kernel
theorem dX10_bars_14 : decode cX10_bars 14 = .ok (.iload_n 2, 1) := by decide +kernel
theorem dX10_bars_15 : decode cX10_bars 15 = .ok (.baload, 1) := by decide +kernel
theorem dX10_bars_16 : decode cX10_bars 16 = .ok (.goto 17, 3) := by decide +kernel
theorem dX10_bars_19 : decode cX10_bars 19 = .ok (.aload_n 0, 1) := by decide +kernel
theorem dX10_bars_20 : decode cX10_bars 20 = .ok (.getfield 93, 3) := by decide +kernel
theorem dX10_bars_23 : decode cX10_bars 23 = .ok (.bipush 20, 2) := by decide +kernel
theorem dX10_bars_25 : decode cX10_bars 25 = .ok (.if_icmp .ne 7, 3) := by decide +kernel
theorem dX10_bars_28 : decode cX10_bars 28 = .ok (.iconst 1, 1) := by decide +kernel
theorem dX10_bars_29 : decode cX10_bars 29 = .ok (.goto 4, 3) := by decide +kernel
theorem dX10_bars_32 : decode cX10_bars 32 = .ok (.iconst 0, 1) := by decide +kernel
theorem dX10_bars_33 : decode cX10_bars 33 = .ok (.ireturn, 1) := by decide +kernel
theorem dX10_import0_0 : decode cX10_import0 0 = .ok (.aload_n 0, 1) := by decide +kernel
theorem dX10_import0_1 : decode cX10_import0 1 = .ok (.iconst 0, 1) := by decide +kernel
theorem dX10_import0_2 : decode cX10_import0 2 = .ok (.putfield 84, 3) := by decide +kernel
theorem dX10_import0_5 : decode cX10_import0 5 = .ok (.iload_n 1, 1) := by decide +kernel
theorem dX10_import0_6 : decode cX10_import0 6 = .ok (.sipush 255, 3) := by decide +kernel
theorem dX10_import0_9 : decode cX10_import0 9 = .ok (.iand, 1) := by decide +kernel
theorem dX10_import0_10 : decode cX10_import0 10 = .ok (.istore_n 2, 1) := by decide +kernel
theorem dX10_import0_11 : decode cX10_import0 11 = .ok (.aload_n 0, 1) := by decide +kernel
theorem dX10_import0_12 : decode cX10_import0 12 = .ok (.getfield 194, 3) := by decide +kernel
theorem dX10_import0_15 : decode cX10_import0 15 = .ok (.ifCond .ne 9, 3) := by decide +kernel
theorem dX10_import0_18 : decode cX10_import0 18 = .ok (.iload_n 2, 1) := by decide +kernel
theorem dX10_import0_19 : decode cX10_import0 19 = .ok (.bipush 69, 2) := by decide +kernel
theorem dX10_import0_21 : decode cX10_import0 21 = .ok (.if_icmp .ne 52, 3) := by decide +kernel
theorem dX10_import0_24 : decode cX10_import0 24 = .ok (.aload_n 0, 1) := by decide +kernel
theorem dX10_import0_25 : decode cX10_import0 25 = .ok (.getfield 194, 3) := by decide +kernel
theorem dX10_import0_28 : decode cX10_import0 28 = .ok (.iconst 1, 1) := by decide +kernel
theorem dX10_import0_29 : decode cX10_import0 29 = .ok (.if_icmp .ne 17, 3) := by decide +kernel
theorem dX10_import0_32 : decode cX10_import0 32 = .ok (.iload_n 2, 1) := by decide +kernel
theorem dX10_import0_33 : decode cX10_import0 33 = .ok (.bipush 99, 2) := by decide +kernel
theorem dX10_import0_35 : decode cX10_import0 35 = .ok (.if_icmp .gt 38, 3) := by decide +kernel
theorem dX10_import0_38 : decode cX10_import0 38 = .ok (.aload_n 0, 1) := by decide +kernel
theorem dX10_import0_39 : decode cX10_import0 39 = .ok (.iload_n 2, 1) := by decide +kernel
theorem dX10_import0_40 : decode cX10_import0 40 = .ok (.invokevirtual 197, 3) := by decide +kernel
theorem dX10_import0_43 : decode cX10_import0 43 = .ok (.ifCond .ne 30, 3) := by decide +kernel
theorem dX10_import0_46 : decode cX10_import0 46 = .ok (.aload_n 0, 1) := by decide +kernel
theorem dX10_import0_47 : decode cX10_import0 47 = .ok (.getfield 194, 3) := by decide +kernel
theorem dX10_import0_50 : decode cX10_import0 50 = .ok (.iconst 2, 1) := by decide +kernel
theorem dX10_import0_51 : decode cX10_import0 51 = .ok (.if_icmp .ne 8, 3) := by decide +kernel
theorem dX10_import0_54 : decode cX10_import0 54 = .ok (.iload_n 2, 1) := by decide +kernel
theorem dX10_import0_55 : decode cX10_import0 55 = .ok (.iconst 1, 1) := by decide +kernel
theorem dX10_import0_56 : decode cX10_import0 56 = .ok (.if_icmp .gt 17, 3) := by decide +kernel
theorem dX10_import0_59 : decode cX10_import0 59 = .ok (.aload_n 0, 1) := by decide +kernel
theorem dX10_import0_60 : decode cX10_import0 60 = .ok (.getfield 194, 3) := by decide +kernel
theorem dX10_import0_63 : decode cX10_import0 63 = .ok (.iconst 3, 1) := by decide +kernel
theorem dX10_import0_64 : decode cX10_import0 64 = .ok (.if_icmp .ne 13, 3) := by decide +kernel
theorem dX10_import0_67 : decode cX10_import0 67 = .ok (.iload_n 2, 1) := by decide +kernel
theorem dX10_import0_68 : decode cX10_import0 68 = .ok (.bipush 60, 2) := by decide +kernel
theorem dX10_import0_70 : decode cX10_import0 70 = .ok (.if_icmp .le 7, 3) := by decide +kernel
theorem dX10_import0_73 : decode cX10_import0 73 = .ok (.iconst 1, 1) := by decide +kernel
theorem dX10_import0_74 : decode cX10_import0 74 = .ok (.goto 4, 3) := by decide +kernel
theorem dX10_import0_77 : decode cX10_import0 77 = .ok (.iconst 0, 1) := by decide +kernel
theorem dX10_import0_78 : decode cX10_import0 78 = .ok (.istore_n 3, 1) := by decide +kernel
theorem dX10_import0_79 : decode cX10_import0 79 = .ok (.iload_n 3, 1) := by decide +kernel
theorem dX10_import0_80 : decode cX10_import0 80 = .ok (.ifCond .eq 10, 3) := by decide +kernel
theorem dX10_import0_83 : decode cX10_import0 83 = .ok (.aload_n 0, 1) := by decide +kernel
theorem dX10_import0_84 : decode cX10_import0 84 = .ok (.iconst 0, 1) := by decide +kernel
theorem dX10_import0_85 : decode cX10_import0 85 = .ok (.putfield 194, 3) := by decide +kernel
theorem dX10_import0_88 : decode cX10_import0 88 = .ok (.iconst (-1), 1) := by decide +kernel
theorem dX10_import0_89 : decode cX10_import0 89 = .ok (.ireturn, 1) := by decide +kernel
theorem dX10_import0_90 : decode cX10_import0 90 = .ok (.aload_n 0, 1) := by decide +kernel
theorem dX10_import0_91 : decode cX10_import0 91 = .ok (.getfield 81, 3) := by decide +kernel
theorem dX10_import0_94 : decode cX10_import0 94 = .ok (.aload_n 0, 1) := by decide +kernel
theorem dX10_import0_95 : decode cX10_import0 95 = .ok (.getfield 194, 3) := by decide +kernel
theorem dX10_import0_98 : decode cX10_import0 98 = .ok (.iload_n 2, 1) := by decide +kernel
theorem dX10_import0_99 : decode cX10_import0 99 = .ok (.iastore, 1) := by decide +kernel
theorem dX10_import0_100 : decode cX10_import0 100 = .ok (.aload_n 0, 1) := by decide +kernel
theorem dX10_import0_101 : decode cX10_import0 101 = .ok (.dup, 1) := by decide +kernel
theorem dX10_import0_102 : decode cX10_import0 102 = .ok (.getfield 194, 3) := by decide +kernel
theorem dX10_import0_105 : decode cX10_import0 105 = .ok (.iconst 1, 1) := by decide +kernel
theorem dX10_import0_106 : decode cX10_import0 106 = .ok (.iadd, 1) := by decide +kernel
theorem dX10_import0_107 : decode cX10_import0 107 = .ok (.putfield 194, 3) := by decide +kernel
theorem dX10_import0_110 : decode cX10_import0 110 = .ok (.aload_n 0, 1) := by decide +kernel
theorem dX10_import0_111 : decode cX10_import0 111 = .ok (.getfield 194, 3) := by decide +kernel
theorem dX10_import0_114 : decode cX10_import0 114 = .ok (.iconst 4, 1) := by decide +kernel
theorem dX10_import0_115 : decode cX10_import0 115 = .ok (.if_icmp .lt 20, 3) := by decide +kernel
theorem dX10_import0_118 : decode cX10_import0 118 = .ok (.aload_n 0, 1) := by decide +kernel
theorem dX10_import0_119 : decode cX10_import0 119 = .ok (.getfield 194, 3) := by decide +kernel
theorem dX10_import0_122 : decode cX10_import0 122 = .ok (.iconst 4, 1) := by decide +kernel
theorem dX10_import0_123 : decode cX10_import0 123 = .ok (.iconst 4, 1) := by decide +kernel
theorem dX10_import0_124 : decode cX10_import0 124 = .ok (.aload_n 0, 1) := by decide +kernel
theorem dX10_import0_125 : decode cX10_import0 125 = .ok (.getfield 81, 3) := by decide +kernel
theorem dX10_import0_128 : decode cX10_import0 128 = .ok (.iconst 3, 1) := by decide +kernel
theorem dX10_import0_129 : decode cX10_import0 129 = .ok (.iaload, 1) := by decide +kernel
theorem dX10_import0_130 : decode cX10_import0 130 = .ok (.imul, 1) := by decide +kernel
theorem dX10_import0_131 : decode cX10_import0 131 = .ok (.iadd, 1) := by decide +kernel
theorem dX10_import0_132 : decode cX10_import0 132 = .ok (.if_icmp .ge 5, 3) := by decide +kernel
theorem dX10_import0_135 : decode cX10_import0 135 = .ok (.iconst 0, 1) := by decide +kernel
theorem dX10_import0_136 : decode cX10_import0 136 = .ok (.ireturn, 1) := by decide +kernel
theorem dX10_import0_137 : decode cX10_import0 137 = .ok (.aload_n 0, 1) := by decide +kernel
theorem dX10_import0_138 : decode cX10_import0 138 = .ok (.iconst 0, 1) := by decide +kernel
theorem dX10_import0_139 : decode cX10_import0 139 = .ok (.putfield 194, 3) := by decide +kernel
theorem dX10_import0_142 : decode cX10_import0 142 = .ok (.aload_n 0, 1) := by decide +kernel
theorem dX10_import0_143 : decode cX10_import0 143 = .ok (.aload_n 0, 1) := by decide +kernel
theorem dX10_import0_144 : decode cX10_import0 144 = .ok (.getfield 81, 3) := by decide +kernel
theorem dX10_import0_147 : decode cX10_import0 147 = .ok (.iconst 1, 1) := by decide +kernel
theorem dX10_import0_148 : decode cX10_import0 148 = .ok (.iaload, 1) := by decide +kernel
theorem dX10_import0_149 : decode cX10_import0 149 = .ok (.invokevirtual 197, 3) := by decide +kernel
theorem dX10_import0_152 : decode cX10_import0 152 = .ok (.ifCond .eq 5, 3) := by decide +kernel
theorem dX10_import0_155 : decode cX10_import0 155 = .ok (.iconst (-1), 1) := by decide +kernel
theorem dX10_import0_156 : decode cX10_import0 156 = .ok (.ireturn, 1) := by decide +kernel
theorem dX10_import0_157 : decode cX10_import0 157 = .ok (.aload_n 0, 1) := by decide +kernel
theorem dX10_import0_158 : decode cX10_import0 158 = .ok (.aload_n 0, 1) := by decide +kernel
theorem dX10_import0_159 : decode cX10_import0 159 = .ok (.getfield 81, 3) := by decide +kernel
theorem dX10_import0_162 : decode cX10_import0 162 = .ok (.iconst 1, 1) := by decide +kernel
theorem dX10_import0_163 : decode cX10_import0 163 = .ok (.iaload, 1) := by decide +kernel
theorem dX10_import0_164 : decode cX10_import0 164 = .ok (.invokevirtual 157, 3) := by decide +kernel
theorem dX10_import0_167 : decode cX10_import0 167 = .ok (.istore 4, 2) := by decide +kernel
theorem dX10_import0_169 : decode cX10_import0 169 = .ok (.iload 4, 2) := by decide +kernel
theorem dX10_import0_171 : decode cX10_import0 171 = .ok (.ifCond .ne 16, 3) := by decide +kernel
theorem dX10_import0_174 : decode cX10_import0 174 = .ok (.aload_n 0, 1) := by decide +kernel
theorem dX10_import0_175 : decode cX10_import0 175 = .ok (.aload_n 0, 1) := by decide +kernel
theorem dX10_import0_176 : decode cX10_import0 176 = .ok (.getfield 81, 3) := by decide +kernel
theorem dX10_import0_179 : decode cX10_import0 179 = .ok (.iconst 1, 1) := by decide +kernel
theorem dX10_import0_180 : decode cX10_import0 180 = .ok (.iaload, 1) := by decide +kernel
theorem dX10_import0_181 : decode cX10_import0 181 = .ok (.iconst 0, 1) := by decide +kernel
theorem dX10_import0_182 : decode cX10_import0 182 = .ok (.invokevirtual 187, 3) := by decide +kernel
theorem dX10_import0_185 : decode cX10_import0 185 = .ok (.istore 4, 2) := by decide +kernel
theorem dX10_import0_187 : decode cX10_import0 187 = .ok (.aload_n 0, 1) := by decide +kernel
theorem dX10_import0_188 : decode cX10_import0 188 = .ok (.getfield 47, 3) := by decide +kernel
theorem dX10_import0_191 : decode cX10_import0 191 = .ok (.iload 4, 2) := by decide +kernel
theorem dX10_import0_193 : decode cX10_import0 193 = .ok (.aload_n 0, 1) := by decide +kernel
theorem dX10_import0_194 : decode cX10_import0 194 = .ok (.getfield 81, 3) := by decide +kernel
theorem dX10_import0_197 : decode cX10_import0 197 = .ok (.iconst 2, 1) := by decide +kernel
theorem dX10_import0_198 : decode cX10_import0 198 = .ok (.iaload, 1) := by decide +kernel
theorem dX10_import0_199 : decode cX10_import0 199 = .ok (.iconst 1, 1) := by decide +kernel
theorem dX10_import0_200 : decode cX10_import0 200 = .ok (.if_icmp .ne 7, 3) := by decide +kernel
theorem dX10_import0_203 : decode cX10_import0 203 = .ok (.iconst 1, 1) := by decide +kernel
theorem dX10_import0_204 : decode cX10_import0 204 = .ok (.goto 4, 3) := by decide +kernel
theorem dX10_import0_207 : decode cX10_import0 207 = .ok (.iconst 0, 1) := by decide +kernel
theorem dX10_import0_208 : decode cX10_import0 208 = .ok (.bastore, 1) := by decide +kernel
theorem dX10_import0_209 : decode cX10_import0 209 = .ok (.aload_n 0, 1) := by decide +kernel
theorem dX10_import0_210 : decode cX10_import0 210 = .ok (.getfield 38, 3) := by decide +kernel
theorem dX10_import0_213 : decode cX10_import0 213 = .ok (.iload 4, 2) := by decide +kernel
theorem dX10_import0_215 : decode cX10_import0 215 = .ok (.iconst 0, 1) := by decide +kernel
theorem dX10_import0_216 : decode cX10_import0 216 = .ok (.iastore, 1) := by decide +kernel
theorem dX10_import0_217 : decode cX10_import0 217 = .ok (.aload_n 0, 1) := by decide +kernel
theorem dX10_import0_218 : decode cX10_import0 218 = .ok (.getfield 41, 3) := by decide +kernel
theorem dX10_import0_221 : decode cX10_import0 221 = .ok (.iload 4, 2) := by decide +kernel
theorem dX10_import0_223 : decode cX10_import0 223 = .ok (.iconst 0, 1) := by decide +kernel
theorem dX10_import0_224 : decode cX10_import0 224 = .ok (.iastore, 1) := by decide +kernel
theorem dX10_import0_225 : decode cX10_import0 225 = .ok (.iconst 0, 1) := by decide +kernel
theorem dX10_import0_226 : decode cX10_import0 226 = .ok (.istore 5, 2) := by decide +kernel
theorem dX10_import0_228 : decode cX10_import0 228 = .ok (.iload 5, 2) := by decide +kernel
theorem dX10_import0_230 : decode cX10_import0 230 = .ok (.aload_n 0, 1) := by decide +kernel
theorem dX10_import0_231 : decode cX10_import0 231 = .ok (.getfield 81, 3) := by decide +kernel
theorem dX10_import0_234 : decode cX10_import0 234 = .ok (.iconst 3, 1) := by decide +kernel
theorem dX10_import0_235 : decode cX10_import0 235 = .ok (.iaload, 1) := by decide +kernel
theorem dX10_import0_236 : decode cX10_import0 236 = .ok (.if_icmp .ge 73, 3) := by decide +kernel
theorem dX10_import0_239 : decode cX10_import0 239 = .ok (.aload_n 0, 1) := by decide +kernel
theorem dX10_import0_240 : decode cX10_import0 240 = .ok (.iload 4, 2) := by decide +kernel
theorem dX10_import0_242 : decode cX10_import0 242 = .ok (.aload_n 0, 1) := by decide +kernel
theorem dX10_import0_243 : decode cX10_import0 243 = .ok (.getfield 81, 3) := by decide +kernel
theorem dX10_import0_246 : decode cX10_import0 246 = .ok (.iconst 4, 1) := by decide +kernel
theorem dX10_import0_247 : decode cX10_import0 247 = .ok (.iconst 4, 1) := by decide +kernel
theorem dX10_import0_248 : decode cX10_import0 248 = .ok (.iload 5, 2) := by decide +kernel
theorem dX10_import0_250 : decode cX10_import0 250 = .ok (.imul, 1) := by decide +kernel
theorem dX10_import0_251 : decode cX10_import0 251 = .ok (.iadd, 1) := by decide +kernel
theorem dX10_import0_252 : decode cX10_import0 252 = .ok (.iaload, 1) := by decide +kernel
theorem dX10_import0_253 : decode cX10_import0 253 = .ok (.bipush 24, 2) := by decide +kernel
theorem dX10_import0_255 : decode cX10_import0 255 = .ok (.ishl, 1) := by decide +kernel
theorem dX10_import0_256 : decode cX10_import0 256 = .ok (.aload_n 0, 1) := by decide +kernel
theorem dX10_import0_257 : decode cX10_import0 257 = .ok (.getfield 81, 3) := by decide +kernel
theorem dX10_import0_260 : decode cX10_import0 260 = .ok (.iconst 5, 1) := by decide +kernel
theorem dX10_import0_261 : decode cX10_import0 261 = .ok (.iconst 4, 1) := by decide +kernel
theorem dX10_import0_262 : decode cX10_import0 262 = .ok (.iload 5, 2) := by decide +kernel
theorem dX10_import0_264 : decode cX10_import0 264 = .ok (.imul, 1) := by decide +kernel
theorem dX10_import0_265 : decode cX10_import0 265 = .ok (.iadd, 1) := by decide +kernel
theorem dX10_import0_266 : decode cX10_import0 266 = .ok (.iaload, 1) := by decide +kernel
theorem dX10_import0_267 : decode cX10_import0 267 = .ok (.bipush 16, 2) := by decide +kernel
theorem dX10_import0_269 : decode cX10_import0 269 = .ok (.ishl, 1) := by decide +kernel
theorem dX10_import0_270 : decode cX10_import0 270 = .ok (.ior, 1) := by decide +kernel
theorem dX10_import0_271 : decode cX10_import0 271 = .ok (.aload_n 0, 1) := by decide +kernel
theorem dX10_import0_272 : decode cX10_import0 272 = .ok (.getfield 81, 3) := by decide +kernel
theorem dX10_import0_275 : decode cX10_import0 275 = .ok (.bipush 6, 2) := by decide +kernel
theorem dX10_import0_277 : decode cX10_import0 277 = .ok (.iconst 4, 1) := by decide +kernel
theorem dX10_import0_278 : decode cX10_import0 278 = .ok (.iload 5, 2) := by decide +kernel
theorem dX10_import0_280 : decode cX10_import0 280 = .ok (.imul, 1) := by decide +kernel
theorem dX10_import0_281 : decode cX10_import0 281 = .ok (.iadd, 1) := by decide +kernel
theorem dX10_import0_282 : decode cX10_import0 282 = .ok (.iaload, 1) := by decide +kernel
theorem dX10_import0_283 : decode cX10_import0 283 = .ok (.bipush 8, 2) := by decide +kernel
theorem dX10_import0_285 : decode cX10_import0 285 = .ok (.ishl, 1) := by decide +kernel
theorem dX10_import0_286 : decode cX10_import0 286 = .ok (.ior, 1) := by decide +kernel
theorem dX10_import0_287 : decode cX10_import0 287 = .ok (.aload_n 0, 1) := by decide +kernel
theorem dX10_import0_288 : decode cX10_import0 288 = .ok (.getfield 81, 3) := by decide +kernel
theorem dX10_import0_291 : decode cX10_import0 291 = .ok (.bipush 7, 2) := by decide +kernel
theorem dX10_import0_293 : decode cX10_import0 293 = .ok (.iconst 4, 1) := by decide +kernel
theorem dX10_import0_294 : decode cX10_import0 294 = .ok (.iload 5, 2) := by decide +kernel
theorem dX10_import0_296 : decode cX10_import0 296 = .ok (.imul, 1) := by decide +kernel
theorem dX10_import0_297 : decode cX10_import0 297 = .ok (.iadd, 1) := by decide +kernel
theorem dX10_import0_298 : decode cX10_import0 298 = .ok (.iaload, 1) := by decide +kernel
theorem dX10_import0_299 : decode cX10_import0 299 = .ok (.ior, 1) := by decide +kernel
theorem dX10_import0_300 : decode cX10_import0 300 = .ok (.invokevirtual 161, 3) := by decide +kernel
theorem dX10_import0_303 : decode cX10_import0 303 = .ok (.iinc 5 1, 3) := by decide +kernel
theorem dX10_import0_306 : decode cX10_import0 306 = .ok (.goto (-78), 3) := by decide +kernel
theorem dX10_import0_309 : decode cX10_import0 309 = .ok (.iload 4, 2) := by decide +kernel
theorem dX10_import0_311 : decode cX10_import0 311 = .ok (.ireturn, 1) := by decide +kernel
theorem dX10_hex_0 : decode cX10_hex 0 = .ok (.iload_n 0, 1) := by decide +kernel
theorem dX10_hex_1 : decode cX10_hex 1 = .ok (.bipush 10, 2) := by decide +kernel
theorem dX10_hex_3 : decode cX10_hex 3 = .ok (.if_icmp .ge 10, 3) := by decide +kernel
theorem dX10_hex_6 : decode cX10_hex 6 = .ok (.bipush 48, 2) := by decide +kernel
theorem dX10_hex_8 : decode cX10_hex 8 = .ok (.iload_n 0, 1) := by decide +kernel
theorem dX10_hex_9 : decode cX10_hex 9 = .ok (.iadd, 1) := by decide +kernel
theorem dX10_hex_10 : decode cX10_hex 10 = .ok (.goto 7, 3) := by decide +kernel
theorem dX10_hex_13 : decode cX10_hex 13 = .ok (.bipush 55, 2) := by decide +kernel
theorem dX10_hex_15 : decode cX10_hex 15 = .ok (.iload_n 0, 1) := by decide +kernel
theorem dX10_hex_16 : decode cX10_hex 16 = .ok (.iadd, 1) := by decide +kernel
theorem dX10_hex_17 : decode cX10_hex 17 = .ok (.ireturn, 1) := by decide +kernel
theorem dX10_other_0 : decode cX10_other 0 = .ok (.iload_n 0, 1) := by decide +kernel
theorem dX10_other_1 : decode cX10_other 1 = .ok (.sipush 193, 3) := by decide +kernel
theorem dX10_other_4 : decode cX10_other 4 = .ok (.if_icmp .lt 16, 3) := by decide +kernel
theorem dX10_other_7 : decode cX10_other 7 = .ok (.iload_n 0, 1) := by decide +kernel
theorem dX10_other_8 : decode cX10_other 8 = .ok (.sipush 201, 3) := by decide +kernel
theorem dX10_other_11 : decode cX10_other 11 = .ok (.if_icmp .gt 9, 3) := by decide +kernel
theorem dX10_other_14 : decode cX10_other 14 = .ok (.iload_n 0, 1) := by decide +kernel
theorem dX10_other_15 : decode cX10_other 15 = .ok (.sipush 128, 3) := by decide +kernel
theorem dX10_other_18 : decode cX10_other 18 = .ok (.isub, 1) := by decide +kernel
theorem dX10_other_19 : decode cX10_other 19 = .ok (.ireturn, 1) := by decide +kernel
theorem dX10_other_20 : decode cX10_other 20 = .ok (.iload_n 0, 1) := by decide +kernel
theorem dX10_other_21 : decode cX10_other 21 = .ok (.sipush 209, 3) := by decide +kernel
theorem dX10_other_24 : decode cX10_other 24 = .ok (.if_icmp .lt 16, 3) := by decide +kernel
theorem dX10_other_27 : decode cX10_other 27 = .ok (.iload_n 0, 1) := by decide +kernel
theorem dX10_other_28 : decode cX10_other 28 = .ok (.sipush 217, 3) := by decide +kernel
theorem dX10_other_31 : decode cX10_other 31 = .ok (.if_icmp .gt 9, 3) := by decide +kernel
theorem dX10_other_34 : decode cX10_other 34 = .ok (.iload_n 0, 1) := by decide +kernel
theorem dX10_other_35 : decode cX10_other 35 = .ok (.sipush 135, 3) := by decide +kernel
theorem dX10_other_38 : decode cX10_other 38 = .ok (.isub, 1) := by decide +kernel
theorem dX10_other_39 : decode cX10_other 39 = .ok (.ireturn, 1) := by decide +kernel
theorem dX10_other_40 : decode cX10_other 40 = .ok (.iload_n 0, 1) := by decide +kernel
theorem dX10_other_41 : decode cX10_other 41 = .ok (.sipush 226, 3) := by decide +kernel
theorem dX10_other_44 : decode cX10_other 44 = .ok (.if_icmp .lt 16, 3) := by decide +kernel
theorem dX10_other_47 : decode cX10_other 47 = .ok (.iload_n 0, 1) := by decide +kernel
theorem dX10_other_48 : decode cX10_other 48 = .ok (.sipush 233, 3) := by decide +kernel
theorem dX10_other_51 : decode cX10_other 51 = .ok (.if_icmp .gt 9, 3) := by decide +kernel
theorem dX10_other_54 : decode cX10_other 54 = .ok (.iload_n 0, 1) := by decide +kernel
theorem dX10_other_55 : decode cX10_other 55 = .ok (.sipush 143, 3) := by decide +kernel
theorem dX10_other_58 : decode cX10_other 58 = .ok (.isub, 1) := by decide +kernel
theorem dX10_other_59 : decode cX10_other 59 = .ok (.ireturn, 1) := by decide +kernel
theorem dX10_other_60 : decode cX10_other 60 = .ok (.iload_n 0, 1) := by decide +kernel
theorem dX10_other_61 : decode cX10_other 61 = .ok (.sipush 240, 3) := by decide +kernel
theorem dX10_other_64 : decode cX10_other 64 = .ok (.if_icmp .lt 18, 3) := by decide +kernel
theorem dX10_other_67 : decode cX10_other 67 = .ok (.iload_n 0, 1) := by decide +kernel
theorem dX10_other_68 : decode cX10_other 68 = .ok (.sipush 249, 3) := by decide +kernel
theorem dX10_other_71 : decode cX10_other 71 = .ok (.if_icmp .gt 11, 3) := by decide +kernel
theorem dX10_other_74 : decode cX10_other 74 = .ok (.iload_n 0, 1) := by decide +kernel
theorem dX10_other_75 : decode cX10_other 75 = .ok (.sipush 192, 3) := by decide +kernel
theorem dX10_other_78 : decode cX10_other 78 = .ok (.isub, 1) := by decide +kernel
theorem dX10_other_79 : decode cX10_other 79 = .ok (.goto 16, 3) := by decide +kernel
theorem dX10_other_82 : decode cX10_other 82 = .ok (.iload_n 0, 1) := by decide +kernel
theorem dX10_other_83 : decode cX10_other 83 = .ok (.bipush 64, 2) := by decide +kernel
theorem dX10_other_85 : decode cX10_other 85 = .ok (.if_icmp .ne 8, 3) := by decide +kernel
theorem dX10_other_88 : decode cX10_other 88 = .ok (.bipush 32, 2) := by decide +kernel
theorem dX10_other_90 : decode cX10_other 90 = .ok (.goto 5, 3) := by decide +kernel
theorem dX10_other_93 : decode cX10_other 93 = .ok (.bipush 46, 2) := by decide +kernel
theorem dX10_other_95 : decode cX10_other 95 = .ok (.ireturn, 1) := by decide +kernel
theorem dX10_dump_0 : decode cX10_dump 0 = .ok (.aload_n 0, 1) := by decide +kernel
theorem dX10_dump_1 : decode cX10_dump 1 = .ok (.iconst 0, 1) := by decide +kernel
theorem dX10_dump_2 : decode cX10_dump 2 = .ok (.putfield 84, 3) := by decide +kernel
theorem dX10_dump_5 : decode cX10_dump 5 = .ok (.iload_n 1, 1) := by decide +kernel
theorem dX10_dump_6 : decode cX10_dump 6 = .ok (.ifCond .lt 23, 3) := by decide +kernel
theorem dX10_dump_9 : decode cX10_dump 9 = .ok (.iload_n 2, 1) := by decide +kernel
theorem dX10_dump_10 : decode cX10_dump 10 = .ok (.ifCond .lt 19, 3) := by decide +kernel
theorem dX10_dump_13 : decode cX10_dump 13 = .ok (.iload_n 1, 1) := by decide +kernel
theorem dX10_dump_14 : decode cX10_dump 14 = .ok (.bipush 100, 2) := by decide +kernel
theorem dX10_dump_16 : decode cX10_dump 16 = .ok (.if_icmp .ge 13, 3) := by decide +kernel
theorem dX10_dump_19 : decode cX10_dump 19 = .ok (.iconst 4, 1) := by decide +kernel
theorem dX10_dump_20 : decode cX10_dump 20 = .ok (.iload_n 1, 1) := by decide +kernel
theorem dX10_dump_21 : decode cX10_dump 21 = .ok (.imul, 1) := by decide +kernel
theorem dX10_dump_22 : decode cX10_dump 22 = .ok (.aload_n 0, 1) := by decide +kernel
theorem dX10_dump_23 : decode cX10_dump 23 = .ok (.getfield 191, 3) := by decide +kernel
theorem dX10_dump_26 : decode cX10_dump 26 = .ok (.if_icmp .lt 5, 3) := by decide +kernel
theorem dX10_dump_29 : decode cX10_dump 29 = .ok (.iconst (-1), 1) := by decide +kernel
theorem dX10_dump_30 : decode cX10_dump 30 = .ok (.ireturn, 1) := by decide +kernel
theorem dX10_dump_31 : decode cX10_dump 31 = .ok (.aload_n 0, 1) := by decide +kernel
theorem dX10_dump_32 : decode cX10_dump 32 = .ok (.getfield 191, 3) := by decide +kernel
theorem dX10_dump_35 : decode cX10_dump 35 = .ok (.iconst 4, 1) := by decide +kernel
theorem dX10_dump_36 : decode cX10_dump 36 = .ok (.iload_n 1, 1) := by decide +kernel
theorem dX10_dump_37 : decode cX10_dump 37 = .ok (.imul, 1) := by decide +kernel
theorem dX10_dump_38 : decode cX10_dump 38 = .ok (.isub, 1) := by decide +kernel
theorem dX10_dump_39 : decode cX10_dump 39 = .ok (.iconst 4, 1) := by decide +kernel
theorem dX10_dump_40 : decode cX10_dump 40 = .ok (.if_icmp .ge 14, 3) := by decide +kernel
theorem dX10_dump_43 : decode cX10_dump 43 = .ok (.aload_n 0, 1) := by decide +kernel
theorem dX10_dump_44 : decode cX10_dump 44 = .ok (.getfield 191, 3) := by decide +kernel
theorem dX10_dump_47 : decode cX10_dump 47 = .ok (.iconst 4, 1) := by decide +kernel
theorem dX10_dump_48 : decode cX10_dump 48 = .ok (.iload_n 1, 1) := by decide +kernel
theorem dX10_dump_49 : decode cX10_dump 49 = .ok (.imul, 1) := by decide +kernel
theorem dX10_dump_50 : decode cX10_dump 50 = .ok (.isub, 1) := by decide +kernel
theorem dX10_dump_51 : decode cX10_dump 51 = .ok (.goto 4, 3) := by decide +kernel
theorem dX10_dump_54 : decode cX10_dump 54 = .ok (.iconst 4, 1) := by decide +kernel
theorem dX10_dump_55 : decode cX10_dump 55 = .ok (.istore_n 3, 1) := by decide +kernel
theorem dX10_dump_56 : decode cX10_dump 56 = .ok (.iconst 4, 1) := by decide +kernel
theorem dX10_dump_57 : decode cX10_dump 57 = .ok (.iload_n 1, 1) := by decide +kernel
theorem dX10_dump_58 : decode cX10_dump 58 = .ok (.imul, 1) := by decide +kernel
theorem dX10_dump_59 : decode cX10_dump 59 = .ok (.istore 4, 2) := by decide +kernel
theorem dX10_dump_61 : decode cX10_dump 61 = .ok (.iload_n 2, 1) := by decide +kernel
theorem dX10_dump_62 : decode cX10_dump 62 = .ok (.iconst 4, 1) := by decide +kernel
theorem dX10_dump_63 : decode cX10_dump 63 = .ok (.if_icmp .ge 51, 3) := by decide +kernel
theorem dX10_dump_66 : decode cX10_dump 66 = .ok (.bipush 48, 2) := by decide +kernel
theorem dX10_dump_68 : decode cX10_dump 68 = .ok (.iload_n 2, 1) := by decide +kernel
theorem dX10_dump_69 : decode cX10_dump 69 = .ok (.ifCond .ne 12, 3) := by decide +kernel
theorem dX10_dump_72 : decode cX10_dump 72 = .ok (.iload 4, 2) := by decide +kernel
theorem dX10_dump_74 : decode cX10_dump 74 = .ok (.sipush 1000, 3) := by decide +kernel
theorem dX10_dump_77 : decode cX10_dump 77 = .ok (.idiv, 1) := by decide +kernel
theorem dX10_dump_78 : decode cX10_dump 78 = .ok (.goto 31, 3) := by decide +kernel
theorem dX10_dump_81 : decode cX10_dump 81 = .ok (.iload_n 2, 1) := by decide +kernel
theorem dX10_dump_82 : decode cX10_dump 82 = .ok (.iconst 1, 1) := by decide +kernel
theorem dX10_dump_83 : decode cX10_dump 83 = .ok (.if_icmp .ne 11, 3) := by decide +kernel
theorem dX10_dump_86 : decode cX10_dump 86 = .ok (.iload 4, 2) := by decide +kernel
theorem dX10_dump_88 : decode cX10_dump 88 = .ok (.bipush 100, 2) := by decide +kernel
theorem dX10_dump_90 : decode cX10_dump 90 = .ok (.idiv, 1) := by decide +kernel
theorem dX10_dump_91 : decode cX10_dump 91 = .ok (.goto 18, 3) := by decide +kernel
theorem dX10_dump_94 : decode cX10_dump 94 = .ok (.iload_n 2, 1) := by decide +kernel
theorem dX10_dump_95 : decode cX10_dump 95 = .ok (.iconst 2, 1) := by decide +kernel
theorem dX10_dump_96 : decode cX10_dump 96 = .ok (.if_icmp .ne 11, 3) := by decide +kernel
theorem dX10_dump_99 : decode cX10_dump 99 = .ok (.iload 4, 2) := by decide +kernel
theorem dX10_dump_101 : decode cX10_dump 101 = .ok (.bipush 10, 2) := by decide +kernel
theorem dX10_dump_103 : decode cX10_dump 103 = .ok (.idiv, 1) := by decide +kernel
theorem dX10_dump_104 : decode cX10_dump 104 = .ok (.goto 5, 3) := by decide +kernel
theorem dX10_dump_107 : decode cX10_dump 107 = .ok (.iload 4, 2) := by decide +kernel
theorem dX10_dump_109 : decode cX10_dump 109 = .ok (.bipush 10, 2) := by decide +kernel
theorem dX10_dump_111 : decode cX10_dump 111 = .ok (.irem, 1) := by decide +kernel
theorem dX10_dump_112 : decode cX10_dump 112 = .ok (.iadd, 1) := by decide +kernel
theorem dX10_dump_113 : decode cX10_dump 113 = .ok (.ireturn, 1) := by decide +kernel
theorem dX10_dump_114 : decode cX10_dump 114 = .ok (.iload_n 2, 1) := by decide +kernel
theorem dX10_dump_115 : decode cX10_dump 115 = .ok (.iconst 4, 1) := by decide +kernel
theorem dX10_dump_116 : decode cX10_dump 116 = .ok (.if_icmp .ne 6, 3) := by decide +kernel
theorem dX10_dump_119 : decode cX10_dump 119 = .ok (.bipush 58, 2) := by decide +kernel
theorem dX10_dump_121 : decode cX10_dump 121 = .ok (.ireturn, 1) := by decide +kernel
theorem dX10_dump_122 : decode cX10_dump 122 = .ok (.iload_n 2, 1) := by decide +kernel
theorem dX10_dump_123 : decode cX10_dump 123 = .ok (.iconst 5, 1) := by decide +kernel
theorem dX10_dump_124 : decode cX10_dump 124 = .ok (.isub, 1) := by decide +kernel
theorem dX10_dump_125 : decode cX10_dump 125 = .ok (.istore 5, 2) := by decide +kernel
theorem dX10_dump_127 : decode cX10_dump 127 = .ok (.iload 5, 2) := by decide +kernel
theorem dX10_dump_129 : decode cX10_dump 129 = .ok (.iconst 3, 1) := by decide +kernel
theorem dX10_dump_130 : decode cX10_dump 130 = .ok (.iload_n 3, 1) := by decide +kernel
theorem dX10_dump_131 : decode cX10_dump 131 = .ok (.imul, 1) := by decide +kernel
theorem dX10_dump_132 : decode cX10_dump 132 = .ok (.if_icmp .ge 48, 3) := by decide +kernel
theorem dX10_dump_135 : decode cX10_dump 135 = .ok (.iload 5, 2) := by decide +kernel
theorem dX10_dump_137 : decode cX10_dump 137 = .ok (.iconst 3, 1) := by decide +kernel
theorem dX10_dump_138 : decode cX10_dump 138 = .ok (.irem, 1) := by decide +kernel
theorem dX10_dump_139 : decode cX10_dump 139 = .ok (.ifCond .ne 8, 3) := by decide +kernel
theorem dX10_dump_142 : decode cX10_dump 142 = .ok (.bipush 32, 2) := by decide +kernel
theorem dX10_dump_144 : decode cX10_dump 144 = .ok (.goto 35, 3) := by decide +kernel
theorem dX10_dump_147 : decode cX10_dump 147 = .ok (.aload_n 0, 1) := by decide +kernel
theorem dX10_dump_148 : decode cX10_dump 148 = .ok (.getfield 78, 3) := by decide +kernel
theorem dX10_dump_151 : decode cX10_dump 151 = .ok (.iload 4, 2) := by decide +kernel
theorem dX10_dump_153 : decode cX10_dump 153 = .ok (.iload 5, 2) := by decide +kernel
theorem dX10_dump_155 : decode cX10_dump 155 = .ok (.iconst 3, 1) := by decide +kernel
theorem dX10_dump_156 : decode cX10_dump 156 = .ok (.idiv, 1) := by decide +kernel
theorem dX10_dump_157 : decode cX10_dump 157 = .ok (.iadd, 1) := by decide +kernel
theorem dX10_dump_158 : decode cX10_dump 158 = .ok (.iaload, 1) := by decide +kernel
theorem dX10_dump_159 : decode cX10_dump 159 = .ok (.iload 5, 2) := by decide +kernel
theorem dX10_dump_161 : decode cX10_dump 161 = .ok (.iconst 3, 1) := by decide +kernel
theorem dX10_dump_162 : decode cX10_dump 162 = .ok (.irem, 1) := by decide +kernel
theorem dX10_dump_163 : decode cX10_dump 163 = .ok (.iconst 1, 1) := by decide +kernel
theorem dX10_dump_164 : decode cX10_dump 164 = .ok (.if_icmp .ne 7, 3) := by decide +kernel
theorem dX10_dump_167 : decode cX10_dump 167 = .ok (.iconst 4, 1) := by decide +kernel
theorem dX10_dump_168 : decode cX10_dump 168 = .ok (.goto 4, 3) := by decide +kernel
theorem dX10_dump_171 : decode cX10_dump 171 = .ok (.iconst 0, 1) := by decide +kernel
theorem dX10_dump_172 : decode cX10_dump 172 = .ok (.ishr, 1) := by decide +kernel
theorem dX10_dump_173 : decode cX10_dump 173 = .ok (.bipush 15, 2) := by decide +kernel
theorem dX10_dump_175 : decode cX10_dump 175 = .ok (.iand, 1) := by decide +kernel
theorem dX10_dump_176 : decode cX10_dump 176 = .ok (.invokestatic 200, 3) := by decide +kernel
theorem dX10_dump_179 : decode cX10_dump 179 = .ok (.ireturn, 1) := by decide +kernel
theorem dX10_dump_180 : decode cX10_dump 180 = .ok (.iload 5, 2) := by decide +kernel
theorem dX10_dump_182 : decode cX10_dump 182 = .ok (.iconst 3, 1) := by decide +kernel
theorem dX10_dump_183 : decode cX10_dump 183 = .ok (.iload_n 3, 1) := by decide +kernel
theorem dX10_dump_184 : decode cX10_dump 184 = .ok (.imul, 1) := by decide +kernel
theorem dX10_dump_185 : decode cX10_dump 185 = .ok (.isub, 1) := by decide +kernel
theorem dX10_dump_186 : decode cX10_dump 186 = .ok (.istore 5, 2) := by decide +kernel
theorem dX10_dump_188 : decode cX10_dump 188 = .ok (.iload 5, 2) := by decide +kernel
theorem dX10_dump_190 : decode cX10_dump 190 = .ok (.ifCond .eq 11, 3) := by decide +kernel
theorem dX10_dump_193 : decode cX10_dump 193 = .ok (.iload 5, 2) := by decide +kernel
theorem dX10_dump_195 : decode cX10_dump 195 = .ok (.iload_n 3, 1) := by decide +kernel
theorem dX10_dump_196 : decode cX10_dump 196 = .ok (.iconst 1, 1) := by decide +kernel
theorem dX10_dump_197 : decode cX10_dump 197 = .ok (.iadd, 1) := by decide +kernel
theorem dX10_dump_198 : decode cX10_dump 198 = .ok (.if_icmp .ne 6, 3) := by decide +kernel
theorem dX10_dump_201 : decode cX10_dump 201 = .ok (.bipush 32, 2) := by decide +kernel
theorem dX10_dump_203 : decode cX10_dump 203 = .ok (.ireturn, 1) := by decide +kernel
theorem dX10_dump_204 : decode cX10_dump 204 = .ok (.iload 5, 2) := by decide +kernel
theorem dX10_dump_206 : decode cX10_dump 206 = .ok (.iload_n 3, 1) := by decide +kernel
theorem dX10_dump_207 : decode cX10_dump 207 = .ok (.if_icmp .gt 39, 3) := by decide +kernel
theorem dX10_dump_210 : decode cX10_dump 210 = .ok (.aload_n 0, 1) := by decide +kernel
theorem dX10_dump_211 : decode cX10_dump 211 = .ok (.getfield 78, 3) := by decide +kernel
theorem dX10_dump_214 : decode cX10_dump 214 = .ok (.iload 4, 2) := by decide +kernel
theorem dX10_dump_216 : decode cX10_dump 216 = .ok (.iload 5, 2) := by decide +kernel
theorem dX10_dump_218 : decode cX10_dump 218 = .ok (.iadd, 1) := by decide +kernel
theorem dX10_dump_219 : decode cX10_dump 219 = .ok (.iconst 1, 1) := by decide +kernel
theorem dX10_dump_220 : decode cX10_dump 220 = .ok (.isub, 1) := by decide +kernel
theorem dX10_dump_221 : decode cX10_dump 221 = .ok (.iaload, 1) := by decide +kernel
theorem dX10_dump_222 : decode cX10_dump 222 = .ok (.invokestatic 120, 3) := by decide +kernel
theorem dX10_dump_225 : decode cX10_dump 225 = .ok (.ifCond .eq 18, 3) := by decide +kernel
theorem dX10_dump_228 : decode cX10_dump 228 = .ok (.aload_n 0, 1) := by decide +kernel
theorem dX10_dump_229 : decode cX10_dump 229 = .ok (.getfield 78, 3) := by decide +kernel
theorem dX10_dump_232 : decode cX10_dump 232 = .ok (.iload 4, 2) := by decide +kernel
theorem dX10_dump_234 : decode cX10_dump 234 = .ok (.iload 5, 2) := by decide +kernel
theorem dX10_dump_236 : decode cX10_dump 236 = .ok (.iadd, 1) := by decide +kernel
theorem dX10_dump_237 : decode cX10_dump 237 = .ok (.iconst 1, 1) := by decide +kernel
theorem dX10_dump_238 : decode cX10_dump 238 = .ok (.isub, 1) := by decide +kernel
theorem dX10_dump_239 : decode cX10_dump 239 = .ok (.iaload, 1) := by decide +kernel
theorem dX10_dump_240 : decode cX10_dump 240 = .ok (.goto 5, 3) := by decide +kernel
theorem dX10_dump_243 : decode cX10_dump 243 = .ok (.bipush 46, 2) := by decide +kernel
theorem dX10_dump_245 : decode cX10_dump 245 = .ok (.ireturn, 1) := by decide +kernel
theorem dX10_dump_246 : decode cX10_dump 246 = .ok (.iload 5, 2) := by decide +kernel
theorem dX10_dump_248 : decode cX10_dump 248 = .ok (.iconst 2, 1) := by decide +kernel
theorem dX10_dump_249 : decode cX10_dump 249 = .ok (.iload_n 3, 1) := by decide +kernel
theorem dX10_dump_250 : decode cX10_dump 250 = .ok (.imul, 1) := by decide +kernel
theorem dX10_dump_251 : decode cX10_dump 251 = .ok (.iconst 1, 1) := by decide +kernel
theorem dX10_dump_252 : decode cX10_dump 252 = .ok (.iadd, 1) := by decide +kernel
theorem dX10_dump_253 : decode cX10_dump 253 = .ok (.if_icmp .gt 23, 3) := by decide +kernel
theorem dX10_dump_256 : decode cX10_dump 256 = .ok (.aload_n 0, 1) := by decide +kernel
theorem dX10_dump_257 : decode cX10_dump 257 = .ok (.getfield 78, 3) := by decide +kernel
theorem dX10_dump_260 : decode cX10_dump 260 = .ok (.iload 4, 2) := by decide +kernel
theorem dX10_dump_262 : decode cX10_dump 262 = .ok (.iload 5, 2) := by decide +kernel
theorem dX10_dump_264 : decode cX10_dump 264 = .ok (.iadd, 1) := by decide +kernel
theorem dX10_dump_265 : decode cX10_dump 265 = .ok (.iload_n 3, 1) := by decide +kernel
theorem dX10_dump_266 : decode cX10_dump 266 = .ok (.isub, 1) := by decide +kernel
theorem dX10_dump_267 : decode cX10_dump 267 = .ok (.iconst 2, 1) := by decide +kernel
theorem dX10_dump_268 : decode cX10_dump 268 = .ok (.isub, 1) := by decide +kernel
theorem dX10_dump_269 : decode cX10_dump 269 = .ok (.iaload, 1) := by decide +kernel
theorem dX10_dump_270 : decode cX10_dump 270 = .ok (.invokestatic 203, 3) := by decide +kernel
theorem dX10_dump_273 : decode cX10_dump 273 = .ok (.goto 4, 3) := by decide +kernel
theorem dX10_dump_276 : decode cX10_dump 276 = .ok (.iconst (-1), 1) := by decide +kernel
theorem dX10_dump_277 : decode cX10_dump 277 = .ok (.ireturn, 1) := by decide +kernel
theorem dX10_dry_0 : decode cX10_dry 0 = .ok (.aload_n 0, 1) := by decide +kernel
theorem dX10_dry_1 : decode cX10_dry 1 = .ok (.iconst 0, 1) := by decide +kernel
theorem dX10_dry_2 : decode cX10_dry 2 = .ok (.putfield 84, 3) := by decide +kernel
theorem dX10_dry_5 : decode cX10_dry 5 = .ok (.aload_n 0, 1) := by decide +kernel
theorem dX10_dry_6 : decode cX10_dry 6 = .ok (.iload_n 1, 1) := by decide +kernel
theorem dX10_dry_7 : decode cX10_dry 7 = .ok (.putfield 140, 3) := by decide +kernel
theorem dX10_dry_10 : decode cX10_dry 10 = .ok (.aload_n 0, 1) := by decide +kernel
theorem dX10_dry_11 : decode cX10_dry 11 = .ok (.getfield 137, 3) := by decide +kernel
theorem dX10_dry_14 : decode cX10_dry 14 = .ok (.ireturn, 1) := by decide +kernel
theorem dX10_greatest_0 : decode cX10_greatest 0 = .ok (.aload_n 0, 1) := by decide +kernel
theorem dX10_greatest_1 : decode cX10_greatest 1 = .ok (.iconst 0, 1) := by decide +kernel
theorem dX10_greatest_2 : decode cX10_greatest 2 = .ok (.putfield 84, 3) := by decide +kernel
theorem dX10_greatest_5 : decode cX10_greatest 5 = .ok (.aload_n 0, 1) := by decide +kernel
theorem dX10_greatest_6 : decode cX10_greatest 6 = .ok (.getfield 134, 3) := by decide +kernel
theorem dX10_greatest_9 : decode cX10_greatest 9 = .ok (.ireturn, 1) := by decide +kernel
theorem dX10_step_0 : decode cX10_step 0 = .ok (.aload_n 0, 1) := by decide +kernel
theorem dX10_step_1 : decode cX10_step 1 = .ok (.iconst 0, 1) := by decide +kernel
theorem dX10_step_2 : decode cX10_step 2 = .ok (.putfield 84, 3) := by decide +kernel
theorem dX10_step_5 : decode cX10_step 5 = .ok (.aload_n 0, 1) := by decide +kernel
theorem dX10_step_6 : decode cX10_step 6 = .ok (.getfield 134, 3) := by decide +kernel
theorem dX10_step_9 : decode cX10_step 9 = .ok (.istore_n 1, 1) := by decide +kernel
theorem dX10_step_10 : decode cX10_step 10 = .ok (.aload_n 0, 1) := by decide +kernel
theorem dX10_step_11 : decode cX10_step 11 = .ok (.iconst 0, 1) := by decide +kernel
theorem dX10_step_12 : decode cX10_step 12 = .ok (.putfield 134, 3) := by decide +kernel
theorem dX10_step_15 : decode cX10_step 15 = .ok (.iload_n 1, 1) := by decide +kernel
theorem dX10_step_16 : decode cX10_step 16 = .ok (.ireturn, 1) := by decide +kernel
theorem dX10_find_0 : decode cX10_find 0 = .ok (.aload_n 0, 1) := by decide +kernel
theorem dX10_find_1 : decode cX10_find 1 = .ok (.iconst 0, 1) := by decide +kernel
theorem dX10_find_2 : decode cX10_find 2 = .ok (.putfield 84, 3) := by decide +kernel
theorem dX10_find_5 : decode cX10_find 5 = .ok (.aload_n 0, 1) := by decide +kernel
theorem dX10_find_6 : decode cX10_find 6 = .ok (.iload_n 1, 1) := by decide +kernel
theorem dX10_find_7 : decode cX10_find 7 = .ok (.invokevirtual 96, 3) := by decide +kernel
theorem dX10_find_10 : decode cX10_find 10 = .ok (.ifCond .eq 12, 3) := by decide +kernel
theorem dX10_find_13 : decode cX10_find 13 = .ok (.aload_n 0, 1) := by decide +kernel
theorem dX10_find_14 : decode cX10_find 14 = .ok (.iload_n 1, 1) := by decide +kernel
theorem dX10_find_15 : decode cX10_find 15 = .ok (.iload_n 2, 1) := by decide +kernel
theorem dX10_find_16 : decode cX10_find 16 = .ok (.invokevirtual 103, 3) := by decide +kernel
theorem dX10_find_19 : decode cX10_find 19 = .ok (.goto 5, 3) := by decide +kernel
theorem dX10_find_22 : decode cX10_find 22 = .ok (.bipush (-2), 2) := by decide +kernel
theorem dX10_find_24 : decode cX10_find 24 = .ok (.ireturn, 1) := by decide +kernel
theorem dX10_letter_0 : decode cX10_letter 0 = .ok (.aload_n 0, 1) := by decide +kernel
theorem dX10_letter_1 : decode cX10_letter 1 = .ok (.iconst 0, 1) := by decide +kernel
theorem dX10_letter_2 : decode cX10_letter 2 = .ok (.putfield 84, 3) := by decide +kernel
theorem dX10_letter_5 : decode cX10_letter 5 = .ok (.aload_n 0, 1) := by decide +kernel
theorem dX10_letter_6 : decode cX10_letter 6 = .ok (.iload_n 1, 1) := by decide +kernel
theorem dX10_letter_7 : decode cX10_letter 7 = .ok (.invokevirtual 114, 3) := by decide +kernel
theorem dX10_letter_10 : decode cX10_letter 10 = .ok (.ifCond .eq 17, 3) := by decide +kernel
theorem dX10_letter_13 : decode cX10_letter 13 = .ok (.iload_n 2, 1) := by decide +kernel
theorem dX10_letter_14 : decode cX10_letter 14 = .ok (.ifCond .lt 13, 3) := by decide +kernel
theorem dX10_letter_17 : decode cX10_letter 17 = .ok (.iload_n 2, 1) := by decide +kernel
theorem dX10_letter_18 : decode cX10_letter 18 = .ok (.aload_n 0, 1) := by decide +kernel
theorem dX10_letter_19 : decode cX10_letter 19 = .ok (.getfield 20, 3) := by decide +kernel
theorem dX10_letter_22 : decode cX10_letter 22 = .ok (.iload_n 1, 1) := by decide +kernel
theorem dX10_letter_23 : decode cX10_letter 23 = .ok (.iaload, 1) := by decide +kernel
theorem dX10_letter_24 : decode cX10_letter 24 = .ok (.if_icmp .lt 5, 3) := by decide +kernel
theorem dX10_letter_27 : decode cX10_letter 27 = .ok (.iconst (-1), 1) := by decide +kernel
theorem dX10_letter_28 : decode cX10_letter 28 = .ok (.ireturn, 1) := by decide +kernel
theorem dX10_letter_29 : decode cX10_letter 29 = .ok (.bipush 30, 2) := by decide +kernel
theorem dX10_letter_31 : decode cX10_letter 31 = .ok (.iload_n 1, 1) := by decide +kernel
theorem dX10_letter_32 : decode cX10_letter 32 = .ok (.imul, 1) := by decide +kernel
theorem dX10_letter_33 : decode cX10_letter 33 = .ok (.iload_n 2, 1) := by decide +kernel
theorem dX10_letter_34 : decode cX10_letter 34 = .ok (.iadd, 1) := by decide +kernel
theorem dX10_letter_35 : decode cX10_letter 35 = .ok (.istore 4, 2) := by decide +kernel
theorem dX10_letter_37 : decode cX10_letter 37 = .ok (.iload_n 3, 1) := by decide +kernel
theorem dX10_letter_38 : decode cX10_letter 38 = .ok (.iconst (-1), 1) := by decide +kernel
theorem dX10_letter_39 : decode cX10_letter 39 = .ok (.if_icmp .ne 11, 3) := by decide +kernel
theorem dX10_letter_42 : decode cX10_letter 42 = .ok (.aload_n 0, 1) := by decide +kernel
theorem dX10_letter_43 : decode cX10_letter 43 = .ok (.getfield 26, 3) := by decide +kernel
theorem dX10_letter_46 : decode cX10_letter 46 = .ok (.iload 4, 2) := by decide +kernel
theorem dX10_letter_48 : decode cX10_letter 48 = .ok (.iaload, 1) := by decide +kernel
theorem dX10_letter_49 : decode cX10_letter 49 = .ok (.ireturn, 1) := by decide +kernel
theorem dX10_letter_50 : decode cX10_letter 50 = .ok (.iload_n 3, 1) := by decide +kernel
theorem dX10_letter_51 : decode cX10_letter 51 = .ok (.ifCond .lt 14, 3) := by decide +kernel
theorem dX10_letter_54 : decode cX10_letter 54 = .ok (.iload_n 3, 1) := by decide +kernel
theorem dX10_letter_55 : decode cX10_letter 55 = .ok (.aload_n 0, 1) := by decide +kernel
theorem dX10_letter_56 : decode cX10_letter 56 = .ok (.getfield 29, 3) := by decide +kernel
theorem dX10_letter_59 : decode cX10_letter 59 = .ok (.iload 4, 2) := by decide +kernel
theorem dX10_letter_61 : decode cX10_letter 61 = .ok (.iaload, 1) := by decide +kernel
theorem dX10_letter_62 : decode cX10_letter 62 = .ok (.if_icmp .lt 7, 3) := by decide +kernel
theorem dX10_letter_65 : decode cX10_letter 65 = .ok (.iconst (-1), 1) := by decide +kernel
theorem dX10_letter_66 : decode cX10_letter 66 = .ok (.goto 15, 3) := by decide +kernel
theorem dX10_letter_69 : decode cX10_letter 69 = .ok (.aload_n 0, 1) := by decide +kernel
theorem dX10_letter_70 : decode cX10_letter 70 = .ok (.getfield 32, 3) := by decide +kernel
theorem dX10_letter_73 : decode cX10_letter 73 = .ok (.bipush 10, 2) := by decide +kernel
theorem dX10_letter_75 : decode cX10_letter 75 = .ok (.iload 4, 2) := by decide +kernel
theorem dX10_letter_77 : decode cX10_letter 77 = .ok (.imul, 1) := by decide +kernel
theorem dX10_letter_78 : decode cX10_letter 78 = .ok (.iload_n 3, 1) := by decide +kernel
theorem dX10_letter_79 : decode cX10_letter 79 = .ok (.iadd, 1) := by decide +kernel
theorem dX10_letter_80 : decode cX10_letter 80 = .ok (.iaload, 1) := by decide +kernel
theorem dX10_letter_81 : decode cX10_letter 81 = .ok (.ireturn, 1) := by decide +kernel
theorem dX10_set_0 : decode cX10_set 0 = .ok (.aload_n 0, 1) := by decide +kernel
theorem dX10_set_1 : decode cX10_set 1 = .ok (.iconst 0, 1) := by decide +kernel
theorem dX10_set_2 : decode cX10_set 2 = .ok (.putfield 84, 3) := by decide +kernel
theorem dX10_set_5 : decode cX10_set 5 = .ok (.aload_n 0, 1) := by decide +kernel
theorem dX10_set_6 : decode cX10_set 6 = .ok (.iload_n 1, 1) := by decide +kernel
theorem dX10_set_7 : decode cX10_set 7 = .ok (.invokevirtual 154, 3) := by decide +kernel
theorem dX10_set_10 : decode cX10_set 10 = .ok (.ifCond .ne 5, 3) := by decide +kernel
theorem dX10_set_13 : decode cX10_set 13 = .ok (.iconst (-1), 1) := by decide +kernel
theorem dX10_set_14 : decode cX10_set 14 = .ok (.ireturn, 1) := by decide +kernel
theorem dX10_set_15 : decode cX10_set 15 = .ok (.iload_n 2, 1) := by decide +kernel
theorem dX10_set_16 : decode cX10_set 16 = .ok (.tableswitch 104 0 4 #[36, 43, 50, 57, 72], 36) := by decide +kernel
theorem dX10_set_52 : decode cX10_set 52 = .ok (.aload_n 0, 1) := by decide +kernel
theorem dX10_set_53 : decode cX10_set 53 = .ok (.getfield 35, 3) := by decide +kernel
theorem dX10_set_56 : decode cX10_set 56 = .ok (.iload_n 1, 1) := by decide +kernel
theorem dX10_set_57 : decode cX10_set 57 = .ok (.iaload, 1) := by decide +kernel
theorem dX10_set_58 : decode cX10_set 58 = .ok (.ireturn, 1) := by decide +kernel
theorem dX10_set_59 : decode cX10_set 59 = .ok (.aload_n 0, 1) := by decide +kernel
theorem dX10_set_60 : decode cX10_set 60 = .ok (.getfield 38, 3) := by decide +kernel
theorem dX10_set_63 : decode cX10_set 63 = .ok (.iload_n 1, 1) := by decide +kernel
theorem dX10_set_64 : decode cX10_set 64 = .ok (.iaload, 1) := by decide +kernel
theorem dX10_set_65 : decode cX10_set 65 = .ok (.ireturn, 1) := by decide +kernel
theorem dX10_set_66 : decode cX10_set 66 = .ok (.aload_n 0, 1) := by decide +kernel
theorem dX10_set_67 : decode cX10_set 67 = .ok (.getfield 41, 3) := by decide +kernel
theorem dX10_set_70 : decode cX10_set 70 = .ok (.iload_n 1, 1) := by decide +kernel
theorem dX10_set_71 : decode cX10_set 71 = .ok (.iaload, 1) := by decide +kernel
theorem dX10_set_72 : decode cX10_set 72 = .ok (.ireturn, 1) := by decide +kernel
theorem dX10_set_73 : decode cX10_set 73 = .ok (.aload_n 0, 1) := by decide +kernel
theorem dX10_set_74 : decode cX10_set 74 = .ok (.getfield 47, 3) := by decide +kernel
theorem dX10_set_77 : decode cX10_set 77 = .ok (.iload_n 1, 1) := by decide +kernel
theorem dX10_set_78 : decode cX10_set 78 = .ok (.baload, 1) := by decide +kernel
theorem dX10_set_79 : decode cX10_set 79 = .ok (.ifCond .eq 7, 3) := by decide +kernel
theorem dX10_set_82 : decode cX10_set 82 = .ok (.iconst 1, 1) := by decide +kernel
theorem dX10_set_83 : decode cX10_set 83 = .ok (.goto 4, 3) := by decide +kernel
theorem dX10_set_86 : decode cX10_set 86 = .ok (.iconst 0, 1) := by decide +kernel
theorem dX10_set_87 : decode cX10_set 87 = .ok (.ireturn, 1) := by decide +kernel
theorem dX10_set_88 : decode cX10_set 88 = .ok (.aload_n 0, 1) := by decide +kernel
theorem dX10_set_89 : decode cX10_set 89 = .ok (.getfield 41, 3) := by decide +kernel
theorem dX10_set_92 : decode cX10_set 92 = .ok (.iload_n 1, 1) := by decide +kernel
theorem dX10_set_93 : decode cX10_set 93 = .ok (.iaload, 1) := by decide +kernel
theorem dX10_set_94 : decode cX10_set 94 = .ok (.ifCond .ne 7, 3) := by decide +kernel
theorem dX10_set_97 : decode cX10_set 97 = .ok (.iconst 0, 1) := by decide +kernel
theorem dX10_set_98 : decode cX10_set 98 = .ok (.goto 21, 3) := by decide +kernel
theorem dX10_set_101 : decode cX10_set 101 = .ok (.aload_n 0, 1) := by decide +kernel
theorem dX10_set_102 : decode cX10_set 102 = .ok (.getfield 44, 3) := by decide +kernel
theorem dX10_set_105 : decode cX10_set 105 = .ok (.bipush 60, 2) := by decide +kernel
theorem dX10_set_107 : decode cX10_set 107 = .ok (.iload_n 1, 1) := by decide +kernel
theorem dX10_set_108 : decode cX10_set 108 = .ok (.imul, 1) := by decide +kernel
theorem dX10_set_109 : decode cX10_set 109 = .ok (.aload_n 0, 1) := by decide +kernel
theorem dX10_set_110 : decode cX10_set 110 = .ok (.getfield 41, 3) := by decide +kernel
theorem dX10_set_113 : decode cX10_set 113 = .ok (.iload_n 1, 1) := by decide +kernel
theorem dX10_set_114 : decode cX10_set 114 = .ok (.iaload, 1) := by decide +kernel
theorem dX10_set_115 : decode cX10_set 115 = .ok (.iadd, 1) := by decide +kernel
theorem dX10_set_116 : decode cX10_set 116 = .ok (.iconst 1, 1) := by decide +kernel
theorem dX10_set_117 : decode cX10_set 117 = .ok (.isub, 1) := by decide +kernel
theorem dX10_set_118 : decode cX10_set 118 = .ok (.iaload, 1) := by decide +kernel
theorem dX10_set_119 : decode cX10_set 119 = .ok (.ireturn, 1) := by decide +kernel
theorem dX10_set_120 : decode cX10_set 120 = .ok (.iconst (-1), 1) := by decide +kernel
theorem dX10_set_121 : decode cX10_set 121 = .ok (.ireturn, 1) := by decide +kernel
theorem dX10_count_0 : decode cX10_count 0 = .ok (.aload_n 0, 1) := by decide +kernel
theorem dX10_count_1 : decode cX10_count 1 = .ok (.iconst 0, 1) := by decide +kernel
theorem dX10_count_2 : decode cX10_count 2 = .ok (.putfield 84, 3) := by decide +kernel
theorem dX10_count_5 : decode cX10_count 5 = .ok (.iload_n 1, 1) := by decide +kernel
theorem dX10_count_6 : decode cX10_count 6 = .ok (.tableswitch 68 0 5 #[38, 43, 48, 53, 58, 63], 38) := by decide +kernel
theorem dX10_count_44 : decode cX10_count 44 = .ok (.aload_n 0, 1) := by decide +kernel
theorem dX10_count_45 : decode cX10_count 45 = .ok (.getfield 87, 3) := by decide +kernel
theorem dX10_count_48 : decode cX10_count 48 = .ok (.ireturn, 1) := by decide +kernel
theorem dX10_count_49 : decode cX10_count 49 = .ok (.aload_n 0, 1) := by decide +kernel
theorem dX10_count_50 : decode cX10_count 50 = .ok (.getfield 90, 3) := by decide +kernel
theorem dX10_count_53 : decode cX10_count 53 = .ok (.ireturn, 1) := by decide +kernel
theorem dX10_count_54 : decode cX10_count 54 = .ok (.aload_n 0, 1) := by decide +kernel
theorem dX10_count_55 : decode cX10_count 55 = .ok (.getfield 93, 3) := by decide +kernel
theorem dX10_count_58 : decode cX10_count 58 = .ok (.ireturn, 1) := by decide +kernel
theorem dX10_count_59 : decode cX10_count 59 = .ok (.aload_n 0, 1) := by decide +kernel
theorem dX10_count_60 : decode cX10_count 60 = .ok (.getfield 178, 3) := by decide +kernel
theorem dX10_count_63 : decode cX10_count 63 = .ok (.ireturn, 1) := by decide +kernel
theorem dX10_count_64 : decode cX10_count 64 = .ok (.aload_n 0, 1) := by decide +kernel
theorem dX10_count_65 : decode cX10_count 65 = .ok (.getfield 164, 3) := by decide +kernel
theorem dX10_count_68 : decode cX10_count 68 = .ok (.ireturn, 1) := by decide +kernel
theorem dX10_count_69 : decode cX10_count 69 = .ok (.aload_n 0, 1) := by decide +kernel
theorem dX10_count_70 : decode cX10_count 70 = .ok (.getfield 194, 3) := by decide +kernel
theorem dX10_count_73 : decode cX10_count 73 = .ok (.ireturn, 1) := by decide +kernel
theorem dX10_count_74 : decode cX10_count 74 = .ok (.iconst (-1), 1) := by decide +kernel
theorem dX10_count_75 : decode cX10_count 75 = .ok (.ireturn, 1) := by decide +kernel
