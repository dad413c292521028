theorem d_M_get_0 : decode c_M_get 0 = .ok (.iload_n 1, 1) := by decide +kernel
theorem d_M_get_1 : decode c_M_get 1 = .ok (.invokestatic 93, 3) := by decide +kernel
theorem d_M_get_4 : decode c_M_get 4 = .ok (.ifCond .eq 12, 3) := by decide +kernel
theorem d_M_get_7 : decode c_M_get 7 = .ok (.iload_n 2, 1) := by decide +kernel
theorem d_M_get_8 : decode c_M_get 8 = .ok (.iconst 0, 1) := by decide +kernel
theorem d_M_get_9 : decode c_M_get 9 = .ok (.iconst 2, 1) := by decide +kernel
theorem d_M_get_10 : decode c_M_get 10 = .ok (.invokestatic 74, 3) := by decide +kernel
theorem d_M_get_13 : decode c_M_get 13 = .ok (.ifCond .ne 6, 3) := by decide +kernel
theorem d_M_get_16 : decode c_M_get 16 = .ok (.ldc 129, 2) := by decide +kernel
theorem d_M_get_18 : decode c_M_get 18 = .ok (.ireturn, 1) := by decide +kernel
theorem d_M_get_19 : decode c_M_get 19 = .ok (.aload_n 0, 1) := by decide +kernel
theorem d_M_get_20 : decode c_M_get 20 = .ok (.iload_n 1, 1) := by decide +kernel
theorem d_M_get_21 : decode c_M_get 21 = .ok (.iload_n 2, 1) := by decide +kernel
theorem d_M_get_22 : decode c_M_get 22 = .ok (.iload_n 3, 1) := by decide +kernel
theorem d_M_get_23 : decode c_M_get 23 = .ok (.invokevirtual 182, 3) := by decide +kernel
theorem d_M_get_26 : decode c_M_get 26 = .ok (.istore 4, 2) := by decide +kernel
theorem d_M_get_28 : decode c_M_get 28 = .ok (.iload 4, 2) := by decide +kernel
theorem d_M_get_30 : decode c_M_get 30 = .ok (.ifCond .le 12, 3) := by decide +kernel
theorem d_M_get_33 : decode c_M_get 33 = .ok (.aload_n 0, 1) := by decide +kernel
theorem d_M_get_34 : decode c_M_get 34 = .ok (.iload 4, 2) := by decide +kernel
theorem d_M_get_36 : decode c_M_get 36 = .ok (.putfield 179, 3) := by decide +kernel
theorem d_M_get_39 : decode c_M_get 39 = .ok (.ldc 129, 2) := by decide +kernel
theorem d_M_get_41 : decode c_M_get 41 = .ok (.ireturn, 1) := by decide +kernel
theorem d_M_get_42 : decode c_M_get 42 = .ok (.aload_n 0, 1) := by decide +kernel
theorem d_M_get_43 : decode c_M_get 43 = .ok (.getfield 68, 3) := by decide +kernel
theorem d_M_get_46 : decode c_M_get 46 = .ok (.bipush 40, 2) := by decide +kernel
theorem d_M_get_48 : decode c_M_get 48 = .ok (.iload_n 1, 1) := by decide +kernel
theorem d_M_get_49 : decode c_M_get 49 = .ok (.imul, 1) := by decide +kernel
theorem d_M_get_50 : decode c_M_get 50 = .ok (.iload_n 3, 1) := by decide +kernel
theorem d_M_get_51 : decode c_M_get 51 = .ok (.iadd, 1) := by decide +kernel
theorem d_M_get_52 : decode c_M_get 52 = .ok (.iaload, 1) := by decide +kernel
theorem d_M_get_53 : decode c_M_get 53 = .ok (.ireturn, 1) := by decide +kernel
theorem d_M_copy_0 : decode c_M_copy 0 = .ok (.iload_n 1, 1) := by decide +kernel
theorem d_M_copy_1 : decode c_M_copy 1 = .ok (.invokestatic 93, 3) := by decide +kernel
theorem d_M_copy_4 : decode c_M_copy 4 = .ok (.ifCond .eq 10, 3) := by decide +kernel
theorem d_M_copy_7 : decode c_M_copy 7 = .ok (.iload_n 3, 1) := by decide +kernel
theorem d_M_copy_8 : decode c_M_copy 8 = .ok (.invokestatic 93, 3) := by decide +kernel
theorem d_M_copy_11 : decode c_M_copy 11 = .ok (.ifCond .ne 6, 3) := by decide +kernel
theorem d_M_copy_14 : decode c_M_copy 14 = .ok (.bipush (-2), 2) := by decide +kernel
theorem d_M_copy_16 : decode c_M_copy 16 = .ok (.ireturn, 1) := by decide +kernel
theorem d_M_copy_17 : decode c_M_copy 17 = .ok (.aload_n 0, 1) := by decide +kernel
theorem d_M_copy_18 : decode c_M_copy 18 = .ok (.getfield 59, 3) := by decide +kernel
theorem d_M_copy_21 : decode c_M_copy 21 = .ok (.iload_n 1, 1) := by decide +kernel
theorem d_M_copy_22 : decode c_M_copy 22 = .ok (.baload, 1) := by decide +kernel
theorem d_M_copy_23 : decode c_M_copy 23 = .ok (.ifCond .eq 12, 3) := by decide +kernel
theorem d_M_copy_26 : decode c_M_copy 26 = .ok (.aload_n 0, 1) := by decide +kernel
theorem d_M_copy_27 : decode c_M_copy 27 = .ok (.getfield 59, 3) := by decide +kernel
theorem d_M_copy_30 : decode c_M_copy 30 = .ok (.iload_n 3, 1) := by decide +kernel
theorem d_M_copy_31 : decode c_M_copy 31 = .ok (.baload, 1) := by decide +kernel
theorem d_M_copy_32 : decode c_M_copy 32 = .ok (.ifCond .ne 9, 3) := by decide +kernel
theorem d_M_copy_35 : decode c_M_copy 35 = .ok (.aload_n 0, 1) := by decide +kernel
theorem d_M_copy_36 : decode c_M_copy 36 = .ok (.iconst 1, 1) := by decide +kernel
theorem d_M_copy_37 : decode c_M_copy 37 = .ok (.invokevirtual 96, 3) := by decide +kernel
theorem d_M_copy_40 : decode c_M_copy 40 = .ok (.ireturn, 1) := by decide +kernel
theorem d_M_copy_41 : decode c_M_copy 41 = .ok (.aload_n 0, 1) := by decide +kernel
theorem d_M_copy_42 : decode c_M_copy 42 = .ok (.getfield 62, 3) := by decide +kernel
theorem d_M_copy_45 : decode c_M_copy 45 = .ok (.iload_n 1, 1) := by decide +kernel
theorem d_M_copy_46 : decode c_M_copy 46 = .ok (.iaload, 1) := by decide +kernel
theorem d_M_copy_47 : decode c_M_copy 47 = .ok (.aload_n 0, 1) := by decide +kernel
theorem d_M_copy_48 : decode c_M_copy 48 = .ok (.getfield 62, 3) := by decide +kernel
theorem d_M_copy_51 : decode c_M_copy 51 = .ok (.iload_n 3, 1) := by decide +kernel
theorem d_M_copy_52 : decode c_M_copy 52 = .ok (.iaload, 1) := by decide +kernel
theorem d_M_copy_53 : decode c_M_copy 53 = .ok (.if_icmp .eq 9, 3) := by decide +kernel
theorem d_M_copy_56 : decode c_M_copy 56 = .ok (.aload_n 0, 1) := by decide +kernel
theorem d_M_copy_57 : decode c_M_copy 57 = .ok (.iconst 4, 1) := by decide +kernel
theorem d_M_copy_58 : decode c_M_copy 58 = .ok (.invokevirtual 96, 3) := by decide +kernel
theorem d_M_copy_61 : decode c_M_copy 61 = .ok (.ireturn, 1) := by decide +kernel
theorem d_M_copy_62 : decode c_M_copy 62 = .ok (.iload_n 2, 1) := by decide +kernel
theorem d_M_copy_63 : decode c_M_copy 63 = .ok (.ifCond .lt 48, 3) := by decide +kernel
theorem d_M_copy_66 : decode c_M_copy 66 = .ok (.iload 4, 2) := by decide +kernel
theorem d_M_copy_68 : decode c_M_copy 68 = .ok (.ifCond .lt 43, 3) := by decide +kernel
theorem d_M_copy_71 : decode c_M_copy 71 = .ok (.iload 5, 2) := by decide +kernel
theorem d_M_copy_73 : decode c_M_copy 73 = .ok (.ifCond .lt 38, 3) := by decide +kernel
theorem d_M_copy_76 : decode c_M_copy 76 = .ok (.iload_n 2, 1) := by decide +kernel
theorem d_M_copy_77 : decode c_M_copy 77 = .ok (.i2l, 1) := by decide +kernel
theorem d_M_copy_78 : decode c_M_copy 78 = .ok (.iload 5, 2) := by decide +kernel
theorem d_M_copy_80 : decode c_M_copy 80 = .ok (.i2l, 1) := by decide +kernel
theorem d_M_copy_81 : decode c_M_copy 81 = .ok (.ladd, 1) := by decide +kernel
theorem d_M_copy_82 : decode c_M_copy 82 = .ok (.aload_n 0, 1) := by decide +kernel
theorem d_M_copy_83 : decode c_M_copy 83 = .ok (.getfield 65, 3) := by decide +kernel
theorem d_M_copy_86 : decode c_M_copy 86 = .ok (.iload_n 1, 1) := by decide +kernel
theorem d_M_copy_87 : decode c_M_copy 87 = .ok (.iaload, 1) := by decide +kernel
theorem d_M_copy_88 : decode c_M_copy 88 = .ok (.i2l, 1) := by decide +kernel
theorem d_M_copy_89 : decode c_M_copy 89 = .ok (.lcmp, 1) := by decide +kernel
theorem d_M_copy_90 : decode c_M_copy 90 = .ok (.ifCond .gt 21, 3) := by decide +kernel
theorem d_M_copy_93 : decode c_M_copy 93 = .ok (.iload 4, 2) := by decide +kernel
theorem d_M_copy_95 : decode c_M_copy 95 = .ok (.i2l, 1) := by decide +kernel
theorem d_M_copy_96 : decode c_M_copy 96 = .ok (.iload 5, 2) := by decide +kernel
theorem d_M_copy_98 : decode c_M_copy 98 = .ok (.i2l, 1) := by decide +kernel
theorem d_M_copy_99 : decode c_M_copy 99 = .ok (.ladd, 1) := by decide +kernel
theorem d_M_copy_100 : decode c_M_copy 100 = .ok (.aload_n 0, 1) := by decide +kernel
theorem d_M_copy_101 : decode c_M_copy 101 = .ok (.getfield 65, 3) := by decide +kernel
theorem d_M_copy_104 : decode c_M_copy 104 = .ok (.iload_n 3, 1) := by decide +kernel
theorem d_M_copy_105 : decode c_M_copy 105 = .ok (.iaload, 1) := by decide +kernel
theorem d_M_copy_106 : decode c_M_copy 106 = .ok (.i2l, 1) := by decide +kernel
theorem d_M_copy_107 : decode c_M_copy 107 = .ok (.lcmp, 1) := by decide +kernel
theorem d_M_copy_108 : decode c_M_copy 108 = .ok (.ifCond .le 9, 3) := by decide +kernel
theorem d_M_copy_111 : decode c_M_copy 111 = .ok (.aload_n 0, 1) := by decide +kernel
theorem d_M_copy_112 : decode c_M_copy 112 = .ok (.iconst 2, 1) := by decide +kernel
theorem d_M_copy_113 : decode c_M_copy 113 = .ok (.invokevirtual 96, 3) := by decide +kernel
theorem d_M_copy_116 : decode c_M_copy 116 = .ok (.ireturn, 1) := by decide +kernel
theorem d_M_copy_117 : decode c_M_copy 117 = .ok (.iconst 0, 1) := by decide +kernel
theorem d_M_copy_118 : decode c_M_copy 118 = .ok (.istore 6, 2) := by decide +kernel
theorem d_M_copy_120 : decode c_M_copy 120 = .ok (.iload 6, 2) := by decide +kernel
theorem d_M_copy_122 : decode c_M_copy 122 = .ok (.iload 5, 2) := by decide +kernel
theorem d_M_copy_124 : decode c_M_copy 124 = .ok (.if_icmp .ge 30, 3) := by decide +kernel
theorem d_M_copy_127 : decode c_M_copy 127 = .ok (.aload_n 0, 1) := by decide +kernel
theorem d_M_copy_128 : decode c_M_copy 128 = .ok (.getfield 71, 3) := by decide +kernel
theorem d_M_copy_131 : decode c_M_copy 131 = .ok (.iload 6, 2) := by decide +kernel
theorem d_M_copy_133 : decode c_M_copy 133 = .ok (.aload_n 0, 1) := by decide +kernel
theorem d_M_copy_134 : decode c_M_copy 134 = .ok (.getfield 68, 3) := by decide +kernel
theorem d_M_copy_137 : decode c_M_copy 137 = .ok (.bipush 40, 2) := by decide +kernel
theorem d_M_copy_139 : decode c_M_copy 139 = .ok (.iload_n 1, 1) := by decide +kernel
theorem d_M_copy_140 : decode c_M_copy 140 = .ok (.imul, 1) := by decide +kernel
theorem d_M_copy_141 : decode c_M_copy 141 = .ok (.iload_n 2, 1) := by decide +kernel
theorem d_M_copy_142 : decode c_M_copy 142 = .ok (.iadd, 1) := by decide +kernel
theorem d_M_copy_143 : decode c_M_copy 143 = .ok (.iload 6, 2) := by decide +kernel
theorem d_M_copy_145 : decode c_M_copy 145 = .ok (.iadd, 1) := by decide +kernel
theorem d_M_copy_146 : decode c_M_copy 146 = .ok (.iaload, 1) := by decide +kernel
theorem d_M_copy_147 : decode c_M_copy 147 = .ok (.iastore, 1) := by decide +kernel
theorem d_M_copy_148 : decode c_M_copy 148 = .ok (.iinc 6 1, 3) := by decide +kernel
theorem d_M_copy_151 : decode c_M_copy 151 = .ok (.goto (-31), 3) := by decide +kernel
theorem d_M_copy_154 : decode c_M_copy 154 = .ok (.iconst 0, 1) := by decide +kernel
theorem d_M_copy_155 : decode c_M_copy 155 = .ok (.istore 6, 2) := by decide +kernel
theorem d_M_copy_157 : decode c_M_copy 157 = .ok (.iload 6, 2) := by decide +kernel
theorem d_M_copy_159 : decode c_M_copy 159 = .ok (.iload 5, 2) := by decide +kernel
theorem d_M_copy_161 : decode c_M_copy 161 = .ok (.if_icmp .ge 31, 3) := by decide +kernel
theorem d_M_copy_164 : decode c_M_copy 164 = .ok (.aload_n 0, 1) := by decide +kernel
theorem d_M_copy_165 : decode c_M_copy 165 = .ok (.getfield 68, 3) := by decide +kernel
theorem d_M_copy_168 : decode c_M_copy 168 = .ok (.bipush 40, 2) := by decide +kernel
theorem d_M_copy_170 : decode c_M_copy 170 = .ok (.iload_n 3, 1) := by decide +kernel
theorem d_M_copy_171 : decode c_M_copy 171 = .ok (.imul, 1) := by decide +kernel
theorem d_M_copy_172 : decode c_M_copy 172 = .ok (.iload 4, 2) := by decide +kernel
theorem d_M_copy_174 : decode c_M_copy 174 = .ok (.iadd, 1) := by decide +kernel
theorem d_M_copy_175 : decode c_M_copy 175 = .ok (.iload 6, 2) := by decide +kernel
theorem d_M_copy_177 : decode c_M_copy 177 = .ok (.iadd, 1) := by decide +kernel
theorem d_M_copy_178 : decode c_M_copy 178 = .ok (.aload_n 0, 1) := by decide +kernel
theorem d_M_copy_179 : decode c_M_copy 179 = .ok (.getfield 71, 3) := by decide +kernel
theorem d_M_copy_182 : decode c_M_copy 182 = .ok (.iload 6, 2) := by decide +kernel
theorem d_M_copy_184 : decode c_M_copy 184 = .ok (.iaload, 1) := by decide +kernel
theorem d_M_copy_185 : decode c_M_copy 185 = .ok (.iastore, 1) := by decide +kernel
theorem d_M_copy_186 : decode c_M_copy 186 = .ok (.iinc 6 1, 3) := by decide +kernel
theorem d_M_copy_189 : decode c_M_copy 189 = .ok (.goto (-32), 3) := by decide +kernel
theorem d_M_copy_192 : decode c_M_copy 192 = .ok (.iconst 1, 1) := by decide +kernel
theorem d_M_copy_193 : decode c_M_copy 193 = .ok (.ireturn, 1) := by decide +kernel
theorem d_M_write_0 : decode c_M_write 0 = .ok (.iload_n 1, 1) := by decide +kernel
theorem d_M_write_1 : decode c_M_write 1 = .ok (.invokestatic 78, 3) := by decide +kernel
theorem d_M_write_4 : decode c_M_write 4 = .ok (.ifCond .eq 25, 3) := by decide +kernel
theorem d_M_write_7 : decode c_M_write 7 = .ok (.iload_n 2, 1) := by decide +kernel
theorem d_M_write_8 : decode c_M_write 8 = .ok (.invokestatic 93, 3) := by decide +kernel
theorem d_M_write_11 : decode c_M_write 11 = .ok (.ifCond .eq 18, 3) := by decide +kernel
theorem d_M_write_14 : decode c_M_write 14 = .ok (.iload_n 3, 1) := by decide +kernel
theorem d_M_write_15 : decode c_M_write 15 = .ok (.invokestatic 93, 3) := by decide +kernel
theorem d_M_write_18 : decode c_M_write 18 = .ok (.ifCond .eq 11, 3) := by decide +kernel
theorem d_M_write_21 : decode c_M_write 21 = .ok (.iload 4, 2) := by decide +kernel
theorem d_M_write_23 : decode c_M_write 23 = .ok (.invokestatic 93, 3) := by decide +kernel
theorem d_M_write_26 : decode c_M_write 26 = .ok (.ifCond .ne 6, 3) := by decide +kernel
theorem d_M_write_29 : decode c_M_write 29 = .ok (.bipush (-2), 2) := by decide +kernel
theorem d_M_write_31 : decode c_M_write 31 = .ok (.ireturn, 1) := by decide +kernel
theorem d_M_write_32 : decode c_M_write 32 = .ok (.aload_n 0, 1) := by decide +kernel
theorem d_M_write_33 : decode c_M_write 33 = .ok (.getfield 44, 3) := by decide +kernel
theorem d_M_write_36 : decode c_M_write 36 = .ok (.iload_n 1, 1) := by decide +kernel
theorem d_M_write_37 : decode c_M_write 37 = .ok (.baload, 1) := by decide +kernel
theorem d_M_write_38 : decode c_M_write 38 = .ok (.ifCond .ne 6, 3) := by decide +kernel
theorem d_M_write_41 : decode c_M_write 41 = .ok (.bipush (-3), 2) := by decide +kernel
theorem d_M_write_43 : decode c_M_write 43 = .ok (.ireturn, 1) := by decide +kernel
theorem d_M_write_44 : decode c_M_write 44 = .ok (.aload_n 0, 1) := by decide +kernel
theorem d_M_write_45 : decode c_M_write 45 = .ok (.getfield 59, 3) := by decide +kernel
theorem d_M_write_48 : decode c_M_write 48 = .ok (.iload_n 2, 1) := by decide +kernel
theorem d_M_write_49 : decode c_M_write 49 = .ok (.baload, 1) := by decide +kernel
theorem d_M_write_50 : decode c_M_write 50 = .ok (.ifCond .eq 22, 3) := by decide +kernel
theorem d_M_write_53 : decode c_M_write 53 = .ok (.aload_n 0, 1) := by decide +kernel
theorem d_M_write_54 : decode c_M_write 54 = .ok (.getfield 59, 3) := by decide +kernel
theorem d_M_write_57 : decode c_M_write 57 = .ok (.iload_n 3, 1) := by decide +kernel
theorem d_M_write_58 : decode c_M_write 58 = .ok (.baload, 1) := by decide +kernel
theorem d_M_write_59 : decode c_M_write 59 = .ok (.ifCond .eq 13, 3) := by decide +kernel
theorem d_M_write_62 : decode c_M_write 62 = .ok (.aload_n 0, 1) := by decide +kernel
theorem d_M_write_63 : decode c_M_write 63 = .ok (.getfield 59, 3) := by decide +kernel
theorem d_M_write_66 : decode c_M_write 66 = .ok (.iload 4, 2) := by decide +kernel
theorem d_M_write_68 : decode c_M_write 68 = .ok (.baload, 1) := by decide +kernel
theorem d_M_write_69 : decode c_M_write 69 = .ok (.ifCond .ne 9, 3) := by decide +kernel
theorem d_M_write_72 : decode c_M_write 72 = .ok (.aload_n 0, 1) := by decide +kernel
theorem d_M_write_73 : decode c_M_write 73 = .ok (.iconst 1, 1) := by decide +kernel
theorem d_M_write_74 : decode c_M_write 74 = .ok (.invokevirtual 96, 3) := by decide +kernel
theorem d_M_write_77 : decode c_M_write 77 = .ok (.ireturn, 1) := by decide +kernel
theorem d_M_write_78 : decode c_M_write 78 = .ok (.aload_n 0, 1) := by decide +kernel
theorem d_M_write_79 : decode c_M_write 79 = .ok (.getfield 65, 3) := by decide +kernel
theorem d_M_write_82 : decode c_M_write 82 = .ok (.iload_n 2, 1) := by decide +kernel
theorem d_M_write_83 : decode c_M_write 83 = .ok (.iaload, 1) := by decide +kernel
theorem d_M_write_84 : decode c_M_write 84 = .ok (.aload_n 0, 1) := by decide +kernel
theorem d_M_write_85 : decode c_M_write 85 = .ok (.getfield 65, 3) := by decide +kernel
theorem d_M_write_88 : decode c_M_write 88 = .ok (.iload_n 3, 1) := by decide +kernel
theorem d_M_write_89 : decode c_M_write 89 = .ok (.iaload, 1) := by decide +kernel
theorem d_M_write_90 : decode c_M_write 90 = .ok (.if_icmp .ge 12, 3) := by decide +kernel
theorem d_M_write_93 : decode c_M_write 93 = .ok (.aload_n 0, 1) := by decide +kernel
theorem d_M_write_94 : decode c_M_write 94 = .ok (.getfield 65, 3) := by decide +kernel
theorem d_M_write_97 : decode c_M_write 97 = .ok (.iload_n 2, 1) := by decide +kernel
theorem d_M_write_98 : decode c_M_write 98 = .ok (.iaload, 1) := by decide +kernel
theorem d_M_write_99 : decode c_M_write 99 = .ok (.goto 9, 3) := by decide +kernel
theorem d_M_write_102 : decode c_M_write 102 = .ok (.aload_n 0, 1) := by decide +kernel
theorem d_M_write_103 : decode c_M_write 103 = .ok (.getfield 65, 3) := by decide +kernel
theorem d_M_write_106 : decode c_M_write 106 = .ok (.iload_n 3, 1) := by decide +kernel
theorem d_M_write_107 : decode c_M_write 107 = .ok (.iaload, 1) := by decide +kernel
theorem d_M_write_108 : decode c_M_write 108 = .ok (.istore 5, 2) := by decide +kernel
theorem d_M_write_110 : decode c_M_write 110 = .ok (.aload_n 0, 1) := by decide +kernel
theorem d_M_write_111 : decode c_M_write 111 = .ok (.getfield 65, 3) := by decide +kernel
theorem d_M_write_114 : decode c_M_write 114 = .ok (.iload 4, 2) := by decide +kernel
theorem d_M_write_116 : decode c_M_write 116 = .ok (.iaload, 1) := by decide +kernel
theorem d_M_write_117 : decode c_M_write 117 = .ok (.iload 5, 2) := by decide +kernel
theorem d_M_write_119 : decode c_M_write 119 = .ok (.if_icmp .ge 13, 3) := by decide +kernel
theorem d_M_write_122 : decode c_M_write 122 = .ok (.aload_n 0, 1) := by decide +kernel
theorem d_M_write_123 : decode c_M_write 123 = .ok (.getfield 65, 3) := by decide +kernel
theorem d_M_write_126 : decode c_M_write 126 = .ok (.iload 4, 2) := by decide +kernel
theorem d_M_write_128 : decode c_M_write 128 = .ok (.iaload, 1) := by decide +kernel
theorem d_M_write_129 : decode c_M_write 129 = .ok (.goto 5, 3) := by decide +kernel
theorem d_M_write_132 : decode c_M_write 132 = .ok (.iload 5, 2) := by decide +kernel
theorem d_M_write_134 : decode c_M_write 134 = .ok (.istore 5, 2) := by decide +kernel
theorem d_M_write_136 : decode c_M_write 136 = .ok (.iconst 0, 1) := by decide +kernel
theorem d_M_write_137 : decode c_M_write 137 = .ok (.istore 6, 2) := by decide +kernel
theorem d_M_write_139 : decode c_M_write 139 = .ok (.bipush 96, 2) := by decide +kernel
theorem d_M_write_141 : decode c_M_write 141 = .ok (.iload_n 1, 1) := by decide +kernel
theorem d_M_write_142 : decode c_M_write 142 = .ok (.imul, 1) := by decide +kernel
theorem d_M_write_143 : decode c_M_write 143 = .ok (.istore 7, 2) := by decide +kernel
theorem d_M_write_145 : decode c_M_write 145 = .ok (.iload 7, 2) := by decide +kernel
theorem d_M_write_147 : decode c_M_write 147 = .ok (.bipush 96, 2) := by decide +kernel
theorem d_M_write_149 : decode c_M_write 149 = .ok (.iload_n 1, 1) := by decide +kernel
theorem d_M_write_150 : decode c_M_write 150 = .ok (.imul, 1) := by decide +kernel
theorem d_M_write_151 : decode c_M_write 151 = .ok (.bipush 96, 2) := by decide +kernel
theorem d_M_write_153 : decode c_M_write 153 = .ok (.iadd, 1) := by decide +kernel
theorem d_M_write_154 : decode c_M_write 154 = .ok (.if_icmp .ge 71, 3) := by decide +kernel
theorem d_M_write_157 : decode c_M_write 157 = .ok (.iload 6, 2) := by decide +kernel
theorem d_M_write_159 : decode c_M_write 159 = .ok (.iload 5, 2) := by decide +kernel
theorem d_M_write_161 : decode c_M_write 161 = .ok (.if_icmp .ge 64, 3) := by decide +kernel
theorem d_M_write_164 : decode c_M_write 164 = .ok (.aload_n 0, 1) := by decide +kernel
theorem d_M_write_165 : decode c_M_write 165 = .ok (.iload 7, 2) := by decide +kernel
theorem d_M_write_167 : decode c_M_write 167 = .ok (.invokevirtual 166, 3) := by decide +kernel
theorem d_M_write_170 : decode c_M_write 170 = .ok (.ifCond .eq 49, 3) := by decide +kernel
theorem d_M_write_173 : decode c_M_write 173 = .ok (.aload_n 0, 1) := by decide +kernel
theorem d_M_write_174 : decode c_M_write 174 = .ok (.iload_n 2, 1) := by decide +kernel
theorem d_M_write_175 : decode c_M_write 175 = .ok (.iload 6, 2) := by decide +kernel
theorem d_M_write_177 : decode c_M_write 177 = .ok (.aload_n 0, 1) := by decide +kernel
theorem d_M_write_178 : decode c_M_write 178 = .ok (.getfield 13, 3) := by decide +kernel
theorem d_M_write_181 : decode c_M_write 181 = .ok (.iload 7, 2) := by decide +kernel
theorem d_M_write_183 : decode c_M_write 183 = .ok (.iaload, 1) := by decide +kernel
theorem d_M_write_184 : decode c_M_write 184 = .ok (.invokevirtual 186, 3) := by decide +kernel
theorem d_M_write_187 : decode c_M_write 187 = .ok (.aload_n 0, 1) := by decide +kernel
theorem d_M_write_188 : decode c_M_write 188 = .ok (.iload_n 3, 1) := by decide +kernel
theorem d_M_write_189 : decode c_M_write 189 = .ok (.iload 6, 2) := by decide +kernel
theorem d_M_write_191 : decode c_M_write 191 = .ok (.aload_n 0, 1) := by decide +kernel
theorem d_M_write_192 : decode c_M_write 192 = .ok (.getfield 16, 3) := by decide +kernel
theorem d_M_write_195 : decode c_M_write 195 = .ok (.iload 7, 2) := by decide +kernel
theorem d_M_write_197 : decode c_M_write 197 = .ok (.iaload, 1) := by decide +kernel
theorem d_M_write_198 : decode c_M_write 198 = .ok (.invokevirtual 186, 3) := by decide +kernel
theorem d_M_write_201 : decode c_M_write 201 = .ok (.aload_n 0, 1) := by decide +kernel
theorem d_M_write_202 : decode c_M_write 202 = .ok (.iload 4, 2) := by decide +kernel
theorem d_M_write_204 : decode c_M_write 204 = .ok (.iload 6, 2) := by decide +kernel
theorem d_M_write_206 : decode c_M_write 206 = .ok (.aload_n 0, 1) := by decide +kernel
theorem d_M_write_207 : decode c_M_write 207 = .ok (.getfield 19, 3) := by decide +kernel
theorem d_M_write_210 : decode c_M_write 210 = .ok (.iload 7, 2) := by decide +kernel
theorem d_M_write_212 : decode c_M_write 212 = .ok (.iaload, 1) := by decide +kernel
theorem d_M_write_213 : decode c_M_write 213 = .ok (.invokevirtual 186, 3) := by decide +kernel
theorem d_M_write_216 : decode c_M_write 216 = .ok (.iinc 6 1, 3) := by decide +kernel
theorem d_M_write_219 : decode c_M_write 219 = .ok (.iinc 7 1, 3) := by decide +kernel
theorem d_M_write_222 : decode c_M_write 222 = .ok (.goto (-77), 3) := by decide +kernel
theorem d_M_write_225 : decode c_M_write 225 = .ok (.iload 6, 2) := by decide +kernel
theorem d_M_write_227 : decode c_M_write 227 = .ok (.ireturn, 1) := by decide +kernel
theorem d_M_told_0 : decode c_M_told 0 = .ok (.iload_n 1, 1) := by decide +kernel
theorem d_M_told_1 : decode c_M_told 1 = .ok (.tableswitch 123 0 9 #[55, 55, 61, 66, 71, 71, 88, 88, 98, 98], 55) := by decide +kernel
theorem d_M_told_56 : decode c_M_told 56 = .ok (.aload_n 0, 1) := by decide +kernel
theorem d_M_told_57 : decode c_M_told 57 = .ok (.iload_n 1, 1) := by decide +kernel
theorem d_M_told_58 : decode c_M_told 58 = .ok (.invokevirtual 113, 3) := by decide +kernel
theorem d_M_told_61 : decode c_M_told 61 = .ok (.ireturn, 1) := by decide +kernel
theorem d_M_told_62 : decode c_M_told 62 = .ok (.aload_n 0, 1) := by decide +kernel
theorem d_M_told_63 : decode c_M_told 63 = .ok (.getfield 119, 3) := by decide +kernel
theorem d_M_told_66 : decode c_M_told 66 = .ok (.ireturn, 1) := by decide +kernel
theorem d_M_told_67 : decode c_M_told 67 = .ok (.aload_n 0, 1) := by decide +kernel
theorem d_M_told_68 : decode c_M_told 68 = .ok (.getfield 179, 3) := by decide +kernel
theorem d_M_told_71 : decode c_M_told 71 = .ok (.ireturn, 1) := by decide +kernel
theorem d_M_told_72 : decode c_M_told 72 = .ok (.aload_n 0, 1) := by decide +kernel
theorem d_M_told_73 : decode c_M_told 73 = .ok (.getfield 44, 3) := by decide +kernel
theorem d_M_told_76 : decode c_M_told 76 = .ok (.iload_n 1, 1) := by decide +kernel
theorem d_M_told_77 : decode c_M_told 77 = .ok (.iconst 4, 1) := by decide +kernel
theorem d_M_told_78 : decode c_M_told 78 = .ok (.isub, 1) := by decide +kernel
theorem d_M_told_79 : decode c_M_told 79 = .ok (.baload, 1) := by decide +kernel
theorem d_M_told_80 : decode c_M_told 80 = .ok (.ifCond .eq 7, 3) := by decide +kernel
theorem d_M_told_83 : decode c_M_told 83 = .ok (.iconst 1, 1) := by decide +kernel
theorem d_M_told_84 : decode c_M_told 84 = .ok (.goto 4, 3) := by decide +kernel
theorem d_M_told_87 : decode c_M_told 87 = .ok (.iconst 0, 1) := by decide +kernel
theorem d_M_told_88 : decode c_M_told 88 = .ok (.ireturn, 1) := by decide +kernel
theorem d_M_told_89 : decode c_M_told 89 = .ok (.aload_n 0, 1) := by decide +kernel
theorem d_M_told_90 : decode c_M_told 90 = .ok (.getfield 47, 3) := by decide +kernel
theorem d_M_told_93 : decode c_M_told 93 = .ok (.iload_n 1, 1) := by decide +kernel
theorem d_M_told_94 : decode c_M_told 94 = .ok (.bipush 6, 2) := by decide +kernel
theorem d_M_told_96 : decode c_M_told 96 = .ok (.isub, 1) := by decide +kernel
theorem d_M_told_97 : decode c_M_told 97 = .ok (.iaload, 1) := by decide +kernel
theorem d_M_told_98 : decode c_M_told 98 = .ok (.ireturn, 1) := by decide +kernel
theorem d_M_told_99 : decode c_M_told 99 = .ok (.aload_n 0, 1) := by decide +kernel
theorem d_M_told_100 : decode c_M_told 100 = .ok (.getfield 44, 3) := by decide +kernel
theorem d_M_told_103 : decode c_M_told 103 = .ok (.iload_n 1, 1) := by decide +kernel
theorem d_M_told_104 : decode c_M_told 104 = .ok (.bipush 8, 2) := by decide +kernel
theorem d_M_told_106 : decode c_M_told 106 = .ok (.isub, 1) := by decide +kernel
theorem d_M_told_107 : decode c_M_told 107 = .ok (.baload, 1) := by decide +kernel
theorem d_M_told_108 : decode c_M_told 108 = .ok (.ifCond .eq 14, 3) := by decide +kernel
theorem d_M_told_111 : decode c_M_told 111 = .ok (.aload_n 0, 1) := by decide +kernel
theorem d_M_told_112 : decode c_M_told 112 = .ok (.iload_n 1, 1) := by decide +kernel
theorem d_M_told_113 : decode c_M_told 113 = .ok (.bipush 8, 2) := by decide +kernel
theorem d_M_told_115 : decode c_M_told 115 = .ok (.isub, 1) := by decide +kernel
theorem d_M_told_116 : decode c_M_told 116 = .ok (.invokevirtual 110, 3) := by decide +kernel
theorem d_M_told_119 : decode c_M_told 119 = .ok (.goto 4, 3) := by decide +kernel
theorem d_M_told_122 : decode c_M_told 122 = .ok (.iconst 0, 1) := by decide +kernel
theorem d_M_told_123 : decode c_M_told 123 = .ok (.ireturn, 1) := by decide +kernel
theorem d_M_told_124 : decode c_M_told 124 = .ok (.bipush (-2), 2) := by decide +kernel
theorem d_M_told_126 : decode c_M_told 126 = .ok (.ireturn, 1) := by decide +kernel
theorem d_M_digest_0 : decode c_M_digest 0 = .ok (.ldc2_w 190, 3) := by decide +kernel
theorem d_M_digest_3 : decode c_M_digest 3 = .ok (.lstore_n 1, 1) := by decide +kernel
theorem d_M_digest_4 : decode c_M_digest 4 = .ok (.iconst 0, 1) := by decide +kernel
theorem d_M_digest_5 : decode c_M_digest 5 = .ok (.istore_n 3, 1) := by decide +kernel
theorem d_M_digest_6 : decode c_M_digest 6 = .ok (.iload_n 3, 1) := by decide +kernel
theorem d_M_digest_7 : decode c_M_digest 7 = .ok (.bipush 10, 2) := by decide +kernel
theorem d_M_digest_9 : decode c_M_digest 9 = .ok (.if_icmp .ge 31, 3) := by decide +kernel
theorem d_M_digest_12 : decode c_M_digest 12 = .ok (.iload_n 3, 1) := by decide +kernel
theorem d_M_digest_13 : decode c_M_digest 13 = .ok (.iconst 3, 1) := by decide +kernel
theorem d_M_digest_14 : decode c_M_digest 14 = .ok (.if_icmp .ne 7, 3) := by decide +kernel
theorem d_M_digest_17 : decode c_M_digest 17 = .ok (.lload_n 1, 1) := by decide +kernel
theorem d_M_digest_18 : decode c_M_digest 18 = .ok (.goto 15, 3) := by decide +kernel
theorem d_M_digest_21 : decode c_M_digest 21 = .ok (.ldc2_w 192, 3) := by decide +kernel
theorem d_M_digest_24 : decode c_M_digest 24 = .ok (.lload_n 1, 1) := by decide +kernel
theorem d_M_digest_25 : decode c_M_digest 25 = .ok (.lmul, 1) := by decide +kernel
theorem d_M_digest_26 : decode c_M_digest 26 = .ok (.aload_n 0, 1) := by decide +kernel
theorem d_M_digest_27 : decode c_M_digest 27 = .ok (.iload_n 3, 1) := by decide +kernel
theorem d_M_digest_28 : decode c_M_digest 28 = .ok (.invokevirtual 194, 3) := by decide +kernel
theorem d_M_digest_31 : decode c_M_digest 31 = .ok (.i2l, 1) := by decide +kernel
theorem d_M_digest_32 : decode c_M_digest 32 = .ok (.ladd, 1) := by decide +kernel
theorem d_M_digest_33 : decode c_M_digest 33 = .ok (.lstore_n 1, 1) := by decide +kernel
theorem d_M_digest_34 : decode c_M_digest 34 = .ok (.iinc 3 1, 3) := by decide +kernel
theorem d_M_digest_37 : decode c_M_digest 37 = .ok (.goto (-31), 3) := by decide +kernel
theorem d_M_digest_40 : decode c_M_digest 40 = .ok (.iconst 0, 1) := by decide +kernel
theorem d_M_digest_41 : decode c_M_digest 41 = .ok (.istore_n 3, 1) := by decide +kernel
theorem d_M_digest_42 : decode c_M_digest 42 = .ok (.iload_n 3, 1) := by decide +kernel
theorem d_M_digest_43 : decode c_M_digest 43 = .ok (.iconst 2, 1) := by decide +kernel
theorem d_M_digest_44 : decode c_M_digest 44 = .ok (.if_icmp .ge 189, 3) := by decide +kernel
theorem d_M_digest_47 : decode c_M_digest 47 = .ok (.aload_n 0, 1) := by decide +kernel
theorem d_M_digest_48 : decode c_M_digest 48 = .ok (.getfield 44, 3) := by decide +kernel
theorem d_M_digest_51 : decode c_M_digest 51 = .ok (.iload_n 3, 1) := by decide +kernel
theorem d_M_digest_52 : decode c_M_digest 52 = .ok (.baload, 1) := by decide +kernel
theorem d_M_digest_53 : decode c_M_digest 53 = .ok (.ifCond .eq 174, 3) := by decide +kernel
theorem d_M_digest_56 : decode c_M_digest 56 = .ok (.iconst 0, 1) := by decide +kernel
theorem d_M_digest_57 : decode c_M_digest 57 = .ok (.istore 4, 2) := by decide +kernel
theorem d_M_digest_59 : decode c_M_digest 59 = .ok (.iload 4, 2) := by decide +kernel
theorem d_M_digest_61 : decode c_M_digest 61 = .ok (.bipush 8, 2) := by decide +kernel
theorem d_M_digest_63 : decode c_M_digest 63 = .ok (.if_icmp .ge 136, 3) := by decide +kernel
theorem d_M_digest_66 : decode c_M_digest 66 = .ok (.iconst 0, 1) := by decide +kernel
theorem d_M_digest_67 : decode c_M_digest 67 = .ok (.istore 5, 2) := by decide +kernel
theorem d_M_digest_69 : decode c_M_digest 69 = .ok (.iload 5, 2) := by decide +kernel
theorem d_M_digest_71 : decode c_M_digest 71 = .ok (.bipush 14, 2) := by decide +kernel
theorem d_M_digest_73 : decode c_M_digest 73 = .ok (.if_icmp .ge 44, 3) := by decide +kernel
theorem d_M_digest_76 : decode c_M_digest 76 = .ok (.iload 5, 2) := by decide +kernel
theorem d_M_digest_78 : decode c_M_digest 78 = .ok (.bipush 8, 2) := by decide +kernel
theorem d_M_digest_80 : decode c_M_digest 80 = .ok (.if_icmp .eq 10, 3) := by decide +kernel
theorem d_M_digest_83 : decode c_M_digest 83 = .ok (.iload 5, 2) := by decide +kernel
theorem d_M_digest_85 : decode c_M_digest 85 = .ok (.bipush 9, 2) := by decide +kernel
theorem d_M_digest_87 : decode c_M_digest 87 = .ok (.if_icmp .ne 7, 3) := by decide +kernel
theorem d_M_digest_90 : decode c_M_digest 90 = .ok (.lload_n 1, 1) := by decide +kernel
theorem d_M_digest_91 : decode c_M_digest 91 = .ok (.goto 19, 3) := by decide +kernel
theorem d_M_digest_94 : decode c_M_digest 94 = .ok (.ldc2_w 192, 3) := by decide +kernel
theorem d_M_digest_97 : decode c_M_digest 97 = .ok (.lload_n 1, 1) := by decide +kernel
theorem d_M_digest_98 : decode c_M_digest 98 = .ok (.lmul, 1) := by decide +kernel
theorem d_M_digest_99 : decode c_M_digest 99 = .ok (.aload_n 0, 1) := by decide +kernel
theorem d_M_digest_100 : decode c_M_digest 100 = .ok (.iload_n 3, 1) := by decide +kernel
theorem d_M_digest_101 : decode c_M_digest 101 = .ok (.iload 4, 2) := by decide +kernel
theorem d_M_digest_103 : decode c_M_digest 103 = .ok (.iload 5, 2) := by decide +kernel
theorem d_M_digest_105 : decode c_M_digest 105 = .ok (.invokevirtual 197, 3) := by decide +kernel
theorem d_M_digest_108 : decode c_M_digest 108 = .ok (.i2l, 1) := by decide +kernel
theorem d_M_digest_109 : decode c_M_digest 109 = .ok (.ladd, 1) := by decide +kernel
theorem d_M_digest_110 : decode c_M_digest 110 = .ok (.lstore_n 1, 1) := by decide +kernel
theorem d_M_digest_111 : decode c_M_digest 111 = .ok (.iinc 5 1, 3) := by decide +kernel
theorem d_M_digest_114 : decode c_M_digest 114 = .ok (.goto (-45), 3) := by decide +kernel
theorem d_M_digest_117 : decode c_M_digest 117 = .ok (.iconst 0, 1) := by decide +kernel
theorem d_M_digest_118 : decode c_M_digest 118 = .ok (.istore 5, 2) := by decide +kernel
theorem d_M_digest_120 : decode c_M_digest 120 = .ok (.iload 5, 2) := by decide +kernel
theorem d_M_digest_122 : decode c_M_digest 122 = .ok (.aload_n 0, 1) := by decide +kernel
theorem d_M_digest_123 : decode c_M_digest 123 = .ok (.getfield 7, 3) := by decide +kernel
theorem d_M_digest_126 : decode c_M_digest 126 = .ok (.bipush 8, 2) := by decide +kernel
theorem d_M_digest_128 : decode c_M_digest 128 = .ok (.iload_n 3, 1) := by decide +kernel
theorem d_M_digest_129 : decode c_M_digest 129 = .ok (.imul, 1) := by decide +kernel
theorem d_M_digest_130 : decode c_M_digest 130 = .ok (.iload 4, 2) := by decide +kernel
theorem d_M_digest_132 : decode c_M_digest 132 = .ok (.iadd, 1) := by decide +kernel
theorem d_M_digest_133 : decode c_M_digest 133 = .ok (.iaload, 1) := by decide +kernel
theorem d_M_digest_134 : decode c_M_digest 134 = .ok (.if_icmp .ge 59, 3) := by decide +kernel
theorem d_M_digest_137 : decode c_M_digest 137 = .ok (.bipush 12, 2) := by decide +kernel
theorem d_M_digest_139 : decode c_M_digest 139 = .ok (.bipush 8, 2) := by decide +kernel
theorem d_M_digest_141 : decode c_M_digest 141 = .ok (.iload_n 3, 1) := by decide +kernel
theorem d_M_digest_142 : decode c_M_digest 142 = .ok (.imul, 1) := by decide +kernel
theorem d_M_digest_143 : decode c_M_digest 143 = .ok (.iload 4, 2) := by decide +kernel
theorem d_M_digest_145 : decode c_M_digest 145 = .ok (.iadd, 1) := by decide +kernel
theorem d_M_digest_146 : decode c_M_digest 146 = .ok (.imul, 1) := by decide +kernel
theorem d_M_digest_147 : decode c_M_digest 147 = .ok (.iload 5, 2) := by decide +kernel
theorem d_M_digest_149 : decode c_M_digest 149 = .ok (.iadd, 1) := by decide +kernel
theorem d_M_digest_150 : decode c_M_digest 150 = .ok (.istore 6, 2) := by decide +kernel
theorem d_M_digest_152 : decode c_M_digest 152 = .ok (.aload_n 0, 1) := by decide +kernel
theorem d_M_digest_153 : decode c_M_digest 153 = .ok (.getfield 22, 3) := by decide +kernel
theorem d_M_digest_156 : decode c_M_digest 156 = .ok (.iload 6, 2) := by decide +kernel
theorem d_M_digest_158 : decode c_M_digest 158 = .ok (.baload, 1) := by decide +kernel
theorem d_M_digest_159 : decode c_M_digest 159 = .ok (.ifCond .eq 28, 3) := by decide +kernel
theorem d_M_digest_162 : decode c_M_digest 162 = .ok (.ldc2_w 192, 3) := by decide +kernel
theorem d_M_digest_165 : decode c_M_digest 165 = .ok (.lload_n 1, 1) := by decide +kernel
theorem d_M_digest_166 : decode c_M_digest 166 = .ok (.lmul, 1) := by decide +kernel
theorem d_M_digest_167 : decode c_M_digest 167 = .ok (.iload 5, 2) := by decide +kernel
theorem d_M_digest_169 : decode c_M_digest 169 = .ok (.i2l, 1) := by decide +kernel
theorem d_M_digest_170 : decode c_M_digest 170 = .ok (.ladd, 1) := by decide +kernel
theorem d_M_digest_171 : decode c_M_digest 171 = .ok (.lstore_n 1, 1) := by decide +kernel
theorem d_M_digest_172 : decode c_M_digest 172 = .ok (.ldc2_w 192, 3) := by decide +kernel
theorem d_M_digest_175 : decode c_M_digest 175 = .ok (.lload_n 1, 1) := by decide +kernel
theorem d_M_digest_176 : decode c_M_digest 176 = .ok (.lmul, 1) := by decide +kernel
theorem d_M_digest_177 : decode c_M_digest 177 = .ok (.aload_n 0, 1) := by decide +kernel
theorem d_M_digest_178 : decode c_M_digest 178 = .ok (.getfield 19, 3) := by decide +kernel
theorem d_M_digest_181 : decode c_M_digest 181 = .ok (.iload 6, 2) := by decide +kernel
theorem d_M_digest_183 : decode c_M_digest 183 = .ok (.iaload, 1) := by decide +kernel
theorem d_M_digest_184 : decode c_M_digest 184 = .ok (.i2l, 1) := by decide +kernel
theorem d_M_digest_185 : decode c_M_digest 185 = .ok (.ladd, 1) := by decide +kernel
theorem d_M_digest_186 : decode c_M_digest 186 = .ok (.lstore_n 1, 1) := by decide +kernel
theorem d_M_digest_187 : decode c_M_digest 187 = .ok (.iinc 5 1, 3) := by decide +kernel
theorem d_M_digest_190 : decode c_M_digest 190 = .ok (.goto (-70), 3) := by decide +kernel
theorem d_M_digest_193 : decode c_M_digest 193 = .ok (.iinc 4 1, 3) := by decide +kernel
theorem d_M_digest_196 : decode c_M_digest 196 = .ok (.goto (-137), 3) := by decide +kernel
theorem d_M_digest_199 : decode c_M_digest 199 = .ok (.ldc2_w 192, 3) := by decide +kernel
theorem d_M_digest_202 : decode c_M_digest 202 = .ok (.lload_n 1, 1) := by decide +kernel
theorem d_M_digest_203 : decode c_M_digest 203 = .ok (.lmul, 1) := by decide +kernel
theorem d_M_digest_204 : decode c_M_digest 204 = .ok (.aload_n 0, 1) := by decide +kernel
theorem d_M_digest_205 : decode c_M_digest 205 = .ok (.iload_n 3, 1) := by decide +kernel
theorem d_M_digest_206 : decode c_M_digest 206 = .ok (.iconst (-1), 1) := by decide +kernel
theorem d_M_digest_207 : decode c_M_digest 207 = .ok (.iconst 0, 1) := by decide +kernel
theorem d_M_digest_208 : decode c_M_digest 208 = .ok (.invokevirtual 158, 3) := by decide +kernel
theorem d_M_digest_211 : decode c_M_digest 211 = .ok (.ladd, 1) := by decide +kernel
theorem d_M_digest_212 : decode c_M_digest 212 = .ok (.lstore_n 1, 1) := by decide +kernel
theorem d_M_digest_213 : decode c_M_digest 213 = .ok (.ldc2_w 192, 3) := by decide +kernel
theorem d_M_digest_216 : decode c_M_digest 216 = .ok (.lload_n 1, 1) := by decide +kernel
theorem d_M_digest_217 : decode c_M_digest 217 = .ok (.lmul, 1) := by decide +kernel
theorem d_M_digest_218 : decode c_M_digest 218 = .ok (.aload_n 0, 1) := by decide +kernel
theorem d_M_digest_219 : decode c_M_digest 219 = .ok (.iload_n 3, 1) := by decide +kernel
theorem d_M_digest_220 : decode c_M_digest 220 = .ok (.iconst (-1), 1) := by decide +kernel
theorem d_M_digest_221 : decode c_M_digest 221 = .ok (.iconst 1, 1) := by decide +kernel
theorem d_M_digest_222 : decode c_M_digest 222 = .ok (.invokevirtual 158, 3) := by decide +kernel
theorem d_M_digest_225 : decode c_M_digest 225 = .ok (.ladd, 1) := by decide +kernel
theorem d_M_digest_226 : decode c_M_digest 226 = .ok (.lstore_n 1, 1) := by decide +kernel
theorem d_M_digest_227 : decode c_M_digest 227 = .ok (.iinc 3 1, 3) := by decide +kernel
theorem d_M_digest_230 : decode c_M_digest 230 = .ok (.goto (-188), 3) := by decide +kernel
theorem d_M_digest_233 : decode c_M_digest 233 = .ok (.lload_n 1, 1) := by decide +kernel
theorem d_M_digest_234 : decode c_M_digest 234 = .ok (.lreturn, 1) := by decide +kernel
theorem d_A_abs_0 : decode c_A_abs 0 = .ok (.iload_n 0, 1) := by decide +kernel
theorem d_A_abs_1 : decode c_A_abs 1 = .ok (.ifCond .ge 8, 3) := by decide +kernel
theorem d_A_abs_4 : decode c_A_abs 4 = .ok (.iload_n 0, 1) := by decide +kernel
theorem d_A_abs_5 : decode c_A_abs 5 = .ok (.ineg, 1) := by decide +kernel
theorem d_A_abs_6 : decode c_A_abs 6 = .ok (.goto 4, 3) := by decide +kernel
theorem d_A_abs_9 : decode c_A_abs 9 = .ok (.iload_n 0, 1) := by decide +kernel
theorem d_A_abs_10 : decode c_A_abs 10 = .ok (.ireturn, 1) := by decide +kernel
theorem d_A_max_0 : decode c_A_max 0 = .ok (.iload_n 0, 1) := by decide +kernel
theorem d_A_max_1 : decode c_A_max 1 = .ok (.iload_n 1, 1) := by decide +kernel
theorem d_A_max_2 : decode c_A_max 2 = .ok (.if_icmp .lt 7, 3) := by decide +kernel
theorem d_A_max_5 : decode c_A_max 5 = .ok (.iload_n 0, 1) := by decide +kernel
theorem d_A_max_6 : decode c_A_max 6 = .ok (.goto 4, 3) := by decide +kernel
theorem d_A_max_9 : decode c_A_max 9 = .ok (.iload_n 1, 1) := by decide +kernel
theorem d_A_max_10 : decode c_A_max 10 = .ok (.ireturn, 1) := by decide +kernel
theorem d_A_min_0 : decode c_A_min 0 = .ok (.iload_n 0, 1) := by decide +kernel
theorem d_A_min_1 : decode c_A_min 1 = .ok (.iload_n 1, 1) := by decide +kernel
theorem d_A_min_2 : decode c_A_min 2 = .ok (.if_icmp .gt 7, 3) := by decide +kernel
theorem d_A_min_5 : decode c_A_min 5 = .ok (.iload_n 0, 1) := by decide +kernel
theorem d_A_min_6 : decode c_A_min 6 = .ok (.goto 4, 3) := by decide +kernel
theorem d_A_min_9 : decode c_A_min 9 = .ok (.iload_n 1, 1) := by decide +kernel
theorem d_A_min_10 : decode c_A_min 10 = .ok (.ireturn, 1) := by decide +kernel
theorem d_J_fill_0 : decode c_J_fill 0 = .ok (.iconst 0, 1) := by decide +kernel
theorem d_J_fill_1 : decode c_J_fill 1 = .ok (.istore_n 2, 1) := by decide +kernel
theorem d_J_fill_2 : decode c_J_fill 2 = .ok (.aload_n 0, 1) := by decide +kernel
theorem d_J_fill_3 : decode c_J_fill 3 = .ok (.arraylength, 1) := by decide +kernel
theorem d_J_fill_4 : decode c_J_fill 4 = .ok (.istore_n 3, 1) := by decide +kernel
theorem d_J_fill_5 : decode c_J_fill 5 = .ok (.iload_n 2, 1) := by decide +kernel
theorem d_J_fill_6 : decode c_J_fill 6 = .ok (.iload_n 3, 1) := by decide +kernel
theorem d_J_fill_7 : decode c_J_fill 7 = .ok (.if_icmp .ge 13, 3) := by decide +kernel
theorem d_J_fill_10 : decode c_J_fill 10 = .ok (.aload_n 0, 1) := by decide +kernel
theorem d_J_fill_11 : decode c_J_fill 11 = .ok (.iload_n 2, 1) := by decide +kernel
theorem d_J_fill_12 : decode c_J_fill 12 = .ok (.iload_n 1, 1) := by decide +kernel
theorem d_J_fill_13 : decode c_J_fill 13 = .ok (.iastore, 1) := by decide +kernel
theorem d_J_fill_14 : decode c_J_fill 14 = .ok (.iinc 2 1, 3) := by decide +kernel
theorem d_J_fill_17 : decode c_J_fill 17 = .ok (.goto (-12), 3) := by decide +kernel
theorem d_J_fill_20 : decode c_J_fill 20 = .ok (.return_, 1) := by decide +kernel
theorem d_L_law_0 : decode code 0 = .ok (.new 7, 3) := by decide +kernel
theorem d_L_law_3 : decode code 3 = .ok (.dup, 1) := by decide +kernel
theorem d_L_law_4 : decode code 4 = .ok (.invokespecial 9, 3) := by decide +kernel
theorem d_L_law_7 : decode code 7 = .ok (.astore_n 1, 1) := by decide +kernel
theorem d_L_law_8 : decode code 8 = .ok (.new 10, 3) := by decide +kernel
theorem d_L_law_11 : decode code 11 = .ok (.dup, 1) := by decide +kernel
theorem d_L_law_12 : decode code 12 = .ok (.invokespecial 12, 3) := by decide +kernel
theorem d_L_law_15 : decode code 15 = .ok (.astore_n 2, 1) := by decide +kernel
theorem d_L_law_16 : decode code 16 = .ok (.iconst 0, 1) := by decide +kernel
theorem d_L_law_17 : decode code 17 = .ok (.istore_n 3, 1) := by decide +kernel
theorem d_L_law_18 : decode code 18 = .ok (.iload_n 3, 1) := by decide +kernel
theorem d_L_law_19 : decode code 19 = .ok (.aload_n 0, 1) := by decide +kernel
theorem d_L_law_20 : decode code 20 = .ok (.arraylength, 1) := by decide +kernel
theorem d_L_law_21 : decode code 21 = .ok (.bipush 7, 2) := by decide +kernel
theorem d_L_law_23 : decode code 23 = .ok (.isub, 1) := by decide +kernel
theorem d_L_law_24 : decode code 24 = .ok (.if_icmp .gt 1065, 3) := by decide +kernel
theorem d_L_law_27 : decode code 27 = .ok (.aload_n 0, 1) := by decide +kernel
theorem d_L_law_28 : decode code 28 = .ok (.iload_n 3, 1) := by decide +kernel
theorem d_L_law_29 : decode code 29 = .ok (.iaload, 1) := by decide +kernel
theorem d_L_law_30 : decode code 30 = .ok (.bipush 31, 2) := by decide +kernel
theorem d_L_law_32 : decode code 32 = .ok (.iand, 1) := by decide +kernel
theorem d_L_law_33 : decode code 33 = .ok (.tableswitch 1050 0 22 #[107, 170, 245, 298, 321, 344, 377, 430, 473, 516, 560, 603, 626, 659, 692, 735, 778, 801, 854, 897, 960, 1013, 1036], 107) := by decide +kernel
theorem d_L_law_140 : decode code 140 = .ok (.aload_n 1, 1) := by decide +kernel
theorem d_L_law_141 : decode code 141 = .ok (.aload_n 0, 1) := by decide +kernel
theorem d_L_law_142 : decode code 142 = .ok (.iload_n 3, 1) := by decide +kernel
theorem d_L_law_143 : decode code 143 = .ok (.iconst 1, 1) := by decide +kernel
theorem d_L_law_144 : decode code 144 = .ok (.iadd, 1) := by decide +kernel
theorem d_L_law_145 : decode code 145 = .ok (.iaload, 1) := by decide +kernel
theorem d_L_law_146 : decode code 146 = .ok (.aload_n 0, 1) := by decide +kernel
theorem d_L_law_147 : decode code 147 = .ok (.iload_n 3, 1) := by decide +kernel
theorem d_L_law_148 : decode code 148 = .ok (.iconst 2, 1) := by decide +kernel
theorem d_L_law_149 : decode code 149 = .ok (.iadd, 1) := by decide +kernel
theorem d_L_law_150 : decode code 150 = .ok (.iaload, 1) := by decide +kernel
theorem d_L_law_151 : decode code 151 = .ok (.aload_n 0, 1) := by decide +kernel
theorem d_L_law_152 : decode code 152 = .ok (.iload_n 3, 1) := by decide +kernel
theorem d_L_law_153 : decode code 153 = .ok (.iconst 3, 1) := by decide +kernel
theorem d_L_law_154 : decode code 154 = .ok (.iadd, 1) := by decide +kernel
theorem d_L_law_155 : decode code 155 = .ok (.iaload, 1) := by decide +kernel
theorem d_L_law_156 : decode code 156 = .ok (.aload_n 0, 1) := by decide +kernel
theorem d_L_law_157 : decode code 157 = .ok (.iload_n 3, 1) := by decide +kernel
theorem d_L_law_158 : decode code 158 = .ok (.iconst 4, 1) := by decide +kernel
theorem d_L_law_159 : decode code 159 = .ok (.iadd, 1) := by decide +kernel
theorem d_L_law_160 : decode code 160 = .ok (.iaload, 1) := by decide +kernel
theorem d_L_law_161 : decode code 161 = .ok (.aload_n 0, 1) := by decide +kernel
theorem d_L_law_162 : decode code 162 = .ok (.iload_n 3, 1) := by decide +kernel
theorem d_L_law_163 : decode code 163 = .ok (.iconst 5, 1) := by decide +kernel
theorem d_L_law_164 : decode code 164 = .ok (.iadd, 1) := by decide +kernel
theorem d_L_law_165 : decode code 165 = .ok (.iaload, 1) := by decide +kernel
theorem d_L_law_166 : decode code 166 = .ok (.invokevirtual 13, 3) := by decide +kernel
theorem d_L_law_169 : decode code 169 = .ok (.aload_n 2, 1) := by decide +kernel
theorem d_L_law_170 : decode code 170 = .ok (.aload_n 0, 1) := by decide +kernel
theorem d_L_law_171 : decode code 171 = .ok (.iload_n 3, 1) := by decide +kernel
theorem d_L_law_172 : decode code 172 = .ok (.iconst 1, 1) := by decide +kernel
theorem d_L_law_173 : decode code 173 = .ok (.iadd, 1) := by decide +kernel
theorem d_L_law_174 : decode code 174 = .ok (.iaload, 1) := by decide +kernel
theorem d_L_law_175 : decode code 175 = .ok (.aload_n 0, 1) := by decide +kernel
theorem d_L_law_176 : decode code 176 = .ok (.iload_n 3, 1) := by decide +kernel
theorem d_L_law_177 : decode code 177 = .ok (.iconst 2, 1) := by decide +kernel
theorem d_L_law_178 : decode code 178 = .ok (.iadd, 1) := by decide +kernel
theorem d_L_law_179 : decode code 179 = .ok (.iaload, 1) := by decide +kernel
theorem d_L_law_180 : decode code 180 = .ok (.aload_n 0, 1) := by decide +kernel
theorem d_L_law_181 : decode code 181 = .ok (.iload_n 3, 1) := by decide +kernel
theorem d_L_law_182 : decode code 182 = .ok (.iconst 3, 1) := by decide +kernel
theorem d_L_law_183 : decode code 183 = .ok (.iadd, 1) := by decide +kernel
theorem d_L_law_184 : decode code 184 = .ok (.iaload, 1) := by decide +kernel
theorem d_L_law_185 : decode code 185 = .ok (.aload_n 0, 1) := by decide +kernel
theorem d_L_law_186 : decode code 186 = .ok (.iload_n 3, 1) := by decide +kernel
theorem d_L_law_187 : decode code 187 = .ok (.iconst 4, 1) := by decide +kernel
theorem d_L_law_188 : decode code 188 = .ok (.iadd, 1) := by decide +kernel
theorem d_L_law_189 : decode code 189 = .ok (.iaload, 1) := by decide +kernel
theorem d_L_law_190 : decode code 190 = .ok (.aload_n 0, 1) := by decide +kernel
theorem d_L_law_191 : decode code 191 = .ok (.iload_n 3, 1) := by decide +kernel
theorem d_L_law_192 : decode code 192 = .ok (.iconst 5, 1) := by decide +kernel
theorem d_L_law_193 : decode code 193 = .ok (.iadd, 1) := by decide +kernel
theorem d_L_law_194 : decode code 194 = .ok (.iaload, 1) := by decide +kernel
theorem d_L_law_195 : decode code 195 = .ok (.invokevirtual 17, 3) := by decide +kernel
theorem d_L_law_198 : decode code 198 = .ok (.if_icmp .eq 885, 3) := by decide +kernel
theorem d_L_law_201 : decode code 201 = .ok (.iconst 0, 1) := by decide +kernel
theorem d_L_law_202 : decode code 202 = .ok (.ireturn, 1) := by decide +kernel
theorem d_L_law_203 : decode code 203 = .ok (.aload_n 1, 1) := by decide +kernel
theorem d_L_law_204 : decode code 204 = .ok (.aload_n 0, 1) := by decide +kernel
theorem d_L_law_205 : decode code 205 = .ok (.iload_n 3, 1) := by decide +kernel
theorem d_L_law_206 : decode code 206 = .ok (.iconst 1, 1) := by decide +kernel
theorem d_L_law_207 : decode code 207 = .ok (.iadd, 1) := by decide +kernel
theorem d_L_law_208 : decode code 208 = .ok (.iaload, 1) := by decide +kernel
theorem d_L_law_209 : decode code 209 = .ok (.aload_n 0, 1) := by decide +kernel
theorem d_L_law_210 : decode code 210 = .ok (.iload_n 3, 1) := by decide +kernel
theorem d_L_law_211 : decode code 211 = .ok (.iconst 2, 1) := by decide +kernel
theorem d_L_law_212 : decode code 212 = .ok (.iadd, 1) := by decide +kernel
theorem d_L_law_213 : decode code 213 = .ok (.iaload, 1) := by decide +kernel
theorem d_L_law_214 : decode code 214 = .ok (.aload_n 0, 1) := by decide +kernel
theorem d_L_law_215 : decode code 215 = .ok (.iload_n 3, 1) := by decide +kernel
theorem d_L_law_216 : decode code 216 = .ok (.iconst 3, 1) := by decide +kernel
theorem d_L_law_217 : decode code 217 = .ok (.iadd, 1) := by decide +kernel
theorem d_L_law_218 : decode code 218 = .ok (.iaload, 1) := by decide +kernel
theorem d_L_law_219 : decode code 219 = .ok (.aload_n 0, 1) := by decide +kernel
theorem d_L_law_220 : decode code 220 = .ok (.iload_n 3, 1) := by decide +kernel
theorem d_L_law_221 : decode code 221 = .ok (.iconst 4, 1) := by decide +kernel
theorem d_L_law_222 : decode code 222 = .ok (.iadd, 1) := by decide +kernel
theorem d_L_law_223 : decode code 223 = .ok (.iaload, 1) := by decide +kernel
theorem d_L_law_224 : decode code 224 = .ok (.aload_n 0, 1) := by decide +kernel
theorem d_L_law_225 : decode code 225 = .ok (.iload_n 3, 1) := by decide +kernel
theorem d_L_law_226 : decode code 226 = .ok (.iconst 5, 1) := by decide +kernel
theorem d_L_law_227 : decode code 227 = .ok (.iadd, 1) := by decide +kernel
theorem d_L_law_228 : decode code 228 = .ok (.iaload, 1) := by decide +kernel
theorem d_L_law_229 : decode code 229 = .ok (.aload_n 0, 1) := by decide +kernel
theorem d_L_law_230 : decode code 230 = .ok (.iload_n 3, 1) := by decide +kernel
theorem d_L_law_231 : decode code 231 = .ok (.bipush 6, 2) := by decide +kernel
theorem d_L_law_233 : decode code 233 = .ok (.iadd, 1) := by decide +kernel
theorem d_L_law_234 : decode code 234 = .ok (.iaload, 1) := by decide +kernel
theorem d_L_law_235 : decode code 235 = .ok (.invokevirtual 18, 3) := by decide +kernel
theorem d_L_law_238 : decode code 238 = .ok (.aload_n 2, 1) := by decide +kernel
theorem d_L_law_239 : decode code 239 = .ok (.aload_n 0, 1) := by decide +kernel
theorem d_L_law_240 : decode code 240 = .ok (.iload_n 3, 1) := by decide +kernel
theorem d_L_law_241 : decode code 241 = .ok (.iconst 1, 1) := by decide +kernel
theorem d_L_law_242 : decode code 242 = .ok (.iadd, 1) := by decide +kernel
theorem d_L_law_243 : decode code 243 = .ok (.iaload, 1) := by decide +kernel
theorem d_L_law_244 : decode code 244 = .ok (.aload_n 0, 1) := by decide +kernel
theorem d_L_law_245 : decode code 245 = .ok (.iload_n 3, 1) := by decide +kernel
theorem d_L_law_246 : decode code 246 = .ok (.iconst 2, 1) := by decide +kernel
theorem d_L_law_247 : decode code 247 = .ok (.iadd, 1) := by decide +kernel
theorem d_L_law_248 : decode code 248 = .ok (.iaload, 1) := by decide +kernel
theorem d_L_law_249 : decode code 249 = .ok (.aload_n 0, 1) := by decide +kernel
theorem d_L_law_250 : decode code 250 = .ok (.iload_n 3, 1) := by decide +kernel
theorem d_L_law_251 : decode code 251 = .ok (.iconst 3, 1) := by decide +kernel
theorem d_L_law_252 : decode code 252 = .ok (.iadd, 1) := by decide +kernel
theorem d_L_law_253 : decode code 253 = .ok (.iaload, 1) := by decide +kernel
theorem d_L_law_254 : decode code 254 = .ok (.aload_n 0, 1) := by decide +kernel
theorem d_L_law_255 : decode code 255 = .ok (.iload_n 3, 1) := by decide +kernel
theorem d_L_law_256 : decode code 256 = .ok (.iconst 4, 1) := by decide +kernel
theorem d_L_law_257 : decode code 257 = .ok (.iadd, 1) := by decide +kernel
theorem d_L_law_258 : decode code 258 = .ok (.iaload, 1) := by decide +kernel
theorem d_L_law_259 : decode code 259 = .ok (.aload_n 0, 1) := by decide +kernel
theorem d_L_law_260 : decode code 260 = .ok (.iload_n 3, 1) := by decide +kernel
theorem d_L_law_261 : decode code 261 = .ok (.iconst 5, 1) := by decide +kernel
theorem d_L_law_262 : decode code 262 = .ok (.iadd, 1) := by decide +kernel
theorem d_L_law_263 : decode code 263 = .ok (.iaload, 1) := by decide +kernel
theorem d_L_law_264 : decode code 264 = .ok (.aload_n 0, 1) := by decide +kernel
theorem d_L_law_265 : decode code 265 = .ok (.iload_n 3, 1) := by decide +kernel
theorem d_L_law_266 : decode code 266 = .ok (.bipush 6, 2) := by decide +kernel
theorem d_L_law_268 : decode code 268 = .ok (.iadd, 1) := by decide +kernel
theorem d_L_law_269 : decode code 269 = .ok (.iaload, 1) := by decide +kernel
theorem d_L_law_270 : decode code 270 = .ok (.invokevirtual 22, 3) := by decide +kernel
theorem d_L_law_273 : decode code 273 = .ok (.if_icmp .eq 810, 3) := by decide +kernel
theorem d_L_law_276 : decode code 276 = .ok (.iconst 0, 1) := by decide +kernel
theorem d_L_law_277 : decode code 277 = .ok (.ireturn, 1) := by decide +kernel
theorem d_L_law_278 : decode code 278 = .ok (.aload_n 1, 1) := by decide +kernel
theorem d_L_law_279 : decode code 279 = .ok (.aload_n 0, 1) := by decide +kernel
theorem d_L_law_280 : decode code 280 = .ok (.iload_n 3, 1) := by decide +kernel
theorem d_L_law_281 : decode code 281 = .ok (.iconst 1, 1) := by decide +kernel
theorem d_L_law_282 : decode code 282 = .ok (.iadd, 1) := by decide +kernel
theorem d_L_law_283 : decode code 283 = .ok (.iaload, 1) := by decide +kernel
theorem d_L_law_284 : decode code 284 = .ok (.aload_n 0, 1) := by decide +kernel
theorem d_L_law_285 : decode code 285 = .ok (.iload_n 3, 1) := by decide +kernel
theorem d_L_law_286 : decode code 286 = .ok (.iconst 2, 1) := by decide +kernel
theorem d_L_law_287 : decode code 287 = .ok (.iadd, 1) := by decide +kernel
theorem d_L_law_288 : decode code 288 = .ok (.iaload, 1) := by decide +kernel
theorem d_L_law_289 : decode code 289 = .ok (.aload_n 0, 1) := by decide +kernel
theorem d_L_law_290 : decode code 290 = .ok (.iload_n 3, 1) := by decide +kernel
theorem d_L_law_291 : decode code 291 = .ok (.iconst 3, 1) := by decide +kernel
theorem d_L_law_292 : decode code 292 = .ok (.iadd, 1) := by decide +kernel
theorem d_L_law_293 : decode code 293 = .ok (.iaload, 1) := by decide +kernel
theorem d_L_law_294 : decode code 294 = .ok (.aload_n 0, 1) := by decide +kernel
theorem d_L_law_295 : decode code 295 = .ok (.iload_n 3, 1) := by decide +kernel
theorem d_L_law_296 : decode code 296 = .ok (.iconst 4, 1) := by decide +kernel
theorem d_L_law_297 : decode code 297 = .ok (.iadd, 1) := by decide +kernel
theorem d_L_law_298 : decode code 298 = .ok (.iaload, 1) := by decide +kernel
theorem d_L_law_299 : decode code 299 = .ok (.invokevirtual 23, 3) := by decide +kernel
theorem d_L_law_302 : decode code 302 = .ok (.aload_n 2, 1) := by decide +kernel
theorem d_L_law_303 : decode code 303 = .ok (.aload_n 0, 1) := by decide +kernel
theorem d_L_law_304 : decode code 304 = .ok (.iload_n 3, 1) := by decide +kernel
theorem d_L_law_305 : decode code 305 = .ok (.iconst 1, 1) := by decide +kernel
theorem d_L_law_306 : decode code 306 = .ok (.iadd, 1) := by decide +kernel
theorem d_L_law_307 : decode code 307 = .ok (.iaload, 1) := by decide +kernel
theorem d_L_law_308 : decode code 308 = .ok (.aload_n 0, 1) := by decide +kernel
theorem d_L_law_309 : decode code 309 = .ok (.iload_n 3, 1) := by decide +kernel
theorem d_L_law_310 : decode code 310 = .ok (.iconst 2, 1) := by decide +kernel
theorem d_L_law_311 : decode code 311 = .ok (.iadd, 1) := by decide +kernel
theorem d_L_law_312 : decode code 312 = .ok (.iaload, 1) := by decide +kernel
theorem d_L_law_313 : decode code 313 = .ok (.aload_n 0, 1) := by decide +kernel
theorem d_L_law_314 : decode code 314 = .ok (.iload_n 3, 1) := by decide +kernel
theorem d_L_law_315 : decode code 315 = .ok (.iconst 3, 1) := by decide +kernel
theorem d_L_law_316 : decode code 316 = .ok (.iadd, 1) := by decide +kernel
theorem d_L_law_317 : decode code 317 = .ok (.iaload, 1) := by decide +kernel
theorem d_L_law_318 : decode code 318 = .ok (.aload_n 0, 1) := by decide +kernel
theorem d_L_law_319 : decode code 319 = .ok (.iload_n 3, 1) := by decide +kernel
theorem d_L_law_320 : decode code 320 = .ok (.iconst 4, 1) := by decide +kernel
theorem d_L_law_321 : decode code 321 = .ok (.iadd, 1) := by decide +kernel
theorem d_L_law_322 : decode code 322 = .ok (.iaload, 1) := by decide +kernel
theorem d_L_law_323 : decode code 323 = .ok (.invokevirtual 27, 3) := by decide +kernel
theorem d_L_law_326 : decode code 326 = .ok (.if_icmp .eq 757, 3) := by decide +kernel
theorem d_L_law_329 : decode code 329 = .ok (.iconst 0, 1) := by decide +kernel
theorem d_L_law_330 : decode code 330 = .ok (.ireturn, 1) := by decide +kernel
theorem d_L_law_331 : decode code 331 = .ok (.aload_n 1, 1) := by decide +kernel
theorem d_L_law_332 : decode code 332 = .ok (.aload_n 0, 1) := by decide +kernel
theorem d_L_law_333 : decode code 333 = .ok (.iload_n 3, 1) := by decide +kernel
theorem d_L_law_334 : decode code 334 = .ok (.iconst 1, 1) := by decide +kernel
theorem d_L_law_335 : decode code 335 = .ok (.iadd, 1) := by decide +kernel
theorem d_L_law_336 : decode code 336 = .ok (.iaload, 1) := by decide +kernel
theorem d_L_law_337 : decode code 337 = .ok (.invokevirtual 28, 3) := by decide +kernel
theorem d_L_law_340 : decode code 340 = .ok (.aload_n 2, 1) := by decide +kernel
theorem d_L_law_341 : decode code 341 = .ok (.aload_n 0, 1) := by decide +kernel
theorem d_L_law_342 : decode code 342 = .ok (.iload_n 3, 1) := by decide +kernel
theorem d_L_law_343 : decode code 343 = .ok (.iconst 1, 1) := by decide +kernel
theorem d_L_law_344 : decode code 344 = .ok (.iadd, 1) := by decide +kernel
theorem d_L_law_345 : decode code 345 = .ok (.iaload, 1) := by decide +kernel
theorem d_L_law_346 : decode code 346 = .ok (.invokevirtual 32, 3) := by decide +kernel
theorem d_L_law_349 : decode code 349 = .ok (.if_icmp .eq 734, 3) := by decide +kernel
theorem d_L_law_352 : decode code 352 = .ok (.iconst 0, 1) := by decide +kernel
theorem d_L_law_353 : decode code 353 = .ok (.ireturn, 1) := by decide +kernel
theorem d_L_law_354 : decode code 354 = .ok (.aload_n 1, 1) := by decide +kernel
theorem d_L_law_355 : decode code 355 = .ok (.aload_n 0, 1) := by decide +kernel
theorem d_L_law_356 : decode code 356 = .ok (.iload_n 3, 1) := by decide +kernel
theorem d_L_law_357 : decode code 357 = .ok (.iconst 1, 1) := by decide +kernel
theorem d_L_law_358 : decode code 358 = .ok (.iadd, 1) := by decide +kernel
theorem d_L_law_359 : decode code 359 = .ok (.iaload, 1) := by decide +kernel
theorem d_L_law_360 : decode code 360 = .ok (.invokevirtual 33, 3) := by decide +kernel
theorem d_L_law_363 : decode code 363 = .ok (.aload_n 2, 1) := by decide +kernel
theorem d_L_law_364 : decode code 364 = .ok (.aload_n 0, 1) := by decide +kernel
theorem d_L_law_365 : decode code 365 = .ok (.iload_n 3, 1) := by decide +kernel
theorem d_L_law_366 : decode code 366 = .ok (.iconst 1, 1) := by decide +kernel
theorem d_L_law_367 : decode code 367 = .ok (.iadd, 1) := by decide +kernel
theorem d_L_law_368 : decode code 368 = .ok (.iaload, 1) := by decide +kernel
theorem d_L_law_369 : decode code 369 = .ok (.invokevirtual 36, 3) := by decide +kernel
theorem d_L_law_372 : decode code 372 = .ok (.if_icmp .eq 711, 3) := by decide +kernel
theorem d_L_law_375 : decode code 375 = .ok (.iconst 0, 1) := by decide +kernel
theorem d_L_law_376 : decode code 376 = .ok (.ireturn, 1) := by decide +kernel
theorem d_L_law_377 : decode code 377 = .ok (.aload_n 1, 1) := by decide +kernel
theorem d_L_law_378 : decode code 378 = .ok (.aload_n 0, 1) := by decide +kernel
theorem d_L_law_379 : decode code 379 = .ok (.iload_n 3, 1) := by decide +kernel
theorem d_L_law_380 : decode code 380 = .ok (.iconst 1, 1) := by decide +kernel
theorem d_L_law_381 : decode code 381 = .ok (.iadd, 1) := by decide +kernel
theorem d_L_law_382 : decode code 382 = .ok (.iaload, 1) := by decide +kernel
theorem d_L_law_383 : decode code 383 = .ok (.aload_n 0, 1) := by decide +kernel
theorem d_L_law_384 : decode code 384 = .ok (.iload_n 3, 1) := by decide +kernel
theorem d_L_law_385 : decode code 385 = .ok (.iconst 2, 1) := by decide +kernel
theorem d_L_law_386 : decode code 386 = .ok (.iadd, 1) := by decide +kernel
theorem d_L_law_387 : decode code 387 = .ok (.iaload, 1) := by decide +kernel
theorem d_L_law_388 : decode code 388 = .ok (.invokevirtual 37, 3) := by decide +kernel
theorem d_L_law_391 : decode code 391 = .ok (.aload_n 2, 1) := by decide +kernel
theorem d_L_law_392 : decode code 392 = .ok (.aload_n 0, 1) := by decide +kernel
theorem d_L_law_393 : decode code 393 = .ok (.iload_n 3, 1) := by decide +kernel
theorem d_L_law_394 : decode code 394 = .ok (.iconst 1, 1) := by decide +kernel
theorem d_L_law_395 : decode code 395 = .ok (.iadd, 1) := by decide +kernel
theorem d_L_law_396 : decode code 396 = .ok (.iaload, 1) := by decide +kernel
theorem d_L_law_397 : decode code 397 = .ok (.aload_n 0, 1) := by decide +kernel
theorem d_L_law_398 : decode code 398 = .ok (.iload_n 3, 1) := by decide +kernel
theorem d_L_law_399 : decode code 399 = .ok (.iconst 2, 1) := by decide +kernel
theorem d_L_law_400 : decode code 400 = .ok (.iadd, 1) := by decide +kernel
theorem d_L_law_401 : decode code 401 = .ok (.iaload, 1) := by decide +kernel
theorem d_L_law_402 : decode code 402 = .ok (.invokevirtual 41, 3) := by decide +kernel
theorem d_L_law_405 : decode code 405 = .ok (.if_icmp .eq 678, 3) := by decide +kernel
theorem d_L_law_408 : decode code 408 = .ok (.iconst 0, 1) := by decide +kernel
theorem d_L_law_409 : decode code 409 = .ok (.ireturn, 1) := by decide +kernel
theorem d_L_law_410 : decode code 410 = .ok (.aload_n 1, 1) := by decide +kernel
theorem d_L_law_411 : decode code 411 = .ok (.aload_n 0, 1) := by decide +kernel
theorem d_L_law_412 : decode code 412 = .ok (.iload_n 3, 1) := by decide +kernel
theorem d_L_law_413 : decode code 413 = .ok (.iconst 1, 1) := by decide +kernel
theorem d_L_law_414 : decode code 414 = .ok (.iadd, 1) := by decide +kernel
theorem d_L_law_415 : decode code 415 = .ok (.iaload, 1) := by decide +kernel
theorem d_L_law_416 : decode code 416 = .ok (.aload_n 0, 1) := by decide +kernel
theorem d_L_law_417 : decode code 417 = .ok (.iload_n 3, 1) := by decide +kernel
theorem d_L_law_418 : decode code 418 = .ok (.iconst 2, 1) := by decide +kernel
theorem d_L_law_419 : decode code 419 = .ok (.iadd, 1) := by decide +kernel
theorem d_L_law_420 : decode code 420 = .ok (.iaload, 1) := by decide +kernel
theorem d_L_law_421 : decode code 421 = .ok (.aload_n 0, 1) := by decide +kernel
theorem d_L_law_422 : decode code 422 = .ok (.iload_n 3, 1) := by decide +kernel
theorem d_L_law_423 : decode code 423 = .ok (.iconst 3, 1) := by decide +kernel
theorem d_L_law_424 : decode code 424 = .ok (.iadd, 1) := by decide +kernel
theorem d_L_law_425 : decode code 425 = .ok (.iaload, 1) := by decide +kernel
theorem d_L_law_426 : decode code 426 = .ok (.aload_n 0, 1) := by decide +kernel
theorem d_L_law_427 : decode code 427 = .ok (.iload_n 3, 1) := by decide +kernel
theorem d_L_law_428 : decode code 428 = .ok (.iconst 4, 1) := by decide +kernel
theorem d_L_law_429 : decode code 429 = .ok (.iadd, 1) := by decide +kernel
theorem d_L_law_430 : decode code 430 = .ok (.iaload, 1) := by decide +kernel
theorem d_L_law_431 : decode code 431 = .ok (.invokevirtual 42, 3) := by decide +kernel
theorem d_L_law_434 : decode code 434 = .ok (.aload_n 2, 1) := by decide +kernel
theorem d_L_law_435 : decode code 435 = .ok (.aload_n 0, 1) := by decide +kernel
theorem d_L_law_436 : decode code 436 = .ok (.iload_n 3, 1) := by decide +kernel
theorem d_L_law_437 : decode code 437 = .ok (.iconst 1, 1) := by decide +kernel
theorem d_L_law_438 : decode code 438 = .ok (.iadd, 1) := by decide +kernel
theorem d_L_law_439 : decode code 439 = .ok (.iaload, 1) := by decide +kernel
theorem d_L_law_440 : decode code 440 = .ok (.aload_n 0, 1) := by decide +kernel
theorem d_L_law_441 : decode code 441 = .ok (.iload_n 3, 1) := by decide +kernel
theorem d_L_law_442 : decode code 442 = .ok (.iconst 2, 1) := by decide +kernel
theorem d_L_law_443 : decode code 443 = .ok (.iadd, 1) := by decide +kernel
theorem d_L_law_444 : decode code 444 = .ok (.iaload, 1) := by decide +kernel
theorem d_L_law_445 : decode code 445 = .ok (.aload_n 0, 1) := by decide +kernel
theorem d_L_law_446 : decode code 446 = .ok (.iload_n 3, 1) := by decide +kernel
theorem d_L_law_447 : decode code 447 = .ok (.iconst 3, 1) := by decide +kernel
theorem d_L_law_448 : decode code 448 = .ok (.iadd, 1) := by decide +kernel
theorem d_L_law_449 : decode code 449 = .ok (.iaload, 1) := by decide +kernel
theorem d_L_law_450 : decode code 450 = .ok (.aload_n 0, 1) := by decide +kernel
theorem d_L_law_451 : decode code 451 = .ok (.iload_n 3, 1) := by decide +kernel
theorem d_L_law_452 : decode code 452 = .ok (.iconst 4, 1) := by decide +kernel
theorem d_L_law_453 : decode code 453 = .ok (.iadd, 1) := by decide +kernel
theorem d_L_law_454 : decode code 454 = .ok (.iaload, 1) := by decide +kernel
theorem d_L_law_455 : decode code 455 = .ok (.invokevirtual 45, 3) := by decide +kernel
theorem d_L_law_458 : decode code 458 = .ok (.if_icmp .eq 625, 3) := by decide +kernel
theorem d_L_law_461 : decode code 461 = .ok (.iconst 0, 1) := by decide +kernel
theorem d_L_law_462 : decode code 462 = .ok (.ireturn, 1) := by decide +kernel
theorem d_L_law_463 : decode code 463 = .ok (.aload_n 1, 1) := by decide +kernel
theorem d_L_law_464 : decode code 464 = .ok (.aload_n 0, 1) := by decide +kernel
theorem d_L_law_465 : decode code 465 = .ok (.iload_n 3, 1) := by decide +kernel
theorem d_L_law_466 : decode code 466 = .ok (.iconst 1, 1) := by decide +kernel
theorem d_L_law_467 : decode code 467 = .ok (.iadd, 1) := by decide +kernel
theorem d_L_law_468 : decode code 468 = .ok (.iaload, 1) := by decide +kernel
theorem d_L_law_469 : decode code 469 = .ok (.aload_n 0, 1) := by decide +kernel
theorem d_L_law_470 : decode code 470 = .ok (.iload_n 3, 1) := by decide +kernel
theorem d_L_law_471 : decode code 471 = .ok (.iconst 2, 1) := by decide +kernel
theorem d_L_law_472 : decode code 472 = .ok (.iadd, 1) := by decide +kernel
theorem d_L_law_473 : decode code 473 = .ok (.iaload, 1) := by decide +kernel
theorem d_L_law_474 : decode code 474 = .ok (.aload_n 0, 1) := by decide +kernel
theorem d_L_law_475 : decode code 475 = .ok (.iload_n 3, 1) := by decide +kernel
theorem d_L_law_476 : decode code 476 = .ok (.iconst 3, 1) := by decide +kernel
theorem d_L_law_477 : decode code 477 = .ok (.iadd, 1) := by decide +kernel
theorem d_L_law_478 : decode code 478 = .ok (.iaload, 1) := by decide +kernel
theorem d_L_law_479 : decode code 479 = .ok (.invokevirtual 46, 3) := by decide +kernel
theorem d_L_law_482 : decode code 482 = .ok (.aload_n 2, 1) := by decide +kernel
theorem d_L_law_483 : decode code 483 = .ok (.aload_n 0, 1) := by decide +kernel
theorem d_L_law_484 : decode code 484 = .ok (.iload_n 3, 1) := by decide +kernel
theorem d_L_law_485 : decode code 485 = .ok (.iconst 1, 1) := by decide +kernel
theorem d_L_law_486 : decode code 486 = .ok (.iadd, 1) := by decide +kernel
theorem d_L_law_487 : decode code 487 = .ok (.iaload, 1) := by decide +kernel
theorem d_L_law_488 : decode code 488 = .ok (.aload_n 0, 1) := by decide +kernel
theorem d_L_law_489 : decode code 489 = .ok (.iload_n 3, 1) := by decide +kernel
theorem d_L_law_490 : decode code 490 = .ok (.iconst 2, 1) := by decide +kernel
theorem d_L_law_491 : decode code 491 = .ok (.iadd, 1) := by decide +kernel
theorem d_L_law_492 : decode code 492 = .ok (.iaload, 1) := by decide +kernel
theorem d_L_law_493 : decode code 493 = .ok (.aload_n 0, 1) := by decide +kernel
theorem d_L_law_494 : decode code 494 = .ok (.iload_n 3, 1) := by decide +kernel
theorem d_L_law_495 : decode code 495 = .ok (.iconst 3, 1) := by decide +kernel
theorem d_L_law_496 : decode code 496 = .ok (.iadd, 1) := by decide +kernel
theorem d_L_law_497 : decode code 497 = .ok (.iaload, 1) := by decide +kernel
theorem d_L_law_498 : decode code 498 = .ok (.invokevirtual 50, 3) := by decide +kernel
theorem d_L_law_501 : decode code 501 = .ok (.if_icmp .eq 582, 3) := by decide +kernel
theorem d_L_law_504 : decode code 504 = .ok (.iconst 0, 1) := by decide +kernel
theorem d_L_law_505 : decode code 505 = .ok (.ireturn, 1) := by decide +kernel
theorem d_L_law_506 : decode code 506 = .ok (.aload_n 1, 1) := by decide +kernel
theorem d_L_law_507 : decode code 507 = .ok (.aload_n 0, 1) := by decide +kernel
theorem d_L_law_508 : decode code 508 = .ok (.iload_n 3, 1) := by decide +kernel
theorem d_L_law_509 : decode code 509 = .ok (.iconst 1, 1) := by decide +kernel
theorem d_L_law_510 : decode code 510 = .ok (.iadd, 1) := by decide +kernel
theorem d_L_law_511 : decode code 511 = .ok (.iaload, 1) := by decide +kernel
theorem d_L_law_512 : decode code 512 = .ok (.aload_n 0, 1) := by decide +kernel
theorem d_L_law_513 : decode code 513 = .ok (.iload_n 3, 1) := by decide +kernel
theorem d_L_law_514 : decode code 514 = .ok (.iconst 2, 1) := by decide +kernel
theorem d_L_law_515 : decode code 515 = .ok (.iadd, 1) := by decide +kernel
theorem d_L_law_516 : decode code 516 = .ok (.iaload, 1) := by decide +kernel
theorem d_L_law_517 : decode code 517 = .ok (.aload_n 0, 1) := by decide +kernel
theorem d_L_law_518 : decode code 518 = .ok (.iload_n 3, 1) := by decide +kernel
theorem d_L_law_519 : decode code 519 = .ok (.iconst 3, 1) := by decide +kernel
theorem d_L_law_520 : decode code 520 = .ok (.iadd, 1) := by decide +kernel
theorem d_L_law_521 : decode code 521 = .ok (.iaload, 1) := by decide +kernel
theorem d_L_law_522 : decode code 522 = .ok (.invokevirtual 51, 3) := by decide +kernel
theorem d_L_law_525 : decode code 525 = .ok (.aload_n 2, 1) := by decide +kernel
theorem d_L_law_526 : decode code 526 = .ok (.aload_n 0, 1) := by decide +kernel
theorem d_L_law_527 : decode code 527 = .ok (.iload_n 3, 1) := by decide +kernel
theorem d_L_law_528 : decode code 528 = .ok (.iconst 1, 1) := by decide +kernel
theorem d_L_law_529 : decode code 529 = .ok (.iadd, 1) := by decide +kernel
theorem d_L_law_530 : decode code 530 = .ok (.iaload, 1) := by decide +kernel
theorem d_L_law_531 : decode code 531 = .ok (.aload_n 0, 1) := by decide +kernel
theorem d_L_law_532 : decode code 532 = .ok (.iload_n 3, 1) := by decide +kernel
theorem d_L_law_533 : decode code 533 = .ok (.iconst 2, 1) := by decide +kernel
theorem d_L_law_534 : decode code 534 = .ok (.iadd, 1) := by decide +kernel
theorem d_L_law_535 : decode code 535 = .ok (.iaload, 1) := by decide +kernel
theorem d_L_law_536 : decode code 536 = .ok (.aload_n 0, 1) := by decide +kernel
theorem d_L_law_537 : decode code 537 = .ok (.iload_n 3, 1) := by decide +kernel
theorem d_L_law_538 : decode code 538 = .ok (.iconst 3, 1) := by decide +kernel
theorem d_L_law_539 : decode code 539 = .ok (.iadd, 1) := by decide +kernel
theorem d_L_law_540 : decode code 540 = .ok (.iaload, 1) := by decide +kernel
theorem d_L_law_541 : decode code 541 = .ok (.invokevirtual 54, 3) := by decide +kernel
theorem d_L_law_544 : decode code 544 = .ok (.if_icmp .eq 539, 3) := by decide +kernel
theorem d_L_law_547 : decode code 547 = .ok (.iconst 0, 1) := by decide +kernel
theorem d_L_law_548 : decode code 548 = .ok (.ireturn, 1) := by decide +kernel
theorem d_L_law_549 : decode code 549 = .ok (.aload_n 1, 1) := by decide +kernel
theorem d_L_law_550 : decode code 550 = .ok (.aload_n 0, 1) := by decide +kernel
theorem d_L_law_551 : decode code 551 = .ok (.iload_n 3, 1) := by decide +kernel
theorem d_L_law_552 : decode code 552 = .ok (.iconst 1, 1) := by decide +kernel
theorem d_L_law_553 : decode code 553 = .ok (.iadd, 1) := by decide +kernel
theorem d_L_law_554 : decode code 554 = .ok (.iaload, 1) := by decide +kernel
theorem d_L_law_555 : decode code 555 = .ok (.aload_n 0, 1) := by decide +kernel
theorem d_L_law_556 : decode code 556 = .ok (.iload_n 3, 1) := by decide +kernel
theorem d_L_law_557 : decode code 557 = .ok (.iconst 2, 1) := by decide +kernel
theorem d_L_law_558 : decode code 558 = .ok (.iadd, 1) := by decide +kernel
theorem d_L_law_559 : decode code 559 = .ok (.iaload, 1) := by decide +kernel
theorem d_L_law_560 : decode code 560 = .ok (.aload_n 0, 1) := by decide +kernel
theorem d_L_law_561 : decode code 561 = .ok (.iload_n 3, 1) := by decide +kernel
theorem d_L_law_562 : decode code 562 = .ok (.iconst 3, 1) := by decide +kernel
theorem d_L_law_563 : decode code 563 = .ok (.iadd, 1) := by decide +kernel
theorem d_L_law_564 : decode code 564 = .ok (.iaload, 1) := by decide +kernel
theorem d_L_law_565 : decode code 565 = .ok (.invokevirtual 55, 3) := by decide +kernel
theorem d_L_law_568 : decode code 568 = .ok (.aload_n 2, 1) := by decide +kernel
theorem d_L_law_569 : decode code 569 = .ok (.aload_n 0, 1) := by decide +kernel
theorem d_L_law_570 : decode code 570 = .ok (.iload_n 3, 1) := by decide +kernel
theorem d_L_law_571 : decode code 571 = .ok (.iconst 1, 1) := by decide +kernel
theorem d_L_law_572 : decode code 572 = .ok (.iadd, 1) := by decide +kernel
theorem d_L_law_573 : decode code 573 = .ok (.iaload, 1) := by decide +kernel
theorem d_L_law_574 : decode code 574 = .ok (.aload_n 0, 1) := by decide +kernel
theorem d_L_law_575 : decode code 575 = .ok (.iload_n 3, 1) := by decide +kernel
theorem d_L_law_576 : decode code 576 = .ok (.iconst 2, 1) := by decide +kernel
theorem d_L_law_577 : decode code 577 = .ok (.iadd, 1) := by decide +kernel
theorem d_L_law_578 : decode code 578 = .ok (.iaload, 1) := by decide +kernel
theorem d_L_law_579 : decode code 579 = .ok (.aload_n 0, 1) := by decide +kernel
theorem d_L_law_580 : decode code 580 = .ok (.iload_n 3, 1) := by decide +kernel
theorem d_L_law_581 : decode code 581 = .ok (.iconst 3, 1) := by decide +kernel
theorem d_L_law_582 : decode code 582 = .ok (.iadd, 1) := by decide +kernel
theorem d_L_law_583 : decode code 583 = .ok (.iaload, 1) := by decide +kernel
theorem d_L_law_584 : decode code 584 = .ok (.invokevirtual 59, 3) := by decide +kernel
theorem d_L_law_587 : decode code 587 = .ok (.lcmp, 1) := by decide +kernel
theorem d_L_law_588 : decode code 588 = .ok (.ifCond .eq 495, 3) := by decide +kernel
theorem d_L_law_591 : decode code 591 = .ok (.iconst 0, 1) := by decide +kernel
theorem d_L_law_592 : decode code 592 = .ok (.ireturn, 1) := by decide +kernel
theorem d_L_law_593 : decode code 593 = .ok (.aload_n 1, 1) := by decide +kernel
theorem d_L_law_594 : decode code 594 = .ok (.aload_n 0, 1) := by decide +kernel
theorem d_L_law_595 : decode code 595 = .ok (.iload_n 3, 1) := by decide +kernel
theorem d_L_law_596 : decode code 596 = .ok (.iconst 1, 1) := by decide +kernel
theorem d_L_law_597 : decode code 597 = .ok (.iadd, 1) := by decide +kernel
theorem d_L_law_598 : decode code 598 = .ok (.iaload, 1) := by decide +kernel
theorem d_L_law_599 : decode code 599 = .ok (.aload_n 0, 1) := by decide +kernel
theorem d_L_law_600 : decode code 600 = .ok (.iload_n 3, 1) := by decide +kernel
theorem d_L_law_601 : decode code 601 = .ok (.iconst 2, 1) := by decide +kernel
theorem d_L_law_602 : decode code 602 = .ok (.iadd, 1) := by decide +kernel
theorem d_L_law_603 : decode code 603 = .ok (.iaload, 1) := by decide +kernel
theorem d_L_law_604 : decode code 604 = .ok (.aload_n 0, 1) := by decide +kernel
theorem d_L_law_605 : decode code 605 = .ok (.iload_n 3, 1) := by decide +kernel
theorem d_L_law_606 : decode code 606 = .ok (.iconst 3, 1) := by decide +kernel
theorem d_L_law_607 : decode code 607 = .ok (.iadd, 1) := by decide +kernel
theorem d_L_law_608 : decode code 608 = .ok (.iaload, 1) := by decide +kernel
theorem d_L_law_609 : decode code 609 = .ok (.invokevirtual 60, 3) := by decide +kernel
theorem d_L_law_612 : decode code 612 = .ok (.aload_n 2, 1) := by decide +kernel
theorem d_L_law_613 : decode code 613 = .ok (.aload_n 0, 1) := by decide +kernel
theorem d_L_law_614 : decode code 614 = .ok (.iload_n 3, 1) := by decide +kernel
theorem d_L_law_615 : decode code 615 = .ok (.iconst 1, 1) := by decide +kernel
theorem d_L_law_616 : decode code 616 = .ok (.iadd, 1) := by decide +kernel
theorem d_L_law_617 : decode code 617 = .ok (.iaload, 1) := by decide +kernel
theorem d_L_law_618 : decode code 618 = .ok (.aload_n 0, 1) := by decide +kernel
theorem d_L_law_619 : decode code 619 = .ok (.iload_n 3, 1) := by decide +kernel
theorem d_L_law_620 : decode code 620 = .ok (.iconst 2, 1) := by decide +kernel
theorem d_L_law_621 : decode code 621 = .ok (.iadd, 1) := by decide +kernel
theorem d_L_law_622 : decode code 622 = .ok (.iaload, 1) := by decide +kernel
theorem d_L_law_623 : decode code 623 = .ok (.aload_n 0, 1) := by decide +kernel
theorem d_L_law_624 : decode code 624 = .ok (.iload_n 3, 1) := by decide +kernel
theorem d_L_law_625 : decode code 625 = .ok (.iconst 3, 1) := by decide +kernel
theorem d_L_law_626 : decode code 626 = .ok (.iadd, 1) := by decide +kernel
theorem d_L_law_627 : decode code 627 = .ok (.iaload, 1) := by decide +kernel
theorem d_L_law_628 : decode code 628 = .ok (.invokevirtual 63, 3) := by decide +kernel
theorem d_L_law_631 : decode code 631 = .ok (.if_icmp .eq 452, 3) := by decide +kernel
theorem d_L_law_634 : decode code 634 = .ok (.iconst 0, 1) := by decide +kernel
theorem d_L_law_635 : decode code 635 = .ok (.ireturn, 1) := by decide +kernel
theorem d_L_law_636 : decode code 636 = .ok (.aload_n 1, 1) := by decide +kernel
theorem d_L_law_637 : decode code 637 = .ok (.aload_n 0, 1) := by decide +kernel
theorem d_L_law_638 : decode code 638 = .ok (.iload_n 3, 1) := by decide +kernel
theorem d_L_law_639 : decode code 639 = .ok (.iconst 1, 1) := by decide +kernel
theorem d_L_law_640 : decode code 640 = .ok (.iadd, 1) := by decide +kernel
theorem d_L_law_641 : decode code 641 = .ok (.iaload, 1) := by decide +kernel
theorem d_L_law_642 : decode code 642 = .ok (.invokevirtual 64, 3) := by decide +kernel
theorem d_L_law_645 : decode code 645 = .ok (.aload_n 2, 1) := by decide +kernel
theorem d_L_law_646 : decode code 646 = .ok (.aload_n 0, 1) := by decide +kernel
theorem d_L_law_647 : decode code 647 = .ok (.iload_n 3, 1) := by decide +kernel
theorem d_L_law_648 : decode code 648 = .ok (.iconst 1, 1) := by decide +kernel
theorem d_L_law_649 : decode code 649 = .ok (.iadd, 1) := by decide +kernel
theorem d_L_law_650 : decode code 650 = .ok (.iaload, 1) := by decide +kernel
theorem d_L_law_651 : decode code 651 = .ok (.invokevirtual 67, 3) := by decide +kernel
theorem d_L_law_654 : decode code 654 = .ok (.if_icmp .eq 429, 3) := by decide +kernel
theorem d_L_law_657 : decode code 657 = .ok (.iconst 0, 1) := by decide +kernel
theorem d_L_law_658 : decode code 658 = .ok (.ireturn, 1) := by decide +kernel
theorem d_L_law_659 : decode code 659 = .ok (.aload_n 1, 1) := by decide +kernel
theorem d_L_law_660 : decode code 660 = .ok (.aload_n 0, 1) := by decide +kernel
theorem d_L_law_661 : decode code 661 = .ok (.iload_n 3, 1) := by decide +kernel
theorem d_L_law_662 : decode code 662 = .ok (.iconst 1, 1) := by decide +kernel
theorem d_L_law_663 : decode code 663 = .ok (.iadd, 1) := by decide +kernel
theorem d_L_law_664 : decode code 664 = .ok (.iaload, 1) := by decide +kernel
theorem d_L_law_665 : decode code 665 = .ok (.aload_n 0, 1) := by decide +kernel
theorem d_L_law_666 : decode code 666 = .ok (.iload_n 3, 1) := by decide +kernel
theorem d_L_law_667 : decode code 667 = .ok (.iconst 2, 1) := by decide +kernel
theorem d_L_law_668 : decode code 668 = .ok (.iadd, 1) := by decide +kernel
theorem d_L_law_669 : decode code 669 = .ok (.iaload, 1) := by decide +kernel
theorem d_L_law_670 : decode code 670 = .ok (.invokevirtual 68, 3) := by decide +kernel
theorem d_L_law_673 : decode code 673 = .ok (.aload_n 2, 1) := by decide +kernel
theorem d_L_law_674 : decode code 674 = .ok (.aload_n 0, 1) := by decide +kernel
theorem d_L_law_675 : decode code 675 = .ok (.iload_n 3, 1) := by decide +kernel
theorem d_L_law_676 : decode code 676 = .ok (.iconst 1, 1) := by decide +kernel
theorem d_L_law_677 : decode code 677 = .ok (.iadd, 1) := by decide +kernel
theorem d_L_law_678 : decode code 678 = .ok (.iaload, 1) := by decide +kernel
theorem d_L_law_679 : decode code 679 = .ok (.aload_n 0, 1) := by decide +kernel
theorem d_L_law_680 : decode code 680 = .ok (.iload_n 3, 1) := by decide +kernel
theorem d_L_law_681 : decode code 681 = .ok (.iconst 2, 1) := by decide +kernel
theorem d_L_law_682 : decode code 682 = .ok (.iadd, 1) := by decide +kernel
theorem d_L_law_683 : decode code 683 = .ok (.iaload, 1) := by decide +kernel
theorem d_L_law_684 : decode code 684 = .ok (.invokevirtual 71, 3) := by decide +kernel
theorem d_L_law_687 : decode code 687 = .ok (.if_icmp .eq 396, 3) := by decide +kernel
theorem d_L_law_690 : decode code 690 = .ok (.iconst 0, 1) := by decide +kernel
theorem d_L_law_691 : decode code 691 = .ok (.ireturn, 1) := by decide +kernel
theorem d_L_law_692 : decode code 692 = .ok (.aload_n 1, 1) := by decide +kernel
theorem d_L_law_693 : decode code 693 = .ok (.aload_n 0, 1) := by decide +kernel
theorem d_L_law_694 : decode code 694 = .ok (.iload_n 3, 1) := by decide +kernel
theorem d_L_law_695 : decode code 695 = .ok (.iconst 1, 1) := by decide +kernel
theorem d_L_law_696 : decode code 696 = .ok (.iadd, 1) := by decide +kernel
theorem d_L_law_697 : decode code 697 = .ok (.iaload, 1) := by decide +kernel
theorem d_L_law_698 : decode code 698 = .ok (.aload_n 0, 1) := by decide +kernel
theorem d_L_law_699 : decode code 699 = .ok (.iload_n 3, 1) := by decide +kernel
theorem d_L_law_700 : decode code 700 = .ok (.iconst 2, 1) := by decide +kernel
theorem d_L_law_701 : decode code 701 = .ok (.iadd, 1) := by decide +kernel
theorem d_L_law_702 : decode code 702 = .ok (.iaload, 1) := by decide +kernel
theorem d_L_law_703 : decode code 703 = .ok (.invokevirtual 72, 3) := by decide +kernel
theorem d_L_law_706 : decode code 706 = .ok (.aload_n 2, 1) := by decide +kernel
theorem d_L_law_707 : decode code 707 = .ok (.aload_n 0, 1) := by decide +kernel
theorem d_L_law_708 : decode code 708 = .ok (.iload_n 3, 1) := by decide +kernel
theorem d_L_law_709 : decode code 709 = .ok (.iconst 1, 1) := by decide +kernel
theorem d_L_law_710 : decode code 710 = .ok (.iadd, 1) := by decide +kernel
theorem d_L_law_711 : decode code 711 = .ok (.iaload, 1) := by decide +kernel
theorem d_L_law_712 : decode code 712 = .ok (.aload_n 0, 1) := by decide +kernel
theorem d_L_law_713 : decode code 713 = .ok (.iload_n 3, 1) := by decide +kernel
theorem d_L_law_714 : decode code 714 = .ok (.iconst 2, 1) := by decide +kernel
