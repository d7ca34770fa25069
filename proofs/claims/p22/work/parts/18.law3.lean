theorem wsX50_in9 : ∀ w ∈ wsX50, w ∈ lw_tbl := by decide +kernel
theorem wsX30_in9 : ∀ w ∈ wsX30, w ∈ lw_tbl := by decide +kernel
theorem wsX40_in9 : ∀ w ∈ wsX40, w ∈ lw_tbl := by decide +kernel
theorem wsX20_in9 : ∀ w ∈ wsX20, w ∈ lw_tbl := by decide +kernel
theorem wsX00_in9 : ∀ w ∈ wsX00, w ∈ lw_tbl := by decide +kernel
theorem wsX10_in9 : ∀ w ∈ wsX10, w ∈ lw_tbl := by decide +kernel
theorem wsL_law_in0 : ∀ w ∈ wsL_law0, w ∈ lw_tbl := (List.forall_mem_append.mpr ⟨(List.forall_mem_append.mpr ⟨(List.forall_mem_append.mpr ⟨(List.forall_mem_append.mpr ⟨(List.forall_mem_append.mpr ⟨(List.forall_mem_append.mpr ⟨(List.forall_mem_append.mpr ⟨(List.forall_mem_append.mpr ⟨wsL_r1_in, List.forall_mem_append.mpr ⟨wsL_r2_in, List.forall_mem_append.mpr ⟨wsL_r3_in, List.forall_mem_append.mpr ⟨wsL_r4_in, List.forall_mem_append.mpr ⟨wsL_r5_in, List.forall_mem_append.mpr ⟨wsL_r6_in, List.forall_mem_append.mpr ⟨wsL_r7_in, List.forall_mem_append.mpr ⟨wsL_r8_in, List.forall_mem_append.mpr ⟨wsL_r9_in, List.forall_mem_append.mpr ⟨wsL_r10_in, List.forall_mem_append.mpr ⟨wsL_r11_in, List.forall_mem_append.mpr ⟨wsL_r12_in, List.forall_mem_append.mpr ⟨wsL_r13_in, wsL_r14_in⟩⟩⟩⟩⟩⟩⟩⟩⟩⟩⟩⟩⟩), wsX50_in9⟩), wsX30_in9⟩), wsX40_in9⟩), wsX20_in9⟩), wsX00_in9⟩), wsX10_in9⟩), fun _ h => absurd h List.not_mem_nil⟩)
theorem wsL_law_x0 : ∀ w ∈ (vx_atS RX5 149 "java/lang/IndexOutOfBoundsException" ["java/lang/RuntimeException", "java/lang/Exception"]).filter goodWord, w ∈ lw_tbl := by decide +kernel
theorem wsL_law_x1 : ∀ w ∈ (vx_atS RX5 45 "java/lang/IllegalArgumentException" ["java/lang/RuntimeException", "java/lang/Exception"]).filter goodWord, w ∈ lw_tbl := by decide +kernel
theorem wsL_law_x2 : ∀ w ∈ (vx_atS RX5 81 "java/lang/IllegalStateException" ["java/lang/RuntimeException", "java/lang/Exception"]).filter goodWord, w ∈ lw_tbl := by decide +kernel
theorem wsL_law_in : ∀ w ∈ wsL_law, w ∈ lw_tbl := fun w h => (List.mem_append.mp h).elim (fun h => (List.mem_append.mp h).elim (fun h => (List.mem_append.mp h).elim (fun h => wsL_law_in0 w h) (fun h => wsL_law_x0 w h)) (fun h => wsL_law_x1 w h)) (fun h => wsL_law_x2 w h)
theorem inlX0 : ∀ w ∈ wsX00, w ∈ wsL_law := fun _ h => List.mem_append_left _ (List.mem_append_left _ (List.mem_append_left _ (List.mem_append_left _ (List.mem_append_left _ (List.mem_append_right _ h)))))
theorem inX0 : ∀ w ∈ wsX00, w ∈ lw_tbl := fun w h => wsL_law_in w (inlX0 w h)
theorem inlX1 : ∀ w ∈ wsX10, w ∈ wsL_law := fun _ h => List.mem_append_left _ (List.mem_append_left _ (List.mem_append_left _ (List.mem_append_left _ (List.mem_append_right _ h))))
theorem inX1 : ∀ w ∈ wsX10, w ∈ lw_tbl := fun w h => wsL_law_in w (inlX1 w h)
theorem inlX2 : ∀ w ∈ wsX20, w ∈ wsL_law := fun _ h => List.mem_append_left _ (List.mem_append_left _ (List.mem_append_left _ (List.mem_append_left _ (List.mem_append_left _ (List.mem_append_left _ (List.mem_append_right _ h))))))
theorem inX2 : ∀ w ∈ wsX20, w ∈ lw_tbl := fun w h => wsL_law_in w (inlX2 w h)
theorem inlX3 : ∀ w ∈ wsX30, w ∈ wsL_law := fun _ h => List.mem_append_left _ (List.mem_append_left _ (List.mem_append_left _ (List.mem_append_left _ (List.mem_append_left _ (List.mem_append_left _ (List.mem_append_left _ (List.mem_append_left _ (List.mem_append_right _ h))))))))
theorem inX3 : ∀ w ∈ wsX30, w ∈ lw_tbl := fun w h => wsL_law_in w (inlX3 w h)
theorem inlX4 : ∀ w ∈ wsX40, w ∈ wsL_law := fun _ h => List.mem_append_left _ (List.mem_append_left _ (List.mem_append_left _ (List.mem_append_left _ (List.mem_append_left _ (List.mem_append_left _ (List.mem_append_left _ (List.mem_append_right _ h)))))))
theorem inX4 : ∀ w ∈ wsX40, w ∈ lw_tbl := fun w h => wsL_law_in w (inlX4 w h)
theorem inlX5 : ∀ w ∈ wsX50, w ∈ wsL_law := fun _ h => List.mem_append_left _ (List.mem_append_left _ (List.mem_append_left _ (List.mem_append_left _ (List.mem_append_left _ (List.mem_append_left _ (List.mem_append_left _ (List.mem_append_left _ (List.mem_append_left _ (List.mem_append_right _ h)))))))))
theorem inX5 : ∀ w ∈ wsX50, w ∈ lw_tbl := fun w h => wsL_law_in w (inlX5 w h)
theorem inX6 : ∀ w ∈ wsX60, w ∈ lw_tbl := by decide +kernel
theorem inJ6 : ∀ w ∈ wsJ60, w ∈ lw_tbl := by decide +kernel
theorem inJ9 : ∀ w ∈ wsJ90, w ∈ lw_tbl := by decide +kernel
theorem inJ0 : ∀ w ∈ wsJ00, w ∈ lw_tbl := by decide +kernel
theorem dL_tells_0 : decode cL_tells 0 = .ok (.aload_n 0, 1) := by decide +kernel
theorem dL_tells_1 : decode cL_tells 1 = .ok (.iload_n 1, 1) := by decide +kernel
theorem dL_tells_2 : decode cL_tells 2 = .ok (.invokevirtual 7, 3) := by decide +kernel
theorem dL_tells_5 : decode cL_tells 5 = .ok (.ireturn, 1) := by decide +kernel
theorem dL_tells_6 : decode cL_tells 6 = .ok (.astore_n 2, 1) := by decide +kernel
theorem dL_tells_7 : decode cL_tells 7 = .ok (.bipush (-3), 2) := by decide +kernel
theorem dL_tells_9 : decode cL_tells 9 = .ok (.ireturn, 1) := by decide +kernel
theorem dL_frames_0 : decode cL_frames 0 = .ok (.aload_n 0, 1) := by decide +kernel
theorem dL_frames_1 : decode cL_frames 1 = .ok (.iload_n 1, 1) := by decide +kernel
theorem dL_frames_2 : decode cL_frames 2 = .ok (.iload_n 2, 1) := by decide +kernel
theorem dL_frames_3 : decode cL_frames 3 = .ok (.iload_n 3, 1) := by decide +kernel
theorem dL_frames_4 : decode cL_frames 4 = .ok (.invokevirtual 15, 3) := by decide +kernel
theorem dL_frames_7 : decode cL_frames 7 = .ok (.ireturn, 1) := by decide +kernel
theorem dL_frames_8 : decode cL_frames 8 = .ok (.astore 4, 2) := by decide +kernel
theorem dL_frames_10 : decode cL_frames 10 = .ok (.bipush (-3), 2) := by decide +kernel
theorem dL_frames_12 : decode cL_frames 12 = .ok (.ireturn, 1) := by decide +kernel
theorem dL_bits_0 : decode cL_bits 0 = .ok (.iload_n 0, 1) := by decide +kernel
theorem dL_bits_1 : decode cL_bits 1 = .ok (.iconst 1, 1) := by decide +kernel
theorem dL_bits_2 : decode cL_bits 2 = .ok (.iand, 1) := by decide +kernel
theorem dL_bits_3 : decode cL_bits 3 = .ok (.iload_n 0, 1) := by decide +kernel
theorem dL_bits_4 : decode cL_bits 4 = .ok (.iconst 1, 1) := by decide +kernel
theorem dL_bits_5 : decode cL_bits 5 = .ok (.ishr, 1) := by decide +kernel
theorem dL_bits_6 : decode cL_bits 6 = .ok (.iconst 1, 1) := by decide +kernel
theorem dL_bits_7 : decode cL_bits 7 = .ok (.iand, 1) := by decide +kernel
theorem dL_bits_8 : decode cL_bits 8 = .ok (.iadd, 1) := by decide +kernel
theorem dL_bits_9 : decode cL_bits 9 = .ok (.iload_n 0, 1) := by decide +kernel
theorem dL_bits_10 : decode cL_bits 10 = .ok (.iconst 2, 1) := by decide +kernel
theorem dL_bits_11 : decode cL_bits 11 = .ok (.ishr, 1) := by decide +kernel
theorem dL_bits_12 : decode cL_bits 12 = .ok (.iconst 1, 1) := by decide +kernel
theorem dL_bits_13 : decode cL_bits 13 = .ok (.iand, 1) := by decide +kernel
theorem dL_bits_14 : decode cL_bits 14 = .ok (.iadd, 1) := by decide +kernel
theorem dL_bits_15 : decode cL_bits 15 = .ok (.iload_n 0, 1) := by decide +kernel
theorem dL_bits_16 : decode cL_bits 16 = .ok (.iconst 3, 1) := by decide +kernel
theorem dL_bits_17 : decode cL_bits 17 = .ok (.ishr, 1) := by decide +kernel
theorem dL_bits_18 : decode cL_bits 18 = .ok (.iconst 1, 1) := by decide +kernel
theorem dL_bits_19 : decode cL_bits 19 = .ok (.iand, 1) := by decide +kernel
theorem dL_bits_20 : decode cL_bits 20 = .ok (.iadd, 1) := by decide +kernel
theorem dL_bits_21 : decode cL_bits 21 = .ok (.ireturn, 1) := by decide +kernel
theorem dL_isStation_0 : decode cL_isStation 0 = .ok (.iload_n 2, 1) := by decide +kernel
theorem dL_isStation_1 : decode cL_isStation 1 = .ok (.ifCond .ne 7, 3) := by decide +kernel
theorem dL_isStation_4 : decode cL_isStation 4 = .ok (.iconst 3, 1) := by decide +kernel
theorem dL_isStation_5 : decode cL_isStation 5 = .ok (.goto 5, 3) := by decide +kernel
theorem dL_isStation_8 : decode cL_isStation 8 = .ok (.bipush 7, 2) := by decide +kernel
theorem dL_isStation_10 : decode cL_isStation 10 = .ok (.istore_n 3, 1) := by decide +kernel
theorem dL_isStation_11 : decode cL_isStation 11 = .ok (.aload_n 0, 1) := by decide +kernel
theorem dL_isStation_12 : decode cL_isStation 12 = .ok (.iload_n 1, 1) := by decide +kernel
theorem dL_isStation_13 : decode cL_isStation 13 = .ok (.invokevirtual 19, 3) := by decide +kernel
theorem dL_isStation_16 : decode cL_isStation 16 = .ok (.istore 4, 2) := by decide +kernel
theorem dL_isStation_18 : decode cL_isStation 18 = .ok (.aload_n 0, 1) := by decide +kernel
theorem dL_isStation_19 : decode cL_isStation 19 = .ok (.iload_n 1, 1) := by decide +kernel
theorem dL_isStation_20 : decode cL_isStation 20 = .ok (.invokevirtual 22, 3) := by decide +kernel
theorem dL_isStation_23 : decode cL_isStation 23 = .ok (.istore 5, 2) := by decide +kernel
theorem dL_isStation_25 : decode cL_isStation 25 = .ok (.aload_n 0, 1) := by decide +kernel
theorem dL_isStation_26 : decode cL_isStation 26 = .ok (.iload_n 1, 1) := by decide +kernel
theorem dL_isStation_27 : decode cL_isStation 27 = .ok (.invokevirtual 25, 3) := by decide +kernel
theorem dL_isStation_30 : decode cL_isStation 30 = .ok (.istore 6, 2) := by decide +kernel
theorem dL_isStation_32 : decode cL_isStation 32 = .ok (.iload 5, 2) := by decide +kernel
theorem dL_isStation_34 : decode cL_isStation 34 = .ok (.ifCond .lt 49, 3) := by decide +kernel
theorem dL_isStation_37 : decode cL_isStation 37 = .ok (.iload 5, 2) := by decide +kernel
theorem dL_isStation_39 : decode cL_isStation 39 = .ok (.iconst 5, 1) := by decide +kernel
theorem dL_isStation_40 : decode cL_isStation 40 = .ok (.if_icmp .ge 43, 3) := by decide +kernel
theorem dL_isStation_43 : decode cL_isStation 43 = .ok (.iload 6, 2) := by decide +kernel
theorem dL_isStation_45 : decode cL_isStation 45 = .ok (.iconst (-1), 1) := by decide +kernel
theorem dL_isStation_46 : decode cL_isStation 46 = .ok (.if_icmp .lt 37, 3) := by decide +kernel
theorem dL_isStation_49 : decode cL_isStation 49 = .ok (.iload 6, 2) := by decide +kernel
theorem dL_isStation_51 : decode cL_isStation 51 = .ok (.bipush 31, 2) := by decide +kernel
theorem dL_isStation_53 : decode cL_isStation 53 = .ok (.if_icmp .gt 30, 3) := by decide +kernel
theorem dL_isStation_56 : decode cL_isStation 56 = .ok (.aload_n 0, 1) := by decide +kernel
theorem dL_isStation_57 : decode cL_isStation 57 = .ok (.iload_n 1, 1) := by decide +kernel
theorem dL_isStation_58 : decode cL_isStation 58 = .ok (.invokevirtual 28, 3) := by decide +kernel
theorem dL_isStation_61 : decode cL_isStation 61 = .ok (.ifCond .lt 22, 3) := by decide +kernel
theorem dL_isStation_64 : decode cL_isStation 64 = .ok (.aload_n 0, 1) := by decide +kernel
theorem dL_isStation_65 : decode cL_isStation 65 = .ok (.iload_n 1, 1) := by decide +kernel
theorem dL_isStation_66 : decode cL_isStation 66 = .ok (.invokevirtual 28, 3) := by decide +kernel
theorem dL_isStation_69 : decode cL_isStation 69 = .ok (.aload_n 0, 1) := by decide +kernel
theorem dL_isStation_70 : decode cL_isStation 70 = .ok (.invokevirtual 31, 3) := by decide +kernel
theorem dL_isStation_73 : decode cL_isStation 73 = .ok (.bipush 8, 2) := by decide +kernel
theorem dL_isStation_75 : decode cL_isStation 75 = .ok (.iadd, 1) := by decide +kernel
theorem dL_isStation_76 : decode cL_isStation 76 = .ok (.if_icmp .gt 7, 3) := by decide +kernel
theorem dL_isStation_79 : decode cL_isStation 79 = .ok (.iconst 1, 1) := by decide +kernel
theorem dL_isStation_80 : decode cL_isStation 80 = .ok (.goto 4, 3) := by decide +kernel
theorem dL_isStation_83 : decode cL_isStation 83 = .ok (.iconst 0, 1) := by decide +kernel
theorem dL_isStation_84 : decode cL_isStation 84 = .ok (.istore 7, 2) := by decide +kernel
theorem dL_isStation_86 : decode cL_isStation 86 = .ok (.iload 7, 2) := by decide +kernel
theorem dL_isStation_88 : decode cL_isStation 88 = .ok (.ifCond .eq 73, 3) := by decide +kernel
theorem dL_isStation_91 : decode cL_isStation 91 = .ok (.iload 4, 2) := by decide +kernel
theorem dL_isStation_93 : decode cL_isStation 93 = .ok (.iconst 3, 1) := by decide +kernel
theorem dL_isStation_94 : decode cL_isStation 94 = .ok (.if_icmp .eq 24, 3) := by decide +kernel
theorem dL_isStation_97 : decode cL_isStation 97 = .ok (.iload 4, 2) := by decide +kernel
theorem dL_isStation_99 : decode cL_isStation 99 = .ok (.bipush 7, 2) := by decide +kernel
theorem dL_isStation_101 : decode cL_isStation 101 = .ok (.if_icmp .eq 17, 3) := by decide +kernel
theorem dL_isStation_104 : decode cL_isStation 104 = .ok (.iload 4, 2) := by decide +kernel
theorem dL_isStation_106 : decode cL_isStation 106 = .ok (.bipush 15, 2) := by decide +kernel
theorem dL_isStation_108 : decode cL_isStation 108 = .ok (.if_icmp .eq 10, 3) := by decide +kernel
theorem dL_isStation_111 : decode cL_isStation 111 = .ok (.iload 4, 2) := by decide +kernel
theorem dL_isStation_113 : decode cL_isStation 113 = .ok (.bipush 31, 2) := by decide +kernel
theorem dL_isStation_115 : decode cL_isStation 115 = .ok (.if_icmp .ne 46, 3) := by decide +kernel
theorem dL_isStation_118 : decode cL_isStation 118 = .ok (.iload 4, 2) := by decide +kernel
theorem dL_isStation_120 : decode cL_isStation 120 = .ok (.iload_n 3, 1) := by decide +kernel
theorem dL_isStation_121 : decode cL_isStation 121 = .ok (.iload 4, 2) := by decide +kernel
theorem dL_isStation_123 : decode cL_isStation 123 = .ok (.if_icmp .ge 7, 3) := by decide +kernel
theorem dL_isStation_126 : decode cL_isStation 126 = .ok (.iload_n 3, 1) := by decide +kernel
theorem dL_isStation_127 : decode cL_isStation 127 = .ok (.goto 5, 3) := by decide +kernel
theorem dL_isStation_130 : decode cL_isStation 130 = .ok (.iload 4, 2) := by decide +kernel
theorem dL_isStation_132 : decode cL_isStation 132 = .ok (.if_icmp .lt 29, 3) := by decide +kernel
theorem dL_isStation_135 : decode cL_isStation 135 = .ok (.aload_n 0, 1) := by decide +kernel
theorem dL_isStation_136 : decode cL_isStation 136 = .ok (.iload_n 1, 1) := by decide +kernel
theorem dL_isStation_137 : decode cL_isStation 137 = .ok (.invokevirtual 35, 3) := by decide +kernel
theorem dL_isStation_140 : decode cL_isStation 140 = .ok (.ifCond .eq 17, 3) := by decide +kernel
theorem dL_isStation_143 : decode cL_isStation 143 = .ok (.iload 6, 2) := by decide +kernel
theorem dL_isStation_145 : decode cL_isStation 145 = .ok (.iconst (-1), 1) := by decide +kernel
theorem dL_isStation_146 : decode cL_isStation 146 = .ok (.if_icmp .ne 15, 3) := by decide +kernel
theorem dL_isStation_149 : decode cL_isStation 149 = .ok (.aload_n 0, 1) := by decide +kernel
theorem dL_isStation_150 : decode cL_isStation 150 = .ok (.iload_n 1, 1) := by decide +kernel
theorem dL_isStation_151 : decode cL_isStation 151 = .ok (.invokevirtual 39, 3) := by decide +kernel
theorem dL_isStation_154 : decode cL_isStation 154 = .ok (.ifCond .le 7, 3) := by decide +kernel
theorem dL_isStation_157 : decode cL_isStation 157 = .ok (.iconst 1, 1) := by decide +kernel
theorem dL_isStation_158 : decode cL_isStation 158 = .ok (.goto 4, 3) := by decide +kernel
theorem dL_isStation_161 : decode cL_isStation 161 = .ok (.iconst 0, 1) := by decide +kernel
theorem dL_isStation_162 : decode cL_isStation 162 = .ok (.istore 7, 2) := by decide +kernel
theorem dL_isStation_164 : decode cL_isStation 164 = .ok (.iload 7, 2) := by decide +kernel
theorem dL_isStation_166 : decode cL_isStation 166 = .ok (.ifCond .eq 63, 3) := by decide +kernel
theorem dL_isStation_169 : decode cL_isStation 169 = .ok (.aload_n 0, 1) := by decide +kernel
theorem dL_isStation_170 : decode cL_isStation 170 = .ok (.iload_n 1, 1) := by decide +kernel
theorem dL_isStation_171 : decode cL_isStation 171 = .ok (.invokevirtual 39, 3) := by decide +kernel
theorem dL_isStation_174 : decode cL_isStation 174 = .ok (.ifCond .lt 55, 3) := by decide +kernel
theorem dL_isStation_177 : decode cL_isStation 177 = .ok (.aload_n 0, 1) := by decide +kernel
theorem dL_isStation_178 : decode cL_isStation 178 = .ok (.iload_n 1, 1) := by decide +kernel
theorem dL_isStation_179 : decode cL_isStation 179 = .ok (.invokevirtual 39, 3) := by decide +kernel
theorem dL_isStation_182 : decode cL_isStation 182 = .ok (.iconst 5, 1) := by decide +kernel
theorem dL_isStation_183 : decode cL_isStation 183 = .ok (.if_icmp .gt 46, 3) := by decide +kernel
theorem dL_isStation_186 : decode cL_isStation 186 = .ok (.aload_n 0, 1) := by decide +kernel
theorem dL_isStation_187 : decode cL_isStation 187 = .ok (.iload_n 1, 1) := by decide +kernel
theorem dL_isStation_188 : decode cL_isStation 188 = .ok (.invokevirtual 39, 3) := by decide +kernel
theorem dL_isStation_191 : decode cL_isStation 191 = .ok (.ifCond .ne 7, 3) := by decide +kernel
theorem dL_isStation_194 : decode cL_isStation 194 = .ok (.iconst 1, 1) := by decide +kernel
theorem dL_isStation_195 : decode cL_isStation 195 = .ok (.goto 4, 3) := by decide +kernel
theorem dL_isStation_198 : decode cL_isStation 198 = .ok (.iconst 0, 1) := by decide +kernel
theorem dL_isStation_199 : decode cL_isStation 199 = .ok (.aload_n 0, 1) := by decide +kernel
theorem dL_isStation_200 : decode cL_isStation 200 = .ok (.iload_n 1, 1) := by decide +kernel
theorem dL_isStation_201 : decode cL_isStation 201 = .ok (.invokevirtual 42, 3) := by decide +kernel
theorem dL_isStation_204 : decode cL_isStation 204 = .ok (.ifCond .ne 7, 3) := by decide +kernel
theorem dL_isStation_207 : decode cL_isStation 207 = .ok (.iconst 1, 1) := by decide +kernel
theorem dL_isStation_208 : decode cL_isStation 208 = .ok (.goto 4, 3) := by decide +kernel
theorem dL_isStation_211 : decode cL_isStation 211 = .ok (.iconst 0, 1) := by decide +kernel
theorem dL_isStation_212 : decode cL_isStation 212 = .ok (.if_icmp .ne 17, 3) := by decide +kernel
theorem dL_isStation_215 : decode cL_isStation 215 = .ok (.aload_n 0, 1) := by decide +kernel
theorem dL_isStation_216 : decode cL_isStation 216 = .ok (.iload_n 1, 1) := by decide +kernel
theorem dL_isStation_217 : decode cL_isStation 217 = .ok (.invokevirtual 42, 3) := by decide +kernel
theorem dL_isStation_220 : decode cL_isStation 220 = .ok (.bipush 16, 2) := by decide +kernel
theorem dL_isStation_222 : decode cL_isStation 222 = .ok (.if_icmp .ge 7, 3) := by decide +kernel
theorem dL_isStation_225 : decode cL_isStation 225 = .ok (.iconst 1, 1) := by decide +kernel
theorem dL_isStation_226 : decode cL_isStation 226 = .ok (.goto 4, 3) := by decide +kernel
theorem dL_isStation_229 : decode cL_isStation 229 = .ok (.iconst 0, 1) := by decide +kernel
theorem dL_isStation_230 : decode cL_isStation 230 = .ok (.istore 7, 2) := by decide +kernel
theorem dL_isStation_232 : decode cL_isStation 232 = .ok (.iload 7, 2) := by decide +kernel
theorem dL_isStation_234 : decode cL_isStation 234 = .ok (.ifCond .eq 66, 3) := by decide +kernel
theorem dL_isStation_237 : decode cL_isStation 237 = .ok (.aload_n 0, 1) := by decide +kernel
theorem dL_isStation_238 : decode cL_isStation 238 = .ok (.iload_n 1, 1) := by decide +kernel
theorem dL_isStation_239 : decode cL_isStation 239 = .ok (.invokevirtual 45, 3) := by decide +kernel
theorem dL_isStation_242 : decode cL_isStation 242 = .ok (.aload_n 0, 1) := by decide +kernel
theorem dL_isStation_243 : decode cL_isStation 243 = .ok (.iload_n 1, 1) := by decide +kernel
theorem dL_isStation_244 : decode cL_isStation 244 = .ok (.invokevirtual 48, 3) := by decide +kernel
theorem dL_isStation_247 : decode cL_isStation 247 = .ok (.if_icmp .ne 53, 3) := by decide +kernel
theorem dL_isStation_250 : decode cL_isStation 250 = .ok (.aload_n 0, 1) := by decide +kernel
theorem dL_isStation_251 : decode cL_isStation 251 = .ok (.iload_n 1, 1) := by decide +kernel
theorem dL_isStation_252 : decode cL_isStation 252 = .ok (.invokevirtual 45, 3) := by decide +kernel
theorem dL_isStation_255 : decode cL_isStation 255 = .ok (.iconst 2, 1) := by decide +kernel
theorem dL_isStation_256 : decode cL_isStation 256 = .ok (.aload_n 0, 1) := by decide +kernel
theorem dL_isStation_257 : decode cL_isStation 257 = .ok (.iload_n 1, 1) := by decide +kernel
theorem dL_isStation_258 : decode cL_isStation 258 = .ok (.invokevirtual 51, 3) := by decide +kernel
theorem dL_isStation_261 : decode cL_isStation 261 = .ok (.imul, 1) := by decide +kernel
theorem dL_isStation_262 : decode cL_isStation 262 = .ok (.if_icmp .lt 38, 3) := by decide +kernel
theorem dL_isStation_265 : decode cL_isStation 265 = .ok (.aload_n 0, 1) := by decide +kernel
theorem dL_isStation_266 : decode cL_isStation 266 = .ok (.iload_n 1, 1) := by decide +kernel
theorem dL_isStation_267 : decode cL_isStation 267 = .ok (.invokevirtual 45, 3) := by decide +kernel
theorem dL_isStation_270 : decode cL_isStation 270 = .ok (.aload_n 0, 1) := by decide +kernel
theorem dL_isStation_271 : decode cL_isStation 271 = .ok (.invokevirtual 31, 3) := by decide +kernel
theorem dL_isStation_274 : decode cL_isStation 274 = .ok (.if_icmp .gt 26, 3) := by decide +kernel
theorem dL_isStation_277 : decode cL_isStation 277 = .ok (.iload 5, 2) := by decide +kernel
theorem dL_isStation_279 : decode cL_isStation 279 = .ok (.ifCond .gt 17, 3) := by decide +kernel
theorem dL_isStation_282 : decode cL_isStation 282 = .ok (.aload_n 0, 1) := by decide +kernel
theorem dL_isStation_283 : decode cL_isStation 283 = .ok (.iload_n 1, 1) := by decide +kernel
theorem dL_isStation_284 : decode cL_isStation 284 = .ok (.invokevirtual 39, 3) := by decide +kernel
theorem dL_isStation_287 : decode cL_isStation 287 = .ok (.ifCond .gt 9, 3) := by decide +kernel
theorem dL_isStation_290 : decode cL_isStation 290 = .ok (.iload 6, 2) := by decide +kernel
theorem dL_isStation_292 : decode cL_isStation 292 = .ok (.iconst (-1), 1) := by decide +kernel
theorem dL_isStation_293 : decode cL_isStation 293 = .ok (.if_icmp .ne 7, 3) := by decide +kernel
theorem dL_isStation_296 : decode cL_isStation 296 = .ok (.iconst 1, 1) := by decide +kernel
theorem dL_isStation_297 : decode cL_isStation 297 = .ok (.goto 4, 3) := by decide +kernel
theorem dL_isStation_300 : decode cL_isStation 300 = .ok (.iconst 0, 1) := by decide +kernel
theorem dL_isStation_301 : decode cL_isStation 301 = .ok (.ireturn, 1) := by decide +kernel
theorem dL_isSlot_0 : decode cL_isSlot 0 = .ok (.iconst 0, 1) := by decide +kernel
theorem dL_isSlot_1 : decode cL_isSlot 1 = .ok (.istore 4, 2) := by decide +kernel
theorem dL_isSlot_3 : decode cL_isSlot 3 = .ok (.aload_n 0, 1) := by decide +kernel
theorem dL_isSlot_4 : decode cL_isSlot 4 = .ok (.invokevirtual 31, 3) := by decide +kernel
theorem dL_isSlot_7 : decode cL_isSlot 7 = .ok (.istore 5, 2) := by decide +kernel
theorem dL_isSlot_9 : decode cL_isSlot 9 = .ok (.iconst 0, 1) := by decide +kernel
theorem dL_isSlot_10 : decode cL_isSlot 10 = .ok (.istore 6, 2) := by decide +kernel
theorem dL_isSlot_12 : decode cL_isSlot 12 = .ok (.iload 6, 2) := by decide +kernel
theorem dL_isSlot_14 : decode cL_isSlot 14 = .ok (.bipush 6, 2) := by decide +kernel
theorem dL_isSlot_16 : decode cL_isSlot 16 = .ok (.if_icmp .ge 137, 3) := by decide +kernel
theorem dL_isSlot_19 : decode cL_isSlot 19 = .ok (.aload_n 2, 1) := by decide +kernel
theorem dL_isSlot_20 : decode cL_isSlot 20 = .ok (.bipush 8, 2) := by decide +kernel
theorem dL_isSlot_22 : decode cL_isSlot 22 = .ok (.iload 6, 2) := by decide +kernel
theorem dL_isSlot_24 : decode cL_isSlot 24 = .ok (.imul, 1) := by decide +kernel
theorem dL_isSlot_25 : decode cL_isSlot 25 = .ok (.aload_n 0, 1) := by decide +kernel
theorem dL_isSlot_26 : decode cL_isSlot 26 = .ok (.iload 6, 2) := by decide +kernel
theorem dL_isSlot_28 : decode cL_isSlot 28 = .ok (.invokevirtual 35, 3) := by decide +kernel
theorem dL_isSlot_31 : decode cL_isSlot 31 = .ok (.ifCond .eq 7, 3) := by decide +kernel
theorem dL_isSlot_34 : decode cL_isSlot 34 = .ok (.iconst 1, 1) := by decide +kernel
theorem dL_isSlot_35 : decode cL_isSlot 35 = .ok (.goto 4, 3) := by decide +kernel
theorem dL_isSlot_38 : decode cL_isSlot 38 = .ok (.iconst 0, 1) := by decide +kernel
theorem dL_isSlot_39 : decode cL_isSlot 39 = .ok (.iastore, 1) := by decide +kernel
theorem dL_isSlot_40 : decode cL_isSlot 40 = .ok (.aload_n 2, 1) := by decide +kernel
theorem dL_isSlot_41 : decode cL_isSlot 41 = .ok (.bipush 8, 2) := by decide +kernel
theorem dL_isSlot_43 : decode cL_isSlot 43 = .ok (.iload 6, 2) := by decide +kernel
theorem dL_isSlot_45 : decode cL_isSlot 45 = .ok (.imul, 1) := by decide +kernel
theorem dL_isSlot_46 : decode cL_isSlot 46 = .ok (.iconst 1, 1) := by decide +kernel
theorem dL_isSlot_47 : decode cL_isSlot 47 = .ok (.iadd, 1) := by decide +kernel
theorem dL_isSlot_48 : decode cL_isSlot 48 = .ok (.aload_n 0, 1) := by decide +kernel
theorem dL_isSlot_49 : decode cL_isSlot 49 = .ok (.iload 6, 2) := by decide +kernel
theorem dL_isSlot_51 : decode cL_isSlot 51 = .ok (.invokevirtual 25, 3) := by decide +kernel
theorem dL_isSlot_54 : decode cL_isSlot 54 = .ok (.iastore, 1) := by decide +kernel
theorem dL_isSlot_55 : decode cL_isSlot 55 = .ok (.aload_n 2, 1) := by decide +kernel
theorem dL_isSlot_56 : decode cL_isSlot 56 = .ok (.bipush 8, 2) := by decide +kernel
theorem dL_isSlot_58 : decode cL_isSlot 58 = .ok (.iload 6, 2) := by decide +kernel
theorem dL_isSlot_60 : decode cL_isSlot 60 = .ok (.imul, 1) := by decide +kernel
theorem dL_isSlot_61 : decode cL_isSlot 61 = .ok (.iconst 2, 1) := by decide +kernel
theorem dL_isSlot_62 : decode cL_isSlot 62 = .ok (.iadd, 1) := by decide +kernel
theorem dL_isSlot_63 : decode cL_isSlot 63 = .ok (.aload_n 0, 1) := by decide +kernel
theorem dL_isSlot_64 : decode cL_isSlot 64 = .ok (.iload 6, 2) := by decide +kernel
theorem dL_isSlot_66 : decode cL_isSlot 66 = .ok (.invokevirtual 39, 3) := by decide +kernel
theorem dL_isSlot_69 : decode cL_isSlot 69 = .ok (.iastore, 1) := by decide +kernel
theorem dL_isSlot_70 : decode cL_isSlot 70 = .ok (.aload_n 2, 1) := by decide +kernel
theorem dL_isSlot_71 : decode cL_isSlot 71 = .ok (.bipush 8, 2) := by decide +kernel
theorem dL_isSlot_73 : decode cL_isSlot 73 = .ok (.iload 6, 2) := by decide +kernel
theorem dL_isSlot_75 : decode cL_isSlot 75 = .ok (.imul, 1) := by decide +kernel
theorem dL_isSlot_76 : decode cL_isSlot 76 = .ok (.iconst 3, 1) := by decide +kernel
theorem dL_isSlot_77 : decode cL_isSlot 77 = .ok (.iadd, 1) := by decide +kernel
theorem dL_isSlot_78 : decode cL_isSlot 78 = .ok (.aload_n 0, 1) := by decide +kernel
theorem dL_isSlot_79 : decode cL_isSlot 79 = .ok (.iload 6, 2) := by decide +kernel
theorem dL_isSlot_81 : decode cL_isSlot 81 = .ok (.invokevirtual 45, 3) := by decide +kernel
theorem dL_isSlot_84 : decode cL_isSlot 84 = .ok (.iastore, 1) := by decide +kernel
theorem dL_isSlot_85 : decode cL_isSlot 85 = .ok (.aload_n 2, 1) := by decide +kernel
theorem dL_isSlot_86 : decode cL_isSlot 86 = .ok (.bipush 8, 2) := by decide +kernel
theorem dL_isSlot_88 : decode cL_isSlot 88 = .ok (.iload 6, 2) := by decide +kernel
theorem dL_isSlot_90 : decode cL_isSlot 90 = .ok (.imul, 1) := by decide +kernel
theorem dL_isSlot_91 : decode cL_isSlot 91 = .ok (.iconst 4, 1) := by decide +kernel
theorem dL_isSlot_92 : decode cL_isSlot 92 = .ok (.iadd, 1) := by decide +kernel
theorem dL_isSlot_93 : decode cL_isSlot 93 = .ok (.aload_n 0, 1) := by decide +kernel
theorem dL_isSlot_94 : decode cL_isSlot 94 = .ok (.iload 6, 2) := by decide +kernel
theorem dL_isSlot_96 : decode cL_isSlot 96 = .ok (.invokevirtual 28, 3) := by decide +kernel
theorem dL_isSlot_99 : decode cL_isSlot 99 = .ok (.iastore, 1) := by decide +kernel
theorem dL_isSlot_100 : decode cL_isSlot 100 = .ok (.aload_n 2, 1) := by decide +kernel
theorem dL_isSlot_101 : decode cL_isSlot 101 = .ok (.bipush 8, 2) := by decide +kernel
theorem dL_isSlot_103 : decode cL_isSlot 103 = .ok (.iload 6, 2) := by decide +kernel
theorem dL_isSlot_105 : decode cL_isSlot 105 = .ok (.imul, 1) := by decide +kernel
theorem dL_isSlot_106 : decode cL_isSlot 106 = .ok (.iconst 5, 1) := by decide +kernel
theorem dL_isSlot_107 : decode cL_isSlot 107 = .ok (.iadd, 1) := by decide +kernel
theorem dL_isSlot_108 : decode cL_isSlot 108 = .ok (.aload_n 0, 1) := by decide +kernel
theorem dL_isSlot_109 : decode cL_isSlot 109 = .ok (.iload 6, 2) := by decide +kernel
theorem dL_isSlot_111 : decode cL_isSlot 111 = .ok (.invokevirtual 51, 3) := by decide +kernel
theorem dL_isSlot_114 : decode cL_isSlot 114 = .ok (.iastore, 1) := by decide +kernel
theorem dL_isSlot_115 : decode cL_isSlot 115 = .ok (.aload_n 2, 1) := by decide +kernel
theorem dL_isSlot_116 : decode cL_isSlot 116 = .ok (.bipush 8, 2) := by decide +kernel
theorem dL_isSlot_118 : decode cL_isSlot 118 = .ok (.iload 6, 2) := by decide +kernel
theorem dL_isSlot_120 : decode cL_isSlot 120 = .ok (.imul, 1) := by decide +kernel
theorem dL_isSlot_121 : decode cL_isSlot 121 = .ok (.bipush 6, 2) := by decide +kernel
theorem dL_isSlot_123 : decode cL_isSlot 123 = .ok (.iadd, 1) := by decide +kernel
theorem dL_isSlot_124 : decode cL_isSlot 124 = .ok (.aload_n 0, 1) := by decide +kernel
theorem dL_isSlot_125 : decode cL_isSlot 125 = .ok (.iload 6, 2) := by decide +kernel
theorem dL_isSlot_127 : decode cL_isSlot 127 = .ok (.invokevirtual 42, 3) := by decide +kernel
theorem dL_isSlot_130 : decode cL_isSlot 130 = .ok (.iastore, 1) := by decide +kernel
theorem dL_isSlot_131 : decode cL_isSlot 131 = .ok (.aload_n 2, 1) := by decide +kernel
theorem dL_isSlot_132 : decode cL_isSlot 132 = .ok (.bipush 8, 2) := by decide +kernel
theorem dL_isSlot_134 : decode cL_isSlot 134 = .ok (.iload 6, 2) := by decide +kernel
theorem dL_isSlot_136 : decode cL_isSlot 136 = .ok (.imul, 1) := by decide +kernel
theorem dL_isSlot_137 : decode cL_isSlot 137 = .ok (.bipush 7, 2) := by decide +kernel
theorem dL_isSlot_139 : decode cL_isSlot 139 = .ok (.iadd, 1) := by decide +kernel
theorem dL_isSlot_140 : decode cL_isSlot 140 = .ok (.aload_n 0, 1) := by decide +kernel
theorem dL_isSlot_141 : decode cL_isSlot 141 = .ok (.iload 6, 2) := by decide +kernel
theorem dL_isSlot_143 : decode cL_isSlot 143 = .ok (.invokevirtual 54, 3) := by decide +kernel
theorem dL_isSlot_146 : decode cL_isSlot 146 = .ok (.iastore, 1) := by decide +kernel
theorem dL_isSlot_147 : decode cL_isSlot 147 = .ok (.iinc 6 1, 3) := by decide +kernel
theorem dL_isSlot_150 : decode cL_isSlot 150 = .ok (.goto (-138), 3) := by decide +kernel
theorem dL_isSlot_153 : decode cL_isSlot 153 = .ok (.aload_n 0, 1) := by decide +kernel
theorem dL_isSlot_154 : decode cL_isSlot 154 = .ok (.iconst 1, 1) := by decide +kernel
theorem dL_isSlot_155 : decode cL_isSlot 155 = .ok (.invokevirtual 57, 3) := by decide +kernel
theorem dL_isSlot_158 : decode cL_isSlot 158 = .ok (.istore 6, 2) := by decide +kernel
theorem dL_isSlot_160 : decode cL_isSlot 160 = .ok (.aload_n 0, 1) := by decide +kernel
theorem dL_isSlot_161 : decode cL_isSlot 161 = .ok (.invokevirtual 31, 3) := by decide +kernel
theorem dL_isSlot_164 : decode cL_isSlot 164 = .ok (.iload 5, 2) := by decide +kernel
theorem dL_isSlot_166 : decode cL_isSlot 166 = .ok (.iconst 1, 1) := by decide +kernel
theorem dL_isSlot_167 : decode cL_isSlot 167 = .ok (.iadd, 1) := by decide +kernel
theorem dL_isSlot_168 : decode cL_isSlot 168 = .ok (.if_icmp .ne 7, 3) := by decide +kernel
theorem dL_isSlot_171 : decode cL_isSlot 171 = .ok (.iconst 1, 1) := by decide +kernel
theorem dL_isSlot_172 : decode cL_isSlot 172 = .ok (.goto 4, 3) := by decide +kernel
theorem dL_isSlot_175 : decode cL_isSlot 175 = .ok (.iconst 0, 1) := by decide +kernel
theorem dL_isSlot_176 : decode cL_isSlot 176 = .ok (.istore 7, 2) := by decide +kernel
theorem dL_isSlot_178 : decode cL_isSlot 178 = .ok (.iconst 0, 1) := by decide +kernel
theorem dL_isSlot_179 : decode cL_isSlot 179 = .ok (.istore 8, 2) := by decide +kernel
theorem dL_isSlot_181 : decode cL_isSlot 181 = .ok (.iload 8, 2) := by decide +kernel
theorem dL_isSlot_183 : decode cL_isSlot 183 = .ok (.bipush 6, 2) := by decide +kernel
theorem dL_isSlot_185 : decode cL_isSlot 185 = .ok (.if_icmp .ge 534, 3) := by decide +kernel
theorem dL_isSlot_188 : decode cL_isSlot 188 = .ok (.iload 7, 2) := by decide +kernel
theorem dL_isSlot_190 : decode cL_isSlot 190 = .ok (.ifCond .eq 529, 3) := by decide +kernel
theorem dL_isSlot_193 : decode cL_isSlot 193 = .ok (.aload_n 0, 1) := by decide +kernel
theorem dL_isSlot_194 : decode cL_isSlot 194 = .ok (.iload 8, 2) := by decide +kernel
theorem dL_isSlot_196 : decode cL_isSlot 196 = .ok (.invokevirtual 45, 3) := by decide +kernel
theorem dL_isSlot_199 : decode cL_isSlot 199 = .ok (.aload_n 2, 1) := by decide +kernel
theorem dL_isSlot_200 : decode cL_isSlot 200 = .ok (.bipush 8, 2) := by decide +kernel
theorem dL_isSlot_202 : decode cL_isSlot 202 = .ok (.iload 8, 2) := by decide +kernel
theorem dL_isSlot_204 : decode cL_isSlot 204 = .ok (.imul, 1) := by decide +kernel
theorem dL_isSlot_205 : decode cL_isSlot 205 = .ok (.iconst 3, 1) := by decide +kernel
theorem dL_isSlot_206 : decode cL_isSlot 206 = .ok (.iadd, 1) := by decide +kernel
theorem dL_isSlot_207 : decode cL_isSlot 207 = .ok (.iaload, 1) := by decide +kernel
theorem dL_isSlot_208 : decode cL_isSlot 208 = .ok (.if_icmp .le 7, 3) := by decide +kernel
theorem dL_isSlot_211 : decode cL_isSlot 211 = .ok (.iconst 1, 1) := by decide +kernel
theorem dL_isSlot_212 : decode cL_isSlot 212 = .ok (.goto 4, 3) := by decide +kernel
theorem dL_isSlot_215 : decode cL_isSlot 215 = .ok (.iconst 0, 1) := by decide +kernel
theorem dL_isSlot_216 : decode cL_isSlot 216 = .ok (.istore 9, 2) := by decide +kernel
theorem dL_isSlot_218 : decode cL_isSlot 218 = .ok (.aload_n 2, 1) := by decide +kernel
theorem dL_isSlot_219 : decode cL_isSlot 219 = .ok (.bipush 8, 2) := by decide +kernel
theorem dL_isSlot_221 : decode cL_isSlot 221 = .ok (.iload 8, 2) := by decide +kernel
theorem dL_isSlot_223 : decode cL_isSlot 223 = .ok (.imul, 1) := by decide +kernel
theorem dL_isSlot_224 : decode cL_isSlot 224 = .ok (.iconst 4, 1) := by decide +kernel
theorem dL_isSlot_225 : decode cL_isSlot 225 = .ok (.iadd, 1) := by decide +kernel
theorem dL_isSlot_226 : decode cL_isSlot 226 = .ok (.iaload, 1) := by decide +kernel
theorem dL_isSlot_227 : decode cL_isSlot 227 = .ok (.iload 5, 2) := by decide +kernel
theorem dL_isSlot_229 : decode cL_isSlot 229 = .ok (.if_icmp .le 7, 3) := by decide +kernel
theorem dL_isSlot_232 : decode cL_isSlot 232 = .ok (.iconst 1, 1) := by decide +kernel
theorem dL_isSlot_233 : decode cL_isSlot 233 = .ok (.goto 4, 3) := by decide +kernel
theorem dL_isSlot_236 : decode cL_isSlot 236 = .ok (.iconst 0, 1) := by decide +kernel
theorem dL_isSlot_237 : decode cL_isSlot 237 = .ok (.istore 10, 2) := by decide +kernel
theorem dL_isSlot_239 : decode cL_isSlot 239 = .ok (.iconst 0, 1) := by decide +kernel
theorem dL_isSlot_240 : decode cL_isSlot 240 = .ok (.istore 11, 2) := by decide +kernel
theorem dL_isSlot_242 : decode cL_isSlot 242 = .ok (.iload 11, 2) := by decide +kernel
theorem dL_isSlot_244 : decode cL_isSlot 244 = .ok (.bipush 6, 2) := by decide +kernel
theorem dL_isSlot_246 : decode cL_isSlot 246 = .ok (.if_icmp .ge 49, 3) := by decide +kernel
theorem dL_isSlot_249 : decode cL_isSlot 249 = .ok (.iload 10, 2) := by decide +kernel
theorem dL_isSlot_251 : decode cL_isSlot 251 = .ok (.ifCond .ne 31, 3) := by decide +kernel
theorem dL_isSlot_254 : decode cL_isSlot 254 = .ok (.iload 11, 2) := by decide +kernel
theorem dL_isSlot_256 : decode cL_isSlot 256 = .ok (.iload 8, 2) := by decide +kernel
theorem dL_isSlot_258 : decode cL_isSlot 258 = .ok (.if_icmp .eq 28, 3) := by decide +kernel
theorem dL_isSlot_261 : decode cL_isSlot 261 = .ok (.aload_n 1, 1) := by decide +kernel
theorem dL_isSlot_262 : decode cL_isSlot 262 = .ok (.bipush 6, 2) := by decide +kernel
theorem dL_isSlot_264 : decode cL_isSlot 264 = .ok (.iload 8, 2) := by decide +kernel
theorem dL_isSlot_266 : decode cL_isSlot 266 = .ok (.imul, 1) := by decide +kernel
theorem dL_isSlot_267 : decode cL_isSlot 267 = .ok (.iload 11, 2) := by decide +kernel
theorem dL_isSlot_269 : decode cL_isSlot 269 = .ok (.iadd, 1) := by decide +kernel
theorem dL_isSlot_270 : decode cL_isSlot 270 = .ok (.iaload, 1) := by decide +kernel
theorem dL_isSlot_271 : decode cL_isSlot 271 = .ok (.ifCond .le 15, 3) := by decide +kernel
theorem dL_isSlot_274 : decode cL_isSlot 274 = .ok (.aload_n 3, 1) := by decide +kernel
theorem dL_isSlot_275 : decode cL_isSlot 275 = .ok (.iload 11, 2) := by decide +kernel
theorem dL_isSlot_277 : decode cL_isSlot 277 = .ok (.iaload, 1) := by decide +kernel
theorem dL_isSlot_278 : decode cL_isSlot 278 = .ok (.iconst 1, 1) := by decide +kernel
theorem dL_isSlot_279 : decode cL_isSlot 279 = .ok (.if_icmp .ne 7, 3) := by decide +kernel
theorem dL_isSlot_282 : decode cL_isSlot 282 = .ok (.iconst 1, 1) := by decide +kernel
theorem dL_isSlot_283 : decode cL_isSlot 283 = .ok (.goto 4, 3) := by decide +kernel
theorem dL_isSlot_286 : decode cL_isSlot 286 = .ok (.iconst 0, 1) := by decide +kernel
theorem dL_isSlot_287 : decode cL_isSlot 287 = .ok (.istore 10, 2) := by decide +kernel
theorem dL_isSlot_289 : decode cL_isSlot 289 = .ok (.iinc 11 1, 3) := by decide +kernel
theorem dL_isSlot_292 : decode cL_isSlot 292 = .ok (.goto (-50), 3) := by decide +kernel
theorem dL_isSlot_295 : decode cL_isSlot 295 = .ok (.aload_n 0, 1) := by decide +kernel
theorem dL_isSlot_296 : decode cL_isSlot 296 = .ok (.iload 8, 2) := by decide +kernel
theorem dL_isSlot_298 : decode cL_isSlot 298 = .ok (.invokevirtual 45, 3) := by decide +kernel
theorem dL_isSlot_301 : decode cL_isSlot 301 = .ok (.aload_n 2, 1) := by decide +kernel
theorem dL_isSlot_302 : decode cL_isSlot 302 = .ok (.bipush 8, 2) := by decide +kernel
theorem dL_isSlot_304 : decode cL_isSlot 304 = .ok (.iload 8, 2) := by decide +kernel
theorem dL_isSlot_306 : decode cL_isSlot 306 = .ok (.imul, 1) := by decide +kernel
theorem dL_isSlot_307 : decode cL_isSlot 307 = .ok (.iconst 3, 1) := by decide +kernel
theorem dL_isSlot_308 : decode cL_isSlot 308 = .ok (.iadd, 1) := by decide +kernel
theorem dL_isSlot_309 : decode cL_isSlot 309 = .ok (.iaload, 1) := by decide +kernel
theorem dL_isSlot_310 : decode cL_isSlot 310 = .ok (.iconst 1, 1) := by decide +kernel
theorem dL_isSlot_311 : decode cL_isSlot 311 = .ok (.iadd, 1) := by decide +kernel
theorem dL_isSlot_312 : decode cL_isSlot 312 = .ok (.if_icmp .gt 74, 3) := by decide +kernel
theorem dL_isSlot_315 : decode cL_isSlot 315 = .ok (.aload_n 2, 1) := by decide +kernel
theorem dL_isSlot_316 : decode cL_isSlot 316 = .ok (.bipush 8, 2) := by decide +kernel
theorem dL_isSlot_318 : decode cL_isSlot 318 = .ok (.iload 8, 2) := by decide +kernel
theorem dL_isSlot_320 : decode cL_isSlot 320 = .ok (.imul, 1) := by decide +kernel
theorem dL_isSlot_321 : decode cL_isSlot 321 = .ok (.iaload, 1) := by decide +kernel
theorem dL_isSlot_322 : decode cL_isSlot 322 = .ok (.ifCond .eq 8, 3) := by decide +kernel
theorem dL_isSlot_325 : decode cL_isSlot 325 = .ok (.iload 9, 2) := by decide +kernel
theorem dL_isSlot_327 : decode cL_isSlot 327 = .ok (.ifCond .eq 59, 3) := by decide +kernel
theorem dL_isSlot_330 : decode cL_isSlot 330 = .ok (.aload_n 2, 1) := by decide +kernel
theorem dL_isSlot_331 : decode cL_isSlot 331 = .ok (.bipush 8, 2) := by decide +kernel
theorem dL_isSlot_333 : decode cL_isSlot 333 = .ok (.iload 8, 2) := by decide +kernel
theorem dL_isSlot_335 : decode cL_isSlot 335 = .ok (.imul, 1) := by decide +kernel
theorem dL_isSlot_336 : decode cL_isSlot 336 = .ok (.iaload, 1) := by decide +kernel
theorem dL_isSlot_337 : decode cL_isSlot 337 = .ok (.iconst 1, 1) := by decide +kernel
theorem dL_isSlot_338 : decode cL_isSlot 338 = .ok (.if_icmp .eq 44, 3) := by decide +kernel
theorem dL_isSlot_341 : decode cL_isSlot 341 = .ok (.iload 10, 2) := by decide +kernel
theorem dL_isSlot_343 : decode cL_isSlot 343 = .ok (.ifCond .eq 39, 3) := by decide +kernel
theorem dL_isSlot_346 : decode cL_isSlot 346 = .ok (.iload 9, 2) := by decide +kernel
theorem dL_isSlot_348 : decode cL_isSlot 348 = .ok (.ifCond .ne 38, 3) := by decide +kernel
theorem dL_isSlot_351 : decode cL_isSlot 351 = .ok (.aload_n 2, 1) := by decide +kernel
theorem dL_isSlot_352 : decode cL_isSlot 352 = .ok (.bipush 8, 2) := by decide +kernel
theorem dL_isSlot_354 : decode cL_isSlot 354 = .ok (.iload 8, 2) := by decide +kernel
theorem dL_isSlot_356 : decode cL_isSlot 356 = .ok (.imul, 1) := by decide +kernel
theorem dL_isSlot_357 : decode cL_isSlot 357 = .ok (.iconst 1, 1) := by decide +kernel
theorem dL_isSlot_358 : decode cL_isSlot 358 = .ok (.iadd, 1) := by decide +kernel
theorem dL_isSlot_359 : decode cL_isSlot 359 = .ok (.iaload, 1) := by decide +kernel
theorem dL_isSlot_360 : decode cL_isSlot 360 = .ok (.iconst (-1), 1) := by decide +kernel
theorem dL_isSlot_361 : decode cL_isSlot 361 = .ok (.if_icmp .eq 21, 3) := by decide +kernel
theorem dL_isSlot_364 : decode cL_isSlot 364 = .ok (.aload_n 0, 1) := by decide +kernel
theorem dL_isSlot_365 : decode cL_isSlot 365 = .ok (.iload 8, 2) := by decide +kernel
theorem dL_isSlot_367 : decode cL_isSlot 367 = .ok (.invokevirtual 25, 3) := by decide +kernel
theorem dL_isSlot_370 : decode cL_isSlot 370 = .ok (.aload_n 2, 1) := by decide +kernel
theorem dL_isSlot_371 : decode cL_isSlot 371 = .ok (.bipush 8, 2) := by decide +kernel
theorem dL_isSlot_373 : decode cL_isSlot 373 = .ok (.iload 8, 2) := by decide +kernel
theorem dL_isSlot_375 : decode cL_isSlot 375 = .ok (.imul, 1) := by decide +kernel
theorem dL_isSlot_376 : decode cL_isSlot 376 = .ok (.iconst 1, 1) := by decide +kernel
theorem dL_isSlot_377 : decode cL_isSlot 377 = .ok (.iadd, 1) := by decide +kernel
theorem dL_isSlot_378 : decode cL_isSlot 378 = .ok (.iaload, 1) := by decide +kernel
theorem dL_isSlot_379 : decode cL_isSlot 379 = .ok (.if_icmp .ne 7, 3) := by decide +kernel
theorem dL_isSlot_382 : decode cL_isSlot 382 = .ok (.iconst 1, 1) := by decide +kernel
theorem dL_isSlot_383 : decode cL_isSlot 383 = .ok (.goto 4, 3) := by decide +kernel
theorem dL_isSlot_386 : decode cL_isSlot 386 = .ok (.iconst 0, 1) := by decide +kernel
theorem dL_isSlot_387 : decode cL_isSlot 387 = .ok (.istore 7, 2) := by decide +kernel
theorem dL_isSlot_389 : decode cL_isSlot 389 = .ok (.iload 7, 2) := by decide +kernel
theorem dL_isSlot_391 : decode cL_isSlot 391 = .ok (.ifCond .eq 112, 3) := by decide +kernel
theorem dL_isSlot_394 : decode cL_isSlot 394 = .ok (.aload_n 2, 1) := by decide +kernel
theorem dL_isSlot_395 : decode cL_isSlot 395 = .ok (.bipush 8, 2) := by decide +kernel
theorem dL_isSlot_397 : decode cL_isSlot 397 = .ok (.iload 8, 2) := by decide +kernel
theorem dL_isSlot_399 : decode cL_isSlot 399 = .ok (.imul, 1) := by decide +kernel
theorem dL_isSlot_400 : decode cL_isSlot 400 = .ok (.iaload, 1) := by decide +kernel
theorem dL_isSlot_401 : decode cL_isSlot 401 = .ok (.iconst 1, 1) := by decide +kernel
theorem dL_isSlot_402 : decode cL_isSlot 402 = .ok (.if_icmp .eq 58, 3) := by decide +kernel
theorem dL_isSlot_405 : decode cL_isSlot 405 = .ok (.iload 10, 2) := by decide +kernel
theorem dL_isSlot_407 : decode cL_isSlot 407 = .ok (.ifCond .ne 53, 3) := by decide +kernel
theorem dL_isSlot_410 : decode cL_isSlot 410 = .ok (.aload_n 2, 1) := by decide +kernel
theorem dL_isSlot_411 : decode cL_isSlot 411 = .ok (.bipush 8, 2) := by decide +kernel
theorem dL_isSlot_413 : decode cL_isSlot 413 = .ok (.iload 8, 2) := by decide +kernel
theorem dL_isSlot_415 : decode cL_isSlot 415 = .ok (.imul, 1) := by decide +kernel
theorem dL_isSlot_416 : decode cL_isSlot 416 = .ok (.iconst 2, 1) := by decide +kernel
theorem dL_isSlot_417 : decode cL_isSlot 417 = .ok (.iadd, 1) := by decide +kernel
theorem dL_isSlot_418 : decode cL_isSlot 418 = .ok (.iaload, 1) := by decide +kernel
theorem dL_isSlot_419 : decode cL_isSlot 419 = .ok (.ifCond .eq 41, 3) := by decide +kernel
theorem dL_isSlot_422 : decode cL_isSlot 422 = .ok (.aload_n 2, 1) := by decide +kernel
theorem dL_isSlot_423 : decode cL_isSlot 423 = .ok (.bipush 8, 2) := by decide +kernel
theorem dL_isSlot_425 : decode cL_isSlot 425 = .ok (.iload 8, 2) := by decide +kernel
theorem dL_isSlot_427 : decode cL_isSlot 427 = .ok (.imul, 1) := by decide +kernel
theorem dL_isSlot_428 : decode cL_isSlot 428 = .ok (.iconst 1, 1) := by decide +kernel
theorem dL_isSlot_429 : decode cL_isSlot 429 = .ok (.iadd, 1) := by decide +kernel
theorem dL_isSlot_430 : decode cL_isSlot 430 = .ok (.iaload, 1) := by decide +kernel
theorem dL_isSlot_431 : decode cL_isSlot 431 = .ok (.iconst 1, 1) := by decide +kernel
theorem dL_isSlot_432 : decode cL_isSlot 432 = .ok (.if_icmp .lt 28, 3) := by decide +kernel
theorem dL_isSlot_435 : decode cL_isSlot 435 = .ok (.iload 9, 2) := by decide +kernel
theorem dL_isSlot_437 : decode cL_isSlot 437 = .ok (.ifCond .ne 66, 3) := by decide +kernel
theorem dL_isSlot_440 : decode cL_isSlot 440 = .ok (.aload_n 0, 1) := by decide +kernel
theorem dL_isSlot_441 : decode cL_isSlot 441 = .ok (.iload 8, 2) := by decide +kernel
theorem dL_isSlot_443 : decode cL_isSlot 443 = .ok (.invokevirtual 25, 3) := by decide +kernel
theorem dL_isSlot_446 : decode cL_isSlot 446 = .ok (.aload_n 2, 1) := by decide +kernel
theorem dL_isSlot_447 : decode cL_isSlot 447 = .ok (.bipush 8, 2) := by decide +kernel
theorem dL_isSlot_449 : decode cL_isSlot 449 = .ok (.iload 8, 2) := by decide +kernel
theorem dL_isSlot_451 : decode cL_isSlot 451 = .ok (.imul, 1) := by decide +kernel
theorem dL_isSlot_452 : decode cL_isSlot 452 = .ok (.iconst 1, 1) := by decide +kernel
theorem dL_isSlot_453 : decode cL_isSlot 453 = .ok (.iadd, 1) := by decide +kernel
theorem dL_isSlot_454 : decode cL_isSlot 454 = .ok (.iaload, 1) := by decide +kernel
theorem dL_isSlot_455 : decode cL_isSlot 455 = .ok (.iconst 1, 1) := by decide +kernel
theorem dL_isSlot_456 : decode cL_isSlot 456 = .ok (.isub, 1) := by decide +kernel
theorem dL_isSlot_457 : decode cL_isSlot 457 = .ok (.if_icmp .ne 46, 3) := by decide +kernel
theorem dL_isSlot_460 : decode cL_isSlot 460 = .ok (.aload_n 2, 1) := by decide +kernel
theorem dL_isSlot_461 : decode cL_isSlot 461 = .ok (.bipush 8, 2) := by decide +kernel
theorem dL_isSlot_463 : decode cL_isSlot 463 = .ok (.iload 8, 2) := by decide +kernel
theorem dL_isSlot_465 : decode cL_isSlot 465 = .ok (.imul, 1) := by decide +kernel
theorem dL_isSlot_466 : decode cL_isSlot 466 = .ok (.iconst 1, 1) := by decide +kernel
theorem dL_isSlot_467 : decode cL_isSlot 467 = .ok (.iadd, 1) := by decide +kernel
theorem dL_isSlot_468 : decode cL_isSlot 468 = .ok (.iaload, 1) := by decide +kernel
theorem dL_isSlot_469 : decode cL_isSlot 469 = .ok (.ifCond .ne 13, 3) := by decide +kernel
theorem dL_isSlot_472 : decode cL_isSlot 472 = .ok (.iload 10, 2) := by decide +kernel
theorem dL_isSlot_474 : decode cL_isSlot 474 = .ok (.ifCond .ne 8, 3) := by decide +kernel
theorem dL_isSlot_477 : decode cL_isSlot 477 = .ok (.iload 9, 2) := by decide +kernel
theorem dL_isSlot_479 : decode cL_isSlot 479 = .ok (.ifCond .eq 24, 3) := by decide +kernel
theorem dL_isSlot_482 : decode cL_isSlot 482 = .ok (.aload_n 2, 1) := by decide +kernel
theorem dL_isSlot_483 : decode cL_isSlot 483 = .ok (.bipush 8, 2) := by decide +kernel
theorem dL_isSlot_485 : decode cL_isSlot 485 = .ok (.iload 8, 2) := by decide +kernel
theorem dL_isSlot_487 : decode cL_isSlot 487 = .ok (.imul, 1) := by decide +kernel
theorem dL_isSlot_488 : decode cL_isSlot 488 = .ok (.iconst 2, 1) := by decide +kernel
theorem dL_isSlot_489 : decode cL_isSlot 489 = .ok (.iadd, 1) := by decide +kernel
theorem dL_isSlot_490 : decode cL_isSlot 490 = .ok (.iaload, 1) := by decide +kernel
theorem dL_isSlot_491 : decode cL_isSlot 491 = .ok (.ifCond .gt 8, 3) := by decide +kernel
theorem dL_isSlot_494 : decode cL_isSlot 494 = .ok (.iload 9, 2) := by decide +kernel
theorem dL_isSlot_496 : decode cL_isSlot 496 = .ok (.ifCond .ne 7, 3) := by decide +kernel
theorem dL_isSlot_499 : decode cL_isSlot 499 = .ok (.iconst 1, 1) := by decide +kernel
theorem dL_isSlot_500 : decode cL_isSlot 500 = .ok (.goto 4, 3) := by decide +kernel
theorem dL_isSlot_503 : decode cL_isSlot 503 = .ok (.iconst 0, 1) := by decide +kernel
theorem dL_isSlot_504 : decode cL_isSlot 504 = .ok (.istore 7, 2) := by decide +kernel
theorem dL_isSlot_506 : decode cL_isSlot 506 = .ok (.aload_n 0, 1) := by decide +kernel
theorem dL_isSlot_507 : decode cL_isSlot 507 = .ok (.iload 8, 2) := by decide +kernel
theorem dL_isSlot_509 : decode cL_isSlot 509 = .ok (.invokevirtual 51, 3) := by decide +kernel
theorem dL_isSlot_512 : decode cL_isSlot 512 = .ok (.aload_n 2, 1) := by decide +kernel
theorem dL_isSlot_513 : decode cL_isSlot 513 = .ok (.bipush 8, 2) := by decide +kernel
theorem dL_isSlot_515 : decode cL_isSlot 515 = .ok (.iload 8, 2) := by decide +kernel
theorem dL_isSlot_517 : decode cL_isSlot 517 = .ok (.imul, 1) := by decide +kernel
theorem dL_isSlot_518 : decode cL_isSlot 518 = .ok (.iconst 5, 1) := by decide +kernel
theorem dL_isSlot_519 : decode cL_isSlot 519 = .ok (.iadd, 1) := by decide +kernel
theorem dL_isSlot_520 : decode cL_isSlot 520 = .ok (.iaload, 1) := by decide +kernel
theorem dL_isSlot_521 : decode cL_isSlot 521 = .ok (.isub, 1) := by decide +kernel
theorem dL_isSlot_522 : decode cL_isSlot 522 = .ok (.istore 11, 2) := by decide +kernel
theorem dL_isSlot_524 : decode cL_isSlot 524 = .ok (.iload 4, 2) := by decide +kernel
theorem dL_isSlot_526 : decode cL_isSlot 526 = .ok (.iload 9, 2) := by decide +kernel
theorem dL_isSlot_528 : decode cL_isSlot 528 = .ok (.ifCond .eq 16, 3) := by decide +kernel
theorem dL_isSlot_531 : decode cL_isSlot 531 = .ok (.aload_n 0, 1) := by decide +kernel
theorem dL_isSlot_532 : decode cL_isSlot 532 = .ok (.iload 8, 2) := by decide +kernel
theorem dL_isSlot_534 : decode cL_isSlot 534 = .ok (.invokevirtual 35, 3) := by decide +kernel
theorem dL_isSlot_537 : decode cL_isSlot 537 = .ok (.ifCond .ne 7, 3) := by decide +kernel
theorem dL_isSlot_540 : decode cL_isSlot 540 = .ok (.iconst 1, 1) := by decide +kernel
theorem dL_isSlot_541 : decode cL_isSlot 541 = .ok (.goto 4, 3) := by decide +kernel
theorem dL_isSlot_544 : decode cL_isSlot 544 = .ok (.iconst 0, 1) := by decide +kernel
theorem dL_isSlot_545 : decode cL_isSlot 545 = .ok (.iadd, 1) := by decide +kernel
theorem dL_isSlot_546 : decode cL_isSlot 546 = .ok (.istore 4, 2) := by decide +kernel
theorem dL_isSlot_548 : decode cL_isSlot 548 = .ok (.iload 7, 2) := by decide +kernel
theorem dL_isSlot_550 : decode cL_isSlot 550 = .ok (.ifCond .eq 58, 3) := by decide +kernel
theorem dL_isSlot_553 : decode cL_isSlot 553 = .ok (.iload 11, 2) := by decide +kernel
theorem dL_isSlot_555 : decode cL_isSlot 555 = .ok (.ifCond .lt 53, 3) := by decide +kernel
theorem dL_isSlot_558 : decode cL_isSlot 558 = .ok (.iload 11, 2) := by decide +kernel
theorem dL_isSlot_560 : decode cL_isSlot 560 = .ok (.aload_n 2, 1) := by decide +kernel
theorem dL_isSlot_561 : decode cL_isSlot 561 = .ok (.bipush 8, 2) := by decide +kernel
theorem dL_isSlot_563 : decode cL_isSlot 563 = .ok (.iload 8, 2) := by decide +kernel
theorem dL_isSlot_565 : decode cL_isSlot 565 = .ok (.imul, 1) := by decide +kernel
theorem dL_isSlot_566 : decode cL_isSlot 566 = .ok (.bipush 6, 2) := by decide +kernel
theorem dL_isSlot_568 : decode cL_isSlot 568 = .ok (.iadd, 1) := by decide +kernel
theorem dL_isSlot_569 : decode cL_isSlot 569 = .ok (.iaload, 1) := by decide +kernel
theorem dL_isSlot_570 : decode cL_isSlot 570 = .ok (.invokestatic 60, 3) := by decide +kernel
theorem dL_isSlot_573 : decode cL_isSlot 573 = .ok (.if_icmp .gt 35, 3) := by decide +kernel
theorem dL_isSlot_576 : decode cL_isSlot 576 = .ok (.iload 11, 2) := by decide +kernel
theorem dL_isSlot_578 : decode cL_isSlot 578 = .ok (.ifCond .eq 26, 3) := by decide +kernel
theorem dL_isSlot_581 : decode cL_isSlot 581 = .ok (.iload 9, 2) := by decide +kernel
theorem dL_isSlot_583 : decode cL_isSlot 583 = .ok (.ifCond .eq 25, 3) := by decide +kernel
theorem dL_isSlot_586 : decode cL_isSlot 586 = .ok (.aload_n 0, 1) := by decide +kernel
theorem dL_isSlot_587 : decode cL_isSlot 587 = .ok (.iload 8, 2) := by decide +kernel
theorem dL_isSlot_589 : decode cL_isSlot 589 = .ok (.invokevirtual 35, 3) := by decide +kernel
theorem dL_isSlot_592 : decode cL_isSlot 592 = .ok (.ifCond .ne 16, 3) := by decide +kernel
theorem dL_isSlot_595 : decode cL_isSlot 595 = .ok (.aload_n 0, 1) := by decide +kernel
theorem dL_isSlot_596 : decode cL_isSlot 596 = .ok (.iload 8, 2) := by decide +kernel
theorem dL_isSlot_598 : decode cL_isSlot 598 = .ok (.invokevirtual 22, 3) := by decide +kernel
theorem dL_isSlot_601 : decode cL_isSlot 601 = .ok (.ifCond .ne 7, 3) := by decide +kernel
theorem dL_isSlot_604 : decode cL_isSlot 604 = .ok (.iconst 1, 1) := by decide +kernel
theorem dL_isSlot_605 : decode cL_isSlot 605 = .ok (.goto 4, 3) := by decide +kernel
theorem dL_isSlot_608 : decode cL_isSlot 608 = .ok (.iconst 0, 1) := by decide +kernel
theorem dL_isSlot_609 : decode cL_isSlot 609 = .ok (.istore 7, 2) := by decide +kernel
theorem dL_isSlot_611 : decode cL_isSlot 611 = .ok (.aload_n 2, 1) := by decide +kernel
theorem dL_isSlot_612 : decode cL_isSlot 612 = .ok (.bipush 8, 2) := by decide +kernel
theorem dL_isSlot_614 : decode cL_isSlot 614 = .ok (.iload 8, 2) := by decide +kernel
theorem dL_isSlot_616 : decode cL_isSlot 616 = .ok (.imul, 1) := by decide +kernel
theorem dL_isSlot_617 : decode cL_isSlot 617 = .ok (.iconst 2, 1) := by decide +kernel
theorem dL_isSlot_618 : decode cL_isSlot 618 = .ok (.iadd, 1) := by decide +kernel
theorem dL_isSlot_619 : decode cL_isSlot 619 = .ok (.iaload, 1) := by decide +kernel
theorem dL_isSlot_620 : decode cL_isSlot 620 = .ok (.aload_n 0, 1) := by decide +kernel
theorem dL_isSlot_621 : decode cL_isSlot 621 = .ok (.iload 8, 2) := by decide +kernel
theorem dL_isSlot_623 : decode cL_isSlot 623 = .ok (.invokevirtual 39, 3) := by decide +kernel
theorem dL_isSlot_626 : decode cL_isSlot 626 = .ok (.isub, 1) := by decide +kernel
theorem dL_isSlot_627 : decode cL_isSlot 627 = .ok (.istore 12, 2) := by decide +kernel
theorem dL_isSlot_629 : decode cL_isSlot 629 = .ok (.iload 7, 2) := by decide +kernel
theorem dL_isSlot_631 : decode cL_isSlot 631 = .ok (.ifCond .eq 62, 3) := by decide +kernel
theorem dL_isSlot_634 : decode cL_isSlot 634 = .ok (.iload 12, 2) := by decide +kernel
theorem dL_isSlot_636 : decode cL_isSlot 636 = .ok (.ifCond .eq 53, 3) := by decide +kernel
theorem dL_isSlot_639 : decode cL_isSlot 639 = .ok (.iload 12, 2) := by decide +kernel
theorem dL_isSlot_641 : decode cL_isSlot 641 = .ok (.iconst 1, 1) := by decide +kernel
theorem dL_isSlot_642 : decode cL_isSlot 642 = .ok (.if_icmp .ne 51, 3) := by decide +kernel
theorem dL_isSlot_645 : decode cL_isSlot 645 = .ok (.aload_n 0, 1) := by decide +kernel
theorem dL_isSlot_646 : decode cL_isSlot 646 = .ok (.iload 8, 2) := by decide +kernel
theorem dL_isSlot_648 : decode cL_isSlot 648 = .ok (.invokevirtual 54, 3) := by decide +kernel
theorem dL_isSlot_651 : decode cL_isSlot 651 = .ok (.aload_n 2, 1) := by decide +kernel
theorem dL_isSlot_652 : decode cL_isSlot 652 = .ok (.bipush 8, 2) := by decide +kernel
theorem dL_isSlot_654 : decode cL_isSlot 654 = .ok (.iload 8, 2) := by decide +kernel
theorem dL_isSlot_656 : decode cL_isSlot 656 = .ok (.imul, 1) := by decide +kernel
theorem dL_isSlot_657 : decode cL_isSlot 657 = .ok (.bipush 7, 2) := by decide +kernel
theorem dL_isSlot_659 : decode cL_isSlot 659 = .ok (.iadd, 1) := by decide +kernel
theorem dL_isSlot_660 : decode cL_isSlot 660 = .ok (.iaload, 1) := by decide +kernel
theorem dL_isSlot_661 : decode cL_isSlot 661 = .ok (.iconst 1, 1) := by decide +kernel
theorem dL_isSlot_662 : decode cL_isSlot 662 = .ok (.iadd, 1) := by decide +kernel
theorem dL_isSlot_663 : decode cL_isSlot 663 = .ok (.if_icmp .ne 8, 3) := by decide +kernel
theorem dL_isSlot_666 : decode cL_isSlot 666 = .ok (.iload 11, 2) := by decide +kernel
theorem dL_isSlot_668 : decode cL_isSlot 668 = .ok (.ifCond .eq 21, 3) := by decide +kernel
theorem dL_isSlot_671 : decode cL_isSlot 671 = .ok (.iload 11, 2) := by decide +kernel
theorem dL_isSlot_673 : decode cL_isSlot 673 = .ok (.aload_n 2, 1) := by decide +kernel
theorem dL_isSlot_674 : decode cL_isSlot 674 = .ok (.bipush 8, 2) := by decide +kernel
theorem dL_isSlot_676 : decode cL_isSlot 676 = .ok (.iload 8, 2) := by decide +kernel
theorem dL_isSlot_678 : decode cL_isSlot 678 = .ok (.imul, 1) := by decide +kernel
theorem dL_isSlot_679 : decode cL_isSlot 679 = .ok (.bipush 6, 2) := by decide +kernel
theorem dL_isSlot_681 : decode cL_isSlot 681 = .ok (.iadd, 1) := by decide +kernel
theorem dL_isSlot_682 : decode cL_isSlot 682 = .ok (.iaload, 1) := by decide +kernel
theorem dL_isSlot_683 : decode cL_isSlot 683 = .ok (.invokestatic 60, 3) := by decide +kernel
theorem dL_isSlot_686 : decode cL_isSlot 686 = .ok (.if_icmp .ne 7, 3) := by decide +kernel
theorem dL_isSlot_689 : decode cL_isSlot 689 = .ok (.iconst 1, 1) := by decide +kernel
theorem dL_isSlot_690 : decode cL_isSlot 690 = .ok (.goto 4, 3) := by decide +kernel
theorem dL_isSlot_693 : decode cL_isSlot 693 = .ok (.iconst 0, 1) := by decide +kernel
theorem dL_isSlot_694 : decode cL_isSlot 694 = .ok (.istore 7, 2) := by decide +kernel
theorem dL_isSlot_696 : decode cL_isSlot 696 = .ok (.aload_n 2, 1) := by decide +kernel
theorem dL_isSlot_697 : decode cL_isSlot 697 = .ok (.bipush 8, 2) := by decide +kernel
theorem dL_isSlot_699 : decode cL_isSlot 699 = .ok (.iload 8, 2) := by decide +kernel
theorem dL_isSlot_701 : decode cL_isSlot 701 = .ok (.imul, 1) := by decide +kernel
theorem dL_isSlot_702 : decode cL_isSlot 702 = .ok (.iload 9, 2) := by decide +kernel
theorem dL_isSlot_704 : decode cL_isSlot 704 = .ok (.ifCond .eq 7, 3) := by decide +kernel
theorem dL_isSlot_707 : decode cL_isSlot 707 = .ok (.iconst 1, 1) := by decide +kernel
theorem dL_isSlot_708 : decode cL_isSlot 708 = .ok (.goto 4, 3) := by decide +kernel
theorem dL_isSlot_711 : decode cL_isSlot 711 = .ok (.iconst 0, 1) := by decide +kernel
theorem dL_isSlot_712 : decode cL_isSlot 712 = .ok (.iastore, 1) := by decide +kernel
theorem dL_isSlot_713 : decode cL_isSlot 713 = .ok (.iinc 8 1, 3) := by decide +kernel
theorem dL_isSlot_716 : decode cL_isSlot 716 = .ok (.goto (-535), 3) := by decide +kernel
theorem dL_isSlot_719 : decode cL_isSlot 719 = .ok (.iconst 0, 1) := by decide +kernel
theorem dL_isSlot_720 : decode cL_isSlot 720 = .ok (.istore 8, 2) := by decide +kernel
theorem dL_isSlot_722 : decode cL_isSlot 722 = .ok (.iload 8, 2) := by decide +kernel
theorem dL_isSlot_724 : decode cL_isSlot 724 = .ok (.bipush 6, 2) := by decide +kernel
theorem dL_isSlot_726 : decode cL_isSlot 726 = .ok (.if_icmp .ge 20, 3) := by decide +kernel
theorem dL_isSlot_729 : decode cL_isSlot 729 = .ok (.aload_n 3, 1) := by decide +kernel
theorem dL_isSlot_730 : decode cL_isSlot 730 = .ok (.iload 8, 2) := by decide +kernel
theorem dL_isSlot_732 : decode cL_isSlot 732 = .ok (.aload_n 2, 1) := by decide +kernel
theorem dL_isSlot_733 : decode cL_isSlot 733 = .ok (.bipush 8, 2) := by decide +kernel
theorem dL_isSlot_735 : decode cL_isSlot 735 = .ok (.iload 8, 2) := by decide +kernel
theorem dL_isSlot_737 : decode cL_isSlot 737 = .ok (.imul, 1) := by decide +kernel
theorem dL_isSlot_738 : decode cL_isSlot 738 = .ok (.iaload, 1) := by decide +kernel
theorem dL_isSlot_739 : decode cL_isSlot 739 = .ok (.iastore, 1) := by decide +kernel
theorem dL_isSlot_740 : decode cL_isSlot 740 = .ok (.iinc 8 1, 3) := by decide +kernel
theorem dL_isSlot_743 : decode cL_isSlot 743 = .ok (.goto (-21), 3) := by decide +kernel
theorem dL_isSlot_746 : decode cL_isSlot 746 = .ok (.iload 7, 2) := by decide +kernel
theorem dL_isSlot_748 : decode cL_isSlot 748 = .ok (.ifCond .eq 14, 3) := by decide +kernel
theorem dL_isSlot_751 : decode cL_isSlot 751 = .ok (.iload 6, 2) := by decide +kernel
theorem dL_isSlot_753 : decode cL_isSlot 753 = .ok (.iload 4, 2) := by decide +kernel
theorem dL_isSlot_755 : decode cL_isSlot 755 = .ok (.if_icmp .ne 7, 3) := by decide +kernel
theorem dL_isSlot_758 : decode cL_isSlot 758 = .ok (.iconst 1, 1) := by decide +kernel
theorem dL_isSlot_759 : decode cL_isSlot 759 = .ok (.goto 4, 3) := by decide +kernel
theorem dL_isSlot_762 : decode cL_isSlot 762 = .ok (.iconst 0, 1) := by decide +kernel
theorem dL_isSlot_763 : decode cL_isSlot 763 = .ok (.ireturn, 1) := by decide +kernel
set_option maxRecDepth 20000 in
theorem ggL_law_X5_init : GoodIn wsL_law wsX5_init := goodIn_r _ [9, 10, 11, 12, 13, 14, 15, 16, 17, 18, 19, 20, 21, 22, 23, 24, 25, 26, 27, 28, 29, 3, 30, 31, 32, 33, 34, 35, 36, 37, 38, 39, 40, 41, 42, 43, 44, 45, 46, 47, 48, 49, 50, 51, 52, 53, 54, 55, 56, 57, 58, 59, 60, 61, 62, 63, 64, 65, 66, 67, 68, 69, 70, 71, 72, 73, 319, 320, 321, 322, 323, 324, 325, 326, 327, 328, 329, 330, 331, 332, 333, 334, 335, 336, 337, 338, 339, 340, 341, 342, 343, 344, 345, 346, 347, 348, 349] (by decide +kernel) (by decide +kernel)
set_option maxRecDepth 20000 in
theorem gL_law_X5_init : GoodIn wsL_law (wsX5_init) := ggL_law_X5_init
set_option maxRecDepth 20000 in
theorem ggL_law_L_isStation : GoodIn wsL_law wsL_isStation := goodIn_ca (goodIn_r _ [77, 78, 79, 80, 2, 81, 82, 83, 84, 85, 86, 87, 14, 88, 89, 90, 91, 92, 93, 94, 95, 96, 97, 98, 99, 100, 101, 102, 103, 24, 104, 105, 106, 107, 108, 109, 110, 111, 112, 113, 114, 115, 116, 117, 118, 42, 119, 63, 62, 120, 121, 122, 123, 124, 125, 126, 127, 128, 129, 130, 46, 131, 68, 132, 133, 134, 135, 328, 329, 330, 331, 332, 333, 334, 335, 336, 337, 338, 339, 319, 320, 321, 322, 323, 343, 344, 345, 346, 347, 348, 349, 340, 341, 342] (by decide +kernel) (by decide +kernel)) (goodIn_sub (fun _ h => List.mem_append_left _ (List.mem_append_left _ (List.mem_append_right _ h))) (by decide +kernel))
set_option maxRecDepth 20000 in
theorem gL_law_L_isStation : GoodIn wsL_law (va_wsS RL 66 yL_isStation wsL_isStation) := goodIn_app (goodIn_of _ (by decide +kernel)) ggL_law_L_isStation
set_option maxRecDepth 20000 in
theorem ggL_law_X5_setStrength : GoodIn wsL_law wsX5_setStrength := goodIn_ca (goodIn_ca (goodIn_r _ [139, 140, 141, 18, 82, 83, 84, 2, 85, 86, 87, 14, 142, 143, 144, 17, 145, 30, 146, 147, 148, 149, 150, 151, 152, 153, 154, 319, 320, 321, 322, 323, 324] (by decide +kernel) (by decide +kernel)) (goodIn_sub (fun _ h => List.mem_append_left _ (List.mem_append_right _ h)) (by decide +kernel))) (goodIn_sub (fun _ h => List.mem_append_left _ (List.mem_append_left _ (List.mem_append_right _ h))) (by decide +kernel))
set_option maxRecDepth 20000 in
theorem gL_law_X5_setStrength : GoodIn wsL_law (wsV RL 73 RX5 yX5_setStrength wsX5_setStrength) := goodIn_app (goodIn_of _ (by decide +kernel)) ggL_law_X5_setStrength
set_option maxRecDepth 20000 in
theorem ggL_law_X5_setReserve : GoodIn wsL_law wsX5_setReserve := goodIn_ca (goodIn_r _ [158, 140, 141, 23, 319, 320, 321, 322, 323] (by decide +kernel) (by decide +kernel)) (goodIn_sub (fun _ h => List.mem_append_left _ (List.mem_append_right _ h)) (by decide +kernel))
set_option maxRecDepth 20000 in
theorem gL_law_X5_setReserve : GoodIn wsL_law (wsV RL 76 RX5 yX5_setReserve wsX5_setReserve) := goodIn_app (goodIn_of _ (by decide +kernel)) ggL_law_X5_setReserve
set_option maxRecDepth 20000 in
theorem ggL_law_X5_setClass : GoodIn wsL_law wsX5_setClass := goodIn_ca (goodIn_ca (goodIn_r _ [162, 140, 141, 82, 83, 84, 2, 85, 86, 87, 14, 163, 164, 165, 328, 329, 330, 331, 332, 333, 334, 335, 336, 337, 338, 339, 319, 320, 321, 322, 323] (by decide +kernel) (by decide +kernel)) (goodIn_sub (fun _ h => List.mem_append_left _ (List.mem_append_right _ h)) (by decide +kernel))) (goodIn_sub (fun _ h => List.mem_append_left _ (List.mem_append_left _ (List.mem_append_right _ h))) (by decide +kernel))
set_option maxRecDepth 20000 in
theorem gL_law_X5_setClass : GoodIn wsL_law (wsV RL 79 RX5 yX5_setClass wsX5_setClass) := goodIn_app (goodIn_of _ (by decide +kernel)) ggL_law_X5_setClass
set_option maxRecDepth 20000 in
theorem ggL_law_X5_window : GoodIn wsL_law wsX5_window := goodIn_ca (goodIn_r _ [81, 82, 83, 84, 2, 85, 86, 87, 14, 328, 329, 330, 331, 332, 333, 334, 335, 336, 337, 338, 339, 319, 320, 321, 322, 323] (by decide +kernel) (by decide +kernel)) (goodIn_sub (fun _ h => List.mem_append_left _ (List.mem_append_left _ (List.mem_append_right _ h))) (by decide +kernel))
set_option maxRecDepth 20000 in
theorem gL_law_X5_window : GoodIn wsL_law (wsV RL 19 RX5 yX5_window wsX5_window) := goodIn_app (goodIn_of _ (by decide +kernel)) ggL_law_X5_window
set_option maxRecDepth 20000 in
theorem ggL_law_X5_numbers : GoodIn wsL_law wsX5_numbers := goodIn_r _ [169, 22, 319, 320, 321, 322, 323, 325, 326, 327] (by decide +kernel) (by decide +kernel)
set_option maxRecDepth 20000 in
theorem gL_law_X5_numbers : GoodIn wsL_law (wsV RL 83 RX5 yX5_numbers wsX5_numbers) := goodIn_app (goodIn_of _ (by decide +kernel)) ggL_law_X5_numbers
set_option maxRecDepth 20000 in
theorem ggL_law_L_tells : GoodIn wsL_law wsL_tells := goodIn_ca (goodIn_ca (goodIn_r _ [172, 173, 174, 175, 176, 2, 177, 140, 141, 178, 179, 22, 180, 181, 182, 21, 183, 35, 36, 34, 319, 320, 321, 322, 323, 325, 326, 327] (by decide +kernel) (by decide +kernel)) (goodIn_sub (fun _ h => List.mem_append_left _ (List.mem_append_right _ h)) (by decide +kernel))) (goodIn_sub (fun _ h => List.mem_append_right _ h) (by decide +kernel))
set_option maxRecDepth 20000 in
theorem gL_law_L_tells : GoodIn wsL_law (va_wsS RL 86 yL_tells wsL_tells) := goodIn_app (goodIn_of _ (by decide +kernel)) ggL_law_L_tells
set_option maxRecDepth 20000 in
theorem ggL_law_X5_frames : GoodIn wsL_law wsX5_frames := goodIn_ca (goodIn_r _ [111, 82, 83, 84, 2, 85, 86, 87, 14, 328, 329, 330, 331, 332, 333, 334, 335, 336, 337, 338, 339, 340, 341, 342, 319, 320, 321, 322, 323] (by decide +kernel) (by decide +kernel)) (goodIn_sub (fun _ h => List.mem_append_left _ (List.mem_append_left _ (List.mem_append_right _ h))) (by decide +kernel))
set_option maxRecDepth 20000 in
theorem gL_law_X5_frames : GoodIn wsL_law (wsV RL 39 RX5 yX5_frames wsX5_frames) := goodIn_app (goodIn_of _ (by decide +kernel)) ggL_law_X5_frames
set_option maxRecDepth 20000 in
theorem ggL_law_L_frames : GoodIn wsL_law wsL_frames := goodIn_ca (goodIn_ca (goodIn_ca (goodIn_r _ [186, 173, 187, 188, 189, 2, 190, 140, 141, 178, 179, 82, 83, 84, 85, 86, 87, 14, 191, 192, 193, 42, 194, 63, 61, 62, 328, 329, 330, 331, 332, 333, 334, 335, 336, 337, 338, 339, 340, 341, 342, 319, 320, 321, 322, 323] (by decide +kernel) (by decide +kernel)) (goodIn_sub (fun _ h => List.mem_append_left _ (List.mem_append_right _ h)) (by decide +kernel))) (goodIn_sub (fun _ h => List.mem_append_right _ h) (by decide +kernel))) (goodIn_sub (fun _ h => List.mem_append_left _ (List.mem_append_left _ (List.mem_append_right _ h))) (by decide +kernel))
set_option maxRecDepth 20000 in
theorem gL_law_L_frames : GoodIn wsL_law (va_wsS RL 90 yL_frames wsL_frames) := goodIn_app (goodIn_of _ (by decide +kernel)) ggL_law_L_frames
set_option maxRecDepth 20000 in
theorem ggL_law_X5_partsLeft : GoodIn wsL_law wsX5_partsLeft := goodIn_ca (goodIn_r _ [115, 82, 83, 84, 2, 85, 86, 87, 14, 116, 117, 118, 42, 119, 63, 62, 328, 329, 330, 331, 332, 333, 334, 335, 336, 337, 338, 339, 319, 320, 321, 322, 323, 340, 341, 342] (by decide +kernel) (by decide +kernel)) (goodIn_sub (fun _ h => List.mem_append_left _ (List.mem_append_left _ (List.mem_append_right _ h))) (by decide +kernel))
set_option maxRecDepth 20000 in
theorem gL_law_X5_partsLeft : GoodIn wsL_law (wsV RL 42 RX5 yX5_partsLeft wsX5_partsLeft) := goodIn_app (goodIn_of _ (by decide +kernel)) ggL_law_X5_partsLeft
theorem dL_law_0 : decode cL_law 0 = .ok (.new 8, 3) := by decide +kernel
theorem dL_law_3 : decode cL_law 3 = .ok (.dup, 1) := by decide +kernel
theorem dL_law_4 : decode cL_law 4 = .ok (.invokespecial 65, 3) := by decide +kernel
theorem dL_law_7 : decode cL_law 7 = .ok (.astore_n 1, 1) := by decide +kernel
theorem dL_law_8 : decode cL_law 8 = .ok (.bipush 36, 2) := by decide +kernel
theorem dL_law_10 : decode cL_law 10 = .ok (.newarray .int, 2) := by decide +kernel
theorem dL_law_12 : decode cL_law 12 = .ok (.astore_n 2, 1) := by decide +kernel
theorem dL_law_13 : decode cL_law 13 = .ok (.bipush 48, 2) := by decide +kernel
theorem dL_law_15 : decode cL_law 15 = .ok (.newarray .int, 2) := by decide +kernel
theorem dL_law_17 : decode cL_law 17 = .ok (.astore_n 3, 1) := by decide +kernel
theorem dL_law_18 : decode cL_law 18 = .ok (.bipush 6, 2) := by decide +kernel
theorem dL_law_20 : decode cL_law 20 = .ok (.newarray .int, 2) := by decide +kernel
theorem dL_law_22 : decode cL_law 22 = .ok (.astore 4, 2) := by decide +kernel
theorem dL_law_24 : decode cL_law 24 = .ok (.bipush 6, 2) := by decide +kernel
theorem dL_law_26 : decode cL_law 26 = .ok (.newarray .int, 2) := by decide +kernel
theorem dL_law_28 : decode cL_law 28 = .ok (.astore 5, 2) := by decide +kernel
theorem dL_law_30 : decode cL_law 30 = .ok (.aload_n 1, 1) := by decide +kernel
theorem dL_law_31 : decode cL_law 31 = .ok (.iconst 0, 1) := by decide +kernel
theorem dL_law_32 : decode cL_law 32 = .ok (.iconst 0, 1) := by decide +kernel
theorem dL_law_33 : decode cL_law 33 = .ok (.invokestatic 66, 3) := by decide +kernel
theorem dL_law_36 : decode cL_law 36 = .ok (.istore 6, 2) := by decide +kernel
theorem dL_law_38 : decode cL_law 38 = .ok (.iconst 0, 1) := by decide +kernel
theorem dL_law_39 : decode cL_law 39 = .ok (.istore 7, 2) := by decide +kernel
theorem dL_law_41 : decode cL_law 41 = .ok (.aload_n 0, 1) := by decide +kernel
theorem dL_law_42 : decode cL_law 42 = .ok (.arraylength, 1) := by decide +kernel
theorem dL_law_43 : decode cL_law 43 = .ok (.bipush 40, 2) := by decide +kernel
theorem dL_law_45 : decode cL_law 45 = .ok (.if_icmp .ge 9, 3) := by decide +kernel
theorem dL_law_48 : decode cL_law 48 = .ok (.sipush 220, 3) := by decide +kernel
theorem dL_law_51 : decode cL_law 51 = .ok (.goto 20, 3) := by decide +kernel
theorem dL_law_54 : decode cL_law 54 = .ok (.aload_n 0, 1) := by decide +kernel
theorem dL_law_55 : decode cL_law 55 = .ok (.arraylength, 1) := by decide +kernel
theorem dL_law_56 : decode cL_law 56 = .ok (.bipush 80, 2) := by decide +kernel
theorem dL_law_58 : decode cL_law 58 = .ok (.if_icmp .ge 10, 3) := by decide +kernel
theorem dL_law_61 : decode cL_law 61 = .ok (.iconst 5, 1) := by decide +kernel
theorem dL_law_62 : decode cL_law 62 = .ok (.aload_n 0, 1) := by decide +kernel
theorem dL_law_63 : decode cL_law 63 = .ok (.arraylength, 1) := by decide +kernel
theorem dL_law_64 : decode cL_law 64 = .ok (.imul, 1) := by decide +kernel
theorem dL_law_65 : decode cL_law 65 = .ok (.goto 6, 3) := by decide +kernel
theorem dL_law_68 : decode cL_law 68 = .ok (.sipush 420, 3) := by decide +kernel
theorem dL_law_71 : decode cL_law 71 = .ok (.istore 8, 2) := by decide +kernel
theorem dL_law_73 : decode cL_law 73 = .ok (.iconst 0, 1) := by decide +kernel
theorem dL_law_74 : decode cL_law 74 = .ok (.istore 9, 2) := by decide +kernel
theorem dL_law_76 : decode cL_law 76 = .ok (.iload 9, 2) := by decide +kernel
theorem dL_law_78 : decode cL_law 78 = .ok (.iload 8, 2) := by decide +kernel
theorem dL_law_80 : decode cL_law 80 = .ok (.if_icmp .ge 568, 3) := by decide +kernel
theorem dL_law_83 : decode cL_law 83 = .ok (.iload 6, 2) := by decide +kernel
theorem dL_law_85 : decode cL_law 85 = .ok (.ifCond .eq 563, 3) := by decide +kernel
theorem dL_law_88 : decode cL_law 88 = .ok (.iload 9, 2) := by decide +kernel
theorem dL_law_90 : decode cL_law 90 = .ok (.aload_n 0, 1) := by decide +kernel
theorem dL_law_91 : decode cL_law 91 = .ok (.arraylength, 1) := by decide +kernel
theorem dL_law_92 : decode cL_law 92 = .ok (.if_icmp .ge 10, 3) := by decide +kernel
theorem dL_law_95 : decode cL_law 95 = .ok (.aload_n 0, 1) := by decide +kernel
theorem dL_law_96 : decode cL_law 96 = .ok (.iload 9, 2) := by decide +kernel
theorem dL_law_98 : decode cL_law 98 = .ok (.iaload, 1) := by decide +kernel
theorem dL_law_99 : decode cL_law 99 = .ok (.goto 20, 3) := by decide +kernel
theorem dL_law_102 : decode cL_law 102 = .ok (.ldc 70, 2) := by decide +kernel
theorem dL_law_104 : decode cL_law 104 = .ok (.iload 9, 2) := by decide +kernel
theorem dL_law_106 : decode cL_law 106 = .ok (.imul, 1) := by decide +kernel
theorem dL_law_107 : decode cL_law 107 = .ok (.iload 9, 2) := by decide +kernel
theorem dL_law_109 : decode cL_law 109 = .ok (.imul, 1) := by decide +kernel
theorem dL_law_110 : decode cL_law 110 = .ok (.ldc 71, 2) := by decide +kernel
theorem dL_law_112 : decode cL_law 112 = .ok (.iload 9, 2) := by decide +kernel
theorem dL_law_114 : decode cL_law 114 = .ok (.imul, 1) := by decide +kernel
theorem dL_law_115 : decode cL_law 115 = .ok (.iadd, 1) := by decide +kernel
theorem dL_law_116 : decode cL_law 116 = .ok (.bipush 102, 2) := by decide +kernel
theorem dL_law_118 : decode cL_law 118 = .ok (.iadd, 1) := by decide +kernel
theorem dL_law_119 : decode cL_law 119 = .ok (.istore 10, 2) := by decide +kernel
theorem dL_law_121 : decode cL_law 121 = .ok (.iload 10, 2) := by decide +kernel
theorem dL_law_123 : decode cL_law 123 = .ok (.iconst 4, 1) := by decide +kernel
theorem dL_law_124 : decode cL_law 124 = .ok (.ishr, 1) := by decide +kernel
theorem dL_law_125 : decode cL_law 125 = .ok (.ldc 72, 2) := by decide +kernel
theorem dL_law_127 : decode cL_law 127 = .ok (.iand, 1) := by decide +kernel
theorem dL_law_128 : decode cL_law 128 = .ok (.istore 11, 2) := by decide +kernel
theorem dL_law_130 : decode cL_law 130 = .ok (.iload 9, 2) := by decide +kernel
theorem dL_law_132 : decode cL_law 132 = .ok (.iconst 5, 1) := by decide +kernel
theorem dL_law_133 : decode cL_law 133 = .ok (.if_icmp .ge 7, 3) := by decide +kernel
theorem dL_law_136 : decode cL_law 136 = .ok (.iconst 0, 1) := by decide +kernel
theorem dL_law_137 : decode cL_law 137 = .ok (.goto 8, 3) := by decide +kernel
theorem dL_law_140 : decode cL_law 140 = .ok (.iload 10, 2) := by decide +kernel
theorem dL_law_142 : decode cL_law 142 = .ok (.bipush 15, 2) := by decide +kernel
theorem dL_law_144 : decode cL_law 144 = .ok (.iand, 1) := by decide +kernel
theorem dL_law_145 : decode cL_law 145 = .ok (.istore 12, 2) := by decide +kernel
theorem dL_law_147 : decode cL_law 147 = .ok (.iload 11, 2) := by decide +kernel
theorem dL_law_149 : decode cL_law 149 = .ok (.bipush 6, 2) := by decide +kernel
theorem dL_law_151 : decode cL_law 151 = .ok (.irem, 1) := by decide +kernel
theorem dL_law_152 : decode cL_law 152 = .ok (.istore 13, 2) := by decide +kernel
theorem dL_law_154 : decode cL_law 154 = .ok (.iload 13, 2) := by decide +kernel
theorem dL_law_156 : decode cL_law 156 = .ok (.iconst 1, 1) := by decide +kernel
theorem dL_law_157 : decode cL_law 157 = .ok (.iadd, 1) := by decide +kernel
theorem dL_law_158 : decode cL_law 158 = .ok (.iload 11, 2) := by decide +kernel
theorem dL_law_160 : decode cL_law 160 = .ok (.iconst 3, 1) := by decide +kernel
theorem dL_law_161 : decode cL_law 161 = .ok (.ishr, 1) := by decide +kernel
theorem dL_law_162 : decode cL_law 162 = .ok (.iconst 5, 1) := by decide +kernel
theorem dL_law_163 : decode cL_law 163 = .ok (.irem, 1) := by decide +kernel
theorem dL_law_164 : decode cL_law 164 = .ok (.iadd, 1) := by decide +kernel
theorem dL_law_165 : decode cL_law 165 = .ok (.bipush 6, 2) := by decide +kernel
theorem dL_law_167 : decode cL_law 167 = .ok (.irem, 1) := by decide +kernel
theorem dL_law_168 : decode cL_law 168 = .ok (.istore 14, 2) := by decide +kernel
theorem dL_law_170 : decode cL_law 170 = .ok (.iload 12, 2) := by decide +kernel
theorem dL_law_172 : decode cL_law 172 = .ok (.ifCond .eq 16, 3) := by decide +kernel
theorem dL_law_175 : decode cL_law 175 = .ok (.iload 12, 2) := by decide +kernel
theorem dL_law_177 : decode cL_law 177 = .ok (.iconst 1, 1) := by decide +kernel
theorem dL_law_178 : decode cL_law 178 = .ok (.if_icmp .ne 111, 3) := by decide +kernel
theorem dL_law_181 : decode cL_law 181 = .ok (.iload 11, 2) := by decide +kernel
theorem dL_law_183 : decode cL_law 183 = .ok (.iconst 1, 1) := by decide +kernel
theorem dL_law_184 : decode cL_law 184 = .ok (.iand, 1) := by decide +kernel
theorem dL_law_185 : decode cL_law 185 = .ok (.ifCond .ne 104, 3) := by decide +kernel
theorem dL_law_188 : decode cL_law 188 = .ok (.iload 9, 2) := by decide +kernel
theorem dL_law_190 : decode cL_law 190 = .ok (.iconst 5, 1) := by decide +kernel
theorem dL_law_191 : decode cL_law 191 = .ok (.if_icmp .ge 16, 3) := by decide +kernel
theorem dL_law_194 : decode cL_law 194 = .ok (.iconst 4, 1) := by decide +kernel
theorem dL_law_195 : decode cL_law 195 = .ok (.iload 11, 2) := by decide +kernel
theorem dL_law_197 : decode cL_law 197 = .ok (.bipush 6, 2) := by decide +kernel
theorem dL_law_199 : decode cL_law 199 = .ok (.ishr, 1) := by decide +kernel
theorem dL_law_200 : decode cL_law 200 = .ok (.bipush 6, 2) := by decide +kernel
theorem dL_law_202 : decode cL_law 202 = .ok (.irem, 1) := by decide +kernel
theorem dL_law_203 : decode cL_law 203 = .ok (.iadd, 1) := by decide +kernel
theorem dL_law_204 : decode cL_law 204 = .ok (.goto 11, 3) := by decide +kernel
theorem dL_law_207 : decode cL_law 207 = .ok (.iload 11, 2) := by decide +kernel
theorem dL_law_209 : decode cL_law 209 = .ok (.bipush 6, 2) := by decide +kernel
theorem dL_law_211 : decode cL_law 211 = .ok (.ishr, 1) := by decide +kernel
theorem dL_law_212 : decode cL_law 212 = .ok (.bipush 10, 2) := by decide +kernel
theorem dL_law_214 : decode cL_law 214 = .ok (.irem, 1) := by decide +kernel
theorem dL_law_215 : decode cL_law 215 = .ok (.istore 15, 2) := by decide +kernel
theorem dL_law_217 : decode cL_law 217 = .ok (.aload_n 1, 1) := by decide +kernel
theorem dL_law_218 : decode cL_law 218 = .ok (.iload 13, 2) := by decide +kernel
theorem dL_law_220 : decode cL_law 220 = .ok (.iload 14, 2) := by decide +kernel
theorem dL_law_222 : decode cL_law 222 = .ok (.iload 15, 2) := by decide +kernel
theorem dL_law_224 : decode cL_law 224 = .ok (.invokevirtual 73, 3) := by decide +kernel
theorem dL_law_227 : decode cL_law 227 = .ok (.aload_n 2, 1) := by decide +kernel
theorem dL_law_228 : decode cL_law 228 = .ok (.bipush 6, 2) := by decide +kernel
theorem dL_law_230 : decode cL_law 230 = .ok (.iload 13, 2) := by decide +kernel
theorem dL_law_232 : decode cL_law 232 = .ok (.imul, 1) := by decide +kernel
theorem dL_law_233 : decode cL_law 233 = .ok (.iload 14, 2) := by decide +kernel
theorem dL_law_235 : decode cL_law 235 = .ok (.iadd, 1) := by decide +kernel
theorem dL_law_236 : decode cL_law 236 = .ok (.iaload, 1) := by decide +kernel
theorem dL_law_237 : decode cL_law 237 = .ok (.if_icmp .ne 22, 3) := by decide +kernel
theorem dL_law_240 : decode cL_law 240 = .ok (.aload_n 1, 1) := by decide +kernel
theorem dL_law_241 : decode cL_law 241 = .ok (.iload 14, 2) := by decide +kernel
theorem dL_law_243 : decode cL_law 243 = .ok (.iload 13, 2) := by decide +kernel
theorem dL_law_245 : decode cL_law 245 = .ok (.iload 15, 2) := by decide +kernel
theorem dL_law_247 : decode cL_law 247 = .ok (.invokevirtual 73, 3) := by decide +kernel
theorem dL_law_250 : decode cL_law 250 = .ok (.iload 15, 2) := by decide +kernel
theorem dL_law_252 : decode cL_law 252 = .ok (.if_icmp .ne 7, 3) := by decide +kernel
theorem dL_law_255 : decode cL_law 255 = .ok (.iconst 1, 1) := by decide +kernel
theorem dL_law_256 : decode cL_law 256 = .ok (.goto 4, 3) := by decide +kernel
theorem dL_law_259 : decode cL_law 259 = .ok (.iconst 0, 1) := by decide +kernel
theorem dL_law_260 : decode cL_law 260 = .ok (.istore 6, 2) := by decide +kernel
theorem dL_law_262 : decode cL_law 262 = .ok (.aload_n 2, 1) := by decide +kernel
theorem dL_law_263 : decode cL_law 263 = .ok (.bipush 6, 2) := by decide +kernel
theorem dL_law_265 : decode cL_law 265 = .ok (.iload 13, 2) := by decide +kernel
theorem dL_law_267 : decode cL_law 267 = .ok (.imul, 1) := by decide +kernel
theorem dL_law_268 : decode cL_law 268 = .ok (.iload 14, 2) := by decide +kernel
theorem dL_law_270 : decode cL_law 270 = .ok (.iadd, 1) := by decide +kernel
theorem dL_law_271 : decode cL_law 271 = .ok (.iload 15, 2) := by decide +kernel
theorem dL_law_273 : decode cL_law 273 = .ok (.iastore, 1) := by decide +kernel
theorem dL_law_274 : decode cL_law 274 = .ok (.aload_n 2, 1) := by decide +kernel
theorem dL_law_275 : decode cL_law 275 = .ok (.bipush 6, 2) := by decide +kernel
theorem dL_law_277 : decode cL_law 277 = .ok (.iload 14, 2) := by decide +kernel
theorem dL_law_279 : decode cL_law 279 = .ok (.imul, 1) := by decide +kernel
theorem dL_law_280 : decode cL_law 280 = .ok (.iload 13, 2) := by decide +kernel
theorem dL_law_282 : decode cL_law 282 = .ok (.iadd, 1) := by decide +kernel
theorem dL_law_283 : decode cL_law 283 = .ok (.iload 15, 2) := by decide +kernel
theorem dL_law_285 : decode cL_law 285 = .ok (.iastore, 1) := by decide +kernel
theorem dL_law_286 : decode cL_law 286 = .ok (.goto 322, 3) := by decide +kernel
theorem dL_law_289 : decode cL_law 289 = .ok (.iload 12, 2) := by decide +kernel
theorem dL_law_291 : decode cL_law 291 = .ok (.iconst 1, 1) := by decide +kernel
theorem dL_law_292 : decode cL_law 292 = .ok (.if_icmp .ne 51, 3) := by decide +kernel
theorem dL_law_295 : decode cL_law 295 = .ok (.aload_n 1, 1) := by decide +kernel
theorem dL_law_296 : decode cL_law 296 = .ok (.iconst 1, 1) := by decide +kernel
theorem dL_law_297 : decode cL_law 297 = .ok (.iload 11, 2) := by decide +kernel
theorem dL_law_299 : decode cL_law 299 = .ok (.iconst 3, 1) := by decide +kernel
theorem dL_law_300 : decode cL_law 300 = .ok (.ishr, 1) := by decide +kernel
theorem dL_law_301 : decode cL_law 301 = .ok (.iconst 5, 1) := by decide +kernel
theorem dL_law_302 : decode cL_law 302 = .ok (.irem, 1) := by decide +kernel
theorem dL_law_303 : decode cL_law 303 = .ok (.iadd, 1) := by decide +kernel
theorem dL_law_304 : decode cL_law 304 = .ok (.invokevirtual 76, 3) := by decide +kernel
theorem dL_law_307 : decode cL_law 307 = .ok (.ifCond .le 30, 3) := by decide +kernel
theorem dL_law_310 : decode cL_law 310 = .ok (.aload_n 1, 1) := by decide +kernel
theorem dL_law_311 : decode cL_law 311 = .ok (.iconst 1, 1) := by decide +kernel
theorem dL_law_312 : decode cL_law 312 = .ok (.iload 11, 2) := by decide +kernel
theorem dL_law_314 : decode cL_law 314 = .ok (.iconst 3, 1) := by decide +kernel
theorem dL_law_315 : decode cL_law 315 = .ok (.ishr, 1) := by decide +kernel
theorem dL_law_316 : decode cL_law 316 = .ok (.iconst 5, 1) := by decide +kernel
theorem dL_law_317 : decode cL_law 317 = .ok (.irem, 1) := by decide +kernel
theorem dL_law_318 : decode cL_law 318 = .ok (.iadd, 1) := by decide +kernel
theorem dL_law_319 : decode cL_law 319 = .ok (.invokevirtual 76, 3) := by decide +kernel
theorem dL_law_322 : decode cL_law 322 = .ok (.iconst 1, 1) := by decide +kernel
theorem dL_law_323 : decode cL_law 323 = .ok (.iload 11, 2) := by decide +kernel
theorem dL_law_325 : decode cL_law 325 = .ok (.iconst 3, 1) := by decide +kernel
theorem dL_law_326 : decode cL_law 326 = .ok (.ishr, 1) := by decide +kernel
theorem dL_law_327 : decode cL_law 327 = .ok (.iconst 5, 1) := by decide +kernel
theorem dL_law_328 : decode cL_law 328 = .ok (.irem, 1) := by decide +kernel
theorem dL_law_329 : decode cL_law 329 = .ok (.iadd, 1) := by decide +kernel
theorem dL_law_330 : decode cL_law 330 = .ok (.if_icmp .ne 7, 3) := by decide +kernel
theorem dL_law_333 : decode cL_law 333 = .ok (.iconst 1, 1) := by decide +kernel
theorem dL_law_334 : decode cL_law 334 = .ok (.goto 4, 3) := by decide +kernel
theorem dL_law_337 : decode cL_law 337 = .ok (.iconst 0, 1) := by decide +kernel
theorem dL_law_338 : decode cL_law 338 = .ok (.istore 6, 2) := by decide +kernel
theorem dL_law_340 : decode cL_law 340 = .ok (.goto 268, 3) := by decide +kernel
theorem dL_law_343 : decode cL_law 343 = .ok (.iload 12, 2) := by decide +kernel
theorem dL_law_345 : decode cL_law 345 = .ok (.iconst 2, 1) := by decide +kernel
theorem dL_law_346 : decode cL_law 346 = .ok (.if_icmp .ne 79, 3) := by decide +kernel
theorem dL_law_349 : decode cL_law 349 = .ok (.iload 11, 2) := by decide +kernel
theorem dL_law_351 : decode cL_law 351 = .ok (.iconst 3, 1) := by decide +kernel
theorem dL_law_352 : decode cL_law 352 = .ok (.iand, 1) := by decide +kernel
theorem dL_law_353 : decode cL_law 353 = .ok (.ifCond .ne 72, 3) := by decide +kernel
theorem dL_law_356 : decode cL_law 356 = .ok (.iload 11, 2) := by decide +kernel
theorem dL_law_358 : decode cL_law 358 = .ok (.iconst 3, 1) := by decide +kernel
theorem dL_law_359 : decode cL_law 359 = .ok (.ishr, 1) := by decide +kernel
theorem dL_law_360 : decode cL_law 360 = .ok (.bipush 6, 2) := by decide +kernel
theorem dL_law_362 : decode cL_law 362 = .ok (.irem, 1) := by decide +kernel
theorem dL_law_363 : decode cL_law 363 = .ok (.istore 13, 2) := by decide +kernel
theorem dL_law_365 : decode cL_law 365 = .ok (.aload_n 1, 1) := by decide +kernel
theorem dL_law_366 : decode cL_law 366 = .ok (.iload 13, 2) := by decide +kernel
theorem dL_law_368 : decode cL_law 368 = .ok (.iload 11, 2) := by decide +kernel
theorem dL_law_370 : decode cL_law 370 = .ok (.iconst 2, 1) := by decide +kernel
theorem dL_law_371 : decode cL_law 371 = .ok (.ishr, 1) := by decide +kernel
theorem dL_law_372 : decode cL_law 372 = .ok (.iconst 1, 1) := by decide +kernel
theorem dL_law_373 : decode cL_law 373 = .ok (.iand, 1) := by decide +kernel
theorem dL_law_374 : decode cL_law 374 = .ok (.invokevirtual 79, 3) := by decide +kernel
theorem dL_law_377 : decode cL_law 377 = .ok (.aload 5, 2) := by decide +kernel
theorem dL_law_379 : decode cL_law 379 = .ok (.iload 13, 2) := by decide +kernel
theorem dL_law_381 : decode cL_law 381 = .ok (.iaload, 1) := by decide +kernel
theorem dL_law_382 : decode cL_law 382 = .ok (.if_icmp .ne 26, 3) := by decide +kernel
theorem dL_law_385 : decode cL_law 385 = .ok (.aload_n 1, 1) := by decide +kernel
theorem dL_law_386 : decode cL_law 386 = .ok (.iload 13, 2) := by decide +kernel
theorem dL_law_388 : decode cL_law 388 = .ok (.invokevirtual 19, 3) := by decide +kernel
theorem dL_law_391 : decode cL_law 391 = .ok (.iconst 3, 1) := by decide +kernel
theorem dL_law_392 : decode cL_law 392 = .ok (.iconst 4, 1) := by decide +kernel
theorem dL_law_393 : decode cL_law 393 = .ok (.iload 11, 2) := by decide +kernel
theorem dL_law_395 : decode cL_law 395 = .ok (.iconst 2, 1) := by decide +kernel
theorem dL_law_396 : decode cL_law 396 = .ok (.ishr, 1) := by decide +kernel
theorem dL_law_397 : decode cL_law 397 = .ok (.iconst 1, 1) := by decide +kernel
theorem dL_law_398 : decode cL_law 398 = .ok (.iand, 1) := by decide +kernel
theorem dL_law_399 : decode cL_law 399 = .ok (.imul, 1) := by decide +kernel
theorem dL_law_400 : decode cL_law 400 = .ok (.iadd, 1) := by decide +kernel
theorem dL_law_401 : decode cL_law 401 = .ok (.if_icmp .ne 7, 3) := by decide +kernel
theorem dL_law_404 : decode cL_law 404 = .ok (.iconst 1, 1) := by decide +kernel
theorem dL_law_405 : decode cL_law 405 = .ok (.goto 4, 3) := by decide +kernel
theorem dL_law_408 : decode cL_law 408 = .ok (.iconst 0, 1) := by decide +kernel
theorem dL_law_409 : decode cL_law 409 = .ok (.istore 6, 2) := by decide +kernel
theorem dL_law_411 : decode cL_law 411 = .ok (.aload 5, 2) := by decide +kernel
theorem dL_law_413 : decode cL_law 413 = .ok (.iload 13, 2) := by decide +kernel
theorem dL_law_415 : decode cL_law 415 = .ok (.iload 11, 2) := by decide +kernel
theorem dL_law_417 : decode cL_law 417 = .ok (.iconst 2, 1) := by decide +kernel
theorem dL_law_418 : decode cL_law 418 = .ok (.ishr, 1) := by decide +kernel
theorem dL_law_419 : decode cL_law 419 = .ok (.iconst 1, 1) := by decide +kernel
theorem dL_law_420 : decode cL_law 420 = .ok (.iand, 1) := by decide +kernel
theorem dL_law_421 : decode cL_law 421 = .ok (.iastore, 1) := by decide +kernel
theorem dL_law_422 : decode cL_law 422 = .ok (.goto 186, 3) := by decide +kernel
theorem dL_law_425 : decode cL_law 425 = .ok (.iload 12, 2) := by decide +kernel
theorem dL_law_427 : decode cL_law 427 = .ok (.iconst 5, 1) := by decide +kernel
theorem dL_law_428 : decode cL_law 428 = .ok (.if_icmp .ge 55, 3) := by decide +kernel
theorem dL_law_431 : decode cL_law 431 = .ok (.aload_n 1, 1) := by decide +kernel
theorem dL_law_432 : decode cL_law 432 = .ok (.invokevirtual 83, 3) := by decide +kernel
theorem dL_law_435 : decode cL_law 435 = .ok (.istore 15, 2) := by decide +kernel
theorem dL_law_437 : decode cL_law 437 = .ok (.aload_n 1, 1) := by decide +kernel
theorem dL_law_438 : decode cL_law 438 = .ok (.iload 11, 2) := by decide +kernel
theorem dL_law_440 : decode cL_law 440 = .ok (.iconst 3, 1) := by decide +kernel
theorem dL_law_441 : decode cL_law 441 = .ok (.ishr, 1) := by decide +kernel
theorem dL_law_442 : decode cL_law 442 = .ok (.sipush 1001, 3) := by decide +kernel
theorem dL_law_445 : decode cL_law 445 = .ok (.irem, 1) := by decide +kernel
theorem dL_law_446 : decode cL_law 446 = .ok (.invokestatic 86, 3) := by decide +kernel
theorem dL_law_449 : decode cL_law 449 = .ok (.istore 7, 2) := by decide +kernel
theorem dL_law_451 : decode cL_law 451 = .ok (.iload 7, 2) := by decide +kernel
theorem dL_law_453 : decode cL_law 453 = .ok (.iload 15, 2) := by decide +kernel
theorem dL_law_455 : decode cL_law 455 = .ok (.sipush 200, 3) := by decide +kernel
theorem dL_law_458 : decode cL_law 458 = .ok (.if_icmp .ge 10, 3) := by decide +kernel
theorem dL_law_461 : decode cL_law 461 = .ok (.iload 15, 2) := by decide +kernel
theorem dL_law_463 : decode cL_law 463 = .ok (.iconst 1, 1) := by decide +kernel
theorem dL_law_464 : decode cL_law 464 = .ok (.iadd, 1) := by decide +kernel
theorem dL_law_465 : decode cL_law 465 = .ok (.goto 5, 3) := by decide +kernel
theorem dL_law_468 : decode cL_law 468 = .ok (.bipush (-3), 2) := by decide +kernel
theorem dL_law_470 : decode cL_law 470 = .ok (.if_icmp .ne 7, 3) := by decide +kernel
theorem dL_law_473 : decode cL_law 473 = .ok (.iconst 1, 1) := by decide +kernel
theorem dL_law_474 : decode cL_law 474 = .ok (.goto 4, 3) := by decide +kernel
theorem dL_law_477 : decode cL_law 477 = .ok (.iconst 0, 1) := by decide +kernel
theorem dL_law_478 : decode cL_law 478 = .ok (.istore 6, 2) := by decide +kernel
theorem dL_law_480 : decode cL_law 480 = .ok (.goto 128, 3) := by decide +kernel
theorem dL_law_483 : decode cL_law 483 = .ok (.iload 12, 2) := by decide +kernel
theorem dL_law_485 : decode cL_law 485 = .ok (.bipush 8, 2) := by decide +kernel
theorem dL_law_487 : decode cL_law 487 = .ok (.if_icmp .ge 80, 3) := by decide +kernel
theorem dL_law_490 : decode cL_law 490 = .ok (.iconst 1, 1) := by decide +kernel
theorem dL_law_491 : decode cL_law 491 = .ok (.iload 11, 2) := by decide +kernel
theorem dL_law_493 : decode cL_law 493 = .ok (.bipush 8, 2) := by decide +kernel
theorem dL_law_495 : decode cL_law 495 = .ok (.ishr, 1) := by decide +kernel
theorem dL_law_496 : decode cL_law 496 = .ok (.iconst 4, 1) := by decide +kernel
theorem dL_law_497 : decode cL_law 497 = .ok (.irem, 1) := by decide +kernel
theorem dL_law_498 : decode cL_law 498 = .ok (.iadd, 1) := by decide +kernel
theorem dL_law_499 : decode cL_law 499 = .ok (.istore 15, 2) := by decide +kernel
theorem dL_law_501 : decode cL_law 501 = .ok (.aload_n 1, 1) := by decide +kernel
theorem dL_law_502 : decode cL_law 502 = .ok (.iload 13, 2) := by decide +kernel
theorem dL_law_504 : decode cL_law 504 = .ok (.invokevirtual 39, 3) := by decide +kernel
theorem dL_law_507 : decode cL_law 507 = .ok (.istore 16, 2) := by decide +kernel
theorem dL_law_509 : decode cL_law 509 = .ok (.aload_n 1, 1) := by decide +kernel
theorem dL_law_510 : decode cL_law 510 = .ok (.iload 13, 2) := by decide +kernel
theorem dL_law_512 : decode cL_law 512 = .ok (.iload 14, 2) := by decide +kernel
theorem dL_law_514 : decode cL_law 514 = .ok (.iload 15, 2) := by decide +kernel
theorem dL_law_516 : decode cL_law 516 = .ok (.invokestatic 90, 3) := by decide +kernel
theorem dL_law_519 : decode cL_law 519 = .ok (.iload 16, 2) := by decide +kernel
theorem dL_law_521 : decode cL_law 521 = .ok (.iconst 5, 1) := by decide +kernel
theorem dL_law_522 : decode cL_law 522 = .ok (.if_icmp .ge 10, 3) := by decide +kernel
theorem dL_law_525 : decode cL_law 525 = .ok (.iload 16, 2) := by decide +kernel
theorem dL_law_527 : decode cL_law 527 = .ok (.iconst 1, 1) := by decide +kernel
theorem dL_law_528 : decode cL_law 528 = .ok (.iadd, 1) := by decide +kernel
theorem dL_law_529 : decode cL_law 529 = .ok (.goto 5, 3) := by decide +kernel
theorem dL_law_532 : decode cL_law 532 = .ok (.bipush (-3), 2) := by decide +kernel
theorem dL_law_534 : decode cL_law 534 = .ok (.if_icmp .ne 27, 3) := by decide +kernel
theorem dL_law_537 : decode cL_law 537 = .ok (.iload 16, 2) := by decide +kernel
theorem dL_law_539 : decode cL_law 539 = .ok (.ifCond .gt 18, 3) := by decide +kernel
theorem dL_law_542 : decode cL_law 542 = .ok (.aload_n 1, 1) := by decide +kernel
theorem dL_law_543 : decode cL_law 543 = .ok (.iload 13, 2) := by decide +kernel
theorem dL_law_545 : decode cL_law 545 = .ok (.invokevirtual 42, 3) := by decide +kernel
theorem dL_law_548 : decode cL_law 548 = .ok (.iconst 1, 1) := by decide +kernel
theorem dL_law_549 : decode cL_law 549 = .ok (.iload 15, 2) := by decide +kernel
theorem dL_law_551 : decode cL_law 551 = .ok (.ishl, 1) := by decide +kernel
theorem dL_law_552 : decode cL_law 552 = .ok (.iconst 1, 1) := by decide +kernel
theorem dL_law_553 : decode cL_law 553 = .ok (.isub, 1) := by decide +kernel
theorem dL_law_554 : decode cL_law 554 = .ok (.if_icmp .ne 7, 3) := by decide +kernel
theorem dL_law_557 : decode cL_law 557 = .ok (.iconst 1, 1) := by decide +kernel
theorem dL_law_558 : decode cL_law 558 = .ok (.goto 4, 3) := by decide +kernel
theorem dL_law_561 : decode cL_law 561 = .ok (.iconst 0, 1) := by decide +kernel
theorem dL_law_562 : decode cL_law 562 = .ok (.istore 6, 2) := by decide +kernel
theorem dL_law_564 : decode cL_law 564 = .ok (.goto 44, 3) := by decide +kernel
theorem dL_law_567 : decode cL_law 567 = .ok (.iconst 1, 1) := by decide +kernel
theorem dL_law_568 : decode cL_law 568 = .ok (.iload 11, 2) := by decide +kernel
theorem dL_law_570 : decode cL_law 570 = .ok (.iconst 2, 1) := by decide +kernel
theorem dL_law_571 : decode cL_law 571 = .ok (.ishr, 1) := by decide +kernel
theorem dL_law_572 : decode cL_law 572 = .ok (.iconst 4, 1) := by decide +kernel
theorem dL_law_573 : decode cL_law 573 = .ok (.irem, 1) := by decide +kernel
theorem dL_law_574 : decode cL_law 574 = .ok (.iadd, 1) := by decide +kernel
theorem dL_law_575 : decode cL_law 575 = .ok (.istore 15, 2) := by decide +kernel
theorem dL_law_577 : decode cL_law 577 = .ok (.iconst 0, 1) := by decide +kernel
theorem dL_law_578 : decode cL_law 578 = .ok (.istore 16, 2) := by decide +kernel
theorem dL_law_580 : decode cL_law 580 = .ok (.iload 16, 2) := by decide +kernel
theorem dL_law_582 : decode cL_law 582 = .ok (.iload 15, 2) := by decide +kernel
theorem dL_law_584 : decode cL_law 584 = .ok (.if_icmp .ge 24, 3) := by decide +kernel
theorem dL_law_587 : decode cL_law 587 = .ok (.iload 6, 2) := by decide +kernel
theorem dL_law_589 : decode cL_law 589 = .ok (.ifCond .eq 19, 3) := by decide +kernel
theorem dL_law_592 : decode cL_law 592 = .ok (.aload_n 1, 1) := by decide +kernel
theorem dL_law_593 : decode cL_law 593 = .ok (.aload_n 2, 1) := by decide +kernel
theorem dL_law_594 : decode cL_law 594 = .ok (.aload_n 3, 1) := by decide +kernel
theorem dL_law_595 : decode cL_law 595 = .ok (.aload 4, 2) := by decide +kernel
theorem dL_law_597 : decode cL_law 597 = .ok (.invokestatic 93, 3) := by decide +kernel
theorem dL_law_600 : decode cL_law 600 = .ok (.istore 6, 2) := by decide +kernel
theorem dL_law_602 : decode cL_law 602 = .ok (.iinc 16 1, 3) := by decide +kernel
theorem dL_law_605 : decode cL_law 605 = .ok (.goto (-25), 3) := by decide +kernel
theorem dL_law_608 : decode cL_law 608 = .ok (.iconst 0, 1) := by decide +kernel
theorem dL_law_609 : decode cL_law 609 = .ok (.istore 15, 2) := by decide +kernel
theorem dL_law_611 : decode cL_law 611 = .ok (.iload 15, 2) := by decide +kernel
theorem dL_law_613 : decode cL_law 613 = .ok (.bipush 6, 2) := by decide +kernel
theorem dL_law_615 : decode cL_law 615 = .ok (.if_icmp .ge 27, 3) := by decide +kernel
theorem dL_law_618 : decode cL_law 618 = .ok (.iload 6, 2) := by decide +kernel
theorem dL_law_620 : decode cL_law 620 = .ok (.ifCond .eq 22, 3) := by decide +kernel
theorem dL_law_623 : decode cL_law 623 = .ok (.aload_n 1, 1) := by decide +kernel
theorem dL_law_624 : decode cL_law 624 = .ok (.iload 15, 2) := by decide +kernel
theorem dL_law_626 : decode cL_law 626 = .ok (.aload 5, 2) := by decide +kernel
theorem dL_law_628 : decode cL_law 628 = .ok (.iload 15, 2) := by decide +kernel
theorem dL_law_630 : decode cL_law 630 = .ok (.iaload, 1) := by decide +kernel
theorem dL_law_631 : decode cL_law 631 = .ok (.invokestatic 66, 3) := by decide +kernel
theorem dL_law_634 : decode cL_law 634 = .ok (.istore 6, 2) := by decide +kernel
theorem dL_law_636 : decode cL_law 636 = .ok (.iinc 15 1, 3) := by decide +kernel
theorem dL_law_639 : decode cL_law 639 = .ok (.goto (-28), 3) := by decide +kernel
theorem dL_law_642 : decode cL_law 642 = .ok (.iinc 9 1, 3) := by decide +kernel
theorem dL_law_645 : decode cL_law 645 = .ok (.goto (-569), 3) := by decide +kernel
theorem dL_law_648 : decode cL_law 648 = .ok (.iload 6, 2) := by decide +kernel
theorem dL_law_650 : decode cL_law 650 = .ok (.ireturn, 1) := by decide +kernel

