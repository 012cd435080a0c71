theorem dX7_isWithin_0 : decode cX7_isWithin 0 = .ok (.iload_n 0, 1) := by decide +kernel
theorem dX7_isWithin_1 : decode cX7_isWithin 1 = .ok (.iload_n 1, 1) := by decide +kernel
theorem dX7_isWithin_2 : decode cX7_isWithin 2 = .ok (.if_icmp .lt 12, 3) := by decide +kernel
theorem dX7_isWithin_14 : decode cX7_isWithin 14 = .ok (.iconst 0, 1) := by decide +kernel
theorem dX7_isWithin_15 : decode cX7_isWithin 15 = .ok (.ireturn, 1) := by decide +kernel
theorem dX7_isWithin_5 : decode cX7_isWithin 5 = .ok (.iload_n 0, 1) := by decide +kernel
theorem dX7_isWithin_6 : decode cX7_isWithin 6 = .ok (.iload_n 2, 1) := by decide +kernel
theorem dX7_isWithin_7 : decode cX7_isWithin 7 = .ok (.if_icmp .gt 7, 3) := by decide +kernel
theorem dX7_isWithin_10 : decode cX7_isWithin 10 = .ok (.iconst 1, 1) := by decide +kernel
theorem dX7_isWithin_11 : decode cX7_isWithin 11 = .ok (.goto 4, 3) := by decide +kernel
theorem dX8_in_0 : decode cX8_in 0 = .ok (.iload_n 0, 1) := by decide +kernel
theorem dX8_in_1 : decode cX8_in 1 = .ok (.iload_n 1, 1) := by decide +kernel
theorem dX8_in_2 : decode cX8_in 2 = .ok (.if_icmp .lt 12, 3) := by decide +kernel
theorem dX8_in_14 : decode cX8_in 14 = .ok (.iconst 0, 1) := by decide +kernel
theorem dX8_in_15 : decode cX8_in 15 = .ok (.ireturn, 1) := by decide +kernel
theorem dX8_in_5 : decode cX8_in 5 = .ok (.iload_n 0, 1) := by decide +kernel
theorem dX8_in_6 : decode cX8_in 6 = .ok (.iload_n 2, 1) := by decide +kernel
theorem dX8_in_7 : decode cX8_in 7 = .ok (.if_icmp .gt 7, 3) := by decide +kernel
theorem dX8_in_10 : decode cX8_in 10 = .ok (.iconst 1, 1) := by decide +kernel
theorem dX8_in_11 : decode cX8_in 11 = .ok (.goto 4, 3) := by decide +kernel
theorem dX1_turnInto_0 : decode cX1_turnInto 0 = .ok (.aload_n 0, 1) := by decide +kernel
theorem dX1_turnInto_1 : decode cX1_turnInto 1 = .ok (.iload_n 1, 1) := by decide +kernel
theorem dX1_turnInto_2 : decode cX1_turnInto 2 = .ok (.bipush 10, 2) := by decide +kernel
theorem dX1_turnInto_4 : decode cX1_turnInto 4 = .ok (.idiv, 1) := by decide +kernel
theorem dX1_turnInto_5 : decode cX1_turnInto 5 = .ok (.putfield 9, 3) := by decide +kernel
theorem dX1_turnInto_8 : decode cX1_turnInto 8 = .ok (.aload_n 0, 1) := by decide +kernel
theorem dX1_turnInto_9 : decode cX1_turnInto 9 = .ok (.iload_n 1, 1) := by decide +kernel
theorem dX1_turnInto_10 : decode cX1_turnInto 10 = .ok (.bipush 10, 2) := by decide +kernel
theorem dX1_turnInto_12 : decode cX1_turnInto 12 = .ok (.irem, 1) := by decide +kernel
theorem dX1_turnInto_13 : decode cX1_turnInto 13 = .ok (.putfield 15, 3) := by decide +kernel
theorem dX1_turnInto_16 : decode cX1_turnInto 16 = .ok (.return_, 1) := by decide +kernel
theorem dX1_needs_0 : decode cX1_needs 0 = .ok (.aload_n 0, 1) := by decide +kernel
theorem dX1_needs_1 : decode cX1_needs 1 = .ok (.getfield 9, 3) := by decide +kernel
theorem dX1_needs_4 : decode cX1_needs 4 = .ok (.tableswitch 84 1 6 #[40, 50, 53, 56, 68, 76], 40) := by decide +kernel
theorem dX1_needs_44 : decode cX1_needs 44 = .ok (.bipush 50, 2) := by decide +kernel
theorem dX1_needs_46 : decode cX1_needs 46 = .ok (.iconst 2, 1) := by decide +kernel
theorem dX1_needs_47 : decode cX1_needs 47 = .ok (.aload_n 0, 1) := by decide +kernel
theorem dX1_needs_48 : decode cX1_needs 48 = .ok (.getfield 15, 3) := by decide +kernel
theorem dX1_needs_51 : decode cX1_needs 51 = .ok (.imul, 1) := by decide +kernel
theorem dX1_needs_52 : decode cX1_needs 52 = .ok (.iadd, 1) := by decide +kernel
theorem dX1_needs_53 : decode cX1_needs 53 = .ok (.ireturn, 1) := by decide +kernel
theorem dX1_needs_54 : decode cX1_needs 54 = .ok (.bipush 30, 2) := by decide +kernel
theorem dX1_needs_56 : decode cX1_needs 56 = .ok (.ireturn, 1) := by decide +kernel
theorem dX1_needs_57 : decode cX1_needs 57 = .ok (.bipush 80, 2) := by decide +kernel
theorem dX1_needs_59 : decode cX1_needs 59 = .ok (.ireturn, 1) := by decide +kernel
theorem dX1_needs_60 : decode cX1_needs 60 = .ok (.bipush 50, 2) := by decide +kernel
theorem dX1_needs_62 : decode cX1_needs 62 = .ok (.iconst 2, 1) := by decide +kernel
theorem dX1_needs_63 : decode cX1_needs 63 = .ok (.aload_n 0, 1) := by decide +kernel
theorem dX1_needs_64 : decode cX1_needs 64 = .ok (.getfield 15, 3) := by decide +kernel
theorem dX1_needs_67 : decode cX1_needs 67 = .ok (.imul, 1) := by decide +kernel
theorem dX1_needs_68 : decode cX1_needs 68 = .ok (.iadd, 1) := by decide +kernel
theorem dX1_needs_69 : decode cX1_needs 69 = .ok (.iconst 5, 1) := by decide +kernel
theorem dX1_needs_70 : decode cX1_needs 70 = .ok (.iadd, 1) := by decide +kernel
theorem dX1_needs_71 : decode cX1_needs 71 = .ok (.ireturn, 1) := by decide +kernel
theorem dX1_needs_72 : decode cX1_needs 72 = .ok (.bipush 30, 2) := by decide +kernel
theorem dX1_needs_74 : decode cX1_needs 74 = .ok (.aload_n 0, 1) := by decide +kernel
theorem dX1_needs_75 : decode cX1_needs 75 = .ok (.getfield 15, 3) := by decide +kernel
theorem dX1_needs_78 : decode cX1_needs 78 = .ok (.iadd, 1) := by decide +kernel
theorem dX1_needs_79 : decode cX1_needs 79 = .ok (.ireturn, 1) := by decide +kernel
theorem dX1_needs_80 : decode cX1_needs 80 = .ok (.bipush 80, 2) := by decide +kernel
theorem dX1_needs_82 : decode cX1_needs 82 = .ok (.aload_n 0, 1) := by decide +kernel
theorem dX1_needs_83 : decode cX1_needs 83 = .ok (.getfield 15, 3) := by decide +kernel
theorem dX1_needs_86 : decode cX1_needs 86 = .ok (.isub, 1) := by decide +kernel
theorem dX1_needs_87 : decode cX1_needs 87 = .ok (.ireturn, 1) := by decide +kernel
theorem dX1_needs_88 : decode cX1_needs 88 = .ok (.bipush 50, 2) := by decide +kernel
theorem dX1_needs_90 : decode cX1_needs 90 = .ok (.ireturn, 1) := by decide +kernel
theorem dX1_dulls_0 : decode cX1_dulls 0 = .ok (.aload_n 0, 1) := by decide +kernel
theorem dX1_dulls_1 : decode cX1_dulls 1 = .ok (.getfield 9, 3) := by decide +kernel
theorem dX1_dulls_4 : decode cX1_dulls 4 = .ok (.tableswitch 47 1 6 #[40, 42, 45, 40, 42, 45], 40) := by decide +kernel
theorem dX1_dulls_44 : decode cX1_dulls 44 = .ok (.iconst 4, 1) := by decide +kernel
theorem dX1_dulls_45 : decode cX1_dulls 45 = .ok (.ireturn, 1) := by decide +kernel
theorem dX1_dulls_46 : decode cX1_dulls 46 = .ok (.bipush 6, 2) := by decide +kernel
theorem dX1_dulls_48 : decode cX1_dulls 48 = .ok (.ireturn, 1) := by decide +kernel
theorem dX1_dulls_49 : decode cX1_dulls 49 = .ok (.iconst 1, 1) := by decide +kernel
theorem dX1_dulls_50 : decode cX1_dulls 50 = .ok (.ireturn, 1) := by decide +kernel
theorem dX1_dulls_51 : decode cX1_dulls 51 = .ok (.iconst 3, 1) := by decide +kernel
theorem dX1_dulls_52 : decode cX1_dulls 52 = .ok (.ireturn, 1) := by decide +kernel
theorem dX1_gains_0 : decode cX1_gains 0 = .ok (.aload_n 0, 1) := by decide +kernel
theorem dX1_gains_1 : decode cX1_gains 1 = .ok (.getfield 9, 3) := by decide +kernel
theorem dX1_gains_4 : decode cX1_gains 4 = .ok (.tableswitch 91 1 6 #[40, 47, 51, 55, 74, 89], 40) := by decide +kernel
theorem dX1_gains_44 : decode cX1_gains 44 = .ok (.iload_n 1, 1) := by decide +kernel
theorem dX1_gains_45 : decode cX1_gains 45 = .ok (.aload_n 0, 1) := by decide +kernel
theorem dX1_gains_46 : decode cX1_gains 46 = .ok (.getfield 15, 3) := by decide +kernel
theorem dX1_gains_49 : decode cX1_gains 49 = .ok (.iadd, 1) := by decide +kernel
theorem dX1_gains_50 : decode cX1_gains 50 = .ok (.ireturn, 1) := by decide +kernel
theorem dX1_gains_51 : decode cX1_gains 51 = .ok (.iconst 2, 1) := by decide +kernel
theorem dX1_gains_52 : decode cX1_gains 52 = .ok (.iload_n 1, 1) := by decide +kernel
theorem dX1_gains_53 : decode cX1_gains 53 = .ok (.imul, 1) := by decide +kernel
theorem dX1_gains_54 : decode cX1_gains 54 = .ok (.ireturn, 1) := by decide +kernel
theorem dX1_gains_55 : decode cX1_gains 55 = .ok (.iload_n 1, 1) := by decide +kernel
theorem dX1_gains_56 : decode cX1_gains 56 = .ok (.iconst 2, 1) := by decide +kernel
theorem dX1_gains_57 : decode cX1_gains 57 = .ok (.idiv, 1) := by decide +kernel
theorem dX1_gains_58 : decode cX1_gains 58 = .ok (.ireturn, 1) := by decide +kernel
theorem dX1_gains_59 : decode cX1_gains 59 = .ok (.iconst 0, 1) := by decide +kernel
theorem dX1_gains_60 : decode cX1_gains 60 = .ok (.iload_n 1, 1) := by decide +kernel
theorem dX1_gains_61 : decode cX1_gains 61 = .ok (.aload_n 0, 1) := by decide +kernel
theorem dX1_gains_62 : decode cX1_gains 62 = .ok (.getfield 15, 3) := by decide +kernel
theorem dX1_gains_65 : decode cX1_gains 65 = .ok (.iadd, 1) := by decide +kernel
theorem dX1_gains_66 : decode cX1_gains 66 = .ok (.aload_n 0, 1) := by decide +kernel
theorem dX1_gains_67 : decode cX1_gains 67 = .ok (.getfield 27, 3) := by decide +kernel
theorem dX1_gains_70 : decode cX1_gains 70 = .ok (.bipush 10, 2) := by decide +kernel
theorem dX1_gains_72 : decode cX1_gains 72 = .ok (.idiv, 1) := by decide +kernel
theorem dX1_gains_73 : decode cX1_gains 73 = .ok (.isub, 1) := by decide +kernel
theorem dX1_gains_74 : decode cX1_gains 74 = .ok (.invokestatic 38, 3) := by decide +kernel
theorem dX1_gains_77 : decode cX1_gains 77 = .ok (.ireturn, 1) := by decide +kernel
theorem dX1_gains_78 : decode cX1_gains 78 = .ok (.iload_n 2, 1) := by decide +kernel
theorem dX1_gains_79 : decode cX1_gains 79 = .ok (.bipush 6, 2) := by decide +kernel
theorem dX1_gains_81 : decode cX1_gains 81 = .ok (.irem, 1) := by decide +kernel
theorem dX1_gains_82 : decode cX1_gains 82 = .ok (.ifCond .ne 7, 3) := by decide +kernel
theorem dX1_gains_89 : decode cX1_gains 89 = .ok (.iconst 2, 1) := by decide +kernel
theorem dX1_gains_90 : decode cX1_gains 90 = .ok (.iload_n 1, 1) := by decide +kernel
theorem dX1_gains_91 : decode cX1_gains 91 = .ok (.imul, 1) := by decide +kernel
theorem dX1_gains_92 : decode cX1_gains 92 = .ok (.ireturn, 1) := by decide +kernel
theorem dX1_gains_85 : decode cX1_gains 85 = .ok (.iconst 0, 1) := by decide +kernel
theorem dX1_gains_86 : decode cX1_gains 86 = .ok (.goto 6, 3) := by decide +kernel
theorem dX1_gains_93 : decode cX1_gains 93 = .ok (.iconst 0, 1) := by decide +kernel
theorem dX1_gains_94 : decode cX1_gains 94 = .ok (.ireturn, 1) := by decide +kernel
theorem dX1_gains_95 : decode cX1_gains 95 = .ok (.iload_n 1, 1) := by decide +kernel
theorem dX1_gains_96 : decode cX1_gains 96 = .ok (.ireturn, 1) := by decide +kernel
theorem dX4_joined_0 : decode cX4_joined 0 = .ok (.iload_n 0, 1) := by decide +kernel
theorem dX4_joined_1 : decode cX4_joined 1 = .ok (.lookupswitch 188 #[(37, 176), (38, 105), (42, 160), (43, 152), (45, 156), (47, 164), (60, 119), (61, 130), (62, 141), (124, 91)], 91) := by decide +kernel
theorem dX4_joined_177 : decode cX4_joined 177 = .ok (.iload_n 2, 1) := by decide +kernel
theorem dX4_joined_178 : decode cX4_joined 178 = .ok (.ifCond .ne 7, 3) := by decide +kernel
theorem dX4_joined_185 : decode cX4_joined 185 = .ok (.iload_n 1, 1) := by decide +kernel
theorem dX4_joined_186 : decode cX4_joined 186 = .ok (.iload_n 2, 1) := by decide +kernel
theorem dX4_joined_187 : decode cX4_joined 187 = .ok (.irem, 1) := by decide +kernel
theorem dX4_joined_188 : decode cX4_joined 188 = .ok (.ireturn, 1) := by decide +kernel
theorem dX4_joined_181 : decode cX4_joined 181 = .ok (.iconst 0, 1) := by decide +kernel
theorem dX4_joined_182 : decode cX4_joined 182 = .ok (.goto 6, 3) := by decide +kernel
theorem dX4_joined_106 : decode cX4_joined 106 = .ok (.iload_n 1, 1) := by decide +kernel
theorem dX4_joined_107 : decode cX4_joined 107 = .ok (.ifCond .eq 11, 3) := by decide +kernel
theorem dX4_joined_118 : decode cX4_joined 118 = .ok (.iconst 0, 1) := by decide +kernel
theorem dX4_joined_119 : decode cX4_joined 119 = .ok (.ireturn, 1) := by decide +kernel
theorem dX4_joined_110 : decode cX4_joined 110 = .ok (.iload_n 2, 1) := by decide +kernel
theorem dX4_joined_111 : decode cX4_joined 111 = .ok (.ifCond .eq 7, 3) := by decide +kernel
theorem dX4_joined_114 : decode cX4_joined 114 = .ok (.iconst 1, 1) := by decide +kernel
theorem dX4_joined_115 : decode cX4_joined 115 = .ok (.goto 4, 3) := by decide +kernel
theorem dX4_joined_161 : decode cX4_joined 161 = .ok (.iload_n 1, 1) := by decide +kernel
theorem dX4_joined_162 : decode cX4_joined 162 = .ok (.iload_n 2, 1) := by decide +kernel
theorem dX4_joined_163 : decode cX4_joined 163 = .ok (.imul, 1) := by decide +kernel
theorem dX4_joined_164 : decode cX4_joined 164 = .ok (.ireturn, 1) := by decide +kernel
theorem dX4_joined_153 : decode cX4_joined 153 = .ok (.iload_n 1, 1) := by decide +kernel
theorem dX4_joined_154 : decode cX4_joined 154 = .ok (.iload_n 2, 1) := by decide +kernel
theorem dX4_joined_155 : decode cX4_joined 155 = .ok (.iadd, 1) := by decide +kernel
theorem dX4_joined_156 : decode cX4_joined 156 = .ok (.ireturn, 1) := by decide +kernel
theorem dX4_joined_157 : decode cX4_joined 157 = .ok (.iload_n 1, 1) := by decide +kernel
theorem dX4_joined_158 : decode cX4_joined 158 = .ok (.iload_n 2, 1) := by decide +kernel
theorem dX4_joined_159 : decode cX4_joined 159 = .ok (.isub, 1) := by decide +kernel
theorem dX4_joined_160 : decode cX4_joined 160 = .ok (.ireturn, 1) := by decide +kernel
theorem dX4_joined_165 : decode cX4_joined 165 = .ok (.iload_n 2, 1) := by decide +kernel
theorem dX4_joined_166 : decode cX4_joined 166 = .ok (.ifCond .ne 7, 3) := by decide +kernel
theorem dX4_joined_173 : decode cX4_joined 173 = .ok (.iload_n 1, 1) := by decide +kernel
theorem dX4_joined_174 : decode cX4_joined 174 = .ok (.iload_n 2, 1) := by decide +kernel
theorem dX4_joined_175 : decode cX4_joined 175 = .ok (.idiv, 1) := by decide +kernel
theorem dX4_joined_176 : decode cX4_joined 176 = .ok (.ireturn, 1) := by decide +kernel
theorem dX4_joined_169 : decode cX4_joined 169 = .ok (.iconst 0, 1) := by decide +kernel
theorem dX4_joined_170 : decode cX4_joined 170 = .ok (.goto 6, 3) := by decide +kernel
theorem dX4_joined_120 : decode cX4_joined 120 = .ok (.iload_n 1, 1) := by decide +kernel
theorem dX4_joined_121 : decode cX4_joined 121 = .ok (.iload_n 2, 1) := by decide +kernel
theorem dX4_joined_122 : decode cX4_joined 122 = .ok (.if_icmp .ge 7, 3) := by decide +kernel
theorem dX4_joined_129 : decode cX4_joined 129 = .ok (.iconst 0, 1) := by decide +kernel
theorem dX4_joined_130 : decode cX4_joined 130 = .ok (.ireturn, 1) := by decide +kernel
theorem dX4_joined_125 : decode cX4_joined 125 = .ok (.iconst 1, 1) := by decide +kernel
theorem dX4_joined_126 : decode cX4_joined 126 = .ok (.goto 4, 3) := by decide +kernel
theorem dX4_joined_131 : decode cX4_joined 131 = .ok (.iload_n 1, 1) := by decide +kernel
theorem dX4_joined_132 : decode cX4_joined 132 = .ok (.iload_n 2, 1) := by decide +kernel
theorem dX4_joined_133 : decode cX4_joined 133 = .ok (.if_icmp .ne 7, 3) := by decide +kernel
theorem dX4_joined_140 : decode cX4_joined 140 = .ok (.iconst 0, 1) := by decide +kernel
theorem dX4_joined_141 : decode cX4_joined 141 = .ok (.ireturn, 1) := by decide +kernel
theorem dX4_joined_136 : decode cX4_joined 136 = .ok (.iconst 1, 1) := by decide +kernel
theorem dX4_joined_137 : decode cX4_joined 137 = .ok (.goto 4, 3) := by decide +kernel
theorem dX4_joined_142 : decode cX4_joined 142 = .ok (.iload_n 1, 1) := by decide +kernel
theorem dX4_joined_143 : decode cX4_joined 143 = .ok (.iload_n 2, 1) := by decide +kernel
theorem dX4_joined_144 : decode cX4_joined 144 = .ok (.if_icmp .le 7, 3) := by decide +kernel
theorem dX4_joined_151 : decode cX4_joined 151 = .ok (.iconst 0, 1) := by decide +kernel
theorem dX4_joined_152 : decode cX4_joined 152 = .ok (.ireturn, 1) := by decide +kernel
theorem dX4_joined_147 : decode cX4_joined 147 = .ok (.iconst 1, 1) := by decide +kernel
theorem dX4_joined_148 : decode cX4_joined 148 = .ok (.goto 4, 3) := by decide +kernel
theorem dX4_joined_92 : decode cX4_joined 92 = .ok (.iload_n 1, 1) := by decide +kernel
theorem dX4_joined_93 : decode cX4_joined 93 = .ok (.ifCond .ne 7, 3) := by decide +kernel
theorem dX4_joined_100 : decode cX4_joined 100 = .ok (.iconst 1, 1) := by decide +kernel
theorem dX4_joined_101 : decode cX4_joined 101 = .ok (.goto 4, 3) := by decide +kernel
theorem dX4_joined_105 : decode cX4_joined 105 = .ok (.ireturn, 1) := by decide +kernel
theorem dX4_joined_96 : decode cX4_joined 96 = .ok (.iload_n 2, 1) := by decide +kernel
theorem dX4_joined_97 : decode cX4_joined 97 = .ok (.ifCond .eq 7, 3) := by decide +kernel
theorem dX4_joined_104 : decode cX4_joined 104 = .ok (.iconst 0, 1) := by decide +kernel
theorem dX4_joined_189 : decode cX4_joined 189 = .ok (.iload_n 1, 1) := by decide +kernel
theorem dX4_joined_190 : decode cX4_joined 190 = .ok (.ifCond .ne 7, 3) := by decide +kernel
theorem dX4_joined_197 : decode cX4_joined 197 = .ok (.iconst 0, 1) := by decide +kernel
theorem dX4_joined_198 : decode cX4_joined 198 = .ok (.ireturn, 1) := by decide +kernel
theorem dX4_joined_193 : decode cX4_joined 193 = .ok (.iconst 1, 1) := by decide +kernel
theorem dX4_joined_194 : decode cX4_joined 194 = .ok (.goto 4, 3) := by decide +kernel
theorem nI_m1 {n : Nat} (hn : n < 2 ^ 30) : (nI n - 1).toInt = (n : Int) - 1 := pk_sub_toInt (b := 1) hn (by decide)
set_option maxRecDepth 100000 in
set_option maxHeartbeats 4000000 in
theorem g_X7_isWithin (l : Launch) (D : va_G) (y : wY) (ad : Nat → Nat) (M : Mem) (v a b : Int32) (ia ib : Int) (ha : a.toInt = ia) (hb : b.toInt = ib) : MI l D y ad yX7_isWithin (Cond.code yX7_isWithin cX7_isWithin 3 (some .boolean)) 0 M [.int v, .int a, .int b] (fun r M' => (1 = r ∧ M = M' ∧ ia ≤ v.toInt ∧ v.toInt ≤ ib) ∨ (0 = r ∧ M = M' ∧ ¬ (ia ≤ v.toInt ∧ v.toInt ≤ ib))) := by
  refine MI_of (by decide) (Nat.le_of_ble_eq_true rfl) ?_
  intro p e s m args below meth c X hr hlocks
  refine j_lv (lv1 := [(0, .int v), (1, .int a), (2, .int b)]) [0, 1, 2] rfl ?_
  refine j_iload_n X 0 rfl rfl dX7_isWithin_0 ?_
  refine j_iload_n X 1 rfl rfl dX7_isWithin_1 ?_
  refine j_icmp_lt X 14 (by decide) dX7_isWithin_2 (fun c_1 => ?_) (fun c_1 => ?_)
  · have qc_1 := ti_lt (a := v.toInt) (b := a.toInt) rfl rfl c_1
    refine j_iconst X (v := 0) (by decide) dX7_isWithin_14 ?_
    exact j_zret X hr hlocks (Or.inl rfl) dX7_isWithin_15 (Or.inr ⟨rfl, rfl, by omega⟩)
  · have qc_1 := ti_nlt (a := v.toInt) (b := a.toInt) rfl rfl c_1
    refine j_iload_n X 0 rfl rfl dX7_isWithin_5 ?_
    refine j_iload_n X 2 rfl rfl dX7_isWithin_6 ?_
    refine j_icmp_gt X 14 (by decide) dX7_isWithin_7 (fun c_2 => ?_) (fun c_2 => ?_)
    · have qc_2 := ti_lt (a := b.toInt) (b := v.toInt) rfl rfl c_2
      refine j_iconst X (v := 0) (by decide) dX7_isWithin_14 ?_
      exact j_zret X hr hlocks (Or.inl rfl) dX7_isWithin_15 (Or.inr ⟨rfl, rfl, by omega⟩)
    · have qc_2 := ti_nlt (a := b.toInt) (b := v.toInt) rfl rfl c_2
      refine j_iconst X (v := 1) (by decide) dX7_isWithin_10 ?_
      refine j_goto X 15 (by decide) dX7_isWithin_11 ?_
      exact j_zret X hr hlocks (Or.inr rfl) dX7_isWithin_15 (Or.inl ⟨rfl, rfl, by omega⟩)
set_option maxRecDepth 100000 in
set_option maxHeartbeats 4000000 in
theorem g_X8_in (l : Launch) (D : va_G) (y : wY) (ad : Nat → Nat) (M : Mem) (v a b : Int32) (ia ib : Int) (ha : a.toInt = ia) (hb : b.toInt = ib) : MI l D y ad yX8_in (Cond.code yX8_in cX8_in 3 (some .boolean)) 0 M [.int v, .int a, .int b] (fun r M' => (1 = r ∧ M = M' ∧ ia ≤ v.toInt ∧ v.toInt ≤ ib) ∨ (0 = r ∧ M = M' ∧ ¬ (ia ≤ v.toInt ∧ v.toInt ≤ ib))) := by
  refine MI_of (by decide) (Nat.le_of_ble_eq_true rfl) ?_
  intro p e s m args below meth c X hr hlocks
  refine j_lv (lv1 := [(0, .int v), (1, .int a), (2, .int b)]) [0, 1, 2] rfl ?_
  refine j_iload_n X 0 rfl rfl dX8_in_0 ?_
  refine j_iload_n X 1 rfl rfl dX8_in_1 ?_
  refine j_icmp_lt X 14 (by decide) dX8_in_2 (fun c_1 => ?_) (fun c_1 => ?_)
  · have qc_1 := ti_lt (a := v.toInt) (b := a.toInt) rfl rfl c_1
    refine j_iconst X (v := 0) (by decide) dX8_in_14 ?_
    exact j_zret X hr hlocks (Or.inl rfl) dX8_in_15 (Or.inr ⟨rfl, rfl, by omega⟩)
  · have qc_1 := ti_nlt (a := v.toInt) (b := a.toInt) rfl rfl c_1
    refine j_iload_n X 0 rfl rfl dX8_in_5 ?_
    refine j_iload_n X 2 rfl rfl dX8_in_6 ?_
    refine j_icmp_gt X 14 (by decide) dX8_in_7 (fun c_2 => ?_) (fun c_2 => ?_)
    · have qc_2 := ti_lt (a := b.toInt) (b := v.toInt) rfl rfl c_2
      refine j_iconst X (v := 0) (by decide) dX8_in_14 ?_
      exact j_zret X hr hlocks (Or.inl rfl) dX8_in_15 (Or.inr ⟨rfl, rfl, by omega⟩)
    · have qc_2 := ti_nlt (a := b.toInt) (b := v.toInt) rfl rfl c_2
      refine j_iconst X (v := 1) (by decide) dX8_in_10 ?_
      refine j_goto X 15 (by decide) dX8_in_11 ?_
      exact j_zret X hr hlocks (Or.inr rfl) dX8_in_15 (Or.inl ⟨rfl, rfl, by omega⟩)
set_option maxRecDepth 100000 in
set_option maxHeartbeats 4000000 in
theorem g_turnInto (l : Launch) (D : va_G) (y : wY) (ad : Nat → Nat) (M : Mem) (c0 : Nat) (hc0 : c0 < 93) (hk0 : kd c0 = 1) (K : Nat) (hK : K ≤ 69) : MV l D y ad yX1_turnInto (Cond.code yX1_turnInto cX1_turnInto 2 none) 0 M [.ref (ad c0), .int (nI K)] (fun M' => up (up M c0 0 (nI (K / 10))) c0 1 (nI (K % 10)) = M') := by
  refine MV_of (by decide) (Nat.le_of_ble_eq_true rfl) ?_
  intro p e s m args below meth c X hr hlocks
  refine j_lv (lv1 := [(0, .ref (ad c0)), (1, .int (nI K))]) [0, 1] rfl ?_
  refine j_aload_n X 0 rfl rfl dX1_turnInto_0 ?_
  refine j_iload_n X 1 rfl rfl dX1_turnInto_1 ?_
  refine j_bipush X (v := 10) (by decide) dX1_turnInto_2 ?_
  refine j_idiv X (by decide) dX1_turnInto_4 ?_
  refine j_eqi (v := nI (K / 10)) (pk_div (d := 10) (by omega) (by decide) (by decide)) ?_
  refine j_put X (up M c0 0 (nI (K / 10))) up_o hc0 (wE_1 _ hk0) rfl awF1 0 (by decide) (wP_1_0 _ _ hk0) tyX1 tyX1_ok nmX1 rfl (ty := .int) (by decide +kernel) rfl rfl (Nat.le_of_ble_eq_true rfl) aw_175 rfl dX1_turnInto_5 ?_
  refine j_aload_n X 0 rfl rfl dX1_turnInto_8 ?_
  refine j_iload_n X 1 rfl rfl dX1_turnInto_9 ?_
  refine j_bipush X (v := 10) (by decide) dX1_turnInto_10 ?_
  refine j_irem X (by decide) dX1_turnInto_12 ?_
  refine j_eqi (v := nI (K % 10)) (pk_rem (d := 10) (by omega) (by decide) (by decide)) ?_
  refine j_put X (up (up M c0 0 (nI (K / 10))) c0 1 (nI (K % 10))) up_o hc0 (wE_1 _ hk0) rfl awF1 1 (by decide) (wP_1_1 _ _ hk0) tyX1 tyX1_ok nmX1 rfl (ty := .int) (by decide +kernel) rfl rfl (Nat.le_of_ble_eq_true rfl) aw_176 rfl dX1_turnInto_13 ?_
  exact j_vret X hr hlocks dX1_turnInto_16 rfl
set_option maxRecDepth 100000 in
set_option maxHeartbeats 4000000 in
theorem g_needs (l : Launch) (D : va_G) (y : wY) (ad : Nat → Nat) (M : Mem) (c0 : Nat) (hc0 : c0 < 93) (hk0 : kd c0 = 1) : MI l D y ad yX1_needs (Cond.code yX1_needs cX1_needs 1 (some .int)) 0 M [.ref (ad c0)] (fun _ M' => M = M') := by
  refine MI_of (by decide) (Nat.le_of_ble_eq_true rfl) ?_
  intro p e s m args below meth c X hr hlocks
  refine j_lv (lv1 := [(0, .ref (ad c0))]) [0] rfl ?_
  refine j_aload_n X 0 rfl rfl dX1_needs_0 ?_
  refine j_get X hc0 (wE_1 _ hk0) rfl awF1 0 (by decide) aw_175 rfl (v := .int (M c0 0)) rfl dX1_needs_1 ?_
  by_cases w_1 : (M c0 0) = 1
  · refine j_tsw_in X 44 1 w_1 (by decide) (by decide) (off := 40) rfl (by decide) dX1_needs_4 ?_
    have qw_1 := ti_eq (n := 1) (by decide) w_1
    refine j_bipush X (v := 50) (by decide) dX1_needs_44 ?_
    refine j_iconst X (v := 2) (by decide) dX1_needs_46 ?_
    refine j_aload_n X 0 rfl rfl dX1_needs_47 ?_
    refine j_get X hc0 (wE_1 _ hk0) rfl awF1 1 (by decide) aw_176 rfl (v := .int (M c0 1)) rfl dX1_needs_48 ?_
    refine j_imul X dX1_needs_51 ?_
    refine j_iadd X dX1_needs_52 ?_
    exact j_iret X hr hlocks dX1_needs_53 rfl
  by_cases w_2 : (M c0 0) = 2
  · refine j_tsw_in X 54 2 w_2 (by decide) (by decide) (off := 50) rfl (by decide) dX1_needs_4 ?_
    have qw_2 := ti_eq (n := 2) (by decide) w_2
    refine j_bipush X (v := 30) (by decide) dX1_needs_54 ?_
    exact j_iret X hr hlocks dX1_needs_56 rfl
  by_cases w_3 : (M c0 0) = 3
  · refine j_tsw_in X 57 3 w_3 (by decide) (by decide) (off := 53) rfl (by decide) dX1_needs_4 ?_
    have qw_3 := ti_eq (n := 3) (by decide) w_3
    refine j_bipush X (v := 80) (by decide) dX1_needs_57 ?_
    exact j_iret X hr hlocks dX1_needs_59 rfl
  by_cases w_4 : (M c0 0) = 4
  · refine j_tsw_in X 60 4 w_4 (by decide) (by decide) (off := 56) rfl (by decide) dX1_needs_4 ?_
    have qw_4 := ti_eq (n := 4) (by decide) w_4
    refine j_bipush X (v := 50) (by decide) dX1_needs_60 ?_
    refine j_iconst X (v := 2) (by decide) dX1_needs_62 ?_
    refine j_aload_n X 0 rfl rfl dX1_needs_63 ?_
    refine j_get X hc0 (wE_1 _ hk0) rfl awF1 1 (by decide) aw_176 rfl (v := .int (M c0 1)) rfl dX1_needs_64 ?_
    refine j_imul X dX1_needs_67 ?_
    refine j_iadd X dX1_needs_68 ?_
    refine j_iconst X (v := 5) (by decide) dX1_needs_69 ?_
    refine j_iadd X dX1_needs_70 ?_
    exact j_iret X hr hlocks dX1_needs_71 rfl
  by_cases w_5 : (M c0 0) = 5
  · refine j_tsw_in X 72 5 w_5 (by decide) (by decide) (off := 68) rfl (by decide) dX1_needs_4 ?_
    have qw_5 := ti_eq (n := 5) (by decide) w_5
    refine j_bipush X (v := 30) (by decide) dX1_needs_72 ?_
    refine j_aload_n X 0 rfl rfl dX1_needs_74 ?_
    refine j_get X hc0 (wE_1 _ hk0) rfl awF1 1 (by decide) aw_176 rfl (v := .int (M c0 1)) rfl dX1_needs_75 ?_
    refine j_iadd X dX1_needs_78 ?_
    exact j_iret X hr hlocks dX1_needs_79 rfl
  by_cases w_6 : (M c0 0) = 6
  · refine j_tsw_in X 80 6 w_6 (by decide) (by decide) (off := 76) rfl (by decide) dX1_needs_4 ?_
    have qw_6 := ti_eq (n := 6) (by decide) w_6
    refine j_bipush X (v := 80) (by decide) dX1_needs_80 ?_
    refine j_aload_n X 0 rfl rfl dX1_needs_82 ?_
    refine j_get X hc0 (wE_1 _ hk0) rfl awF1 1 (by decide) aw_176 rfl (v := .int (M c0 1)) rfl dX1_needs_83 ?_
    refine j_isub X dX1_needs_86 ?_
    exact j_iret X hr hlocks dX1_needs_87 rfl
  have qw_1 := ti_ne (n := 1) (by decide) w_1
  have qw_2 := ti_ne (n := 2) (by decide) w_2
  have qw_3 := ti_ne (n := 3) (by decide) w_3
  have qw_4 := ti_ne (n := 4) (by decide) w_4
  have qw_5 := ti_ne (n := 5) (by decide) w_5
  have qw_6 := ti_ne (n := 6) (by decide) w_6
  refine j_tsw_out X 88 (by omega) (by decide) dX1_needs_4 ?_
  refine j_bipush X (v := 50) (by decide) dX1_needs_88 ?_
  exact j_iret X hr hlocks dX1_needs_90 rfl
set_option maxRecDepth 100000 in
set_option maxHeartbeats 4000000 in
theorem g_dulls (l : Launch) (D : va_G) (y : wY) (ad : Nat → Nat) (M : Mem) (c0 : Nat) (hc0 : c0 < 93) (hk0 : kd c0 = 1) : MI l D y ad yX1_dulls (Cond.code yX1_dulls cX1_dulls 1 (some .int)) 0 M [.ref (ad c0)] (fun _ M' => M = M') := by
  refine MI_of (by decide) (Nat.le_of_ble_eq_true rfl) ?_
  intro p e s m args below meth c X hr hlocks
  refine j_lv (lv1 := [(0, .ref (ad c0))]) [0] rfl ?_
  refine j_aload_n X 0 rfl rfl dX1_dulls_0 ?_
  refine j_get X hc0 (wE_1 _ hk0) rfl awF1 0 (by decide) aw_175 rfl (v := .int (M c0 0)) rfl dX1_dulls_1 ?_
  by_cases w_1 : (M c0 0) = 1
  · refine j_tsw_in X 44 1 w_1 (by decide) (by decide) (off := 40) rfl (by decide) dX1_dulls_4 ?_
    have qw_1 := ti_eq (n := 1) (by decide) w_1
    refine j_iconst X (v := 4) (by decide) dX1_dulls_44 ?_
    exact j_iret X hr hlocks dX1_dulls_45 rfl
  by_cases w_2 : (M c0 0) = 2
  · refine j_tsw_in X 46 2 w_2 (by decide) (by decide) (off := 42) rfl (by decide) dX1_dulls_4 ?_
    have qw_2 := ti_eq (n := 2) (by decide) w_2
    refine j_bipush X (v := 6) (by decide) dX1_dulls_46 ?_
    exact j_iret X hr hlocks dX1_dulls_48 rfl
  by_cases w_3 : (M c0 0) = 3
  · refine j_tsw_in X 49 3 w_3 (by decide) (by decide) (off := 45) rfl (by decide) dX1_dulls_4 ?_
    have qw_3 := ti_eq (n := 3) (by decide) w_3
    refine j_iconst X (v := 1) (by decide) dX1_dulls_49 ?_
    exact j_iret X hr hlocks dX1_dulls_50 rfl
  by_cases w_4 : (M c0 0) = 4
  · refine j_tsw_in X 44 4 w_4 (by decide) (by decide) (off := 40) rfl (by decide) dX1_dulls_4 ?_
    have qw_4 := ti_eq (n := 4) (by decide) w_4
    refine j_iconst X (v := 4) (by decide) dX1_dulls_44 ?_
    exact j_iret X hr hlocks dX1_dulls_45 rfl
  by_cases w_5 : (M c0 0) = 5
  · refine j_tsw_in X 46 5 w_5 (by decide) (by decide) (off := 42) rfl (by decide) dX1_dulls_4 ?_
    have qw_5 := ti_eq (n := 5) (by decide) w_5
    refine j_bipush X (v := 6) (by decide) dX1_dulls_46 ?_
    exact j_iret X hr hlocks dX1_dulls_48 rfl
  by_cases w_6 : (M c0 0) = 6
  · refine j_tsw_in X 49 6 w_6 (by decide) (by decide) (off := 45) rfl (by decide) dX1_dulls_4 ?_
    have qw_6 := ti_eq (n := 6) (by decide) w_6
    refine j_iconst X (v := 1) (by decide) dX1_dulls_49 ?_
    exact j_iret X hr hlocks dX1_dulls_50 rfl
  have qw_1 := ti_ne (n := 1) (by decide) w_1
  have qw_2 := ti_ne (n := 2) (by decide) w_2
  have qw_3 := ti_ne (n := 3) (by decide) w_3
  have qw_4 := ti_ne (n := 4) (by decide) w_4
  have qw_5 := ti_ne (n := 5) (by decide) w_5
  have qw_6 := ti_ne (n := 6) (by decide) w_6
  refine j_tsw_out X 51 (by omega) (by decide) dX1_dulls_4 ?_
  refine j_iconst X (v := 3) (by decide) dX1_dulls_51 ?_
  exact j_iret X hr hlocks dX1_dulls_52 rfl
set_option maxRecDepth 100000 in
set_option maxHeartbeats 4000000 in
theorem g_gains (l : Launch) (D : va_G) (y : wY) (ad : Nat → Nat) (M : Mem) (c0 : Nat) (hc0 : c0 < 93) (hk0 : kd c0 = 1) (v dd : Int32) : MI l D y ad yX1_gains (Cond.code yX1_gains cX1_gains 3 (some .int)) 1 M [.ref (ad c0), .int v, .int dd] (fun _ M' => M = M') := by
  refine MI_of (by decide) (Nat.le_of_ble_eq_true rfl) ?_
  intro p e s m args below meth c X hr hlocks
  refine j_lv (lv1 := [(0, .ref (ad c0)), (1, .int v), (2, .int dd)]) [0, 1, 2] rfl ?_
  refine j_aload_n X 0 rfl rfl dX1_gains_0 ?_
  refine j_get X hc0 (wE_1 _ hk0) rfl awF1 0 (by decide) aw_175 rfl (v := .int (M c0 0)) rfl dX1_gains_1 ?_
  by_cases w_1 : (M c0 0) = 1
  · refine j_tsw_in X 44 1 w_1 (by decide) (by decide) (off := 40) rfl (by decide) dX1_gains_4 ?_
    have qw_1 := ti_eq (n := 1) (by decide) w_1
    refine j_iload_n X 1 rfl rfl dX1_gains_44 ?_
    refine j_aload_n X 0 rfl rfl dX1_gains_45 ?_
    refine j_get X hc0 (wE_1 _ hk0) rfl awF1 1 (by decide) aw_176 rfl (v := .int (M c0 1)) rfl dX1_gains_46 ?_
    refine j_iadd X dX1_gains_49 ?_
    exact j_iret X hr hlocks dX1_gains_50 rfl
  by_cases w_2 : (M c0 0) = 2
  · refine j_tsw_in X 51 2 w_2 (by decide) (by decide) (off := 47) rfl (by decide) dX1_gains_4 ?_
    have qw_2 := ti_eq (n := 2) (by decide) w_2
    refine j_iconst X (v := 2) (by decide) dX1_gains_51 ?_
    refine j_iload_n X 1 rfl rfl dX1_gains_52 ?_
    refine j_imul X dX1_gains_53 ?_
    exact j_iret X hr hlocks dX1_gains_54 rfl
  by_cases w_3 : (M c0 0) = 3
  · refine j_tsw_in X 55 3 w_3 (by decide) (by decide) (off := 51) rfl (by decide) dX1_gains_4 ?_
    have qw_3 := ti_eq (n := 3) (by decide) w_3
    refine j_iload_n X 1 rfl rfl dX1_gains_55 ?_
    refine j_iconst X (v := 2) (by decide) dX1_gains_56 ?_
    refine j_idiv X (by decide) dX1_gains_57 ?_
    exact j_iret X hr hlocks dX1_gains_58 rfl
  by_cases w_4 : (M c0 0) = 4
  · refine j_tsw_in X 59 4 w_4 (by decide) (by decide) (off := 55) rfl (by decide) dX1_gains_4 ?_
    have qw_4 := ti_eq (n := 4) (by decide) w_4
    refine j_iconst X (v := 0) (by decide) dX1_gains_59 ?_
    refine j_iload_n X 1 rfl rfl dX1_gains_60 ?_
    refine j_aload_n X 0 rfl rfl dX1_gains_61 ?_
    refine j_get X hc0 (wE_1 _ hk0) rfl awF1 1 (by decide) aw_176 rfl (v := .int (M c0 1)) rfl dX1_gains_62 ?_
    refine j_iadd X dX1_gains_65 ?_
    refine j_aload_n X 0 rfl rfl dX1_gains_66 ?_
    refine j_get X hc0 (wE_1 _ hk0) rfl awF1 5 (by decide) aw_218 rfl (v := .int (M c0 5)) rfl dX1_gains_67 ?_
    refine j_bipush X (v := 10) (by decide) dX1_gains_70 ?_
    refine j_idiv X (by decide) dX1_gains_72 ?_
    refine j_isub X dX1_gains_73 ?_
    refine j_mmax X aw_219 aw_206 aw_203 aw_207 (by decide) (Nat.le_of_ble_eq_true rfl) (by decide) (by decide) dX1_gains_74 ?_
    exact j_iret X hr hlocks dX1_gains_77 rfl
  by_cases w_5 : (M c0 0) = 5
  · refine j_tsw_in X 78 5 w_5 (by decide) (by decide) (off := 74) rfl (by decide) dX1_gains_4 ?_
    have qw_5 := ti_eq (n := 5) (by decide) w_5
    refine j_iload_n X 2 rfl rfl dX1_gains_78 ?_
    refine j_bipush X (v := 6) (by decide) dX1_gains_79 ?_
    refine j_irem X (by decide) dX1_gains_81 ?_
    refine j_if_ne X 89 (by decide) dX1_gains_82 (fun c_6 => ?_) (fun c_6 => ?_)
    · have qc_6 := ti_ne (n := 0) (by decide) c_6
      refine j_iconst X (v := 2) (by decide) dX1_gains_89 ?_
      refine j_iload_n X 1 rfl rfl dX1_gains_90 ?_
      refine j_imul X dX1_gains_91 ?_
      exact j_iret X hr hlocks dX1_gains_92 rfl
    · have qc_6 := ti_eq (n := 0) (by decide) c_6
      refine j_iconst X (v := 0) (by decide) dX1_gains_85 ?_
      refine j_goto X 92 (by decide) dX1_gains_86 ?_
      exact j_iret X hr hlocks dX1_gains_92 rfl
  by_cases w_7 : (M c0 0) = 6
  · refine j_tsw_in X 93 6 w_7 (by decide) (by decide) (off := 89) rfl (by decide) dX1_gains_4 ?_
    have qw_7 := ti_eq (n := 6) (by decide) w_7
    refine j_iconst X (v := 0) (by decide) dX1_gains_93 ?_
    exact j_iret X hr hlocks dX1_gains_94 rfl
  have qw_1 := ti_ne (n := 1) (by decide) w_1
  have qw_2 := ti_ne (n := 2) (by decide) w_2
  have qw_3 := ti_ne (n := 3) (by decide) w_3
  have qw_4 := ti_ne (n := 4) (by decide) w_4
  have qw_5 := ti_ne (n := 5) (by decide) w_5
  have qw_7 := ti_ne (n := 6) (by decide) w_7
  refine j_tsw_out X 95 (by omega) (by decide) dX1_gains_4 ?_
  refine j_iload_n X 1 rfl rfl dX1_gains_95 ?_
  exact j_iret X hr hlocks dX1_gains_96 rfl
def BoolOK (x : Int32) : Prop := x = 0 ∨ x = 1
def KindOK (x : Int32) : Prop := ∃ j : Nat, j ≤ 6 ∧ x = nI j
theorem nar_bool {x : Int32} (h : BoolOK x) : narrow .boolean (.int x) = .int x := by rcases h with rfl | rfl <;> rfl
theorem fit_bool {x : Int32} (h : BoolOK x) : fits .boolean (.int x) = true := by rcases h with rfl | rfl <;> rfl
set_option maxRecDepth 100000 in
set_option maxHeartbeats 4000000 in
theorem g_joined (l : Launch) (D : va_G) (y : wY) (ad : Nat → Nat) (M : Mem) (sg v w : Int32) : MI l D y ad yX4_joined (Cond.code yX4_joined cX4_joined 3 (some .int)) 0 M [.int sg, .int v, .int w] (fun _ M' => M = M') := by
  refine MI_of (by decide) (Nat.le_of_ble_eq_true rfl) ?_
  intro p e s m args below meth c X hr hlocks
  refine j_lv (lv1 := [(0, .int sg), (1, .int v), (2, .int w)]) [0, 1, 2] rfl ?_
  refine j_iload_n X 0 rfl rfl dX4_joined_0 ?_
  by_cases w_1 : sg = 37
  · refine j_lsw X 177 (by decide) (off := 176) (by rw [w_1]; decide) (by decide) dX4_joined_1 ?_
    have qw_1 := ti_eq (n := 37) (by decide) w_1
    refine j_iload_n X 2 rfl rfl dX4_joined_177 ?_
    refine j_if_ne X 185 (by decide) dX4_joined_178 (fun c_2 => ?_) (fun c_2 => ?_)
    · have qc_2 := ti_ne (n := 0) (by decide) c_2
      refine j_iload_n X 1 rfl rfl dX4_joined_185 ?_
      refine j_iload_n X 2 rfl rfl dX4_joined_186 ?_
      refine j_irem X c_2 dX4_joined_187 ?_
      exact j_iret X hr hlocks dX4_joined_188 rfl
    · have qc_2 := ti_eq (n := 0) (by decide) c_2
      refine j_iconst X (v := 0) (by decide) dX4_joined_181 ?_
      refine j_goto X 188 (by decide) dX4_joined_182 ?_
      exact j_iret X hr hlocks dX4_joined_188 rfl
  by_cases w_3 : sg = 38
  · refine j_lsw X 106 (by decide) (off := 105) (by rw [w_3]; decide) (by decide) dX4_joined_1 ?_
    have qw_3 := ti_eq (n := 38) (by decide) w_3
    refine j_iload_n X 1 rfl rfl dX4_joined_106 ?_
    refine j_if_eq X 118 (by decide) dX4_joined_107 (fun c_4 => ?_) (fun c_4 => ?_)
    · have qc_4 := ti_eq (n := 0) (by decide) c_4
      refine j_iconst X (v := 0) (by decide) dX4_joined_118 ?_
      exact j_iret X hr hlocks dX4_joined_119 rfl
    · have qc_4 := ti_ne (n := 0) (by decide) c_4
      refine j_iload_n X 2 rfl rfl dX4_joined_110 ?_
      refine j_if_eq X 118 (by decide) dX4_joined_111 (fun c_5 => ?_) (fun c_5 => ?_)
      · have qc_5 := ti_eq (n := 0) (by decide) c_5
        refine j_iconst X (v := 0) (by decide) dX4_joined_118 ?_
        exact j_iret X hr hlocks dX4_joined_119 rfl
      · have qc_5 := ti_ne (n := 0) (by decide) c_5
        refine j_iconst X (v := 1) (by decide) dX4_joined_114 ?_
        refine j_goto X 119 (by decide) dX4_joined_115 ?_
        exact j_iret X hr hlocks dX4_joined_119 rfl
  by_cases w_6 : sg = 42
  · refine j_lsw X 161 (by decide) (off := 160) (by rw [w_6]; decide) (by decide) dX4_joined_1 ?_
    have qw_6 := ti_eq (n := 42) (by decide) w_6
    refine j_iload_n X 1 rfl rfl dX4_joined_161 ?_
    refine j_iload_n X 2 rfl rfl dX4_joined_162 ?_
    refine j_imul X dX4_joined_163 ?_
    exact j_iret X hr hlocks dX4_joined_164 rfl
  by_cases w_7 : sg = 43
  · refine j_lsw X 153 (by decide) (off := 152) (by rw [w_7]; decide) (by decide) dX4_joined_1 ?_
    have qw_7 := ti_eq (n := 43) (by decide) w_7
    refine j_iload_n X 1 rfl rfl dX4_joined_153 ?_
    refine j_iload_n X 2 rfl rfl dX4_joined_154 ?_
    refine j_iadd X dX4_joined_155 ?_
    exact j_iret X hr hlocks dX4_joined_156 rfl
  by_cases w_8 : sg = 45
  · refine j_lsw X 157 (by decide) (off := 156) (by rw [w_8]; decide) (by decide) dX4_joined_1 ?_
    have qw_8 := ti_eq (n := 45) (by decide) w_8
    refine j_iload_n X 1 rfl rfl dX4_joined_157 ?_
    refine j_iload_n X 2 rfl rfl dX4_joined_158 ?_
    refine j_isub X dX4_joined_159 ?_
    exact j_iret X hr hlocks dX4_joined_160 rfl
  by_cases w_9 : sg = 47
  · refine j_lsw X 165 (by decide) (off := 164) (by rw [w_9]; decide) (by decide) dX4_joined_1 ?_
    have qw_9 := ti_eq (n := 47) (by decide) w_9
    refine j_iload_n X 2 rfl rfl dX4_joined_165 ?_
    refine j_if_ne X 173 (by decide) dX4_joined_166 (fun c_10 => ?_) (fun c_10 => ?_)
    · have qc_10 := ti_ne (n := 0) (by decide) c_10
      refine j_iload_n X 1 rfl rfl dX4_joined_173 ?_
      refine j_iload_n X 2 rfl rfl dX4_joined_174 ?_
      refine j_idiv X c_10 dX4_joined_175 ?_
      exact j_iret X hr hlocks dX4_joined_176 rfl
    · have qc_10 := ti_eq (n := 0) (by decide) c_10
      refine j_iconst X (v := 0) (by decide) dX4_joined_169 ?_
      refine j_goto X 176 (by decide) dX4_joined_170 ?_
      exact j_iret X hr hlocks dX4_joined_176 rfl
  by_cases w_11 : sg = 60
  · refine j_lsw X 120 (by decide) (off := 119) (by rw [w_11]; decide) (by decide) dX4_joined_1 ?_
    have qw_11 := ti_eq (n := 60) (by decide) w_11
    refine j_iload_n X 1 rfl rfl dX4_joined_120 ?_
    refine j_iload_n X 2 rfl rfl dX4_joined_121 ?_
    refine j_icmp_ge X 129 (by decide) dX4_joined_122 (fun c_12 => ?_) (fun c_12 => ?_)
    · have qc_12 := ti_le (a := w.toInt) (b := v.toInt) rfl rfl c_12
      refine j_iconst X (v := 0) (by decide) dX4_joined_129 ?_
      exact j_iret X hr hlocks dX4_joined_130 rfl
    · have qc_12 := ti_nle (a := w.toInt) (b := v.toInt) rfl rfl c_12
      refine j_iconst X (v := 1) (by decide) dX4_joined_125 ?_
      refine j_goto X 130 (by decide) dX4_joined_126 ?_
      exact j_iret X hr hlocks dX4_joined_130 rfl
  by_cases w_13 : sg = 61
  · refine j_lsw X 131 (by decide) (off := 130) (by rw [w_13]; decide) (by decide) dX4_joined_1 ?_
    have qw_13 := ti_eq (n := 61) (by decide) w_13
    refine j_iload_n X 1 rfl rfl dX4_joined_131 ?_
    refine j_iload_n X 2 rfl rfl dX4_joined_132 ?_
    refine j_icmp_ne X 140 (by decide) dX4_joined_133 (fun c_14 => ?_) (fun c_14 => ?_)
    · refine j_iconst X (v := 0) (by decide) dX4_joined_140 ?_
      exact j_iret X hr hlocks dX4_joined_141 rfl
    · refine j_iconst X (v := 1) (by decide) dX4_joined_136 ?_
      refine j_goto X 141 (by decide) dX4_joined_137 ?_
      exact j_iret X hr hlocks dX4_joined_141 rfl
  by_cases w_15 : sg = 62
  · refine j_lsw X 142 (by decide) (off := 141) (by rw [w_15]; decide) (by decide) dX4_joined_1 ?_
    have qw_15 := ti_eq (n := 62) (by decide) w_15
    refine j_iload_n X 1 rfl rfl dX4_joined_142 ?_
    refine j_iload_n X 2 rfl rfl dX4_joined_143 ?_
    refine j_icmp_le X 151 (by decide) dX4_joined_144 (fun c_16 => ?_) (fun c_16 => ?_)
    · have qc_16 := ti_le (a := v.toInt) (b := w.toInt) rfl rfl c_16
      refine j_iconst X (v := 0) (by decide) dX4_joined_151 ?_
      exact j_iret X hr hlocks dX4_joined_152 rfl
    · have qc_16 := ti_nle (a := v.toInt) (b := w.toInt) rfl rfl c_16
      refine j_iconst X (v := 1) (by decide) dX4_joined_147 ?_
      refine j_goto X 152 (by decide) dX4_joined_148 ?_
      exact j_iret X hr hlocks dX4_joined_152 rfl
  by_cases w_17 : sg = 124
  · refine j_lsw X 92 (by decide) (off := 91) (by rw [w_17]; decide) (by decide) dX4_joined_1 ?_
    have qw_17 := ti_eq (n := 124) (by decide) w_17
    refine j_iload_n X 1 rfl rfl dX4_joined_92 ?_
    refine j_if_ne X 100 (by decide) dX4_joined_93 (fun c_18 => ?_) (fun c_18 => ?_)
    · have qc_18 := ti_ne (n := 0) (by decide) c_18
      refine j_iconst X (v := 1) (by decide) dX4_joined_100 ?_
      refine j_goto X 105 (by decide) dX4_joined_101 ?_
      exact j_iret X hr hlocks dX4_joined_105 rfl
    · have qc_18 := ti_eq (n := 0) (by decide) c_18
      refine j_iload_n X 2 rfl rfl dX4_joined_96 ?_
      refine j_if_eq X 104 (by decide) dX4_joined_97 (fun c_19 => ?_) (fun c_19 => ?_)
      · have qc_19 := ti_eq (n := 0) (by decide) c_19
        refine j_iconst X (v := 0) (by decide) dX4_joined_104 ?_
        exact j_iret X hr hlocks dX4_joined_105 rfl
      · have qc_19 := ti_ne (n := 0) (by decide) c_19
        refine j_iconst X (v := 1) (by decide) dX4_joined_100 ?_
        refine j_goto X 105 (by decide) dX4_joined_101 ?_
        exact j_iret X hr hlocks dX4_joined_105 rfl
  have qw_1 := ti_ne (n := 37) (by decide) w_1
  have qw_3 := ti_ne (n := 38) (by decide) w_3
  have qw_6 := ti_ne (n := 42) (by decide) w_6
  have qw_7 := ti_ne (n := 43) (by decide) w_7
  have qw_8 := ti_ne (n := 45) (by decide) w_8
  have qw_9 := ti_ne (n := 47) (by decide) w_9
  have qw_11 := ti_ne (n := 60) (by decide) w_11
  have qw_13 := ti_ne (n := 61) (by decide) w_13
  have qw_15 := ti_ne (n := 62) (by decide) w_15
  have qw_17 := ti_ne (n := 124) (by decide) w_17
  refine j_lsw X 189 (by decide) (off := 188) (by simp [Op.lookupswitch.offset, qw_1, Ne.symm qw_1, qw_3, Ne.symm qw_3, qw_6, Ne.symm qw_6, qw_7, Ne.symm qw_7, qw_8, Ne.symm qw_8, qw_9, Ne.symm qw_9, qw_11, Ne.symm qw_11, qw_13, Ne.symm qw_13, qw_15, Ne.symm qw_15, qw_17, Ne.symm qw_17]) (by decide) dX4_joined_1 ?_
  refine j_iload_n X 1 rfl rfl dX4_joined_189 ?_
  refine j_if_ne X 197 (by decide) dX4_joined_190 (fun c_20 => ?_) (fun c_20 => ?_)
  · have qc_20 := ti_ne (n := 0) (by decide) c_20
    refine j_iconst X (v := 0) (by decide) dX4_joined_197 ?_
    exact j_iret X hr hlocks dX4_joined_198 rfl
  · have qc_20 := ti_eq (n := 0) (by decide) c_20
    refine j_iconst X (v := 1) (by decide) dX4_joined_193 ?_
    refine j_goto X 198 (by decide) dX4_joined_194 ?_
    exact j_iret X hr hlocks dX4_joined_198 rfl
