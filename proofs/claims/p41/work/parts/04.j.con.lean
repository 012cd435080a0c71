theorem dX8_workedOut_0 : decode cX8_workedOut 0 = .ok (.iload_n 0, 1) := dk_26 (by decide +kernel)
theorem dX8_workedOut_1 : decode cX8_workedOut 1 = .ok (.tableswitch 202 37 62 #[135, 188, 202, 202, 202, 119, 147, 202, 151, 202, 123, 202, 202, 202, 202, 202, 202, 202, 202, 202, 202, 202, 202, 155, 166, 177], 119) := by decide +kernel
theorem dX8_workedOut_136 : decode cX8_workedOut 136 = .ok (.iload_n 2, 1) := dk_28 (by decide +kernel)
theorem dX8_workedOut_137 : decode cX8_workedOut 137 = .ok (.ifCond .ne 7, 3) := dk_154 (by decide +kernel)
theorem dX8_workedOut_144 : decode cX8_workedOut 144 = .ok (.iload_n 1, 1) := dk_27 (by decide +kernel)
theorem dX8_workedOut_145 : decode cX8_workedOut 145 = .ok (.iload_n 2, 1) := dk_28 (by decide +kernel)
theorem dX8_workedOut_146 : decode cX8_workedOut 146 = .ok (.irem, 1) := dk_112 (by decide +kernel)
theorem dX8_workedOut_147 : decode cX8_workedOut 147 = .ok (.ireturn, 1) := dk_172 (by decide +kernel)
theorem dX8_workedOut_140 : decode cX8_workedOut 140 = .ok (.iconst 0, 1) := dk_3 (by decide +kernel)
theorem dX8_workedOut_141 : decode cX8_workedOut 141 = .ok (.goto 6, 3) := dk_167 (by decide +kernel)
theorem dX8_workedOut_189 : decode cX8_workedOut 189 = .ok (.iload_n 1, 1) := dk_27 (by decide +kernel)
theorem dX8_workedOut_190 : decode cX8_workedOut 190 = .ok (.ifCond .eq 11, 3) := dk_153 (by decide +kernel)
theorem dX8_workedOut_201 : decode cX8_workedOut 201 = .ok (.iconst 0, 1) := dk_3 (by decide +kernel)
theorem dX8_workedOut_202 : decode cX8_workedOut 202 = .ok (.ireturn, 1) := dk_172 (by decide +kernel)
theorem dX8_workedOut_193 : decode cX8_workedOut 193 = .ok (.iload_n 2, 1) := dk_28 (by decide +kernel)
theorem dX8_workedOut_194 : decode cX8_workedOut 194 = .ok (.ifCond .eq 7, 3) := dk_153 (by decide +kernel)
theorem dX8_workedOut_197 : decode cX8_workedOut 197 = .ok (.iconst 1, 1) := dk_4 (by decide +kernel)
theorem dX8_workedOut_198 : decode cX8_workedOut 198 = .ok (.goto 4, 3) := dk_167 (by decide +kernel)
theorem dX8_workedOut_203 : decode cX8_workedOut 203 = .ok (.iload_n 1, 1) := dk_27 (by decide +kernel)
theorem dX8_workedOut_204 : decode cX8_workedOut 204 = .ok (.ifCond .ne 7, 3) := dk_154 (by decide +kernel)
theorem dX8_workedOut_211 : decode cX8_workedOut 211 = .ok (.iconst 1, 1) := dk_4 (by decide +kernel)
theorem dX8_workedOut_212 : decode cX8_workedOut 212 = .ok (.goto 4, 3) := dk_167 (by decide +kernel)
theorem dX8_workedOut_216 : decode cX8_workedOut 216 = .ok (.ireturn, 1) := dk_172 (by decide +kernel)
theorem dX8_workedOut_207 : decode cX8_workedOut 207 = .ok (.iload_n 2, 1) := dk_28 (by decide +kernel)
theorem dX8_workedOut_208 : decode cX8_workedOut 208 = .ok (.ifCond .eq 7, 3) := dk_153 (by decide +kernel)
theorem dX8_workedOut_215 : decode cX8_workedOut 215 = .ok (.iconst 0, 1) := dk_3 (by decide +kernel)
theorem dX8_workedOut_120 : decode cX8_workedOut 120 = .ok (.iload_n 1, 1) := dk_27 (by decide +kernel)
theorem dX8_workedOut_121 : decode cX8_workedOut 121 = .ok (.iload_n 2, 1) := dk_28 (by decide +kernel)
theorem dX8_workedOut_122 : decode cX8_workedOut 122 = .ok (.imul, 1) := dk_104 (by decide +kernel)
theorem dX8_workedOut_123 : decode cX8_workedOut 123 = .ok (.ireturn, 1) := dk_172 (by decide +kernel)
theorem dX8_workedOut_148 : decode cX8_workedOut 148 = .ok (.iload_n 1, 1) := dk_27 (by decide +kernel)
theorem dX8_workedOut_149 : decode cX8_workedOut 149 = .ok (.iload_n 2, 1) := dk_28 (by decide +kernel)
theorem dX8_workedOut_150 : decode cX8_workedOut 150 = .ok (.iadd, 1) := dk_96 (by decide +kernel)
theorem dX8_workedOut_151 : decode cX8_workedOut 151 = .ok (.ireturn, 1) := dk_172 (by decide +kernel)
theorem dX8_workedOut_152 : decode cX8_workedOut 152 = .ok (.iload_n 1, 1) := dk_27 (by decide +kernel)
theorem dX8_workedOut_153 : decode cX8_workedOut 153 = .ok (.iload_n 2, 1) := dk_28 (by decide +kernel)
theorem dX8_workedOut_154 : decode cX8_workedOut 154 = .ok (.isub, 1) := dk_100 (by decide +kernel)
theorem dX8_workedOut_155 : decode cX8_workedOut 155 = .ok (.ireturn, 1) := dk_172 (by decide +kernel)
theorem dX8_workedOut_124 : decode cX8_workedOut 124 = .ok (.iload_n 2, 1) := dk_28 (by decide +kernel)
theorem dX8_workedOut_125 : decode cX8_workedOut 125 = .ok (.ifCond .ne 7, 3) := dk_154 (by decide +kernel)
theorem dX8_workedOut_132 : decode cX8_workedOut 132 = .ok (.iload_n 1, 1) := dk_27 (by decide +kernel)
theorem dX8_workedOut_133 : decode cX8_workedOut 133 = .ok (.iload_n 2, 1) := dk_28 (by decide +kernel)
theorem dX8_workedOut_134 : decode cX8_workedOut 134 = .ok (.idiv, 1) := dk_108 (by decide +kernel)
theorem dX8_workedOut_135 : decode cX8_workedOut 135 = .ok (.ireturn, 1) := dk_172 (by decide +kernel)
theorem dX8_workedOut_128 : decode cX8_workedOut 128 = .ok (.iconst 0, 1) := dk_3 (by decide +kernel)
theorem dX8_workedOut_129 : decode cX8_workedOut 129 = .ok (.goto 6, 3) := dk_167 (by decide +kernel)
theorem dX8_workedOut_156 : decode cX8_workedOut 156 = .ok (.iload_n 1, 1) := dk_27 (by decide +kernel)
theorem dX8_workedOut_157 : decode cX8_workedOut 157 = .ok (.iload_n 2, 1) := dk_28 (by decide +kernel)
theorem dX8_workedOut_158 : decode cX8_workedOut 158 = .ok (.if_icmp .ge 7, 3) := dk_162 (by decide +kernel)
theorem dX8_workedOut_165 : decode cX8_workedOut 165 = .ok (.iconst 0, 1) := dk_3 (by decide +kernel)
theorem dX8_workedOut_166 : decode cX8_workedOut 166 = .ok (.ireturn, 1) := dk_172 (by decide +kernel)
theorem dX8_workedOut_161 : decode cX8_workedOut 161 = .ok (.iconst 1, 1) := dk_4 (by decide +kernel)
theorem dX8_workedOut_162 : decode cX8_workedOut 162 = .ok (.goto 4, 3) := dk_167 (by decide +kernel)
theorem dX8_workedOut_167 : decode cX8_workedOut 167 = .ok (.iload_n 1, 1) := dk_27 (by decide +kernel)
theorem dX8_workedOut_168 : decode cX8_workedOut 168 = .ok (.iload_n 2, 1) := dk_28 (by decide +kernel)
theorem dX8_workedOut_169 : decode cX8_workedOut 169 = .ok (.if_icmp .ne 7, 3) := dk_160 (by decide +kernel)
theorem dX8_workedOut_176 : decode cX8_workedOut 176 = .ok (.iconst 0, 1) := dk_3 (by decide +kernel)
theorem dX8_workedOut_177 : decode cX8_workedOut 177 = .ok (.ireturn, 1) := dk_172 (by decide +kernel)
theorem dX8_workedOut_172 : decode cX8_workedOut 172 = .ok (.iconst 1, 1) := dk_4 (by decide +kernel)
theorem dX8_workedOut_173 : decode cX8_workedOut 173 = .ok (.goto 4, 3) := dk_167 (by decide +kernel)
theorem dX8_workedOut_178 : decode cX8_workedOut 178 = .ok (.iload_n 1, 1) := dk_27 (by decide +kernel)
theorem dX8_workedOut_179 : decode cX8_workedOut 179 = .ok (.iload_n 2, 1) := dk_28 (by decide +kernel)
theorem dX8_workedOut_180 : decode cX8_workedOut 180 = .ok (.if_icmp .le 7, 3) := dk_164 (by decide +kernel)
theorem dX8_workedOut_187 : decode cX8_workedOut 187 = .ok (.iconst 0, 1) := dk_3 (by decide +kernel)
theorem dX8_workedOut_188 : decode cX8_workedOut 188 = .ok (.ireturn, 1) := dk_172 (by decide +kernel)
theorem dX8_workedOut_183 : decode cX8_workedOut 183 = .ok (.iconst 1, 1) := dk_4 (by decide +kernel)
theorem dX8_workedOut_184 : decode cX8_workedOut 184 = .ok (.goto 4, 3) := dk_167 (by decide +kernel)
set_option maxRecDepth 100000 in
set_option maxHeartbeats 8000000 in
theorem x_X8_workedOut (l : Launch) (D : va_G) (y : wY) (ad : Nat → Nat) (i0 : Int32) (i1 : Int32) (i2 : Int32) (M : Mem) (K : Int32 → Mem → Prop) (h : wp_X8_workedOut i0 i1 i2 M K) : MI l D y ad yX8_workedOut (Cond.code yX8_workedOut cX8_workedOut 3 (some .int)) 0 M [.int i0, .int i1, .int i2] K := by
  refine MI_of (by decide) (Nat.le_of_ble_eq_true rfl) ?_
  intro p e s m args below meth c X hr hlocks
  delta wp_X8_workedOut at h
  refine j_lv (lv1 := [(0, .int i0), (1, .int i1), (2, .int i2)]) [0, 1, 2] rfl ?_
  refine j_iload_n X 0 rfl rfl dX8_workedOut_0 ?_
  by_cases w_1 : i0 = 37
  · replace h := h.1 w_1
    refine j_tsw_in X 136 37 w_1 (by decide) (by decide) (off := 135) rfl (by decide) dX8_workedOut_1 ?_
    refine j_iload_n X 2 rfl rfl dX8_workedOut_136 ?_
    refine j_if_ne X 144 (by decide) dX8_workedOut_137 (fun q_2 => ?_) (fun q_2 => ?_)
    · replace h := h.1 q_2
      refine j_iload_n X 1 rfl rfl dX8_workedOut_144 ?_
      refine j_iload_n X 2 rfl rfl dX8_workedOut_145 ?_
      obtain ⟨hn_3, h⟩ := h
      refine j_irem X hn_3 dX8_workedOut_146 ?_
      exact j_iret X hr hlocks dX8_workedOut_147 h
    · replace h := h.2 q_2
      refine j_iconst X (v := 0) (by decide) dX8_workedOut_140 ?_
      refine j_goto X 147 (by decide) dX8_workedOut_141 ?_
      exact j_iret X hr hlocks dX8_workedOut_147 h
  replace h := h.2 w_1
  by_cases w_4 : i0 = 38
  · replace h := h.1 w_4
    refine j_tsw_in X 189 38 w_4 (by decide) (by decide) (off := 188) rfl (by decide) dX8_workedOut_1 ?_
    refine j_iload_n X 1 rfl rfl dX8_workedOut_189 ?_
    refine j_if_eq X 201 (by decide) dX8_workedOut_190 (fun q_5 => ?_) (fun q_5 => ?_)
    · replace h := h.1 q_5
      refine j_iconst X (v := 0) (by decide) dX8_workedOut_201 ?_
      exact j_iret X hr hlocks dX8_workedOut_202 h
    · replace h := h.2 q_5
      refine j_iload_n X 2 rfl rfl dX8_workedOut_193 ?_
      refine j_if_eq X 201 (by decide) dX8_workedOut_194 (fun q_6 => ?_) (fun q_6 => ?_)
      · replace h := h.1 q_6
        refine j_iconst X (v := 0) (by decide) dX8_workedOut_201 ?_
        exact j_iret X hr hlocks dX8_workedOut_202 h
      · replace h := h.2 q_6
        refine j_iconst X (v := 1) (by decide) dX8_workedOut_197 ?_
        refine j_goto X 202 (by decide) dX8_workedOut_198 ?_
        exact j_iret X hr hlocks dX8_workedOut_202 h
  replace h := h.2 w_4
  by_cases w_7 : i0 = 39
  · replace h := h.1 w_7
    refine j_tsw_in X 203 39 w_7 (by decide) (by decide) (off := 202) rfl (by decide) dX8_workedOut_1 ?_
    refine j_iload_n X 1 rfl rfl dX8_workedOut_203 ?_
    refine j_if_ne X 211 (by decide) dX8_workedOut_204 (fun q_8 => ?_) (fun q_8 => ?_)
    · replace h := h.1 q_8
      refine j_iconst X (v := 1) (by decide) dX8_workedOut_211 ?_
      refine j_goto X 216 (by decide) dX8_workedOut_212 ?_
      exact j_iret X hr hlocks dX8_workedOut_216 h
    · replace h := h.2 q_8
      refine j_iload_n X 2 rfl rfl dX8_workedOut_207 ?_
      refine j_if_eq X 215 (by decide) dX8_workedOut_208 (fun q_9 => ?_) (fun q_9 => ?_)
      · replace h := h.1 q_9
        refine j_iconst X (v := 0) (by decide) dX8_workedOut_215 ?_
        exact j_iret X hr hlocks dX8_workedOut_216 h
      · replace h := h.2 q_9
        refine j_iconst X (v := 1) (by decide) dX8_workedOut_211 ?_
        refine j_goto X 216 (by decide) dX8_workedOut_212 ?_
        exact j_iret X hr hlocks dX8_workedOut_216 h
  replace h := h.2 w_7
  by_cases w_10 : i0 = 40
  · replace h := h.1 w_10
    refine j_tsw_in X 203 40 w_10 (by decide) (by decide) (off := 202) rfl (by decide) dX8_workedOut_1 ?_
    refine j_iload_n X 1 rfl rfl dX8_workedOut_203 ?_
    refine j_if_ne X 211 (by decide) dX8_workedOut_204 (fun q_11 => ?_) (fun q_11 => ?_)
    · replace h := h.1 q_11
      refine j_iconst X (v := 1) (by decide) dX8_workedOut_211 ?_
      refine j_goto X 216 (by decide) dX8_workedOut_212 ?_
      exact j_iret X hr hlocks dX8_workedOut_216 h
    · replace h := h.2 q_11
      refine j_iload_n X 2 rfl rfl dX8_workedOut_207 ?_
      refine j_if_eq X 215 (by decide) dX8_workedOut_208 (fun q_12 => ?_) (fun q_12 => ?_)
      · replace h := h.1 q_12
        refine j_iconst X (v := 0) (by decide) dX8_workedOut_215 ?_
        exact j_iret X hr hlocks dX8_workedOut_216 h
      · replace h := h.2 q_12
        refine j_iconst X (v := 1) (by decide) dX8_workedOut_211 ?_
        refine j_goto X 216 (by decide) dX8_workedOut_212 ?_
        exact j_iret X hr hlocks dX8_workedOut_216 h
  replace h := h.2 w_10
  by_cases w_13 : i0 = 41
  · replace h := h.1 w_13
    refine j_tsw_in X 203 41 w_13 (by decide) (by decide) (off := 202) rfl (by decide) dX8_workedOut_1 ?_
    refine j_iload_n X 1 rfl rfl dX8_workedOut_203 ?_
    refine j_if_ne X 211 (by decide) dX8_workedOut_204 (fun q_14 => ?_) (fun q_14 => ?_)
    · replace h := h.1 q_14
      refine j_iconst X (v := 1) (by decide) dX8_workedOut_211 ?_
      refine j_goto X 216 (by decide) dX8_workedOut_212 ?_
      exact j_iret X hr hlocks dX8_workedOut_216 h
    · replace h := h.2 q_14
      refine j_iload_n X 2 rfl rfl dX8_workedOut_207 ?_
      refine j_if_eq X 215 (by decide) dX8_workedOut_208 (fun q_15 => ?_) (fun q_15 => ?_)
      · replace h := h.1 q_15
        refine j_iconst X (v := 0) (by decide) dX8_workedOut_215 ?_
        exact j_iret X hr hlocks dX8_workedOut_216 h
      · replace h := h.2 q_15
        refine j_iconst X (v := 1) (by decide) dX8_workedOut_211 ?_
        refine j_goto X 216 (by decide) dX8_workedOut_212 ?_
        exact j_iret X hr hlocks dX8_workedOut_216 h
  replace h := h.2 w_13
  by_cases w_16 : i0 = 42
  · replace h := h.1 w_16
    refine j_tsw_in X 120 42 w_16 (by decide) (by decide) (off := 119) rfl (by decide) dX8_workedOut_1 ?_
    refine j_iload_n X 1 rfl rfl dX8_workedOut_120 ?_
    refine j_iload_n X 2 rfl rfl dX8_workedOut_121 ?_
    refine j_imul X dX8_workedOut_122 ?_
    exact j_iret X hr hlocks dX8_workedOut_123 h
  replace h := h.2 w_16
  by_cases w_17 : i0 = 43
  · replace h := h.1 w_17
    refine j_tsw_in X 148 43 w_17 (by decide) (by decide) (off := 147) rfl (by decide) dX8_workedOut_1 ?_
    refine j_iload_n X 1 rfl rfl dX8_workedOut_148 ?_
    refine j_iload_n X 2 rfl rfl dX8_workedOut_149 ?_
    refine j_iadd X dX8_workedOut_150 ?_
    exact j_iret X hr hlocks dX8_workedOut_151 h
  replace h := h.2 w_17
  by_cases w_18 : i0 = 44
  · replace h := h.1 w_18
    refine j_tsw_in X 203 44 w_18 (by decide) (by decide) (off := 202) rfl (by decide) dX8_workedOut_1 ?_
    refine j_iload_n X 1 rfl rfl dX8_workedOut_203 ?_
    refine j_if_ne X 211 (by decide) dX8_workedOut_204 (fun q_19 => ?_) (fun q_19 => ?_)
    · replace h := h.1 q_19
      refine j_iconst X (v := 1) (by decide) dX8_workedOut_211 ?_
      refine j_goto X 216 (by decide) dX8_workedOut_212 ?_
      exact j_iret X hr hlocks dX8_workedOut_216 h
    · replace h := h.2 q_19
      refine j_iload_n X 2 rfl rfl dX8_workedOut_207 ?_
      refine j_if_eq X 215 (by decide) dX8_workedOut_208 (fun q_20 => ?_) (fun q_20 => ?_)
      · replace h := h.1 q_20
        refine j_iconst X (v := 0) (by decide) dX8_workedOut_215 ?_
        exact j_iret X hr hlocks dX8_workedOut_216 h
      · replace h := h.2 q_20
        refine j_iconst X (v := 1) (by decide) dX8_workedOut_211 ?_
        refine j_goto X 216 (by decide) dX8_workedOut_212 ?_
        exact j_iret X hr hlocks dX8_workedOut_216 h
  replace h := h.2 w_18
  by_cases w_21 : i0 = 45
  · replace h := h.1 w_21
    refine j_tsw_in X 152 45 w_21 (by decide) (by decide) (off := 151) rfl (by decide) dX8_workedOut_1 ?_
    refine j_iload_n X 1 rfl rfl dX8_workedOut_152 ?_
    refine j_iload_n X 2 rfl rfl dX8_workedOut_153 ?_
    refine j_isub X dX8_workedOut_154 ?_
    exact j_iret X hr hlocks dX8_workedOut_155 h
  replace h := h.2 w_21
  by_cases w_22 : i0 = 46
  · replace h := h.1 w_22
    refine j_tsw_in X 203 46 w_22 (by decide) (by decide) (off := 202) rfl (by decide) dX8_workedOut_1 ?_
    refine j_iload_n X 1 rfl rfl dX8_workedOut_203 ?_
    refine j_if_ne X 211 (by decide) dX8_workedOut_204 (fun q_23 => ?_) (fun q_23 => ?_)
    · replace h := h.1 q_23
      refine j_iconst X (v := 1) (by decide) dX8_workedOut_211 ?_
      refine j_goto X 216 (by decide) dX8_workedOut_212 ?_
      exact j_iret X hr hlocks dX8_workedOut_216 h
    · replace h := h.2 q_23
      refine j_iload_n X 2 rfl rfl dX8_workedOut_207 ?_
      refine j_if_eq X 215 (by decide) dX8_workedOut_208 (fun q_24 => ?_) (fun q_24 => ?_)
      · replace h := h.1 q_24
        refine j_iconst X (v := 0) (by decide) dX8_workedOut_215 ?_
        exact j_iret X hr hlocks dX8_workedOut_216 h
      · replace h := h.2 q_24
        refine j_iconst X (v := 1) (by decide) dX8_workedOut_211 ?_
        refine j_goto X 216 (by decide) dX8_workedOut_212 ?_
        exact j_iret X hr hlocks dX8_workedOut_216 h
  replace h := h.2 w_22
  by_cases w_25 : i0 = 47
  · replace h := h.1 w_25
    refine j_tsw_in X 124 47 w_25 (by decide) (by decide) (off := 123) rfl (by decide) dX8_workedOut_1 ?_
    refine j_iload_n X 2 rfl rfl dX8_workedOut_124 ?_
    refine j_if_ne X 132 (by decide) dX8_workedOut_125 (fun q_26 => ?_) (fun q_26 => ?_)
    · replace h := h.1 q_26
      refine j_iload_n X 1 rfl rfl dX8_workedOut_132 ?_
      refine j_iload_n X 2 rfl rfl dX8_workedOut_133 ?_
      obtain ⟨hn_27, h⟩ := h
      refine j_idiv X hn_27 dX8_workedOut_134 ?_
      exact j_iret X hr hlocks dX8_workedOut_135 h
    · replace h := h.2 q_26
      refine j_iconst X (v := 0) (by decide) dX8_workedOut_128 ?_
      refine j_goto X 135 (by decide) dX8_workedOut_129 ?_
      exact j_iret X hr hlocks dX8_workedOut_135 h
  replace h := h.2 w_25
  by_cases w_28 : i0 = 48
  · replace h := h.1 w_28
    refine j_tsw_in X 203 48 w_28 (by decide) (by decide) (off := 202) rfl (by decide) dX8_workedOut_1 ?_
    refine j_iload_n X 1 rfl rfl dX8_workedOut_203 ?_
    refine j_if_ne X 211 (by decide) dX8_workedOut_204 (fun q_29 => ?_) (fun q_29 => ?_)
    · replace h := h.1 q_29
      refine j_iconst X (v := 1) (by decide) dX8_workedOut_211 ?_
      refine j_goto X 216 (by decide) dX8_workedOut_212 ?_
      exact j_iret X hr hlocks dX8_workedOut_216 h
    · replace h := h.2 q_29
      refine j_iload_n X 2 rfl rfl dX8_workedOut_207 ?_
      refine j_if_eq X 215 (by decide) dX8_workedOut_208 (fun q_30 => ?_) (fun q_30 => ?_)
      · replace h := h.1 q_30
        refine j_iconst X (v := 0) (by decide) dX8_workedOut_215 ?_
        exact j_iret X hr hlocks dX8_workedOut_216 h
      · replace h := h.2 q_30
        refine j_iconst X (v := 1) (by decide) dX8_workedOut_211 ?_
        refine j_goto X 216 (by decide) dX8_workedOut_212 ?_
        exact j_iret X hr hlocks dX8_workedOut_216 h
  replace h := h.2 w_28
  by_cases w_31 : i0 = 49
  · replace h := h.1 w_31
    refine j_tsw_in X 203 49 w_31 (by decide) (by decide) (off := 202) rfl (by decide) dX8_workedOut_1 ?_
    refine j_iload_n X 1 rfl rfl dX8_workedOut_203 ?_
    refine j_if_ne X 211 (by decide) dX8_workedOut_204 (fun q_32 => ?_) (fun q_32 => ?_)
    · replace h := h.1 q_32
      refine j_iconst X (v := 1) (by decide) dX8_workedOut_211 ?_
      refine j_goto X 216 (by decide) dX8_workedOut_212 ?_
      exact j_iret X hr hlocks dX8_workedOut_216 h
    · replace h := h.2 q_32
      refine j_iload_n X 2 rfl rfl dX8_workedOut_207 ?_
      refine j_if_eq X 215 (by decide) dX8_workedOut_208 (fun q_33 => ?_) (fun q_33 => ?_)
      · replace h := h.1 q_33
        refine j_iconst X (v := 0) (by decide) dX8_workedOut_215 ?_
        exact j_iret X hr hlocks dX8_workedOut_216 h
      · replace h := h.2 q_33
        refine j_iconst X (v := 1) (by decide) dX8_workedOut_211 ?_
        refine j_goto X 216 (by decide) dX8_workedOut_212 ?_
        exact j_iret X hr hlocks dX8_workedOut_216 h
  replace h := h.2 w_31
  by_cases w_34 : i0 = 50
  · replace h := h.1 w_34
    refine j_tsw_in X 203 50 w_34 (by decide) (by decide) (off := 202) rfl (by decide) dX8_workedOut_1 ?_
    refine j_iload_n X 1 rfl rfl dX8_workedOut_203 ?_
    refine j_if_ne X 211 (by decide) dX8_workedOut_204 (fun q_35 => ?_) (fun q_35 => ?_)
    · replace h := h.1 q_35
      refine j_iconst X (v := 1) (by decide) dX8_workedOut_211 ?_
      refine j_goto X 216 (by decide) dX8_workedOut_212 ?_
      exact j_iret X hr hlocks dX8_workedOut_216 h
    · replace h := h.2 q_35
      refine j_iload_n X 2 rfl rfl dX8_workedOut_207 ?_
      refine j_if_eq X 215 (by decide) dX8_workedOut_208 (fun q_36 => ?_) (fun q_36 => ?_)
      · replace h := h.1 q_36
        refine j_iconst X (v := 0) (by decide) dX8_workedOut_215 ?_
        exact j_iret X hr hlocks dX8_workedOut_216 h
      · replace h := h.2 q_36
        refine j_iconst X (v := 1) (by decide) dX8_workedOut_211 ?_
        refine j_goto X 216 (by decide) dX8_workedOut_212 ?_
        exact j_iret X hr hlocks dX8_workedOut_216 h
  replace h := h.2 w_34
  by_cases w_37 : i0 = 51
  · replace h := h.1 w_37
    refine j_tsw_in X 203 51 w_37 (by decide) (by decide) (off := 202) rfl (by decide) dX8_workedOut_1 ?_
    refine j_iload_n X 1 rfl rfl dX8_workedOut_203 ?_
    refine j_if_ne X 211 (by decide) dX8_workedOut_204 (fun q_38 => ?_) (fun q_38 => ?_)
    · replace h := h.1 q_38
      refine j_iconst X (v := 1) (by decide) dX8_workedOut_211 ?_
      refine j_goto X 216 (by decide) dX8_workedOut_212 ?_
      exact j_iret X hr hlocks dX8_workedOut_216 h
    · replace h := h.2 q_38
      refine j_iload_n X 2 rfl rfl dX8_workedOut_207 ?_
      refine j_if_eq X 215 (by decide) dX8_workedOut_208 (fun q_39 => ?_) (fun q_39 => ?_)
      · replace h := h.1 q_39
        refine j_iconst X (v := 0) (by decide) dX8_workedOut_215 ?_
        exact j_iret X hr hlocks dX8_workedOut_216 h
      · replace h := h.2 q_39
        refine j_iconst X (v := 1) (by decide) dX8_workedOut_211 ?_
        refine j_goto X 216 (by decide) dX8_workedOut_212 ?_
        exact j_iret X hr hlocks dX8_workedOut_216 h
  replace h := h.2 w_37
  by_cases w_40 : i0 = 52
  · replace h := h.1 w_40
    refine j_tsw_in X 203 52 w_40 (by decide) (by decide) (off := 202) rfl (by decide) dX8_workedOut_1 ?_
    refine j_iload_n X 1 rfl rfl dX8_workedOut_203 ?_
    refine j_if_ne X 211 (by decide) dX8_workedOut_204 (fun q_41 => ?_) (fun q_41 => ?_)
    · replace h := h.1 q_41
      refine j_iconst X (v := 1) (by decide) dX8_workedOut_211 ?_
      refine j_goto X 216 (by decide) dX8_workedOut_212 ?_
      exact j_iret X hr hlocks dX8_workedOut_216 h
    · replace h := h.2 q_41
      refine j_iload_n X 2 rfl rfl dX8_workedOut_207 ?_
      refine j_if_eq X 215 (by decide) dX8_workedOut_208 (fun q_42 => ?_) (fun q_42 => ?_)
      · replace h := h.1 q_42
        refine j_iconst X (v := 0) (by decide) dX8_workedOut_215 ?_
        exact j_iret X hr hlocks dX8_workedOut_216 h
      · replace h := h.2 q_42
        refine j_iconst X (v := 1) (by decide) dX8_workedOut_211 ?_
        refine j_goto X 216 (by decide) dX8_workedOut_212 ?_
        exact j_iret X hr hlocks dX8_workedOut_216 h
  replace h := h.2 w_40
  by_cases w_43 : i0 = 53
  · replace h := h.1 w_43
    refine j_tsw_in X 203 53 w_43 (by decide) (by decide) (off := 202) rfl (by decide) dX8_workedOut_1 ?_
    refine j_iload_n X 1 rfl rfl dX8_workedOut_203 ?_
    refine j_if_ne X 211 (by decide) dX8_workedOut_204 (fun q_44 => ?_) (fun q_44 => ?_)
    · replace h := h.1 q_44
      refine j_iconst X (v := 1) (by decide) dX8_workedOut_211 ?_
      refine j_goto X 216 (by decide) dX8_workedOut_212 ?_
      exact j_iret X hr hlocks dX8_workedOut_216 h
    · replace h := h.2 q_44
      refine j_iload_n X 2 rfl rfl dX8_workedOut_207 ?_
      refine j_if_eq X 215 (by decide) dX8_workedOut_208 (fun q_45 => ?_) (fun q_45 => ?_)
      · replace h := h.1 q_45
        refine j_iconst X (v := 0) (by decide) dX8_workedOut_215 ?_
        exact j_iret X hr hlocks dX8_workedOut_216 h
      · replace h := h.2 q_45
        refine j_iconst X (v := 1) (by decide) dX8_workedOut_211 ?_
        refine j_goto X 216 (by decide) dX8_workedOut_212 ?_
        exact j_iret X hr hlocks dX8_workedOut_216 h
  replace h := h.2 w_43
  by_cases w_46 : i0 = 54
  · replace h := h.1 w_46
    refine j_tsw_in X 203 54 w_46 (by decide) (by decide) (off := 202) rfl (by decide) dX8_workedOut_1 ?_
    refine j_iload_n X 1 rfl rfl dX8_workedOut_203 ?_
    refine j_if_ne X 211 (by decide) dX8_workedOut_204 (fun q_47 => ?_) (fun q_47 => ?_)
    · replace h := h.1 q_47
      refine j_iconst X (v := 1) (by decide) dX8_workedOut_211 ?_
      refine j_goto X 216 (by decide) dX8_workedOut_212 ?_
      exact j_iret X hr hlocks dX8_workedOut_216 h
    · replace h := h.2 q_47
      refine j_iload_n X 2 rfl rfl dX8_workedOut_207 ?_
      refine j_if_eq X 215 (by decide) dX8_workedOut_208 (fun q_48 => ?_) (fun q_48 => ?_)
      · replace h := h.1 q_48
        refine j_iconst X (v := 0) (by decide) dX8_workedOut_215 ?_
        exact j_iret X hr hlocks dX8_workedOut_216 h
      · replace h := h.2 q_48
        refine j_iconst X (v := 1) (by decide) dX8_workedOut_211 ?_
        refine j_goto X 216 (by decide) dX8_workedOut_212 ?_
        exact j_iret X hr hlocks dX8_workedOut_216 h
  replace h := h.2 w_46
  by_cases w_49 : i0 = 55
  · replace h := h.1 w_49
    refine j_tsw_in X 203 55 w_49 (by decide) (by decide) (off := 202) rfl (by decide) dX8_workedOut_1 ?_
    refine j_iload_n X 1 rfl rfl dX8_workedOut_203 ?_
    refine j_if_ne X 211 (by decide) dX8_workedOut_204 (fun q_50 => ?_) (fun q_50 => ?_)
    · replace h := h.1 q_50
      refine j_iconst X (v := 1) (by decide) dX8_workedOut_211 ?_
      refine j_goto X 216 (by decide) dX8_workedOut_212 ?_
      exact j_iret X hr hlocks dX8_workedOut_216 h
    · replace h := h.2 q_50
      refine j_iload_n X 2 rfl rfl dX8_workedOut_207 ?_
      refine j_if_eq X 215 (by decide) dX8_workedOut_208 (fun q_51 => ?_) (fun q_51 => ?_)
      · replace h := h.1 q_51
        refine j_iconst X (v := 0) (by decide) dX8_workedOut_215 ?_
        exact j_iret X hr hlocks dX8_workedOut_216 h
      · replace h := h.2 q_51
        refine j_iconst X (v := 1) (by decide) dX8_workedOut_211 ?_
        refine j_goto X 216 (by decide) dX8_workedOut_212 ?_
        exact j_iret X hr hlocks dX8_workedOut_216 h
  replace h := h.2 w_49
  by_cases w_52 : i0 = 56
  · replace h := h.1 w_52
    refine j_tsw_in X 203 56 w_52 (by decide) (by decide) (off := 202) rfl (by decide) dX8_workedOut_1 ?_
    refine j_iload_n X 1 rfl rfl dX8_workedOut_203 ?_
    refine j_if_ne X 211 (by decide) dX8_workedOut_204 (fun q_53 => ?_) (fun q_53 => ?_)
    · replace h := h.1 q_53
      refine j_iconst X (v := 1) (by decide) dX8_workedOut_211 ?_
      refine j_goto X 216 (by decide) dX8_workedOut_212 ?_
      exact j_iret X hr hlocks dX8_workedOut_216 h
    · replace h := h.2 q_53
      refine j_iload_n X 2 rfl rfl dX8_workedOut_207 ?_
      refine j_if_eq X 215 (by decide) dX8_workedOut_208 (fun q_54 => ?_) (fun q_54 => ?_)
      · replace h := h.1 q_54
        refine j_iconst X (v := 0) (by decide) dX8_workedOut_215 ?_
        exact j_iret X hr hlocks dX8_workedOut_216 h
      · replace h := h.2 q_54
        refine j_iconst X (v := 1) (by decide) dX8_workedOut_211 ?_
        refine j_goto X 216 (by decide) dX8_workedOut_212 ?_
        exact j_iret X hr hlocks dX8_workedOut_216 h
  replace h := h.2 w_52
  by_cases w_55 : i0 = 57
  · replace h := h.1 w_55
    refine j_tsw_in X 203 57 w_55 (by decide) (by decide) (off := 202) rfl (by decide) dX8_workedOut_1 ?_
    refine j_iload_n X 1 rfl rfl dX8_workedOut_203 ?_
    refine j_if_ne X 211 (by decide) dX8_workedOut_204 (fun q_56 => ?_) (fun q_56 => ?_)
    · replace h := h.1 q_56
      refine j_iconst X (v := 1) (by decide) dX8_workedOut_211 ?_
      refine j_goto X 216 (by decide) dX8_workedOut_212 ?_
      exact j_iret X hr hlocks dX8_workedOut_216 h
    · replace h := h.2 q_56
      refine j_iload_n X 2 rfl rfl dX8_workedOut_207 ?_
      refine j_if_eq X 215 (by decide) dX8_workedOut_208 (fun q_57 => ?_) (fun q_57 => ?_)
      · replace h := h.1 q_57
        refine j_iconst X (v := 0) (by decide) dX8_workedOut_215 ?_
        exact j_iret X hr hlocks dX8_workedOut_216 h
      · replace h := h.2 q_57
        refine j_iconst X (v := 1) (by decide) dX8_workedOut_211 ?_
        refine j_goto X 216 (by decide) dX8_workedOut_212 ?_
        exact j_iret X hr hlocks dX8_workedOut_216 h
  replace h := h.2 w_55
  by_cases w_58 : i0 = 58
  · replace h := h.1 w_58
    refine j_tsw_in X 203 58 w_58 (by decide) (by decide) (off := 202) rfl (by decide) dX8_workedOut_1 ?_
    refine j_iload_n X 1 rfl rfl dX8_workedOut_203 ?_
    refine j_if_ne X 211 (by decide) dX8_workedOut_204 (fun q_59 => ?_) (fun q_59 => ?_)
    · replace h := h.1 q_59
      refine j_iconst X (v := 1) (by decide) dX8_workedOut_211 ?_
      refine j_goto X 216 (by decide) dX8_workedOut_212 ?_
      exact j_iret X hr hlocks dX8_workedOut_216 h
    · replace h := h.2 q_59
      refine j_iload_n X 2 rfl rfl dX8_workedOut_207 ?_
      refine j_if_eq X 215 (by decide) dX8_workedOut_208 (fun q_60 => ?_) (fun q_60 => ?_)
      · replace h := h.1 q_60
        refine j_iconst X (v := 0) (by decide) dX8_workedOut_215 ?_
        exact j_iret X hr hlocks dX8_workedOut_216 h
      · replace h := h.2 q_60
        refine j_iconst X (v := 1) (by decide) dX8_workedOut_211 ?_
        refine j_goto X 216 (by decide) dX8_workedOut_212 ?_
        exact j_iret X hr hlocks dX8_workedOut_216 h
  replace h := h.2 w_58
  by_cases w_61 : i0 = 59
  · replace h := h.1 w_61
    refine j_tsw_in X 203 59 w_61 (by decide) (by decide) (off := 202) rfl (by decide) dX8_workedOut_1 ?_
    refine j_iload_n X 1 rfl rfl dX8_workedOut_203 ?_
    refine j_if_ne X 211 (by decide) dX8_workedOut_204 (fun q_62 => ?_) (fun q_62 => ?_)
    · replace h := h.1 q_62
      refine j_iconst X (v := 1) (by decide) dX8_workedOut_211 ?_
      refine j_goto X 216 (by decide) dX8_workedOut_212 ?_
      exact j_iret X hr hlocks dX8_workedOut_216 h
    · replace h := h.2 q_62
      refine j_iload_n X 2 rfl rfl dX8_workedOut_207 ?_
      refine j_if_eq X 215 (by decide) dX8_workedOut_208 (fun q_63 => ?_) (fun q_63 => ?_)
      · replace h := h.1 q_63
        refine j_iconst X (v := 0) (by decide) dX8_workedOut_215 ?_
        exact j_iret X hr hlocks dX8_workedOut_216 h
      · replace h := h.2 q_63
        refine j_iconst X (v := 1) (by decide) dX8_workedOut_211 ?_
        refine j_goto X 216 (by decide) dX8_workedOut_212 ?_
        exact j_iret X hr hlocks dX8_workedOut_216 h
  replace h := h.2 w_61
  by_cases w_64 : i0 = 60
  · replace h := h.1 w_64
    refine j_tsw_in X 156 60 w_64 (by decide) (by decide) (off := 155) rfl (by decide) dX8_workedOut_1 ?_
    refine j_iload_n X 1 rfl rfl dX8_workedOut_156 ?_
    refine j_iload_n X 2 rfl rfl dX8_workedOut_157 ?_
    refine j_icmp_ge X 165 (by decide) dX8_workedOut_158 (fun q_65 => ?_) (fun q_65 => ?_)
    · replace h := h.1 q_65
      refine j_iconst X (v := 0) (by decide) dX8_workedOut_165 ?_
      exact j_iret X hr hlocks dX8_workedOut_166 h
    · replace h := h.2 q_65
      refine j_iconst X (v := 1) (by decide) dX8_workedOut_161 ?_
      refine j_goto X 166 (by decide) dX8_workedOut_162 ?_
      exact j_iret X hr hlocks dX8_workedOut_166 h
  replace h := h.2 w_64
  by_cases w_66 : i0 = 61
  · replace h := h.1 w_66
    refine j_tsw_in X 167 61 w_66 (by decide) (by decide) (off := 166) rfl (by decide) dX8_workedOut_1 ?_
    refine j_iload_n X 1 rfl rfl dX8_workedOut_167 ?_
    refine j_iload_n X 2 rfl rfl dX8_workedOut_168 ?_
    refine j_icmp_ne X 176 (by decide) dX8_workedOut_169 (fun q_67 => ?_) (fun q_67 => ?_)
    · replace h := h.1 q_67
      refine j_iconst X (v := 0) (by decide) dX8_workedOut_176 ?_
      exact j_iret X hr hlocks dX8_workedOut_177 h
    · replace h := h.2 q_67
      refine j_iconst X (v := 1) (by decide) dX8_workedOut_172 ?_
      refine j_goto X 177 (by decide) dX8_workedOut_173 ?_
      exact j_iret X hr hlocks dX8_workedOut_177 h
  replace h := h.2 w_66
  by_cases w_68 : i0 = 62
  · replace h := h.1 w_68
    refine j_tsw_in X 178 62 w_68 (by decide) (by decide) (off := 177) rfl (by decide) dX8_workedOut_1 ?_
    refine j_iload_n X 1 rfl rfl dX8_workedOut_178 ?_
    refine j_iload_n X 2 rfl rfl dX8_workedOut_179 ?_
    refine j_icmp_le X 187 (by decide) dX8_workedOut_180 (fun q_69 => ?_) (fun q_69 => ?_)
    · replace h := h.1 q_69
      refine j_iconst X (v := 0) (by decide) dX8_workedOut_187 ?_
      exact j_iret X hr hlocks dX8_workedOut_188 h
    · replace h := h.2 q_69
      refine j_iconst X (v := 1) (by decide) dX8_workedOut_183 ?_
      refine j_goto X 188 (by decide) dX8_workedOut_184 ?_
      exact j_iret X hr hlocks dX8_workedOut_188 h
  replace h := h.2 w_68
  have qw_1 := ti_ne (n := 37) (by decide) w_1
  have qw_4 := ti_ne (n := 38) (by decide) w_4
  have qw_7 := ti_ne (n := 39) (by decide) w_7
  have qw_10 := ti_ne (n := 40) (by decide) w_10
  have qw_13 := ti_ne (n := 41) (by decide) w_13
  have qw_16 := ti_ne (n := 42) (by decide) w_16
  have qw_17 := ti_ne (n := 43) (by decide) w_17
  have qw_18 := ti_ne (n := 44) (by decide) w_18
  have qw_21 := ti_ne (n := 45) (by decide) w_21
  have qw_22 := ti_ne (n := 46) (by decide) w_22
  have qw_25 := ti_ne (n := 47) (by decide) w_25
  have qw_28 := ti_ne (n := 48) (by decide) w_28
  have qw_31 := ti_ne (n := 49) (by decide) w_31
  have qw_34 := ti_ne (n := 50) (by decide) w_34
  have qw_37 := ti_ne (n := 51) (by decide) w_37
  have qw_40 := ti_ne (n := 52) (by decide) w_40
  have qw_43 := ti_ne (n := 53) (by decide) w_43
  have qw_46 := ti_ne (n := 54) (by decide) w_46
  have qw_49 := ti_ne (n := 55) (by decide) w_49
  have qw_52 := ti_ne (n := 56) (by decide) w_52
  have qw_55 := ti_ne (n := 57) (by decide) w_55
  have qw_58 := ti_ne (n := 58) (by decide) w_58
  have qw_61 := ti_ne (n := 59) (by decide) w_61
  have qw_64 := ti_ne (n := 60) (by decide) w_64
  have qw_66 := ti_ne (n := 61) (by decide) w_66
  have qw_68 := ti_ne (n := 62) (by decide) w_68
  refine j_tsw_out X 203 (by omega) (by decide) dX8_workedOut_1 ?_
  refine j_iload_n X 1 rfl rfl dX8_workedOut_203 ?_
  refine j_if_ne X 211 (by decide) dX8_workedOut_204 (fun q_70 => ?_) (fun q_70 => ?_)
  · replace h := h.1 q_70
    refine j_iconst X (v := 1) (by decide) dX8_workedOut_211 ?_
    refine j_goto X 216 (by decide) dX8_workedOut_212 ?_
    exact j_iret X hr hlocks dX8_workedOut_216 h
  · replace h := h.2 q_70
    refine j_iload_n X 2 rfl rfl dX8_workedOut_207 ?_
    refine j_if_eq X 215 (by decide) dX8_workedOut_208 (fun q_71 => ?_) (fun q_71 => ?_)
    · replace h := h.1 q_71
      refine j_iconst X (v := 0) (by decide) dX8_workedOut_215 ?_
      exact j_iret X hr hlocks dX8_workedOut_216 h
    · replace h := h.2 q_71
      refine j_iconst X (v := 1) (by decide) dX8_workedOut_211 ?_
      refine j_goto X 216 (by decide) dX8_workedOut_212 ?_
      exact j_iret X hr hlocks dX8_workedOut_216 h
theorem dX8_walks_39 : decode cX8_walks 39 = .ok (.iload 7, 2) := dk_21 (by decide +kernel)
theorem dX8_walks_41 : decode cX8_walks 41 = .ok (.iload 5, 2) := dk_21 (by decide +kernel)
theorem dX8_walks_43 : decode cX8_walks 43 = .ok (.aload_n 0, 1) := dk_42 (by decide +kernel)
theorem dX8_walks_44 : decode cX8_walks 44 = .ok (.getfield 7, 3) := dk_180 (by decide +kernel)
theorem dX8_walks_47 : decode cX8_walks 47 = .ok (.iconst 5, 1) := dk_8 (by decide +kernel)
theorem dX8_walks_48 : decode cX8_walks 48 = .ok (.iload_n 1, 1) := dk_27 (by decide +kernel)
theorem dX8_walks_49 : decode cX8_walks 49 = .ok (.iadd, 1) := dk_96 (by decide +kernel)
theorem dX8_walks_50 : decode cX8_walks 50 = .ok (.iaload, 1) := dk_46 (by decide +kernel)
theorem dX8_walks_51 : decode cX8_walks 51 = .ok (.iadd, 1) := dk_96 (by decide +kernel)
theorem dX8_walks_52 : decode cX8_walks 52 = .ok (.if_icmp .ge 137, 3) := dk_162 (by decide +kernel)
theorem dX8_walks_189 : decode cX8_walks 189 = .ok (.aload_n 0, 1) := dk_42 (by decide +kernel)
theorem dX8_walks_190 : decode cX8_walks 190 = .ok (.getfield 25, 3) := dk_180 (by decide +kernel)
theorem dX8_walks_193 : decode cX8_walks 193 = .ok (.iconst 0, 1) := dk_3 (by decide +kernel)
theorem dX8_walks_194 : decode cX8_walks 194 = .ok (.iaload, 1) := dk_46 (by decide +kernel)
theorem dX8_walks_195 : decode cX8_walks 195 = .ok (.ireturn, 1) := dk_172 (by decide +kernel)
theorem dX8_walks_55 : decode cX8_walks 55 = .ok (.aload_n 0, 1) := dk_42 (by decide +kernel)
theorem dX8_walks_56 : decode cX8_walks 56 = .ok (.getfield 7, 3) := dk_180 (by decide +kernel)
theorem dX8_walks_59 : decode cX8_walks 59 = .ok (.iload 7, 2) := dk_21 (by decide +kernel)
theorem dX8_walks_61 : decode cX8_walks 61 = .ok (.iaload, 1) := dk_46 (by decide +kernel)
theorem dX8_walks_62 : decode cX8_walks 62 = .ok (.istore 8, 2) := dk_54 (by decide +kernel)
theorem dX8_walks_64 : decode cX8_walks 64 = .ok (.iload 8, 2) := dk_21 (by decide +kernel)
theorem dX8_walks_66 : decode cX8_walks 66 = .ok (.sipush 20000, 3) := dk_17 (by decide +kernel)
theorem dX8_walks_69 : decode cX8_walks 69 = .ok (.if_icmp .ge 40, 3) := dk_162 (by decide +kernel)
theorem dX8_walks_109 : decode cX8_walks 109 = .ok (.iload 8, 2) := dk_21 (by decide +kernel)
theorem dX8_walks_111 : decode cX8_walks 111 = .ok (.sipush 20033, 3) := dk_17 (by decide +kernel)
theorem dX8_walks_114 : decode cX8_walks 114 = .ok (.if_icmp .ne 32, 3) := dk_160 (by decide +kernel)
theorem dX8_walks_146 : decode cX8_walks 146 = .ok (.iinc 6 (-1), 3) := dk_132 (by decide +kernel)
theorem dX8_walks_149 : decode cX8_walks 149 = .ok (.aload_n 0, 1) := dk_42 (by decide +kernel)
theorem dX8_walks_150 : decode cX8_walks 150 = .ok (.getfield 25, 3) := dk_180 (by decide +kernel)
theorem dX8_walks_153 : decode cX8_walks 153 = .ok (.iload 6, 2) := dk_21 (by decide +kernel)
theorem dX8_walks_155 : decode cX8_walks 155 = .ok (.iconst 1, 1) := dk_4 (by decide +kernel)
theorem dX8_walks_156 : decode cX8_walks 156 = .ok (.isub, 1) := dk_100 (by decide +kernel)
theorem dX8_walks_157 : decode cX8_walks 157 = .ok (.iload 8, 2) := dk_21 (by decide +kernel)
theorem dX8_walks_159 : decode cX8_walks 159 = .ok (.sipush 20000, 3) := dk_17 (by decide +kernel)
theorem dX8_walks_162 : decode cX8_walks 162 = .ok (.isub, 1) := dk_100 (by decide +kernel)
theorem dX8_walks_163 : decode cX8_walks 163 = .ok (.aload_n 0, 1) := dk_42 (by decide +kernel)
theorem dX8_walks_164 : decode cX8_walks 164 = .ok (.getfield 25, 3) := dk_180 (by decide +kernel)
theorem dX8_walks_167 : decode cX8_walks 167 = .ok (.iload 6, 2) := dk_21 (by decide +kernel)
theorem dX8_walks_169 : decode cX8_walks 169 = .ok (.iconst 1, 1) := dk_4 (by decide +kernel)
theorem dX8_walks_170 : decode cX8_walks 170 = .ok (.isub, 1) := dk_100 (by decide +kernel)
theorem dX8_walks_171 : decode cX8_walks 171 = .ok (.iaload, 1) := dk_46 (by decide +kernel)
theorem dX8_walks_172 : decode cX8_walks 172 = .ok (.aload_n 0, 1) := dk_42 (by decide +kernel)
theorem dX8_walks_173 : decode cX8_walks 173 = .ok (.getfield 25, 3) := dk_180 (by decide +kernel)
theorem dX8_walks_176 : decode cX8_walks 176 = .ok (.iload 6, 2) := dk_21 (by decide +kernel)
theorem dX8_walks_178 : decode cX8_walks 178 = .ok (.iaload, 1) := dk_46 (by decide +kernel)
theorem dX8_walks_179 : decode cX8_walks 179 = .ok (.invokestatic 143, 3) := dk_184 (by decide +kernel)
theorem dX8_walks_182 : decode cX8_walks 182 = .ok (.iastore, 1) := dk_79 (by decide +kernel)
theorem dX8_walks_183 : decode cX8_walks 183 = .ok (.iinc 7 1, 3) := dk_132 (by decide +kernel)
theorem dX8_walks_186 : decode cX8_walks 186 = .ok (.goto (-147), 3) := dk_167 (by decide +kernel)
theorem dX8_walks_117 : decode cX8_walks 117 = .ok (.aload_n 0, 1) := dk_42 (by decide +kernel)
theorem dX8_walks_118 : decode cX8_walks 118 = .ok (.getfield 25, 3) := dk_180 (by decide +kernel)
theorem dX8_walks_121 : decode cX8_walks 121 = .ok (.iload 6, 2) := dk_21 (by decide +kernel)
theorem dX8_walks_123 : decode cX8_walks 123 = .ok (.iconst 1, 1) := dk_4 (by decide +kernel)
theorem dX8_walks_124 : decode cX8_walks 124 = .ok (.isub, 1) := dk_100 (by decide +kernel)
theorem dX8_walks_125 : decode cX8_walks 125 = .ok (.aload_n 0, 1) := dk_42 (by decide +kernel)
theorem dX8_walks_126 : decode cX8_walks 126 = .ok (.getfield 25, 3) := dk_180 (by decide +kernel)
theorem dX8_walks_129 : decode cX8_walks 129 = .ok (.iload 6, 2) := dk_21 (by decide +kernel)
theorem dX8_walks_131 : decode cX8_walks 131 = .ok (.iconst 1, 1) := dk_4 (by decide +kernel)
theorem dX8_walks_132 : decode cX8_walks 132 = .ok (.isub, 1) := dk_100 (by decide +kernel)
theorem dX8_walks_133 : decode cX8_walks 133 = .ok (.iaload, 1) := dk_46 (by decide +kernel)
theorem dX8_walks_134 : decode cX8_walks 134 = .ok (.ifCond .ne 7, 3) := dk_154 (by decide +kernel)
theorem dX8_walks_141 : decode cX8_walks 141 = .ok (.iconst 0, 1) := dk_3 (by decide +kernel)
theorem dX8_walks_142 : decode cX8_walks 142 = .ok (.iastore, 1) := dk_79 (by decide +kernel)
theorem dX8_walks_143 : decode cX8_walks 143 = .ok (.goto 40, 3) := dk_167 (by decide +kernel)
theorem dX8_walks_137 : decode cX8_walks 137 = .ok (.iconst 1, 1) := dk_4 (by decide +kernel)
theorem dX8_walks_138 : decode cX8_walks 138 = .ok (.goto 4, 3) := dk_167 (by decide +kernel)
theorem dX8_walks_72 : decode cX8_walks 72 = .ok (.aload_n 0, 1) := dk_42 (by decide +kernel)
theorem dX8_walks_73 : decode cX8_walks 73 = .ok (.getfield 25, 3) := dk_180 (by decide +kernel)
theorem dX8_walks_76 : decode cX8_walks 76 = .ok (.iload 6, 2) := dk_21 (by decide +kernel)
theorem dX8_walks_78 : decode cX8_walks 78 = .ok (.iload 8, 2) := dk_21 (by decide +kernel)
theorem dX8_walks_80 : decode cX8_walks 80 = .ok (.sipush 10000, 3) := dk_17 (by decide +kernel)
theorem dX8_walks_83 : decode cX8_walks 83 = .ok (.if_icmp .ge 8, 3) := dk_162 (by decide +kernel)
theorem dX8_walks_91 : decode cX8_walks 91 = .ok (.aload_n 0, 1) := dk_42 (by decide +kernel)
theorem dX8_walks_92 : decode cX8_walks 92 = .ok (.getfield 28, 3) := dk_180 (by decide +kernel)
theorem dX8_walks_95 : decode cX8_walks 95 = .ok (.iload 8, 2) := dk_21 (by decide +kernel)
theorem dX8_walks_97 : decode cX8_walks 97 = .ok (.sipush 10000, 3) := dk_17 (by decide +kernel)
theorem dX8_walks_100 : decode cX8_walks 100 = .ok (.isub, 1) := dk_100 (by decide +kernel)
theorem dX8_walks_101 : decode cX8_walks 101 = .ok (.iaload, 1) := dk_46 (by decide +kernel)
theorem dX8_walks_102 : decode cX8_walks 102 = .ok (.iastore, 1) := dk_79 (by decide +kernel)
theorem dX8_walks_103 : decode cX8_walks 103 = .ok (.iinc 6 1, 3) := dk_132 (by decide +kernel)
theorem dX8_walks_106 : decode cX8_walks 106 = .ok (.goto 77, 3) := dk_167 (by decide +kernel)
theorem dX8_walks_86 : decode cX8_walks 86 = .ok (.iload 8, 2) := dk_21 (by decide +kernel)
theorem dX8_walks_88 : decode cX8_walks 88 = .ok (.goto 14, 3) := dk_167 (by decide +kernel)
theorem dX8_walks_0 : decode cX8_walks 0 = .ok (.aload_n 0, 1) := dk_42 (by decide +kernel)
theorem dX8_walks_1 : decode cX8_walks 1 = .ok (.getfield 28, 3) := dk_180 (by decide +kernel)
theorem dX8_walks_4 : decode cX8_walks 4 = .ok (.iconst 0, 1) := dk_3 (by decide +kernel)
theorem dX8_walks_5 : decode cX8_walks 5 = .ok (.iload_n 2, 1) := dk_28 (by decide +kernel)
theorem dX8_walks_6 : decode cX8_walks 6 = .ok (.iastore, 1) := dk_79 (by decide +kernel)
theorem dX8_walks_7 : decode cX8_walks 7 = .ok (.aload_n 0, 1) := dk_42 (by decide +kernel)
theorem dX8_walks_8 : decode cX8_walks 8 = .ok (.getfield 28, 3) := dk_180 (by decide +kernel)
theorem dX8_walks_11 : decode cX8_walks 11 = .ok (.iconst 1, 1) := dk_4 (by decide +kernel)
theorem dX8_walks_12 : decode cX8_walks 12 = .ok (.iload_n 3, 1) := dk_29 (by decide +kernel)
theorem dX8_walks_13 : decode cX8_walks 13 = .ok (.iastore, 1) := dk_79 (by decide +kernel)
theorem dX8_walks_14 : decode cX8_walks 14 = .ok (.aload_n 0, 1) := dk_42 (by decide +kernel)
theorem dX8_walks_15 : decode cX8_walks 15 = .ok (.getfield 28, 3) := dk_180 (by decide +kernel)
theorem dX8_walks_18 : decode cX8_walks 18 = .ok (.iconst 2, 1) := dk_5 (by decide +kernel)
theorem dX8_walks_19 : decode cX8_walks 19 = .ok (.iload 4, 2) := dk_21 (by decide +kernel)
theorem dX8_walks_21 : decode cX8_walks 21 = .ok (.iastore, 1) := dk_79 (by decide +kernel)
theorem dX8_walks_22 : decode cX8_walks 22 = .ok (.sipush 144, 3) := dk_17 (by decide +kernel)
theorem dX8_walks_25 : decode cX8_walks 25 = .ok (.bipush 50, 2) := dk_16 (by decide +kernel)
theorem dX8_walks_27 : decode cX8_walks 27 = .ok (.iload_n 1, 1) := dk_27 (by decide +kernel)
theorem dX8_walks_28 : decode cX8_walks 28 = .ok (.imul, 1) := dk_104 (by decide +kernel)
theorem dX8_walks_29 : decode cX8_walks 29 = .ok (.iadd, 1) := dk_96 (by decide +kernel)
theorem dX8_walks_30 : decode cX8_walks 30 = .ok (.istore 5, 2) := dk_54 (by decide +kernel)
theorem dX8_walks_32 : decode cX8_walks 32 = .ok (.iconst 0, 1) := dk_3 (by decide +kernel)
theorem dX8_walks_33 : decode cX8_walks 33 = .ok (.istore 6, 2) := dk_54 (by decide +kernel)
theorem dX8_walks_35 : decode cX8_walks 35 = .ok (.iload 5, 2) := dk_21 (by decide +kernel)
theorem dX8_walks_37 : decode cX8_walks 37 = .ok (.istore 7, 2) := dk_54 (by decide +kernel)
set_option maxRecDepth 100000 in
set_option maxHeartbeats 8000000 in
theorem x_X8_walks (l : Launch) (D : va_G) (y : wY) (ad : Nat → Nat) (i1 : Int32) (i2 : Int32) (i3 : Int32) (i4 : Int32) (M : Mem) (K : Int32 → Mem → Prop) (h : wp_X8_walks i1 i2 i3 i4 M K) : MI l D y ad yX8_walks (Cond.code yX8_walks cX8_walks 9 (some .int)) 1 M [.ref (ad 79), .int i1, .int i2, .int i3, .int i4] K := by
  refine MI_of (by decide) (Nat.le_of_ble_eq_true rfl) ?_
  intro p e s m args below meth c X hr hlocks
  have hL39 : ∀ (i1 : Int32) (i5 : Int32) (n : Nat) (i6 : Int32) (i7 : Int32) (Mb : Mem), wp_X8_walks_L39 K i1 i5 n i6 i7 Mb → J p l e (rmN 1) s m args below meth c 0 0 (QI K D y ad M s args below) D y ad (va_A (PL y ad M) s.heap.size) 9 Mb 39 [(0, .ref (ad 79)), (1, .int i1), (5, .int i5), (6, .int i6), (7, .int i7)] [] := by
    intro i1 i5 n
    induction n with
    | zero => intro i6 i7 Mb h; exact False.elim h
    | succ n hB39 =>
      intro i6 i7 Mb h
      replace h : wp_X8_walks_l39 K i1 i5 (wp_X8_walks_L39 K i1 i5 n) i6 i7 Mb := h
      delta wp_X8_walks_l39 at h
      refine j_iload X 4 rfl dX8_walks_39 ?_
      refine j_iload X 2 rfl dX8_walks_41 ?_
      refine j_aload_n X 0 rfl rfl dX8_walks_43 ?_
      refine j_get X cl_79.1 (wE_8 _ cl_79.2) rfl awF8 0 (by decide) aw_92 rfl (v := .ref (ad 80)) rfl dX8_walks_44 ?_
      refine j_iconst X (v := 5) (by decide) dX8_walks_47 ?_
      refine j_iload_n X 1 rfl rfl dX8_walks_48 ?_
      refine j_iadd X dX8_walks_49 ?_
      obtain ⟨hi_3901, h⟩ := h
      refine j_iald X cl_80.1 cl_80.2 hi_3901 dX8_walks_50 ?_
      refine j_iadd X dX8_walks_51 ?_
      refine j_icmp_ge X 189 (by decide) dX8_walks_52 (fun q_3902 => ?_) (fun q_3902 => ?_)
      · replace h := h.1 q_3902
        refine j_aload_n X 0 rfl rfl dX8_walks_189 ?_
        refine j_get X cl_79.1 (wE_8 _ cl_79.2) rfl awF8 13 (by decide) aw_97 rfl (v := .ref (ad 85)) rfl dX8_walks_190 ?_
        refine j_iconst X (v := 0) (by decide) dX8_walks_193 ?_
        refine j_iald X cl_85.1 cl_85.2 (by unfold vp_in; decide) dX8_walks_194 ?_
        refine j_eqi (v := Mb 85 0) rfl ?_
        exact j_iret X hr hlocks dX8_walks_195 h
      · replace h := h.2 q_3902
        refine j_aload_n X 0 rfl rfl dX8_walks_55 ?_
        refine j_get X cl_79.1 (wE_8 _ cl_79.2) rfl awF8 0 (by decide) aw_92 rfl (v := .ref (ad 80)) rfl dX8_walks_56 ?_
        refine j_iload X 4 rfl dX8_walks_59 ?_
        obtain ⟨hi_3903, h⟩ := h
        refine j_iald X cl_80.1 cl_80.2 hi_3903 dX8_walks_61 ?_
        refine j_istore X [(8, .int (Mb 80 i7.toNatClampNeg)), (0, .ref (ad 79)), (1, .int i1), (5, .int i5), (6, .int i6), (7, .int i7)] (by decide) rfl dX8_walks_62 ?_
        refine j_iload X 0 rfl dX8_walks_64 ?_
        refine j_sipush X (v := 20000) (by decide) dX8_walks_66 ?_
        refine j_icmp_ge X 109 (by decide) dX8_walks_69 (fun q_3904 => ?_) (fun q_3904 => ?_)
        · replace h := h.1 q_3904
          refine j_iload X 0 rfl dX8_walks_109 ?_
          refine j_sipush X (v := 20033) (by decide) dX8_walks_111 ?_
          refine j_icmp_ne X 146 (by decide) dX8_walks_114 (fun q_3905 => ?_) (fun q_3905 => ?_)
          · replace h := h.1 q_3905
            refine j_iinc X (v := (i6 + Int32.ofInt (-1))) 4 [(6, .int (i6 + Int32.ofInt (-1))), (8, .int (Mb 80 i7.toNatClampNeg)), (0, .ref (ad 79)), (1, .int i1), (5, .int i5), (7, .int i7)] rfl rfl (by decide) rfl dX8_walks_146 ?_
            refine j_aload_n X 2 rfl rfl dX8_walks_149 ?_
            refine j_get X cl_79.1 (wE_8 _ cl_79.2) rfl awF8 13 (by decide) aw_97 rfl (v := .ref (ad 85)) rfl dX8_walks_150 ?_
            refine j_iload X 0 rfl dX8_walks_153 ?_
            refine j_iconst X (v := 1) (by decide) dX8_walks_155 ?_
            refine j_isub X dX8_walks_156 ?_
            refine j_iload X 1 rfl dX8_walks_157 ?_
            refine j_sipush X (v := 20000) (by decide) dX8_walks_159 ?_
            refine j_isub X dX8_walks_162 ?_
            refine j_aload_n X 2 rfl rfl dX8_walks_163 ?_
            refine j_get X cl_79.1 (wE_8 _ cl_79.2) rfl awF8 13 (by decide) aw_97 rfl (v := .ref (ad 85)) rfl dX8_walks_164 ?_
            refine j_iload X 0 rfl dX8_walks_167 ?_
            refine j_iconst X (v := 1) (by decide) dX8_walks_169 ?_
            refine j_isub X dX8_walks_170 ?_
            obtain ⟨hi_3906, h⟩ := h
            refine j_iald X cl_85.1 cl_85.2 hi_3906 dX8_walks_171 ?_
            refine j_aload_n X 2 rfl rfl dX8_walks_172 ?_
            refine j_get X cl_79.1 (wE_8 _ cl_79.2) rfl awF8 13 (by decide) aw_97 rfl (v := .ref (ad 85)) rfl dX8_walks_173 ?_
            refine j_iload X 0 rfl dX8_walks_176 ?_
            obtain ⟨hi_3907, h⟩ := h
            refine j_iald X cl_85.1 cl_85.2 hi_3907 dX8_walks_178 ?_
            refine j_callSI X (nn := 3) (As := [.int ((Mb 80 i7.toNatClampNeg) - 20000), .int (Mb 85 ((i6 + Int32.ofInt (-1)) - 1).toNatClampNeg), .int (Mb 85 (i6 + Int32.ofInt (-1)).toNatClampNeg)]) (st := [.int ((i6 + Int32.ofInt (-1)) - 1), .ref (ad 85)]) aw_247 (x_X8_workedOut l D y ad ((Mb 80 i7.toNatClampNeg) - 20000) (Mb 85 ((i6 + Int32.ofInt (-1)) - 1).toNatClampNeg) (Mb 85 (i6 + Int32.ofInt (-1)).toNatClampNeg) _ _ h) aw_246 aw_248 aw_5 (by decide +kernel) ⟨Nat.le_of_ble_eq_true rfl, Nat.le_of_ble_eq_true rfl⟩ rfl (Nat.le_of_ble_eq_true rfl) ⟨Nat.le_of_ble_eq_true rfl, Nat.le_of_ble_eq_true rfl⟩ dX8_walks_179 ?_
            intro r3908 M3908 h
            obtain ⟨hi_3909, h⟩ := h
            refine j_iast X cl_85.1 cl_85.2 hi_3909 dX8_walks_182 ?_
            refine j_iinc X (v := (i7 + 1)) 5 [(7, .int (i7 + 1)), (6, .int (i6 + Int32.ofInt (-1))), (8, .int (Mb 80 i7.toNatClampNeg)), (0, .ref (ad 79)), (1, .int i1), (5, .int i5)] rfl rfl (by decide) rfl dX8_walks_183 ?_
            refine j_goto X 39 (by decide) dX8_walks_186 ?_
            refine j_lv (lv1 := [(0, .ref (ad 79)), (1, .int i1), (5, .int i5), (6, .int (i6 + Int32.ofInt (-1))), (7, .int (i7 + 1))]) [3, 4, 5, 1, 0] rfl ?_
            exact hB39 _ _ _ h
          · replace h := h.2 q_3905
            refine j_aload_n X 1 rfl rfl dX8_walks_117 ?_
            refine j_get X cl_79.1 (wE_8 _ cl_79.2) rfl awF8 13 (by decide) aw_97 rfl (v := .ref (ad 85)) rfl dX8_walks_118 ?_
            refine j_iload X 4 rfl dX8_walks_121 ?_
            refine j_iconst X (v := 1) (by decide) dX8_walks_123 ?_
            refine j_isub X dX8_walks_124 ?_
            refine j_aload_n X 1 rfl rfl dX8_walks_125 ?_
            refine j_get X cl_79.1 (wE_8 _ cl_79.2) rfl awF8 13 (by decide) aw_97 rfl (v := .ref (ad 85)) rfl dX8_walks_126 ?_
            refine j_iload X 4 rfl dX8_walks_129 ?_
            refine j_iconst X (v := 1) (by decide) dX8_walks_131 ?_
            refine j_isub X dX8_walks_132 ?_
            obtain ⟨hi_3910, h⟩ := h
            refine j_iald X cl_85.1 cl_85.2 hi_3910 dX8_walks_133 ?_
            refine j_if_ne X 141 (by decide) dX8_walks_134 (fun q_3911 => ?_) (fun q_3911 => ?_)
            · replace h := h.1 q_3911
              refine j_iconst X (v := 0) (by decide) dX8_walks_141 ?_
              obtain ⟨hi_3912, h⟩ := h
              refine j_iast X cl_85.1 cl_85.2 hi_3912 dX8_walks_142 ?_
              refine j_goto X 183 (by decide) dX8_walks_143 ?_
              refine j_iinc X (v := (i7 + 1)) 5 [(7, .int (i7 + 1)), (8, .int (Mb 80 i7.toNatClampNeg)), (0, .ref (ad 79)), (1, .int i1), (5, .int i5), (6, .int i6)] rfl rfl (by decide) rfl dX8_walks_183 ?_
              refine j_goto X 39 (by decide) dX8_walks_186 ?_
              refine j_lv (lv1 := [(0, .ref (ad 79)), (1, .int i1), (5, .int i5), (6, .int i6), (7, .int (i7 + 1))]) [2, 3, 4, 5, 0] rfl ?_
              exact hB39 _ _ _ h
            · replace h := h.2 q_3911
              refine j_iconst X (v := 1) (by decide) dX8_walks_137 ?_
              refine j_goto X 142 (by decide) dX8_walks_138 ?_
              obtain ⟨hi_3913, h⟩ := h
              refine j_iast X cl_85.1 cl_85.2 hi_3913 dX8_walks_142 ?_
              refine j_goto X 183 (by decide) dX8_walks_143 ?_
              refine j_iinc X (v := (i7 + 1)) 5 [(7, .int (i7 + 1)), (8, .int (Mb 80 i7.toNatClampNeg)), (0, .ref (ad 79)), (1, .int i1), (5, .int i5), (6, .int i6)] rfl rfl (by decide) rfl dX8_walks_183 ?_
              refine j_goto X 39 (by decide) dX8_walks_186 ?_
              refine j_lv (lv1 := [(0, .ref (ad 79)), (1, .int i1), (5, .int i5), (6, .int i6), (7, .int (i7 + 1))]) [2, 3, 4, 5, 0] rfl ?_
              exact hB39 _ _ _ h
        · replace h := h.2 q_3904
          refine j_aload_n X 1 rfl rfl dX8_walks_72 ?_
          refine j_get X cl_79.1 (wE_8 _ cl_79.2) rfl awF8 13 (by decide) aw_97 rfl (v := .ref (ad 85)) rfl dX8_walks_73 ?_
          refine j_iload X 4 rfl dX8_walks_76 ?_
          refine j_iload X 0 rfl dX8_walks_78 ?_
          refine j_sipush X (v := 10000) (by decide) dX8_walks_80 ?_
          refine j_icmp_ge X 91 (by decide) dX8_walks_83 (fun q_3914 => ?_) (fun q_3914 => ?_)
          · replace h := h.1 q_3914
            refine j_aload_n X 1 rfl rfl dX8_walks_91 ?_
            refine j_get X cl_79.1 (wE_8 _ cl_79.2) rfl awF8 14 (by decide) aw_98 rfl (v := .ref (ad 86)) rfl dX8_walks_92 ?_
            refine j_iload X 0 rfl dX8_walks_95 ?_
            refine j_sipush X (v := 10000) (by decide) dX8_walks_97 ?_
            refine j_isub X dX8_walks_100 ?_
            obtain ⟨hi_3915, h⟩ := h
            refine j_iald X cl_86.1 cl_86.2 hi_3915 dX8_walks_101 ?_
            obtain ⟨hi_3916, h⟩ := h
            refine j_iast X cl_85.1 cl_85.2 hi_3916 dX8_walks_102 ?_
            refine j_iinc X (v := (i6 + 1)) 4 [(6, .int (i6 + 1)), (8, .int (Mb 80 i7.toNatClampNeg)), (0, .ref (ad 79)), (1, .int i1), (5, .int i5), (7, .int i7)] rfl rfl (by decide) rfl dX8_walks_103 ?_
            refine j_goto X 183 (by decide) dX8_walks_106 ?_
            refine j_iinc X (v := (i7 + 1)) 5 [(7, .int (i7 + 1)), (6, .int (i6 + 1)), (8, .int (Mb 80 i7.toNatClampNeg)), (0, .ref (ad 79)), (1, .int i1), (5, .int i5)] rfl rfl (by decide) rfl dX8_walks_183 ?_
            refine j_goto X 39 (by decide) dX8_walks_186 ?_
            refine j_lv (lv1 := [(0, .ref (ad 79)), (1, .int i1), (5, .int i5), (6, .int (i6 + 1)), (7, .int (i7 + 1))]) [3, 4, 5, 1, 0] rfl ?_
            exact hB39 _ _ _ h
          · replace h := h.2 q_3914
            refine j_iload X 0 rfl dX8_walks_86 ?_
            refine j_goto X 102 (by decide) dX8_walks_88 ?_
            obtain ⟨hi_3917, h⟩ := h
            refine j_iast X cl_85.1 cl_85.2 hi_3917 dX8_walks_102 ?_
            refine j_iinc X (v := (i6 + 1)) 4 [(6, .int (i6 + 1)), (8, .int (Mb 80 i7.toNatClampNeg)), (0, .ref (ad 79)), (1, .int i1), (5, .int i5), (7, .int i7)] rfl rfl (by decide) rfl dX8_walks_103 ?_
            refine j_goto X 183 (by decide) dX8_walks_106 ?_
            refine j_iinc X (v := (i7 + 1)) 5 [(7, .int (i7 + 1)), (6, .int (i6 + 1)), (8, .int (Mb 80 i7.toNatClampNeg)), (0, .ref (ad 79)), (1, .int i1), (5, .int i5)] rfl rfl (by decide) rfl dX8_walks_183 ?_
            refine j_goto X 39 (by decide) dX8_walks_186 ?_
            refine j_lv (lv1 := [(0, .ref (ad 79)), (1, .int i1), (5, .int i5), (6, .int (i6 + 1)), (7, .int (i7 + 1))]) [3, 4, 5, 1, 0] rfl ?_
            exact hB39 _ _ _ h
  delta wp_X8_walks at h
  refine j_lv (lv1 := [(0, .ref (ad 79)), (1, .int i1), (2, .int i2), (3, .int i3), (4, .int i4)]) [0, 1, 2, 3, 4] rfl ?_
  refine j_aload_n X 0 rfl rfl dX8_walks_0 ?_
  refine j_get X cl_79.1 (wE_8 _ cl_79.2) rfl awF8 14 (by decide) aw_98 rfl (v := .ref (ad 86)) rfl dX8_walks_1 ?_
  refine j_iconst X (v := 0) (by decide) dX8_walks_4 ?_
  refine j_iload_n X 2 rfl rfl dX8_walks_5 ?_
  refine j_iast X cl_86.1 cl_86.2 (by unfold vp_in; decide) dX8_walks_6 ?_
  refine j_eqM (M1 := (up M 86 0 i2)) rfl ?_
  refine j_aload_n X 0 rfl rfl dX8_walks_7 ?_
  refine j_get X cl_79.1 (wE_8 _ cl_79.2) rfl awF8 14 (by decide) aw_98 rfl (v := .ref (ad 86)) rfl dX8_walks_8 ?_
  refine j_iconst X (v := 1) (by decide) dX8_walks_11 ?_
  refine j_iload_n X 3 rfl rfl dX8_walks_12 ?_
  refine j_iast X cl_86.1 cl_86.2 (by unfold vp_in; decide) dX8_walks_13 ?_
  refine j_eqM (M1 := (up (up M 86 0 i2) 86 1 i3)) rfl ?_
  refine j_aload_n X 0 rfl rfl dX8_walks_14 ?_
  refine j_get X cl_79.1 (wE_8 _ cl_79.2) rfl awF8 14 (by decide) aw_98 rfl (v := .ref (ad 86)) rfl dX8_walks_15 ?_
  refine j_iconst X (v := 2) (by decide) dX8_walks_18 ?_
  refine j_iload X 4 rfl dX8_walks_19 ?_
  refine j_iast X cl_86.1 cl_86.2 (by unfold vp_in; decide) dX8_walks_21 ?_
  refine j_eqM (M1 := (up (up (up M 86 0 i2) 86 1 i3) 86 2 i4)) rfl ?_
  refine j_sipush X (v := 144) (by decide) dX8_walks_22 ?_
  refine j_bipush X (v := 50) (by decide) dX8_walks_25 ?_
  refine j_iload_n X 1 rfl rfl dX8_walks_27 ?_
  refine j_imul X dX8_walks_28 ?_
  refine j_iadd X dX8_walks_29 ?_
  refine j_istore X [(5, .int (144 + (50 * i1))), (0, .ref (ad 79)), (1, .int i1), (2, .int i2), (3, .int i3), (4, .int i4)] (by decide) rfl dX8_walks_30 ?_
  refine j_iconst X (v := 0) (by decide) dX8_walks_32 ?_
  refine j_istore X [(6, .int 0), (5, .int (144 + (50 * i1))), (0, .ref (ad 79)), (1, .int i1), (2, .int i2), (3, .int i3), (4, .int i4)] (by decide) rfl dX8_walks_33 ?_
  refine j_iload X 1 rfl dX8_walks_35 ?_
  refine j_istore X [(7, .int (144 + (50 * i1))), (6, .int 0), (5, .int (144 + (50 * i1))), (0, .ref (ad 79)), (1, .int i1), (2, .int i2), (3, .int i3), (4, .int i4)] (by decide) rfl dX8_walks_37 ?_
  refine j_lv (lv1 := [(0, .ref (ad 79)), (1, .int i1), (5, .int (144 + (50 * i1))), (6, .int 0), (7, .int (144 + (50 * i1)))]) [3, 4, 2, 1, 0] rfl ?_
  obtain ⟨n39, h⟩ := h
  exact hL39 _ _   n39 _ _ _ h
theorem dX8_lawOf_0 : decode cX8_lawOf 0 = .ok (.aload_n 0, 1) := dk_42 (by decide +kernel)
theorem dX8_lawOf_1 : decode cX8_lawOf 1 = .ok (.getfield 7, 3) := dk_180 (by decide +kernel)
theorem dX8_lawOf_4 : decode cX8_lawOf 4 = .ok (.iconst 5, 1) := dk_8 (by decide +kernel)
theorem dX8_lawOf_5 : decode cX8_lawOf 5 = .ok (.iload_n 1, 1) := dk_27 (by decide +kernel)
theorem dX8_lawOf_6 : decode cX8_lawOf 6 = .ok (.iadd, 1) := dk_96 (by decide +kernel)
theorem dX8_lawOf_7 : decode cX8_lawOf 7 = .ok (.iaload, 1) := dk_46 (by decide +kernel)
theorem dX8_lawOf_8 : decode cX8_lawOf 8 = .ok (.ifCond .lt 19, 3) := dk_155 (by decide +kernel)
theorem dX8_lawOf_27 : decode cX8_lawOf 27 = .ok (.iload_n 1, 1) := dk_27 (by decide +kernel)
theorem dX8_lawOf_28 : decode cX8_lawOf 28 = .ok (.ifCond .ne 8, 3) := dk_154 (by decide +kernel)
theorem dX8_lawOf_36 : decode cX8_lawOf 36 = .ok (.bipush 9, 2) := dk_16 (by decide +kernel)
theorem dX8_lawOf_38 : decode cX8_lawOf 38 = .ok (.iload_n 2, 1) := dk_28 (by decide +kernel)
theorem dX8_lawOf_39 : decode cX8_lawOf 39 = .ok (.bipush 11, 2) := dk_16 (by decide +kernel)
theorem dX8_lawOf_41 : decode cX8_lawOf 41 = .ok (.idiv, 1) := dk_108 (by decide +kernel)
theorem dX8_lawOf_42 : decode cX8_lawOf 42 = .ok (.isub, 1) := dk_100 (by decide +kernel)
theorem dX8_lawOf_43 : decode cX8_lawOf 43 = .ok (.iconst 0, 1) := dk_3 (by decide +kernel)
theorem dX8_lawOf_44 : decode cX8_lawOf 44 = .ok (.bipush 99, 2) := dk_16 (by decide +kernel)
theorem dX8_lawOf_46 : decode cX8_lawOf 46 = .ok (.invokestatic 151, 3) := dk_184 (by decide +kernel)
theorem dX8_lawOf_49 : decode cX8_lawOf 49 = .ok (.ireturn, 1) := dk_172 (by decide +kernel)
theorem dX8_lawOf_31 : decode cX8_lawOf 31 = .ok (.bipush 20, 2) := dk_16 (by decide +kernel)
theorem dX8_lawOf_33 : decode cX8_lawOf 33 = .ok (.goto 10, 3) := dk_167 (by decide +kernel)
theorem dX8_lawOf_11 : decode cX8_lawOf 11 = .ok (.aload_n 0, 1) := dk_42 (by decide +kernel)
theorem dX8_lawOf_12 : decode cX8_lawOf 12 = .ok (.iload_n 1, 1) := dk_27 (by decide +kernel)
theorem dX8_lawOf_13 : decode cX8_lawOf 13 = .ok (.iload_n 2, 1) := dk_28 (by decide +kernel)
theorem dX8_lawOf_14 : decode cX8_lawOf 14 = .ok (.iload_n 3, 1) := dk_29 (by decide +kernel)
theorem dX8_lawOf_15 : decode cX8_lawOf 15 = .ok (.iload 4, 2) := dk_21 (by decide +kernel)
theorem dX8_lawOf_17 : decode cX8_lawOf 17 = .ok (.invokevirtual 147, 3) := dk_182 (by decide +kernel)
theorem dX8_lawOf_20 : decode cX8_lawOf 20 = .ok (.iconst 0, 1) := dk_3 (by decide +kernel)
theorem dX8_lawOf_21 : decode cX8_lawOf 21 = .ok (.bipush 99, 2) := dk_16 (by decide +kernel)
theorem dX8_lawOf_23 : decode cX8_lawOf 23 = .ok (.invokestatic 151, 3) := dk_184 (by decide +kernel)
theorem dX8_lawOf_26 : decode cX8_lawOf 26 = .ok (.ireturn, 1) := dk_172 (by decide +kernel)
set_option maxRecDepth 100000 in
set_option maxHeartbeats 8000000 in
theorem x_X8_lawOf (l : Launch) (D : va_G) (y : wY) (ad : Nat → Nat) (i1 : Int32) (i2 : Int32) (i3 : Int32) (i4 : Int32) (M : Mem) (K : Int32 → Mem → Prop) (h : wp_X8_lawOf i1 i2 i3 i4 M K) : MI l D y ad yX8_lawOf (Cond.code yX8_lawOf cX8_lawOf 5 (some .int)) 2 M [.ref (ad 79), .int i1, .int i2, .int i3, .int i4] K := by
  refine MI_of (by decide) (Nat.le_of_ble_eq_true rfl) ?_
  intro p e s m args below meth c X hr hlocks
  delta wp_X8_lawOf at h
  refine j_lv (lv1 := [(0, .ref (ad 79)), (1, .int i1), (2, .int i2), (3, .int i3), (4, .int i4)]) [0, 1, 2, 3, 4] rfl ?_
  refine j_aload_n X 0 rfl rfl dX8_lawOf_0 ?_
  refine j_get X cl_79.1 (wE_8 _ cl_79.2) rfl awF8 0 (by decide) aw_92 rfl (v := .ref (ad 80)) rfl dX8_lawOf_1 ?_
  refine j_iconst X (v := 5) (by decide) dX8_lawOf_4 ?_
  refine j_iload_n X 1 rfl rfl dX8_lawOf_5 ?_
  refine j_iadd X dX8_lawOf_6 ?_
  obtain ⟨hi_1, h⟩ := h
  refine j_iald X cl_80.1 cl_80.2 hi_1 dX8_lawOf_7 ?_
  refine j_if_lt X 27 (by decide) dX8_lawOf_8 (fun q_2 => ?_) (fun q_2 => ?_)
  · replace h := h.1 q_2
    refine j_iload_n X 1 rfl rfl dX8_lawOf_27 ?_
    refine j_if_ne X 36 (by decide) dX8_lawOf_28 (fun q_3 => ?_) (fun q_3 => ?_)
    · replace h := h.1 q_3
      refine j_bipush X (v := 9) (by decide) dX8_lawOf_36 ?_
      refine j_iload_n X 2 rfl rfl dX8_lawOf_38 ?_
      refine j_bipush X (v := 11) (by decide) dX8_lawOf_39 ?_
      refine j_idiv X (by decide) dX8_lawOf_41 ?_
      refine j_isub X dX8_lawOf_42 ?_
      refine j_iconst X (v := 0) (by decide) dX8_lawOf_43 ?_
      refine j_bipush X (v := 99) (by decide) dX8_lawOf_44 ?_
      refine j_callSI X (nn := 3) (As := [.int (9 - (i2 / 11)), .int 0, .int 99]) (st := []) aw_250 (x_X8_held l D y ad (9 - (i2 / 11)) 0 99 _ _ h) aw_249 aw_251 aw_5 (by decide +kernel) ⟨Nat.le_of_ble_eq_true rfl, Nat.le_of_ble_eq_true rfl⟩ rfl (Nat.le_of_ble_eq_true rfl) ⟨Nat.le_of_ble_eq_true rfl, Nat.le_of_ble_eq_true rfl⟩ dX8_lawOf_46 ?_
      intro r4 M4 h
      exact j_iret X hr hlocks dX8_lawOf_49 h
    · replace h := h.2 q_3
      refine j_bipush X (v := 20) (by decide) dX8_lawOf_31 ?_
      refine j_goto X 43 (by decide) dX8_lawOf_33 ?_
      refine j_iconst X (v := 0) (by decide) dX8_lawOf_43 ?_
      refine j_bipush X (v := 99) (by decide) dX8_lawOf_44 ?_
      refine j_callSI X (nn := 3) (As := [.int 20, .int 0, .int 99]) (st := []) aw_250 (x_X8_held l D y ad 20 0 99 _ _ h) aw_249 aw_251 aw_5 (by decide +kernel) ⟨Nat.le_of_ble_eq_true rfl, Nat.le_of_ble_eq_true rfl⟩ rfl (Nat.le_of_ble_eq_true rfl) ⟨Nat.le_of_ble_eq_true rfl, Nat.le_of_ble_eq_true rfl⟩ dX8_lawOf_46 ?_
      intro r5 M5 h
      exact j_iret X hr hlocks dX8_lawOf_49 h
  · replace h := h.2 q_2
    refine j_aload_n X 0 rfl rfl dX8_lawOf_11 ?_
    refine j_iload_n X 1 rfl rfl dX8_lawOf_12 ?_
    refine j_iload_n X 2 rfl rfl dX8_lawOf_13 ?_
    refine j_iload_n X 3 rfl rfl dX8_lawOf_14 ?_
    refine j_iload X 4 rfl dX8_lawOf_15 ?_
    refine j_callVI X (nn := 4) (As := [.int i1, .int i2, .int i3, .int i4]) (st := []) (ci := 8) cl_79.1 (wE_8 _ cl_79.2) rfl aw_243 aw_244 (x_X8_walks l D y ad i1 i2 i3 i4 _ _ h) aw_242 aw_245 aw_5 (by decide +kernel) ⟨Nat.le_of_ble_eq_true rfl, Nat.le_of_ble_eq_true rfl⟩ rfl (Nat.le_of_ble_eq_true rfl) ⟨Nat.le_of_ble_eq_true rfl, Nat.le_of_ble_eq_true rfl⟩ dX8_lawOf_17 ?_
    intro r6 M6 h
    refine j_iconst X (v := 0) (by decide) dX8_lawOf_20 ?_
    refine j_bipush X (v := 99) (by decide) dX8_lawOf_21 ?_
    refine j_callSI X (nn := 3) (As := [.int r6, .int 0, .int 99]) (st := []) aw_250 (x_X8_held l D y ad r6 0 99 _ _ h) aw_249 aw_251 aw_5 (by decide +kernel) ⟨Nat.le_of_ble_eq_true rfl, Nat.le_of_ble_eq_true rfl⟩ rfl (Nat.le_of_ble_eq_true rfl) ⟨Nat.le_of_ble_eq_true rfl, Nat.le_of_ble_eq_true rfl⟩ dX8_lawOf_23 ?_
    intro r7 M7 h
    exact j_iret X hr hlocks dX8_lawOf_26 h
theorem dX8_gains_0 : decode cX8_gains 0 = .ok (.aload_n 0, 1) := dk_42 (by decide +kernel)
theorem dX8_gains_1 : decode cX8_gains 1 = .ok (.iload_n 1, 1) := dk_27 (by decide +kernel)
theorem dX8_gains_2 : decode cX8_gains 2 = .ok (.iconst 1, 1) := dk_4 (by decide +kernel)
theorem dX8_gains_3 : decode cX8_gains 3 = .ok (.invokevirtual 65, 3) := dk_182 (by decide +kernel)
theorem dX8_gains_6 : decode cX8_gains 6 = .ok (.istore_n 2, 1) := dk_61 (by decide +kernel)
theorem dX8_gains_7 : decode cX8_gains 7 = .ok (.aload_n 0, 1) := dk_42 (by decide +kernel)
theorem dX8_gains_8 : decode cX8_gains 8 = .ok (.iconst 0, 1) := dk_3 (by decide +kernel)
theorem dX8_gains_9 : decode cX8_gains 9 = .ok (.aload_n 0, 1) := dk_42 (by decide +kernel)
theorem dX8_gains_10 : decode cX8_gains 10 = .ok (.iload_n 1, 1) := dk_27 (by decide +kernel)
theorem dX8_gains_11 : decode cX8_gains 11 = .ok (.iconst 3, 1) := dk_6 (by decide +kernel)
theorem dX8_gains_12 : decode cX8_gains 12 = .ok (.invokevirtual 65, 3) := dk_182 (by decide +kernel)
theorem dX8_gains_15 : decode cX8_gains 15 = .ok (.aload_n 0, 1) := dk_42 (by decide +kernel)
theorem dX8_gains_16 : decode cX8_gains 16 = .ok (.iload_n 1, 1) := dk_27 (by decide +kernel)
theorem dX8_gains_17 : decode cX8_gains 17 = .ok (.bipush 6, 2) := dk_16 (by decide +kernel)
theorem dX8_gains_19 : decode cX8_gains 19 = .ok (.invokevirtual 65, 3) := dk_182 (by decide +kernel)
theorem dX8_gains_22 : decode cX8_gains 22 = .ok (.aload_n 0, 1) := dk_42 (by decide +kernel)
theorem dX8_gains_23 : decode cX8_gains 23 = .ok (.getfield 7, 3) := dk_180 (by decide +kernel)
theorem dX8_gains_26 : decode cX8_gains 26 = .ok (.iconst 0, 1) := dk_3 (by decide +kernel)
theorem dX8_gains_27 : decode cX8_gains 27 = .ok (.iaload, 1) := dk_46 (by decide +kernel)
theorem dX8_gains_28 : decode cX8_gains 28 = .ok (.bipush 7, 2) := dk_16 (by decide +kernel)
theorem dX8_gains_30 : decode cX8_gains 30 = .ok (.irem, 1) := dk_112 (by decide +kernel)
theorem dX8_gains_31 : decode cX8_gains 31 = .ok (.invokevirtual 154, 3) := dk_182 (by decide +kernel)
theorem dX8_gains_34 : decode cX8_gains 34 = .ok (.istore_n 3, 1) := dk_62 (by decide +kernel)
theorem dX8_gains_35 : decode cX8_gains 35 = .ok (.aload_n 0, 1) := dk_42 (by decide +kernel)
theorem dX8_gains_36 : decode cX8_gains 36 = .ok (.iload_n 1, 1) := dk_27 (by decide +kernel)
theorem dX8_gains_37 : decode cX8_gains 37 = .ok (.iconst 0, 1) := dk_3 (by decide +kernel)
theorem dX8_gains_38 : decode cX8_gains 38 = .ok (.invokevirtual 65, 3) := dk_182 (by decide +kernel)
theorem dX8_gains_41 : decode cX8_gains 41 = .ok (.tableswitch 95 1 6 #[39, 65, 89, 43, 69, 93], 39) := by decide +kernel
theorem dX8_gains_80 : decode cX8_gains 80 = .ok (.iload_n 3, 1) := dk_29 (by decide +kernel)
theorem dX8_gains_81 : decode cX8_gains 81 = .ok (.iload_n 2, 1) := dk_28 (by decide +kernel)
theorem dX8_gains_82 : decode cX8_gains 82 = .ok (.iadd, 1) := dk_96 (by decide +kernel)
theorem dX8_gains_83 : decode cX8_gains 83 = .ok (.ireturn, 1) := dk_172 (by decide +kernel)
theorem dX8_gains_106 : decode cX8_gains 106 = .ok (.iconst 2, 1) := dk_5 (by decide +kernel)
theorem dX8_gains_107 : decode cX8_gains 107 = .ok (.iload_n 3, 1) := dk_29 (by decide +kernel)
theorem dX8_gains_108 : decode cX8_gains 108 = .ok (.imul, 1) := dk_104 (by decide +kernel)
theorem dX8_gains_109 : decode cX8_gains 109 = .ok (.ireturn, 1) := dk_172 (by decide +kernel)
theorem dX8_gains_130 : decode cX8_gains 130 = .ok (.iload_n 3, 1) := dk_29 (by decide +kernel)
theorem dX8_gains_131 : decode cX8_gains 131 = .ok (.iconst 2, 1) := dk_5 (by decide +kernel)
theorem dX8_gains_132 : decode cX8_gains 132 = .ok (.idiv, 1) := dk_108 (by decide +kernel)
theorem dX8_gains_133 : decode cX8_gains 133 = .ok (.ireturn, 1) := dk_172 (by decide +kernel)
theorem dX8_gains_84 : decode cX8_gains 84 = .ok (.iload_n 3, 1) := dk_29 (by decide +kernel)
theorem dX8_gains_85 : decode cX8_gains 85 = .ok (.iload_n 2, 1) := dk_28 (by decide +kernel)
theorem dX8_gains_86 : decode cX8_gains 86 = .ok (.iadd, 1) := dk_96 (by decide +kernel)
theorem dX8_gains_87 : decode cX8_gains 87 = .ok (.aload_n 0, 1) := dk_42 (by decide +kernel)
theorem dX8_gains_88 : decode cX8_gains 88 = .ok (.iload_n 1, 1) := dk_27 (by decide +kernel)
theorem dX8_gains_89 : decode cX8_gains 89 = .ok (.bipush 6, 2) := dk_16 (by decide +kernel)
theorem dX8_gains_91 : decode cX8_gains 91 = .ok (.invokevirtual 65, 3) := dk_182 (by decide +kernel)
theorem dX8_gains_94 : decode cX8_gains 94 = .ok (.bipush 10, 2) := dk_16 (by decide +kernel)
theorem dX8_gains_96 : decode cX8_gains 96 = .ok (.idiv, 1) := dk_108 (by decide +kernel)
theorem dX8_gains_97 : decode cX8_gains 97 = .ok (.isub, 1) := dk_100 (by decide +kernel)
theorem dX8_gains_98 : decode cX8_gains 98 = .ok (.iconst 0, 1) := dk_3 (by decide +kernel)
theorem dX8_gains_99 : decode cX8_gains 99 = .ok (.sipush 200, 3) := dk_17 (by decide +kernel)
theorem dX8_gains_102 : decode cX8_gains 102 = .ok (.invokestatic 151, 3) := dk_184 (by decide +kernel)
theorem dX8_gains_105 : decode cX8_gains 105 = .ok (.ireturn, 1) := dk_172 (by decide +kernel)
theorem dX8_gains_110 : decode cX8_gains 110 = .ok (.aload_n 0, 1) := dk_42 (by decide +kernel)
theorem dX8_gains_111 : decode cX8_gains 111 = .ok (.getfield 7, 3) := dk_180 (by decide +kernel)
theorem dX8_gains_114 : decode cX8_gains 114 = .ok (.iconst 0, 1) := dk_3 (by decide +kernel)
theorem dX8_gains_115 : decode cX8_gains 115 = .ok (.iaload, 1) := dk_46 (by decide +kernel)
theorem dX8_gains_116 : decode cX8_gains 116 = .ok (.bipush 6, 2) := dk_16 (by decide +kernel)
theorem dX8_gains_118 : decode cX8_gains 118 = .ok (.irem, 1) := dk_112 (by decide +kernel)
theorem dX8_gains_119 : decode cX8_gains 119 = .ok (.ifCond .ne 7, 3) := dk_154 (by decide +kernel)
theorem dX8_gains_126 : decode cX8_gains 126 = .ok (.iconst 2, 1) := dk_5 (by decide +kernel)
theorem dX8_gains_127 : decode cX8_gains 127 = .ok (.iload_n 3, 1) := dk_29 (by decide +kernel)
theorem dX8_gains_128 : decode cX8_gains 128 = .ok (.imul, 1) := dk_104 (by decide +kernel)
theorem dX8_gains_129 : decode cX8_gains 129 = .ok (.ireturn, 1) := dk_172 (by decide +kernel)
theorem dX8_gains_122 : decode cX8_gains 122 = .ok (.iconst 0, 1) := dk_3 (by decide +kernel)
theorem dX8_gains_123 : decode cX8_gains 123 = .ok (.goto 6, 3) := dk_167 (by decide +kernel)
theorem dX8_gains_134 : decode cX8_gains 134 = .ok (.iconst 0, 1) := dk_3 (by decide +kernel)
theorem dX8_gains_135 : decode cX8_gains 135 = .ok (.ireturn, 1) := dk_172 (by decide +kernel)
theorem dX8_gains_136 : decode cX8_gains 136 = .ok (.iload_n 3, 1) := dk_29 (by decide +kernel)
theorem dX8_gains_137 : decode cX8_gains 137 = .ok (.ireturn, 1) := dk_172 (by decide +kernel)
set_option maxRecDepth 100000 in
set_option maxHeartbeats 8000000 in
theorem x_X8_gains (l : Launch) (D : va_G) (y : wY) (ad : Nat → Nat) (i1 : Int32) (M : Mem) (K : Int32 → Mem → Prop) (h : wp_X8_gains i1 M K) : MI l D y ad yX8_gains (Cond.code yX8_gains cX8_gains 4 (some .int)) 3 M [.ref (ad 79), .int i1] K := by
  refine MI_of (by decide) (Nat.le_of_ble_eq_true rfl) ?_
  intro p e s m args below meth c X hr hlocks
  delta wp_X8_gains at h
  refine j_lv (lv1 := [(0, .ref (ad 79)), (1, .int i1)]) [0, 1] rfl ?_
  refine j_aload_n X 0 rfl rfl dX8_gains_0 ?_
  refine j_iload_n X 1 rfl rfl dX8_gains_1 ?_
  refine j_iconst X (v := 1) (by decide) dX8_gains_2 ?_
  refine j_callVI X (nn := 2) (As := [.int i1, .int 1]) (st := []) (ci := 8) cl_79.1 (wE_8 _ cl_79.2) rfl aw_161 aw_162 (x_X8_its l D y ad i1 1 _ _ h) aw_160 aw_163 aw_5 (by decide +kernel) ⟨Nat.le_of_ble_eq_true rfl, Nat.le_of_ble_eq_true rfl⟩ rfl (Nat.le_of_ble_eq_true rfl) ⟨Nat.le_of_ble_eq_true rfl, Nat.le_of_ble_eq_true rfl⟩ dX8_gains_3 ?_
  intro r1 M1 h
  refine j_istore_n X [(2, .int r1), (0, .ref (ad 79)), (1, .int i1)] rfl (by decide) rfl dX8_gains_6 ?_
  refine j_aload_n X 1 rfl rfl dX8_gains_7 ?_
  refine j_iconst X (v := 0) (by decide) dX8_gains_8 ?_
  refine j_aload_n X 1 rfl rfl dX8_gains_9 ?_
  refine j_iload_n X 2 rfl rfl dX8_gains_10 ?_
  refine j_iconst X (v := 3) (by decide) dX8_gains_11 ?_
  refine j_callVI X (nn := 2) (As := [.int i1, .int 3]) (st := [.int 0, .ref (ad 79)]) (ci := 8) cl_79.1 (wE_8 _ cl_79.2) rfl aw_161 aw_162 (x_X8_its l D y ad i1 3 _ _ h) aw_160 aw_163 aw_5 (by decide +kernel) ⟨Nat.le_of_ble_eq_true rfl, Nat.le_of_ble_eq_true rfl⟩ rfl (Nat.le_of_ble_eq_true rfl) ⟨Nat.le_of_ble_eq_true rfl, Nat.le_of_ble_eq_true rfl⟩ dX8_gains_12 ?_
  intro r2 M2 h
  refine j_aload_n X 1 rfl rfl dX8_gains_15 ?_
  refine j_iload_n X 2 rfl rfl dX8_gains_16 ?_
  refine j_bipush X (v := 6) (by decide) dX8_gains_17 ?_
  refine j_callVI X (nn := 2) (As := [.int i1, .int 6]) (st := [.int r2, .int 0, .ref (ad 79)]) (ci := 8) cl_79.1 (wE_8 _ cl_79.2) rfl aw_161 aw_162 (x_X8_its l D y ad i1 6 _ _ h) aw_160 aw_163 aw_5 (by decide +kernel) ⟨Nat.le_of_ble_eq_true rfl, Nat.le_of_ble_eq_true rfl⟩ rfl (Nat.le_of_ble_eq_true rfl) ⟨Nat.le_of_ble_eq_true rfl, Nat.le_of_ble_eq_true rfl⟩ dX8_gains_19 ?_
  intro r3 M3 h
  refine j_aload_n X 1 rfl rfl dX8_gains_22 ?_
  refine j_get X cl_79.1 (wE_8 _ cl_79.2) rfl awF8 0 (by decide) aw_92 rfl (v := .ref (ad 80)) rfl dX8_gains_23 ?_
  refine j_iconst X (v := 0) (by decide) dX8_gains_26 ?_
  refine j_iald X cl_80.1 cl_80.2 (by unfold vp_in; decide) dX8_gains_27 ?_
  refine j_eqi (v := M3 80 0) rfl ?_
  refine j_bipush X (v := 7) (by decide) dX8_gains_28 ?_
  refine j_irem X (by decide) dX8_gains_30 ?_
  refine j_callVI X (nn := 4) (As := [.int 0, .int r2, .int r3, .int ((M3 80 0) - (M3 80 0) / 7 * 7)]) (st := []) (ci := 8) cl_79.1 (wE_8 _ cl_79.2) rfl aw_239 aw_240 (x_X8_lawOf l D y ad 0 r2 r3 ((M3 80 0) - (M3 80 0) / 7 * 7) _ _ h) aw_238 aw_241 aw_5 (by decide +kernel) ⟨Nat.le_of_ble_eq_true rfl, Nat.le_of_ble_eq_true rfl⟩ rfl (Nat.le_of_ble_eq_true rfl) ⟨Nat.le_of_ble_eq_true rfl, Nat.le_of_ble_eq_true rfl⟩ dX8_gains_31 ?_
  intro r4 M4 h
  refine j_istore_n X [(3, .int r4), (2, .int r1), (0, .ref (ad 79)), (1, .int i1)] rfl (by decide) rfl dX8_gains_34 ?_
  refine j_aload_n X 2 rfl rfl dX8_gains_35 ?_
  refine j_iload_n X 3 rfl rfl dX8_gains_36 ?_
  refine j_iconst X (v := 0) (by decide) dX8_gains_37 ?_
  refine j_callVI X (nn := 2) (As := [.int i1, .int 0]) (st := []) (ci := 8) cl_79.1 (wE_8 _ cl_79.2) rfl aw_161 aw_162 (x_X8_its l D y ad i1 0 _ _ h) aw_160 aw_163 aw_5 (by decide +kernel) ⟨Nat.le_of_ble_eq_true rfl, Nat.le_of_ble_eq_true rfl⟩ rfl (Nat.le_of_ble_eq_true rfl) ⟨Nat.le_of_ble_eq_true rfl, Nat.le_of_ble_eq_true rfl⟩ dX8_gains_38 ?_
  intro r5 M5 h
  by_cases w_6 : r5 = 1
  · replace h := h.1 w_6
    refine j_tsw_in X 80 1 w_6 (by decide) (by decide) (off := 39) rfl (by decide) dX8_gains_41 ?_
    refine j_iload_n X 0 rfl rfl dX8_gains_80 ?_
    refine j_iload_n X 1 rfl rfl dX8_gains_81 ?_
    refine j_iadd X dX8_gains_82 ?_
    exact j_iret X hr hlocks dX8_gains_83 h
  replace h := h.2 w_6
  by_cases w_7 : r5 = 2
  · replace h := h.1 w_7
    refine j_tsw_in X 106 2 w_7 (by decide) (by decide) (off := 65) rfl (by decide) dX8_gains_41 ?_
    refine j_iconst X (v := 2) (by decide) dX8_gains_106 ?_
    refine j_iload_n X 0 rfl rfl dX8_gains_107 ?_
    refine j_imul X dX8_gains_108 ?_
    exact j_iret X hr hlocks dX8_gains_109 h
  replace h := h.2 w_7
  by_cases w_8 : r5 = 3
  · replace h := h.1 w_8
    refine j_tsw_in X 130 3 w_8 (by decide) (by decide) (off := 89) rfl (by decide) dX8_gains_41 ?_
    refine j_iload_n X 0 rfl rfl dX8_gains_130 ?_
    refine j_iconst X (v := 2) (by decide) dX8_gains_131 ?_
    refine j_idiv X (by decide) dX8_gains_132 ?_
    exact j_iret X hr hlocks dX8_gains_133 h
  replace h := h.2 w_8
  by_cases w_9 : r5 = 4
  · replace h := h.1 w_9
    refine j_tsw_in X 84 4 w_9 (by decide) (by decide) (off := 43) rfl (by decide) dX8_gains_41 ?_
    refine j_iload_n X 0 rfl rfl dX8_gains_84 ?_
    refine j_iload_n X 1 rfl rfl dX8_gains_85 ?_
    refine j_iadd X dX8_gains_86 ?_
    refine j_aload_n X 2 rfl rfl dX8_gains_87 ?_
    refine j_iload_n X 3 rfl rfl dX8_gains_88 ?_
    refine j_bipush X (v := 6) (by decide) dX8_gains_89 ?_
    refine j_callVI X (nn := 2) (As := [.int i1, .int 6]) (st := [.int (r4 + r1)]) (ci := 8) cl_79.1 (wE_8 _ cl_79.2) rfl aw_161 aw_162 (x_X8_its l D y ad i1 6 _ _ h) aw_160 aw_163 aw_5 (by decide +kernel) ⟨Nat.le_of_ble_eq_true rfl, Nat.le_of_ble_eq_true rfl⟩ rfl (Nat.le_of_ble_eq_true rfl) ⟨Nat.le_of_ble_eq_true rfl, Nat.le_of_ble_eq_true rfl⟩ dX8_gains_91 ?_
    intro r10 M10 h
    refine j_bipush X (v := 10) (by decide) dX8_gains_94 ?_
    refine j_idiv X (by decide) dX8_gains_96 ?_
    refine j_isub X dX8_gains_97 ?_
    refine j_iconst X (v := 0) (by decide) dX8_gains_98 ?_
    refine j_sipush X (v := 200) (by decide) dX8_gains_99 ?_
    refine j_callSI X (nn := 3) (As := [.int ((r4 + r1) - (r10 / 10)), .int 0, .int 200]) (st := []) aw_250 (x_X8_held l D y ad ((r4 + r1) - (r10 / 10)) 0 200 _ _ h) aw_249 aw_251 aw_5 (by decide +kernel) ⟨Nat.le_of_ble_eq_true rfl, Nat.le_of_ble_eq_true rfl⟩ rfl (Nat.le_of_ble_eq_true rfl) ⟨Nat.le_of_ble_eq_true rfl, Nat.le_of_ble_eq_true rfl⟩ dX8_gains_102 ?_
    intro r11 M11 h
    exact j_iret X hr hlocks dX8_gains_105 h
  replace h := h.2 w_9
  by_cases w_12 : r5 = 5
  · replace h := h.1 w_12
    refine j_tsw_in X 110 5 w_12 (by decide) (by decide) (off := 69) rfl (by decide) dX8_gains_41 ?_
    refine j_aload_n X 2 rfl rfl dX8_gains_110 ?_
    refine j_get X cl_79.1 (wE_8 _ cl_79.2) rfl awF8 0 (by decide) aw_92 rfl (v := .ref (ad 80)) rfl dX8_gains_111 ?_
    refine j_iconst X (v := 0) (by decide) dX8_gains_114 ?_
    refine j_iald X cl_80.1 cl_80.2 (by unfold vp_in; decide) dX8_gains_115 ?_
    refine j_eqi (v := M5 80 0) rfl ?_
    refine j_bipush X (v := 6) (by decide) dX8_gains_116 ?_
    refine j_irem X (by decide) dX8_gains_118 ?_
    refine j_if_ne X 126 (by decide) dX8_gains_119 (fun q_13 => ?_) (fun q_13 => ?_)
    · replace h := h.1 q_13
      refine j_iconst X (v := 2) (by decide) dX8_gains_126 ?_
      refine j_iload_n X 0 rfl rfl dX8_gains_127 ?_
      refine j_imul X dX8_gains_128 ?_
      exact j_iret X hr hlocks dX8_gains_129 h
    · replace h := h.2 q_13
      refine j_iconst X (v := 0) (by decide) dX8_gains_122 ?_
      refine j_goto X 129 (by decide) dX8_gains_123 ?_
      exact j_iret X hr hlocks dX8_gains_129 h
  replace h := h.2 w_12
  by_cases w_14 : r5 = 6
  · replace h := h.1 w_14
    refine j_tsw_in X 134 6 w_14 (by decide) (by decide) (off := 93) rfl (by decide) dX8_gains_41 ?_
    refine j_iconst X (v := 0) (by decide) dX8_gains_134 ?_
    exact j_iret X hr hlocks dX8_gains_135 h
  replace h := h.2 w_14
  have qw_6 := ti_ne (n := 1) (by decide) w_6
  have qw_7 := ti_ne (n := 2) (by decide) w_7
  have qw_8 := ti_ne (n := 3) (by decide) w_8
  have qw_9 := ti_ne (n := 4) (by decide) w_9
  have qw_12 := ti_ne (n := 5) (by decide) w_12
  have qw_14 := ti_ne (n := 6) (by decide) w_14
  refine j_tsw_out X 136 (by omega) (by decide) dX8_gains_41 ?_
  refine j_iload_n X 0 rfl rfl dX8_gains_136 ?_
  exact j_iret X hr hlocks dX8_gains_137 h
theorem dX8_needs_0 : decode cX8_needs 0 = .ok (.aload_n 0, 1) := dk_42 (by decide +kernel)
theorem dX8_needs_1 : decode cX8_needs 1 = .ok (.iload_n 1, 1) := dk_27 (by decide +kernel)
theorem dX8_needs_2 : decode cX8_needs 2 = .ok (.iconst 1, 1) := dk_4 (by decide +kernel)
theorem dX8_needs_3 : decode cX8_needs 3 = .ok (.invokevirtual 65, 3) := dk_182 (by decide +kernel)
theorem dX8_needs_6 : decode cX8_needs 6 = .ok (.istore_n 2, 1) := dk_61 (by decide +kernel)
theorem dX8_needs_7 : decode cX8_needs 7 = .ok (.aload_n 0, 1) := dk_42 (by decide +kernel)
theorem dX8_needs_8 : decode cX8_needs 8 = .ok (.iload_n 1, 1) := dk_27 (by decide +kernel)
theorem dX8_needs_9 : decode cX8_needs 9 = .ok (.iconst 0, 1) := dk_3 (by decide +kernel)
theorem dX8_needs_10 : decode cX8_needs 10 = .ok (.invokevirtual 65, 3) := dk_182 (by decide +kernel)
theorem dX8_needs_13 : decode cX8_needs 13 = .ok (.tableswitch 69 1 6 #[39, 53, 61, 46, 56, 64], 39) := by decide +kernel
theorem dX8_needs_52 : decode cX8_needs 52 = .ok (.bipush 50, 2) := dk_16 (by decide +kernel)
theorem dX8_needs_54 : decode cX8_needs 54 = .ok (.iconst 2, 1) := dk_5 (by decide +kernel)
theorem dX8_needs_55 : decode cX8_needs 55 = .ok (.iload_n 2, 1) := dk_28 (by decide +kernel)
theorem dX8_needs_56 : decode cX8_needs 56 = .ok (.imul, 1) := dk_104 (by decide +kernel)
theorem dX8_needs_57 : decode cX8_needs 57 = .ok (.iadd, 1) := dk_96 (by decide +kernel)
theorem dX8_needs_58 : decode cX8_needs 58 = .ok (.ireturn, 1) := dk_172 (by decide +kernel)
theorem dX8_needs_66 : decode cX8_needs 66 = .ok (.bipush 30, 2) := dk_16 (by decide +kernel)
theorem dX8_needs_68 : decode cX8_needs 68 = .ok (.ireturn, 1) := dk_172 (by decide +kernel)
theorem dX8_needs_74 : decode cX8_needs 74 = .ok (.bipush 80, 2) := dk_16 (by decide +kernel)
theorem dX8_needs_76 : decode cX8_needs 76 = .ok (.ireturn, 1) := dk_172 (by decide +kernel)
theorem dX8_needs_59 : decode cX8_needs 59 = .ok (.bipush 55, 2) := dk_16 (by decide +kernel)
theorem dX8_needs_61 : decode cX8_needs 61 = .ok (.iconst 2, 1) := dk_5 (by decide +kernel)
theorem dX8_needs_62 : decode cX8_needs 62 = .ok (.iload_n 2, 1) := dk_28 (by decide +kernel)
theorem dX8_needs_63 : decode cX8_needs 63 = .ok (.imul, 1) := dk_104 (by decide +kernel)
theorem dX8_needs_64 : decode cX8_needs 64 = .ok (.iadd, 1) := dk_96 (by decide +kernel)
theorem dX8_needs_65 : decode cX8_needs 65 = .ok (.ireturn, 1) := dk_172 (by decide +kernel)
theorem dX8_needs_69 : decode cX8_needs 69 = .ok (.bipush 30, 2) := dk_16 (by decide +kernel)
theorem dX8_needs_71 : decode cX8_needs 71 = .ok (.iload_n 2, 1) := dk_28 (by decide +kernel)
theorem dX8_needs_72 : decode cX8_needs 72 = .ok (.iadd, 1) := dk_96 (by decide +kernel)
theorem dX8_needs_73 : decode cX8_needs 73 = .ok (.ireturn, 1) := dk_172 (by decide +kernel)
theorem dX8_needs_77 : decode cX8_needs 77 = .ok (.bipush 80, 2) := dk_16 (by decide +kernel)
theorem dX8_needs_79 : decode cX8_needs 79 = .ok (.iload_n 2, 1) := dk_28 (by decide +kernel)
theorem dX8_needs_80 : decode cX8_needs 80 = .ok (.isub, 1) := dk_100 (by decide +kernel)
theorem dX8_needs_81 : decode cX8_needs 81 = .ok (.ireturn, 1) := dk_172 (by decide +kernel)
theorem dX8_needs_82 : decode cX8_needs 82 = .ok (.bipush 50, 2) := dk_16 (by decide +kernel)
theorem dX8_needs_84 : decode cX8_needs 84 = .ok (.ireturn, 1) := dk_172 (by decide +kernel)
set_option maxRecDepth 100000 in
set_option maxHeartbeats 8000000 in
theorem x_X8_needs (l : Launch) (D : va_G) (y : wY) (ad : Nat → Nat) (i1 : Int32) (M : Mem) (K : Int32 → Mem → Prop) (h : wp_X8_needs i1 M K) : MI l D y ad yX8_needs (Cond.code yX8_needs cX8_needs 3 (some .int)) 1 M [.ref (ad 79), .int i1] K := by
  refine MI_of (by decide) (Nat.le_of_ble_eq_true rfl) ?_
  intro p e s m args below meth c X hr hlocks
  delta wp_X8_needs at h
  refine j_lv (lv1 := [(0, .ref (ad 79)), (1, .int i1)]) [0, 1] rfl ?_
  refine j_aload_n X 0 rfl rfl dX8_needs_0 ?_
  refine j_iload_n X 1 rfl rfl dX8_needs_1 ?_
  refine j_iconst X (v := 1) (by decide) dX8_needs_2 ?_
  refine j_callVI X (nn := 2) (As := [.int i1, .int 1]) (st := []) (ci := 8) cl_79.1 (wE_8 _ cl_79.2) rfl aw_161 aw_162 (x_X8_its l D y ad i1 1 _ _ h) aw_160 aw_163 aw_5 (by decide +kernel) ⟨Nat.le_of_ble_eq_true rfl, Nat.le_of_ble_eq_true rfl⟩ rfl (Nat.le_of_ble_eq_true rfl) ⟨Nat.le_of_ble_eq_true rfl, Nat.le_of_ble_eq_true rfl⟩ dX8_needs_3 ?_
  intro r1 M1 h
  refine j_istore_n X [(2, .int r1), (0, .ref (ad 79)), (1, .int i1)] rfl (by decide) rfl dX8_needs_6 ?_
  refine j_aload_n X 1 rfl rfl dX8_needs_7 ?_
  refine j_iload_n X 2 rfl rfl dX8_needs_8 ?_
  refine j_iconst X (v := 0) (by decide) dX8_needs_9 ?_
  refine j_callVI X (nn := 2) (As := [.int i1, .int 0]) (st := []) (ci := 8) cl_79.1 (wE_8 _ cl_79.2) rfl aw_161 aw_162 (x_X8_its l D y ad i1 0 _ _ h) aw_160 aw_163 aw_5 (by decide +kernel) ⟨Nat.le_of_ble_eq_true rfl, Nat.le_of_ble_eq_true rfl⟩ rfl (Nat.le_of_ble_eq_true rfl) ⟨Nat.le_of_ble_eq_true rfl, Nat.le_of_ble_eq_true rfl⟩ dX8_needs_10 ?_
  intro r2 M2 h
  by_cases w_3 : r2 = 1
  · replace h := h.1 w_3
    refine j_tsw_in X 52 1 w_3 (by decide) (by decide) (off := 39) rfl (by decide) dX8_needs_13 ?_
    refine j_bipush X (v := 50) (by decide) dX8_needs_52 ?_
    refine j_iconst X (v := 2) (by decide) dX8_needs_54 ?_
    refine j_iload_n X 0 rfl rfl dX8_needs_55 ?_
    refine j_imul X dX8_needs_56 ?_
    refine j_iadd X dX8_needs_57 ?_
    exact j_iret X hr hlocks dX8_needs_58 h
  replace h := h.2 w_3
  by_cases w_4 : r2 = 2
  · replace h := h.1 w_4
    refine j_tsw_in X 66 2 w_4 (by decide) (by decide) (off := 53) rfl (by decide) dX8_needs_13 ?_
    refine j_bipush X (v := 30) (by decide) dX8_needs_66 ?_
    exact j_iret X hr hlocks dX8_needs_68 h
  replace h := h.2 w_4
  by_cases w_5 : r2 = 3
  · replace h := h.1 w_5
    refine j_tsw_in X 74 3 w_5 (by decide) (by decide) (off := 61) rfl (by decide) dX8_needs_13 ?_
    refine j_bipush X (v := 80) (by decide) dX8_needs_74 ?_
    exact j_iret X hr hlocks dX8_needs_76 h
  replace h := h.2 w_5
  by_cases w_6 : r2 = 4
  · replace h := h.1 w_6
    refine j_tsw_in X 59 4 w_6 (by decide) (by decide) (off := 46) rfl (by decide) dX8_needs_13 ?_
    refine j_bipush X (v := 55) (by decide) dX8_needs_59 ?_
    refine j_iconst X (v := 2) (by decide) dX8_needs_61 ?_
    refine j_iload_n X 0 rfl rfl dX8_needs_62 ?_
    refine j_imul X dX8_needs_63 ?_
    refine j_iadd X dX8_needs_64 ?_
    exact j_iret X hr hlocks dX8_needs_65 h
  replace h := h.2 w_6
  by_cases w_7 : r2 = 5
  · replace h := h.1 w_7
    refine j_tsw_in X 69 5 w_7 (by decide) (by decide) (off := 56) rfl (by decide) dX8_needs_13 ?_
    refine j_bipush X (v := 30) (by decide) dX8_needs_69 ?_
    refine j_iload_n X 0 rfl rfl dX8_needs_71 ?_
    refine j_iadd X dX8_needs_72 ?_
    exact j_iret X hr hlocks dX8_needs_73 h
  replace h := h.2 w_7
  by_cases w_8 : r2 = 6
  · replace h := h.1 w_8
    refine j_tsw_in X 77 6 w_8 (by decide) (by decide) (off := 64) rfl (by decide) dX8_needs_13 ?_
    refine j_bipush X (v := 80) (by decide) dX8_needs_77 ?_
    refine j_iload_n X 0 rfl rfl dX8_needs_79 ?_
    refine j_isub X dX8_needs_80 ?_
    exact j_iret X hr hlocks dX8_needs_81 h
  replace h := h.2 w_8
  have qw_3 := ti_ne (n := 1) (by decide) w_3
  have qw_4 := ti_ne (n := 2) (by decide) w_4
  have qw_5 := ti_ne (n := 3) (by decide) w_5
  have qw_6 := ti_ne (n := 4) (by decide) w_6
  have qw_7 := ti_ne (n := 5) (by decide) w_7
  have qw_8 := ti_ne (n := 6) (by decide) w_8
  refine j_tsw_out X 82 (by omega) (by decide) dX8_needs_13 ?_
  refine j_bipush X (v := 50) (by decide) dX8_needs_82 ?_
  exact j_iret X hr hlocks dX8_needs_84 h
