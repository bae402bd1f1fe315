/-! THE REFERENCE'S CONSTRUCTOR -/
theorem tw_451 : Cond.arrayClass FieldType.byte ∈ tbg := tbg_in (List.mem_of_getElem? (l := tables_1_2) (i := 155) rfl) tq_2 rfl
theorem tw_892 : Cond.methodLink "DonkeyVerdictsModel" 1 Jvm.Lib.objectInit ∈ tbg := tbg_in (List.mem_of_getElem? (l := tables_1_4) (i := 116) rfl) tq_4 rfl
theorem dX10_init_0 : decode cX10_init 0 = .ok (.aload_n 0, 1) := by decide +kernel
theorem dX10_init_1 : decode cX10_init 1 = .ok (.invokespecial 1, 3) := by decide +kernel
theorem dX10_init_4 : decode cX10_init 4 = .ok (.aload_n 0, 1) := by decide +kernel
theorem dX10_init_5 : decode cX10_init 5 = .ok (.bipush 64, 2) := by decide +kernel
theorem dX10_init_7 : decode cX10_init 7 = .ok (.newarray .int, 2) := by decide +kernel
theorem dX10_init_9 : decode cX10_init 9 = .ok (.putfield 7, 3) := by decide +kernel
theorem dX10_init_12 : decode cX10_init 12 = .ok (.aload_n 0, 1) := by decide +kernel
theorem dX10_init_13 : decode cX10_init 13 = .ok (.bipush 64, 2) := by decide +kernel
theorem dX10_init_15 : decode cX10_init 15 = .ok (.newarray .int, 2) := by decide +kernel
theorem dX10_init_17 : decode cX10_init 17 = .ok (.putfield 13, 3) := by decide +kernel
theorem dX10_init_20 : decode cX10_init 20 = .ok (.aload_n 0, 1) := by decide +kernel
theorem dX10_init_21 : decode cX10_init 21 = .ok (.iconst 4, 1) := by decide +kernel
theorem dX10_init_22 : decode cX10_init 22 = .ok (.newarray .int, 2) := by decide +kernel
theorem dX10_init_24 : decode cX10_init 24 = .ok (.putfield 16, 3) := by decide +kernel
theorem dX10_init_27 : decode cX10_init 27 = .ok (.aload_n 0, 1) := by decide +kernel
theorem dX10_init_28 : decode cX10_init 28 = .ok (.iconst 4, 1) := by decide +kernel
theorem dX10_init_29 : decode cX10_init 29 = .ok (.newarray .int, 2) := by decide +kernel
theorem dX10_init_31 : decode cX10_init 31 = .ok (.putfield 19, 3) := by decide +kernel
theorem dX10_init_34 : decode cX10_init 34 = .ok (.aload_n 0, 1) := by decide +kernel
theorem dX10_init_35 : decode cX10_init 35 = .ok (.iconst 5, 1) := by decide +kernel
theorem dX10_init_36 : decode cX10_init 36 = .ok (.newarray .int, 2) := by decide +kernel
theorem dX10_init_38 : decode cX10_init 38 = .ok (.putfield 22, 3) := by decide +kernel
theorem dX10_init_41 : decode cX10_init 41 = .ok (.aload_n 0, 1) := by decide +kernel
theorem dX10_init_42 : decode cX10_init 42 = .ok (.iconst 5, 1) := by decide +kernel
theorem dX10_init_43 : decode cX10_init 43 = .ok (.newarray .int, 2) := by decide +kernel
theorem dX10_init_45 : decode cX10_init 45 = .ok (.putfield 25, 3) := by decide +kernel
theorem dX10_init_48 : decode cX10_init 48 = .ok (.aload_n 0, 1) := by decide +kernel
theorem dX10_init_49 : decode cX10_init 49 = .ok (.bipush 64, 2) := by decide +kernel
theorem dX10_init_51 : decode cX10_init 51 = .ok (.newarray .int, 2) := by decide +kernel
theorem dX10_init_53 : decode cX10_init 53 = .ok (.putfield 28, 3) := by decide +kernel
theorem dX10_init_56 : decode cX10_init 56 = .ok (.aload_n 0, 1) := by decide +kernel
theorem dX10_init_57 : decode cX10_init 57 = .ok (.iconst 4, 1) := by decide +kernel
theorem dX10_init_58 : decode cX10_init 58 = .ok (.newarray .int, 2) := by decide +kernel
theorem dX10_init_60 : decode cX10_init 60 = .ok (.putfield 31, 3) := by decide +kernel
theorem dX10_init_63 : decode cX10_init 63 = .ok (.aload_n 0, 1) := by decide +kernel
theorem dX10_init_64 : decode cX10_init 64 = .ok (.iconst 4, 1) := by decide +kernel
theorem dX10_init_65 : decode cX10_init 65 = .ok (.newarray .int, 2) := by decide +kernel
theorem dX10_init_67 : decode cX10_init 67 = .ok (.putfield 34, 3) := by decide +kernel
theorem dX10_init_70 : decode cX10_init 70 = .ok (.aload_n 0, 1) := by decide +kernel
theorem dX10_init_71 : decode cX10_init 71 = .ok (.iconst 5, 1) := by decide +kernel
theorem dX10_init_72 : decode cX10_init 72 = .ok (.newarray .int, 2) := by decide +kernel
theorem dX10_init_74 : decode cX10_init 74 = .ok (.putfield 37, 3) := by decide +kernel
theorem dX10_init_77 : decode cX10_init 77 = .ok (.aload_n 0, 1) := by decide +kernel
theorem dX10_init_78 : decode cX10_init 78 = .ok (.iconst 5, 1) := by decide +kernel
theorem dX10_init_79 : decode cX10_init 79 = .ok (.newarray .int, 2) := by decide +kernel
theorem dX10_init_81 : decode cX10_init 81 = .ok (.putfield 40, 3) := by decide +kernel
theorem dX10_init_84 : decode cX10_init 84 = .ok (.aload_n 0, 1) := by decide +kernel
theorem dX10_init_85 : decode cX10_init 85 = .ok (.sipush 768, 3) := by decide +kernel
theorem dX10_init_88 : decode cX10_init 88 = .ok (.newarray .int, 2) := by decide +kernel
theorem dX10_init_90 : decode cX10_init 90 = .ok (.putfield 43, 3) := by decide +kernel
theorem dX10_init_93 : decode cX10_init 93 = .ok (.aload_n 0, 1) := by decide +kernel
theorem dX10_init_94 : decode cX10_init 94 = .ok (.sipush 200, 3) := by decide +kernel
theorem dX10_init_97 : decode cX10_init 97 = .ok (.newarray .byte, 2) := by decide +kernel
theorem dX10_init_99 : decode cX10_init 99 = .ok (.putfield 46, 3) := by decide +kernel
theorem dX10_init_102 : decode cX10_init 102 = .ok (.aload_n 0, 1) := by decide +kernel
theorem dX10_init_103 : decode cX10_init 103 = .ok (.iconst 5, 1) := by decide +kernel
theorem dX10_init_104 : decode cX10_init 104 = .ok (.newarray .int, 2) := by decide +kernel
theorem dX10_init_106 : decode cX10_init 106 = .ok (.putfield 50, 3) := by decide +kernel
theorem dX10_init_109 : decode cX10_init 109 = .ok (.aload_n 0, 1) := by decide +kernel
theorem dX10_init_110 : decode cX10_init 110 = .ok (.iconst 4, 1) := by decide +kernel
theorem dX10_init_111 : decode cX10_init 111 = .ok (.newarray .int, 2) := by decide +kernel
theorem dX10_init_113 : decode cX10_init 113 = .ok (.putfield 53, 3) := by decide +kernel
theorem dX10_init_116 : decode cX10_init 116 = .ok (.aload_n 0, 1) := by decide +kernel
theorem dX10_init_117 : decode cX10_init 117 = .ok (.iconst 4, 1) := by decide +kernel
theorem dX10_init_118 : decode cX10_init 118 = .ok (.newarray .int, 2) := by decide +kernel
theorem dX10_init_120 : decode cX10_init 120 = .ok (.putfield 56, 3) := by decide +kernel
theorem dX10_init_123 : decode cX10_init 123 = .ok (.aload_n 0, 1) := by decide +kernel
theorem dX10_init_124 : decode cX10_init 124 = .ok (.invokevirtual 59, 3) := by decide +kernel
theorem dX10_init_127 : decode cX10_init 127 = .ok (.aload_n 0, 1) := by decide +kernel
theorem dX10_init_128 : decode cX10_init 128 = .ok (.bipush 7, 2) := by decide +kernel
theorem dX10_init_130 : decode cX10_init 130 = .ok (.putfield 62, 3) := by decide +kernel
theorem dX10_init_133 : decode cX10_init 133 = .ok (.aload_n 0, 1) := by decide +kernel
theorem dX10_init_134 : decode cX10_init 134 = .ok (.iconst 0, 1) := by decide +kernel
theorem dX10_init_135 : decode cX10_init 135 = .ok (.iconst 1, 1) := by decide +kernel
theorem dX10_init_136 : decode cX10_init 136 = .ok (.iconst 2, 1) := by decide +kernel
theorem dX10_init_137 : decode cX10_init 137 = .ok (.invokevirtual 66, 3) := by decide +kernel
theorem dX10_init_140 : decode cX10_init 140 = .ok (.aload_n 0, 1) := by decide +kernel
theorem dX10_init_141 : decode cX10_init 141 = .ok (.iconst 1, 1) := by decide +kernel
theorem dX10_init_142 : decode cX10_init 142 = .ok (.iconst 2, 1) := by decide +kernel
theorem dX10_init_143 : decode cX10_init 143 = .ok (.iconst 3, 1) := by decide +kernel
theorem dX10_init_144 : decode cX10_init 144 = .ok (.invokevirtual 66, 3) := by decide +kernel
theorem dX10_init_147 : decode cX10_init 147 = .ok (.aload_n 0, 1) := by decide +kernel
theorem dX10_init_148 : decode cX10_init 148 = .ok (.iconst 2, 1) := by decide +kernel
theorem dX10_init_149 : decode cX10_init 149 = .ok (.iconst 3, 1) := by decide +kernel
theorem dX10_init_150 : decode cX10_init 150 = .ok (.iconst 1, 1) := by decide +kernel
theorem dX10_init_151 : decode cX10_init 151 = .ok (.invokevirtual 66, 3) := by decide +kernel
theorem dX10_init_154 : decode cX10_init 154 = .ok (.aload_n 0, 1) := by decide +kernel
theorem dX10_init_155 : decode cX10_init 155 = .ok (.iconst 1, 1) := by decide +kernel
theorem dX10_init_156 : decode cX10_init 156 = .ok (.iconst 4, 1) := by decide +kernel
theorem dX10_init_157 : decode cX10_init 157 = .ok (.iconst 4, 1) := by decide +kernel
theorem dX10_init_158 : decode cX10_init 158 = .ok (.invokevirtual 66, 3) := by decide +kernel
theorem dX10_init_161 : decode cX10_init 161 = .ok (.aload_n 0, 1) := by decide +kernel
theorem dX10_init_162 : decode cX10_init 162 = .ok (.iconst 4, 1) := by decide +kernel
theorem dX10_init_163 : decode cX10_init 163 = .ok (.iconst 5, 1) := by decide +kernel
theorem dX10_init_164 : decode cX10_init 164 = .ok (.iconst 2, 1) := by decide +kernel
theorem dX10_init_165 : decode cX10_init 165 = .ok (.invokevirtual 66, 3) := by decide +kernel
theorem dX10_init_168 : decode cX10_init 168 = .ok (.aload_n 0, 1) := by decide +kernel
theorem dX10_init_169 : decode cX10_init 169 = .ok (.iconst 3, 1) := by decide +kernel
theorem dX10_init_170 : decode cX10_init 170 = .ok (.iconst 5, 1) := by decide +kernel
theorem dX10_init_171 : decode cX10_init 171 = .ok (.iconst 5, 1) := by decide +kernel
theorem dX10_init_172 : decode cX10_init 172 = .ok (.invokevirtual 66, 3) := by decide +kernel
theorem dX10_init_175 : decode cX10_init 175 = .ok (.aload_n 0, 1) := by decide +kernel
theorem dX10_init_176 : decode cX10_init 176 = .ok (.iconst 0, 1) := by decide +kernel
theorem dX10_init_177 : decode cX10_init 177 = .ok (.bipush 6, 2) := by decide +kernel
theorem dX10_init_179 : decode cX10_init 179 = .ok (.bipush 6, 2) := by decide +kernel
theorem dX10_init_181 : decode cX10_init 181 = .ok (.invokevirtual 66, 3) := by decide +kernel
theorem dX10_init_184 : decode cX10_init 184 = .ok (.aload_n 0, 1) := by decide +kernel
theorem dX10_init_185 : decode cX10_init 185 = .ok (.bipush 6, 2) := by decide +kernel
theorem dX10_init_187 : decode cX10_init 187 = .ok (.iconst 3, 1) := by decide +kernel
theorem dX10_init_188 : decode cX10_init 188 = .ok (.iconst 2, 1) := by decide +kernel
theorem dX10_init_189 : decode cX10_init 189 = .ok (.invokevirtual 66, 3) := by decide +kernel
theorem dX10_init_192 : decode cX10_init 192 = .ok (.aload_n 0, 1) := by decide +kernel
theorem dX10_init_193 : decode cX10_init 193 = .ok (.iconst 0, 1) := by decide +kernel
theorem dX10_init_194 : decode cX10_init 194 = .ok (.iconst 3, 1) := by decide +kernel
theorem dX10_init_195 : decode cX10_init 195 = .ok (.invokevirtual 70, 3) := by decide +kernel
theorem dX10_init_198 : decode cX10_init 198 = .ok (.aload_n 0, 1) := by decide +kernel
theorem dX10_init_199 : decode cX10_init 199 = .ok (.iconst 1, 1) := by decide +kernel
theorem dX10_init_200 : decode cX10_init 200 = .ok (.iconst 5, 1) := by decide +kernel
theorem dX10_init_201 : decode cX10_init 201 = .ok (.invokevirtual 70, 3) := by decide +kernel
theorem dX10_init_204 : decode cX10_init 204 = .ok (.aload_n 0, 1) := by decide +kernel
theorem dX10_init_205 : decode cX10_init 205 = .ok (.iconst 2, 1) := by decide +kernel
theorem dX10_init_206 : decode cX10_init 206 = .ok (.iconst 4, 1) := by decide +kernel
theorem dX10_init_207 : decode cX10_init 207 = .ok (.invokevirtual 70, 3) := by decide +kernel
theorem dX10_init_210 : decode cX10_init 210 = .ok (.aload_n 0, 1) := by decide +kernel
theorem dX10_init_211 : decode cX10_init 211 = .ok (.iconst 3, 1) := by decide +kernel
theorem dX10_init_212 : decode cX10_init 212 = .ok (.iconst 2, 1) := by decide +kernel
theorem dX10_init_213 : decode cX10_init 213 = .ok (.invokevirtual 70, 3) := by decide +kernel
theorem dX10_init_216 : decode cX10_init 216 = .ok (.aload_n 0, 1) := by decide +kernel
theorem dX10_init_217 : decode cX10_init 217 = .ok (.iconst 0, 1) := by decide +kernel
theorem dX10_init_218 : decode cX10_init 218 = .ok (.iconst 1, 1) := by decide +kernel
theorem dX10_init_219 : decode cX10_init 219 = .ok (.iconst 3, 1) := by decide +kernel
theorem dX10_init_220 : decode cX10_init 220 = .ok (.invokevirtual 74, 3) := by decide +kernel
theorem dX10_init_223 : decode cX10_init 223 = .ok (.aload_n 0, 1) := by decide +kernel
theorem dX10_init_224 : decode cX10_init 224 = .ok (.iconst 1, 1) := by decide +kernel
theorem dX10_init_225 : decode cX10_init 225 = .ok (.iconst 2, 1) := by decide +kernel
theorem dX10_init_226 : decode cX10_init 226 = .ok (.iconst 5, 1) := by decide +kernel
theorem dX10_init_227 : decode cX10_init 227 = .ok (.invokevirtual 74, 3) := by decide +kernel
theorem dX10_init_230 : decode cX10_init 230 = .ok (.aload_n 0, 1) := by decide +kernel
theorem dX10_init_231 : decode cX10_init 231 = .ok (.iconst 2, 1) := by decide +kernel
theorem dX10_init_232 : decode cX10_init 232 = .ok (.iconst 1, 1) := by decide +kernel
theorem dX10_init_233 : decode cX10_init 233 = .ok (.bipush 7, 2) := by decide +kernel
theorem dX10_init_235 : decode cX10_init 235 = .ok (.invokevirtual 74, 3) := by decide +kernel
theorem dX10_init_238 : decode cX10_init 238 = .ok (.aload_n 0, 1) := by decide +kernel
theorem dX10_init_239 : decode cX10_init 239 = .ok (.iconst 3, 1) := by decide +kernel
theorem dX10_init_240 : decode cX10_init 240 = .ok (.iconst 3, 1) := by decide +kernel
theorem dX10_init_241 : decode cX10_init 241 = .ok (.iconst 2, 1) := by decide +kernel
theorem dX10_init_242 : decode cX10_init 242 = .ok (.invokevirtual 74, 3) := by decide +kernel
theorem dX10_init_245 : decode cX10_init 245 = .ok (.aload_n 0, 1) := by decide +kernel
theorem dX10_init_246 : decode cX10_init 246 = .ok (.getfield 43, 3) := by decide +kernel
theorem dX10_init_249 : decode cX10_init 249 = .ok (.sipush 761, 3) := by decide +kernel
theorem dX10_init_252 : decode cX10_init 252 = .ok (.iconst 1, 1) := by decide +kernel
theorem dX10_init_253 : decode cX10_init 253 = .ok (.iastore, 1) := by decide +kernel
theorem dX10_init_254 : decode cX10_init 254 = .ok (.aload_n 0, 1) := by decide +kernel
theorem dX10_init_255 : decode cX10_init 255 = .ok (.getfield 43, 3) := by decide +kernel
theorem dX10_init_258 : decode cX10_init 258 = .ok (.sipush 763, 3) := by decide +kernel
theorem dX10_init_261 : decode cX10_init 261 = .ok (.iconst 2, 1) := by decide +kernel
theorem dX10_init_262 : decode cX10_init 262 = .ok (.iastore, 1) := by decide +kernel
theorem dX10_init_263 : decode cX10_init 263 = .ok (.aload_n 0, 1) := by decide +kernel
theorem dX10_init_264 : decode cX10_init 264 = .ok (.bipush 16, 2) := by decide +kernel
theorem dX10_init_266 : decode cX10_init 266 = .ok (.putfield 77, 3) := by decide +kernel
theorem dX10_init_269 : decode cX10_init 269 = .ok (.aload_n 0, 1) := by decide +kernel
theorem dX10_init_270 : decode cX10_init 270 = .ok (.invokevirtual 80, 3) := by decide +kernel
theorem dX10_init_273 : decode cX10_init 273 = .ok (.return_, 1) := by decide +kernel
def pM2 (fu : Nat) (M : Mem) : Res :=
  bV (pX10_clears fu  (M)) fun M1 =>
  bV (pX10_leads fu (nI 0) (nI 1) (nI 2) (up2 (M1) 0 10 (nI 7))) fun M2 =>
  bV (pX10_leads fu (nI 1) (nI 2) (nI 3) (M2)) fun M3 =>
  bV (pX10_leads fu (nI 2) (nI 3) (nI 1) (M3)) fun M4 =>
  bV (pX10_leads fu (nI 1) (nI 4) (nI 4) (M4)) fun M5 =>
  bV (pX10_leads fu (nI 4) (nI 5) (nI 2) (M5)) fun M6 =>
  bV (pX10_leads fu (nI 3) (nI 5) (nI 5) (M6)) fun M7 =>
  bV (pX10_leads fu (nI 0) (nI 6) (nI 6) (M7)) fun M8 =>
  bV (pX10_leads fu (nI 6) (nI 3) (nI 2) (M8)) fun M9 =>
  bV (pX10_opens fu (nI 0) (nI 3) (M9)) fun M10 =>
  bV (pX10_opens fu (nI 1) (nI 5) (M10)) fun M11 =>
  bV (pX10_opens fu (nI 2) (nI 4) (M11)) fun M12 =>
  bV (pX10_opens fu (nI 3) (nI 2) (M12)) fun M13 =>
  bV (pX10_comes fu (nI 0) (nI 1) (nI 3) (M13)) fun M14 =>
  bV (pX10_comes fu (nI 1) (nI 2) (nI 5) (M14)) fun M15 =>
  bV (pX10_comes fu (nI 2) (nI 1) (nI 7) (M15)) fun M16 =>
  bV (pX10_comes fu (nI 3) (nI 3) (nI 2) (M16)) fun M17 =>
  bV (pX10_settles fu  (up2 (up2 (up2 (M17) 12 (nI 761).toNatClampNeg (nI 1)) 12 (nI 763).toNatClampNeg (nI 2)) 0 12 (nI 16))) fun M18 =>
  some (0, M18)
theorem bV_inv {f : Res} {K : Mem → Res} {x : Int32 × Mem} (h : bV f K = some x) : ∃ r M1, f = some (r, M1) ∧ K M1 = some x := by
  cases f with
  | none => cases h
  | some q => exact ⟨q.1, q.2, rfl, h⟩
theorem inj_of {G : jS} {M : Mem} {A : Nat → Prop} (h : va_D A (wld G M)) : jInj G := fun i j hi hj e => h.1 i j _ _ (wld_get hi) (wld_get hj) e
theorem jA_of {G : jS} {M : Mem} {A : Nat → Prop} (h : va_D A (wld G M)) : ∀ q, jA G q → A q := fun q hq => by
  obtain ⟨k, hk, rfl⟩ := hq
  exact h.2 k _ (wld_get hk)
def mZ : Mem := fun _ _ => 0
set_option maxHeartbeats 4000000 in
set_option maxRecDepth 100000 in
theorem wldM_eq (D : va_G) (cA : Nat → ClassId) (h0 q1 q2 q3 q4 q5 q6 q7 q8 q9 q10 q11 q12 q13 q14 q15 q16 : Nat) : [(h0, .inr (9, [.int 0, .ref q1, .ref q2, .int 0, .int 0, .ref q3, .ref q4, .int 0, .ref q5, .ref q6, .int 0, .ref q7, .int 0, .int 0, .ref q8, .ref q9, .int 0, .ref q10, .ref q11, .ref q12, .int 0, .int 0, .int 0, .ref q13, .int 0, .int 0, .int 0, .ref q14, .ref q15, .ref q16])), (q1, .inl (cA 20, 64, .inl (fun _ => 0))), (q2, .inl (cA 20, 64, .inl (fun _ => 0))), (q3, .inl (cA 20, 4, .inl (fun _ => 0))), (q4, .inl (cA 20, 4, .inl (fun _ => 0))), (q5, .inl (cA 20, 5, .inl (fun _ => 0))), (q6, .inl (cA 20, 5, .inl (fun _ => 0))), (q7, .inl (cA 20, 64, .inl (fun _ => 0))), (q8, .inl (cA 20, 4, .inl (fun _ => 0))), (q9, .inl (cA 20, 4, .inl (fun _ => 0))), (q10, .inl (cA 20, 5, .inl (fun _ => 0))), (q11, .inl (cA 20, 5, .inl (fun _ => 0))), (q12, .inl (cA 20, 768, .inl (fun _ => 0))), (q13, .inl (cA 21, 200, .inl (fun _ => 0))), (q14, .inl (cA 20, 5, .inl (fun _ => 0))), (q15, .inl (cA 20, 4, .inl (fun _ => 0))), (q16, .inl (cA 20, 4, .inl (fun _ => 0)))] = wld (gM (D, (fun k => if k = 0 then h0 else ([0, q1, q2, q3, q4, q5, q6, q7, q8, q9, q10, q11, q12, q13, q14, q15, q16] : List Nat).getD k 0), cA)) mZ := rfl
set_option maxHeartbeats 4000000 in
set_option maxRecDepth 100000 in
theorem k_X10 (l : Launch) (D : va_G) (cA : Nat → ClassId) (h0 : Nat) (fu : Nat) (Mf : Mem) (ho : pM2 fu mZ = some (0, Mf)) : cMet l D cA yX10_init cX10_init 1 { frames := 2, cells := 16, slots := 1209, locals := 45 } [.ref h0] h0 (.inr (9, [.int 0, .null, .null, .int 0, .int 0, .null, .null, .int 0, .null, .null, .int 0, .null, .int 0, .int 0, .null, .null, .int 0, .null, .null, .null, .int 0, .int 0, .int 0, .null, .int 0, .int 0, .int 0, .null, .null, .null])) 16 1209 (fun f => wld (gM (D, (fun k => if k = 0 then h0 else f k), cA)) Mf) := by
  intro sz
  refine Met.ofW (cc := cX10_init) (maxL := 1) (ret := none) (by decide) rfl ?_
  intro p e s m args below meth c s₁ B hml hv
  obtain ⟨rfl, hsz, hP, hK, hD0, hAO⟩ := hv
  have hx := B.exec
  have hb := B.bytes
  have hr := B.returns
  have hts0 := atoms_spec (ws := Cond.code yX10_init cX10_init 1 none :: tbg) B.pre
  have hts : ∀ w ∈ tbg, w.before _ s = true := fun w hw => hts0 w (List.mem_cons_of_mem _ hw)
  have hown : s.vm.findClass RX10 = some m.cls := findClass_of_methodNamed B.named
  have hlocks := B.notSynchronized
  have hin : meth.name = "<init>" := (name_of_methodNamed B.named B.method).1
  subst hsz
  have hD := hD0.self (sz := s.heap.size)
  generalize hAe : va_A [(h0, .inr (9, [.int 0, .null, .null, .int 0, .int 0, .null, .null, .int 0, .null, .null, .int 0, .null, .int 0, .int 0, .null, .null, .int 0, .null, .null, .null, .int 0, .int 0, .int 0, .null, .int 0, .int 0, .int 0, .null, .null, .null]))] s.heap.size = A at hD ⊢
  have hA : ∀ q : Nat, s.heap.size ≤ q → A q := fun q h => by rw [← hAe]; exact Or.inr h
  have hS : va_S A s.heap s.heap [] := va_S.rf
  have hP : va_P D vwCl [(h0, .inr (9, [.int 0, .null, .null, .int 0, .int 0, .null, .null, .int 0, .null, .null, .int 0, .null, .int 0, .int 0, .null, .null, .int 0, .null, .null, .null, .int 0, .int 0, .int 0, .null, .int 0, .int 0, .int 0, .null, .null, .null]))] s.heap := hP
  have hl := lv_entry ([.ref h0]) (n := 1) (Nat.le_of_ble_eq_true rfl)
  rw [lg_entry_eq]
  generalize (lg_sl ([.ref h0]) ++ List.replicate (1 - (lg_sl ([.ref h0])).length) Slot.unset).toArray = ls at hl ⊢
  have hl : lv_has ls 1 [(0, .ref h0)] := hl
  refine lv_aload_n hx hb dX10_init_0 rfl (lv_at hl 0 rfl) ?_
  refine W.objInit hx hb hown (hts _ tw_892) (hts _ tw_81) (hts _ tw_82) rfl (by rw [hml]; exact hl.1) rfl dX10_init_1 (Nat.le_of_ble_eq_true rfl) (Nat.le_of_ble_eq_true rfl) ?_
  refine W.eq (g2 := F0 m 4 ls []) rfl ?_
  refine lv_aload_n hx hb dX10_init_4 rfl (lv_at hl 0 rfl) ?_
  refine lv_bipush (v := nI 64) hx hb dX10_init_5 (by decide) ?_
  refine va_newa (ty := .int) (a0 := (64, .inl (fun _ => 0))) hx hb (atype := .int) (hts _ tw_113) rfl hK hP hD hS hA (fun _ => rfl) (by decide) (nI_clamp (by decide)) (by decide) (Nat.le_of_ble_eq_true rfl) (Nat.le_of_ble_eq_true rfl) dX10_init_7 (fun q1 c1 H hK1 hP hD hS => ?_)
  obtain rfl : c1 = cA 20 := ty_eq hK1 0 rfl
  have hP : va_P D vwCl [(h0, .inr (9, [.int 0, .null, .null, .int 0, .int 0, .null, .null, .int 0, .null, .null, .int 0, .null, .int 0, .int 0, .null, .null, .int 0, .null, .null, .null, .int 0, .int 0, .int 0, .null, .int 0, .int 0, .int 0, .null, .null, .null])), (q1, .inl (cA 20, 64, .inl (fun _ => 0)))] H := hP
  have hD : va_D A [(h0, .inr (9, [.int 0, .null, .null, .int 0, .int 0, .null, .null, .int 0, .null, .null, .int 0, .null, .int 0, .int 0, .null, .null, .int 0, .null, .null, .null, .int 0, .int 0, .int 0, .null, .int 0, .int 0, .int 0, .null, .null, .null])), (q1, .inl (cA 20, 64, .inl (fun _ => 0)))] := hD
  refine va_putF (ci := 9) (v := .ref q1) (ty := .array .int) (C := RX10) (T := TX10) (N := 30) hx hb hts inX10 tyX10 tyX10_ok nmX10 hown hK hP hD hS 0 rfl rfl 1 (by decide) (hts _ tw_921) (fun _ h9 => h9) rfl hin rfl (by decide +kernel) rfl rfl (Nat.le_of_ble_eq_true rfl) dX10_init_9 (fun H locs hP hD hS => ?_)
  have hP : va_P D vwCl [(h0, .inr (9, [.int 0, .ref q1, .null, .int 0, .int 0, .null, .null, .int 0, .null, .null, .int 0, .null, .int 0, .int 0, .null, .null, .int 0, .null, .null, .null, .int 0, .int 0, .int 0, .null, .int 0, .int 0, .int 0, .null, .null, .null])), (q1, .inl (cA 20, 64, .inl (fun _ => 0)))] H := hP
  have hD : va_D A [(h0, .inr (9, [.int 0, .ref q1, .null, .int 0, .int 0, .null, .null, .int 0, .null, .null, .int 0, .null, .int 0, .int 0, .null, .null, .int 0, .null, .null, .null, .int 0, .int 0, .int 0, .null, .int 0, .int 0, .int 0, .null, .null, .null])), (q1, .inl (cA 20, 64, .inl (fun _ => 0)))] := hD
  refine lv_aload_n hx hb dX10_init_12 rfl (lv_at hl 0 rfl) ?_
  refine lv_bipush (v := nI 64) hx hb dX10_init_13 (by decide) ?_
  refine va_newa (ty := .int) (a0 := (64, .inl (fun _ => 0))) hx hb (atype := .int) (hts _ tw_113) rfl hK hP hD hS hA (fun _ => rfl) (by decide) (nI_clamp (by decide)) (by decide) (Nat.le_of_ble_eq_true rfl) (Nat.le_of_ble_eq_true rfl) dX10_init_15 (fun q2 c1 H hK1 hP hD hS => ?_)
  obtain rfl : c1 = cA 20 := ty_eq hK1 0 rfl
  have hP : va_P D vwCl [(h0, .inr (9, [.int 0, .ref q1, .null, .int 0, .int 0, .null, .null, .int 0, .null, .null, .int 0, .null, .int 0, .int 0, .null, .null, .int 0, .null, .null, .null, .int 0, .int 0, .int 0, .null, .int 0, .int 0, .int 0, .null, .null, .null])), (q1, .inl (cA 20, 64, .inl (fun _ => 0))), (q2, .inl (cA 20, 64, .inl (fun _ => 0)))] H := hP
  have hD : va_D A [(h0, .inr (9, [.int 0, .ref q1, .null, .int 0, .int 0, .null, .null, .int 0, .null, .null, .int 0, .null, .int 0, .int 0, .null, .null, .int 0, .null, .null, .null, .int 0, .int 0, .int 0, .null, .int 0, .int 0, .int 0, .null, .null, .null])), (q1, .inl (cA 20, 64, .inl (fun _ => 0))), (q2, .inl (cA 20, 64, .inl (fun _ => 0)))] := hD
  refine va_putF (ci := 9) (v := .ref q2) (ty := .array .int) (C := RX10) (T := TX10) (N := 30) hx hb hts inX10 tyX10 tyX10_ok nmX10 hown hK hP hD hS 0 rfl rfl 2 (by decide) (hts _ tw_922) (fun _ h9 => h9) rfl hin rfl (by decide +kernel) rfl rfl (Nat.le_of_ble_eq_true rfl) dX10_init_17 (fun H locs hP hD hS => ?_)
  have hP : va_P D vwCl [(h0, .inr (9, [.int 0, .ref q1, .ref q2, .int 0, .int 0, .null, .null, .int 0, .null, .null, .int 0, .null, .int 0, .int 0, .null, .null, .int 0, .null, .null, .null, .int 0, .int 0, .int 0, .null, .int 0, .int 0, .int 0, .null, .null, .null])), (q1, .inl (cA 20, 64, .inl (fun _ => 0))), (q2, .inl (cA 20, 64, .inl (fun _ => 0)))] H := hP
  have hD : va_D A [(h0, .inr (9, [.int 0, .ref q1, .ref q2, .int 0, .int 0, .null, .null, .int 0, .null, .null, .int 0, .null, .int 0, .int 0, .null, .null, .int 0, .null, .null, .null, .int 0, .int 0, .int 0, .null, .int 0, .int 0, .int 0, .null, .null, .null])), (q1, .inl (cA 20, 64, .inl (fun _ => 0))), (q2, .inl (cA 20, 64, .inl (fun _ => 0)))] := hD
  refine lv_aload_n hx hb dX10_init_20 rfl (lv_at hl 0 rfl) ?_
  refine lv_iconst (v := nI 4) hx hb dX10_init_21 (by decide) ?_
  refine va_newa (ty := .int) (a0 := (4, .inl (fun _ => 0))) hx hb (atype := .int) (hts _ tw_113) rfl hK hP hD hS hA (fun _ => rfl) (by decide) (nI_clamp (by decide)) (by decide) (Nat.le_of_ble_eq_true rfl) (Nat.le_of_ble_eq_true rfl) dX10_init_22 (fun q3 c1 H hK1 hP hD hS => ?_)
  obtain rfl : c1 = cA 20 := ty_eq hK1 0 rfl
  have hP : va_P D vwCl [(h0, .inr (9, [.int 0, .ref q1, .ref q2, .int 0, .int 0, .null, .null, .int 0, .null, .null, .int 0, .null, .int 0, .int 0, .null, .null, .int 0, .null, .null, .null, .int 0, .int 0, .int 0, .null, .int 0, .int 0, .int 0, .null, .null, .null])), (q1, .inl (cA 20, 64, .inl (fun _ => 0))), (q2, .inl (cA 20, 64, .inl (fun _ => 0))), (q3, .inl (cA 20, 4, .inl (fun _ => 0)))] H := hP
  have hD : va_D A [(h0, .inr (9, [.int 0, .ref q1, .ref q2, .int 0, .int 0, .null, .null, .int 0, .null, .null, .int 0, .null, .int 0, .int 0, .null, .null, .int 0, .null, .null, .null, .int 0, .int 0, .int 0, .null, .int 0, .int 0, .int 0, .null, .null, .null])), (q1, .inl (cA 20, 64, .inl (fun _ => 0))), (q2, .inl (cA 20, 64, .inl (fun _ => 0))), (q3, .inl (cA 20, 4, .inl (fun _ => 0)))] := hD
  refine va_putF (ci := 9) (v := .ref q3) (ty := .array .int) (C := RX10) (T := TX10) (N := 30) hx hb hts inX10 tyX10 tyX10_ok nmX10 hown hK hP hD hS 0 rfl rfl 5 (by decide) (hts _ tw_925) (fun _ h9 => h9) rfl hin rfl (by decide +kernel) rfl rfl (Nat.le_of_ble_eq_true rfl) dX10_init_24 (fun H locs hP hD hS => ?_)
  have hP : va_P D vwCl [(h0, .inr (9, [.int 0, .ref q1, .ref q2, .int 0, .int 0, .ref q3, .null, .int 0, .null, .null, .int 0, .null, .int 0, .int 0, .null, .null, .int 0, .null, .null, .null, .int 0, .int 0, .int 0, .null, .int 0, .int 0, .int 0, .null, .null, .null])), (q1, .inl (cA 20, 64, .inl (fun _ => 0))), (q2, .inl (cA 20, 64, .inl (fun _ => 0))), (q3, .inl (cA 20, 4, .inl (fun _ => 0)))] H := hP
  have hD : va_D A [(h0, .inr (9, [.int 0, .ref q1, .ref q2, .int 0, .int 0, .ref q3, .null, .int 0, .null, .null, .int 0, .null, .int 0, .int 0, .null, .null, .int 0, .null, .null, .null, .int 0, .int 0, .int 0, .null, .int 0, .int 0, .int 0, .null, .null, .null])), (q1, .inl (cA 20, 64, .inl (fun _ => 0))), (q2, .inl (cA 20, 64, .inl (fun _ => 0))), (q3, .inl (cA 20, 4, .inl (fun _ => 0)))] := hD
  refine lv_aload_n hx hb dX10_init_27 rfl (lv_at hl 0 rfl) ?_
  refine lv_iconst (v := nI 4) hx hb dX10_init_28 (by decide) ?_
  refine va_newa (ty := .int) (a0 := (4, .inl (fun _ => 0))) hx hb (atype := .int) (hts _ tw_113) rfl hK hP hD hS hA (fun _ => rfl) (by decide) (nI_clamp (by decide)) (by decide) (Nat.le_of_ble_eq_true rfl) (Nat.le_of_ble_eq_true rfl) dX10_init_29 (fun q4 c1 H hK1 hP hD hS => ?_)
  obtain rfl : c1 = cA 20 := ty_eq hK1 0 rfl
  have hP : va_P D vwCl [(h0, .inr (9, [.int 0, .ref q1, .ref q2, .int 0, .int 0, .ref q3, .null, .int 0, .null, .null, .int 0, .null, .int 0, .int 0, .null, .null, .int 0, .null, .null, .null, .int 0, .int 0, .int 0, .null, .int 0, .int 0, .int 0, .null, .null, .null])), (q1, .inl (cA 20, 64, .inl (fun _ => 0))), (q2, .inl (cA 20, 64, .inl (fun _ => 0))), (q3, .inl (cA 20, 4, .inl (fun _ => 0))), (q4, .inl (cA 20, 4, .inl (fun _ => 0)))] H := hP
  have hD : va_D A [(h0, .inr (9, [.int 0, .ref q1, .ref q2, .int 0, .int 0, .ref q3, .null, .int 0, .null, .null, .int 0, .null, .int 0, .int 0, .null, .null, .int 0, .null, .null, .null, .int 0, .int 0, .int 0, .null, .int 0, .int 0, .int 0, .null, .null, .null])), (q1, .inl (cA 20, 64, .inl (fun _ => 0))), (q2, .inl (cA 20, 64, .inl (fun _ => 0))), (q3, .inl (cA 20, 4, .inl (fun _ => 0))), (q4, .inl (cA 20, 4, .inl (fun _ => 0)))] := hD
  refine va_putF (ci := 9) (v := .ref q4) (ty := .array .int) (C := RX10) (T := TX10) (N := 30) hx hb hts inX10 tyX10 tyX10_ok nmX10 hown hK hP hD hS 0 rfl rfl 6 (by decide) (hts _ tw_926) (fun _ h9 => h9) rfl hin rfl (by decide +kernel) rfl rfl (Nat.le_of_ble_eq_true rfl) dX10_init_31 (fun H locs hP hD hS => ?_)
  have hP : va_P D vwCl [(h0, .inr (9, [.int 0, .ref q1, .ref q2, .int 0, .int 0, .ref q3, .ref q4, .int 0, .null, .null, .int 0, .null, .int 0, .int 0, .null, .null, .int 0, .null, .null, .null, .int 0, .int 0, .int 0, .null, .int 0, .int 0, .int 0, .null, .null, .null])), (q1, .inl (cA 20, 64, .inl (fun _ => 0))), (q2, .inl (cA 20, 64, .inl (fun _ => 0))), (q3, .inl (cA 20, 4, .inl (fun _ => 0))), (q4, .inl (cA 20, 4, .inl (fun _ => 0)))] H := hP
  have hD : va_D A [(h0, .inr (9, [.int 0, .ref q1, .ref q2, .int 0, .int 0, .ref q3, .ref q4, .int 0, .null, .null, .int 0, .null, .int 0, .int 0, .null, .null, .int 0, .null, .null, .null, .int 0, .int 0, .int 0, .null, .int 0, .int 0, .int 0, .null, .null, .null])), (q1, .inl (cA 20, 64, .inl (fun _ => 0))), (q2, .inl (cA 20, 64, .inl (fun _ => 0))), (q3, .inl (cA 20, 4, .inl (fun _ => 0))), (q4, .inl (cA 20, 4, .inl (fun _ => 0)))] := hD
  refine lv_aload_n hx hb dX10_init_34 rfl (lv_at hl 0 rfl) ?_
  refine lv_iconst (v := nI 5) hx hb dX10_init_35 (by decide) ?_
  refine va_newa (ty := .int) (a0 := (5, .inl (fun _ => 0))) hx hb (atype := .int) (hts _ tw_113) rfl hK hP hD hS hA (fun _ => rfl) (by decide) (nI_clamp (by decide)) (by decide) (Nat.le_of_ble_eq_true rfl) (Nat.le_of_ble_eq_true rfl) dX10_init_36 (fun q5 c1 H hK1 hP hD hS => ?_)
  obtain rfl : c1 = cA 20 := ty_eq hK1 0 rfl
  have hP : va_P D vwCl [(h0, .inr (9, [.int 0, .ref q1, .ref q2, .int 0, .int 0, .ref q3, .ref q4, .int 0, .null, .null, .int 0, .null, .int 0, .int 0, .null, .null, .int 0, .null, .null, .null, .int 0, .int 0, .int 0, .null, .int 0, .int 0, .int 0, .null, .null, .null])), (q1, .inl (cA 20, 64, .inl (fun _ => 0))), (q2, .inl (cA 20, 64, .inl (fun _ => 0))), (q3, .inl (cA 20, 4, .inl (fun _ => 0))), (q4, .inl (cA 20, 4, .inl (fun _ => 0))), (q5, .inl (cA 20, 5, .inl (fun _ => 0)))] H := hP
  have hD : va_D A [(h0, .inr (9, [.int 0, .ref q1, .ref q2, .int 0, .int 0, .ref q3, .ref q4, .int 0, .null, .null, .int 0, .null, .int 0, .int 0, .null, .null, .int 0, .null, .null, .null, .int 0, .int 0, .int 0, .null, .int 0, .int 0, .int 0, .null, .null, .null])), (q1, .inl (cA 20, 64, .inl (fun _ => 0))), (q2, .inl (cA 20, 64, .inl (fun _ => 0))), (q3, .inl (cA 20, 4, .inl (fun _ => 0))), (q4, .inl (cA 20, 4, .inl (fun _ => 0))), (q5, .inl (cA 20, 5, .inl (fun _ => 0)))] := hD
  refine va_putF (ci := 9) (v := .ref q5) (ty := .array .int) (C := RX10) (T := TX10) (N := 30) hx hb hts inX10 tyX10 tyX10_ok nmX10 hown hK hP hD hS 0 rfl rfl 8 (by decide) (hts _ tw_928) (fun _ h9 => h9) rfl hin rfl (by decide +kernel) rfl rfl (Nat.le_of_ble_eq_true rfl) dX10_init_38 (fun H locs hP hD hS => ?_)
  have hP : va_P D vwCl [(h0, .inr (9, [.int 0, .ref q1, .ref q2, .int 0, .int 0, .ref q3, .ref q4, .int 0, .ref q5, .null, .int 0, .null, .int 0, .int 0, .null, .null, .int 0, .null, .null, .null, .int 0, .int 0, .int 0, .null, .int 0, .int 0, .int 0, .null, .null, .null])), (q1, .inl (cA 20, 64, .inl (fun _ => 0))), (q2, .inl (cA 20, 64, .inl (fun _ => 0))), (q3, .inl (cA 20, 4, .inl (fun _ => 0))), (q4, .inl (cA 20, 4, .inl (fun _ => 0))), (q5, .inl (cA 20, 5, .inl (fun _ => 0)))] H := hP
  have hD : va_D A [(h0, .inr (9, [.int 0, .ref q1, .ref q2, .int 0, .int 0, .ref q3, .ref q4, .int 0, .ref q5, .null, .int 0, .null, .int 0, .int 0, .null, .null, .int 0, .null, .null, .null, .int 0, .int 0, .int 0, .null, .int 0, .int 0, .int 0, .null, .null, .null])), (q1, .inl (cA 20, 64, .inl (fun _ => 0))), (q2, .inl (cA 20, 64, .inl (fun _ => 0))), (q3, .inl (cA 20, 4, .inl (fun _ => 0))), (q4, .inl (cA 20, 4, .inl (fun _ => 0))), (q5, .inl (cA 20, 5, .inl (fun _ => 0)))] := hD
  refine lv_aload_n hx hb dX10_init_41 rfl (lv_at hl 0 rfl) ?_
  refine lv_iconst (v := nI 5) hx hb dX10_init_42 (by decide) ?_
  refine va_newa (ty := .int) (a0 := (5, .inl (fun _ => 0))) hx hb (atype := .int) (hts _ tw_113) rfl hK hP hD hS hA (fun _ => rfl) (by decide) (nI_clamp (by decide)) (by decide) (Nat.le_of_ble_eq_true rfl) (Nat.le_of_ble_eq_true rfl) dX10_init_43 (fun q6 c1 H hK1 hP hD hS => ?_)
  obtain rfl : c1 = cA 20 := ty_eq hK1 0 rfl
  have hP : va_P D vwCl [(h0, .inr (9, [.int 0, .ref q1, .ref q2, .int 0, .int 0, .ref q3, .ref q4, .int 0, .ref q5, .null, .int 0, .null, .int 0, .int 0, .null, .null, .int 0, .null, .null, .null, .int 0, .int 0, .int 0, .null, .int 0, .int 0, .int 0, .null, .null, .null])), (q1, .inl (cA 20, 64, .inl (fun _ => 0))), (q2, .inl (cA 20, 64, .inl (fun _ => 0))), (q3, .inl (cA 20, 4, .inl (fun _ => 0))), (q4, .inl (cA 20, 4, .inl (fun _ => 0))), (q5, .inl (cA 20, 5, .inl (fun _ => 0))), (q6, .inl (cA 20, 5, .inl (fun _ => 0)))] H := hP
  have hD : va_D A [(h0, .inr (9, [.int 0, .ref q1, .ref q2, .int 0, .int 0, .ref q3, .ref q4, .int 0, .ref q5, .null, .int 0, .null, .int 0, .int 0, .null, .null, .int 0, .null, .null, .null, .int 0, .int 0, .int 0, .null, .int 0, .int 0, .int 0, .null, .null, .null])), (q1, .inl (cA 20, 64, .inl (fun _ => 0))), (q2, .inl (cA 20, 64, .inl (fun _ => 0))), (q3, .inl (cA 20, 4, .inl (fun _ => 0))), (q4, .inl (cA 20, 4, .inl (fun _ => 0))), (q5, .inl (cA 20, 5, .inl (fun _ => 0))), (q6, .inl (cA 20, 5, .inl (fun _ => 0)))] := hD
  refine va_putF (ci := 9) (v := .ref q6) (ty := .array .int) (C := RX10) (T := TX10) (N := 30) hx hb hts inX10 tyX10 tyX10_ok nmX10 hown hK hP hD hS 0 rfl rfl 9 (by decide) (hts _ tw_929) (fun _ h9 => h9) rfl hin rfl (by decide +kernel) rfl rfl (Nat.le_of_ble_eq_true rfl) dX10_init_45 (fun H locs hP hD hS => ?_)
  have hP : va_P D vwCl [(h0, .inr (9, [.int 0, .ref q1, .ref q2, .int 0, .int 0, .ref q3, .ref q4, .int 0, .ref q5, .ref q6, .int 0, .null, .int 0, .int 0, .null, .null, .int 0, .null, .null, .null, .int 0, .int 0, .int 0, .null, .int 0, .int 0, .int 0, .null, .null, .null])), (q1, .inl (cA 20, 64, .inl (fun _ => 0))), (q2, .inl (cA 20, 64, .inl (fun _ => 0))), (q3, .inl (cA 20, 4, .inl (fun _ => 0))), (q4, .inl (cA 20, 4, .inl (fun _ => 0))), (q5, .inl (cA 20, 5, .inl (fun _ => 0))), (q6, .inl (cA 20, 5, .inl (fun _ => 0)))] H := hP
  have hD : va_D A [(h0, .inr (9, [.int 0, .ref q1, .ref q2, .int 0, .int 0, .ref q3, .ref q4, .int 0, .ref q5, .ref q6, .int 0, .null, .int 0, .int 0, .null, .null, .int 0, .null, .null, .null, .int 0, .int 0, .int 0, .null, .int 0, .int 0, .int 0, .null, .null, .null])), (q1, .inl (cA 20, 64, .inl (fun _ => 0))), (q2, .inl (cA 20, 64, .inl (fun _ => 0))), (q3, .inl (cA 20, 4, .inl (fun _ => 0))), (q4, .inl (cA 20, 4, .inl (fun _ => 0))), (q5, .inl (cA 20, 5, .inl (fun _ => 0))), (q6, .inl (cA 20, 5, .inl (fun _ => 0)))] := hD
  refine lv_aload_n hx hb dX10_init_48 rfl (lv_at hl 0 rfl) ?_
  refine lv_bipush (v := nI 64) hx hb dX10_init_49 (by decide) ?_
  refine va_newa (ty := .int) (a0 := (64, .inl (fun _ => 0))) hx hb (atype := .int) (hts _ tw_113) rfl hK hP hD hS hA (fun _ => rfl) (by decide) (nI_clamp (by decide)) (by decide) (Nat.le_of_ble_eq_true rfl) (Nat.le_of_ble_eq_true rfl) dX10_init_51 (fun q7 c1 H hK1 hP hD hS => ?_)
  obtain rfl : c1 = cA 20 := ty_eq hK1 0 rfl
  have hP : va_P D vwCl [(h0, .inr (9, [.int 0, .ref q1, .ref q2, .int 0, .int 0, .ref q3, .ref q4, .int 0, .ref q5, .ref q6, .int 0, .null, .int 0, .int 0, .null, .null, .int 0, .null, .null, .null, .int 0, .int 0, .int 0, .null, .int 0, .int 0, .int 0, .null, .null, .null])), (q1, .inl (cA 20, 64, .inl (fun _ => 0))), (q2, .inl (cA 20, 64, .inl (fun _ => 0))), (q3, .inl (cA 20, 4, .inl (fun _ => 0))), (q4, .inl (cA 20, 4, .inl (fun _ => 0))), (q5, .inl (cA 20, 5, .inl (fun _ => 0))), (q6, .inl (cA 20, 5, .inl (fun _ => 0))), (q7, .inl (cA 20, 64, .inl (fun _ => 0)))] H := hP
  have hD : va_D A [(h0, .inr (9, [.int 0, .ref q1, .ref q2, .int 0, .int 0, .ref q3, .ref q4, .int 0, .ref q5, .ref q6, .int 0, .null, .int 0, .int 0, .null, .null, .int 0, .null, .null, .null, .int 0, .int 0, .int 0, .null, .int 0, .int 0, .int 0, .null, .null, .null])), (q1, .inl (cA 20, 64, .inl (fun _ => 0))), (q2, .inl (cA 20, 64, .inl (fun _ => 0))), (q3, .inl (cA 20, 4, .inl (fun _ => 0))), (q4, .inl (cA 20, 4, .inl (fun _ => 0))), (q5, .inl (cA 20, 5, .inl (fun _ => 0))), (q6, .inl (cA 20, 5, .inl (fun _ => 0))), (q7, .inl (cA 20, 64, .inl (fun _ => 0)))] := hD
  refine va_putF (ci := 9) (v := .ref q7) (ty := .array .int) (C := RX10) (T := TX10) (N := 30) hx hb hts inX10 tyX10 tyX10_ok nmX10 hown hK hP hD hS 0 rfl rfl 11 (by decide) (hts _ tw_931) (fun _ h9 => h9) rfl hin rfl (by decide +kernel) rfl rfl (Nat.le_of_ble_eq_true rfl) dX10_init_53 (fun H locs hP hD hS => ?_)
  have hP : va_P D vwCl [(h0, .inr (9, [.int 0, .ref q1, .ref q2, .int 0, .int 0, .ref q3, .ref q4, .int 0, .ref q5, .ref q6, .int 0, .ref q7, .int 0, .int 0, .null, .null, .int 0, .null, .null, .null, .int 0, .int 0, .int 0, .null, .int 0, .int 0, .int 0, .null, .null, .null])), (q1, .inl (cA 20, 64, .inl (fun _ => 0))), (q2, .inl (cA 20, 64, .inl (fun _ => 0))), (q3, .inl (cA 20, 4, .inl (fun _ => 0))), (q4, .inl (cA 20, 4, .inl (fun _ => 0))), (q5, .inl (cA 20, 5, .inl (fun _ => 0))), (q6, .inl (cA 20, 5, .inl (fun _ => 0))), (q7, .inl (cA 20, 64, .inl (fun _ => 0)))] H := hP
  have hD : va_D A [(h0, .inr (9, [.int 0, .ref q1, .ref q2, .int 0, .int 0, .ref q3, .ref q4, .int 0, .ref q5, .ref q6, .int 0, .ref q7, .int 0, .int 0, .null, .null, .int 0, .null, .null, .null, .int 0, .int 0, .int 0, .null, .int 0, .int 0, .int 0, .null, .null, .null])), (q1, .inl (cA 20, 64, .inl (fun _ => 0))), (q2, .inl (cA 20, 64, .inl (fun _ => 0))), (q3, .inl (cA 20, 4, .inl (fun _ => 0))), (q4, .inl (cA 20, 4, .inl (fun _ => 0))), (q5, .inl (cA 20, 5, .inl (fun _ => 0))), (q6, .inl (cA 20, 5, .inl (fun _ => 0))), (q7, .inl (cA 20, 64, .inl (fun _ => 0)))] := hD
  refine lv_aload_n hx hb dX10_init_56 rfl (lv_at hl 0 rfl) ?_
  refine lv_iconst (v := nI 4) hx hb dX10_init_57 (by decide) ?_
  refine va_newa (ty := .int) (a0 := (4, .inl (fun _ => 0))) hx hb (atype := .int) (hts _ tw_113) rfl hK hP hD hS hA (fun _ => rfl) (by decide) (nI_clamp (by decide)) (by decide) (Nat.le_of_ble_eq_true rfl) (Nat.le_of_ble_eq_true rfl) dX10_init_58 (fun q8 c1 H hK1 hP hD hS => ?_)
  obtain rfl : c1 = cA 20 := ty_eq hK1 0 rfl
  have hP : va_P D vwCl [(h0, .inr (9, [.int 0, .ref q1, .ref q2, .int 0, .int 0, .ref q3, .ref q4, .int 0, .ref q5, .ref q6, .int 0, .ref q7, .int 0, .int 0, .null, .null, .int 0, .null, .null, .null, .int 0, .int 0, .int 0, .null, .int 0, .int 0, .int 0, .null, .null, .null])), (q1, .inl (cA 20, 64, .inl (fun _ => 0))), (q2, .inl (cA 20, 64, .inl (fun _ => 0))), (q3, .inl (cA 20, 4, .inl (fun _ => 0))), (q4, .inl (cA 20, 4, .inl (fun _ => 0))), (q5, .inl (cA 20, 5, .inl (fun _ => 0))), (q6, .inl (cA 20, 5, .inl (fun _ => 0))), (q7, .inl (cA 20, 64, .inl (fun _ => 0))), (q8, .inl (cA 20, 4, .inl (fun _ => 0)))] H := hP
  have hD : va_D A [(h0, .inr (9, [.int 0, .ref q1, .ref q2, .int 0, .int 0, .ref q3, .ref q4, .int 0, .ref q5, .ref q6, .int 0, .ref q7, .int 0, .int 0, .null, .null, .int 0, .null, .null, .null, .int 0, .int 0, .int 0, .null, .int 0, .int 0, .int 0, .null, .null, .null])), (q1, .inl (cA 20, 64, .inl (fun _ => 0))), (q2, .inl (cA 20, 64, .inl (fun _ => 0))), (q3, .inl (cA 20, 4, .inl (fun _ => 0))), (q4, .inl (cA 20, 4, .inl (fun _ => 0))), (q5, .inl (cA 20, 5, .inl (fun _ => 0))), (q6, .inl (cA 20, 5, .inl (fun _ => 0))), (q7, .inl (cA 20, 64, .inl (fun _ => 0))), (q8, .inl (cA 20, 4, .inl (fun _ => 0)))] := hD
  refine va_putF (ci := 9) (v := .ref q8) (ty := .array .int) (C := RX10) (T := TX10) (N := 30) hx hb hts inX10 tyX10 tyX10_ok nmX10 hown hK hP hD hS 0 rfl rfl 14 (by decide) (hts _ tw_934) (fun _ h9 => h9) rfl hin rfl (by decide +kernel) rfl rfl (Nat.le_of_ble_eq_true rfl) dX10_init_60 (fun H locs hP hD hS => ?_)
  have hP : va_P D vwCl [(h0, .inr (9, [.int 0, .ref q1, .ref q2, .int 0, .int 0, .ref q3, .ref q4, .int 0, .ref q5, .ref q6, .int 0, .ref q7, .int 0, .int 0, .ref q8, .null, .int 0, .null, .null, .null, .int 0, .int 0, .int 0, .null, .int 0, .int 0, .int 0, .null, .null, .null])), (q1, .inl (cA 20, 64, .inl (fun _ => 0))), (q2, .inl (cA 20, 64, .inl (fun _ => 0))), (q3, .inl (cA 20, 4, .inl (fun _ => 0))), (q4, .inl (cA 20, 4, .inl (fun _ => 0))), (q5, .inl (cA 20, 5, .inl (fun _ => 0))), (q6, .inl (cA 20, 5, .inl (fun _ => 0))), (q7, .inl (cA 20, 64, .inl (fun _ => 0))), (q8, .inl (cA 20, 4, .inl (fun _ => 0)))] H := hP
  have hD : va_D A [(h0, .inr (9, [.int 0, .ref q1, .ref q2, .int 0, .int 0, .ref q3, .ref q4, .int 0, .ref q5, .ref q6, .int 0, .ref q7, .int 0, .int 0, .ref q8, .null, .int 0, .null, .null, .null, .int 0, .int 0, .int 0, .null, .int 0, .int 0, .int 0, .null, .null, .null])), (q1, .inl (cA 20, 64, .inl (fun _ => 0))), (q2, .inl (cA 20, 64, .inl (fun _ => 0))), (q3, .inl (cA 20, 4, .inl (fun _ => 0))), (q4, .inl (cA 20, 4, .inl (fun _ => 0))), (q5, .inl (cA 20, 5, .inl (fun _ => 0))), (q6, .inl (cA 20, 5, .inl (fun _ => 0))), (q7, .inl (cA 20, 64, .inl (fun _ => 0))), (q8, .inl (cA 20, 4, .inl (fun _ => 0)))] := hD
  refine lv_aload_n hx hb dX10_init_63 rfl (lv_at hl 0 rfl) ?_
  refine lv_iconst (v := nI 4) hx hb dX10_init_64 (by decide) ?_
  refine va_newa (ty := .int) (a0 := (4, .inl (fun _ => 0))) hx hb (atype := .int) (hts _ tw_113) rfl hK hP hD hS hA (fun _ => rfl) (by decide) (nI_clamp (by decide)) (by decide) (Nat.le_of_ble_eq_true rfl) (Nat.le_of_ble_eq_true rfl) dX10_init_65 (fun q9 c1 H hK1 hP hD hS => ?_)
  obtain rfl : c1 = cA 20 := ty_eq hK1 0 rfl
  have hP : va_P D vwCl [(h0, .inr (9, [.int 0, .ref q1, .ref q2, .int 0, .int 0, .ref q3, .ref q4, .int 0, .ref q5, .ref q6, .int 0, .ref q7, .int 0, .int 0, .ref q8, .null, .int 0, .null, .null, .null, .int 0, .int 0, .int 0, .null, .int 0, .int 0, .int 0, .null, .null, .null])), (q1, .inl (cA 20, 64, .inl (fun _ => 0))), (q2, .inl (cA 20, 64, .inl (fun _ => 0))), (q3, .inl (cA 20, 4, .inl (fun _ => 0))), (q4, .inl (cA 20, 4, .inl (fun _ => 0))), (q5, .inl (cA 20, 5, .inl (fun _ => 0))), (q6, .inl (cA 20, 5, .inl (fun _ => 0))), (q7, .inl (cA 20, 64, .inl (fun _ => 0))), (q8, .inl (cA 20, 4, .inl (fun _ => 0))), (q9, .inl (cA 20, 4, .inl (fun _ => 0)))] H := hP
  have hD : va_D A [(h0, .inr (9, [.int 0, .ref q1, .ref q2, .int 0, .int 0, .ref q3, .ref q4, .int 0, .ref q5, .ref q6, .int 0, .ref q7, .int 0, .int 0, .ref q8, .null, .int 0, .null, .null, .null, .int 0, .int 0, .int 0, .null, .int 0, .int 0, .int 0, .null, .null, .null])), (q1, .inl (cA 20, 64, .inl (fun _ => 0))), (q2, .inl (cA 20, 64, .inl (fun _ => 0))), (q3, .inl (cA 20, 4, .inl (fun _ => 0))), (q4, .inl (cA 20, 4, .inl (fun _ => 0))), (q5, .inl (cA 20, 5, .inl (fun _ => 0))), (q6, .inl (cA 20, 5, .inl (fun _ => 0))), (q7, .inl (cA 20, 64, .inl (fun _ => 0))), (q8, .inl (cA 20, 4, .inl (fun _ => 0))), (q9, .inl (cA 20, 4, .inl (fun _ => 0)))] := hD
  refine va_putF (ci := 9) (v := .ref q9) (ty := .array .int) (C := RX10) (T := TX10) (N := 30) hx hb hts inX10 tyX10 tyX10_ok nmX10 hown hK hP hD hS 0 rfl rfl 15 (by decide) (hts _ tw_935) (fun _ h9 => h9) rfl hin rfl (by decide +kernel) rfl rfl (Nat.le_of_ble_eq_true rfl) dX10_init_67 (fun H locs hP hD hS => ?_)
  have hP : va_P D vwCl [(h0, .inr (9, [.int 0, .ref q1, .ref q2, .int 0, .int 0, .ref q3, .ref q4, .int 0, .ref q5, .ref q6, .int 0, .ref q7, .int 0, .int 0, .ref q8, .ref q9, .int 0, .null, .null, .null, .int 0, .int 0, .int 0, .null, .int 0, .int 0, .int 0, .null, .null, .null])), (q1, .inl (cA 20, 64, .inl (fun _ => 0))), (q2, .inl (cA 20, 64, .inl (fun _ => 0))), (q3, .inl (cA 20, 4, .inl (fun _ => 0))), (q4, .inl (cA 20, 4, .inl (fun _ => 0))), (q5, .inl (cA 20, 5, .inl (fun _ => 0))), (q6, .inl (cA 20, 5, .inl (fun _ => 0))), (q7, .inl (cA 20, 64, .inl (fun _ => 0))), (q8, .inl (cA 20, 4, .inl (fun _ => 0))), (q9, .inl (cA 20, 4, .inl (fun _ => 0)))] H := hP
  have hD : va_D A [(h0, .inr (9, [.int 0, .ref q1, .ref q2, .int 0, .int 0, .ref q3, .ref q4, .int 0, .ref q5, .ref q6, .int 0, .ref q7, .int 0, .int 0, .ref q8, .ref q9, .int 0, .null, .null, .null, .int 0, .int 0, .int 0, .null, .int 0, .int 0, .int 0, .null, .null, .null])), (q1, .inl (cA 20, 64, .inl (fun _ => 0))), (q2, .inl (cA 20, 64, .inl (fun _ => 0))), (q3, .inl (cA 20, 4, .inl (fun _ => 0))), (q4, .inl (cA 20, 4, .inl (fun _ => 0))), (q5, .inl (cA 20, 5, .inl (fun _ => 0))), (q6, .inl (cA 20, 5, .inl (fun _ => 0))), (q7, .inl (cA 20, 64, .inl (fun _ => 0))), (q8, .inl (cA 20, 4, .inl (fun _ => 0))), (q9, .inl (cA 20, 4, .inl (fun _ => 0)))] := hD
  refine lv_aload_n hx hb dX10_init_70 rfl (lv_at hl 0 rfl) ?_
  refine lv_iconst (v := nI 5) hx hb dX10_init_71 (by decide) ?_
  refine va_newa (ty := .int) (a0 := (5, .inl (fun _ => 0))) hx hb (atype := .int) (hts _ tw_113) rfl hK hP hD hS hA (fun _ => rfl) (by decide) (nI_clamp (by decide)) (by decide) (Nat.le_of_ble_eq_true rfl) (Nat.le_of_ble_eq_true rfl) dX10_init_72 (fun q10 c1 H hK1 hP hD hS => ?_)
  obtain rfl : c1 = cA 20 := ty_eq hK1 0 rfl
  have hP : va_P D vwCl [(h0, .inr (9, [.int 0, .ref q1, .ref q2, .int 0, .int 0, .ref q3, .ref q4, .int 0, .ref q5, .ref q6, .int 0, .ref q7, .int 0, .int 0, .ref q8, .ref q9, .int 0, .null, .null, .null, .int 0, .int 0, .int 0, .null, .int 0, .int 0, .int 0, .null, .null, .null])), (q1, .inl (cA 20, 64, .inl (fun _ => 0))), (q2, .inl (cA 20, 64, .inl (fun _ => 0))), (q3, .inl (cA 20, 4, .inl (fun _ => 0))), (q4, .inl (cA 20, 4, .inl (fun _ => 0))), (q5, .inl (cA 20, 5, .inl (fun _ => 0))), (q6, .inl (cA 20, 5, .inl (fun _ => 0))), (q7, .inl (cA 20, 64, .inl (fun _ => 0))), (q8, .inl (cA 20, 4, .inl (fun _ => 0))), (q9, .inl (cA 20, 4, .inl (fun _ => 0))), (q10, .inl (cA 20, 5, .inl (fun _ => 0)))] H := hP
  have hD : va_D A [(h0, .inr (9, [.int 0, .ref q1, .ref q2, .int 0, .int 0, .ref q3, .ref q4, .int 0, .ref q5, .ref q6, .int 0, .ref q7, .int 0, .int 0, .ref q8, .ref q9, .int 0, .null, .null, .null, .int 0, .int 0, .int 0, .null, .int 0, .int 0, .int 0, .null, .null, .null])), (q1, .inl (cA 20, 64, .inl (fun _ => 0))), (q2, .inl (cA 20, 64, .inl (fun _ => 0))), (q3, .inl (cA 20, 4, .inl (fun _ => 0))), (q4, .inl (cA 20, 4, .inl (fun _ => 0))), (q5, .inl (cA 20, 5, .inl (fun _ => 0))), (q6, .inl (cA 20, 5, .inl (fun _ => 0))), (q7, .inl (cA 20, 64, .inl (fun _ => 0))), (q8, .inl (cA 20, 4, .inl (fun _ => 0))), (q9, .inl (cA 20, 4, .inl (fun _ => 0))), (q10, .inl (cA 20, 5, .inl (fun _ => 0)))] := hD
  refine va_putF (ci := 9) (v := .ref q10) (ty := .array .int) (C := RX10) (T := TX10) (N := 30) hx hb hts inX10 tyX10 tyX10_ok nmX10 hown hK hP hD hS 0 rfl rfl 17 (by decide) (hts _ tw_937) (fun _ h9 => h9) rfl hin rfl (by decide +kernel) rfl rfl (Nat.le_of_ble_eq_true rfl) dX10_init_74 (fun H locs hP hD hS => ?_)
  have hP : va_P D vwCl [(h0, .inr (9, [.int 0, .ref q1, .ref q2, .int 0, .int 0, .ref q3, .ref q4, .int 0, .ref q5, .ref q6, .int 0, .ref q7, .int 0, .int 0, .ref q8, .ref q9, .int 0, .ref q10, .null, .null, .int 0, .int 0, .int 0, .null, .int 0, .int 0, .int 0, .null, .null, .null])), (q1, .inl (cA 20, 64, .inl (fun _ => 0))), (q2, .inl (cA 20, 64, .inl (fun _ => 0))), (q3, .inl (cA 20, 4, .inl (fun _ => 0))), (q4, .inl (cA 20, 4, .inl (fun _ => 0))), (q5, .inl (cA 20, 5, .inl (fun _ => 0))), (q6, .inl (cA 20, 5, .inl (fun _ => 0))), (q7, .inl (cA 20, 64, .inl (fun _ => 0))), (q8, .inl (cA 20, 4, .inl (fun _ => 0))), (q9, .inl (cA 20, 4, .inl (fun _ => 0))), (q10, .inl (cA 20, 5, .inl (fun _ => 0)))] H := hP
  have hD : va_D A [(h0, .inr (9, [.int 0, .ref q1, .ref q2, .int 0, .int 0, .ref q3, .ref q4, .int 0, .ref q5, .ref q6, .int 0, .ref q7, .int 0, .int 0, .ref q8, .ref q9, .int 0, .ref q10, .null, .null, .int 0, .int 0, .int 0, .null, .int 0, .int 0, .int 0, .null, .null, .null])), (q1, .inl (cA 20, 64, .inl (fun _ => 0))), (q2, .inl (cA 20, 64, .inl (fun _ => 0))), (q3, .inl (cA 20, 4, .inl (fun _ => 0))), (q4, .inl (cA 20, 4, .inl (fun _ => 0))), (q5, .inl (cA 20, 5, .inl (fun _ => 0))), (q6, .inl (cA 20, 5, .inl (fun _ => 0))), (q7, .inl (cA 20, 64, .inl (fun _ => 0))), (q8, .inl (cA 20, 4, .inl (fun _ => 0))), (q9, .inl (cA 20, 4, .inl (fun _ => 0))), (q10, .inl (cA 20, 5, .inl (fun _ => 0)))] := hD
  refine lv_aload_n hx hb dX10_init_77 rfl (lv_at hl 0 rfl) ?_
  refine lv_iconst (v := nI 5) hx hb dX10_init_78 (by decide) ?_
  refine va_newa (ty := .int) (a0 := (5, .inl (fun _ => 0))) hx hb (atype := .int) (hts _ tw_113) rfl hK hP hD hS hA (fun _ => rfl) (by decide) (nI_clamp (by decide)) (by decide) (Nat.le_of_ble_eq_true rfl) (Nat.le_of_ble_eq_true rfl) dX10_init_79 (fun q11 c1 H hK1 hP hD hS => ?_)
  obtain rfl : c1 = cA 20 := ty_eq hK1 0 rfl
  have hP : va_P D vwCl [(h0, .inr (9, [.int 0, .ref q1, .ref q2, .int 0, .int 0, .ref q3, .ref q4, .int 0, .ref q5, .ref q6, .int 0, .ref q7, .int 0, .int 0, .ref q8, .ref q9, .int 0, .ref q10, .null, .null, .int 0, .int 0, .int 0, .null, .int 0, .int 0, .int 0, .null, .null, .null])), (q1, .inl (cA 20, 64, .inl (fun _ => 0))), (q2, .inl (cA 20, 64, .inl (fun _ => 0))), (q3, .inl (cA 20, 4, .inl (fun _ => 0))), (q4, .inl (cA 20, 4, .inl (fun _ => 0))), (q5, .inl (cA 20, 5, .inl (fun _ => 0))), (q6, .inl (cA 20, 5, .inl (fun _ => 0))), (q7, .inl (cA 20, 64, .inl (fun _ => 0))), (q8, .inl (cA 20, 4, .inl (fun _ => 0))), (q9, .inl (cA 20, 4, .inl (fun _ => 0))), (q10, .inl (cA 20, 5, .inl (fun _ => 0))), (q11, .inl (cA 20, 5, .inl (fun _ => 0)))] H := hP
  have hD : va_D A [(h0, .inr (9, [.int 0, .ref q1, .ref q2, .int 0, .int 0, .ref q3, .ref q4, .int 0, .ref q5, .ref q6, .int 0, .ref q7, .int 0, .int 0, .ref q8, .ref q9, .int 0, .ref q10, .null, .null, .int 0, .int 0, .int 0, .null, .int 0, .int 0, .int 0, .null, .null, .null])), (q1, .inl (cA 20, 64, .inl (fun _ => 0))), (q2, .inl (cA 20, 64, .inl (fun _ => 0))), (q3, .inl (cA 20, 4, .inl (fun _ => 0))), (q4, .inl (cA 20, 4, .inl (fun _ => 0))), (q5, .inl (cA 20, 5, .inl (fun _ => 0))), (q6, .inl (cA 20, 5, .inl (fun _ => 0))), (q7, .inl (cA 20, 64, .inl (fun _ => 0))), (q8, .inl (cA 20, 4, .inl (fun _ => 0))), (q9, .inl (cA 20, 4, .inl (fun _ => 0))), (q10, .inl (cA 20, 5, .inl (fun _ => 0))), (q11, .inl (cA 20, 5, .inl (fun _ => 0)))] := hD
  refine va_putF (ci := 9) (v := .ref q11) (ty := .array .int) (C := RX10) (T := TX10) (N := 30) hx hb hts inX10 tyX10 tyX10_ok nmX10 hown hK hP hD hS 0 rfl rfl 18 (by decide) (hts _ tw_938) (fun _ h9 => h9) rfl hin rfl (by decide +kernel) rfl rfl (Nat.le_of_ble_eq_true rfl) dX10_init_81 (fun H locs hP hD hS => ?_)
  have hP : va_P D vwCl [(h0, .inr (9, [.int 0, .ref q1, .ref q2, .int 0, .int 0, .ref q3, .ref q4, .int 0, .ref q5, .ref q6, .int 0, .ref q7, .int 0, .int 0, .ref q8, .ref q9, .int 0, .ref q10, .ref q11, .null, .int 0, .int 0, .int 0, .null, .int 0, .int 0, .int 0, .null, .null, .null])), (q1, .inl (cA 20, 64, .inl (fun _ => 0))), (q2, .inl (cA 20, 64, .inl (fun _ => 0))), (q3, .inl (cA 20, 4, .inl (fun _ => 0))), (q4, .inl (cA 20, 4, .inl (fun _ => 0))), (q5, .inl (cA 20, 5, .inl (fun _ => 0))), (q6, .inl (cA 20, 5, .inl (fun _ => 0))), (q7, .inl (cA 20, 64, .inl (fun _ => 0))), (q8, .inl (cA 20, 4, .inl (fun _ => 0))), (q9, .inl (cA 20, 4, .inl (fun _ => 0))), (q10, .inl (cA 20, 5, .inl (fun _ => 0))), (q11, .inl (cA 20, 5, .inl (fun _ => 0)))] H := hP
  have hD : va_D A [(h0, .inr (9, [.int 0, .ref q1, .ref q2, .int 0, .int 0, .ref q3, .ref q4, .int 0, .ref q5, .ref q6, .int 0, .ref q7, .int 0, .int 0, .ref q8, .ref q9, .int 0, .ref q10, .ref q11, .null, .int 0, .int 0, .int 0, .null, .int 0, .int 0, .int 0, .null, .null, .null])), (q1, .inl (cA 20, 64, .inl (fun _ => 0))), (q2, .inl (cA 20, 64, .inl (fun _ => 0))), (q3, .inl (cA 20, 4, .inl (fun _ => 0))), (q4, .inl (cA 20, 4, .inl (fun _ => 0))), (q5, .inl (cA 20, 5, .inl (fun _ => 0))), (q6, .inl (cA 20, 5, .inl (fun _ => 0))), (q7, .inl (cA 20, 64, .inl (fun _ => 0))), (q8, .inl (cA 20, 4, .inl (fun _ => 0))), (q9, .inl (cA 20, 4, .inl (fun _ => 0))), (q10, .inl (cA 20, 5, .inl (fun _ => 0))), (q11, .inl (cA 20, 5, .inl (fun _ => 0)))] := hD
  refine lv_aload_n hx hb dX10_init_84 rfl (lv_at hl 0 rfl) ?_
  refine lv_sipush (v := nI 768) hx hb dX10_init_85 (by decide) ?_
  refine va_newa (ty := .int) (a0 := (768, .inl (fun _ => 0))) hx hb (atype := .int) (hts _ tw_113) rfl hK hP hD hS hA (fun _ => rfl) (by decide) (nI_clamp (by decide)) (by decide) (Nat.le_of_ble_eq_true rfl) (Nat.le_of_ble_eq_true rfl) dX10_init_88 (fun q12 c1 H hK1 hP hD hS => ?_)
  obtain rfl : c1 = cA 20 := ty_eq hK1 0 rfl
  have hP : va_P D vwCl [(h0, .inr (9, [.int 0, .ref q1, .ref q2, .int 0, .int 0, .ref q3, .ref q4, .int 0, .ref q5, .ref q6, .int 0, .ref q7, .int 0, .int 0, .ref q8, .ref q9, .int 0, .ref q10, .ref q11, .null, .int 0, .int 0, .int 0, .null, .int 0, .int 0, .int 0, .null, .null, .null])), (q1, .inl (cA 20, 64, .inl (fun _ => 0))), (q2, .inl (cA 20, 64, .inl (fun _ => 0))), (q3, .inl (cA 20, 4, .inl (fun _ => 0))), (q4, .inl (cA 20, 4, .inl (fun _ => 0))), (q5, .inl (cA 20, 5, .inl (fun _ => 0))), (q6, .inl (cA 20, 5, .inl (fun _ => 0))), (q7, .inl (cA 20, 64, .inl (fun _ => 0))), (q8, .inl (cA 20, 4, .inl (fun _ => 0))), (q9, .inl (cA 20, 4, .inl (fun _ => 0))), (q10, .inl (cA 20, 5, .inl (fun _ => 0))), (q11, .inl (cA 20, 5, .inl (fun _ => 0))), (q12, .inl (cA 20, 768, .inl (fun _ => 0)))] H := hP
  have hD : va_D A [(h0, .inr (9, [.int 0, .ref q1, .ref q2, .int 0, .int 0, .ref q3, .ref q4, .int 0, .ref q5, .ref q6, .int 0, .ref q7, .int 0, .int 0, .ref q8, .ref q9, .int 0, .ref q10, .ref q11, .null, .int 0, .int 0, .int 0, .null, .int 0, .int 0, .int 0, .null, .null, .null])), (q1, .inl (cA 20, 64, .inl (fun _ => 0))), (q2, .inl (cA 20, 64, .inl (fun _ => 0))), (q3, .inl (cA 20, 4, .inl (fun _ => 0))), (q4, .inl (cA 20, 4, .inl (fun _ => 0))), (q5, .inl (cA 20, 5, .inl (fun _ => 0))), (q6, .inl (cA 20, 5, .inl (fun _ => 0))), (q7, .inl (cA 20, 64, .inl (fun _ => 0))), (q8, .inl (cA 20, 4, .inl (fun _ => 0))), (q9, .inl (cA 20, 4, .inl (fun _ => 0))), (q10, .inl (cA 20, 5, .inl (fun _ => 0))), (q11, .inl (cA 20, 5, .inl (fun _ => 0))), (q12, .inl (cA 20, 768, .inl (fun _ => 0)))] := hD
  refine va_putF (ci := 9) (v := .ref q12) (ty := .array .int) (C := RX10) (T := TX10) (N := 30) hx hb hts inX10 tyX10 tyX10_ok nmX10 hown hK hP hD hS 0 rfl rfl 19 (by decide) (hts _ tw_939) (fun _ h9 => h9) rfl hin rfl (by decide +kernel) rfl rfl (Nat.le_of_ble_eq_true rfl) dX10_init_90 (fun H locs hP hD hS => ?_)
  have hP : va_P D vwCl [(h0, .inr (9, [.int 0, .ref q1, .ref q2, .int 0, .int 0, .ref q3, .ref q4, .int 0, .ref q5, .ref q6, .int 0, .ref q7, .int 0, .int 0, .ref q8, .ref q9, .int 0, .ref q10, .ref q11, .ref q12, .int 0, .int 0, .int 0, .null, .int 0, .int 0, .int 0, .null, .null, .null])), (q1, .inl (cA 20, 64, .inl (fun _ => 0))), (q2, .inl (cA 20, 64, .inl (fun _ => 0))), (q3, .inl (cA 20, 4, .inl (fun _ => 0))), (q4, .inl (cA 20, 4, .inl (fun _ => 0))), (q5, .inl (cA 20, 5, .inl (fun _ => 0))), (q6, .inl (cA 20, 5, .inl (fun _ => 0))), (q7, .inl (cA 20, 64, .inl (fun _ => 0))), (q8, .inl (cA 20, 4, .inl (fun _ => 0))), (q9, .inl (cA 20, 4, .inl (fun _ => 0))), (q10, .inl (cA 20, 5, .inl (fun _ => 0))), (q11, .inl (cA 20, 5, .inl (fun _ => 0))), (q12, .inl (cA 20, 768, .inl (fun _ => 0)))] H := hP
  have hD : va_D A [(h0, .inr (9, [.int 0, .ref q1, .ref q2, .int 0, .int 0, .ref q3, .ref q4, .int 0, .ref q5, .ref q6, .int 0, .ref q7, .int 0, .int 0, .ref q8, .ref q9, .int 0, .ref q10, .ref q11, .ref q12, .int 0, .int 0, .int 0, .null, .int 0, .int 0, .int 0, .null, .null, .null])), (q1, .inl (cA 20, 64, .inl (fun _ => 0))), (q2, .inl (cA 20, 64, .inl (fun _ => 0))), (q3, .inl (cA 20, 4, .inl (fun _ => 0))), (q4, .inl (cA 20, 4, .inl (fun _ => 0))), (q5, .inl (cA 20, 5, .inl (fun _ => 0))), (q6, .inl (cA 20, 5, .inl (fun _ => 0))), (q7, .inl (cA 20, 64, .inl (fun _ => 0))), (q8, .inl (cA 20, 4, .inl (fun _ => 0))), (q9, .inl (cA 20, 4, .inl (fun _ => 0))), (q10, .inl (cA 20, 5, .inl (fun _ => 0))), (q11, .inl (cA 20, 5, .inl (fun _ => 0))), (q12, .inl (cA 20, 768, .inl (fun _ => 0)))] := hD
  refine lv_aload_n hx hb dX10_init_93 rfl (lv_at hl 0 rfl) ?_
  refine lv_sipush (v := nI 200) hx hb dX10_init_94 (by decide) ?_
  refine va_newa (ty := .byte) (a0 := (200, .inl (fun _ => 0))) hx hb (atype := .byte) (hts _ tw_451) rfl hK hP hD hS hA (fun _ => rfl) (by decide) (nI_clamp (by decide)) (by decide) (Nat.le_of_ble_eq_true rfl) (Nat.le_of_ble_eq_true rfl) dX10_init_97 (fun q13 c1 H hK1 hP hD hS => ?_)
  obtain rfl : c1 = cA 21 := ty_eq hK1 1 rfl
  have hP : va_P D vwCl [(h0, .inr (9, [.int 0, .ref q1, .ref q2, .int 0, .int 0, .ref q3, .ref q4, .int 0, .ref q5, .ref q6, .int 0, .ref q7, .int 0, .int 0, .ref q8, .ref q9, .int 0, .ref q10, .ref q11, .ref q12, .int 0, .int 0, .int 0, .null, .int 0, .int 0, .int 0, .null, .null, .null])), (q1, .inl (cA 20, 64, .inl (fun _ => 0))), (q2, .inl (cA 20, 64, .inl (fun _ => 0))), (q3, .inl (cA 20, 4, .inl (fun _ => 0))), (q4, .inl (cA 20, 4, .inl (fun _ => 0))), (q5, .inl (cA 20, 5, .inl (fun _ => 0))), (q6, .inl (cA 20, 5, .inl (fun _ => 0))), (q7, .inl (cA 20, 64, .inl (fun _ => 0))), (q8, .inl (cA 20, 4, .inl (fun _ => 0))), (q9, .inl (cA 20, 4, .inl (fun _ => 0))), (q10, .inl (cA 20, 5, .inl (fun _ => 0))), (q11, .inl (cA 20, 5, .inl (fun _ => 0))), (q12, .inl (cA 20, 768, .inl (fun _ => 0))), (q13, .inl (cA 21, 200, .inl (fun _ => 0)))] H := hP
  have hD : va_D A [(h0, .inr (9, [.int 0, .ref q1, .ref q2, .int 0, .int 0, .ref q3, .ref q4, .int 0, .ref q5, .ref q6, .int 0, .ref q7, .int 0, .int 0, .ref q8, .ref q9, .int 0, .ref q10, .ref q11, .ref q12, .int 0, .int 0, .int 0, .null, .int 0, .int 0, .int 0, .null, .null, .null])), (q1, .inl (cA 20, 64, .inl (fun _ => 0))), (q2, .inl (cA 20, 64, .inl (fun _ => 0))), (q3, .inl (cA 20, 4, .inl (fun _ => 0))), (q4, .inl (cA 20, 4, .inl (fun _ => 0))), (q5, .inl (cA 20, 5, .inl (fun _ => 0))), (q6, .inl (cA 20, 5, .inl (fun _ => 0))), (q7, .inl (cA 20, 64, .inl (fun _ => 0))), (q8, .inl (cA 20, 4, .inl (fun _ => 0))), (q9, .inl (cA 20, 4, .inl (fun _ => 0))), (q10, .inl (cA 20, 5, .inl (fun _ => 0))), (q11, .inl (cA 20, 5, .inl (fun _ => 0))), (q12, .inl (cA 20, 768, .inl (fun _ => 0))), (q13, .inl (cA 21, 200, .inl (fun _ => 0)))] := hD
  refine va_putF (ci := 9) (v := .ref q13) (ty := .array .byte) (C := RX10) (T := TX10) (N := 30) hx hb hts inX10 tyX10 tyX10_ok nmX10 hown hK hP hD hS 0 rfl rfl 23 (by decide) (hts _ tw_943) (fun _ h9 => h9) rfl hin rfl (by decide +kernel) rfl rfl (Nat.le_of_ble_eq_true rfl) dX10_init_99 (fun H locs hP hD hS => ?_)
  have hP : va_P D vwCl [(h0, .inr (9, [.int 0, .ref q1, .ref q2, .int 0, .int 0, .ref q3, .ref q4, .int 0, .ref q5, .ref q6, .int 0, .ref q7, .int 0, .int 0, .ref q8, .ref q9, .int 0, .ref q10, .ref q11, .ref q12, .int 0, .int 0, .int 0, .ref q13, .int 0, .int 0, .int 0, .null, .null, .null])), (q1, .inl (cA 20, 64, .inl (fun _ => 0))), (q2, .inl (cA 20, 64, .inl (fun _ => 0))), (q3, .inl (cA 20, 4, .inl (fun _ => 0))), (q4, .inl (cA 20, 4, .inl (fun _ => 0))), (q5, .inl (cA 20, 5, .inl (fun _ => 0))), (q6, .inl (cA 20, 5, .inl (fun _ => 0))), (q7, .inl (cA 20, 64, .inl (fun _ => 0))), (q8, .inl (cA 20, 4, .inl (fun _ => 0))), (q9, .inl (cA 20, 4, .inl (fun _ => 0))), (q10, .inl (cA 20, 5, .inl (fun _ => 0))), (q11, .inl (cA 20, 5, .inl (fun _ => 0))), (q12, .inl (cA 20, 768, .inl (fun _ => 0))), (q13, .inl (cA 21, 200, .inl (fun _ => 0)))] H := hP
  have hD : va_D A [(h0, .inr (9, [.int 0, .ref q1, .ref q2, .int 0, .int 0, .ref q3, .ref q4, .int 0, .ref q5, .ref q6, .int 0, .ref q7, .int 0, .int 0, .ref q8, .ref q9, .int 0, .ref q10, .ref q11, .ref q12, .int 0, .int 0, .int 0, .ref q13, .int 0, .int 0, .int 0, .null, .null, .null])), (q1, .inl (cA 20, 64, .inl (fun _ => 0))), (q2, .inl (cA 20, 64, .inl (fun _ => 0))), (q3, .inl (cA 20, 4, .inl (fun _ => 0))), (q4, .inl (cA 20, 4, .inl (fun _ => 0))), (q5, .inl (cA 20, 5, .inl (fun _ => 0))), (q6, .inl (cA 20, 5, .inl (fun _ => 0))), (q7, .inl (cA 20, 64, .inl (fun _ => 0))), (q8, .inl (cA 20, 4, .inl (fun _ => 0))), (q9, .inl (cA 20, 4, .inl (fun _ => 0))), (q10, .inl (cA 20, 5, .inl (fun _ => 0))), (q11, .inl (cA 20, 5, .inl (fun _ => 0))), (q12, .inl (cA 20, 768, .inl (fun _ => 0))), (q13, .inl (cA 21, 200, .inl (fun _ => 0)))] := hD
  refine lv_aload_n hx hb dX10_init_102 rfl (lv_at hl 0 rfl) ?_
  refine lv_iconst (v := nI 5) hx hb dX10_init_103 (by decide) ?_
  refine va_newa (ty := .int) (a0 := (5, .inl (fun _ => 0))) hx hb (atype := .int) (hts _ tw_113) rfl hK hP hD hS hA (fun _ => rfl) (by decide) (nI_clamp (by decide)) (by decide) (Nat.le_of_ble_eq_true rfl) (Nat.le_of_ble_eq_true rfl) dX10_init_104 (fun q14 c1 H hK1 hP hD hS => ?_)
  obtain rfl : c1 = cA 20 := ty_eq hK1 0 rfl
  have hP : va_P D vwCl [(h0, .inr (9, [.int 0, .ref q1, .ref q2, .int 0, .int 0, .ref q3, .ref q4, .int 0, .ref q5, .ref q6, .int 0, .ref q7, .int 0, .int 0, .ref q8, .ref q9, .int 0, .ref q10, .ref q11, .ref q12, .int 0, .int 0, .int 0, .ref q13, .int 0, .int 0, .int 0, .null, .null, .null])), (q1, .inl (cA 20, 64, .inl (fun _ => 0))), (q2, .inl (cA 20, 64, .inl (fun _ => 0))), (q3, .inl (cA 20, 4, .inl (fun _ => 0))), (q4, .inl (cA 20, 4, .inl (fun _ => 0))), (q5, .inl (cA 20, 5, .inl (fun _ => 0))), (q6, .inl (cA 20, 5, .inl (fun _ => 0))), (q7, .inl (cA 20, 64, .inl (fun _ => 0))), (q8, .inl (cA 20, 4, .inl (fun _ => 0))), (q9, .inl (cA 20, 4, .inl (fun _ => 0))), (q10, .inl (cA 20, 5, .inl (fun _ => 0))), (q11, .inl (cA 20, 5, .inl (fun _ => 0))), (q12, .inl (cA 20, 768, .inl (fun _ => 0))), (q13, .inl (cA 21, 200, .inl (fun _ => 0))), (q14, .inl (cA 20, 5, .inl (fun _ => 0)))] H := hP
  have hD : va_D A [(h0, .inr (9, [.int 0, .ref q1, .ref q2, .int 0, .int 0, .ref q3, .ref q4, .int 0, .ref q5, .ref q6, .int 0, .ref q7, .int 0, .int 0, .ref q8, .ref q9, .int 0, .ref q10, .ref q11, .ref q12, .int 0, .int 0, .int 0, .ref q13, .int 0, .int 0, .int 0, .null, .null, .null])), (q1, .inl (cA 20, 64, .inl (fun _ => 0))), (q2, .inl (cA 20, 64, .inl (fun _ => 0))), (q3, .inl (cA 20, 4, .inl (fun _ => 0))), (q4, .inl (cA 20, 4, .inl (fun _ => 0))), (q5, .inl (cA 20, 5, .inl (fun _ => 0))), (q6, .inl (cA 20, 5, .inl (fun _ => 0))), (q7, .inl (cA 20, 64, .inl (fun _ => 0))), (q8, .inl (cA 20, 4, .inl (fun _ => 0))), (q9, .inl (cA 20, 4, .inl (fun _ => 0))), (q10, .inl (cA 20, 5, .inl (fun _ => 0))), (q11, .inl (cA 20, 5, .inl (fun _ => 0))), (q12, .inl (cA 20, 768, .inl (fun _ => 0))), (q13, .inl (cA 21, 200, .inl (fun _ => 0))), (q14, .inl (cA 20, 5, .inl (fun _ => 0)))] := hD
  refine va_putF (ci := 9) (v := .ref q14) (ty := .array .int) (C := RX10) (T := TX10) (N := 30) hx hb hts inX10 tyX10 tyX10_ok nmX10 hown hK hP hD hS 0 rfl rfl 27 (by decide) (hts _ tw_947) (fun _ h9 => h9) rfl hin rfl (by decide +kernel) rfl rfl (Nat.le_of_ble_eq_true rfl) dX10_init_106 (fun H locs hP hD hS => ?_)
  have hP : va_P D vwCl [(h0, .inr (9, [.int 0, .ref q1, .ref q2, .int 0, .int 0, .ref q3, .ref q4, .int 0, .ref q5, .ref q6, .int 0, .ref q7, .int 0, .int 0, .ref q8, .ref q9, .int 0, .ref q10, .ref q11, .ref q12, .int 0, .int 0, .int 0, .ref q13, .int 0, .int 0, .int 0, .ref q14, .null, .null])), (q1, .inl (cA 20, 64, .inl (fun _ => 0))), (q2, .inl (cA 20, 64, .inl (fun _ => 0))), (q3, .inl (cA 20, 4, .inl (fun _ => 0))), (q4, .inl (cA 20, 4, .inl (fun _ => 0))), (q5, .inl (cA 20, 5, .inl (fun _ => 0))), (q6, .inl (cA 20, 5, .inl (fun _ => 0))), (q7, .inl (cA 20, 64, .inl (fun _ => 0))), (q8, .inl (cA 20, 4, .inl (fun _ => 0))), (q9, .inl (cA 20, 4, .inl (fun _ => 0))), (q10, .inl (cA 20, 5, .inl (fun _ => 0))), (q11, .inl (cA 20, 5, .inl (fun _ => 0))), (q12, .inl (cA 20, 768, .inl (fun _ => 0))), (q13, .inl (cA 21, 200, .inl (fun _ => 0))), (q14, .inl (cA 20, 5, .inl (fun _ => 0)))] H := hP
  have hD : va_D A [(h0, .inr (9, [.int 0, .ref q1, .ref q2, .int 0, .int 0, .ref q3, .ref q4, .int 0, .ref q5, .ref q6, .int 0, .ref q7, .int 0, .int 0, .ref q8, .ref q9, .int 0, .ref q10, .ref q11, .ref q12, .int 0, .int 0, .int 0, .ref q13, .int 0, .int 0, .int 0, .ref q14, .null, .null])), (q1, .inl (cA 20, 64, .inl (fun _ => 0))), (q2, .inl (cA 20, 64, .inl (fun _ => 0))), (q3, .inl (cA 20, 4, .inl (fun _ => 0))), (q4, .inl (cA 20, 4, .inl (fun _ => 0))), (q5, .inl (cA 20, 5, .inl (fun _ => 0))), (q6, .inl (cA 20, 5, .inl (fun _ => 0))), (q7, .inl (cA 20, 64, .inl (fun _ => 0))), (q8, .inl (cA 20, 4, .inl (fun _ => 0))), (q9, .inl (cA 20, 4, .inl (fun _ => 0))), (q10, .inl (cA 20, 5, .inl (fun _ => 0))), (q11, .inl (cA 20, 5, .inl (fun _ => 0))), (q12, .inl (cA 20, 768, .inl (fun _ => 0))), (q13, .inl (cA 21, 200, .inl (fun _ => 0))), (q14, .inl (cA 20, 5, .inl (fun _ => 0)))] := hD
  refine lv_aload_n hx hb dX10_init_109 rfl (lv_at hl 0 rfl) ?_
  refine lv_iconst (v := nI 4) hx hb dX10_init_110 (by decide) ?_
  refine va_newa (ty := .int) (a0 := (4, .inl (fun _ => 0))) hx hb (atype := .int) (hts _ tw_113) rfl hK hP hD hS hA (fun _ => rfl) (by decide) (nI_clamp (by decide)) (by decide) (Nat.le_of_ble_eq_true rfl) (Nat.le_of_ble_eq_true rfl) dX10_init_111 (fun q15 c1 H hK1 hP hD hS => ?_)
  obtain rfl : c1 = cA 20 := ty_eq hK1 0 rfl
  have hP : va_P D vwCl [(h0, .inr (9, [.int 0, .ref q1, .ref q2, .int 0, .int 0, .ref q3, .ref q4, .int 0, .ref q5, .ref q6, .int 0, .ref q7, .int 0, .int 0, .ref q8, .ref q9, .int 0, .ref q10, .ref q11, .ref q12, .int 0, .int 0, .int 0, .ref q13, .int 0, .int 0, .int 0, .ref q14, .null, .null])), (q1, .inl (cA 20, 64, .inl (fun _ => 0))), (q2, .inl (cA 20, 64, .inl (fun _ => 0))), (q3, .inl (cA 20, 4, .inl (fun _ => 0))), (q4, .inl (cA 20, 4, .inl (fun _ => 0))), (q5, .inl (cA 20, 5, .inl (fun _ => 0))), (q6, .inl (cA 20, 5, .inl (fun _ => 0))), (q7, .inl (cA 20, 64, .inl (fun _ => 0))), (q8, .inl (cA 20, 4, .inl (fun _ => 0))), (q9, .inl (cA 20, 4, .inl (fun _ => 0))), (q10, .inl (cA 20, 5, .inl (fun _ => 0))), (q11, .inl (cA 20, 5, .inl (fun _ => 0))), (q12, .inl (cA 20, 768, .inl (fun _ => 0))), (q13, .inl (cA 21, 200, .inl (fun _ => 0))), (q14, .inl (cA 20, 5, .inl (fun _ => 0))), (q15, .inl (cA 20, 4, .inl (fun _ => 0)))] H := hP
  have hD : va_D A [(h0, .inr (9, [.int 0, .ref q1, .ref q2, .int 0, .int 0, .ref q3, .ref q4, .int 0, .ref q5, .ref q6, .int 0, .ref q7, .int 0, .int 0, .ref q8, .ref q9, .int 0, .ref q10, .ref q11, .ref q12, .int 0, .int 0, .int 0, .ref q13, .int 0, .int 0, .int 0, .ref q14, .null, .null])), (q1, .inl (cA 20, 64, .inl (fun _ => 0))), (q2, .inl (cA 20, 64, .inl (fun _ => 0))), (q3, .inl (cA 20, 4, .inl (fun _ => 0))), (q4, .inl (cA 20, 4, .inl (fun _ => 0))), (q5, .inl (cA 20, 5, .inl (fun _ => 0))), (q6, .inl (cA 20, 5, .inl (fun _ => 0))), (q7, .inl (cA 20, 64, .inl (fun _ => 0))), (q8, .inl (cA 20, 4, .inl (fun _ => 0))), (q9, .inl (cA 20, 4, .inl (fun _ => 0))), (q10, .inl (cA 20, 5, .inl (fun _ => 0))), (q11, .inl (cA 20, 5, .inl (fun _ => 0))), (q12, .inl (cA 20, 768, .inl (fun _ => 0))), (q13, .inl (cA 21, 200, .inl (fun _ => 0))), (q14, .inl (cA 20, 5, .inl (fun _ => 0))), (q15, .inl (cA 20, 4, .inl (fun _ => 0)))] := hD
  refine va_putF (ci := 9) (v := .ref q15) (ty := .array .int) (C := RX10) (T := TX10) (N := 30) hx hb hts inX10 tyX10 tyX10_ok nmX10 hown hK hP hD hS 0 rfl rfl 28 (by decide) (hts _ tw_948) (fun _ h9 => h9) rfl hin rfl (by decide +kernel) rfl rfl (Nat.le_of_ble_eq_true rfl) dX10_init_113 (fun H locs hP hD hS => ?_)
  have hP : va_P D vwCl [(h0, .inr (9, [.int 0, .ref q1, .ref q2, .int 0, .int 0, .ref q3, .ref q4, .int 0, .ref q5, .ref q6, .int 0, .ref q7, .int 0, .int 0, .ref q8, .ref q9, .int 0, .ref q10, .ref q11, .ref q12, .int 0, .int 0, .int 0, .ref q13, .int 0, .int 0, .int 0, .ref q14, .ref q15, .null])), (q1, .inl (cA 20, 64, .inl (fun _ => 0))), (q2, .inl (cA 20, 64, .inl (fun _ => 0))), (q3, .inl (cA 20, 4, .inl (fun _ => 0))), (q4, .inl (cA 20, 4, .inl (fun _ => 0))), (q5, .inl (cA 20, 5, .inl (fun _ => 0))), (q6, .inl (cA 20, 5, .inl (fun _ => 0))), (q7, .inl (cA 20, 64, .inl (fun _ => 0))), (q8, .inl (cA 20, 4, .inl (fun _ => 0))), (q9, .inl (cA 20, 4, .inl (fun _ => 0))), (q10, .inl (cA 20, 5, .inl (fun _ => 0))), (q11, .inl (cA 20, 5, .inl (fun _ => 0))), (q12, .inl (cA 20, 768, .inl (fun _ => 0))), (q13, .inl (cA 21, 200, .inl (fun _ => 0))), (q14, .inl (cA 20, 5, .inl (fun _ => 0))), (q15, .inl (cA 20, 4, .inl (fun _ => 0)))] H := hP
  have hD : va_D A [(h0, .inr (9, [.int 0, .ref q1, .ref q2, .int 0, .int 0, .ref q3, .ref q4, .int 0, .ref q5, .ref q6, .int 0, .ref q7, .int 0, .int 0, .ref q8, .ref q9, .int 0, .ref q10, .ref q11, .ref q12, .int 0, .int 0, .int 0, .ref q13, .int 0, .int 0, .int 0, .ref q14, .ref q15, .null])), (q1, .inl (cA 20, 64, .inl (fun _ => 0))), (q2, .inl (cA 20, 64, .inl (fun _ => 0))), (q3, .inl (cA 20, 4, .inl (fun _ => 0))), (q4, .inl (cA 20, 4, .inl (fun _ => 0))), (q5, .inl (cA 20, 5, .inl (fun _ => 0))), (q6, .inl (cA 20, 5, .inl (fun _ => 0))), (q7, .inl (cA 20, 64, .inl (fun _ => 0))), (q8, .inl (cA 20, 4, .inl (fun _ => 0))), (q9, .inl (cA 20, 4, .inl (fun _ => 0))), (q10, .inl (cA 20, 5, .inl (fun _ => 0))), (q11, .inl (cA 20, 5, .inl (fun _ => 0))), (q12, .inl (cA 20, 768, .inl (fun _ => 0))), (q13, .inl (cA 21, 200, .inl (fun _ => 0))), (q14, .inl (cA 20, 5, .inl (fun _ => 0))), (q15, .inl (cA 20, 4, .inl (fun _ => 0)))] := hD
  refine lv_aload_n hx hb dX10_init_116 rfl (lv_at hl 0 rfl) ?_
  refine lv_iconst (v := nI 4) hx hb dX10_init_117 (by decide) ?_
  refine va_newa (ty := .int) (a0 := (4, .inl (fun _ => 0))) hx hb (atype := .int) (hts _ tw_113) rfl hK hP hD hS hA (fun _ => rfl) (by decide) (nI_clamp (by decide)) (by decide) (Nat.le_of_ble_eq_true rfl) (Nat.le_of_ble_eq_true rfl) dX10_init_118 (fun q16 c1 H hK1 hP hD hS => ?_)
  obtain rfl : c1 = cA 20 := ty_eq hK1 0 rfl
  have hP : va_P D vwCl [(h0, .inr (9, [.int 0, .ref q1, .ref q2, .int 0, .int 0, .ref q3, .ref q4, .int 0, .ref q5, .ref q6, .int 0, .ref q7, .int 0, .int 0, .ref q8, .ref q9, .int 0, .ref q10, .ref q11, .ref q12, .int 0, .int 0, .int 0, .ref q13, .int 0, .int 0, .int 0, .ref q14, .ref q15, .null])), (q1, .inl (cA 20, 64, .inl (fun _ => 0))), (q2, .inl (cA 20, 64, .inl (fun _ => 0))), (q3, .inl (cA 20, 4, .inl (fun _ => 0))), (q4, .inl (cA 20, 4, .inl (fun _ => 0))), (q5, .inl (cA 20, 5, .inl (fun _ => 0))), (q6, .inl (cA 20, 5, .inl (fun _ => 0))), (q7, .inl (cA 20, 64, .inl (fun _ => 0))), (q8, .inl (cA 20, 4, .inl (fun _ => 0))), (q9, .inl (cA 20, 4, .inl (fun _ => 0))), (q10, .inl (cA 20, 5, .inl (fun _ => 0))), (q11, .inl (cA 20, 5, .inl (fun _ => 0))), (q12, .inl (cA 20, 768, .inl (fun _ => 0))), (q13, .inl (cA 21, 200, .inl (fun _ => 0))), (q14, .inl (cA 20, 5, .inl (fun _ => 0))), (q15, .inl (cA 20, 4, .inl (fun _ => 0))), (q16, .inl (cA 20, 4, .inl (fun _ => 0)))] H := hP
  have hD : va_D A [(h0, .inr (9, [.int 0, .ref q1, .ref q2, .int 0, .int 0, .ref q3, .ref q4, .int 0, .ref q5, .ref q6, .int 0, .ref q7, .int 0, .int 0, .ref q8, .ref q9, .int 0, .ref q10, .ref q11, .ref q12, .int 0, .int 0, .int 0, .ref q13, .int 0, .int 0, .int 0, .ref q14, .ref q15, .null])), (q1, .inl (cA 20, 64, .inl (fun _ => 0))), (q2, .inl (cA 20, 64, .inl (fun _ => 0))), (q3, .inl (cA 20, 4, .inl (fun _ => 0))), (q4, .inl (cA 20, 4, .inl (fun _ => 0))), (q5, .inl (cA 20, 5, .inl (fun _ => 0))), (q6, .inl (cA 20, 5, .inl (fun _ => 0))), (q7, .inl (cA 20, 64, .inl (fun _ => 0))), (q8, .inl (cA 20, 4, .inl (fun _ => 0))), (q9, .inl (cA 20, 4, .inl (fun _ => 0))), (q10, .inl (cA 20, 5, .inl (fun _ => 0))), (q11, .inl (cA 20, 5, .inl (fun _ => 0))), (q12, .inl (cA 20, 768, .inl (fun _ => 0))), (q13, .inl (cA 21, 200, .inl (fun _ => 0))), (q14, .inl (cA 20, 5, .inl (fun _ => 0))), (q15, .inl (cA 20, 4, .inl (fun _ => 0))), (q16, .inl (cA 20, 4, .inl (fun _ => 0)))] := hD
  refine va_putF (ci := 9) (v := .ref q16) (ty := .array .int) (C := RX10) (T := TX10) (N := 30) hx hb hts inX10 tyX10 tyX10_ok nmX10 hown hK hP hD hS 0 rfl rfl 29 (by decide) (hts _ tw_949) (fun _ h9 => h9) rfl hin rfl (by decide +kernel) rfl rfl (Nat.le_of_ble_eq_true rfl) dX10_init_120 (fun H locs hP hD hS => ?_)
  have hP : va_P D vwCl [(h0, .inr (9, [.int 0, .ref q1, .ref q2, .int 0, .int 0, .ref q3, .ref q4, .int 0, .ref q5, .ref q6, .int 0, .ref q7, .int 0, .int 0, .ref q8, .ref q9, .int 0, .ref q10, .ref q11, .ref q12, .int 0, .int 0, .int 0, .ref q13, .int 0, .int 0, .int 0, .ref q14, .ref q15, .ref q16])), (q1, .inl (cA 20, 64, .inl (fun _ => 0))), (q2, .inl (cA 20, 64, .inl (fun _ => 0))), (q3, .inl (cA 20, 4, .inl (fun _ => 0))), (q4, .inl (cA 20, 4, .inl (fun _ => 0))), (q5, .inl (cA 20, 5, .inl (fun _ => 0))), (q6, .inl (cA 20, 5, .inl (fun _ => 0))), (q7, .inl (cA 20, 64, .inl (fun _ => 0))), (q8, .inl (cA 20, 4, .inl (fun _ => 0))), (q9, .inl (cA 20, 4, .inl (fun _ => 0))), (q10, .inl (cA 20, 5, .inl (fun _ => 0))), (q11, .inl (cA 20, 5, .inl (fun _ => 0))), (q12, .inl (cA 20, 768, .inl (fun _ => 0))), (q13, .inl (cA 21, 200, .inl (fun _ => 0))), (q14, .inl (cA 20, 5, .inl (fun _ => 0))), (q15, .inl (cA 20, 4, .inl (fun _ => 0))), (q16, .inl (cA 20, 4, .inl (fun _ => 0)))] H := hP
  have hD : va_D A [(h0, .inr (9, [.int 0, .ref q1, .ref q2, .int 0, .int 0, .ref q3, .ref q4, .int 0, .ref q5, .ref q6, .int 0, .ref q7, .int 0, .int 0, .ref q8, .ref q9, .int 0, .ref q10, .ref q11, .ref q12, .int 0, .int 0, .int 0, .ref q13, .int 0, .int 0, .int 0, .ref q14, .ref q15, .ref q16])), (q1, .inl (cA 20, 64, .inl (fun _ => 0))), (q2, .inl (cA 20, 64, .inl (fun _ => 0))), (q3, .inl (cA 20, 4, .inl (fun _ => 0))), (q4, .inl (cA 20, 4, .inl (fun _ => 0))), (q5, .inl (cA 20, 5, .inl (fun _ => 0))), (q6, .inl (cA 20, 5, .inl (fun _ => 0))), (q7, .inl (cA 20, 64, .inl (fun _ => 0))), (q8, .inl (cA 20, 4, .inl (fun _ => 0))), (q9, .inl (cA 20, 4, .inl (fun _ => 0))), (q10, .inl (cA 20, 5, .inl (fun _ => 0))), (q11, .inl (cA 20, 5, .inl (fun _ => 0))), (q12, .inl (cA 20, 768, .inl (fun _ => 0))), (q13, .inl (cA 21, 200, .inl (fun _ => 0))), (q14, .inl (cA 20, 5, .inl (fun _ => 0))), (q15, .inl (cA 20, 4, .inl (fun _ => 0))), (q16, .inl (cA 20, 4, .inl (fun _ => 0)))] := hD
  rw [wldM_eq D cA h0 q1 q2 q3 q4 q5 q6 q7 q8 q9 q10 q11 q12 q13 q14 q15 q16] at hP hD
  refine W.widen (k := 16) (n := 1209) (Nat.le_of_ble_eq_true rfl) (Nat.le_of_ble_eq_true rfl) ?_
  obtain ⟨F, hF⟩ : ∃ F : Nat → Nat, F = (fun k => ([0, q1, q2, q3, q4, q5, q6, q7, q8, q9, q10, q11, q12, q13, q14, q15, q16] : List Nat).getD k 0) := ⟨_, rfl⟩
  have hP : va_P D vwCl (wld (gM (D, (fun k => if k = 0 then h0 else F k), cA)) mZ) H := by rw [hF]; exact hP
  have hD : va_D A (wld (gM (D, (fun k => if k = 0 then h0 else F k), cA)) mZ) := by rw [hF]; exact hD
  obtain ⟨E, hE⟩ : ∃ E : jE, E = (D, (fun k => if k = 0 then h0 else F k), cA) := ⟨_, rfl⟩
  have hK : va_K (gD (gM E)) vwCl (tyL (gM E)) s := by rw [hE]; exact hK
  have hP : va_P (gD (gM E)) vwCl (wld (gM E) mZ) H := by rw [hE]; exact hP
  have hD : va_D A (wld (gM E) mZ) := by rw [hE]; exact hD
  have hI := inj_of hD
  have hjA := jA_of hD
  have hl : lv_has ls 1 [(0, .ref (gad (gM E) 0))] := by rw [hE]; exact hl
  have hend : ∀ M, va_D A (wld (gM E) M) := fun M => (wld_D hI M).weaken (fun _ _ _ h => hjA _ h)
  unfold pM2 at ho
  refine lv_aload_n hx hb dX10_init_123 rfl (lv_at hl 0 rfl) ?_
  obtain ⟨r1, M1, e1, ho⟩ := bV_inv ho
  refine jc_callV [] ⟨hx, hb, hml, hown, hts⟩ hK (mX10_clears l E hI fu  _) e1 qX10_clears tw_893 (Nat.le_of_ble_eq_true rfl) rfl rfl (Nat.le_of_ble_eq_true rfl) rfl ⟨rfl, rfl⟩ ⟨(Nat.le_of_ble_eq_true rfl), (Nat.le_of_ble_eq_true rfl)⟩ (Nat.le_of_ble_eq_true rfl) hl.1 dX10_init_124 hP hS hjA ⟨(Nat.le_of_ble_eq_true rfl), (Nat.le_of_ble_eq_true rfl)⟩ rfl (fun H locs hP hS _ _ => ?_)
  refine lv_aload_n hx hb dX10_init_127 rfl (lv_at hl 0 rfl) ?_
  refine lv_bipush (v := nI 7) hx hb dX10_init_128 (by decide) ?_
  refine jc_putI (ci := 9) (j := 10) (C := RX10) (T := TX10) (N := 30) ⟨hx, hb, hml, hown, hts⟩ hK hI hP hS hjA (Nat.le_of_ble_eq_true rfl) rfl rfl (Nat.le_of_ble_eq_true rfl) inX10 tyX10 tyX10_ok nmX10 (Nat.le_of_ble_eq_true rfl) rfl tw_930 rfl (by decide +kernel) dX10_init_130 (fun H locs hP hS => ?_)
  refine lv_aload_n hx hb dX10_init_133 rfl (lv_at hl 0 rfl) ?_
  refine lv_iconst (v := nI 0) hx hb dX10_init_134 (by decide) ?_
  refine lv_iconst (v := nI 1) hx hb dX10_init_135 (by decide) ?_
  refine lv_iconst (v := nI 2) hx hb dX10_init_136 (by decide) ?_
  obtain ⟨r2, M2, e2, ho⟩ := bV_inv ho
  refine jc_callV [.int (nI 0), .int (nI 1), .int (nI 2)] ⟨hx, hb, hml, hown, hts⟩ hK (mX10_leads l E hI fu (nI 0) (nI 1) (nI 2) _) e2 qX10_leads tw_897 (Nat.le_of_ble_eq_true rfl) rfl rfl (Nat.le_of_ble_eq_true rfl) rfl ⟨rfl, rfl⟩ ⟨(Nat.le_of_ble_eq_true rfl), (Nat.le_of_ble_eq_true rfl)⟩ (Nat.le_of_ble_eq_true rfl) hl.1 dX10_init_137 hP hS hjA ⟨(Nat.le_of_ble_eq_true rfl), (Nat.le_of_ble_eq_true rfl)⟩ rfl (fun H locs hP hS _ _ => ?_)
  refine lv_aload_n hx hb dX10_init_140 rfl (lv_at hl 0 rfl) ?_
  refine lv_iconst (v := nI 1) hx hb dX10_init_141 (by decide) ?_
  refine lv_iconst (v := nI 2) hx hb dX10_init_142 (by decide) ?_
  refine lv_iconst (v := nI 3) hx hb dX10_init_143 (by decide) ?_
  obtain ⟨r3, M3, e3, ho⟩ := bV_inv ho
  refine jc_callV [.int (nI 1), .int (nI 2), .int (nI 3)] ⟨hx, hb, hml, hown, hts⟩ hK (mX10_leads l E hI fu (nI 1) (nI 2) (nI 3) _) e3 qX10_leads tw_897 (Nat.le_of_ble_eq_true rfl) rfl rfl (Nat.le_of_ble_eq_true rfl) rfl ⟨rfl, rfl⟩ ⟨(Nat.le_of_ble_eq_true rfl), (Nat.le_of_ble_eq_true rfl)⟩ (Nat.le_of_ble_eq_true rfl) hl.1 dX10_init_144 hP hS hjA ⟨(Nat.le_of_ble_eq_true rfl), (Nat.le_of_ble_eq_true rfl)⟩ rfl (fun H locs hP hS _ _ => ?_)
  refine lv_aload_n hx hb dX10_init_147 rfl (lv_at hl 0 rfl) ?_
  refine lv_iconst (v := nI 2) hx hb dX10_init_148 (by decide) ?_
  refine lv_iconst (v := nI 3) hx hb dX10_init_149 (by decide) ?_
  refine lv_iconst (v := nI 1) hx hb dX10_init_150 (by decide) ?_
  obtain ⟨r4, M4, e4, ho⟩ := bV_inv ho
  refine jc_callV [.int (nI 2), .int (nI 3), .int (nI 1)] ⟨hx, hb, hml, hown, hts⟩ hK (mX10_leads l E hI fu (nI 2) (nI 3) (nI 1) _) e4 qX10_leads tw_897 (Nat.le_of_ble_eq_true rfl) rfl rfl (Nat.le_of_ble_eq_true rfl) rfl ⟨rfl, rfl⟩ ⟨(Nat.le_of_ble_eq_true rfl), (Nat.le_of_ble_eq_true rfl)⟩ (Nat.le_of_ble_eq_true rfl) hl.1 dX10_init_151 hP hS hjA ⟨(Nat.le_of_ble_eq_true rfl), (Nat.le_of_ble_eq_true rfl)⟩ rfl (fun H locs hP hS _ _ => ?_)
  refine lv_aload_n hx hb dX10_init_154 rfl (lv_at hl 0 rfl) ?_
  refine lv_iconst (v := nI 1) hx hb dX10_init_155 (by decide) ?_
  refine lv_iconst (v := nI 4) hx hb dX10_init_156 (by decide) ?_
  refine lv_iconst (v := nI 4) hx hb dX10_init_157 (by decide) ?_
  obtain ⟨r5, M5, e5, ho⟩ := bV_inv ho
  refine jc_callV [.int (nI 1), .int (nI 4), .int (nI 4)] ⟨hx, hb, hml, hown, hts⟩ hK (mX10_leads l E hI fu (nI 1) (nI 4) (nI 4) _) e5 qX10_leads tw_897 (Nat.le_of_ble_eq_true rfl) rfl rfl (Nat.le_of_ble_eq_true rfl) rfl ⟨rfl, rfl⟩ ⟨(Nat.le_of_ble_eq_true rfl), (Nat.le_of_ble_eq_true rfl)⟩ (Nat.le_of_ble_eq_true rfl) hl.1 dX10_init_158 hP hS hjA ⟨(Nat.le_of_ble_eq_true rfl), (Nat.le_of_ble_eq_true rfl)⟩ rfl (fun H locs hP hS _ _ => ?_)
  refine lv_aload_n hx hb dX10_init_161 rfl (lv_at hl 0 rfl) ?_
  refine lv_iconst (v := nI 4) hx hb dX10_init_162 (by decide) ?_
  refine lv_iconst (v := nI 5) hx hb dX10_init_163 (by decide) ?_
  refine lv_iconst (v := nI 2) hx hb dX10_init_164 (by decide) ?_
  obtain ⟨r6, M6, e6, ho⟩ := bV_inv ho
  refine jc_callV [.int (nI 4), .int (nI 5), .int (nI 2)] ⟨hx, hb, hml, hown, hts⟩ hK (mX10_leads l E hI fu (nI 4) (nI 5) (nI 2) _) e6 qX10_leads tw_897 (Nat.le_of_ble_eq_true rfl) rfl rfl (Nat.le_of_ble_eq_true rfl) rfl ⟨rfl, rfl⟩ ⟨(Nat.le_of_ble_eq_true rfl), (Nat.le_of_ble_eq_true rfl)⟩ (Nat.le_of_ble_eq_true rfl) hl.1 dX10_init_165 hP hS hjA ⟨(Nat.le_of_ble_eq_true rfl), (Nat.le_of_ble_eq_true rfl)⟩ rfl (fun H locs hP hS _ _ => ?_)
  refine lv_aload_n hx hb dX10_init_168 rfl (lv_at hl 0 rfl) ?_
  refine lv_iconst (v := nI 3) hx hb dX10_init_169 (by decide) ?_
  refine lv_iconst (v := nI 5) hx hb dX10_init_170 (by decide) ?_
  refine lv_iconst (v := nI 5) hx hb dX10_init_171 (by decide) ?_
  obtain ⟨r7, M7, e7, ho⟩ := bV_inv ho
  refine jc_callV [.int (nI 3), .int (nI 5), .int (nI 5)] ⟨hx, hb, hml, hown, hts⟩ hK (mX10_leads l E hI fu (nI 3) (nI 5) (nI 5) _) e7 qX10_leads tw_897 (Nat.le_of_ble_eq_true rfl) rfl rfl (Nat.le_of_ble_eq_true rfl) rfl ⟨rfl, rfl⟩ ⟨(Nat.le_of_ble_eq_true rfl), (Nat.le_of_ble_eq_true rfl)⟩ (Nat.le_of_ble_eq_true rfl) hl.1 dX10_init_172 hP hS hjA ⟨(Nat.le_of_ble_eq_true rfl), (Nat.le_of_ble_eq_true rfl)⟩ rfl (fun H locs hP hS _ _ => ?_)
  refine lv_aload_n hx hb dX10_init_175 rfl (lv_at hl 0 rfl) ?_
  refine lv_iconst (v := nI 0) hx hb dX10_init_176 (by decide) ?_
  refine lv_bipush (v := nI 6) hx hb dX10_init_177 (by decide) ?_
  refine lv_bipush (v := nI 6) hx hb dX10_init_179 (by decide) ?_
  obtain ⟨r8, M8, e8, ho⟩ := bV_inv ho
  refine jc_callV [.int (nI 0), .int (nI 6), .int (nI 6)] ⟨hx, hb, hml, hown, hts⟩ hK (mX10_leads l E hI fu (nI 0) (nI 6) (nI 6) _) e8 qX10_leads tw_897 (Nat.le_of_ble_eq_true rfl) rfl rfl (Nat.le_of_ble_eq_true rfl) rfl ⟨rfl, rfl⟩ ⟨(Nat.le_of_ble_eq_true rfl), (Nat.le_of_ble_eq_true rfl)⟩ (Nat.le_of_ble_eq_true rfl) hl.1 dX10_init_181 hP hS hjA ⟨(Nat.le_of_ble_eq_true rfl), (Nat.le_of_ble_eq_true rfl)⟩ rfl (fun H locs hP hS _ _ => ?_)
  refine lv_aload_n hx hb dX10_init_184 rfl (lv_at hl 0 rfl) ?_
  refine lv_bipush (v := nI 6) hx hb dX10_init_185 (by decide) ?_
  refine lv_iconst (v := nI 3) hx hb dX10_init_187 (by decide) ?_
  refine lv_iconst (v := nI 2) hx hb dX10_init_188 (by decide) ?_
  obtain ⟨r9, M9, e9, ho⟩ := bV_inv ho
  refine jc_callV [.int (nI 6), .int (nI 3), .int (nI 2)] ⟨hx, hb, hml, hown, hts⟩ hK (mX10_leads l E hI fu (nI 6) (nI 3) (nI 2) _) e9 qX10_leads tw_897 (Nat.le_of_ble_eq_true rfl) rfl rfl (Nat.le_of_ble_eq_true rfl) rfl ⟨rfl, rfl⟩ ⟨(Nat.le_of_ble_eq_true rfl), (Nat.le_of_ble_eq_true rfl)⟩ (Nat.le_of_ble_eq_true rfl) hl.1 dX10_init_189 hP hS hjA ⟨(Nat.le_of_ble_eq_true rfl), (Nat.le_of_ble_eq_true rfl)⟩ rfl (fun H locs hP hS _ _ => ?_)
  refine lv_aload_n hx hb dX10_init_192 rfl (lv_at hl 0 rfl) ?_
  refine lv_iconst (v := nI 0) hx hb dX10_init_193 (by decide) ?_
  refine lv_iconst (v := nI 3) hx hb dX10_init_194 (by decide) ?_
  obtain ⟨r10, M10, e10, ho⟩ := bV_inv ho
  refine jc_callV [.int (nI 0), .int (nI 3)] ⟨hx, hb, hml, hown, hts⟩ hK (mX10_opens l E hI fu (nI 0) (nI 3) _) e10 qX10_opens tw_901 (Nat.le_of_ble_eq_true rfl) rfl rfl (Nat.le_of_ble_eq_true rfl) rfl ⟨rfl, rfl⟩ ⟨(Nat.le_of_ble_eq_true rfl), (Nat.le_of_ble_eq_true rfl)⟩ (Nat.le_of_ble_eq_true rfl) hl.1 dX10_init_195 hP hS hjA ⟨(Nat.le_of_ble_eq_true rfl), (Nat.le_of_ble_eq_true rfl)⟩ rfl (fun H locs hP hS _ _ => ?_)
  refine lv_aload_n hx hb dX10_init_198 rfl (lv_at hl 0 rfl) ?_
  refine lv_iconst (v := nI 1) hx hb dX10_init_199 (by decide) ?_
  refine lv_iconst (v := nI 5) hx hb dX10_init_200 (by decide) ?_
  obtain ⟨r11, M11, e11, ho⟩ := bV_inv ho
  refine jc_callV [.int (nI 1), .int (nI 5)] ⟨hx, hb, hml, hown, hts⟩ hK (mX10_opens l E hI fu (nI 1) (nI 5) _) e11 qX10_opens tw_901 (Nat.le_of_ble_eq_true rfl) rfl rfl (Nat.le_of_ble_eq_true rfl) rfl ⟨rfl, rfl⟩ ⟨(Nat.le_of_ble_eq_true rfl), (Nat.le_of_ble_eq_true rfl)⟩ (Nat.le_of_ble_eq_true rfl) hl.1 dX10_init_201 hP hS hjA ⟨(Nat.le_of_ble_eq_true rfl), (Nat.le_of_ble_eq_true rfl)⟩ rfl (fun H locs hP hS _ _ => ?_)
  refine lv_aload_n hx hb dX10_init_204 rfl (lv_at hl 0 rfl) ?_
  refine lv_iconst (v := nI 2) hx hb dX10_init_205 (by decide) ?_
  refine lv_iconst (v := nI 4) hx hb dX10_init_206 (by decide) ?_
  obtain ⟨r12, M12, e12, ho⟩ := bV_inv ho
  refine jc_callV [.int (nI 2), .int (nI 4)] ⟨hx, hb, hml, hown, hts⟩ hK (mX10_opens l E hI fu (nI 2) (nI 4) _) e12 qX10_opens tw_901 (Nat.le_of_ble_eq_true rfl) rfl rfl (Nat.le_of_ble_eq_true rfl) rfl ⟨rfl, rfl⟩ ⟨(Nat.le_of_ble_eq_true rfl), (Nat.le_of_ble_eq_true rfl)⟩ (Nat.le_of_ble_eq_true rfl) hl.1 dX10_init_207 hP hS hjA ⟨(Nat.le_of_ble_eq_true rfl), (Nat.le_of_ble_eq_true rfl)⟩ rfl (fun H locs hP hS _ _ => ?_)
  refine lv_aload_n hx hb dX10_init_210 rfl (lv_at hl 0 rfl) ?_
  refine lv_iconst (v := nI 3) hx hb dX10_init_211 (by decide) ?_
  refine lv_iconst (v := nI 2) hx hb dX10_init_212 (by decide) ?_
  obtain ⟨r13, M13, e13, ho⟩ := bV_inv ho
  refine jc_callV [.int (nI 3), .int (nI 2)] ⟨hx, hb, hml, hown, hts⟩ hK (mX10_opens l E hI fu (nI 3) (nI 2) _) e13 qX10_opens tw_901 (Nat.le_of_ble_eq_true rfl) rfl rfl (Nat.le_of_ble_eq_true rfl) rfl ⟨rfl, rfl⟩ ⟨(Nat.le_of_ble_eq_true rfl), (Nat.le_of_ble_eq_true rfl)⟩ (Nat.le_of_ble_eq_true rfl) hl.1 dX10_init_213 hP hS hjA ⟨(Nat.le_of_ble_eq_true rfl), (Nat.le_of_ble_eq_true rfl)⟩ rfl (fun H locs hP hS _ _ => ?_)
  refine lv_aload_n hx hb dX10_init_216 rfl (lv_at hl 0 rfl) ?_
  refine lv_iconst (v := nI 0) hx hb dX10_init_217 (by decide) ?_
  refine lv_iconst (v := nI 1) hx hb dX10_init_218 (by decide) ?_
  refine lv_iconst (v := nI 3) hx hb dX10_init_219 (by decide) ?_
  obtain ⟨r14, M14, e14, ho⟩ := bV_inv ho
  refine jc_callV [.int (nI 0), .int (nI 1), .int (nI 3)] ⟨hx, hb, hml, hown, hts⟩ hK (mX10_comes l E hI fu (nI 0) (nI 1) (nI 3) _) e14 qX10_comes tw_905 (Nat.le_of_ble_eq_true rfl) rfl rfl (Nat.le_of_ble_eq_true rfl) rfl ⟨rfl, rfl⟩ ⟨(Nat.le_of_ble_eq_true rfl), (Nat.le_of_ble_eq_true rfl)⟩ (Nat.le_of_ble_eq_true rfl) hl.1 dX10_init_220 hP hS hjA ⟨(Nat.le_of_ble_eq_true rfl), (Nat.le_of_ble_eq_true rfl)⟩ rfl (fun H locs hP hS _ _ => ?_)
  refine lv_aload_n hx hb dX10_init_223 rfl (lv_at hl 0 rfl) ?_
  refine lv_iconst (v := nI 1) hx hb dX10_init_224 (by decide) ?_
  refine lv_iconst (v := nI 2) hx hb dX10_init_225 (by decide) ?_
  refine lv_iconst (v := nI 5) hx hb dX10_init_226 (by decide) ?_
  obtain ⟨r15, M15, e15, ho⟩ := bV_inv ho
  refine jc_callV [.int (nI 1), .int (nI 2), .int (nI 5)] ⟨hx, hb, hml, hown, hts⟩ hK (mX10_comes l E hI fu (nI 1) (nI 2) (nI 5) _) e15 qX10_comes tw_905 (Nat.le_of_ble_eq_true rfl) rfl rfl (Nat.le_of_ble_eq_true rfl) rfl ⟨rfl, rfl⟩ ⟨(Nat.le_of_ble_eq_true rfl), (Nat.le_of_ble_eq_true rfl)⟩ (Nat.le_of_ble_eq_true rfl) hl.1 dX10_init_227 hP hS hjA ⟨(Nat.le_of_ble_eq_true rfl), (Nat.le_of_ble_eq_true rfl)⟩ rfl (fun H locs hP hS _ _ => ?_)
  refine lv_aload_n hx hb dX10_init_230 rfl (lv_at hl 0 rfl) ?_
  refine lv_iconst (v := nI 2) hx hb dX10_init_231 (by decide) ?_
  refine lv_iconst (v := nI 1) hx hb dX10_init_232 (by decide) ?_
  refine lv_bipush (v := nI 7) hx hb dX10_init_233 (by decide) ?_
  obtain ⟨r16, M16, e16, ho⟩ := bV_inv ho
  refine jc_callV [.int (nI 2), .int (nI 1), .int (nI 7)] ⟨hx, hb, hml, hown, hts⟩ hK (mX10_comes l E hI fu (nI 2) (nI 1) (nI 7) _) e16 qX10_comes tw_905 (Nat.le_of_ble_eq_true rfl) rfl rfl (Nat.le_of_ble_eq_true rfl) rfl ⟨rfl, rfl⟩ ⟨(Nat.le_of_ble_eq_true rfl), (Nat.le_of_ble_eq_true rfl)⟩ (Nat.le_of_ble_eq_true rfl) hl.1 dX10_init_235 hP hS hjA ⟨(Nat.le_of_ble_eq_true rfl), (Nat.le_of_ble_eq_true rfl)⟩ rfl (fun H locs hP hS _ _ => ?_)
  refine lv_aload_n hx hb dX10_init_238 rfl (lv_at hl 0 rfl) ?_
  refine lv_iconst (v := nI 3) hx hb dX10_init_239 (by decide) ?_
  refine lv_iconst (v := nI 3) hx hb dX10_init_240 (by decide) ?_
  refine lv_iconst (v := nI 2) hx hb dX10_init_241 (by decide) ?_
  obtain ⟨r17, M17, e17, ho⟩ := bV_inv ho
  refine jc_callV [.int (nI 3), .int (nI 3), .int (nI 2)] ⟨hx, hb, hml, hown, hts⟩ hK (mX10_comes l E hI fu (nI 3) (nI 3) (nI 2) _) e17 qX10_comes tw_905 (Nat.le_of_ble_eq_true rfl) rfl rfl (Nat.le_of_ble_eq_true rfl) rfl ⟨rfl, rfl⟩ ⟨(Nat.le_of_ble_eq_true rfl), (Nat.le_of_ble_eq_true rfl)⟩ (Nat.le_of_ble_eq_true rfl) hl.1 dX10_init_242 hP hS hjA ⟨(Nat.le_of_ble_eq_true rfl), (Nat.le_of_ble_eq_true rfl)⟩ rfl (fun H locs hP hS _ _ => ?_)
  refine lv_aload_n hx hb dX10_init_245 rfl (lv_at hl 0 rfl) ?_
  refine jc_getR (t := 12) (ci := 9) (j := 19) (C := RX10) (T := TX10) (N := 30) ⟨hx, hb, hml, hown, hts⟩ hK hP (Nat.le_of_ble_eq_true rfl) rfl rfl (Nat.le_of_ble_eq_true rfl) inX10 (Nat.le_of_ble_eq_true rfl) rfl tw_939 dX10_init_246 ?_
  refine lv_sipush (v := nI 761) hx hb dX10_init_249 (by decide) ?_
  refine lv_iconst (v := nI 1) hx hb dX10_init_252 (by decide) ?_
  refine jc_iast (n := 768) ⟨hx, hb, hml, hown, hts⟩ hK hI hP hS hjA (Nat.le_of_ble_eq_true rfl) rfl rfl (by rw [nI_toInt (by decide)]; decide) dX10_init_253 (fun H locs hP hS => ?_)
  refine lv_aload_n hx hb dX10_init_254 rfl (lv_at hl 0 rfl) ?_
  refine jc_getR (t := 12) (ci := 9) (j := 19) (C := RX10) (T := TX10) (N := 30) ⟨hx, hb, hml, hown, hts⟩ hK hP (Nat.le_of_ble_eq_true rfl) rfl rfl (Nat.le_of_ble_eq_true rfl) inX10 (Nat.le_of_ble_eq_true rfl) rfl tw_939 dX10_init_255 ?_
  refine lv_sipush (v := nI 763) hx hb dX10_init_258 (by decide) ?_
  refine lv_iconst (v := nI 2) hx hb dX10_init_261 (by decide) ?_
  refine jc_iast (n := 768) ⟨hx, hb, hml, hown, hts⟩ hK hI hP hS hjA (Nat.le_of_ble_eq_true rfl) rfl rfl (by rw [nI_toInt (by decide)]; decide) dX10_init_262 (fun H locs hP hS => ?_)
  refine lv_aload_n hx hb dX10_init_263 rfl (lv_at hl 0 rfl) ?_
  refine lv_bipush (v := nI 16) hx hb dX10_init_264 (by decide) ?_
  refine jc_putI (ci := 9) (j := 12) (C := RX10) (T := TX10) (N := 30) ⟨hx, hb, hml, hown, hts⟩ hK hI hP hS hjA (Nat.le_of_ble_eq_true rfl) rfl rfl (Nat.le_of_ble_eq_true rfl) inX10 tyX10 tyX10_ok nmX10 (Nat.le_of_ble_eq_true rfl) rfl tw_932 rfl (by decide +kernel) dX10_init_266 (fun H locs hP hS => ?_)
  refine lv_aload_n hx hb dX10_init_269 rfl (lv_at hl 0 rfl) ?_
  obtain ⟨r18, M18, e18, ho⟩ := bV_inv ho
  refine jc_callV [] ⟨hx, hb, hml, hown, hts⟩ hK (mX10_settles l E hI fu  _) e18 qX10_settles tw_909 (Nat.le_of_ble_eq_true rfl) rfl rfl (Nat.le_of_ble_eq_true rfl) rfl ⟨rfl, rfl⟩ ⟨(Nat.le_of_ble_eq_true rfl), (Nat.le_of_ble_eq_true rfl)⟩ (Nat.le_of_ble_eq_true rfl) hl.1 dX10_init_270 hP hS hjA ⟨(Nat.le_of_ble_eq_true rfl), (Nat.le_of_ble_eq_true rfl)⟩ rfl (fun H locs hP hS _ _ => ?_)
  have hM : M18 = Mf := congrArg Prod.snd (Option.some.inj ho)
  rw [hM] at hP
  subst hE
  exact W.vret hx hb hr (fun t ht hW => ⟨⟨F, rfl, trivial, by rw [ht]; exact hP, by rw [hAe]; exact hend Mf⟩, hAe ▸ hS.F ht⟩) (fun q hq => hAe ▸ hS.2.2 q hq) dX10_init_273
