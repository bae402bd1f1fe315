theorem tw_66 : Cond.initialized RJ0 ∈ tbg := tbg_in (List.mem_of_getElem? (l := tables_1_1) (i := 10) rfl) tq_1 rfl
theorem tw_67 : Cond.initialized RJ1 ∈ tbg := tbg_in (List.mem_of_getElem? (l := tables_1_1) (i := 11) rfl) tq_1 rfl
theorem tw_68 : Cond.initialized RJ3 ∈ tbg := tbg_in (List.mem_of_getElem? (l := tables_1_1) (i := 12) rfl) tq_1 rfl
theorem tw_242 : Cond.instanceMethod yJ0_length_8abf5 ∈ tbg := tbg_in (List.mem_of_getElem? (l := tables_1_1) (i := 186) rfl) tq_1 rfl
theorem tw_243 : Cond.selects yJ0_length_8abf5.cls yJ0_length_8abf5 yJ0_length_8abf5 ∈ tbg := tbg_in (List.mem_of_getElem? (l := tables_1_1) (i := 187) rfl) tq_1 rfl
theorem tw_244 : Cond.code yJ0_length_8abf5 cJ0_length_8abf5 1 ((some FieldType.int)) ∈ tbg := tbg_in (List.mem_of_getElem? (l := tables_1_1) (i := 188) rfl) tq_1 rfl
theorem tw_245 : Cond.methodLink "java/lang/String" 335 yJ0_coder_7d493 ∈ tbg := tbg_in (List.mem_of_getElem? (l := tables_1_1) (i := 189) rfl) tq_1 rfl
theorem tw_246 : Cond.instanceMethod yJ0_coder_7d493 ∈ tbg := tbg_in (List.mem_of_getElem? (l := tables_1_1) (i := 190) rfl) tq_1 rfl
theorem tw_247 : Cond.selects yJ0_coder_7d493.cls yJ0_coder_7d493 yJ0_coder_7d493 ∈ tbg := tbg_in (List.mem_of_getElem? (l := tables_1_1) (i := 191) rfl) tq_1 rfl
theorem tw_248 : Cond.code yJ0_coder_7d493 cJ0_coder_7d493 1 ((some FieldType.byte)) ∈ tbg := tbg_in (List.mem_of_getElem? (l := tables_1_1) (i := 192) rfl) tq_1 rfl
theorem tw_249 : Cond.fieldLink "java/lang/String" 38 "java/lang/String" "COMPACT_STRINGS" "Z" ∈ tbg := tbg_in (List.mem_of_getElem? (l := tables_1_1) (i := 193) rfl) tq_1 rfl
theorem tw_252 : Cond.instanceMethod yJ0_charAt_5068e ∈ tbg := tbg_in (List.mem_of_getElem? (l := tables_1_1) (i := 196) rfl) tq_1 rfl
theorem tw_253 : Cond.selects yJ0_charAt_5068e.cls yJ0_charAt_5068e yJ0_charAt_5068e ∈ tbg := tbg_in (List.mem_of_getElem? (l := tables_1_1) (i := 197) rfl) tq_1 rfl
theorem tw_254 : Cond.code yJ0_charAt_5068e cJ0_charAt_5068e 2 ((some FieldType.char)) ∈ tbg := tbg_in (List.mem_of_getElem? (l := tables_1_1) (i := 198) rfl) tq_1 rfl
theorem tw_255 : Cond.methodLink "java/lang/String" 492 yJ0_isLatin1_aae02 ∈ tbg := tbg_in (List.mem_of_getElem? (l := tables_1_1) (i := 199) rfl) tq_1 rfl
theorem tw_256 : Cond.instanceMethod yJ0_isLatin1_aae02 ∈ tbg := tbg_in (List.mem_of_getElem? (l := tables_1_1) (i := 200) rfl) tq_1 rfl
theorem tw_257 : Cond.selects yJ0_isLatin1_aae02.cls yJ0_isLatin1_aae02 yJ0_isLatin1_aae02 ∈ tbg := tbg_in (List.mem_of_getElem? (l := tables_1_1) (i := 201) rfl) tq_1 rfl
theorem tw_258 : Cond.code yJ0_isLatin1_aae02 cJ0_isLatin1_aae02 1 ((some FieldType.boolean)) ∈ tbg := tbg_in (List.mem_of_getElem? (l := tables_1_1) (i := 202) rfl) tq_1 rfl
theorem tw_259 : Cond.methodLink "java/lang/String" 495 yJ1_charAt_3b067 ∈ tbg := tbg_in (List.mem_of_getElem? (l := tables_1_1) (i := 203) rfl) tq_1 rfl
theorem tw_260 : Cond.static yJ1_charAt_3b067 ∈ tbg := tbg_in (List.mem_of_getElem? (l := tables_1_1) (i := 204) rfl) tq_1 rfl
theorem tw_261 : Cond.code yJ1_charAt_3b067 cJ1_charAt_3b067 2 ((some FieldType.char)) ∈ tbg := tbg_in (List.mem_of_getElem? (l := tables_1_1) (i := 205) rfl) tq_1 rfl
theorem tw_262 : Cond.methodLink "java/lang/StringLatin1" 9 yJ0_checkIndex_df160 ∈ tbg := tbg_in (List.mem_of_getElem? (l := tables_1_1) (i := 206) rfl) tq_1 rfl
theorem tw_263 : Cond.static yJ0_checkIndex_df160 ∈ tbg := tbg_in (List.mem_of_getElem? (l := tables_1_1) (i := 207) rfl) tq_1 rfl
theorem tw_264 : Cond.code yJ0_checkIndex_df160 cJ0_checkIndex_df160 2 none ∈ tbg := tbg_in (List.mem_of_getElem? (l := tables_1_1) (i := 208) rfl) tq_1 rfl
theorem tw_265 : Cond.fieldLink "java/lang/String" 1053 "jdk/internal/util/Preconditions" "SIOOBE_FORMATTER" "Ljava/util/function/BiFunction;" ∈ tbg := tbg_in (List.mem_of_getElem? (l := tables_1_1) (i := 209) rfl) tq_1 rfl
theorem tw_267 : Cond.methodLink "java/lang/String" 1059 yJ3_checkIndex_8e157 ∈ tbg := tbg_in (List.mem_of_getElem? (l := tables_1_1) (i := 211) rfl) tq_1 rfl
theorem tw_268 : Cond.static yJ3_checkIndex_8e157 ∈ tbg := tbg_in (List.mem_of_getElem? (l := tables_1_1) (i := 212) rfl) tq_1 rfl
theorem tw_269 : Cond.code yJ3_checkIndex_8e157 cJ3_checkIndex_8e157 3 ((some FieldType.int)) ∈ tbg := tbg_in (List.mem_of_getElem? (l := tables_1_1) (i := 213) rfl) tq_1 rfl
theorem tw_1289 : Cond.fieldLink "java/lang/String" 9 "java/lang/String" "value" "[B" ∈ tbg := tbg_in (List.mem_of_getElem? (l := tables_1_6) (i := 33) rfl) tq_6 rfl
theorem tw_1290 : Cond.fieldLink "java/lang/String" 15 "java/lang/String" "coder" "B" ∈ tbg := tbg_in (List.mem_of_getElem? (l := tables_1_6) (i := 34) rfl) tq_6 rfl
theorem dJ3_checkIndex_8e157_0 : decode cJ3_checkIndex_8e157 0 = .ok (.iload_n 0, 1) := by decide +kernel
theorem dJ3_checkIndex_8e157_1 : decode cJ3_checkIndex_8e157 1 = .ok (.ifCond .lt 8, 3) := by decide +kernel
theorem dJ3_checkIndex_8e157_4 : decode cJ3_checkIndex_8e157 4 = .ok (.iload_n 0, 1) := by decide +kernel
theorem dJ3_checkIndex_8e157_5 : decode cJ3_checkIndex_8e157 5 = .ok (.iload_n 1, 1) := by decide +kernel
theorem dJ3_checkIndex_8e157_6 : decode cJ3_checkIndex_8e157 6 = .ok (.if_icmp .lt 10, 3) := by decide +kernel
theorem dJ3_checkIndex_8e157_9 : decode cJ3_checkIndex_8e157 9 = .ok (.aload_n 2, 1) := by decide +kernel
theorem dJ3_checkIndex_8e157_10 : decode cJ3_checkIndex_8e157 10 = .ok (.iload_n 0, 1) := by decide +kernel
theorem dJ3_checkIndex_8e157_11 : decode cJ3_checkIndex_8e157 11 = .ok (.iload_n 1, 1) := by decide +kernel
theorem dJ3_checkIndex_8e157_12 : decode cJ3_checkIndex_8e157 12 = .ok (.invokestatic 95, 3) := by decide +kernel
theorem dJ3_checkIndex_8e157_15 : decode cJ3_checkIndex_8e157 15 = .ok (.athrow, 1) := by decide +kernel
theorem dJ3_checkIndex_8e157_16 : decode cJ3_checkIndex_8e157 16 = .ok (.iload_n 0, 1) := by decide +kernel
theorem dJ3_checkIndex_8e157_17 : decode cJ3_checkIndex_8e157 17 = .ok (.ireturn, 1) := by decide +kernel
theorem dJ0_checkIndex_df160_0 : decode cJ0_checkIndex_df160 0 = .ok (.iload_n 0, 1) := by decide +kernel
theorem dJ0_checkIndex_df160_1 : decode cJ0_checkIndex_df160 1 = .ok (.iload_n 1, 1) := by decide +kernel
theorem dJ0_checkIndex_df160_2 : decode cJ0_checkIndex_df160 2 = .ok (.getstatic 1053, 3) := by decide +kernel
theorem dJ0_checkIndex_df160_5 : decode cJ0_checkIndex_df160 5 = .ok (.invokestatic 1059, 3) := by decide +kernel
theorem dJ0_checkIndex_df160_8 : decode cJ0_checkIndex_df160 8 = .ok (.pop, 1) := by decide +kernel
theorem dJ0_checkIndex_df160_9 : decode cJ0_checkIndex_df160 9 = .ok (.return_, 1) := by decide +kernel
theorem dJ1_charAt_3b067_0 : decode cJ1_charAt_3b067 0 = .ok (.iload_n 1, 1) := by decide +kernel
theorem dJ1_charAt_3b067_1 : decode cJ1_charAt_3b067 1 = .ok (.aload_n 0, 1) := by decide +kernel
theorem dJ1_charAt_3b067_2 : decode cJ1_charAt_3b067 2 = .ok (.arraylength, 1) := by decide +kernel
theorem dJ1_charAt_3b067_3 : decode cJ1_charAt_3b067 3 = .ok (.invokestatic 9, 3) := by decide +kernel
theorem dJ1_charAt_3b067_6 : decode cJ1_charAt_3b067 6 = .ok (.aload_n 0, 1) := by decide +kernel
theorem dJ1_charAt_3b067_7 : decode cJ1_charAt_3b067 7 = .ok (.iload_n 1, 1) := by decide +kernel
theorem dJ1_charAt_3b067_8 : decode cJ1_charAt_3b067 8 = .ok (.baload, 1) := by decide +kernel
theorem dJ1_charAt_3b067_9 : decode cJ1_charAt_3b067 9 = .ok (.sipush 255, 3) := by decide +kernel
theorem dJ1_charAt_3b067_12 : decode cJ1_charAt_3b067 12 = .ok (.iand, 1) := by decide +kernel
theorem dJ1_charAt_3b067_13 : decode cJ1_charAt_3b067 13 = .ok (.i2c, 1) := by decide +kernel
theorem dJ1_charAt_3b067_14 : decode cJ1_charAt_3b067 14 = .ok (.ireturn, 1) := by decide +kernel
theorem dJ0_isLatin1_aae02_0 : decode cJ0_isLatin1_aae02 0 = .ok (.getstatic 38, 3) := by decide +kernel
theorem dJ0_isLatin1_aae02_3 : decode cJ0_isLatin1_aae02 3 = .ok (.ifCond .eq 14, 3) := by decide +kernel
theorem dJ0_isLatin1_aae02_6 : decode cJ0_isLatin1_aae02 6 = .ok (.aload_n 0, 1) := by decide +kernel
theorem dJ0_isLatin1_aae02_7 : decode cJ0_isLatin1_aae02 7 = .ok (.getfield 15, 3) := by decide +kernel
theorem dJ0_isLatin1_aae02_10 : decode cJ0_isLatin1_aae02 10 = .ok (.ifCond .ne 7, 3) := by decide +kernel
theorem dJ0_isLatin1_aae02_13 : decode cJ0_isLatin1_aae02 13 = .ok (.iconst 1, 1) := by decide +kernel
theorem dJ0_isLatin1_aae02_14 : decode cJ0_isLatin1_aae02 14 = .ok (.goto 4, 3) := by decide +kernel
theorem dJ0_isLatin1_aae02_17 : decode cJ0_isLatin1_aae02 17 = .ok (.iconst 0, 1) := by decide +kernel
theorem dJ0_isLatin1_aae02_18 : decode cJ0_isLatin1_aae02 18 = .ok (.ireturn, 1) := by decide +kernel
theorem dJ0_coder_7d493_0 : decode cJ0_coder_7d493 0 = .ok (.getstatic 38, 3) := by decide +kernel
theorem dJ0_coder_7d493_3 : decode cJ0_coder_7d493 3 = .ok (.ifCond .eq 10, 3) := by decide +kernel
theorem dJ0_coder_7d493_6 : decode cJ0_coder_7d493 6 = .ok (.aload_n 0, 1) := by decide +kernel
theorem dJ0_coder_7d493_7 : decode cJ0_coder_7d493 7 = .ok (.getfield 15, 3) := by decide +kernel
theorem dJ0_coder_7d493_10 : decode cJ0_coder_7d493 10 = .ok (.goto 4, 3) := by decide +kernel
theorem dJ0_coder_7d493_13 : decode cJ0_coder_7d493 13 = .ok (.iconst 1, 1) := by decide +kernel
theorem dJ0_coder_7d493_14 : decode cJ0_coder_7d493 14 = .ok (.ireturn, 1) := by decide +kernel
theorem dJ0_charAt_5068e_0 : decode cJ0_charAt_5068e 0 = .ok (.aload_n 0, 1) := by decide +kernel
theorem dJ0_charAt_5068e_1 : decode cJ0_charAt_5068e 1 = .ok (.invokevirtual 492, 3) := by decide +kernel
theorem dJ0_charAt_5068e_4 : decode cJ0_charAt_5068e 4 = .ok (.ifCond .eq 12, 3) := by decide +kernel
theorem dJ0_charAt_5068e_7 : decode cJ0_charAt_5068e 7 = .ok (.aload_n 0, 1) := by decide +kernel
theorem dJ0_charAt_5068e_8 : decode cJ0_charAt_5068e 8 = .ok (.getfield 9, 3) := by decide +kernel
theorem dJ0_charAt_5068e_11 : decode cJ0_charAt_5068e 11 = .ok (.iload_n 1, 1) := by decide +kernel
theorem dJ0_charAt_5068e_12 : decode cJ0_charAt_5068e 12 = .ok (.invokestatic 495, 3) := by decide +kernel
theorem dJ0_charAt_5068e_15 : decode cJ0_charAt_5068e 15 = .ok (.ireturn, 1) := by decide +kernel
theorem dJ0_charAt_5068e_16 : decode cJ0_charAt_5068e 16 = .ok (.aload_n 0, 1) := by decide +kernel
theorem dJ0_charAt_5068e_17 : decode cJ0_charAt_5068e 17 = .ok (.getfield 9, 3) := by decide +kernel
theorem dJ0_charAt_5068e_20 : decode cJ0_charAt_5068e 20 = .ok (.iload_n 1, 1) := by decide +kernel
theorem dJ0_charAt_5068e_21 : decode cJ0_charAt_5068e 21 = .ok (.invokestatic 498, 3) := by decide +kernel
theorem dJ0_charAt_5068e_24 : decode cJ0_charAt_5068e 24 = .ok (.ireturn, 1) := by decide +kernel
theorem dJ0_length_8abf5_0 : decode cJ0_length_8abf5 0 = .ok (.aload_n 0, 1) := by decide +kernel
theorem dJ0_length_8abf5_1 : decode cJ0_length_8abf5 1 = .ok (.getfield 9, 3) := by decide +kernel
theorem dJ0_length_8abf5_4 : decode cJ0_length_8abf5 4 = .ok (.arraylength, 1) := by decide +kernel
theorem dJ0_length_8abf5_5 : decode cJ0_length_8abf5 5 = .ok (.aload_n 0, 1) := by decide +kernel
theorem dJ0_length_8abf5_6 : decode cJ0_length_8abf5 6 = .ok (.invokevirtual 335, 3) := by decide +kernel
theorem dJ0_length_8abf5_9 : decode cJ0_length_8abf5 9 = .ok (.ishr, 1) := by decide +kernel
theorem dJ0_length_8abf5_10 : decode cJ0_length_8abf5 10 = .ok (.ireturn, 1) := by decide +kernel
/-! THE FIRST COURT'S TEXT: a String, and what is asked of it -/
def fcL : List Nat := [110, 55, 59, 119, 48, 44, 49, 44, 50, 59, 119, 49, 44, 50, 44, 51, 59, 119, 50, 44, 51, 44, 49, 59, 119, 49, 44, 52, 44, 52, 59, 119, 52, 44, 53, 44, 50, 59, 119, 51, 44, 53, 44, 53, 59, 119, 48, 44, 54, 44, 54, 59, 119, 54, 44, 51, 44, 50, 59, 100, 48, 44, 51, 59, 100, 49, 44, 53, 59, 100, 50, 44, 52, 59, 100, 51, 44, 50, 59, 98, 48, 44, 49, 44, 51, 59, 98, 49, 44, 50, 44, 53, 59, 98, 50, 44, 49, 44, 55, 59, 98, 51, 44, 51, 44, 50, 59, 99, 50, 44, 49, 59, 99, 52, 44, 50, 59, 109, 52, 59]
def fcN (j : Nat) : Nat := fcL.getD j 0
def fcB (j : Nat) : Int32 := nI (fcN j)
theorem fc_b : ∀ j, j < 120 → 32 ≤ fcN j ∧ fcN j ≤ 126 := by decide +kernel
theorem fc_c : ∀ n, n < 128 → ((nI n &&& 255).toUInt32 % 65536).toInt32 = nI n := by decide +kernel
abbrev nn9 : Nat → Prop := fun _ => False
def STR (A : Nat → Prop) (a v : Nat) (U : State) (H : Heap) : Prop := va_O "java/lang/String" a A U H ∧ va_OF "java/lang/String" "coder" "B" (.int 0) a A U H ∧ va_OF "java/lang/String" "value" "[B" (.ref v) a A U H ∧ va_T .byte v 120 (fun j => .int (fcB j)) A U H ∧ va_Z "java/lang/String" "COMPACT_STRINGS" "Z" (.int 1) A U H ∧ va_Zq "jdk/internal/util/Preconditions" "SIOOBE_FORMATTER" "Ljava/util/function/BiFunction;" A U H
theorem STR.moved {A : Nat → Prop} {a v : Nat} {u U : State} {H : Heap} (hvm : u.vm.Alike U.vm) (h : STR A a v u H) : STR A a v U H := ⟨va_O.moved hvm h.1, va_OF.moved hvm h.2.1, va_OF.moved hvm h.2.2.1, va_T.moved hvm h.2.2.2.1, va_Z.moved hvm h.2.2.2.2.1, va_Zq.moved hvm h.2.2.2.2.2⟩
theorem STR.kept {A : Nat → Prop} {a v : Nat} {U : State} {H H1 : Heap} (h : STR A a v U H) (hq : ∀ a : Nat, a < H.size → ¬ A a → H1[a]? = H[a]?) : STR A a v U H1 := ⟨h.1.kept hq, h.2.1.kept hq, h.2.2.1.kept hq, h.2.2.2.1.kept hq, h.2.2.2.2.1.kept hq, h.2.2.2.2.2.kept hq⟩
theorem STR.narrow {A B : Nat → Prop} {a v : Nat} {U : State} {H : Heap} (h : STR A a v U H) (hAB : ∀ q, B q → A q) : STR B a v U H := ⟨h.1.narrow hAB, h.2.1.narrow hAB, h.2.2.1.narrow hAB, h.2.2.2.1.narrow hAB, h.2.2.2.2.1.narrow hAB, h.2.2.2.2.2.narrow hAB⟩
/-- a question's contract: it answers z, and nothing changes -/
def sMet (l : Launch) (y : MethodName) (cc : ByteArray) (nL : Nat) (ret : Option FieldType) (rm : Room) (avs : List Value) (a v : Nat) (z : Int32) : Prop := Met l y (Cond.code y cc nL ret :: tbg) rm (va_Pc avs (fun U => STR nn9 a v U U.heap)) (va_Qi (fun r (_ : Unit) => r = z) (fun _ _ => True) nn9) 0 0 nn9
def sMetV (l : Launch) (y : MethodName) (cc : ByteArray) (nL : Nat) (rm : Room) (avs : List Value) (a v : Nat) : Prop := Met l y (Cond.code y cc nL none :: tbg) rm (va_Pc avs (fun U => STR nn9 a v U U.heap)) (va_Qv (fun (_ : Unit) => True) (fun _ _ => True) nn9) 0 0 nn9
theorem s_blind (avs : List Value) (a v : Nat) : FrameBlind (va_Pc avs (fun U => STR nn9 a v U U.heap)) := by
  intro x U g mk q
  exact ⟨q.1, STR.moved (u := U) (U := U.calling g mk x) (Vm.Alike.refl U.vm) q.2⟩
theorem s_entry {l : Launch} {y : MethodName} {cc : ByteArray} {nL : Nat} {ret : Option FieldType} {rm : Room} {avs : List Value} {a v : Nat} {Qc : Array Value → State → Outcome → State → Prop} (hy : plainName y.cls = true) (hlen : (lg_sl avs).length ≤ nL)
    (body : ∀ (p : Program) (e : Env) (s : State) (m : MethodId) (below : List Frame) (meth : Method) (c : Code) (ls : Array Slot), p.tables.exec = Jvm.exec → c.code = cc → c.maxLocals = nL → meth.sig.returnType = ret → meth.locks = false → s.vm.findClass y.cls = some m.cls → (∀ w ∈ tbg, w.before avs.toArray s = true) → STR nn9 a v s s.heap → lv_has ls nL (lv_args 0 avs) → W p l e rm s m avs.toArray below meth c s.heap [] 0 0 (MQ below Qc avs.toArray s 0 0 nn9) (F0 m 0 ls [])) : Met l y (Cond.code y cc nL ret :: tbg) rm (va_Pc avs (fun U => STR nn9 a v U U.heap)) Qc 0 0 nn9 := by
  refine Met.ofW (cc := cc) (maxL := nL) (ret := ret) hy rfl ?_
  intro p e s m args below meth c s₁ B hml hv
  obtain ⟨rfl, hT⟩ := hv
  have hts := atoms_spec (ws := Cond.code y cc nL ret :: tbg) B.pre
  rw [lg_entry_eq]
  exact body p e s m below meth c _ B.exec B.bytes hml B.returns B.notSynchronized (findClass_of_methodNamed B.named) (fun w hw => hts w (List.mem_cons_of_mem _ hw)) hT (lv_entry avs hlen)
section SC9
variable {p : Program} {l : Launch} {e : Env} {R : Room} {s : State} {m : MethodId} {args : Array Value} {below : List Frame} {meth : Method} {c : Code} {H : Heap} {locs : List Loc} {cells slots : Nat} {Q : State → Prop}
variable {cc : ByteArray} {pc : Nat} {ls : Array Slot} {rest : List Value} {A : Nat → Prop} {H0 : Heap}
theorem s_after {st0 : List Value} {x : Array Value} {z : Int32} (hr : va_Run p l e R s m args below meth c H locs cells slots 0 0 (F0 m pc ls st0) rest (va_Qi (fun r (_ : Unit) => r = z) (fun _ _ => True) nn9 x) nn9) (hS : va_S A H0 H locs) (kk : ∀ (H1 : Heap) (locs1 : List Loc), (∀ q : Nat, q < H.size → H1[q]? = H[q]?) → va_S A H0 H1 locs1 → W p l e R s m args below meth c H1 locs1 cells slots Q (F0 m (pc + 3) ls (.int z :: rest))) : W p l e R s m args below meth c H locs cells slots Q (F0 m pc ls st0) :=
  va_calli hr hS (fun _ _ h => absurd h id) (fun _ h => absurd h id) (fun r u t H1 locs1 ht hvm hw hB hz1 hk1 hS1 => by subst hw; exact kk H1 locs1 (fun q h => hk1 q h id) hS1)
theorem s_callV {y : MethodName} {cc' : ByteArray} {nL nL' n idx a v : Nat} {ret' : Option FieldType} {rm' : Room} {own : String} {z : Int32} {stk : List Value} (As : List Value) (hM : sMet l y cc' nL' ret' rm' (.ref a :: As) a v z) (S : CallFix p m c cc nL s args tbg own) (hY : jYv y cc' nL' ret' n) (hl : Cond.methodLink own idx y ∈ tbg) (hcl : y.cls = "java/lang/String") (hT : STR A a v s H0) (hn : As.length = n) (hz : rm'.cells = 0 ∧ rm'.slots = 0) (hR : rm'.frames + 1 ≤ R.frames ∧ 8 + (nL' + 11) + rm'.locals ≤ R.locals) (hst : (rest.map fun v => v.category).sum ≤ 8) (hsz : ls.size = nL) (hS : va_S A H0 H locs) (hd : decode cc pc = .ok (.invokevirtual idx, 3)) (hf : cells ≤ R.cells ∧ slots ≤ R.slots) (hstk : As.reverse ++ .ref a :: rest = stk)
    (kk : ∀ (H1 : Heap) (locs1 : List Loc), (∀ q : Nat, q < H.size → H1[q]? = H[q]?) → va_S A H0 H1 locs1 → W p l e R s m args below meth c H1 locs1 cells slots Q (F0 m (pc + 3) ls (.int z :: rest))) : W p l e R s m args below meth c H locs cells slots Q (F0 m pc ls stk) := by
  subst hstk
  have hts := S.2.2.2.2
  have hT1 := hT.kept hS.2.1
  obtain ⟨cell, c1, c2, c3, -⟩ := hT1.1
  exact s_after (va_runV (As := As) (rest := rest) S hM (cwV n hts (gi_v hY hl) rfl hz.1 hz.2 ⟨rfl, hY.2.2.2.2⟩ hR) ⟨s_blind _ _ _, ⟨cell, c1, c2, by rw [hcl]; exact c3⟩, fun U hU hW => ⟨rfl, by show STR nn9 a v U U.heap; rw [hU]; exact STR.moved hW.alike (hT1.narrow (fun _ h => absurd h id))⟩⟩ rfl hn hsz rfl (lv_room hst) hd hf) hS kk
theorem s_callS {y : MethodName} {cc' : ByteArray} {nL nL' n idx a v : Nat} {ret' : Option FieldType} {rm' : Room} {own : String} {z : Int32} {stk : List Value} (As : List Value) (hM : sMet l y cc' nL' ret' rm' As a v z) (S : CallFix p m c cc nL s args tbg own) (hY : jYs y cc' nL' ret' n) (hl : Cond.methodLink own idx y ∈ tbg) (hT : STR A a v s H0) (hn : As.length = n) (hz : rm'.cells = 0 ∧ rm'.slots = 0) (hR : rm'.frames + 1 ≤ R.frames ∧ 8 + (nL' + 11) + rm'.locals ≤ R.locals) (hst : (rest.map fun v => v.category).sum ≤ 8) (hsz : ls.size = nL) (hS : va_S A H0 H locs) (hd : decode cc pc = .ok (.invokestatic idx, 3)) (hf : cells ≤ R.cells ∧ slots ≤ R.slots) (hstk : As.reverse ++ rest = stk)
    (kk : ∀ (H1 : Heap) (locs1 : List Loc), (∀ q : Nat, q < H.size → H1[q]? = H[q]?) → va_S A H0 H1 locs1 → W p l e R s m args below meth c H1 locs1 cells slots Q (F0 m (pc + 3) ls (.int z :: rest))) : W p l e R s m args below meth c H locs cells slots Q (F0 m pc ls stk) := by
  subst hstk
  have hts := S.2.2.2.2
  have hT1 := hT.kept hS.2.1
  exact s_after (va_runS (As := As) (rest := rest) S hM (va_cwS n hts (gi_s hY hl) rfl hz.1 hz.2 hY.2.2.2 hR) ⟨s_blind _ _ _, fun U hU hW => ⟨rfl, by show STR nn9 a v U U.heap; rw [hU]; exact STR.moved hW.alike (hT1.narrow (fun _ h => absurd h id))⟩⟩ rfl hn hsz rfl (lv_room hst) hd hf) hS kk
theorem s_callSv {y : MethodName} {cc' : ByteArray} {nL nL' n idx a v : Nat} {rm' : Room} {own : String} {stk : List Value} (As : List Value) (hM : sMetV l y cc' nL' rm' As a v) (S : CallFix p m c cc nL s args tbg own) (hY : jYs y cc' nL' none n) (hl : Cond.methodLink own idx y ∈ tbg) (hT : STR A a v s H0) (hn : As.length = n) (hz : rm'.cells = 0 ∧ rm'.slots = 0) (hR : rm'.frames + 1 ≤ R.frames ∧ 8 + (nL' + 11) + rm'.locals ≤ R.locals) (hst : (rest.map fun v => v.category).sum ≤ 8) (hsz : ls.size = nL) (hS : va_S A H0 H locs) (hd : decode cc pc = .ok (.invokestatic idx, 3)) (hf : cells ≤ R.cells ∧ slots ≤ R.slots) (hstk : As.reverse ++ rest = stk)
    (kk : ∀ (H1 : Heap) (locs1 : List Loc), (∀ q : Nat, q < H.size → H1[q]? = H[q]?) → va_S A H0 H1 locs1 → W p l e R s m args below meth c H1 locs1 cells slots Q (F0 m (pc + 3) ls rest)) : W p l e R s m args below meth c H locs cells slots Q (F0 m pc ls stk) := by
  subst hstk
  have hts := S.2.2.2.2
  have hT1 := hT.kept hS.2.1
  exact va_callv (va_runS (As := As) (rest := rest) S hM (va_cwS n hts (gi_s hY hl) rfl hz.1 hz.2 hY.2.2.2 hR) ⟨s_blind _ _ _, fun U hU hW => ⟨rfl, by show STR nn9 a v U U.heap; rw [hU]; exact STR.moved hW.alike (hT1.narrow (fun _ h => absurd h id))⟩⟩ rfl hn hsz rfl (lv_room hst) hd hf) hS (fun _ _ h => absurd h id) (fun _ h => absurd h id) (fun u t H1 locs1 ht hvm hw hB hz1 hk1 hS1 => kk H1 locs1 (fun q h => hk1 q h id) hS1)
end SC9
set_option maxRecDepth 100000 in
theorem kJ3 (l : Launch) (a v i : Nat) (hi : i < 120) (fm : Value) (hfm : fm = .null ∨ ∃ t, fm = .ref t) : sMet l yJ3_checkIndex_8e157 cJ3_checkIndex_8e157 3 (some .int) { frames := 0, cells := 0, slots := 0, locals := 0 } [.int (nI i), .int (nI 120), fm] a v (nI i) := by
  rcases hfm with rfl | ⟨t, rfl⟩
  all_goals
    refine s_entry (by decide) (Nat.le_of_ble_eq_true rfl) ?_
    intro p e s m below meth c ls hx hb hml hr hlocks hown hts hT hl
    refine lv_iload_n hx hb dJ3_checkIndex_8e157_0 rfl (lv_at hl 0 rfl) ?_
    refine lv_if_lt (tgt := 9) hx hb dJ3_checkIndex_8e157_1 (by decide) (fun c_1 => absurd c_1 (nI_pos (by omega))) (fun c_1 => ?_)
    refine lv_iload_n hx hb dJ3_checkIndex_8e157_4 rfl (lv_at hl 0 rfl) ?_
    refine lv_iload_n hx hb dJ3_checkIndex_8e157_5 rfl (lv_at hl 1 rfl) ?_
    refine lv_icmp_lt (tgt := 16) hx hb dJ3_checkIndex_8e157_6 (by decide) (fun c_1 => ?_) (fun c_1 => absurd ((nI_lt_iff (by omega) (by decide)).mpr hi) c_1)
    refine lv_iload_n hx hb dJ3_checkIndex_8e157_16 rfl (lv_at hl 0 rfl) ?_
    exact W.iret (v := nI i) hx hb hr (fun t ht hW => ⟨⟨nI i, (), rfl, rfl, trivial⟩, va_S.rf.F ht⟩) (fun q hq => by cases hq) dJ3_checkIndex_8e157_17
set_option maxRecDepth 100000 in
theorem kJ0_check (l : Launch) (a v i : Nat) (hi : i < 120) : sMetV l yJ0_checkIndex_df160 cJ0_checkIndex_df160 2 { frames := 1, cells := 0, slots := 0, locals := 22 } [.int (nI i), .int (nI 120)] a v := by
  refine s_entry (by decide) (Nat.le_of_ble_eq_true rfl) ?_
  intro p e s m below meth c ls hx hb hml hr hlocks hown hts hT hl
  have hS : va_S nn9 s.heap s.heap [] := va_S.rf
  refine lv_iload_n hx hb dJ0_checkIndex_df160_0 rfl (lv_at hl 0 rfl) ?_
  refine lv_iload_n hx hb dJ0_checkIndex_df160_1 rfl (lv_at hl 1 rfl) ?_
  rcases hT.2.2.2.2.2 with hZ | ⟨t, hZ⟩
  · refine va_gets hx hb hZ hS hown (hts _ tw_265) (fun _ h9 => h9) dJ0_checkIndex_df160_2 ?_
    refine s_callS (n := 3) [.int (nI i), .int (nI 120), .null] (kJ3 l a v i hi _ (Or.inl rfl)) ⟨hx, hb, hml, hown, hts⟩ ⟨tw_268, tw_68, tw_269, by decide +kernel⟩ tw_267 hT rfl ⟨rfl, rfl⟩ ⟨(Nat.le_of_ble_eq_true rfl), (Nat.le_of_ble_eq_true rfl)⟩ (Nat.le_of_ble_eq_true rfl) hl.1 hS dJ0_checkIndex_df160_5 ⟨(Nat.le_of_ble_eq_true rfl), (Nat.le_of_ble_eq_true rfl)⟩ rfl (fun H1 locs1 hk hS => ?_)
    refine lv_pop hx hb dJ0_checkIndex_df160_8 rfl ?_
    exact W.vret hx hb hr (fun t ht hW => ⟨⟨(), rfl, trivial, trivial⟩, hS.F ht⟩) hS.2.2 dJ0_checkIndex_df160_9
  · refine va_gets hx hb hZ hS hown (hts _ tw_265) (fun _ h9 => h9) dJ0_checkIndex_df160_2 ?_
    refine s_callS (n := 3) [.int (nI i), .int (nI 120), .ref t] (kJ3 l a v i hi _ (Or.inr ⟨t, rfl⟩)) ⟨hx, hb, hml, hown, hts⟩ ⟨tw_268, tw_68, tw_269, by decide +kernel⟩ tw_267 hT rfl ⟨rfl, rfl⟩ ⟨(Nat.le_of_ble_eq_true rfl), (Nat.le_of_ble_eq_true rfl)⟩ (Nat.le_of_ble_eq_true rfl) hl.1 hS dJ0_checkIndex_df160_5 ⟨(Nat.le_of_ble_eq_true rfl), (Nat.le_of_ble_eq_true rfl)⟩ rfl (fun H1 locs1 hk hS => ?_)
    refine lv_pop hx hb dJ0_checkIndex_df160_8 rfl ?_
    exact W.vret hx hb hr (fun t ht hW => ⟨⟨(), rfl, trivial, trivial⟩, hS.F ht⟩) hS.2.2 dJ0_checkIndex_df160_9
theorem nar_c : ∀ n, n < 128 → narrow .char (.int (nI n)) = .int (nI n) := by
  intro n hn
  have H : ∀ n, n < 128 → vp_nar .char (nI n) = nI n := by decide +kernel
  exact (pk_charN (by omega)).1
set_option maxRecDepth 100000 in
theorem kJ1 (l : Launch) (a v i : Nat) (hi : i < 120) : sMet l yJ1_charAt_3b067 cJ1_charAt_3b067 2 (some .char) { frames := 2, cells := 0, slots := 0, locals := 43 } [.ref v, .int (nI i)] a v (nI (fcN i)) := by
  have hb1 := fc_b i hi
  refine s_entry (by decide) (Nat.le_of_ble_eq_true rfl) ?_
  intro p e s m below meth c ls hx hb hml hr hlocks hown hts hT hl
  have hS : va_S nn9 s.heap s.heap [] := va_S.rf
  refine lv_iload_n hx hb dJ1_charAt_3b067_0 rfl (lv_at hl 1 rfl) ?_
  refine lv_aload_n hx hb dJ1_charAt_3b067_1 rfl (lv_at hl 0 rfl) ?_
  refine va_tlen (v := nI 120) hx hb hT.2.2.2.1 hS rfl dJ1_charAt_3b067_2 ?_
  refine s_callSv (n := 2) [.int (nI i), .int (nI 120)] (kJ0_check l a v i hi) ⟨hx, hb, hml, hown, hts⟩ ⟨tw_263, tw_66, tw_264, by decide +kernel⟩ tw_262 hT rfl ⟨rfl, rfl⟩ ⟨(Nat.le_of_ble_eq_true rfl), (Nat.le_of_ble_eq_true rfl)⟩ (Nat.le_of_ble_eq_true rfl) hl.1 hS dJ1_charAt_3b067_3 ⟨(Nat.le_of_ble_eq_true rfl), (Nat.le_of_ble_eq_true rfl)⟩ rfl (fun H1 locs1 hk hS => ?_)
  refine lv_aload_n hx hb dJ1_charAt_3b067_6 rfl (lv_at hl 0 rfl) ?_
  refine lv_iload_n hx hb dJ1_charAt_3b067_7 rfl (lv_at hl 1 rfl) ?_
  refine va_tb (v := .int (nI (fcN i))) hx hb hT.2.2.2.1 hS (vp_in_nI hi (by decide)) (by rw [nI_clamp (by omega)]; rfl) dJ1_charAt_3b067_8 ?_
  refine lv_sipush (v := 255) hx hb dJ1_charAt_3b067_9 (by decide) ?_
  refine lv_iand hx hb dJ1_charAt_3b067_12 ?_
  refine lv_i2c (v := nI (fcN i)) hx hb dJ1_charAt_3b067_13 (fc_c _ (by omega)) ?_
  exact W.zret (v := nI (fcN i)) (ty := .char) hx hb hr (nar_c _ (by omega)) (fun t ht hW => ⟨⟨nI (fcN i), (), rfl, rfl, trivial⟩, hS.F ht⟩) hS.2.2 dJ1_charAt_3b067_14
set_option maxRecDepth 100000 in
theorem kJ0_lat (l : Launch) (a v : Nat) : sMet l yJ0_isLatin1_aae02 cJ0_isLatin1_aae02 1 (some .boolean) { frames := 0, cells := 0, slots := 0, locals := 0 } [.ref a] a v 1 := by
  refine s_entry (by decide) (Nat.le_of_ble_eq_true rfl) ?_
  intro p e s m below meth c ls hx hb hml hr hlocks hown hts hT hl
  have hS : va_S nn9 s.heap s.heap [] := va_S.rf
  refine va_gets hx hb hT.2.2.2.2.1 hS hown (hts _ tw_249) (fun _ h9 => h9) dJ0_isLatin1_aae02_0 ?_
  refine lv_if_eq (tgt := 17) hx hb dJ0_isLatin1_aae02_3 (by decide) (fun c_1 => absurd c_1 (by decide)) (fun c_1 => ?_)
  refine lv_aload_n hx hb dJ0_isLatin1_aae02_6 rfl (lv_at hl 0 rfl) ?_
  refine vk_getf hx hb hT.2.1 hS hown (hts _ tw_1290) (fun _ h9 => h9) dJ0_isLatin1_aae02_7 ?_
  refine lv_if_ne (tgt := 17) hx hb dJ0_isLatin1_aae02_10 (by decide) (fun c_1 => absurd rfl c_1) (fun c_1 => ?_)
  refine lv_iconst (v := 1) hx hb dJ0_isLatin1_aae02_13 (by decide) ?_
  refine lv_goto (tgt := 18) hx hb dJ0_isLatin1_aae02_14 (by decide) ?_
  exact W.zret (v := 1) (ty := .boolean) hx hb hr (by decide) (fun t ht hW => ⟨⟨1, (), rfl, rfl, trivial⟩, hS.F ht⟩) hS.2.2 dJ0_isLatin1_aae02_18
set_option maxRecDepth 100000 in
theorem kJ0_cod (l : Launch) (a v : Nat) : sMet l yJ0_coder_7d493 cJ0_coder_7d493 1 (some .byte) { frames := 0, cells := 0, slots := 0, locals := 0 } [.ref a] a v 0 := by
  refine s_entry (by decide) (Nat.le_of_ble_eq_true rfl) ?_
  intro p e s m below meth c ls hx hb hml hr hlocks hown hts hT hl
  have hS : va_S nn9 s.heap s.heap [] := va_S.rf
  refine va_gets hx hb hT.2.2.2.2.1 hS hown (hts _ tw_249) (fun _ h9 => h9) dJ0_coder_7d493_0 ?_
  refine lv_if_eq (tgt := 13) hx hb dJ0_coder_7d493_3 (by decide) (fun c_1 => absurd c_1 (by decide)) (fun c_1 => ?_)
  refine lv_aload_n hx hb dJ0_coder_7d493_6 rfl (lv_at hl 0 rfl) ?_
  refine vk_getf hx hb hT.2.1 hS hown (hts _ tw_1290) (fun _ h9 => h9) dJ0_coder_7d493_7 ?_
  refine lv_goto (tgt := 14) hx hb dJ0_coder_7d493_10 (by decide) ?_
  exact W.zret (v := 0) (ty := .byte) hx hb hr (by decide) (fun t ht hW => ⟨⟨0, (), rfl, rfl, trivial⟩, hS.F ht⟩) hS.2.2 dJ0_coder_7d493_14
set_option maxRecDepth 100000 in
theorem kJ0_charAt (l : Launch) (a v i : Nat) (hi : i < 120) : sMet l yJ0_charAt_5068e cJ0_charAt_5068e 2 (some .char) { frames := 3, cells := 0, slots := 0, locals := 64 } [.ref a, .int (nI i)] a v (nI (fcN i)) := by
  have hb1 := fc_b i hi
  refine s_entry (by decide) (Nat.le_of_ble_eq_true rfl) ?_
  intro p e s m below meth c ls hx hb hml hr hlocks hown hts hT hl
  have hS : va_S nn9 s.heap s.heap [] := va_S.rf
  refine lv_aload_n hx hb dJ0_charAt_5068e_0 rfl (lv_at hl 0 rfl) ?_
  refine s_callV (n := 0) [] (kJ0_lat l a v) ⟨hx, hb, hml, hown, hts⟩ ⟨tw_256, tw_257, tw_66, tw_258, by decide +kernel⟩ tw_255 rfl hT rfl ⟨rfl, rfl⟩ ⟨(Nat.le_of_ble_eq_true rfl), (Nat.le_of_ble_eq_true rfl)⟩ (Nat.le_of_ble_eq_true rfl) hl.1 hS dJ0_charAt_5068e_1 ⟨(Nat.le_of_ble_eq_true rfl), (Nat.le_of_ble_eq_true rfl)⟩ rfl (fun H1 locs1 hk hS => ?_)
  refine lv_if_eq (tgt := 16) hx hb dJ0_charAt_5068e_4 (by decide) (fun c_1 => absurd c_1 (by decide)) (fun c_1 => ?_)
  refine lv_aload_n hx hb dJ0_charAt_5068e_7 rfl (lv_at hl 0 rfl) ?_
  refine vk_getf hx hb hT.2.2.1 hS hown (hts _ tw_1289) (fun _ h9 => h9) dJ0_charAt_5068e_8 ?_
  refine lv_iload_n hx hb dJ0_charAt_5068e_11 rfl (lv_at hl 1 rfl) ?_
  refine s_callS (n := 2) [.ref v, .int (nI i)] (kJ1 l a v i hi) ⟨hx, hb, hml, hown, hts⟩ ⟨tw_260, tw_67, tw_261, by decide +kernel⟩ tw_259 hT rfl ⟨rfl, rfl⟩ ⟨(Nat.le_of_ble_eq_true rfl), (Nat.le_of_ble_eq_true rfl)⟩ (Nat.le_of_ble_eq_true rfl) hl.1 hS dJ0_charAt_5068e_12 ⟨(Nat.le_of_ble_eq_true rfl), (Nat.le_of_ble_eq_true rfl)⟩ rfl (fun H1 locs1 hk hS => ?_)
  exact W.zret (v := nI (fcN i)) (ty := .char) hx hb hr (nar_c _ (by omega)) (fun t ht hW => ⟨⟨nI (fcN i), (), rfl, rfl, trivial⟩, hS.F ht⟩) hS.2.2 dJ0_charAt_5068e_15
set_option maxRecDepth 100000 in
theorem kJ0_length (l : Launch) (a v : Nat) : sMet l yJ0_length_8abf5 cJ0_length_8abf5 1 (some .int) { frames := 1, cells := 0, slots := 0, locals := 20 } [.ref a] a v (nI 120) := by
  refine s_entry (by decide) (Nat.le_of_ble_eq_true rfl) ?_
  intro p e s m below meth c ls hx hb hml hr hlocks hown hts hT hl
  have hS : va_S nn9 s.heap s.heap [] := va_S.rf
  refine lv_aload_n hx hb dJ0_length_8abf5_0 rfl (lv_at hl 0 rfl) ?_
  refine vk_getf hx hb hT.2.2.1 hS hown (hts _ tw_1289) (fun _ h9 => h9) dJ0_length_8abf5_1 ?_
  refine va_tlen (v := nI 120) hx hb hT.2.2.2.1 hS rfl dJ0_length_8abf5_4 ?_
  refine lv_aload_n hx hb dJ0_length_8abf5_5 rfl (lv_at hl 0 rfl) ?_
  refine s_callV (n := 0) [] (kJ0_cod l a v) ⟨hx, hb, hml, hown, hts⟩ ⟨tw_246, tw_247, tw_66, tw_248, by decide +kernel⟩ tw_245 rfl hT rfl ⟨rfl, rfl⟩ ⟨(Nat.le_of_ble_eq_true rfl), (Nat.le_of_ble_eq_true rfl)⟩ (Nat.le_of_ble_eq_true rfl) hl.1 hS dJ0_length_8abf5_6 ⟨(Nat.le_of_ble_eq_true rfl), (Nat.le_of_ble_eq_true rfl)⟩ rfl (fun H1 locs1 hk hS => ?_)
  refine lv_ishr hx hb dJ0_length_8abf5_9 ?_
  exact W.iret (v := nI 120) hx hb hr (fun t ht hW => ⟨⟨nI 120, (), rfl, rfl, trivial⟩, hS.F ht⟩) hS.2.2 dJ0_length_8abf5_10
