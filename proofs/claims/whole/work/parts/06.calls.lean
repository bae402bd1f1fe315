/-! calls, entries -/
/-- a method's contract over the memory: it does what the pure program o says -/
def jMet (l : Launch) (G : jS) (y : MethodName) (cc : ByteArray) (nL : Nat) (ret : Option FieldType) (rm : Room) (avs : List Value) (M : Mem) (o : Res) : Prop :=
  ∀ (r : Int32) (M' : Mem), o = some (r, M') → Met l y (Cond.code y cc nL ret :: tbg) rm (va_Pc avs (fun U => va_P (gD G) vwCl (wld G M) U.heap ∧ va_K (gD G) vwCl (tyL G) U)) (jQ G ret r M') 0 0 (jA G)
theorem j_entry {l : Launch} {G : jS} {y : MethodName} {cc : ByteArray} {nL : Nat} {ret : Option FieldType} {rm : Room} {avs : List Value} {M : Mem} {o : Res} (hinj : jInj G) (hy : plainName y.cls = true) (hlen : (lg_sl avs).length ≤ nL) {lv : List (Nat × Value)} (hlv : lv_args 0 avs = lv)
    (body : ∀ X : jC, X.2.1 = l → jOk X (cc, nL, y.cls, ret, rm) G → J X (cc, nL, y.cls, ret, rm) G 0 lv [] M o) : jMet l G y cc nL ret rm avs M o := by
  intro r M' ho
  subst hlv
  refine Met.ofW (cc := cc) (maxL := nL) (ret := ret) hy rfl ?_
  intro p e s m args below meth c s₁ B hml hv
  obtain ⟨rfl, hP, hK⟩ := hv
  have hts := atoms_spec (ws := Cond.code y cc nL ret :: tbg) B.pre
  have hown : s.vm.findClass y.cls = some m.cls := findClass_of_methodNamed B.named
  have hOk : jOk (p, l, e, rm, s, m, avs.toArray, below, meth, c) (cc, nL, y.cls, ret, rm) G :=
    ⟨B.exec, B.bytes, hml, hown, fun w hw => hts w (List.mem_cons_of_mem _ hw), B.notSynchronized, B.returns, hK, hinj, rfl⟩
  rw [lg_entry_eq]
  exact body _ rfl hOk s.heap [] _ (lv_entry avs hlen) hP va_S.rf r M' ho
/-- what the tables say of a method that is called on an object -/
def jYv (y : MethodName) (cc : ByteArray) (nL : Nat) (ret : Option FieldType) (n : Nat) : Prop :=
  Cond.instanceMethod y ∈ tbg ∧ Cond.selects y.cls y y ∈ tbg ∧ Cond.initialized y.cls ∈ tbg ∧ Cond.code y cc nL ret ∈ tbg ∧ (y.cls ≠ "java/lang/invoke/MethodHandle" ∧ y.cls ≠ "java/lang/invoke/VarHandle" ∧ (parseMethodDescriptor y.desc).map (fun d => d.parameters.length) = some n)
def jYs (y : MethodName) (cc : ByteArray) (nL : Nat) (ret : Option FieldType) (n : Nat) : Prop :=
  Cond.static y ∈ tbg ∧ Cond.initialized y.cls ∈ tbg ∧ Cond.code y cc nL ret ∈ tbg ∧ (y.cls ≠ "java/lang/invoke/MethodHandle" ∧ y.cls ≠ "java/lang/invoke/VarHandle" ∧ (parseMethodDescriptor y.desc).map (fun d => d.parameters.length) = some n)
theorem gi_v {own : String} {idx nL n : Nat} {y : MethodName} {cc : ByteArray} {ret : Option FieldType} (hY : jYv y cc nL ret n) (hl : Cond.methodLink own idx y ∈ tbg) : GoodIn tbg (wsV own idx y.cls y (Cond.code y cc nL ret :: tbg)) := by
  intro w hw
  have hm : w ∈ tbg := by
    simp only [wsV, List.cons_append, List.nil_append, List.mem_cons] at hw
    rcases hw with rfl | rfl | rfl | rfl | rfl | h
    · exact hl
    · exact hY.1
    · exact hY.2.1
    · exact hY.2.2.1
    · exact hY.2.2.2.1
    · exact h
  exact ⟨hm, tbg_good hm⟩
theorem gi_s {own : String} {idx nL n : Nat} {y : MethodName} {cc : ByteArray} {ret : Option FieldType} (hY : jYs y cc nL ret n) (hl : Cond.methodLink own idx y ∈ tbg) : GoodIn tbg (va_wsS own idx y (Cond.code y cc nL ret :: tbg)) := by
  intro w hw
  have hm : w ∈ tbg := by
    simp only [va_wsS, List.cons_append, List.nil_append, List.mem_cons] at hw
    rcases hw with rfl | rfl | rfl | rfl | h
    · exact hl
    · exact hY.1
    · exact hY.2.1
    · exact hY.2.2.1
    · exact h
  exact ⟨hm, tbg_good hm⟩
theorem pc_blind (G : jS) (avs : List Value) (M : Mem) : FrameBlind (va_Pc avs (fun U => va_P (gD G) vwCl (wld G M) U.heap ∧ va_K (gD G) vwCl (tyL G) U)) := by
  intro a U g mk q
  obtain ⟨q0, qP, qK⟩ := q
  exact ⟨q0, qP, va_K.moved (u := U) (U := U.calling g mk a) (Vm.Alike.refl U.vm) qK⟩
section JK
variable {X : jC} {μ : jM} {G : jS} {pc : Nat} {lv : List (Nat × Value)} {st : List Value} {M : Mem}
theorem j_behind {μ : jM} {ret' : Option FieldType} {f : Res} {K : Int32 → Mem → Res} {stk : List Value} {a : Array Value}
    (hrun : ∀ (r : Int32) (M1 : Mem), f = some (r, M1) → ∀ (H : Heap) (locs : List Loc) (ls : Array Slot), lv_has ls μ.2.1 lv → va_P (gD G) vwCl (wld G M) H → va_Run X.1 X.2.1 X.2.2.1 X.2.2.2.1 X.2.2.2.2.1 X.2.2.2.2.2.1 X.2.2.2.2.2.2.1 X.2.2.2.2.2.2.2.1 X.2.2.2.2.2.2.2.2.1 X.2.2.2.2.2.2.2.2.2 H locs 0 0 0 0 (F0 (jid X) pc ls stk) st (jQ G ret' r M1 a) (jA G))
    (kk : ∀ (r : Int32) (M1 : Mem), f = some (r, M1) → J X μ G (pc + 3) lv ((rvO ret' G r).toList ++ st) M1 (K r M1)) : J X μ G pc lv stk M (bI f K) := by
  intro H locs ls hl hP hS r' M'' ho
  cases hf : f with
  | none => rw [hf] at ho; cases ho
  | some q =>
    obtain ⟨r, M1⟩ := q
    rw [hf] at ho
    intro T hT X0
    obtain ⟨v, st₀, t, T', L, h0, X', hL, e1, e2, ⟨⟨hv, hPt⟩, hF⟩, go⟩ := hrun r M1 hf H locs ls hl hP T hT X0
    cases hv
    rw [va_F, h0] at hF
    obtain ⟨t2, a1, b1⟩ := kk r M1 hf T'.heap (locs ++ L) ls hl (by rw [e1]; exact hPt)
      ⟨Nat.le_trans hS.1 (by rw [e1]; exact hF.1), fun q h1 h2 => by rw [e1, hF.2 q (Nat.lt_of_lt_of_le h1 hS.1) h2]; exact hS.2.1 q h1 h2, fun q hq => by
        rcases List.mem_append.mp hq with h | h
        · exact hS.2.2 q h
        · exact hL q h⟩ r' M'' ho T' rfl X'
    exact ⟨t2, go t2 a1, b1⟩
theorem j_callV0 (hX : jOk X μ G) {y : MethodName} {cc' : ByteArray} {nL' n idx k ci N : Nat} {ret' : Option FieldType} {rm' : Room} {T : u_T} {As : List Value} {f : Res} {K : Int32 → Mem → Res} (hM : jMet X.2.1 G y cc' nL' ret' rm' (.ref (gad G k) :: As) M f) (hY : jYv y cc' nL' ret' n) (hl : Cond.methodLink μ.2.2.1 idx y ∈ tbg) (hk : k < gN G) (hty : gty G k = ci) (hc : vwCl[ci]? = some (y.cls, T, N)) (hc20 : ci < 20) (hn : As.length = n) (hz : rm'.cells = 0 ∧ rm'.slots = 0) (hR : rm'.frames + 1 ≤ μ.2.2.2.2.frames ∧ 8 + (nL' + 11) + rm'.locals ≤ μ.2.2.2.2.locals) (hst : (st.map fun v => v.category).sum ≤ 8) (hd : decode μ.1 pc = .ok (.invokevirtual idx, 3))
    (kk : ∀ (r : Int32) (M1 : Mem), f = some (r, M1) → J X μ G (pc + 3) lv ((rvO ret' G r).toList ++ st) M1 (K r M1)) : J X μ G pc lv (As.reverse ++ .ref (gad G k) :: st) M (bI f K) := by
  refine j_behind (ret' := ret') (a := (Value.ref (gad G k) :: As).toArray) (fun r M1 hf H locs ls hl' hP => ?_) kk
  have hR' : rm'.frames + 1 ≤ X.2.2.2.1.frames ∧ 8 + (nL' + 11) + rm'.locals ≤ X.2.2.2.1.locals := by rw [show X.2.2.2.1 = μ.2.2.2.2 from hX.2.2.2.2.2.2.2.2.2]; exact hR
  exact va_runV ⟨hX.1, hX.2.1, hX.2.2.1, hX.2.2.2.1, hX.2.2.2.2.1⟩ (hM r M1 hf) (cwV n hX.2.2.2.2.1 (gi_v hY hl) rfl hz.1 hz.2 ⟨rfl, hY.2.2.2.2⟩ hR') ⟨pc_blind G _ M, va_recv hX.2.2.2.2.2.2.2.1 hP hc (by rw [wld_get hk, cell_obj hty hc20]), fun U hU hW => ⟨rfl, by rw [hU]; exact hP, va_K.moved hW.alike hX.2.2.2.2.2.2.2.1⟩⟩ rfl hn hl'.1 rfl (lv_room hst) hd ⟨Nat.zero_le _, Nat.zero_le _⟩
theorem j_callS0 (hX : jOk X μ G) {y : MethodName} {cc' : ByteArray} {nL' n idx : Nat} {ret' : Option FieldType} {rm' : Room} {As : List Value} {f : Res} {K : Int32 → Mem → Res} (hM : jMet X.2.1 G y cc' nL' ret' rm' As M f) (hY : jYs y cc' nL' ret' n) (hl : Cond.methodLink μ.2.2.1 idx y ∈ tbg) (hn : As.length = n) (hz : rm'.cells = 0 ∧ rm'.slots = 0) (hR : rm'.frames + 1 ≤ μ.2.2.2.2.frames ∧ 8 + (nL' + 11) + rm'.locals ≤ μ.2.2.2.2.locals) (hst : (st.map fun v => v.category).sum ≤ 8) (hd : decode μ.1 pc = .ok (.invokestatic idx, 3))
    (kk : ∀ (r : Int32) (M1 : Mem), f = some (r, M1) → J X μ G (pc + 3) lv ((rvO ret' G r).toList ++ st) M1 (K r M1)) : J X μ G pc lv (As.reverse ++ st) M (bI f K) := by
  refine j_behind (ret' := ret') (a := As.toArray) (fun r M1 hf H locs ls hl' hP => ?_) kk
  have hR' : rm'.frames + 1 ≤ X.2.2.2.1.frames ∧ 8 + (nL' + 11) + rm'.locals ≤ X.2.2.2.1.locals := by rw [show X.2.2.2.1 = μ.2.2.2.2 from hX.2.2.2.2.2.2.2.2.2]; exact hR
  exact va_runS ⟨hX.1, hX.2.1, hX.2.2.1, hX.2.2.2.1, hX.2.2.2.2.1⟩ (hM r M1 hf) (va_cwS n hX.2.2.2.2.1 (gi_s hY hl) rfl hz.1 hz.2 hY.2.2.2 hR') ⟨pc_blind G _ M, fun U hU hW => ⟨rfl, by rw [hU]; exact hP, va_K.moved hW.alike hX.2.2.2.2.2.2.2.1⟩⟩ rfl hn hl'.1 rfl (lv_room hst) hd ⟨Nat.zero_le _, Nat.zero_le _⟩
theorem j_callV (hX : jOk X μ G) {y : MethodName} {cc' : ByteArray} {nL' n idx k ci N : Nat} {ret' : Option FieldType} {rm' : Room} {T : u_T} (As : List Value) {stk : List Value} {f : Res} {K : Int32 → Mem → Res} (hM : jMet X.2.1 G y cc' nL' ret' rm' (.ref (gad G k) :: As) M f) (hY : jYv y cc' nL' ret' n) (hl : Cond.methodLink μ.2.2.1 idx y ∈ tbg) (hk : k < gN G) (hty : gty G k = ci) (hc : vwCl[ci]? = some (y.cls, T, N)) (hc20 : ci < 20) (hn : As.length = n) (hz : rm'.cells = 0 ∧ rm'.slots = 0) (hR : rm'.frames + 1 ≤ μ.2.2.2.2.frames ∧ 8 + (nL' + 11) + rm'.locals ≤ μ.2.2.2.2.locals) (hst : (st.map fun v => v.category).sum ≤ 8) (hd : decode μ.1 pc = .ok (.invokevirtual idx, 3)) (hrv : ∀ r, rvO ret' G r = some (.int r)) (hstk : As.reverse ++ .ref (gad G k) :: st = stk)
    (kk : ∀ (r : Int32) (M1 : Mem), J X μ G (pc + 3) lv (.int r :: st) M1 (K r M1)) : J X μ G pc lv stk M (bI f K) := by
  subst hstk
  exact j_callV0 hX hM hY hl hk hty hc hc20 hn hz hR hst hd (fun r M1 _ => by rw [hrv r]; exact kk r M1)
theorem bV_eq (f : Res) (K : Mem → Res) : bV f K = bI f (fun _ M1 => K M1) := by cases f <;> rfl
theorem j_callVv (hX : jOk X μ G) {y : MethodName} {cc' : ByteArray} {nL' n idx k ci N : Nat} {rm' : Room} {T : u_T} (As : List Value) {stk : List Value} {f : Res} {K : Mem → Res} (hM : jMet X.2.1 G y cc' nL' none rm' (.ref (gad G k) :: As) M f) (hY : jYv y cc' nL' none n) (hl : Cond.methodLink μ.2.2.1 idx y ∈ tbg) (hk : k < gN G) (hty : gty G k = ci) (hc : vwCl[ci]? = some (y.cls, T, N)) (hc20 : ci < 20) (hn : As.length = n) (hz : rm'.cells = 0 ∧ rm'.slots = 0) (hR : rm'.frames + 1 ≤ μ.2.2.2.2.frames ∧ 8 + (nL' + 11) + rm'.locals ≤ μ.2.2.2.2.locals) (hst : (st.map fun v => v.category).sum ≤ 8) (hd : decode μ.1 pc = .ok (.invokevirtual idx, 3)) (hstk : As.reverse ++ .ref (gad G k) :: st = stk)
    (kk : ∀ (M1 : Mem), J X μ G (pc + 3) lv st M1 (K M1)) : J X μ G pc lv stk M (bV f K) := by
  subst hstk
  rw [bV_eq]
  exact j_callV0 hX hM hY hl hk hty hc hc20 hn hz hR hst hd (fun r M1 _ => kk M1)
theorem j_callS (hX : jOk X μ G) {y : MethodName} {cc' : ByteArray} {nL' n idx : Nat} {ret' : Option FieldType} {rm' : Room} (As : List Value) {stk : List Value} {f : Res} {K : Int32 → Mem → Res} (hM : jMet X.2.1 G y cc' nL' ret' rm' As M f) (hY : jYs y cc' nL' ret' n) (hl : Cond.methodLink μ.2.2.1 idx y ∈ tbg) (hn : As.length = n) (hz : rm'.cells = 0 ∧ rm'.slots = 0) (hR : rm'.frames + 1 ≤ μ.2.2.2.2.frames ∧ 8 + (nL' + 11) + rm'.locals ≤ μ.2.2.2.2.locals) (hst : (st.map fun v => v.category).sum ≤ 8) (hd : decode μ.1 pc = .ok (.invokestatic idx, 3)) (hrv : ∀ r, rvO ret' G r = some (.int r)) (hstk : As.reverse ++ st = stk)
    (kk : ∀ (r : Int32) (M1 : Mem), J X μ G (pc + 3) lv (.int r :: st) M1 (K r M1)) : J X μ G pc lv stk M (bI f K) := by
  subst hstk
  exact j_callS0 hX hM hY hl hn hz hR hst hd (fun r M1 _ => by rw [hrv r]; exact kk r M1)
theorem j_callSv (hX : jOk X μ G) {y : MethodName} {cc' : ByteArray} {nL' n idx : Nat} {rm' : Room} (As : List Value) {stk : List Value} {f : Res} {K : Mem → Res} (hM : jMet X.2.1 G y cc' nL' none rm' As M f) (hY : jYs y cc' nL' none n) (hl : Cond.methodLink μ.2.2.1 idx y ∈ tbg) (hn : As.length = n) (hz : rm'.cells = 0 ∧ rm'.slots = 0) (hR : rm'.frames + 1 ≤ μ.2.2.2.2.frames ∧ 8 + (nL' + 11) + rm'.locals ≤ μ.2.2.2.2.locals) (hst : (st.map fun v => v.category).sum ≤ 8) (hd : decode μ.1 pc = .ok (.invokestatic idx, 3)) (hstk : As.reverse ++ st = stk)
    (kk : ∀ (M1 : Mem), J X μ G (pc + 3) lv st M1 (K M1)) : J X μ G pc lv stk M (bV f K) := by
  subst hstk
  rw [bV_eq]
  exact j_callS0 hX hM hY hl hn hz hR hst hd (fun r M1 _ => kk M1)
/-- an answer that is a cell: the k-th -/
def bR (f : Res) (k : Nat) (K : Mem → Res) : Res := match f with
  | none => none
  | some q => if q.1 = nI k then K q.2 else none
theorem bR_eq (f : Res) (k : Nat) (K : Mem → Res) : bR f k K = bI f (fun r M1 => if r = nI k then K M1 else none) := by cases f <;> rfl
theorem j_callVr (hX : jOk X μ G) {y : MethodName} {cc' : ByteArray} {nL' n idx k ci N k' : Nat} {C' : String} {rm' : Room} {T : u_T} (As : List Value) {stk : List Value} {f : Res} {K : Mem → Res} (hM : jMet X.2.1 G y cc' nL' (some (.object C')) rm' (.ref (gad G k) :: As) M f) (hY : jYv y cc' nL' (some (.object C')) n) (hl : Cond.methodLink μ.2.2.1 idx y ∈ tbg) (hk : k < gN G) (hty : gty G k = ci) (hc : vwCl[ci]? = some (y.cls, T, N)) (hc20 : ci < 20) (hn : As.length = n) (hz : rm'.cells = 0 ∧ rm'.slots = 0) (hR : rm'.frames + 1 ≤ μ.2.2.2.2.frames ∧ 8 + (nL' + 11) + rm'.locals ≤ μ.2.2.2.2.locals) (hst : (st.map fun v => v.category).sum ≤ 8) (hd : decode μ.1 pc = .ok (.invokevirtual idx, 3)) (hsm : k' < 2 ^ 31) (hstk : As.reverse ++ .ref (gad G k) :: st = stk)
    (kk : ∀ (M1 : Mem), J X μ G (pc + 3) lv (.ref (gad G k') :: st) M1 (K M1)) : J X μ G pc lv stk M (bR f k' K) := by
  subst hstk
  rw [bR_eq]
  refine j_callV0 hX hM hY hl hk hty hc hc20 hn hz hR hst hd (fun r M1 _ => ?_)
  by_cases h : r = nI k'
  · rw [if_pos h]
    subst h
    have e : rvO (some (.object C')) G (nI k') = some (.ref (gad G k')) := by simp [rvO, nI_clamp hsm]
    rw [e]
    exact kk M1
  · rw [if_neg h]
    exact j_none
def ius (x y : Int32) : Int32 := (x.toUInt32 >>> (y.toUInt32 &&& Int32.toUInt32 31)).toInt32
theorem j_iushr (hX : jOk X μ G) {x y : Int32} {o : Res} (hd : decode μ.1 pc = .ok (.iushr, 1)) (kk : J X μ G (pc + 1) lv (.int (ius x y) :: st) M o) : J X μ G pc lv (.int y :: .int x :: st) M o :=
  fun H locs ls hl hP hS r M' ho => lv_iushr hX.1 hX.2.1 hd rfl (kk H locs ls hl hP hS r M' ho)
theorem j_ldcw (hX : jOk X μ G) {idx : Nat} {v : Int32} {o : Res} (hw : Cond.constant μ.2.2.1 idx v ∈ tbg) (hd : decode μ.1 pc = .ok (.ldc_w idx, 3)) (kk : J X μ G (pc + 3) lv (.int v :: st) M o) : J X μ G pc lv st M o :=
  fun H locs ls hl hP hS r M' ho => lv_ldcw hX.1 hX.2.1 hX.2.2.2.1 (hX.2.2.2.2.1 _ hw) hd (kk H locs ls hl hP hS r M' ho)
/-- switches: x by a list of numbers -/
theorem j_tableOut (hX : jOk X μ G) {dflt lo hi : Int} {offs : Array Int} {len : Nat} {x : Int32} {o : Res} (tgt : Nat) (hd : decode μ.1 pc = .ok (.tableswitch dflt lo hi offs, len)) (h : x.toInt < lo ∨ hi < x.toInt) (ht : (pc : Int) + dflt = (tgt : Int)) (kk : J X μ G tgt lv st M o) : J X μ G pc lv (.int x :: st) M o :=
  fun H locs ls hl hP hS r M' ho => lv_tableOut hX.1 hX.2.1 hd h ht (kk H locs ls hl hP hS r M' ho)
theorem j_tableIn (hX : jOk X μ G) {dflt lo hi : Int} {offs : Array Int} {len : Nat} {x : Int32} {off : Int} {o : Res} (tgt : Nat) (hd : decode μ.1 pc = .ok (.tableswitch dflt lo hi offs, len)) (h1 : ¬ x.toInt < lo) (h2 : ¬ hi < x.toInt) (ho : offs[(x.toInt - lo).toNat]? = some off) (ht : (pc : Int) + off = (tgt : Int)) (kk : J X μ G tgt lv st M o) : J X μ G pc lv (.int x :: st) M o :=
  fun H locs ls hl hP hS r M' ho' => lv_tableIn hX.1 hX.2.1 hd h1 h2 ho ht (kk H locs ls hl hP hS r M' ho')
theorem j_lookup (hX : jOk X μ G) {dflt : Int} {ps : Array (Int × Int)} {len : Nat} {x : Int32} {off : Int} {o : Res} (tgt : Nat) (hd : decode μ.1 pc = .ok (.lookupswitch dflt ps, len)) (hp : (ps.toList.zip (ps.toList.drop 1)).all (fun (a, next) => a.1 < next.1) = true) (ho : Op.lookupswitch.offset ps.toList dflt x.toInt = off) (ht : (pc : Int) + off = (tgt : Int)) (kk : J X μ G tgt lv st M o) : J X μ G pc lv (.int x :: st) M o :=
  fun H locs ls hl hP hS r M' ho' => lv_lookup hX.1 hX.2.1 hd hp ho ht (kk H locs ls hl hP hS r M' ho')
theorem j_if {c : Prop} [Decidable c] {stk : List Value} {o1 o2 : Res} (h1 : c → J X μ G pc lv stk M o1) (h2 : ¬ c → J X μ G pc lv stk M o2) : J X μ G pc lv stk M (if c then o1 else o2) := by
  by_cases h : c
  · rw [if_pos h]; exact h1 h
  · rw [if_neg h]; exact h2 h
end JK
