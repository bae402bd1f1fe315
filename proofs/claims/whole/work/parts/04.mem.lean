/-! MEMORY: a system of cells with a fixed shape; its state is one number for each cell and place -/
abbrev Mem : Type := Nat → Nat → Int32
abbrev Res : Type := Option (Int32 × Mem)
/-- the machine's part of a walk -/
abbrev jC : Type := Program × Launch × Env × Room × State × MethodId × Array Value × List Frame × Method × Code
/-- the method's part: bytes, locals, class, what it returns, its room -/
abbrev jM : Type := ByteArray × Nat × String × Option FieldType × Room
/-- the system: classes, address of a cell, classes of arrays, how many cells, kind of each, lengths, fields that refer, rows that refer -/
abbrev jS : Type := va_G × (Nat → Nat) × (Nat → ClassId) × Nat × (Nat → Nat) × (Nat → Nat) × (Nat → Nat → Option Nat) × (Nat → Nat → Nat)
abbrev gD (G : jS) : va_G := G.1
abbrev gad (G : jS) : Nat → Nat := G.2.1
abbrev gcA (G : jS) : Nat → ClassId := G.2.2.1
abbrev gN (G : jS) : Nat := G.2.2.2.1
abbrev gty (G : jS) : Nat → Nat := G.2.2.2.2.1
abbrev gln (G : jS) : Nat → Nat := G.2.2.2.2.2.1
abbrev grf (G : jS) : Nat → Nat → Option Nat := G.2.2.2.2.2.2.1
abbrev grt (G : jS) : Nat → Nat → Nat := G.2.2.2.2.2.2.2
def ncl (c : Nat) : Nat := match vwCl[c]? with
  | some q => q.2.2
  | none => 0
def fdV (G : jS) (M : Mem) (k j : Nat) : Value := match grf G k j with
  | some t => .ref (gad G t)
  | none => .int (M k j)
def cellOf (G : jS) (M : Mem) (k : Nat) : va_E :=
  if gty G k < 20 then .inr (gty G k, (List.range (ncl (gty G k))).map (fdV G M k))
  else .inl (gcA G (gty G k), gln G k, if gty G k = 23 then .inr (.inr (.inr (.inr (fun i => some (gad G (grt G k i)))))) else .inl (M k))
def wld (G : jS) (M : Mem) : va_W := (List.range (gN G)).map (fun k => (gad G k, cellOf G M k))
def tyL (G : jS) : List (ClassId × FieldType) := [(gcA G 20, .int), (gcA G 21, .byte), (gcA G 22, .char), (gcA G 23, .object "DonkeyVerdicts$Herd")]
def jA (G : jS) : Nat → Prop := fun q => ∃ k, k < gN G ∧ q = gad G k
def jInj (G : jS) : Prop := ∀ i j, i < gN G → j < gN G → gad G i = gad G j → i = j
def up2 (M : Mem) (k j : Nat) (v : Int32) : Mem := fun a => if a = k then (fun b => if b = j then v else M a b) else M a
def upR (M : Mem) (k : Nat) (f : Nat → Int32) : Mem := fun a => if a = k then f else M a
theorem up2_eq (M : Mem) (k j : Nat) (v : Int32) : up2 M k j v = upR M k (upd (M k) j v) := by
  funext a b
  by_cases h : a = k
  · subst h; simp [up2, upR, upd]
  · simp [up2, upR, h]
theorem wld_get {G : jS} {M : Mem} {k : Nat} (h : k < gN G) : (wld G M)[k]? = some (gad G k, cellOf G M k) := by
  simp [wld, h]
theorem cell_same {G : jS} {M M' : Mem} {k : Nat} (h : M' k = M k) : cellOf G M' k = cellOf G M k := by
  have e : fdV G M' k = fdV G M k := by funext j; simp [fdV, h]
  simp [cellOf, h, e]
theorem wld_set {G : jS} {M M' : Mem} {k : Nat} (h : k < gN G) (hM : ∀ a, a ≠ k → M' a = M a) {x : va_E} (hx : x = cellOf G M' k) : (wld G M).set k (gad G k, x) = wld G M' := by
  subst hx
  apply List.ext_getElem?
  intro i
  by_cases hi : i < gN G
  · by_cases e : i = k
    · subst e
      rw [List.getElem?_set_self (by simp [wld]; exact h), wld_get h]
    · rw [List.getElem?_set_ne (Ne.symm e), wld_get hi, wld_get hi, cell_same (hM i e)]
  · rw [List.getElem?_eq_none (by simp [wld]; omega), List.getElem?_eq_none (by simp [wld]; omega)]
theorem wld_D {G : jS} (hi : jInj G) (M : Mem) : va_D (jA G) (wld G M) := by
  have key : ∀ (k : Nat) (q : Nat × va_E), (wld G M)[k]? = some q → k < gN G ∧ q.1 = gad G k := by
    intro k q hq
    have hl : k < gN G := by
      have := (List.getElem?_eq_some_iff.mp hq).1
      simpa [wld] using this
    rw [wld_get hl] at hq
    exact ⟨hl, by cases hq; rfl⟩
  refine ⟨fun i j p q h1 h2 h3 => ?_, fun k q h => ?_⟩
  · obtain ⟨a1, a2⟩ := key i p h1
    obtain ⟨b1, b2⟩ := key j q h2
    exact hi i j a1 b1 (by rw [← a2, ← b2]; exact h3)
  · obtain ⟨a1, a2⟩ := key k q h
    exact ⟨k, a1, a2⟩
theorem cell_obj {G : jS} {M : Mem} {k c : Nat} (h : gty G k = c) (hc : c < 20) : cellOf G M k = .inr (c, (List.range (ncl c)).map (fdV G M k)) := by
  subst h; simp [cellOf, hc]
theorem cell_arr {G : jS} {M : Mem} {k t n : Nat} (h : gty G k = t) (hn : gln G k = n) (ht : t = 20 ∨ t = 21 ∨ t = 22) : cellOf G M k = .inl (gcA G t, n, .inl (M k)) := by
  subst h; subst hn
  have h1 : ¬ gty G k < 20 := by omega
  have h2 : ¬ gty G k = 23 := by omega
  simp [cellOf, h1, h2]
theorem cell_ref {G : jS} {M : Mem} {k n : Nat} (h : gty G k = 23) (hn : gln G k = n) : cellOf G M k = .inl (gcA G 23, n, .inr (.inr (.inr (.inr (fun i => some (gad G (grt G k i))))))) := by
  subst hn
  simp [cellOf, h]
/-- what a method's end says -/
def rvO (ret : Option FieldType) (G : jS) (r : Int32) : Option Value := match ret with
  | none => none
  | some (.object _) => some (.ref (gad G r.toNatClampNeg))
  | some _ => some (.int r)
def jQ (G : jS) (ret : Option FieldType) (r : Int32) (M' : Mem) : Array Value → State → Outcome → State → Prop := fun _ st oc t =>
  (oc = .returned (rvO ret G r) ∧ va_P (gD G) vwCl (wld G M') t.heap) ∧ va_F (jA G) st t
abbrev jW (X : jC) (G : jS) (ret : Option FieldType) (H : Heap) (locs : List Loc) (r : Int32) (M' : Mem) (g : JFrame) : Prop :=
  W X.1 X.2.1 X.2.2.1 X.2.2.2.1 X.2.2.2.2.1 X.2.2.2.2.2.1 X.2.2.2.2.2.2.1 X.2.2.2.2.2.2.2.1 X.2.2.2.2.2.2.2.2.1 X.2.2.2.2.2.2.2.2.2 H locs 0 0 (MQ X.2.2.2.2.2.2.2.1 (jQ G ret r M') X.2.2.2.2.2.2.1 X.2.2.2.2.1 0 0 (jA G)) g
abbrev jst (X : jC) : State := X.2.2.2.2.1
abbrev jarg (X : jC) : Array Value := X.2.2.2.2.2.2.1
abbrev jroom (X : jC) : Room := X.2.2.2.1
abbrev jid (X : jC) : MethodId := X.2.2.2.2.2.1
/-- at pc, with these locals, this stack, this memory: if the pure program o answers, so does the machine -/
def J (X : jC) (μ : jM) (G : jS) (pc : Nat) (lv : List (Nat × Value)) (st : List Value) (M : Mem) (o : Res) : Prop :=
  ∀ (H : Heap) (locs : List Loc) (ls : Array Slot), lv_has ls μ.2.1 lv → va_P (gD G) vwCl (wld G M) H → va_S (jA G) (jst X).heap H locs → ∀ (r : Int32) (M' : Mem), o = some (r, M') → jW X G μ.2.2.2.1 H locs r M' (F0 (jid X) pc ls st)
def jOk (X : jC) (μ : jM) (G : jS) : Prop :=
  X.1.tables.exec = Jvm.exec ∧ X.2.2.2.2.2.2.2.2.2.code = μ.1 ∧ X.2.2.2.2.2.2.2.2.2.maxLocals = μ.2.1 ∧ (jst X).vm.findClass μ.2.2.1 = some (jid X).cls ∧ (∀ w ∈ tbg, w.before (jarg X) (jst X) = true) ∧ X.2.2.2.2.2.2.2.2.1.locks = false ∧ X.2.2.2.2.2.2.2.2.1.sig.returnType = μ.2.2.2.1 ∧ va_K (gD G) vwCl (tyL G) (jst X) ∧ jInj G ∧ jroom X = μ.2.2.2.2
section JR
variable {X : jC} {μ : jM} {G : jS} {pc : Nat} {lv : List (Nat × Value)} {st : List Value} {M : Mem} {o : Res}
theorem j_none : J X μ G pc lv st M none := fun _ _ _ _ _ _ _ _ h => by cases h
theorem j_sub (is : List Nat) {lv' : List (Nat × Value)} (hs : lv_pick lv is = lv') (kk : J X μ G pc lv' st M o) : J X μ G pc lv st M o :=
  fun H locs ls hl hP hS r M' ho => kk H locs ls (lv_sub hl is hs) hP hS r M' ho
theorem j_iconst (hX : jOk X μ G) {n : Int} {v : Int32} (hd : decode μ.1 pc = .ok (.iconst n, 1)) (hv : Int32.ofInt n = v) (kk : J X μ G (pc + 1) lv (.int v :: st) M o) : J X μ G pc lv st M o :=
  fun H locs ls hl hP hS r M' ho => lv_iconst hX.1 hX.2.1 hd hv (kk H locs ls hl hP hS r M' ho)
theorem j_bipush (hX : jOk X μ G) {n : Int} {v : Int32} (hd : decode μ.1 pc = .ok (.bipush n, 2)) (hv : (Int8.ofInt n).toInt32 = v) (kk : J X μ G (pc + 2) lv (.int v :: st) M o) : J X μ G pc lv st M o :=
  fun H locs ls hl hP hS r M' ho => lv_bipush hX.1 hX.2.1 hd hv (kk H locs ls hl hP hS r M' ho)
theorem j_sipush (hX : jOk X μ G) {n : Int} {v : Int32} (hd : decode μ.1 pc = .ok (.sipush n, 3)) (hv : (Int16.ofInt n).toInt32 = v) (kk : J X μ G (pc + 3) lv (.int v :: st) M o) : J X μ G pc lv st M o :=
  fun H locs ls hl hP hS r M' ho => lv_sipush hX.1 hX.2.1 hd hv (kk H locs ls hl hP hS r M' ho)
theorem j_lconst (hX : jOk X μ G) {n : Fin 2} {v : Int64} (hd : decode μ.1 pc = .ok (.lconst n, 1)) (hv : Int64.ofInt (n : Nat) = v) (kk : J X μ G (pc + 1) lv (.long v :: st) M o) : J X μ G pc lv st M o :=
  fun H locs ls hl hP hS r M' ho => lv_lconst hX.1 hX.2.1 hd hv (kk H locs ls hl hP hS r M' ho)
theorem j_ldc2 (hX : jOk X μ G) {idx : Nat} {v : Int64} (hw : Cond.constantLong μ.2.2.1 idx v ∈ tbg) (hd : decode μ.1 pc = .ok (.ldc2_w idx, 3)) (kk : J X μ G (pc + 3) lv (.long v :: st) M o) : J X μ G pc lv st M o :=
  fun H locs ls hl hP hS r M' ho => lv_ldc2 hX.1 hX.2.1 hX.2.2.2.1 (hX.2.2.2.2.1 _ hw) hd (kk H locs ls hl hP hS r M' ho)
theorem j_ldc (hX : jOk X μ G) {idx : Nat} {v : Int32} (hw : Cond.constant μ.2.2.1 idx v ∈ tbg) (hd : decode μ.1 pc = .ok (.ldc idx, 2)) (kk : J X μ G (pc + 2) lv (.int v :: st) M o) : J X μ G pc lv st M o :=
  fun H locs ls hl hP hS r M' ho => lv_ldc hX.1 hX.2.1 hX.2.2.2.1 (hX.2.2.2.2.1 _ hw) hd (kk H locs ls hl hP hS r M' ho)
theorem j_iload_n (hX : jOk X μ G) {k : Fin 4} (q : Nat) {i : Nat} {x : Int32} (hd : decode μ.1 pc = .ok (.iload_n k, 1)) (hi : (k : Nat) = i) (hq : lv[q]? = some (i, .int x)) (kk : J X μ G (pc + 1) lv (.int x :: st) M o) : J X μ G pc lv st M o :=
  fun H locs ls hl hP hS r M' ho => lv_iload_n hX.1 hX.2.1 hd hi (lv_at hl q hq) (kk H locs ls hl hP hS r M' ho)
theorem j_iload (hX : jOk X μ G) (q : Nat) {i : Nat} {x : Int32} (hd : decode μ.1 pc = .ok (.iload i, 2)) (hq : lv[q]? = some (i, .int x)) (kk : J X μ G (pc + 2) lv (.int x :: st) M o) : J X μ G pc lv st M o :=
  fun H locs ls hl hP hS r M' ho => lv_iload hX.1 hX.2.1 hd (lv_at hl q hq) (kk H locs ls hl hP hS r M' ho)
theorem j_lload_n (hX : jOk X μ G) {k : Fin 4} (q : Nat) {i : Nat} {x : Int64} (hd : decode μ.1 pc = .ok (.lload_n k, 1)) (hi : (k : Nat) = i) (hq : lv[q]? = some (i, .long x)) (kk : J X μ G (pc + 1) lv (.long x :: st) M o) : J X μ G pc lv st M o :=
  fun H locs ls hl hP hS r M' ho => lv_lload_n hX.1 hX.2.1 hd hi (lv_at hl q hq) (kk H locs ls hl hP hS r M' ho)
theorem j_lload (hX : jOk X μ G) (q : Nat) {i : Nat} {x : Int64} (hd : decode μ.1 pc = .ok (.lload i, 2)) (hq : lv[q]? = some (i, .long x)) (kk : J X μ G (pc + 2) lv (.long x :: st) M o) : J X μ G pc lv st M o :=
  fun H locs ls hl hP hS r M' ho => lv_lload hX.1 hX.2.1 hd (lv_at hl q hq) (kk H locs ls hl hP hS r M' ho)
theorem j_aload_n (hX : jOk X μ G) {k : Fin 4} (q : Nat) {i : Nat} {x : Nat} (hd : decode μ.1 pc = .ok (.aload_n k, 1)) (hi : (k : Nat) = i) (hq : lv[q]? = some (i, .ref x)) (kk : J X μ G (pc + 1) lv (.ref x :: st) M o) : J X μ G pc lv st M o :=
  fun H locs ls hl hP hS r M' ho => lv_aload_n hX.1 hX.2.1 hd hi (lv_at hl q hq) (kk H locs ls hl hP hS r M' ho)
theorem j_istore_n (hX : jOk X μ G) {k : Fin 4} {i : Nat} {x : Int32} {lv' : List (Nat × Value)} (hd : decode μ.1 pc = .ok (.istore_n k, 1)) (hi : (k : Nat) = i) (hn : i < μ.2.1) (hl' : (i, Value.int x) :: lv.filter (fun q => !(q.1 == i) && !(q.1 + 1 == i && q.2.category == 2)) = lv') (kk : J X μ G (pc + 1) lv' st M o) : J X μ G pc lv (.int x :: st) M o :=
  fun H locs ls hl hP hS r M' ho => lv_istore_n hX.1 hX.2.1 hd hi hl hn hl' (fun ls' h' => kk H locs ls' h' hP hS r M' ho)
theorem j_istore (hX : jOk X μ G) {i : Nat} {x : Int32} {lv' : List (Nat × Value)} (hd : decode μ.1 pc = .ok (.istore i, 2)) (hn : i < μ.2.1) (hl' : (i, Value.int x) :: lv.filter (fun q => !(q.1 == i) && !(q.1 + 1 == i && q.2.category == 2)) = lv') (kk : J X μ G (pc + 2) lv' st M o) : J X μ G pc lv (.int x :: st) M o :=
  fun H locs ls hl hP hS r M' ho => lv_istore hX.1 hX.2.1 hd hl hn hl' (fun ls' h' => kk H locs ls' h' hP hS r M' ho)
theorem j_lstore_n (hX : jOk X μ G) {k : Fin 4} {i : Nat} {x : Int64} {lv' : List (Nat × Value)} (hd : decode μ.1 pc = .ok (.lstore_n k, 1)) (hi : (k : Nat) = i) (hn : i + 1 < μ.2.1) (hl' : (i, Value.long x) :: lv.filter (fun q => !(q.1 == i) && (!(q.1 == i + 1) && !(q.1 + 1 == i && q.2.category == 2))) = lv') (kk : J X μ G (pc + 1) lv' st M o) : J X μ G pc lv (.long x :: st) M o :=
  fun H locs ls hl hP hS r M' ho => lv_lstore_n hX.1 hX.2.1 hd hi hl hn hl' (fun ls' h' => kk H locs ls' h' hP hS r M' ho)
theorem j_lstore (hX : jOk X μ G) {i : Nat} {x : Int64} {lv' : List (Nat × Value)} (hd : decode μ.1 pc = .ok (.lstore i, 2)) (hn : i + 1 < μ.2.1) (hl' : (i, Value.long x) :: lv.filter (fun q => !(q.1 == i) && (!(q.1 == i + 1) && !(q.1 + 1 == i && q.2.category == 2))) = lv') (kk : J X μ G (pc + 2) lv' st M o) : J X μ G pc lv (.long x :: st) M o :=
  fun H locs ls hl hP hS r M' ho => lv_lstore hX.1 hX.2.1 hd hl hn hl' (fun ls' h' => kk H locs ls' h' hP hS r M' ho)
theorem j_iinc (hX : jOk X μ G) (k : Nat) {i : Nat} {n : Int} {x v : Int32} {lv' : List (Nat × Value)} (hd : decode μ.1 pc = .ok (.iinc i n, 3)) (hk : lv[k]? = some (i, .int x)) (hv : x + Int32.ofInt n = v) (hn : i < μ.2.1) (hl' : (i, Value.int v) :: lv.filter (fun q => !(q.1 == i) && !(q.1 + 1 == i && q.2.category == 2)) = lv') (kk : J X μ G (pc + 3) lv' st M o) : J X μ G pc lv st M o :=
  fun H locs ls hl hP hS r M' ho => lv_iinc hX.1 hX.2.1 hd hl hk hv hn hl' (fun ls' h' => kk H locs ls' h' hP hS r M' ho)
theorem j_iadd (hX : jOk X μ G) {x y : Int32} (hd : decode μ.1 pc = .ok (.iadd, 1)) (kk : J X μ G (pc + 1) lv (.int (x + y) :: st) M o) : J X μ G pc lv (.int y :: .int x :: st) M o :=
  fun H locs ls hl hP hS r M' ho => lv_iadd hX.1 hX.2.1 hd (kk H locs ls hl hP hS r M' ho)
theorem j_isub (hX : jOk X μ G) {x y : Int32} (hd : decode μ.1 pc = .ok (.isub, 1)) (kk : J X μ G (pc + 1) lv (.int (x - y) :: st) M o) : J X μ G pc lv (.int y :: .int x :: st) M o :=
  fun H locs ls hl hP hS r M' ho => lv_isub hX.1 hX.2.1 hd (kk H locs ls hl hP hS r M' ho)
theorem j_imul (hX : jOk X μ G) {x y : Int32} (hd : decode μ.1 pc = .ok (.imul, 1)) (kk : J X μ G (pc + 1) lv (.int (x * y) :: st) M o) : J X μ G pc lv (.int y :: .int x :: st) M o :=
  fun H locs ls hl hP hS r M' ho => lv_imul hX.1 hX.2.1 hd (kk H locs ls hl hP hS r M' ho)
theorem j_iand (hX : jOk X μ G) {x y : Int32} (hd : decode μ.1 pc = .ok (.iand, 1)) (kk : J X μ G (pc + 1) lv (.int (x &&& y) :: st) M o) : J X μ G pc lv (.int y :: .int x :: st) M o :=
  fun H locs ls hl hP hS r M' ho => lv_iand hX.1 hX.2.1 hd (kk H locs ls hl hP hS r M' ho)
theorem j_ior (hX : jOk X μ G) {x y : Int32} (hd : decode μ.1 pc = .ok (.ior, 1)) (kk : J X μ G (pc + 1) lv (.int (x ||| y) :: st) M o) : J X μ G pc lv (.int y :: .int x :: st) M o :=
  fun H locs ls hl hP hS r M' ho => lv_ior hX.1 hX.2.1 hd (kk H locs ls hl hP hS r M' ho)
theorem j_ishl (hX : jOk X μ G) {x y : Int32} (hd : decode μ.1 pc = .ok (.ishl, 1)) (kk : J X μ G (pc + 1) lv (.int (x <<< (y &&& 31)) :: st) M o) : J X μ G pc lv (.int y :: .int x :: st) M o :=
  fun H locs ls hl hP hS r M' ho => lv_ishl hX.1 hX.2.1 hd (kk H locs ls hl hP hS r M' ho)
theorem j_ishr (hX : jOk X μ G) {x y : Int32} (hd : decode μ.1 pc = .ok (.ishr, 1)) (kk : J X μ G (pc + 1) lv (.int (x >>> (y &&& 31)) :: st) M o) : J X μ G pc lv (.int y :: .int x :: st) M o :=
  fun H locs ls hl hP hS r M' ho => lv_ishr hX.1 hX.2.1 hd (kk H locs ls hl hP hS r M' ho)
def irm (x y : Int32) : Int32 := x - x / y * y
def lrm (x y : Int64) : Int64 := x - x / y * y
theorem j_idiv (hX : jOk X μ G) {x y : Int32} (hd : decode μ.1 pc = .ok (.idiv, 1)) (kk : J X μ G (pc + 1) lv (.int (x / y) :: st) M o) : J X μ G pc lv (.int y :: .int x :: st) M (if y = 0 then none else o) := by
  intro H locs ls hl hP hS r M' ho
  by_cases hy : y = 0
  · rw [if_pos hy] at ho; cases ho
  · rw [if_neg hy] at ho; exact lv_idiv hX.1 hX.2.1 hd hy (kk H locs ls hl hP hS r M' ho)
theorem j_irem (hX : jOk X μ G) {x y : Int32} (hd : decode μ.1 pc = .ok (.irem, 1)) (kk : J X μ G (pc + 1) lv (.int (irm x y) :: st) M o) : J X μ G pc lv (.int y :: .int x :: st) M (if y = 0 then none else o) := by
  intro H locs ls hl hP hS r M' ho
  by_cases hy : y = 0
  · rw [if_pos hy] at ho; cases ho
  · rw [if_neg hy] at ho; exact lv_irem hX.1 hX.2.1 hd hy (kk H locs ls hl hP hS r M' ho)
/-- by a number that is not 0 -/
theorem j_idivC (hX : jOk X μ G) {x y : Int32} (hd : decode μ.1 pc = .ok (.idiv, 1)) (hy : ¬ y = 0) (kk : J X μ G (pc + 1) lv (.int (x / y) :: st) M o) : J X μ G pc lv (.int y :: .int x :: st) M o :=
  fun H locs ls hl hP hS r M' ho => lv_idiv hX.1 hX.2.1 hd hy (kk H locs ls hl hP hS r M' ho)
theorem j_iremC (hX : jOk X μ G) {x y : Int32} (hd : decode μ.1 pc = .ok (.irem, 1)) (hy : ¬ y = 0) (kk : J X μ G (pc + 1) lv (.int (irm x y) :: st) M o) : J X μ G pc lv (.int y :: .int x :: st) M o :=
  fun H locs ls hl hP hS r M' ho => lv_irem hX.1 hX.2.1 hd hy (kk H locs ls hl hP hS r M' ho)
theorem j_lremC (hX : jOk X μ G) {x y : Int64} (hd : decode μ.1 pc = .ok (.lrem, 1)) (hy : ¬ y = 0) (kk : J X μ G (pc + 1) lv (.long (lrm x y) :: st) M o) : J X μ G pc lv (.long y :: .long x :: st) M o :=
  fun H locs ls hl hP hS r M' ho => lv_lrem hX.1 hX.2.1 hd hy (kk H locs ls hl hP hS r M' ho)
theorem j_ladd (hX : jOk X μ G) {x y : Int64} (hd : decode μ.1 pc = .ok (.ladd, 1)) (kk : J X μ G (pc + 1) lv (.long (x + y) :: st) M o) : J X μ G pc lv (.long y :: .long x :: st) M o :=
  fun H locs ls hl hP hS r M' ho => lv_ladd hX.1 hX.2.1 hd (kk H locs ls hl hP hS r M' ho)
theorem j_lmul (hX : jOk X μ G) {x y : Int64} (hd : decode μ.1 pc = .ok (.lmul, 1)) (kk : J X μ G (pc + 1) lv (.long (x * y) :: st) M o) : J X μ G pc lv (.long y :: .long x :: st) M o :=
  fun H locs ls hl hP hS r M' ho => lv_lmul hX.1 hX.2.1 hd (kk H locs ls hl hP hS r M' ho)
theorem j_lcmp (hX : jOk X μ G) {x y : Int64} (hd : decode μ.1 pc = .ok (.lcmp, 1)) (kk : J X μ G (pc + 1) lv (.int (lg_cmp x y) :: st) M o) : J X μ G pc lv (.long y :: .long x :: st) M o :=
  fun H locs ls hl hP hS r M' ho => W.lcmp hX.1 hX.2.1 hd (kk H locs ls hl hP hS r M' ho)
theorem j_i2l (hX : jOk X μ G) {x : Int32} (hd : decode μ.1 pc = .ok (.i2l, 1)) (kk : J X μ G (pc + 1) lv (.long x.toInt64 :: st) M o) : J X μ G pc lv (.int x :: st) M o :=
  fun H locs ls hl hP hS r M' ho => lv_i2l hX.1 hX.2.1 hd rfl (kk H locs ls hl hP hS r M' ho)
theorem j_l2i (hX : jOk X μ G) {x : Int64} (hd : decode μ.1 pc = .ok (.l2i, 1)) (kk : J X μ G (pc + 1) lv (.int x.toInt32 :: st) M o) : J X μ G pc lv (.long x :: st) M o :=
  fun H locs ls hl hP hS r M' ho => lv_l2i hX.1 hX.2.1 hd rfl (kk H locs ls hl hP hS r M' ho)
theorem j_i2b (hX : jOk X μ G) {x : Int32} (hd : decode μ.1 pc = .ok (.i2b, 1)) (kk : J X μ G (pc + 1) lv (.int x.toInt8.toInt32 :: st) M o) : J X μ G pc lv (.int x :: st) M o :=
  fun H locs ls hl hP hS r M' ho => lv_i2b hX.1 hX.2.1 hd rfl (kk H locs ls hl hP hS r M' ho)
theorem j_i2c (hX : jOk X μ G) {x : Int32} (hd : decode μ.1 pc = .ok (.i2c, 1)) (kk : J X μ G (pc + 1) lv (.int (x.toUInt32 % 65536).toInt32 :: st) M o) : J X μ G pc lv (.int x :: st) M o :=
  fun H locs ls hl hP hS r M' ho => lv_i2c hX.1 hX.2.1 hd rfl (kk H locs ls hl hP hS r M' ho)
theorem j_dup (hX : jOk X μ G) {v : Value} (hd : decode μ.1 pc = .ok (.dup, 1)) (hv : v.category = 1) (kk : J X μ G (pc + 1) lv (v :: v :: st) M o) : J X μ G pc lv (v :: st) M o :=
  fun H locs ls hl hP hS r M' ho => lv_dup hX.1 hX.2.1 hd hv (kk H locs ls hl hP hS r M' ho)
theorem j_pop (hX : jOk X μ G) {v : Value} (hd : decode μ.1 pc = .ok (.pop, 1)) (hv : v.category = 1) (kk : J X μ G (pc + 1) lv st M o) : J X μ G pc lv (v :: st) M o :=
  fun H locs ls hl hP hS r M' ho => lv_pop hX.1 hX.2.1 hd hv (kk H locs ls hl hP hS r M' ho)
theorem j_dup2 (hX : jOk X μ G) {v w : Value} (hd : decode μ.1 pc = .ok (.dup2, 1)) (hv : v.category = 1) (hw : w.category = 1) (kk : J X μ G (pc + 1) lv (v :: w :: v :: w :: st) M o) : J X μ G pc lv (v :: w :: st) M o :=
  fun H locs ls hl hP hS r M' ho => lv_dup2_11 hX.1 hX.2.1 hd hv hw (kk H locs ls hl hP hS r M' ho)
theorem j_goto (hX : jOk X μ G) {off : Int} (tgt : Nat) (hd : decode μ.1 pc = .ok (.goto off, 3)) (ht : (pc : Int) + off = (tgt : Int)) (kk : J X μ G tgt lv st M o) : J X μ G pc lv st M o :=
  fun H locs ls hl hP hS r M' ho => lv_goto hX.1 hX.2.1 hd ht (kk H locs ls hl hP hS r M' ho)
theorem j_ifnonnull (hX : jOk X μ G) {off : Int} {x : Nat} (tgt : Nat) (hd : decode μ.1 pc = .ok (.ifnonnull off, 3)) (ht : (pc : Int) + off = (tgt : Int)) (kk : J X μ G tgt lv st M o) : J X μ G pc lv (.ref x :: st) M o :=
  fun H locs ls hl hP hS r M' ho => lv_ifnonnull hX.1 hX.2.1 hd ht (kk H locs ls hl hP hS r M' ho)
theorem j_ifnull (hX : jOk X μ G) {off : Int} {x : Nat} (hd : decode μ.1 pc = .ok (.ifnull off, 3)) (kk : J X μ G (pc + 3) lv st M o) : J X μ G pc lv (.ref x :: st) M o :=
  fun H locs ls hl hP hS r M' ho => lv_ifnull hX.1 hX.2.1 hd (kk H locs ls hl hP hS r M' ho)
end JR
section JB
variable {X : jC} {μ : jM} {G : jS} {pc : Nat} {lv : List (Nat × Value)} {st : List Value} {M : Mem} {o1 o2 : Res}
theorem j_icmp_eq (hX : jOk X μ G) {x y : Int32} {off : Int} (tgt : Nat) (hd : decode μ.1 pc = .ok (.if_icmp .eq off, 3)) (ht : (pc : Int) + off = (tgt : Int)) (k1 : J X μ G tgt lv st M o1) (k2 : J X μ G (pc + 3) lv st M o2) : J X μ G pc lv (.int y :: .int x :: st) M (if x = y then o1 else o2) :=
  fun H locs ls hl hP hS r M' ho => lv_icmp_eq hX.1 hX.2.1 hd ht (fun hc => k1 H locs ls hl hP hS r M' (by rw [if_pos hc] at ho; exact ho)) (fun hc => k2 H locs ls hl hP hS r M' (by rw [if_neg hc] at ho; exact ho))
theorem j_if_eq (hX : jOk X μ G) {x : Int32} {off : Int} (tgt : Nat) (hd : decode μ.1 pc = .ok (.ifCond .eq off, 3)) (ht : (pc : Int) + off = (tgt : Int)) (k1 : J X μ G tgt lv st M o1) (k2 : J X μ G (pc + 3) lv st M o2) : J X μ G pc lv (.int x :: st) M (if x = 0 then o1 else o2) :=
  fun H locs ls hl hP hS r M' ho => lv_if_eq hX.1 hX.2.1 hd ht (fun hc => k1 H locs ls hl hP hS r M' (by rw [if_pos hc] at ho; exact ho)) (fun hc => k2 H locs ls hl hP hS r M' (by rw [if_neg hc] at ho; exact ho))
theorem j_icmp_ne (hX : jOk X μ G) {x y : Int32} {off : Int} (tgt : Nat) (hd : decode μ.1 pc = .ok (.if_icmp .ne off, 3)) (ht : (pc : Int) + off = (tgt : Int)) (k1 : J X μ G tgt lv st M o1) (k2 : J X μ G (pc + 3) lv st M o2) : J X μ G pc lv (.int y :: .int x :: st) M (if x = y then o2 else o1) :=
  fun H locs ls hl hP hS r M' ho => lv_icmp_ne hX.1 hX.2.1 hd ht (fun hc => k1 H locs ls hl hP hS r M' (by rw [if_neg hc] at ho; exact ho)) (fun hc => k2 H locs ls hl hP hS r M' (by rw [if_pos hc] at ho; exact ho))
theorem j_if_ne (hX : jOk X μ G) {x : Int32} {off : Int} (tgt : Nat) (hd : decode μ.1 pc = .ok (.ifCond .ne off, 3)) (ht : (pc : Int) + off = (tgt : Int)) (k1 : J X μ G tgt lv st M o1) (k2 : J X μ G (pc + 3) lv st M o2) : J X μ G pc lv (.int x :: st) M (if x = 0 then o2 else o1) :=
  fun H locs ls hl hP hS r M' ho => lv_if_ne hX.1 hX.2.1 hd ht (fun hc => k1 H locs ls hl hP hS r M' (by rw [if_neg hc] at ho; exact ho)) (fun hc => k2 H locs ls hl hP hS r M' (by rw [if_pos hc] at ho; exact ho))
theorem j_icmp_lt (hX : jOk X μ G) {x y : Int32} {off : Int} (tgt : Nat) (hd : decode μ.1 pc = .ok (.if_icmp .lt off, 3)) (ht : (pc : Int) + off = (tgt : Int)) (k1 : J X μ G tgt lv st M o1) (k2 : J X μ G (pc + 3) lv st M o2) : J X μ G pc lv (.int y :: .int x :: st) M (if x < y then o1 else o2) :=
  fun H locs ls hl hP hS r M' ho => lv_icmp_lt hX.1 hX.2.1 hd ht (fun hc => k1 H locs ls hl hP hS r M' (by rw [if_pos hc] at ho; exact ho)) (fun hc => k2 H locs ls hl hP hS r M' (by rw [if_neg hc] at ho; exact ho))
theorem j_if_lt (hX : jOk X μ G) {x : Int32} {off : Int} (tgt : Nat) (hd : decode μ.1 pc = .ok (.ifCond .lt off, 3)) (ht : (pc : Int) + off = (tgt : Int)) (k1 : J X μ G tgt lv st M o1) (k2 : J X μ G (pc + 3) lv st M o2) : J X μ G pc lv (.int x :: st) M (if x < 0 then o1 else o2) :=
  fun H locs ls hl hP hS r M' ho => lv_if_lt hX.1 hX.2.1 hd ht (fun hc => k1 H locs ls hl hP hS r M' (by rw [if_pos hc] at ho; exact ho)) (fun hc => k2 H locs ls hl hP hS r M' (by rw [if_neg hc] at ho; exact ho))
theorem j_icmp_ge (hX : jOk X μ G) {x y : Int32} {off : Int} (tgt : Nat) (hd : decode μ.1 pc = .ok (.if_icmp .ge off, 3)) (ht : (pc : Int) + off = (tgt : Int)) (k1 : J X μ G tgt lv st M o1) (k2 : J X μ G (pc + 3) lv st M o2) : J X μ G pc lv (.int y :: .int x :: st) M (if y ≤ x then o1 else o2) :=
  fun H locs ls hl hP hS r M' ho => lv_icmp_ge hX.1 hX.2.1 hd ht (fun hc => k1 H locs ls hl hP hS r M' (by rw [if_pos hc] at ho; exact ho)) (fun hc => k2 H locs ls hl hP hS r M' (by rw [if_neg hc] at ho; exact ho))
theorem j_if_ge (hX : jOk X μ G) {x : Int32} {off : Int} (tgt : Nat) (hd : decode μ.1 pc = .ok (.ifCond .ge off, 3)) (ht : (pc : Int) + off = (tgt : Int)) (k1 : J X μ G tgt lv st M o1) (k2 : J X μ G (pc + 3) lv st M o2) : J X μ G pc lv (.int x :: st) M (if 0 ≤ x then o1 else o2) :=
  fun H locs ls hl hP hS r M' ho => lv_if_ge hX.1 hX.2.1 hd ht (fun hc => k1 H locs ls hl hP hS r M' (by rw [if_pos hc] at ho; exact ho)) (fun hc => k2 H locs ls hl hP hS r M' (by rw [if_neg hc] at ho; exact ho))
theorem j_icmp_gt (hX : jOk X μ G) {x y : Int32} {off : Int} (tgt : Nat) (hd : decode μ.1 pc = .ok (.if_icmp .gt off, 3)) (ht : (pc : Int) + off = (tgt : Int)) (k1 : J X μ G tgt lv st M o1) (k2 : J X μ G (pc + 3) lv st M o2) : J X μ G pc lv (.int y :: .int x :: st) M (if y < x then o1 else o2) :=
  fun H locs ls hl hP hS r M' ho => lv_icmp_gt hX.1 hX.2.1 hd ht (fun hc => k1 H locs ls hl hP hS r M' (by rw [if_pos hc] at ho; exact ho)) (fun hc => k2 H locs ls hl hP hS r M' (by rw [if_neg hc] at ho; exact ho))
theorem j_if_gt (hX : jOk X μ G) {x : Int32} {off : Int} (tgt : Nat) (hd : decode μ.1 pc = .ok (.ifCond .gt off, 3)) (ht : (pc : Int) + off = (tgt : Int)) (k1 : J X μ G tgt lv st M o1) (k2 : J X μ G (pc + 3) lv st M o2) : J X μ G pc lv (.int x :: st) M (if 0 < x then o1 else o2) :=
  fun H locs ls hl hP hS r M' ho => lv_if_gt hX.1 hX.2.1 hd ht (fun hc => k1 H locs ls hl hP hS r M' (by rw [if_pos hc] at ho; exact ho)) (fun hc => k2 H locs ls hl hP hS r M' (by rw [if_neg hc] at ho; exact ho))
theorem j_icmp_le (hX : jOk X μ G) {x y : Int32} {off : Int} (tgt : Nat) (hd : decode μ.1 pc = .ok (.if_icmp .le off, 3)) (ht : (pc : Int) + off = (tgt : Int)) (k1 : J X μ G tgt lv st M o1) (k2 : J X μ G (pc + 3) lv st M o2) : J X μ G pc lv (.int y :: .int x :: st) M (if x ≤ y then o1 else o2) :=
  fun H locs ls hl hP hS r M' ho => lv_icmp_le hX.1 hX.2.1 hd ht (fun hc => k1 H locs ls hl hP hS r M' (by rw [if_pos hc] at ho; exact ho)) (fun hc => k2 H locs ls hl hP hS r M' (by rw [if_neg hc] at ho; exact ho))
theorem j_if_le (hX : jOk X μ G) {x : Int32} {off : Int} (tgt : Nat) (hd : decode μ.1 pc = .ok (.ifCond .le off, 3)) (ht : (pc : Int) + off = (tgt : Int)) (k1 : J X μ G tgt lv st M o1) (k2 : J X μ G (pc + 3) lv st M o2) : J X μ G pc lv (.int x :: st) M (if x ≤ 0 then o1 else o2) :=
  fun H locs ls hl hP hS r M' ho => lv_if_le hX.1 hX.2.1 hd ht (fun hc => k1 H locs ls hl hP hS r M' (by rw [if_pos hc] at ho; exact ho)) (fun hc => k2 H locs ls hl hP hS r M' (by rw [if_neg hc] at ho; exact ho))
end JB
