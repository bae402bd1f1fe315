/-! THE CLAIM OUT OF ONE WALK OF THE LAW'S BODY. Your part is whole_start (and what it stands on); all else here is the same for every law, but numbers. -/
def R_law : String := "DonkeyVerdictsLaw"
def lw_P (b : Addr) (xs : List Int32) (args : Array Value) (s : State) : Prop := args = #[.ref b] ∧ s.IntsAt b xs ∧ xs.length ≤ 2560 ∧ (Jvm.Cond.and given_1 narrow_1).before args s = true
def lw_Q (_ : Array Value) (s : State) (o : Outcome) (t : State) : Prop := o = .returned (some (.int 1)) ∧ Framed s o t [] 600000 7302250
def lw_Z (below : List Frame) (a : Array Value) (s : State) : State → Prop := fun t => ∃ o, t.status = .running ∧ Ended t below o ∧ lw_Q a s o t
/-- the law's own end, with 1 on the stack, nothing written that was there before, its room as the claim has it -/
theorem lw_ret {p : Program} {l : Launch} {e : Env} {s : State} {m : MethodId} {below : List Frame} {meth : Method} {c : Code} {b : Nat} (hx : p.tables.exec = Jvm.exec) (hb : c.code = code) (hr : meth.sig.returnType = ret) (hlocks : meth.locks = false) {pc : Nat} {H : Heap} {ls : Array Slot} (hdg : decode code pc = .ok (.ireturn, 1)) : W p l e room_1 s m #[Value.ref b] below meth c H [] 600000 7302250 (lw_Z below #[Value.ref b] s) (F0 m pc ls [.int 1]) := by
  intro T hT X
  obtain ⟨fs, hret, hrun, hended, hW, hframe⟩ := X.leave (v := some (.int 1)) (hlocks := hlocks) (fun h => by rw [hr] at h; cases h)
  have hmeth' : T.vm.method? m = some meth := X.method'
  refine ⟨T.setFrames fs, ?_, .returned (some (.int 1)), hrun, hended, rfl, ⟨_, rfl⟩, hW, hframe⟩
  jvm_step X.here [X.here.top, hx, hb, hdg, hmeth', hr, ret, narrow_b1]
  (try refine ⟨rfl, ?_⟩); (try refine ⟨rfl, ?_⟩)
  first | (intro acts; rw [hret _ acts rfl rfl rfl]) | rw [hret _ _ rfl rfl rfl]
  exact Steps.refl _
/-- what holds at the law's entry: the machine, the code, the tables' words (any of lw_tbl by 'hts w (by decide +kernel)'), the script of L ints xs at the cell b, what the Statement gives of the start (any of its parts by flat_of_before) -/
def lw_At (p : Program) (s : State) (m : MethodId) (meth : Method) (c : Code) (b L : Nat) (xs : Nat → Int32) : Prop :=
  p.tables.exec = Jvm.exec ∧ c.code = code ∧ meth.sig.returnType = ret ∧ c.maxLocals = 4 ∧ s.vm.findClass R_law = some m.cls ∧ (∀ w ∈ lw_tbl, w.before #[Value.ref b] s = true) ∧ va_X b L xs s s.heap ∧ b < s.heap.size ∧ meth.locks = false ∧ (Jvm.Cond.and given_1 narrow_1).before #[Value.ref b] s = true
/-! THE LAW: two systems side by side -/
def lA (s : State) : Nat → Prop := fun q => s.heap.size ≤ q
/-- the two systems beside each other -/
def lwX (p : Program) (s : State) (m : MethodId) (c : Code) (b L : Nat) (xs : Nat → Int32) (EX EM : jE) : Prop :=
  CallFix p m c code 4 s #[Value.ref b] tbg RL ∧ (va_X b L xs s s.heap ∧ b < s.heap.size ∧ L ≤ 2560) ∧ (va_K (gD (gX EX)) vwCl (tyL (gX EX)) s ∧ va_K (gD (gM EM)) vwCl (tyL (gM EM)) s) ∧ (jInj (gX EX) ∧ jInj (gM EM)) ∧ (∀ q, jA (gX EX) q → lA s q) ∧ (∀ q, jA (gM EM) q → lA s q) ∧ (∀ q, jA (gX EX) q → ¬ jA (gM EM) q)
def lwS (s : State) (EX EM : jE) (A B : Mem) (H : Heap) (locs : List Loc) : Prop := va_P (gD (gX EX)) vwCl (wld (gX EX) A) H ∧ va_P (gD (gM EM)) vwCl (wld (gM EM) B) H ∧ va_S (lA s) s.heap H locs
theorem wld_kept {G : jS} {M : Mem} {Y : Nat → Prop} {H H1 : Heap} (hP : va_P (gD G) vwCl (wld G M) H) (hd : ∀ q, jA G q → ¬ Y q) (hk : ∀ q : Nat, q < H.size → ¬ Y q → H1[q]? = H[q]?) : va_P (gD G) vwCl (wld G M) H1 := by
  refine va_P.kept hP (fun k q hq => hk q.1 (hP k q hq).lt (hd _ ?_))
  have hl : k < gN G := by
    have := (List.getElem?_eq_some_iff.mp hq).1
    simpa [wld] using this
  rw [wld_get hl] at hq
  cases hq
  exact ⟨k, hl, rfl⟩
section LW
variable {p : Program} {l : Launch} {e : Env} {s : State} {m : MethodId} {below : List Frame} {meth : Method} {c : Code} {cells slots : Nat} {Q : State → Prop} {b L : Nat} {xs : Nat → Int32} {EX EM : jE} {A B A' B' : Mem} {H : Heap} {locs : List Loc} {ls : Array Slot} {pc : Nat} {rest : List Value}
theorem lw_callX {y : MethodName} {cc' : ByteArray} {nL' n idx : Nat} {rm' : Room} {stk : List Value} {f : Res} {r : Int32} (C : lwX p s m c b L xs EX EM) (As : List Value) (hM : jMet l (gX EX) y cc' nL' (some .int) rm' (.ref (gad (gX EX) 0) :: As) A f) (hf : f = some (r, A')) (hY : jYv y cc' nL' (some .int) n) (hl : Cond.methodLink RL idx y ∈ tbg) (hc : vwCl[8]? = some (y.cls, TX9, 10)) (hn : As.length = n) (hz : rm'.cells = 0 ∧ rm'.slots = 0) (hR : rm'.frames + 1 ≤ room_1.frames ∧ 8 + (nL' + 11) + rm'.locals ≤ room_1.locals) (hst : (rest.map fun v => v.category).sum ≤ 8) (hsz : ls.size = 4) (hd : decode code pc = .ok (.invokevirtual idx, 3)) (hS : lwS s EX EM A B H locs) (hcs : cells ≤ room_1.cells ∧ slots ≤ room_1.slots) (hstk : As.reverse ++ .ref (gad (gX EX) 0) :: rest = stk)
    (kk : ∀ (H1 : Heap) (locs1 : List Loc), lwS s EX EM A' B H1 locs1 → W p l e room_1 s m #[Value.ref b] below meth c H1 locs1 cells slots Q (F0 m (pc + 3) ls (.int r :: rest))) : W p l e room_1 s m #[Value.ref b] below meth c H locs cells slots Q (F0 m pc ls stk) :=
  jc_callV (k := 0) As C.1 C.2.2.1.1 hM hf hY hl (Nat.le_of_ble_eq_true rfl) rfl hc (Nat.le_of_ble_eq_true rfl) hn hz hR hst hsz hd hS.1 hS.2.2 C.2.2.2.2.1 hcs hstk (fun H1 locs1 hP1 hS1 _ hk => kk H1 locs1 ⟨hP1, wld_kept hS.2.1 (fun q h z => C.2.2.2.2.2.2 q z h) hk, hS1⟩)
theorem lw_callM {y : MethodName} {cc' : ByteArray} {nL' n idx : Nat} {rm' : Room} {stk : List Value} {f : Res} {r : Int32} (C : lwX p s m c b L xs EX EM) (As : List Value) (hM : jMet l (gM EM) y cc' nL' (some .int) rm' (.ref (gad (gM EM) 0) :: As) B f) (hf : f = some (r, B')) (hY : jYv y cc' nL' (some .int) n) (hl : Cond.methodLink RL idx y ∈ tbg) (hc : vwCl[9]? = some (y.cls, TX10, 30)) (hn : As.length = n) (hz : rm'.cells = 0 ∧ rm'.slots = 0) (hR : rm'.frames + 1 ≤ room_1.frames ∧ 8 + (nL' + 11) + rm'.locals ≤ room_1.locals) (hst : (rest.map fun v => v.category).sum ≤ 8) (hsz : ls.size = 4) (hd : decode code pc = .ok (.invokevirtual idx, 3)) (hS : lwS s EX EM A B H locs) (hcs : cells ≤ room_1.cells ∧ slots ≤ room_1.slots) (hstk : As.reverse ++ .ref (gad (gM EM) 0) :: rest = stk)
    (kk : ∀ (H1 : Heap) (locs1 : List Loc), lwS s EX EM A B' H1 locs1 → W p l e room_1 s m #[Value.ref b] below meth c H1 locs1 cells slots Q (F0 m (pc + 3) ls (.int r :: rest))) : W p l e room_1 s m #[Value.ref b] below meth c H locs cells slots Q (F0 m pc ls stk) :=
  jc_callV (k := 0) As C.1 C.2.2.1.2 hM hf hY hl (Nat.le_of_ble_eq_true rfl) rfl hc (Nat.le_of_ble_eq_true rfl) hn hz hR hst hsz hd hS.2.1 hS.2.2 C.2.2.2.2.2.1 hcs hstk (fun H1 locs1 hP1 hS1 _ hk => kk H1 locs1 ⟨wld_kept hS.1 C.2.2.2.2.2.2 hk, hP1, hS1⟩)
/-- a number of the script -/
theorem lw_arg {i k : Nat} (C : lwX p s m c b L xs EX EM) (hS : lwS s EX EM A B H locs) (hi : i + k < L) (hd : decode code pc = .ok (.iaload, 1)) (kk : W p l e room_1 s m #[Value.ref b] below meth c H locs cells slots Q (F0 m (pc + 1) ls (.int (xs (nI i + nI k).toNatClampNeg) :: rest))) : W p l e room_1 s m #[Value.ref b] below meth c H locs cells slots Q (F0 m pc ls (.int (nI i + nI k) :: .ref b :: rest)) :=
  va_sld (A := lA s) (H0 := s.heap) C.1.1 C.1.2.1 C.2.1.1 C.2.1.2.1 (Nat.not_le.mpr C.2.1.2.1) hS.2.2 (by have := C.2.1.2.2; rw [nI_add]; exact vp_in_nI hi (by omega)) hd kk
end LW
