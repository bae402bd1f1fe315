/-! CONSTRUCTORS: worlds that grow -/
def tyC (cA : Nat → ClassId) : List (ClassId × FieldType) := [(cA 20, .int), (cA 21, .byte), (cA 22, .char), (cA 23, .object "DonkeyVerdicts$Herd")]
theorem ra_eq {U : State} {c c' : ClassId} {ty : FieldType} (h : va_RA U c ty) (h' : va_RA U c' ty) : c = c' := by
  cases ty with
  | object C =>
    obtain ⟨-, -, -, -, -, h4⟩ := h
    obtain ⟨-, -, -, -, -, h4'⟩ := h'
    exact Option.some.inj (h4.symm.trans h4')
  | _ => exact Option.some.inj (Eq.trans (Eq.symm h) h')
theorem ty_eq {D : va_G} {cl : List vw_C} {tys : List (ClassId × FieldType)} {s : State} {c c' : ClassId} {ty : FieldType} (h : va_K D cl (tys ++ [(c', ty)]) s) (i : Nat) (hi : tys[i]? = some (c, ty)) : c' = c := by
  have h1 := h.2 tys.length (c', ty) (by simp)
  have hl : i < tys.length := (List.getElem?_eq_some_iff.mp hi).1
  have h2 := h.2 i (c, ty) (by rw [List.getElem?_append_left hl]; exact hi)
  exact ra_eq h1.2 h2.2
/-- a constructor's contract: from its one fresh cell it makes the cells of post -/
def cPre (D : va_G) (cA : Nat → ClassId) (avs : List Value) (h0 : Nat) (e0 : va_E) (sz : Nat) : Array Value → State → Prop := va_Pc avs (fun U => U.heap.size = sz ∧ va_P D vwCl [(h0, e0)] U.heap ∧ va_K D vwCl (tyC cA) U ∧ va_D (fun _ => True) [(h0, e0)] ∧ va_AO "DonkeyVerdicts$Herd" U)
def cPost (D : va_G) (w0 : va_W) (sz : Nat) (post : (Nat → Nat) → va_W) : Array Value → State → Outcome → State → Prop := va_Qv (fun _ : Nat → Nat => True) (fun f t => va_P D vwCl (post f) t.heap ∧ va_D (va_A w0 sz) (post f)) (va_A w0 sz)
def cMet (l : Launch) (D : va_G) (cA : Nat → ClassId) (y : MethodName) (cc : ByteArray) (nL : Nat) (rm : Room) (avs : List Value) (h0 : Nat) (e0 : va_E) (mc ms : Nat) (post : (Nat → Nat) → va_W) : Prop :=
  ∀ sz, Met l y (Cond.code y cc nL none :: tbg) rm (cPre D cA avs h0 e0 sz) (cPost D [(h0, e0)] sz post) mc ms (va_A [(h0, e0)] sz)
theorem cPre_blind (D : va_G) (cA : Nat → ClassId) (avs : List Value) (h0 : Nat) (e0 : va_E) (sz : Nat) : FrameBlind (cPre D cA avs h0 e0 sz) := by
  intro a U g mk q
  obtain ⟨q0, q1, qP, qK, qD, qA⟩ := q
  exact ⟨q0, q1, qP, va_K.moved (u := U) (U := U.calling g mk a) (Vm.Alike.refl U.vm) qK, qD, va_AO.moved (u := U) (U := U.calling g mk a) (Vm.Alike.refl U.vm) qA⟩
theorem gi_c {y : MethodName} {cc : ByteArray} {nL : Nat} {ret : Option FieldType} (h : Cond.code y cc nL ret ∈ tbg) : GoodIn tbg (Cond.code y cc nL ret :: tbg) := by
  intro w hw
  have hm : w ∈ tbg := by
    rcases List.mem_cons.mp hw with rfl | q
    · exact h
    · exact q
  exact ⟨hm, tbg_good hm⟩
section CI
variable {p : Program} {l : Launch} {e : Env} {R : Room} {s : State} {m : MethodId} {args : Array Value} {below : List Frame} {meth : Method} {c : Code} {H : Heap} {locs : List Loc} {cells slots : Nat} {Q : State → Prop}
variable {cc : ByteArray} {pc : Nat} {ls : Array Slot} {rest : List Value} {D : va_G} {cA : Nat → ClassId} {A : Nat → Prop} {ws : va_W} {H0 : Heap}
theorem c_after {q : Nat} {e0 : va_E} {mc ms : Nat} {post : (Nat → Nat) → va_W} {st0 : List Value} {a : Array Value} (hr : va_Run p l e R s m args below meth c H locs cells slots mc ms (F0 m pc ls st0) rest (cPost D [(q, e0)] H.size post a) (va_A [(q, e0)] H.size)) (hP : va_P D vwCl (ws ++ [(q, e0)]) H) (hD : va_D A (ws ++ [(q, e0)])) (hS : va_S A H0 H locs) (hA : ∀ q, H0.size ≤ q → A q)
    (kk : ∀ (f : Nat → Nat) (H1 : Heap) (locs1 : List Loc), va_P D vwCl (ws ++ post f) H1 → va_D A (ws ++ post f) → va_S A H0 H1 locs1 → W p l e R s m args below meth c H1 locs1 (cells + mc) (slots + ms) Q (F0 m (pc + 3) ls rest)) : W p l e R s m args below meth c H locs cells slots Q (F0 m pc ls st0) := by
  have hq : (ws ++ [(q, e0)])[ws.length]? = some (q, e0) := by simp
  have hF : ∀ x, va_A [(q, e0)] H.size x → A x := by
    intro x hx
    rcases hx with ⟨k, e', hk⟩ | hx
    · have hk0 : k < 1 := (List.getElem?_eq_some_iff.mp hk).1
      rw [show k = 0 by omega] at hk
      cases hk
      exact hD.2 _ _ hq
    · exact hA x (Nat.le_trans hS.1 hx)
  have hw : ∀ (k : Nat) (x : Nat × va_E), ws[k]? = some x → (ws ++ [(q, e0)])[k]? = some x := fun k x hk => by
    rw [List.getElem?_append_left (List.getElem?_eq_some_iff.mp hk).1]; exact hk
  have hno : ∀ (k : Nat) (x : Nat × va_E), ws[k]? = some x → x.1 < H.size ∧ ¬ va_A [(q, e0)] H.size x.1 := fun k x hk => by
    have hlt := (hP k x (hw k x hk)).lt
    refine ⟨hlt, fun z => ?_⟩
    rcases z with ⟨j, e', hj⟩ | z
    · have hj0 : j < 1 := (List.getElem?_eq_some_iff.mp hj).1
      rw [show j = 0 by omega] at hj
      have h1 : q = x.1 := (Prod.ext_iff.mp (Option.some.inj hj)).1
      have := hD.1 k ws.length x (q, e0) (hw k x hk) hq h1.symm
      have hl : k < ws.length := (List.getElem?_eq_some_iff.mp hk).1
      omega
    · omega
  refine va_callv hr hS (fun x _ h => hF x h) hF (fun f t H1 locs1 ht hvm _ hB hz1 hk1 hS1 => ?_)
  obtain ⟨hP1, hD1⟩ := hB
  rw [ht] at hP1
  refine kk f H1 locs1 (va_P.app (fun k x hk => (hP k x (hw k x hk)).kept (hk1 x.1 (hno k x hk).1 (hno k x hk).2)) hP1) (va_D.app ⟨fun i j a b h1 h2 h3 => ?_, fun k x hk => hD.2 k x (hw k x hk)⟩ (hD1.weaken (fun _ _ _ h => hF _ h)) (fun i j a b h1 h2 h3 => ?_)) hS1
  · exact hD.1 i j a b (hw i a h1) (hw j b h2) h3
  · have := hD1.2 j b h2
    rw [← h3] at this
    exact (hno i a h1).2 this
theorem c_callI {q : Nat} {e0 : va_E} {mc ms nL nL' n index : Nat} {post : (Nat → Nat) → va_W} {y : MethodName} {cc' : ByteArray} {rm : Room} {own : String} {stk : List Value} (As : List Value) (hM : cMet l D cA y cc' nL' rm (.ref q :: As) q e0 mc ms post) (S : CallFix p m c cc nL s args tbg own)
    (hw : Cond.code y cc' nL' none ∈ tbg ∧ Cond.initialized y.cls ∈ tbg ∧ Cond.methodLink own index y ∈ tbg ∧ Cond.instanceMethod y ∈ tbg) (hy : y.name = "<init>" ∧ (y.cls ≠ "java/lang/invoke/MethodHandle" ∧ y.cls ≠ "java/lang/invoke/VarHandle" ∧ (parseMethodDescriptor y.desc).map (fun d => d.parameters.length) = some n)) (hR : rm.frames + 1 ≤ R.frames ∧ 8 + (nL' + 11) + rm.locals ≤ R.locals) (hcs : rm.cells = mc ∧ rm.slots = ms) (hf : cells + mc ≤ R.cells ∧ slots + ms ≤ R.slots)
    (hK : va_K D vwCl (tyC cA) s) (hAO : va_AO "DonkeyVerdicts$Herd" s) (hP : va_P D vwCl (ws ++ [(q, e0)]) H) (hD : va_D A (ws ++ [(q, e0)])) (hS : va_S A H0 H locs) (hA : ∀ q, H0.size ≤ q → A q) (hn : As.length = n) (hsz : ls.size = nL) (hst : (rest.map fun v => v.category).sum ≤ 8) (hdg : decode cc pc = .ok (.invokespecial index, 3)) (hstk : As.reverse ++ .ref q :: rest = stk)
    (kk : ∀ (f : Nat → Nat) (H1 : Heap) (locs1 : List Loc), va_P D vwCl (ws ++ post f) H1 → va_D A (ws ++ post f) → va_S A H0 H1 locs1 → W p l e R s m args below meth c H1 locs1 (cells + mc) (slots + ms) Q (F0 m (pc + 3) ls rest)) : W p l e R s m args below meth c H locs cells slots Q (F0 m pc ls stk) := by
  subst hstk
  have hts := S.2.2.2.2
  have hPc : va_P D vwCl [(q, e0)] H := hP.sub [ws.length] (by simp)
  have hDc : va_D (fun _ => True) [(q, e0)] := ⟨fun i j a b h1 h2 _ => by
    have := (List.getElem?_eq_some_iff.mp h1).1
    have := (List.getElem?_eq_some_iff.mp h2).1
    simp at *; omega, fun _ _ _ => trivial⟩
  exact c_after (va_runI (As := As) (rest := rest) S (hM H.size) (cwI n hts (gi_c hw.1) rfl hcs.1 hcs.2 (hts _ hw.2.1) (hts _ hw.2.2.1) (hts _ hw.2.2.2) hy.1 hy.2 hR) ⟨cPre_blind _ _ _ _ _ _, fun U hU hW => ⟨rfl, by rw [hU], by rw [hU]; exact hPc, va_K.moved hW.alike hK, hDc, va_AO.moved hW.alike hAO⟩⟩ rfl hn hsz rfl (lv_room hst) hdg hf) hP hD hS hA kk
theorem c_callIN {q : Nat} {e0 : va_E} {mc ms nL nL' n index : Nat} {post : (Nat → Nat) → va_W} {y : MethodName} {cc' : ByteArray} {rm : Room} {own host : String} {stk : List Value} (As : List Value) (hM : cMet l D cA y cc' nL' rm (.ref q :: As) q e0 mc ms post) (S : CallFix p m c cc nL s args tbg own)
    (hw : Cond.code y cc' nL' none ∈ tbg ∧ Cond.initialized y.cls ∈ tbg ∧ Cond.instanceMethod y ∈ tbg) (hl : va_Nw (.methodLinkNest own index y host) s) (hy : y.name = "<init>" ∧ (y.cls ≠ "java/lang/invoke/MethodHandle" ∧ y.cls ≠ "java/lang/invoke/VarHandle" ∧ (parseMethodDescriptor y.desc).map (fun d => d.parameters.length) = some n)) (hR : rm.frames + 1 ≤ R.frames ∧ 8 + (nL' + 11) + rm.locals ≤ R.locals) (hcs : rm.cells = mc ∧ rm.slots = ms) (hf : cells + mc ≤ R.cells ∧ slots + ms ≤ R.slots)
    (hK : va_K D vwCl (tyC cA) s) (hAO : va_AO "DonkeyVerdicts$Herd" s) (hP : va_P D vwCl (ws ++ [(q, e0)]) H) (hD : va_D A (ws ++ [(q, e0)])) (hS : va_S A H0 H locs) (hA : ∀ q, H0.size ≤ q → A q) (hn : As.length = n) (hsz : ls.size = nL) (hst : (rest.map fun v => v.category).sum ≤ 8) (hdg : decode cc pc = .ok (.invokespecial index, 3)) (hstk : As.reverse ++ .ref q :: rest = stk)
    (kk : ∀ (f : Nat → Nat) (H1 : Heap) (locs1 : List Loc), va_P D vwCl (ws ++ post f) H1 → va_D A (ws ++ post f) → va_S A H0 H1 locs1 → W p l e R s m args below meth c H1 locs1 (cells + mc) (slots + ms) Q (F0 m (pc + 3) ls rest)) : W p l e R s m args below meth c H locs cells slots Q (F0 m pc ls stk) := by
  subst hstk
  have hts := S.2.2.2.2
  have hPc : va_P D vwCl [(q, e0)] H := hP.sub [ws.length] (by simp)
  have hDc : va_D (fun _ => True) [(q, e0)] := ⟨fun i j a b h1 h2 _ => by
    have := (List.getElem?_eq_some_iff.mp h1).1
    have := (List.getElem?_eq_some_iff.mp h2).1
    simp at *; omega, fun _ _ _ => trivial⟩
  exact c_after (va_runIN (As := As) (rest := rest) (host := host) S (hM H.size) ⟨va_cnB n hts (gi_c hw.1) rfl hcs.1 hcs.2 hl (hts _ hw.2.1) hy.2 hR, hy.1, hts _ hw.2.2⟩ ⟨cPre_blind _ _ _ _ _ _, fun U hU hW => ⟨rfl, by rw [hU], by rw [hU]; exact hPc, va_K.moved hW.alike hK, hDc, va_AO.moved hW.alike hAO⟩⟩ rfl hn hsz rfl (lv_room hst) hdg hf) hP hD hS hA kk
end CI
/-- a row of references by another function that is the same within it -/
theorem ref_cg {D : va_G} {cl : List vw_C} {ws : va_W} {H : Heap} {k a n : Nat} {c : ClassId} {f g : Nat → Option Nat} (h : va_P D cl ws H) (hk : ws[k]? = some (a, .inl (c, n, .inr (.inr (.inr (.inr f)))))) (hfg : ∀ i, i < n → f i = g i) : va_P D cl (ws.set k (a, .inl (c, n, .inr (.inr (.inr (.inr g)))))) H := by
  intro i q hq
  by_cases e : i = k
  · subst e
    have hl : i < ws.length := (List.getElem?_eq_some_iff.mp hk).1
    rw [List.getElem?_set_self hl] at hq
    cases hq
    have h1 := h i _ hk
    show H[a]? = some (vp_cell c (n, .inr (.inr (.inr (.inr g)))))
    have h1' : H[a]? = some (vp_cell c (n, .inr (.inr (.inr (.inr f))))) := h1
    rw [h1', vp_cell_q, vp_cell_q]
    unfold arrV
    congr 3
    funext j
    exact congrArg va_rf (hfg j.val j.isLt)
  · rw [List.getElem?_set_ne (Ne.symm e)] at hq
    exact h i q hq
theorem ref_cgD {A : Nat → Prop} {ws : va_W} {k a : Nat} {e0 e : va_E} (h : va_D A ws) (hk : ws[k]? = some (a, e0)) : va_D A (ws.set k (a, e)) := h.set hk
