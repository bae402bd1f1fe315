/-! CONSTRUCTORS, second half: all cells are there; the walk goes on over the memory -/
section JC0
variable {p : Program} {l : Launch} {e : Env} {R : Room} {s : State} {m : MethodId} {args : Array Value} {below : List Frame} {meth : Method} {c : Code} {H : Heap} {locs : List Loc} {cells slots : Nat} {Q : State → Prop}
variable {cc : ByteArray} {pc : Nat} {ls : Array Slot} {rest : List Value} {A : Nat → Prop} {H0 : Heap} {G : jS} {M M1 : Mem} {nL : Nat} {own : String}
theorem jc_callV {y : MethodName} {cc' : ByteArray} {nL' n idx k ci N : Nat} {ret' : Option FieldType} {rm' : Room} {T : u_T} {stk : List Value} {f : Res} {r : Int32} (As : List Value) (S : CallFix p m c cc nL s args tbg own) (hK : va_K (gD G) vwCl (tyL G) s) (hM : jMet l G y cc' nL' ret' rm' (.ref (gad G k) :: As) M f) (hf : f = some (r, M1)) (hY : jYv y cc' nL' ret' n) (hl : Cond.methodLink own idx y ∈ tbg) (hk : k < gN G) (hty : gty G k = ci) (hc : vwCl[ci]? = some (y.cls, T, N)) (hc20 : ci < 20) (hn : As.length = n) (hz : rm'.cells = 0 ∧ rm'.slots = 0) (hR : rm'.frames + 1 ≤ R.frames ∧ 8 + (nL' + 11) + rm'.locals ≤ R.locals) (hst : (rest.map fun v => v.category).sum ≤ 8) (hsz : ls.size = nL) (hd : decode cc pc = .ok (.invokevirtual idx, 3)) (hP : va_P (gD G) vwCl (wld G M) H) (hS : va_S A H0 H locs) (hjA : ∀ q, jA G q → A q) (hcs : cells ≤ R.cells ∧ slots ≤ R.slots) (hstk : As.reverse ++ .ref (gad G k) :: rest = stk)
    (kk : ∀ (H1 : Heap) (locs1 : List Loc), va_P (gD G) vwCl (wld G M1) H1 → va_S A H0 H1 locs1 → H.size ≤ H1.size → (∀ q : Nat, q < H.size → ¬ jA G q → H1[q]? = H[q]?) → W p l e R s m args below meth c H1 locs1 cells slots Q (F0 m (pc + 3) ls ((rvO ret' G r).toList ++ rest))) : W p l e R s m args below meth c H locs cells slots Q (F0 m pc ls stk) := by
  subst hstk
  have hts := S.2.2.2.2
  have hr := va_runV (As := As) (rest := rest) S (hM r M1 hf) (cwV n hts (gi_v hY hl) rfl hz.1 hz.2 ⟨rfl, hY.2.2.2.2⟩ hR) ⟨pc_blind G _ M, va_recv hK hP hc (by rw [wld_get hk, cell_obj hty hc20]), fun U hU hW => ⟨rfl, by rw [hU]; exact hP, va_K.moved hW.alike hK⟩⟩ (H := H) (locs := locs) (cells := cells) (slots := slots) (g := F0 m pc ls (As.reverse ++ .ref (gad G k) :: rest)) (e := e) (below := below) (meth := meth) rfl hn hsz rfl (lv_room hst) hd hcs
  intro T0 hT X0
  obtain ⟨v, st₀, t, T', L, h0, X', hL, e1, e2, ⟨⟨hv, hPt⟩, hF⟩, go⟩ := hr T0 hT X0
  cases hv
  rw [va_F, h0] at hF
  obtain ⟨t2, a1, b1⟩ := kk T'.heap (locs ++ L) (by rw [e1]; exact hPt)
    ⟨Nat.le_trans hS.1 (by rw [e1]; exact hF.1), fun q h1 h2 => by rw [e1, hF.2 q (Nat.lt_of_lt_of_le h1 hS.1) (fun z => h2 (hjA q z))]; exact hS.2.1 q h1 h2, fun q hq => by
      rcases List.mem_append.mp hq with h | h
      · exact hS.2.2 q h
      · exact hjA _ (hL q h)⟩ (by rw [e1]; exact hF.1) (fun q h1 h2 => by rw [e1]; exact hF.2 q h1 h2) T' rfl X'
  exact ⟨t2, go t2 a1, b1⟩
theorem jc_getR {k t ci j idx N : Nat} {C : String} {T : u_T} (S : CallFix p m c cc nL s args tbg own) (hK : va_K (gD G) vwCl (tyL G) s) (hP : va_P (gD G) vwCl (wld G M) H) (hk : k < gN G) (hty : gty G k = ci) (hc : vwCl[ci]? = some (C, T, N)) (hc20 : ci < 20) (hin : ∀ w ∈ u_ws C T N, w ∈ tbg) (hj : j < N) (hrf : grf G k j = some t) (hlink : Cond.fieldLink own idx (T j).1 (T j).2.1 (T j).2.2.1 ∈ tbg) (hd : decode cc pc = .ok (.getfield idx, 3)) (kk : W p l e R s m args below meth c H locs cells slots Q (F0 m (pc + 3) ls (.ref (gad G t) :: rest))) : W p l e R s m args below meth c H locs cells slots Q (F0 m pc ls (.ref (gad G k) :: rest)) := by
  have hN : ncl ci = N := by simp [ncl, hc]
  refine va_get S.1 S.2.1 S.2.2.2.2 hin S.2.2.2.1 hK hP k (by rw [wld_get hk, cell_obj hty hc20]) hc j hj (S.2.2.2.2 _ hlink) (fun _ h => h) (v := .ref (gad G t)) ?_ hd kk
  rw [fd_get hN hj]; simp [fdV, hrf]
theorem jc_putI {k ci j idx N : Nat} {C : String} {T : u_T} {v : Int32} (S : CallFix p m c cc nL s args tbg own) (hK : va_K (gD G) vwCl (tyL G) s) (hI : jInj G) (hP : va_P (gD G) vwCl (wld G M) H) (hS : va_S A H0 H locs) (hjA : ∀ q, jA G q → A q) (hk : k < gN G) (hty : gty G k = ci) (hc : vwCl[ci]? = some (C, T, N)) (hc20 : ci < 20) (hin : ∀ w ∈ u_ws C T N, w ∈ tbg) (ty0 : Nat → FieldType) (htys : ∀ k, k < N → parseFieldDescriptor (T k).2.2.1 = some (ty0 k)) (hnm : ∀ a, a < N → ∀ b, b < N → a ≠ b → (T a).2.1 ≠ (T b).2.1) (hj : j < N) (hrf : grf G k j = none) (hlink : Cond.fieldLink own idx (T j).1 (T j).2.1 (T j).2.2.1 ∈ tbg) (hfin : (T j).2.2.2 = false) (hdc : parseFieldDescriptor (T j).2.2.1 = some .int) (hd : decode cc pc = .ok (.putfield idx, 3)) (kk : ∀ (H1 : Heap) (locs1 : List Loc), va_P (gD G) vwCl (wld G (up2 M k j v)) H1 → va_S A H0 H1 locs1 → W p l e R s m args below meth c H1 locs1 cells slots Q (F0 m (pc + 3) ls rest)) : W p l e R s m args below meth c H locs cells slots Q (F0 m pc ls (.int v :: .ref (gad G k) :: rest)) := by
  have hN : ncl ci = N := by simp [ncl, hc]
  refine va_put S.1 S.2.1 S.2.2.2.2 hin ty0 htys hnm S.2.2.2.1 hK hP ((wld_D hI M).weaken (fun _ _ _ h => hjA _ h)) hS k (by rw [wld_get hk, cell_obj hty hc20]) hc j hj (S.2.2.2.2 _ hlink) (fun _ h => h) hfin hdc (vp_nar_int v) rfl (by simp [hN, hj]) hd (fun H1 locs1 hP1 _ hS1 => ?_)
  rw [wld_set (M' := up2 M k j v) hk (fun a h => up2_ne h) (by rw [cell_obj hty hc20, hN, fd_set hj hrf])] at hP1
  exact kk H1 locs1 hP1 hS1
theorem jc_iast {k n : Nat} {i v : Int32} (S : CallFix p m c cc nL s args tbg own) (hK : va_K (gD G) vwCl (tyL G) s) (hI : jInj G) (hP : va_P (gD G) vwCl (wld G M) H) (hS : va_S A H0 H locs) (hjA : ∀ q, jA G q → A q) (hk : k < gN G) (hty : gty G k = 20) (hn : gln G k = n) (hin : 0 ≤ i.toInt ∧ i.toInt < n) (hd : decode cc pc = .ok (.iastore, 1)) (kk : ∀ (H1 : Heap) (locs1 : List Loc), va_P (gD G) vwCl (wld G (up2 M k i.toNatClampNeg v)) H1 → va_S A H0 H1 locs1 → W p l e R s m args below meth c H1 locs1 cells slots Q (F0 m (pc + 1) ls rest)) : W p l e R s m args below meth c H locs cells slots Q (F0 m pc ls (.int v :: .int i :: .ref (gad G k) :: rest)) := by
  refine va_iast S.1 S.2.1 hK hP ((wld_D hI M).weaken (fun _ _ _ h => hjA _ h)) hS k 0 (by rw [wld_get hk, cell_arr hty hn (Or.inl rfl)]) rfl (in_of hin) hd (fun H1 locs1 hP1 _ hS1 => ?_)
  rw [ja_set hk hty hn (Or.inl rfl), ← up2_eq] at hP1
  exact kk H1 locs1 hP1 hS1
end JC0
