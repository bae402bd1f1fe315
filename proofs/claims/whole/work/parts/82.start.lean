theorem tw_75 : Cond.classLink "DonkeyVerdictsLaw" 7 "DonkeyVerdicts" ∈ tbg := tbg_in (List.mem_of_getElem? (l := tables_1_1) (i := 19) rfl) tq_1 rfl
theorem tw_76 : Cond.instantiable RX9 10 ∈ tbg := tbg_in (List.mem_of_getElem? (l := tables_1_1) (i := 20) rfl) tq_1 rfl
theorem tw_77 : Cond.methodLink "DonkeyVerdictsLaw" 9 yX9_init ∈ tbg := tbg_in (List.mem_of_getElem? (l := tables_1_1) (i := 21) rfl) tq_1 rfl
theorem tw_78 : Cond.instanceMethod yX9_init ∈ tbg := tbg_in (List.mem_of_getElem? (l := tables_1_1) (i := 22) rfl) tq_1 rfl
theorem tw_79 : Cond.code yX9_init cX9_init 2 none ∈ tbg := tbg_in (List.mem_of_getElem? (l := tables_1_1) (i := 23) rfl) tq_1 rfl
theorem tw_887 : Cond.classLink "DonkeyVerdictsLaw" 10 "DonkeyVerdictsModel" ∈ tbg := tbg_in (List.mem_of_getElem? (l := tables_1_4) (i := 111) rfl) tq_4 rfl
theorem tw_888 : Cond.instantiable RX10 30 ∈ tbg := tbg_in (List.mem_of_getElem? (l := tables_1_4) (i := 112) rfl) tq_4 rfl
theorem tw_889 : Cond.methodLink "DonkeyVerdictsLaw" 12 yX10_init ∈ tbg := tbg_in (List.mem_of_getElem? (l := tables_1_4) (i := 113) rfl) tq_4 rfl
theorem tw_890 : Cond.instanceMethod yX10_init ∈ tbg := tbg_in (List.mem_of_getElem? (l := tables_1_4) (i := 114) rfl) tq_4 rfl
theorem tw_891 : Cond.code yX10_init cX10_init 1 none ∈ tbg := tbg_in (List.mem_of_getElem? (l := tables_1_4) (i := 115) rfl) tq_4 rfl
/-! THE LAW: its start -/
theorem lt_str : Cond.stringRef RX9 75 fct ∈ lw_tbl := tq_1 _ (List.mem_of_getElem? (l := tables_1_1) (i := 184) rfl)
theorem lt_n9 : Cond.methodLinkNest RX9 9 yX5_init RX9 ∈ lw_tbl := tq_1 _ (List.mem_of_getElem? (l := tables_1_1) (i := 29) rfl)
theorem lt_n18 : Cond.methodLinkNest RX9 18 yX7_init RX9 ∈ lw_tbl := tq_1 _ (List.mem_of_getElem? (l := tables_1_1) (i := 43) rfl)
theorem lt_n25 : Cond.methodLinkNest RX9 25 yX1_init RX9 ∈ lw_tbl := tq_1 _ (List.mem_of_getElem? (l := tables_1_1) (i := 60) rfl)
theorem lt_cs : Cond.laysStatic "java/lang/String" "COMPACT_STRINGS" "Z" ∈ lw_tbl := tq_1 _ (List.mem_of_getElem? (l := tables_1_1) (i := 194) rfl)
theorem lt_sf : Cond.laysStatic "jdk/internal/util/Preconditions" "SIOOBE_FORMATTER" "Ljava/util/function/BiFunction;" ∈ lw_tbl := tq_1 _ (List.mem_of_getElem? (l := tables_1_1) (i := 210) rfl)
theorem lt_is : Cond.initialized "java/lang/String" ∈ lw_tbl := tq_1 _ (List.mem_of_getElem? (l := tables_1_1) (i := 10) rfl)
theorem lt_ip : Cond.initialized "jdk/internal/util/Preconditions" ∈ lw_tbl := tq_1 _ (List.mem_of_getElem? (l := tables_1_1) (i := 12) rfl)
theorem lt_ao : Cond.arrayOver (.object "DonkeyVerdicts$Herd") ∈ lw_tbl := tq_1 _ (List.mem_of_getElem? (l := tables_1_1) (i := 124) rfl)
theorem lt_aint : Cond.arrayClass .int ∈ lw_tbl := tq_1 _ (List.mem_of_getElem? (l := tables_1_1) (i := 57) rfl)
theorem lt_abyte : Cond.arrayClass .byte ∈ lw_tbl := tq_2 _ (List.mem_of_getElem? (l := tables_1_2) (i := 155) rfl)
theorem lt_achar : Cond.arrayClass .char ∈ lw_tbl := tq_1 _ (List.mem_of_getElem? (l := tables_1_1) (i := 40) rfl)
def t75 : Term := Term.string "DonkeyVerdicts" 75
def v75 : Term := Term.field t75 "java/lang/String" "value" "[B"
theorem el_in : ∀ j, j < 120 → Cond.eq (.elem v75 (.int (Int32.ofNat j))) (.int (fcB j)) ∈ flatC (Jvm.Cond.and given_1 narrow_1) := by decide +kernel
theorem ex_in : Cond.exactly t75 "java/lang/String" ∈ flatC (Jvm.Cond.and given_1 narrow_1) := by decide +kernel
theorem co_in : Cond.eq (.field t75 "java/lang/String" "coder" "B") (.int 0) ∈ flatC (Jvm.Cond.and given_1 narrow_1) := by decide +kernel
theorem ar_in : Cond.arrayOf v75 .byte ∈ flatC (Jvm.Cond.and given_1 narrow_1) := by decide +kernel
theorem le_in : Cond.eq (.length v75) (.int (Int32.ofNat 120)) ∈ flatC (Jvm.Cond.and given_1 narrow_1) := by decide +kernel
theorem cs_in : Cond.eq (.static "java/lang/String" "COMPACT_STRINGS" "Z") (.int 1) ∈ flatC (Jvm.Cond.and given_1 narrow_1) := by decide +kernel
theorem sf_in : Cond.isRef (.static "jdk/internal/util/Preconditions" "SIOOBE_FORMATTER" "Ljava/util/function/BiFunction;") ∈ flatC (Jvm.Cond.and given_1 narrow_1) := by decide +kernel
/-- the first court's text stands at the start -/
theorem str_start {args : Array Value} {s : State} {A : Nat → Prop} (hgv : (Jvm.Cond.and given_1 narrow_1).before args s = true) (hts : ∀ w ∈ lw_tbl, w.before args s = true) (hA : ∀ a : Nat, a < s.heap.size → ¬ A a) : ∃ a v, STR A a v s s.heap ∧ vk_R RX9 75 fct a s := by
  have hs := flat_of_before _ hgv
  obtain ⟨a, c, cA, kA, q1, q2, q3, q4, q5, q6, -⟩ := Cond.exactly_spec (args := args) (first := s) (o := none) (s := s) (idx := []) (t := t75) (cls := "java/lang/String") (hs _ ex_in)
  obtain ⟨t, ht, hT⟩ := va_Tof (f := fun j => .int (fcB j)) (A := A) (N := 120) (by decide) (hs _ ar_in) (va_eqt (hs _ le_in)) (fun j hj => va_eqt (hs _ (el_in j hj))) hA
  exact ⟨a, t, ⟨⟨cA, q3, q5, by rw [q6]; exact q2, hA a (Array.getElem?_eq_some_iff.mp q3).1⟩, vk_OFof q1 (va_eqt (hs _ co_in)) hA, vk_OFof q1 ht hA, hT, va_Zof (hts _ lt_cs) (hts _ lt_is) (va_eqt (hs _ cs_in)) hA, va_Zqof (hts _ lt_sf) (hts _ lt_ip) (hs _ sf_in) hA⟩, vk_R.of (hts _ lt_str) q1⟩
theorem arr_start {args : Array Value} {s : State} {ty : FieldType} (hty : ∀ C, ty ≠ .object C) (h : (Cond.arrayClass ty).before args s = true) : ∃ cA, ArrOfT s cA ty ∧ va_RA s cA ty := by
  obtain ⟨cA, kA, comp, h1, h2, h3⟩ := Cond.arrayClass_spec h
  refine ⟨cA, fun n z => ⟨fun k h => (by cases h), kA, h2, comp, h3⟩, ?_⟩
  cases ty with
  | object C => exact absurd rfl (hty C)
  | _ => exact h1
theorem ref_start {args : Array Value} {s : State} {C : String} (h : (Cond.arrayOver (.object C)).before args s = true) : ∃ cA, ArrOfT s cA (.object C) ∧ va_RA s cA (.object C) := by
  obtain ⟨comp, cA, kA, h1, h2, h3, h4, h5⟩ := Cond.arrayOver_spec h
  exact ⟨cA, fun n z => ⟨fun k h => (by cases h), kA, h3, comp, h4⟩, kA, comp, h3, h4, h1, h5⟩
theorem app_L {D : va_G} {w1 w2 : va_W} {H : Heap} (h : va_P D vwCl (w1 ++ w2) H) : va_P D vwCl w1 H := fun k q hq => h k q (by rw [List.getElem?_append_left (List.getElem?_eq_some_iff.mp hq).1]; exact hq)
theorem app_R {D : va_G} {w1 w2 : va_W} {H : Heap} (h : va_P D vwCl (w1 ++ w2) H) : va_P D vwCl w2 H := fun k q hq => h (w1.length + k) q (by rw [List.getElem?_append_right (by omega), show w1.length + k - w1.length = k by omega]; exact hq)
theorem appD_L {A : Nat → Prop} {w1 w2 : va_W} (h : va_D A (w1 ++ w2)) : va_D A w1 := ⟨fun i j p q h1 h2 h3 => h.1 i j p q (by rw [List.getElem?_append_left (List.getElem?_eq_some_iff.mp h1).1]; exact h1) (by rw [List.getElem?_append_left (List.getElem?_eq_some_iff.mp h2).1]; exact h2) h3, fun k q hq => h.2 k q (by rw [List.getElem?_append_left (List.getElem?_eq_some_iff.mp hq).1]; exact hq)⟩
theorem appD_R {A : Nat → Prop} {w1 w2 : va_W} (h : va_D A (w1 ++ w2)) : va_D A w2 := by
  have e : ∀ (k : Nat) (q : Nat × va_E), w2[k]? = some q → (w1 ++ w2)[w1.length + k]? = some q := fun k q hq => by
    rw [List.getElem?_append_right (by omega), show w1.length + k - w1.length = k by omega]; exact hq
  refine ⟨fun i j p q h1 h2 h3 => ?_, fun k q hq => h.2 _ q (e k q hq)⟩
  have := h.1 _ _ p q (e i p h1) (e j q h2) h3
  omega
theorem appD_X {A : Nat → Prop} {G G' : jS} {M M' : Mem} (h : va_D A (wld G M ++ wld G' M')) : ∀ q, jA G q → ¬ jA G' q := by
  intro q h1 h2
  obtain ⟨i, hi, e1⟩ := h1
  obtain ⟨j, hj, e2⟩ := h2
  have a1 := wld_get (M := M) hi
  have a2 := wld_get (M := M') hj
  have hl : i < (wld G M).length := (List.getElem?_eq_some_iff.mp a1).1
  have := h.1 i ((wld G M).length + j) _ _ (by rw [List.getElem?_append_left hl]; exact a1) (by rw [List.getElem?_append_right (by omega), show (wld G M).length + j - (wld G M).length = j by omega]; exact a2) (by rw [← e1, ← e2])
  omega
section C9
variable {p : Program} {l : Launch} {e : Env} {R : Room} {s : State} {m : MethodId} {args : Array Value} {below : List Frame} {meth : Method} {c : Code} {H : Heap} {locs : List Loc} {cells slots : Nat} {Q : State → Prop}
variable {cc : ByteArray} {pc : Nat} {ls : Array Slot} {rest : List Value} {D : va_G} {cA : Nat → ClassId} {A : Nat → Prop} {ws : va_W} {H0 : Heap}
theorem c_call9 {q mc ms nL nL' index a v : Nat} {post : (Nat → Nat) → va_W} {cc' : ByteArray} {own : String} (hM : ∀ sz, Met l yX9_init (Cond.code yX9_init cc' nL' none :: tbg) r9 (cPre9 D cA q sz a v) (cPost D [(q, e9)] sz post) mc ms (va_A [(q, e9)] sz)) (S : CallFix p m c cc nL s args tbg own)
    (hw : Cond.code yX9_init cc' nL' none ∈ tbg ∧ Cond.initialized yX9_init.cls ∈ tbg ∧ Cond.methodLink own index yX9_init ∈ tbg ∧ Cond.instanceMethod yX9_init ∈ tbg) (hy : yX9_init.name = "<init>" ∧ (yX9_init.cls ≠ "java/lang/invoke/MethodHandle" ∧ yX9_init.cls ≠ "java/lang/invoke/VarHandle" ∧ (parseMethodDescriptor yX9_init.desc).map (fun d => d.parameters.length) = some 0)) (hR : r9.frames + 1 ≤ R.frames ∧ 8 + (nL' + 11) + r9.locals ≤ R.locals) (hcs : r9.cells = mc ∧ r9.slots = ms) (hf : cells + mc ≤ R.cells ∧ slots + ms ≤ R.slots)
    (hK : va_K D vwCl (tyC cA) s) (hAO : va_AO "DonkeyVerdicts$Herd" s) (hP : va_P D vwCl (ws ++ [(q, e9)]) H) (hD : va_D A (ws ++ [(q, e9)])) (hS : va_S A H0 H locs) (hA : ∀ q, H0.size ≤ q → A q) (hT : STR A a v s H0) (hRf : vk_R RX9 75 fct a s) (hN : va_Nw (.methodLinkNest RX9 9 yX5_init RX9) s ∧ va_Nw (.methodLinkNest RX9 18 yX7_init RX9) s ∧ va_Nw (.methodLinkNest RX9 25 yX1_init RX9) s) (hsz : ls.size = nL) (hst : (rest.map fun v => v.category).sum ≤ 8) (hdg : decode cc pc = .ok (.invokespecial index, 3))
    (kk : ∀ (f : Nat → Nat) (H1 : Heap) (locs1 : List Loc), va_P D vwCl (ws ++ post f) H1 → va_D A (ws ++ post f) → va_S A H0 H1 locs1 → W p l e R s m args below meth c H1 locs1 (cells + mc) (slots + ms) Q (F0 m (pc + 3) ls rest)) : W p l e R s m args below meth c H locs cells slots Q (F0 m pc ls (.ref q :: rest)) := by
  have hts := S.2.2.2.2
  have hPc : va_P D vwCl [(q, e9)] H := hP.sub [ws.length] (by simp)
  have hDc : va_D (fun _ => True) [(q, e9)] := ⟨fun i j a b h1 h2 _ => by
    have := (List.getElem?_eq_some_iff.mp h1).1
    have := (List.getElem?_eq_some_iff.mp h2).1
    simp at *; omega, fun _ _ _ => trivial⟩
  have hq : (ws ++ [(q, e9)])[ws.length]? = some (q, e9) := by simp
  have hF : ∀ x, va_A [(q, e9)] H.size x → A x := by
    intro x hx
    rcases hx with ⟨k, e', hk⟩ | hx
    · have hk0 : k < 1 := (List.getElem?_eq_some_iff.mp hk).1
      rw [show k = 0 by omega] at hk
      cases hk
      exact hD.2 _ _ hq
    · exact hA x (Nat.le_trans hS.1 hx)
  exact c_after (va_runI (As := []) (rest := rest) S (hM H.size) (cwI 0 hts (gi_c hw.1) rfl hcs.1 hcs.2 (hts _ hw.2.1) (hts _ hw.2.2.1) (hts _ hw.2.2.2) hy.1 hy.2 hR) ⟨cPre9_blind _ _ _ _ _ _, fun U hU hW => ⟨rfl, ⟨by rw [hU], by rw [hU]; exact hPc, va_K.moved hW.alike hK, hDc, va_AO.moved hW.alike hAO⟩, by show STR _ a v U U.heap; rw [hU]; exact STR.moved hW.alike ((hT.kept hS.2.1).narrow hF), vk_R.warm hW hRf, va_Nw.warmM hW hN.1, va_Nw.warmM hW hN.2.1, va_Nw.warmM hW hN.2.2⟩⟩ rfl rfl hsz rfl (lv_room hst) hdg hf) hP hD hS hA kk
end C9
theorem dL_law_0 : decode cL_law 0 = .ok (.new 7, 3) := by decide +kernel
theorem dL_law_3 : decode cL_law 3 = .ok (.dup, 1) := by decide +kernel
theorem dL_law_4 : decode cL_law 4 = .ok (.invokespecial 9, 3) := by decide +kernel
theorem dL_law_7 : decode cL_law 7 = .ok (.astore_n 1, 1) := by decide +kernel
theorem dL_law_8 : decode cL_law 8 = .ok (.new 10, 3) := by decide +kernel
theorem dL_law_11 : decode cL_law 11 = .ok (.dup, 1) := by decide +kernel
theorem dL_law_12 : decode cL_law 12 = .ok (.invokespecial 12, 3) := by decide +kernel
theorem dL_law_15 : decode cL_law 15 = .ok (.astore_n 2, 1) := by decide +kernel
theorem dL_law_16 : decode cL_law 16 = .ok (.iconst 0, 1) := by decide +kernel
theorem dL_law_17 : decode cL_law 17 = .ok (.istore_n 3, 1) := by decide +kernel
set_option maxHeartbeats 8000000 in
set_option maxRecDepth 100000 in
/-- YOUR PART: from the entry, for every script of at most 2560 ints, the law comes to its end with true -/
theorem whole_start {p : Program} {e : Env} {s : State} {m : MethodId} {below : List Frame} {meth : Method} {c : Code} (l : Launch) {b L : Nat} {xs : Nat → Int32} (hL : L ≤ 2560) (C0 : lw_At p s m meth c b L xs) : W p l e room_1 s m #[Value.ref b] below meth c s.heap [] 0 0 (lw_Z below #[Value.ref b] s) (entryFrame m ([Value.ref b] : List Value).toArray 4) := by
  obtain ⟨hx, hb, hr, hml, hown, htl, hX, hbl, hlocks, hgv⟩ := id C0
  have hown : s.vm.findClass RL = some m.cls := hown
  have hts : ∀ w ∈ tbg, w.before #[Value.ref b] s = true := fun w hw => htl w (List.mem_filter.mp hw).1
  obtain ⟨Af, Bf, eX, eM, hrel⟩ := start_ok (fu := 1001) (by decide)
  obtain ⟨a, v, hT, hRf⟩ := str_start (A := lA s) hgv htl (fun q h => Nat.not_le.mpr h)
  have hN9 := va_Nw.of rfl (htl _ lt_n9)
  have hN18 := va_Nw.of rfl (htl _ lt_n18)
  have hN25 := va_Nw.of rfl (htl _ lt_n25)
  have hAO : va_AO "DonkeyVerdicts$Herd" s := va_AO.of (htl _ lt_ao)
  obtain ⟨aI, hI1, hI2⟩ := arr_start (ty := .int) (fun C h => by cases h) (htl _ lt_aint)
  obtain ⟨aB, hB1, hB2⟩ := arr_start (ty := .byte) (fun C h => by cases h) (htl _ lt_abyte)
  obtain ⟨aC, hC1, hC2⟩ := arr_start (ty := .char) (fun C h => by cases h) (htl _ lt_achar)
  obtain ⟨aR, hR1, hR2⟩ := ref_start (htl _ lt_ao)
  obtain ⟨c0, i0, hKn0⟩ := u_known (C := RX0) (T := TX0) (N := 1) (n := 1) hts inX0 (hts _ tw_229)
  obtain ⟨c1, i1, hKn1⟩ := u_known (C := RX1) (T := TX1) (N := 13) (n := 13) hts inX1 (hts _ tw_115)
  obtain ⟨c2, i2, hKn2⟩ := u_known (C := RX2) (T := TX2) (N := 4) (n := 4) hts inX2 (hts _ tw_208)
  obtain ⟨c3, i3, hKn3⟩ := u_known (C := RX3) (T := TX3) (N := 2) (n := 2) hts inX3 (hts _ tw_193)
  obtain ⟨c4, i4, hKn4⟩ := u_known (C := RX4) (T := TX4) (N := 2) (n := 2) hts inX4 (hts _ tw_161)
  obtain ⟨c5, i5, hKn5⟩ := u_known (C := RX5) (T := TX5) (N := 2) (n := 2) hts inX5 (hts _ tw_84)
  obtain ⟨c6, i6, hKn6⟩ := u_known (C := RX7) (T := TX7) (N := 3) (n := 3) hts inX7 (hts _ tw_98)
  obtain ⟨c7, i7, hKn7⟩ := u_known (C := RX8) (T := TX8) (N := 3) (n := 3) hts inX8 (hts _ tw_174)
  obtain ⟨c8, i8, hKn8⟩ := u_known (C := RX9) (T := TX9) (N := 10) (n := 10) hts inX9 (hts _ tw_76)
  obtain ⟨c9, i9, hKn9⟩ := u_known (C := RX10) (T := TX10) (N := 30) (n := 30) hts inX10 (hts _ tw_888)
  obtain ⟨D, hKc⟩ : ∃ D : va_G, ∀ (k : Nat) (q : vw_C), vwCl[k]? = some q → u_Kn s q.1 q.2.1 q.2.2 (D.1 k) (D.2 k) := by
    refine ⟨(fun k => [c0, c1, c2, c3, c4, c5, c6, c7, c8, c9].getD k c0, fun k => [i0, i1, i2, i3, i4, i5, i6, i7, i8, i9].getD k i0), ?_⟩
    intro k q hq
    match k, hq with
    | 0, hq => cases hq; exact hKn0
    | 1, hq => cases hq; exact hKn1
    | 2, hq => cases hq; exact hKn2
    | 3, hq => cases hq; exact hKn3
    | 4, hq => cases hq; exact hKn4
    | 5, hq => cases hq; exact hKn5
    | 6, hq => cases hq; exact hKn6
    | 7, hq => cases hq; exact hKn7
    | 8, hq => cases hq; exact hKn8
    | 9, hq => cases hq; exact hKn9
    | k + 10, hq => simp [vwCl] at hq
  obtain ⟨cA, hcA⟩ : ∃ cA : Nat → ClassId, cA = fun k => if k = 20 then aI else if k = 21 then aB else if k = 22 then aC else aR := ⟨_, rfl⟩
  have hK : va_K D vwCl (tyC cA) s := by
    refine ⟨hKc, fun k q hq => ?_⟩
    subst hcA
    match k, hq with
    | 0, hq => cases hq; exact ⟨hI1, hI2⟩
    | 1, hq => cases hq; exact ⟨hB1, hB2⟩
    | 2, hq => cases hq; exact ⟨hC1, hC2⟩
    | 3, hq => cases hq; exact ⟨hR1, hR2⟩
    | k + 4, hq => simp [tyC] at hq
  have hA : ∀ q : Nat, s.heap.size ≤ q → lA s q := fun _ h => h
  have hS : va_S (lA s) s.heap s.heap [] := va_S.rf
  have hP : va_P D vwCl [] s.heap := fun k q h => by simp at h
  have hD : va_D (lA s) [] := ⟨fun i j p q h => by simp at h, fun k q h => by simp at h⟩
  have hl := lv_entry ([.ref b]) (n := 4) (Nat.le_of_ble_eq_true rfl)
  rw [lg_entry_eq]
  generalize (lg_sl ([.ref b]) ++ List.replicate (4 - (lg_sl ([.ref b])).length) Slot.unset).toArray = ls at hl ⊢
  have hl : lv_has ls 4 [(0, .ref b)] := hl
  refine va_new (ci := 8) (fs := [.null, .null, .null, .null, .null, .null, .null, .null, .null, .null]) (C := RX9) (T := TX9) (N := 10) hx hb hts inX9 tyX9 tyX9_ok hown (hts _ tw_75) (hts _ tw_76) (hts _ tw_57) hK hP hD hS hA rfl (fun j hj => by match j, hj with | 0, _ => rfl | 1, _ => rfl | 2, _ => rfl | 3, _ => rfl | 4, _ => rfl | 5, _ => rfl | 6, _ => rfl | 7, _ => rfl | 8, _ => rfl | 9, _ => rfl | z + 10, h9 => exact absurd h9 (by omega)) (Nat.le_of_ble_eq_true rfl) (Nat.le_of_ble_eq_true rfl) dL_law_0 (fun q0 H hP hD hS => ?_)
  have hP : va_P D vwCl ([] ++ [(q0, e9)]) H := hP
  have hD : va_D (lA s) ([] ++ [(q0, e9)]) := hD
  refine lv_dup hx hb dL_law_3 rfl ?_
  refine c_call9 (ws := []) (fun sz => k_X9 l D cA q0 a v 1001 Af eX sz) ⟨hx, hb, hml, hown, hts⟩ ⟨tw_79, tw_57, tw_77, tw_78⟩ (by decide +kernel) ⟨(Nat.le_of_ble_eq_true rfl), (Nat.le_of_ble_eq_true rfl)⟩ ⟨rfl, rfl⟩ ⟨(Nat.le_of_ble_eq_true rfl), (Nat.le_of_ble_eq_true rfl)⟩ hK hAO hP hD hS hA hT hRf ⟨hN9, hN18, hN25⟩ hl.1 (Nat.le_of_ble_eq_true rfl) dL_law_4 (fun f H locs hP hD hS => ?_)
  obtain ⟨EX, hEX⟩ : ∃ EX : jE, EX = (D, (fun k => if k = 0 then q0 else f k), cA) := ⟨_, rfl⟩
  have hP : va_P D vwCl (wld (gX EX) Af) H := by rw [hEX]; exact hP
  have hD : va_D (lA s) (wld (gX EX) Af) := by rw [hEX]; exact hD
  refine lv_astore_n (lv' := [(1, .ref q0), (0, .ref b)]) hx hb dL_law_7 rfl hl (by decide) rfl (fun ls hl => ?_)
  refine va_new (ci := 9) (fs := [.int 0, .null, .null, .int 0, .int 0, .null, .null, .int 0, .null, .null, .int 0, .null, .int 0, .int 0, .null, .null, .int 0, .null, .null, .null, .int 0, .int 0, .int 0, .null, .int 0, .int 0, .int 0, .null, .null, .null]) (C := RX10) (T := TX10) (N := 30) hx hb hts inX10 tyX10 tyX10_ok hown (hts _ tw_887) (hts _ tw_888) (hts _ tw_72) hK hP hD hS hA rfl (fun j hj => by match j, hj with | 0, _ => rfl | 1, _ => rfl | 2, _ => rfl | 3, _ => rfl | 4, _ => rfl | 5, _ => rfl | 6, _ => rfl | 7, _ => rfl | 8, _ => rfl | 9, _ => rfl | 10, _ => rfl | 11, _ => rfl | 12, _ => rfl | 13, _ => rfl | 14, _ => rfl | 15, _ => rfl | 16, _ => rfl | 17, _ => rfl | 18, _ => rfl | 19, _ => rfl | 20, _ => rfl | 21, _ => rfl | 22, _ => rfl | 23, _ => rfl | 24, _ => rfl | 25, _ => rfl | 26, _ => rfl | 27, _ => rfl | 28, _ => rfl | 29, _ => rfl | z + 30, h9 => exact absurd h9 (by omega)) (Nat.le_of_ble_eq_true rfl) (Nat.le_of_ble_eq_true rfl) dL_law_8 (fun q1 H hP hD hS => ?_)
  refine lv_dup hx hb dL_law_11 rfl ?_
  refine c_callI (n := 0) (ws := wld (gX EX) Af) [] (k_X10 l D cA q1 1001 Bf eM) ⟨hx, hb, hml, hown, hts⟩ ⟨tw_891, tw_72, tw_889, tw_890⟩ (by decide +kernel) ⟨(Nat.le_of_ble_eq_true rfl), (Nat.le_of_ble_eq_true rfl)⟩ ⟨rfl, rfl⟩ ⟨(Nat.le_of_ble_eq_true rfl), (Nat.le_of_ble_eq_true rfl)⟩ hK hAO hP hD hS hA rfl hl.1 (Nat.le_of_ble_eq_true rfl) dL_law_12 rfl (fun g H locs hP hD hS => ?_)
  obtain ⟨EM, hEM⟩ : ∃ EM : jE, EM = (D, (fun k => if k = 0 then q1 else g k), cA) := ⟨_, rfl⟩
  have hP : va_P D vwCl (wld (gX EX) Af ++ wld (gM EM) Bf) H := by rw [hEM]; exact hP
  have hD : va_D (lA s) (wld (gX EX) Af ++ wld (gM EM) Bf) := by rw [hEM]; exact hD
  refine lv_astore_n (lv' := [(2, .ref q1), (1, .ref q0), (0, .ref b)]) hx hb dL_law_15 rfl hl (by decide) rfl (fun ls hl => ?_)
  refine lv_iconst (v := nI 0) hx hb dL_law_16 (by decide) ?_
  refine lv_istore_n (lv' := [(3, .int (nI 0)), (2, .ref q1), (1, .ref q0), (0, .ref b)]) hx hb dL_law_17 rfl hl (by decide) rfl (fun ls hl => ?_)
  have C : lwX p s m c b L xs EX EM := ⟨⟨hx, hb, hml, hown, hts⟩, ⟨hX, hbl, hL⟩, ⟨by rw [hEX]; exact hK, by rw [hEM]; exact hK⟩, ⟨inj_of (appD_L hD), inj_of (appD_R hD)⟩, jA_of (appD_L hD), jA_of (appD_R hD), appD_X hD⟩
  exact law_loop C hr hlocks ⟨(Nat.le_of_ble_eq_true rfl), (Nat.le_of_ble_eq_true rfl)⟩ (L + 1) 0 Af Bf H locs ls (by omega) (by omega) hrel (by rw [hEX, hEM]; exact hl) ⟨by have := app_L hP; rw [hEX] at this ⊢; exact this, by have := app_R hP; rw [hEM] at this ⊢; exact this, hS⟩
