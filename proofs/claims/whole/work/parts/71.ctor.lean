/-! CONSTRUCTORS of the class's parts -/
theorem tw_81 : Cond.instanceMethod Jvm.Lib.objectInit ∈ tbg := tbg_in (List.mem_of_getElem? (l := tables_1_1) (i := 25) rfl) tq_1 rfl
theorem tw_82 : Cond.code Jvm.Lib.objectInit ⟨#[0xb1]⟩ 1 none ∈ tbg := tbg_in (List.mem_of_getElem? (l := tables_1_1) (i := 26) rfl) tq_1 rfl
theorem tw_88 : Cond.methodLink "DonkeyVerdicts$Letters" 3 Jvm.Lib.objectInit ∈ tbg := tbg_in (List.mem_of_getElem? (l := tables_1_1) (i := 32) rfl) tq_1 rfl
theorem tw_96 : Cond.arrayClass FieldType.char ∈ tbg := tbg_in (List.mem_of_getElem? (l := tables_1_1) (i := 40) rfl) tq_1 rfl
theorem tw_102 : Cond.methodLink "DonkeyVerdicts$Scribe" 3 Jvm.Lib.objectInit ∈ tbg := tbg_in (List.mem_of_getElem? (l := tables_1_1) (i := 46) rfl) tq_1 rfl
theorem tw_113 : Cond.arrayClass FieldType.int ∈ tbg := tbg_in (List.mem_of_getElem? (l := tables_1_1) (i := 57) rfl) tq_1 rfl
theorem tw_119 : Cond.methodLink "DonkeyVerdicts$Court" 3 Jvm.Lib.objectInit ∈ tbg := tbg_in (List.mem_of_getElem? (l := tables_1_1) (i := 63) rfl) tq_1 rfl
theorem tw_161 : Cond.instantiable RX4 2 ∈ tbg := tbg_in (List.mem_of_getElem? (l := tables_1_1) (i := 105) rfl) tq_1 rfl
theorem tw_163 : Cond.instanceMethod yX4_init ∈ tbg := tbg_in (List.mem_of_getElem? (l := tables_1_1) (i := 107) rfl) tq_1 rfl
theorem tw_164 : Cond.code yX4_init cX4_init 2 none ∈ tbg := tbg_in (List.mem_of_getElem? (l := tables_1_1) (i := 108) rfl) tq_1 rfl
theorem tw_165 : Cond.methodLink "DonkeyVerdicts$Herd" 5 Jvm.Lib.objectInit ∈ tbg := tbg_in (List.mem_of_getElem? (l := tables_1_1) (i := 109) rfl) tq_1 rfl
theorem tw_178 : Cond.methodLink "DonkeyVerdicts$Shelf" 1 Jvm.Lib.objectInit ∈ tbg := tbg_in (List.mem_of_getElem? (l := tables_1_1) (i := 122) rfl) tq_1 rfl
theorem tw_179 : Cond.classLink "DonkeyVerdicts$Shelf" 16 "DonkeyVerdicts$Herd" ∈ tbg := tbg_in (List.mem_of_getElem? (l := tables_1_1) (i := 123) rfl) tq_1 rfl
theorem tw_181 : Cond.methodLink "DonkeyVerdicts$Shelf" 22 yX4_init ∈ tbg := tbg_in (List.mem_of_getElem? (l := tables_1_1) (i := 125) rfl) tq_1 rfl
theorem tw_197 : Cond.methodLink "DonkeyVerdicts$Foresight" 3 Jvm.Lib.objectInit ∈ tbg := tbg_in (List.mem_of_getElem? (l := tables_1_1) (i := 141) rfl) tq_1 rfl
theorem tw_198 : Cond.classLink "DonkeyVerdicts$Foresight" 15 "DonkeyVerdicts$Herd" ∈ tbg := tbg_in (List.mem_of_getElem? (l := tables_1_1) (i := 142) rfl) tq_1 rfl
theorem tw_199 : Cond.methodLink "DonkeyVerdicts$Foresight" 17 yX4_init ∈ tbg := tbg_in (List.mem_of_getElem? (l := tables_1_1) (i := 143) rfl) tq_1 rfl
theorem tw_212 : Cond.methodLink "DonkeyVerdicts$Dealer" 3 Jvm.Lib.objectInit ∈ tbg := tbg_in (List.mem_of_getElem? (l := tables_1_1) (i := 156) rfl) tq_1 rfl
theorem tw_213 : Cond.classLink "DonkeyVerdicts$Dealer" 22 "DonkeyVerdicts$Herd" ∈ tbg := tbg_in (List.mem_of_getElem? (l := tables_1_1) (i := 157) rfl) tq_1 rfl
theorem tw_214 : Cond.methodLink "DonkeyVerdicts$Dealer" 24 yX4_init ∈ tbg := tbg_in (List.mem_of_getElem? (l := tables_1_1) (i := 158) rfl) tq_1 rfl
theorem tw_233 : Cond.methodLink "DonkeyVerdicts$Balking" 3 Jvm.Lib.objectInit ∈ tbg := tbg_in (List.mem_of_getElem? (l := tables_1_1) (i := 177) rfl) tq_1 rfl
theorem tw_234 : Cond.classLink "DonkeyVerdicts$Balking" 9 "DonkeyVerdicts$Herd" ∈ tbg := tbg_in (List.mem_of_getElem? (l := tables_1_1) (i := 178) rfl) tq_1 rfl
theorem tw_235 : Cond.methodLink "DonkeyVerdicts$Balking" 17 yX4_init ∈ tbg := tbg_in (List.mem_of_getElem? (l := tables_1_1) (i := 179) rfl) tq_1 rfl
theorem dX4_init_0 : decode cX4_init 0 = .ok (.aload_n 0, 1) := by decide +kernel
theorem dX4_init_1 : decode cX4_init 1 = .ok (.invokespecial 5, 3) := by decide +kernel
theorem dX4_init_4 : decode cX4_init 4 = .ok (.aload_n 0, 1) := by decide +kernel
theorem dX4_init_5 : decode cX4_init 5 = .ok (.bipush 64, 2) := by decide +kernel
theorem dX4_init_7 : decode cX4_init 7 = .ok (.newarray .int, 2) := by decide +kernel
theorem dX4_init_9 : decode cX4_init 9 = .ok (.putfield 11, 3) := by decide +kernel
theorem dX4_init_12 : decode cX4_init 12 = .ok (.aload_n 0, 1) := by decide +kernel
theorem dX4_init_13 : decode cX4_init 13 = .ok (.aload_n 1, 1) := by decide +kernel
theorem dX4_init_14 : decode cX4_init 14 = .ok (.putfield 15, 3) := by decide +kernel
theorem dX4_init_17 : decode cX4_init 17 = .ok (.return_, 1) := by decide +kernel
set_option maxHeartbeats 4000000 in
set_option maxRecDepth 100000 in
theorem k_X4 (l : Launch) (D : va_G) (cA : Nat → ClassId) (h0 ct : Nat) : cMet l D cA yX4_init cX4_init 2 { frames := 1, cells := 1, slots := 64, locals := 12 } [.ref h0, .ref ct] h0 (.inr (4, [.null, .null])) 1 64 (fun f => [(h0, .inr (4, [.ref ct, .ref (f 0)])), ((f 0), .inl (cA 20, 64, .inl (fun _ => 0)))]) := by
  intro sz
  refine Met.ofW (cc := cX4_init) (maxL := 2) (ret := none) (by decide) rfl ?_
  intro p e s m args below meth c s₁ B hml hv
  obtain ⟨rfl, hsz, hP, hK, hD0, hAO⟩ := hv
  have hx := B.exec
  have hb := B.bytes
  have hr := B.returns
  have hts0 := atoms_spec (ws := Cond.code yX4_init cX4_init 2 none :: tbg) B.pre
  have hts : ∀ w ∈ tbg, w.before _ s = true := fun w hw => hts0 w (List.mem_cons_of_mem _ hw)
  have hown : s.vm.findClass RX4 = some m.cls := findClass_of_methodNamed B.named
  have hlocks := B.notSynchronized
  have hin : meth.name = "<init>" := (name_of_methodNamed B.named B.method).1
  subst hsz
  have hD := hD0.self (sz := s.heap.size)
  generalize hAe : va_A [(h0, .inr (4, [.null, .null]))] s.heap.size = A at hD ⊢
  have hA : ∀ q : Nat, s.heap.size ≤ q → A q := fun q h => by rw [← hAe]; exact Or.inr h
  have hS : va_S A s.heap s.heap [] := va_S.rf
  have hP : va_P D vwCl [(h0, .inr (4, [.null, .null]))] s.heap := hP
  have hl := lv_entry ([.ref h0, .ref ct]) (n := 2) (Nat.le_of_ble_eq_true rfl)
  rw [lg_entry_eq]
  generalize (lg_sl ([.ref h0, .ref ct]) ++ List.replicate (2 - (lg_sl ([.ref h0, .ref ct])).length) Slot.unset).toArray = ls at hl ⊢
  have hl : lv_has ls 2 [(0, .ref h0), (1, .ref ct)] := hl
  refine lv_aload_n hx hb dX4_init_0 rfl (lv_at hl 0 rfl) ?_
  refine W.objInit hx hb hown (hts _ tw_165) (hts _ tw_81) (hts _ tw_82) rfl (by rw [hml]; exact hl.1) rfl dX4_init_1 (Nat.le_of_ble_eq_true rfl) (Nat.le_of_ble_eq_true rfl) ?_
  refine W.eq (g2 := F0 m 4 ls []) rfl ?_
  refine lv_aload_n hx hb dX4_init_4 rfl (lv_at hl 0 rfl) ?_
  refine lv_bipush (v := nI 64) hx hb dX4_init_5 (by decide) ?_
  refine va_newa (ty := .int) (a0 := (64, .inl (fun _ => 0))) hx hb (atype := .int) (hts _ tw_113) rfl hK hP hD hS hA (fun _ => rfl) (by decide) (nI_clamp (by decide)) (by decide) (Nat.le_of_ble_eq_true rfl) (Nat.le_of_ble_eq_true rfl) dX4_init_7 (fun q1 c1 H hK1 hP hD hS => ?_)
  obtain rfl : c1 = cA 20 := ty_eq hK1 0 rfl
  have hP : va_P D vwCl [(h0, .inr (4, [.null, .null])), (q1, .inl (cA 20, 64, .inl (fun _ => 0)))] H := hP
  have hD : va_D A [(h0, .inr (4, [.null, .null])), (q1, .inl (cA 20, 64, .inl (fun _ => 0)))] := hD
  refine va_putF (ci := 4) (v := .ref q1) (ty := .array .int) (C := RX4) (T := TX4) (N := 2) hx hb hts inX4 tyX4 tyX4_ok nmX4 hown hK hP hD hS 0 rfl rfl 1 (by decide) (hts _ tw_167) (fun _ h9 => h9) rfl hin rfl (by decide +kernel) rfl rfl (Nat.le_of_ble_eq_true rfl) dX4_init_9 (fun H locs hP hD hS => ?_)
  have hP : va_P D vwCl [(h0, .inr (4, [.null, .ref q1])), (q1, .inl (cA 20, 64, .inl (fun _ => 0)))] H := hP
  have hD : va_D A [(h0, .inr (4, [.null, .ref q1])), (q1, .inl (cA 20, 64, .inl (fun _ => 0)))] := hD
  refine lv_aload_n hx hb dX4_init_12 rfl (lv_at hl 0 rfl) ?_
  refine lv_aload_n hx hb dX4_init_13 rfl (lv_at hl 1 rfl) ?_
  refine va_putF (ci := 4) (v := .ref ct) (ty := .object "DonkeyVerdicts$Court") (C := RX4) (T := TX4) (N := 2) hx hb hts inX4 tyX4 tyX4_ok nmX4 hown hK hP hD hS 0 rfl rfl 0 (by decide) (hts _ tw_166) (fun _ h9 => h9) rfl hin rfl (by decide +kernel) rfl rfl (Nat.le_of_ble_eq_true rfl) dX4_init_14 (fun H locs hP hD hS => ?_)
  have hP : va_P D vwCl [(h0, .inr (4, [.ref ct, .ref q1])), (q1, .inl (cA 20, 64, .inl (fun _ => 0)))] H := hP
  have hD : va_D A [(h0, .inr (4, [.ref ct, .ref q1])), (q1, .inl (cA 20, 64, .inl (fun _ => 0)))] := hD
  refine W.widen (k := 1) (n := 64) (Nat.le_of_ble_eq_true rfl) (Nat.le_of_ble_eq_true rfl) ?_
  exact W.vret hx hb hr (fun t ht hW => ⟨⟨(fun k => ([q1] : List Nat).getD k 0), rfl, trivial, by rw [ht]; exact hP, by rw [hAe]; exact hD⟩, hAe ▸ hS.F ht⟩) (fun q hq => hAe ▸ hS.2.2 q hq) dX4_init_17
theorem dX5_init_0 : decode cX5_init 0 = .ok (.aload_n 0, 1) := by decide +kernel
theorem dX5_init_1 : decode cX5_init 1 = .ok (.invokespecial 3, 3) := by decide +kernel
theorem dX5_init_4 : decode cX5_init 4 = .ok (.aload_n 0, 1) := by decide +kernel
theorem dX5_init_5 : decode cX5_init 5 = .ok (.sipush 200, 3) := by decide +kernel
theorem dX5_init_8 : decode cX5_init 8 = .ok (.newarray .char, 2) := by decide +kernel
theorem dX5_init_10 : decode cX5_init 10 = .ok (.putfield 9, 3) := by decide +kernel
theorem dX5_init_13 : decode cX5_init 13 = .ok (.aload_n 0, 1) := by decide +kernel
theorem dX5_init_14 : decode cX5_init 14 = .ok (.iconst 0, 1) := by decide +kernel
theorem dX5_init_15 : decode cX5_init 15 = .ok (.putfield 15, 3) := by decide +kernel
theorem dX5_init_18 : decode cX5_init 18 = .ok (.return_, 1) := by decide +kernel
set_option maxHeartbeats 4000000 in
set_option maxRecDepth 100000 in
theorem k_X5 (l : Launch) (D : va_G) (cA : Nat → ClassId) (h0  : Nat) : cMet l D cA yX5_init cX5_init 1 { frames := 1, cells := 1, slots := 200, locals := 12 } [.ref h0] h0 (.inr (5, [.null, .int 0])) 1 200 (fun f => [(h0, .inr (5, [.ref (f 0), .int (nI 0)])), ((f 0), .inl (cA 22, 200, .inl (fun _ => 0)))]) := by
  intro sz
  refine Met.ofW (cc := cX5_init) (maxL := 1) (ret := none) (by decide) rfl ?_
  intro p e s m args below meth c s₁ B hml hv
  obtain ⟨rfl, hsz, hP, hK, hD0, hAO⟩ := hv
  have hx := B.exec
  have hb := B.bytes
  have hr := B.returns
  have hts0 := atoms_spec (ws := Cond.code yX5_init cX5_init 1 none :: tbg) B.pre
  have hts : ∀ w ∈ tbg, w.before _ s = true := fun w hw => hts0 w (List.mem_cons_of_mem _ hw)
  have hown : s.vm.findClass RX5 = some m.cls := findClass_of_methodNamed B.named
  have hlocks := B.notSynchronized
  have hin : meth.name = "<init>" := (name_of_methodNamed B.named B.method).1
  subst hsz
  have hD := hD0.self (sz := s.heap.size)
  generalize hAe : va_A [(h0, .inr (5, [.null, .int 0]))] s.heap.size = A at hD ⊢
  have hA : ∀ q : Nat, s.heap.size ≤ q → A q := fun q h => by rw [← hAe]; exact Or.inr h
  have hS : va_S A s.heap s.heap [] := va_S.rf
  have hP : va_P D vwCl [(h0, .inr (5, [.null, .int 0]))] s.heap := hP
  have hl := lv_entry ([.ref h0]) (n := 1) (Nat.le_of_ble_eq_true rfl)
  rw [lg_entry_eq]
  generalize (lg_sl ([.ref h0]) ++ List.replicate (1 - (lg_sl ([.ref h0])).length) Slot.unset).toArray = ls at hl ⊢
  have hl : lv_has ls 1 [(0, .ref h0)] := hl
  refine lv_aload_n hx hb dX5_init_0 rfl (lv_at hl 0 rfl) ?_
  refine W.objInit hx hb hown (hts _ tw_88) (hts _ tw_81) (hts _ tw_82) rfl (by rw [hml]; exact hl.1) rfl dX5_init_1 (Nat.le_of_ble_eq_true rfl) (Nat.le_of_ble_eq_true rfl) ?_
  refine W.eq (g2 := F0 m 4 ls []) rfl ?_
  refine lv_aload_n hx hb dX5_init_4 rfl (lv_at hl 0 rfl) ?_
  refine lv_sipush (v := nI 200) hx hb dX5_init_5 (by decide) ?_
  refine va_newa (ty := .char) (a0 := (200, .inl (fun _ => 0))) hx hb (atype := .char) (hts _ tw_96) rfl hK hP hD hS hA (fun _ => rfl) (by decide) (nI_clamp (by decide)) (by decide) (Nat.le_of_ble_eq_true rfl) (Nat.le_of_ble_eq_true rfl) dX5_init_8 (fun q1 c1 H hK1 hP hD hS => ?_)
  obtain rfl : c1 = cA 22 := ty_eq hK1 2 rfl
  have hP : va_P D vwCl [(h0, .inr (5, [.null, .int 0])), (q1, .inl (cA 22, 200, .inl (fun _ => 0)))] H := hP
  have hD : va_D A [(h0, .inr (5, [.null, .int 0])), (q1, .inl (cA 22, 200, .inl (fun _ => 0)))] := hD
  refine va_putF (ci := 5) (v := .ref q1) (ty := .array .char) (C := RX5) (T := TX5) (N := 2) hx hb hts inX5 tyX5 tyX5_ok nmX5 hown hK hP hD hS 0 rfl rfl 0 (by decide) (hts _ tw_89) (fun _ h9 => h9) rfl hin rfl (by decide +kernel) rfl rfl (Nat.le_of_ble_eq_true rfl) dX5_init_10 (fun H locs hP hD hS => ?_)
  have hP : va_P D vwCl [(h0, .inr (5, [.ref q1, .int 0])), (q1, .inl (cA 22, 200, .inl (fun _ => 0)))] H := hP
  have hD : va_D A [(h0, .inr (5, [.ref q1, .int 0])), (q1, .inl (cA 22, 200, .inl (fun _ => 0)))] := hD
  refine lv_aload_n hx hb dX5_init_13 rfl (lv_at hl 0 rfl) ?_
  refine lv_iconst (v := nI 0) hx hb dX5_init_14 (by decide) ?_
  refine va_put (ci := 5) (v := .int (nI 0)) (ty := .int) (C := RX5) (T := TX5) (N := 2) hx hb hts inX5 tyX5 tyX5_ok nmX5 hown hK hP hD hS 0 rfl rfl 1 (by decide) (hts _ tw_90) (fun _ h9 => h9) rfl (by decide +kernel) (vp_nar_int _) rfl (Nat.le_of_ble_eq_true rfl) dX5_init_15 (fun H locs hP hD hS => ?_)
  have hP : va_P D vwCl [(h0, .inr (5, [.ref q1, .int (nI 0)])), (q1, .inl (cA 22, 200, .inl (fun _ => 0)))] H := hP
  have hD : va_D A [(h0, .inr (5, [.ref q1, .int (nI 0)])), (q1, .inl (cA 22, 200, .inl (fun _ => 0)))] := hD
  refine W.widen (k := 1) (n := 200) (Nat.le_of_ble_eq_true rfl) (Nat.le_of_ble_eq_true rfl) ?_
  exact W.vret hx hb hr (fun t ht hW => ⟨⟨(fun k => ([q1] : List Nat).getD k 0), rfl, trivial, by rw [ht]; exact hP, by rw [hAe]; exact hD⟩, hAe ▸ hS.F ht⟩) (fun q hq => hAe ▸ hS.2.2 q hq) dX5_init_18
theorem dX7_init_0 : decode cX7_init 0 = .ok (.aload_n 0, 1) := by decide +kernel
theorem dX7_init_1 : decode cX7_init 1 = .ok (.invokespecial 3, 3) := by decide +kernel
theorem dX7_init_4 : decode cX7_init 4 = .ok (.aload_n 0, 1) := by decide +kernel
theorem dX7_init_5 : decode cX7_init 5 = .ok (.iconst 3, 1) := by decide +kernel
theorem dX7_init_6 : decode cX7_init 6 = .ok (.newarray .int, 2) := by decide +kernel
theorem dX7_init_8 : decode cX7_init 8 = .ok (.putfield 11, 3) := by decide +kernel
theorem dX7_init_11 : decode cX7_init 11 = .ok (.aload_n 0, 1) := by decide +kernel
theorem dX7_init_12 : decode cX7_init 12 = .ok (.iconst 0, 1) := by decide +kernel
theorem dX7_init_13 : decode cX7_init 13 = .ok (.putfield 15, 3) := by decide +kernel
theorem dX7_init_16 : decode cX7_init 16 = .ok (.aload_n 0, 1) := by decide +kernel
theorem dX7_init_17 : decode cX7_init 17 = .ok (.iconst 0, 1) := by decide +kernel
theorem dX7_init_18 : decode cX7_init 18 = .ok (.putfield 19, 3) := by decide +kernel
theorem dX7_init_21 : decode cX7_init 21 = .ok (.return_, 1) := by decide +kernel
set_option maxHeartbeats 4000000 in
set_option maxRecDepth 100000 in
theorem k_X7 (l : Launch) (D : va_G) (cA : Nat → ClassId) (h0  : Nat) : cMet l D cA yX7_init cX7_init 1 { frames := 1, cells := 1, slots := 3, locals := 12 } [.ref h0] h0 (.inr (6, [.null, .int 0, .int 0])) 1 3 (fun f => [(h0, .inr (6, [.ref (f 0), .int (nI 0), .int (nI 0)])), ((f 0), .inl (cA 20, 3, .inl (fun _ => 0)))]) := by
  intro sz
  refine Met.ofW (cc := cX7_init) (maxL := 1) (ret := none) (by decide) rfl ?_
  intro p e s m args below meth c s₁ B hml hv
  obtain ⟨rfl, hsz, hP, hK, hD0, hAO⟩ := hv
  have hx := B.exec
  have hb := B.bytes
  have hr := B.returns
  have hts0 := atoms_spec (ws := Cond.code yX7_init cX7_init 1 none :: tbg) B.pre
  have hts : ∀ w ∈ tbg, w.before _ s = true := fun w hw => hts0 w (List.mem_cons_of_mem _ hw)
  have hown : s.vm.findClass RX7 = some m.cls := findClass_of_methodNamed B.named
  have hlocks := B.notSynchronized
  have hin : meth.name = "<init>" := (name_of_methodNamed B.named B.method).1
  subst hsz
  have hD := hD0.self (sz := s.heap.size)
  generalize hAe : va_A [(h0, .inr (6, [.null, .int 0, .int 0]))] s.heap.size = A at hD ⊢
  have hA : ∀ q : Nat, s.heap.size ≤ q → A q := fun q h => by rw [← hAe]; exact Or.inr h
  have hS : va_S A s.heap s.heap [] := va_S.rf
  have hP : va_P D vwCl [(h0, .inr (6, [.null, .int 0, .int 0]))] s.heap := hP
  have hl := lv_entry ([.ref h0]) (n := 1) (Nat.le_of_ble_eq_true rfl)
  rw [lg_entry_eq]
  generalize (lg_sl ([.ref h0]) ++ List.replicate (1 - (lg_sl ([.ref h0])).length) Slot.unset).toArray = ls at hl ⊢
  have hl : lv_has ls 1 [(0, .ref h0)] := hl
  refine lv_aload_n hx hb dX7_init_0 rfl (lv_at hl 0 rfl) ?_
  refine W.objInit hx hb hown (hts _ tw_102) (hts _ tw_81) (hts _ tw_82) rfl (by rw [hml]; exact hl.1) rfl dX7_init_1 (Nat.le_of_ble_eq_true rfl) (Nat.le_of_ble_eq_true rfl) ?_
  refine W.eq (g2 := F0 m 4 ls []) rfl ?_
  refine lv_aload_n hx hb dX7_init_4 rfl (lv_at hl 0 rfl) ?_
  refine lv_iconst (v := nI 3) hx hb dX7_init_5 (by decide) ?_
  refine va_newa (ty := .int) (a0 := (3, .inl (fun _ => 0))) hx hb (atype := .int) (hts _ tw_113) rfl hK hP hD hS hA (fun _ => rfl) (by decide) (nI_clamp (by decide)) (by decide) (Nat.le_of_ble_eq_true rfl) (Nat.le_of_ble_eq_true rfl) dX7_init_6 (fun q1 c1 H hK1 hP hD hS => ?_)
  obtain rfl : c1 = cA 20 := ty_eq hK1 0 rfl
  have hP : va_P D vwCl [(h0, .inr (6, [.null, .int 0, .int 0])), (q1, .inl (cA 20, 3, .inl (fun _ => 0)))] H := hP
  have hD : va_D A [(h0, .inr (6, [.null, .int 0, .int 0])), (q1, .inl (cA 20, 3, .inl (fun _ => 0)))] := hD
  refine va_putF (ci := 6) (v := .ref q1) (ty := .array .int) (C := RX7) (T := TX7) (N := 3) hx hb hts inX7 tyX7 tyX7_ok nmX7 hown hK hP hD hS 0 rfl rfl 0 (by decide) (hts _ tw_103) (fun _ h9 => h9) rfl hin rfl (by decide +kernel) rfl rfl (Nat.le_of_ble_eq_true rfl) dX7_init_8 (fun H locs hP hD hS => ?_)
  have hP : va_P D vwCl [(h0, .inr (6, [.ref q1, .int 0, .int 0])), (q1, .inl (cA 20, 3, .inl (fun _ => 0)))] H := hP
  have hD : va_D A [(h0, .inr (6, [.ref q1, .int 0, .int 0])), (q1, .inl (cA 20, 3, .inl (fun _ => 0)))] := hD
  refine lv_aload_n hx hb dX7_init_11 rfl (lv_at hl 0 rfl) ?_
  refine lv_iconst (v := nI 0) hx hb dX7_init_12 (by decide) ?_
  refine va_put (ci := 6) (v := .int (nI 0)) (ty := .int) (C := RX7) (T := TX7) (N := 3) hx hb hts inX7 tyX7 tyX7_ok nmX7 hown hK hP hD hS 0 rfl rfl 1 (by decide) (hts _ tw_104) (fun _ h9 => h9) rfl (by decide +kernel) (vp_nar_int _) rfl (Nat.le_of_ble_eq_true rfl) dX7_init_13 (fun H locs hP hD hS => ?_)
  have hP : va_P D vwCl [(h0, .inr (6, [.ref q1, .int (nI 0), .int 0])), (q1, .inl (cA 20, 3, .inl (fun _ => 0)))] H := hP
  have hD : va_D A [(h0, .inr (6, [.ref q1, .int (nI 0), .int 0])), (q1, .inl (cA 20, 3, .inl (fun _ => 0)))] := hD
  refine lv_aload_n hx hb dX7_init_16 rfl (lv_at hl 0 rfl) ?_
  refine lv_iconst (v := nI 0) hx hb dX7_init_17 (by decide) ?_
  refine va_put (ci := 6) (v := .int (nI 0)) (ty := .int) (C := RX7) (T := TX7) (N := 3) hx hb hts inX7 tyX7 tyX7_ok nmX7 hown hK hP hD hS 0 rfl rfl 2 (by decide) (hts _ tw_105) (fun _ h9 => h9) rfl (by decide +kernel) (vp_nar_int _) rfl (Nat.le_of_ble_eq_true rfl) dX7_init_18 (fun H locs hP hD hS => ?_)
  have hP : va_P D vwCl [(h0, .inr (6, [.ref q1, .int (nI 0), .int (nI 0)])), (q1, .inl (cA 20, 3, .inl (fun _ => 0)))] H := hP
  have hD : va_D A [(h0, .inr (6, [.ref q1, .int (nI 0), .int (nI 0)])), (q1, .inl (cA 20, 3, .inl (fun _ => 0)))] := hD
  refine W.widen (k := 1) (n := 3) (Nat.le_of_ble_eq_true rfl) (Nat.le_of_ble_eq_true rfl) ?_
  exact W.vret hx hb hr (fun t ht hW => ⟨⟨(fun k => ([q1] : List Nat).getD k 0), rfl, trivial, by rw [ht]; exact hP, by rw [hAe]; exact hD⟩, hAe ▸ hS.F ht⟩) (fun q hq => hAe ▸ hS.2.2 q hq) dX7_init_21
theorem dX1_init_0 : decode cX1_init 0 = .ok (.aload_n 0, 1) := by decide +kernel
theorem dX1_init_1 : decode cX1_init 1 = .ok (.invokespecial 3, 3) := by decide +kernel
theorem dX1_init_4 : decode cX1_init 4 = .ok (.aload_n 0, 1) := by decide +kernel
theorem dX1_init_5 : decode cX1_init 5 = .ok (.bipush 64, 2) := by decide +kernel
theorem dX1_init_7 : decode cX1_init 7 = .ok (.newarray .int, 2) := by decide +kernel
theorem dX1_init_9 : decode cX1_init 9 = .ok (.putfield 9, 3) := by decide +kernel
theorem dX1_init_12 : decode cX1_init 12 = .ok (.aload_n 0, 1) := by decide +kernel
theorem dX1_init_13 : decode cX1_init 13 = .ok (.bipush 64, 2) := by decide +kernel
theorem dX1_init_15 : decode cX1_init 15 = .ok (.newarray .int, 2) := by decide +kernel
theorem dX1_init_17 : decode cX1_init 17 = .ok (.putfield 15, 3) := by decide +kernel
theorem dX1_init_20 : decode cX1_init 20 = .ok (.aload_n 0, 1) := by decide +kernel
theorem dX1_init_21 : decode cX1_init 21 = .ok (.bipush 64, 2) := by decide +kernel
theorem dX1_init_23 : decode cX1_init 23 = .ok (.newarray .int, 2) := by decide +kernel
theorem dX1_init_25 : decode cX1_init 25 = .ok (.putfield 18, 3) := by decide +kernel
theorem dX1_init_28 : decode cX1_init 28 = .ok (.aload_n 0, 1) := by decide +kernel
theorem dX1_init_29 : decode cX1_init 29 = .ok (.iconst 4, 1) := by decide +kernel
theorem dX1_init_30 : decode cX1_init 30 = .ok (.newarray .int, 2) := by decide +kernel
theorem dX1_init_32 : decode cX1_init 32 = .ok (.putfield 21, 3) := by decide +kernel
theorem dX1_init_35 : decode cX1_init 35 = .ok (.aload_n 0, 1) := by decide +kernel
theorem dX1_init_36 : decode cX1_init 36 = .ok (.iconst 4, 1) := by decide +kernel
theorem dX1_init_37 : decode cX1_init 37 = .ok (.newarray .int, 2) := by decide +kernel
theorem dX1_init_39 : decode cX1_init 39 = .ok (.putfield 24, 3) := by decide +kernel
theorem dX1_init_42 : decode cX1_init 42 = .ok (.aload_n 0, 1) := by decide +kernel
theorem dX1_init_43 : decode cX1_init 43 = .ok (.iconst 5, 1) := by decide +kernel
theorem dX1_init_44 : decode cX1_init 44 = .ok (.newarray .int, 2) := by decide +kernel
theorem dX1_init_46 : decode cX1_init 46 = .ok (.putfield 27, 3) := by decide +kernel
theorem dX1_init_49 : decode cX1_init 49 = .ok (.aload_n 0, 1) := by decide +kernel
theorem dX1_init_50 : decode cX1_init 50 = .ok (.iconst 5, 1) := by decide +kernel
theorem dX1_init_51 : decode cX1_init 51 = .ok (.newarray .int, 2) := by decide +kernel
theorem dX1_init_53 : decode cX1_init 53 = .ok (.putfield 30, 3) := by decide +kernel
theorem dX1_init_56 : decode cX1_init 56 = .ok (.aload_n 0, 1) := by decide +kernel
theorem dX1_init_57 : decode cX1_init 57 = .ok (.iconst 5, 1) := by decide +kernel
theorem dX1_init_58 : decode cX1_init 58 = .ok (.newarray .int, 2) := by decide +kernel
theorem dX1_init_60 : decode cX1_init 60 = .ok (.putfield 33, 3) := by decide +kernel
theorem dX1_init_63 : decode cX1_init 63 = .ok (.aload_n 0, 1) := by decide +kernel
theorem dX1_init_64 : decode cX1_init 64 = .ok (.bipush 8, 2) := by decide +kernel
theorem dX1_init_66 : decode cX1_init 66 = .ok (.newarray .int, 2) := by decide +kernel
theorem dX1_init_68 : decode cX1_init 68 = .ok (.putfield 36, 3) := by decide +kernel
theorem dX1_init_71 : decode cX1_init 71 = .ok (.aload_n 0, 1) := by decide +kernel
theorem dX1_init_72 : decode cX1_init 72 = .ok (.bipush 8, 2) := by decide +kernel
theorem dX1_init_74 : decode cX1_init 74 = .ok (.newarray .int, 2) := by decide +kernel
theorem dX1_init_76 : decode cX1_init 76 = .ok (.putfield 39, 3) := by decide +kernel
theorem dX1_init_79 : decode cX1_init 79 = .ok (.aload_n 0, 1) := by decide +kernel
theorem dX1_init_80 : decode cX1_init 80 = .ok (.iconst 5, 1) := by decide +kernel
theorem dX1_init_81 : decode cX1_init 81 = .ok (.putfield 42, 3) := by decide +kernel
theorem dX1_init_84 : decode cX1_init 84 = .ok (.aload_n 0, 1) := by decide +kernel
theorem dX1_init_85 : decode cX1_init 85 = .ok (.iconst 0, 1) := by decide +kernel
theorem dX1_init_86 : decode cX1_init 86 = .ok (.putfield 46, 3) := by decide +kernel
theorem dX1_init_89 : decode cX1_init 89 = .ok (.aload_n 0, 1) := by decide +kernel
theorem dX1_init_90 : decode cX1_init 90 = .ok (.iconst 0, 1) := by decide +kernel
theorem dX1_init_91 : decode cX1_init 91 = .ok (.putfield 49, 3) := by decide +kernel
theorem dX1_init_94 : decode cX1_init 94 = .ok (.return_, 1) := by decide +kernel
set_option maxHeartbeats 4000000 in
set_option maxRecDepth 100000 in
theorem k_X1 (l : Launch) (D : va_G) (cA : Nat → ClassId) (h0  : Nat) : cMet l D cA yX1_init cX1_init 1 { frames := 1, cells := 10, slots := 231, locals := 12 } [.ref h0] h0 (.inr (1, [.null, .null, .null, .null, .null, .null, .null, .null, .null, .null, .int 0, .int 0, .int 0])) 10 231 (fun f => [(h0, .inr (1, [.ref (f 0), .ref (f 1), .ref (f 2), .ref (f 3), .ref (f 4), .ref (f 5), .ref (f 6), .ref (f 7), .ref (f 8), .ref (f 9), .int (nI 5), .int (nI 0), .int (nI 0)])), ((f 0), .inl (cA 20, 64, .inl (fun _ => 0))), ((f 1), .inl (cA 20, 64, .inl (fun _ => 0))), ((f 2), .inl (cA 20, 64, .inl (fun _ => 0))), ((f 3), .inl (cA 20, 4, .inl (fun _ => 0))), ((f 4), .inl (cA 20, 4, .inl (fun _ => 0))), ((f 5), .inl (cA 20, 5, .inl (fun _ => 0))), ((f 6), .inl (cA 20, 5, .inl (fun _ => 0))), ((f 7), .inl (cA 20, 5, .inl (fun _ => 0))), ((f 8), .inl (cA 20, 8, .inl (fun _ => 0))), ((f 9), .inl (cA 20, 8, .inl (fun _ => 0)))]) := by
  intro sz
  refine Met.ofW (cc := cX1_init) (maxL := 1) (ret := none) (by decide) rfl ?_
  intro p e s m args below meth c s₁ B hml hv
  obtain ⟨rfl, hsz, hP, hK, hD0, hAO⟩ := hv
  have hx := B.exec
  have hb := B.bytes
  have hr := B.returns
  have hts0 := atoms_spec (ws := Cond.code yX1_init cX1_init 1 none :: tbg) B.pre
  have hts : ∀ w ∈ tbg, w.before _ s = true := fun w hw => hts0 w (List.mem_cons_of_mem _ hw)
  have hown : s.vm.findClass RX1 = some m.cls := findClass_of_methodNamed B.named
  have hlocks := B.notSynchronized
  have hin : meth.name = "<init>" := (name_of_methodNamed B.named B.method).1
  subst hsz
  have hD := hD0.self (sz := s.heap.size)
  generalize hAe : va_A [(h0, .inr (1, [.null, .null, .null, .null, .null, .null, .null, .null, .null, .null, .int 0, .int 0, .int 0]))] s.heap.size = A at hD ⊢
  have hA : ∀ q : Nat, s.heap.size ≤ q → A q := fun q h => by rw [← hAe]; exact Or.inr h
  have hS : va_S A s.heap s.heap [] := va_S.rf
  have hP : va_P D vwCl [(h0, .inr (1, [.null, .null, .null, .null, .null, .null, .null, .null, .null, .null, .int 0, .int 0, .int 0]))] s.heap := hP
  have hl := lv_entry ([.ref h0]) (n := 1) (Nat.le_of_ble_eq_true rfl)
  rw [lg_entry_eq]
  generalize (lg_sl ([.ref h0]) ++ List.replicate (1 - (lg_sl ([.ref h0])).length) Slot.unset).toArray = ls at hl ⊢
  have hl : lv_has ls 1 [(0, .ref h0)] := hl
  refine lv_aload_n hx hb dX1_init_0 rfl (lv_at hl 0 rfl) ?_
  refine W.objInit hx hb hown (hts _ tw_119) (hts _ tw_81) (hts _ tw_82) rfl (by rw [hml]; exact hl.1) rfl dX1_init_1 (Nat.le_of_ble_eq_true rfl) (Nat.le_of_ble_eq_true rfl) ?_
  refine W.eq (g2 := F0 m 4 ls []) rfl ?_
  refine lv_aload_n hx hb dX1_init_4 rfl (lv_at hl 0 rfl) ?_
  refine lv_bipush (v := nI 64) hx hb dX1_init_5 (by decide) ?_
  refine va_newa (ty := .int) (a0 := (64, .inl (fun _ => 0))) hx hb (atype := .int) (hts _ tw_113) rfl hK hP hD hS hA (fun _ => rfl) (by decide) (nI_clamp (by decide)) (by decide) (Nat.le_of_ble_eq_true rfl) (Nat.le_of_ble_eq_true rfl) dX1_init_7 (fun q1 c1 H hK1 hP hD hS => ?_)
  obtain rfl : c1 = cA 20 := ty_eq hK1 0 rfl
  have hP : va_P D vwCl [(h0, .inr (1, [.null, .null, .null, .null, .null, .null, .null, .null, .null, .null, .int 0, .int 0, .int 0])), (q1, .inl (cA 20, 64, .inl (fun _ => 0)))] H := hP
  have hD : va_D A [(h0, .inr (1, [.null, .null, .null, .null, .null, .null, .null, .null, .null, .null, .int 0, .int 0, .int 0])), (q1, .inl (cA 20, 64, .inl (fun _ => 0)))] := hD
  refine va_putF (ci := 1) (v := .ref q1) (ty := .array .int) (C := RX1) (T := TX1) (N := 13) hx hb hts inX1 tyX1 tyX1_ok nmX1 hown hK hP hD hS 0 rfl rfl 0 (by decide) (hts _ tw_120) (fun _ h9 => h9) rfl hin rfl (by decide +kernel) rfl rfl (Nat.le_of_ble_eq_true rfl) dX1_init_9 (fun H locs hP hD hS => ?_)
  have hP : va_P D vwCl [(h0, .inr (1, [.ref q1, .null, .null, .null, .null, .null, .null, .null, .null, .null, .int 0, .int 0, .int 0])), (q1, .inl (cA 20, 64, .inl (fun _ => 0)))] H := hP
  have hD : va_D A [(h0, .inr (1, [.ref q1, .null, .null, .null, .null, .null, .null, .null, .null, .null, .int 0, .int 0, .int 0])), (q1, .inl (cA 20, 64, .inl (fun _ => 0)))] := hD
  refine lv_aload_n hx hb dX1_init_12 rfl (lv_at hl 0 rfl) ?_
  refine lv_bipush (v := nI 64) hx hb dX1_init_13 (by decide) ?_
  refine va_newa (ty := .int) (a0 := (64, .inl (fun _ => 0))) hx hb (atype := .int) (hts _ tw_113) rfl hK hP hD hS hA (fun _ => rfl) (by decide) (nI_clamp (by decide)) (by decide) (Nat.le_of_ble_eq_true rfl) (Nat.le_of_ble_eq_true rfl) dX1_init_15 (fun q2 c1 H hK1 hP hD hS => ?_)
  obtain rfl : c1 = cA 20 := ty_eq hK1 0 rfl
  have hP : va_P D vwCl [(h0, .inr (1, [.ref q1, .null, .null, .null, .null, .null, .null, .null, .null, .null, .int 0, .int 0, .int 0])), (q1, .inl (cA 20, 64, .inl (fun _ => 0))), (q2, .inl (cA 20, 64, .inl (fun _ => 0)))] H := hP
  have hD : va_D A [(h0, .inr (1, [.ref q1, .null, .null, .null, .null, .null, .null, .null, .null, .null, .int 0, .int 0, .int 0])), (q1, .inl (cA 20, 64, .inl (fun _ => 0))), (q2, .inl (cA 20, 64, .inl (fun _ => 0)))] := hD
  refine va_putF (ci := 1) (v := .ref q2) (ty := .array .int) (C := RX1) (T := TX1) (N := 13) hx hb hts inX1 tyX1 tyX1_ok nmX1 hown hK hP hD hS 0 rfl rfl 1 (by decide) (hts _ tw_121) (fun _ h9 => h9) rfl hin rfl (by decide +kernel) rfl rfl (Nat.le_of_ble_eq_true rfl) dX1_init_17 (fun H locs hP hD hS => ?_)
  have hP : va_P D vwCl [(h0, .inr (1, [.ref q1, .ref q2, .null, .null, .null, .null, .null, .null, .null, .null, .int 0, .int 0, .int 0])), (q1, .inl (cA 20, 64, .inl (fun _ => 0))), (q2, .inl (cA 20, 64, .inl (fun _ => 0)))] H := hP
  have hD : va_D A [(h0, .inr (1, [.ref q1, .ref q2, .null, .null, .null, .null, .null, .null, .null, .null, .int 0, .int 0, .int 0])), (q1, .inl (cA 20, 64, .inl (fun _ => 0))), (q2, .inl (cA 20, 64, .inl (fun _ => 0)))] := hD
  refine lv_aload_n hx hb dX1_init_20 rfl (lv_at hl 0 rfl) ?_
  refine lv_bipush (v := nI 64) hx hb dX1_init_21 (by decide) ?_
  refine va_newa (ty := .int) (a0 := (64, .inl (fun _ => 0))) hx hb (atype := .int) (hts _ tw_113) rfl hK hP hD hS hA (fun _ => rfl) (by decide) (nI_clamp (by decide)) (by decide) (Nat.le_of_ble_eq_true rfl) (Nat.le_of_ble_eq_true rfl) dX1_init_23 (fun q3 c1 H hK1 hP hD hS => ?_)
  obtain rfl : c1 = cA 20 := ty_eq hK1 0 rfl
  have hP : va_P D vwCl [(h0, .inr (1, [.ref q1, .ref q2, .null, .null, .null, .null, .null, .null, .null, .null, .int 0, .int 0, .int 0])), (q1, .inl (cA 20, 64, .inl (fun _ => 0))), (q2, .inl (cA 20, 64, .inl (fun _ => 0))), (q3, .inl (cA 20, 64, .inl (fun _ => 0)))] H := hP
  have hD : va_D A [(h0, .inr (1, [.ref q1, .ref q2, .null, .null, .null, .null, .null, .null, .null, .null, .int 0, .int 0, .int 0])), (q1, .inl (cA 20, 64, .inl (fun _ => 0))), (q2, .inl (cA 20, 64, .inl (fun _ => 0))), (q3, .inl (cA 20, 64, .inl (fun _ => 0)))] := hD
  refine va_putF (ci := 1) (v := .ref q3) (ty := .array .int) (C := RX1) (T := TX1) (N := 13) hx hb hts inX1 tyX1 tyX1_ok nmX1 hown hK hP hD hS 0 rfl rfl 2 (by decide) (hts _ tw_122) (fun _ h9 => h9) rfl hin rfl (by decide +kernel) rfl rfl (Nat.le_of_ble_eq_true rfl) dX1_init_25 (fun H locs hP hD hS => ?_)
  have hP : va_P D vwCl [(h0, .inr (1, [.ref q1, .ref q2, .ref q3, .null, .null, .null, .null, .null, .null, .null, .int 0, .int 0, .int 0])), (q1, .inl (cA 20, 64, .inl (fun _ => 0))), (q2, .inl (cA 20, 64, .inl (fun _ => 0))), (q3, .inl (cA 20, 64, .inl (fun _ => 0)))] H := hP
  have hD : va_D A [(h0, .inr (1, [.ref q1, .ref q2, .ref q3, .null, .null, .null, .null, .null, .null, .null, .int 0, .int 0, .int 0])), (q1, .inl (cA 20, 64, .inl (fun _ => 0))), (q2, .inl (cA 20, 64, .inl (fun _ => 0))), (q3, .inl (cA 20, 64, .inl (fun _ => 0)))] := hD
  refine lv_aload_n hx hb dX1_init_28 rfl (lv_at hl 0 rfl) ?_
  refine lv_iconst (v := nI 4) hx hb dX1_init_29 (by decide) ?_
  refine va_newa (ty := .int) (a0 := (4, .inl (fun _ => 0))) hx hb (atype := .int) (hts _ tw_113) rfl hK hP hD hS hA (fun _ => rfl) (by decide) (nI_clamp (by decide)) (by decide) (Nat.le_of_ble_eq_true rfl) (Nat.le_of_ble_eq_true rfl) dX1_init_30 (fun q4 c1 H hK1 hP hD hS => ?_)
  obtain rfl : c1 = cA 20 := ty_eq hK1 0 rfl
  have hP : va_P D vwCl [(h0, .inr (1, [.ref q1, .ref q2, .ref q3, .null, .null, .null, .null, .null, .null, .null, .int 0, .int 0, .int 0])), (q1, .inl (cA 20, 64, .inl (fun _ => 0))), (q2, .inl (cA 20, 64, .inl (fun _ => 0))), (q3, .inl (cA 20, 64, .inl (fun _ => 0))), (q4, .inl (cA 20, 4, .inl (fun _ => 0)))] H := hP
  have hD : va_D A [(h0, .inr (1, [.ref q1, .ref q2, .ref q3, .null, .null, .null, .null, .null, .null, .null, .int 0, .int 0, .int 0])), (q1, .inl (cA 20, 64, .inl (fun _ => 0))), (q2, .inl (cA 20, 64, .inl (fun _ => 0))), (q3, .inl (cA 20, 64, .inl (fun _ => 0))), (q4, .inl (cA 20, 4, .inl (fun _ => 0)))] := hD
  refine va_putF (ci := 1) (v := .ref q4) (ty := .array .int) (C := RX1) (T := TX1) (N := 13) hx hb hts inX1 tyX1 tyX1_ok nmX1 hown hK hP hD hS 0 rfl rfl 3 (by decide) (hts _ tw_123) (fun _ h9 => h9) rfl hin rfl (by decide +kernel) rfl rfl (Nat.le_of_ble_eq_true rfl) dX1_init_32 (fun H locs hP hD hS => ?_)
  have hP : va_P D vwCl [(h0, .inr (1, [.ref q1, .ref q2, .ref q3, .ref q4, .null, .null, .null, .null, .null, .null, .int 0, .int 0, .int 0])), (q1, .inl (cA 20, 64, .inl (fun _ => 0))), (q2, .inl (cA 20, 64, .inl (fun _ => 0))), (q3, .inl (cA 20, 64, .inl (fun _ => 0))), (q4, .inl (cA 20, 4, .inl (fun _ => 0)))] H := hP
  have hD : va_D A [(h0, .inr (1, [.ref q1, .ref q2, .ref q3, .ref q4, .null, .null, .null, .null, .null, .null, .int 0, .int 0, .int 0])), (q1, .inl (cA 20, 64, .inl (fun _ => 0))), (q2, .inl (cA 20, 64, .inl (fun _ => 0))), (q3, .inl (cA 20, 64, .inl (fun _ => 0))), (q4, .inl (cA 20, 4, .inl (fun _ => 0)))] := hD
  refine lv_aload_n hx hb dX1_init_35 rfl (lv_at hl 0 rfl) ?_
  refine lv_iconst (v := nI 4) hx hb dX1_init_36 (by decide) ?_
  refine va_newa (ty := .int) (a0 := (4, .inl (fun _ => 0))) hx hb (atype := .int) (hts _ tw_113) rfl hK hP hD hS hA (fun _ => rfl) (by decide) (nI_clamp (by decide)) (by decide) (Nat.le_of_ble_eq_true rfl) (Nat.le_of_ble_eq_true rfl) dX1_init_37 (fun q5 c1 H hK1 hP hD hS => ?_)
  obtain rfl : c1 = cA 20 := ty_eq hK1 0 rfl
  have hP : va_P D vwCl [(h0, .inr (1, [.ref q1, .ref q2, .ref q3, .ref q4, .null, .null, .null, .null, .null, .null, .int 0, .int 0, .int 0])), (q1, .inl (cA 20, 64, .inl (fun _ => 0))), (q2, .inl (cA 20, 64, .inl (fun _ => 0))), (q3, .inl (cA 20, 64, .inl (fun _ => 0))), (q4, .inl (cA 20, 4, .inl (fun _ => 0))), (q5, .inl (cA 20, 4, .inl (fun _ => 0)))] H := hP
  have hD : va_D A [(h0, .inr (1, [.ref q1, .ref q2, .ref q3, .ref q4, .null, .null, .null, .null, .null, .null, .int 0, .int 0, .int 0])), (q1, .inl (cA 20, 64, .inl (fun _ => 0))), (q2, .inl (cA 20, 64, .inl (fun _ => 0))), (q3, .inl (cA 20, 64, .inl (fun _ => 0))), (q4, .inl (cA 20, 4, .inl (fun _ => 0))), (q5, .inl (cA 20, 4, .inl (fun _ => 0)))] := hD
  refine va_putF (ci := 1) (v := .ref q5) (ty := .array .int) (C := RX1) (T := TX1) (N := 13) hx hb hts inX1 tyX1 tyX1_ok nmX1 hown hK hP hD hS 0 rfl rfl 4 (by decide) (hts _ tw_124) (fun _ h9 => h9) rfl hin rfl (by decide +kernel) rfl rfl (Nat.le_of_ble_eq_true rfl) dX1_init_39 (fun H locs hP hD hS => ?_)
  have hP : va_P D vwCl [(h0, .inr (1, [.ref q1, .ref q2, .ref q3, .ref q4, .ref q5, .null, .null, .null, .null, .null, .int 0, .int 0, .int 0])), (q1, .inl (cA 20, 64, .inl (fun _ => 0))), (q2, .inl (cA 20, 64, .inl (fun _ => 0))), (q3, .inl (cA 20, 64, .inl (fun _ => 0))), (q4, .inl (cA 20, 4, .inl (fun _ => 0))), (q5, .inl (cA 20, 4, .inl (fun _ => 0)))] H := hP
  have hD : va_D A [(h0, .inr (1, [.ref q1, .ref q2, .ref q3, .ref q4, .ref q5, .null, .null, .null, .null, .null, .int 0, .int 0, .int 0])), (q1, .inl (cA 20, 64, .inl (fun _ => 0))), (q2, .inl (cA 20, 64, .inl (fun _ => 0))), (q3, .inl (cA 20, 64, .inl (fun _ => 0))), (q4, .inl (cA 20, 4, .inl (fun _ => 0))), (q5, .inl (cA 20, 4, .inl (fun _ => 0)))] := hD
  refine lv_aload_n hx hb dX1_init_42 rfl (lv_at hl 0 rfl) ?_
  refine lv_iconst (v := nI 5) hx hb dX1_init_43 (by decide) ?_
  refine va_newa (ty := .int) (a0 := (5, .inl (fun _ => 0))) hx hb (atype := .int) (hts _ tw_113) rfl hK hP hD hS hA (fun _ => rfl) (by decide) (nI_clamp (by decide)) (by decide) (Nat.le_of_ble_eq_true rfl) (Nat.le_of_ble_eq_true rfl) dX1_init_44 (fun q6 c1 H hK1 hP hD hS => ?_)
  obtain rfl : c1 = cA 20 := ty_eq hK1 0 rfl
  have hP : va_P D vwCl [(h0, .inr (1, [.ref q1, .ref q2, .ref q3, .ref q4, .ref q5, .null, .null, .null, .null, .null, .int 0, .int 0, .int 0])), (q1, .inl (cA 20, 64, .inl (fun _ => 0))), (q2, .inl (cA 20, 64, .inl (fun _ => 0))), (q3, .inl (cA 20, 64, .inl (fun _ => 0))), (q4, .inl (cA 20, 4, .inl (fun _ => 0))), (q5, .inl (cA 20, 4, .inl (fun _ => 0))), (q6, .inl (cA 20, 5, .inl (fun _ => 0)))] H := hP
  have hD : va_D A [(h0, .inr (1, [.ref q1, .ref q2, .ref q3, .ref q4, .ref q5, .null, .null, .null, .null, .null, .int 0, .int 0, .int 0])), (q1, .inl (cA 20, 64, .inl (fun _ => 0))), (q2, .inl (cA 20, 64, .inl (fun _ => 0))), (q3, .inl (cA 20, 64, .inl (fun _ => 0))), (q4, .inl (cA 20, 4, .inl (fun _ => 0))), (q5, .inl (cA 20, 4, .inl (fun _ => 0))), (q6, .inl (cA 20, 5, .inl (fun _ => 0)))] := hD
  refine va_putF (ci := 1) (v := .ref q6) (ty := .array .int) (C := RX1) (T := TX1) (N := 13) hx hb hts inX1 tyX1 tyX1_ok nmX1 hown hK hP hD hS 0 rfl rfl 5 (by decide) (hts _ tw_125) (fun _ h9 => h9) rfl hin rfl (by decide +kernel) rfl rfl (Nat.le_of_ble_eq_true rfl) dX1_init_46 (fun H locs hP hD hS => ?_)
  have hP : va_P D vwCl [(h0, .inr (1, [.ref q1, .ref q2, .ref q3, .ref q4, .ref q5, .ref q6, .null, .null, .null, .null, .int 0, .int 0, .int 0])), (q1, .inl (cA 20, 64, .inl (fun _ => 0))), (q2, .inl (cA 20, 64, .inl (fun _ => 0))), (q3, .inl (cA 20, 64, .inl (fun _ => 0))), (q4, .inl (cA 20, 4, .inl (fun _ => 0))), (q5, .inl (cA 20, 4, .inl (fun _ => 0))), (q6, .inl (cA 20, 5, .inl (fun _ => 0)))] H := hP
  have hD : va_D A [(h0, .inr (1, [.ref q1, .ref q2, .ref q3, .ref q4, .ref q5, .ref q6, .null, .null, .null, .null, .int 0, .int 0, .int 0])), (q1, .inl (cA 20, 64, .inl (fun _ => 0))), (q2, .inl (cA 20, 64, .inl (fun _ => 0))), (q3, .inl (cA 20, 64, .inl (fun _ => 0))), (q4, .inl (cA 20, 4, .inl (fun _ => 0))), (q5, .inl (cA 20, 4, .inl (fun _ => 0))), (q6, .inl (cA 20, 5, .inl (fun _ => 0)))] := hD
  refine lv_aload_n hx hb dX1_init_49 rfl (lv_at hl 0 rfl) ?_
  refine lv_iconst (v := nI 5) hx hb dX1_init_50 (by decide) ?_
  refine va_newa (ty := .int) (a0 := (5, .inl (fun _ => 0))) hx hb (atype := .int) (hts _ tw_113) rfl hK hP hD hS hA (fun _ => rfl) (by decide) (nI_clamp (by decide)) (by decide) (Nat.le_of_ble_eq_true rfl) (Nat.le_of_ble_eq_true rfl) dX1_init_51 (fun q7 c1 H hK1 hP hD hS => ?_)
  obtain rfl : c1 = cA 20 := ty_eq hK1 0 rfl
  have hP : va_P D vwCl [(h0, .inr (1, [.ref q1, .ref q2, .ref q3, .ref q4, .ref q5, .ref q6, .null, .null, .null, .null, .int 0, .int 0, .int 0])), (q1, .inl (cA 20, 64, .inl (fun _ => 0))), (q2, .inl (cA 20, 64, .inl (fun _ => 0))), (q3, .inl (cA 20, 64, .inl (fun _ => 0))), (q4, .inl (cA 20, 4, .inl (fun _ => 0))), (q5, .inl (cA 20, 4, .inl (fun _ => 0))), (q6, .inl (cA 20, 5, .inl (fun _ => 0))), (q7, .inl (cA 20, 5, .inl (fun _ => 0)))] H := hP
  have hD : va_D A [(h0, .inr (1, [.ref q1, .ref q2, .ref q3, .ref q4, .ref q5, .ref q6, .null, .null, .null, .null, .int 0, .int 0, .int 0])), (q1, .inl (cA 20, 64, .inl (fun _ => 0))), (q2, .inl (cA 20, 64, .inl (fun _ => 0))), (q3, .inl (cA 20, 64, .inl (fun _ => 0))), (q4, .inl (cA 20, 4, .inl (fun _ => 0))), (q5, .inl (cA 20, 4, .inl (fun _ => 0))), (q6, .inl (cA 20, 5, .inl (fun _ => 0))), (q7, .inl (cA 20, 5, .inl (fun _ => 0)))] := hD
  refine va_putF (ci := 1) (v := .ref q7) (ty := .array .int) (C := RX1) (T := TX1) (N := 13) hx hb hts inX1 tyX1 tyX1_ok nmX1 hown hK hP hD hS 0 rfl rfl 6 (by decide) (hts _ tw_126) (fun _ h9 => h9) rfl hin rfl (by decide +kernel) rfl rfl (Nat.le_of_ble_eq_true rfl) dX1_init_53 (fun H locs hP hD hS => ?_)
  have hP : va_P D vwCl [(h0, .inr (1, [.ref q1, .ref q2, .ref q3, .ref q4, .ref q5, .ref q6, .ref q7, .null, .null, .null, .int 0, .int 0, .int 0])), (q1, .inl (cA 20, 64, .inl (fun _ => 0))), (q2, .inl (cA 20, 64, .inl (fun _ => 0))), (q3, .inl (cA 20, 64, .inl (fun _ => 0))), (q4, .inl (cA 20, 4, .inl (fun _ => 0))), (q5, .inl (cA 20, 4, .inl (fun _ => 0))), (q6, .inl (cA 20, 5, .inl (fun _ => 0))), (q7, .inl (cA 20, 5, .inl (fun _ => 0)))] H := hP
  have hD : va_D A [(h0, .inr (1, [.ref q1, .ref q2, .ref q3, .ref q4, .ref q5, .ref q6, .ref q7, .null, .null, .null, .int 0, .int 0, .int 0])), (q1, .inl (cA 20, 64, .inl (fun _ => 0))), (q2, .inl (cA 20, 64, .inl (fun _ => 0))), (q3, .inl (cA 20, 64, .inl (fun _ => 0))), (q4, .inl (cA 20, 4, .inl (fun _ => 0))), (q5, .inl (cA 20, 4, .inl (fun _ => 0))), (q6, .inl (cA 20, 5, .inl (fun _ => 0))), (q7, .inl (cA 20, 5, .inl (fun _ => 0)))] := hD
  refine lv_aload_n hx hb dX1_init_56 rfl (lv_at hl 0 rfl) ?_
  refine lv_iconst (v := nI 5) hx hb dX1_init_57 (by decide) ?_
  refine va_newa (ty := .int) (a0 := (5, .inl (fun _ => 0))) hx hb (atype := .int) (hts _ tw_113) rfl hK hP hD hS hA (fun _ => rfl) (by decide) (nI_clamp (by decide)) (by decide) (Nat.le_of_ble_eq_true rfl) (Nat.le_of_ble_eq_true rfl) dX1_init_58 (fun q8 c1 H hK1 hP hD hS => ?_)
  obtain rfl : c1 = cA 20 := ty_eq hK1 0 rfl
  have hP : va_P D vwCl [(h0, .inr (1, [.ref q1, .ref q2, .ref q3, .ref q4, .ref q5, .ref q6, .ref q7, .null, .null, .null, .int 0, .int 0, .int 0])), (q1, .inl (cA 20, 64, .inl (fun _ => 0))), (q2, .inl (cA 20, 64, .inl (fun _ => 0))), (q3, .inl (cA 20, 64, .inl (fun _ => 0))), (q4, .inl (cA 20, 4, .inl (fun _ => 0))), (q5, .inl (cA 20, 4, .inl (fun _ => 0))), (q6, .inl (cA 20, 5, .inl (fun _ => 0))), (q7, .inl (cA 20, 5, .inl (fun _ => 0))), (q8, .inl (cA 20, 5, .inl (fun _ => 0)))] H := hP
  have hD : va_D A [(h0, .inr (1, [.ref q1, .ref q2, .ref q3, .ref q4, .ref q5, .ref q6, .ref q7, .null, .null, .null, .int 0, .int 0, .int 0])), (q1, .inl (cA 20, 64, .inl (fun _ => 0))), (q2, .inl (cA 20, 64, .inl (fun _ => 0))), (q3, .inl (cA 20, 64, .inl (fun _ => 0))), (q4, .inl (cA 20, 4, .inl (fun _ => 0))), (q5, .inl (cA 20, 4, .inl (fun _ => 0))), (q6, .inl (cA 20, 5, .inl (fun _ => 0))), (q7, .inl (cA 20, 5, .inl (fun _ => 0))), (q8, .inl (cA 20, 5, .inl (fun _ => 0)))] := hD
  refine va_putF (ci := 1) (v := .ref q8) (ty := .array .int) (C := RX1) (T := TX1) (N := 13) hx hb hts inX1 tyX1 tyX1_ok nmX1 hown hK hP hD hS 0 rfl rfl 7 (by decide) (hts _ tw_127) (fun _ h9 => h9) rfl hin rfl (by decide +kernel) rfl rfl (Nat.le_of_ble_eq_true rfl) dX1_init_60 (fun H locs hP hD hS => ?_)
  have hP : va_P D vwCl [(h0, .inr (1, [.ref q1, .ref q2, .ref q3, .ref q4, .ref q5, .ref q6, .ref q7, .ref q8, .null, .null, .int 0, .int 0, .int 0])), (q1, .inl (cA 20, 64, .inl (fun _ => 0))), (q2, .inl (cA 20, 64, .inl (fun _ => 0))), (q3, .inl (cA 20, 64, .inl (fun _ => 0))), (q4, .inl (cA 20, 4, .inl (fun _ => 0))), (q5, .inl (cA 20, 4, .inl (fun _ => 0))), (q6, .inl (cA 20, 5, .inl (fun _ => 0))), (q7, .inl (cA 20, 5, .inl (fun _ => 0))), (q8, .inl (cA 20, 5, .inl (fun _ => 0)))] H := hP
  have hD : va_D A [(h0, .inr (1, [.ref q1, .ref q2, .ref q3, .ref q4, .ref q5, .ref q6, .ref q7, .ref q8, .null, .null, .int 0, .int 0, .int 0])), (q1, .inl (cA 20, 64, .inl (fun _ => 0))), (q2, .inl (cA 20, 64, .inl (fun _ => 0))), (q3, .inl (cA 20, 64, .inl (fun _ => 0))), (q4, .inl (cA 20, 4, .inl (fun _ => 0))), (q5, .inl (cA 20, 4, .inl (fun _ => 0))), (q6, .inl (cA 20, 5, .inl (fun _ => 0))), (q7, .inl (cA 20, 5, .inl (fun _ => 0))), (q8, .inl (cA 20, 5, .inl (fun _ => 0)))] := hD
  refine lv_aload_n hx hb dX1_init_63 rfl (lv_at hl 0 rfl) ?_
  refine lv_bipush (v := nI 8) hx hb dX1_init_64 (by decide) ?_
  refine va_newa (ty := .int) (a0 := (8, .inl (fun _ => 0))) hx hb (atype := .int) (hts _ tw_113) rfl hK hP hD hS hA (fun _ => rfl) (by decide) (nI_clamp (by decide)) (by decide) (Nat.le_of_ble_eq_true rfl) (Nat.le_of_ble_eq_true rfl) dX1_init_66 (fun q9 c1 H hK1 hP hD hS => ?_)
  obtain rfl : c1 = cA 20 := ty_eq hK1 0 rfl
  have hP : va_P D vwCl [(h0, .inr (1, [.ref q1, .ref q2, .ref q3, .ref q4, .ref q5, .ref q6, .ref q7, .ref q8, .null, .null, .int 0, .int 0, .int 0])), (q1, .inl (cA 20, 64, .inl (fun _ => 0))), (q2, .inl (cA 20, 64, .inl (fun _ => 0))), (q3, .inl (cA 20, 64, .inl (fun _ => 0))), (q4, .inl (cA 20, 4, .inl (fun _ => 0))), (q5, .inl (cA 20, 4, .inl (fun _ => 0))), (q6, .inl (cA 20, 5, .inl (fun _ => 0))), (q7, .inl (cA 20, 5, .inl (fun _ => 0))), (q8, .inl (cA 20, 5, .inl (fun _ => 0))), (q9, .inl (cA 20, 8, .inl (fun _ => 0)))] H := hP
  have hD : va_D A [(h0, .inr (1, [.ref q1, .ref q2, .ref q3, .ref q4, .ref q5, .ref q6, .ref q7, .ref q8, .null, .null, .int 0, .int 0, .int 0])), (q1, .inl (cA 20, 64, .inl (fun _ => 0))), (q2, .inl (cA 20, 64, .inl (fun _ => 0))), (q3, .inl (cA 20, 64, .inl (fun _ => 0))), (q4, .inl (cA 20, 4, .inl (fun _ => 0))), (q5, .inl (cA 20, 4, .inl (fun _ => 0))), (q6, .inl (cA 20, 5, .inl (fun _ => 0))), (q7, .inl (cA 20, 5, .inl (fun _ => 0))), (q8, .inl (cA 20, 5, .inl (fun _ => 0))), (q9, .inl (cA 20, 8, .inl (fun _ => 0)))] := hD
  refine va_putF (ci := 1) (v := .ref q9) (ty := .array .int) (C := RX1) (T := TX1) (N := 13) hx hb hts inX1 tyX1 tyX1_ok nmX1 hown hK hP hD hS 0 rfl rfl 8 (by decide) (hts _ tw_128) (fun _ h9 => h9) rfl hin rfl (by decide +kernel) rfl rfl (Nat.le_of_ble_eq_true rfl) dX1_init_68 (fun H locs hP hD hS => ?_)
  have hP : va_P D vwCl [(h0, .inr (1, [.ref q1, .ref q2, .ref q3, .ref q4, .ref q5, .ref q6, .ref q7, .ref q8, .ref q9, .null, .int 0, .int 0, .int 0])), (q1, .inl (cA 20, 64, .inl (fun _ => 0))), (q2, .inl (cA 20, 64, .inl (fun _ => 0))), (q3, .inl (cA 20, 64, .inl (fun _ => 0))), (q4, .inl (cA 20, 4, .inl (fun _ => 0))), (q5, .inl (cA 20, 4, .inl (fun _ => 0))), (q6, .inl (cA 20, 5, .inl (fun _ => 0))), (q7, .inl (cA 20, 5, .inl (fun _ => 0))), (q8, .inl (cA 20, 5, .inl (fun _ => 0))), (q9, .inl (cA 20, 8, .inl (fun _ => 0)))] H := hP
  have hD : va_D A [(h0, .inr (1, [.ref q1, .ref q2, .ref q3, .ref q4, .ref q5, .ref q6, .ref q7, .ref q8, .ref q9, .null, .int 0, .int 0, .int 0])), (q1, .inl (cA 20, 64, .inl (fun _ => 0))), (q2, .inl (cA 20, 64, .inl (fun _ => 0))), (q3, .inl (cA 20, 64, .inl (fun _ => 0))), (q4, .inl (cA 20, 4, .inl (fun _ => 0))), (q5, .inl (cA 20, 4, .inl (fun _ => 0))), (q6, .inl (cA 20, 5, .inl (fun _ => 0))), (q7, .inl (cA 20, 5, .inl (fun _ => 0))), (q8, .inl (cA 20, 5, .inl (fun _ => 0))), (q9, .inl (cA 20, 8, .inl (fun _ => 0)))] := hD
  refine lv_aload_n hx hb dX1_init_71 rfl (lv_at hl 0 rfl) ?_
  refine lv_bipush (v := nI 8) hx hb dX1_init_72 (by decide) ?_
  refine va_newa (ty := .int) (a0 := (8, .inl (fun _ => 0))) hx hb (atype := .int) (hts _ tw_113) rfl hK hP hD hS hA (fun _ => rfl) (by decide) (nI_clamp (by decide)) (by decide) (Nat.le_of_ble_eq_true rfl) (Nat.le_of_ble_eq_true rfl) dX1_init_74 (fun q10 c1 H hK1 hP hD hS => ?_)
  obtain rfl : c1 = cA 20 := ty_eq hK1 0 rfl
  have hP : va_P D vwCl [(h0, .inr (1, [.ref q1, .ref q2, .ref q3, .ref q4, .ref q5, .ref q6, .ref q7, .ref q8, .ref q9, .null, .int 0, .int 0, .int 0])), (q1, .inl (cA 20, 64, .inl (fun _ => 0))), (q2, .inl (cA 20, 64, .inl (fun _ => 0))), (q3, .inl (cA 20, 64, .inl (fun _ => 0))), (q4, .inl (cA 20, 4, .inl (fun _ => 0))), (q5, .inl (cA 20, 4, .inl (fun _ => 0))), (q6, .inl (cA 20, 5, .inl (fun _ => 0))), (q7, .inl (cA 20, 5, .inl (fun _ => 0))), (q8, .inl (cA 20, 5, .inl (fun _ => 0))), (q9, .inl (cA 20, 8, .inl (fun _ => 0))), (q10, .inl (cA 20, 8, .inl (fun _ => 0)))] H := hP
  have hD : va_D A [(h0, .inr (1, [.ref q1, .ref q2, .ref q3, .ref q4, .ref q5, .ref q6, .ref q7, .ref q8, .ref q9, .null, .int 0, .int 0, .int 0])), (q1, .inl (cA 20, 64, .inl (fun _ => 0))), (q2, .inl (cA 20, 64, .inl (fun _ => 0))), (q3, .inl (cA 20, 64, .inl (fun _ => 0))), (q4, .inl (cA 20, 4, .inl (fun _ => 0))), (q5, .inl (cA 20, 4, .inl (fun _ => 0))), (q6, .inl (cA 20, 5, .inl (fun _ => 0))), (q7, .inl (cA 20, 5, .inl (fun _ => 0))), (q8, .inl (cA 20, 5, .inl (fun _ => 0))), (q9, .inl (cA 20, 8, .inl (fun _ => 0))), (q10, .inl (cA 20, 8, .inl (fun _ => 0)))] := hD
  refine va_putF (ci := 1) (v := .ref q10) (ty := .array .int) (C := RX1) (T := TX1) (N := 13) hx hb hts inX1 tyX1 tyX1_ok nmX1 hown hK hP hD hS 0 rfl rfl 9 (by decide) (hts _ tw_129) (fun _ h9 => h9) rfl hin rfl (by decide +kernel) rfl rfl (Nat.le_of_ble_eq_true rfl) dX1_init_76 (fun H locs hP hD hS => ?_)
  have hP : va_P D vwCl [(h0, .inr (1, [.ref q1, .ref q2, .ref q3, .ref q4, .ref q5, .ref q6, .ref q7, .ref q8, .ref q9, .ref q10, .int 0, .int 0, .int 0])), (q1, .inl (cA 20, 64, .inl (fun _ => 0))), (q2, .inl (cA 20, 64, .inl (fun _ => 0))), (q3, .inl (cA 20, 64, .inl (fun _ => 0))), (q4, .inl (cA 20, 4, .inl (fun _ => 0))), (q5, .inl (cA 20, 4, .inl (fun _ => 0))), (q6, .inl (cA 20, 5, .inl (fun _ => 0))), (q7, .inl (cA 20, 5, .inl (fun _ => 0))), (q8, .inl (cA 20, 5, .inl (fun _ => 0))), (q9, .inl (cA 20, 8, .inl (fun _ => 0))), (q10, .inl (cA 20, 8, .inl (fun _ => 0)))] H := hP
  have hD : va_D A [(h0, .inr (1, [.ref q1, .ref q2, .ref q3, .ref q4, .ref q5, .ref q6, .ref q7, .ref q8, .ref q9, .ref q10, .int 0, .int 0, .int 0])), (q1, .inl (cA 20, 64, .inl (fun _ => 0))), (q2, .inl (cA 20, 64, .inl (fun _ => 0))), (q3, .inl (cA 20, 64, .inl (fun _ => 0))), (q4, .inl (cA 20, 4, .inl (fun _ => 0))), (q5, .inl (cA 20, 4, .inl (fun _ => 0))), (q6, .inl (cA 20, 5, .inl (fun _ => 0))), (q7, .inl (cA 20, 5, .inl (fun _ => 0))), (q8, .inl (cA 20, 5, .inl (fun _ => 0))), (q9, .inl (cA 20, 8, .inl (fun _ => 0))), (q10, .inl (cA 20, 8, .inl (fun _ => 0)))] := hD
  refine lv_aload_n hx hb dX1_init_79 rfl (lv_at hl 0 rfl) ?_
  refine lv_iconst (v := nI 5) hx hb dX1_init_80 (by decide) ?_
  refine va_put (ci := 1) (v := .int (nI 5)) (ty := .int) (C := RX1) (T := TX1) (N := 13) hx hb hts inX1 tyX1 tyX1_ok nmX1 hown hK hP hD hS 0 rfl rfl 10 (by decide) (hts _ tw_130) (fun _ h9 => h9) rfl (by decide +kernel) (vp_nar_int _) rfl (Nat.le_of_ble_eq_true rfl) dX1_init_81 (fun H locs hP hD hS => ?_)
  have hP : va_P D vwCl [(h0, .inr (1, [.ref q1, .ref q2, .ref q3, .ref q4, .ref q5, .ref q6, .ref q7, .ref q8, .ref q9, .ref q10, .int (nI 5), .int 0, .int 0])), (q1, .inl (cA 20, 64, .inl (fun _ => 0))), (q2, .inl (cA 20, 64, .inl (fun _ => 0))), (q3, .inl (cA 20, 64, .inl (fun _ => 0))), (q4, .inl (cA 20, 4, .inl (fun _ => 0))), (q5, .inl (cA 20, 4, .inl (fun _ => 0))), (q6, .inl (cA 20, 5, .inl (fun _ => 0))), (q7, .inl (cA 20, 5, .inl (fun _ => 0))), (q8, .inl (cA 20, 5, .inl (fun _ => 0))), (q9, .inl (cA 20, 8, .inl (fun _ => 0))), (q10, .inl (cA 20, 8, .inl (fun _ => 0)))] H := hP
  have hD : va_D A [(h0, .inr (1, [.ref q1, .ref q2, .ref q3, .ref q4, .ref q5, .ref q6, .ref q7, .ref q8, .ref q9, .ref q10, .int (nI 5), .int 0, .int 0])), (q1, .inl (cA 20, 64, .inl (fun _ => 0))), (q2, .inl (cA 20, 64, .inl (fun _ => 0))), (q3, .inl (cA 20, 64, .inl (fun _ => 0))), (q4, .inl (cA 20, 4, .inl (fun _ => 0))), (q5, .inl (cA 20, 4, .inl (fun _ => 0))), (q6, .inl (cA 20, 5, .inl (fun _ => 0))), (q7, .inl (cA 20, 5, .inl (fun _ => 0))), (q8, .inl (cA 20, 5, .inl (fun _ => 0))), (q9, .inl (cA 20, 8, .inl (fun _ => 0))), (q10, .inl (cA 20, 8, .inl (fun _ => 0)))] := hD
  refine lv_aload_n hx hb dX1_init_84 rfl (lv_at hl 0 rfl) ?_
  refine lv_iconst (v := nI 0) hx hb dX1_init_85 (by decide) ?_
  refine va_put (ci := 1) (v := .int (nI 0)) (ty := .int) (C := RX1) (T := TX1) (N := 13) hx hb hts inX1 tyX1 tyX1_ok nmX1 hown hK hP hD hS 0 rfl rfl 11 (by decide) (hts _ tw_131) (fun _ h9 => h9) rfl (by decide +kernel) (vp_nar_int _) rfl (Nat.le_of_ble_eq_true rfl) dX1_init_86 (fun H locs hP hD hS => ?_)
  have hP : va_P D vwCl [(h0, .inr (1, [.ref q1, .ref q2, .ref q3, .ref q4, .ref q5, .ref q6, .ref q7, .ref q8, .ref q9, .ref q10, .int (nI 5), .int (nI 0), .int 0])), (q1, .inl (cA 20, 64, .inl (fun _ => 0))), (q2, .inl (cA 20, 64, .inl (fun _ => 0))), (q3, .inl (cA 20, 64, .inl (fun _ => 0))), (q4, .inl (cA 20, 4, .inl (fun _ => 0))), (q5, .inl (cA 20, 4, .inl (fun _ => 0))), (q6, .inl (cA 20, 5, .inl (fun _ => 0))), (q7, .inl (cA 20, 5, .inl (fun _ => 0))), (q8, .inl (cA 20, 5, .inl (fun _ => 0))), (q9, .inl (cA 20, 8, .inl (fun _ => 0))), (q10, .inl (cA 20, 8, .inl (fun _ => 0)))] H := hP
  have hD : va_D A [(h0, .inr (1, [.ref q1, .ref q2, .ref q3, .ref q4, .ref q5, .ref q6, .ref q7, .ref q8, .ref q9, .ref q10, .int (nI 5), .int (nI 0), .int 0])), (q1, .inl (cA 20, 64, .inl (fun _ => 0))), (q2, .inl (cA 20, 64, .inl (fun _ => 0))), (q3, .inl (cA 20, 64, .inl (fun _ => 0))), (q4, .inl (cA 20, 4, .inl (fun _ => 0))), (q5, .inl (cA 20, 4, .inl (fun _ => 0))), (q6, .inl (cA 20, 5, .inl (fun _ => 0))), (q7, .inl (cA 20, 5, .inl (fun _ => 0))), (q8, .inl (cA 20, 5, .inl (fun _ => 0))), (q9, .inl (cA 20, 8, .inl (fun _ => 0))), (q10, .inl (cA 20, 8, .inl (fun _ => 0)))] := hD
  refine lv_aload_n hx hb dX1_init_89 rfl (lv_at hl 0 rfl) ?_
  refine lv_iconst (v := nI 0) hx hb dX1_init_90 (by decide) ?_
  refine va_put (ci := 1) (v := .int (nI 0)) (ty := .int) (C := RX1) (T := TX1) (N := 13) hx hb hts inX1 tyX1 tyX1_ok nmX1 hown hK hP hD hS 0 rfl rfl 12 (by decide) (hts _ tw_132) (fun _ h9 => h9) rfl (by decide +kernel) (vp_nar_int _) rfl (Nat.le_of_ble_eq_true rfl) dX1_init_91 (fun H locs hP hD hS => ?_)
  have hP : va_P D vwCl [(h0, .inr (1, [.ref q1, .ref q2, .ref q3, .ref q4, .ref q5, .ref q6, .ref q7, .ref q8, .ref q9, .ref q10, .int (nI 5), .int (nI 0), .int (nI 0)])), (q1, .inl (cA 20, 64, .inl (fun _ => 0))), (q2, .inl (cA 20, 64, .inl (fun _ => 0))), (q3, .inl (cA 20, 64, .inl (fun _ => 0))), (q4, .inl (cA 20, 4, .inl (fun _ => 0))), (q5, .inl (cA 20, 4, .inl (fun _ => 0))), (q6, .inl (cA 20, 5, .inl (fun _ => 0))), (q7, .inl (cA 20, 5, .inl (fun _ => 0))), (q8, .inl (cA 20, 5, .inl (fun _ => 0))), (q9, .inl (cA 20, 8, .inl (fun _ => 0))), (q10, .inl (cA 20, 8, .inl (fun _ => 0)))] H := hP
  have hD : va_D A [(h0, .inr (1, [.ref q1, .ref q2, .ref q3, .ref q4, .ref q5, .ref q6, .ref q7, .ref q8, .ref q9, .ref q10, .int (nI 5), .int (nI 0), .int (nI 0)])), (q1, .inl (cA 20, 64, .inl (fun _ => 0))), (q2, .inl (cA 20, 64, .inl (fun _ => 0))), (q3, .inl (cA 20, 64, .inl (fun _ => 0))), (q4, .inl (cA 20, 4, .inl (fun _ => 0))), (q5, .inl (cA 20, 4, .inl (fun _ => 0))), (q6, .inl (cA 20, 5, .inl (fun _ => 0))), (q7, .inl (cA 20, 5, .inl (fun _ => 0))), (q8, .inl (cA 20, 5, .inl (fun _ => 0))), (q9, .inl (cA 20, 8, .inl (fun _ => 0))), (q10, .inl (cA 20, 8, .inl (fun _ => 0)))] := hD
  refine W.widen (k := 10) (n := 231) (Nat.le_of_ble_eq_true rfl) (Nat.le_of_ble_eq_true rfl) ?_
  exact W.vret hx hb hr (fun t ht hW => ⟨⟨(fun k => ([q1, q2, q3, q4, q5, q6, q7, q8, q9, q10] : List Nat).getD k 0), rfl, trivial, by rw [ht]; exact hP, by rw [hAe]; exact hD⟩, hAe ▸ hS.F ht⟩) (fun q hq => hAe ▸ hS.2.2 q hq) dX1_init_94
theorem dX3_init_0 : decode cX3_init 0 = .ok (.aload_n 0, 1) := by decide +kernel
theorem dX3_init_1 : decode cX3_init 1 = .ok (.invokespecial 3, 3) := by decide +kernel
theorem dX3_init_4 : decode cX3_init 4 = .ok (.aload_n 0, 1) := by decide +kernel
theorem dX3_init_5 : decode cX3_init 5 = .ok (.aload_n 1, 1) := by decide +kernel
theorem dX3_init_6 : decode cX3_init 6 = .ok (.putfield 9, 3) := by decide +kernel
theorem dX3_init_9 : decode cX3_init 9 = .ok (.aload_n 0, 1) := by decide +kernel
theorem dX3_init_10 : decode cX3_init 10 = .ok (.new 15, 3) := by decide +kernel
theorem dX3_init_13 : decode cX3_init 13 = .ok (.dup, 1) := by decide +kernel
theorem dX3_init_14 : decode cX3_init 14 = .ok (.aload_n 1, 1) := by decide +kernel
theorem dX3_init_15 : decode cX3_init 15 = .ok (.invokespecial 17, 3) := by decide +kernel
theorem dX3_init_18 : decode cX3_init 18 = .ok (.putfield 20, 3) := by decide +kernel
theorem dX3_init_21 : decode cX3_init 21 = .ok (.return_, 1) := by decide +kernel
set_option maxHeartbeats 4000000 in
set_option maxRecDepth 100000 in
theorem k_X3 (l : Launch) (D : va_G) (cA : Nat → ClassId) (h0 ct : Nat) : cMet l D cA yX3_init cX3_init 2 { frames := 2, cells := 2, slots := 66, locals := 33 } [.ref h0, .ref ct] h0 (.inr (3, [.null, .null])) 2 66 (fun f => [(h0, .inr (3, [.ref ct, .ref (f 0)])), ((f 0), .inr (4, [.ref ct, .ref (f 1)])), ((f 1), .inl (cA 20, 64, .inl (fun _ => 0)))]) := by
  intro sz
  refine Met.ofW (cc := cX3_init) (maxL := 2) (ret := none) (by decide) rfl ?_
  intro p e s m args below meth c s₁ B hml hv
  obtain ⟨rfl, hsz, hP, hK, hD0, hAO⟩ := hv
  have hx := B.exec
  have hb := B.bytes
  have hr := B.returns
  have hts0 := atoms_spec (ws := Cond.code yX3_init cX3_init 2 none :: tbg) B.pre
  have hts : ∀ w ∈ tbg, w.before _ s = true := fun w hw => hts0 w (List.mem_cons_of_mem _ hw)
  have hown : s.vm.findClass RX3 = some m.cls := findClass_of_methodNamed B.named
  have hlocks := B.notSynchronized
  have hin : meth.name = "<init>" := (name_of_methodNamed B.named B.method).1
  subst hsz
  have hD := hD0.self (sz := s.heap.size)
  generalize hAe : va_A [(h0, .inr (3, [.null, .null]))] s.heap.size = A at hD ⊢
  have hA : ∀ q : Nat, s.heap.size ≤ q → A q := fun q h => by rw [← hAe]; exact Or.inr h
  have hS : va_S A s.heap s.heap [] := va_S.rf
  have hP : va_P D vwCl [(h0, .inr (3, [.null, .null]))] s.heap := hP
  have hl := lv_entry ([.ref h0, .ref ct]) (n := 2) (Nat.le_of_ble_eq_true rfl)
  rw [lg_entry_eq]
  generalize (lg_sl ([.ref h0, .ref ct]) ++ List.replicate (2 - (lg_sl ([.ref h0, .ref ct])).length) Slot.unset).toArray = ls at hl ⊢
  have hl : lv_has ls 2 [(0, .ref h0), (1, .ref ct)] := hl
  refine lv_aload_n hx hb dX3_init_0 rfl (lv_at hl 0 rfl) ?_
  refine W.objInit hx hb hown (hts _ tw_197) (hts _ tw_81) (hts _ tw_82) rfl (by rw [hml]; exact hl.1) rfl dX3_init_1 (Nat.le_of_ble_eq_true rfl) (Nat.le_of_ble_eq_true rfl) ?_
  refine W.eq (g2 := F0 m 4 ls []) rfl ?_
  refine lv_aload_n hx hb dX3_init_4 rfl (lv_at hl 0 rfl) ?_
  refine lv_aload_n hx hb dX3_init_5 rfl (lv_at hl 1 rfl) ?_
  refine va_putF (ci := 3) (v := .ref ct) (ty := .object "DonkeyVerdicts$Court") (C := RX3) (T := TX3) (N := 2) hx hb hts inX3 tyX3 tyX3_ok nmX3 hown hK hP hD hS 0 rfl rfl 0 (by decide) (hts _ tw_200) (fun _ h9 => h9) rfl hin rfl (by decide +kernel) rfl rfl (Nat.le_of_ble_eq_true rfl) dX3_init_6 (fun H locs hP hD hS => ?_)
  have hP : va_P D vwCl [(h0, .inr (3, [.ref ct, .null]))] H := hP
  have hD : va_D A [(h0, .inr (3, [.ref ct, .null]))] := hD
  refine lv_aload_n hx hb dX3_init_9 rfl (lv_at hl 0 rfl) ?_
  refine va_new (ci := 4) (fs := [.null, .null]) (C := RX4) (T := TX4) (N := 2) hx hb hts inX4 tyX4 tyX4_ok hown (hts _ tw_198) (hts _ tw_161) (hts _ tw_61) hK hP hD hS hA rfl (fun j hj => by match j, hj with | 0, _ => rfl | 1, _ => rfl) (Nat.le_of_ble_eq_true rfl) (Nat.le_of_ble_eq_true rfl) dX3_init_10 (fun q1 H hP hD hS => ?_)
  have hP : va_P D vwCl [(h0, .inr (3, [.ref ct, .null])), (q1, .inr (4, [.null, .null]))] H := hP
  have hD : va_D A [(h0, .inr (3, [.ref ct, .null])), (q1, .inr (4, [.null, .null]))] := hD
  refine lv_dup hx hb dX3_init_13 rfl ?_
  refine lv_aload_n hx hb dX3_init_14 rfl (lv_at hl 1 rfl) ?_
  refine c_callI (n := 1) (ws := [(h0, .inr (3, [.ref ct, .null]))]) [.ref ct] (k_X4 l D cA q1 ct) ⟨hx, hb, hml, hown, hts⟩ ⟨tw_164, tw_61, tw_199, tw_163⟩ (by decide +kernel) ⟨(Nat.le_of_ble_eq_true rfl), (Nat.le_of_ble_eq_true rfl)⟩ ⟨rfl, rfl⟩ ⟨(Nat.le_of_ble_eq_true rfl), (Nat.le_of_ble_eq_true rfl)⟩ hK hAO hP hD hS hA rfl hl.1 (Nat.le_of_ble_eq_true rfl) dX3_init_15 rfl (fun f2 H locs hP hD hS => ?_)
  have hP : va_P D vwCl [(h0, .inr (3, [.ref ct, .null])), (q1, .inr (4, [.ref ct, .ref (f2 0)])), ((f2 0), .inl (cA 20, 64, .inl (fun _ => 0)))] H := hP
  have hD : va_D A [(h0, .inr (3, [.ref ct, .null])), (q1, .inr (4, [.ref ct, .ref (f2 0)])), ((f2 0), .inl (cA 20, 64, .inl (fun _ => 0)))] := hD
  refine va_putF (ci := 3) (v := .ref q1) (ty := .object "DonkeyVerdicts$Herd") (C := RX3) (T := TX3) (N := 2) hx hb hts inX3 tyX3 tyX3_ok nmX3 hown hK hP hD hS 0 rfl rfl 1 (by decide) (hts _ tw_201) (fun _ h9 => h9) rfl hin rfl (by decide +kernel) rfl rfl (Nat.le_of_ble_eq_true rfl) dX3_init_18 (fun H locs hP hD hS => ?_)
  have hP : va_P D vwCl [(h0, .inr (3, [.ref ct, .ref q1])), (q1, .inr (4, [.ref ct, .ref (f2 0)])), ((f2 0), .inl (cA 20, 64, .inl (fun _ => 0)))] H := hP
  have hD : va_D A [(h0, .inr (3, [.ref ct, .ref q1])), (q1, .inr (4, [.ref ct, .ref (f2 0)])), ((f2 0), .inl (cA 20, 64, .inl (fun _ => 0)))] := hD
  refine W.widen (k := 2) (n := 66) (Nat.le_of_ble_eq_true rfl) (Nat.le_of_ble_eq_true rfl) ?_
  exact W.vret hx hb hr (fun t ht hW => ⟨⟨(fun k => ([q1, (f2 0)] : List Nat).getD k 0), rfl, trivial, by rw [ht]; exact hP, by rw [hAe]; exact hD⟩, hAe ▸ hS.F ht⟩) (fun q hq => hAe ▸ hS.2.2 q hq) dX3_init_21
theorem dX2_init_0 : decode cX2_init 0 = .ok (.aload_n 0, 1) := by decide +kernel
theorem dX2_init_1 : decode cX2_init 1 = .ok (.invokespecial 3, 3) := by decide +kernel
theorem dX2_init_4 : decode cX2_init 4 = .ok (.aload_n 0, 1) := by decide +kernel
theorem dX2_init_5 : decode cX2_init 5 = .ok (.iconst 4, 1) := by decide +kernel
theorem dX2_init_6 : decode cX2_init 6 = .ok (.newarray .int, 2) := by decide +kernel
theorem dX2_init_8 : decode cX2_init 8 = .ok (.putfield 9, 3) := by decide +kernel
theorem dX2_init_11 : decode cX2_init 11 = .ok (.aload_n 0, 1) := by decide +kernel
theorem dX2_init_12 : decode cX2_init 12 = .ok (.iconst 4, 1) := by decide +kernel
theorem dX2_init_13 : decode cX2_init 13 = .ok (.newarray .int, 2) := by decide +kernel
theorem dX2_init_15 : decode cX2_init 15 = .ok (.putfield 15, 3) := by decide +kernel
theorem dX2_init_18 : decode cX2_init 18 = .ok (.aload_n 0, 1) := by decide +kernel
theorem dX2_init_19 : decode cX2_init 19 = .ok (.aload_n 1, 1) := by decide +kernel
theorem dX2_init_20 : decode cX2_init 20 = .ok (.putfield 18, 3) := by decide +kernel
theorem dX2_init_23 : decode cX2_init 23 = .ok (.aload_n 0, 1) := by decide +kernel
theorem dX2_init_24 : decode cX2_init 24 = .ok (.new 22, 3) := by decide +kernel
theorem dX2_init_27 : decode cX2_init 27 = .ok (.dup, 1) := by decide +kernel
theorem dX2_init_28 : decode cX2_init 28 = .ok (.aload_n 1, 1) := by decide +kernel
theorem dX2_init_29 : decode cX2_init 29 = .ok (.invokespecial 24, 3) := by decide +kernel
theorem dX2_init_32 : decode cX2_init 32 = .ok (.putfield 27, 3) := by decide +kernel
theorem dX2_init_35 : decode cX2_init 35 = .ok (.return_, 1) := by decide +kernel
set_option maxHeartbeats 4000000 in
set_option maxRecDepth 100000 in
theorem k_X2 (l : Launch) (D : va_G) (cA : Nat → ClassId) (h0 ct : Nat) : cMet l D cA yX2_init cX2_init 2 { frames := 2, cells := 4, slots := 74, locals := 33 } [.ref h0, .ref ct] h0 (.inr (2, [.null, .null, .null, .null])) 4 74 (fun f => [(h0, .inr (2, [.ref ct, .ref (f 2), .ref (f 0), .ref (f 1)])), ((f 0), .inl (cA 20, 4, .inl (fun _ => 0))), ((f 1), .inl (cA 20, 4, .inl (fun _ => 0))), ((f 2), .inr (4, [.ref ct, .ref (f 3)])), ((f 3), .inl (cA 20, 64, .inl (fun _ => 0)))]) := by
  intro sz
  refine Met.ofW (cc := cX2_init) (maxL := 2) (ret := none) (by decide) rfl ?_
  intro p e s m args below meth c s₁ B hml hv
  obtain ⟨rfl, hsz, hP, hK, hD0, hAO⟩ := hv
  have hx := B.exec
  have hb := B.bytes
  have hr := B.returns
  have hts0 := atoms_spec (ws := Cond.code yX2_init cX2_init 2 none :: tbg) B.pre
  have hts : ∀ w ∈ tbg, w.before _ s = true := fun w hw => hts0 w (List.mem_cons_of_mem _ hw)
  have hown : s.vm.findClass RX2 = some m.cls := findClass_of_methodNamed B.named
  have hlocks := B.notSynchronized
  have hin : meth.name = "<init>" := (name_of_methodNamed B.named B.method).1
  subst hsz
  have hD := hD0.self (sz := s.heap.size)
  generalize hAe : va_A [(h0, .inr (2, [.null, .null, .null, .null]))] s.heap.size = A at hD ⊢
  have hA : ∀ q : Nat, s.heap.size ≤ q → A q := fun q h => by rw [← hAe]; exact Or.inr h
  have hS : va_S A s.heap s.heap [] := va_S.rf
  have hP : va_P D vwCl [(h0, .inr (2, [.null, .null, .null, .null]))] s.heap := hP
  have hl := lv_entry ([.ref h0, .ref ct]) (n := 2) (Nat.le_of_ble_eq_true rfl)
  rw [lg_entry_eq]
  generalize (lg_sl ([.ref h0, .ref ct]) ++ List.replicate (2 - (lg_sl ([.ref h0, .ref ct])).length) Slot.unset).toArray = ls at hl ⊢
  have hl : lv_has ls 2 [(0, .ref h0), (1, .ref ct)] := hl
  refine lv_aload_n hx hb dX2_init_0 rfl (lv_at hl 0 rfl) ?_
  refine W.objInit hx hb hown (hts _ tw_212) (hts _ tw_81) (hts _ tw_82) rfl (by rw [hml]; exact hl.1) rfl dX2_init_1 (Nat.le_of_ble_eq_true rfl) (Nat.le_of_ble_eq_true rfl) ?_
  refine W.eq (g2 := F0 m 4 ls []) rfl ?_
  refine lv_aload_n hx hb dX2_init_4 rfl (lv_at hl 0 rfl) ?_
  refine lv_iconst (v := nI 4) hx hb dX2_init_5 (by decide) ?_
  refine va_newa (ty := .int) (a0 := (4, .inl (fun _ => 0))) hx hb (atype := .int) (hts _ tw_113) rfl hK hP hD hS hA (fun _ => rfl) (by decide) (nI_clamp (by decide)) (by decide) (Nat.le_of_ble_eq_true rfl) (Nat.le_of_ble_eq_true rfl) dX2_init_6 (fun q1 c1 H hK1 hP hD hS => ?_)
  obtain rfl : c1 = cA 20 := ty_eq hK1 0 rfl
  have hP : va_P D vwCl [(h0, .inr (2, [.null, .null, .null, .null])), (q1, .inl (cA 20, 4, .inl (fun _ => 0)))] H := hP
  have hD : va_D A [(h0, .inr (2, [.null, .null, .null, .null])), (q1, .inl (cA 20, 4, .inl (fun _ => 0)))] := hD
  refine va_putF (ci := 2) (v := .ref q1) (ty := .array .int) (C := RX2) (T := TX2) (N := 4) hx hb hts inX2 tyX2 tyX2_ok nmX2 hown hK hP hD hS 0 rfl rfl 2 (by decide) (hts _ tw_217) (fun _ h9 => h9) rfl hin rfl (by decide +kernel) rfl rfl (Nat.le_of_ble_eq_true rfl) dX2_init_8 (fun H locs hP hD hS => ?_)
  have hP : va_P D vwCl [(h0, .inr (2, [.null, .null, .ref q1, .null])), (q1, .inl (cA 20, 4, .inl (fun _ => 0)))] H := hP
  have hD : va_D A [(h0, .inr (2, [.null, .null, .ref q1, .null])), (q1, .inl (cA 20, 4, .inl (fun _ => 0)))] := hD
  refine lv_aload_n hx hb dX2_init_11 rfl (lv_at hl 0 rfl) ?_
  refine lv_iconst (v := nI 4) hx hb dX2_init_12 (by decide) ?_
  refine va_newa (ty := .int) (a0 := (4, .inl (fun _ => 0))) hx hb (atype := .int) (hts _ tw_113) rfl hK hP hD hS hA (fun _ => rfl) (by decide) (nI_clamp (by decide)) (by decide) (Nat.le_of_ble_eq_true rfl) (Nat.le_of_ble_eq_true rfl) dX2_init_13 (fun q2 c1 H hK1 hP hD hS => ?_)
  obtain rfl : c1 = cA 20 := ty_eq hK1 0 rfl
  have hP : va_P D vwCl [(h0, .inr (2, [.null, .null, .ref q1, .null])), (q1, .inl (cA 20, 4, .inl (fun _ => 0))), (q2, .inl (cA 20, 4, .inl (fun _ => 0)))] H := hP
  have hD : va_D A [(h0, .inr (2, [.null, .null, .ref q1, .null])), (q1, .inl (cA 20, 4, .inl (fun _ => 0))), (q2, .inl (cA 20, 4, .inl (fun _ => 0)))] := hD
  refine va_putF (ci := 2) (v := .ref q2) (ty := .array .int) (C := RX2) (T := TX2) (N := 4) hx hb hts inX2 tyX2 tyX2_ok nmX2 hown hK hP hD hS 0 rfl rfl 3 (by decide) (hts _ tw_218) (fun _ h9 => h9) rfl hin rfl (by decide +kernel) rfl rfl (Nat.le_of_ble_eq_true rfl) dX2_init_15 (fun H locs hP hD hS => ?_)
  have hP : va_P D vwCl [(h0, .inr (2, [.null, .null, .ref q1, .ref q2])), (q1, .inl (cA 20, 4, .inl (fun _ => 0))), (q2, .inl (cA 20, 4, .inl (fun _ => 0)))] H := hP
  have hD : va_D A [(h0, .inr (2, [.null, .null, .ref q1, .ref q2])), (q1, .inl (cA 20, 4, .inl (fun _ => 0))), (q2, .inl (cA 20, 4, .inl (fun _ => 0)))] := hD
  refine lv_aload_n hx hb dX2_init_18 rfl (lv_at hl 0 rfl) ?_
  refine lv_aload_n hx hb dX2_init_19 rfl (lv_at hl 1 rfl) ?_
  refine va_putF (ci := 2) (v := .ref ct) (ty := .object "DonkeyVerdicts$Court") (C := RX2) (T := TX2) (N := 4) hx hb hts inX2 tyX2 tyX2_ok nmX2 hown hK hP hD hS 0 rfl rfl 0 (by decide) (hts _ tw_215) (fun _ h9 => h9) rfl hin rfl (by decide +kernel) rfl rfl (Nat.le_of_ble_eq_true rfl) dX2_init_20 (fun H locs hP hD hS => ?_)
  have hP : va_P D vwCl [(h0, .inr (2, [.ref ct, .null, .ref q1, .ref q2])), (q1, .inl (cA 20, 4, .inl (fun _ => 0))), (q2, .inl (cA 20, 4, .inl (fun _ => 0)))] H := hP
  have hD : va_D A [(h0, .inr (2, [.ref ct, .null, .ref q1, .ref q2])), (q1, .inl (cA 20, 4, .inl (fun _ => 0))), (q2, .inl (cA 20, 4, .inl (fun _ => 0)))] := hD
  refine lv_aload_n hx hb dX2_init_23 rfl (lv_at hl 0 rfl) ?_
  refine va_new (ci := 4) (fs := [.null, .null]) (C := RX4) (T := TX4) (N := 2) hx hb hts inX4 tyX4 tyX4_ok hown (hts _ tw_213) (hts _ tw_161) (hts _ tw_61) hK hP hD hS hA rfl (fun j hj => by match j, hj with | 0, _ => rfl | 1, _ => rfl) (Nat.le_of_ble_eq_true rfl) (Nat.le_of_ble_eq_true rfl) dX2_init_24 (fun q3 H hP hD hS => ?_)
  have hP : va_P D vwCl [(h0, .inr (2, [.ref ct, .null, .ref q1, .ref q2])), (q1, .inl (cA 20, 4, .inl (fun _ => 0))), (q2, .inl (cA 20, 4, .inl (fun _ => 0))), (q3, .inr (4, [.null, .null]))] H := hP
  have hD : va_D A [(h0, .inr (2, [.ref ct, .null, .ref q1, .ref q2])), (q1, .inl (cA 20, 4, .inl (fun _ => 0))), (q2, .inl (cA 20, 4, .inl (fun _ => 0))), (q3, .inr (4, [.null, .null]))] := hD
  refine lv_dup hx hb dX2_init_27 rfl ?_
  refine lv_aload_n hx hb dX2_init_28 rfl (lv_at hl 1 rfl) ?_
  refine c_callI (n := 1) (ws := [(h0, .inr (2, [.ref ct, .null, .ref q1, .ref q2])), (q1, .inl (cA 20, 4, .inl (fun _ => 0))), (q2, .inl (cA 20, 4, .inl (fun _ => 0)))]) [.ref ct] (k_X4 l D cA q3 ct) ⟨hx, hb, hml, hown, hts⟩ ⟨tw_164, tw_61, tw_214, tw_163⟩ (by decide +kernel) ⟨(Nat.le_of_ble_eq_true rfl), (Nat.le_of_ble_eq_true rfl)⟩ ⟨rfl, rfl⟩ ⟨(Nat.le_of_ble_eq_true rfl), (Nat.le_of_ble_eq_true rfl)⟩ hK hAO hP hD hS hA rfl hl.1 (Nat.le_of_ble_eq_true rfl) dX2_init_29 rfl (fun f4 H locs hP hD hS => ?_)
  have hP : va_P D vwCl [(h0, .inr (2, [.ref ct, .null, .ref q1, .ref q2])), (q1, .inl (cA 20, 4, .inl (fun _ => 0))), (q2, .inl (cA 20, 4, .inl (fun _ => 0))), (q3, .inr (4, [.ref ct, .ref (f4 0)])), ((f4 0), .inl (cA 20, 64, .inl (fun _ => 0)))] H := hP
  have hD : va_D A [(h0, .inr (2, [.ref ct, .null, .ref q1, .ref q2])), (q1, .inl (cA 20, 4, .inl (fun _ => 0))), (q2, .inl (cA 20, 4, .inl (fun _ => 0))), (q3, .inr (4, [.ref ct, .ref (f4 0)])), ((f4 0), .inl (cA 20, 64, .inl (fun _ => 0)))] := hD
  refine va_putF (ci := 2) (v := .ref q3) (ty := .object "DonkeyVerdicts$Herd") (C := RX2) (T := TX2) (N := 4) hx hb hts inX2 tyX2 tyX2_ok nmX2 hown hK hP hD hS 0 rfl rfl 1 (by decide) (hts _ tw_216) (fun _ h9 => h9) rfl hin rfl (by decide +kernel) rfl rfl (Nat.le_of_ble_eq_true rfl) dX2_init_32 (fun H locs hP hD hS => ?_)
  have hP : va_P D vwCl [(h0, .inr (2, [.ref ct, .ref q3, .ref q1, .ref q2])), (q1, .inl (cA 20, 4, .inl (fun _ => 0))), (q2, .inl (cA 20, 4, .inl (fun _ => 0))), (q3, .inr (4, [.ref ct, .ref (f4 0)])), ((f4 0), .inl (cA 20, 64, .inl (fun _ => 0)))] H := hP
  have hD : va_D A [(h0, .inr (2, [.ref ct, .ref q3, .ref q1, .ref q2])), (q1, .inl (cA 20, 4, .inl (fun _ => 0))), (q2, .inl (cA 20, 4, .inl (fun _ => 0))), (q3, .inr (4, [.ref ct, .ref (f4 0)])), ((f4 0), .inl (cA 20, 64, .inl (fun _ => 0)))] := hD
  refine W.widen (k := 4) (n := 74) (Nat.le_of_ble_eq_true rfl) (Nat.le_of_ble_eq_true rfl) ?_
  exact W.vret hx hb hr (fun t ht hW => ⟨⟨(fun k => ([q1, q2, q3, (f4 0)] : List Nat).getD k 0), rfl, trivial, by rw [ht]; exact hP, by rw [hAe]; exact hD⟩, hAe ▸ hS.F ht⟩) (fun q hq => hAe ▸ hS.2.2 q hq) dX2_init_35
theorem dX8_init_0 : decode cX8_init 0 = .ok (.aload_n 0, 1) := by decide +kernel
theorem dX8_init_1 : decode cX8_init 1 = .ok (.invokespecial 1, 3) := by decide +kernel
theorem dX8_init_4 : decode cX8_init 4 = .ok (.aload_n 0, 1) := by decide +kernel
theorem dX8_init_5 : decode cX8_init 5 = .ok (.iconst 0, 1) := by decide +kernel
theorem dX8_init_6 : decode cX8_init 6 = .ok (.putfield 7, 3) := by decide +kernel
theorem dX8_init_9 : decode cX8_init 9 = .ok (.aload_n 0, 1) := by decide +kernel
theorem dX8_init_10 : decode cX8_init 10 = .ok (.iconst 0, 1) := by decide +kernel
theorem dX8_init_11 : decode cX8_init 11 = .ok (.putfield 13, 3) := by decide +kernel
theorem dX8_init_14 : decode cX8_init 14 = .ok (.aload_n 0, 1) := by decide +kernel
theorem dX8_init_15 : decode cX8_init 15 = .ok (.iload_n 2, 1) := by decide +kernel
theorem dX8_init_16 : decode cX8_init 16 = .ok (.ifCond .le 7, 3) := by decide +kernel
theorem dX8_init_19 : decode cX8_init 19 = .ok (.iload_n 2, 1) := by decide +kernel
theorem dX8_init_20 : decode cX8_init 20 = .ok (.goto 4, 3) := by decide +kernel
theorem dX8_init_23 : decode cX8_init 23 = .ok (.iconst 1, 1) := by decide +kernel
theorem dX8_init_24 : decode cX8_init 24 = .ok (.anewarray 16, 3) := by decide +kernel
theorem dX8_init_27 : decode cX8_init 27 = .ok (.putfield 18, 3) := by decide +kernel
theorem dX8_init_30 : decode cX8_init 30 = .ok (.iconst 0, 1) := by decide +kernel
theorem dX8_init_31 : decode cX8_init 31 = .ok (.istore_n 3, 1) := by decide +kernel
theorem dX8_init_32 : decode cX8_init 32 = .ok (.iload_n 3, 1) := by decide +kernel
theorem dX8_init_33 : decode cX8_init 33 = .ok (.aload_n 0, 1) := by decide +kernel
theorem dX8_init_34 : decode cX8_init 34 = .ok (.getfield 18, 3) := by decide +kernel
theorem dX8_init_37 : decode cX8_init 37 = .ok (.arraylength, 1) := by decide +kernel
theorem dX8_init_38 : decode cX8_init 38 = .ok (.if_icmp .ge 23, 3) := by decide +kernel
theorem dX8_init_41 : decode cX8_init 41 = .ok (.aload_n 0, 1) := by decide +kernel
theorem dX8_init_42 : decode cX8_init 42 = .ok (.getfield 18, 3) := by decide +kernel
theorem dX8_init_45 : decode cX8_init 45 = .ok (.iload_n 3, 1) := by decide +kernel
theorem dX8_init_46 : decode cX8_init 46 = .ok (.new 16, 3) := by decide +kernel
theorem dX8_init_49 : decode cX8_init 49 = .ok (.dup, 1) := by decide +kernel
theorem dX8_init_50 : decode cX8_init 50 = .ok (.aload_n 1, 1) := by decide +kernel
theorem dX8_init_51 : decode cX8_init 51 = .ok (.invokespecial 22, 3) := by decide +kernel
theorem dX8_init_54 : decode cX8_init 54 = .ok (.aastore, 1) := by decide +kernel
theorem dX8_init_55 : decode cX8_init 55 = .ok (.iinc 3 1, 3) := by decide +kernel
theorem dX8_init_58 : decode cX8_init 58 = .ok (.goto (-26), 3) := by decide +kernel
theorem dX8_init_61 : decode cX8_init 61 = .ok (.return_, 1) := by decide +kernel
set_option maxHeartbeats 4000000 in
set_option maxRecDepth 100000 in
theorem k_X8_8 (l : Launch) (D : va_G) (cA : Nat → ClassId) (h0 ct : Nat) : cMet l D cA yX8_init cX8_init 4 { frames := 2, cells := 17, slots := 536, locals := 33 } [.ref h0, .ref ct, .int (nI 8)] h0 (.inr (7, [.null, .int 0, .int 0])) 17 536 (fun f => [(h0, .inr (7, [.ref (f 0), .int (nI 0), .int (nI 0)])), ((f 0), .inl (cA 23, 8, .inr (.inr (.inr (.inr (fun i => some (f (1 + 2 * i)))))))), ((f 1), .inr (4, [.ref ct, .ref (f 2)])), ((f 2), .inl (cA 20, 64, .inl (fun _ => 0))), ((f 3), .inr (4, [.ref ct, .ref (f 4)])), ((f 4), .inl (cA 20, 64, .inl (fun _ => 0))), ((f 5), .inr (4, [.ref ct, .ref (f 6)])), ((f 6), .inl (cA 20, 64, .inl (fun _ => 0))), ((f 7), .inr (4, [.ref ct, .ref (f 8)])), ((f 8), .inl (cA 20, 64, .inl (fun _ => 0))), ((f 9), .inr (4, [.ref ct, .ref (f 10)])), ((f 10), .inl (cA 20, 64, .inl (fun _ => 0))), ((f 11), .inr (4, [.ref ct, .ref (f 12)])), ((f 12), .inl (cA 20, 64, .inl (fun _ => 0))), ((f 13), .inr (4, [.ref ct, .ref (f 14)])), ((f 14), .inl (cA 20, 64, .inl (fun _ => 0))), ((f 15), .inr (4, [.ref ct, .ref (f 16)])), ((f 16), .inl (cA 20, 64, .inl (fun _ => 0)))]) := by
  intro sz
  refine Met.ofW (cc := cX8_init) (maxL := 4) (ret := none) (by decide) rfl ?_
  intro p e s m args below meth c s₁ B hml hv
  obtain ⟨rfl, hsz, hP, hK, hD0, hAO⟩ := hv
  have hx := B.exec
  have hb := B.bytes
  have hr := B.returns
  have hts0 := atoms_spec (ws := Cond.code yX8_init cX8_init 4 none :: tbg) B.pre
  have hts : ∀ w ∈ tbg, w.before _ s = true := fun w hw => hts0 w (List.mem_cons_of_mem _ hw)
  have hown : s.vm.findClass RX8 = some m.cls := findClass_of_methodNamed B.named
  have hlocks := B.notSynchronized
  have hin : meth.name = "<init>" := (name_of_methodNamed B.named B.method).1
  subst hsz
  have hD := hD0.self (sz := s.heap.size)
  generalize hAe : va_A [(h0, .inr (7, [.null, .int 0, .int 0]))] s.heap.size = A at hD ⊢
  have hA : ∀ q : Nat, s.heap.size ≤ q → A q := fun q h => by rw [← hAe]; exact Or.inr h
  have hS : va_S A s.heap s.heap [] := va_S.rf
  have hP : va_P D vwCl [(h0, .inr (7, [.null, .int 0, .int 0]))] s.heap := hP
  have hl := lv_entry ([.ref h0, .ref ct, .int (nI 8)]) (n := 4) (Nat.le_of_ble_eq_true rfl)
  rw [lg_entry_eq]
  generalize (lg_sl ([.ref h0, .ref ct, .int (nI 8)]) ++ List.replicate (4 - (lg_sl ([.ref h0, .ref ct, .int (nI 8)])).length) Slot.unset).toArray = ls at hl ⊢
  have hl : lv_has ls 4 [(0, .ref h0), (1, .ref ct), (2, .int (nI 8))] := hl
  refine lv_aload_n hx hb dX8_init_0 rfl (lv_at hl 0 rfl) ?_
  refine W.objInit hx hb hown (hts _ tw_178) (hts _ tw_81) (hts _ tw_82) rfl (by rw [hml]; exact hl.1) rfl dX8_init_1 (Nat.le_of_ble_eq_true rfl) (Nat.le_of_ble_eq_true rfl) ?_
  refine W.eq (g2 := F0 m 4 ls []) rfl ?_
  refine lv_aload_n hx hb dX8_init_4 rfl (lv_at hl 0 rfl) ?_
  refine lv_iconst (v := nI 0) hx hb dX8_init_5 (by decide) ?_
  refine va_put (ci := 7) (v := .int (nI 0)) (ty := .int) (C := RX8) (T := TX8) (N := 3) hx hb hts inX8 tyX8 tyX8_ok nmX8 hown hK hP hD hS 0 rfl rfl 1 (by decide) (hts _ tw_183) (fun _ h9 => h9) rfl (by decide +kernel) (vp_nar_int _) rfl (Nat.le_of_ble_eq_true rfl) dX8_init_6 (fun H locs hP hD hS => ?_)
  have hP : va_P D vwCl [(h0, .inr (7, [.null, .int (nI 0), .int 0]))] H := hP
  have hD : va_D A [(h0, .inr (7, [.null, .int (nI 0), .int 0]))] := hD
  refine lv_aload_n hx hb dX8_init_9 rfl (lv_at hl 0 rfl) ?_
  refine lv_iconst (v := nI 0) hx hb dX8_init_10 (by decide) ?_
  refine va_put (ci := 7) (v := .int (nI 0)) (ty := .int) (C := RX8) (T := TX8) (N := 3) hx hb hts inX8 tyX8 tyX8_ok nmX8 hown hK hP hD hS 0 rfl rfl 2 (by decide) (hts _ tw_184) (fun _ h9 => h9) rfl (by decide +kernel) (vp_nar_int _) rfl (Nat.le_of_ble_eq_true rfl) dX8_init_11 (fun H locs hP hD hS => ?_)
  have hP : va_P D vwCl [(h0, .inr (7, [.null, .int (nI 0), .int (nI 0)]))] H := hP
  have hD : va_D A [(h0, .inr (7, [.null, .int (nI 0), .int (nI 0)]))] := hD
  refine lv_aload_n hx hb dX8_init_14 rfl (lv_at hl 0 rfl) ?_
  refine lv_iload_n hx hb dX8_init_15 rfl (lv_at hl 2 rfl) ?_
  refine lv_if_le (tgt := 23) hx hb dX8_init_16 (by decide) (fun c_1 => absurd c_1 (by decide)) (fun c_1 => ?_)
  refine lv_iload_n hx hb dX8_init_19 rfl (lv_at hl 2 rfl) ?_
  refine lv_goto (tgt := 24) hx hb dX8_init_20 (by decide) ?_
  refine va_newq (C := "DonkeyVerdicts$Herd") hx hb hown (hts _ tw_179) hAO hK hP hD hS hA (N' := 8) (by decide) (nI_clamp (by decide)) (by decide) (Nat.le_of_ble_eq_true rfl) (Nat.le_of_ble_eq_true rfl) dX8_init_24 (fun q1 c1 H hK1 hP hD hS => ?_)
  obtain rfl : c1 = cA 23 := ty_eq hK1 3 rfl
  have hP : va_P D vwCl [(h0, .inr (7, [.null, .int (nI 0), .int (nI 0)])), (q1, .inl (cA 23, 8, .inr (.inr (.inr (.inr (fun _ => none))))))] H := hP
  have hD : va_D A [(h0, .inr (7, [.null, .int (nI 0), .int (nI 0)])), (q1, .inl (cA 23, 8, .inr (.inr (.inr (.inr (fun _ => none))))))] := hD
  refine va_putF (ci := 7) (v := .ref q1) (ty := .array (.object "DonkeyVerdicts$Herd")) (C := RX8) (T := TX8) (N := 3) hx hb hts inX8 tyX8 tyX8_ok nmX8 hown hK hP hD hS 0 rfl rfl 0 (by decide) (hts _ tw_182) (fun _ h9 => h9) rfl hin rfl (by decide +kernel) rfl rfl (Nat.le_of_ble_eq_true rfl) dX8_init_27 (fun H locs hP hD hS => ?_)
  have hP : va_P D vwCl [(h0, .inr (7, [.ref q1, .int (nI 0), .int (nI 0)])), (q1, .inl (cA 23, 8, .inr (.inr (.inr (.inr (fun _ => none))))))] H := hP
  have hD : va_D A [(h0, .inr (7, [.ref q1, .int (nI 0), .int (nI 0)])), (q1, .inl (cA 23, 8, .inr (.inr (.inr (.inr (fun _ => none))))))] := hD
  refine lv_iconst (v := nI 0) hx hb dX8_init_30 (by decide) ?_
  refine lv_istore_n (lv' := [(3, .int (nI 0)), (0, .ref h0), (1, .ref ct), (2, .int (nI 8))]) hx hb dX8_init_31 rfl hl (by decide) rfl (fun ls hl => ?_)
  refine lv_iload_n hx hb dX8_init_32 rfl (lv_at hl 0 rfl) ?_
  refine lv_aload_n hx hb dX8_init_33 rfl (lv_at hl 1 rfl) ?_
  refine va_get (ci := 7) (v := .ref q1) (C := RX8) (T := TX8) (N := 3) hx hb hts inX8 hown hK hP 0 rfl rfl 0 (by decide) (hts _ tw_182) (fun _ h9 => h9) rfl dX8_init_34 ?_
  refine va_alen (v := nI 8) hx hb hK hP 1 3 rfl rfl rfl dX8_init_37 ?_
  refine lv_icmp_ge (tgt := 61) hx hb dX8_init_38 (by decide) (fun c_1 => absurd c_1 (by decide)) (fun c_1 => ?_)
  refine lv_aload_n hx hb dX8_init_41 rfl (lv_at hl 1 rfl) ?_
  refine va_get (ci := 7) (v := .ref q1) (C := RX8) (T := TX8) (N := 3) hx hb hts inX8 hown hK hP 0 rfl rfl 0 (by decide) (hts _ tw_182) (fun _ h9 => h9) rfl dX8_init_42 ?_
  refine lv_iload_n hx hb dX8_init_45 rfl (lv_at hl 0 rfl) ?_
  refine va_new (ci := 4) (fs := [.null, .null]) (C := RX4) (T := TX4) (N := 2) hx hb hts inX4 tyX4 tyX4_ok hown (hts _ tw_179) (hts _ tw_161) (hts _ tw_61) hK hP hD hS hA rfl (fun j hj => by match j, hj with | 0, _ => rfl | 1, _ => rfl) (Nat.le_of_ble_eq_true rfl) (Nat.le_of_ble_eq_true rfl) dX8_init_46 (fun q2 H hP hD hS => ?_)
  have hP : va_P D vwCl [(h0, .inr (7, [.ref q1, .int (nI 0), .int (nI 0)])), (q1, .inl (cA 23, 8, .inr (.inr (.inr (.inr (fun _ => none)))))), (q2, .inr (4, [.null, .null]))] H := hP
  have hD : va_D A [(h0, .inr (7, [.ref q1, .int (nI 0), .int (nI 0)])), (q1, .inl (cA 23, 8, .inr (.inr (.inr (.inr (fun _ => none)))))), (q2, .inr (4, [.null, .null]))] := hD
  refine lv_dup hx hb dX8_init_49 rfl ?_
  refine lv_aload_n hx hb dX8_init_50 rfl (lv_at hl 2 rfl) ?_
  refine c_callI (n := 1) (ws := [(h0, .inr (7, [.ref q1, .int (nI 0), .int (nI 0)])), (q1, .inl (cA 23, 8, .inr (.inr (.inr (.inr (fun _ => none))))))]) [.ref ct] (k_X4 l D cA q2 ct) ⟨hx, hb, hml, hown, hts⟩ ⟨tw_164, tw_61, tw_181, tw_163⟩ (by decide +kernel) ⟨(Nat.le_of_ble_eq_true rfl), (Nat.le_of_ble_eq_true rfl)⟩ ⟨rfl, rfl⟩ ⟨(Nat.le_of_ble_eq_true rfl), (Nat.le_of_ble_eq_true rfl)⟩ hK hAO hP hD hS hA rfl hl.1 (Nat.le_of_ble_eq_true rfl) dX8_init_51 rfl (fun f3 H locs hP hD hS => ?_)
  have hP : va_P D vwCl [(h0, .inr (7, [.ref q1, .int (nI 0), .int (nI 0)])), (q1, .inl (cA 23, 8, .inr (.inr (.inr (.inr (fun _ => none)))))), (q2, .inr (4, [.ref ct, .ref (f3 0)])), ((f3 0), .inl (cA 20, 64, .inl (fun _ => 0)))] H := hP
  have hD : va_D A [(h0, .inr (7, [.ref q1, .int (nI 0), .int (nI 0)])), (q1, .inl (cA 23, 8, .inr (.inr (.inr (.inr (fun _ => none)))))), (q2, .inr (4, [.ref ct, .ref (f3 0)])), ((f3 0), .inl (cA 20, 64, .inl (fun _ => 0)))] := hD
  refine va_astq (r := (RX4, TX4, 2)) hx hb hK hP hD hS 1 3 2 4 rfl rfl rfl rfl (vp_in_nI (by decide) (by decide)) dX8_init_54 (fun H locs hP hD hS => ?_)
  have hP : va_P D vwCl [(h0, .inr (7, [.ref q1, .int (nI 0), .int (nI 0)])), (q1, .inl (cA 23, 8, .inr (.inr (.inr (.inr (va_up (fun _ => none) (nI 0).toNatClampNeg (some q2))))))), (q2, .inr (4, [.ref ct, .ref (f3 0)])), ((f3 0), .inl (cA 20, 64, .inl (fun _ => 0)))] H := hP
  have hD : va_D A [(h0, .inr (7, [.ref q1, .int (nI 0), .int (nI 0)])), (q1, .inl (cA 23, 8, .inr (.inr (.inr (.inr (va_up (fun _ => none) (nI 0).toNatClampNeg (some q2))))))), (q2, .inr (4, [.ref ct, .ref (f3 0)])), ((f3 0), .inl (cA 20, 64, .inl (fun _ => 0)))] := hD
  refine lv_iinc (v := nI 1) (lv' := [(3, .int (nI 1)), (0, .ref h0), (1, .ref ct), (2, .int (nI 8))]) hx hb dX8_init_55 hl (k := 0) rfl (by decide) (by decide) rfl (fun ls hl => ?_)
  refine lv_goto (tgt := 32) hx hb dX8_init_58 (by decide) ?_
  refine lv_iload_n hx hb dX8_init_32 rfl (lv_at hl 0 rfl) ?_
  refine lv_aload_n hx hb dX8_init_33 rfl (lv_at hl 1 rfl) ?_
  refine va_get (ci := 7) (v := .ref q1) (C := RX8) (T := TX8) (N := 3) hx hb hts inX8 hown hK hP 0 rfl rfl 0 (by decide) (hts _ tw_182) (fun _ h9 => h9) rfl dX8_init_34 ?_
  refine va_alen (v := nI 8) hx hb hK hP 1 3 rfl rfl rfl dX8_init_37 ?_
  refine lv_icmp_ge (tgt := 61) hx hb dX8_init_38 (by decide) (fun c_1 => absurd c_1 (by decide)) (fun c_1 => ?_)
  refine lv_aload_n hx hb dX8_init_41 rfl (lv_at hl 1 rfl) ?_
  refine va_get (ci := 7) (v := .ref q1) (C := RX8) (T := TX8) (N := 3) hx hb hts inX8 hown hK hP 0 rfl rfl 0 (by decide) (hts _ tw_182) (fun _ h9 => h9) rfl dX8_init_42 ?_
  refine lv_iload_n hx hb dX8_init_45 rfl (lv_at hl 0 rfl) ?_
  refine va_new (ci := 4) (fs := [.null, .null]) (C := RX4) (T := TX4) (N := 2) hx hb hts inX4 tyX4 tyX4_ok hown (hts _ tw_179) (hts _ tw_161) (hts _ tw_61) hK hP hD hS hA rfl (fun j hj => by match j, hj with | 0, _ => rfl | 1, _ => rfl) (Nat.le_of_ble_eq_true rfl) (Nat.le_of_ble_eq_true rfl) dX8_init_46 (fun q4 H hP hD hS => ?_)
  have hP : va_P D vwCl [(h0, .inr (7, [.ref q1, .int (nI 0), .int (nI 0)])), (q1, .inl (cA 23, 8, .inr (.inr (.inr (.inr (va_up (fun _ => none) (nI 0).toNatClampNeg (some q2))))))), (q2, .inr (4, [.ref ct, .ref (f3 0)])), ((f3 0), .inl (cA 20, 64, .inl (fun _ => 0))), (q4, .inr (4, [.null, .null]))] H := hP
  have hD : va_D A [(h0, .inr (7, [.ref q1, .int (nI 0), .int (nI 0)])), (q1, .inl (cA 23, 8, .inr (.inr (.inr (.inr (va_up (fun _ => none) (nI 0).toNatClampNeg (some q2))))))), (q2, .inr (4, [.ref ct, .ref (f3 0)])), ((f3 0), .inl (cA 20, 64, .inl (fun _ => 0))), (q4, .inr (4, [.null, .null]))] := hD
  refine lv_dup hx hb dX8_init_49 rfl ?_
  refine lv_aload_n hx hb dX8_init_50 rfl (lv_at hl 2 rfl) ?_
  refine c_callI (n := 1) (ws := [(h0, .inr (7, [.ref q1, .int (nI 0), .int (nI 0)])), (q1, .inl (cA 23, 8, .inr (.inr (.inr (.inr (va_up (fun _ => none) (nI 0).toNatClampNeg (some q2))))))), (q2, .inr (4, [.ref ct, .ref (f3 0)])), ((f3 0), .inl (cA 20, 64, .inl (fun _ => 0)))]) [.ref ct] (k_X4 l D cA q4 ct) ⟨hx, hb, hml, hown, hts⟩ ⟨tw_164, tw_61, tw_181, tw_163⟩ (by decide +kernel) ⟨(Nat.le_of_ble_eq_true rfl), (Nat.le_of_ble_eq_true rfl)⟩ ⟨rfl, rfl⟩ ⟨(Nat.le_of_ble_eq_true rfl), (Nat.le_of_ble_eq_true rfl)⟩ hK hAO hP hD hS hA rfl hl.1 (Nat.le_of_ble_eq_true rfl) dX8_init_51 rfl (fun f5 H locs hP hD hS => ?_)
  have hP : va_P D vwCl [(h0, .inr (7, [.ref q1, .int (nI 0), .int (nI 0)])), (q1, .inl (cA 23, 8, .inr (.inr (.inr (.inr (va_up (fun _ => none) (nI 0).toNatClampNeg (some q2))))))), (q2, .inr (4, [.ref ct, .ref (f3 0)])), ((f3 0), .inl (cA 20, 64, .inl (fun _ => 0))), (q4, .inr (4, [.ref ct, .ref (f5 0)])), ((f5 0), .inl (cA 20, 64, .inl (fun _ => 0)))] H := hP
  have hD : va_D A [(h0, .inr (7, [.ref q1, .int (nI 0), .int (nI 0)])), (q1, .inl (cA 23, 8, .inr (.inr (.inr (.inr (va_up (fun _ => none) (nI 0).toNatClampNeg (some q2))))))), (q2, .inr (4, [.ref ct, .ref (f3 0)])), ((f3 0), .inl (cA 20, 64, .inl (fun _ => 0))), (q4, .inr (4, [.ref ct, .ref (f5 0)])), ((f5 0), .inl (cA 20, 64, .inl (fun _ => 0)))] := hD
  refine va_astq (r := (RX4, TX4, 2)) hx hb hK hP hD hS 1 3 4 4 rfl rfl rfl rfl (vp_in_nI (by decide) (by decide)) dX8_init_54 (fun H locs hP hD hS => ?_)
  have hP : va_P D vwCl [(h0, .inr (7, [.ref q1, .int (nI 0), .int (nI 0)])), (q1, .inl (cA 23, 8, .inr (.inr (.inr (.inr (va_up (va_up (fun _ => none) (nI 0).toNatClampNeg (some q2)) (nI 1).toNatClampNeg (some q4))))))), (q2, .inr (4, [.ref ct, .ref (f3 0)])), ((f3 0), .inl (cA 20, 64, .inl (fun _ => 0))), (q4, .inr (4, [.ref ct, .ref (f5 0)])), ((f5 0), .inl (cA 20, 64, .inl (fun _ => 0)))] H := hP
  have hD : va_D A [(h0, .inr (7, [.ref q1, .int (nI 0), .int (nI 0)])), (q1, .inl (cA 23, 8, .inr (.inr (.inr (.inr (va_up (va_up (fun _ => none) (nI 0).toNatClampNeg (some q2)) (nI 1).toNatClampNeg (some q4))))))), (q2, .inr (4, [.ref ct, .ref (f3 0)])), ((f3 0), .inl (cA 20, 64, .inl (fun _ => 0))), (q4, .inr (4, [.ref ct, .ref (f5 0)])), ((f5 0), .inl (cA 20, 64, .inl (fun _ => 0)))] := hD
  refine lv_iinc (v := nI 2) (lv' := [(3, .int (nI 2)), (0, .ref h0), (1, .ref ct), (2, .int (nI 8))]) hx hb dX8_init_55 hl (k := 0) rfl (by decide) (by decide) rfl (fun ls hl => ?_)
  refine lv_goto (tgt := 32) hx hb dX8_init_58 (by decide) ?_
  refine lv_iload_n hx hb dX8_init_32 rfl (lv_at hl 0 rfl) ?_
  refine lv_aload_n hx hb dX8_init_33 rfl (lv_at hl 1 rfl) ?_
  refine va_get (ci := 7) (v := .ref q1) (C := RX8) (T := TX8) (N := 3) hx hb hts inX8 hown hK hP 0 rfl rfl 0 (by decide) (hts _ tw_182) (fun _ h9 => h9) rfl dX8_init_34 ?_
  refine va_alen (v := nI 8) hx hb hK hP 1 3 rfl rfl rfl dX8_init_37 ?_
  refine lv_icmp_ge (tgt := 61) hx hb dX8_init_38 (by decide) (fun c_1 => absurd c_1 (by decide)) (fun c_1 => ?_)
  refine lv_aload_n hx hb dX8_init_41 rfl (lv_at hl 1 rfl) ?_
  refine va_get (ci := 7) (v := .ref q1) (C := RX8) (T := TX8) (N := 3) hx hb hts inX8 hown hK hP 0 rfl rfl 0 (by decide) (hts _ tw_182) (fun _ h9 => h9) rfl dX8_init_42 ?_
  refine lv_iload_n hx hb dX8_init_45 rfl (lv_at hl 0 rfl) ?_
  refine va_new (ci := 4) (fs := [.null, .null]) (C := RX4) (T := TX4) (N := 2) hx hb hts inX4 tyX4 tyX4_ok hown (hts _ tw_179) (hts _ tw_161) (hts _ tw_61) hK hP hD hS hA rfl (fun j hj => by match j, hj with | 0, _ => rfl | 1, _ => rfl) (Nat.le_of_ble_eq_true rfl) (Nat.le_of_ble_eq_true rfl) dX8_init_46 (fun q6 H hP hD hS => ?_)
  have hP : va_P D vwCl [(h0, .inr (7, [.ref q1, .int (nI 0), .int (nI 0)])), (q1, .inl (cA 23, 8, .inr (.inr (.inr (.inr (va_up (va_up (fun _ => none) (nI 0).toNatClampNeg (some q2)) (nI 1).toNatClampNeg (some q4))))))), (q2, .inr (4, [.ref ct, .ref (f3 0)])), ((f3 0), .inl (cA 20, 64, .inl (fun _ => 0))), (q4, .inr (4, [.ref ct, .ref (f5 0)])), ((f5 0), .inl (cA 20, 64, .inl (fun _ => 0))), (q6, .inr (4, [.null, .null]))] H := hP
  have hD : va_D A [(h0, .inr (7, [.ref q1, .int (nI 0), .int (nI 0)])), (q1, .inl (cA 23, 8, .inr (.inr (.inr (.inr (va_up (va_up (fun _ => none) (nI 0).toNatClampNeg (some q2)) (nI 1).toNatClampNeg (some q4))))))), (q2, .inr (4, [.ref ct, .ref (f3 0)])), ((f3 0), .inl (cA 20, 64, .inl (fun _ => 0))), (q4, .inr (4, [.ref ct, .ref (f5 0)])), ((f5 0), .inl (cA 20, 64, .inl (fun _ => 0))), (q6, .inr (4, [.null, .null]))] := hD
  refine lv_dup hx hb dX8_init_49 rfl ?_
  refine lv_aload_n hx hb dX8_init_50 rfl (lv_at hl 2 rfl) ?_
  refine c_callI (n := 1) (ws := [(h0, .inr (7, [.ref q1, .int (nI 0), .int (nI 0)])), (q1, .inl (cA 23, 8, .inr (.inr (.inr (.inr (va_up (va_up (fun _ => none) (nI 0).toNatClampNeg (some q2)) (nI 1).toNatClampNeg (some q4))))))), (q2, .inr (4, [.ref ct, .ref (f3 0)])), ((f3 0), .inl (cA 20, 64, .inl (fun _ => 0))), (q4, .inr (4, [.ref ct, .ref (f5 0)])), ((f5 0), .inl (cA 20, 64, .inl (fun _ => 0)))]) [.ref ct] (k_X4 l D cA q6 ct) ⟨hx, hb, hml, hown, hts⟩ ⟨tw_164, tw_61, tw_181, tw_163⟩ (by decide +kernel) ⟨(Nat.le_of_ble_eq_true rfl), (Nat.le_of_ble_eq_true rfl)⟩ ⟨rfl, rfl⟩ ⟨(Nat.le_of_ble_eq_true rfl), (Nat.le_of_ble_eq_true rfl)⟩ hK hAO hP hD hS hA rfl hl.1 (Nat.le_of_ble_eq_true rfl) dX8_init_51 rfl (fun f7 H locs hP hD hS => ?_)
  have hP : va_P D vwCl [(h0, .inr (7, [.ref q1, .int (nI 0), .int (nI 0)])), (q1, .inl (cA 23, 8, .inr (.inr (.inr (.inr (va_up (va_up (fun _ => none) (nI 0).toNatClampNeg (some q2)) (nI 1).toNatClampNeg (some q4))))))), (q2, .inr (4, [.ref ct, .ref (f3 0)])), ((f3 0), .inl (cA 20, 64, .inl (fun _ => 0))), (q4, .inr (4, [.ref ct, .ref (f5 0)])), ((f5 0), .inl (cA 20, 64, .inl (fun _ => 0))), (q6, .inr (4, [.ref ct, .ref (f7 0)])), ((f7 0), .inl (cA 20, 64, .inl (fun _ => 0)))] H := hP
  have hD : va_D A [(h0, .inr (7, [.ref q1, .int (nI 0), .int (nI 0)])), (q1, .inl (cA 23, 8, .inr (.inr (.inr (.inr (va_up (va_up (fun _ => none) (nI 0).toNatClampNeg (some q2)) (nI 1).toNatClampNeg (some q4))))))), (q2, .inr (4, [.ref ct, .ref (f3 0)])), ((f3 0), .inl (cA 20, 64, .inl (fun _ => 0))), (q4, .inr (4, [.ref ct, .ref (f5 0)])), ((f5 0), .inl (cA 20, 64, .inl (fun _ => 0))), (q6, .inr (4, [.ref ct, .ref (f7 0)])), ((f7 0), .inl (cA 20, 64, .inl (fun _ => 0)))] := hD
  refine va_astq (r := (RX4, TX4, 2)) hx hb hK hP hD hS 1 3 6 4 rfl rfl rfl rfl (vp_in_nI (by decide) (by decide)) dX8_init_54 (fun H locs hP hD hS => ?_)
  have hP : va_P D vwCl [(h0, .inr (7, [.ref q1, .int (nI 0), .int (nI 0)])), (q1, .inl (cA 23, 8, .inr (.inr (.inr (.inr (va_up (va_up (va_up (fun _ => none) (nI 0).toNatClampNeg (some q2)) (nI 1).toNatClampNeg (some q4)) (nI 2).toNatClampNeg (some q6))))))), (q2, .inr (4, [.ref ct, .ref (f3 0)])), ((f3 0), .inl (cA 20, 64, .inl (fun _ => 0))), (q4, .inr (4, [.ref ct, .ref (f5 0)])), ((f5 0), .inl (cA 20, 64, .inl (fun _ => 0))), (q6, .inr (4, [.ref ct, .ref (f7 0)])), ((f7 0), .inl (cA 20, 64, .inl (fun _ => 0)))] H := hP
  have hD : va_D A [(h0, .inr (7, [.ref q1, .int (nI 0), .int (nI 0)])), (q1, .inl (cA 23, 8, .inr (.inr (.inr (.inr (va_up (va_up (va_up (fun _ => none) (nI 0).toNatClampNeg (some q2)) (nI 1).toNatClampNeg (some q4)) (nI 2).toNatClampNeg (some q6))))))), (q2, .inr (4, [.ref ct, .ref (f3 0)])), ((f3 0), .inl (cA 20, 64, .inl (fun _ => 0))), (q4, .inr (4, [.ref ct, .ref (f5 0)])), ((f5 0), .inl (cA 20, 64, .inl (fun _ => 0))), (q6, .inr (4, [.ref ct, .ref (f7 0)])), ((f7 0), .inl (cA 20, 64, .inl (fun _ => 0)))] := hD
  refine lv_iinc (v := nI 3) (lv' := [(3, .int (nI 3)), (0, .ref h0), (1, .ref ct), (2, .int (nI 8))]) hx hb dX8_init_55 hl (k := 0) rfl (by decide) (by decide) rfl (fun ls hl => ?_)
  refine lv_goto (tgt := 32) hx hb dX8_init_58 (by decide) ?_
  refine lv_iload_n hx hb dX8_init_32 rfl (lv_at hl 0 rfl) ?_
  refine lv_aload_n hx hb dX8_init_33 rfl (lv_at hl 1 rfl) ?_
  refine va_get (ci := 7) (v := .ref q1) (C := RX8) (T := TX8) (N := 3) hx hb hts inX8 hown hK hP 0 rfl rfl 0 (by decide) (hts _ tw_182) (fun _ h9 => h9) rfl dX8_init_34 ?_
  refine va_alen (v := nI 8) hx hb hK hP 1 3 rfl rfl rfl dX8_init_37 ?_
  refine lv_icmp_ge (tgt := 61) hx hb dX8_init_38 (by decide) (fun c_1 => absurd c_1 (by decide)) (fun c_1 => ?_)
  refine lv_aload_n hx hb dX8_init_41 rfl (lv_at hl 1 rfl) ?_
  refine va_get (ci := 7) (v := .ref q1) (C := RX8) (T := TX8) (N := 3) hx hb hts inX8 hown hK hP 0 rfl rfl 0 (by decide) (hts _ tw_182) (fun _ h9 => h9) rfl dX8_init_42 ?_
  refine lv_iload_n hx hb dX8_init_45 rfl (lv_at hl 0 rfl) ?_
  refine va_new (ci := 4) (fs := [.null, .null]) (C := RX4) (T := TX4) (N := 2) hx hb hts inX4 tyX4 tyX4_ok hown (hts _ tw_179) (hts _ tw_161) (hts _ tw_61) hK hP hD hS hA rfl (fun j hj => by match j, hj with | 0, _ => rfl | 1, _ => rfl) (Nat.le_of_ble_eq_true rfl) (Nat.le_of_ble_eq_true rfl) dX8_init_46 (fun q8 H hP hD hS => ?_)
  have hP : va_P D vwCl [(h0, .inr (7, [.ref q1, .int (nI 0), .int (nI 0)])), (q1, .inl (cA 23, 8, .inr (.inr (.inr (.inr (va_up (va_up (va_up (fun _ => none) (nI 0).toNatClampNeg (some q2)) (nI 1).toNatClampNeg (some q4)) (nI 2).toNatClampNeg (some q6))))))), (q2, .inr (4, [.ref ct, .ref (f3 0)])), ((f3 0), .inl (cA 20, 64, .inl (fun _ => 0))), (q4, .inr (4, [.ref ct, .ref (f5 0)])), ((f5 0), .inl (cA 20, 64, .inl (fun _ => 0))), (q6, .inr (4, [.ref ct, .ref (f7 0)])), ((f7 0), .inl (cA 20, 64, .inl (fun _ => 0))), (q8, .inr (4, [.null, .null]))] H := hP
  have hD : va_D A [(h0, .inr (7, [.ref q1, .int (nI 0), .int (nI 0)])), (q1, .inl (cA 23, 8, .inr (.inr (.inr (.inr (va_up (va_up (va_up (fun _ => none) (nI 0).toNatClampNeg (some q2)) (nI 1).toNatClampNeg (some q4)) (nI 2).toNatClampNeg (some q6))))))), (q2, .inr (4, [.ref ct, .ref (f3 0)])), ((f3 0), .inl (cA 20, 64, .inl (fun _ => 0))), (q4, .inr (4, [.ref ct, .ref (f5 0)])), ((f5 0), .inl (cA 20, 64, .inl (fun _ => 0))), (q6, .inr (4, [.ref ct, .ref (f7 0)])), ((f7 0), .inl (cA 20, 64, .inl (fun _ => 0))), (q8, .inr (4, [.null, .null]))] := hD
  refine lv_dup hx hb dX8_init_49 rfl ?_
  refine lv_aload_n hx hb dX8_init_50 rfl (lv_at hl 2 rfl) ?_
  refine c_callI (n := 1) (ws := [(h0, .inr (7, [.ref q1, .int (nI 0), .int (nI 0)])), (q1, .inl (cA 23, 8, .inr (.inr (.inr (.inr (va_up (va_up (va_up (fun _ => none) (nI 0).toNatClampNeg (some q2)) (nI 1).toNatClampNeg (some q4)) (nI 2).toNatClampNeg (some q6))))))), (q2, .inr (4, [.ref ct, .ref (f3 0)])), ((f3 0), .inl (cA 20, 64, .inl (fun _ => 0))), (q4, .inr (4, [.ref ct, .ref (f5 0)])), ((f5 0), .inl (cA 20, 64, .inl (fun _ => 0))), (q6, .inr (4, [.ref ct, .ref (f7 0)])), ((f7 0), .inl (cA 20, 64, .inl (fun _ => 0)))]) [.ref ct] (k_X4 l D cA q8 ct) ⟨hx, hb, hml, hown, hts⟩ ⟨tw_164, tw_61, tw_181, tw_163⟩ (by decide +kernel) ⟨(Nat.le_of_ble_eq_true rfl), (Nat.le_of_ble_eq_true rfl)⟩ ⟨rfl, rfl⟩ ⟨(Nat.le_of_ble_eq_true rfl), (Nat.le_of_ble_eq_true rfl)⟩ hK hAO hP hD hS hA rfl hl.1 (Nat.le_of_ble_eq_true rfl) dX8_init_51 rfl (fun f9 H locs hP hD hS => ?_)
  have hP : va_P D vwCl [(h0, .inr (7, [.ref q1, .int (nI 0), .int (nI 0)])), (q1, .inl (cA 23, 8, .inr (.inr (.inr (.inr (va_up (va_up (va_up (fun _ => none) (nI 0).toNatClampNeg (some q2)) (nI 1).toNatClampNeg (some q4)) (nI 2).toNatClampNeg (some q6))))))), (q2, .inr (4, [.ref ct, .ref (f3 0)])), ((f3 0), .inl (cA 20, 64, .inl (fun _ => 0))), (q4, .inr (4, [.ref ct, .ref (f5 0)])), ((f5 0), .inl (cA 20, 64, .inl (fun _ => 0))), (q6, .inr (4, [.ref ct, .ref (f7 0)])), ((f7 0), .inl (cA 20, 64, .inl (fun _ => 0))), (q8, .inr (4, [.ref ct, .ref (f9 0)])), ((f9 0), .inl (cA 20, 64, .inl (fun _ => 0)))] H := hP
  have hD : va_D A [(h0, .inr (7, [.ref q1, .int (nI 0), .int (nI 0)])), (q1, .inl (cA 23, 8, .inr (.inr (.inr (.inr (va_up (va_up (va_up (fun _ => none) (nI 0).toNatClampNeg (some q2)) (nI 1).toNatClampNeg (some q4)) (nI 2).toNatClampNeg (some q6))))))), (q2, .inr (4, [.ref ct, .ref (f3 0)])), ((f3 0), .inl (cA 20, 64, .inl (fun _ => 0))), (q4, .inr (4, [.ref ct, .ref (f5 0)])), ((f5 0), .inl (cA 20, 64, .inl (fun _ => 0))), (q6, .inr (4, [.ref ct, .ref (f7 0)])), ((f7 0), .inl (cA 20, 64, .inl (fun _ => 0))), (q8, .inr (4, [.ref ct, .ref (f9 0)])), ((f9 0), .inl (cA 20, 64, .inl (fun _ => 0)))] := hD
  refine va_astq (r := (RX4, TX4, 2)) hx hb hK hP hD hS 1 3 8 4 rfl rfl rfl rfl (vp_in_nI (by decide) (by decide)) dX8_init_54 (fun H locs hP hD hS => ?_)
  have hP : va_P D vwCl [(h0, .inr (7, [.ref q1, .int (nI 0), .int (nI 0)])), (q1, .inl (cA 23, 8, .inr (.inr (.inr (.inr (va_up (va_up (va_up (va_up (fun _ => none) (nI 0).toNatClampNeg (some q2)) (nI 1).toNatClampNeg (some q4)) (nI 2).toNatClampNeg (some q6)) (nI 3).toNatClampNeg (some q8))))))), (q2, .inr (4, [.ref ct, .ref (f3 0)])), ((f3 0), .inl (cA 20, 64, .inl (fun _ => 0))), (q4, .inr (4, [.ref ct, .ref (f5 0)])), ((f5 0), .inl (cA 20, 64, .inl (fun _ => 0))), (q6, .inr (4, [.ref ct, .ref (f7 0)])), ((f7 0), .inl (cA 20, 64, .inl (fun _ => 0))), (q8, .inr (4, [.ref ct, .ref (f9 0)])), ((f9 0), .inl (cA 20, 64, .inl (fun _ => 0)))] H := hP
  have hD : va_D A [(h0, .inr (7, [.ref q1, .int (nI 0), .int (nI 0)])), (q1, .inl (cA 23, 8, .inr (.inr (.inr (.inr (va_up (va_up (va_up (va_up (fun _ => none) (nI 0).toNatClampNeg (some q2)) (nI 1).toNatClampNeg (some q4)) (nI 2).toNatClampNeg (some q6)) (nI 3).toNatClampNeg (some q8))))))), (q2, .inr (4, [.ref ct, .ref (f3 0)])), ((f3 0), .inl (cA 20, 64, .inl (fun _ => 0))), (q4, .inr (4, [.ref ct, .ref (f5 0)])), ((f5 0), .inl (cA 20, 64, .inl (fun _ => 0))), (q6, .inr (4, [.ref ct, .ref (f7 0)])), ((f7 0), .inl (cA 20, 64, .inl (fun _ => 0))), (q8, .inr (4, [.ref ct, .ref (f9 0)])), ((f9 0), .inl (cA 20, 64, .inl (fun _ => 0)))] := hD
  refine lv_iinc (v := nI 4) (lv' := [(3, .int (nI 4)), (0, .ref h0), (1, .ref ct), (2, .int (nI 8))]) hx hb dX8_init_55 hl (k := 0) rfl (by decide) (by decide) rfl (fun ls hl => ?_)
  refine lv_goto (tgt := 32) hx hb dX8_init_58 (by decide) ?_
  refine lv_iload_n hx hb dX8_init_32 rfl (lv_at hl 0 rfl) ?_
  refine lv_aload_n hx hb dX8_init_33 rfl (lv_at hl 1 rfl) ?_
  refine va_get (ci := 7) (v := .ref q1) (C := RX8) (T := TX8) (N := 3) hx hb hts inX8 hown hK hP 0 rfl rfl 0 (by decide) (hts _ tw_182) (fun _ h9 => h9) rfl dX8_init_34 ?_
  refine va_alen (v := nI 8) hx hb hK hP 1 3 rfl rfl rfl dX8_init_37 ?_
  refine lv_icmp_ge (tgt := 61) hx hb dX8_init_38 (by decide) (fun c_1 => absurd c_1 (by decide)) (fun c_1 => ?_)
  refine lv_aload_n hx hb dX8_init_41 rfl (lv_at hl 1 rfl) ?_
  refine va_get (ci := 7) (v := .ref q1) (C := RX8) (T := TX8) (N := 3) hx hb hts inX8 hown hK hP 0 rfl rfl 0 (by decide) (hts _ tw_182) (fun _ h9 => h9) rfl dX8_init_42 ?_
  refine lv_iload_n hx hb dX8_init_45 rfl (lv_at hl 0 rfl) ?_
  refine va_new (ci := 4) (fs := [.null, .null]) (C := RX4) (T := TX4) (N := 2) hx hb hts inX4 tyX4 tyX4_ok hown (hts _ tw_179) (hts _ tw_161) (hts _ tw_61) hK hP hD hS hA rfl (fun j hj => by match j, hj with | 0, _ => rfl | 1, _ => rfl) (Nat.le_of_ble_eq_true rfl) (Nat.le_of_ble_eq_true rfl) dX8_init_46 (fun q10 H hP hD hS => ?_)
  have hP : va_P D vwCl [(h0, .inr (7, [.ref q1, .int (nI 0), .int (nI 0)])), (q1, .inl (cA 23, 8, .inr (.inr (.inr (.inr (va_up (va_up (va_up (va_up (fun _ => none) (nI 0).toNatClampNeg (some q2)) (nI 1).toNatClampNeg (some q4)) (nI 2).toNatClampNeg (some q6)) (nI 3).toNatClampNeg (some q8))))))), (q2, .inr (4, [.ref ct, .ref (f3 0)])), ((f3 0), .inl (cA 20, 64, .inl (fun _ => 0))), (q4, .inr (4, [.ref ct, .ref (f5 0)])), ((f5 0), .inl (cA 20, 64, .inl (fun _ => 0))), (q6, .inr (4, [.ref ct, .ref (f7 0)])), ((f7 0), .inl (cA 20, 64, .inl (fun _ => 0))), (q8, .inr (4, [.ref ct, .ref (f9 0)])), ((f9 0), .inl (cA 20, 64, .inl (fun _ => 0))), (q10, .inr (4, [.null, .null]))] H := hP
  have hD : va_D A [(h0, .inr (7, [.ref q1, .int (nI 0), .int (nI 0)])), (q1, .inl (cA 23, 8, .inr (.inr (.inr (.inr (va_up (va_up (va_up (va_up (fun _ => none) (nI 0).toNatClampNeg (some q2)) (nI 1).toNatClampNeg (some q4)) (nI 2).toNatClampNeg (some q6)) (nI 3).toNatClampNeg (some q8))))))), (q2, .inr (4, [.ref ct, .ref (f3 0)])), ((f3 0), .inl (cA 20, 64, .inl (fun _ => 0))), (q4, .inr (4, [.ref ct, .ref (f5 0)])), ((f5 0), .inl (cA 20, 64, .inl (fun _ => 0))), (q6, .inr (4, [.ref ct, .ref (f7 0)])), ((f7 0), .inl (cA 20, 64, .inl (fun _ => 0))), (q8, .inr (4, [.ref ct, .ref (f9 0)])), ((f9 0), .inl (cA 20, 64, .inl (fun _ => 0))), (q10, .inr (4, [.null, .null]))] := hD
  refine lv_dup hx hb dX8_init_49 rfl ?_
  refine lv_aload_n hx hb dX8_init_50 rfl (lv_at hl 2 rfl) ?_
  refine c_callI (n := 1) (ws := [(h0, .inr (7, [.ref q1, .int (nI 0), .int (nI 0)])), (q1, .inl (cA 23, 8, .inr (.inr (.inr (.inr (va_up (va_up (va_up (va_up (fun _ => none) (nI 0).toNatClampNeg (some q2)) (nI 1).toNatClampNeg (some q4)) (nI 2).toNatClampNeg (some q6)) (nI 3).toNatClampNeg (some q8))))))), (q2, .inr (4, [.ref ct, .ref (f3 0)])), ((f3 0), .inl (cA 20, 64, .inl (fun _ => 0))), (q4, .inr (4, [.ref ct, .ref (f5 0)])), ((f5 0), .inl (cA 20, 64, .inl (fun _ => 0))), (q6, .inr (4, [.ref ct, .ref (f7 0)])), ((f7 0), .inl (cA 20, 64, .inl (fun _ => 0))), (q8, .inr (4, [.ref ct, .ref (f9 0)])), ((f9 0), .inl (cA 20, 64, .inl (fun _ => 0)))]) [.ref ct] (k_X4 l D cA q10 ct) ⟨hx, hb, hml, hown, hts⟩ ⟨tw_164, tw_61, tw_181, tw_163⟩ (by decide +kernel) ⟨(Nat.le_of_ble_eq_true rfl), (Nat.le_of_ble_eq_true rfl)⟩ ⟨rfl, rfl⟩ ⟨(Nat.le_of_ble_eq_true rfl), (Nat.le_of_ble_eq_true rfl)⟩ hK hAO hP hD hS hA rfl hl.1 (Nat.le_of_ble_eq_true rfl) dX8_init_51 rfl (fun f11 H locs hP hD hS => ?_)
  have hP : va_P D vwCl [(h0, .inr (7, [.ref q1, .int (nI 0), .int (nI 0)])), (q1, .inl (cA 23, 8, .inr (.inr (.inr (.inr (va_up (va_up (va_up (va_up (fun _ => none) (nI 0).toNatClampNeg (some q2)) (nI 1).toNatClampNeg (some q4)) (nI 2).toNatClampNeg (some q6)) (nI 3).toNatClampNeg (some q8))))))), (q2, .inr (4, [.ref ct, .ref (f3 0)])), ((f3 0), .inl (cA 20, 64, .inl (fun _ => 0))), (q4, .inr (4, [.ref ct, .ref (f5 0)])), ((f5 0), .inl (cA 20, 64, .inl (fun _ => 0))), (q6, .inr (4, [.ref ct, .ref (f7 0)])), ((f7 0), .inl (cA 20, 64, .inl (fun _ => 0))), (q8, .inr (4, [.ref ct, .ref (f9 0)])), ((f9 0), .inl (cA 20, 64, .inl (fun _ => 0))), (q10, .inr (4, [.ref ct, .ref (f11 0)])), ((f11 0), .inl (cA 20, 64, .inl (fun _ => 0)))] H := hP
  have hD : va_D A [(h0, .inr (7, [.ref q1, .int (nI 0), .int (nI 0)])), (q1, .inl (cA 23, 8, .inr (.inr (.inr (.inr (va_up (va_up (va_up (va_up (fun _ => none) (nI 0).toNatClampNeg (some q2)) (nI 1).toNatClampNeg (some q4)) (nI 2).toNatClampNeg (some q6)) (nI 3).toNatClampNeg (some q8))))))), (q2, .inr (4, [.ref ct, .ref (f3 0)])), ((f3 0), .inl (cA 20, 64, .inl (fun _ => 0))), (q4, .inr (4, [.ref ct, .ref (f5 0)])), ((f5 0), .inl (cA 20, 64, .inl (fun _ => 0))), (q6, .inr (4, [.ref ct, .ref (f7 0)])), ((f7 0), .inl (cA 20, 64, .inl (fun _ => 0))), (q8, .inr (4, [.ref ct, .ref (f9 0)])), ((f9 0), .inl (cA 20, 64, .inl (fun _ => 0))), (q10, .inr (4, [.ref ct, .ref (f11 0)])), ((f11 0), .inl (cA 20, 64, .inl (fun _ => 0)))] := hD
  refine va_astq (r := (RX4, TX4, 2)) hx hb hK hP hD hS 1 3 10 4 rfl rfl rfl rfl (vp_in_nI (by decide) (by decide)) dX8_init_54 (fun H locs hP hD hS => ?_)
  have hP : va_P D vwCl [(h0, .inr (7, [.ref q1, .int (nI 0), .int (nI 0)])), (q1, .inl (cA 23, 8, .inr (.inr (.inr (.inr (va_up (va_up (va_up (va_up (va_up (fun _ => none) (nI 0).toNatClampNeg (some q2)) (nI 1).toNatClampNeg (some q4)) (nI 2).toNatClampNeg (some q6)) (nI 3).toNatClampNeg (some q8)) (nI 4).toNatClampNeg (some q10))))))), (q2, .inr (4, [.ref ct, .ref (f3 0)])), ((f3 0), .inl (cA 20, 64, .inl (fun _ => 0))), (q4, .inr (4, [.ref ct, .ref (f5 0)])), ((f5 0), .inl (cA 20, 64, .inl (fun _ => 0))), (q6, .inr (4, [.ref ct, .ref (f7 0)])), ((f7 0), .inl (cA 20, 64, .inl (fun _ => 0))), (q8, .inr (4, [.ref ct, .ref (f9 0)])), ((f9 0), .inl (cA 20, 64, .inl (fun _ => 0))), (q10, .inr (4, [.ref ct, .ref (f11 0)])), ((f11 0), .inl (cA 20, 64, .inl (fun _ => 0)))] H := hP
  have hD : va_D A [(h0, .inr (7, [.ref q1, .int (nI 0), .int (nI 0)])), (q1, .inl (cA 23, 8, .inr (.inr (.inr (.inr (va_up (va_up (va_up (va_up (va_up (fun _ => none) (nI 0).toNatClampNeg (some q2)) (nI 1).toNatClampNeg (some q4)) (nI 2).toNatClampNeg (some q6)) (nI 3).toNatClampNeg (some q8)) (nI 4).toNatClampNeg (some q10))))))), (q2, .inr (4, [.ref ct, .ref (f3 0)])), ((f3 0), .inl (cA 20, 64, .inl (fun _ => 0))), (q4, .inr (4, [.ref ct, .ref (f5 0)])), ((f5 0), .inl (cA 20, 64, .inl (fun _ => 0))), (q6, .inr (4, [.ref ct, .ref (f7 0)])), ((f7 0), .inl (cA 20, 64, .inl (fun _ => 0))), (q8, .inr (4, [.ref ct, .ref (f9 0)])), ((f9 0), .inl (cA 20, 64, .inl (fun _ => 0))), (q10, .inr (4, [.ref ct, .ref (f11 0)])), ((f11 0), .inl (cA 20, 64, .inl (fun _ => 0)))] := hD
  refine lv_iinc (v := nI 5) (lv' := [(3, .int (nI 5)), (0, .ref h0), (1, .ref ct), (2, .int (nI 8))]) hx hb dX8_init_55 hl (k := 0) rfl (by decide) (by decide) rfl (fun ls hl => ?_)
  refine lv_goto (tgt := 32) hx hb dX8_init_58 (by decide) ?_
  refine lv_iload_n hx hb dX8_init_32 rfl (lv_at hl 0 rfl) ?_
  refine lv_aload_n hx hb dX8_init_33 rfl (lv_at hl 1 rfl) ?_
  refine va_get (ci := 7) (v := .ref q1) (C := RX8) (T := TX8) (N := 3) hx hb hts inX8 hown hK hP 0 rfl rfl 0 (by decide) (hts _ tw_182) (fun _ h9 => h9) rfl dX8_init_34 ?_
  refine va_alen (v := nI 8) hx hb hK hP 1 3 rfl rfl rfl dX8_init_37 ?_
  refine lv_icmp_ge (tgt := 61) hx hb dX8_init_38 (by decide) (fun c_1 => absurd c_1 (by decide)) (fun c_1 => ?_)
  refine lv_aload_n hx hb dX8_init_41 rfl (lv_at hl 1 rfl) ?_
  refine va_get (ci := 7) (v := .ref q1) (C := RX8) (T := TX8) (N := 3) hx hb hts inX8 hown hK hP 0 rfl rfl 0 (by decide) (hts _ tw_182) (fun _ h9 => h9) rfl dX8_init_42 ?_
  refine lv_iload_n hx hb dX8_init_45 rfl (lv_at hl 0 rfl) ?_
  refine va_new (ci := 4) (fs := [.null, .null]) (C := RX4) (T := TX4) (N := 2) hx hb hts inX4 tyX4 tyX4_ok hown (hts _ tw_179) (hts _ tw_161) (hts _ tw_61) hK hP hD hS hA rfl (fun j hj => by match j, hj with | 0, _ => rfl | 1, _ => rfl) (Nat.le_of_ble_eq_true rfl) (Nat.le_of_ble_eq_true rfl) dX8_init_46 (fun q12 H hP hD hS => ?_)
  have hP : va_P D vwCl [(h0, .inr (7, [.ref q1, .int (nI 0), .int (nI 0)])), (q1, .inl (cA 23, 8, .inr (.inr (.inr (.inr (va_up (va_up (va_up (va_up (va_up (fun _ => none) (nI 0).toNatClampNeg (some q2)) (nI 1).toNatClampNeg (some q4)) (nI 2).toNatClampNeg (some q6)) (nI 3).toNatClampNeg (some q8)) (nI 4).toNatClampNeg (some q10))))))), (q2, .inr (4, [.ref ct, .ref (f3 0)])), ((f3 0), .inl (cA 20, 64, .inl (fun _ => 0))), (q4, .inr (4, [.ref ct, .ref (f5 0)])), ((f5 0), .inl (cA 20, 64, .inl (fun _ => 0))), (q6, .inr (4, [.ref ct, .ref (f7 0)])), ((f7 0), .inl (cA 20, 64, .inl (fun _ => 0))), (q8, .inr (4, [.ref ct, .ref (f9 0)])), ((f9 0), .inl (cA 20, 64, .inl (fun _ => 0))), (q10, .inr (4, [.ref ct, .ref (f11 0)])), ((f11 0), .inl (cA 20, 64, .inl (fun _ => 0))), (q12, .inr (4, [.null, .null]))] H := hP
  have hD : va_D A [(h0, .inr (7, [.ref q1, .int (nI 0), .int (nI 0)])), (q1, .inl (cA 23, 8, .inr (.inr (.inr (.inr (va_up (va_up (va_up (va_up (va_up (fun _ => none) (nI 0).toNatClampNeg (some q2)) (nI 1).toNatClampNeg (some q4)) (nI 2).toNatClampNeg (some q6)) (nI 3).toNatClampNeg (some q8)) (nI 4).toNatClampNeg (some q10))))))), (q2, .inr (4, [.ref ct, .ref (f3 0)])), ((f3 0), .inl (cA 20, 64, .inl (fun _ => 0))), (q4, .inr (4, [.ref ct, .ref (f5 0)])), ((f5 0), .inl (cA 20, 64, .inl (fun _ => 0))), (q6, .inr (4, [.ref ct, .ref (f7 0)])), ((f7 0), .inl (cA 20, 64, .inl (fun _ => 0))), (q8, .inr (4, [.ref ct, .ref (f9 0)])), ((f9 0), .inl (cA 20, 64, .inl (fun _ => 0))), (q10, .inr (4, [.ref ct, .ref (f11 0)])), ((f11 0), .inl (cA 20, 64, .inl (fun _ => 0))), (q12, .inr (4, [.null, .null]))] := hD
  refine lv_dup hx hb dX8_init_49 rfl ?_
  refine lv_aload_n hx hb dX8_init_50 rfl (lv_at hl 2 rfl) ?_
  refine c_callI (n := 1) (ws := [(h0, .inr (7, [.ref q1, .int (nI 0), .int (nI 0)])), (q1, .inl (cA 23, 8, .inr (.inr (.inr (.inr (va_up (va_up (va_up (va_up (va_up (fun _ => none) (nI 0).toNatClampNeg (some q2)) (nI 1).toNatClampNeg (some q4)) (nI 2).toNatClampNeg (some q6)) (nI 3).toNatClampNeg (some q8)) (nI 4).toNatClampNeg (some q10))))))), (q2, .inr (4, [.ref ct, .ref (f3 0)])), ((f3 0), .inl (cA 20, 64, .inl (fun _ => 0))), (q4, .inr (4, [.ref ct, .ref (f5 0)])), ((f5 0), .inl (cA 20, 64, .inl (fun _ => 0))), (q6, .inr (4, [.ref ct, .ref (f7 0)])), ((f7 0), .inl (cA 20, 64, .inl (fun _ => 0))), (q8, .inr (4, [.ref ct, .ref (f9 0)])), ((f9 0), .inl (cA 20, 64, .inl (fun _ => 0))), (q10, .inr (4, [.ref ct, .ref (f11 0)])), ((f11 0), .inl (cA 20, 64, .inl (fun _ => 0)))]) [.ref ct] (k_X4 l D cA q12 ct) ⟨hx, hb, hml, hown, hts⟩ ⟨tw_164, tw_61, tw_181, tw_163⟩ (by decide +kernel) ⟨(Nat.le_of_ble_eq_true rfl), (Nat.le_of_ble_eq_true rfl)⟩ ⟨rfl, rfl⟩ ⟨(Nat.le_of_ble_eq_true rfl), (Nat.le_of_ble_eq_true rfl)⟩ hK hAO hP hD hS hA rfl hl.1 (Nat.le_of_ble_eq_true rfl) dX8_init_51 rfl (fun f13 H locs hP hD hS => ?_)
  have hP : va_P D vwCl [(h0, .inr (7, [.ref q1, .int (nI 0), .int (nI 0)])), (q1, .inl (cA 23, 8, .inr (.inr (.inr (.inr (va_up (va_up (va_up (va_up (va_up (fun _ => none) (nI 0).toNatClampNeg (some q2)) (nI 1).toNatClampNeg (some q4)) (nI 2).toNatClampNeg (some q6)) (nI 3).toNatClampNeg (some q8)) (nI 4).toNatClampNeg (some q10))))))), (q2, .inr (4, [.ref ct, .ref (f3 0)])), ((f3 0), .inl (cA 20, 64, .inl (fun _ => 0))), (q4, .inr (4, [.ref ct, .ref (f5 0)])), ((f5 0), .inl (cA 20, 64, .inl (fun _ => 0))), (q6, .inr (4, [.ref ct, .ref (f7 0)])), ((f7 0), .inl (cA 20, 64, .inl (fun _ => 0))), (q8, .inr (4, [.ref ct, .ref (f9 0)])), ((f9 0), .inl (cA 20, 64, .inl (fun _ => 0))), (q10, .inr (4, [.ref ct, .ref (f11 0)])), ((f11 0), .inl (cA 20, 64, .inl (fun _ => 0))), (q12, .inr (4, [.ref ct, .ref (f13 0)])), ((f13 0), .inl (cA 20, 64, .inl (fun _ => 0)))] H := hP
  have hD : va_D A [(h0, .inr (7, [.ref q1, .int (nI 0), .int (nI 0)])), (q1, .inl (cA 23, 8, .inr (.inr (.inr (.inr (va_up (va_up (va_up (va_up (va_up (fun _ => none) (nI 0).toNatClampNeg (some q2)) (nI 1).toNatClampNeg (some q4)) (nI 2).toNatClampNeg (some q6)) (nI 3).toNatClampNeg (some q8)) (nI 4).toNatClampNeg (some q10))))))), (q2, .inr (4, [.ref ct, .ref (f3 0)])), ((f3 0), .inl (cA 20, 64, .inl (fun _ => 0))), (q4, .inr (4, [.ref ct, .ref (f5 0)])), ((f5 0), .inl (cA 20, 64, .inl (fun _ => 0))), (q6, .inr (4, [.ref ct, .ref (f7 0)])), ((f7 0), .inl (cA 20, 64, .inl (fun _ => 0))), (q8, .inr (4, [.ref ct, .ref (f9 0)])), ((f9 0), .inl (cA 20, 64, .inl (fun _ => 0))), (q10, .inr (4, [.ref ct, .ref (f11 0)])), ((f11 0), .inl (cA 20, 64, .inl (fun _ => 0))), (q12, .inr (4, [.ref ct, .ref (f13 0)])), ((f13 0), .inl (cA 20, 64, .inl (fun _ => 0)))] := hD
  refine va_astq (r := (RX4, TX4, 2)) hx hb hK hP hD hS 1 3 12 4 rfl rfl rfl rfl (vp_in_nI (by decide) (by decide)) dX8_init_54 (fun H locs hP hD hS => ?_)
  have hP : va_P D vwCl [(h0, .inr (7, [.ref q1, .int (nI 0), .int (nI 0)])), (q1, .inl (cA 23, 8, .inr (.inr (.inr (.inr (va_up (va_up (va_up (va_up (va_up (va_up (fun _ => none) (nI 0).toNatClampNeg (some q2)) (nI 1).toNatClampNeg (some q4)) (nI 2).toNatClampNeg (some q6)) (nI 3).toNatClampNeg (some q8)) (nI 4).toNatClampNeg (some q10)) (nI 5).toNatClampNeg (some q12))))))), (q2, .inr (4, [.ref ct, .ref (f3 0)])), ((f3 0), .inl (cA 20, 64, .inl (fun _ => 0))), (q4, .inr (4, [.ref ct, .ref (f5 0)])), ((f5 0), .inl (cA 20, 64, .inl (fun _ => 0))), (q6, .inr (4, [.ref ct, .ref (f7 0)])), ((f7 0), .inl (cA 20, 64, .inl (fun _ => 0))), (q8, .inr (4, [.ref ct, .ref (f9 0)])), ((f9 0), .inl (cA 20, 64, .inl (fun _ => 0))), (q10, .inr (4, [.ref ct, .ref (f11 0)])), ((f11 0), .inl (cA 20, 64, .inl (fun _ => 0))), (q12, .inr (4, [.ref ct, .ref (f13 0)])), ((f13 0), .inl (cA 20, 64, .inl (fun _ => 0)))] H := hP
  have hD : va_D A [(h0, .inr (7, [.ref q1, .int (nI 0), .int (nI 0)])), (q1, .inl (cA 23, 8, .inr (.inr (.inr (.inr (va_up (va_up (va_up (va_up (va_up (va_up (fun _ => none) (nI 0).toNatClampNeg (some q2)) (nI 1).toNatClampNeg (some q4)) (nI 2).toNatClampNeg (some q6)) (nI 3).toNatClampNeg (some q8)) (nI 4).toNatClampNeg (some q10)) (nI 5).toNatClampNeg (some q12))))))), (q2, .inr (4, [.ref ct, .ref (f3 0)])), ((f3 0), .inl (cA 20, 64, .inl (fun _ => 0))), (q4, .inr (4, [.ref ct, .ref (f5 0)])), ((f5 0), .inl (cA 20, 64, .inl (fun _ => 0))), (q6, .inr (4, [.ref ct, .ref (f7 0)])), ((f7 0), .inl (cA 20, 64, .inl (fun _ => 0))), (q8, .inr (4, [.ref ct, .ref (f9 0)])), ((f9 0), .inl (cA 20, 64, .inl (fun _ => 0))), (q10, .inr (4, [.ref ct, .ref (f11 0)])), ((f11 0), .inl (cA 20, 64, .inl (fun _ => 0))), (q12, .inr (4, [.ref ct, .ref (f13 0)])), ((f13 0), .inl (cA 20, 64, .inl (fun _ => 0)))] := hD
  refine lv_iinc (v := nI 6) (lv' := [(3, .int (nI 6)), (0, .ref h0), (1, .ref ct), (2, .int (nI 8))]) hx hb dX8_init_55 hl (k := 0) rfl (by decide) (by decide) rfl (fun ls hl => ?_)
  refine lv_goto (tgt := 32) hx hb dX8_init_58 (by decide) ?_
  refine lv_iload_n hx hb dX8_init_32 rfl (lv_at hl 0 rfl) ?_
  refine lv_aload_n hx hb dX8_init_33 rfl (lv_at hl 1 rfl) ?_
  refine va_get (ci := 7) (v := .ref q1) (C := RX8) (T := TX8) (N := 3) hx hb hts inX8 hown hK hP 0 rfl rfl 0 (by decide) (hts _ tw_182) (fun _ h9 => h9) rfl dX8_init_34 ?_
  refine va_alen (v := nI 8) hx hb hK hP 1 3 rfl rfl rfl dX8_init_37 ?_
  refine lv_icmp_ge (tgt := 61) hx hb dX8_init_38 (by decide) (fun c_1 => absurd c_1 (by decide)) (fun c_1 => ?_)
  refine lv_aload_n hx hb dX8_init_41 rfl (lv_at hl 1 rfl) ?_
  refine va_get (ci := 7) (v := .ref q1) (C := RX8) (T := TX8) (N := 3) hx hb hts inX8 hown hK hP 0 rfl rfl 0 (by decide) (hts _ tw_182) (fun _ h9 => h9) rfl dX8_init_42 ?_
  refine lv_iload_n hx hb dX8_init_45 rfl (lv_at hl 0 rfl) ?_
  refine va_new (ci := 4) (fs := [.null, .null]) (C := RX4) (T := TX4) (N := 2) hx hb hts inX4 tyX4 tyX4_ok hown (hts _ tw_179) (hts _ tw_161) (hts _ tw_61) hK hP hD hS hA rfl (fun j hj => by match j, hj with | 0, _ => rfl | 1, _ => rfl) (Nat.le_of_ble_eq_true rfl) (Nat.le_of_ble_eq_true rfl) dX8_init_46 (fun q14 H hP hD hS => ?_)
  have hP : va_P D vwCl [(h0, .inr (7, [.ref q1, .int (nI 0), .int (nI 0)])), (q1, .inl (cA 23, 8, .inr (.inr (.inr (.inr (va_up (va_up (va_up (va_up (va_up (va_up (fun _ => none) (nI 0).toNatClampNeg (some q2)) (nI 1).toNatClampNeg (some q4)) (nI 2).toNatClampNeg (some q6)) (nI 3).toNatClampNeg (some q8)) (nI 4).toNatClampNeg (some q10)) (nI 5).toNatClampNeg (some q12))))))), (q2, .inr (4, [.ref ct, .ref (f3 0)])), ((f3 0), .inl (cA 20, 64, .inl (fun _ => 0))), (q4, .inr (4, [.ref ct, .ref (f5 0)])), ((f5 0), .inl (cA 20, 64, .inl (fun _ => 0))), (q6, .inr (4, [.ref ct, .ref (f7 0)])), ((f7 0), .inl (cA 20, 64, .inl (fun _ => 0))), (q8, .inr (4, [.ref ct, .ref (f9 0)])), ((f9 0), .inl (cA 20, 64, .inl (fun _ => 0))), (q10, .inr (4, [.ref ct, .ref (f11 0)])), ((f11 0), .inl (cA 20, 64, .inl (fun _ => 0))), (q12, .inr (4, [.ref ct, .ref (f13 0)])), ((f13 0), .inl (cA 20, 64, .inl (fun _ => 0))), (q14, .inr (4, [.null, .null]))] H := hP
  have hD : va_D A [(h0, .inr (7, [.ref q1, .int (nI 0), .int (nI 0)])), (q1, .inl (cA 23, 8, .inr (.inr (.inr (.inr (va_up (va_up (va_up (va_up (va_up (va_up (fun _ => none) (nI 0).toNatClampNeg (some q2)) (nI 1).toNatClampNeg (some q4)) (nI 2).toNatClampNeg (some q6)) (nI 3).toNatClampNeg (some q8)) (nI 4).toNatClampNeg (some q10)) (nI 5).toNatClampNeg (some q12))))))), (q2, .inr (4, [.ref ct, .ref (f3 0)])), ((f3 0), .inl (cA 20, 64, .inl (fun _ => 0))), (q4, .inr (4, [.ref ct, .ref (f5 0)])), ((f5 0), .inl (cA 20, 64, .inl (fun _ => 0))), (q6, .inr (4, [.ref ct, .ref (f7 0)])), ((f7 0), .inl (cA 20, 64, .inl (fun _ => 0))), (q8, .inr (4, [.ref ct, .ref (f9 0)])), ((f9 0), .inl (cA 20, 64, .inl (fun _ => 0))), (q10, .inr (4, [.ref ct, .ref (f11 0)])), ((f11 0), .inl (cA 20, 64, .inl (fun _ => 0))), (q12, .inr (4, [.ref ct, .ref (f13 0)])), ((f13 0), .inl (cA 20, 64, .inl (fun _ => 0))), (q14, .inr (4, [.null, .null]))] := hD
  refine lv_dup hx hb dX8_init_49 rfl ?_
  refine lv_aload_n hx hb dX8_init_50 rfl (lv_at hl 2 rfl) ?_
  refine c_callI (n := 1) (ws := [(h0, .inr (7, [.ref q1, .int (nI 0), .int (nI 0)])), (q1, .inl (cA 23, 8, .inr (.inr (.inr (.inr (va_up (va_up (va_up (va_up (va_up (va_up (fun _ => none) (nI 0).toNatClampNeg (some q2)) (nI 1).toNatClampNeg (some q4)) (nI 2).toNatClampNeg (some q6)) (nI 3).toNatClampNeg (some q8)) (nI 4).toNatClampNeg (some q10)) (nI 5).toNatClampNeg (some q12))))))), (q2, .inr (4, [.ref ct, .ref (f3 0)])), ((f3 0), .inl (cA 20, 64, .inl (fun _ => 0))), (q4, .inr (4, [.ref ct, .ref (f5 0)])), ((f5 0), .inl (cA 20, 64, .inl (fun _ => 0))), (q6, .inr (4, [.ref ct, .ref (f7 0)])), ((f7 0), .inl (cA 20, 64, .inl (fun _ => 0))), (q8, .inr (4, [.ref ct, .ref (f9 0)])), ((f9 0), .inl (cA 20, 64, .inl (fun _ => 0))), (q10, .inr (4, [.ref ct, .ref (f11 0)])), ((f11 0), .inl (cA 20, 64, .inl (fun _ => 0))), (q12, .inr (4, [.ref ct, .ref (f13 0)])), ((f13 0), .inl (cA 20, 64, .inl (fun _ => 0)))]) [.ref ct] (k_X4 l D cA q14 ct) ⟨hx, hb, hml, hown, hts⟩ ⟨tw_164, tw_61, tw_181, tw_163⟩ (by decide +kernel) ⟨(Nat.le_of_ble_eq_true rfl), (Nat.le_of_ble_eq_true rfl)⟩ ⟨rfl, rfl⟩ ⟨(Nat.le_of_ble_eq_true rfl), (Nat.le_of_ble_eq_true rfl)⟩ hK hAO hP hD hS hA rfl hl.1 (Nat.le_of_ble_eq_true rfl) dX8_init_51 rfl (fun f15 H locs hP hD hS => ?_)
  have hP : va_P D vwCl [(h0, .inr (7, [.ref q1, .int (nI 0), .int (nI 0)])), (q1, .inl (cA 23, 8, .inr (.inr (.inr (.inr (va_up (va_up (va_up (va_up (va_up (va_up (fun _ => none) (nI 0).toNatClampNeg (some q2)) (nI 1).toNatClampNeg (some q4)) (nI 2).toNatClampNeg (some q6)) (nI 3).toNatClampNeg (some q8)) (nI 4).toNatClampNeg (some q10)) (nI 5).toNatClampNeg (some q12))))))), (q2, .inr (4, [.ref ct, .ref (f3 0)])), ((f3 0), .inl (cA 20, 64, .inl (fun _ => 0))), (q4, .inr (4, [.ref ct, .ref (f5 0)])), ((f5 0), .inl (cA 20, 64, .inl (fun _ => 0))), (q6, .inr (4, [.ref ct, .ref (f7 0)])), ((f7 0), .inl (cA 20, 64, .inl (fun _ => 0))), (q8, .inr (4, [.ref ct, .ref (f9 0)])), ((f9 0), .inl (cA 20, 64, .inl (fun _ => 0))), (q10, .inr (4, [.ref ct, .ref (f11 0)])), ((f11 0), .inl (cA 20, 64, .inl (fun _ => 0))), (q12, .inr (4, [.ref ct, .ref (f13 0)])), ((f13 0), .inl (cA 20, 64, .inl (fun _ => 0))), (q14, .inr (4, [.ref ct, .ref (f15 0)])), ((f15 0), .inl (cA 20, 64, .inl (fun _ => 0)))] H := hP
  have hD : va_D A [(h0, .inr (7, [.ref q1, .int (nI 0), .int (nI 0)])), (q1, .inl (cA 23, 8, .inr (.inr (.inr (.inr (va_up (va_up (va_up (va_up (va_up (va_up (fun _ => none) (nI 0).toNatClampNeg (some q2)) (nI 1).toNatClampNeg (some q4)) (nI 2).toNatClampNeg (some q6)) (nI 3).toNatClampNeg (some q8)) (nI 4).toNatClampNeg (some q10)) (nI 5).toNatClampNeg (some q12))))))), (q2, .inr (4, [.ref ct, .ref (f3 0)])), ((f3 0), .inl (cA 20, 64, .inl (fun _ => 0))), (q4, .inr (4, [.ref ct, .ref (f5 0)])), ((f5 0), .inl (cA 20, 64, .inl (fun _ => 0))), (q6, .inr (4, [.ref ct, .ref (f7 0)])), ((f7 0), .inl (cA 20, 64, .inl (fun _ => 0))), (q8, .inr (4, [.ref ct, .ref (f9 0)])), ((f9 0), .inl (cA 20, 64, .inl (fun _ => 0))), (q10, .inr (4, [.ref ct, .ref (f11 0)])), ((f11 0), .inl (cA 20, 64, .inl (fun _ => 0))), (q12, .inr (4, [.ref ct, .ref (f13 0)])), ((f13 0), .inl (cA 20, 64, .inl (fun _ => 0))), (q14, .inr (4, [.ref ct, .ref (f15 0)])), ((f15 0), .inl (cA 20, 64, .inl (fun _ => 0)))] := hD
  refine va_astq (r := (RX4, TX4, 2)) hx hb hK hP hD hS 1 3 14 4 rfl rfl rfl rfl (vp_in_nI (by decide) (by decide)) dX8_init_54 (fun H locs hP hD hS => ?_)
  have hP : va_P D vwCl [(h0, .inr (7, [.ref q1, .int (nI 0), .int (nI 0)])), (q1, .inl (cA 23, 8, .inr (.inr (.inr (.inr (va_up (va_up (va_up (va_up (va_up (va_up (va_up (fun _ => none) (nI 0).toNatClampNeg (some q2)) (nI 1).toNatClampNeg (some q4)) (nI 2).toNatClampNeg (some q6)) (nI 3).toNatClampNeg (some q8)) (nI 4).toNatClampNeg (some q10)) (nI 5).toNatClampNeg (some q12)) (nI 6).toNatClampNeg (some q14))))))), (q2, .inr (4, [.ref ct, .ref (f3 0)])), ((f3 0), .inl (cA 20, 64, .inl (fun _ => 0))), (q4, .inr (4, [.ref ct, .ref (f5 0)])), ((f5 0), .inl (cA 20, 64, .inl (fun _ => 0))), (q6, .inr (4, [.ref ct, .ref (f7 0)])), ((f7 0), .inl (cA 20, 64, .inl (fun _ => 0))), (q8, .inr (4, [.ref ct, .ref (f9 0)])), ((f9 0), .inl (cA 20, 64, .inl (fun _ => 0))), (q10, .inr (4, [.ref ct, .ref (f11 0)])), ((f11 0), .inl (cA 20, 64, .inl (fun _ => 0))), (q12, .inr (4, [.ref ct, .ref (f13 0)])), ((f13 0), .inl (cA 20, 64, .inl (fun _ => 0))), (q14, .inr (4, [.ref ct, .ref (f15 0)])), ((f15 0), .inl (cA 20, 64, .inl (fun _ => 0)))] H := hP
  have hD : va_D A [(h0, .inr (7, [.ref q1, .int (nI 0), .int (nI 0)])), (q1, .inl (cA 23, 8, .inr (.inr (.inr (.inr (va_up (va_up (va_up (va_up (va_up (va_up (va_up (fun _ => none) (nI 0).toNatClampNeg (some q2)) (nI 1).toNatClampNeg (some q4)) (nI 2).toNatClampNeg (some q6)) (nI 3).toNatClampNeg (some q8)) (nI 4).toNatClampNeg (some q10)) (nI 5).toNatClampNeg (some q12)) (nI 6).toNatClampNeg (some q14))))))), (q2, .inr (4, [.ref ct, .ref (f3 0)])), ((f3 0), .inl (cA 20, 64, .inl (fun _ => 0))), (q4, .inr (4, [.ref ct, .ref (f5 0)])), ((f5 0), .inl (cA 20, 64, .inl (fun _ => 0))), (q6, .inr (4, [.ref ct, .ref (f7 0)])), ((f7 0), .inl (cA 20, 64, .inl (fun _ => 0))), (q8, .inr (4, [.ref ct, .ref (f9 0)])), ((f9 0), .inl (cA 20, 64, .inl (fun _ => 0))), (q10, .inr (4, [.ref ct, .ref (f11 0)])), ((f11 0), .inl (cA 20, 64, .inl (fun _ => 0))), (q12, .inr (4, [.ref ct, .ref (f13 0)])), ((f13 0), .inl (cA 20, 64, .inl (fun _ => 0))), (q14, .inr (4, [.ref ct, .ref (f15 0)])), ((f15 0), .inl (cA 20, 64, .inl (fun _ => 0)))] := hD
  refine lv_iinc (v := nI 7) (lv' := [(3, .int (nI 7)), (0, .ref h0), (1, .ref ct), (2, .int (nI 8))]) hx hb dX8_init_55 hl (k := 0) rfl (by decide) (by decide) rfl (fun ls hl => ?_)
  refine lv_goto (tgt := 32) hx hb dX8_init_58 (by decide) ?_
  refine lv_iload_n hx hb dX8_init_32 rfl (lv_at hl 0 rfl) ?_
  refine lv_aload_n hx hb dX8_init_33 rfl (lv_at hl 1 rfl) ?_
  refine va_get (ci := 7) (v := .ref q1) (C := RX8) (T := TX8) (N := 3) hx hb hts inX8 hown hK hP 0 rfl rfl 0 (by decide) (hts _ tw_182) (fun _ h9 => h9) rfl dX8_init_34 ?_
  refine va_alen (v := nI 8) hx hb hK hP 1 3 rfl rfl rfl dX8_init_37 ?_
  refine lv_icmp_ge (tgt := 61) hx hb dX8_init_38 (by decide) (fun c_1 => absurd c_1 (by decide)) (fun c_1 => ?_)
  refine lv_aload_n hx hb dX8_init_41 rfl (lv_at hl 1 rfl) ?_
  refine va_get (ci := 7) (v := .ref q1) (C := RX8) (T := TX8) (N := 3) hx hb hts inX8 hown hK hP 0 rfl rfl 0 (by decide) (hts _ tw_182) (fun _ h9 => h9) rfl dX8_init_42 ?_
  refine lv_iload_n hx hb dX8_init_45 rfl (lv_at hl 0 rfl) ?_
  refine va_new (ci := 4) (fs := [.null, .null]) (C := RX4) (T := TX4) (N := 2) hx hb hts inX4 tyX4 tyX4_ok hown (hts _ tw_179) (hts _ tw_161) (hts _ tw_61) hK hP hD hS hA rfl (fun j hj => by match j, hj with | 0, _ => rfl | 1, _ => rfl) (Nat.le_of_ble_eq_true rfl) (Nat.le_of_ble_eq_true rfl) dX8_init_46 (fun q16 H hP hD hS => ?_)
  have hP : va_P D vwCl [(h0, .inr (7, [.ref q1, .int (nI 0), .int (nI 0)])), (q1, .inl (cA 23, 8, .inr (.inr (.inr (.inr (va_up (va_up (va_up (va_up (va_up (va_up (va_up (fun _ => none) (nI 0).toNatClampNeg (some q2)) (nI 1).toNatClampNeg (some q4)) (nI 2).toNatClampNeg (some q6)) (nI 3).toNatClampNeg (some q8)) (nI 4).toNatClampNeg (some q10)) (nI 5).toNatClampNeg (some q12)) (nI 6).toNatClampNeg (some q14))))))), (q2, .inr (4, [.ref ct, .ref (f3 0)])), ((f3 0), .inl (cA 20, 64, .inl (fun _ => 0))), (q4, .inr (4, [.ref ct, .ref (f5 0)])), ((f5 0), .inl (cA 20, 64, .inl (fun _ => 0))), (q6, .inr (4, [.ref ct, .ref (f7 0)])), ((f7 0), .inl (cA 20, 64, .inl (fun _ => 0))), (q8, .inr (4, [.ref ct, .ref (f9 0)])), ((f9 0), .inl (cA 20, 64, .inl (fun _ => 0))), (q10, .inr (4, [.ref ct, .ref (f11 0)])), ((f11 0), .inl (cA 20, 64, .inl (fun _ => 0))), (q12, .inr (4, [.ref ct, .ref (f13 0)])), ((f13 0), .inl (cA 20, 64, .inl (fun _ => 0))), (q14, .inr (4, [.ref ct, .ref (f15 0)])), ((f15 0), .inl (cA 20, 64, .inl (fun _ => 0))), (q16, .inr (4, [.null, .null]))] H := hP
  have hD : va_D A [(h0, .inr (7, [.ref q1, .int (nI 0), .int (nI 0)])), (q1, .inl (cA 23, 8, .inr (.inr (.inr (.inr (va_up (va_up (va_up (va_up (va_up (va_up (va_up (fun _ => none) (nI 0).toNatClampNeg (some q2)) (nI 1).toNatClampNeg (some q4)) (nI 2).toNatClampNeg (some q6)) (nI 3).toNatClampNeg (some q8)) (nI 4).toNatClampNeg (some q10)) (nI 5).toNatClampNeg (some q12)) (nI 6).toNatClampNeg (some q14))))))), (q2, .inr (4, [.ref ct, .ref (f3 0)])), ((f3 0), .inl (cA 20, 64, .inl (fun _ => 0))), (q4, .inr (4, [.ref ct, .ref (f5 0)])), ((f5 0), .inl (cA 20, 64, .inl (fun _ => 0))), (q6, .inr (4, [.ref ct, .ref (f7 0)])), ((f7 0), .inl (cA 20, 64, .inl (fun _ => 0))), (q8, .inr (4, [.ref ct, .ref (f9 0)])), ((f9 0), .inl (cA 20, 64, .inl (fun _ => 0))), (q10, .inr (4, [.ref ct, .ref (f11 0)])), ((f11 0), .inl (cA 20, 64, .inl (fun _ => 0))), (q12, .inr (4, [.ref ct, .ref (f13 0)])), ((f13 0), .inl (cA 20, 64, .inl (fun _ => 0))), (q14, .inr (4, [.ref ct, .ref (f15 0)])), ((f15 0), .inl (cA 20, 64, .inl (fun _ => 0))), (q16, .inr (4, [.null, .null]))] := hD
  refine lv_dup hx hb dX8_init_49 rfl ?_
  refine lv_aload_n hx hb dX8_init_50 rfl (lv_at hl 2 rfl) ?_
  refine c_callI (n := 1) (ws := [(h0, .inr (7, [.ref q1, .int (nI 0), .int (nI 0)])), (q1, .inl (cA 23, 8, .inr (.inr (.inr (.inr (va_up (va_up (va_up (va_up (va_up (va_up (va_up (fun _ => none) (nI 0).toNatClampNeg (some q2)) (nI 1).toNatClampNeg (some q4)) (nI 2).toNatClampNeg (some q6)) (nI 3).toNatClampNeg (some q8)) (nI 4).toNatClampNeg (some q10)) (nI 5).toNatClampNeg (some q12)) (nI 6).toNatClampNeg (some q14))))))), (q2, .inr (4, [.ref ct, .ref (f3 0)])), ((f3 0), .inl (cA 20, 64, .inl (fun _ => 0))), (q4, .inr (4, [.ref ct, .ref (f5 0)])), ((f5 0), .inl (cA 20, 64, .inl (fun _ => 0))), (q6, .inr (4, [.ref ct, .ref (f7 0)])), ((f7 0), .inl (cA 20, 64, .inl (fun _ => 0))), (q8, .inr (4, [.ref ct, .ref (f9 0)])), ((f9 0), .inl (cA 20, 64, .inl (fun _ => 0))), (q10, .inr (4, [.ref ct, .ref (f11 0)])), ((f11 0), .inl (cA 20, 64, .inl (fun _ => 0))), (q12, .inr (4, [.ref ct, .ref (f13 0)])), ((f13 0), .inl (cA 20, 64, .inl (fun _ => 0))), (q14, .inr (4, [.ref ct, .ref (f15 0)])), ((f15 0), .inl (cA 20, 64, .inl (fun _ => 0)))]) [.ref ct] (k_X4 l D cA q16 ct) ⟨hx, hb, hml, hown, hts⟩ ⟨tw_164, tw_61, tw_181, tw_163⟩ (by decide +kernel) ⟨(Nat.le_of_ble_eq_true rfl), (Nat.le_of_ble_eq_true rfl)⟩ ⟨rfl, rfl⟩ ⟨(Nat.le_of_ble_eq_true rfl), (Nat.le_of_ble_eq_true rfl)⟩ hK hAO hP hD hS hA rfl hl.1 (Nat.le_of_ble_eq_true rfl) dX8_init_51 rfl (fun f17 H locs hP hD hS => ?_)
  have hP : va_P D vwCl [(h0, .inr (7, [.ref q1, .int (nI 0), .int (nI 0)])), (q1, .inl (cA 23, 8, .inr (.inr (.inr (.inr (va_up (va_up (va_up (va_up (va_up (va_up (va_up (fun _ => none) (nI 0).toNatClampNeg (some q2)) (nI 1).toNatClampNeg (some q4)) (nI 2).toNatClampNeg (some q6)) (nI 3).toNatClampNeg (some q8)) (nI 4).toNatClampNeg (some q10)) (nI 5).toNatClampNeg (some q12)) (nI 6).toNatClampNeg (some q14))))))), (q2, .inr (4, [.ref ct, .ref (f3 0)])), ((f3 0), .inl (cA 20, 64, .inl (fun _ => 0))), (q4, .inr (4, [.ref ct, .ref (f5 0)])), ((f5 0), .inl (cA 20, 64, .inl (fun _ => 0))), (q6, .inr (4, [.ref ct, .ref (f7 0)])), ((f7 0), .inl (cA 20, 64, .inl (fun _ => 0))), (q8, .inr (4, [.ref ct, .ref (f9 0)])), ((f9 0), .inl (cA 20, 64, .inl (fun _ => 0))), (q10, .inr (4, [.ref ct, .ref (f11 0)])), ((f11 0), .inl (cA 20, 64, .inl (fun _ => 0))), (q12, .inr (4, [.ref ct, .ref (f13 0)])), ((f13 0), .inl (cA 20, 64, .inl (fun _ => 0))), (q14, .inr (4, [.ref ct, .ref (f15 0)])), ((f15 0), .inl (cA 20, 64, .inl (fun _ => 0))), (q16, .inr (4, [.ref ct, .ref (f17 0)])), ((f17 0), .inl (cA 20, 64, .inl (fun _ => 0)))] H := hP
  have hD : va_D A [(h0, .inr (7, [.ref q1, .int (nI 0), .int (nI 0)])), (q1, .inl (cA 23, 8, .inr (.inr (.inr (.inr (va_up (va_up (va_up (va_up (va_up (va_up (va_up (fun _ => none) (nI 0).toNatClampNeg (some q2)) (nI 1).toNatClampNeg (some q4)) (nI 2).toNatClampNeg (some q6)) (nI 3).toNatClampNeg (some q8)) (nI 4).toNatClampNeg (some q10)) (nI 5).toNatClampNeg (some q12)) (nI 6).toNatClampNeg (some q14))))))), (q2, .inr (4, [.ref ct, .ref (f3 0)])), ((f3 0), .inl (cA 20, 64, .inl (fun _ => 0))), (q4, .inr (4, [.ref ct, .ref (f5 0)])), ((f5 0), .inl (cA 20, 64, .inl (fun _ => 0))), (q6, .inr (4, [.ref ct, .ref (f7 0)])), ((f7 0), .inl (cA 20, 64, .inl (fun _ => 0))), (q8, .inr (4, [.ref ct, .ref (f9 0)])), ((f9 0), .inl (cA 20, 64, .inl (fun _ => 0))), (q10, .inr (4, [.ref ct, .ref (f11 0)])), ((f11 0), .inl (cA 20, 64, .inl (fun _ => 0))), (q12, .inr (4, [.ref ct, .ref (f13 0)])), ((f13 0), .inl (cA 20, 64, .inl (fun _ => 0))), (q14, .inr (4, [.ref ct, .ref (f15 0)])), ((f15 0), .inl (cA 20, 64, .inl (fun _ => 0))), (q16, .inr (4, [.ref ct, .ref (f17 0)])), ((f17 0), .inl (cA 20, 64, .inl (fun _ => 0)))] := hD
  refine va_astq (r := (RX4, TX4, 2)) hx hb hK hP hD hS 1 3 16 4 rfl rfl rfl rfl (vp_in_nI (by decide) (by decide)) dX8_init_54 (fun H locs hP hD hS => ?_)
  have hP : va_P D vwCl [(h0, .inr (7, [.ref q1, .int (nI 0), .int (nI 0)])), (q1, .inl (cA 23, 8, .inr (.inr (.inr (.inr (va_up (va_up (va_up (va_up (va_up (va_up (va_up (va_up (fun _ => none) (nI 0).toNatClampNeg (some q2)) (nI 1).toNatClampNeg (some q4)) (nI 2).toNatClampNeg (some q6)) (nI 3).toNatClampNeg (some q8)) (nI 4).toNatClampNeg (some q10)) (nI 5).toNatClampNeg (some q12)) (nI 6).toNatClampNeg (some q14)) (nI 7).toNatClampNeg (some q16))))))), (q2, .inr (4, [.ref ct, .ref (f3 0)])), ((f3 0), .inl (cA 20, 64, .inl (fun _ => 0))), (q4, .inr (4, [.ref ct, .ref (f5 0)])), ((f5 0), .inl (cA 20, 64, .inl (fun _ => 0))), (q6, .inr (4, [.ref ct, .ref (f7 0)])), ((f7 0), .inl (cA 20, 64, .inl (fun _ => 0))), (q8, .inr (4, [.ref ct, .ref (f9 0)])), ((f9 0), .inl (cA 20, 64, .inl (fun _ => 0))), (q10, .inr (4, [.ref ct, .ref (f11 0)])), ((f11 0), .inl (cA 20, 64, .inl (fun _ => 0))), (q12, .inr (4, [.ref ct, .ref (f13 0)])), ((f13 0), .inl (cA 20, 64, .inl (fun _ => 0))), (q14, .inr (4, [.ref ct, .ref (f15 0)])), ((f15 0), .inl (cA 20, 64, .inl (fun _ => 0))), (q16, .inr (4, [.ref ct, .ref (f17 0)])), ((f17 0), .inl (cA 20, 64, .inl (fun _ => 0)))] H := hP
  have hD : va_D A [(h0, .inr (7, [.ref q1, .int (nI 0), .int (nI 0)])), (q1, .inl (cA 23, 8, .inr (.inr (.inr (.inr (va_up (va_up (va_up (va_up (va_up (va_up (va_up (va_up (fun _ => none) (nI 0).toNatClampNeg (some q2)) (nI 1).toNatClampNeg (some q4)) (nI 2).toNatClampNeg (some q6)) (nI 3).toNatClampNeg (some q8)) (nI 4).toNatClampNeg (some q10)) (nI 5).toNatClampNeg (some q12)) (nI 6).toNatClampNeg (some q14)) (nI 7).toNatClampNeg (some q16))))))), (q2, .inr (4, [.ref ct, .ref (f3 0)])), ((f3 0), .inl (cA 20, 64, .inl (fun _ => 0))), (q4, .inr (4, [.ref ct, .ref (f5 0)])), ((f5 0), .inl (cA 20, 64, .inl (fun _ => 0))), (q6, .inr (4, [.ref ct, .ref (f7 0)])), ((f7 0), .inl (cA 20, 64, .inl (fun _ => 0))), (q8, .inr (4, [.ref ct, .ref (f9 0)])), ((f9 0), .inl (cA 20, 64, .inl (fun _ => 0))), (q10, .inr (4, [.ref ct, .ref (f11 0)])), ((f11 0), .inl (cA 20, 64, .inl (fun _ => 0))), (q12, .inr (4, [.ref ct, .ref (f13 0)])), ((f13 0), .inl (cA 20, 64, .inl (fun _ => 0))), (q14, .inr (4, [.ref ct, .ref (f15 0)])), ((f15 0), .inl (cA 20, 64, .inl (fun _ => 0))), (q16, .inr (4, [.ref ct, .ref (f17 0)])), ((f17 0), .inl (cA 20, 64, .inl (fun _ => 0)))] := hD
  refine lv_iinc (v := nI 8) (lv' := [(3, .int (nI 8)), (0, .ref h0), (1, .ref ct), (2, .int (nI 8))]) hx hb dX8_init_55 hl (k := 0) rfl (by decide) (by decide) rfl (fun ls hl => ?_)
  refine lv_goto (tgt := 32) hx hb dX8_init_58 (by decide) ?_
  refine lv_iload_n hx hb dX8_init_32 rfl (lv_at hl 0 rfl) ?_
  refine lv_aload_n hx hb dX8_init_33 rfl (lv_at hl 1 rfl) ?_
  refine va_get (ci := 7) (v := .ref q1) (C := RX8) (T := TX8) (N := 3) hx hb hts inX8 hown hK hP 0 rfl rfl 0 (by decide) (hts _ tw_182) (fun _ h9 => h9) rfl dX8_init_34 ?_
  refine va_alen (v := nI 8) hx hb hK hP 1 3 rfl rfl rfl dX8_init_37 ?_
  refine lv_icmp_ge (tgt := 61) hx hb dX8_init_38 (by decide) (fun c_1 => ?_) (fun c_1 => absurd (by decide) c_1)
  have hD := ref_cgD (k := 1) (e := .inl (cA 23, 8, .inr (.inr (.inr (.inr (fun i => some ((fun k => ([q1, q2, (f3 0), q4, (f5 0), q6, (f7 0), q8, (f9 0), q10, (f11 0), q12, (f13 0), q14, (f15 0), q16, (f17 0)] : List Nat).getD k 0) (1 + 2 * i)))))))) hD rfl
  have hP := ref_cg (k := 1) (g := (fun i => some ((fun k => ([q1, q2, (f3 0), q4, (f5 0), q6, (f7 0), q8, (f9 0), q10, (f11 0), q12, (f13 0), q14, (f15 0), q16, (f17 0)] : List Nat).getD k 0) (1 + 2 * i)))) hP rfl (fun i hi => by match i, hi with | 0, _ => rfl | 1, _ => rfl | 2, _ => rfl | 3, _ => rfl | 4, _ => rfl | 5, _ => rfl | 6, _ => rfl | 7, _ => rfl)
  refine W.widen (k := 17) (n := 536) (Nat.le_of_ble_eq_true rfl) (Nat.le_of_ble_eq_true rfl) ?_
  exact W.vret hx hb hr (fun t ht hW => ⟨⟨(fun k => ([q1, q2, (f3 0), q4, (f5 0), q6, (f7 0), q8, (f9 0), q10, (f11 0), q12, (f13 0), q14, (f15 0), q16, (f17 0)] : List Nat).getD k 0), rfl, trivial, by rw [ht]; exact hP, by rw [hAe]; exact hD⟩, hAe ▸ hS.F ht⟩) (fun q hq => hAe ▸ hS.2.2 q hq) dX8_init_61
set_option maxHeartbeats 4000000 in
set_option maxRecDepth 100000 in
theorem k_X8_2 (l : Launch) (D : va_G) (cA : Nat → ClassId) (h0 ct : Nat) : cMet l D cA yX8_init cX8_init 4 { frames := 2, cells := 5, slots := 134, locals := 33 } [.ref h0, .ref ct, .int (nI 2)] h0 (.inr (7, [.null, .int 0, .int 0])) 5 134 (fun f => [(h0, .inr (7, [.ref (f 0), .int (nI 0), .int (nI 0)])), ((f 0), .inl (cA 23, 2, .inr (.inr (.inr (.inr (fun i => some (f (1 + 2 * i)))))))), ((f 1), .inr (4, [.ref ct, .ref (f 2)])), ((f 2), .inl (cA 20, 64, .inl (fun _ => 0))), ((f 3), .inr (4, [.ref ct, .ref (f 4)])), ((f 4), .inl (cA 20, 64, .inl (fun _ => 0)))]) := by
  intro sz
  refine Met.ofW (cc := cX8_init) (maxL := 4) (ret := none) (by decide) rfl ?_
  intro p e s m args below meth c s₁ B hml hv
  obtain ⟨rfl, hsz, hP, hK, hD0, hAO⟩ := hv
  have hx := B.exec
  have hb := B.bytes
  have hr := B.returns
  have hts0 := atoms_spec (ws := Cond.code yX8_init cX8_init 4 none :: tbg) B.pre
  have hts : ∀ w ∈ tbg, w.before _ s = true := fun w hw => hts0 w (List.mem_cons_of_mem _ hw)
  have hown : s.vm.findClass RX8 = some m.cls := findClass_of_methodNamed B.named
  have hlocks := B.notSynchronized
  have hin : meth.name = "<init>" := (name_of_methodNamed B.named B.method).1
  subst hsz
  have hD := hD0.self (sz := s.heap.size)
  generalize hAe : va_A [(h0, .inr (7, [.null, .int 0, .int 0]))] s.heap.size = A at hD ⊢
  have hA : ∀ q : Nat, s.heap.size ≤ q → A q := fun q h => by rw [← hAe]; exact Or.inr h
  have hS : va_S A s.heap s.heap [] := va_S.rf
  have hP : va_P D vwCl [(h0, .inr (7, [.null, .int 0, .int 0]))] s.heap := hP
  have hl := lv_entry ([.ref h0, .ref ct, .int (nI 2)]) (n := 4) (Nat.le_of_ble_eq_true rfl)
  rw [lg_entry_eq]
  generalize (lg_sl ([.ref h0, .ref ct, .int (nI 2)]) ++ List.replicate (4 - (lg_sl ([.ref h0, .ref ct, .int (nI 2)])).length) Slot.unset).toArray = ls at hl ⊢
  have hl : lv_has ls 4 [(0, .ref h0), (1, .ref ct), (2, .int (nI 2))] := hl
  refine lv_aload_n hx hb dX8_init_0 rfl (lv_at hl 0 rfl) ?_
  refine W.objInit hx hb hown (hts _ tw_178) (hts _ tw_81) (hts _ tw_82) rfl (by rw [hml]; exact hl.1) rfl dX8_init_1 (Nat.le_of_ble_eq_true rfl) (Nat.le_of_ble_eq_true rfl) ?_
  refine W.eq (g2 := F0 m 4 ls []) rfl ?_
  refine lv_aload_n hx hb dX8_init_4 rfl (lv_at hl 0 rfl) ?_
  refine lv_iconst (v := nI 0) hx hb dX8_init_5 (by decide) ?_
  refine va_put (ci := 7) (v := .int (nI 0)) (ty := .int) (C := RX8) (T := TX8) (N := 3) hx hb hts inX8 tyX8 tyX8_ok nmX8 hown hK hP hD hS 0 rfl rfl 1 (by decide) (hts _ tw_183) (fun _ h9 => h9) rfl (by decide +kernel) (vp_nar_int _) rfl (Nat.le_of_ble_eq_true rfl) dX8_init_6 (fun H locs hP hD hS => ?_)
  have hP : va_P D vwCl [(h0, .inr (7, [.null, .int (nI 0), .int 0]))] H := hP
  have hD : va_D A [(h0, .inr (7, [.null, .int (nI 0), .int 0]))] := hD
  refine lv_aload_n hx hb dX8_init_9 rfl (lv_at hl 0 rfl) ?_
  refine lv_iconst (v := nI 0) hx hb dX8_init_10 (by decide) ?_
  refine va_put (ci := 7) (v := .int (nI 0)) (ty := .int) (C := RX8) (T := TX8) (N := 3) hx hb hts inX8 tyX8 tyX8_ok nmX8 hown hK hP hD hS 0 rfl rfl 2 (by decide) (hts _ tw_184) (fun _ h9 => h9) rfl (by decide +kernel) (vp_nar_int _) rfl (Nat.le_of_ble_eq_true rfl) dX8_init_11 (fun H locs hP hD hS => ?_)
  have hP : va_P D vwCl [(h0, .inr (7, [.null, .int (nI 0), .int (nI 0)]))] H := hP
  have hD : va_D A [(h0, .inr (7, [.null, .int (nI 0), .int (nI 0)]))] := hD
  refine lv_aload_n hx hb dX8_init_14 rfl (lv_at hl 0 rfl) ?_
  refine lv_iload_n hx hb dX8_init_15 rfl (lv_at hl 2 rfl) ?_
  refine lv_if_le (tgt := 23) hx hb dX8_init_16 (by decide) (fun c_1 => absurd c_1 (by decide)) (fun c_1 => ?_)
  refine lv_iload_n hx hb dX8_init_19 rfl (lv_at hl 2 rfl) ?_
  refine lv_goto (tgt := 24) hx hb dX8_init_20 (by decide) ?_
  refine va_newq (C := "DonkeyVerdicts$Herd") hx hb hown (hts _ tw_179) hAO hK hP hD hS hA (N' := 2) (by decide) (nI_clamp (by decide)) (by decide) (Nat.le_of_ble_eq_true rfl) (Nat.le_of_ble_eq_true rfl) dX8_init_24 (fun q1 c1 H hK1 hP hD hS => ?_)
  obtain rfl : c1 = cA 23 := ty_eq hK1 3 rfl
  have hP : va_P D vwCl [(h0, .inr (7, [.null, .int (nI 0), .int (nI 0)])), (q1, .inl (cA 23, 2, .inr (.inr (.inr (.inr (fun _ => none))))))] H := hP
  have hD : va_D A [(h0, .inr (7, [.null, .int (nI 0), .int (nI 0)])), (q1, .inl (cA 23, 2, .inr (.inr (.inr (.inr (fun _ => none))))))] := hD
  refine va_putF (ci := 7) (v := .ref q1) (ty := .array (.object "DonkeyVerdicts$Herd")) (C := RX8) (T := TX8) (N := 3) hx hb hts inX8 tyX8 tyX8_ok nmX8 hown hK hP hD hS 0 rfl rfl 0 (by decide) (hts _ tw_182) (fun _ h9 => h9) rfl hin rfl (by decide +kernel) rfl rfl (Nat.le_of_ble_eq_true rfl) dX8_init_27 (fun H locs hP hD hS => ?_)
  have hP : va_P D vwCl [(h0, .inr (7, [.ref q1, .int (nI 0), .int (nI 0)])), (q1, .inl (cA 23, 2, .inr (.inr (.inr (.inr (fun _ => none))))))] H := hP
  have hD : va_D A [(h0, .inr (7, [.ref q1, .int (nI 0), .int (nI 0)])), (q1, .inl (cA 23, 2, .inr (.inr (.inr (.inr (fun _ => none))))))] := hD
  refine lv_iconst (v := nI 0) hx hb dX8_init_30 (by decide) ?_
  refine lv_istore_n (lv' := [(3, .int (nI 0)), (0, .ref h0), (1, .ref ct), (2, .int (nI 2))]) hx hb dX8_init_31 rfl hl (by decide) rfl (fun ls hl => ?_)
  refine lv_iload_n hx hb dX8_init_32 rfl (lv_at hl 0 rfl) ?_
  refine lv_aload_n hx hb dX8_init_33 rfl (lv_at hl 1 rfl) ?_
  refine va_get (ci := 7) (v := .ref q1) (C := RX8) (T := TX8) (N := 3) hx hb hts inX8 hown hK hP 0 rfl rfl 0 (by decide) (hts _ tw_182) (fun _ h9 => h9) rfl dX8_init_34 ?_
  refine va_alen (v := nI 2) hx hb hK hP 1 3 rfl rfl rfl dX8_init_37 ?_
  refine lv_icmp_ge (tgt := 61) hx hb dX8_init_38 (by decide) (fun c_1 => absurd c_1 (by decide)) (fun c_1 => ?_)
  refine lv_aload_n hx hb dX8_init_41 rfl (lv_at hl 1 rfl) ?_
  refine va_get (ci := 7) (v := .ref q1) (C := RX8) (T := TX8) (N := 3) hx hb hts inX8 hown hK hP 0 rfl rfl 0 (by decide) (hts _ tw_182) (fun _ h9 => h9) rfl dX8_init_42 ?_
  refine lv_iload_n hx hb dX8_init_45 rfl (lv_at hl 0 rfl) ?_
  refine va_new (ci := 4) (fs := [.null, .null]) (C := RX4) (T := TX4) (N := 2) hx hb hts inX4 tyX4 tyX4_ok hown (hts _ tw_179) (hts _ tw_161) (hts _ tw_61) hK hP hD hS hA rfl (fun j hj => by match j, hj with | 0, _ => rfl | 1, _ => rfl) (Nat.le_of_ble_eq_true rfl) (Nat.le_of_ble_eq_true rfl) dX8_init_46 (fun q2 H hP hD hS => ?_)
  have hP : va_P D vwCl [(h0, .inr (7, [.ref q1, .int (nI 0), .int (nI 0)])), (q1, .inl (cA 23, 2, .inr (.inr (.inr (.inr (fun _ => none)))))), (q2, .inr (4, [.null, .null]))] H := hP
  have hD : va_D A [(h0, .inr (7, [.ref q1, .int (nI 0), .int (nI 0)])), (q1, .inl (cA 23, 2, .inr (.inr (.inr (.inr (fun _ => none)))))), (q2, .inr (4, [.null, .null]))] := hD
  refine lv_dup hx hb dX8_init_49 rfl ?_
  refine lv_aload_n hx hb dX8_init_50 rfl (lv_at hl 2 rfl) ?_
  refine c_callI (n := 1) (ws := [(h0, .inr (7, [.ref q1, .int (nI 0), .int (nI 0)])), (q1, .inl (cA 23, 2, .inr (.inr (.inr (.inr (fun _ => none))))))]) [.ref ct] (k_X4 l D cA q2 ct) ⟨hx, hb, hml, hown, hts⟩ ⟨tw_164, tw_61, tw_181, tw_163⟩ (by decide +kernel) ⟨(Nat.le_of_ble_eq_true rfl), (Nat.le_of_ble_eq_true rfl)⟩ ⟨rfl, rfl⟩ ⟨(Nat.le_of_ble_eq_true rfl), (Nat.le_of_ble_eq_true rfl)⟩ hK hAO hP hD hS hA rfl hl.1 (Nat.le_of_ble_eq_true rfl) dX8_init_51 rfl (fun f3 H locs hP hD hS => ?_)
  have hP : va_P D vwCl [(h0, .inr (7, [.ref q1, .int (nI 0), .int (nI 0)])), (q1, .inl (cA 23, 2, .inr (.inr (.inr (.inr (fun _ => none)))))), (q2, .inr (4, [.ref ct, .ref (f3 0)])), ((f3 0), .inl (cA 20, 64, .inl (fun _ => 0)))] H := hP
  have hD : va_D A [(h0, .inr (7, [.ref q1, .int (nI 0), .int (nI 0)])), (q1, .inl (cA 23, 2, .inr (.inr (.inr (.inr (fun _ => none)))))), (q2, .inr (4, [.ref ct, .ref (f3 0)])), ((f3 0), .inl (cA 20, 64, .inl (fun _ => 0)))] := hD
  refine va_astq (r := (RX4, TX4, 2)) hx hb hK hP hD hS 1 3 2 4 rfl rfl rfl rfl (vp_in_nI (by decide) (by decide)) dX8_init_54 (fun H locs hP hD hS => ?_)
  have hP : va_P D vwCl [(h0, .inr (7, [.ref q1, .int (nI 0), .int (nI 0)])), (q1, .inl (cA 23, 2, .inr (.inr (.inr (.inr (va_up (fun _ => none) (nI 0).toNatClampNeg (some q2))))))), (q2, .inr (4, [.ref ct, .ref (f3 0)])), ((f3 0), .inl (cA 20, 64, .inl (fun _ => 0)))] H := hP
  have hD : va_D A [(h0, .inr (7, [.ref q1, .int (nI 0), .int (nI 0)])), (q1, .inl (cA 23, 2, .inr (.inr (.inr (.inr (va_up (fun _ => none) (nI 0).toNatClampNeg (some q2))))))), (q2, .inr (4, [.ref ct, .ref (f3 0)])), ((f3 0), .inl (cA 20, 64, .inl (fun _ => 0)))] := hD
  refine lv_iinc (v := nI 1) (lv' := [(3, .int (nI 1)), (0, .ref h0), (1, .ref ct), (2, .int (nI 2))]) hx hb dX8_init_55 hl (k := 0) rfl (by decide) (by decide) rfl (fun ls hl => ?_)
  refine lv_goto (tgt := 32) hx hb dX8_init_58 (by decide) ?_
  refine lv_iload_n hx hb dX8_init_32 rfl (lv_at hl 0 rfl) ?_
  refine lv_aload_n hx hb dX8_init_33 rfl (lv_at hl 1 rfl) ?_
  refine va_get (ci := 7) (v := .ref q1) (C := RX8) (T := TX8) (N := 3) hx hb hts inX8 hown hK hP 0 rfl rfl 0 (by decide) (hts _ tw_182) (fun _ h9 => h9) rfl dX8_init_34 ?_
  refine va_alen (v := nI 2) hx hb hK hP 1 3 rfl rfl rfl dX8_init_37 ?_
  refine lv_icmp_ge (tgt := 61) hx hb dX8_init_38 (by decide) (fun c_1 => absurd c_1 (by decide)) (fun c_1 => ?_)
  refine lv_aload_n hx hb dX8_init_41 rfl (lv_at hl 1 rfl) ?_
  refine va_get (ci := 7) (v := .ref q1) (C := RX8) (T := TX8) (N := 3) hx hb hts inX8 hown hK hP 0 rfl rfl 0 (by decide) (hts _ tw_182) (fun _ h9 => h9) rfl dX8_init_42 ?_
  refine lv_iload_n hx hb dX8_init_45 rfl (lv_at hl 0 rfl) ?_
  refine va_new (ci := 4) (fs := [.null, .null]) (C := RX4) (T := TX4) (N := 2) hx hb hts inX4 tyX4 tyX4_ok hown (hts _ tw_179) (hts _ tw_161) (hts _ tw_61) hK hP hD hS hA rfl (fun j hj => by match j, hj with | 0, _ => rfl | 1, _ => rfl) (Nat.le_of_ble_eq_true rfl) (Nat.le_of_ble_eq_true rfl) dX8_init_46 (fun q4 H hP hD hS => ?_)
  have hP : va_P D vwCl [(h0, .inr (7, [.ref q1, .int (nI 0), .int (nI 0)])), (q1, .inl (cA 23, 2, .inr (.inr (.inr (.inr (va_up (fun _ => none) (nI 0).toNatClampNeg (some q2))))))), (q2, .inr (4, [.ref ct, .ref (f3 0)])), ((f3 0), .inl (cA 20, 64, .inl (fun _ => 0))), (q4, .inr (4, [.null, .null]))] H := hP
  have hD : va_D A [(h0, .inr (7, [.ref q1, .int (nI 0), .int (nI 0)])), (q1, .inl (cA 23, 2, .inr (.inr (.inr (.inr (va_up (fun _ => none) (nI 0).toNatClampNeg (some q2))))))), (q2, .inr (4, [.ref ct, .ref (f3 0)])), ((f3 0), .inl (cA 20, 64, .inl (fun _ => 0))), (q4, .inr (4, [.null, .null]))] := hD
  refine lv_dup hx hb dX8_init_49 rfl ?_
  refine lv_aload_n hx hb dX8_init_50 rfl (lv_at hl 2 rfl) ?_
  refine c_callI (n := 1) (ws := [(h0, .inr (7, [.ref q1, .int (nI 0), .int (nI 0)])), (q1, .inl (cA 23, 2, .inr (.inr (.inr (.inr (va_up (fun _ => none) (nI 0).toNatClampNeg (some q2))))))), (q2, .inr (4, [.ref ct, .ref (f3 0)])), ((f3 0), .inl (cA 20, 64, .inl (fun _ => 0)))]) [.ref ct] (k_X4 l D cA q4 ct) ⟨hx, hb, hml, hown, hts⟩ ⟨tw_164, tw_61, tw_181, tw_163⟩ (by decide +kernel) ⟨(Nat.le_of_ble_eq_true rfl), (Nat.le_of_ble_eq_true rfl)⟩ ⟨rfl, rfl⟩ ⟨(Nat.le_of_ble_eq_true rfl), (Nat.le_of_ble_eq_true rfl)⟩ hK hAO hP hD hS hA rfl hl.1 (Nat.le_of_ble_eq_true rfl) dX8_init_51 rfl (fun f5 H locs hP hD hS => ?_)
  have hP : va_P D vwCl [(h0, .inr (7, [.ref q1, .int (nI 0), .int (nI 0)])), (q1, .inl (cA 23, 2, .inr (.inr (.inr (.inr (va_up (fun _ => none) (nI 0).toNatClampNeg (some q2))))))), (q2, .inr (4, [.ref ct, .ref (f3 0)])), ((f3 0), .inl (cA 20, 64, .inl (fun _ => 0))), (q4, .inr (4, [.ref ct, .ref (f5 0)])), ((f5 0), .inl (cA 20, 64, .inl (fun _ => 0)))] H := hP
  have hD : va_D A [(h0, .inr (7, [.ref q1, .int (nI 0), .int (nI 0)])), (q1, .inl (cA 23, 2, .inr (.inr (.inr (.inr (va_up (fun _ => none) (nI 0).toNatClampNeg (some q2))))))), (q2, .inr (4, [.ref ct, .ref (f3 0)])), ((f3 0), .inl (cA 20, 64, .inl (fun _ => 0))), (q4, .inr (4, [.ref ct, .ref (f5 0)])), ((f5 0), .inl (cA 20, 64, .inl (fun _ => 0)))] := hD
  refine va_astq (r := (RX4, TX4, 2)) hx hb hK hP hD hS 1 3 4 4 rfl rfl rfl rfl (vp_in_nI (by decide) (by decide)) dX8_init_54 (fun H locs hP hD hS => ?_)
  have hP : va_P D vwCl [(h0, .inr (7, [.ref q1, .int (nI 0), .int (nI 0)])), (q1, .inl (cA 23, 2, .inr (.inr (.inr (.inr (va_up (va_up (fun _ => none) (nI 0).toNatClampNeg (some q2)) (nI 1).toNatClampNeg (some q4))))))), (q2, .inr (4, [.ref ct, .ref (f3 0)])), ((f3 0), .inl (cA 20, 64, .inl (fun _ => 0))), (q4, .inr (4, [.ref ct, .ref (f5 0)])), ((f5 0), .inl (cA 20, 64, .inl (fun _ => 0)))] H := hP
  have hD : va_D A [(h0, .inr (7, [.ref q1, .int (nI 0), .int (nI 0)])), (q1, .inl (cA 23, 2, .inr (.inr (.inr (.inr (va_up (va_up (fun _ => none) (nI 0).toNatClampNeg (some q2)) (nI 1).toNatClampNeg (some q4))))))), (q2, .inr (4, [.ref ct, .ref (f3 0)])), ((f3 0), .inl (cA 20, 64, .inl (fun _ => 0))), (q4, .inr (4, [.ref ct, .ref (f5 0)])), ((f5 0), .inl (cA 20, 64, .inl (fun _ => 0)))] := hD
  refine lv_iinc (v := nI 2) (lv' := [(3, .int (nI 2)), (0, .ref h0), (1, .ref ct), (2, .int (nI 2))]) hx hb dX8_init_55 hl (k := 0) rfl (by decide) (by decide) rfl (fun ls hl => ?_)
  refine lv_goto (tgt := 32) hx hb dX8_init_58 (by decide) ?_
  refine lv_iload_n hx hb dX8_init_32 rfl (lv_at hl 0 rfl) ?_
  refine lv_aload_n hx hb dX8_init_33 rfl (lv_at hl 1 rfl) ?_
  refine va_get (ci := 7) (v := .ref q1) (C := RX8) (T := TX8) (N := 3) hx hb hts inX8 hown hK hP 0 rfl rfl 0 (by decide) (hts _ tw_182) (fun _ h9 => h9) rfl dX8_init_34 ?_
  refine va_alen (v := nI 2) hx hb hK hP 1 3 rfl rfl rfl dX8_init_37 ?_
  refine lv_icmp_ge (tgt := 61) hx hb dX8_init_38 (by decide) (fun c_1 => ?_) (fun c_1 => absurd (by decide) c_1)
  have hD := ref_cgD (k := 1) (e := .inl (cA 23, 2, .inr (.inr (.inr (.inr (fun i => some ((fun k => ([q1, q2, (f3 0), q4, (f5 0)] : List Nat).getD k 0) (1 + 2 * i)))))))) hD rfl
  have hP := ref_cg (k := 1) (g := (fun i => some ((fun k => ([q1, q2, (f3 0), q4, (f5 0)] : List Nat).getD k 0) (1 + 2 * i)))) hP rfl (fun i hi => by match i, hi with | 0, _ => rfl | 1, _ => rfl)
  refine W.widen (k := 5) (n := 134) (Nat.le_of_ble_eq_true rfl) (Nat.le_of_ble_eq_true rfl) ?_
  exact W.vret hx hb hr (fun t ht hW => ⟨⟨(fun k => ([q1, q2, (f3 0), q4, (f5 0)] : List Nat).getD k 0), rfl, trivial, by rw [ht]; exact hP, by rw [hAe]; exact hD⟩, hAe ▸ hS.F ht⟩) (fun q hq => hAe ▸ hS.2.2 q hq) dX8_init_61
theorem dX0_init_0 : decode cX0_init 0 = .ok (.aload_n 0, 1) := by decide +kernel
theorem dX0_init_1 : decode cX0_init 1 = .ok (.invokespecial 3, 3) := by decide +kernel
theorem dX0_init_4 : decode cX0_init 4 = .ok (.aload_n 0, 1) := by decide +kernel
theorem dX0_init_5 : decode cX0_init 5 = .ok (.bipush 9, 2) := by decide +kernel
theorem dX0_init_7 : decode cX0_init 7 = .ok (.anewarray 9, 3) := by decide +kernel
theorem dX0_init_10 : decode cX0_init 10 = .ok (.putfield 11, 3) := by decide +kernel
theorem dX0_init_13 : decode cX0_init 13 = .ok (.iconst 0, 1) := by decide +kernel
theorem dX0_init_14 : decode cX0_init 14 = .ok (.istore_n 2, 1) := by decide +kernel
theorem dX0_init_15 : decode cX0_init 15 = .ok (.iload_n 2, 1) := by decide +kernel
theorem dX0_init_16 : decode cX0_init 16 = .ok (.aload_n 0, 1) := by decide +kernel
theorem dX0_init_17 : decode cX0_init 17 = .ok (.getfield 11, 3) := by decide +kernel
theorem dX0_init_20 : decode cX0_init 20 = .ok (.arraylength, 1) := by decide +kernel
theorem dX0_init_21 : decode cX0_init 21 = .ok (.if_icmp .ge 23, 3) := by decide +kernel
theorem dX0_init_24 : decode cX0_init 24 = .ok (.aload_n 0, 1) := by decide +kernel
theorem dX0_init_25 : decode cX0_init 25 = .ok (.getfield 11, 3) := by decide +kernel
theorem dX0_init_28 : decode cX0_init 28 = .ok (.iload_n 2, 1) := by decide +kernel
theorem dX0_init_29 : decode cX0_init 29 = .ok (.new 9, 3) := by decide +kernel
theorem dX0_init_32 : decode cX0_init 32 = .ok (.dup, 1) := by decide +kernel
theorem dX0_init_33 : decode cX0_init 33 = .ok (.aload_n 1, 1) := by decide +kernel
theorem dX0_init_34 : decode cX0_init 34 = .ok (.invokespecial 17, 3) := by decide +kernel
theorem dX0_init_37 : decode cX0_init 37 = .ok (.aastore, 1) := by decide +kernel
theorem dX0_init_38 : decode cX0_init 38 = .ok (.iinc 2 1, 3) := by decide +kernel
theorem dX0_init_41 : decode cX0_init 41 = .ok (.goto (-26), 3) := by decide +kernel
theorem dX0_init_44 : decode cX0_init 44 = .ok (.return_, 1) := by decide +kernel
set_option maxHeartbeats 4000000 in
set_option maxRecDepth 100000 in
theorem k_X0 (l : Launch) (D : va_G) (cA : Nat → ClassId) (h0 ct : Nat) : cMet l D cA yX0_init cX0_init 3 { frames := 2, cells := 19, slots := 603, locals := 33 } [.ref h0, .ref ct] h0 (.inr (0, [.null])) 19 603 (fun f => [(h0, .inr (0, [.ref (f 0)])), ((f 0), .inl (cA 23, 9, .inr (.inr (.inr (.inr (fun i => some (f (1 + 2 * i)))))))), ((f 1), .inr (4, [.ref ct, .ref (f 2)])), ((f 2), .inl (cA 20, 64, .inl (fun _ => 0))), ((f 3), .inr (4, [.ref ct, .ref (f 4)])), ((f 4), .inl (cA 20, 64, .inl (fun _ => 0))), ((f 5), .inr (4, [.ref ct, .ref (f 6)])), ((f 6), .inl (cA 20, 64, .inl (fun _ => 0))), ((f 7), .inr (4, [.ref ct, .ref (f 8)])), ((f 8), .inl (cA 20, 64, .inl (fun _ => 0))), ((f 9), .inr (4, [.ref ct, .ref (f 10)])), ((f 10), .inl (cA 20, 64, .inl (fun _ => 0))), ((f 11), .inr (4, [.ref ct, .ref (f 12)])), ((f 12), .inl (cA 20, 64, .inl (fun _ => 0))), ((f 13), .inr (4, [.ref ct, .ref (f 14)])), ((f 14), .inl (cA 20, 64, .inl (fun _ => 0))), ((f 15), .inr (4, [.ref ct, .ref (f 16)])), ((f 16), .inl (cA 20, 64, .inl (fun _ => 0))), ((f 17), .inr (4, [.ref ct, .ref (f 18)])), ((f 18), .inl (cA 20, 64, .inl (fun _ => 0)))]) := by
  intro sz
  refine Met.ofW (cc := cX0_init) (maxL := 3) (ret := none) (by decide) rfl ?_
  intro p e s m args below meth c s₁ B hml hv
  obtain ⟨rfl, hsz, hP, hK, hD0, hAO⟩ := hv
  have hx := B.exec
  have hb := B.bytes
  have hr := B.returns
  have hts0 := atoms_spec (ws := Cond.code yX0_init cX0_init 3 none :: tbg) B.pre
  have hts : ∀ w ∈ tbg, w.before _ s = true := fun w hw => hts0 w (List.mem_cons_of_mem _ hw)
  have hown : s.vm.findClass RX0 = some m.cls := findClass_of_methodNamed B.named
  have hlocks := B.notSynchronized
  have hin : meth.name = "<init>" := (name_of_methodNamed B.named B.method).1
  subst hsz
  have hD := hD0.self (sz := s.heap.size)
  generalize hAe : va_A [(h0, .inr (0, [.null]))] s.heap.size = A at hD ⊢
  have hA : ∀ q : Nat, s.heap.size ≤ q → A q := fun q h => by rw [← hAe]; exact Or.inr h
  have hS : va_S A s.heap s.heap [] := va_S.rf
  have hP : va_P D vwCl [(h0, .inr (0, [.null]))] s.heap := hP
  have hl := lv_entry ([.ref h0, .ref ct]) (n := 3) (Nat.le_of_ble_eq_true rfl)
  rw [lg_entry_eq]
  generalize (lg_sl ([.ref h0, .ref ct]) ++ List.replicate (3 - (lg_sl ([.ref h0, .ref ct])).length) Slot.unset).toArray = ls at hl ⊢
  have hl : lv_has ls 3 [(0, .ref h0), (1, .ref ct)] := hl
  refine lv_aload_n hx hb dX0_init_0 rfl (lv_at hl 0 rfl) ?_
  refine W.objInit hx hb hown (hts _ tw_233) (hts _ tw_81) (hts _ tw_82) rfl (by rw [hml]; exact hl.1) rfl dX0_init_1 (Nat.le_of_ble_eq_true rfl) (Nat.le_of_ble_eq_true rfl) ?_
  refine W.eq (g2 := F0 m 4 ls []) rfl ?_
  refine lv_aload_n hx hb dX0_init_4 rfl (lv_at hl 0 rfl) ?_
  refine lv_bipush (v := nI 9) hx hb dX0_init_5 (by decide) ?_
  refine va_newq (C := "DonkeyVerdicts$Herd") hx hb hown (hts _ tw_234) hAO hK hP hD hS hA (N' := 9) (by decide) (nI_clamp (by decide)) (by decide) (Nat.le_of_ble_eq_true rfl) (Nat.le_of_ble_eq_true rfl) dX0_init_7 (fun q1 c1 H hK1 hP hD hS => ?_)
  obtain rfl : c1 = cA 23 := ty_eq hK1 3 rfl
  have hP : va_P D vwCl [(h0, .inr (0, [.null])), (q1, .inl (cA 23, 9, .inr (.inr (.inr (.inr (fun _ => none))))))] H := hP
  have hD : va_D A [(h0, .inr (0, [.null])), (q1, .inl (cA 23, 9, .inr (.inr (.inr (.inr (fun _ => none))))))] := hD
  refine va_putF (ci := 0) (v := .ref q1) (ty := .array (.object "DonkeyVerdicts$Herd")) (C := RX0) (T := TX0) (N := 1) hx hb hts inX0 tyX0 tyX0_ok nmX0 hown hK hP hD hS 0 rfl rfl 0 (by decide) (hts _ tw_236) (fun _ h9 => h9) rfl hin rfl (by decide +kernel) rfl rfl (Nat.le_of_ble_eq_true rfl) dX0_init_10 (fun H locs hP hD hS => ?_)
  have hP : va_P D vwCl [(h0, .inr (0, [.ref q1])), (q1, .inl (cA 23, 9, .inr (.inr (.inr (.inr (fun _ => none))))))] H := hP
  have hD : va_D A [(h0, .inr (0, [.ref q1])), (q1, .inl (cA 23, 9, .inr (.inr (.inr (.inr (fun _ => none))))))] := hD
  refine lv_iconst (v := nI 0) hx hb dX0_init_13 (by decide) ?_
  refine lv_istore_n (lv' := [(2, .int (nI 0)), (0, .ref h0), (1, .ref ct)]) hx hb dX0_init_14 rfl hl (by decide) rfl (fun ls hl => ?_)
  refine lv_iload_n hx hb dX0_init_15 rfl (lv_at hl 0 rfl) ?_
  refine lv_aload_n hx hb dX0_init_16 rfl (lv_at hl 1 rfl) ?_
  refine va_get (ci := 0) (v := .ref q1) (C := RX0) (T := TX0) (N := 1) hx hb hts inX0 hown hK hP 0 rfl rfl 0 (by decide) (hts _ tw_236) (fun _ h9 => h9) rfl dX0_init_17 ?_
  refine va_alen (v := nI 9) hx hb hK hP 1 3 rfl rfl rfl dX0_init_20 ?_
  refine lv_icmp_ge (tgt := 44) hx hb dX0_init_21 (by decide) (fun c_1 => absurd c_1 (by decide)) (fun c_1 => ?_)
  refine lv_aload_n hx hb dX0_init_24 rfl (lv_at hl 1 rfl) ?_
  refine va_get (ci := 0) (v := .ref q1) (C := RX0) (T := TX0) (N := 1) hx hb hts inX0 hown hK hP 0 rfl rfl 0 (by decide) (hts _ tw_236) (fun _ h9 => h9) rfl dX0_init_25 ?_
  refine lv_iload_n hx hb dX0_init_28 rfl (lv_at hl 0 rfl) ?_
  refine va_new (ci := 4) (fs := [.null, .null]) (C := RX4) (T := TX4) (N := 2) hx hb hts inX4 tyX4 tyX4_ok hown (hts _ tw_234) (hts _ tw_161) (hts _ tw_61) hK hP hD hS hA rfl (fun j hj => by match j, hj with | 0, _ => rfl | 1, _ => rfl) (Nat.le_of_ble_eq_true rfl) (Nat.le_of_ble_eq_true rfl) dX0_init_29 (fun q2 H hP hD hS => ?_)
  have hP : va_P D vwCl [(h0, .inr (0, [.ref q1])), (q1, .inl (cA 23, 9, .inr (.inr (.inr (.inr (fun _ => none)))))), (q2, .inr (4, [.null, .null]))] H := hP
  have hD : va_D A [(h0, .inr (0, [.ref q1])), (q1, .inl (cA 23, 9, .inr (.inr (.inr (.inr (fun _ => none)))))), (q2, .inr (4, [.null, .null]))] := hD
  refine lv_dup hx hb dX0_init_32 rfl ?_
  refine lv_aload_n hx hb dX0_init_33 rfl (lv_at hl 2 rfl) ?_
  refine c_callI (n := 1) (ws := [(h0, .inr (0, [.ref q1])), (q1, .inl (cA 23, 9, .inr (.inr (.inr (.inr (fun _ => none))))))]) [.ref ct] (k_X4 l D cA q2 ct) ⟨hx, hb, hml, hown, hts⟩ ⟨tw_164, tw_61, tw_235, tw_163⟩ (by decide +kernel) ⟨(Nat.le_of_ble_eq_true rfl), (Nat.le_of_ble_eq_true rfl)⟩ ⟨rfl, rfl⟩ ⟨(Nat.le_of_ble_eq_true rfl), (Nat.le_of_ble_eq_true rfl)⟩ hK hAO hP hD hS hA rfl hl.1 (Nat.le_of_ble_eq_true rfl) dX0_init_34 rfl (fun f3 H locs hP hD hS => ?_)
  have hP : va_P D vwCl [(h0, .inr (0, [.ref q1])), (q1, .inl (cA 23, 9, .inr (.inr (.inr (.inr (fun _ => none)))))), (q2, .inr (4, [.ref ct, .ref (f3 0)])), ((f3 0), .inl (cA 20, 64, .inl (fun _ => 0)))] H := hP
  have hD : va_D A [(h0, .inr (0, [.ref q1])), (q1, .inl (cA 23, 9, .inr (.inr (.inr (.inr (fun _ => none)))))), (q2, .inr (4, [.ref ct, .ref (f3 0)])), ((f3 0), .inl (cA 20, 64, .inl (fun _ => 0)))] := hD
  refine va_astq (r := (RX4, TX4, 2)) hx hb hK hP hD hS 1 3 2 4 rfl rfl rfl rfl (vp_in_nI (by decide) (by decide)) dX0_init_37 (fun H locs hP hD hS => ?_)
  have hP : va_P D vwCl [(h0, .inr (0, [.ref q1])), (q1, .inl (cA 23, 9, .inr (.inr (.inr (.inr (va_up (fun _ => none) (nI 0).toNatClampNeg (some q2))))))), (q2, .inr (4, [.ref ct, .ref (f3 0)])), ((f3 0), .inl (cA 20, 64, .inl (fun _ => 0)))] H := hP
  have hD : va_D A [(h0, .inr (0, [.ref q1])), (q1, .inl (cA 23, 9, .inr (.inr (.inr (.inr (va_up (fun _ => none) (nI 0).toNatClampNeg (some q2))))))), (q2, .inr (4, [.ref ct, .ref (f3 0)])), ((f3 0), .inl (cA 20, 64, .inl (fun _ => 0)))] := hD
  refine lv_iinc (v := nI 1) (lv' := [(2, .int (nI 1)), (0, .ref h0), (1, .ref ct)]) hx hb dX0_init_38 hl (k := 0) rfl (by decide) (by decide) rfl (fun ls hl => ?_)
  refine lv_goto (tgt := 15) hx hb dX0_init_41 (by decide) ?_
  refine lv_iload_n hx hb dX0_init_15 rfl (lv_at hl 0 rfl) ?_
  refine lv_aload_n hx hb dX0_init_16 rfl (lv_at hl 1 rfl) ?_
  refine va_get (ci := 0) (v := .ref q1) (C := RX0) (T := TX0) (N := 1) hx hb hts inX0 hown hK hP 0 rfl rfl 0 (by decide) (hts _ tw_236) (fun _ h9 => h9) rfl dX0_init_17 ?_
  refine va_alen (v := nI 9) hx hb hK hP 1 3 rfl rfl rfl dX0_init_20 ?_
  refine lv_icmp_ge (tgt := 44) hx hb dX0_init_21 (by decide) (fun c_1 => absurd c_1 (by decide)) (fun c_1 => ?_)
  refine lv_aload_n hx hb dX0_init_24 rfl (lv_at hl 1 rfl) ?_
  refine va_get (ci := 0) (v := .ref q1) (C := RX0) (T := TX0) (N := 1) hx hb hts inX0 hown hK hP 0 rfl rfl 0 (by decide) (hts _ tw_236) (fun _ h9 => h9) rfl dX0_init_25 ?_
  refine lv_iload_n hx hb dX0_init_28 rfl (lv_at hl 0 rfl) ?_
  refine va_new (ci := 4) (fs := [.null, .null]) (C := RX4) (T := TX4) (N := 2) hx hb hts inX4 tyX4 tyX4_ok hown (hts _ tw_234) (hts _ tw_161) (hts _ tw_61) hK hP hD hS hA rfl (fun j hj => by match j, hj with | 0, _ => rfl | 1, _ => rfl) (Nat.le_of_ble_eq_true rfl) (Nat.le_of_ble_eq_true rfl) dX0_init_29 (fun q4 H hP hD hS => ?_)
  have hP : va_P D vwCl [(h0, .inr (0, [.ref q1])), (q1, .inl (cA 23, 9, .inr (.inr (.inr (.inr (va_up (fun _ => none) (nI 0).toNatClampNeg (some q2))))))), (q2, .inr (4, [.ref ct, .ref (f3 0)])), ((f3 0), .inl (cA 20, 64, .inl (fun _ => 0))), (q4, .inr (4, [.null, .null]))] H := hP
  have hD : va_D A [(h0, .inr (0, [.ref q1])), (q1, .inl (cA 23, 9, .inr (.inr (.inr (.inr (va_up (fun _ => none) (nI 0).toNatClampNeg (some q2))))))), (q2, .inr (4, [.ref ct, .ref (f3 0)])), ((f3 0), .inl (cA 20, 64, .inl (fun _ => 0))), (q4, .inr (4, [.null, .null]))] := hD
  refine lv_dup hx hb dX0_init_32 rfl ?_
  refine lv_aload_n hx hb dX0_init_33 rfl (lv_at hl 2 rfl) ?_
  refine c_callI (n := 1) (ws := [(h0, .inr (0, [.ref q1])), (q1, .inl (cA 23, 9, .inr (.inr (.inr (.inr (va_up (fun _ => none) (nI 0).toNatClampNeg (some q2))))))), (q2, .inr (4, [.ref ct, .ref (f3 0)])), ((f3 0), .inl (cA 20, 64, .inl (fun _ => 0)))]) [.ref ct] (k_X4 l D cA q4 ct) ⟨hx, hb, hml, hown, hts⟩ ⟨tw_164, tw_61, tw_235, tw_163⟩ (by decide +kernel) ⟨(Nat.le_of_ble_eq_true rfl), (Nat.le_of_ble_eq_true rfl)⟩ ⟨rfl, rfl⟩ ⟨(Nat.le_of_ble_eq_true rfl), (Nat.le_of_ble_eq_true rfl)⟩ hK hAO hP hD hS hA rfl hl.1 (Nat.le_of_ble_eq_true rfl) dX0_init_34 rfl (fun f5 H locs hP hD hS => ?_)
  have hP : va_P D vwCl [(h0, .inr (0, [.ref q1])), (q1, .inl (cA 23, 9, .inr (.inr (.inr (.inr (va_up (fun _ => none) (nI 0).toNatClampNeg (some q2))))))), (q2, .inr (4, [.ref ct, .ref (f3 0)])), ((f3 0), .inl (cA 20, 64, .inl (fun _ => 0))), (q4, .inr (4, [.ref ct, .ref (f5 0)])), ((f5 0), .inl (cA 20, 64, .inl (fun _ => 0)))] H := hP
  have hD : va_D A [(h0, .inr (0, [.ref q1])), (q1, .inl (cA 23, 9, .inr (.inr (.inr (.inr (va_up (fun _ => none) (nI 0).toNatClampNeg (some q2))))))), (q2, .inr (4, [.ref ct, .ref (f3 0)])), ((f3 0), .inl (cA 20, 64, .inl (fun _ => 0))), (q4, .inr (4, [.ref ct, .ref (f5 0)])), ((f5 0), .inl (cA 20, 64, .inl (fun _ => 0)))] := hD
  refine va_astq (r := (RX4, TX4, 2)) hx hb hK hP hD hS 1 3 4 4 rfl rfl rfl rfl (vp_in_nI (by decide) (by decide)) dX0_init_37 (fun H locs hP hD hS => ?_)
  have hP : va_P D vwCl [(h0, .inr (0, [.ref q1])), (q1, .inl (cA 23, 9, .inr (.inr (.inr (.inr (va_up (va_up (fun _ => none) (nI 0).toNatClampNeg (some q2)) (nI 1).toNatClampNeg (some q4))))))), (q2, .inr (4, [.ref ct, .ref (f3 0)])), ((f3 0), .inl (cA 20, 64, .inl (fun _ => 0))), (q4, .inr (4, [.ref ct, .ref (f5 0)])), ((f5 0), .inl (cA 20, 64, .inl (fun _ => 0)))] H := hP
  have hD : va_D A [(h0, .inr (0, [.ref q1])), (q1, .inl (cA 23, 9, .inr (.inr (.inr (.inr (va_up (va_up (fun _ => none) (nI 0).toNatClampNeg (some q2)) (nI 1).toNatClampNeg (some q4))))))), (q2, .inr (4, [.ref ct, .ref (f3 0)])), ((f3 0), .inl (cA 20, 64, .inl (fun _ => 0))), (q4, .inr (4, [.ref ct, .ref (f5 0)])), ((f5 0), .inl (cA 20, 64, .inl (fun _ => 0)))] := hD
  refine lv_iinc (v := nI 2) (lv' := [(2, .int (nI 2)), (0, .ref h0), (1, .ref ct)]) hx hb dX0_init_38 hl (k := 0) rfl (by decide) (by decide) rfl (fun ls hl => ?_)
  refine lv_goto (tgt := 15) hx hb dX0_init_41 (by decide) ?_
  refine lv_iload_n hx hb dX0_init_15 rfl (lv_at hl 0 rfl) ?_
  refine lv_aload_n hx hb dX0_init_16 rfl (lv_at hl 1 rfl) ?_
  refine va_get (ci := 0) (v := .ref q1) (C := RX0) (T := TX0) (N := 1) hx hb hts inX0 hown hK hP 0 rfl rfl 0 (by decide) (hts _ tw_236) (fun _ h9 => h9) rfl dX0_init_17 ?_
  refine va_alen (v := nI 9) hx hb hK hP 1 3 rfl rfl rfl dX0_init_20 ?_
  refine lv_icmp_ge (tgt := 44) hx hb dX0_init_21 (by decide) (fun c_1 => absurd c_1 (by decide)) (fun c_1 => ?_)
  refine lv_aload_n hx hb dX0_init_24 rfl (lv_at hl 1 rfl) ?_
  refine va_get (ci := 0) (v := .ref q1) (C := RX0) (T := TX0) (N := 1) hx hb hts inX0 hown hK hP 0 rfl rfl 0 (by decide) (hts _ tw_236) (fun _ h9 => h9) rfl dX0_init_25 ?_
  refine lv_iload_n hx hb dX0_init_28 rfl (lv_at hl 0 rfl) ?_
  refine va_new (ci := 4) (fs := [.null, .null]) (C := RX4) (T := TX4) (N := 2) hx hb hts inX4 tyX4 tyX4_ok hown (hts _ tw_234) (hts _ tw_161) (hts _ tw_61) hK hP hD hS hA rfl (fun j hj => by match j, hj with | 0, _ => rfl | 1, _ => rfl) (Nat.le_of_ble_eq_true rfl) (Nat.le_of_ble_eq_true rfl) dX0_init_29 (fun q6 H hP hD hS => ?_)
  have hP : va_P D vwCl [(h0, .inr (0, [.ref q1])), (q1, .inl (cA 23, 9, .inr (.inr (.inr (.inr (va_up (va_up (fun _ => none) (nI 0).toNatClampNeg (some q2)) (nI 1).toNatClampNeg (some q4))))))), (q2, .inr (4, [.ref ct, .ref (f3 0)])), ((f3 0), .inl (cA 20, 64, .inl (fun _ => 0))), (q4, .inr (4, [.ref ct, .ref (f5 0)])), ((f5 0), .inl (cA 20, 64, .inl (fun _ => 0))), (q6, .inr (4, [.null, .null]))] H := hP
  have hD : va_D A [(h0, .inr (0, [.ref q1])), (q1, .inl (cA 23, 9, .inr (.inr (.inr (.inr (va_up (va_up (fun _ => none) (nI 0).toNatClampNeg (some q2)) (nI 1).toNatClampNeg (some q4))))))), (q2, .inr (4, [.ref ct, .ref (f3 0)])), ((f3 0), .inl (cA 20, 64, .inl (fun _ => 0))), (q4, .inr (4, [.ref ct, .ref (f5 0)])), ((f5 0), .inl (cA 20, 64, .inl (fun _ => 0))), (q6, .inr (4, [.null, .null]))] := hD
  refine lv_dup hx hb dX0_init_32 rfl ?_
  refine lv_aload_n hx hb dX0_init_33 rfl (lv_at hl 2 rfl) ?_
  refine c_callI (n := 1) (ws := [(h0, .inr (0, [.ref q1])), (q1, .inl (cA 23, 9, .inr (.inr (.inr (.inr (va_up (va_up (fun _ => none) (nI 0).toNatClampNeg (some q2)) (nI 1).toNatClampNeg (some q4))))))), (q2, .inr (4, [.ref ct, .ref (f3 0)])), ((f3 0), .inl (cA 20, 64, .inl (fun _ => 0))), (q4, .inr (4, [.ref ct, .ref (f5 0)])), ((f5 0), .inl (cA 20, 64, .inl (fun _ => 0)))]) [.ref ct] (k_X4 l D cA q6 ct) ⟨hx, hb, hml, hown, hts⟩ ⟨tw_164, tw_61, tw_235, tw_163⟩ (by decide +kernel) ⟨(Nat.le_of_ble_eq_true rfl), (Nat.le_of_ble_eq_true rfl)⟩ ⟨rfl, rfl⟩ ⟨(Nat.le_of_ble_eq_true rfl), (Nat.le_of_ble_eq_true rfl)⟩ hK hAO hP hD hS hA rfl hl.1 (Nat.le_of_ble_eq_true rfl) dX0_init_34 rfl (fun f7 H locs hP hD hS => ?_)
  have hP : va_P D vwCl [(h0, .inr (0, [.ref q1])), (q1, .inl (cA 23, 9, .inr (.inr (.inr (.inr (va_up (va_up (fun _ => none) (nI 0).toNatClampNeg (some q2)) (nI 1).toNatClampNeg (some q4))))))), (q2, .inr (4, [.ref ct, .ref (f3 0)])), ((f3 0), .inl (cA 20, 64, .inl (fun _ => 0))), (q4, .inr (4, [.ref ct, .ref (f5 0)])), ((f5 0), .inl (cA 20, 64, .inl (fun _ => 0))), (q6, .inr (4, [.ref ct, .ref (f7 0)])), ((f7 0), .inl (cA 20, 64, .inl (fun _ => 0)))] H := hP
  have hD : va_D A [(h0, .inr (0, [.ref q1])), (q1, .inl (cA 23, 9, .inr (.inr (.inr (.inr (va_up (va_up (fun _ => none) (nI 0).toNatClampNeg (some q2)) (nI 1).toNatClampNeg (some q4))))))), (q2, .inr (4, [.ref ct, .ref (f3 0)])), ((f3 0), .inl (cA 20, 64, .inl (fun _ => 0))), (q4, .inr (4, [.ref ct, .ref (f5 0)])), ((f5 0), .inl (cA 20, 64, .inl (fun _ => 0))), (q6, .inr (4, [.ref ct, .ref (f7 0)])), ((f7 0), .inl (cA 20, 64, .inl (fun _ => 0)))] := hD
  refine va_astq (r := (RX4, TX4, 2)) hx hb hK hP hD hS 1 3 6 4 rfl rfl rfl rfl (vp_in_nI (by decide) (by decide)) dX0_init_37 (fun H locs hP hD hS => ?_)
  have hP : va_P D vwCl [(h0, .inr (0, [.ref q1])), (q1, .inl (cA 23, 9, .inr (.inr (.inr (.inr (va_up (va_up (va_up (fun _ => none) (nI 0).toNatClampNeg (some q2)) (nI 1).toNatClampNeg (some q4)) (nI 2).toNatClampNeg (some q6))))))), (q2, .inr (4, [.ref ct, .ref (f3 0)])), ((f3 0), .inl (cA 20, 64, .inl (fun _ => 0))), (q4, .inr (4, [.ref ct, .ref (f5 0)])), ((f5 0), .inl (cA 20, 64, .inl (fun _ => 0))), (q6, .inr (4, [.ref ct, .ref (f7 0)])), ((f7 0), .inl (cA 20, 64, .inl (fun _ => 0)))] H := hP
  have hD : va_D A [(h0, .inr (0, [.ref q1])), (q1, .inl (cA 23, 9, .inr (.inr (.inr (.inr (va_up (va_up (va_up (fun _ => none) (nI 0).toNatClampNeg (some q2)) (nI 1).toNatClampNeg (some q4)) (nI 2).toNatClampNeg (some q6))))))), (q2, .inr (4, [.ref ct, .ref (f3 0)])), ((f3 0), .inl (cA 20, 64, .inl (fun _ => 0))), (q4, .inr (4, [.ref ct, .ref (f5 0)])), ((f5 0), .inl (cA 20, 64, .inl (fun _ => 0))), (q6, .inr (4, [.ref ct, .ref (f7 0)])), ((f7 0), .inl (cA 20, 64, .inl (fun _ => 0)))] := hD
  refine lv_iinc (v := nI 3) (lv' := [(2, .int (nI 3)), (0, .ref h0), (1, .ref ct)]) hx hb dX0_init_38 hl (k := 0) rfl (by decide) (by decide) rfl (fun ls hl => ?_)
  refine lv_goto (tgt := 15) hx hb dX0_init_41 (by decide) ?_
  refine lv_iload_n hx hb dX0_init_15 rfl (lv_at hl 0 rfl) ?_
  refine lv_aload_n hx hb dX0_init_16 rfl (lv_at hl 1 rfl) ?_
  refine va_get (ci := 0) (v := .ref q1) (C := RX0) (T := TX0) (N := 1) hx hb hts inX0 hown hK hP 0 rfl rfl 0 (by decide) (hts _ tw_236) (fun _ h9 => h9) rfl dX0_init_17 ?_
  refine va_alen (v := nI 9) hx hb hK hP 1 3 rfl rfl rfl dX0_init_20 ?_
  refine lv_icmp_ge (tgt := 44) hx hb dX0_init_21 (by decide) (fun c_1 => absurd c_1 (by decide)) (fun c_1 => ?_)
  refine lv_aload_n hx hb dX0_init_24 rfl (lv_at hl 1 rfl) ?_
  refine va_get (ci := 0) (v := .ref q1) (C := RX0) (T := TX0) (N := 1) hx hb hts inX0 hown hK hP 0 rfl rfl 0 (by decide) (hts _ tw_236) (fun _ h9 => h9) rfl dX0_init_25 ?_
  refine lv_iload_n hx hb dX0_init_28 rfl (lv_at hl 0 rfl) ?_
  refine va_new (ci := 4) (fs := [.null, .null]) (C := RX4) (T := TX4) (N := 2) hx hb hts inX4 tyX4 tyX4_ok hown (hts _ tw_234) (hts _ tw_161) (hts _ tw_61) hK hP hD hS hA rfl (fun j hj => by match j, hj with | 0, _ => rfl | 1, _ => rfl) (Nat.le_of_ble_eq_true rfl) (Nat.le_of_ble_eq_true rfl) dX0_init_29 (fun q8 H hP hD hS => ?_)
  have hP : va_P D vwCl [(h0, .inr (0, [.ref q1])), (q1, .inl (cA 23, 9, .inr (.inr (.inr (.inr (va_up (va_up (va_up (fun _ => none) (nI 0).toNatClampNeg (some q2)) (nI 1).toNatClampNeg (some q4)) (nI 2).toNatClampNeg (some q6))))))), (q2, .inr (4, [.ref ct, .ref (f3 0)])), ((f3 0), .inl (cA 20, 64, .inl (fun _ => 0))), (q4, .inr (4, [.ref ct, .ref (f5 0)])), ((f5 0), .inl (cA 20, 64, .inl (fun _ => 0))), (q6, .inr (4, [.ref ct, .ref (f7 0)])), ((f7 0), .inl (cA 20, 64, .inl (fun _ => 0))), (q8, .inr (4, [.null, .null]))] H := hP
  have hD : va_D A [(h0, .inr (0, [.ref q1])), (q1, .inl (cA 23, 9, .inr (.inr (.inr (.inr (va_up (va_up (va_up (fun _ => none) (nI 0).toNatClampNeg (some q2)) (nI 1).toNatClampNeg (some q4)) (nI 2).toNatClampNeg (some q6))))))), (q2, .inr (4, [.ref ct, .ref (f3 0)])), ((f3 0), .inl (cA 20, 64, .inl (fun _ => 0))), (q4, .inr (4, [.ref ct, .ref (f5 0)])), ((f5 0), .inl (cA 20, 64, .inl (fun _ => 0))), (q6, .inr (4, [.ref ct, .ref (f7 0)])), ((f7 0), .inl (cA 20, 64, .inl (fun _ => 0))), (q8, .inr (4, [.null, .null]))] := hD
  refine lv_dup hx hb dX0_init_32 rfl ?_
  refine lv_aload_n hx hb dX0_init_33 rfl (lv_at hl 2 rfl) ?_
  refine c_callI (n := 1) (ws := [(h0, .inr (0, [.ref q1])), (q1, .inl (cA 23, 9, .inr (.inr (.inr (.inr (va_up (va_up (va_up (fun _ => none) (nI 0).toNatClampNeg (some q2)) (nI 1).toNatClampNeg (some q4)) (nI 2).toNatClampNeg (some q6))))))), (q2, .inr (4, [.ref ct, .ref (f3 0)])), ((f3 0), .inl (cA 20, 64, .inl (fun _ => 0))), (q4, .inr (4, [.ref ct, .ref (f5 0)])), ((f5 0), .inl (cA 20, 64, .inl (fun _ => 0))), (q6, .inr (4, [.ref ct, .ref (f7 0)])), ((f7 0), .inl (cA 20, 64, .inl (fun _ => 0)))]) [.ref ct] (k_X4 l D cA q8 ct) ⟨hx, hb, hml, hown, hts⟩ ⟨tw_164, tw_61, tw_235, tw_163⟩ (by decide +kernel) ⟨(Nat.le_of_ble_eq_true rfl), (Nat.le_of_ble_eq_true rfl)⟩ ⟨rfl, rfl⟩ ⟨(Nat.le_of_ble_eq_true rfl), (Nat.le_of_ble_eq_true rfl)⟩ hK hAO hP hD hS hA rfl hl.1 (Nat.le_of_ble_eq_true rfl) dX0_init_34 rfl (fun f9 H locs hP hD hS => ?_)
  have hP : va_P D vwCl [(h0, .inr (0, [.ref q1])), (q1, .inl (cA 23, 9, .inr (.inr (.inr (.inr (va_up (va_up (va_up (fun _ => none) (nI 0).toNatClampNeg (some q2)) (nI 1).toNatClampNeg (some q4)) (nI 2).toNatClampNeg (some q6))))))), (q2, .inr (4, [.ref ct, .ref (f3 0)])), ((f3 0), .inl (cA 20, 64, .inl (fun _ => 0))), (q4, .inr (4, [.ref ct, .ref (f5 0)])), ((f5 0), .inl (cA 20, 64, .inl (fun _ => 0))), (q6, .inr (4, [.ref ct, .ref (f7 0)])), ((f7 0), .inl (cA 20, 64, .inl (fun _ => 0))), (q8, .inr (4, [.ref ct, .ref (f9 0)])), ((f9 0), .inl (cA 20, 64, .inl (fun _ => 0)))] H := hP
  have hD : va_D A [(h0, .inr (0, [.ref q1])), (q1, .inl (cA 23, 9, .inr (.inr (.inr (.inr (va_up (va_up (va_up (fun _ => none) (nI 0).toNatClampNeg (some q2)) (nI 1).toNatClampNeg (some q4)) (nI 2).toNatClampNeg (some q6))))))), (q2, .inr (4, [.ref ct, .ref (f3 0)])), ((f3 0), .inl (cA 20, 64, .inl (fun _ => 0))), (q4, .inr (4, [.ref ct, .ref (f5 0)])), ((f5 0), .inl (cA 20, 64, .inl (fun _ => 0))), (q6, .inr (4, [.ref ct, .ref (f7 0)])), ((f7 0), .inl (cA 20, 64, .inl (fun _ => 0))), (q8, .inr (4, [.ref ct, .ref (f9 0)])), ((f9 0), .inl (cA 20, 64, .inl (fun _ => 0)))] := hD
  refine va_astq (r := (RX4, TX4, 2)) hx hb hK hP hD hS 1 3 8 4 rfl rfl rfl rfl (vp_in_nI (by decide) (by decide)) dX0_init_37 (fun H locs hP hD hS => ?_)
  have hP : va_P D vwCl [(h0, .inr (0, [.ref q1])), (q1, .inl (cA 23, 9, .inr (.inr (.inr (.inr (va_up (va_up (va_up (va_up (fun _ => none) (nI 0).toNatClampNeg (some q2)) (nI 1).toNatClampNeg (some q4)) (nI 2).toNatClampNeg (some q6)) (nI 3).toNatClampNeg (some q8))))))), (q2, .inr (4, [.ref ct, .ref (f3 0)])), ((f3 0), .inl (cA 20, 64, .inl (fun _ => 0))), (q4, .inr (4, [.ref ct, .ref (f5 0)])), ((f5 0), .inl (cA 20, 64, .inl (fun _ => 0))), (q6, .inr (4, [.ref ct, .ref (f7 0)])), ((f7 0), .inl (cA 20, 64, .inl (fun _ => 0))), (q8, .inr (4, [.ref ct, .ref (f9 0)])), ((f9 0), .inl (cA 20, 64, .inl (fun _ => 0)))] H := hP
  have hD : va_D A [(h0, .inr (0, [.ref q1])), (q1, .inl (cA 23, 9, .inr (.inr (.inr (.inr (va_up (va_up (va_up (va_up (fun _ => none) (nI 0).toNatClampNeg (some q2)) (nI 1).toNatClampNeg (some q4)) (nI 2).toNatClampNeg (some q6)) (nI 3).toNatClampNeg (some q8))))))), (q2, .inr (4, [.ref ct, .ref (f3 0)])), ((f3 0), .inl (cA 20, 64, .inl (fun _ => 0))), (q4, .inr (4, [.ref ct, .ref (f5 0)])), ((f5 0), .inl (cA 20, 64, .inl (fun _ => 0))), (q6, .inr (4, [.ref ct, .ref (f7 0)])), ((f7 0), .inl (cA 20, 64, .inl (fun _ => 0))), (q8, .inr (4, [.ref ct, .ref (f9 0)])), ((f9 0), .inl (cA 20, 64, .inl (fun _ => 0)))] := hD
  refine lv_iinc (v := nI 4) (lv' := [(2, .int (nI 4)), (0, .ref h0), (1, .ref ct)]) hx hb dX0_init_38 hl (k := 0) rfl (by decide) (by decide) rfl (fun ls hl => ?_)
  refine lv_goto (tgt := 15) hx hb dX0_init_41 (by decide) ?_
  refine lv_iload_n hx hb dX0_init_15 rfl (lv_at hl 0 rfl) ?_
  refine lv_aload_n hx hb dX0_init_16 rfl (lv_at hl 1 rfl) ?_
  refine va_get (ci := 0) (v := .ref q1) (C := RX0) (T := TX0) (N := 1) hx hb hts inX0 hown hK hP 0 rfl rfl 0 (by decide) (hts _ tw_236) (fun _ h9 => h9) rfl dX0_init_17 ?_
  refine va_alen (v := nI 9) hx hb hK hP 1 3 rfl rfl rfl dX0_init_20 ?_
  refine lv_icmp_ge (tgt := 44) hx hb dX0_init_21 (by decide) (fun c_1 => absurd c_1 (by decide)) (fun c_1 => ?_)
  refine lv_aload_n hx hb dX0_init_24 rfl (lv_at hl 1 rfl) ?_
  refine va_get (ci := 0) (v := .ref q1) (C := RX0) (T := TX0) (N := 1) hx hb hts inX0 hown hK hP 0 rfl rfl 0 (by decide) (hts _ tw_236) (fun _ h9 => h9) rfl dX0_init_25 ?_
  refine lv_iload_n hx hb dX0_init_28 rfl (lv_at hl 0 rfl) ?_
  refine va_new (ci := 4) (fs := [.null, .null]) (C := RX4) (T := TX4) (N := 2) hx hb hts inX4 tyX4 tyX4_ok hown (hts _ tw_234) (hts _ tw_161) (hts _ tw_61) hK hP hD hS hA rfl (fun j hj => by match j, hj with | 0, _ => rfl | 1, _ => rfl) (Nat.le_of_ble_eq_true rfl) (Nat.le_of_ble_eq_true rfl) dX0_init_29 (fun q10 H hP hD hS => ?_)
  have hP : va_P D vwCl [(h0, .inr (0, [.ref q1])), (q1, .inl (cA 23, 9, .inr (.inr (.inr (.inr (va_up (va_up (va_up (va_up (fun _ => none) (nI 0).toNatClampNeg (some q2)) (nI 1).toNatClampNeg (some q4)) (nI 2).toNatClampNeg (some q6)) (nI 3).toNatClampNeg (some q8))))))), (q2, .inr (4, [.ref ct, .ref (f3 0)])), ((f3 0), .inl (cA 20, 64, .inl (fun _ => 0))), (q4, .inr (4, [.ref ct, .ref (f5 0)])), ((f5 0), .inl (cA 20, 64, .inl (fun _ => 0))), (q6, .inr (4, [.ref ct, .ref (f7 0)])), ((f7 0), .inl (cA 20, 64, .inl (fun _ => 0))), (q8, .inr (4, [.ref ct, .ref (f9 0)])), ((f9 0), .inl (cA 20, 64, .inl (fun _ => 0))), (q10, .inr (4, [.null, .null]))] H := hP
  have hD : va_D A [(h0, .inr (0, [.ref q1])), (q1, .inl (cA 23, 9, .inr (.inr (.inr (.inr (va_up (va_up (va_up (va_up (fun _ => none) (nI 0).toNatClampNeg (some q2)) (nI 1).toNatClampNeg (some q4)) (nI 2).toNatClampNeg (some q6)) (nI 3).toNatClampNeg (some q8))))))), (q2, .inr (4, [.ref ct, .ref (f3 0)])), ((f3 0), .inl (cA 20, 64, .inl (fun _ => 0))), (q4, .inr (4, [.ref ct, .ref (f5 0)])), ((f5 0), .inl (cA 20, 64, .inl (fun _ => 0))), (q6, .inr (4, [.ref ct, .ref (f7 0)])), ((f7 0), .inl (cA 20, 64, .inl (fun _ => 0))), (q8, .inr (4, [.ref ct, .ref (f9 0)])), ((f9 0), .inl (cA 20, 64, .inl (fun _ => 0))), (q10, .inr (4, [.null, .null]))] := hD
  refine lv_dup hx hb dX0_init_32 rfl ?_
  refine lv_aload_n hx hb dX0_init_33 rfl (lv_at hl 2 rfl) ?_
  refine c_callI (n := 1) (ws := [(h0, .inr (0, [.ref q1])), (q1, .inl (cA 23, 9, .inr (.inr (.inr (.inr (va_up (va_up (va_up (va_up (fun _ => none) (nI 0).toNatClampNeg (some q2)) (nI 1).toNatClampNeg (some q4)) (nI 2).toNatClampNeg (some q6)) (nI 3).toNatClampNeg (some q8))))))), (q2, .inr (4, [.ref ct, .ref (f3 0)])), ((f3 0), .inl (cA 20, 64, .inl (fun _ => 0))), (q4, .inr (4, [.ref ct, .ref (f5 0)])), ((f5 0), .inl (cA 20, 64, .inl (fun _ => 0))), (q6, .inr (4, [.ref ct, .ref (f7 0)])), ((f7 0), .inl (cA 20, 64, .inl (fun _ => 0))), (q8, .inr (4, [.ref ct, .ref (f9 0)])), ((f9 0), .inl (cA 20, 64, .inl (fun _ => 0)))]) [.ref ct] (k_X4 l D cA q10 ct) ⟨hx, hb, hml, hown, hts⟩ ⟨tw_164, tw_61, tw_235, tw_163⟩ (by decide +kernel) ⟨(Nat.le_of_ble_eq_true rfl), (Nat.le_of_ble_eq_true rfl)⟩ ⟨rfl, rfl⟩ ⟨(Nat.le_of_ble_eq_true rfl), (Nat.le_of_ble_eq_true rfl)⟩ hK hAO hP hD hS hA rfl hl.1 (Nat.le_of_ble_eq_true rfl) dX0_init_34 rfl (fun f11 H locs hP hD hS => ?_)
  have hP : va_P D vwCl [(h0, .inr (0, [.ref q1])), (q1, .inl (cA 23, 9, .inr (.inr (.inr (.inr (va_up (va_up (va_up (va_up (fun _ => none) (nI 0).toNatClampNeg (some q2)) (nI 1).toNatClampNeg (some q4)) (nI 2).toNatClampNeg (some q6)) (nI 3).toNatClampNeg (some q8))))))), (q2, .inr (4, [.ref ct, .ref (f3 0)])), ((f3 0), .inl (cA 20, 64, .inl (fun _ => 0))), (q4, .inr (4, [.ref ct, .ref (f5 0)])), ((f5 0), .inl (cA 20, 64, .inl (fun _ => 0))), (q6, .inr (4, [.ref ct, .ref (f7 0)])), ((f7 0), .inl (cA 20, 64, .inl (fun _ => 0))), (q8, .inr (4, [.ref ct, .ref (f9 0)])), ((f9 0), .inl (cA 20, 64, .inl (fun _ => 0))), (q10, .inr (4, [.ref ct, .ref (f11 0)])), ((f11 0), .inl (cA 20, 64, .inl (fun _ => 0)))] H := hP
  have hD : va_D A [(h0, .inr (0, [.ref q1])), (q1, .inl (cA 23, 9, .inr (.inr (.inr (.inr (va_up (va_up (va_up (va_up (fun _ => none) (nI 0).toNatClampNeg (some q2)) (nI 1).toNatClampNeg (some q4)) (nI 2).toNatClampNeg (some q6)) (nI 3).toNatClampNeg (some q8))))))), (q2, .inr (4, [.ref ct, .ref (f3 0)])), ((f3 0), .inl (cA 20, 64, .inl (fun _ => 0))), (q4, .inr (4, [.ref ct, .ref (f5 0)])), ((f5 0), .inl (cA 20, 64, .inl (fun _ => 0))), (q6, .inr (4, [.ref ct, .ref (f7 0)])), ((f7 0), .inl (cA 20, 64, .inl (fun _ => 0))), (q8, .inr (4, [.ref ct, .ref (f9 0)])), ((f9 0), .inl (cA 20, 64, .inl (fun _ => 0))), (q10, .inr (4, [.ref ct, .ref (f11 0)])), ((f11 0), .inl (cA 20, 64, .inl (fun _ => 0)))] := hD
  refine va_astq (r := (RX4, TX4, 2)) hx hb hK hP hD hS 1 3 10 4 rfl rfl rfl rfl (vp_in_nI (by decide) (by decide)) dX0_init_37 (fun H locs hP hD hS => ?_)
  have hP : va_P D vwCl [(h0, .inr (0, [.ref q1])), (q1, .inl (cA 23, 9, .inr (.inr (.inr (.inr (va_up (va_up (va_up (va_up (va_up (fun _ => none) (nI 0).toNatClampNeg (some q2)) (nI 1).toNatClampNeg (some q4)) (nI 2).toNatClampNeg (some q6)) (nI 3).toNatClampNeg (some q8)) (nI 4).toNatClampNeg (some q10))))))), (q2, .inr (4, [.ref ct, .ref (f3 0)])), ((f3 0), .inl (cA 20, 64, .inl (fun _ => 0))), (q4, .inr (4, [.ref ct, .ref (f5 0)])), ((f5 0), .inl (cA 20, 64, .inl (fun _ => 0))), (q6, .inr (4, [.ref ct, .ref (f7 0)])), ((f7 0), .inl (cA 20, 64, .inl (fun _ => 0))), (q8, .inr (4, [.ref ct, .ref (f9 0)])), ((f9 0), .inl (cA 20, 64, .inl (fun _ => 0))), (q10, .inr (4, [.ref ct, .ref (f11 0)])), ((f11 0), .inl (cA 20, 64, .inl (fun _ => 0)))] H := hP
  have hD : va_D A [(h0, .inr (0, [.ref q1])), (q1, .inl (cA 23, 9, .inr (.inr (.inr (.inr (va_up (va_up (va_up (va_up (va_up (fun _ => none) (nI 0).toNatClampNeg (some q2)) (nI 1).toNatClampNeg (some q4)) (nI 2).toNatClampNeg (some q6)) (nI 3).toNatClampNeg (some q8)) (nI 4).toNatClampNeg (some q10))))))), (q2, .inr (4, [.ref ct, .ref (f3 0)])), ((f3 0), .inl (cA 20, 64, .inl (fun _ => 0))), (q4, .inr (4, [.ref ct, .ref (f5 0)])), ((f5 0), .inl (cA 20, 64, .inl (fun _ => 0))), (q6, .inr (4, [.ref ct, .ref (f7 0)])), ((f7 0), .inl (cA 20, 64, .inl (fun _ => 0))), (q8, .inr (4, [.ref ct, .ref (f9 0)])), ((f9 0), .inl (cA 20, 64, .inl (fun _ => 0))), (q10, .inr (4, [.ref ct, .ref (f11 0)])), ((f11 0), .inl (cA 20, 64, .inl (fun _ => 0)))] := hD
  refine lv_iinc (v := nI 5) (lv' := [(2, .int (nI 5)), (0, .ref h0), (1, .ref ct)]) hx hb dX0_init_38 hl (k := 0) rfl (by decide) (by decide) rfl (fun ls hl => ?_)
  refine lv_goto (tgt := 15) hx hb dX0_init_41 (by decide) ?_
  refine lv_iload_n hx hb dX0_init_15 rfl (lv_at hl 0 rfl) ?_
  refine lv_aload_n hx hb dX0_init_16 rfl (lv_at hl 1 rfl) ?_
  refine va_get (ci := 0) (v := .ref q1) (C := RX0) (T := TX0) (N := 1) hx hb hts inX0 hown hK hP 0 rfl rfl 0 (by decide) (hts _ tw_236) (fun _ h9 => h9) rfl dX0_init_17 ?_
  refine va_alen (v := nI 9) hx hb hK hP 1 3 rfl rfl rfl dX0_init_20 ?_
  refine lv_icmp_ge (tgt := 44) hx hb dX0_init_21 (by decide) (fun c_1 => absurd c_1 (by decide)) (fun c_1 => ?_)
  refine lv_aload_n hx hb dX0_init_24 rfl (lv_at hl 1 rfl) ?_
  refine va_get (ci := 0) (v := .ref q1) (C := RX0) (T := TX0) (N := 1) hx hb hts inX0 hown hK hP 0 rfl rfl 0 (by decide) (hts _ tw_236) (fun _ h9 => h9) rfl dX0_init_25 ?_
  refine lv_iload_n hx hb dX0_init_28 rfl (lv_at hl 0 rfl) ?_
  refine va_new (ci := 4) (fs := [.null, .null]) (C := RX4) (T := TX4) (N := 2) hx hb hts inX4 tyX4 tyX4_ok hown (hts _ tw_234) (hts _ tw_161) (hts _ tw_61) hK hP hD hS hA rfl (fun j hj => by match j, hj with | 0, _ => rfl | 1, _ => rfl) (Nat.le_of_ble_eq_true rfl) (Nat.le_of_ble_eq_true rfl) dX0_init_29 (fun q12 H hP hD hS => ?_)
  have hP : va_P D vwCl [(h0, .inr (0, [.ref q1])), (q1, .inl (cA 23, 9, .inr (.inr (.inr (.inr (va_up (va_up (va_up (va_up (va_up (fun _ => none) (nI 0).toNatClampNeg (some q2)) (nI 1).toNatClampNeg (some q4)) (nI 2).toNatClampNeg (some q6)) (nI 3).toNatClampNeg (some q8)) (nI 4).toNatClampNeg (some q10))))))), (q2, .inr (4, [.ref ct, .ref (f3 0)])), ((f3 0), .inl (cA 20, 64, .inl (fun _ => 0))), (q4, .inr (4, [.ref ct, .ref (f5 0)])), ((f5 0), .inl (cA 20, 64, .inl (fun _ => 0))), (q6, .inr (4, [.ref ct, .ref (f7 0)])), ((f7 0), .inl (cA 20, 64, .inl (fun _ => 0))), (q8, .inr (4, [.ref ct, .ref (f9 0)])), ((f9 0), .inl (cA 20, 64, .inl (fun _ => 0))), (q10, .inr (4, [.ref ct, .ref (f11 0)])), ((f11 0), .inl (cA 20, 64, .inl (fun _ => 0))), (q12, .inr (4, [.null, .null]))] H := hP
  have hD : va_D A [(h0, .inr (0, [.ref q1])), (q1, .inl (cA 23, 9, .inr (.inr (.inr (.inr (va_up (va_up (va_up (va_up (va_up (fun _ => none) (nI 0).toNatClampNeg (some q2)) (nI 1).toNatClampNeg (some q4)) (nI 2).toNatClampNeg (some q6)) (nI 3).toNatClampNeg (some q8)) (nI 4).toNatClampNeg (some q10))))))), (q2, .inr (4, [.ref ct, .ref (f3 0)])), ((f3 0), .inl (cA 20, 64, .inl (fun _ => 0))), (q4, .inr (4, [.ref ct, .ref (f5 0)])), ((f5 0), .inl (cA 20, 64, .inl (fun _ => 0))), (q6, .inr (4, [.ref ct, .ref (f7 0)])), ((f7 0), .inl (cA 20, 64, .inl (fun _ => 0))), (q8, .inr (4, [.ref ct, .ref (f9 0)])), ((f9 0), .inl (cA 20, 64, .inl (fun _ => 0))), (q10, .inr (4, [.ref ct, .ref (f11 0)])), ((f11 0), .inl (cA 20, 64, .inl (fun _ => 0))), (q12, .inr (4, [.null, .null]))] := hD
  refine lv_dup hx hb dX0_init_32 rfl ?_
  refine lv_aload_n hx hb dX0_init_33 rfl (lv_at hl 2 rfl) ?_
  refine c_callI (n := 1) (ws := [(h0, .inr (0, [.ref q1])), (q1, .inl (cA 23, 9, .inr (.inr (.inr (.inr (va_up (va_up (va_up (va_up (va_up (fun _ => none) (nI 0).toNatClampNeg (some q2)) (nI 1).toNatClampNeg (some q4)) (nI 2).toNatClampNeg (some q6)) (nI 3).toNatClampNeg (some q8)) (nI 4).toNatClampNeg (some q10))))))), (q2, .inr (4, [.ref ct, .ref (f3 0)])), ((f3 0), .inl (cA 20, 64, .inl (fun _ => 0))), (q4, .inr (4, [.ref ct, .ref (f5 0)])), ((f5 0), .inl (cA 20, 64, .inl (fun _ => 0))), (q6, .inr (4, [.ref ct, .ref (f7 0)])), ((f7 0), .inl (cA 20, 64, .inl (fun _ => 0))), (q8, .inr (4, [.ref ct, .ref (f9 0)])), ((f9 0), .inl (cA 20, 64, .inl (fun _ => 0))), (q10, .inr (4, [.ref ct, .ref (f11 0)])), ((f11 0), .inl (cA 20, 64, .inl (fun _ => 0)))]) [.ref ct] (k_X4 l D cA q12 ct) ⟨hx, hb, hml, hown, hts⟩ ⟨tw_164, tw_61, tw_235, tw_163⟩ (by decide +kernel) ⟨(Nat.le_of_ble_eq_true rfl), (Nat.le_of_ble_eq_true rfl)⟩ ⟨rfl, rfl⟩ ⟨(Nat.le_of_ble_eq_true rfl), (Nat.le_of_ble_eq_true rfl)⟩ hK hAO hP hD hS hA rfl hl.1 (Nat.le_of_ble_eq_true rfl) dX0_init_34 rfl (fun f13 H locs hP hD hS => ?_)
  have hP : va_P D vwCl [(h0, .inr (0, [.ref q1])), (q1, .inl (cA 23, 9, .inr (.inr (.inr (.inr (va_up (va_up (va_up (va_up (va_up (fun _ => none) (nI 0).toNatClampNeg (some q2)) (nI 1).toNatClampNeg (some q4)) (nI 2).toNatClampNeg (some q6)) (nI 3).toNatClampNeg (some q8)) (nI 4).toNatClampNeg (some q10))))))), (q2, .inr (4, [.ref ct, .ref (f3 0)])), ((f3 0), .inl (cA 20, 64, .inl (fun _ => 0))), (q4, .inr (4, [.ref ct, .ref (f5 0)])), ((f5 0), .inl (cA 20, 64, .inl (fun _ => 0))), (q6, .inr (4, [.ref ct, .ref (f7 0)])), ((f7 0), .inl (cA 20, 64, .inl (fun _ => 0))), (q8, .inr (4, [.ref ct, .ref (f9 0)])), ((f9 0), .inl (cA 20, 64, .inl (fun _ => 0))), (q10, .inr (4, [.ref ct, .ref (f11 0)])), ((f11 0), .inl (cA 20, 64, .inl (fun _ => 0))), (q12, .inr (4, [.ref ct, .ref (f13 0)])), ((f13 0), .inl (cA 20, 64, .inl (fun _ => 0)))] H := hP
  have hD : va_D A [(h0, .inr (0, [.ref q1])), (q1, .inl (cA 23, 9, .inr (.inr (.inr (.inr (va_up (va_up (va_up (va_up (va_up (fun _ => none) (nI 0).toNatClampNeg (some q2)) (nI 1).toNatClampNeg (some q4)) (nI 2).toNatClampNeg (some q6)) (nI 3).toNatClampNeg (some q8)) (nI 4).toNatClampNeg (some q10))))))), (q2, .inr (4, [.ref ct, .ref (f3 0)])), ((f3 0), .inl (cA 20, 64, .inl (fun _ => 0))), (q4, .inr (4, [.ref ct, .ref (f5 0)])), ((f5 0), .inl (cA 20, 64, .inl (fun _ => 0))), (q6, .inr (4, [.ref ct, .ref (f7 0)])), ((f7 0), .inl (cA 20, 64, .inl (fun _ => 0))), (q8, .inr (4, [.ref ct, .ref (f9 0)])), ((f9 0), .inl (cA 20, 64, .inl (fun _ => 0))), (q10, .inr (4, [.ref ct, .ref (f11 0)])), ((f11 0), .inl (cA 20, 64, .inl (fun _ => 0))), (q12, .inr (4, [.ref ct, .ref (f13 0)])), ((f13 0), .inl (cA 20, 64, .inl (fun _ => 0)))] := hD
  refine va_astq (r := (RX4, TX4, 2)) hx hb hK hP hD hS 1 3 12 4 rfl rfl rfl rfl (vp_in_nI (by decide) (by decide)) dX0_init_37 (fun H locs hP hD hS => ?_)
  have hP : va_P D vwCl [(h0, .inr (0, [.ref q1])), (q1, .inl (cA 23, 9, .inr (.inr (.inr (.inr (va_up (va_up (va_up (va_up (va_up (va_up (fun _ => none) (nI 0).toNatClampNeg (some q2)) (nI 1).toNatClampNeg (some q4)) (nI 2).toNatClampNeg (some q6)) (nI 3).toNatClampNeg (some q8)) (nI 4).toNatClampNeg (some q10)) (nI 5).toNatClampNeg (some q12))))))), (q2, .inr (4, [.ref ct, .ref (f3 0)])), ((f3 0), .inl (cA 20, 64, .inl (fun _ => 0))), (q4, .inr (4, [.ref ct, .ref (f5 0)])), ((f5 0), .inl (cA 20, 64, .inl (fun _ => 0))), (q6, .inr (4, [.ref ct, .ref (f7 0)])), ((f7 0), .inl (cA 20, 64, .inl (fun _ => 0))), (q8, .inr (4, [.ref ct, .ref (f9 0)])), ((f9 0), .inl (cA 20, 64, .inl (fun _ => 0))), (q10, .inr (4, [.ref ct, .ref (f11 0)])), ((f11 0), .inl (cA 20, 64, .inl (fun _ => 0))), (q12, .inr (4, [.ref ct, .ref (f13 0)])), ((f13 0), .inl (cA 20, 64, .inl (fun _ => 0)))] H := hP
  have hD : va_D A [(h0, .inr (0, [.ref q1])), (q1, .inl (cA 23, 9, .inr (.inr (.inr (.inr (va_up (va_up (va_up (va_up (va_up (va_up (fun _ => none) (nI 0).toNatClampNeg (some q2)) (nI 1).toNatClampNeg (some q4)) (nI 2).toNatClampNeg (some q6)) (nI 3).toNatClampNeg (some q8)) (nI 4).toNatClampNeg (some q10)) (nI 5).toNatClampNeg (some q12))))))), (q2, .inr (4, [.ref ct, .ref (f3 0)])), ((f3 0), .inl (cA 20, 64, .inl (fun _ => 0))), (q4, .inr (4, [.ref ct, .ref (f5 0)])), ((f5 0), .inl (cA 20, 64, .inl (fun _ => 0))), (q6, .inr (4, [.ref ct, .ref (f7 0)])), ((f7 0), .inl (cA 20, 64, .inl (fun _ => 0))), (q8, .inr (4, [.ref ct, .ref (f9 0)])), ((f9 0), .inl (cA 20, 64, .inl (fun _ => 0))), (q10, .inr (4, [.ref ct, .ref (f11 0)])), ((f11 0), .inl (cA 20, 64, .inl (fun _ => 0))), (q12, .inr (4, [.ref ct, .ref (f13 0)])), ((f13 0), .inl (cA 20, 64, .inl (fun _ => 0)))] := hD
  refine lv_iinc (v := nI 6) (lv' := [(2, .int (nI 6)), (0, .ref h0), (1, .ref ct)]) hx hb dX0_init_38 hl (k := 0) rfl (by decide) (by decide) rfl (fun ls hl => ?_)
  refine lv_goto (tgt := 15) hx hb dX0_init_41 (by decide) ?_
  refine lv_iload_n hx hb dX0_init_15 rfl (lv_at hl 0 rfl) ?_
  refine lv_aload_n hx hb dX0_init_16 rfl (lv_at hl 1 rfl) ?_
  refine va_get (ci := 0) (v := .ref q1) (C := RX0) (T := TX0) (N := 1) hx hb hts inX0 hown hK hP 0 rfl rfl 0 (by decide) (hts _ tw_236) (fun _ h9 => h9) rfl dX0_init_17 ?_
  refine va_alen (v := nI 9) hx hb hK hP 1 3 rfl rfl rfl dX0_init_20 ?_
  refine lv_icmp_ge (tgt := 44) hx hb dX0_init_21 (by decide) (fun c_1 => absurd c_1 (by decide)) (fun c_1 => ?_)
  refine lv_aload_n hx hb dX0_init_24 rfl (lv_at hl 1 rfl) ?_
  refine va_get (ci := 0) (v := .ref q1) (C := RX0) (T := TX0) (N := 1) hx hb hts inX0 hown hK hP 0 rfl rfl 0 (by decide) (hts _ tw_236) (fun _ h9 => h9) rfl dX0_init_25 ?_
  refine lv_iload_n hx hb dX0_init_28 rfl (lv_at hl 0 rfl) ?_
  refine va_new (ci := 4) (fs := [.null, .null]) (C := RX4) (T := TX4) (N := 2) hx hb hts inX4 tyX4 tyX4_ok hown (hts _ tw_234) (hts _ tw_161) (hts _ tw_61) hK hP hD hS hA rfl (fun j hj => by match j, hj with | 0, _ => rfl | 1, _ => rfl) (Nat.le_of_ble_eq_true rfl) (Nat.le_of_ble_eq_true rfl) dX0_init_29 (fun q14 H hP hD hS => ?_)
  have hP : va_P D vwCl [(h0, .inr (0, [.ref q1])), (q1, .inl (cA 23, 9, .inr (.inr (.inr (.inr (va_up (va_up (va_up (va_up (va_up (va_up (fun _ => none) (nI 0).toNatClampNeg (some q2)) (nI 1).toNatClampNeg (some q4)) (nI 2).toNatClampNeg (some q6)) (nI 3).toNatClampNeg (some q8)) (nI 4).toNatClampNeg (some q10)) (nI 5).toNatClampNeg (some q12))))))), (q2, .inr (4, [.ref ct, .ref (f3 0)])), ((f3 0), .inl (cA 20, 64, .inl (fun _ => 0))), (q4, .inr (4, [.ref ct, .ref (f5 0)])), ((f5 0), .inl (cA 20, 64, .inl (fun _ => 0))), (q6, .inr (4, [.ref ct, .ref (f7 0)])), ((f7 0), .inl (cA 20, 64, .inl (fun _ => 0))), (q8, .inr (4, [.ref ct, .ref (f9 0)])), ((f9 0), .inl (cA 20, 64, .inl (fun _ => 0))), (q10, .inr (4, [.ref ct, .ref (f11 0)])), ((f11 0), .inl (cA 20, 64, .inl (fun _ => 0))), (q12, .inr (4, [.ref ct, .ref (f13 0)])), ((f13 0), .inl (cA 20, 64, .inl (fun _ => 0))), (q14, .inr (4, [.null, .null]))] H := hP
  have hD : va_D A [(h0, .inr (0, [.ref q1])), (q1, .inl (cA 23, 9, .inr (.inr (.inr (.inr (va_up (va_up (va_up (va_up (va_up (va_up (fun _ => none) (nI 0).toNatClampNeg (some q2)) (nI 1).toNatClampNeg (some q4)) (nI 2).toNatClampNeg (some q6)) (nI 3).toNatClampNeg (some q8)) (nI 4).toNatClampNeg (some q10)) (nI 5).toNatClampNeg (some q12))))))), (q2, .inr (4, [.ref ct, .ref (f3 0)])), ((f3 0), .inl (cA 20, 64, .inl (fun _ => 0))), (q4, .inr (4, [.ref ct, .ref (f5 0)])), ((f5 0), .inl (cA 20, 64, .inl (fun _ => 0))), (q6, .inr (4, [.ref ct, .ref (f7 0)])), ((f7 0), .inl (cA 20, 64, .inl (fun _ => 0))), (q8, .inr (4, [.ref ct, .ref (f9 0)])), ((f9 0), .inl (cA 20, 64, .inl (fun _ => 0))), (q10, .inr (4, [.ref ct, .ref (f11 0)])), ((f11 0), .inl (cA 20, 64, .inl (fun _ => 0))), (q12, .inr (4, [.ref ct, .ref (f13 0)])), ((f13 0), .inl (cA 20, 64, .inl (fun _ => 0))), (q14, .inr (4, [.null, .null]))] := hD
  refine lv_dup hx hb dX0_init_32 rfl ?_
  refine lv_aload_n hx hb dX0_init_33 rfl (lv_at hl 2 rfl) ?_
  refine c_callI (n := 1) (ws := [(h0, .inr (0, [.ref q1])), (q1, .inl (cA 23, 9, .inr (.inr (.inr (.inr (va_up (va_up (va_up (va_up (va_up (va_up (fun _ => none) (nI 0).toNatClampNeg (some q2)) (nI 1).toNatClampNeg (some q4)) (nI 2).toNatClampNeg (some q6)) (nI 3).toNatClampNeg (some q8)) (nI 4).toNatClampNeg (some q10)) (nI 5).toNatClampNeg (some q12))))))), (q2, .inr (4, [.ref ct, .ref (f3 0)])), ((f3 0), .inl (cA 20, 64, .inl (fun _ => 0))), (q4, .inr (4, [.ref ct, .ref (f5 0)])), ((f5 0), .inl (cA 20, 64, .inl (fun _ => 0))), (q6, .inr (4, [.ref ct, .ref (f7 0)])), ((f7 0), .inl (cA 20, 64, .inl (fun _ => 0))), (q8, .inr (4, [.ref ct, .ref (f9 0)])), ((f9 0), .inl (cA 20, 64, .inl (fun _ => 0))), (q10, .inr (4, [.ref ct, .ref (f11 0)])), ((f11 0), .inl (cA 20, 64, .inl (fun _ => 0))), (q12, .inr (4, [.ref ct, .ref (f13 0)])), ((f13 0), .inl (cA 20, 64, .inl (fun _ => 0)))]) [.ref ct] (k_X4 l D cA q14 ct) ⟨hx, hb, hml, hown, hts⟩ ⟨tw_164, tw_61, tw_235, tw_163⟩ (by decide +kernel) ⟨(Nat.le_of_ble_eq_true rfl), (Nat.le_of_ble_eq_true rfl)⟩ ⟨rfl, rfl⟩ ⟨(Nat.le_of_ble_eq_true rfl), (Nat.le_of_ble_eq_true rfl)⟩ hK hAO hP hD hS hA rfl hl.1 (Nat.le_of_ble_eq_true rfl) dX0_init_34 rfl (fun f15 H locs hP hD hS => ?_)
  have hP : va_P D vwCl [(h0, .inr (0, [.ref q1])), (q1, .inl (cA 23, 9, .inr (.inr (.inr (.inr (va_up (va_up (va_up (va_up (va_up (va_up (fun _ => none) (nI 0).toNatClampNeg (some q2)) (nI 1).toNatClampNeg (some q4)) (nI 2).toNatClampNeg (some q6)) (nI 3).toNatClampNeg (some q8)) (nI 4).toNatClampNeg (some q10)) (nI 5).toNatClampNeg (some q12))))))), (q2, .inr (4, [.ref ct, .ref (f3 0)])), ((f3 0), .inl (cA 20, 64, .inl (fun _ => 0))), (q4, .inr (4, [.ref ct, .ref (f5 0)])), ((f5 0), .inl (cA 20, 64, .inl (fun _ => 0))), (q6, .inr (4, [.ref ct, .ref (f7 0)])), ((f7 0), .inl (cA 20, 64, .inl (fun _ => 0))), (q8, .inr (4, [.ref ct, .ref (f9 0)])), ((f9 0), .inl (cA 20, 64, .inl (fun _ => 0))), (q10, .inr (4, [.ref ct, .ref (f11 0)])), ((f11 0), .inl (cA 20, 64, .inl (fun _ => 0))), (q12, .inr (4, [.ref ct, .ref (f13 0)])), ((f13 0), .inl (cA 20, 64, .inl (fun _ => 0))), (q14, .inr (4, [.ref ct, .ref (f15 0)])), ((f15 0), .inl (cA 20, 64, .inl (fun _ => 0)))] H := hP
  have hD : va_D A [(h0, .inr (0, [.ref q1])), (q1, .inl (cA 23, 9, .inr (.inr (.inr (.inr (va_up (va_up (va_up (va_up (va_up (va_up (fun _ => none) (nI 0).toNatClampNeg (some q2)) (nI 1).toNatClampNeg (some q4)) (nI 2).toNatClampNeg (some q6)) (nI 3).toNatClampNeg (some q8)) (nI 4).toNatClampNeg (some q10)) (nI 5).toNatClampNeg (some q12))))))), (q2, .inr (4, [.ref ct, .ref (f3 0)])), ((f3 0), .inl (cA 20, 64, .inl (fun _ => 0))), (q4, .inr (4, [.ref ct, .ref (f5 0)])), ((f5 0), .inl (cA 20, 64, .inl (fun _ => 0))), (q6, .inr (4, [.ref ct, .ref (f7 0)])), ((f7 0), .inl (cA 20, 64, .inl (fun _ => 0))), (q8, .inr (4, [.ref ct, .ref (f9 0)])), ((f9 0), .inl (cA 20, 64, .inl (fun _ => 0))), (q10, .inr (4, [.ref ct, .ref (f11 0)])), ((f11 0), .inl (cA 20, 64, .inl (fun _ => 0))), (q12, .inr (4, [.ref ct, .ref (f13 0)])), ((f13 0), .inl (cA 20, 64, .inl (fun _ => 0))), (q14, .inr (4, [.ref ct, .ref (f15 0)])), ((f15 0), .inl (cA 20, 64, .inl (fun _ => 0)))] := hD
  refine va_astq (r := (RX4, TX4, 2)) hx hb hK hP hD hS 1 3 14 4 rfl rfl rfl rfl (vp_in_nI (by decide) (by decide)) dX0_init_37 (fun H locs hP hD hS => ?_)
  have hP : va_P D vwCl [(h0, .inr (0, [.ref q1])), (q1, .inl (cA 23, 9, .inr (.inr (.inr (.inr (va_up (va_up (va_up (va_up (va_up (va_up (va_up (fun _ => none) (nI 0).toNatClampNeg (some q2)) (nI 1).toNatClampNeg (some q4)) (nI 2).toNatClampNeg (some q6)) (nI 3).toNatClampNeg (some q8)) (nI 4).toNatClampNeg (some q10)) (nI 5).toNatClampNeg (some q12)) (nI 6).toNatClampNeg (some q14))))))), (q2, .inr (4, [.ref ct, .ref (f3 0)])), ((f3 0), .inl (cA 20, 64, .inl (fun _ => 0))), (q4, .inr (4, [.ref ct, .ref (f5 0)])), ((f5 0), .inl (cA 20, 64, .inl (fun _ => 0))), (q6, .inr (4, [.ref ct, .ref (f7 0)])), ((f7 0), .inl (cA 20, 64, .inl (fun _ => 0))), (q8, .inr (4, [.ref ct, .ref (f9 0)])), ((f9 0), .inl (cA 20, 64, .inl (fun _ => 0))), (q10, .inr (4, [.ref ct, .ref (f11 0)])), ((f11 0), .inl (cA 20, 64, .inl (fun _ => 0))), (q12, .inr (4, [.ref ct, .ref (f13 0)])), ((f13 0), .inl (cA 20, 64, .inl (fun _ => 0))), (q14, .inr (4, [.ref ct, .ref (f15 0)])), ((f15 0), .inl (cA 20, 64, .inl (fun _ => 0)))] H := hP
  have hD : va_D A [(h0, .inr (0, [.ref q1])), (q1, .inl (cA 23, 9, .inr (.inr (.inr (.inr (va_up (va_up (va_up (va_up (va_up (va_up (va_up (fun _ => none) (nI 0).toNatClampNeg (some q2)) (nI 1).toNatClampNeg (some q4)) (nI 2).toNatClampNeg (some q6)) (nI 3).toNatClampNeg (some q8)) (nI 4).toNatClampNeg (some q10)) (nI 5).toNatClampNeg (some q12)) (nI 6).toNatClampNeg (some q14))))))), (q2, .inr (4, [.ref ct, .ref (f3 0)])), ((f3 0), .inl (cA 20, 64, .inl (fun _ => 0))), (q4, .inr (4, [.ref ct, .ref (f5 0)])), ((f5 0), .inl (cA 20, 64, .inl (fun _ => 0))), (q6, .inr (4, [.ref ct, .ref (f7 0)])), ((f7 0), .inl (cA 20, 64, .inl (fun _ => 0))), (q8, .inr (4, [.ref ct, .ref (f9 0)])), ((f9 0), .inl (cA 20, 64, .inl (fun _ => 0))), (q10, .inr (4, [.ref ct, .ref (f11 0)])), ((f11 0), .inl (cA 20, 64, .inl (fun _ => 0))), (q12, .inr (4, [.ref ct, .ref (f13 0)])), ((f13 0), .inl (cA 20, 64, .inl (fun _ => 0))), (q14, .inr (4, [.ref ct, .ref (f15 0)])), ((f15 0), .inl (cA 20, 64, .inl (fun _ => 0)))] := hD
  refine lv_iinc (v := nI 7) (lv' := [(2, .int (nI 7)), (0, .ref h0), (1, .ref ct)]) hx hb dX0_init_38 hl (k := 0) rfl (by decide) (by decide) rfl (fun ls hl => ?_)
  refine lv_goto (tgt := 15) hx hb dX0_init_41 (by decide) ?_
  refine lv_iload_n hx hb dX0_init_15 rfl (lv_at hl 0 rfl) ?_
  refine lv_aload_n hx hb dX0_init_16 rfl (lv_at hl 1 rfl) ?_
  refine va_get (ci := 0) (v := .ref q1) (C := RX0) (T := TX0) (N := 1) hx hb hts inX0 hown hK hP 0 rfl rfl 0 (by decide) (hts _ tw_236) (fun _ h9 => h9) rfl dX0_init_17 ?_
  refine va_alen (v := nI 9) hx hb hK hP 1 3 rfl rfl rfl dX0_init_20 ?_
  refine lv_icmp_ge (tgt := 44) hx hb dX0_init_21 (by decide) (fun c_1 => absurd c_1 (by decide)) (fun c_1 => ?_)
  refine lv_aload_n hx hb dX0_init_24 rfl (lv_at hl 1 rfl) ?_
  refine va_get (ci := 0) (v := .ref q1) (C := RX0) (T := TX0) (N := 1) hx hb hts inX0 hown hK hP 0 rfl rfl 0 (by decide) (hts _ tw_236) (fun _ h9 => h9) rfl dX0_init_25 ?_
  refine lv_iload_n hx hb dX0_init_28 rfl (lv_at hl 0 rfl) ?_
  refine va_new (ci := 4) (fs := [.null, .null]) (C := RX4) (T := TX4) (N := 2) hx hb hts inX4 tyX4 tyX4_ok hown (hts _ tw_234) (hts _ tw_161) (hts _ tw_61) hK hP hD hS hA rfl (fun j hj => by match j, hj with | 0, _ => rfl | 1, _ => rfl) (Nat.le_of_ble_eq_true rfl) (Nat.le_of_ble_eq_true rfl) dX0_init_29 (fun q16 H hP hD hS => ?_)
  have hP : va_P D vwCl [(h0, .inr (0, [.ref q1])), (q1, .inl (cA 23, 9, .inr (.inr (.inr (.inr (va_up (va_up (va_up (va_up (va_up (va_up (va_up (fun _ => none) (nI 0).toNatClampNeg (some q2)) (nI 1).toNatClampNeg (some q4)) (nI 2).toNatClampNeg (some q6)) (nI 3).toNatClampNeg (some q8)) (nI 4).toNatClampNeg (some q10)) (nI 5).toNatClampNeg (some q12)) (nI 6).toNatClampNeg (some q14))))))), (q2, .inr (4, [.ref ct, .ref (f3 0)])), ((f3 0), .inl (cA 20, 64, .inl (fun _ => 0))), (q4, .inr (4, [.ref ct, .ref (f5 0)])), ((f5 0), .inl (cA 20, 64, .inl (fun _ => 0))), (q6, .inr (4, [.ref ct, .ref (f7 0)])), ((f7 0), .inl (cA 20, 64, .inl (fun _ => 0))), (q8, .inr (4, [.ref ct, .ref (f9 0)])), ((f9 0), .inl (cA 20, 64, .inl (fun _ => 0))), (q10, .inr (4, [.ref ct, .ref (f11 0)])), ((f11 0), .inl (cA 20, 64, .inl (fun _ => 0))), (q12, .inr (4, [.ref ct, .ref (f13 0)])), ((f13 0), .inl (cA 20, 64, .inl (fun _ => 0))), (q14, .inr (4, [.ref ct, .ref (f15 0)])), ((f15 0), .inl (cA 20, 64, .inl (fun _ => 0))), (q16, .inr (4, [.null, .null]))] H := hP
  have hD : va_D A [(h0, .inr (0, [.ref q1])), (q1, .inl (cA 23, 9, .inr (.inr (.inr (.inr (va_up (va_up (va_up (va_up (va_up (va_up (va_up (fun _ => none) (nI 0).toNatClampNeg (some q2)) (nI 1).toNatClampNeg (some q4)) (nI 2).toNatClampNeg (some q6)) (nI 3).toNatClampNeg (some q8)) (nI 4).toNatClampNeg (some q10)) (nI 5).toNatClampNeg (some q12)) (nI 6).toNatClampNeg (some q14))))))), (q2, .inr (4, [.ref ct, .ref (f3 0)])), ((f3 0), .inl (cA 20, 64, .inl (fun _ => 0))), (q4, .inr (4, [.ref ct, .ref (f5 0)])), ((f5 0), .inl (cA 20, 64, .inl (fun _ => 0))), (q6, .inr (4, [.ref ct, .ref (f7 0)])), ((f7 0), .inl (cA 20, 64, .inl (fun _ => 0))), (q8, .inr (4, [.ref ct, .ref (f9 0)])), ((f9 0), .inl (cA 20, 64, .inl (fun _ => 0))), (q10, .inr (4, [.ref ct, .ref (f11 0)])), ((f11 0), .inl (cA 20, 64, .inl (fun _ => 0))), (q12, .inr (4, [.ref ct, .ref (f13 0)])), ((f13 0), .inl (cA 20, 64, .inl (fun _ => 0))), (q14, .inr (4, [.ref ct, .ref (f15 0)])), ((f15 0), .inl (cA 20, 64, .inl (fun _ => 0))), (q16, .inr (4, [.null, .null]))] := hD
  refine lv_dup hx hb dX0_init_32 rfl ?_
  refine lv_aload_n hx hb dX0_init_33 rfl (lv_at hl 2 rfl) ?_
  refine c_callI (n := 1) (ws := [(h0, .inr (0, [.ref q1])), (q1, .inl (cA 23, 9, .inr (.inr (.inr (.inr (va_up (va_up (va_up (va_up (va_up (va_up (va_up (fun _ => none) (nI 0).toNatClampNeg (some q2)) (nI 1).toNatClampNeg (some q4)) (nI 2).toNatClampNeg (some q6)) (nI 3).toNatClampNeg (some q8)) (nI 4).toNatClampNeg (some q10)) (nI 5).toNatClampNeg (some q12)) (nI 6).toNatClampNeg (some q14))))))), (q2, .inr (4, [.ref ct, .ref (f3 0)])), ((f3 0), .inl (cA 20, 64, .inl (fun _ => 0))), (q4, .inr (4, [.ref ct, .ref (f5 0)])), ((f5 0), .inl (cA 20, 64, .inl (fun _ => 0))), (q6, .inr (4, [.ref ct, .ref (f7 0)])), ((f7 0), .inl (cA 20, 64, .inl (fun _ => 0))), (q8, .inr (4, [.ref ct, .ref (f9 0)])), ((f9 0), .inl (cA 20, 64, .inl (fun _ => 0))), (q10, .inr (4, [.ref ct, .ref (f11 0)])), ((f11 0), .inl (cA 20, 64, .inl (fun _ => 0))), (q12, .inr (4, [.ref ct, .ref (f13 0)])), ((f13 0), .inl (cA 20, 64, .inl (fun _ => 0))), (q14, .inr (4, [.ref ct, .ref (f15 0)])), ((f15 0), .inl (cA 20, 64, .inl (fun _ => 0)))]) [.ref ct] (k_X4 l D cA q16 ct) ⟨hx, hb, hml, hown, hts⟩ ⟨tw_164, tw_61, tw_235, tw_163⟩ (by decide +kernel) ⟨(Nat.le_of_ble_eq_true rfl), (Nat.le_of_ble_eq_true rfl)⟩ ⟨rfl, rfl⟩ ⟨(Nat.le_of_ble_eq_true rfl), (Nat.le_of_ble_eq_true rfl)⟩ hK hAO hP hD hS hA rfl hl.1 (Nat.le_of_ble_eq_true rfl) dX0_init_34 rfl (fun f17 H locs hP hD hS => ?_)
  have hP : va_P D vwCl [(h0, .inr (0, [.ref q1])), (q1, .inl (cA 23, 9, .inr (.inr (.inr (.inr (va_up (va_up (va_up (va_up (va_up (va_up (va_up (fun _ => none) (nI 0).toNatClampNeg (some q2)) (nI 1).toNatClampNeg (some q4)) (nI 2).toNatClampNeg (some q6)) (nI 3).toNatClampNeg (some q8)) (nI 4).toNatClampNeg (some q10)) (nI 5).toNatClampNeg (some q12)) (nI 6).toNatClampNeg (some q14))))))), (q2, .inr (4, [.ref ct, .ref (f3 0)])), ((f3 0), .inl (cA 20, 64, .inl (fun _ => 0))), (q4, .inr (4, [.ref ct, .ref (f5 0)])), ((f5 0), .inl (cA 20, 64, .inl (fun _ => 0))), (q6, .inr (4, [.ref ct, .ref (f7 0)])), ((f7 0), .inl (cA 20, 64, .inl (fun _ => 0))), (q8, .inr (4, [.ref ct, .ref (f9 0)])), ((f9 0), .inl (cA 20, 64, .inl (fun _ => 0))), (q10, .inr (4, [.ref ct, .ref (f11 0)])), ((f11 0), .inl (cA 20, 64, .inl (fun _ => 0))), (q12, .inr (4, [.ref ct, .ref (f13 0)])), ((f13 0), .inl (cA 20, 64, .inl (fun _ => 0))), (q14, .inr (4, [.ref ct, .ref (f15 0)])), ((f15 0), .inl (cA 20, 64, .inl (fun _ => 0))), (q16, .inr (4, [.ref ct, .ref (f17 0)])), ((f17 0), .inl (cA 20, 64, .inl (fun _ => 0)))] H := hP
  have hD : va_D A [(h0, .inr (0, [.ref q1])), (q1, .inl (cA 23, 9, .inr (.inr (.inr (.inr (va_up (va_up (va_up (va_up (va_up (va_up (va_up (fun _ => none) (nI 0).toNatClampNeg (some q2)) (nI 1).toNatClampNeg (some q4)) (nI 2).toNatClampNeg (some q6)) (nI 3).toNatClampNeg (some q8)) (nI 4).toNatClampNeg (some q10)) (nI 5).toNatClampNeg (some q12)) (nI 6).toNatClampNeg (some q14))))))), (q2, .inr (4, [.ref ct, .ref (f3 0)])), ((f3 0), .inl (cA 20, 64, .inl (fun _ => 0))), (q4, .inr (4, [.ref ct, .ref (f5 0)])), ((f5 0), .inl (cA 20, 64, .inl (fun _ => 0))), (q6, .inr (4, [.ref ct, .ref (f7 0)])), ((f7 0), .inl (cA 20, 64, .inl (fun _ => 0))), (q8, .inr (4, [.ref ct, .ref (f9 0)])), ((f9 0), .inl (cA 20, 64, .inl (fun _ => 0))), (q10, .inr (4, [.ref ct, .ref (f11 0)])), ((f11 0), .inl (cA 20, 64, .inl (fun _ => 0))), (q12, .inr (4, [.ref ct, .ref (f13 0)])), ((f13 0), .inl (cA 20, 64, .inl (fun _ => 0))), (q14, .inr (4, [.ref ct, .ref (f15 0)])), ((f15 0), .inl (cA 20, 64, .inl (fun _ => 0))), (q16, .inr (4, [.ref ct, .ref (f17 0)])), ((f17 0), .inl (cA 20, 64, .inl (fun _ => 0)))] := hD
  refine va_astq (r := (RX4, TX4, 2)) hx hb hK hP hD hS 1 3 16 4 rfl rfl rfl rfl (vp_in_nI (by decide) (by decide)) dX0_init_37 (fun H locs hP hD hS => ?_)
  have hP : va_P D vwCl [(h0, .inr (0, [.ref q1])), (q1, .inl (cA 23, 9, .inr (.inr (.inr (.inr (va_up (va_up (va_up (va_up (va_up (va_up (va_up (va_up (fun _ => none) (nI 0).toNatClampNeg (some q2)) (nI 1).toNatClampNeg (some q4)) (nI 2).toNatClampNeg (some q6)) (nI 3).toNatClampNeg (some q8)) (nI 4).toNatClampNeg (some q10)) (nI 5).toNatClampNeg (some q12)) (nI 6).toNatClampNeg (some q14)) (nI 7).toNatClampNeg (some q16))))))), (q2, .inr (4, [.ref ct, .ref (f3 0)])), ((f3 0), .inl (cA 20, 64, .inl (fun _ => 0))), (q4, .inr (4, [.ref ct, .ref (f5 0)])), ((f5 0), .inl (cA 20, 64, .inl (fun _ => 0))), (q6, .inr (4, [.ref ct, .ref (f7 0)])), ((f7 0), .inl (cA 20, 64, .inl (fun _ => 0))), (q8, .inr (4, [.ref ct, .ref (f9 0)])), ((f9 0), .inl (cA 20, 64, .inl (fun _ => 0))), (q10, .inr (4, [.ref ct, .ref (f11 0)])), ((f11 0), .inl (cA 20, 64, .inl (fun _ => 0))), (q12, .inr (4, [.ref ct, .ref (f13 0)])), ((f13 0), .inl (cA 20, 64, .inl (fun _ => 0))), (q14, .inr (4, [.ref ct, .ref (f15 0)])), ((f15 0), .inl (cA 20, 64, .inl (fun _ => 0))), (q16, .inr (4, [.ref ct, .ref (f17 0)])), ((f17 0), .inl (cA 20, 64, .inl (fun _ => 0)))] H := hP
  have hD : va_D A [(h0, .inr (0, [.ref q1])), (q1, .inl (cA 23, 9, .inr (.inr (.inr (.inr (va_up (va_up (va_up (va_up (va_up (va_up (va_up (va_up (fun _ => none) (nI 0).toNatClampNeg (some q2)) (nI 1).toNatClampNeg (some q4)) (nI 2).toNatClampNeg (some q6)) (nI 3).toNatClampNeg (some q8)) (nI 4).toNatClampNeg (some q10)) (nI 5).toNatClampNeg (some q12)) (nI 6).toNatClampNeg (some q14)) (nI 7).toNatClampNeg (some q16))))))), (q2, .inr (4, [.ref ct, .ref (f3 0)])), ((f3 0), .inl (cA 20, 64, .inl (fun _ => 0))), (q4, .inr (4, [.ref ct, .ref (f5 0)])), ((f5 0), .inl (cA 20, 64, .inl (fun _ => 0))), (q6, .inr (4, [.ref ct, .ref (f7 0)])), ((f7 0), .inl (cA 20, 64, .inl (fun _ => 0))), (q8, .inr (4, [.ref ct, .ref (f9 0)])), ((f9 0), .inl (cA 20, 64, .inl (fun _ => 0))), (q10, .inr (4, [.ref ct, .ref (f11 0)])), ((f11 0), .inl (cA 20, 64, .inl (fun _ => 0))), (q12, .inr (4, [.ref ct, .ref (f13 0)])), ((f13 0), .inl (cA 20, 64, .inl (fun _ => 0))), (q14, .inr (4, [.ref ct, .ref (f15 0)])), ((f15 0), .inl (cA 20, 64, .inl (fun _ => 0))), (q16, .inr (4, [.ref ct, .ref (f17 0)])), ((f17 0), .inl (cA 20, 64, .inl (fun _ => 0)))] := hD
  refine lv_iinc (v := nI 8) (lv' := [(2, .int (nI 8)), (0, .ref h0), (1, .ref ct)]) hx hb dX0_init_38 hl (k := 0) rfl (by decide) (by decide) rfl (fun ls hl => ?_)
  refine lv_goto (tgt := 15) hx hb dX0_init_41 (by decide) ?_
  refine lv_iload_n hx hb dX0_init_15 rfl (lv_at hl 0 rfl) ?_
  refine lv_aload_n hx hb dX0_init_16 rfl (lv_at hl 1 rfl) ?_
  refine va_get (ci := 0) (v := .ref q1) (C := RX0) (T := TX0) (N := 1) hx hb hts inX0 hown hK hP 0 rfl rfl 0 (by decide) (hts _ tw_236) (fun _ h9 => h9) rfl dX0_init_17 ?_
  refine va_alen (v := nI 9) hx hb hK hP 1 3 rfl rfl rfl dX0_init_20 ?_
  refine lv_icmp_ge (tgt := 44) hx hb dX0_init_21 (by decide) (fun c_1 => absurd c_1 (by decide)) (fun c_1 => ?_)
  refine lv_aload_n hx hb dX0_init_24 rfl (lv_at hl 1 rfl) ?_
  refine va_get (ci := 0) (v := .ref q1) (C := RX0) (T := TX0) (N := 1) hx hb hts inX0 hown hK hP 0 rfl rfl 0 (by decide) (hts _ tw_236) (fun _ h9 => h9) rfl dX0_init_25 ?_
  refine lv_iload_n hx hb dX0_init_28 rfl (lv_at hl 0 rfl) ?_
  refine va_new (ci := 4) (fs := [.null, .null]) (C := RX4) (T := TX4) (N := 2) hx hb hts inX4 tyX4 tyX4_ok hown (hts _ tw_234) (hts _ tw_161) (hts _ tw_61) hK hP hD hS hA rfl (fun j hj => by match j, hj with | 0, _ => rfl | 1, _ => rfl) (Nat.le_of_ble_eq_true rfl) (Nat.le_of_ble_eq_true rfl) dX0_init_29 (fun q18 H hP hD hS => ?_)
  have hP : va_P D vwCl [(h0, .inr (0, [.ref q1])), (q1, .inl (cA 23, 9, .inr (.inr (.inr (.inr (va_up (va_up (va_up (va_up (va_up (va_up (va_up (va_up (fun _ => none) (nI 0).toNatClampNeg (some q2)) (nI 1).toNatClampNeg (some q4)) (nI 2).toNatClampNeg (some q6)) (nI 3).toNatClampNeg (some q8)) (nI 4).toNatClampNeg (some q10)) (nI 5).toNatClampNeg (some q12)) (nI 6).toNatClampNeg (some q14)) (nI 7).toNatClampNeg (some q16))))))), (q2, .inr (4, [.ref ct, .ref (f3 0)])), ((f3 0), .inl (cA 20, 64, .inl (fun _ => 0))), (q4, .inr (4, [.ref ct, .ref (f5 0)])), ((f5 0), .inl (cA 20, 64, .inl (fun _ => 0))), (q6, .inr (4, [.ref ct, .ref (f7 0)])), ((f7 0), .inl (cA 20, 64, .inl (fun _ => 0))), (q8, .inr (4, [.ref ct, .ref (f9 0)])), ((f9 0), .inl (cA 20, 64, .inl (fun _ => 0))), (q10, .inr (4, [.ref ct, .ref (f11 0)])), ((f11 0), .inl (cA 20, 64, .inl (fun _ => 0))), (q12, .inr (4, [.ref ct, .ref (f13 0)])), ((f13 0), .inl (cA 20, 64, .inl (fun _ => 0))), (q14, .inr (4, [.ref ct, .ref (f15 0)])), ((f15 0), .inl (cA 20, 64, .inl (fun _ => 0))), (q16, .inr (4, [.ref ct, .ref (f17 0)])), ((f17 0), .inl (cA 20, 64, .inl (fun _ => 0))), (q18, .inr (4, [.null, .null]))] H := hP
  have hD : va_D A [(h0, .inr (0, [.ref q1])), (q1, .inl (cA 23, 9, .inr (.inr (.inr (.inr (va_up (va_up (va_up (va_up (va_up (va_up (va_up (va_up (fun _ => none) (nI 0).toNatClampNeg (some q2)) (nI 1).toNatClampNeg (some q4)) (nI 2).toNatClampNeg (some q6)) (nI 3).toNatClampNeg (some q8)) (nI 4).toNatClampNeg (some q10)) (nI 5).toNatClampNeg (some q12)) (nI 6).toNatClampNeg (some q14)) (nI 7).toNatClampNeg (some q16))))))), (q2, .inr (4, [.ref ct, .ref (f3 0)])), ((f3 0), .inl (cA 20, 64, .inl (fun _ => 0))), (q4, .inr (4, [.ref ct, .ref (f5 0)])), ((f5 0), .inl (cA 20, 64, .inl (fun _ => 0))), (q6, .inr (4, [.ref ct, .ref (f7 0)])), ((f7 0), .inl (cA 20, 64, .inl (fun _ => 0))), (q8, .inr (4, [.ref ct, .ref (f9 0)])), ((f9 0), .inl (cA 20, 64, .inl (fun _ => 0))), (q10, .inr (4, [.ref ct, .ref (f11 0)])), ((f11 0), .inl (cA 20, 64, .inl (fun _ => 0))), (q12, .inr (4, [.ref ct, .ref (f13 0)])), ((f13 0), .inl (cA 20, 64, .inl (fun _ => 0))), (q14, .inr (4, [.ref ct, .ref (f15 0)])), ((f15 0), .inl (cA 20, 64, .inl (fun _ => 0))), (q16, .inr (4, [.ref ct, .ref (f17 0)])), ((f17 0), .inl (cA 20, 64, .inl (fun _ => 0))), (q18, .inr (4, [.null, .null]))] := hD
  refine lv_dup hx hb dX0_init_32 rfl ?_
  refine lv_aload_n hx hb dX0_init_33 rfl (lv_at hl 2 rfl) ?_
  refine c_callI (n := 1) (ws := [(h0, .inr (0, [.ref q1])), (q1, .inl (cA 23, 9, .inr (.inr (.inr (.inr (va_up (va_up (va_up (va_up (va_up (va_up (va_up (va_up (fun _ => none) (nI 0).toNatClampNeg (some q2)) (nI 1).toNatClampNeg (some q4)) (nI 2).toNatClampNeg (some q6)) (nI 3).toNatClampNeg (some q8)) (nI 4).toNatClampNeg (some q10)) (nI 5).toNatClampNeg (some q12)) (nI 6).toNatClampNeg (some q14)) (nI 7).toNatClampNeg (some q16))))))), (q2, .inr (4, [.ref ct, .ref (f3 0)])), ((f3 0), .inl (cA 20, 64, .inl (fun _ => 0))), (q4, .inr (4, [.ref ct, .ref (f5 0)])), ((f5 0), .inl (cA 20, 64, .inl (fun _ => 0))), (q6, .inr (4, [.ref ct, .ref (f7 0)])), ((f7 0), .inl (cA 20, 64, .inl (fun _ => 0))), (q8, .inr (4, [.ref ct, .ref (f9 0)])), ((f9 0), .inl (cA 20, 64, .inl (fun _ => 0))), (q10, .inr (4, [.ref ct, .ref (f11 0)])), ((f11 0), .inl (cA 20, 64, .inl (fun _ => 0))), (q12, .inr (4, [.ref ct, .ref (f13 0)])), ((f13 0), .inl (cA 20, 64, .inl (fun _ => 0))), (q14, .inr (4, [.ref ct, .ref (f15 0)])), ((f15 0), .inl (cA 20, 64, .inl (fun _ => 0))), (q16, .inr (4, [.ref ct, .ref (f17 0)])), ((f17 0), .inl (cA 20, 64, .inl (fun _ => 0)))]) [.ref ct] (k_X4 l D cA q18 ct) ⟨hx, hb, hml, hown, hts⟩ ⟨tw_164, tw_61, tw_235, tw_163⟩ (by decide +kernel) ⟨(Nat.le_of_ble_eq_true rfl), (Nat.le_of_ble_eq_true rfl)⟩ ⟨rfl, rfl⟩ ⟨(Nat.le_of_ble_eq_true rfl), (Nat.le_of_ble_eq_true rfl)⟩ hK hAO hP hD hS hA rfl hl.1 (Nat.le_of_ble_eq_true rfl) dX0_init_34 rfl (fun f19 H locs hP hD hS => ?_)
  have hP : va_P D vwCl [(h0, .inr (0, [.ref q1])), (q1, .inl (cA 23, 9, .inr (.inr (.inr (.inr (va_up (va_up (va_up (va_up (va_up (va_up (va_up (va_up (fun _ => none) (nI 0).toNatClampNeg (some q2)) (nI 1).toNatClampNeg (some q4)) (nI 2).toNatClampNeg (some q6)) (nI 3).toNatClampNeg (some q8)) (nI 4).toNatClampNeg (some q10)) (nI 5).toNatClampNeg (some q12)) (nI 6).toNatClampNeg (some q14)) (nI 7).toNatClampNeg (some q16))))))), (q2, .inr (4, [.ref ct, .ref (f3 0)])), ((f3 0), .inl (cA 20, 64, .inl (fun _ => 0))), (q4, .inr (4, [.ref ct, .ref (f5 0)])), ((f5 0), .inl (cA 20, 64, .inl (fun _ => 0))), (q6, .inr (4, [.ref ct, .ref (f7 0)])), ((f7 0), .inl (cA 20, 64, .inl (fun _ => 0))), (q8, .inr (4, [.ref ct, .ref (f9 0)])), ((f9 0), .inl (cA 20, 64, .inl (fun _ => 0))), (q10, .inr (4, [.ref ct, .ref (f11 0)])), ((f11 0), .inl (cA 20, 64, .inl (fun _ => 0))), (q12, .inr (4, [.ref ct, .ref (f13 0)])), ((f13 0), .inl (cA 20, 64, .inl (fun _ => 0))), (q14, .inr (4, [.ref ct, .ref (f15 0)])), ((f15 0), .inl (cA 20, 64, .inl (fun _ => 0))), (q16, .inr (4, [.ref ct, .ref (f17 0)])), ((f17 0), .inl (cA 20, 64, .inl (fun _ => 0))), (q18, .inr (4, [.ref ct, .ref (f19 0)])), ((f19 0), .inl (cA 20, 64, .inl (fun _ => 0)))] H := hP
  have hD : va_D A [(h0, .inr (0, [.ref q1])), (q1, .inl (cA 23, 9, .inr (.inr (.inr (.inr (va_up (va_up (va_up (va_up (va_up (va_up (va_up (va_up (fun _ => none) (nI 0).toNatClampNeg (some q2)) (nI 1).toNatClampNeg (some q4)) (nI 2).toNatClampNeg (some q6)) (nI 3).toNatClampNeg (some q8)) (nI 4).toNatClampNeg (some q10)) (nI 5).toNatClampNeg (some q12)) (nI 6).toNatClampNeg (some q14)) (nI 7).toNatClampNeg (some q16))))))), (q2, .inr (4, [.ref ct, .ref (f3 0)])), ((f3 0), .inl (cA 20, 64, .inl (fun _ => 0))), (q4, .inr (4, [.ref ct, .ref (f5 0)])), ((f5 0), .inl (cA 20, 64, .inl (fun _ => 0))), (q6, .inr (4, [.ref ct, .ref (f7 0)])), ((f7 0), .inl (cA 20, 64, .inl (fun _ => 0))), (q8, .inr (4, [.ref ct, .ref (f9 0)])), ((f9 0), .inl (cA 20, 64, .inl (fun _ => 0))), (q10, .inr (4, [.ref ct, .ref (f11 0)])), ((f11 0), .inl (cA 20, 64, .inl (fun _ => 0))), (q12, .inr (4, [.ref ct, .ref (f13 0)])), ((f13 0), .inl (cA 20, 64, .inl (fun _ => 0))), (q14, .inr (4, [.ref ct, .ref (f15 0)])), ((f15 0), .inl (cA 20, 64, .inl (fun _ => 0))), (q16, .inr (4, [.ref ct, .ref (f17 0)])), ((f17 0), .inl (cA 20, 64, .inl (fun _ => 0))), (q18, .inr (4, [.ref ct, .ref (f19 0)])), ((f19 0), .inl (cA 20, 64, .inl (fun _ => 0)))] := hD
  refine va_astq (r := (RX4, TX4, 2)) hx hb hK hP hD hS 1 3 18 4 rfl rfl rfl rfl (vp_in_nI (by decide) (by decide)) dX0_init_37 (fun H locs hP hD hS => ?_)
  have hP : va_P D vwCl [(h0, .inr (0, [.ref q1])), (q1, .inl (cA 23, 9, .inr (.inr (.inr (.inr (va_up (va_up (va_up (va_up (va_up (va_up (va_up (va_up (va_up (fun _ => none) (nI 0).toNatClampNeg (some q2)) (nI 1).toNatClampNeg (some q4)) (nI 2).toNatClampNeg (some q6)) (nI 3).toNatClampNeg (some q8)) (nI 4).toNatClampNeg (some q10)) (nI 5).toNatClampNeg (some q12)) (nI 6).toNatClampNeg (some q14)) (nI 7).toNatClampNeg (some q16)) (nI 8).toNatClampNeg (some q18))))))), (q2, .inr (4, [.ref ct, .ref (f3 0)])), ((f3 0), .inl (cA 20, 64, .inl (fun _ => 0))), (q4, .inr (4, [.ref ct, .ref (f5 0)])), ((f5 0), .inl (cA 20, 64, .inl (fun _ => 0))), (q6, .inr (4, [.ref ct, .ref (f7 0)])), ((f7 0), .inl (cA 20, 64, .inl (fun _ => 0))), (q8, .inr (4, [.ref ct, .ref (f9 0)])), ((f9 0), .inl (cA 20, 64, .inl (fun _ => 0))), (q10, .inr (4, [.ref ct, .ref (f11 0)])), ((f11 0), .inl (cA 20, 64, .inl (fun _ => 0))), (q12, .inr (4, [.ref ct, .ref (f13 0)])), ((f13 0), .inl (cA 20, 64, .inl (fun _ => 0))), (q14, .inr (4, [.ref ct, .ref (f15 0)])), ((f15 0), .inl (cA 20, 64, .inl (fun _ => 0))), (q16, .inr (4, [.ref ct, .ref (f17 0)])), ((f17 0), .inl (cA 20, 64, .inl (fun _ => 0))), (q18, .inr (4, [.ref ct, .ref (f19 0)])), ((f19 0), .inl (cA 20, 64, .inl (fun _ => 0)))] H := hP
  have hD : va_D A [(h0, .inr (0, [.ref q1])), (q1, .inl (cA 23, 9, .inr (.inr (.inr (.inr (va_up (va_up (va_up (va_up (va_up (va_up (va_up (va_up (va_up (fun _ => none) (nI 0).toNatClampNeg (some q2)) (nI 1).toNatClampNeg (some q4)) (nI 2).toNatClampNeg (some q6)) (nI 3).toNatClampNeg (some q8)) (nI 4).toNatClampNeg (some q10)) (nI 5).toNatClampNeg (some q12)) (nI 6).toNatClampNeg (some q14)) (nI 7).toNatClampNeg (some q16)) (nI 8).toNatClampNeg (some q18))))))), (q2, .inr (4, [.ref ct, .ref (f3 0)])), ((f3 0), .inl (cA 20, 64, .inl (fun _ => 0))), (q4, .inr (4, [.ref ct, .ref (f5 0)])), ((f5 0), .inl (cA 20, 64, .inl (fun _ => 0))), (q6, .inr (4, [.ref ct, .ref (f7 0)])), ((f7 0), .inl (cA 20, 64, .inl (fun _ => 0))), (q8, .inr (4, [.ref ct, .ref (f9 0)])), ((f9 0), .inl (cA 20, 64, .inl (fun _ => 0))), (q10, .inr (4, [.ref ct, .ref (f11 0)])), ((f11 0), .inl (cA 20, 64, .inl (fun _ => 0))), (q12, .inr (4, [.ref ct, .ref (f13 0)])), ((f13 0), .inl (cA 20, 64, .inl (fun _ => 0))), (q14, .inr (4, [.ref ct, .ref (f15 0)])), ((f15 0), .inl (cA 20, 64, .inl (fun _ => 0))), (q16, .inr (4, [.ref ct, .ref (f17 0)])), ((f17 0), .inl (cA 20, 64, .inl (fun _ => 0))), (q18, .inr (4, [.ref ct, .ref (f19 0)])), ((f19 0), .inl (cA 20, 64, .inl (fun _ => 0)))] := hD
  refine lv_iinc (v := nI 9) (lv' := [(2, .int (nI 9)), (0, .ref h0), (1, .ref ct)]) hx hb dX0_init_38 hl (k := 0) rfl (by decide) (by decide) rfl (fun ls hl => ?_)
  refine lv_goto (tgt := 15) hx hb dX0_init_41 (by decide) ?_
  refine lv_iload_n hx hb dX0_init_15 rfl (lv_at hl 0 rfl) ?_
  refine lv_aload_n hx hb dX0_init_16 rfl (lv_at hl 1 rfl) ?_
  refine va_get (ci := 0) (v := .ref q1) (C := RX0) (T := TX0) (N := 1) hx hb hts inX0 hown hK hP 0 rfl rfl 0 (by decide) (hts _ tw_236) (fun _ h9 => h9) rfl dX0_init_17 ?_
  refine va_alen (v := nI 9) hx hb hK hP 1 3 rfl rfl rfl dX0_init_20 ?_
  refine lv_icmp_ge (tgt := 44) hx hb dX0_init_21 (by decide) (fun c_1 => ?_) (fun c_1 => absurd (by decide) c_1)
  have hD := ref_cgD (k := 1) (e := .inl (cA 23, 9, .inr (.inr (.inr (.inr (fun i => some ((fun k => ([q1, q2, (f3 0), q4, (f5 0), q6, (f7 0), q8, (f9 0), q10, (f11 0), q12, (f13 0), q14, (f15 0), q16, (f17 0), q18, (f19 0)] : List Nat).getD k 0) (1 + 2 * i)))))))) hD rfl
  have hP := ref_cg (k := 1) (g := (fun i => some ((fun k => ([q1, q2, (f3 0), q4, (f5 0), q6, (f7 0), q8, (f9 0), q10, (f11 0), q12, (f13 0), q14, (f15 0), q16, (f17 0), q18, (f19 0)] : List Nat).getD k 0) (1 + 2 * i)))) hP rfl (fun i hi => by match i, hi with | 0, _ => rfl | 1, _ => rfl | 2, _ => rfl | 3, _ => rfl | 4, _ => rfl | 5, _ => rfl | 6, _ => rfl | 7, _ => rfl | 8, _ => rfl)
  refine W.widen (k := 19) (n := 603) (Nat.le_of_ble_eq_true rfl) (Nat.le_of_ble_eq_true rfl) ?_
  exact W.vret hx hb hr (fun t ht hW => ⟨⟨(fun k => ([q1, q2, (f3 0), q4, (f5 0), q6, (f7 0), q8, (f9 0), q10, (f11 0), q12, (f13 0), q14, (f15 0), q16, (f17 0), q18, (f19 0)] : List Nat).getD k 0), rfl, trivial, by rw [ht]; exact hP, by rw [hAe]; exact hD⟩, hAe ▸ hS.F ht⟩) (fun q hq => hAe ▸ hS.2.2 q hq) dX0_init_44
