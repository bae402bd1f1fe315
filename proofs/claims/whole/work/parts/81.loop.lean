/-! THE LAW: the loop -/
theorem dL_law_18 : decode cL_law 18 = .ok (.iload_n 3, 1) := by decide +kernel
theorem dL_law_19 : decode cL_law 19 = .ok (.aload_n 0, 1) := by decide +kernel
theorem dL_law_20 : decode cL_law 20 = .ok (.arraylength, 1) := by decide +kernel
theorem dL_law_21 : decode cL_law 21 = .ok (.iconst 5, 1) := by decide +kernel
theorem dL_law_22 : decode cL_law 22 = .ok (.isub, 1) := by decide +kernel
theorem dL_law_23 : decode cL_law 23 = .ok (.if_icmp .gt 1011, 3) := by decide +kernel
theorem dL_law_26 : decode cL_law 26 = .ok (.aload_n 0, 1) := by decide +kernel
theorem dL_law_27 : decode cL_law 27 = .ok (.iload_n 3, 1) := by decide +kernel
theorem dL_law_28 : decode cL_law 28 = .ok (.iaload, 1) := by decide +kernel
theorem dL_law_29 : decode cL_law 29 = .ok (.bipush 31, 2) := by decide +kernel
theorem dL_law_31 : decode cL_law 31 = .ok (.iand, 1) := by decide +kernel
theorem dL_law_32 : decode cL_law 32 = .ok (.tableswitch 996 0 29 #[136, 159, 172, 185, 198, 231, 264, 297, 330, 363, 406, 429, 452, 485, 498, 521, 544, 577, 610, 653, 686, 709, 742, 775, 808, 851, 904, 947, 960, 973], 136) := by decide +kernel
theorem dL_law_1028 : decode cL_law 1028 = .ok (.iinc 3 5, 3) := by decide +kernel
theorem dL_law_1031 : decode cL_law 1031 = .ok (.goto (-1013), 3) := by decide +kernel
theorem dL_law_1034 : decode cL_law 1034 = .ok (.iconst 1, 1) := by decide +kernel
theorem dL_law_1035 : decode cL_law 1035 = .ok (.ireturn, 1) := by decide +kernel
theorem sub5 : ∀ n, n < 5 → (nI n - nI 5).toInt = (n : Int) - 5 := by decide +kernel
theorem lsub {n : Nat} (h : n ≤ 2560) : (nI n - nI 5).toInt = (n : Int) - 5 := by
  by_cases q : n < 5
  · exact sub5 n q
  · rw [pk_sub (by omega), nI_toInt (by omega)]; omega
set_option maxHeartbeats 4000000 in
set_option maxRecDepth 100000 in
theorem law_head {p : Program} {l : Launch} {e : Env} {s : State} {m : MethodId} {below : List Frame} {meth : Method} {c : Code} {cells slots : Nat} {Q : State → Prop} {b L : Nat} {xs : Nat → Int32} {EX EM : jE} {A B : Mem} {H : Heap} {locs : List Loc} {ls : Array Slot} {i : Nat} (C : lwX p s m c b L xs EX EM) (hi : i ≤ 3000) (hl : lv_has ls 4 [(3, .int (nI i)), (2, .ref (gad (gM EM) 0)), (1, .ref (gad (gX EX) 0)), (0, .ref b)]) (hS : lwS s EX EM A B H locs) (kx : ¬ i + 5 ≤ L → W p l e room_1 s m #[Value.ref b] below meth c H locs cells slots Q (F0 m 1034 ls [])) (kb : i + 5 ≤ L → W p l e room_1 s m #[Value.ref b] below meth c H locs cells slots Q (F0 m 26 ls [])) : W p l e room_1 s m #[Value.ref b] below meth c H locs cells slots Q (F0 m 18 ls []) := by
  have hx := C.1.1
  have hb := C.1.2.1
  have hL := C.2.1.2.2
  refine lv_iload_n hx hb dL_law_18 rfl (lv_at hl 0 rfl) ?_
  refine lv_aload_n hx hb dL_law_19 rfl (lv_at hl 3 rfl) ?_
  refine va_slen (A := lA s) (H0 := s.heap) hx hb C.2.1.1 C.2.1.2.1 (Nat.not_le.mpr C.2.1.2.1) hS.2.2 dL_law_20 ?_
  refine lv_iconst (v := nI 5) hx hb dL_law_21 (by decide) ?_
  refine lv_isub hx hb dL_law_22 ?_
  have e : nI L - nI 5 < nI i ↔ ¬ i + 5 ≤ L := by
    rw [Int32.lt_iff_toInt_lt, lsub hL, nI_toInt (by omega)]; omega
  exact lv_icmp_gt (tgt := 1034) hx hb dL_law_23 (by decide) (fun c_1 => kx (e.mp c_1)) (fun c_1 => kb (Decidable.not_not.mp (fun z => c_1 (e.mpr z))))
set_option maxHeartbeats 4000000 in
set_option maxRecDepth 100000 in
theorem law_body {p : Program} {l : Launch} {e : Env} {s : State} {m : MethodId} {below : List Frame} {meth : Method} {c : Code} {cells slots : Nat} {Q : State → Prop} {b L : Nat} {xs : Nat → Int32} {EX EM : jE} {A B : Mem} {H : Heap} {locs : List Loc} {ls : Array Slot} {i : Nat} (C : lwX p s m c b L xs EX EM) (hcs : cells ≤ room_1.cells ∧ slots ≤ room_1.slots) (hi : i + 5 ≤ L) (hrel : REL A B) (hl : lv_has ls 4 [(3, .int (nI i)), (2, .ref (gad (gM EM) 0)), (1, .ref (gad (gX EX) 0)), (0, .ref b)]) (hS : lwS s EX EM A B H locs) (kk : ∀ (A1 B1 : Mem) (H1 : Heap) (locs1 : List Loc), REL A1 B1 → lwS s EX EM A1 B1 H1 locs1 → W p l e room_1 s m #[Value.ref b] below meth c H1 locs1 cells slots Q (F0 m 1028 ls [])) : W p l e room_1 s m #[Value.ref b] below meth c H locs cells slots Q (F0 m 26 ls []) := by
  have hx := C.1.1
  have hb := C.1.2.1
  have hL := C.2.1.2.2
  refine lv_aload_n hx hb dL_law_26 rfl (lv_at hl 3 rfl) ?_
  refine lv_iload_n hx hb dL_law_27 rfl (lv_at hl 0 rfl) ?_
  refine va_sld (A := lA s) (H0 := s.heap) hx hb C.2.1.1 C.2.1.2.1 (Nat.not_le.mpr C.2.1.2.1) hS.2.2 (vp_in_nI (by omega) (by omega)) dL_law_28 ?_
  refine lv_bipush (v := 31) hx hb dL_law_29 (by decide) ?_
  refine lv_iand hx hb dL_law_31 ?_
  obtain ⟨j, hj, ej⟩ := pk_andE (xs (nI i).toNatClampNeg) (m := 31) 5 (by decide)
  rw [ej]
  match j, hj with
  | 0, _ => exact lv_tableIn (off := 136) (tgt := 168) hx hb dL_law_32 (by decide) (by decide) rfl (by decide) (lc_0 C hcs hi hrel hl hS kk)
  | 1, _ => exact lv_tableIn (off := 159) (tgt := 191) hx hb dL_law_32 (by decide) (by decide) rfl (by decide) (lc_1 C hcs hi hrel hl hS kk)
  | 2, _ => exact lv_tableIn (off := 172) (tgt := 204) hx hb dL_law_32 (by decide) (by decide) rfl (by decide) (lc_2 C hcs hi hrel hl hS kk)
  | 3, _ => exact lv_tableIn (off := 185) (tgt := 217) hx hb dL_law_32 (by decide) (by decide) rfl (by decide) (lc_3 C hcs hi hrel hl hS kk)
  | 4, _ => exact lv_tableIn (off := 198) (tgt := 230) hx hb dL_law_32 (by decide) (by decide) rfl (by decide) (lc_4 C hcs hi hrel hl hS kk)
  | 5, _ => exact lv_tableIn (off := 231) (tgt := 263) hx hb dL_law_32 (by decide) (by decide) rfl (by decide) (lc_5 C hcs hi hrel hl hS kk)
  | 6, _ => exact lv_tableIn (off := 264) (tgt := 296) hx hb dL_law_32 (by decide) (by decide) rfl (by decide) (lc_6 C hcs hi hrel hl hS kk)
  | 7, _ => exact lv_tableIn (off := 297) (tgt := 329) hx hb dL_law_32 (by decide) (by decide) rfl (by decide) (lc_7 C hcs hi hrel hl hS kk)
  | 8, _ => exact lv_tableIn (off := 330) (tgt := 362) hx hb dL_law_32 (by decide) (by decide) rfl (by decide) (lc_8 C hcs hi hrel hl hS kk)
  | 9, _ => exact lv_tableIn (off := 363) (tgt := 395) hx hb dL_law_32 (by decide) (by decide) rfl (by decide) (lc_9 C hcs hi hrel hl hS kk)
  | 10, _ => exact lv_tableIn (off := 406) (tgt := 438) hx hb dL_law_32 (by decide) (by decide) rfl (by decide) (lc_10 C hcs hi hrel hl hS kk)
  | 11, _ => exact lv_tableIn (off := 429) (tgt := 461) hx hb dL_law_32 (by decide) (by decide) rfl (by decide) (lc_11 C hcs hi hrel hl hS kk)
  | 12, _ => exact lv_tableIn (off := 452) (tgt := 484) hx hb dL_law_32 (by decide) (by decide) rfl (by decide) (lc_12 C hcs hi hrel hl hS kk)
  | 13, _ => exact lv_tableIn (off := 485) (tgt := 517) hx hb dL_law_32 (by decide) (by decide) rfl (by decide) (lc_13 C hcs hi hrel hl hS kk)
  | 14, _ => exact lv_tableIn (off := 498) (tgt := 530) hx hb dL_law_32 (by decide) (by decide) rfl (by decide) (lc_14 C hcs hi hrel hl hS kk)
  | 15, _ => exact lv_tableIn (off := 521) (tgt := 553) hx hb dL_law_32 (by decide) (by decide) rfl (by decide) (lc_15 C hcs hi hrel hl hS kk)
  | 16, _ => exact lv_tableIn (off := 544) (tgt := 576) hx hb dL_law_32 (by decide) (by decide) rfl (by decide) (lc_16 C hcs hi hrel hl hS kk)
  | 17, _ => exact lv_tableIn (off := 577) (tgt := 609) hx hb dL_law_32 (by decide) (by decide) rfl (by decide) (lc_17 C hcs hi hrel hl hS kk)
  | 18, _ => exact lv_tableIn (off := 610) (tgt := 642) hx hb dL_law_32 (by decide) (by decide) rfl (by decide) (lc_18 C hcs hi hrel hl hS kk)
  | 19, _ => exact lv_tableIn (off := 653) (tgt := 685) hx hb dL_law_32 (by decide) (by decide) rfl (by decide) (lc_19 C hcs hi hrel hl hS kk)
  | 20, _ => exact lv_tableIn (off := 686) (tgt := 718) hx hb dL_law_32 (by decide) (by decide) rfl (by decide) (lc_20 C hcs hi hrel hl hS kk)
  | 21, _ => exact lv_tableIn (off := 709) (tgt := 741) hx hb dL_law_32 (by decide) (by decide) rfl (by decide) (lc_21 C hcs hi hrel hl hS kk)
  | 22, _ => exact lv_tableIn (off := 742) (tgt := 774) hx hb dL_law_32 (by decide) (by decide) rfl (by decide) (lc_22 C hcs hi hrel hl hS kk)
  | 23, _ => exact lv_tableIn (off := 775) (tgt := 807) hx hb dL_law_32 (by decide) (by decide) rfl (by decide) (lc_23 C hcs hi hrel hl hS kk)
  | 24, _ => exact lv_tableIn (off := 808) (tgt := 840) hx hb dL_law_32 (by decide) (by decide) rfl (by decide) (lc_24 C hcs hi hrel hl hS kk)
  | 25, _ => exact lv_tableIn (off := 851) (tgt := 883) hx hb dL_law_32 (by decide) (by decide) rfl (by decide) (lc_25 C hcs hi hrel hl hS kk)
  | 26, _ => exact lv_tableIn (off := 904) (tgt := 936) hx hb dL_law_32 (by decide) (by decide) rfl (by decide) (lc_26 C hcs hi hrel hl hS kk)
  | 27, _ => exact lv_tableIn (off := 947) (tgt := 979) hx hb dL_law_32 (by decide) (by decide) rfl (by decide) (lc_27 C hcs hi hrel hl hS kk)
  | 28, _ => exact lv_tableIn (off := 960) (tgt := 992) hx hb dL_law_32 (by decide) (by decide) rfl (by decide) (lc_28 C hcs hi hrel hl hS kk)
  | 29, _ => exact lv_tableIn (off := 973) (tgt := 1005) hx hb dL_law_32 (by decide) (by decide) rfl (by decide) (lc_29 C hcs hi hrel hl hS kk)
  | 30, _ => exact lv_tableOut (tgt := 1028) hx hb dL_law_32 (Or.inr (by decide)) (by decide) (kk A B H locs hrel hS)
  | 31, _ => exact lv_tableOut (tgt := 1028) hx hb dL_law_32 (Or.inr (by decide)) (by decide) (kk A B H locs hrel hS)
  | n + 32, h => exact absurd h (by omega)
set_option maxHeartbeats 4000000 in
set_option maxRecDepth 100000 in
theorem law_loop {p : Program} {l : Launch} {e : Env} {s : State} {m : MethodId} {below : List Frame} {meth : Method} {c : Code} {cells slots : Nat} {b L : Nat} {xs : Nat → Int32} {EX EM : jE} (C : lwX p s m c b L xs EX EM) (hr : meth.sig.returnType = ret) (hlocks : meth.locks = false) (hcs : cells ≤ 600000 ∧ slots ≤ 7302250) : ∀ (n i : Nat) (A B : Mem) (H : Heap) (locs : List Loc) (ls : Array Slot), L < i + n → i ≤ L + 5 → REL A B → lv_has ls 4 [(3, .int (nI i)), (2, .ref (gad (gM EM) 0)), (1, .ref (gad (gX EX) 0)), (0, .ref b)] → lwS s EX EM A B H locs → W p l e room_1 s m #[Value.ref b] below meth c H locs cells slots (lw_Z below #[Value.ref b] s) (F0 m 18 ls []) := by
  intro n
  have hx := C.1.1
  have hb := C.1.2.1
  have hL := C.2.1.2.2
  have out : ∀ (H : Heap) (locs : List Loc) (ls : Array Slot), va_S (lA s) s.heap H locs → W p l e room_1 s m #[Value.ref b] below meth c H locs cells slots (lw_Z below #[Value.ref b] s) (F0 m 1034 ls []) := fun H locs ls hS => by
    refine lv_iconst (v := 1) hx hb dL_law_1034 (by decide) ?_
    refine va_forget (fun q hq => hS.2.2 q hq) ?_
    refine W.widen (k := 600000) (n := 7302250) hcs.1 hcs.2 ?_
    exact lw_ret hx hb hr hlocks dL_law_1035
  induction n with
  | zero =>
    intro i A B H locs ls hn hi hrel hl hS
    exact law_head C (by omega) hl hS (fun _ => out H locs ls hS.2.2) (fun h => absurd h (by omega))
  | succ n ih =>
    intro i A B H locs ls hn hi hrel hl hS
    refine law_head C (by omega) hl hS (fun _ => out H locs ls hS.2.2) (fun h => ?_)
    refine law_body C hcs h hrel hl hS (fun A1 B1 H1 locs1 hrel1 hS1 => ?_)
    refine lv_iinc (v := nI (i + 5)) (lv' := [(3, .int (nI (i + 5))), (2, .ref (gad (gM EM) 0)), (1, .ref (gad (gX EX) 0)), (0, .ref b)]) hx hb dL_law_1028 hl (k := 0) rfl (by rw [show Int32.ofInt 5 = nI 5 by decide, nI_add]) (by decide) rfl (fun ls hl => ?_)
    refine lv_goto (tgt := 18) hx hb dL_law_1031 (by decide) ?_
    exact ih (i + 5) A1 B1 H1 locs1 ls (by omega) (by omega) hrel1 hl hS1
