/-! THE LAW: cases 0 to 9 -/
theorem tw_452 : Cond.methodLink "DonkeyVerdictsLaw" 13 yX9_write ∈ tbg := tbg_in (List.mem_of_getElem? (l := tables_1_2) (i := 156) rfl) tq_2 rfl
theorem tw_457 : Cond.methodLink "DonkeyVerdictsLaw" 18 yX9_wipe ∈ tbg := tbg_in (List.mem_of_getElem? (l := tables_1_2) (i := 161) rfl) tq_2 rfl
theorem tw_461 : Cond.methodLink "DonkeyVerdictsLaw" 23 yX9_fault ∈ tbg := tbg_in (List.mem_of_getElem? (l := tables_1_2) (i := 165) rfl) tq_2 rfl
theorem tw_465 : Cond.methodLink "DonkeyVerdictsLaw" 27 yX9_lay ∈ tbg := tbg_in (List.mem_of_getElem? (l := tables_1_2) (i := 169) rfl) tq_2 rfl
theorem tw_474 : Cond.methodLink "DonkeyVerdictsLaw" 31 yX9_place ∈ tbg := tbg_in (List.mem_of_getElem? (l := tables_1_2) (i := 178) rfl) tq_2 rfl
theorem tw_500 : Cond.methodLink "DonkeyVerdictsLaw" 36 yX9_way ∈ tbg := tbg_in (List.mem_of_getElem? (l := tables_1_2) (i := 204) rfl) tq_2 rfl
theorem tw_505 : Cond.methodLink "DonkeyVerdictsLaw" 40 yX9_door ∈ tbg := tbg_in (List.mem_of_getElem? (l := tables_1_2) (i := 209) rfl) tq_2 rfl
theorem tw_521 : Cond.methodLink "DonkeyVerdictsLaw" 44 yX9_beast ∈ tbg := tbg_in (List.mem_of_getElem? (l := tables_1_2) (i := 225) rfl) tq_2 rfl
theorem tw_538 : Cond.methodLink "DonkeyVerdictsLaw" 48 yX9_sign ∈ tbg := tbg_in (List.mem_of_getElem? (l := tables_1_3) (i := 2) rfl) tq_3 rfl
theorem tw_559 : Cond.methodLink "DonkeyVerdictsLaw" 52 yX9_send ∈ tbg := tbg_in (List.mem_of_getElem? (l := tables_1_3) (i := 23) rfl) tq_3 rfl
theorem tw_591 : Cond.methodLink "DonkeyVerdictsLaw" 57 yX9_pass ∈ tbg := tbg_in (List.mem_of_getElem? (l := tables_1_3) (i := 55) rfl) tq_3 rfl
theorem tw_628 : Cond.methodLink "DonkeyVerdictsLaw" 61 yX9_home ∈ tbg := tbg_in (List.mem_of_getElem? (l := tables_1_3) (i := 92) rfl) tq_3 rfl
theorem tw_647 : Cond.methodLink "DonkeyVerdictsLaw" 65 yX9_carrots ∈ tbg := tbg_in (List.mem_of_getElem? (l := tables_1_3) (i := 111) rfl) tq_3 rfl
theorem tw_652 : Cond.methodLink "DonkeyVerdictsLaw" 69 yX9_undo ∈ tbg := tbg_in (List.mem_of_getElem? (l := tables_1_3) (i := 116) rfl) tq_3 rfl
theorem tw_664 : Cond.methodLink "DonkeyVerdictsLaw" 73 yX9_arrives ∈ tbg := tbg_in (List.mem_of_getElem? (l := tables_1_3) (i := 128) rfl) tq_3 rfl
theorem tw_679 : Cond.methodLink "DonkeyVerdictsLaw" 77 yX9_reading ∈ tbg := tbg_in (List.mem_of_getElem? (l := tables_1_3) (i := 143) rfl) tq_3 rfl
theorem tw_688 : Cond.methodLink "DonkeyVerdictsLaw" 81 yX9_right ∈ tbg := tbg_in (List.mem_of_getElem? (l := tables_1_3) (i := 152) rfl) tq_3 rfl
theorem tw_703 : Cond.methodLink "DonkeyVerdictsLaw" 85 yX9_soonest ∈ tbg := tbg_in (List.mem_of_getElem? (l := tables_1_3) (i := 167) rfl) tq_3 rfl
theorem tw_711 : Cond.methodLink "DonkeyVerdictsLaw" 89 yX9_tell ∈ tbg := tbg_in (List.mem_of_getElem? (l := tables_1_3) (i := 175) rfl) tq_3 rfl
theorem tw_723 : Cond.methodLink "DonkeyVerdictsLaw" 93 yX9_deal ∈ tbg := tbg_in (List.mem_of_getElem? (l := tables_1_3) (i := 187) rfl) tq_3 rfl
theorem tw_762 : Cond.methodLink "DonkeyVerdictsLaw" 97 yX9_lure ∈ tbg := tbg_in (List.mem_of_getElem? (l := tables_1_3) (i := 226) rfl) tq_3 rfl
theorem tw_774 : Cond.methodLink "DonkeyVerdictsLaw" 101 yX9_next ∈ tbg := tbg_in (List.mem_of_getElem? (l := tables_1_3) (i := 238) rfl) tq_3 rfl
theorem tw_783 : Cond.methodLink "DonkeyVerdictsLaw" 105 yX9_meet ∈ tbg := tbg_in (List.mem_of_getElem? (l := tables_1_4) (i := 7) rfl) tq_4 rfl
theorem tw_793 : Cond.methodLink "DonkeyVerdictsLaw" 109 yX9_told ∈ tbg := tbg_in (List.mem_of_getElem? (l := tables_1_4) (i := 17) rfl) tq_4 rfl
theorem tw_801 : Cond.methodLink "DonkeyVerdictsLaw" 113 yX9_who ∈ tbg := tbg_in (List.mem_of_getElem? (l := tables_1_4) (i := 25) rfl) tq_4 rfl
theorem tw_811 : Cond.methodLink "DonkeyVerdictsLaw" 117 yX9_balks ∈ tbg := tbg_in (List.mem_of_getElem? (l := tables_1_4) (i := 35) rfl) tq_4 rfl
theorem tw_834 : Cond.methodLink "DonkeyVerdictsLaw" 122 yX9_year ∈ tbg := tbg_in (List.mem_of_getElem? (l := tables_1_4) (i := 58) rfl) tq_4 rfl
theorem tw_866 : Cond.methodLink "DonkeyVerdictsLaw" 126 yX9_keep ∈ tbg := tbg_in (List.mem_of_getElem? (l := tables_1_4) (i := 90) rfl) tq_4 rfl
theorem tw_870 : Cond.methodLink "DonkeyVerdictsLaw" 130 yX9_back ∈ tbg := tbg_in (List.mem_of_getElem? (l := tables_1_4) (i := 94) rfl) tq_4 rfl
theorem tw_874 : Cond.methodLink "DonkeyVerdictsLaw" 134 yX9_count ∈ tbg := tbg_in (List.mem_of_getElem? (l := tables_1_4) (i := 98) rfl) tq_4 rfl
theorem tw_1011 : Cond.methodLink "DonkeyVerdictsLaw" 17 yX10_write ∈ tbg := tbg_in (List.mem_of_getElem? (l := tables_1_4) (i := 235) rfl) tq_4 rfl
theorem tw_1020 : Cond.methodLink "DonkeyVerdictsLaw" 22 yX10_wipe ∈ tbg := tbg_in (List.mem_of_getElem? (l := tables_1_5) (i := 4) rfl) tq_5 rfl
theorem tw_1024 : Cond.methodLink "DonkeyVerdictsLaw" 26 yX10_fault ∈ tbg := tbg_in (List.mem_of_getElem? (l := tables_1_5) (i := 8) rfl) tq_5 rfl
theorem tw_1062 : Cond.methodLink "DonkeyVerdictsLaw" 30 yX10_lay ∈ tbg := tbg_in (List.mem_of_getElem? (l := tables_1_5) (i := 46) rfl) tq_5 rfl
theorem tw_1066 : Cond.methodLink "DonkeyVerdictsLaw" 35 yX10_place ∈ tbg := tbg_in (List.mem_of_getElem? (l := tables_1_5) (i := 50) rfl) tq_5 rfl
theorem tw_1079 : Cond.methodLink "DonkeyVerdictsLaw" 39 yX10_way ∈ tbg := tbg_in (List.mem_of_getElem? (l := tables_1_5) (i := 63) rfl) tq_5 rfl
theorem tw_1083 : Cond.methodLink "DonkeyVerdictsLaw" 43 yX10_door ∈ tbg := tbg_in (List.mem_of_getElem? (l := tables_1_5) (i := 67) rfl) tq_5 rfl
theorem tw_1091 : Cond.methodLink "DonkeyVerdictsLaw" 47 yX10_beast ∈ tbg := tbg_in (List.mem_of_getElem? (l := tables_1_5) (i := 75) rfl) tq_5 rfl
theorem tw_1100 : Cond.methodLink "DonkeyVerdictsLaw" 51 yX10_sign ∈ tbg := tbg_in (List.mem_of_getElem? (l := tables_1_5) (i := 84) rfl) tq_5 rfl
theorem tw_1115 : Cond.methodLink "DonkeyVerdictsLaw" 56 yX10_send ∈ tbg := tbg_in (List.mem_of_getElem? (l := tables_1_5) (i := 99) rfl) tq_5 rfl
theorem tw_1131 : Cond.methodLink "DonkeyVerdictsLaw" 60 yX10_pass ∈ tbg := tbg_in (List.mem_of_getElem? (l := tables_1_5) (i := 115) rfl) tq_5 rfl
theorem tw_1163 : Cond.methodLink "DonkeyVerdictsLaw" 64 yX10_home ∈ tbg := tbg_in (List.mem_of_getElem? (l := tables_1_5) (i := 147) rfl) tq_5 rfl
theorem tw_1175 : Cond.methodLink "DonkeyVerdictsLaw" 68 yX10_carrots ∈ tbg := tbg_in (List.mem_of_getElem? (l := tables_1_5) (i := 159) rfl) tq_5 rfl
theorem tw_1180 : Cond.methodLink "DonkeyVerdictsLaw" 72 yX10_undo ∈ tbg := tbg_in (List.mem_of_getElem? (l := tables_1_5) (i := 164) rfl) tq_5 rfl
theorem tw_1184 : Cond.methodLink "DonkeyVerdictsLaw" 76 yX10_arrives ∈ tbg := tbg_in (List.mem_of_getElem? (l := tables_1_5) (i := 168) rfl) tq_5 rfl
theorem tw_1192 : Cond.methodLink "DonkeyVerdictsLaw" 80 yX10_reading ∈ tbg := tbg_in (List.mem_of_getElem? (l := tables_1_5) (i := 176) rfl) tq_5 rfl
theorem tw_1200 : Cond.methodLink "DonkeyVerdictsLaw" 84 yX10_right ∈ tbg := tbg_in (List.mem_of_getElem? (l := tables_1_5) (i := 184) rfl) tq_5 rfl
theorem tw_1208 : Cond.methodLink "DonkeyVerdictsLaw" 88 yX10_soonest ∈ tbg := tbg_in (List.mem_of_getElem? (l := tables_1_5) (i := 192) rfl) tq_5 rfl
theorem tw_1212 : Cond.methodLink "DonkeyVerdictsLaw" 92 yX10_tell ∈ tbg := tbg_in (List.mem_of_getElem? (l := tables_1_5) (i := 196) rfl) tq_5 rfl
theorem tw_1216 : Cond.methodLink "DonkeyVerdictsLaw" 96 yX10_deal ∈ tbg := tbg_in (List.mem_of_getElem? (l := tables_1_5) (i := 200) rfl) tq_5 rfl
theorem tw_1225 : Cond.methodLink "DonkeyVerdictsLaw" 100 yX10_lure ∈ tbg := tbg_in (List.mem_of_getElem? (l := tables_1_5) (i := 209) rfl) tq_5 rfl
theorem tw_1229 : Cond.methodLink "DonkeyVerdictsLaw" 104 yX10_next ∈ tbg := tbg_in (List.mem_of_getElem? (l := tables_1_5) (i := 213) rfl) tq_5 rfl
theorem tw_1233 : Cond.methodLink "DonkeyVerdictsLaw" 108 yX10_meet ∈ tbg := tbg_in (List.mem_of_getElem? (l := tables_1_5) (i := 217) rfl) tq_5 rfl
theorem tw_1237 : Cond.methodLink "DonkeyVerdictsLaw" 112 yX10_told ∈ tbg := tbg_in (List.mem_of_getElem? (l := tables_1_5) (i := 221) rfl) tq_5 rfl
theorem tw_1241 : Cond.methodLink "DonkeyVerdictsLaw" 116 yX10_who ∈ tbg := tbg_in (List.mem_of_getElem? (l := tables_1_5) (i := 225) rfl) tq_5 rfl
theorem tw_1245 : Cond.methodLink "DonkeyVerdictsLaw" 121 yX10_balks ∈ tbg := tbg_in (List.mem_of_getElem? (l := tables_1_5) (i := 229) rfl) tq_5 rfl
theorem tw_1251 : Cond.methodLink "DonkeyVerdictsLaw" 125 yX10_year ∈ tbg := tbg_in (List.mem_of_getElem? (l := tables_1_5) (i := 235) rfl) tq_5 rfl
theorem tw_1264 : Cond.methodLink "DonkeyVerdictsLaw" 129 yX10_keep ∈ tbg := tbg_in (List.mem_of_getElem? (l := tables_1_6) (i := 8) rfl) tq_6 rfl
theorem tw_1268 : Cond.methodLink "DonkeyVerdictsLaw" 133 yX10_back ∈ tbg := tbg_in (List.mem_of_getElem? (l := tables_1_6) (i := 12) rfl) tq_6 rfl
theorem tw_1272 : Cond.methodLink "DonkeyVerdictsLaw" 137 yX10_count ∈ tbg := tbg_in (List.mem_of_getElem? (l := tables_1_6) (i := 16) rfl) tq_6 rfl
theorem dL_law_168 : decode cL_law 168 = .ok (.aload_n 1, 1) := by decide +kernel
theorem dL_law_169 : decode cL_law 169 = .ok (.aload_n 0, 1) := by decide +kernel
theorem dL_law_170 : decode cL_law 170 = .ok (.iload_n 3, 1) := by decide +kernel
theorem dL_law_171 : decode cL_law 171 = .ok (.iconst 1, 1) := by decide +kernel
theorem dL_law_172 : decode cL_law 172 = .ok (.iadd, 1) := by decide +kernel
theorem dL_law_173 : decode cL_law 173 = .ok (.iaload, 1) := by decide +kernel
theorem dL_law_174 : decode cL_law 174 = .ok (.invokevirtual 13, 3) := by decide +kernel
theorem dL_law_177 : decode cL_law 177 = .ok (.aload_n 2, 1) := by decide +kernel
theorem dL_law_178 : decode cL_law 178 = .ok (.aload_n 0, 1) := by decide +kernel
theorem dL_law_179 : decode cL_law 179 = .ok (.iload_n 3, 1) := by decide +kernel
theorem dL_law_180 : decode cL_law 180 = .ok (.iconst 1, 1) := by decide +kernel
theorem dL_law_181 : decode cL_law 181 = .ok (.iadd, 1) := by decide +kernel
theorem dL_law_182 : decode cL_law 182 = .ok (.iaload, 1) := by decide +kernel
theorem dL_law_183 : decode cL_law 183 = .ok (.invokevirtual 17, 3) := by decide +kernel
theorem dL_law_186 : decode cL_law 186 = .ok (.if_icmp .eq 842, 3) := by decide +kernel
set_option maxHeartbeats 4000000 in
set_option maxRecDepth 100000 in
theorem lc_0 {p : Program} {l : Launch} {e : Env} {s : State} {m : MethodId} {below : List Frame} {meth : Method} {c : Code} {cells slots : Nat} {Q : State → Prop} {b L : Nat} {xs : Nat → Int32} {EX EM : jE} {A B : Mem} {H : Heap} {locs : List Loc} {ls : Array Slot} {i : Nat} (C : lwX p s m c b L xs EX EM) (hcs : cells ≤ room_1.cells ∧ slots ≤ room_1.slots) (hi : i + 5 ≤ L) (hrel : REL A B) (hl : lv_has ls 4 [(3, .int (nI i)), (2, .ref (gad (gM EM) 0)), (1, .ref (gad (gX EX) 0)), (0, .ref b)]) (hS : lwS s EX EM A B H locs) (kk : ∀ (A1 B1 : Mem) (H1 : Heap) (locs1 : List Loc), REL A1 B1 → lwS s EX EM A1 B1 H1 locs1 → W p l e room_1 s m #[Value.ref b] below meth c H1 locs1 cells slots Q (F0 m 1028 ls [])) : W p l e room_1 s m #[Value.ref b] below meth c H locs cells slots Q (F0 m 168 ls []) := by
  obtain ⟨r, A1, B1, e1, e2, hrel1⟩ := a_write (fu := 1001) hrel (by decide) ((xs (nI i + nI 1).toNatClampNeg))
  have hx := C.1.1
  have hb := C.1.2.1
  refine lv_aload_n hx hb dL_law_168 rfl (lv_at hl 2 rfl) ?_
  refine lv_aload_n hx hb dL_law_169 rfl (lv_at hl 3 rfl) ?_
  refine lv_iload_n hx hb dL_law_170 rfl (lv_at hl 0 rfl) ?_
  refine lv_iconst (v := nI 1) hx hb dL_law_171 (by decide) ?_
  refine lv_iadd hx hb dL_law_172 ?_
  refine lw_arg (k := 1) C hS (by omega) dL_law_173 ?_
  refine lw_callX C [.int (xs (nI i + nI 1).toNatClampNeg)] (mX9_write l EX C.2.2.2.1.1 1001 ((xs (nI i + nI 1).toNatClampNeg)) _) e1 qX9_write tw_452 rfl rfl ⟨rfl, rfl⟩ ⟨(Nat.le_of_ble_eq_true rfl), (Nat.le_of_ble_eq_true rfl)⟩ (Nat.le_of_ble_eq_true rfl) hl.1 dL_law_174 hS hcs rfl (fun H locs hS => ?_)
  refine lv_aload_n hx hb dL_law_177 rfl (lv_at hl 1 rfl) ?_
  refine lv_aload_n hx hb dL_law_178 rfl (lv_at hl 3 rfl) ?_
  refine lv_iload_n hx hb dL_law_179 rfl (lv_at hl 0 rfl) ?_
  refine lv_iconst (v := nI 1) hx hb dL_law_180 (by decide) ?_
  refine lv_iadd hx hb dL_law_181 ?_
  refine lw_arg (k := 1) C hS (by omega) dL_law_182 ?_
  refine lw_callM C [.int (xs (nI i + nI 1).toNatClampNeg)] (mX10_write l EM C.2.2.2.1.2 1001 ((xs (nI i + nI 1).toNatClampNeg)) _) e2 qX10_write tw_1011 rfl rfl ⟨rfl, rfl⟩ ⟨(Nat.le_of_ble_eq_true rfl), (Nat.le_of_ble_eq_true rfl)⟩ (Nat.le_of_ble_eq_true rfl) hl.1 dL_law_183 hS hcs rfl (fun H locs hS => ?_)
  exact lv_icmp_eq (tgt := 1028) hx hb dL_law_186 (by decide) (fun _ => kk _ _ H locs hrel1 hS) (fun c_1 => absurd rfl c_1)
theorem dL_law_191 : decode cL_law 191 = .ok (.aload_n 1, 1) := by decide +kernel
theorem dL_law_192 : decode cL_law 192 = .ok (.invokevirtual 18, 3) := by decide +kernel
theorem dL_law_195 : decode cL_law 195 = .ok (.aload_n 2, 1) := by decide +kernel
theorem dL_law_196 : decode cL_law 196 = .ok (.invokevirtual 22, 3) := by decide +kernel
theorem dL_law_199 : decode cL_law 199 = .ok (.if_icmp .eq 829, 3) := by decide +kernel
set_option maxHeartbeats 4000000 in
set_option maxRecDepth 100000 in
theorem lc_1 {p : Program} {l : Launch} {e : Env} {s : State} {m : MethodId} {below : List Frame} {meth : Method} {c : Code} {cells slots : Nat} {Q : State → Prop} {b L : Nat} {xs : Nat → Int32} {EX EM : jE} {A B : Mem} {H : Heap} {locs : List Loc} {ls : Array Slot} {i : Nat} (C : lwX p s m c b L xs EX EM) (hcs : cells ≤ room_1.cells ∧ slots ≤ room_1.slots) (hi : i + 5 ≤ L) (hrel : REL A B) (hl : lv_has ls 4 [(3, .int (nI i)), (2, .ref (gad (gM EM) 0)), (1, .ref (gad (gX EX) 0)), (0, .ref b)]) (hS : lwS s EX EM A B H locs) (kk : ∀ (A1 B1 : Mem) (H1 : Heap) (locs1 : List Loc), REL A1 B1 → lwS s EX EM A1 B1 H1 locs1 → W p l e room_1 s m #[Value.ref b] below meth c H1 locs1 cells slots Q (F0 m 1028 ls [])) : W p l e room_1 s m #[Value.ref b] below meth c H locs cells slots Q (F0 m 191 ls []) := by
  obtain ⟨r, A1, B1, e1, e2, hrel1⟩ := a_wipe (fu := 1001) hrel (by decide) 
  have hx := C.1.1
  have hb := C.1.2.1
  refine lv_aload_n hx hb dL_law_191 rfl (lv_at hl 2 rfl) ?_
  refine lw_callX C [] (mX9_wipe l EX C.2.2.2.1.1 1001  _) e1 qX9_wipe tw_457 rfl rfl ⟨rfl, rfl⟩ ⟨(Nat.le_of_ble_eq_true rfl), (Nat.le_of_ble_eq_true rfl)⟩ (Nat.le_of_ble_eq_true rfl) hl.1 dL_law_192 hS hcs rfl (fun H locs hS => ?_)
  refine lv_aload_n hx hb dL_law_195 rfl (lv_at hl 1 rfl) ?_
  refine lw_callM C [] (mX10_wipe l EM C.2.2.2.1.2 1001  _) e2 qX10_wipe tw_1020 rfl rfl ⟨rfl, rfl⟩ ⟨(Nat.le_of_ble_eq_true rfl), (Nat.le_of_ble_eq_true rfl)⟩ (Nat.le_of_ble_eq_true rfl) hl.1 dL_law_196 hS hcs rfl (fun H locs hS => ?_)
  exact lv_icmp_eq (tgt := 1028) hx hb dL_law_199 (by decide) (fun _ => kk _ _ H locs hrel1 hS) (fun c_1 => absurd rfl c_1)
theorem dL_law_204 : decode cL_law 204 = .ok (.aload_n 1, 1) := by decide +kernel
theorem dL_law_205 : decode cL_law 205 = .ok (.invokevirtual 23, 3) := by decide +kernel
theorem dL_law_208 : decode cL_law 208 = .ok (.aload_n 2, 1) := by decide +kernel
theorem dL_law_209 : decode cL_law 209 = .ok (.invokevirtual 26, 3) := by decide +kernel
theorem dL_law_212 : decode cL_law 212 = .ok (.if_icmp .eq 816, 3) := by decide +kernel
set_option maxHeartbeats 4000000 in
set_option maxRecDepth 100000 in
theorem lc_2 {p : Program} {l : Launch} {e : Env} {s : State} {m : MethodId} {below : List Frame} {meth : Method} {c : Code} {cells slots : Nat} {Q : State → Prop} {b L : Nat} {xs : Nat → Int32} {EX EM : jE} {A B : Mem} {H : Heap} {locs : List Loc} {ls : Array Slot} {i : Nat} (C : lwX p s m c b L xs EX EM) (hcs : cells ≤ room_1.cells ∧ slots ≤ room_1.slots) (hi : i + 5 ≤ L) (hrel : REL A B) (hl : lv_has ls 4 [(3, .int (nI i)), (2, .ref (gad (gM EM) 0)), (1, .ref (gad (gX EX) 0)), (0, .ref b)]) (hS : lwS s EX EM A B H locs) (kk : ∀ (A1 B1 : Mem) (H1 : Heap) (locs1 : List Loc), REL A1 B1 → lwS s EX EM A1 B1 H1 locs1 → W p l e room_1 s m #[Value.ref b] below meth c H1 locs1 cells slots Q (F0 m 1028 ls [])) : W p l e room_1 s m #[Value.ref b] below meth c H locs cells slots Q (F0 m 204 ls []) := by
  obtain ⟨r, A1, B1, e1, e2, hrel1⟩ := a_fault (fu := 1001) hrel (by decide) 
  have hx := C.1.1
  have hb := C.1.2.1
  refine lv_aload_n hx hb dL_law_204 rfl (lv_at hl 2 rfl) ?_
  refine lw_callX C [] (mX9_fault l EX C.2.2.2.1.1 1001  _) e1 qX9_fault tw_461 rfl rfl ⟨rfl, rfl⟩ ⟨(Nat.le_of_ble_eq_true rfl), (Nat.le_of_ble_eq_true rfl)⟩ (Nat.le_of_ble_eq_true rfl) hl.1 dL_law_205 hS hcs rfl (fun H locs hS => ?_)
  refine lv_aload_n hx hb dL_law_208 rfl (lv_at hl 1 rfl) ?_
  refine lw_callM C [] (mX10_fault l EM C.2.2.2.1.2 1001  _) e2 qX10_fault tw_1024 rfl rfl ⟨rfl, rfl⟩ ⟨(Nat.le_of_ble_eq_true rfl), (Nat.le_of_ble_eq_true rfl)⟩ (Nat.le_of_ble_eq_true rfl) hl.1 dL_law_209 hS hcs rfl (fun H locs hS => ?_)
  exact lv_icmp_eq (tgt := 1028) hx hb dL_law_212 (by decide) (fun _ => kk _ _ H locs hrel1 hS) (fun c_1 => absurd rfl c_1)
theorem dL_law_217 : decode cL_law 217 = .ok (.aload_n 1, 1) := by decide +kernel
theorem dL_law_218 : decode cL_law 218 = .ok (.invokevirtual 27, 3) := by decide +kernel
theorem dL_law_221 : decode cL_law 221 = .ok (.aload_n 2, 1) := by decide +kernel
theorem dL_law_222 : decode cL_law 222 = .ok (.invokevirtual 30, 3) := by decide +kernel
theorem dL_law_225 : decode cL_law 225 = .ok (.if_icmp .eq 803, 3) := by decide +kernel
set_option maxHeartbeats 4000000 in
set_option maxRecDepth 100000 in
theorem lc_3 {p : Program} {l : Launch} {e : Env} {s : State} {m : MethodId} {below : List Frame} {meth : Method} {c : Code} {cells slots : Nat} {Q : State → Prop} {b L : Nat} {xs : Nat → Int32} {EX EM : jE} {A B : Mem} {H : Heap} {locs : List Loc} {ls : Array Slot} {i : Nat} (C : lwX p s m c b L xs EX EM) (hcs : cells ≤ room_1.cells ∧ slots ≤ room_1.slots) (hi : i + 5 ≤ L) (hrel : REL A B) (hl : lv_has ls 4 [(3, .int (nI i)), (2, .ref (gad (gM EM) 0)), (1, .ref (gad (gX EX) 0)), (0, .ref b)]) (hS : lwS s EX EM A B H locs) (kk : ∀ (A1 B1 : Mem) (H1 : Heap) (locs1 : List Loc), REL A1 B1 → lwS s EX EM A1 B1 H1 locs1 → W p l e room_1 s m #[Value.ref b] below meth c H1 locs1 cells slots Q (F0 m 1028 ls [])) : W p l e room_1 s m #[Value.ref b] below meth c H locs cells slots Q (F0 m 217 ls []) := by
  obtain ⟨r, A1, B1, e1, e2, hrel1⟩ := a_lay (fu := 1001) hrel (by decide) 
  have hx := C.1.1
  have hb := C.1.2.1
  refine lv_aload_n hx hb dL_law_217 rfl (lv_at hl 2 rfl) ?_
  refine lw_callX C [] (mX9_lay l EX C.2.2.2.1.1 1001  _) e1 qX9_lay tw_465 rfl rfl ⟨rfl, rfl⟩ ⟨(Nat.le_of_ble_eq_true rfl), (Nat.le_of_ble_eq_true rfl)⟩ (Nat.le_of_ble_eq_true rfl) hl.1 dL_law_218 hS hcs rfl (fun H locs hS => ?_)
  refine lv_aload_n hx hb dL_law_221 rfl (lv_at hl 1 rfl) ?_
  refine lw_callM C [] (mX10_lay l EM C.2.2.2.1.2 1001  _) e2 qX10_lay tw_1062 rfl rfl ⟨rfl, rfl⟩ ⟨(Nat.le_of_ble_eq_true rfl), (Nat.le_of_ble_eq_true rfl)⟩ (Nat.le_of_ble_eq_true rfl) hl.1 dL_law_222 hS hcs rfl (fun H locs hS => ?_)
  exact lv_icmp_eq (tgt := 1028) hx hb dL_law_225 (by decide) (fun _ => kk _ _ H locs hrel1 hS) (fun c_1 => absurd rfl c_1)
theorem dL_law_230 : decode cL_law 230 = .ok (.aload_n 1, 1) := by decide +kernel
theorem dL_law_231 : decode cL_law 231 = .ok (.aload_n 0, 1) := by decide +kernel
theorem dL_law_232 : decode cL_law 232 = .ok (.iload_n 3, 1) := by decide +kernel
theorem dL_law_233 : decode cL_law 233 = .ok (.iconst 1, 1) := by decide +kernel
theorem dL_law_234 : decode cL_law 234 = .ok (.iadd, 1) := by decide +kernel
theorem dL_law_235 : decode cL_law 235 = .ok (.iaload, 1) := by decide +kernel
theorem dL_law_236 : decode cL_law 236 = .ok (.aload_n 0, 1) := by decide +kernel
theorem dL_law_237 : decode cL_law 237 = .ok (.iload_n 3, 1) := by decide +kernel
theorem dL_law_238 : decode cL_law 238 = .ok (.iconst 2, 1) := by decide +kernel
theorem dL_law_239 : decode cL_law 239 = .ok (.iadd, 1) := by decide +kernel
theorem dL_law_240 : decode cL_law 240 = .ok (.iaload, 1) := by decide +kernel
theorem dL_law_241 : decode cL_law 241 = .ok (.invokevirtual 31, 3) := by decide +kernel
theorem dL_law_244 : decode cL_law 244 = .ok (.aload_n 2, 1) := by decide +kernel
theorem dL_law_245 : decode cL_law 245 = .ok (.aload_n 0, 1) := by decide +kernel
theorem dL_law_246 : decode cL_law 246 = .ok (.iload_n 3, 1) := by decide +kernel
theorem dL_law_247 : decode cL_law 247 = .ok (.iconst 1, 1) := by decide +kernel
theorem dL_law_248 : decode cL_law 248 = .ok (.iadd, 1) := by decide +kernel
theorem dL_law_249 : decode cL_law 249 = .ok (.iaload, 1) := by decide +kernel
theorem dL_law_250 : decode cL_law 250 = .ok (.aload_n 0, 1) := by decide +kernel
theorem dL_law_251 : decode cL_law 251 = .ok (.iload_n 3, 1) := by decide +kernel
theorem dL_law_252 : decode cL_law 252 = .ok (.iconst 2, 1) := by decide +kernel
theorem dL_law_253 : decode cL_law 253 = .ok (.iadd, 1) := by decide +kernel
theorem dL_law_254 : decode cL_law 254 = .ok (.iaload, 1) := by decide +kernel
theorem dL_law_255 : decode cL_law 255 = .ok (.invokevirtual 35, 3) := by decide +kernel
theorem dL_law_258 : decode cL_law 258 = .ok (.if_icmp .eq 770, 3) := by decide +kernel
set_option maxHeartbeats 4000000 in
set_option maxRecDepth 100000 in
theorem lc_4 {p : Program} {l : Launch} {e : Env} {s : State} {m : MethodId} {below : List Frame} {meth : Method} {c : Code} {cells slots : Nat} {Q : State → Prop} {b L : Nat} {xs : Nat → Int32} {EX EM : jE} {A B : Mem} {H : Heap} {locs : List Loc} {ls : Array Slot} {i : Nat} (C : lwX p s m c b L xs EX EM) (hcs : cells ≤ room_1.cells ∧ slots ≤ room_1.slots) (hi : i + 5 ≤ L) (hrel : REL A B) (hl : lv_has ls 4 [(3, .int (nI i)), (2, .ref (gad (gM EM) 0)), (1, .ref (gad (gX EX) 0)), (0, .ref b)]) (hS : lwS s EX EM A B H locs) (kk : ∀ (A1 B1 : Mem) (H1 : Heap) (locs1 : List Loc), REL A1 B1 → lwS s EX EM A1 B1 H1 locs1 → W p l e room_1 s m #[Value.ref b] below meth c H1 locs1 cells slots Q (F0 m 1028 ls [])) : W p l e room_1 s m #[Value.ref b] below meth c H locs cells slots Q (F0 m 230 ls []) := by
  obtain ⟨r, A1, B1, e1, e2, hrel1⟩ := a_place (fu := 1001) hrel (by decide) ((xs (nI i + nI 1).toNatClampNeg)) ((xs (nI i + nI 2).toNatClampNeg))
  have hx := C.1.1
  have hb := C.1.2.1
  refine lv_aload_n hx hb dL_law_230 rfl (lv_at hl 2 rfl) ?_
  refine lv_aload_n hx hb dL_law_231 rfl (lv_at hl 3 rfl) ?_
  refine lv_iload_n hx hb dL_law_232 rfl (lv_at hl 0 rfl) ?_
  refine lv_iconst (v := nI 1) hx hb dL_law_233 (by decide) ?_
  refine lv_iadd hx hb dL_law_234 ?_
  refine lw_arg (k := 1) C hS (by omega) dL_law_235 ?_
  refine lv_aload_n hx hb dL_law_236 rfl (lv_at hl 3 rfl) ?_
  refine lv_iload_n hx hb dL_law_237 rfl (lv_at hl 0 rfl) ?_
  refine lv_iconst (v := nI 2) hx hb dL_law_238 (by decide) ?_
  refine lv_iadd hx hb dL_law_239 ?_
  refine lw_arg (k := 2) C hS (by omega) dL_law_240 ?_
  refine lw_callX C [.int (xs (nI i + nI 1).toNatClampNeg), .int (xs (nI i + nI 2).toNatClampNeg)] (mX9_place l EX C.2.2.2.1.1 1001 ((xs (nI i + nI 1).toNatClampNeg)) ((xs (nI i + nI 2).toNatClampNeg)) _) e1 qX9_place tw_474 rfl rfl ⟨rfl, rfl⟩ ⟨(Nat.le_of_ble_eq_true rfl), (Nat.le_of_ble_eq_true rfl)⟩ (Nat.le_of_ble_eq_true rfl) hl.1 dL_law_241 hS hcs rfl (fun H locs hS => ?_)
  refine lv_aload_n hx hb dL_law_244 rfl (lv_at hl 1 rfl) ?_
  refine lv_aload_n hx hb dL_law_245 rfl (lv_at hl 3 rfl) ?_
  refine lv_iload_n hx hb dL_law_246 rfl (lv_at hl 0 rfl) ?_
  refine lv_iconst (v := nI 1) hx hb dL_law_247 (by decide) ?_
  refine lv_iadd hx hb dL_law_248 ?_
  refine lw_arg (k := 1) C hS (by omega) dL_law_249 ?_
  refine lv_aload_n hx hb dL_law_250 rfl (lv_at hl 3 rfl) ?_
  refine lv_iload_n hx hb dL_law_251 rfl (lv_at hl 0 rfl) ?_
  refine lv_iconst (v := nI 2) hx hb dL_law_252 (by decide) ?_
  refine lv_iadd hx hb dL_law_253 ?_
  refine lw_arg (k := 2) C hS (by omega) dL_law_254 ?_
  refine lw_callM C [.int (xs (nI i + nI 1).toNatClampNeg), .int (xs (nI i + nI 2).toNatClampNeg)] (mX10_place l EM C.2.2.2.1.2 1001 ((xs (nI i + nI 1).toNatClampNeg)) ((xs (nI i + nI 2).toNatClampNeg)) _) e2 qX10_place tw_1066 rfl rfl ⟨rfl, rfl⟩ ⟨(Nat.le_of_ble_eq_true rfl), (Nat.le_of_ble_eq_true rfl)⟩ (Nat.le_of_ble_eq_true rfl) hl.1 dL_law_255 hS hcs rfl (fun H locs hS => ?_)
  exact lv_icmp_eq (tgt := 1028) hx hb dL_law_258 (by decide) (fun _ => kk _ _ H locs hrel1 hS) (fun c_1 => absurd rfl c_1)
theorem dL_law_263 : decode cL_law 263 = .ok (.aload_n 1, 1) := by decide +kernel
theorem dL_law_264 : decode cL_law 264 = .ok (.aload_n 0, 1) := by decide +kernel
theorem dL_law_265 : decode cL_law 265 = .ok (.iload_n 3, 1) := by decide +kernel
theorem dL_law_266 : decode cL_law 266 = .ok (.iconst 1, 1) := by decide +kernel
theorem dL_law_267 : decode cL_law 267 = .ok (.iadd, 1) := by decide +kernel
theorem dL_law_268 : decode cL_law 268 = .ok (.iaload, 1) := by decide +kernel
theorem dL_law_269 : decode cL_law 269 = .ok (.aload_n 0, 1) := by decide +kernel
theorem dL_law_270 : decode cL_law 270 = .ok (.iload_n 3, 1) := by decide +kernel
theorem dL_law_271 : decode cL_law 271 = .ok (.iconst 2, 1) := by decide +kernel
theorem dL_law_272 : decode cL_law 272 = .ok (.iadd, 1) := by decide +kernel
theorem dL_law_273 : decode cL_law 273 = .ok (.iaload, 1) := by decide +kernel
theorem dL_law_274 : decode cL_law 274 = .ok (.invokevirtual 36, 3) := by decide +kernel
theorem dL_law_277 : decode cL_law 277 = .ok (.aload_n 2, 1) := by decide +kernel
theorem dL_law_278 : decode cL_law 278 = .ok (.aload_n 0, 1) := by decide +kernel
theorem dL_law_279 : decode cL_law 279 = .ok (.iload_n 3, 1) := by decide +kernel
theorem dL_law_280 : decode cL_law 280 = .ok (.iconst 1, 1) := by decide +kernel
theorem dL_law_281 : decode cL_law 281 = .ok (.iadd, 1) := by decide +kernel
theorem dL_law_282 : decode cL_law 282 = .ok (.iaload, 1) := by decide +kernel
theorem dL_law_283 : decode cL_law 283 = .ok (.aload_n 0, 1) := by decide +kernel
theorem dL_law_284 : decode cL_law 284 = .ok (.iload_n 3, 1) := by decide +kernel
theorem dL_law_285 : decode cL_law 285 = .ok (.iconst 2, 1) := by decide +kernel
theorem dL_law_286 : decode cL_law 286 = .ok (.iadd, 1) := by decide +kernel
theorem dL_law_287 : decode cL_law 287 = .ok (.iaload, 1) := by decide +kernel
theorem dL_law_288 : decode cL_law 288 = .ok (.invokevirtual 39, 3) := by decide +kernel
theorem dL_law_291 : decode cL_law 291 = .ok (.if_icmp .eq 737, 3) := by decide +kernel
set_option maxHeartbeats 4000000 in
set_option maxRecDepth 100000 in
theorem lc_5 {p : Program} {l : Launch} {e : Env} {s : State} {m : MethodId} {below : List Frame} {meth : Method} {c : Code} {cells slots : Nat} {Q : State → Prop} {b L : Nat} {xs : Nat → Int32} {EX EM : jE} {A B : Mem} {H : Heap} {locs : List Loc} {ls : Array Slot} {i : Nat} (C : lwX p s m c b L xs EX EM) (hcs : cells ≤ room_1.cells ∧ slots ≤ room_1.slots) (hi : i + 5 ≤ L) (hrel : REL A B) (hl : lv_has ls 4 [(3, .int (nI i)), (2, .ref (gad (gM EM) 0)), (1, .ref (gad (gX EX) 0)), (0, .ref b)]) (hS : lwS s EX EM A B H locs) (kk : ∀ (A1 B1 : Mem) (H1 : Heap) (locs1 : List Loc), REL A1 B1 → lwS s EX EM A1 B1 H1 locs1 → W p l e room_1 s m #[Value.ref b] below meth c H1 locs1 cells slots Q (F0 m 1028 ls [])) : W p l e room_1 s m #[Value.ref b] below meth c H locs cells slots Q (F0 m 263 ls []) := by
  obtain ⟨r, A1, B1, e1, e2, hrel1⟩ := a_way (fu := 1001) hrel ((xs (nI i + nI 1).toNatClampNeg)) ((xs (nI i + nI 2).toNatClampNeg))
  have hx := C.1.1
  have hb := C.1.2.1
  refine lv_aload_n hx hb dL_law_263 rfl (lv_at hl 2 rfl) ?_
  refine lv_aload_n hx hb dL_law_264 rfl (lv_at hl 3 rfl) ?_
  refine lv_iload_n hx hb dL_law_265 rfl (lv_at hl 0 rfl) ?_
  refine lv_iconst (v := nI 1) hx hb dL_law_266 (by decide) ?_
  refine lv_iadd hx hb dL_law_267 ?_
  refine lw_arg (k := 1) C hS (by omega) dL_law_268 ?_
  refine lv_aload_n hx hb dL_law_269 rfl (lv_at hl 3 rfl) ?_
  refine lv_iload_n hx hb dL_law_270 rfl (lv_at hl 0 rfl) ?_
  refine lv_iconst (v := nI 2) hx hb dL_law_271 (by decide) ?_
  refine lv_iadd hx hb dL_law_272 ?_
  refine lw_arg (k := 2) C hS (by omega) dL_law_273 ?_
  refine lw_callX C [.int (xs (nI i + nI 1).toNatClampNeg), .int (xs (nI i + nI 2).toNatClampNeg)] (mX9_way l EX C.2.2.2.1.1 1001 ((xs (nI i + nI 1).toNatClampNeg)) ((xs (nI i + nI 2).toNatClampNeg)) _) e1 qX9_way tw_500 rfl rfl ⟨rfl, rfl⟩ ⟨(Nat.le_of_ble_eq_true rfl), (Nat.le_of_ble_eq_true rfl)⟩ (Nat.le_of_ble_eq_true rfl) hl.1 dL_law_274 hS hcs rfl (fun H locs hS => ?_)
  refine lv_aload_n hx hb dL_law_277 rfl (lv_at hl 1 rfl) ?_
  refine lv_aload_n hx hb dL_law_278 rfl (lv_at hl 3 rfl) ?_
  refine lv_iload_n hx hb dL_law_279 rfl (lv_at hl 0 rfl) ?_
  refine lv_iconst (v := nI 1) hx hb dL_law_280 (by decide) ?_
  refine lv_iadd hx hb dL_law_281 ?_
  refine lw_arg (k := 1) C hS (by omega) dL_law_282 ?_
  refine lv_aload_n hx hb dL_law_283 rfl (lv_at hl 3 rfl) ?_
  refine lv_iload_n hx hb dL_law_284 rfl (lv_at hl 0 rfl) ?_
  refine lv_iconst (v := nI 2) hx hb dL_law_285 (by decide) ?_
  refine lv_iadd hx hb dL_law_286 ?_
  refine lw_arg (k := 2) C hS (by omega) dL_law_287 ?_
  refine lw_callM C [.int (xs (nI i + nI 1).toNatClampNeg), .int (xs (nI i + nI 2).toNatClampNeg)] (mX10_way l EM C.2.2.2.1.2 1001 ((xs (nI i + nI 1).toNatClampNeg)) ((xs (nI i + nI 2).toNatClampNeg)) _) e2 qX10_way tw_1079 rfl rfl ⟨rfl, rfl⟩ ⟨(Nat.le_of_ble_eq_true rfl), (Nat.le_of_ble_eq_true rfl)⟩ (Nat.le_of_ble_eq_true rfl) hl.1 dL_law_288 hS hcs rfl (fun H locs hS => ?_)
  exact lv_icmp_eq (tgt := 1028) hx hb dL_law_291 (by decide) (fun _ => kk _ _ H locs hrel1 hS) (fun c_1 => absurd rfl c_1)
theorem dL_law_296 : decode cL_law 296 = .ok (.aload_n 1, 1) := by decide +kernel
theorem dL_law_297 : decode cL_law 297 = .ok (.aload_n 0, 1) := by decide +kernel
theorem dL_law_298 : decode cL_law 298 = .ok (.iload_n 3, 1) := by decide +kernel
theorem dL_law_299 : decode cL_law 299 = .ok (.iconst 1, 1) := by decide +kernel
theorem dL_law_300 : decode cL_law 300 = .ok (.iadd, 1) := by decide +kernel
theorem dL_law_301 : decode cL_law 301 = .ok (.iaload, 1) := by decide +kernel
theorem dL_law_302 : decode cL_law 302 = .ok (.aload_n 0, 1) := by decide +kernel
theorem dL_law_303 : decode cL_law 303 = .ok (.iload_n 3, 1) := by decide +kernel
theorem dL_law_304 : decode cL_law 304 = .ok (.iconst 2, 1) := by decide +kernel
theorem dL_law_305 : decode cL_law 305 = .ok (.iadd, 1) := by decide +kernel
theorem dL_law_306 : decode cL_law 306 = .ok (.iaload, 1) := by decide +kernel
theorem dL_law_307 : decode cL_law 307 = .ok (.invokevirtual 40, 3) := by decide +kernel
theorem dL_law_310 : decode cL_law 310 = .ok (.aload_n 2, 1) := by decide +kernel
theorem dL_law_311 : decode cL_law 311 = .ok (.aload_n 0, 1) := by decide +kernel
theorem dL_law_312 : decode cL_law 312 = .ok (.iload_n 3, 1) := by decide +kernel
theorem dL_law_313 : decode cL_law 313 = .ok (.iconst 1, 1) := by decide +kernel
theorem dL_law_314 : decode cL_law 314 = .ok (.iadd, 1) := by decide +kernel
theorem dL_law_315 : decode cL_law 315 = .ok (.iaload, 1) := by decide +kernel
theorem dL_law_316 : decode cL_law 316 = .ok (.aload_n 0, 1) := by decide +kernel
theorem dL_law_317 : decode cL_law 317 = .ok (.iload_n 3, 1) := by decide +kernel
theorem dL_law_318 : decode cL_law 318 = .ok (.iconst 2, 1) := by decide +kernel
theorem dL_law_319 : decode cL_law 319 = .ok (.iadd, 1) := by decide +kernel
theorem dL_law_320 : decode cL_law 320 = .ok (.iaload, 1) := by decide +kernel
theorem dL_law_321 : decode cL_law 321 = .ok (.invokevirtual 43, 3) := by decide +kernel
theorem dL_law_324 : decode cL_law 324 = .ok (.if_icmp .eq 704, 3) := by decide +kernel
set_option maxHeartbeats 4000000 in
set_option maxRecDepth 100000 in
theorem lc_6 {p : Program} {l : Launch} {e : Env} {s : State} {m : MethodId} {below : List Frame} {meth : Method} {c : Code} {cells slots : Nat} {Q : State → Prop} {b L : Nat} {xs : Nat → Int32} {EX EM : jE} {A B : Mem} {H : Heap} {locs : List Loc} {ls : Array Slot} {i : Nat} (C : lwX p s m c b L xs EX EM) (hcs : cells ≤ room_1.cells ∧ slots ≤ room_1.slots) (hi : i + 5 ≤ L) (hrel : REL A B) (hl : lv_has ls 4 [(3, .int (nI i)), (2, .ref (gad (gM EM) 0)), (1, .ref (gad (gX EX) 0)), (0, .ref b)]) (hS : lwS s EX EM A B H locs) (kk : ∀ (A1 B1 : Mem) (H1 : Heap) (locs1 : List Loc), REL A1 B1 → lwS s EX EM A1 B1 H1 locs1 → W p l e room_1 s m #[Value.ref b] below meth c H1 locs1 cells slots Q (F0 m 1028 ls [])) : W p l e room_1 s m #[Value.ref b] below meth c H locs cells slots Q (F0 m 296 ls []) := by
  obtain ⟨r, A1, B1, e1, e2, hrel1⟩ := a_door (fu := 1001) hrel ((xs (nI i + nI 1).toNatClampNeg)) ((xs (nI i + nI 2).toNatClampNeg))
  have hx := C.1.1
  have hb := C.1.2.1
  refine lv_aload_n hx hb dL_law_296 rfl (lv_at hl 2 rfl) ?_
  refine lv_aload_n hx hb dL_law_297 rfl (lv_at hl 3 rfl) ?_
  refine lv_iload_n hx hb dL_law_298 rfl (lv_at hl 0 rfl) ?_
  refine lv_iconst (v := nI 1) hx hb dL_law_299 (by decide) ?_
  refine lv_iadd hx hb dL_law_300 ?_
  refine lw_arg (k := 1) C hS (by omega) dL_law_301 ?_
  refine lv_aload_n hx hb dL_law_302 rfl (lv_at hl 3 rfl) ?_
  refine lv_iload_n hx hb dL_law_303 rfl (lv_at hl 0 rfl) ?_
  refine lv_iconst (v := nI 2) hx hb dL_law_304 (by decide) ?_
  refine lv_iadd hx hb dL_law_305 ?_
  refine lw_arg (k := 2) C hS (by omega) dL_law_306 ?_
  refine lw_callX C [.int (xs (nI i + nI 1).toNatClampNeg), .int (xs (nI i + nI 2).toNatClampNeg)] (mX9_door l EX C.2.2.2.1.1 1001 ((xs (nI i + nI 1).toNatClampNeg)) ((xs (nI i + nI 2).toNatClampNeg)) _) e1 qX9_door tw_505 rfl rfl ⟨rfl, rfl⟩ ⟨(Nat.le_of_ble_eq_true rfl), (Nat.le_of_ble_eq_true rfl)⟩ (Nat.le_of_ble_eq_true rfl) hl.1 dL_law_307 hS hcs rfl (fun H locs hS => ?_)
  refine lv_aload_n hx hb dL_law_310 rfl (lv_at hl 1 rfl) ?_
  refine lv_aload_n hx hb dL_law_311 rfl (lv_at hl 3 rfl) ?_
  refine lv_iload_n hx hb dL_law_312 rfl (lv_at hl 0 rfl) ?_
  refine lv_iconst (v := nI 1) hx hb dL_law_313 (by decide) ?_
  refine lv_iadd hx hb dL_law_314 ?_
  refine lw_arg (k := 1) C hS (by omega) dL_law_315 ?_
  refine lv_aload_n hx hb dL_law_316 rfl (lv_at hl 3 rfl) ?_
  refine lv_iload_n hx hb dL_law_317 rfl (lv_at hl 0 rfl) ?_
  refine lv_iconst (v := nI 2) hx hb dL_law_318 (by decide) ?_
  refine lv_iadd hx hb dL_law_319 ?_
  refine lw_arg (k := 2) C hS (by omega) dL_law_320 ?_
  refine lw_callM C [.int (xs (nI i + nI 1).toNatClampNeg), .int (xs (nI i + nI 2).toNatClampNeg)] (mX10_door l EM C.2.2.2.1.2 1001 ((xs (nI i + nI 1).toNatClampNeg)) ((xs (nI i + nI 2).toNatClampNeg)) _) e2 qX10_door tw_1083 rfl rfl ⟨rfl, rfl⟩ ⟨(Nat.le_of_ble_eq_true rfl), (Nat.le_of_ble_eq_true rfl)⟩ (Nat.le_of_ble_eq_true rfl) hl.1 dL_law_321 hS hcs rfl (fun H locs hS => ?_)
  exact lv_icmp_eq (tgt := 1028) hx hb dL_law_324 (by decide) (fun _ => kk _ _ H locs hrel1 hS) (fun c_1 => absurd rfl c_1)
theorem dL_law_329 : decode cL_law 329 = .ok (.aload_n 1, 1) := by decide +kernel
theorem dL_law_330 : decode cL_law 330 = .ok (.aload_n 0, 1) := by decide +kernel
theorem dL_law_331 : decode cL_law 331 = .ok (.iload_n 3, 1) := by decide +kernel
theorem dL_law_332 : decode cL_law 332 = .ok (.iconst 1, 1) := by decide +kernel
theorem dL_law_333 : decode cL_law 333 = .ok (.iadd, 1) := by decide +kernel
theorem dL_law_334 : decode cL_law 334 = .ok (.iaload, 1) := by decide +kernel
theorem dL_law_335 : decode cL_law 335 = .ok (.aload_n 0, 1) := by decide +kernel
theorem dL_law_336 : decode cL_law 336 = .ok (.iload_n 3, 1) := by decide +kernel
theorem dL_law_337 : decode cL_law 337 = .ok (.iconst 2, 1) := by decide +kernel
theorem dL_law_338 : decode cL_law 338 = .ok (.iadd, 1) := by decide +kernel
theorem dL_law_339 : decode cL_law 339 = .ok (.iaload, 1) := by decide +kernel
theorem dL_law_340 : decode cL_law 340 = .ok (.invokevirtual 44, 3) := by decide +kernel
theorem dL_law_343 : decode cL_law 343 = .ok (.aload_n 2, 1) := by decide +kernel
theorem dL_law_344 : decode cL_law 344 = .ok (.aload_n 0, 1) := by decide +kernel
theorem dL_law_345 : decode cL_law 345 = .ok (.iload_n 3, 1) := by decide +kernel
theorem dL_law_346 : decode cL_law 346 = .ok (.iconst 1, 1) := by decide +kernel
theorem dL_law_347 : decode cL_law 347 = .ok (.iadd, 1) := by decide +kernel
theorem dL_law_348 : decode cL_law 348 = .ok (.iaload, 1) := by decide +kernel
theorem dL_law_349 : decode cL_law 349 = .ok (.aload_n 0, 1) := by decide +kernel
theorem dL_law_350 : decode cL_law 350 = .ok (.iload_n 3, 1) := by decide +kernel
theorem dL_law_351 : decode cL_law 351 = .ok (.iconst 2, 1) := by decide +kernel
theorem dL_law_352 : decode cL_law 352 = .ok (.iadd, 1) := by decide +kernel
theorem dL_law_353 : decode cL_law 353 = .ok (.iaload, 1) := by decide +kernel
theorem dL_law_354 : decode cL_law 354 = .ok (.invokevirtual 47, 3) := by decide +kernel
theorem dL_law_357 : decode cL_law 357 = .ok (.if_icmp .eq 671, 3) := by decide +kernel
set_option maxHeartbeats 4000000 in
set_option maxRecDepth 100000 in
theorem lc_7 {p : Program} {l : Launch} {e : Env} {s : State} {m : MethodId} {below : List Frame} {meth : Method} {c : Code} {cells slots : Nat} {Q : State → Prop} {b L : Nat} {xs : Nat → Int32} {EX EM : jE} {A B : Mem} {H : Heap} {locs : List Loc} {ls : Array Slot} {i : Nat} (C : lwX p s m c b L xs EX EM) (hcs : cells ≤ room_1.cells ∧ slots ≤ room_1.slots) (hi : i + 5 ≤ L) (hrel : REL A B) (hl : lv_has ls 4 [(3, .int (nI i)), (2, .ref (gad (gM EM) 0)), (1, .ref (gad (gX EX) 0)), (0, .ref b)]) (hS : lwS s EX EM A B H locs) (kk : ∀ (A1 B1 : Mem) (H1 : Heap) (locs1 : List Loc), REL A1 B1 → lwS s EX EM A1 B1 H1 locs1 → W p l e room_1 s m #[Value.ref b] below meth c H1 locs1 cells slots Q (F0 m 1028 ls [])) : W p l e room_1 s m #[Value.ref b] below meth c H locs cells slots Q (F0 m 329 ls []) := by
  obtain ⟨r, A1, B1, e1, e2, hrel1⟩ := a_beast (fu := 1001) hrel ((xs (nI i + nI 1).toNatClampNeg)) ((xs (nI i + nI 2).toNatClampNeg))
  have hx := C.1.1
  have hb := C.1.2.1
  refine lv_aload_n hx hb dL_law_329 rfl (lv_at hl 2 rfl) ?_
  refine lv_aload_n hx hb dL_law_330 rfl (lv_at hl 3 rfl) ?_
  refine lv_iload_n hx hb dL_law_331 rfl (lv_at hl 0 rfl) ?_
  refine lv_iconst (v := nI 1) hx hb dL_law_332 (by decide) ?_
  refine lv_iadd hx hb dL_law_333 ?_
  refine lw_arg (k := 1) C hS (by omega) dL_law_334 ?_
  refine lv_aload_n hx hb dL_law_335 rfl (lv_at hl 3 rfl) ?_
  refine lv_iload_n hx hb dL_law_336 rfl (lv_at hl 0 rfl) ?_
  refine lv_iconst (v := nI 2) hx hb dL_law_337 (by decide) ?_
  refine lv_iadd hx hb dL_law_338 ?_
  refine lw_arg (k := 2) C hS (by omega) dL_law_339 ?_
  refine lw_callX C [.int (xs (nI i + nI 1).toNatClampNeg), .int (xs (nI i + nI 2).toNatClampNeg)] (mX9_beast l EX C.2.2.2.1.1 1001 ((xs (nI i + nI 1).toNatClampNeg)) ((xs (nI i + nI 2).toNatClampNeg)) _) e1 qX9_beast tw_521 rfl rfl ⟨rfl, rfl⟩ ⟨(Nat.le_of_ble_eq_true rfl), (Nat.le_of_ble_eq_true rfl)⟩ (Nat.le_of_ble_eq_true rfl) hl.1 dL_law_340 hS hcs rfl (fun H locs hS => ?_)
  refine lv_aload_n hx hb dL_law_343 rfl (lv_at hl 1 rfl) ?_
  refine lv_aload_n hx hb dL_law_344 rfl (lv_at hl 3 rfl) ?_
  refine lv_iload_n hx hb dL_law_345 rfl (lv_at hl 0 rfl) ?_
  refine lv_iconst (v := nI 1) hx hb dL_law_346 (by decide) ?_
  refine lv_iadd hx hb dL_law_347 ?_
  refine lw_arg (k := 1) C hS (by omega) dL_law_348 ?_
  refine lv_aload_n hx hb dL_law_349 rfl (lv_at hl 3 rfl) ?_
  refine lv_iload_n hx hb dL_law_350 rfl (lv_at hl 0 rfl) ?_
  refine lv_iconst (v := nI 2) hx hb dL_law_351 (by decide) ?_
  refine lv_iadd hx hb dL_law_352 ?_
  refine lw_arg (k := 2) C hS (by omega) dL_law_353 ?_
  refine lw_callM C [.int (xs (nI i + nI 1).toNatClampNeg), .int (xs (nI i + nI 2).toNatClampNeg)] (mX10_beast l EM C.2.2.2.1.2 1001 ((xs (nI i + nI 1).toNatClampNeg)) ((xs (nI i + nI 2).toNatClampNeg)) _) e2 qX10_beast tw_1091 rfl rfl ⟨rfl, rfl⟩ ⟨(Nat.le_of_ble_eq_true rfl), (Nat.le_of_ble_eq_true rfl)⟩ (Nat.le_of_ble_eq_true rfl) hl.1 dL_law_354 hS hcs rfl (fun H locs hS => ?_)
  exact lv_icmp_eq (tgt := 1028) hx hb dL_law_357 (by decide) (fun _ => kk _ _ H locs hrel1 hS) (fun c_1 => absurd rfl c_1)
theorem dL_law_362 : decode cL_law 362 = .ok (.aload_n 1, 1) := by decide +kernel
theorem dL_law_363 : decode cL_law 363 = .ok (.aload_n 0, 1) := by decide +kernel
theorem dL_law_364 : decode cL_law 364 = .ok (.iload_n 3, 1) := by decide +kernel
theorem dL_law_365 : decode cL_law 365 = .ok (.iconst 1, 1) := by decide +kernel
theorem dL_law_366 : decode cL_law 366 = .ok (.iadd, 1) := by decide +kernel
theorem dL_law_367 : decode cL_law 367 = .ok (.iaload, 1) := by decide +kernel
theorem dL_law_368 : decode cL_law 368 = .ok (.aload_n 0, 1) := by decide +kernel
theorem dL_law_369 : decode cL_law 369 = .ok (.iload_n 3, 1) := by decide +kernel
theorem dL_law_370 : decode cL_law 370 = .ok (.iconst 2, 1) := by decide +kernel
theorem dL_law_371 : decode cL_law 371 = .ok (.iadd, 1) := by decide +kernel
theorem dL_law_372 : decode cL_law 372 = .ok (.iaload, 1) := by decide +kernel
theorem dL_law_373 : decode cL_law 373 = .ok (.invokevirtual 48, 3) := by decide +kernel
theorem dL_law_376 : decode cL_law 376 = .ok (.aload_n 2, 1) := by decide +kernel
theorem dL_law_377 : decode cL_law 377 = .ok (.aload_n 0, 1) := by decide +kernel
theorem dL_law_378 : decode cL_law 378 = .ok (.iload_n 3, 1) := by decide +kernel
theorem dL_law_379 : decode cL_law 379 = .ok (.iconst 1, 1) := by decide +kernel
theorem dL_law_380 : decode cL_law 380 = .ok (.iadd, 1) := by decide +kernel
theorem dL_law_381 : decode cL_law 381 = .ok (.iaload, 1) := by decide +kernel
theorem dL_law_382 : decode cL_law 382 = .ok (.aload_n 0, 1) := by decide +kernel
theorem dL_law_383 : decode cL_law 383 = .ok (.iload_n 3, 1) := by decide +kernel
theorem dL_law_384 : decode cL_law 384 = .ok (.iconst 2, 1) := by decide +kernel
theorem dL_law_385 : decode cL_law 385 = .ok (.iadd, 1) := by decide +kernel
theorem dL_law_386 : decode cL_law 386 = .ok (.iaload, 1) := by decide +kernel
theorem dL_law_387 : decode cL_law 387 = .ok (.invokevirtual 51, 3) := by decide +kernel
theorem dL_law_390 : decode cL_law 390 = .ok (.if_icmp .eq 638, 3) := by decide +kernel
set_option maxHeartbeats 4000000 in
set_option maxRecDepth 100000 in
theorem lc_8 {p : Program} {l : Launch} {e : Env} {s : State} {m : MethodId} {below : List Frame} {meth : Method} {c : Code} {cells slots : Nat} {Q : State → Prop} {b L : Nat} {xs : Nat → Int32} {EX EM : jE} {A B : Mem} {H : Heap} {locs : List Loc} {ls : Array Slot} {i : Nat} (C : lwX p s m c b L xs EX EM) (hcs : cells ≤ room_1.cells ∧ slots ≤ room_1.slots) (hi : i + 5 ≤ L) (hrel : REL A B) (hl : lv_has ls 4 [(3, .int (nI i)), (2, .ref (gad (gM EM) 0)), (1, .ref (gad (gX EX) 0)), (0, .ref b)]) (hS : lwS s EX EM A B H locs) (kk : ∀ (A1 B1 : Mem) (H1 : Heap) (locs1 : List Loc), REL A1 B1 → lwS s EX EM A1 B1 H1 locs1 → W p l e room_1 s m #[Value.ref b] below meth c H1 locs1 cells slots Q (F0 m 1028 ls [])) : W p l e room_1 s m #[Value.ref b] below meth c H locs cells slots Q (F0 m 362 ls []) := by
  obtain ⟨r, A1, B1, e1, e2, hrel1⟩ := a_sign (fu := 1001) hrel ((xs (nI i + nI 1).toNatClampNeg)) ((xs (nI i + nI 2).toNatClampNeg))
  have hx := C.1.1
  have hb := C.1.2.1
  refine lv_aload_n hx hb dL_law_362 rfl (lv_at hl 2 rfl) ?_
  refine lv_aload_n hx hb dL_law_363 rfl (lv_at hl 3 rfl) ?_
  refine lv_iload_n hx hb dL_law_364 rfl (lv_at hl 0 rfl) ?_
  refine lv_iconst (v := nI 1) hx hb dL_law_365 (by decide) ?_
  refine lv_iadd hx hb dL_law_366 ?_
  refine lw_arg (k := 1) C hS (by omega) dL_law_367 ?_
  refine lv_aload_n hx hb dL_law_368 rfl (lv_at hl 3 rfl) ?_
  refine lv_iload_n hx hb dL_law_369 rfl (lv_at hl 0 rfl) ?_
  refine lv_iconst (v := nI 2) hx hb dL_law_370 (by decide) ?_
  refine lv_iadd hx hb dL_law_371 ?_
  refine lw_arg (k := 2) C hS (by omega) dL_law_372 ?_
  refine lw_callX C [.int (xs (nI i + nI 1).toNatClampNeg), .int (xs (nI i + nI 2).toNatClampNeg)] (mX9_sign l EX C.2.2.2.1.1 1001 ((xs (nI i + nI 1).toNatClampNeg)) ((xs (nI i + nI 2).toNatClampNeg)) _) e1 qX9_sign tw_538 rfl rfl ⟨rfl, rfl⟩ ⟨(Nat.le_of_ble_eq_true rfl), (Nat.le_of_ble_eq_true rfl)⟩ (Nat.le_of_ble_eq_true rfl) hl.1 dL_law_373 hS hcs rfl (fun H locs hS => ?_)
  refine lv_aload_n hx hb dL_law_376 rfl (lv_at hl 1 rfl) ?_
  refine lv_aload_n hx hb dL_law_377 rfl (lv_at hl 3 rfl) ?_
  refine lv_iload_n hx hb dL_law_378 rfl (lv_at hl 0 rfl) ?_
  refine lv_iconst (v := nI 1) hx hb dL_law_379 (by decide) ?_
  refine lv_iadd hx hb dL_law_380 ?_
  refine lw_arg (k := 1) C hS (by omega) dL_law_381 ?_
  refine lv_aload_n hx hb dL_law_382 rfl (lv_at hl 3 rfl) ?_
  refine lv_iload_n hx hb dL_law_383 rfl (lv_at hl 0 rfl) ?_
  refine lv_iconst (v := nI 2) hx hb dL_law_384 (by decide) ?_
  refine lv_iadd hx hb dL_law_385 ?_
  refine lw_arg (k := 2) C hS (by omega) dL_law_386 ?_
  refine lw_callM C [.int (xs (nI i + nI 1).toNatClampNeg), .int (xs (nI i + nI 2).toNatClampNeg)] (mX10_sign l EM C.2.2.2.1.2 1001 ((xs (nI i + nI 1).toNatClampNeg)) ((xs (nI i + nI 2).toNatClampNeg)) _) e2 qX10_sign tw_1100 rfl rfl ⟨rfl, rfl⟩ ⟨(Nat.le_of_ble_eq_true rfl), (Nat.le_of_ble_eq_true rfl)⟩ (Nat.le_of_ble_eq_true rfl) hl.1 dL_law_387 hS hcs rfl (fun H locs hS => ?_)
  exact lv_icmp_eq (tgt := 1028) hx hb dL_law_390 (by decide) (fun _ => kk _ _ H locs hrel1 hS) (fun c_1 => absurd rfl c_1)
theorem dL_law_395 : decode cL_law 395 = .ok (.aload_n 1, 1) := by decide +kernel
theorem dL_law_396 : decode cL_law 396 = .ok (.aload_n 0, 1) := by decide +kernel
theorem dL_law_397 : decode cL_law 397 = .ok (.iload_n 3, 1) := by decide +kernel
theorem dL_law_398 : decode cL_law 398 = .ok (.iconst 1, 1) := by decide +kernel
theorem dL_law_399 : decode cL_law 399 = .ok (.iadd, 1) := by decide +kernel
theorem dL_law_400 : decode cL_law 400 = .ok (.iaload, 1) := by decide +kernel
theorem dL_law_401 : decode cL_law 401 = .ok (.aload_n 0, 1) := by decide +kernel
theorem dL_law_402 : decode cL_law 402 = .ok (.iload_n 3, 1) := by decide +kernel
theorem dL_law_403 : decode cL_law 403 = .ok (.iconst 2, 1) := by decide +kernel
theorem dL_law_404 : decode cL_law 404 = .ok (.iadd, 1) := by decide +kernel
theorem dL_law_405 : decode cL_law 405 = .ok (.iaload, 1) := by decide +kernel
theorem dL_law_406 : decode cL_law 406 = .ok (.aload_n 0, 1) := by decide +kernel
theorem dL_law_407 : decode cL_law 407 = .ok (.iload_n 3, 1) := by decide +kernel
theorem dL_law_408 : decode cL_law 408 = .ok (.iconst 3, 1) := by decide +kernel
theorem dL_law_409 : decode cL_law 409 = .ok (.iadd, 1) := by decide +kernel
theorem dL_law_410 : decode cL_law 410 = .ok (.iaload, 1) := by decide +kernel
theorem dL_law_411 : decode cL_law 411 = .ok (.invokevirtual 52, 3) := by decide +kernel
theorem dL_law_414 : decode cL_law 414 = .ok (.aload_n 2, 1) := by decide +kernel
theorem dL_law_415 : decode cL_law 415 = .ok (.aload_n 0, 1) := by decide +kernel
theorem dL_law_416 : decode cL_law 416 = .ok (.iload_n 3, 1) := by decide +kernel
theorem dL_law_417 : decode cL_law 417 = .ok (.iconst 1, 1) := by decide +kernel
theorem dL_law_418 : decode cL_law 418 = .ok (.iadd, 1) := by decide +kernel
theorem dL_law_419 : decode cL_law 419 = .ok (.iaload, 1) := by decide +kernel
theorem dL_law_420 : decode cL_law 420 = .ok (.aload_n 0, 1) := by decide +kernel
theorem dL_law_421 : decode cL_law 421 = .ok (.iload_n 3, 1) := by decide +kernel
theorem dL_law_422 : decode cL_law 422 = .ok (.iconst 2, 1) := by decide +kernel
theorem dL_law_423 : decode cL_law 423 = .ok (.iadd, 1) := by decide +kernel
theorem dL_law_424 : decode cL_law 424 = .ok (.iaload, 1) := by decide +kernel
theorem dL_law_425 : decode cL_law 425 = .ok (.aload_n 0, 1) := by decide +kernel
theorem dL_law_426 : decode cL_law 426 = .ok (.iload_n 3, 1) := by decide +kernel
theorem dL_law_427 : decode cL_law 427 = .ok (.iconst 3, 1) := by decide +kernel
theorem dL_law_428 : decode cL_law 428 = .ok (.iadd, 1) := by decide +kernel
theorem dL_law_429 : decode cL_law 429 = .ok (.iaload, 1) := by decide +kernel
theorem dL_law_430 : decode cL_law 430 = .ok (.invokevirtual 56, 3) := by decide +kernel
theorem dL_law_433 : decode cL_law 433 = .ok (.if_icmp .eq 595, 3) := by decide +kernel
set_option maxHeartbeats 4000000 in
set_option maxRecDepth 100000 in
theorem lc_9 {p : Program} {l : Launch} {e : Env} {s : State} {m : MethodId} {below : List Frame} {meth : Method} {c : Code} {cells slots : Nat} {Q : State → Prop} {b L : Nat} {xs : Nat → Int32} {EX EM : jE} {A B : Mem} {H : Heap} {locs : List Loc} {ls : Array Slot} {i : Nat} (C : lwX p s m c b L xs EX EM) (hcs : cells ≤ room_1.cells ∧ slots ≤ room_1.slots) (hi : i + 5 ≤ L) (hrel : REL A B) (hl : lv_has ls 4 [(3, .int (nI i)), (2, .ref (gad (gM EM) 0)), (1, .ref (gad (gX EX) 0)), (0, .ref b)]) (hS : lwS s EX EM A B H locs) (kk : ∀ (A1 B1 : Mem) (H1 : Heap) (locs1 : List Loc), REL A1 B1 → lwS s EX EM A1 B1 H1 locs1 → W p l e room_1 s m #[Value.ref b] below meth c H1 locs1 cells slots Q (F0 m 1028 ls [])) : W p l e room_1 s m #[Value.ref b] below meth c H locs cells slots Q (F0 m 395 ls []) := by
  obtain ⟨r, A1, B1, e1, e2, hrel1⟩ := a_send (fu := 1001) hrel (by decide) ((xs (nI i + nI 1).toNatClampNeg)) ((xs (nI i + nI 2).toNatClampNeg)) ((xs (nI i + nI 3).toNatClampNeg))
  have hx := C.1.1
  have hb := C.1.2.1
  refine lv_aload_n hx hb dL_law_395 rfl (lv_at hl 2 rfl) ?_
  refine lv_aload_n hx hb dL_law_396 rfl (lv_at hl 3 rfl) ?_
  refine lv_iload_n hx hb dL_law_397 rfl (lv_at hl 0 rfl) ?_
  refine lv_iconst (v := nI 1) hx hb dL_law_398 (by decide) ?_
  refine lv_iadd hx hb dL_law_399 ?_
  refine lw_arg (k := 1) C hS (by omega) dL_law_400 ?_
  refine lv_aload_n hx hb dL_law_401 rfl (lv_at hl 3 rfl) ?_
  refine lv_iload_n hx hb dL_law_402 rfl (lv_at hl 0 rfl) ?_
  refine lv_iconst (v := nI 2) hx hb dL_law_403 (by decide) ?_
  refine lv_iadd hx hb dL_law_404 ?_
  refine lw_arg (k := 2) C hS (by omega) dL_law_405 ?_
  refine lv_aload_n hx hb dL_law_406 rfl (lv_at hl 3 rfl) ?_
  refine lv_iload_n hx hb dL_law_407 rfl (lv_at hl 0 rfl) ?_
  refine lv_iconst (v := nI 3) hx hb dL_law_408 (by decide) ?_
  refine lv_iadd hx hb dL_law_409 ?_
  refine lw_arg (k := 3) C hS (by omega) dL_law_410 ?_
  refine lw_callX C [.int (xs (nI i + nI 1).toNatClampNeg), .int (xs (nI i + nI 2).toNatClampNeg), .int (xs (nI i + nI 3).toNatClampNeg)] (mX9_send l EX C.2.2.2.1.1 1001 ((xs (nI i + nI 1).toNatClampNeg)) ((xs (nI i + nI 2).toNatClampNeg)) ((xs (nI i + nI 3).toNatClampNeg)) _) e1 qX9_send tw_559 rfl rfl ⟨rfl, rfl⟩ ⟨(Nat.le_of_ble_eq_true rfl), (Nat.le_of_ble_eq_true rfl)⟩ (Nat.le_of_ble_eq_true rfl) hl.1 dL_law_411 hS hcs rfl (fun H locs hS => ?_)
  refine lv_aload_n hx hb dL_law_414 rfl (lv_at hl 1 rfl) ?_
  refine lv_aload_n hx hb dL_law_415 rfl (lv_at hl 3 rfl) ?_
  refine lv_iload_n hx hb dL_law_416 rfl (lv_at hl 0 rfl) ?_
  refine lv_iconst (v := nI 1) hx hb dL_law_417 (by decide) ?_
  refine lv_iadd hx hb dL_law_418 ?_
  refine lw_arg (k := 1) C hS (by omega) dL_law_419 ?_
  refine lv_aload_n hx hb dL_law_420 rfl (lv_at hl 3 rfl) ?_
  refine lv_iload_n hx hb dL_law_421 rfl (lv_at hl 0 rfl) ?_
  refine lv_iconst (v := nI 2) hx hb dL_law_422 (by decide) ?_
  refine lv_iadd hx hb dL_law_423 ?_
  refine lw_arg (k := 2) C hS (by omega) dL_law_424 ?_
  refine lv_aload_n hx hb dL_law_425 rfl (lv_at hl 3 rfl) ?_
  refine lv_iload_n hx hb dL_law_426 rfl (lv_at hl 0 rfl) ?_
  refine lv_iconst (v := nI 3) hx hb dL_law_427 (by decide) ?_
  refine lv_iadd hx hb dL_law_428 ?_
  refine lw_arg (k := 3) C hS (by omega) dL_law_429 ?_
  refine lw_callM C [.int (xs (nI i + nI 1).toNatClampNeg), .int (xs (nI i + nI 2).toNatClampNeg), .int (xs (nI i + nI 3).toNatClampNeg)] (mX10_send l EM C.2.2.2.1.2 1001 ((xs (nI i + nI 1).toNatClampNeg)) ((xs (nI i + nI 2).toNatClampNeg)) ((xs (nI i + nI 3).toNatClampNeg)) _) e2 qX10_send tw_1115 rfl rfl ⟨rfl, rfl⟩ ⟨(Nat.le_of_ble_eq_true rfl), (Nat.le_of_ble_eq_true rfl)⟩ (Nat.le_of_ble_eq_true rfl) hl.1 dL_law_430 hS hcs rfl (fun H locs hS => ?_)
  exact lv_icmp_eq (tgt := 1028) hx hb dL_law_433 (by decide) (fun _ => kk _ _ H locs hrel1 hS) (fun c_1 => absurd rfl c_1)
