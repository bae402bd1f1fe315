theorem dX1_doorKind_0 : decode cX1_doorKind 0 = .ok (.aload_n 0, 1) := by decide +kernel
theorem dX1_doorKind_1 : decode cX1_doorKind 1 = .ok (.getfield 21, 3) := by decide +kernel
theorem dX1_doorKind_4 : decode cX1_doorKind 4 = .ok (.iload_n 1, 1) := by decide +kernel
theorem dX1_doorKind_5 : decode cX1_doorKind 5 = .ok (.invokestatic 84, 3) := by decide +kernel
theorem dX1_doorKind_8 : decode cX1_doorKind 8 = .ok (.ireturn, 1) := by decide +kernel
theorem dX1_doorPlace_0 : decode cX1_doorPlace 0 = .ok (.aload_n 0, 1) := by decide +kernel
theorem dX1_doorPlace_1 : decode cX1_doorPlace 1 = .ok (.getfield 24, 3) := by decide +kernel
theorem dX1_doorPlace_4 : decode cX1_doorPlace 4 = .ok (.iload_n 1, 1) := by decide +kernel
theorem dX1_doorPlace_5 : decode cX1_doorPlace 5 = .ok (.invokestatic 84, 3) := by decide +kernel
theorem dX1_doorPlace_8 : decode cX1_doorPlace 8 = .ok (.ireturn, 1) := by decide +kernel
theorem dX1_firstMood_0 : decode cX1_firstMood 0 = .ok (.aload_n 0, 1) := by decide +kernel
theorem dX1_firstMood_1 : decode cX1_firstMood 1 = .ok (.getfield 33, 3) := by decide +kernel
theorem dX1_firstMood_4 : decode cX1_firstMood 4 = .ok (.iload_n 1, 1) := by decide +kernel
theorem dX1_firstMood_5 : decode cX1_firstMood 5 = .ok (.invokestatic 84, 3) := by decide +kernel
theorem dX1_firstMood_8 : decode cX1_firstMood 8 = .ok (.ireturn, 1) := by decide +kernel
theorem dX1_firstCarrots_0 : decode cX1_firstCarrots 0 = .ok (.aload_n 0, 1) := by decide +kernel
theorem dX1_firstCarrots_1 : decode cX1_firstCarrots 1 = .ok (.getfield 36, 3) := by decide +kernel
theorem dX1_firstCarrots_4 : decode cX1_firstCarrots 4 = .ok (.iload_n 1, 1) := by decide +kernel
theorem dX1_firstCarrots_5 : decode cX1_firstCarrots 5 = .ok (.invokestatic 84, 3) := by decide +kernel
theorem dX1_firstCarrots_8 : decode cX1_firstCarrots 8 = .ok (.ireturn, 1) := by decide +kernel
theorem qX1_doorKind : jYv yX1_doorKind cX1_doorKind 2 (some .int) 1 := ⟨tw_514, tw_515, tw_60, tw_516, ⟨by decide +kernel, by decide +kernel, by decide +kernel⟩⟩
abbrev rX1_doorKind : Room := { frames := 1, cells := 0, slots := 0, locals := 21 }
def uX1_doorKind : jM := (cX1_doorKind, 2, RX1, (some .int), rX1_doorKind)
def pX1_doorKind (fu : Nat) (k0 : Nat) (x1 : Int32) (M : Mem) : Res :=
  bI (pX6_at fu (k0 + 1 + 3) 4 x1 M) fun r2 M1 =>
  some (r2, M1)
set_option maxRecDepth 100000 in
theorem wX1_doorKind {E : jE} {X : jC} (hX : jOk X uX1_doorKind (gX E)) (fu : Nat) (k0 : Nat) (hk0 : tX k0 = 1) (x1 : Int32) (M : Mem) : J X uX1_doorKind (gX E) 0 [(0, .ref (gad (gX E) k0)), (1, .int x1)] [] M (pX1_doorKind fu k0 x1 M) := by
  unfold pX1_doorKind
  refine j_aload_n (pc := 0) hX 0 dX1_doorKind_0 rfl rfl ?_
  refine j_getR (pc := 1) (t := (k0 + 1 + 3)) hX (hc hk0) hk0 (ci := 1) (C := RX1) (T := TX1) (N := 13) rfl (jb rfl) inX1 (j := 3) (jb rfl) (rf_c hk0 (by decide)) tw_123 dX1_doorKind_1 ?_
  refine j_iload_n (pc := 4) hX 1 dX1_doorKind_4 rfl rfl ?_
  refine j_callS (pc := 5) hX [.ref (gad (gX E) (k0 + 1 + 3)), .int x1] (mX6_at _ E hX.2.2.2.2.2.2.2.2.1 fu (k0 + 1 + 3) 4 (hcj hk0 (by decide)).1 (hcj (j := 3) hk0 (by decide)).2.2 x1 M) qX6_at tw_370 rfl ⟨rfl, rfl⟩ ⟨(Nat.le_of_ble_eq_true rfl), (Nat.le_of_ble_eq_true rfl)⟩ (Nat.le_of_ble_eq_true rfl) dX1_doorKind_5 (fun _ => rfl) rfl (fun r2 M1 => ?_)
  exact j_iret (pc := 8) hX rfl dX1_doorKind_8
theorem mX1_doorKind (l : Launch) (E : jE) (hI : jInj (gX E)) (fu : Nat) (k0 : Nat) (hk0 : tX k0 = 1) (x1 : Int32) (M : Mem) : jMet l (gX E) yX1_doorKind cX1_doorKind 2 (some .int) rX1_doorKind [.ref (gad (gX E) k0), .int x1] M (pX1_doorKind fu k0 x1 M) :=
  j_entry hI (by decide +kernel) (Nat.le_of_ble_eq_true rfl) rfl (fun X _ hX => wX1_doorKind hX fu k0 hk0 x1 M)
theorem qX1_doorPlace : jYv yX1_doorPlace cX1_doorPlace 2 (some .int) 1 := ⟨tw_518, tw_519, tw_60, tw_520, ⟨by decide +kernel, by decide +kernel, by decide +kernel⟩⟩
abbrev rX1_doorPlace : Room := { frames := 1, cells := 0, slots := 0, locals := 21 }
def uX1_doorPlace : jM := (cX1_doorPlace, 2, RX1, (some .int), rX1_doorPlace)
def pX1_doorPlace (fu : Nat) (k0 : Nat) (x1 : Int32) (M : Mem) : Res :=
  bI (pX6_at fu (k0 + 1 + 4) 4 x1 M) fun r2 M1 =>
  some (r2, M1)
set_option maxRecDepth 100000 in
theorem wX1_doorPlace {E : jE} {X : jC} (hX : jOk X uX1_doorPlace (gX E)) (fu : Nat) (k0 : Nat) (hk0 : tX k0 = 1) (x1 : Int32) (M : Mem) : J X uX1_doorPlace (gX E) 0 [(0, .ref (gad (gX E) k0)), (1, .int x1)] [] M (pX1_doorPlace fu k0 x1 M) := by
  unfold pX1_doorPlace
  refine j_aload_n (pc := 0) hX 0 dX1_doorPlace_0 rfl rfl ?_
  refine j_getR (pc := 1) (t := (k0 + 1 + 4)) hX (hc hk0) hk0 (ci := 1) (C := RX1) (T := TX1) (N := 13) rfl (jb rfl) inX1 (j := 4) (jb rfl) (rf_c hk0 (by decide)) tw_124 dX1_doorPlace_1 ?_
  refine j_iload_n (pc := 4) hX 1 dX1_doorPlace_4 rfl rfl ?_
  refine j_callS (pc := 5) hX [.ref (gad (gX E) (k0 + 1 + 4)), .int x1] (mX6_at _ E hX.2.2.2.2.2.2.2.2.1 fu (k0 + 1 + 4) 4 (hcj hk0 (by decide)).1 (hcj (j := 4) hk0 (by decide)).2.2 x1 M) qX6_at tw_370 rfl ⟨rfl, rfl⟩ ⟨(Nat.le_of_ble_eq_true rfl), (Nat.le_of_ble_eq_true rfl)⟩ (Nat.le_of_ble_eq_true rfl) dX1_doorPlace_5 (fun _ => rfl) rfl (fun r2 M1 => ?_)
  exact j_iret (pc := 8) hX rfl dX1_doorPlace_8
theorem mX1_doorPlace (l : Launch) (E : jE) (hI : jInj (gX E)) (fu : Nat) (k0 : Nat) (hk0 : tX k0 = 1) (x1 : Int32) (M : Mem) : jMet l (gX E) yX1_doorPlace cX1_doorPlace 2 (some .int) rX1_doorPlace [.ref (gad (gX E) k0), .int x1] M (pX1_doorPlace fu k0 x1 M) :=
  j_entry hI (by decide +kernel) (Nat.le_of_ble_eq_true rfl) rfl (fun X _ hX => wX1_doorPlace hX fu k0 hk0 x1 M)
theorem qX1_firstMood : jYv yX1_firstMood cX1_firstMood 2 (some .int) 1 := ⟨tw_392, tw_393, tw_60, tw_394, ⟨by decide +kernel, by decide +kernel, by decide +kernel⟩⟩
abbrev rX1_firstMood : Room := { frames := 1, cells := 0, slots := 0, locals := 21 }
def uX1_firstMood : jM := (cX1_firstMood, 2, RX1, (some .int), rX1_firstMood)
def pX1_firstMood (fu : Nat) (k0 : Nat) (x1 : Int32) (M : Mem) : Res :=
  bI (pX6_at fu (k0 + 1 + 7) 5 x1 M) fun r2 M1 =>
  some (r2, M1)
set_option maxRecDepth 100000 in
theorem wX1_firstMood {E : jE} {X : jC} (hX : jOk X uX1_firstMood (gX E)) (fu : Nat) (k0 : Nat) (hk0 : tX k0 = 1) (x1 : Int32) (M : Mem) : J X uX1_firstMood (gX E) 0 [(0, .ref (gad (gX E) k0)), (1, .int x1)] [] M (pX1_firstMood fu k0 x1 M) := by
  unfold pX1_firstMood
  refine j_aload_n (pc := 0) hX 0 dX1_firstMood_0 rfl rfl ?_
  refine j_getR (pc := 1) (t := (k0 + 1 + 7)) hX (hc hk0) hk0 (ci := 1) (C := RX1) (T := TX1) (N := 13) rfl (jb rfl) inX1 (j := 7) (jb rfl) (rf_c hk0 (by decide)) tw_127 dX1_firstMood_1 ?_
  refine j_iload_n (pc := 4) hX 1 dX1_firstMood_4 rfl rfl ?_
  refine j_callS (pc := 5) hX [.ref (gad (gX E) (k0 + 1 + 7)), .int x1] (mX6_at _ E hX.2.2.2.2.2.2.2.2.1 fu (k0 + 1 + 7) 5 (hcj hk0 (by decide)).1 (hcj (j := 7) hk0 (by decide)).2.2 x1 M) qX6_at tw_370 rfl ⟨rfl, rfl⟩ ⟨(Nat.le_of_ble_eq_true rfl), (Nat.le_of_ble_eq_true rfl)⟩ (Nat.le_of_ble_eq_true rfl) dX1_firstMood_5 (fun _ => rfl) rfl (fun r2 M1 => ?_)
  exact j_iret (pc := 8) hX rfl dX1_firstMood_8
theorem mX1_firstMood (l : Launch) (E : jE) (hI : jInj (gX E)) (fu : Nat) (k0 : Nat) (hk0 : tX k0 = 1) (x1 : Int32) (M : Mem) : jMet l (gX E) yX1_firstMood cX1_firstMood 2 (some .int) rX1_firstMood [.ref (gad (gX E) k0), .int x1] M (pX1_firstMood fu k0 x1 M) :=
  j_entry hI (by decide +kernel) (Nat.le_of_ble_eq_true rfl) rfl (fun X _ hX => wX1_firstMood hX fu k0 hk0 x1 M)
theorem qX1_firstCarrots : jYv yX1_firstCarrots cX1_firstCarrots 2 (some .int) 1 := ⟨tw_404, tw_405, tw_60, tw_406, ⟨by decide +kernel, by decide +kernel, by decide +kernel⟩⟩
abbrev rX1_firstCarrots : Room := { frames := 1, cells := 0, slots := 0, locals := 21 }
def uX1_firstCarrots : jM := (cX1_firstCarrots, 2, RX1, (some .int), rX1_firstCarrots)
def pX1_firstCarrots (fu : Nat) (k0 : Nat) (x1 : Int32) (M : Mem) : Res :=
  bI (pX6_at fu (k0 + 1 + 8) 8 x1 M) fun r2 M1 =>
  some (r2, M1)
set_option maxRecDepth 100000 in
theorem wX1_firstCarrots {E : jE} {X : jC} (hX : jOk X uX1_firstCarrots (gX E)) (fu : Nat) (k0 : Nat) (hk0 : tX k0 = 1) (x1 : Int32) (M : Mem) : J X uX1_firstCarrots (gX E) 0 [(0, .ref (gad (gX E) k0)), (1, .int x1)] [] M (pX1_firstCarrots fu k0 x1 M) := by
  unfold pX1_firstCarrots
  refine j_aload_n (pc := 0) hX 0 dX1_firstCarrots_0 rfl rfl ?_
  refine j_getR (pc := 1) (t := (k0 + 1 + 8)) hX (hc hk0) hk0 (ci := 1) (C := RX1) (T := TX1) (N := 13) rfl (jb rfl) inX1 (j := 8) (jb rfl) (rf_c hk0 (by decide)) tw_128 dX1_firstCarrots_1 ?_
  refine j_iload_n (pc := 4) hX 1 dX1_firstCarrots_4 rfl rfl ?_
  refine j_callS (pc := 5) hX [.ref (gad (gX E) (k0 + 1 + 8)), .int x1] (mX6_at _ E hX.2.2.2.2.2.2.2.2.1 fu (k0 + 1 + 8) 8 (hcj hk0 (by decide)).1 (hcj (j := 8) hk0 (by decide)).2.2 x1 M) qX6_at tw_370 rfl ⟨rfl, rfl⟩ ⟨(Nat.le_of_ble_eq_true rfl), (Nat.le_of_ble_eq_true rfl)⟩ (Nat.le_of_ble_eq_true rfl) dX1_firstCarrots_5 (fun _ => rfl) rfl (fun r2 M1 => ?_)
  exact j_iret (pc := 8) hX rfl dX1_firstCarrots_8
theorem mX1_firstCarrots (l : Launch) (E : jE) (hI : jInj (gX E)) (fu : Nat) (k0 : Nat) (hk0 : tX k0 = 1) (x1 : Int32) (M : Mem) : jMet l (gX E) yX1_firstCarrots cX1_firstCarrots 2 (some .int) rX1_firstCarrots [.ref (gad (gX E) k0), .int x1] M (pX1_firstCarrots fu k0 x1 M) :=
  j_entry hI (by decide +kernel) (Nat.le_of_ble_eq_true rfl) rfl (fun X _ hX => wX1_firstCarrots hX fu k0 hk0 x1 M)
