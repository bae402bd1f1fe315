theorem dX6_at_0 : decode cX6_at 0 = .ok (.iload_n 1, 1) := by decide +kernel
theorem dX6_at_1 : decode cX6_at 1 = .ok (.ifCond .lt 15, 3) := by decide +kernel
theorem dX6_at_4 : decode cX6_at 4 = .ok (.iload_n 1, 1) := by decide +kernel
theorem dX6_at_5 : decode cX6_at 5 = .ok (.aload_n 0, 1) := by decide +kernel
theorem dX6_at_6 : decode cX6_at 6 = .ok (.arraylength, 1) := by decide +kernel
theorem dX6_at_7 : decode cX6_at 7 = .ok (.if_icmp .ge 9, 3) := by decide +kernel
theorem dX6_at_10 : decode cX6_at 10 = .ok (.aload_n 0, 1) := by decide +kernel
theorem dX6_at_11 : decode cX6_at 11 = .ok (.iload_n 1, 1) := by decide +kernel
theorem dX6_at_12 : decode cX6_at 12 = .ok (.iaload, 1) := by decide +kernel
theorem dX6_at_13 : decode cX6_at 13 = .ok (.goto 4, 3) := by decide +kernel
theorem dX6_at_16 : decode cX6_at 16 = .ok (.iconst 0, 1) := by decide +kernel
theorem dX6_at_17 : decode cX6_at 17 = .ok (.ireturn, 1) := by decide +kernel
theorem dX6_put_0 : decode cX6_put 0 = .ok (.iload_n 1, 1) := by decide +kernel
theorem dX6_put_1 : decode cX6_put 1 = .ok (.ifCond .lt 13, 3) := by decide +kernel
theorem dX6_put_4 : decode cX6_put 4 = .ok (.iload_n 1, 1) := by decide +kernel
theorem dX6_put_5 : decode cX6_put 5 = .ok (.aload_n 0, 1) := by decide +kernel
theorem dX6_put_6 : decode cX6_put 6 = .ok (.arraylength, 1) := by decide +kernel
theorem dX6_put_7 : decode cX6_put 7 = .ok (.if_icmp .ge 7, 3) := by decide +kernel
theorem dX6_put_10 : decode cX6_put 10 = .ok (.aload_n 0, 1) := by decide +kernel
theorem dX6_put_11 : decode cX6_put 11 = .ok (.iload_n 1, 1) := by decide +kernel
theorem dX6_put_12 : decode cX6_put 12 = .ok (.iload_n 2, 1) := by decide +kernel
theorem dX6_put_13 : decode cX6_put 13 = .ok (.iastore, 1) := by decide +kernel
theorem dX6_put_14 : decode cX6_put 14 = .ok (.return_, 1) := by decide +kernel
theorem dX6_clear_0 : decode cX6_clear 0 = .ok (.iconst 0, 1) := by decide +kernel
theorem dX6_clear_1 : decode cX6_clear 1 = .ok (.istore_n 1, 1) := by decide +kernel
theorem dX6_clear_2 : decode cX6_clear 2 = .ok (.iload_n 1, 1) := by decide +kernel
theorem dX6_clear_3 : decode cX6_clear 3 = .ok (.aload_n 0, 1) := by decide +kernel
theorem dX6_clear_4 : decode cX6_clear 4 = .ok (.arraylength, 1) := by decide +kernel
theorem dX6_clear_5 : decode cX6_clear 5 = .ok (.if_icmp .ge 13, 3) := by decide +kernel
theorem dX6_clear_8 : decode cX6_clear 8 = .ok (.aload_n 0, 1) := by decide +kernel
theorem dX6_clear_9 : decode cX6_clear 9 = .ok (.iload_n 1, 1) := by decide +kernel
theorem dX6_clear_10 : decode cX6_clear 10 = .ok (.iconst 0, 1) := by decide +kernel
theorem dX6_clear_11 : decode cX6_clear 11 = .ok (.iastore, 1) := by decide +kernel
theorem dX6_clear_12 : decode cX6_clear 12 = .ok (.iinc 1 1, 3) := by decide +kernel
theorem dX6_clear_15 : decode cX6_clear 15 = .ok (.goto (-13), 3) := by decide +kernel
theorem dX6_clear_18 : decode cX6_clear 18 = .ok (.return_, 1) := by decide +kernel
theorem qX6_at : jYs yX6_at cX6_at 2 (some .int) 2 := ⟨tw_328, tw_70, tw_329, ⟨by decide +kernel, by decide +kernel, by decide +kernel⟩⟩
abbrev rX6_at : Room := { frames := 0, cells := 0, slots := 0, locals := 0 }
def uX6_at : jM := (cX6_at, 2, RX6, (some .int), rX6_at)
def pX6_at (fu : Nat) (k0 n0 : Nat) (x1 : Int32) (M : Mem) : Res :=
  if x1 < 0 then (
    some ((0 : Int32), M))
  else
  if (Int32.ofNat n0) ≤ x1 then (
    some ((0 : Int32), M))
  else
  ld M k0 n0 x1 fun v1 =>
  some (v1, M)
set_option maxRecDepth 100000 in
theorem wX6_at {E : jE} {X : jC} (hX : jOk X uX6_at (gX E)) (fu : Nat) (k0 n0 : Nat) (hk0 : tX k0 = 20) (hn0 : lX k0 = n0) (x1 : Int32) (M : Mem) : J X uX6_at (gX E) 0 [(0, .ref (gad (gX E) k0)), (1, .int x1)] [] M (pX6_at fu k0 n0 x1 M) := by
  unfold pX6_at
  refine j_iload_n (pc := 0) hX 1 dX6_at_0 rfl rfl ?_
  refine j_if_lt (pc := 1) hX 16 dX6_at_1 (by decide) ?_ ?_
  · refine j_iconst (pc := 16) (v := (0 : Int32)) hX dX6_at_16 ci_0 ?_
    exact j_iret (pc := 17) hX rfl dX6_at_17
  · refine j_iload_n (pc := 4) hX 1 dX6_at_4 rfl rfl ?_
    refine j_aload_n (pc := 5) hX 0 dX6_at_5 rfl rfl ?_
    refine j_alen (pc := 6) (n := n0) (v := (Int32.ofNat n0)) hX (hi hk0) hk0 (Or.inl rfl) hn0 rfl dX6_at_6 ?_
    refine j_icmp_ge (pc := 7) hX 16 dX6_at_7 (by decide) ?_ ?_
    · refine j_iconst (pc := 16) (v := (0 : Int32)) hX dX6_at_16 ci_0 ?_
      exact j_iret (pc := 17) hX rfl dX6_at_17
    · refine j_aload_n (pc := 10) hX 0 dX6_at_10 rfl rfl ?_
      refine j_iload_n (pc := 11) hX 1 dX6_at_11 rfl rfl ?_
      refine j_iald (pc := 12) hX (hi hk0) hk0 hn0 dX6_at_12 (fun v1 => ?_)
      refine j_goto (pc := 13) hX 17 dX6_at_13 (by decide) ?_
      exact j_iret (pc := 17) hX rfl dX6_at_17
theorem mX6_at (l : Launch) (E : jE) (hI : jInj (gX E)) (fu : Nat) (k0 n0 : Nat) (hk0 : tX k0 = 20) (hn0 : lX k0 = n0) (x1 : Int32) (M : Mem) : jMet l (gX E) yX6_at cX6_at 2 (some .int) rX6_at [.ref (gad (gX E) k0), .int x1] M (pX6_at fu k0 n0 x1 M) :=
  j_entry hI (by decide +kernel) (Nat.le_of_ble_eq_true rfl) rfl (fun X _ hX => wX6_at hX fu k0 n0 hk0 hn0 x1 M)
theorem qX6_put : jYs yX6_put cX6_put 3 none 3 := ⟨tw_321, tw_70, tw_322, ⟨by decide +kernel, by decide +kernel, by decide +kernel⟩⟩
abbrev rX6_put : Room := { frames := 0, cells := 0, slots := 0, locals := 0 }
def uX6_put : jM := (cX6_put, 3, RX6, none, rX6_put)
def pX6_put (fu : Nat) (k0 n0 : Nat) (x1 : Int32) (x2 : Int32) (M : Mem) : Res :=
  if x1 < 0 then (
    some (0, M))
  else
  if (Int32.ofNat n0) ≤ x1 then (
    some (0, M))
  else
  sto M k0 n0 x1 x2 fun M1 =>
  some (0, M1)
set_option maxRecDepth 100000 in
theorem wX6_put {E : jE} {X : jC} (hX : jOk X uX6_put (gX E)) (fu : Nat) (k0 n0 : Nat) (hk0 : tX k0 = 20) (hn0 : lX k0 = n0) (x1 : Int32) (x2 : Int32) (M : Mem) : J X uX6_put (gX E) 0 [(0, .ref (gad (gX E) k0)), (1, .int x1), (2, .int x2)] [] M (pX6_put fu k0 n0 x1 x2 M) := by
  unfold pX6_put
  refine j_iload_n (pc := 0) hX 1 dX6_put_0 rfl rfl ?_
  refine j_if_lt (pc := 1) hX 14 dX6_put_1 (by decide) ?_ ?_
  · exact j_vret (pc := 14) hX rfl dX6_put_14
  · refine j_iload_n (pc := 4) hX 1 dX6_put_4 rfl rfl ?_
    refine j_aload_n (pc := 5) hX 0 dX6_put_5 rfl rfl ?_
    refine j_alen (pc := 6) (n := n0) (v := (Int32.ofNat n0)) hX (hi hk0) hk0 (Or.inl rfl) hn0 rfl dX6_put_6 ?_
    refine j_icmp_ge (pc := 7) hX 14 dX6_put_7 (by decide) ?_ ?_
    · exact j_vret (pc := 14) hX rfl dX6_put_14
    · refine j_aload_n (pc := 10) hX 0 dX6_put_10 rfl rfl ?_
      refine j_iload_n (pc := 11) hX 1 dX6_put_11 rfl rfl ?_
      refine j_iload_n (pc := 12) hX 2 dX6_put_12 rfl rfl ?_
      refine j_iast (pc := 13) hX (hi hk0) hk0 hn0 dX6_put_13 (fun M1 => ?_)
      exact j_vret (pc := 14) hX rfl dX6_put_14
theorem mX6_put (l : Launch) (E : jE) (hI : jInj (gX E)) (fu : Nat) (k0 n0 : Nat) (hk0 : tX k0 = 20) (hn0 : lX k0 = n0) (x1 : Int32) (x2 : Int32) (M : Mem) : jMet l (gX E) yX6_put cX6_put 3 none rX6_put [.ref (gad (gX E) k0), .int x1, .int x2] M (pX6_put fu k0 n0 x1 x2 M) :=
  j_entry hI (by decide +kernel) (Nat.le_of_ble_eq_true rfl) rfl (fun X _ hX => wX6_put hX fu k0 n0 hk0 hn0 x1 x2 M)
theorem qX6_clear : jYs yX6_clear cX6_clear 2 none 1 := ⟨tw_306, tw_70, tw_307, ⟨by decide +kernel, by decide +kernel, by decide +kernel⟩⟩
abbrev rX6_clear : Room := { frames := 0, cells := 0, slots := 0, locals := 0 }
def uX6_clear : jM := (cX6_clear, 2, RX6, none, rX6_clear)
def pX6_clear_2b (fu : Nat) (k0 n0 : Nat) (x1 : Int32) (M : Mem) (c2 : Int32 → Mem → Res) : Res :=
  if (Int32.ofNat n0) ≤ x1 then (
    some (0, M))
  else
  sto M k0 n0 x1 (0 : Int32) fun M1 =>
  c2 (x1 + (1 : Int32)) M1
set_option maxRecDepth 100000 in
theorem wX6_clear_2b {E : jE} {X : jC} (hX : jOk X uX6_clear (gX E)) (fu : Nat) (k0 n0 : Nat) (hk0 : tX k0 = 20) (hn0 : lX k0 = n0) (x1 : Int32) (M : Mem) (c2 : Int32 → Mem → Res) (hc2 : ∀ (x1 : Int32) (M : Mem), J X uX6_clear (gX E) 2 [(0, .ref (gad (gX E) k0)), (1, .int x1)] [] M (c2 x1 M)) : J X uX6_clear (gX E) 2 [(0, .ref (gad (gX E) k0)), (1, .int x1)] [] M (pX6_clear_2b fu k0 n0 x1 M c2) := by
  unfold pX6_clear_2b
  refine j_iload_n (pc := 2) hX 1 dX6_clear_2 rfl rfl ?_
  refine j_aload_n (pc := 3) hX 0 dX6_clear_3 rfl rfl ?_
  refine j_alen (pc := 4) (n := n0) (v := (Int32.ofNat n0)) hX (hi hk0) hk0 (Or.inl rfl) hn0 rfl dX6_clear_4 ?_
  refine j_icmp_ge (pc := 5) hX 18 dX6_clear_5 (by decide) ?_ ?_
  · exact j_vret (pc := 18) hX rfl dX6_clear_18
  · refine j_aload_n (pc := 8) hX 0 dX6_clear_8 rfl rfl ?_
    refine j_iload_n (pc := 9) hX 1 dX6_clear_9 rfl rfl ?_
    refine j_iconst (pc := 10) (v := (0 : Int32)) hX dX6_clear_10 ci_0 ?_
    refine j_iast (pc := 11) hX (hi hk0) hk0 hn0 dX6_clear_11 (fun M1 => ?_)
    refine j_iinc (pc := 12) (v := (x1 + (1 : Int32))) (lv' := [(1, .int (x1 + (1 : Int32))), (0, .ref (gad (gX E) k0))]) hX 1 dX6_clear_12 rfl (by rw [ci_1]) (jb rfl) rfl ?_
    refine j_goto (pc := 15) hX 2 dX6_clear_15 (by decide) ?_
    exact j_sub [1, 0] rfl (hc2 (x1 + (1 : Int32)) M1)
def pX6_clear_2 (fu : Nat) (k0 n0 : Nat)  : Nat → Int32 → Mem → Res
  | 0, _, _ => none
  | n + 1, x1, M => pX6_clear_2b fu k0 n0 x1 M (pX6_clear_2 fu k0 n0  n)
theorem wX6_clear_2 {E : jE} {X : jC} (hX : jOk X uX6_clear (gX E)) (fu : Nat) (k0 n0 : Nat) (hk0 : tX k0 = 20) (hn0 : lX k0 = n0)   : ∀ (n : Nat) (x1 : Int32) (M : Mem), J X uX6_clear (gX E) 2 [(0, .ref (gad (gX E) k0)), (1, .int x1)] [] M (pX6_clear_2 fu k0 n0  n x1 M) := by
  intro n
  induction n with
  | zero => intro x1 M; exact j_none
  | succ n ih => intro x1 M; exact wX6_clear_2b hX fu k0 n0 hk0 hn0 x1 M (pX6_clear_2 fu k0 n0  n) ih
def pX6_clear (fu : Nat) (k0 n0 : Nat)  (M : Mem) : Res :=
  pX6_clear_2 fu k0 n0
    fu (0 : Int32) M
set_option maxRecDepth 100000 in
theorem wX6_clear {E : jE} {X : jC} (hX : jOk X uX6_clear (gX E)) (fu : Nat) (k0 n0 : Nat) (hk0 : tX k0 = 20) (hn0 : lX k0 = n0)  (M : Mem) : J X uX6_clear (gX E) 0 [(0, .ref (gad (gX E) k0))] [] M (pX6_clear fu k0 n0  M) := by
  unfold pX6_clear
  refine j_iconst (pc := 0) (v := (0 : Int32)) hX dX6_clear_0 ci_0 ?_
  refine j_istore_n (pc := 1) (lv' := [(1, .int (0 : Int32)), (0, .ref (gad (gX E) k0))]) hX dX6_clear_1 rfl (jb rfl) rfl ?_
  refine j_sub [1, 0] rfl (wX6_clear_2 hX fu k0 n0 hk0 hn0   fu (0 : Int32) M)
theorem mX6_clear (l : Launch) (E : jE) (hI : jInj (gX E)) (fu : Nat) (k0 n0 : Nat) (hk0 : tX k0 = 20) (hn0 : lX k0 = n0)  (M : Mem) : jMet l (gX E) yX6_clear cX6_clear 2 none rX6_clear [.ref (gad (gX E) k0)] M (pX6_clear fu k0 n0  M) :=
  j_entry hI (by decide +kernel) (Nat.le_of_ble_eq_true rfl) rfl (fun X _ hX => wX6_clear hX fu k0 n0 hk0 hn0  M)
