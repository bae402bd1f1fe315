theorem dX9_count_0 : decode cX9_count 0 = .ok (.iload_n 1, 1) := by decide +kernel
theorem dX9_count_1 : decode cX9_count 1 = .ok (.tableswitch 175 0 12 #[67, 75, 83, 91, 99, 107, 116, 125, 134, 143, 151, 159, 167], 67) := by decide +kernel
theorem dX9_count_68 : decode cX9_count 68 = .ok (.aload_n 0, 1) := by decide +kernel
theorem dX9_count_69 : decode cX9_count 69 = .ok (.getfield 26, 3) := by decide +kernel
theorem dX9_count_72 : decode cX9_count 72 = .ok (.invokevirtual 261, 3) := by decide +kernel
theorem dX9_count_75 : decode cX9_count 75 = .ok (.ireturn, 1) := by decide +kernel
theorem dX9_count_76 : decode cX9_count 76 = .ok (.aload_n 0, 1) := by decide +kernel
theorem dX9_count_77 : decode cX9_count 77 = .ok (.getfield 26, 3) := by decide +kernel
theorem dX9_count_80 : decode cX9_count 80 = .ok (.invokevirtual 102, 3) := by decide +kernel
theorem dX9_count_83 : decode cX9_count 83 = .ok (.ireturn, 1) := by decide +kernel
theorem dX9_count_84 : decode cX9_count 84 = .ok (.aload_n 0, 1) := by decide +kernel
theorem dX9_count_85 : decode cX9_count 85 = .ok (.getfield 26, 3) := by decide +kernel
theorem dX9_count_88 : decode cX9_count 88 = .ok (.invokevirtual 105, 3) := by decide +kernel
theorem dX9_count_91 : decode cX9_count 91 = .ok (.ireturn, 1) := by decide +kernel
theorem dX9_count_92 : decode cX9_count 92 = .ok (.aload_n 0, 1) := by decide +kernel
theorem dX9_count_93 : decode cX9_count 93 = .ok (.getfield 26, 3) := by decide +kernel
theorem dX9_count_96 : decode cX9_count 96 = .ok (.invokevirtual 264, 3) := by decide +kernel
theorem dX9_count_99 : decode cX9_count 99 = .ok (.ireturn, 1) := by decide +kernel
theorem dX9_count_100 : decode cX9_count 100 = .ok (.aload_n 0, 1) := by decide +kernel
theorem dX9_count_101 : decode cX9_count 101 = .ok (.getfield 38, 3) := by decide +kernel
theorem dX9_count_104 : decode cX9_count 104 = .ok (.invokevirtual 172, 3) := by decide +kernel
theorem dX9_count_107 : decode cX9_count 107 = .ok (.ireturn, 1) := by decide +kernel
theorem dX9_count_108 : decode cX9_count 108 = .ok (.aload_n 0, 1) := by decide +kernel
theorem dX9_count_109 : decode cX9_count 109 = .ok (.getfield 38, 3) := by decide +kernel
theorem dX9_count_112 : decode cX9_count 112 = .ok (.iconst 0, 1) := by decide +kernel
theorem dX9_count_113 : decode cX9_count 113 = .ok (.invokevirtual 254, 3) := by decide +kernel
theorem dX9_count_116 : decode cX9_count 116 = .ok (.ireturn, 1) := by decide +kernel
theorem dX9_count_117 : decode cX9_count 117 = .ok (.aload_n 0, 1) := by decide +kernel
theorem dX9_count_118 : decode cX9_count 118 = .ok (.getfield 38, 3) := by decide +kernel
theorem dX9_count_121 : decode cX9_count 121 = .ok (.iconst 1, 1) := by decide +kernel
theorem dX9_count_122 : decode cX9_count 122 = .ok (.invokevirtual 254, 3) := by decide +kernel
theorem dX9_count_125 : decode cX9_count 125 = .ok (.ireturn, 1) := by decide +kernel
theorem dX9_count_126 : decode cX9_count 126 = .ok (.aload_n 0, 1) := by decide +kernel
theorem dX9_count_127 : decode cX9_count 127 = .ok (.getfield 38, 3) := by decide +kernel
theorem dX9_count_130 : decode cX9_count 130 = .ok (.iconst 2, 1) := by decide +kernel
theorem dX9_count_131 : decode cX9_count 131 = .ok (.invokevirtual 254, 3) := by decide +kernel
theorem dX9_count_134 : decode cX9_count 134 = .ok (.ireturn, 1) := by decide +kernel
theorem dX9_count_135 : decode cX9_count 135 = .ok (.aload_n 0, 1) := by decide +kernel
theorem dX9_count_136 : decode cX9_count 136 = .ok (.getfield 38, 3) := by decide +kernel
theorem dX9_count_139 : decode cX9_count 139 = .ok (.iconst 3, 1) := by decide +kernel
theorem dX9_count_140 : decode cX9_count 140 = .ok (.invokevirtual 254, 3) := by decide +kernel
theorem dX9_count_143 : decode cX9_count 143 = .ok (.ireturn, 1) := by decide +kernel
theorem dX9_count_144 : decode cX9_count 144 = .ok (.aload_n 0, 1) := by decide +kernel
theorem dX9_count_145 : decode cX9_count 145 = .ok (.getfield 38, 3) := by decide +kernel
theorem dX9_count_148 : decode cX9_count 148 = .ok (.invokevirtual 267, 3) := by decide +kernel
theorem dX9_count_151 : decode cX9_count 151 = .ok (.ireturn, 1) := by decide +kernel
theorem dX9_count_152 : decode cX9_count 152 = .ok (.aload_n 0, 1) := by decide +kernel
theorem dX9_count_153 : decode cX9_count 153 = .ok (.getfield 47, 3) := by decide +kernel
theorem dX9_count_156 : decode cX9_count 156 = .ok (.invokevirtual 192, 3) := by decide +kernel
theorem dX9_count_159 : decode cX9_count 159 = .ok (.ireturn, 1) := by decide +kernel
theorem dX9_count_160 : decode cX9_count 160 = .ok (.aload_n 0, 1) := by decide +kernel
theorem dX9_count_161 : decode cX9_count 161 = .ok (.getfield 51, 3) := by decide +kernel
theorem dX9_count_164 : decode cX9_count 164 = .ok (.invokevirtual 192, 3) := by decide +kernel
theorem dX9_count_167 : decode cX9_count 167 = .ok (.ireturn, 1) := by decide +kernel
theorem dX9_count_168 : decode cX9_count 168 = .ok (.aload_n 0, 1) := by decide +kernel
theorem dX9_count_169 : decode cX9_count 169 = .ok (.getfield 10, 3) := by decide +kernel
theorem dX9_count_172 : decode cX9_count 172 = .ok (.invokevirtual 97, 3) := by decide +kernel
theorem dX9_count_175 : decode cX9_count 175 = .ok (.ireturn, 1) := by decide +kernel
theorem dX9_count_176 : decode cX9_count 176 = .ok (.iconst (-1), 1) := by decide +kernel
theorem dX9_count_177 : decode cX9_count 177 = .ok (.ireturn, 1) := by decide +kernel
theorem qX9_count : jYv yX9_count cX9_count 2 (some .int) 1 := ⟨tw_875, tw_876, tw_57, tw_877, ⟨by decide +kernel, by decide +kernel, by decide +kernel⟩⟩
abbrev rX9_count : Room := { frames := 3, cells := 0, slots := 0, locals := 68 }
def uX9_count : jM := (cX9_count, 2, RX9, (some .int), rX9_count)
def pX9_count (fu : Nat) (x1 : Int32) (M : Mem) : Res :=
  if x1 = (0 : Int32) then (
    bI (pX1_places fu 5 M) fun r2 M1 =>
    some (r2, M1))
  else
  if x1 = (1 : Int32) then (
    bI (pX1_doors fu 5 M) fun r5 M4 =>
    some (r5, M4))
  else
  if x1 = (2 : Int32) then (
    bI (pX1_beasts fu 5 M) fun r8 M7 =>
    some (r8, M7))
  else
  if x1 = (3 : Int32) then (
    bI (pX1_ways fu 5 M) fun r11 M10 =>
    some (r11, M10))
  else
  if x1 = (4 : Int32) then (
    bI (pX4_hours fu 27 M) fun r14 M13 =>
    some (r14, M13))
  else
  if x1 = (5 : Int32) then (
    bI (pX4_amount fu 27 (0 : Int32) M) fun r17 M16 =>
    some (r17, M16))
  else
  if x1 = (6 : Int32) then (
    bI (pX4_amount fu 27 (1 : Int32) M) fun r20 M19 =>
    some (r20, M19))
  else
  if x1 = (7 : Int32) then (
    bI (pX4_amount fu 27 (2 : Int32) M) fun r23 M22 =>
    some (r23, M22))
  else
  if x1 = (8 : Int32) then (
    bI (pX4_amount fu 27 (3 : Int32) M) fun r26 M25 =>
    some (r26, M25))
  else
  if x1 = (9 : Int32) then (
    bI (pX4_carrotsInAll fu 27 M) fun r29 M28 =>
    some (r29, M28))
  else
  if x1 = (10 : Int32) then (
    bI (pX8_size fu 29 M) fun r32 M31 =>
    some (r32, M31))
  else
  if x1 = (11 : Int32) then (
    bI (pX8_size fu 47 M) fun r35 M34 =>
    some (r35, M34))
  else
  if x1 = (12 : Int32) then (
    bI (pX5_length fu  M) fun r38 M37 =>
    some (r38, M37))
  else
  some ((-1 : Int32), M)
set_option maxRecDepth 100000 in
theorem wX9_count {E : jE} {X : jC} (hX : jOk X uX9_count (gX E)) (fu : Nat)  (x1 : Int32) (M : Mem) : J X uX9_count (gX E) 0 [(0, .ref (gad (gX E) 0)), (1, .int x1)] [] M (pX9_count fu  x1 M) := by
  unfold pX9_count
  refine j_iload_n (pc := 0) hX 1 dX9_count_0 rfl rfl ?_
  refine j_if (fun hq3 => ?_) (fun hq3 => ?_)
  · rw [hq3]
    refine j_tableIn (pc := 1) (off := 67) hX 68 dX9_count_1 (by decide) (by decide) (by decide) (by decide) ?_
    refine j_aload_n (pc := 68) hX 0 dX9_count_68 rfl rfl ?_
    refine j_getR (pc := 69) (t := 5) hX (jb rfl) rfl (ci := 8) (C := RX9) (T := TX9) (N := 10) rfl (jb rfl) inX9 (j := 2) (jb rfl) rfl tw_422 dX9_count_69 ?_
    refine j_callV (pc := 72) hX [] (mX1_places _ E hX.2.2.2.2.2.2.2.2.1 fu 5 rfl  M) qX1_places tw_878 (jb rfl) rfl (ci := 1) (T := TX1) (N := 13) rfl (jb rfl) rfl ⟨rfl, rfl⟩ ⟨(Nat.le_of_ble_eq_true rfl), (Nat.le_of_ble_eq_true rfl)⟩ (Nat.le_of_ble_eq_true rfl) dX9_count_72 (fun _ => rfl) rfl (fun r2 M1 => ?_)
    exact j_iret (pc := 75) hX rfl dX9_count_75
  refine j_if (fun hq6 => ?_) (fun hq6 => ?_)
  · rw [hq6]
    refine j_tableIn (pc := 1) (off := 75) hX 76 dX9_count_1 (by decide) (by decide) (by decide) (by decide) ?_
    refine j_aload_n (pc := 76) hX 0 dX9_count_76 rfl rfl ?_
    refine j_getR (pc := 77) (t := 5) hX (jb rfl) rfl (ci := 8) (C := RX9) (T := TX9) (N := 10) rfl (jb rfl) inX9 (j := 2) (jb rfl) rfl tw_422 dX9_count_77 ?_
    refine j_callV (pc := 80) hX [] (mX1_doors _ E hX.2.2.2.2.2.2.2.2.1 fu 5 rfl  M) qX1_doors tw_469 (jb rfl) rfl (ci := 1) (T := TX1) (N := 13) rfl (jb rfl) rfl ⟨rfl, rfl⟩ ⟨(Nat.le_of_ble_eq_true rfl), (Nat.le_of_ble_eq_true rfl)⟩ (Nat.le_of_ble_eq_true rfl) dX9_count_80 (fun _ => rfl) rfl (fun r5 M4 => ?_)
    exact j_iret (pc := 83) hX rfl dX9_count_83
  refine j_if (fun hq9 => ?_) (fun hq9 => ?_)
  · rw [hq9]
    refine j_tableIn (pc := 1) (off := 83) hX 84 dX9_count_1 (by decide) (by decide) (by decide) (by decide) ?_
    refine j_aload_n (pc := 84) hX 0 dX9_count_84 rfl rfl ?_
    refine j_getR (pc := 85) (t := 5) hX (jb rfl) rfl (ci := 8) (C := RX9) (T := TX9) (N := 10) rfl (jb rfl) inX9 (j := 2) (jb rfl) rfl tw_422 dX9_count_85 ?_
    refine j_callV (pc := 88) hX [] (mX1_beasts _ E hX.2.2.2.2.2.2.2.2.1 fu 5 rfl  M) qX1_beasts tw_473 (jb rfl) rfl (ci := 1) (T := TX1) (N := 13) rfl (jb rfl) rfl ⟨rfl, rfl⟩ ⟨(Nat.le_of_ble_eq_true rfl), (Nat.le_of_ble_eq_true rfl)⟩ (Nat.le_of_ble_eq_true rfl) dX9_count_88 (fun _ => rfl) rfl (fun r8 M7 => ?_)
    exact j_iret (pc := 91) hX rfl dX9_count_91
  refine j_if (fun hq12 => ?_) (fun hq12 => ?_)
  · rw [hq12]
    refine j_tableIn (pc := 1) (off := 91) hX 92 dX9_count_1 (by decide) (by decide) (by decide) (by decide) ?_
    refine j_aload_n (pc := 92) hX 0 dX9_count_92 rfl rfl ?_
    refine j_getR (pc := 93) (t := 5) hX (jb rfl) rfl (ci := 8) (C := RX9) (T := TX9) (N := 10) rfl (jb rfl) inX9 (j := 2) (jb rfl) rfl tw_422 dX9_count_93 ?_
    refine j_callV (pc := 96) hX [] (mX1_ways _ E hX.2.2.2.2.2.2.2.2.1 fu 5 rfl  M) qX1_ways tw_879 (jb rfl) rfl (ci := 1) (T := TX1) (N := 13) rfl (jb rfl) rfl ⟨rfl, rfl⟩ ⟨(Nat.le_of_ble_eq_true rfl), (Nat.le_of_ble_eq_true rfl)⟩ (Nat.le_of_ble_eq_true rfl) dX9_count_96 (fun _ => rfl) rfl (fun r11 M10 => ?_)
    exact j_iret (pc := 99) hX rfl dX9_count_99
  refine j_if (fun hq15 => ?_) (fun hq15 => ?_)
  · rw [hq15]
    refine j_tableIn (pc := 1) (off := 99) hX 100 dX9_count_1 (by decide) (by decide) (by decide) (by decide) ?_
    refine j_aload_n (pc := 100) hX 0 dX9_count_100 rfl rfl ?_
    refine j_getR (pc := 101) (t := 27) hX (jb rfl) rfl (ci := 8) (C := RX9) (T := TX9) (N := 10) rfl (jb rfl) inX9 (j := 4) (jb rfl) rfl tw_424 dX9_count_101 ?_
    refine j_callV (pc := 104) hX [] (mX4_hours _ E hX.2.2.2.2.2.2.2.2.1 fu 27 rfl  M) qX4_hours tw_627 (jb rfl) rfl (ci := 4) (T := TX4) (N := 2) rfl (jb rfl) rfl ⟨rfl, rfl⟩ ⟨(Nat.le_of_ble_eq_true rfl), (Nat.le_of_ble_eq_true rfl)⟩ (Nat.le_of_ble_eq_true rfl) dX9_count_104 (fun _ => rfl) rfl (fun r14 M13 => ?_)
    exact j_iret (pc := 107) hX rfl dX9_count_107
  refine j_if (fun hq18 => ?_) (fun hq18 => ?_)
  · rw [hq18]
    refine j_tableIn (pc := 1) (off := 107) hX 108 dX9_count_1 (by decide) (by decide) (by decide) (by decide) ?_
    refine j_aload_n (pc := 108) hX 0 dX9_count_108 rfl rfl ?_
    refine j_getR (pc := 109) (t := 27) hX (jb rfl) rfl (ci := 8) (C := RX9) (T := TX9) (N := 10) rfl (jb rfl) inX9 (j := 4) (jb rfl) rfl tw_424 dX9_count_109 ?_
    refine j_iconst (pc := 112) (v := (0 : Int32)) hX dX9_count_112 ci_0 ?_
    refine j_callV (pc := 113) hX [.int (0 : Int32)] (mX4_amount _ E hX.2.2.2.2.2.2.2.2.1 fu 27 rfl (0 : Int32) M) qX4_amount tw_857 (jb rfl) rfl (ci := 4) (T := TX4) (N := 2) rfl (jb rfl) rfl ⟨rfl, rfl⟩ ⟨(Nat.le_of_ble_eq_true rfl), (Nat.le_of_ble_eq_true rfl)⟩ (Nat.le_of_ble_eq_true rfl) dX9_count_113 (fun _ => rfl) rfl (fun r17 M16 => ?_)
    exact j_iret (pc := 116) hX rfl dX9_count_116
  refine j_if (fun hq21 => ?_) (fun hq21 => ?_)
  · rw [hq21]
    refine j_tableIn (pc := 1) (off := 116) hX 117 dX9_count_1 (by decide) (by decide) (by decide) (by decide) ?_
    refine j_aload_n (pc := 117) hX 0 dX9_count_117 rfl rfl ?_
    refine j_getR (pc := 118) (t := 27) hX (jb rfl) rfl (ci := 8) (C := RX9) (T := TX9) (N := 10) rfl (jb rfl) inX9 (j := 4) (jb rfl) rfl tw_424 dX9_count_118 ?_
    refine j_iconst (pc := 121) (v := (1 : Int32)) hX dX9_count_121 ci_1 ?_
    refine j_callV (pc := 122) hX [.int (1 : Int32)] (mX4_amount _ E hX.2.2.2.2.2.2.2.2.1 fu 27 rfl (1 : Int32) M) qX4_amount tw_857 (jb rfl) rfl (ci := 4) (T := TX4) (N := 2) rfl (jb rfl) rfl ⟨rfl, rfl⟩ ⟨(Nat.le_of_ble_eq_true rfl), (Nat.le_of_ble_eq_true rfl)⟩ (Nat.le_of_ble_eq_true rfl) dX9_count_122 (fun _ => rfl) rfl (fun r20 M19 => ?_)
    exact j_iret (pc := 125) hX rfl dX9_count_125
  refine j_if (fun hq24 => ?_) (fun hq24 => ?_)
  · rw [hq24]
    refine j_tableIn (pc := 1) (off := 125) hX 126 dX9_count_1 (by decide) (by decide) (by decide) (by decide) ?_
    refine j_aload_n (pc := 126) hX 0 dX9_count_126 rfl rfl ?_
    refine j_getR (pc := 127) (t := 27) hX (jb rfl) rfl (ci := 8) (C := RX9) (T := TX9) (N := 10) rfl (jb rfl) inX9 (j := 4) (jb rfl) rfl tw_424 dX9_count_127 ?_
    refine j_iconst (pc := 130) (v := (2 : Int32)) hX dX9_count_130 ci_2 ?_
    refine j_callV (pc := 131) hX [.int (2 : Int32)] (mX4_amount _ E hX.2.2.2.2.2.2.2.2.1 fu 27 rfl (2 : Int32) M) qX4_amount tw_857 (jb rfl) rfl (ci := 4) (T := TX4) (N := 2) rfl (jb rfl) rfl ⟨rfl, rfl⟩ ⟨(Nat.le_of_ble_eq_true rfl), (Nat.le_of_ble_eq_true rfl)⟩ (Nat.le_of_ble_eq_true rfl) dX9_count_131 (fun _ => rfl) rfl (fun r23 M22 => ?_)
    exact j_iret (pc := 134) hX rfl dX9_count_134
  refine j_if (fun hq27 => ?_) (fun hq27 => ?_)
  · rw [hq27]
    refine j_tableIn (pc := 1) (off := 134) hX 135 dX9_count_1 (by decide) (by decide) (by decide) (by decide) ?_
    refine j_aload_n (pc := 135) hX 0 dX9_count_135 rfl rfl ?_
    refine j_getR (pc := 136) (t := 27) hX (jb rfl) rfl (ci := 8) (C := RX9) (T := TX9) (N := 10) rfl (jb rfl) inX9 (j := 4) (jb rfl) rfl tw_424 dX9_count_136 ?_
    refine j_iconst (pc := 139) (v := (3 : Int32)) hX dX9_count_139 ci_3 ?_
    refine j_callV (pc := 140) hX [.int (3 : Int32)] (mX4_amount _ E hX.2.2.2.2.2.2.2.2.1 fu 27 rfl (3 : Int32) M) qX4_amount tw_857 (jb rfl) rfl (ci := 4) (T := TX4) (N := 2) rfl (jb rfl) rfl ⟨rfl, rfl⟩ ⟨(Nat.le_of_ble_eq_true rfl), (Nat.le_of_ble_eq_true rfl)⟩ (Nat.le_of_ble_eq_true rfl) dX9_count_140 (fun _ => rfl) rfl (fun r26 M25 => ?_)
    exact j_iret (pc := 143) hX rfl dX9_count_143
  refine j_if (fun hq30 => ?_) (fun hq30 => ?_)
  · rw [hq30]
    refine j_tableIn (pc := 1) (off := 143) hX 144 dX9_count_1 (by decide) (by decide) (by decide) (by decide) ?_
    refine j_aload_n (pc := 144) hX 0 dX9_count_144 rfl rfl ?_
    refine j_getR (pc := 145) (t := 27) hX (jb rfl) rfl (ci := 8) (C := RX9) (T := TX9) (N := 10) rfl (jb rfl) inX9 (j := 4) (jb rfl) rfl tw_424 dX9_count_145 ?_
    refine j_callV (pc := 148) hX [] (mX4_carrotsInAll _ E hX.2.2.2.2.2.2.2.2.1 fu 27 rfl  M) qX4_carrotsInAll tw_883 (jb rfl) rfl (ci := 4) (T := TX4) (N := 2) rfl (jb rfl) rfl ⟨rfl, rfl⟩ ⟨(Nat.le_of_ble_eq_true rfl), (Nat.le_of_ble_eq_true rfl)⟩ (Nat.le_of_ble_eq_true rfl) dX9_count_148 (fun _ => rfl) rfl (fun r29 M28 => ?_)
    exact j_iret (pc := 151) hX rfl dX9_count_151
  refine j_if (fun hq33 => ?_) (fun hq33 => ?_)
  · rw [hq33]
    refine j_tableIn (pc := 1) (off := 151) hX 152 dX9_count_1 (by decide) (by decide) (by decide) (by decide) ?_
    refine j_aload_n (pc := 152) hX 0 dX9_count_152 rfl rfl ?_
    refine j_getR (pc := 153) (t := 29) hX (jb rfl) rfl (ci := 8) (C := RX9) (T := TX9) (N := 10) rfl (jb rfl) inX9 (j := 5) (jb rfl) rfl tw_425 dX9_count_153 ?_
    refine j_callV (pc := 156) hX [] (mX8_size _ E hX.2.2.2.2.2.2.2.2.1 fu 29 rfl  M) qX8_size tw_660 (jb rfl) rfl (ci := 7) (T := TX8) (N := 3) rfl (jb rfl) rfl ⟨rfl, rfl⟩ ⟨(Nat.le_of_ble_eq_true rfl), (Nat.le_of_ble_eq_true rfl)⟩ (Nat.le_of_ble_eq_true rfl) dX9_count_156 (fun _ => rfl) rfl (fun r32 M31 => ?_)
    exact j_iret (pc := 159) hX rfl dX9_count_159
  refine j_if (fun hq36 => ?_) (fun hq36 => ?_)
  · rw [hq36]
    refine j_tableIn (pc := 1) (off := 159) hX 160 dX9_count_1 (by decide) (by decide) (by decide) (by decide) ?_
    refine j_aload_n (pc := 160) hX 0 dX9_count_160 rfl rfl ?_
    refine j_getR (pc := 161) (t := 47) hX (jb rfl) rfl (ci := 8) (C := RX9) (T := TX9) (N := 10) rfl (jb rfl) inX9 (j := 6) (jb rfl) rfl tw_426 dX9_count_161 ?_
    refine j_callV (pc := 164) hX [] (mX8_size _ E hX.2.2.2.2.2.2.2.2.1 fu 47 rfl  M) qX8_size tw_660 (jb rfl) rfl (ci := 7) (T := TX8) (N := 3) rfl (jb rfl) rfl ⟨rfl, rfl⟩ ⟨(Nat.le_of_ble_eq_true rfl), (Nat.le_of_ble_eq_true rfl)⟩ (Nat.le_of_ble_eq_true rfl) dX9_count_164 (fun _ => rfl) rfl (fun r35 M34 => ?_)
    exact j_iret (pc := 167) hX rfl dX9_count_167
  refine j_if (fun hq39 => ?_) (fun hq39 => ?_)
  · rw [hq39]
    refine j_tableIn (pc := 1) (off := 167) hX 168 dX9_count_1 (by decide) (by decide) (by decide) (by decide) ?_
    refine j_aload_n (pc := 168) hX 0 dX9_count_168 rfl rfl ?_
    refine j_getR (pc := 169) (t := 1) hX (jb rfl) rfl (ci := 8) (C := RX9) (T := TX9) (N := 10) rfl (jb rfl) inX9 (j := 0) (jb rfl) rfl tw_420 dX9_count_169 ?_
    refine j_callV (pc := 172) hX [] (mX5_length _ E hX.2.2.2.2.2.2.2.2.1 fu    M) qX5_length tw_456 (jb rfl) rfl (ci := 5) (T := TX5) (N := 2) rfl (jb rfl) rfl ⟨rfl, rfl⟩ ⟨(Nat.le_of_ble_eq_true rfl), (Nat.le_of_ble_eq_true rfl)⟩ (Nat.le_of_ble_eq_true rfl) dX9_count_172 (fun _ => rfl) rfl (fun r38 M37 => ?_)
    exact j_iret (pc := 175) hX rfl dX9_count_175
  refine j_tableOut (pc := 1) hX 176 dX9_count_1 (sw_out (fun c h1 h2 => ?_)) (by decide) ?_
  · rcases (show c = 0 ∨ c = 1 ∨ c = 2 ∨ c = 3 ∨ c = 4 ∨ c = 5 ∨ c = 6 ∨ c = 7 ∨ c = 8 ∨ c = 9 ∨ c = 10 ∨ c = 11 ∨ c = 12 by omega) with rfl | rfl | rfl | rfl | rfl | rfl | rfl | rfl | rfl | rfl | rfl | rfl | rfl
    · exact hq3
    · exact hq6
    · exact hq9
    · exact hq12
    · exact hq15
    · exact hq18
    · exact hq21
    · exact hq24
    · exact hq27
    · exact hq30
    · exact hq33
    · exact hq36
    · exact hq39
  · refine j_iconst (pc := 176) (v := (-1 : Int32)) hX dX9_count_176 ci_m1 ?_
    exact j_iret (pc := 177) hX rfl dX9_count_177
theorem mX9_count (l : Launch) (E : jE) (hI : jInj (gX E)) (fu : Nat)  (x1 : Int32) (M : Mem) : jMet l (gX E) yX9_count cX9_count 2 (some .int) rX9_count [.ref (gad (gX E) 0), .int x1] M (pX9_count fu  x1 M) :=
  j_entry hI (by decide +kernel) (Nat.le_of_ble_eq_true rfl) rfl (fun X _ hX => wX9_count hX fu   x1 M)
