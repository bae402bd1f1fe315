/-! rows on the memory, calls, ends -/
def ld (M : Mem) (k n : Nat) (i : Int32) (K : Int32 → Res) : Res := if 0 ≤ i.toInt ∧ i.toInt < n then K (M k i.toNatClampNeg) else none
def sto (M : Mem) (k n : Nat) (i v : Int32) (K : Mem → Res) : Res := if 0 ≤ i.toInt ∧ i.toInt < n then K (up2 M k i.toNatClampNeg v) else none
def ldr (n : Nat) (i : Int32) (K : Nat → Res) : Res := if 0 ≤ i.toInt ∧ i.toInt < n then K i.toNatClampNeg else none
def fpt (M : Mem) (k j : Nat) (v : Int32) (K : Mem → Res) : Res := K (up2 M k j v)
/-- a truth value is stored -/
def fpz (M : Mem) (k j : Nat) (v : Int32) (K : Mem → Res) : Res := if v = 0 ∨ v = 1 then K (up2 M k j v) else none
def cpy (M : Mem) (k k' n : Nat) (K : Mem → Res) : Res := K (upR M k' (va_cpy (M k) (M k') 0 0 n))
def bI (f : Res) (K : Int32 → Mem → Res) : Res := match f with
  | none => none
  | some q => K q.1 q.2
def bV (f : Res) (K : Mem → Res) : Res := match f with
  | none => none
  | some q => K q.2
def imin (x y : Int32) : Int32 := if y < x then y else x
def imax (x y : Int32) : Int32 := if x < y then y else x
/-- returned by a method of truth values -/
def rtz (v : Int32) (M : Mem) : Res := if v = 0 ∨ v = 1 then some (v, M) else none
/-- returned by a method of letters -/
def rtc (v : Int32) (M : Mem) : Res := if 0 ≤ v.toInt ∧ v.toInt < 65536 then some (v, M) else none
section JM
variable {X : jC} {μ : jM} {G : jS} {pc : Nat} {lv : List (Nat × Value)} {st : List Value} {M : Mem} {o : Res}
theorem fd_get {G : jS} {M : Mem} {k c j N : Nat} (hN : ncl c = N) (hj : j < N) : ((List.range (ncl c)).map (fdV G M k))[j]? = some (fdV G M k j) := by
  rw [hN]; simp [hj]
/-- a field that refers -/
theorem j_getR (hX : jOk X μ G) {k t ci j idx N : Nat} {C : String} {T : u_T} (hk : k < gN G) (hty : gty G k = ci) (hc : vwCl[ci]? = some (C, T, N)) (hc20 : ci < 20) (hin : ∀ w ∈ u_ws C T N, w ∈ tbg) (hj : j < N) (hrf : grf G k j = some t) (hlink : Cond.fieldLink μ.2.2.1 idx (T j).1 (T j).2.1 (T j).2.2.1 ∈ tbg) (hd : decode μ.1 pc = .ok (.getfield idx, 3)) (kk : J X μ G (pc + 3) lv (.ref (gad G t) :: st) M o) : J X μ G pc lv (.ref (gad G k) :: st) M o := by
  intro H locs ls hl hP hS r M' ho
  have hN : ncl ci = N := by simp [ncl, hc]
  refine va_get hX.1 hX.2.1 hX.2.2.2.2.1 hin hX.2.2.2.1 hX.2.2.2.2.2.2.2.1 hP k (by rw [wld_get hk, cell_obj hty hc20]) hc j hj (hX.2.2.2.2.1 _ hlink) (fun _ h => h) (v := .ref (gad G t)) ?_ hd (kk H locs ls hl hP hS r M' ho)
  rw [fd_get hN hj]; simp [fdV, hrf]
theorem j_getI (hX : jOk X μ G) {k ci j idx N : Nat} {C : String} {T : u_T} (hk : k < gN G) (hty : gty G k = ci) (hc : vwCl[ci]? = some (C, T, N)) (hc20 : ci < 20) (hin : ∀ w ∈ u_ws C T N, w ∈ tbg) (hj : j < N) (hrf : grf G k j = none) (hlink : Cond.fieldLink μ.2.2.1 idx (T j).1 (T j).2.1 (T j).2.2.1 ∈ tbg) (hd : decode μ.1 pc = .ok (.getfield idx, 3)) (kk : J X μ G (pc + 3) lv (.int (M k j) :: st) M o) : J X μ G pc lv (.ref (gad G k) :: st) M o := by
  intro H locs ls hl hP hS r M' ho
  have hN : ncl ci = N := by simp [ncl, hc]
  refine va_get hX.1 hX.2.1 hX.2.2.2.2.1 hin hX.2.2.2.1 hX.2.2.2.2.2.2.2.1 hP k (by rw [wld_get hk, cell_obj hty hc20]) hc j hj (hX.2.2.2.2.1 _ hlink) (fun _ h => h) (v := .int (M k j)) ?_ hd (kk H locs ls hl hP hS r M' ho)
  rw [fd_get hN hj]; simp [fdV, hrf]
theorem fd_set {G : jS} {M : Mem} {k j N : Nat} (hj : j < N) (hrf : grf G k j = none) (v : Int32) : ((List.range N).map (fdV G M k)).set j (.int v) = (List.range N).map (fdV G (up2 M k j v) k) := by
  apply List.ext_getElem?
  intro i
  by_cases hi : i < N
  · by_cases e : i = j
    · subst e
      rw [List.getElem?_set_self (by simp; exact hi)]
      simp [hi, fdV, hrf, up2]
    · rw [List.getElem?_set_ne (Ne.symm e)]
      simp [hi, fdV, up2, e]
  · rw [List.getElem?_eq_none (by simp; omega), List.getElem?_eq_none (by simp; omega)]
theorem up2_ne {M : Mem} {k j a : Nat} {v : Int32} (h : a ≠ k) : up2 M k j v a = M a := by simp [up2, h]
theorem j_putX (hX : jOk X μ G) {k ci j idx N : Nat} {C : String} {T : u_T} {v : Int32} {ty : FieldType} (hk : k < gN G) (hty : gty G k = ci) (hc : vwCl[ci]? = some (C, T, N)) (hc20 : ci < 20) (hin : ∀ w ∈ u_ws C T N, w ∈ tbg) (ty0 : Nat → FieldType) (htys : ∀ k, k < N → parseFieldDescriptor (T k).2.2.1 = some (ty0 k)) (hnm : ∀ a, a < N → ∀ b, b < N → a ≠ b → (T a).2.1 ≠ (T b).2.1) (hj : j < N) (hrf : grf G k j = none) (hlink : Cond.fieldLink μ.2.2.1 idx (T j).1 (T j).2.1 (T j).2.2.1 ∈ tbg) (hfin : (T j).2.2.2 = false) (hdc : parseFieldDescriptor (T j).2.2.1 = some ty) (hn : narrow ty (.int v) = .int v) (hfit : fits ty (.int v) = true) (hd : decode μ.1 pc = .ok (.putfield idx, 3)) (kk : J X μ G (pc + 3) lv st (up2 M k j v) o) : J X μ G pc lv (.int v :: .ref (gad G k) :: st) M o := by
  intro H locs ls hl hP hS r M' ho
  have hN : ncl ci = N := by simp [ncl, hc]
  refine va_put hX.1 hX.2.1 hX.2.2.2.2.1 hin ty0 htys hnm hX.2.2.2.1 hX.2.2.2.2.2.2.2.1 hP (wld_D hX.2.2.2.2.2.2.2.2.1 M) hS k (by rw [wld_get hk, cell_obj hty hc20]) hc j hj (hX.2.2.2.2.1 _ hlink) (fun _ h => h) hfin hdc hn hfit (by simp [hN, hj]) hd (fun H1 locs1 hP1 _ hS1 => ?_)
  rw [wld_set (M' := up2 M k j v) hk (fun a h => up2_ne h) (by rw [cell_obj hty hc20, hN, fd_set hj hrf])] at hP1
  exact kk H1 locs1 ls hl hP1 hS1 r M' ho
theorem j_putI (hX : jOk X μ G) {k ci j idx N : Nat} {C : String} {T : u_T} {v : Int32} {K : Mem → Res} (hk : k < gN G) (hty : gty G k = ci) (hc : vwCl[ci]? = some (C, T, N)) (hc20 : ci < 20) (hin : ∀ w ∈ u_ws C T N, w ∈ tbg) (ty0 : Nat → FieldType) (htys : ∀ k, k < N → parseFieldDescriptor (T k).2.2.1 = some (ty0 k)) (hnm : ∀ a, a < N → ∀ b, b < N → a ≠ b → (T a).2.1 ≠ (T b).2.1) (hj : j < N) (hrf : grf G k j = none) (hlink : Cond.fieldLink μ.2.2.1 idx (T j).1 (T j).2.1 (T j).2.2.1 ∈ tbg) (hfin : (T j).2.2.2 = false) (hdc : parseFieldDescriptor (T j).2.2.1 = some .int) (hd : decode μ.1 pc = .ok (.putfield idx, 3)) (kk : ∀ M1 : Mem, J X μ G (pc + 3) lv st M1 (K M1)) : J X μ G pc lv (.int v :: .ref (gad G k) :: st) M (fpt M k j v K) :=
  j_putX hX hk hty hc hc20 hin ty0 htys hnm hj hrf hlink hfin hdc (vp_nar_int v) rfl hd (kk (up2 M k j v))
theorem nar_z {v : Int32} (h : v = 0 ∨ v = 1) : narrow .boolean (.int v) = .int v ∧ fits .boolean (.int v) = true := by
  rcases h with rfl | rfl <;> exact ⟨rfl, rfl⟩
theorem j_putZ (hX : jOk X μ G) {k ci j idx N : Nat} {C : String} {T : u_T} {v : Int32} {K : Mem → Res} (hk : k < gN G) (hty : gty G k = ci) (hc : vwCl[ci]? = some (C, T, N)) (hc20 : ci < 20) (hin : ∀ w ∈ u_ws C T N, w ∈ tbg) (ty0 : Nat → FieldType) (htys : ∀ k, k < N → parseFieldDescriptor (T k).2.2.1 = some (ty0 k)) (hnm : ∀ a, a < N → ∀ b, b < N → a ≠ b → (T a).2.1 ≠ (T b).2.1) (hj : j < N) (hrf : grf G k j = none) (hlink : Cond.fieldLink μ.2.2.1 idx (T j).1 (T j).2.1 (T j).2.2.1 ∈ tbg) (hfin : (T j).2.2.2 = false) (hdc : parseFieldDescriptor (T j).2.2.1 = some .boolean) (hd : decode μ.1 pc = .ok (.putfield idx, 3)) (kk : ∀ M1 : Mem, J X μ G (pc + 3) lv st M1 (K M1)) : J X μ G pc lv (.int v :: .ref (gad G k) :: st) M (fpz M k j v K) := by
  by_cases h : v = 0 ∨ v = 1
  · rw [show fpz M k j v K = K (up2 M k j v) from if_pos h]
    exact j_putX hX hk hty hc hc20 hin ty0 htys hnm hj hrf hlink hfin hdc (nar_z h).1 (nar_z h).2 hd (kk (up2 M k j v))
  · rw [show fpz M k j v K = none from if_neg h]
    exact j_none
theorem in_of {i : Int32} {n : Nat} (h : 0 ≤ i.toInt ∧ i.toInt < n) : vp_in i n := vp_in_iff.mpr h
theorem j_iald (hX : jOk X μ G) {k n : Nat} {i : Int32} {K : Int32 → Res} (hk : k < gN G) (hty : gty G k = 20) (hn : gln G k = n) (hd : decode μ.1 pc = .ok (.iaload, 1)) (kk : ∀ v : Int32, J X μ G (pc + 1) lv (.int v :: st) M (K v)) : J X μ G pc lv (.int i :: .ref (gad G k) :: st) M (ld M k n i K) := by
  intro H locs ls hl hP hS r M' ho
  by_cases h : 0 ≤ i.toInt ∧ i.toInt < n
  · rw [show ld M k n i K = K (M k i.toNatClampNeg) from if_pos h] at ho
    exact va_iald hX.1 hX.2.1 hX.2.2.2.2.2.2.2.1 hP k 0 (by rw [wld_get hk, cell_arr hty hn (Or.inl rfl)]) rfl (in_of h) hd (kk _ H locs ls hl hP hS r M' ho)
  · rw [show ld M k n i K = none from if_neg h] at ho; cases ho
theorem j_bald (hX : jOk X μ G) {k n : Nat} {i : Int32} {K : Int32 → Res} (hk : k < gN G) (hty : gty G k = 21) (hn : gln G k = n) (hd : decode μ.1 pc = .ok (.baload, 1)) (kk : ∀ v : Int32, J X μ G (pc + 1) lv (.int v :: st) M (K v)) : J X μ G pc lv (.int i :: .ref (gad G k) :: st) M (ld M k n i K) := by
  intro H locs ls hl hP hS r M' ho
  by_cases h : 0 ≤ i.toInt ∧ i.toInt < n
  · rw [show ld M k n i K = K (M k i.toNatClampNeg) from if_pos h] at ho
    exact va_bald hX.1 hX.2.1 hX.2.2.2.2.2.2.2.1 hP k 1 (by rw [wld_get hk, cell_arr hty hn (Or.inr (Or.inl rfl))]) rfl (in_of h) hd (kk _ H locs ls hl hP hS r M' ho)
  · rw [show ld M k n i K = none from if_neg h] at ho; cases ho
theorem j_cald (hX : jOk X μ G) {k n : Nat} {i : Int32} {K : Int32 → Res} (hk : k < gN G) (hty : gty G k = 22) (hn : gln G k = n) (hd : decode μ.1 pc = .ok (.caload, 1)) (kk : ∀ v : Int32, J X μ G (pc + 1) lv (.int v :: st) M (K v)) : J X μ G pc lv (.int i :: .ref (gad G k) :: st) M (ld M k n i K) := by
  intro H locs ls hl hP hS r M' ho
  by_cases h : 0 ≤ i.toInt ∧ i.toInt < n
  · rw [show ld M k n i K = K (M k i.toNatClampNeg) from if_pos h] at ho
    exact va_cald hX.1 hX.2.1 hX.2.2.2.2.2.2.2.1 hP k 2 (by rw [wld_get hk, cell_arr hty hn (Or.inr (Or.inr rfl))]) rfl (in_of h) hd (kk _ H locs ls hl hP hS r M' ho)
  · rw [show ld M k n i K = none from if_neg h] at ho; cases ho
theorem j_aald (hX : jOk X μ G) {k n : Nat} {i : Int32} {K : Nat → Res} (hk : k < gN G) (hty : gty G k = 23) (hn : gln G k = n) (hd : decode μ.1 pc = .ok (.aaload, 1)) (kk : ∀ q : Nat, q < n → J X μ G (pc + 1) lv (.ref (gad G (grt G k q)) :: st) M (K q)) : J X μ G pc lv (.int i :: .ref (gad G k) :: st) M (ldr n i K) := by
  intro H locs ls hl hP hS r M' ho
  by_cases h : 0 ≤ i.toInt ∧ i.toInt < n
  · rw [show ldr n i K = K i.toNatClampNeg from if_pos h] at ho
    have hlt : i.toNatClampNeg < n := Nat.not_le.mp fun q => (in_of h) (Or.inr q)
    exact va_aldq (f := fun i => some (gad G (grt G k i))) hX.1 hX.2.1 hX.2.2.2.2.2.2.2.1 hP k 3 (by rw [wld_get hk, cell_ref hty hn]) rfl (in_of h) hd (kk _ hlt H locs ls hl hP hS r M' ho)
  · rw [show ldr n i K = none from if_neg h] at ho; cases ho
theorem j_alen (hX : jOk X μ G) {k n t : Nat} {v : Int32} (hk : k < gN G) (hty : gty G k = t) (ht : t = 20 ∨ t = 21 ∨ t = 22) (hn : gln G k = n) (hv : Int32.ofNat n = v) (hd : decode μ.1 pc = .ok (.arraylength, 1)) (kk : J X μ G (pc + 1) lv (.int v :: st) M o) : J X μ G pc lv (.ref (gad G k) :: st) M o := by
  intro H locs ls hl hP hS r M' ho
  have hg : (wld G M)[k]? = some (gad G k, .inl (gcA G t, n, .inl (M k))) := by rw [wld_get hk, cell_arr hty hn ht]
  rcases ht with rfl | rfl | rfl
  · exact va_alen hX.1 hX.2.1 hX.2.2.2.2.2.2.2.1 hP k 0 hg rfl hv hd (kk H locs ls hl hP hS r M' ho)
  · exact va_alen hX.1 hX.2.1 hX.2.2.2.2.2.2.2.1 hP k 1 hg rfl hv hd (kk H locs ls hl hP hS r M' ho)
  · exact va_alen hX.1 hX.2.1 hX.2.2.2.2.2.2.2.1 hP k 2 hg rfl hv hd (kk H locs ls hl hP hS r M' ho)
theorem j_alenR (hX : jOk X μ G) {k n : Nat} {v : Int32} (hk : k < gN G) (hty : gty G k = 23) (hn : gln G k = n) (hv : Int32.ofNat n = v) (hd : decode μ.1 pc = .ok (.arraylength, 1)) (kk : J X μ G (pc + 1) lv (.int v :: st) M o) : J X μ G pc lv (.ref (gad G k) :: st) M o := by
  intro H locs ls hl hP hS r M' ho
  exact va_alen hX.1 hX.2.1 hX.2.2.2.2.2.2.2.1 hP k 3 (by rw [wld_get hk, cell_ref hty hn]) rfl hv hd (kk H locs ls hl hP hS r M' ho)
theorem ja_set {G : jS} {M : Mem} {k t n : Nat} (hk : k < gN G) (hty : gty G k = t) (hn : gln G k = n) (ht : t = 20 ∨ t = 21 ∨ t = 22) (f : Nat → Int32) : (wld G M).set k (gad G k, .inl (gcA G t, n, .inl f)) = wld G (upR M k f) :=
  wld_set hk (fun a h => by simp [upR, h]) (by rw [cell_arr hty hn ht]; simp [upR])
theorem j_iast (hX : jOk X μ G) {k n : Nat} {i v : Int32} {K : Mem → Res} (hk : k < gN G) (hty : gty G k = 20) (hn : gln G k = n) (hd : decode μ.1 pc = .ok (.iastore, 1)) (kk : ∀ M1 : Mem, J X μ G (pc + 1) lv st M1 (K M1)) : J X μ G pc lv (.int v :: .int i :: .ref (gad G k) :: st) M (sto M k n i v K) := by
  intro H locs ls hl hP hS r M' ho
  by_cases h : 0 ≤ i.toInt ∧ i.toInt < n
  · rw [show sto M k n i v K = K (up2 M k i.toNatClampNeg v) from if_pos h] at ho
    refine va_iast hX.1 hX.2.1 hX.2.2.2.2.2.2.2.1 hP (wld_D hX.2.2.2.2.2.2.2.2.1 M) hS k 0 (by rw [wld_get hk, cell_arr hty hn (Or.inl rfl)]) rfl (in_of h) hd (fun H1 locs1 hP1 _ hS1 => ?_)
    rw [ja_set hk hty hn (Or.inl rfl), ← up2_eq] at hP1
    exact kk _ H1 locs1 ls hl hP1 hS1 r M' ho
  · rw [show sto M k n i v K = none from if_neg h] at ho; cases ho
theorem j_bast (hX : jOk X μ G) {k n : Nat} {i v : Int32} {K : Mem → Res} (hk : k < gN G) (hty : gty G k = 21) (hn : gln G k = n) (hd : decode μ.1 pc = .ok (.bastore, 1)) (kk : ∀ M1 : Mem, J X μ G (pc + 1) lv st M1 (K M1)) : J X μ G pc lv (.int v :: .int i :: .ref (gad G k) :: st) M (sto M k n i (vp_nar .byte v) K) := by
  intro H locs ls hl hP hS r M' ho
  by_cases h : 0 ≤ i.toInt ∧ i.toInt < n
  · rw [show sto M k n i (vp_nar .byte v) K = K (up2 M k i.toNatClampNeg (vp_nar .byte v)) from if_pos h] at ho
    refine va_bast hX.1 hX.2.1 hX.2.2.2.2.2.2.2.1 hP (wld_D hX.2.2.2.2.2.2.2.2.1 M) hS k 1 (by rw [wld_get hk, cell_arr hty hn (Or.inr (Or.inl rfl))]) rfl (in_of h) hd (fun H1 locs1 hP1 _ hS1 => ?_)
    rw [ja_set hk hty hn (Or.inr (Or.inl rfl)), ← up2_eq] at hP1
    exact kk _ H1 locs1 ls hl hP1 hS1 r M' ho
  · rw [show sto M k n i (vp_nar .byte v) K = none from if_neg h] at ho; cases ho
theorem j_cast (hX : jOk X μ G) {k n : Nat} {i v : Int32} {K : Mem → Res} (hk : k < gN G) (hty : gty G k = 22) (hn : gln G k = n) (hd : decode μ.1 pc = .ok (.castore, 1)) (kk : ∀ M1 : Mem, J X μ G (pc + 1) lv st M1 (K M1)) : J X μ G pc lv (.int v :: .int i :: .ref (gad G k) :: st) M (sto M k n i (vp_nar .char v) K) := by
  intro H locs ls hl hP hS r M' ho
  by_cases h : 0 ≤ i.toInt ∧ i.toInt < n
  · rw [show sto M k n i (vp_nar .char v) K = K (up2 M k i.toNatClampNeg (vp_nar .char v)) from if_pos h] at ho
    refine va_cast hX.1 hX.2.1 hX.2.2.2.2.2.2.2.1 hP (wld_D hX.2.2.2.2.2.2.2.2.1 M) hS k 2 (by rw [wld_get hk, cell_arr hty hn (Or.inr (Or.inr rfl))]) rfl (in_of h) hd (fun H1 locs1 hP1 _ hS1 => ?_)
    rw [ja_set hk hty hn (Or.inr (Or.inr rfl)), ← up2_eq] at hP1
    exact kk _ H1 locs1 ls hl hP1 hS1 r M' ho
  · rw [show sto M k n i (vp_nar .char v) K = none from if_neg h] at ho; cases ho
/-- System.arraycopy of two whole rows of numbers -/
theorem j_copy (hX : jOk X μ G) {k k' n idx : Nat} {v : Int32} {K : Mem → Res} (hk : k < gN G) (hk' : k' < gN G) (hty : gty G k = 20) (hty' : gty G k' = 20) (hn : gln G k = n) (hn' : gln G k' = n) (hv : Int32.ofNat n = v) (hsm : n < 2 ^ 31) (h1 : Cond.methodLink μ.2.2.1 idx arraycopyName ∈ tbg) (h2 : Cond.native arraycopyName ∈ tbg) (h3 : Cond.static arraycopyName ∈ tbg) (h4 : Cond.initialized "java/lang/System" ∈ tbg) (hf : 1 ≤ μ.2.2.2.2.frames) (hlo : (st.map fun v => v.category).sum + (nativeFrameWords "java/lang/System" "arraycopy" 5 + 11) ≤ μ.2.2.2.2.locals) (hd : decode μ.1 pc = .ok (.invokestatic idx, 3)) (kk : ∀ M1 : Mem, J X μ G (pc + 3) lv st M1 (K M1)) : J X μ G pc lv (.int v :: .int 0 :: .ref (gad G k') :: .int 0 :: .ref (gad G k) :: st) M (cpy M k k' n K) := by
  intro H locs ls hl hP hS r M' ho
  subst hv
  have hcl : (Int32.ofNat n).toNatClampNeg = n := nI_clamp hsm
  have hz : (0 : Int32).toNatClampNeg = 0 := sb_cl0
  refine va_copyi hX.1 hX.2.1 (hX.2.2.1.trans hl.1.symm) hX.2.2.2.1 (hX.2.2.2.2.1 _ h1) (hX.2.2.2.2.1 _ h2) (hX.2.2.2.2.1 _ h3) (hX.2.2.2.2.1 _ h4) hX.2.2.2.2.2.2.2.1 hP (wld_D hX.2.2.2.2.2.2.2.2.1 M) hS k k' 0 0 (ty := .int) (by rw [wld_get hk, cell_arr hty hn (Or.inl rfl)]) (by rw [wld_get hk', cell_arr hty' hn' (Or.inl rfl)]) rfl rfl rfl (by decide) (by decide) (nI_pos hsm) (by rw [hcl, hz]; omega) (by rw [hcl, hz]; omega) (fun i _ => rfl) (by rw [show X.2.2.2.1 = μ.2.2.2.2 from hX.2.2.2.2.2.2.2.2.2]; exact hf) (by rw [show X.2.2.2.1 = μ.2.2.2.2 from hX.2.2.2.2.2.2.2.2.2]; exact hlo) hd (fun H1 locs1 hP1 _ hS1 => ?_)
  rw [ja_set hk' hty' hn' (Or.inl rfl), hcl, hz] at hP1
  exact kk _ H1 locs1 ls hl hP1 hS1 r M' ho
theorem j_min (hX : jOk X μ G) {idx : Nat} {x y : Int32} (h1 : Cond.methodLink μ.2.2.1 idx Lib.Math.min.name ∈ tbg) (h2 : Cond.static Lib.Math.min.name ∈ tbg) (h3 : Cond.initialized "java/lang/Math" ∈ tbg) (h4 : Cond.code Lib.Math.min.name Lib.Math.min.code 2 (some .int) ∈ tbg) (hf : 1 ≤ μ.2.2.2.2.frames) (hlo : (st.map fun v => v.category).sum + 13 ≤ μ.2.2.2.2.locals) (hd : decode μ.1 pc = .ok (.invokestatic idx, 3)) (kk : J X μ G (pc + 3) lv (.int (imin x y) :: st) M o) : J X μ G pc lv (.int y :: .int x :: st) M o :=
  fun H locs ls hl hP hS r M' ho => va_mmin hX.1 hX.2.1 (hX.2.2.1.trans hl.1.symm) hX.2.2.2.1 (hX.2.2.2.2.1 _ h1) (hX.2.2.2.2.1 _ h2) (hX.2.2.2.2.1 _ h3) (hX.2.2.2.2.1 _ h4) (by rw [show X.2.2.2.1 = μ.2.2.2.2 from hX.2.2.2.2.2.2.2.2.2]; exact hf) (by rw [show X.2.2.2.1 = μ.2.2.2.2 from hX.2.2.2.2.2.2.2.2.2]; exact hlo) (Nat.zero_le _) (Nat.zero_le _) hd (kk H locs ls hl hP hS r M' ho)
theorem j_max (hX : jOk X μ G) {idx : Nat} {x y : Int32} (h1 : Cond.methodLink μ.2.2.1 idx Lib.Math.max.name ∈ tbg) (h2 : Cond.static Lib.Math.max.name ∈ tbg) (h3 : Cond.initialized "java/lang/Math" ∈ tbg) (h4 : Cond.code Lib.Math.max.name Lib.Math.max.code 2 (some .int) ∈ tbg) (hf : 1 ≤ μ.2.2.2.2.frames) (hlo : (st.map fun v => v.category).sum + 13 ≤ μ.2.2.2.2.locals) (hd : decode μ.1 pc = .ok (.invokestatic idx, 3)) (kk : J X μ G (pc + 3) lv (.int (imax x y) :: st) M o) : J X μ G pc lv (.int y :: .int x :: st) M o :=
  fun H locs ls hl hP hS r M' ho => va_mmax hX.1 hX.2.1 (hX.2.2.1.trans hl.1.symm) hX.2.2.2.1 (hX.2.2.2.2.1 _ h1) (hX.2.2.2.2.1 _ h2) (hX.2.2.2.2.1 _ h3) (hX.2.2.2.2.1 _ h4) (by rw [show X.2.2.2.1 = μ.2.2.2.2 from hX.2.2.2.2.2.2.2.2.2]; exact hf) (by rw [show X.2.2.2.1 = μ.2.2.2.2 from hX.2.2.2.2.2.2.2.2.2]; exact hlo) (Nat.zero_le _) (Nat.zero_le _) hd (kk H locs ls hl hP hS r M' ho)
/-- ends -/
theorem j_iret (hX : jOk X μ G) {v : Int32} (hr : μ.2.2.2.1 = some .int) (hd : decode μ.1 pc = .ok (.ireturn, 1)) : J X μ G pc lv [.int v] M (some (v, M)) := by
  intro H locs ls hl hP hS r M' ho
  cases ho
  exact W.iret hX.1 hX.2.1 (hX.2.2.2.2.2.2.1.trans hr) (fun t ht _ => ⟨⟨by rw [hr]; rfl, by rw [ht]; exact hP⟩, hS.F ht⟩) hS.2.2 hd hX.2.2.2.2.2.1
theorem j_vret (hX : jOk X μ G) (hr : μ.2.2.2.1 = none) (hd : decode μ.1 pc = .ok (.return_, 1)) : J X μ G pc lv [] M (some (0, M)) := by
  intro H locs ls hl hP hS r M' ho
  cases ho
  exact W.vret hX.1 hX.2.1 (hX.2.2.2.2.2.2.1.trans hr) (fun t ht _ => ⟨⟨by rw [hr]; rfl, by rw [ht]; exact hP⟩, hS.F ht⟩) hS.2.2 hd hX.2.2.2.2.2.1
theorem j_zret (hX : jOk X μ G) {v : Int32} (hr : μ.2.2.2.1 = some .boolean) (hd : decode μ.1 pc = .ok (.ireturn, 1)) : J X μ G pc lv [.int v] M (rtz v M) := by
  intro H locs ls hl hP hS r M' ho
  by_cases h : v = 0 ∨ v = 1
  · rw [show rtz v M = some (v, M) from if_pos h] at ho
    cases ho
    exact W.zret hX.1 hX.2.1 (hX.2.2.2.2.2.2.1.trans hr) (nar_z h).1 (fun t ht _ => ⟨⟨by rw [hr]; rfl, by rw [ht]; exact hP⟩, hS.F ht⟩) hS.2.2 hd hX.2.2.2.2.2.1
  · rw [show rtz v M = none from if_neg h] at ho; cases ho
theorem j_cret (hX : jOk X μ G) {v : Int32} (hr : μ.2.2.2.1 = some .char) (hd : decode μ.1 pc = .ok (.ireturn, 1)) : J X μ G pc lv [.int v] M (rtc v M) := by
  intro H locs ls hl hP hS r M' ho
  by_cases h : 0 ≤ v.toInt ∧ v.toInt < 65536
  · rw [show rtc v M = some (v, M) from if_pos h] at ho
    cases ho
    obtain ⟨j, hj, rfl⟩ := vp_in_of (vp_in_iff.mpr (show 0 ≤ v.toInt ∧ v.toInt < ((65536 : Nat) : Int) from h)) (by decide)
    exact W.zret hX.1 hX.2.1 (hX.2.2.2.2.2.2.1.trans hr) (pk_charN hj).1 (fun t ht _ => ⟨⟨by rw [hr]; rfl, by rw [ht]; exact hP⟩, hS.F ht⟩) hS.2.2 hd hX.2.2.2.2.2.1
  · rw [show rtc v M = none from if_neg h] at ho; cases ho
theorem j_aret (hX : jOk X μ G) {k : Nat} {C : String} (hsm : k < 2 ^ 31) (hr : μ.2.2.2.1 = some (.object C)) (hd : decode μ.1 pc = .ok (.areturn, 1)) : J X μ G pc lv [.ref (gad G k)] M (some (nI k, M)) := by
  intro H locs ls hl hP hS r M' ho
  cases ho
  exact W.aret hX.1 hX.2.1 (hX.2.2.2.2.2.2.1.trans hr) (Or.inl ⟨C, rfl⟩) (Or.inr ⟨_, rfl⟩) (fun t ht _ => ⟨⟨by rw [hr]; simp [rvO, nI_clamp hsm], by rw [ht]; exact hP⟩, hS.F ht⟩) hS.2.2 hd hX.2.2.2.2.2.1
end JM
