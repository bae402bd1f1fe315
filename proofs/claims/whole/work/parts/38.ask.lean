/-! PURE: questions that only look: place, way, door, beast, sign, told, count -/
def AGREE (p q : Res) : Prop := ∃ r A' B', p = some (r, A') ∧ q = some (r, B') ∧ REL A' B'
theorem lp_acc {F : Nat → Int32 → Int32 → Res} {n : Nat} {g : Nat → Int32 → Int32} {M : Mem} (h0 : ∀ t acc, F (t + 1) acc (nI n) = some (acc, M)) (hs : ∀ t acc i, i < n → F (t + 1) acc (nI i) = F t (g i acc) (nI (i + 1))) : ∀ m i t acc, i + m = n → m < t → F t acc (nI i) = some (itr g m i acc, M) := by
  intro m
  induction m with
  | zero =>
    intro i t acc hi ht
    obtain ⟨t, rfl⟩ : ∃ q, t = q + 1 := ⟨t - 1, by omega⟩
    have : i = n := by omega
    subst this
    exact h0 t acc
  | succ m ih =>
    intro i t acc hi ht
    obtain ⟨t, rfl⟩ : ∃ q, t = q + 1 := ⟨t - 1, by omega⟩
    rw [hs t acc i (by omega), ih (i + 1) t _ (by omega) (by omega)]
    rfl
theorem itr_cong {α : Type} {g g' : Nat → α → α} : ∀ m i (a : α), (∀ j a, i ≤ j → j < i + m → g j a = g' j a) → itr g m i a = itr g' m i a := by
  intro m
  induction m with
  | zero => intro i a _; rfl
  | succ m ih =>
    intro i a h
    show itr g m (i + 1) (g i a) = itr g' m (i + 1) (g' i a)
    rw [h i a (by omega) (by omega)]
    exact ih (i + 1) _ (fun j a h1 h2 => h j a (by omega) (by omega))
theorem itr_add {α : Type} {g : Nat → α → α} : ∀ m n i (a : α), itr g (m + n) i a = itr g n (i + m) (itr g m i a) := by
  intro m
  induction m with
  | zero => intro n i a; simp [itr]
  | succ m ih =>
    intro n i a
    rw [show m + 1 + n = (m + n) + 1 by omega]
    show itr g (m + n) (i + 1) (g i a) = itr g n (i + (m + 1)) (itr g m (i + 1) (g i a))
    rw [ih, show i + 1 + m = i + (m + 1) by omega]
theorem itr_id {α : Type} {g : Nat → α → α} : ∀ m i (a : α), (∀ j a, i ≤ j → j < i + m → g j a = a) → itr g m i a = a := by
  intro m
  induction m with
  | zero => intro i a _; rfl
  | succ m ih =>
    intro i a h
    show itr g m (i + 1) (g i a) = a
    rw [h i a (by omega) (by omega)]
    exact ih (i + 1) _ (fun j a h1 h2 => h j a (by omega) (by omega))
def gIn (f : Row) (x : Int32) : Nat → Int32 → Int32 := fun b acc => acc + (if f (11 * b + 2) = x ∧ f (11 * b + 3) = -4 then 1 else 0)
def gAm (f : Row) (d : Int32) : Nat → Int32 → Int32 := fun b acc => acc + (if f (11 * b + 1) = d then 1 else 0)
def gCa (f : Row) : Nat → Int32 → Int32 := fun x acc => acc + f (55 + x)
def gRd (C : Mem) (f : Row) : Nat → Int32 → Int32 := fun b acc => acc + (if f (11 * b + 1) = 2 then sRd C f b (f (11 * b + 6)) else 0)
def gTo (C : Mem) (f : Row) (b : Nat) (s : Int32) : Nat → Int32 → Int32 := fun v acc => acc ||| (if sSgn C f b (nI v) = s then 1 <<< (nI v &&& 31) else 0)
section AX
variable {C M : Mem} {fu k b nb np : Nat}
theorem x_beastsIn (h : CC C M) (hnb : C 5 12 = nI nb) (hn : nb ≤ 5) (hf : 5 < fu) (x : Int32) : pX4_beastsIn fu k x M = some (itr (gIn (M (k + 1)) x) nb 0 0, M) := by
  unfold pX4_beastsIn
  refine lp_acc (F := fun t acc i => pX4_beastsIn_4 fu k t x acc i M) (n := nb) ?_ ?_ nb 0 fu 0 (by omega) (by omega)
  · intro t acc
    show pX4_beastsIn_4b fu k x acc (nI nb) M _ = _
    unfold pX4_beastsIn_4b
    rw [x_beasts h, bI_some, hnb, if_pos ((nI_le_iff (by omega) (by omega)).mpr (by omega))]
  · intro t acc i hi
    show pX4_beastsIn_4b fu k x acc (nI i) M _ = _
    unfold pX4_beastsIn_4b
    rw [x_beasts h, bI_some, hnb, if_neg (fun q => by have := (nI_le_iff (by omega) (by omega)).mp q; omega), x_isIn (by omega), bI_some]
    simp only [pX4_beastsIn_30, nI_1, gIn]
    by_cases q : M (k + 1) (11 * i + 2) = x ∧ M (k + 1) (11 * i + 3) = -4
    · rw [if_pos q, if_neg (by decide)]
    · rw [if_neg q, if_pos rfl]
theorem x_amount (h : CC C M) (hnb : C 5 12 = nI nb) (hn : nb ≤ 5) (hf : 5 < fu) (x : Int32) : pX4_amount fu k x M = some (itr (gAm (M (k + 1)) x) nb 0 0, M) := by
  unfold pX4_amount
  refine lp_acc (F := fun t acc i => pX4_amount_4 fu k t x acc i M) (n := nb) ?_ ?_ nb 0 fu 0 (by omega) (by omega)
  · intro t acc
    show pX4_amount_4b fu k x acc (nI nb) M _ = _
    unfold pX4_amount_4b
    rw [x_beasts h, bI_some, hnb, if_pos ((nI_le_iff (by omega) (by omega)).mpr (by omega))]
  · intro t acc i hi
    show pX4_amount_4b fu k x acc (nI i) M _ = _
    unfold pX4_amount_4b
    rw [x_beasts h, bI_some, hnb, if_neg (fun q => by have := (nI_le_iff (by omega) (by omega)).mp q; omega), x_is (by omega), bI_some]
    simp only [pX4_amount_30, nI_1, gAm]
    by_cases q : M (k + 1) (11 * i + 1) = x
    · rw [if_pos q, if_neg (by decide)]
    · rw [if_neg q, if_pos rfl]
theorem x_carrotsAll (h : CC C M) (hnp : C 5 10 = nI np) (hn : np ≤ 8) (hf : 8 < fu) : pX4_carrotsInAll fu k M = some (itr (gCa (M (k + 1))) np 0 0, M) := by
  unfold pX4_carrotsInAll
  refine lp_acc (F := fun t acc i => pX4_carrotsInAll_4 fu k t acc i M) (n := np) ?_ ?_ np 0 fu 0 (by omega) (by omega)
  · intro t acc
    show pX4_carrotsInAll_4b fu k acc (nI np) M _ = _
    unfold pX4_carrotsInAll_4b
    rw [x_places h, bI_some, hnp, if_pos ((nI_le_iff (by omega) (by omega)).mpr (by omega))]
  · intro t acc i hi
    show pX4_carrotsInAll_4b fu k acc (nI i) M _ = _
    unfold pX4_carrotsInAll_4b
    rw [x_places h, bI_some, hnp, if_neg (fun q => by have := (nI_le_iff (by omega) (by omega)).mp q; omega), x_carrotsIn, bI_some, show (55 : Int32) + nI i = nI (55 + i) from nI_add 55 i, rat_nI (by omega) (by decide)]
    simp only [nI_1, gCa]
theorem x_readInSum (h : CC C M) (hnb : C 5 12 = nI nb) (hn : nb ≤ 5) (hf : 5 < fu) : pX4_readInSum fu k M = some (itr (gRd C (M (k + 1))) nb 0 0, M) := by
  unfold pX4_readInSum
  refine lp_acc (F := fun t acc i => pX4_readInSum_4 fu k t acc i M) (n := nb) ?_ ?_ nb 0 fu 0 (by omega) (by omega)
  · intro t acc
    show pX4_readInSum_4b fu k acc (nI nb) M _ = _
    unfold pX4_readInSum_4b
    rw [x_beasts h, bI_some, hnb, if_pos ((nI_le_iff (by omega) (by omega)).mpr (by omega))]
  · intro t acc i hi
    show pX4_readInSum_4b fu k acc (nI i) M _ = _
    unfold pX4_readInSum_4b
    rw [x_beasts h, bI_some, hnb, if_neg (fun q => by have := (nI_le_iff (by omega) (by omega)).mp q; omega), x_is (by omega), bI_some]
    simp only [pX4_readInSum_34, nI_1, gRd]
    by_cases q : M (k + 1) (11 * i + 1) = 2
    · rw [if_pos q, if_neg (by decide), x_readOf h (by omega), bI_some, if_pos q]
    · rw [if_neg q, if_pos rfl, if_neg q]
theorem x_verdicts (h : CC C M) (hb : b < 5) (hf : 8 < fu) (s : Int32) : pX4_verdictsOfSign fu k (nI b) s M = some (itr (gTo C (M (k + 1)) b s) 8 0 0, M) := by
  unfold pX4_verdictsOfSign
  refine lp_acc (F := fun t acc i => pX4_verdictsOfSign_5 fu k t (nI b) s acc i M) (n := 8) ?_ ?_ 8 0 fu 0 (by omega) (by omega)
  · intro t acc
    show pX4_verdictsOfSign_5b fu k (nI b) s acc (nI 8) M _ = _
    unfold pX4_verdictsOfSign_5b
    rw [if_pos (by decide)]
  · intro t acc i hi
    show pX4_verdictsOfSign_5b fu k (nI b) s acc (nI i) M _ = _
    unfold pX4_verdictsOfSign_5b
    rw [if_neg (fun q => by have := (nI_le_iff (a := 8) (by decide) (by omega)).mp q; omega), x_signOf h hb, bI_some]
    simp only [pX4_verdictsOfSign_32, nI_1, gTo]
    split <;> rfl
end AX
section AM
variable {C M : Mem} {np nd nb fu base b : Nat} {ln ds : Nat → Nat → Nat} {f : Row}
theorem m_standing (hR : RC C M np nd nb ln ds) (hB : base + 64 ≤ 768) (hM : HM np nb f (M 12) base) (hf : 5 < fu) (x : Int32) : pX10_standing fu (nI base) x M = some (itr (gIn f x) nb 0 0, M) := by
  have hn := hR.1
  unfold pX10_standing
  refine lp_acc (F := fun t acc i => pX10_standing_5 fu t (nI base) x acc i M) (n := nb) ?_ ?_ nb 0 fu 0 (by omega) (by omega)
  · intro t acc
    show pX10_standing_5b fu (nI base) x acc (nI nb) M _ = _
    unfold pX10_standing_5b
    rw [hR.2.2.1.2.2, if_pos ((nI_le_iff (by omega) (by omega)).mpr (by omega))]
  · intro t acc i hi
    show pX10_standing_5b fu (nI base) x acc (nI i) M _ = _
    unfold pX10_standing_5b
    have e3 := hM.1 i hi 3 (by decide) (by decide)
    have e2 := hM.1 i hi 2 (by decide) (by decide)
    simp only [show off 3 = 10 from rfl, show off 2 = 5 from rfl] at e3 e2
    rw [hR.2.2.1.2.2, if_neg (fun q => by have := (nI_le_iff (by omega) (by omega)).mp q; omega), m_ld10 hB (by omega), e3, m_ld5 hB (by omega), e2]
    simp only [pX10_standing_51, pX10_standing_52, nI_1, gIn]
    by_cases q3 : f (11 * i + 3) = -4
    · by_cases q2 : f (11 * i + 2) = x
      · rw [if_pos q3, if_pos q2, if_pos ⟨q2, q3⟩]
      · rw [if_pos q3, if_neg q2, if_neg (fun q => q2 q.1)]
    · rw [if_neg q3, if_neg (fun q => q3 q.2)]
theorem m_many (hR : RC C M np nd nb ln ds) (hM : HM np nb f (M 12) 0) (hf : 5 < fu) (x : Int32) : pX10_many fu x M = some (itr (gAm f x) nb 0 0, M) := by
  have hn := hR.1
  unfold pX10_many
  refine lp_acc (F := fun t acc i => pX10_many_4 fu t x acc i M) (n := nb) ?_ ?_ nb 0 fu 0 (by omega) (by omega)
  · intro t acc
    show pX10_many_4b fu x acc (nI nb) M _ = _
    unfold pX10_many_4b
    rw [hR.2.2.1.2.2, if_pos ((nI_le_iff (by omega) (by omega)).mpr (by omega))]
  · intro t acc i hi
    show pX10_many_4b fu x acc (nI i) M _ = _
    unfold pX10_many_4b
    have e1 := hM.1 i hi 1 (by decide) (by decide)
    have e1' : M 12 i = f (11 * i + 1) := by rw [← e1]; congr 1; simp [off]
    rw [hR.2.2.1.2.2, if_neg (fun q => by have := (nI_le_iff (by omega) (by omega)).mp q; omega), ld_nI (by omega) (by decide), e1']
    simp only [pX10_many_28, nI_1, gAm]
    split <;> rfl
theorem m_allCarrots (hR : RC C M np nd nb ln ds) (hM : HM np nb f (M 12) 0) (hf : 8 < fu) : pX10_allCarrots fu M = some (itr (gCa f) np 0 0, M) := by
  have hn := hR.1
  unfold pX10_allCarrots
  refine lp_acc (F := fun t acc i => pX10_allCarrots_4 fu t acc i M) (n := np) ?_ ?_ np 0 fu 0 (by omega) (by omega)
  · intro t acc
    show pX10_allCarrots_4b fu acc (nI np) M _ = _
    unfold pX10_allCarrots_4b
    rw [hR.2.2.1.1, if_pos ((nI_le_iff (by omega) (by omega)).mpr (by omega))]
  · intro t acc i hi
    show pX10_allCarrots_4b fu acc (nI i) M _ = _
    unfold pX10_allCarrots_4b
    have e1 := hM.2.2.1 i hi
    rw [Nat.zero_add] at e1
    rw [hR.2.2.1.1, if_neg (fun q => by have := (nI_le_iff (by omega) (by omega)).mp q; omega), show (55 : Int32) + nI i = nI (55 + i) from nI_add 55 i, ld_nI (by omega) (by decide), e1]
    simp only [nI_1, gCa]
theorem m_told8 (hR : RC C M np nd nb ln ds) (hb : b < nb) (hM : HM np nb f (M 12) 0) (hf : 8 < fu) (s : Int32) : pX10_told_38 fu fu (nI b) s 0 0 M = some (itr (gTo C f b s) 8 0 0, M) := by
  refine lp_acc (F := fun t acc i => pX10_told_38 fu t (nI b) s acc i M) (n := 8) ?_ ?_ 8 0 fu 0 (by omega) (by omega)
  · intro t acc
    show pX10_told_38b fu (nI b) s acc (nI 8) M _ = _
    unfold pX10_told_38b
    rw [if_pos (by decide)]
  · intro t acc i hi
    show pX10_told_38b fu (nI b) s acc (nI i) M _ = _
    unfold pX10_told_38b
    rw [if_neg (fun q => by have := (nI_le_iff (a := 8) (by decide) (by omega)).mp q; omega), show (0 : Int32) = nI 0 from rfl, m_signBy hR (by decide) hb hM, bI_some]
    simp only [pX10_told_66, nI_1, gTo]
    split <;> rfl
theorem m_isOut (hR : RC C M np nd nb ln ds) (hb : b < nb) (hM : HM np nb f (M 12) 0) : pX10_isOut fu (nI b) M = some (if f (11 * b + 1) = 1 ∨ f (11 * b + 1) = 2 then 1 else 0, M) := by
  have hn := hR.1
  have e1 := hM.1 b hb 1 (by decide) (by decide)
  have e1' : M 12 b = f (11 * b + 1) := by rw [← e1]; congr 1; simp [off]
  simp only [pX10_isOut, ld_nI (show b < 768 by omega) (show 768 < 2 ^ 31 by decide), e1', rtz_0, rtz_1]
  by_cases q1 : f (11 * b + 1) = 1
  · simp [q1]
  · by_cases q2 : f (11 * b + 1) = 2
    · simp [q2]
    · simp [q1, q2]
end AM
