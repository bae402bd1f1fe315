/-! PURE: signs, readings, sending, calling home, copies, in both -/
/-- SIGN, had the verdict been v -/
def sSg2 (C : Mem) (f : Row) (b : Nat) (m v : Int32) : Int32 := if cKd C (nI b) = 2 then (if m < 5 then v else imin (v + 1) 7) else v
def sSg1 (C : Mem) (b : Nat) (m v : Int32) : Int32 := if cKd C (nI b) = 1 then (if irm m 2 = 1 then 7 - v else v) else v
def sSgn (C : Mem) (f : Row) (b : Nat) (v : Int32) : Int32 := imax (sSg2 C f b (f (11 * b + 9)) (sSg1 C b (f (11 * b + 9)) v) - f (11 * b + 7) - 2 * f (11 * b + 8)) 0
/-- what is READ of a sign by a door of this kind -/
def rdK (kd s : Int32) : Int32 := if kd = 1 then s - irm s 2 else if kd = 2 then imax s 4 else if kd = 3 then s / 2 else s
def sRd (C : Mem) (f : Row) (b : Nat) (v : Int32) : Int32 := rdK (cDK C (f (11 * b + 5))) (sSgn C f b v)
def sSend (C : Mem) (f : Row) (b : Nat) (v d : Int32) : Row :=
  upd (upd (upd (upd (upd (upd (upd (upd f (11 * b + 9) (f (11 * b + 0))) (11 * b + 0) (irm (f (11 * b + 0) + 1) 10)) (11 * b + 1) 1) (11 * b + 10) (cDP C d)) (11 * b + 5) d) (11 * b + 6) v) (11 * b + 7) 0) (11 * b + 8) 0
def sCall (f : Row) (b : Nat) : Row := upd (upd (upd f (11 * b + 1) 3) (11 * b + 10) 0) (11 * b + 5) (-4)
section XO
variable {C M : Mem} {fu k b : Nat}
theorem x_signOf (h : CC C M) (hb : b < 5) (v : Int32) : pX4_signOf fu k (nI b) v M = some (sSgn C (M (k + 1)) b v, M) := by
  have h63 : ∀ z : Int32, pX4_signOf_63 fu k (nI b) z M = some (imax (z - M (k + 1) (11 * b + 7) - 2 * M (k + 1) (11 * b + 8)) 0, M) := fun z => by
    simp only [pX4_signOf_63, x_get7 hb, x_get8 hb, bI_some]
  have h36 : ∀ z m : Int32, pX4_signOf_36 fu k (nI b) z m M = some (imax (sSg2 C (M (k + 1)) b m z - M (k + 1) (11 * b + 7) - 2 * M (k + 1) (11 * b + 8)) 0, M) := fun z m => by
    simp only [pX4_signOf_36, x_kind h, bI_some, h63, sSg2]
    split
    · split <;> rfl
    · rfl
  simp only [pX4_signOf, x_get9 hb, bI_some, x_kind h, h36, sSgn, sSg1]
  split
  · split <;> rfl
  · rfl
theorem x_readOf_ (h : CC C M) (hb : b < 5) (v : Int32) : pX4_readOf_ fu k (nI b) v M = some (sRd C (M (k + 1)) b v, M) := by
  simp only [pX4_readOf_, x_signOf h hb, bI_some, x_get5 hb, x_doorKind h, sRd, rdK]
  split
  · rfl
  · split
    · rfl
    · split <;> rfl
theorem x_readOf (h : CC C M) (hb : b < 5) : pX4_readOf fu k (nI b) M = some (sRd C (M (k + 1)) b (M (k + 1) (11 * b + 6)), M) := by
  simp only [pX4_readOf, x_get6 hb, bI_some, x_readOf_ h hb]
theorem x_dispatch (h : CC C M) (hk : 16 ≤ k) (hb : b < 5) (v d : Int32) : pX4_dispatch fu k (nI b) v d M = some (0, upR M (k + 1) (sSend C (M (k + 1)) b v d)) := by
  have h1 : ∀ f : Row, CC C (upR M (k + 1) f) := fun f => CC_up h (by omega) f
  simp only [pX4_dispatch, x_get0 hb, bI_some, x_set9 hb, bV_some, x_set0 hb, x_set1 hb, x_doorPlace (h1 _), x_set10 hb, x_set5 hb, x_set6 hb, x_set7 hb, x_set8 hb, upR_at, upR_upR, sSend]
theorem x_callHome (hb : b < 5) : pX4_callHome fu k (nI b) M = some (0, upR M (k + 1) (sCall (M (k + 1)) b)) := by
  simp only [pX4_callHome, x_set1 hb, bV_some, x_set10 hb, x_set5 hb, upR_at, upR_upR, sCall]
theorem x_canBeSent (h : CC C M) (hb : b < 5) (d : Int32) : pX4_canBeSent fu k (nI b) d M = some (if M (k + 1) (11 * b + 1) = 0 ∧ ¬ (1000 : Int32) ≤ cDis C (M (k + 1) (11 * b + 2)) (cDP C d) then 1 else 0, M) := by
  simp only [pX4_canBeSent, x_is hb, bI_some, x_get2 hb, x_doorPlace h, x_isReached h, rtz_0, rtz_1]
  by_cases h1 : M (k + 1) (11 * b + 1) = 0
  · by_cases h2 : (1000 : Int32) ≤ cDis C (M (k + 1) (11 * b + 2)) (cDP C d)
    · simp [h1, h2]
    · simp [h1, h2]
  · simp [h1]
theorem x_copy (k1 : Nat) : pX4_copy fu k k1 M = some (0, upR M (k + 1) (va_cpy (M (k1 + 1)) (M (k + 1)) 0 0 64)) := by
  simp only [pX4_copy, cpy]
theorem cpy_at (f g : Row) {j : Nat} (h : j < 64) : va_cpy f g 0 0 64 j = f j := by
  rw [pk_cpy_in (by omega) (by omega)]; congr 1; omega
theorem x_isIn (hb : b < 5) (x : Int32) : pX4_isIn fu k (nI b) x M = some (if M (k + 1) (11 * b + 2) = x ∧ M (k + 1) (11 * b + 3) = -4 then 1 else 0, M) := by
  simp only [pX4_isIn, x_get2 hb, bI_some, x_get3 hb, rtz_0, rtz_1]
  by_cases h1 : M (k + 1) (11 * b + 2) = x
  · by_cases h2 : M (k + 1) (11 * b + 3) = -4
    · simp [h1, h2]
    · simp [h1, h2]
  · simp [h1]
end XO
section MO
variable {C M : Mem} {np nd nb fu base b : Nat} {ln ds : Nat → Nat → Nat} {f : Row}
theorem HM_cong {f' s' : Row} {base' : Nat} (hn : nb ≤ 5) (hp : np ≤ 8) (h : HM np nb f (M 12) base) (hf : ∀ j, j < 64 → f' j = f j) (hs : ∀ j, j < 64 → s' (base' + j) = M 12 (base + j)) : HM np nb f' s' base' := by
  obtain ⟨h1, h2, hC, h63⟩ := h
  refine ⟨fun b hb c hc h4 => ?_, fun b hb => ?_, fun x hx => ?_, ?_⟩
  · have ol := off_lt c hc h4 b (by omega)
    rw [hs _ (by omega), hf _ (by omega)]; exact h1 b hb c hc h4
  · rw [hf (11 * b + 3) (by omega), hf (11 * b + 4) (by omega), hs (20 + b) (by omega), hs (15 + b) (by omega)]; exact h2 b hb
  · rw [hs _ (by omega), hf _ (by omega)]; exact hC x hx
  · rw [hs _ (by omega), hf _ (by omega)]; exact h63
theorem BV_cong {f' : Row} (hb : b < 5) (h : BV C np nd ds f b) (hf : ∀ j, j < 64 → f' j = f j) : BV C np nd ds f' b := by
  unfold BV bFR bST bUW GD bPL at h ⊢
  rw [hf (11 * b + 1) (by omega), hf (11 * b + 2) (by omega), hf (11 * b + 3) (by omega), hf (11 * b + 4) (by omega), hf (11 * b + 5) (by omega), hf (11 * b + 10) (by omega)]
  exact h
theorem HV_cong {f' : Row} (hn : nb ≤ 5) (hp : np ≤ 8) (h : HV C np nd nb ds f) (hf : ∀ j, j < 64 → f' j = f j) : HV C np nd nb ds f' :=
  ⟨fun b hb => BV_cong (by omega) (h.1 b hb) hf, fun x hx => by rw [hf _ (by omega)]; exact h.2 x hx⟩
theorem m_copies_2 {a c : Nat} (ha : a + 64 ≤ 768) (hc : c + 64 ≤ 768) (hd : a + 64 ≤ c ∨ c + 64 ≤ a) : ∀ (m i t : Nat) (M : Mem), i + m = 64 → m < t → pX10_copies_2 fu t (nI a) (nI c) (nI i) M = some (0, upR M 12 (fun j => if c + i ≤ j ∧ j < c + 64 then M 12 (a + (j - c)) else M 12 j)) := by
  intro m
  induction m with
  | zero =>
    intro i t M hi ht
    obtain ⟨t, rfl⟩ : ∃ q, t = q + 1 := ⟨t - 1, by omega⟩
    show pX10_copies_2b fu (nI a) (nI c) (nI i) M _ = _
    unfold pX10_copies_2b
    rw [if_pos (show (64 : Int32) ≤ nI i from (nI_le_iff (a := 64) (by decide) (by omega)).mpr (by omega))]
    congr 2
    rw [show (fun j => if c + i ≤ j ∧ j < c + 64 then M 12 (a + (j - c)) else M 12 j) = M 12 from by funext j; rw [if_neg (by omega)], upR_self]
  | succ m ih =>
    intro i t M hi ht
    obtain ⟨t, rfl⟩ : ∃ q, t = q + 1 := ⟨t - 1, by omega⟩
    show pX10_copies_2b fu (nI a) (nI c) (nI i) M (pX10_copies_2 fu t) = _
    unfold pX10_copies_2b
    rw [if_neg (fun q => by have := (nI_le_iff (a := 64) (by decide) (by omega)).mp q; omega), nI_add, ld_nI (by omega) (by decide), nI_add, sto_nI (by omega) (by decide), nI_1, ih (i + 1) t _ (by omega) (by omega), upR_upR, upR_at]
    congr 2
    congr 1
    funext j
    by_cases h : j = c + i
    · subst h
      rw [if_neg (by omega), if_pos (by omega), upd_at]
      congr 1; omega
    · by_cases h2 : c + i ≤ j ∧ j < c + 64
      · rw [if_pos (by omega), if_pos h2, upd_ne (by omega)]
      · rw [if_neg (by omega), if_neg h2, upd_ne h]
/-- a block is copied over another -/
def cpB (s : Row) (a c : Nat) : Row := fun j => if c ≤ j ∧ j < c + 64 then s (a + (j - c)) else s j
theorem m_copies {a c : Nat} (ha : a + 64 ≤ 768) (hc : c + 64 ≤ 768) (hd : a + 64 ≤ c ∨ c + 64 ≤ a) (hf : 64 < fu) : pX10_copies fu (nI a) (nI c) M = some (0, upR M 12 (cpB (M 12) a c)) := by
  unfold pX10_copies
  exact m_copies_2 ha hc hd 64 0 fu M (by omega) hf
theorem cpB_in {s : Row} {a c j : Nat} (h : j < 64) : cpB s a c (c + j) = s (a + j) := by
  unfold cpB; rw [if_pos (by omega)]; congr 1; omega
theorem cpB_out {s : Row} {a c j : Nat} (h : j < c ∨ c + 64 ≤ j) : cpB s a c j = s j := by
  unfold cpB; rw [if_neg (by omega)]
theorem z_max (z y : Int32) : (if z ≤ y then y else z) = imax z y := by
  unfold imax
  by_cases h : z < y
  · rw [if_pos h, if_pos (by rw [i_le]; rw [i_lt] at h; omega)]
  · rw [if_neg h]
    by_cases h2 : z ≤ y
    · rw [if_pos h2]
      apply Int32.toInt_inj.mp
      rw [i_lt] at h; rw [i_le] at h2; omega
    · rw [if_neg h2]
theorem m_larger (x y : Int32) : pX10_larger fu x y M = some (imax y x, M) := by
  unfold pX10_larger
  rw [← z_max y x]
  split <;> rfl
theorem m_smaller (x y : Int32) : pX10_smaller fu x y M = some (imin y x, M) := by
  unfold pX10_smaller imin
  by_cases h : x < y
  · rw [if_pos h, if_neg (fun q => by rw [i_le] at q; rw [i_lt] at h; omega)]
  · rw [if_neg h, if_pos (by rw [i_le]; rw [i_lt] at h; omega)]
theorem m_signBy (hR : RC C M np nd nb ln ds) (hB : base + 64 ≤ 768) (hb : b < nb) (hM : HM np nb f (M 12) base) (v : Int32) : pX10_signBy fu (nI base) (nI b) v M = some (sSgn C f b v, M) := by
  have hn := hR.1
  have hb5 : b < 5 := by omega
  obtain ⟨kd, pc, hkd, -, -, k1, k2, -, -⟩ := hR.2.2.2.2.2.2.2.2.1 b hb
  have hck : cKd C (nI b) = nI kd := by unfold cKd; rw [rat_nI hb5 (by decide), k1]
  have e9 : M 12 (base + (35 + b)) = f (11 * b + 9) := hM.1 b hb 9 (by decide) (by decide)
  have e7 : M 12 (base + (45 + b)) = f (11 * b + 7) := hM.1 b hb 7 (by decide) (by decide)
  have e8 : M 12 (base + (50 + b)) = f (11 * b + 8) := hM.1 b hb 8 (by decide) (by decide)
  have h66 : ∀ z : Int32, pX10_signBy_66 fu (nI base) (nI b) z M = some (imax (z - f (11 * b + 7) - 2 * f (11 * b + 8)) 0, M) := fun z => by
    simp only [pX10_signBy_66, m_ld45 hB hb5, m_ld50 hB hb5, e7, e8, m_larger, bI_some]
  have h38 : ∀ z m : Int32, pX10_signBy_38 fu (nI base) (nI b) z m M = some (imax (sSg2 C f b m z - f (11 * b + 7) - 2 * f (11 * b + 8)) 0, M) := fun z m => by
    simp only [pX10_signBy_38, ld_nI hb5 (show 5 < 2 ^ 31 by decide), k2, pX10_signBy_65, h66, m_smaller, bI_some, sSg2, hck]
    split
    · split <;> rfl
    · rfl
  simp only [pX10_signBy, m_ld35 hB hb5, e9, ld_nI hb5 (show 5 < 2 ^ 31 by decide), k2, h66, h38, sSgn, sSg1, hck]
  by_cases q1 : nI kd = 1
  · rw [if_pos q1, if_pos q1]
    by_cases q2 : irm (f (11 * b + 9)) 2 = 1
    · rw [if_pos q2, if_pos q2]
      unfold sSg2
      rw [hck, if_neg (by rw [q1]; decide)]
    · rw [if_neg q2, if_neg q2]
  · rw [if_neg q1, if_neg q1]
theorem m_read (hR : RC C M np nd nb ln ds) (hB : base + 64 ≤ 768) (hb : b < nb) (hM : HM np nb f (M 12) base) {d : Nat} (hd : d < nd) (h5 : f (11 * b + 5) = nI d) : pX10_read fu (nI base) (nI b) M = some (sRd C f b (f (11 * b + 6)), M) := by
  have hn := hR.1
  have hb5 : b < 5 := by omega
  have e6 : M 12 (base + (30 + b)) = f (11 * b + 6) := hM.1 b hb 6 (by decide) (by decide)
  have e5 : M 12 (base + (25 + b)) = nI d := (hM.1 b hb 5 (by decide) (by decide)).trans h5
  obtain ⟨p, kd, -, hk4, -, -, q1, q2⟩ := hR.2.2.2.2.2.2.2.1 d hd
  have hdk : cDK C (nI d) = nI kd := by unfold cDK; rw [rat_nI (by omega) (by decide), q1]
  simp only [pX10_read, m_ld30 hB hb5, e6, m_signBy hR hB hb hM, bI_some, m_ld25 hB hb5, e5, ld_nI (show d < 4 by omega) (show 4 < 2 ^ 31 by decide), q2, m_larger, sRd, h5, hdk, rdK]
  match kd, hk4 with
  | 0, _ => rw [if_pos (by decide), if_neg (by decide), if_neg (by decide), if_neg (by decide)]
  | 1, _ => rw [if_neg (by decide), if_pos (by decide), if_pos (by decide)]
  | 2, _ => rw [if_neg (by decide), if_neg (by decide), if_pos (by decide), if_neg (by decide), if_pos (by decide)]
  | 3, _ => rw [if_neg (by decide), if_neg (by decide), if_neg (by decide), if_neg (by decide), if_neg (by decide), if_pos (by decide)]
theorem m_sends (hR : RC C M np nd nb ln ds) (hB : base + 64 ≤ 768) (hb : b < nb) (hM : HM np nb f (M 12) base) (hF : bFR f b) (v d : Int32) : ∃ s', pX10_sends fu (nI base) (nI b) v d M = some (0, upR M 12 s') ∧ HM np nb (sSend C f b v d) s' base ∧ fr base (M 12) s' := by
  have hn := hR.1
  have hb5 : b < 5 := by omega
  obtain ⟨f1, f2, f3, f4, f5⟩ := hF
  have e0 : M 12 (base + (40 + b)) = f (11 * b + 0) := hM.1 b hb 0 (by decide) (by decide)
  have e20 : M 12 (base + (20 + b)) = 0 := ((hM.2.1 b hb).1 f3).trans f4
  refine ⟨upd (upd (upd (upd (upd (upd (upd (upd (M 12) (base + (0 + b)) 1) (base + (25 + b)) d) (base + (30 + b)) v) (base + (35 + b)) (f (11 * b + 0))) (base + (40 + b)) (irm (f (11 * b + 0) + 1) 10)) (base + (45 + b)) 0) (base + (50 + b)) 0) (base + (20 + b)) 0, ?_, ?_, ?_⟩
  · simp only [pX10_sends, m_st0 hB hb5, m_st25 hB hb5, m_st30 hB hb5, m_ld40 hB hb5, m_st35 hB hb5, m_st40 hB hb5, m_st45 hB hb5, m_st50 hB hb5, m_st20 hB hb5, upR_at, upR_upR]
    have r1 : ∀ (w1 w2 w3 : Int32), upd (upd (upd (M 12) (base + (0 + b)) w1) (base + (25 + b)) w2) (base + (30 + b)) w3 (base + (40 + b)) = f (11 * b + 0) := fun w1 w2 w3 => by
      rw [upd_ne (by omega), upd_ne (by omega), upd_ne (by omega), e0]
    rw [r1, upd_ne (j := base + (40 + b)) (k := base + (35 + b)) (by omega), r1]
  · have a1 := HM_set (by omega) hb hM 9 (by decide) (by decide) (by decide) (f (11 * b + 0))
    have a2 := HM_set (by omega) hb a1 0 (by decide) (by decide) (by decide) (irm (f (11 * b + 0) + 1) 10)
    have a3 := HM_set (by omega) hb a2 1 (by decide) (by decide) (by decide) 1
    have a5 := HM_set (by omega) hb a3 5 (by decide) (by decide) (by decide) d
    have a6 := HM_set (by omega) hb a5 6 (by decide) (by decide) (by decide) v
    have a7 := HM_set (by omega) hb a6 7 (by decide) (by decide) (by decide) 0
    have a8 := HM_set (by omega) hb a7 8 (by decide) (by decide) (by decide) 0
    -- field 10 is the class's own; 20 + b is 0 already
    refine HM_at (by omega) (by omega) hb a8 ?_ ?_ ?_ ?_ ?_ ?_
    · intro a c ha e hc
      unfold sSend
      repeat rw [upd_ne (by omega)]
    · intro x hx
      unfold sSend
      repeat rw [upd_ne (by omega)]
    · intro a q ha e hq
      simp only [show off 9 = 35 from rfl, show off 0 = 40 from rfl, show off 1 = 0 from rfl, show off 5 = 25 from rfl, show off 6 = 30 from rfl, show off 7 = 45 from rfl, show off 8 = 50 from rfl]
      repeat rw [upd_ne (by omega)]
    · intro x hx
      simp only [show off 9 = 35 from rfl, show off 0 = 40 from rfl, show off 1 = 0 from rfl, show off 5 = 25 from rfl, show off 6 = 30 from rfl, show off 7 = 45 from rfl, show off 8 = 50 from rfl]
      repeat rw [upd_ne (by omega)]
    · have e2 : M 12 (base + (5 + b)) = f (11 * b + 2) := hM.1 b hb 2 (by decide) (by decide)
      have e3 : M 12 (base + (10 + b)) = f (11 * b + 3) := hM.1 b hb 3 (by decide) (by decide)
      unfold sSend
      refine HS_all ?_ ?_ ?_ ?_ ?_ ?_ ?_ ?_ ?_
      · simp [upd]
      · simp [upd]
      · simp [upd, e2]
      · simp [upd, e3]
      · simp [upd]
      · simp [upd]
      · simp [upd]
      · simp [upd]
      · simp [upd]
    · unfold sSend
      simp [upd, f3, f4]
  · intro j hj
    repeat rw [upd_ne (by omega)]
theorem v_sends (hR : RC C M np nd nb ln ds) (hb : b < nb) (hV : HV C np nd nb ds f) (hF : bFR f b) (v : Int32) {d p : Nat} (hd : d < nd) (hp : p < np) (hC : C 10 d = nI p) (hfin : ds 0 p < 9999) : HV C np nd nb ds (sSend C f b v (nI d)) := by
  have hn := hR.1
  have hdp : cDP C (nI d) = nI p := by unfold cDP; rw [rat_nI (by omega) (by decide), hC]
  have hfr : frB b f (sSend C f b v (nI d)) := by
    unfold sSend
    exact frB_tr (frB_tr (frB_tr (frB_tr (frB_tr (frB_tr (frB_tr (frB_upd (by decide)) (frB_upd (by decide))) (frB_upd (by decide))) (frB_upd (by decide))) (frB_upd (by decide))) (frB_upd (by decide))) (frB_upd (by decide))) (frB_upd (by decide))
  refine ⟨fun b' hb' => ?_, fun x hx => ?_⟩
  · by_cases e : b' = b
    · subst e
      obtain ⟨f1, f2, f3, f4, f5⟩ := hF
      refine Or.inr (Or.inr ⟨Or.inl ⟨?_, d, hd, ?_, ?_⟩, p, 0, hp, by omega, hR.2.2.2.2.2.2.1 0 p (by omega) hp hfin, ?_, ?_, Or.inl ⟨?_, hfin, 0, by decide, ?_⟩⟩)
      · simp [sSend, upd]
      · simp [sSend, upd]
      · simp [sSend, upd, hdp, hC]
      · simp [sSend, upd, hdp]
      · simp [sSend, upd, f2]; rfl
      · simp [sSend, upd, f3]
      · simp [sSend, upd, f4]; rfl
    · exact BV_fr (by omega) e (by omega) hfr (hV.1 b' hb')
  · have : sSend C f b v (nI d) (55 + x) = f (55 + x) := by
      unfold sSend
      repeat rw [upd_ne (by omega)]
    rw [this]; exact hV.2 x hx
theorem m_goesHome (hR : RC C M np nd nb ln ds) (hB : base + 64 ≤ 768) (hb : b < nb) (hM : HM np nb f (M 12) base) (hS : bST C np nd ds f b) : ∃ s', pX10_goesHome fu (nI base) (nI b) M = some (0, upR M 12 s') ∧ HM np nb (sCall f b) s' base ∧ fr base (M 12) s' := by
  have hn := hR.1
  have hb5 : b < 5 := by omega
  obtain ⟨f1, d, p, hd, hp, hp0, hC, f5, f2, f3, f4, f10⟩ := hS
  have e20 : M 12 (base + (20 + b)) = 0 := ((hM.2.1 b hb).1 f3).trans f4
  refine ⟨upd (upd (upd (M 12) (base + (0 + b)) 3) (base + (25 + b)) (-4)) (base + (20 + b)) 0, ?_, ?_, ?_⟩
  · simp only [pX10_goesHome, m_st0 hB hb5, m_st25 hB hb5, m_st20 hB hb5, upR_at, upR_upR]
  · refine HM_at (by omega) (by omega) hb hM ?_ ?_ ?_ ?_ ?_ ?_
    · intro a c ha e hc
      unfold sCall
      repeat rw [upd_ne (by omega)]
    · intro x hx
      unfold sCall
      repeat rw [upd_ne (by omega)]
    · intro a q ha e hq
      repeat rw [upd_ne (by omega)]
    · intro x hx
      repeat rw [upd_ne (by omega)]
    · have g := fun c hc h4 => hM.1 b hb c hc h4
      have g0 := g 0 (by decide) (by decide)
      have g2 := g 2 (by decide) (by decide)
      have g3 := g 3 (by decide) (by decide)
      have g6 := g 6 (by decide) (by decide)
      have g7 := g 7 (by decide) (by decide)
      have g8 := g 8 (by decide) (by decide)
      have g9 := g 9 (by decide) (by decide)
      simp only [show off 9 = 35 from rfl, show off 0 = 40 from rfl, show off 2 = 5 from rfl, show off 3 = 10 from rfl, show off 6 = 30 from rfl, show off 7 = 45 from rfl, show off 8 = 50 from rfl] at g0 g2 g3 g6 g7 g8 g9
      unfold sCall
      refine HS_all ?_ ?_ ?_ ?_ ?_ ?_ ?_ ?_ ?_
      · simp [upd, g0]
      · simp [upd]
      · simp [upd, g2]
      · simp [upd, g3]
      · simp [upd]
      · simp [upd, g6]
      · simp [upd, g7]
      · simp [upd, g8]
      · simp [upd, g9]
    · unfold sCall
      simp [upd, f3, f4]
  · intro j hj
    repeat rw [upd_ne (by omega)]
theorem v_goesHome (hR : RC C M np nd nb ln ds) (hb : b < nb) (hV : HV C np nd nb ds f) (hS : bST C np nd ds f b) : HV C np nd nb ds (sCall f b) := by
  have hn := hR.1
  have hfr : frB b f (sCall f b) := by
    unfold sCall
    exact frB_tr (frB_tr (frB_upd (by decide)) (frB_upd (by decide))) (frB_upd (by decide))
  refine ⟨fun b' hb' => ?_, fun x hx => ?_⟩
  · by_cases e : b' = b
    · subst e
      obtain ⟨f1, d, p, hd, hp, hp0, hC, f5, f2, f3, f4, f10⟩ := hS
      refine Or.inr (Or.inr ⟨Or.inr ⟨?_, ?_, ?_⟩, 0, p, by omega, hp, by rw [hR.2.2.2.2.2.1 0 (by omega)]; decide, ?_, ?_, Or.inl ⟨?_, hp0, 0, by decide, ?_⟩⟩)
      · simp [sCall, upd]
      · simp [sCall, upd]
      · simp [sCall, upd]
      · simp [sCall, upd]; rfl
      · simp [sCall, upd, f2]
      · simp [sCall, upd, f3]
      · simp [sCall, upd, f4]; rfl
    · exact BV_fr (by omega) e (by omega) hfr (hV.1 b' hb')
  · have : sCall f b (55 + x) = f (55 + x) := by
      unfold sCall
      repeat rw [upd_ne (by omega)]
    rw [this]; exact hV.2 x hx
/-- can a beast be sent to a door? -/
def cSn (np nd : Nat) (C : Mem) (ds : Nat → Nat → Nat) (f : Row) (b d : Nat) : Prop := f (11 * b + 1) = 0 ∧ ∀ p, p < np → C 10 d = nI p → ds 0 p < 9999
theorem m_canSend (hR : RC C M np nd nb ln ds) (hB : base + 64 ≤ 768) (hb : b < nb) (hM : HM np nb f (M 12) base) {d p : Nat} (hd : d < nd) (hp : p < np) (hC : C 10 d = nI p) : pX10_canSend fu (nI base) (nI b) (nI d) M = some (if f (11 * b + 1) = 0 ∧ ds 0 p < 9999 then 1 else 0, M) := by
  have hn := hR.1
  have hb5 : b < 5 := by omega
  have e1 : M 12 (base + (0 + b)) = f (11 * b + 1) := hM.1 b hb 1 (by decide) (by decide)
  obtain ⟨p', kd, hp', -, q1, q2, -, -⟩ := hR.2.2.2.2.2.2.2.1 d hd
  have epp : p' = p := (nI_eq_iff (by omega) (by omega)).mp (q1.symm.trans hC)
  subst epp
  obtain ⟨-, t2, t3, -, -, -, t7⟩ := hR.2.2.2.1 0 p' (by omega) hp'
  have t7' : M 2 p' = nI (ds 0 p') := by rw [← t7]; congr 1; omega
  simp only [pX10_canSend, m_ld0 hB hb5, e1, ld_nI (show d < 4 by omega) (show 4 < 2 ^ 31 by decide), q2, ld_nI (show p' < 64 by omega) (show 64 < 2 ^ 31 by decide), t7', rtz_0, rtz_1]
  by_cases h1 : f (11 * b + 1) = 0
  · rw [if_pos h1]
    by_cases h2 : ds 0 p' < 9999
    · rw [if_neg (fun q => by have := (nI_le_iff (a := 9999) (by decide) (by omega)).mp q; omega), if_pos ⟨h1, h2⟩]
    · rw [if_pos (show (9999 : Int32) ≤ nI (ds 0 p') from (nI_le_iff (a := 9999) (by decide) (by omega)).mpr (by omega)), if_neg (fun q => h2 q.2)]
  · rw [if_neg h1, if_neg (fun q => h1 q.1)]
theorem x_canSend {k : Nat} {N : Mem} (h : CC C N) (hR : RC C M np nd nb ln ds) (hb : b < nb) (hV : HV C np nd nb ds (N (k + 1))) {d p : Nat} (hd : d < nd) (hp : p < np) (hC : C 10 d = nI p) : pX4_canBeSent fu k (nI b) (nI d) N = some (if N (k + 1) (11 * b + 1) = 0 ∧ ds 0 p < 9999 then 1 else 0, N) := by
  have hn := hR.1
  have hb5 : b < 5 := by omega
  rw [x_canBeSent h hb5]
  have hdp : cDP C (nI d) = nI p := by unfold cDP; rw [rat_nI (by omega) (by decide), hC]
  obtain ⟨-, t2, t3, -, t5, -, -⟩ := hR.2.2.2.1 0 p (by omega) hp
  by_cases h1 : N (k + 1) (11 * b + 1) = 0
  · have h2 : N (k + 1) (11 * b + 2) = nI 0 := by
      rcases hV.1 b hb with q | q | q
      · exact q.2.1
      · rw [q.1] at h1; exact absurd h1 (by decide)
      · rcases q.1 with ⟨q1, -⟩ | ⟨q1, -⟩ <;> rw [q1] at h1 <;> exact absurd h1 (by decide)
    have hcd : cDis C (nI 0) (nI p) = nI (if ds 0 p < 9999 then ds 0 p else 1000) := by unfold cDis; rw [ix8', rat_nI (by omega) (by decide), t5]
    rw [h2, hdp, hcd]
    by_cases h3 : ds 0 p < 9999
    · have := t3 h3
      rw [if_pos h3, if_pos ⟨h1, fun q => by have := (nI_le_iff (a := 1000) (by decide) (by omega)).mp q; omega⟩, if_pos ⟨h1, h3⟩]
    · rw [if_neg h3, if_neg (fun q => q.2 ((nI_le_iff (a := 1000) (b := 1000) (by decide) (by decide)).mpr (by omega))), if_neg (fun q => h3 q.2)]
  · rw [if_neg (fun q => h1 q.1), if_neg (fun q => h1 q.1)]
end MO
