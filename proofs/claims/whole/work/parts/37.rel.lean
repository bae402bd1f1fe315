/-! PURE: the two states side by side -/
/-- a kept herd: the class's row k, the reference's block -/
def HMV (A B : Mem) (np nd nb : Nat) (ds : Nat → Nat → Nat) (k base : Nat) : Prop := HM np nb (A k) (B 12) base ∧ HV A np nd nb ds (A k)
def TXT (A B : Mem) : Prop := ∃ n, n ≤ 200 ∧ A 1 1 = nI n ∧ B 0 22 = nI n ∧ ∀ j, j < n → ∃ c, 32 ≤ c ∧ c ≤ 126 ∧ A 2 j = nI c ∧ B 13 j = nI c
def PAST (A B : Mem) (np nd nb : Nat) (ds : Nat → Nat → Nat) : Prop := ∃ m t, m ≤ 8 ∧ t < 8 ∧ A 29 2 = nI m ∧ A 29 1 = nI t ∧ B 0 20 = nI m ∧ ∀ i, i < m → HMV A B np nd nb ds (32 + 2 * ((t + 8 - i) % 8)) ((m - i) * 64)
def KEPT (A B : Mem) (np nd nb : Nat) (ds : Nat → Nat → Nat) : Prop := ∃ m t, m ≤ 2 ∧ t < 2 ∧ A 47 2 = nI m ∧ A 47 1 = nI t ∧ B 0 21 = nI m ∧ ∀ i, i < m → HMV A B np nd nb ds (50 + 2 * ((t + 2 - i) % 2)) ((9 + (m - 1 - i)) * 64)
def REL (A B : Mem) : Prop := ∃ np nd nb ln ds, RC A B np nd nb ln ds ∧ HMV A B np nd nb ds 28 0 ∧ TXT A B ∧ PAST A B np nd nb ds ∧ KEPT A B np nd nb ds
theorem RC_cong {C M C' M' : Mem} {np nd nb : Nat} {ln ds : Nat → Nat → Nat} (h : RC C M np nd nb ln ds) (hC : CC C C') (hM : ∀ a, 1 ≤ a → a ≤ 6 → M' a = M a) (h0 : M' 0 0 = M 0 0) (h3 : M' 0 3 = M 0 3) (h4 : M' 0 4 = M 0 4) (h7 : M' 0 7 = M 0 7) : RC C' M' np nd nb ln ds := by
  unfold RC at h ⊢
  rw [h0, h3, h4, h7, hM 1 (by decide) (by decide), hM 2 (by decide) (by decide), hM 3 (by decide) (by decide), hM 4 (by decide) (by decide), hM 5 (by decide) (by decide), hM 6 (by decide) (by decide), hC 5 (by decide) (by decide), hC 6 (by decide) (by decide), hC 7 (by decide) (by decide), hC 8 (by decide) (by decide), hC 9 (by decide) (by decide), hC 10 (by decide) (by decide), hC 11 (by decide) (by decide), hC 12 (by decide) (by decide), hC 15 (by decide) (by decide)]
  exact h
theorem HV_C {C C' : Mem} {np nd nb : Nat} {ds : Nat → Nat → Nat} {f : Row} (h : HV C np nd nb ds f) (hC : C' 10 = C 10) : HV C' np nd nb ds f := by
  unfold HV BV bST bUW GD at h ⊢
  rw [hC]; exact h
theorem CC_rf (C : Mem) : CC C C := fun _ _ _ => rfl
/-- what a question leaves alone: in the class, in the reference -/
def pA (A A' : Mem) : Prop := ∀ k, k ≤ 2 ∨ (5 ≤ k ∧ k ≤ 15) ∨ (28 ≤ k ∧ k ≤ 52) → A' k = A k
def pB (B B' : Mem) : Prop := (∀ k, 1 ≤ k → k ≤ 6 → B' k = B k) ∧ B' 13 = B 13 ∧ (∀ j, j = 0 ∨ j = 3 ∨ j = 4 ∨ j = 7 ∨ j = 20 ∨ j = 21 ∨ j = 22 → B' 0 j = B 0 j) ∧ ∀ j, j < 704 → B' 12 j = B 12 j
theorem pA_rf (A : Mem) : pA A A := fun _ _ => rfl
theorem pA_tr {A A1 A2 : Mem} (h1 : pA A A1) (h2 : pA A1 A2) : pA A A2 := fun k h => (h2 k h).trans (h1 k h)
theorem pA_up {A : Mem} {k : Nat} {f : Row} (h : k = 3 ∨ k = 4 ∨ (16 ≤ k ∧ k ≤ 27) ∨ 53 ≤ k) : pA A (upR A k f) := fun j hj => upR_ne (by omega)
theorem pB_rf (B : Mem) : pB B B := ⟨fun _ _ _ => rfl, rfl, fun _ _ => rfl, fun _ _ => rfl⟩
theorem pB_tr {B B1 B2 : Mem} (h1 : pB B B1) (h2 : pB B1 B2) : pB B B2 := ⟨fun k a b => (h2.1 k a b).trans (h1.1 k a b), h2.2.1.trans h1.2.1, fun j h => (h2.2.2.1 j h).trans (h1.2.2.1 j h), fun j h => (h2.2.2.2 j h).trans (h1.2.2.2 j h)⟩
theorem pB_12 {B : Mem} {s : Row} (h : ∀ j, j < 704 → s j = B 12 j) : pB B (upR B 12 s) := ⟨fun k _ _ => upR_ne (by omega), upR_ne (by decide), fun j _ => by rw [upR_ne (by decide)], fun j hj => by rw [upR_at]; exact h j hj⟩
theorem pB_hi {B : Mem} {k : Nat} {s : Row} (h : (7 ≤ k ∧ k ≤ 11) ∨ 14 ≤ k) : pB B (upR B k s) := ⟨fun j _ _ => upR_ne (by omega), upR_ne (by omega), fun j _ => by rw [upR_ne (by omega)], fun j _ => by rw [upR_ne (by omega)]⟩
theorem pA_CC {A A' : Mem} (h : pA A A') : CC A A' := fun a h1 h2 => h a (by omega)
theorem HMV_cong {A B A' B' : Mem} {np nd nb : Nat} {ds : Nat → Nat → Nat} {k base k' base' : Nat} (hn : nb ≤ 5) (hp : np ≤ 8) (h : HMV A B np nd nb ds k base) (hA : ∀ j, j < 64 → A' k' j = A k j) (hB : ∀ j, j < 64 → B' 12 (base' + j) = B 12 (base + j)) (hC : A' 10 = A 10) : HMV A' B' np nd nb ds k' base' :=
  ⟨HM_cong (M := B) hn hp h.1 hA hB, HV_C (HV_cong hn hp h.2 hA) hC⟩
theorem REL_frame {A B A' B' : Mem} (h : REL A B) (hA : pA A A') (hB : pB B B') : REL A' B' := by
  obtain ⟨np, nd, nb, ln, ds, hR, hN, hT, hP, hK⟩ := h
  have hn := hR.1
  have h10 : A' 10 = A 10 := hA 10 (by omega)
  refine ⟨np, nd, nb, ln, ds, RC_cong hR (pA_CC hA) hB.1 (hB.2.2.1 0 (by omega)) (hB.2.2.1 3 (by omega)) (hB.2.2.1 4 (by omega)) (hB.2.2.1 7 (by omega)), ?_, ?_, ?_, ?_⟩
  · exact HMV_cong (by omega) (by omega) hN (fun j _ => by rw [hA 28 (by omega)]) (fun j hj => hB.2.2.2 _ (by omega)) h10
  · obtain ⟨n, h1, h2, h3, h4⟩ := hT
    refine ⟨n, h1, by rw [hA 1 (by omega)]; exact h2, by rw [hB.2.2.1 22 (by omega)]; exact h3, fun j hj => ?_⟩
    rw [hA 2 (by omega), hB.2.1]; exact h4 j hj
  · obtain ⟨m, t, h1, h2, h3, h4, h5, h6⟩ := hP
    refine ⟨m, t, h1, h2, by rw [hA 29 (by omega)]; exact h3, by rw [hA 29 (by omega)]; exact h4, by rw [hB.2.2.1 20 (by omega)]; exact h5, fun i hi => ?_⟩
    exact HMV_cong (by omega) (by omega) (h6 i hi) (fun j _ => by rw [hA _ (by omega)]) (fun j hj => hB.2.2.2 _ (by omega)) h10
  · obtain ⟨m, t, h1, h2, h3, h4, h5, h6⟩ := hK
    refine ⟨m, t, h1, h2, by rw [hA 47 (by omega)]; exact h3, by rw [hA 47 (by omega)]; exact h4, by rw [hB.2.2.1 21 (by omega)]; exact h5, fun i hi => ?_⟩
    exact HMV_cong (by omega) (by omega) (h6 i hi) (fun j _ => by rw [hA _ (by omega)]) (fun j hj => hB.2.2.2 _ (by omega)) h10
/-! the arguments of calls -/
theorem w_toInt (x : Int32) : x.toInt64.toInt = x.toInt := Int32.toInt_toInt64 x
theorem cmp_lt (x y : Int64) : lg_cmp x y < 0 ↔ x.toInt < y.toInt := by
  unfold lg_cmp
  by_cases h1 : x > y
  · have := Int64.lt_iff_toInt_lt.mp h1
    rw [if_pos h1]
    exact ⟨fun h => absurd h (by decide), fun h => by omega⟩
  · rw [if_neg h1]
    have a1 : ¬ y.toInt < x.toInt := fun q => h1 (Int64.lt_iff_toInt_lt.mpr q)
    by_cases h2 : x = y
    · rw [if_pos h2, h2]
      exact ⟨fun h => absurd h (by decide), fun h => by omega⟩
    · rw [if_neg h2]
      have a2 : x.toInt ≠ y.toInt := fun q => h2 (Int64.toInt_inj.mp q)
      exact ⟨fun _ => by omega, fun _ => by decide⟩
theorem cmp_gt (x y : Int64) : 0 < lg_cmp x y ↔ y.toInt < x.toInt := by
  unfold lg_cmp
  by_cases h1 : x > y
  · have := Int64.lt_iff_toInt_lt.mp h1
    rw [if_pos h1]
    exact ⟨fun _ => this, fun _ => by decide⟩
  · rw [if_neg h1]
    have a1 : ¬ y.toInt < x.toInt := fun q => h1 (Int64.lt_iff_toInt_lt.mpr q)
    by_cases h2 : x = y
    · rw [if_pos h2]
      exact ⟨fun h => absurd h (by decide), fun h => absurd h a1⟩
    · rw [if_neg h2]
      exact ⟨fun h => absurd h (by decide), fun h => absurd h a1⟩
theorem m_in {fu : Nat} {M : Mem} (x lo hi : Int64) : pX10_in fu x lo hi M = some (if lo.toInt ≤ x.toInt ∧ x.toInt ≤ hi.toInt then 1 else 0, M) := by
  unfold pX10_in
  simp only [cmp_lt, cmp_gt, rtz_0, rtz_1]
  by_cases h1 : x.toInt < lo.toInt
  · rw [if_pos h1, if_neg (by omega)]
  · rw [if_neg h1]
    by_cases h2 : hi.toInt < x.toInt
    · rw [if_pos h2, if_neg (by omega)]
    · rw [if_neg h2, if_pos (by omega)]
theorem pred_toInt {n : Nat} (h1 : 1 ≤ n) (h2 : n ≤ 8) : (nI n - 1).toInt64.toInt = (n : Int) - 1 := by
  rw [w_toInt, show (1 : Int32) = nI 1 from rfl, pk_sub h1, nI_toInt (by omega)]; omega
section ARG
variable {C M : Mem} {np nd nb fu : Nat} {ln ds : Nat → Nat → Nat}
theorem m_inN {n : Nat} (x : Int32) (h1 : 1 ≤ n) (h2 : n ≤ 8) : pX10_in fu x.toInt64 0 (nI n - 1).toInt64 M = some (if inR x n then 1 else 0, M) := by
  rw [m_in, pred_toInt h1 h2, w_toInt]
  have h0 : (0 : Int64).toInt = 0 := rfl
  rw [h0]
  by_cases h : inR x n
  · rw [if_pos h, if_pos (by omega)]
  · rw [if_neg h, if_neg (fun q => h ⟨q.1, by omega⟩)]
theorem m_isBeast (hR : RC C M np nd nb ln ds) (x : Int32) : pX10_isBeast fu x M = some (if inR x nb then 1 else 0, M) := by
  have hn := hR.1
  unfold pX10_isBeast
  rw [hR.2.2.1.2.2, m_inN x (by omega) (by omega), bI_some]
  split <;> rfl
theorem m_isPlace (hR : RC C M np nd nb ln ds) (x : Int32) : pX10_isPlace fu x M = some (if inR x np then 1 else 0, M) := by
  have hn := hR.1
  unfold pX10_isPlace
  rw [hR.2.2.1.1, m_inN x (by omega) (by omega), bI_some]
  split <;> rfl
theorem m_isDoor (hR : RC C M np nd nb ln ds) (x : Int32) : pX10_isDoor fu x M = some (if inR x nd then 1 else 0, M) := by
  have hn := hR.1
  unfold pX10_isDoor
  rw [hR.2.2.1.2.1, m_inN x (by omega) (by omega), bI_some]
  split <;> rfl
theorem in_eq {n : Nat} (x : Int32) (h2 : n ≤ 8) : (if x < 0 then (0 : Int32) else if nI n ≤ x then 0 else 1) = if inR x n then 1 else 0 := by
  have h0 : (0 : Int32).toInt = 0 := rfl
  have hN : (nI n).toInt = (n : Int) := nI_toInt (by omega)
  by_cases h1 : x < 0
  · rw [if_pos h1]
    rw [i_lt, h0] at h1
    rw [if_neg (fun q : inR x n => by omega)]
  · rw [if_neg h1]
    rw [i_lt, h0] at h1
    by_cases h3 : nI n ≤ x
    · rw [if_pos h3]
      rw [i_le, hN] at h3
      rw [if_neg (fun q : inR x n => by omega)]
    · rw [if_neg h3]
      rw [i_le, hN] at h3
      rw [if_pos (by constructor <;> omega)]
theorem x_hasB {N : Mem} (h : CC C N) (hR : RC C M np nd nb ln ds) (x : Int32) : pX1_hasBeast fu 5 x N = some (if inR x nb then 1 else 0, N) := by
  rw [x_hasBeast h, hR.2.1.2.2, in_eq x (by have := hR.1; omega)]
theorem x_hasD {N : Mem} (h : CC C N) (hR : RC C M np nd nb ln ds) (x : Int32) : pX1_hasDoor fu 5 x N = some (if inR x nd then 1 else 0, N) := by
  rw [x_hasDoor h, hR.2.1.2.1, in_eq x (by have := hR.1; omega)]
theorem x_hasP {N : Mem} (h : CC C N) (hR : RC C M np nd nb ln ds) (x : Int32) : pX1_hasPlace fu 5 x N = some (if inR x np then 1 else 0, N) := by
  rw [x_hasPlace h, hR.2.1.1, in_eq x (by have := hR.1; omega)]
theorem of_inR {x : Int32} {n : Nat} (h : inR x n) (hn : n < 2 ^ 31) : ∃ j, j < n ∧ x = nI j := vp_in_of (vp_in_iff.mpr h) hn
theorem x_isVerdict {N : Mem} (x : Int32) : pX9_isVerdict fu x N = some (if inR x 8 then 1 else 0, N) := by
  unfold pX9_isVerdict
  rw [rtz_0, rtz_1]
  have h0 : (0 : Int32).toInt = 0 := rfl
  have h7 : (7 : Int32).toInt = 7 := rfl
  by_cases h1 : x < 0
  · rw [if_pos h1]
    rw [i_lt, h0] at h1
    rw [if_neg (fun q : inR x 8 => by omega)]
  · rw [if_neg h1]
    rw [i_lt, h0] at h1
    by_cases h3 : 7 < x
    · rw [if_pos h3]
      rw [i_lt, h7] at h3
      rw [if_neg (fun q : inR x 8 => by omega)]
    · rw [if_neg h3]
      rw [i_lt, h7] at h3
      rw [if_pos (by constructor <;> omega)]
/-- a number from 0 to a last one -/
theorem m_in0 (x : Int32) (hi : Int64) (n : Nat) (h : hi.toInt + 1 = n) : pX10_in fu x.toInt64 0 hi M = some (if inR x n then 1 else 0, M) := by
  rw [m_in, w_toInt]
  have h0 : (0 : Int64).toInt = 0 := rfl
  rw [h0]
  by_cases h1 : inR x n
  · rw [if_pos h1, if_pos (by omega)]
  · rw [if_neg h1, if_neg (fun q => h1 ⟨q.1, by omega⟩)]
end ARG
