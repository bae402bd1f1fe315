/-! PURE: a text's numbers, in the class and in the reference -/
abbrev dgt (c : Nat → Nat) (n p : Nat) : Prop := p < n ∧ 48 ≤ c p ∧ c p ≤ 57
def num (c : Nat → Nat) (n p : Nat) : Option (Nat × Nat) := if dgt c n p then (if dgt c n (p + 1) then (if dgt c n (p + 2) then none else some (10 * (c p - 48) + (c (p + 1) - 48), p + 2)) else some (c p - 48, p + 1)) else none
def chr (c : Nat → Nat) (n p : Nat) : Nat := if p < n then c p else 0
def TX (A : Mem) (n : Nat) (c : Nat → Nat) : Prop := A 1 1 = nI n ∧ n ≤ 200 ∧ ∀ j, j < n → 32 ≤ c j ∧ c j ≤ 126 ∧ A 2 j = nI (c j)
def TM (B : Mem) (n : Nat) (c : Nat → Nat) : Prop := B 0 22 = nI n ∧ ∀ j, j < n → B 13 j = nI (c j)
theorem num_b {c : Nat → Nat} {n p v q : Nat} (h : num c n p = some (v, q)) : v ≤ 99 ∧ p < q ∧ q ≤ p + 2 ∧ q ≤ n ∧ ¬ dgt c n q := by
  unfold num at h
  split at h
  · rename_i h1
    split at h
    · rename_i h2
      split at h
      · cases h
      · rename_i h3
        cases h
        unfold dgt at h1 h2
        exact ⟨by omega, by omega, by omega, by omega, h3⟩
    · rename_i h2
      cases h
      unfold dgt at h1
      exact ⟨by omega, by omega, by omega, by omega, h2⟩
  · cases h
section SC
variable {A : Mem} {n fu : Nat} {c : Nat → Nat}
theorem x_ch (hT : TX A n c) {p : Nat} (hp : p < n) : pX5_at fu (nI p) A = some (nI (c p), A) := by
  obtain ⟨h1, h2, h3⟩ := hT
  obtain ⟨q1, q2, q3⟩ := h3 p hp
  unfold pX5_at rtc
  rw [h1, if_neg (nI_pos (by omega)), if_neg (fun q => by have := (nI_le_iff (by omega) (by omega)).mp q; omega), if_neg (show ¬ (200 : Int32) ≤ nI p from fun q => by have := (nI_le_iff (a := 200) (by decide) (by omega)).mp q; omega), ld_nI (by omega) (by decide), q3, if_pos (by rw [nI_toInt (by omega)]; omega)]
theorem sp_end (hT : TX A n c) {p : Nat} (hp : n ≤ p) (hp2 : p < 2 ^ 31) {t : Nat} (v g : Int32) : pX7_split_15 fu (t + 1) v g (nI p) A = some (0, A) := by
  obtain ⟨h1, h2, h3⟩ := hT
  show pX7_split_15b fu v g (nI p) A _ = _
  unfold pX7_split_15b pX5_length
  rw [bI_some, h1, if_pos ((nI_le_iff (by omega) (by omega)).mpr hp), rtz_0]
theorem sp_non (hT : TX A n c) {p : Nat} (hp : p < n) (hd : ¬ dgt c n p) {t : Nat} (v g : Int32) : pX7_split_15 fu (t + 1) v g (nI p) A = pX7_split_69 fu v g (nI p) (nI (c p)) A (pX7_split_15 fu t) := by
  have hx := x_ch (fu := fu) hT hp
  obtain ⟨h1, h2, h3⟩ := hT
  obtain ⟨q1, q2, q3⟩ := h3 p hp
  show pX7_split_15b fu v g (nI p) A _ = _
  unfold pX7_split_15b pX5_length
  rw [bI_some, h1, if_neg (fun q => by have := (nI_le_iff (by omega) (by omega)).mp q; omega), hx, bI_some]
  by_cases z : c p < 48
  · rw [if_pos (show nI (c p) < (48 : Int32) from (nI_lt_iff (b := 48) (by omega) (by decide)).mpr z)]
  · rw [if_neg (show ¬ nI (c p) < (48 : Int32) from fun q => z ((nI_lt_iff (b := 48) (by omega) (by decide)).mp q)), if_pos (show (57 : Int32) < nI (c p) from (nI_lt_iff (a := 57) (by decide) (by omega)).mpr (by unfold dgt at hd; omega))]
theorem sp_dig (hT : TX A n c) {p : Nat} (hd : dgt c n p) {t v g : Nat} (hg : g < 2) (hv : v ≤ 9) : pX7_split_15 fu (t + 1) (nI v) (nI g) (nI p) A = pX7_split_15 fu t (nI (10 * v + (c p - 48))) (nI (g + 1)) (nI (p + 1)) A := by
  have hx := x_ch (fu := fu) hT hd.1
  obtain ⟨h1, h2, h3⟩ := hT
  obtain ⟨z1, z2, z3⟩ := hd
  show pX7_split_15b fu (nI v) (nI g) (nI p) A _ = _
  unfold pX7_split_15b pX5_length pX7_split_142
  rw [bI_some, h1, if_neg (fun q => by have := (nI_le_iff (by omega) (by omega)).mp q; omega), hx, bI_some, if_neg (show ¬ nI (c p) < (48 : Int32) from fun q => by have := (nI_lt_iff (b := 48) (by omega) (by decide)).mp q; omega), if_neg (show ¬ (57 : Int32) < nI (c p) from fun q => by have := (nI_lt_iff (a := 57) (by decide) (by omega)).mp q; omega), if_neg (show ¬ (2 : Int32) ≤ nI g from fun q => by have := (nI_le_iff (a := 2) (by decide) (by omega)).mp q; omega)]
  rw [nI_1, nI_1, show nI v * (10 : Int32) = nI (v * 10) from pk_mul v 10, show nI (c p) - (48 : Int32) = nI (c p - 48) from pk_sub z2, nI_add, Nat.mul_comm v 10]
theorem sp_dig2 (hT : TX A n c) {p : Nat} (hd : dgt c n p) {t : Nat} (v : Int32) : pX7_split_15 fu (t + 1) v 2 (nI p) A = some (0, A) := by
  have hx := x_ch (fu := fu) hT hd.1
  obtain ⟨h1, h2, h3⟩ := hT
  obtain ⟨z1, z2, z3⟩ := hd
  show pX7_split_15b fu v 2 (nI p) A _ = _
  unfold pX7_split_15b pX5_length pX7_split_69
  rw [bI_some, h1, if_neg (fun q => by have := (nI_le_iff (by omega) (by omega)).mp q; omega), hx, bI_some, if_neg (show ¬ nI (c p) < (48 : Int32) from fun q => by have := (nI_lt_iff (b := 48) (by omega) (by decide)).mp q; omega), if_neg (show ¬ (57 : Int32) < nI (c p) from fun q => by have := (nI_lt_iff (a := 57) (by decide) (by omega)).mp q; omega), if_pos (show (2 : Int32) ≤ 2 by decide), if_neg (show ¬ nI (c p) = (44 : Int32) from fun q => by have := (nI_eq_iff (b := 44) (by omega) (by decide)).mp q; omega), if_neg (show ¬ nI (c p) = (59 : Int32) from fun q => by have := (nI_eq_iff (b := 59) (by omega) (by decide)).mp q; omega), rtz_0]
/-- the numbers with one more -/
def addN (A : Mem) (a v : Nat) : Mem := upR (upR A 4 (upd (A 4) a (nI v))) 3 (upd (A 3) 1 (nI (a + 1)))
theorem sp_69 (hc : ∀ j, j < n → c j ≤ 126) {p v g a : Nat} (hp : p < n) (hp2 : n ≤ 200) (hg : 1 ≤ g ∧ g ≤ 2) (ha : A 3 1 = nI a) (ha3 : a ≤ 3) (K : Int32 → Int32 → Int32 → Mem → Res) : pX7_split_69 fu (nI v) (nI g) (nI p) (nI (c p)) A K = if a < 3 ∧ c p = 59 then some (1, upR (addN A a v) 3 (upd (addN A a v 3) 2 (nI (p + 1)))) else if a < 3 ∧ c p = 44 then K 0 0 (nI (p + 1)) (addN A a v) else some (0, A) := by
  have hcp := hc p hp
  have e83 : pX7_split_83 fu (nI v) (nI g) (nI p) (nI (c p)) A K = if a < 3 then (if c p = 59 then some (1, upR (addN A a v) 3 (upd (addN A a v 3) 2 (nI (p + 1)))) else K 0 0 (nI (p + 1)) (addN A a v)) else some (0, A) := by
    unfold pX7_split_83 pX7_split_142 fpt
    rw [if_neg (fun q => by have := (nI_le0 (by omega)).mp q; omega), ha]
    by_cases q : a < 3
    · rw [if_neg (show ¬ (3 : Int32) ≤ nI a from fun z => by have := (nI_le_iff (a := 3) (by decide) (by omega)).mp z; omega), if_pos q, x_put _ _ _ _ _ _ (by decide), bV_some, rpu_nI (by omega) (by decide)]
      dsimp only
      rw [up2_eq, up2_eq, upR_ne (a := 3) (k := 4) (by decide), ha, nI_1, nI_1, rtz_1]
      by_cases z : c p = 59
      · rw [if_pos (show nI (c p) = (59 : Int32) by rw [z]; rfl), if_pos z]; rfl
      · rw [if_neg (show ¬ nI (c p) = (59 : Int32) from fun y => z ((nI_eq_iff (b := 59) (by omega) (by decide)).mp y)), if_neg z]; rfl
    · rw [if_pos (show (3 : Int32) ≤ nI a from (nI_le_iff (a := 3) (by decide) (by omega)).mpr (by omega)), if_neg q, rtz_0]
  unfold pX7_split_69
  rw [e83, rtz_0]
  by_cases z4 : c p = 44
  · rw [if_pos (show nI (c p) = (44 : Int32) by rw [z4]; rfl), z4]
    by_cases q : a < 3
    · rw [if_pos q, if_neg (by decide), if_neg (fun y => by have := y.2; omega), if_pos ⟨q, rfl⟩]
    · rw [if_neg q, if_neg (fun y => q y.1), if_neg (fun y => q y.1)]
  · rw [if_neg (show ¬ nI (c p) = (44 : Int32) from fun y => z4 ((nI_eq_iff (b := 44) (by omega) (by decide)).mp y))]
    by_cases z5 : c p = 59
    · rw [if_pos (show nI (c p) = (59 : Int32) by rw [z5]; rfl)]
      by_cases q : a < 3
      · rw [if_pos q, if_pos z5, if_pos ⟨q, z5⟩]
      · rw [if_neg q, if_neg (fun y => q y.1), if_neg (fun y => q y.1)]
    · rw [if_neg (show ¬ nI (c p) = (59 : Int32) from fun y => z5 ((nI_eq_iff (b := 59) (by omega) (by decide)).mp y)), if_neg (fun y => z5 y.2), if_neg (fun y => z4 y.2)]
theorem sp_69z (hc : ∀ j, j < n → c j ≤ 126) {p : Nat} (v : Int32) (K : Int32 → Int32 → Int32 → Mem → Res) : pX7_split_69 fu v 0 (nI p) (nI (c p)) A K = some (0, A) := by
  unfold pX7_split_69 pX7_split_83
  rw [if_pos (show (0 : Int32) ≤ 0 by decide), rtz_0]
  split
  · rfl
  · split <;> rfl
/-- one number and what stands behind it -/
theorem sp_num (hT : TX A n c) {p a t : Nat} (hp : p < 2 ^ 20) (ha : A 3 1 = nI a) (ha3 : a ≤ 3) : (num c n p = none ∧ pX7_split_15 fu (t + 4) 0 0 (nI p) A = some (0, A)) ∨ (∃ v q, num c n p = some (v, q) ∧ a < 3 ∧ chr c n q = 59 ∧ pX7_split_15 fu (t + 4) 0 0 (nI p) A = some (1, upR (addN A a v) 3 (upd (addN A a v 3) 2 (nI (q + 1))))) ∨ (∃ v q t', num c n p = some (v, q) ∧ t ≤ t' ∧ a < 3 ∧ chr c n q = 44 ∧ pX7_split_15 fu (t + 4) 0 0 (nI p) A = pX7_split_15 fu t' 0 0 (nI (q + 1)) (addN A a v)) ∨ (∃ v q, num c n p = some (v, q) ∧ (a < 3 → chr c n q ≠ 59 ∧ chr c n q ≠ 44) ∧ pX7_split_15 fu (t + 4) 0 0 (nI p) A = some (0, A)) := by
  have hT' := hT
  obtain ⟨h1, h2, h3⟩ := hT'
  have hcc : ∀ j, j < n → c j ≤ 126 := fun j hj => (h3 j hj).2.1
  have tail : ∀ v q g s, num c n p = some (v, q) → 1 ≤ g → g ≤ 2 → t ≤ s → pX7_split_15 fu (t + 4) 0 0 (nI p) A = pX7_split_15 fu (s + 1) (nI v) (nI g) (nI q) A → (∃ v q, num c n p = some (v, q) ∧ a < 3 ∧ chr c n q = 59 ∧ pX7_split_15 fu (t + 4) 0 0 (nI p) A = some (1, upR (addN A a v) 3 (upd (addN A a v 3) 2 (nI (q + 1))))) ∨ (∃ v q t', num c n p = some (v, q) ∧ t ≤ t' ∧ a < 3 ∧ chr c n q = 44 ∧ pX7_split_15 fu (t + 4) 0 0 (nI p) A = pX7_split_15 fu t' 0 0 (nI (q + 1)) (addN A a v)) ∨ (∃ v q, num c n p = some (v, q) ∧ (a < 3 → chr c n q ≠ 59 ∧ chr c n q ≠ 44) ∧ pX7_split_15 fu (t + 4) 0 0 (nI p) A = some (0, A)) := by
    intro v q g s hnum hg1 hg2 hs e
    obtain ⟨b1, b2, b3, b4, b5⟩ := num_b hnum
    by_cases hq : q < n
    · rw [sp_non hT hq b5, sp_69 hcc hq h2 ⟨hg1, hg2⟩ ha ha3] at e
      have ec : chr c n q = c q := by unfold chr; rw [if_pos hq]
      by_cases z1 : a < 3 ∧ c q = 59
      · rw [if_pos z1] at e
        exact Or.inl ⟨v, q, hnum, z1.1, ec.trans z1.2, e⟩
      · rw [if_neg z1] at e
        by_cases z2 : a < 3 ∧ c q = 44
        · rw [if_pos z2] at e
          exact Or.inr (Or.inl ⟨v, q, s, hnum, hs, z2.1, ec.trans z2.2, e⟩)
        · rw [if_neg z2] at e
          exact Or.inr (Or.inr ⟨v, q, hnum, fun y => by rw [ec]; exact ⟨fun w => z1 ⟨y, w⟩, fun w => z2 ⟨y, w⟩⟩, e⟩)
    · have e := e.trans (sp_end hT (show n ≤ q by omega) (by omega) _ _)
      have ec : chr c n q = 0 := by unfold chr; rw [if_neg hq]
      exact Or.inr (Or.inr ⟨v, q, hnum, fun _ => by rw [ec]; decide, e⟩)
  by_cases d0 : dgt c n p
  · have e0 := sp_dig (fu := fu) (t := t + 3) (v := 0) (g := 0) hT d0 (by decide) (by decide)
    have hd0 := d0
    obtain ⟨y1, y2, y3⟩ := hd0
    rw [Nat.mul_zero, Nat.zero_add] at e0
    by_cases d1 : dgt c n (p + 1)
    · have e1 := sp_dig (fu := fu) (t := t + 2) (v := c p - 48) (g := 0 + 1) hT d1 (by decide) (by omega)
      by_cases d2 : dgt c n (p + 2)
      · refine Or.inl ⟨by unfold num; rw [if_pos d0, if_pos d1, if_pos d2], ?_⟩
        have e2 := sp_dig2 (fu := fu) (t := t + 1) hT d2 (nI (10 * (c p - 48) + (c (p + 1) - 48)))
        exact (e0.trans e1).trans e2
      · exact Or.inr (tail _ _ 2 (t + 1) (by unfold num; rw [if_pos d0, if_pos d1, if_neg d2]) (by decide) (by decide) (by omega) (e0.trans e1))
    · exact Or.inr (tail _ _ 1 (t + 2) (by unfold num; rw [if_pos d0, if_neg d1]) (by decide) (by decide) (by omega) e0)
  · refine Or.inl ⟨by unfold num; rw [if_neg d0], ?_⟩
    by_cases hp' : p < n
    · rw [sp_non hT hp' d0, sp_69z hcc]
    · exact sp_end hT (by omega) (by omega) _ _
end SC
/-! an item's numbers -/
def W1 (c : Nat → Nat) (n p v1 q : Nat) : Prop := num c n p = some (v1, q)
def W2 (c : Nat → Nat) (n p v1 v2 q : Nat) : Prop := ∃ q1, num c n p = some (v1, q1) ∧ chr c n q1 = 44 ∧ num c n (q1 + 1) = some (v2, q)
def W3 (c : Nat → Nat) (n p v1 v2 v3 q : Nat) : Prop := ∃ q2, W2 c n p v1 v2 q2 ∧ chr c n q2 = 44 ∧ num c n (q2 + 1) = some (v3, q)
section WF
variable {c : Nat → Nat} {n p : Nat}
theorem W2_f {a b q a' b' q' : Nat} (h : W2 c n p a b q) (h' : W2 c n p a' b' q') : a = a' ∧ b = b' ∧ q = q' := by
  obtain ⟨q1, e1, -, e2⟩ := h
  obtain ⟨q1', e1', -, e2'⟩ := h'
  rw [e1] at e1'
  cases e1'
  rw [e2] at e2'
  cases e2'
  exact ⟨rfl, rfl, rfl⟩
theorem W3_f {a b d q a' b' d' q' : Nat} (h : W3 c n p a b d q) (h' : W3 c n p a' b' d' q') : a = a' ∧ b = b' ∧ d = d' ∧ q = q' := by
  obtain ⟨q2, e1, -, e2⟩ := h
  obtain ⟨q2', e1', -, e2'⟩ := h'
  obtain ⟨rfl, rfl, rfl⟩ := W2_f e1 e1'
  rw [e2] at e2'
  cases e2'
  exact ⟨rfl, rfl, rfl, rfl⟩
end WF
/-- how the class's splitting comes out -/
def SPo (c : Nat → Nat) (n p : Nat) (r : Int32) (A' : Mem) : Prop :=
  (r = 0 ∧ (∀ v q, W1 c n p v q → chr c n q ≠ 59) ∧ (∀ v w q, W2 c n p v w q → chr c n q ≠ 59) ∧ (∀ v w u q, W3 c n p v w u q → chr c n q ≠ 59)) ∨
  (r = 1 ∧ ∃ q, q < n ∧ p < q ∧ A' 3 2 = nI (q + 1) ∧ chr c n q = 59 ∧
    ((∃ v, W1 c n p v q ∧ A' 3 1 = 1 ∧ A' 4 0 = nI v) ∨ (∃ v w, W2 c n p v w q ∧ A' 3 1 = 2 ∧ A' 4 0 = nI v ∧ A' 4 1 = nI w) ∨ (∃ v w u, W3 c n p v w u q ∧ A' 3 1 = 3 ∧ A' 4 0 = nI v ∧ A' 4 1 = nI w ∧ A' 4 2 = nI u)))
def eqX (A A' : Mem) : Prop := ∀ k, k ≠ 3 → k ≠ 4 → A' k = A k
theorem eqX_tr {A A1 A2 : Mem} (h1 : eqX A A1) (h2 : eqX A1 A2) : eqX A A2 := fun k a b => (h2 k a b).trans (h1 k a b)
theorem eqX_rf (A : Mem) : eqX A A := fun _ _ _ => rfl
theorem eqX_add (A : Mem) (a v : Nat) : eqX A (addN A a v) := fun k h3 h4 => by unfold addN; rw [upR_ne h3, upR_ne h4]
theorem eqX_3 (A : Mem) (f : Row) : eqX A (upR A 3 f) := fun k h3 _ => upR_ne h3
theorem TX_eq {A A' : Mem} {n : Nat} {c : Nat → Nat} (h : TX A n c) (he : eqX A A') : TX A' n c := by
  unfold TX at *
  rw [he 1 (by decide) (by decide), he 2 (by decide) (by decide)]; exact h
theorem addN_1 (A : Mem) (a v : Nat) : addN A a v 3 1 = nI (a + 1) := by unfold addN; rw [upR_at, upd_at]
theorem addN_a (A : Mem) (a v : Nat) : addN A a v 4 a = nI v := by unfold addN; rw [upR_ne (by decide), upR_at, upd_at]
theorem addN_o (A : Mem) {a i : Nat} (h : i ≠ a) (v : Nat) : addN A a v 4 i = A 4 i := by unfold addN; rw [upR_ne (by decide), upR_at, upd_ne h]
theorem chr_lt {c : Nat → Nat} {n q : Nat} (h : chr c n q ≠ 0) : q < n := by
  unfold chr at h
  by_cases z : q < n
  · exact z
  · rw [if_neg z] at h; exact absurd rfl h
theorem x_split {A : Mem} {n fu s : Nat} {c : Nat → Nat} (hT : TX A n c) (hs : s ≤ 200) (hf : 1000 < fu) : ∃ r A', pX7_split fu (nI s) A = some (r, A') ∧ eqX A A' ∧ SPo c n (s + 1) r A' := by
  unfold pX7_split fpt
  rw [up2_eq, nI_1]
  dsimp only
  obtain ⟨t, rfl⟩ : ∃ t, fu = t + 4 := ⟨fu - 4, by omega⟩
  have x0 : eqX A (upR A 3 (upd (A 3) 1 0)) := eqX_3 A _
  generalize hA0 : upR A 3 (upd (A 3) 1 0) = A0 at *
  have a0 : A0 3 1 = nI 0 := by rw [← hA0, upR_at, upd_at]; rfl
  have T0 := TX_eq hT x0
  have done0 : ∀ A', eqX A A' → (∀ v q, W1 c n (s + 1) v q → chr c n q ≠ 59) → (∀ v w q, W2 c n (s + 1) v w q → chr c n q ≠ 59) → (∀ v w u q, W3 c n (s + 1) v w u q → chr c n q ≠ 59) → ∃ r A'', (some ((0 : Int32), A') : Res) = some (r, A'') ∧ eqX A A'' ∧ SPo c n (s + 1) r A'' := fun A' he h1 h2 h3 => ⟨0, A', rfl, he, Or.inl ⟨rfl, h1, h2, h3⟩⟩
  rcases sp_num (fu := t + 4) (t := t) T0 (show s + 1 < 2 ^ 20 by omega) a0 (by decide) with ⟨hn, e⟩ | ⟨v, q, hn, -, hc, e⟩ | ⟨v, q, t1, hn, ht1, -, hc, e⟩ | ⟨v, q, hn, hno, e⟩
  · rw [e]
    refine done0 A0 x0 (fun v q h => ?_) (fun v w q h => ?_) (fun v w u q h => ?_)
    · unfold W1 at h; rw [hn] at h; cases h
    · obtain ⟨q1, z, -⟩ := h; rw [hn] at z; cases z
    · obtain ⟨q2, ⟨q1, z, -⟩, -⟩ := h; rw [hn] at z; cases z
  · rw [e]
    refine ⟨1, _, rfl, eqX_tr (eqX_tr x0 (eqX_add A0 0 v)) (eqX_3 _ _), Or.inr ⟨rfl, q, chr_lt (by rw [hc]; decide), (num_b hn).2.1, by rw [upR_at, upd_at], hc, Or.inl ⟨v, hn, ?_, ?_⟩⟩⟩
    · rw [upR_at, upd_ne (by decide), addN_1]; rfl
    · rw [upR_ne (by decide), addN_a]
  · rw [e]
    obtain ⟨b1, b2, b3, b4, -⟩ := num_b hn
    have hqn := chr_lt (c := c) (n := n) (q := q) (by rw [hc]; decide)
    have hn200 := hT.2.1
    have x1 := eqX_tr x0 (eqX_add A0 0 v)
    have a1 : addN A0 0 v 3 1 = nI 1 := addN_1 _ _ _
    obtain ⟨t2, rfl⟩ : ∃ z, t1 = z + 4 := ⟨t1 - 4, by omega⟩
    rcases sp_num (fu := t + 4) (t := t2) (TX_eq hT x1) (show q + 1 < 2 ^ 20 by omega) a1 (by decide) with ⟨hn', e'⟩ | ⟨w, q', hn', -, hc', e'⟩ | ⟨w, q', t3, hn', ht3, -, hc', e'⟩ | ⟨w, q', hn', hno', e'⟩
    · rw [e']
      refine done0 _ x1 (fun v q h => ?_) (fun v w q h => ?_) (fun v w u q h => ?_)
      · unfold W1 at h; rw [hn] at h; cases h; rw [hc]; decide
      · obtain ⟨q1, z, -, z2⟩ := h; rw [hn] at z; cases z; rw [hn'] at z2; cases z2
      · obtain ⟨q2, ⟨q1, z, -, z2⟩, -⟩ := h; rw [hn] at z; cases z; rw [hn'] at z2; cases z2
    · rw [e']
      refine ⟨1, _, rfl, eqX_tr (eqX_tr x1 (eqX_add _ 1 w)) (eqX_3 _ _), Or.inr ⟨rfl, q', chr_lt (by rw [hc']; decide), by have := (num_b hn').2.1; omega, by rw [upR_at, upd_at], hc', Or.inr (Or.inl ⟨v, w, ⟨q, hn, hc, hn'⟩, ?_, ?_, ?_⟩)⟩⟩
      · rw [upR_at, upd_ne (by decide), addN_1]; rfl
      · rw [upR_ne (by decide), addN_o _ (by decide), addN_a]
      · rw [upR_ne (by decide), addN_a]
    · rw [e']
      obtain ⟨b1', b2', b3', b4', -⟩ := num_b hn'
      have hqn' := chr_lt (c := c) (n := n) (q := q') (by rw [hc']; decide)
      have x2 := eqX_tr x1 (eqX_add _ 1 w)
      have a2 : addN (addN A0 0 v) 1 w 3 1 = nI 2 := addN_1 _ _ _
      obtain ⟨t4, rfl⟩ : ∃ z, t3 = z + 4 := ⟨t3 - 4, by omega⟩
      rcases sp_num (fu := t + 4) (t := t4) (TX_eq hT x2) (show q' + 1 < 2 ^ 20 by omega) a2 (by decide) with ⟨hn2, e2⟩ | ⟨u, q2, hn2, -, hc2, e2⟩ | ⟨u, q2, t5, hn2, ht5, -, hc2, e2⟩ | ⟨u, q2, hn2, hno2, e2⟩
      · rw [e2]
        refine done0 _ x2 (fun v q h => ?_) (fun v w q h => ?_) (fun v w u q h => ?_)
        · unfold W1 at h; rw [hn] at h; cases h; rw [hc]; decide
        · obtain ⟨q1, z, -, z2⟩ := h; rw [hn] at z; cases z; rw [hn'] at z2; cases z2; rw [hc']; decide
        · obtain ⟨q2, ⟨q1, z, -, z2⟩, -, z3⟩ := h; rw [hn] at z; cases z; rw [hn'] at z2; cases z2; rw [hn2] at z3; cases z3
      · rw [e2]
        refine ⟨1, _, rfl, eqX_tr (eqX_tr x2 (eqX_add _ 2 u)) (eqX_3 _ _), Or.inr ⟨rfl, q2, chr_lt (by rw [hc2]; decide), by have := (num_b hn2).2.1; omega, by rw [upR_at, upd_at], hc2, Or.inr (Or.inr ⟨v, w, u, ⟨q', ⟨q, hn, hc, hn'⟩, hc', hn2⟩, ?_, ?_, ?_, ?_⟩)⟩⟩
        · rw [upR_at, upd_ne (by decide), addN_1]; rfl
        · rw [upR_ne (by decide), addN_o _ (by decide), addN_o _ (by decide), addN_a]
        · rw [upR_ne (by decide), addN_o _ (by decide), addN_a]
        · rw [upR_ne (by decide), addN_a]
      · rw [e2]
        have hqn2 := chr_lt (c := c) (n := n) (q := q2) (by rw [hc2]; decide)
        have x3 := eqX_tr x2 (eqX_add _ 2 u)
        have a3 : addN (addN (addN A0 0 v) 1 w) 2 u 3 1 = nI 3 := addN_1 _ _ _
        obtain ⟨t6, rfl⟩ : ∃ z, t5 = z + 4 := ⟨t5 - 4, by omega⟩
        have fin : ∃ r A'', (some ((0 : Int32), addN (addN (addN A0 0 v) 1 w) 2 u) : Res) = some (r, A'') ∧ eqX A A'' ∧ SPo c n (s + 1) r A'' := by
          refine done0 _ x3 (fun v q h => ?_) (fun v w q h => ?_) (fun v w u q h => ?_)
          · unfold W1 at h; rw [hn] at h; cases h; rw [hc]; decide
          · obtain ⟨q1, z, -, z2⟩ := h; rw [hn] at z; cases z; rw [hn'] at z2; cases z2; rw [hc']; decide
          · obtain ⟨q2, ⟨q1, z, -, z2⟩, -, z3⟩ := h; rw [hn] at z; cases z; rw [hn'] at z2; cases z2; rw [hn2] at z3; cases z3; rw [hc2]; decide
        rcases sp_num (fu := t + 4) (t := t6) (TX_eq hT x3) (show q2 + 1 < 2 ^ 20 by omega) a3 (by decide) with ⟨-, e3⟩ | ⟨_, _, -, z, -⟩ | ⟨_, _, _, -, -, z, -⟩ | ⟨_, _, -, -, e3⟩
        · rw [e3]; exact fin
        · omega
        · omega
        · rw [e3]; exact fin
      · rw [e2]
        have hno2' := hno2 (by decide)
        refine done0 _ x2 (fun v q h => ?_) (fun v w q h => ?_) (fun v w u q h => ?_)
        · unfold W1 at h; rw [hn] at h; cases h; rw [hc]; decide
        · obtain ⟨q1, z, -, z2⟩ := h; rw [hn] at z; cases z; rw [hn'] at z2; cases z2; rw [hc']; decide
        · obtain ⟨q2, ⟨q1, z, -, z2⟩, -, z3⟩ := h; rw [hn] at z; cases z; rw [hn'] at z2; cases z2; rw [hn2] at z3; cases z3; exact hno2'.1
    · rw [e']
      have hno1 := hno' (by decide)
      refine done0 _ x1 (fun v q h => ?_) (fun v w q h => ?_) (fun v w u q h => ?_)
      · unfold W1 at h; rw [hn] at h; cases h; rw [hc]; decide
      · obtain ⟨q1, z, -, z2⟩ := h; rw [hn] at z; cases z; rw [hn'] at z2; cases z2; exact hno1.1
      · obtain ⟨q2, ⟨q1, z, -, z2⟩, z4, -⟩ := h; rw [hn] at z; cases z; rw [hn'] at z2; cases z2; exact absurd z4 hno1.2
  · rw [e]
    have hno0 := hno (by decide)
    refine done0 _ x0 (fun v q h => ?_) (fun v w q h => ?_) (fun v w u q h => ?_)
    · unfold W1 at h; rw [hn] at h; cases h; exact hno0.1
    · obtain ⟨q1, z, z4, -⟩ := h; rw [hn] at z; cases z; exact absurd z4 hno0.2
    · obtain ⟨q2, ⟨q1, z, z4, -⟩, -⟩ := h; rw [hn] at z; cases z; exact absurd z4 hno0.2
