/-! the shapes of the class (81 cells) and of the reference (17 cells) -/
abbrev jE : Type := va_G × (Nat → Nat) × (Nat → ClassId)
def tX (k : Nat) : Nat := [8, 5, 22, 6, 20, 1, 20, 20, 20, 20, 20, 20, 20, 20, 20, 20, 1, 20, 20, 20, 20, 20, 20, 20, 20, 20, 20, 4, 20, 7, 23, 4, 20, 4, 20, 4, 20, 4, 20, 4, 20, 4, 20, 4, 20, 4, 20, 7, 23, 4, 20, 4, 20, 3, 4, 20, 2, 20, 20, 4, 20, 0, 23, 4, 20, 4, 20, 4, 20, 4, 20, 4, 20, 4, 20, 4, 20, 4, 20, 4, 20].getD k 99
def lX (k : Nat) : Nat := [0, 0, 200, 0, 3, 0, 64, 64, 64, 4, 4, 5, 5, 5, 8, 8, 0, 64, 64, 64, 4, 4, 5, 5, 5, 8, 8, 0, 64, 0, 8, 0, 64, 0, 64, 0, 64, 0, 64, 0, 64, 0, 64, 0, 64, 0, 64, 0, 2, 0, 64, 0, 64, 0, 0, 64, 0, 4, 4, 0, 64, 0, 9, 0, 64, 0, 64, 0, 64, 0, 64, 0, 64, 0, 64, 0, 64, 0, 64, 0, 64].getD k 0
def rfX (k j : Nat) : Option Nat := match tX k with
  | 0 => some 62
  | 1 => if j < 10 then some (k + 1 + j) else none
  | 2 => some ([5, 59, 57, 58].getD j 0)
  | 3 => some ([5, 54].getD j 0)
  | 4 => if j = 0 then some 5 else some (k + 1)
  | 5 => if j = 0 then some 2 else none
  | 6 => if j = 0 then some 4 else none
  | 7 => if j = 0 then some (k + 1) else none
  | 8 => some ([1, 3, 5, 16, 27, 29, 47, 53, 56, 61].getD j 0)
  | _ => none
def rtX (a q : Nat) : Nat := a + 1 + 2 * q
def gX (E : jE) : jS := (E.1, E.2.1, E.2.2, 81, tX, lX, rfX, rtX)
def tM (k : Nat) : Nat := [9, 20, 20, 20, 20, 20, 20, 20, 20, 20, 20, 20, 20, 21, 20, 20, 20].getD k 99
def lM (k : Nat) : Nat := [0, 64, 64, 4, 4, 5, 5, 64, 4, 4, 5, 5, 768, 200, 5, 4, 4].getD k 0
def rfM (k j : Nat) : Option Nat := if k = 0 then (match j with
  | 1 => some 1
  | 2 => some 2
  | 5 => some 3
  | 6 => some 4
  | 8 => some 5
  | 9 => some 6
  | 11 => some 7
  | 14 => some 8
  | 15 => some 9
  | 17 => some 10
  | 18 => some 11
  | 19 => some 12
  | 23 => some 13
  | 27 => some 14
  | 28 => some 15
  | 29 => some 16
  | _ => none) else none
def gM (E : jE) : jS := (E.1, E.2.1, E.2.2, 17, tM, lM, rfM, fun _ _ => 0)
theorem jb {a b : Nat} (h : Nat.ble (a + 1) b = true) : a < b := Nat.le_of_ble_eq_true h
theorem tX_lt {k t : Nat} (h : tX k = t) (ht : t < 99) : k < 81 := by
  rcases Nat.lt_or_ge k 81 with q | q
  · exact q
  · have : tX k = 99 := by
      unfold tX
      rw [List.getD_eq_getElem?_getD, List.getElem?_eq_none (by simpa using q)]; rfl
    omega
theorem hh0 : ∀ k, k < 81 → tX k = 4 → tX (k + 1) = 20 ∧ lX (k + 1) = 64 ∧ k + 1 < 81 := by decide
theorem hh {k : Nat} (h : tX k = 4) : k < 81 ∧ tX (k + 1) = 20 ∧ lX (k + 1) = 64 ∧ k + 1 < 81 := ⟨tX_lt h (by decide), hh0 k (tX_lt h (by decide)) h⟩
theorem hc0 : ∀ k, k < 81 → tX k = 1 → ∀ j, j < 10 → tX (k + 1 + j) = 20 ∧ k + 1 + j < 81 ∧ lX (k + 1 + j) = [64, 64, 64, 4, 4, 5, 5, 5, 8, 8].getD j 0 := by decide
theorem hc {k : Nat} (h : tX k = 1) : k < 81 := tX_lt h (by decide)
theorem hcj {k j : Nat} (h : tX k = 1) (hj : j < 10) : tX (k + 1 + j) = 20 ∧ k + 1 + j < 81 ∧ lX (k + 1 + j) = [64, 64, 64, 4, 4, 5, 5, 5, 8, 8].getD j 0 := hc0 k (hc h) h j hj
theorem hs0 : ∀ k, k < 81 → tX k = 7 → tX (k + 1) = 23 ∧ k + 1 < 81 := by decide
theorem hs {k : Nat} (h : tX k = 7) : k < 81 ∧ tX (k + 1) = 23 ∧ k + 1 < 81 := ⟨tX_lt h (by decide), hs0 k (tX_lt h (by decide)) h⟩
theorem he0 : ∀ a, a < 81 → tX a = 23 → ∀ q, q < 9 → q < lX a → tX (a + 1 + 2 * q) = 4 := by decide
theorem hl9 : ∀ a, a < 81 → tX a = 23 → lX a ≤ 9 := by decide
theorem he {a q : Nat} (h : tX a = 23) (hq : q < lX a) : tX (a + 1 + 2 * q) = 4 := he0 a (tX_lt h (by decide)) h q (Nat.lt_of_lt_of_le hq (hl9 a (tX_lt h (by decide)) h)) hq
theorem hi {k : Nat} (h : tX k = 20) : k < 81 := tX_lt h (by decide)
theorem rf_h0 {k : Nat} (h : tX k = 4) : rfX k 0 = some 5 := by simp [rfX, h]
theorem rf_h1 {k : Nat} (h : tX k = 4) : rfX k 1 = some (k + 1) := by simp [rfX, h]
theorem rf_c {k j : Nat} (h : tX k = 1) (hj : j < 10) : rfX k j = some (k + 1 + j) := by simp [rfX, h, hj]
theorem rf_cn {k j : Nat} (h : tX k = 1) (hj : 10 ≤ j) : rfX k j = none := by simp [rfX, h]; omega
theorem rf_s0 {k : Nat} (h : tX k = 7) : rfX k 0 = some (k + 1) := by simp [rfX, h]
theorem rf_sn {k j : Nat} (h : tX k = 7) (hj : 0 < j) : rfX k j = none := by simp [rfX, h]; omega
theorem sw_out {x : Int32} {lo hi : Int} (h : ∀ c : Int, lo ≤ c → c ≤ hi → ¬ x = Int32.ofInt c) : x.toInt < lo ∨ hi < x.toInt := by
  rcases Int.lt_or_le x.toInt lo with q | q
  · exact Or.inl q
  · rcases Int.lt_or_le hi x.toInt with r | r
    · exact Or.inr r
    · exact absurd (Int32.ofInt_toInt x).symm (h x.toInt q r)
theorem sw_ne {x : Int32} {c : Int} (h : ¬ x = Int32.ofInt c) : ¬ c = x.toInt := fun e => h (by rw [e]; exact (Int32.ofInt_toInt x).symm)
