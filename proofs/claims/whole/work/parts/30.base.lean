/-! PURE: plain facts of the pure programs' pieces -/
theorem bI_some (a : Int32) (m : Mem) (K : Int32 → Mem → Res) : bI (some (a, m)) K = K a m := rfl
theorem bV_some (a : Int32) (m : Mem) (K : Mem → Res) : bV (some (a, m)) K = K m := rfl
theorem bI_none (K : Int32 → Mem → Res) : bI none K = none := rfl
theorem rtz_0 (M : Mem) : rtz 0 M = some (0, M) := rfl
theorem rtz_1 (M : Mem) : rtz 1 M = some (1, M) := rfl
theorem upR_self (M : Mem) (k : Nat) : upR M k (M k) = M := by
  funext a; by_cases h : a = k
  · subst h; simp [upR]
  · simp [upR, h]
theorem upR_at (M : Mem) (k : Nat) (f : Nat → Int32) : upR M k f k = f := by simp [upR]
theorem upR_ne {M : Mem} {k a : Nat} {f : Nat → Int32} (h : a ≠ k) : upR M k f a = M a := by simp [upR, h]
theorem upR_upR (M : Mem) (k : Nat) (f g : Nat → Int32) : upR (upR M k f) k g = upR M k g := by
  funext a; by_cases h : a = k
  · subst h; simp [upR]
  · simp [upR, h]
/-- i is a place of a row of n -/
abbrev inR (i : Int32) (n : Nat) : Prop := 0 ≤ i.toInt ∧ i.toInt < n
def rat (f : Nat → Int32) (n : Nat) (i : Int32) : Int32 := if inR i n then f i.toNatClampNeg else 0
def rpu (f : Nat → Int32) (n : Nat) (i v : Int32) : Nat → Int32 := if inR i n then upd f i.toNatClampNeg v else f
theorem i_lt (x y : Int32) : x < y ↔ x.toInt < y.toInt := Int32.lt_iff_toInt_lt
theorem i_le (x y : Int32) : x ≤ y ↔ x.toInt ≤ y.toInt := Int32.le_iff_toInt_le
theorem x_at (fu k n : Nat) (x : Int32) (M : Mem) (hn : n < 2 ^ 31) : pX6_at fu k n x M = some (rat (M k) n x, M) := by
  have hn' : (Int32.ofNat n).toInt = (n : Int) := nI_toInt hn
  unfold pX6_at rat
  by_cases h1 : x < 0
  · have h2 : ¬ inR x n := fun h => by have := (i_lt x 0).mp h1; have h0 : (0 : Int32).toInt = 0 := rfl; rw [h0] at this; omega
    rw [if_pos h1, if_neg h2]
  · rw [if_neg h1]
    have h1' : 0 ≤ x.toInt := by
      rcases Int.lt_or_le x.toInt 0 with q | q
      · exact absurd ((i_lt x 0).mpr q) h1
      · exact q
    by_cases h3 : Int32.ofNat n ≤ x
    · have h4 := (i_le _ _).mp h3
      rw [hn'] at h4
      rw [if_pos h3, if_neg (fun h : inR x n => by omega)]
    · have h4 : inR x n := ⟨h1', by
        rcases Int.lt_or_le x.toInt n with q | q
        · exact q
        · exact absurd ((i_le _ _).mpr (by rw [hn']; exact q)) h3⟩
      rw [if_neg h3, if_pos h4]
      unfold ld
      rw [if_pos h4]
theorem x_put (fu k n : Nat) (x v : Int32) (M : Mem) (hn : n < 2 ^ 31) : pX6_put fu k n x v M = some (0, upR M k (rpu (M k) n x v)) := by
  have hn' : (Int32.ofNat n).toInt = (n : Int) := nI_toInt hn
  unfold pX6_put rpu
  by_cases h1 : x < 0
  · have h2 : ¬ inR x n := fun h => by have := (i_lt x 0).mp h1; have h0 : (0 : Int32).toInt = 0 := rfl; rw [h0] at this; omega
    rw [if_pos h1, if_neg h2, upR_self]
  · rw [if_neg h1]
    have h1' : 0 ≤ x.toInt := by
      rcases Int.lt_or_le x.toInt 0 with q | q
      · exact absurd ((i_lt x 0).mpr q) h1
      · exact q
    by_cases h3 : Int32.ofNat n ≤ x
    · have h4 := (i_le _ _).mp h3
      rw [hn'] at h4
      rw [if_pos h3, if_neg (fun h : inR x n => by omega), upR_self]
    · have h4 : inR x n := ⟨h1', by
        rcases Int.lt_or_le x.toInt n with q | q
        · exact q
        · exact absurd ((i_le _ _).mpr (by rw [hn']; exact q)) h3⟩
      rw [if_neg h3, if_pos h4]
      unfold sto
      rw [if_pos h4, up2_eq]
theorem inR_nI {j n : Nat} (h : j < n) (hn : n < 2 ^ 31) : inR (nI j) n := by
  have : (nI j).toInt = (j : Int) := nI_toInt (by omega)
  constructor <;> omega
theorem rat_nI {f : Nat → Int32} {n j : Nat} (h : j < n) (hn : n < 2 ^ 31) : rat f n (nI j) = f j := by
  unfold rat
  rw [if_pos (inR_nI h hn), nI_clamp (by omega)]
theorem rpu_nI {f : Nat → Int32} {n j : Nat} {v : Int32} (h : j < n) (hn : n < 2 ^ 31) : rpu f n (nI j) v = upd f j v := by
  unfold rpu
  rw [if_pos (inR_nI h hn), nI_clamp (by omega)]
/-- repeat g for i, i + 1, .. (m of them) -/
def itr {α : Type} (g : Nat → α → α) : Nat → Nat → α → α
  | 0, _, a => a
  | m + 1, i, a => itr g m (i + 1) (g i a)
theorem lit_nI (n : Nat) : (OfNat.ofNat n : Int32) = nI n := rfl
theorem upd_at (f : Nat → Int32) (k : Nat) (v : Int32) : upd f k v k = v := by simp [upd]
theorem upd_ne {f : Nat → Int32} {k j : Nat} {v : Int32} (h : j ≠ k) : upd f k v j = f j := by simp [upd, h]
theorem upd_upd (f : Nat → Int32) (k : Nat) (v w : Int32) : upd (upd f k v) k w = upd f k w := by
  funext j; by_cases h : j = k
  · subst h; simp [upd]
  · simp [upd, h]
theorem nI_le_iff {a b : Nat} (ha : a < 2 ^ 31) (hb : b < 2 ^ 31) : nI a ≤ nI b ↔ a ≤ b := nI_leI ha hb
theorem nI_eq_iff {a b : Nat} (ha : a < 2 ^ 31) (hb : b < 2 ^ 31) : nI a = nI b ↔ a = b := nI_eq ha hb
theorem nI_lt_iff {a b : Nat} (ha : a < 2 ^ 31) (hb : b < 2 ^ 31) : nI a < nI b ↔ a < b := nI_ltI ha hb
/-- Rows.clear -/
theorem x_clear_2 (fu k n : Nat) (hn : n < 2 ^ 30) : ∀ (m i : Nat) (t : Nat) (M : Mem), i + m = n → m < t → pX6_clear_2 fu k n t (nI i) M = some (0, upR M k (fun j => if i ≤ j ∧ j < n then 0 else M k j)) := by
  intro m
  induction m with
  | zero =>
    intro i t M hi ht
    obtain ⟨t, rfl⟩ : ∃ u, t = u + 1 := ⟨t - 1, by omega⟩
    have : Int32.ofNat n ≤ nI i := (nI_le_iff (by omega) (by omega)).mpr (by omega)
    show pX6_clear_2b fu k n (nI i) M _ = _
    unfold pX6_clear_2b
    rw [if_pos this]
    congr 2
    rw [show (fun j => if i ≤ j ∧ j < n then (0 : Int32) else M k j) = M k from by funext j; rw [if_neg (by omega)]]
    rw [upR_self]
  | succ m ih =>
    intro i t M hi ht
    obtain ⟨t, rfl⟩ : ∃ u, t = u + 1 := ⟨t - 1, by omega⟩
    have : ¬ Int32.ofNat n ≤ nI i := fun h => by have := (nI_le_iff (a := n) (b := i) (by omega) (by omega)).mp h; omega
    show pX6_clear_2b fu k n (nI i) M _ = _
    unfold pX6_clear_2b
    rw [if_neg this]
    unfold sto
    rw [if_pos (inR_nI (by omega) (by omega)), nI_clamp (by omega), nI_1]
    dsimp only
    rw [ih (i + 1) t _ (by omega) (by omega)]
    congr 2
    rw [up2_eq, upR_upR, upR_at]
    congr 1
    funext j
    by_cases h : j = i
    · subst h; rw [if_neg (by omega), if_pos (by omega), upd_at]
    · rw [upd_ne h]
      by_cases h2 : i + 1 ≤ j ∧ j < n
      · rw [if_pos h2, if_pos (by omega)]
      · rw [if_neg h2, if_neg (by omega)]
theorem x_clear (fu k n : Nat) (M : Mem) (hn : n < 2 ^ 30) (hf : n < fu) : pX6_clear fu k n M = some (0, upR M k (fun j => if j < n then 0 else M k j)) := by
  unfold pX6_clear
  exact (x_clear_2 fu k n hn n 0 fu M (by omega) hf).trans (by simp)
