/-! PURE: distances and hops -/
def d0 (l : Nat → Nat → Nat) (a b : Nat) : Nat := if a = b then 0 else if l a b = 0 then 9999 else l a b
def DD (l : Nat → Nat → Nat) : Nat → Nat → Nat → Nat
  | 0 => d0 l
  | m + 1 => fun a b => min (DD l m a b) (DD l m a m + DD l m m b)
def LH (l : Nat → Nat → Nat) (np : Nat) : Prop := np ≤ 8 ∧ ∀ a b, a < 8 → b < 8 → l a b ≤ 9 ∧ l a b = l b a ∧ (np ≤ a ∨ np ≤ b ∨ a = b → l a b = 0)
section PT
variable {l : Nat → Nat → Nat} {np : Nat}
theorem DD_s (m a b : Nat) : DD l (m + 1) a b = min (DD l m a b) (DD l m a m + DD l m m b) := rfl
theorem DD_aa : ∀ m a, DD l m a a = 0 := by
  intro m
  induction m with
  | zero => intro a; show d0 l a a = 0; unfold d0; rw [if_pos rfl]
  | succ m ih => intro a; rw [DD_s, ih a]; omega
theorem DD_mono (m a b : Nat) : DD l (m + 1) a b ≤ DD l m a b := by rw [DD_s]; omega
theorem DD_mono' (m a b : Nat) : ∀ k, DD l (m + k) a b ≤ DD l m a b := by
  intro k
  induction k with
  | zero => exact Nat.le_refl _
  | succ k ih => exact Nat.le_trans (DD_mono (m + k) a b) ih
theorem DD_le (h : LH l np) : ∀ m a b, a < 8 → b < 8 → DD l m a b ≤ 9999 := by
  intro m a b ha hb
  have h1 := DD_mono' (l := l) 0 a b m
  rw [Nat.zero_add] at h1
  have h2 : DD l 0 a b ≤ 9999 := by
    show d0 l a b ≤ 9999
    unfold d0
    have := (h.2 a b ha hb).1
    split
    · omega
    · split <;> omega
  omega
theorem DD_sym (h : LH l np) : ∀ m a b, m ≤ 8 → a < 8 → b < 8 → DD l m a b = DD l m b a := by
  intro m
  induction m with
  | zero =>
    intro a b _ ha hb
    show d0 l a b = d0 l b a
    unfold d0
    rw [(h.2 a b ha hb).2.1]
    by_cases e : a = b
    · rw [if_pos e, if_pos e.symm]
    · rw [if_neg e, if_neg (show ¬ b = a from fun z => e z.symm)]
  | succ m ih =>
    intro a b hm ha hb
    rw [DD_s, DD_s, ih a b (by omega) ha hb, ih a m (by omega) ha (by omega), ih m b (by omega) (by omega) hb]
    omega
theorem DD_am (m a : Nat) : DD l (m + 1) a m = DD l m a m := by rw [DD_s, DD_aa]; omega
theorem DD_mb (m b : Nat) : DD l (m + 1) m b = DD l m m b := by rw [DD_s, DD_aa]; omega
theorem DD_tri : ∀ m o a b, o < m → DD l m a b ≤ DD l m a o + DD l m o b := by
  intro m
  induction m with
  | zero => intro o a b h; omega
  | succ m ih =>
    intro o a b h
    by_cases e : o = m
    · subst e; rw [DD_am, DD_mb, DD_s]; omega
    · have t1 := ih o a b (by omega)
      have t2 := ih o a m (by omega)
      have t3 := ih o m b (by omega)
      rw [DD_s m a b, DD_s m a o, DD_s m o b]
      omega
theorem DD_hop (h : LH l np) : ∀ m a b, m ≤ 8 → a < 8 → b < 8 → a ≠ b → DD l m a b < 9999 → ∃ u, u < 8 ∧ 0 < l a u ∧ l a u + DD l m u b ≤ DD l m a b := by
  intro m
  induction m with
  | zero =>
    intro a b _ ha hb hne hf
    have hf' : d0 l a b < 9999 := hf
    refine ⟨b, hb, ?_, ?_⟩
    · unfold d0 at hf'
      rw [if_neg hne] at hf'
      by_cases z : l a b = 0
      · rw [if_pos z] at hf'; omega
      · omega
    · rw [DD_aa]
      show l a b + 0 ≤ d0 l a b
      unfold d0 at hf' ⊢
      rw [if_neg hne] at hf' ⊢
      by_cases z : l a b = 0
      · rw [if_pos z] at hf'; omega
      · rw [if_neg z]; omega
  | succ m ih =>
    intro a b hm ha hb hne hf
    rw [DD_s] at hf ⊢
    by_cases z : DD l m a b ≤ DD l m a m + DD l m m b
    · obtain ⟨u, hu, h1, h2⟩ := ih a b (by omega) ha hb hne (by omega)
      have := DD_mono (l := l) m u b
      exact ⟨u, hu, h1, by omega⟩
    · have ham : a ≠ m := fun e => by subst e; rw [DD_aa] at z; omega
      obtain ⟨u, hu, h1, h2⟩ := ih a m (by omega) ha (by omega) ham (by omega)
      have := DD_s (l := l) m u b
      exact ⟨u, hu, h1, by omega⟩
theorem DD_out (h : LH l np) : ∀ m a x, m ≤ 8 → a < 8 → x < 8 → np ≤ x → a ≠ x → DD l m a x = 9999 := by
  intro m
  induction m with
  | zero =>
    intro a x _ ha hx hnx hne
    show d0 l a x = 9999
    unfold d0
    rw [if_neg hne, if_pos ((h.2 a x ha hx).2.2 (by omega))]
  | succ m ih =>
    intro a x hm ha hx hnx hne
    rw [DD_s, ih a x (by omega) ha hx hnx hne]
    by_cases e : m = x
    · subst e; rw [ih a m (by omega) ha hx hnx hne]; omega
    · rw [ih m x (by omega) (by omega) hx hnx e]; omega
theorem DD_np (h : LH l np) {a b : Nat} (ha : a < np) (hb : b < np) : ∀ k, np + k ≤ 8 → DD l (np + k) a b = DD l np a b := by
  have hn := h.1
  intro k
  induction k with
  | zero => intro _; rfl
  | succ k ih =>
    intro hk
    have e : DD l (np + (k + 1)) a b = min (DD l (np + k) a b) (DD l (np + k) a (np + k) + DD l (np + k) (np + k) b) := rfl
    rw [e, DD_out h (np + k) a (np + k) (by omega) (by omega) (by omega) (by omega) (by omega), ih (by omega)]
    have := DD_le h np a b (by omega) (by omega)
    omega
theorem DD_8 (h : LH l np) {a b : Nat} (ha : a < np) (hb : b < np) : DD l 8 a b = DD l np a b := by
  have hn := h.1
  have := DD_np h ha hb (8 - np) (by omega)
  rw [show np + (8 - np) = 8 by omega] at this
  exact this
/-- an edge is no shorter than a distance -/
theorem DD_edge (h : LH l np) {a u b : Nat} (ha : a < 8) (hu : u < 8) (hl : 0 < l a u) : DD l 8 a b ≤ l a u + DD l 8 u b := by
  have hne : a ≠ u := fun e => by have := (h.2 a u ha hu).2.2 (Or.inr (Or.inr e)); omega
  have t := DD_tri (l := l) 8 u a b hu
  have m := DD_mono' (l := l) 0 a u 8
  have e0 : DD l 0 a u = l a u := by
    show d0 l a u = l a u
    unfold d0; rw [if_neg hne, if_neg (by omega)]
  rw [Nat.zero_add, e0] at m
  omega
theorem DD_low (h : LH l np) {a g : Nat} (ha : a < np) (hg : g < np) (hne : a ≠ g) (hf : DD l 8 a g < 9999) : ∃ u, u < np ∧ 0 < l a u ∧ l a u + DD l 8 u g = DD l 8 a g ∧ ∀ v, v < u → ¬ (0 < l a v ∧ l a v + DD l 8 v g = DD l 8 a g) := by
  have hn := h.1
  obtain ⟨u, hu, h1, h2⟩ := DD_hop h 8 a g (by decide) (by omega) (by omega) hne hf
  have h3 := DD_edge (b := g) h (show a < 8 by omega) hu h1
  obtain ⟨k, ⟨k1, k2⟩, hk⟩ := pk_least (fun u => 0 < l a u ∧ l a u + DD l 8 u g = DD l 8 a g) ⟨u, h1, by omega⟩
  have hku : k ≤ u := by
    rcases Nat.lt_or_ge u k with z | z
    · exact absurd ⟨h1, by omega⟩ (hk u z)
    · exact z
  refine ⟨k, ?_, k1, k2, hk⟩
  rcases Nat.lt_or_ge k np with z | z
  · exact z
  · have := (h.2 a k (by omega) (by omega)).2.2 (Or.inr (Or.inl z)); omega
theorem DD_bd (h : LH l np) {g : Nat} (hg : g < np) : ∀ D a, a < np → DD l 8 a g ≤ D → DD l 8 a g < 9999 → DD l 8 a g ≤ 9 * cntF (fun v => decide (DD l 8 v g < DD l 8 a g)) np 0 := by
  have hn := h.1
  intro D
  induction D with
  | zero => intro a _ hD _; omega
  | succ D ih =>
    intro a ha hD hf
    by_cases e : a = g
    · subst e; rw [DD_aa]; omega
    · obtain ⟨u, hu, h1, h2, -⟩ := DD_low h ha hg e hf
      have hl9 := (h.2 a u (by omega) (by omega)).1
      have t := ih u hu (by omega) (by omega)
      have c := cntF_lt (p := fun v => decide (DD l 8 v g < DD l 8 u g)) (q := fun v => decide (DD l 8 v g < DD l 8 a g)) np 0 u (by omega) (by omega) (by simp) (by simp; omega) (fun v hv => by simp at hv ⊢; omega)
      omega
theorem DD_100 (h : LH l np) {a g : Nat} (ha : a < np) (hg : g < np) (hf : DD l 8 a g < 9999) : DD l 8 a g ≤ 72 := by
  have hn := h.1
  have t := DD_bd h hg 9999 a ha (by omega) hf
  have c := cntF_le (fun v => decide (DD l 8 v g < DD l 8 a g)) np 0
  omega
end PT
