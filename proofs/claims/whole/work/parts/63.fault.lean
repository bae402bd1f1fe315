/-! PURE: item by item, the class beside the reference -/
def WW (k : Nat) (c : Nat → Nat) (n p v w u q : Nat) : Prop := match k with
  | 1 => W1 c n p v q ∧ w = 0 ∧ u = 0
  | 2 => W2 c n p v w q ∧ u = 0
  | _ => W3 c n p v w u q
theorem W1_f {c : Nat → Nat} {n p v q v' q' : Nat} (h : W1 c n p v q) (h' : W1 c n p v' q') : v = v' ∧ q = q' := by
  unfold W1 at *
  rw [h] at h'; cases h'; exact ⟨rfl, rfl⟩
theorem WW_f {k : Nat} {c : Nat → Nat} {n p v w u q v' w' u' q' : Nat} (h : WW k c n p v w u q) (h' : WW k c n p v' w' u' q') : v = v' ∧ w = w' ∧ u = u' ∧ q = q' := by
  match k, h, h' with
  | 1, h, h' =>
    obtain ⟨a, rfl, rfl⟩ := h
    obtain ⟨b, rfl, rfl⟩ := h'
    obtain ⟨rfl, rfl⟩ := W1_f a b
    exact ⟨rfl, rfl, rfl, rfl⟩
  | 2, h, h' =>
    obtain ⟨a, rfl⟩ := h
    obtain ⟨b, rfl⟩ := h'
    obtain ⟨rfl, rfl, rfl⟩ := W2_f a b
    exact ⟨rfl, rfl, rfl, rfl⟩
  | 0, h, h' => exact W3_f h h'
  | k + 3, h, h' => exact W3_f h h'
theorem W12_x {c : Nat → Nat} {n p v q v' w' q' : Nat} (h : W1 c n p v q) (h9 : chr c n q = 59) (h' : W2 c n p v' w' q') : False := by
  obtain ⟨q1, e1, e2, -⟩ := h'
  unfold W1 at h
  rw [h] at e1; cases e1
  rw [h9] at e2; exact absurd e2 (by decide)
theorem W23_x {c : Nat → Nat} {n p v w q v' w' u' q' : Nat} (h : W2 c n p v w q) (h9 : chr c n q = 59) (h' : W3 c n p v' w' u' q') : False := by
  obtain ⟨q2, e1, e2, -⟩ := h'
  obtain ⟨rfl, rfl, rfl⟩ := W2_f h e1
  rw [h9] at e2; exact absurd e2 (by decide)
theorem W13_x {c : Nat → Nat} {n p v q v' w' u' q' : Nat} (h : W1 c n p v q) (h9 : chr c n q = 59) (h' : W3 c n p v' w' u' q') : False := by
  obtain ⟨q2, e1, -⟩ := h'
  exact W12_x h h9 e1
theorem W2_b {c : Nat → Nat} {n p v w q : Nat} (h : W2 c n p v w q) : v ≤ 99 ∧ w ≤ 99 := by
  obtain ⟨q1, e1, -, e2⟩ := h
  exact ⟨(num_b e1).1, (num_b e2).1⟩
theorem W3_b {c : Nat → Nat} {n p v w u q : Nat} (h : W3 c n p v w u q) : v ≤ 99 ∧ w ≤ 99 ∧ u ≤ 99 := by
  obtain ⟨q2, e1, -, e2⟩ := h
  exact ⟨(W2_b e1).1, (W2_b e1).2, (num_b e2).1⟩
section CL
variable {A B : Mem} {n fu s i np nd nb k0 L k : Nat} {c : Nat → Nat} {l : Nat → Nat → Nat}
/-- how an item is taken: k numbers, P, then X -/
def TKF (fu k0 L k : Nat) (A : Mem) (P : Nat → Nat → Nat → Prop) (X : Mem → Nat → Nat → Nat → Mem) : Prop := ∀ A1, eqX A A1 → (A1 3 1 ≠ nI k → pX7_take fu k0 (nI L) A1 = some (0, A1)) ∧ (A1 3 1 = nI k → ∀ v w u, v ≤ 99 → w ≤ 99 → u ≤ 99 → A1 4 0 = nI v → (2 ≤ k → A1 4 1 = nI w) → (3 ≤ k → A1 4 2 = nI u) → (P v w u ∧ pX7_take fu k0 (nI L) A1 = some (1, X A1 v w u)) ∨ (¬ P v w u ∧ pX7_take fu k0 (nI L) A1 = some (0, A1)))
theorem cls (hT : TX A n c) (hs : s ≤ 200) (hf : 1000 < fu) (hk : k = 1 ∨ k = 2 ∨ k = 3) {P : Nat → Nat → Nat → Prop} {X : Mem → Nat → Nat → Nat → Mem} (hTk : TKF fu k0 L k A P X) (f : Int32) (K : Int32 → Int32 → Int32 → Mem → Res) : (∃ v w u q A1, WW k c n (s + 1) v w u q ∧ chr c n q = 59 ∧ P v w u ∧ eqX A A1 ∧ A1 3 2 = nI (q + 1) ∧ q < n ∧ s < q ∧ pX7_firstFault_65 fu k0 f (nI s) (nI i) (nI L) A K = K f (X A1 v w u 3 2) (nI (i + 1)) (X A1 v w u)) ∨ (∃ A2, pX7_firstFault_65 fu k0 f (nI s) (nI i) (nI L) A K = some (nI s, A2) ∧ eqX A A2 ∧ ∀ v w u q, WW k c n (s + 1) v w u q → chr c n q = 59 → ¬ P v w u) := by
  obtain ⟨r, A1, e1, e2, e3⟩ := x_split (fu := fu) hT hs hf
  unfold pX7_firstFault_65
  rw [e1, bI_some, nI_1]
  obtain ⟨t1, t2⟩ := hTk A1 e2
  rcases e3 with ⟨rfl, a1, a2, a3⟩ | ⟨rfl, q, hq, hpq, g2, g59, hcase⟩
  · rw [if_pos rfl]
    refine Or.inr ⟨A1, rfl, e2, fun v w u q h h9 _ => ?_⟩
    unfold WW at h
    split at h
    · exact a1 _ _ h.1 h9
    · exact a2 _ _ _ h.1 h9
    · exact a3 _ _ _ _ h h9
  · rw [if_neg one_ne]
    have fail : A1 3 1 ≠ nI k → (∀ v w u q, WW k c n (s + 1) v w u q → chr c n q = 59 → ¬ P v w u) → (∃ v w u q A1', WW k c n (s + 1) v w u q ∧ chr c n q = 59 ∧ P v w u ∧ eqX A A1' ∧ A1' 3 2 = nI (q + 1) ∧ q < n ∧ s < q ∧ (bI (pX7_take fu k0 (nI L) A1) fun r9 M8 => if r9 = 0 then some (nI s, M8) else K f (M8 3 2) (nI (i + 1)) M8) = K f (X A1' v w u 3 2) (nI (i + 1)) (X A1' v w u)) ∨ (∃ A2, (bI (pX7_take fu k0 (nI L) A1) fun r9 M8 => if r9 = 0 then some (nI s, M8) else K f (M8 3 2) (nI (i + 1)) M8) = some (nI s, A2) ∧ eqX A A2 ∧ ∀ v w u q, WW k c n (s + 1) v w u q → chr c n q = 59 → ¬ P v w u) := fun h1 h2 => by
      rw [t1 h1, bI_some, if_pos rfl]
      exact Or.inr ⟨A1, rfl, e2, h2⟩
    have good : ∀ v w u, v ≤ 99 → w ≤ 99 → u ≤ 99 → WW k c n (s + 1) v w u q → A1 3 1 = nI k → A1 4 0 = nI v → (2 ≤ k → A1 4 1 = nI w) → (3 ≤ k → A1 4 2 = nI u) → (∃ v w u q A1', WW k c n (s + 1) v w u q ∧ chr c n q = 59 ∧ P v w u ∧ eqX A A1' ∧ A1' 3 2 = nI (q + 1) ∧ q < n ∧ s < q ∧ (bI (pX7_take fu k0 (nI L) A1) fun r9 M8 => if r9 = 0 then some (nI s, M8) else K f (M8 3 2) (nI (i + 1)) M8) = K f (X A1' v w u 3 2) (nI (i + 1)) (X A1' v w u)) ∨ (∃ A2, (bI (pX7_take fu k0 (nI L) A1) fun r9 M8 => if r9 = 0 then some (nI s, M8) else K f (M8 3 2) (nI (i + 1)) M8) = some (nI s, A2) ∧ eqX A A2 ∧ ∀ v w u q, WW k c n (s + 1) v w u q → chr c n q = 59 → ¬ P v w u) := fun v w u b1 b2 b3 hW h1 h2 h3 h4 => by
      rcases t2 h1 v w u b1 b2 b3 h2 h3 h4 with ⟨hP, e⟩ | ⟨hP, e⟩
      · rw [e, bI_some, if_neg one_ne]
        exact Or.inl ⟨v, w, u, q, A1, hW, g59, hP, e2, g2, hq, by omega, rfl⟩
      · rw [e, bI_some, if_pos rfl]
        refine Or.inr ⟨A1, rfl, e2, fun v' w' u' q' h' _ => ?_⟩
        obtain ⟨rfl, rfl, rfl, rfl⟩ := WW_f hW h'
        exact hP
    rcases hk with rfl | rfl | rfl
    · rcases hcase with ⟨v, hW, h1, h2⟩ | ⟨v, w, hW, h1, h2, h3⟩ | ⟨v, w, u, hW, h1, h2, h3, h4⟩
      · exact good v 0 0 (num_b hW).1 (by decide) (by decide) ⟨hW, rfl, rfl⟩ h1 h2 (fun z => absurd z (by decide)) (fun z => absurd z (by decide))
      · exact fail (by rw [h1]; decide) (fun v' w' u' q' h' h9 _ => W12_x h'.1 h9 hW)
      · exact fail (by rw [h1]; decide) (fun v' w' u' q' h' h9 _ => W13_x h'.1 h9 hW)
    · rcases hcase with ⟨v, hW, h1, h2⟩ | ⟨v, w, hW, h1, h2, h3⟩ | ⟨v, w, u, hW, h1, h2, h3, h4⟩
      · exact fail (by rw [h1]; decide) (fun v' w' u' q' h' _ _ => W12_x hW g59 h'.1)
      · exact good v w 0 (W2_b hW).1 (W2_b hW).2 (by decide) ⟨hW, rfl⟩ h1 h2 (fun _ => h3) (fun z => absurd z (by decide))
      · exact fail (by rw [h1]; decide) (fun v' w' u' q' h' h9 _ => W23_x h'.1 h9 hW)
    · rcases hcase with ⟨v, hW, h1, h2⟩ | ⟨v, w, hW, h1, h2, h3⟩ | ⟨v, w, u, hW, h1, h2, h3, h4⟩
      · exact fail (by rw [h1]; decide) (fun v' w' u' q' h' _ _ => W13_x hW g59 h')
      · exact fail (by rw [h1]; decide) (fun v' w' u' q' h' _ _ => W23_x hW g59 h')
      · exact good v w u (W3_b hW).1 (W3_b hW).2.1 (W3_b hW).2.2 hW h1 h2 (fun _ => h3) (fun _ => h4)
/-- as an item begins in the reference -/
def B1s (B : Mem) (s : Nat) : Mem := s24 (upR B 0 (upd (B 0) 25 (nI s))) (s + 1)
theorem B1s_24 (B : Mem) (s : Nat) : B1s B s 0 24 = nI (s + 1) := s24_24 _ _
theorem B1s_o (B : Mem) (s : Nat) {j : Nat} (h1 : j ≠ 24) (h2 : j ≠ 25) : B1s B s 0 j = B 0 j := by
  unfold B1s s24; rw [upR_at, upd_ne h1, upR_at, upd_ne h2]
theorem B1s_k (B : Mem) (s : Nat) {k : Nat} (h : k ≠ 0) : B1s B s k = B k := by
  unfold B1s s24; rw [upR_ne h, upR_ne h]
theorem B1s_25 (B : Mem) (s : Nat) : B1s B s 0 25 = nI s := by
  unfold B1s s24; rw [upR_at, upd_ne (by decide), upR_at, upd_at]
theorem B1s_pB (B : Mem) (s : Nat) : pB B (B1s B s) := ⟨fun k h _ => B1s_k B s (by omega), B1s_k B s (by decide), fun j hj => B1s_o B s (by omega) (by omega), fun j _ => by rw [B1s_k B s (by decide)]⟩
theorem B1s_TM (h : TM B n c) : TM (B1s B s) n c := by
  unfold TM at *
  rw [B1s_o B s (by decide) (by decide), B1s_k B s (by decide)]; exact h
theorem B1s_DC (h : DC A B k0 np nd nb l) : DC A (B1s B s) k0 np nd nb l := by
  unfold DC at *
  rw [B1s_o B s (by decide) (by decide), B1s_o B s (by decide) (by decide), B1s_o B s (by decide) (by decide), B1s_o B s (by decide) (by decide), B1s_k B s (by decide), B1s_k B s (by decide), B1s_k B s (by decide), B1s_k B s (by decide), B1s_k B s (by decide), B1s_k B s (by decide)]
  exact h
theorem m_step {x r : Int32} {B2 : Mem} {p2 : Nat} (hT : TM B n c) (hn : n ≤ 200) (hc : ∀ j, j < n → c j ≤ 126) (hs : s < n) (h24 : B 0 24 = nI s) (h26 : B 0 26 = 0) (hi : pX10_item fu (nI (c s)) x (B1s B s) = some (r, B2)) (h2 : B2 0 24 = nI p2) (hp2 : p2 < 2 ^ 19) (hT2 : TM B2 n c) (K2 : Int32 → Mem → Res) (Ke : Mem → Res) : pX10_reads_16b fu x B K2 Ke = if B2 0 26 = 0 ∧ chr c n p2 = 59 then K2 (if r = 0 then 0 else if x = 0 then 0 else 1) (s24 (s26 B2 0) (p2 + 1)) else K2 (if r = 0 then 0 else if x = 0 then 0 else 1) (s24 (s26 B2 1) (p2 + 1)) := by
  unfold pX10_reads_16b fpt
  rw [hT.1, h24, if_neg (fun z => by have := (nI_le_iff (by omega) (by omega)).mp z; omega), if_pos h26]
  dsimp only
  have eB : up2 B 0 25 (nI s) = upR B 0 (upd (B 0) 25 (nI s)) := up2_eq _ _ _ _
  have hT' : TM (upR B 0 (upd (B 0) 25 (nI s))) n c := by
    unfold TM at *
    rw [upR_at, upd_ne (by decide), upR_ne (by decide)]; exact hT
  have h24' : upR B 0 (upd (B 0) 25 (nI s)) 0 24 = nI s := by rw [upR_at, upd_ne (by decide)]; exact h24
  have eC : up2 (upR B 0 (upd (B 0) 25 (nI s))) 0 24 (nI (s + 1)) = B1s B s := up2_eq _ _ _ _
  rw [eB, m_byte hT' hn h24' (by omega), bI_some, if_pos hs, h24', nI_1, eC, hi, bI_some]
  have e98 : ∀ f w, (w = 0 ∨ w = 1) → pX10_reads_98 fu f w B2 K2 = K2 f (s24 (s26 B2 w) (p2 + 1)) := fun f w hw => by
    unfold pX10_reads_98 fpz fpt
    rw [if_pos hw]
    dsimp only
    rw [up_026, s26_24, h2, nI_1]
    exact congrArg (K2 f) (up2_eq _ _ _ _)
  have e75 : ∀ f, pX10_reads_75 fu f B2 K2 = if B2 0 26 = 0 ∧ chr c n p2 = 59 then K2 f (s24 (s26 B2 0) (p2 + 1)) else K2 f (s24 (s26 B2 1) (p2 + 1)) := fun f => by
    unfold pX10_reads_75 pX10_reads_93
    rw [e98 f 1 (Or.inr rfl)]
    by_cases q : B2 0 26 = 0
    · rw [if_pos q, m_byte hT2 hn h2 (by omega), bI_some, e98 f 0 (Or.inl rfl)]
      by_cases q2 : chr c n p2 = 59
      · have hp := chr_lt (c := c) (n := n) (q := p2) (by rw [q2]; decide)
        have hcp : c p2 = 59 := by unfold chr at q2; rw [if_pos hp] at q2; exact q2
        rw [if_pos hp, if_pos (show nI (c p2) = (59 : Int32) by rw [hcp]; rfl), if_pos ⟨q, q2⟩]
      · have hne : ¬ (if p2 < n then nI (c p2) else (-1 : Int32)) = 59 := by
          by_cases z : p2 < n
          · have hcz := hc p2 z
            rw [if_pos z]
            exact fun y => q2 (by unfold chr; rw [if_pos z]; exact (nI_eq_iff (b := 59) (by omega) (by decide)).mp y)
          · rw [if_neg z]; decide
        rw [if_neg hne, if_neg (fun z => q2 z.2), e98 f 1 (Or.inr rfl)]
    · rw [if_neg q, if_neg (fun z => q z.1)]
  unfold pX10_reads_74
  rw [e75, e75]
  by_cases q : r = 0
  · rw [if_pos q, if_pos q]
  · rw [if_neg q, if_neg q]
    by_cases q2 : x = 0
    · rw [if_pos q2, if_pos q2]
    · rw [if_neg q2, if_neg q2]
end CL
