/-! PURE: next -/
def hopN (C : Mem) (g x : Nat) : Nat := (cHop C (nI x) (nI g)).toNatClampNeg
def pth (C : Mem) (g : Nat) : Nat → Nat → Int32
  | 0, x => nI x
  | n + 1, x => if x = g then -4 else pth C g n (hopN C g x)
theorem cntF_lt {p q : Nat → Bool} : ∀ m i j, i ≤ j → j < i + m → p j = false → q j = true → (∀ v, p v = true → q v = true) → cntF p m i + 1 ≤ cntF q m i := by
  intro m
  have mono : ∀ m i, (∀ v, p v = true → q v = true) → cntF p m i ≤ cntF q m i := by
    intro m
    induction m with
    | zero => intro i _; exact Nat.le_refl _
    | succ m ih =>
      intro i h
      unfold cntF
      have := ih (i + 1) h
      by_cases z : p i = true
      · rw [if_pos z, if_pos (h i z)]; omega
      · rw [if_neg z]; omega
  induction m with
  | zero => intro i j h1 h2; omega
  | succ m ih =>
    intro i j h1 h2 hp hq h
    unfold cntF
    by_cases e : j = i
    · subst e
      have := mono m (j + 1) h
      rw [hp, hq, if_neg (by decide), if_pos rfl]; omega
    · have := ih (i + 1) j (by omega) (by omega) hp hq h
      by_cases z : p i = true
      · rw [if_pos z, if_pos (h i z)]; omega
      · rw [if_neg z]; omega
theorem cntF_none {p : Nat → Bool} : ∀ m i j, i ≤ j → j < i + m → p j = false → cntF p m i + 1 ≤ m := by
  intro m i j h1 h2 hp
  have h := cntF_lt (p := p) (q := fun _ => true) m i j h1 h2 hp rfl (fun _ _ => rfl)
  have := cntF_le (fun _ => true) m i
  omega
section NX
variable {C M : Mem} {np nd nb fu b : Nat} {ln ds : Nat → Nat → Nat}
theorem hop_ok (hR : RC C M np nd nb ln ds) {a g : Nat} (ha : a < np) (hg : g < np) (hne : a ≠ g) (hfin : ds a g < 9999) : hopN C g a < np ∧ cHop C (nI a) (nI g) = nI (hopN C g a) ∧ ds (hopN C g a) g < ds a g := by
  have hn := hR.1
  obtain ⟨u, hu, h8, hl, he, -⟩ := hR.2.2.2.2.1 a g ha hg hne hfin
  have e : cHop C (nI a) (nI g) = nI u := by unfold cHop; rw [ix8', rat_nI (by omega) (by decide), h8]
  have e2 : hopN C g a = u := by unfold hopN; rw [e, nI_clamp (by omega)]
  rw [e2]
  exact ⟨hu, e, by omega⟩
theorem pth_end (hR : RC C M np nd nb ln ds) {g : Nat} (hg : g < np) : ∀ n x, x < np → ds x g < 9999 → pth C g n x = -4 ∨ n ≤ cntF (fun v => decide (ds v g < ds x g)) np 0 := by
  intro n
  induction n with
  | zero => intro x _ _; exact Or.inr (Nat.zero_le _)
  | succ n ih =>
    intro x hx hfin
    unfold pth
    by_cases e : x = g
    · rw [if_pos e]; exact Or.inl rfl
    · rw [if_neg e]
      obtain ⟨h1, h2, h3⟩ := hop_ok hR hx hg e hfin
      rcases ih _ h1 (by omega) with h | h
      · exact Or.inl h
      · refine Or.inr (Nat.le_trans (Nat.add_le_add_right h 1) ?_)
        exact cntF_lt (p := fun v => decide (ds v g < ds (hopN C g x) g)) (q := fun v => decide (ds v g < ds x g)) np 0 (hopN C g x) (by omega) (by omega) (by simp) (by simp [h3]) (fun v hv => by simp at hv ⊢; omega)
theorem pth_8 (hR : RC C M np nd nb ln ds) {g x n : Nat} (hg : g < np) (hx : x < np) (hfin : ds x g < 9999) (h8 : 8 ≤ n) : pth C g n x = -4 := by
  have hn := hR.1
  rcases pth_end hR hg n x hx hfin with h | h
  · exact h
  · have := cntF_none (p := fun v => decide (ds v g < ds x g)) np 0 x (by omega) (by omega) (by simp)
    omega
theorem m_next91 (hR : RC C M np nd nb ln ds) {g : Nat} (hg : g < np) (hf : 1000 < fu) : ∀ D x n t, x < np → ds x g < 9999 → ds x g ≤ D → D < t → n < 2 ^ 31 → pX10_next_91 fu t (nI x) (nI g) (nI n) M = some (pth C g (n + 1) x, M) := by
  have hn := hR.1
  intro D
  induction D with
  | zero =>
    intro x n t hx hfin hD ht hn31
    obtain ⟨t, rfl⟩ : ∃ q, t = q + 1 := ⟨t - 1, by omega⟩
    show pX10_next_91b fu (nI x) (nI g) (nI n) M _ = _
    unfold pX10_next_91b pth
    by_cases e : x = g
    · rw [if_pos (by rw [e]), if_pos e]
    · obtain ⟨h1, h2, h3⟩ := hop_ok hR hx hg e hfin
      omega
  | succ D ih =>
    intro x n t hx hfin hD ht hn31
    obtain ⟨t, rfl⟩ : ∃ q, t = q + 1 := ⟨t - 1, by omega⟩
    show pX10_next_91b fu (nI x) (nI g) (nI n) M _ = _
    unfold pX10_next_91b pth
    by_cases e : x = g
    · rw [if_pos (by rw [e]), if_pos e]
    · rw [if_neg (fun q => e ((nI_eq_iff (by omega) (by omega)).mp q)), if_neg e]
      obtain ⟨h1, h2, h3⟩ := hop_ok hR hx hg e hfin
      obtain ⟨u, hu, -, -, he, e1⟩ := m_next (fu := fu) hR hx hg e hfin (by omega)
      have hu' : hopN C g x = u := by unfold hopN; rw [he, nI_clamp (by omega)]
      rw [e1, bI_some, ← hu']
      by_cases h0 : n = 0
      · subst h0; rw [if_pos (show nI 0 = 0 from rfl)]; rfl
      · obtain ⟨n, rfl⟩ : ∃ q, n = q + 1 := ⟨n - 1, by omega⟩
        rw [if_neg (fun q => by have := (nI_eq_iff (b := 0) hn31 (by decide)).mp q; omega), pk_m1, ih _ n t h1 (by omega) (by omega) (by omega) (by omega)]
theorem x_pa4 {A : Mem} (g i k : Int32) {t : Nat} (ht : 0 < t) : pX4_placeAhead_57 fu 27 t k g (-4) i A = some (-4, A) := by
  obtain ⟨t, rfl⟩ : ∃ q, t = q + 1 := ⟨t - 1, by omega⟩
  show pX4_placeAhead_57b fu 27 k g (-4) i A _ = _
  unfold pX4_placeAhead_57b
  split
  · rfl
  · split
    · rfl
    · rw [if_pos rfl]
theorem x_pa57 {A : Mem} (hA : CC C A) (hR : RC C M np nd nb ln ds) {g k : Nat} (hg : g < np) (hk : k < 2 ^ 31) : ∀ m i x t, x < np → ds x g < 9999 → i + m = min k 8 → m + 1 < t → pX4_placeAhead_57 fu 27 t (nI k) (nI g) (nI x) (nI i) A = some (pth C g m x, A) := by
  have hn := hR.1
  intro m
  induction m with
  | zero =>
    intro i x t hx hfin hi ht
    obtain ⟨t, rfl⟩ : ∃ q, t = q + 1 := ⟨t - 1, by omega⟩
    show pX4_placeAhead_57b fu 27 (nI k) (nI g) (nI x) (nI i) A _ = _
    unfold pX4_placeAhead_57b pth
    by_cases h : k ≤ i
    · rw [if_pos ((nI_le_iff hk (by omega)).mpr h)]
    · rw [if_neg (fun q => h ((nI_le_iff hk (by omega)).mp q)), if_pos (show (8 : Int32) ≤ nI i from (nI_le_iff (a := 8) (by decide) (by omega)).mpr (by omega))]
  | succ m ih =>
    intro i x t hx hfin hi ht
    obtain ⟨t, rfl⟩ : ∃ q, t = q + 1 := ⟨t - 1, by omega⟩
    show pX4_placeAhead_57b fu 27 (nI k) (nI g) (nI x) (nI i) A _ = _
    unfold pX4_placeAhead_57b pth
    rw [if_neg (fun q => by have := (nI_le_iff hk (by omega)).mp q; omega), if_neg (fun q => by have := (nI_le_iff (a := 8) (by decide) (by omega)).mp q; omega), if_neg (nI_ne4 (by omega))]
    unfold pX4_placeAhead_98
    by_cases e : x = g
    · rw [if_pos (by rw [e]), if_pos e, x_pa4 _ _ _ (by omega)]
    · rw [if_neg (fun q => e ((nI_eq_iff (by omega) (by omega)).mp q)), if_neg e]
      obtain ⟨h1, h2, h3⟩ := hop_ok hR hx hg e hfin
      rw [x_hop hA, bI_some, h2, nI_1]
      exact ih (i + 1) _ t h1 (by omega) (by omega) (by omega)
theorem pth_min (hR : RC C M np nd nb ln ds) {g x k : Nat} (hg : g < np) (hx : x < np) (hfin : ds x g < 9999) : pth C g (min k 8) x = pth C g k x := by
  by_cases h : k ≤ 8
  · rw [Nat.min_eq_left h]
  · rw [Nat.min_eq_right (by omega), pth_8 hR hg hx hfin (by omega), pth_8 hR hg hx hfin (by omega)]
end NX
theorem a_next {A B : Mem} {fu : Nat} (h : REL A B) (hf : 1000 < fu) (x y : Int32) : AGREE (pX9_next fu x y A) (pX10_next fu x y B) := by
  have h' := h
  obtain ⟨np, nd, nb, ln, ds, hR, hN, -⟩ := h'
  have hn := hR.1
  have hCC := CC_rf A
  unfold pX9_next pX10_next
  rw [x_hasB hCC hR, m_isBeast hR, bI_some, bI_some]
  by_cases hx : inR x nb
  · rw [if_pos hx, if_neg one_ne, if_neg one_ne]
    by_cases hy : 0 ≤ y
    · rw [if_pos hy, if_pos hy]
      obtain ⟨b, hb, rfl⟩ := of_inR hx (by omega)
      obtain ⟨k, hk, rfl⟩ : ∃ k, k < 2 ^ 31 ∧ y = nI k := nI_of (fun q => by rw [i_lt] at q; rw [i_le] at hy; omega)
      have e1 := slot0 hN.1 hb 1 (by decide) (by decide)
      rw [show off 1 + b = b from by simp [off]] at e1
      have e2 := slot0 hN.1 hb 2 (by decide) (by decide)
      rw [show off 2 + b = 5 + b from by simp [off]] at e2
      have e3 := slot0 hN.1 hb 3 (by decide) (by decide)
      rw [show off 3 + b = 10 + b from by simp [off]] at e3
      rw [x_isUnderWay (by omega), bI_some, ld_nI (by omega) (by decide), ld_nI (by omega) (by decide), e1]
      have hgo : (A 28 (11 * b + 1) = 1 ∨ A 28 (11 * b + 1) = 3) → AGREE (bI (pX4_placeAhead fu 27 (nI b) (nI k) A) fun r6 M5 => some (r6, M5)) (pX10_next_37 fu (nI b) (nI k) B) := by
        intro hU
        have hBV := hN.2.1 b hb
        have hUW : bUW A np nd ds (A 28) b := by
          rcases hBV with z | z | z
          · have := z.1; rw [this] at hU; exact absurd hU (by decide)
          · have := z.1; rw [this] at hU; exact absurd hU (by decide)
          · exact z
        obtain ⟨hG, g, a, hg, ha, hg0, h10, h2, hpl⟩ := hUW
        have e5 : pX10_goal fu 0 (nI b) B = some (A 28 (11 * b + 10), B) := m_goal (base := 0) hR (by decide) hb hN.1 hG
        unfold pX4_placeAhead pX10_next_37
        rw [x_get10 (by omega), bI_some, x_get3 (by omega), bI_some, show (5 : Int32) + nI b = nI (5 + b) from nI_add 5 b, ld_nI (by omega) (by decide), e2, e5, bI_some, show (10 : Int32) + nI b = nI (10 + b) from nI_add 10 b, ld_nI (by omega) (by decide), ld_nI (by omega) (by decide), e3, h10, h2]
        unfold pX4_placeAhead_52 pX4_placeAhead_54
        rcases hpl with ⟨h3, hfin, -⟩ | ⟨t, l, ht, h3, hfin, -⟩
        · rw [h3, if_pos rfl, if_pos rfl, x_get2 (by omega), bI_some, h2]
          rw [m_next91 hR hg hf 100 a k fu ha hfin (by have := (hR.2.2.2.1 a g ha hg).2.2.1 hfin; omega) (by omega) hk]
          unfold pth
          by_cases e : a = g
          · rw [if_pos (by rw [e]), if_pos e, x_pa4 _ _ _ (by omega), bI_some]; exact AG_s h
          · obtain ⟨q1, q2, q3⟩ := hop_ok hR ha hg e hfin
            have e6 := x_pa57 (fu := fu) hCC hR hg hk (min k 8) 0 (hopN A g a) fu q1 (by omega) (by omega) (by omega)
            have e6' : pX4_placeAhead_57 fu 27 fu (nI k) (nI g) (nI (hopN A g a)) 0 A = _ := e6
            rw [if_neg (fun q => e ((nI_eq_iff (by omega) (by omega)).mp q)), if_neg e, x_get2 (by omega), bI_some, h2, x_hop hCC, bI_some, q2, e6', bI_some, pth_min hR hg q1 (by omega)]
            exact AG_s h
        · rw [h3, if_neg (nI_ne4 (by omega)), if_neg (nI_ne4 (by omega))]
          have e6 := x_pa57 (fu := fu) hCC hR hg hk (min k 8) 0 t fu ht hfin (by omega) (by omega)
          have e6' : pX4_placeAhead_57 fu 27 fu (nI k) (nI g) (nI t) 0 A = _ := e6
          rw [e6', bI_some, pth_min hR hg ht hfin]
          by_cases h0 : k = 0
          · subst h0; rw [if_pos (show nI 0 = 0 from rfl)]; exact AG_s h
          · obtain ⟨k, rfl⟩ : ∃ q, k = q + 1 := ⟨k - 1, by omega⟩
            rw [if_neg (fun q => by have := (nI_eq_iff (b := 0) hk (by decide)).mp q; omega), pk_m1, m_next91 hR hg hf 100 t k fu ht hfin (by have := (hR.2.2.2.1 t g ht hg).2.2.1 hfin; omega) (by omega) (by omega)]
            exact AG_s h
      by_cases q1 : A 28 (11 * b + 1) = 1
      · rw [if_pos (Or.inl q1), if_neg one_ne, if_pos q1]; exact hgo (Or.inl q1)
      · by_cases q3 : A 28 (11 * b + 1) = 3
        · rw [if_pos (Or.inr q3), if_neg one_ne, if_neg q1, if_pos q3]; exact hgo (Or.inr q3)
        · rw [if_neg (show ¬ (A (27 + 1) (11 * b + 1) = 1 ∨ A (27 + 1) (11 * b + 1) = 3) from fun z => z.elim q1 q3), if_pos rfl, if_neg q1, if_neg q3]; exact AG_s h
    · rw [if_neg hy, if_neg hy]; exact AG_s h
  · rw [if_neg hx, if_pos rfl, if_pos rfl]; exact AG_s h
