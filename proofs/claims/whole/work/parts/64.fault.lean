/-! PURE: the whole text; fault -/
def FX (k0 : Nat) (A A' : Mem) : Prop := ∀ k, k ≠ 3 → k ≠ 4 → (k < k0 ∨ k0 + 10 < k) → A' k = A k
theorem FX_tr {k0 : Nat} {A A1 A2 : Mem} (h1 : FX k0 A A1) (h2 : FX k0 A1 A2) : FX k0 A A2 := fun k a b d => (h2 k a b d).trans (h1 k a b d)
theorem FX_eq {k0 : Nat} {A A' : Mem} (h : eqX A A') : FX k0 A A' := fun k a b _ => h k a b
theorem TX_FX {k0 n : Nat} {c : Nat → Nat} {A A' : Mem} (hk : 5 ≤ k0) (h : TX A n c) (he : FX k0 A A') : TX A' n c := by
  unfold TX at *
  rw [he 1 (by decide) (by decide) (by omega), he 2 (by decide) (by decide) (by omega)]; exact h
theorem TM_pB {n : Nat} {c : Nat → Nat} {B B' : Mem} (h : TM B n c) (he : pB B B') : TM B' n c := by
  unfold TM at *
  rw [he.2.2.1 22 (by omega), he.2.1]; exact h
section LK
variable {A B : Mem} {n fu s i np nd nb k0 L k : Nat} {c : Nat → Nat} {l : Nat → Nat → Nat}
def STEPo (A B : Mem) (n s i k0 : Nat) (f : Int32) (R RM : Res) (K : Int32 → Int32 → Int32 → Mem → Res) (K2 : Int32 → Mem → Res) : Prop :=
  (∃ q A' B3 np' nd' nb' l', R = K f (nI (q + 1)) (nI (i + 1)) A' ∧ RM = K2 f B3 ∧ s < q ∧ q < n ∧ B3 0 24 = nI (q + 1) ∧ B3 0 26 = 0 ∧ DC A' B3 k0 np' nd' nb' l' ∧ (f = 1 → (∀ a b, l' a b = 0) ∧ nd' = 0) ∧ FX k0 A A' ∧ pB B B3) ∨
  (∃ A' B3 f'', R = some (nI s, A') ∧ RM = K2 f'' B3 ∧ B3 0 26 = 1 ∧ B3 0 25 = nI s ∧ FX k0 A A' ∧ pB B B3)
theorem step_ok (hk0 : 5 ≤ k0) (hT : TX A n c) (hTM : TM B n c) (hs : s < n) (h24 : B 0 24 = nI s) (h26 : B 0 26 = 0) (hf : 1000 < fu) (hk : k = 1 ∨ k = 2 ∨ k = 3) {P : Nat → Nat → Nat → Prop} {X : Mem → Nat → Nat → Nat → Mem} {U : Nat → Nat → Nat → Mem} {x r f : Int32} (hfr : f = if r = 0 then 0 else if x = 0 then 0 else 1) (hTk : TKF fu k0 (c s) k A P X) (hX : ∀ A1 v w u, P v w u → X A1 v w u 3 = A1 3 ∧ FX k0 A1 (X A1 v w u)) (hU : ∀ v w u, P v w u → mB (B1s B s) (U v w u)) (hDC : ∀ A1 v w u, eqX A A1 → P v w u → ∃ np' nd' nb' l', DC (X A1 v w u) (U v w u) k0 np' nd' nb' l' ∧ (f = 1 → (∀ a b, l' a b = 0) ∧ nd' = 0)) (hI : ∃ B', pX10_item fu (nI (c s)) x (B1s B s) = some (r, B') ∧ ((∃ v w u q, WW k c n (s + 1) v w u q ∧ P v w u ∧ OKI (U v w u) B' q) ∨ ((∀ v w u q, WW k c n (s + 1) v w u q → ¬ P v w u) ∧ BADI (B1s B s) B' (s + 1)))) (K : Int32 → Int32 → Int32 → Mem → Res) (K2 : Int32 → Mem → Res) (Ke : Mem → Res) : STEPo A B n s i k0 f (pX7_firstFault_65 fu k0 f (nI s) (nI i) (nI (c s)) A K) (pX10_reads_16b fu x B K2 Ke) K K2 := by
  have hn := hT.2.1
  have hc : ∀ j, j < n → c j ≤ 126 := fun j hj => (hT.2.2 j hj).2.1
  obtain ⟨B', hi, hcase⟩ := hI
  have hcl := cls (i := i) hT (show s ≤ 200 by omega) hf hk hTk f K
  have fin : ∀ p2 w, pB (B1s B s) B' → B' 0 25 = nI s → B' 0 24 = nI p2 → pB B (s24 (s26 B' w) (p2 + 1)) ∧ s24 (s26 B' w) (p2 + 1) 0 25 = nI s := fun p2 w h1 h2 h3 => by
    have e := eqP_tr (eqP_26 B' w) (eqP_24 (s26 B' w) (p2 + 1))
    exact ⟨pB_tr (B1s_pB B s) (pB_tr h1 (eqP_mB e).1), ((eqP_mB e).2).trans h2⟩
  rcases hcase with ⟨v, w, u, q, hW, hP, g24, g26, gE⟩ | ⟨hno, g26, gB, p', hp', g24⟩
  · have hmB := hU v w u hP
    have hpB : pB (B1s B s) B' := pB_tr hmB.1 (eqP_mB gE).1
    have h25 : B' 0 25 = nI s := ((eqP_mB gE).2.trans hmB.2).trans (B1s_25 B s)
    have hqn : q < 2 ^ 19 := by
      unfold WW at hW
      split at hW
      · have := num_b hW.1; omega
      · obtain ⟨⟨q1, e1, -, e2⟩, -⟩ := hW
        have := num_b e2; omega
      · obtain ⟨q2, -, -, e2⟩ := hW
        have := num_b e2; omega
    have hst := m_step (fu := fu) hTM hn hc hs h24 h26 hi g24 hqn (TM_pB (B1s_TM hTM) hpB) K2 Ke
    rw [← hfr] at hst
    obtain ⟨f1, f2⟩ := fin q 1 hpB h25 g24
    by_cases h9 : chr c n q = 59
    · rw [if_pos ⟨g26, h9⟩] at hst
      rcases hcl with ⟨v', w', u', q', A1, hW', h9', hP', hE, h32, hq, hsq, hR⟩ | ⟨A2, -, -, hno⟩
      · obtain ⟨rfl, rfl, rfl, rfl⟩ := WW_f hW hW'
        obtain ⟨x1, x2⟩ := hX A1 v w u hP
        obtain ⟨np', nd', nb', l', d1, d2⟩ := hDC A1 v w u hE hP
        have e := eqP_tr (eqP_26 B' 0) (eqP_24 (s26 B' 0) (q + 1))
        refine Or.inl ⟨q, X A1 v w u, s24 (s26 B' 0) (q + 1), np', nd', nb', l', ?_, hst, hsq, hq, s24_24 _ _, by rw [s24_26, s26_26], DC_cong d1 hk0 (eqX_rf _) (eqP_tr gE e), d2, FX_tr (FX_eq hE) x2, (fin q 0 hpB h25 g24).1⟩
        rw [hR, x1, h32]
      · exact absurd hP (hno v w u q hW h9)
    · rw [if_neg (fun z => h9 z.2)] at hst
      rcases hcl with ⟨v', w', u', q', A1, hW', h9', -⟩ | ⟨A2, hR, hE, -⟩
      · obtain ⟨rfl, rfl, rfl, rfl⟩ := WW_f hW hW'
        exact absurd h9' h9
      · exact Or.inr ⟨A2, _, _, hR, hst, by rw [s24_26, s26_26], f2, FX_eq hE, f1⟩
  · have h25 : B' 0 25 = nI s := gB.2.trans (B1s_25 B s)
    have hst := m_step (fu := fu) hTM hn hc hs h24 h26 hi g24 (by omega) (TM_pB (B1s_TM hTM) gB.1) K2 Ke
    rw [if_neg (fun z => by have := z.1; rw [g26] at this; exact absurd this (by decide)), ← hfr] at hst
    obtain ⟨f1, f2⟩ := fin p' 1 gB.1 h25 g24
    rcases hcl with ⟨v', w', u', q', A1, hW', h9', hP', -⟩ | ⟨A2, hR, hE, -⟩
    · exact absurd hP' (hno _ _ _ _ hW')
    · exact Or.inr ⟨A2, _, _, hR, hst, by rw [s24_26, s26_26], f2, FX_eq hE, f1⟩
/-! the letters -/
theorem rat3 (f : Row) : rat f 3 0 = f 0 ∧ rat f 3 1 = f 1 ∧ rat f 3 2 = f 2 := ⟨rat_nI (j := 0) (by decide) (by decide), rat_nI (j := 1) (by decide) (by decide), rat_nI (j := 2) (by decide) (by decide)⟩
theorem tk_pre {x : Int32} : pX7_take fu k0 x A = (if x = nI 98 then (if A 3 1 = nI 3 then (bI (pX1_takeBeast fu k0 (A 4 0) (A 4 1) (A 4 2) A) fun r M => if r = 0 then rtz 0 M else rtz 1 M) else rtz 0 A)
  else if x = nI 99 then (if A 3 1 = nI 2 then (bI (pX1_takeCarrots fu k0 (A 4 0) (A 4 1) A) fun r M => if r = 0 then rtz 0 M else rtz 1 M) else rtz 0 A)
  else if x = nI 100 then (if A 3 1 = nI 2 then (bI (pX1_takeDoor fu k0 (A 4 0) (A 4 1) A) fun r M => if r = 0 then rtz 0 M else rtz 1 M) else rtz 0 A)
  else if x = nI 109 then (if A 3 1 = nI 1 then (bI (pX1_takeMare fu k0 (A 4 0) A) fun r M => if r = 0 then rtz 0 M else rtz 1 M) else rtz 0 A)
  else if x = nI 110 then (if A 3 1 = nI 1 then (bI (pX1_takePlaces fu k0 (A 4 0) A) fun r M => if r = 0 then rtz 0 M else rtz 1 M) else rtz 0 A)
  else if x = nI 119 then (if A 3 1 = nI 3 then (bI (pX1_takeWay fu k0 (A 4 0) (A 4 1) (A 4 2) A) fun r M => if r = 0 then rtz 0 M else rtz 1 M) else rtz 0 A)
  else rtz 0 A) := by
  unfold pX7_take
  rw [x_at _ _ _ _ _ (by decide), bI_some, x_at _ _ _ _ _ (by decide), bI_some, x_at _ _ _ _ _ (by decide), bI_some, (rat3 (A 4)).1, (rat3 (A 4)).2.1, (rat3 (A 4)).2.2]
  rfl
theorem tk_fin {P : Prop} [Decidable P] {A1 X : Mem} {R : Res} (h : R = if P then some (1, X) else some (0, A1)) : (P ∧ (bI R fun r M => if r = 0 then rtz 0 M else rtz 1 M) = some (1, X)) ∨ (¬ P ∧ (bI R fun r M => if r = 0 then rtz 0 M else rtz 1 M) = some (0, A1)) := by
  by_cases q : P
  · rw [if_pos q] at h
    rw [h, bI_some, if_neg one_ne, rtz_1]; exact Or.inl ⟨q, rfl⟩
  · rw [if_neg q] at h
    rw [h, bI_some, if_pos rfl, rtz_0]; exact Or.inr ⟨q, rfl⟩
theorem dc_k0 {A1 : Mem} (hD : DC A B k0 np nd nb l) (hk0 : 5 ≤ k0) (hE : eqX A A1) : A1 k0 10 = nI np ∧ A1 k0 11 = nI nd ∧ A1 k0 12 = nI nb := by
  rw [hE k0 (by omega) (by omega)]; exact hD.2.1
theorem tkW (hD : DC A B k0 np nd nb l) (hk0 : 5 ≤ k0) : TKF fu k0 119 3 A (fun v w u => v < np ∧ w < np ∧ v ≠ w ∧ 1 ≤ u ∧ u ≤ 9) (fun A1 v w u => wyX A1 k0 v w u) := by
  intro A1 hE
  have hn := hD.1
  rw [tk_pre, if_neg (by decide), if_neg (by decide), if_neg (by decide), if_neg (by decide), if_neg (by decide), if_pos (by decide)]
  refine ⟨fun h => by rw [if_neg h, rtz_0], fun h v w u b1 b2 b3 e0 e1 e2 => ?_⟩
  rw [if_pos h, e0, e1 (by decide), e2 (by decide)]
  exact tk_fin (t_way (dc_k0 hD hk0 hE).1 (by omega) b1 b2 b3)
theorem tkB (hD : DC A B k0 np nd nb l) (hk0 : 5 ≤ k0) : TKF fu k0 98 3 A (fun v w u => nb < 5 ∧ v ≤ 3 ∧ 1 ≤ w ∧ w ≤ 3 ∧ u ≤ 9) (fun A1 v w u => beX A1 k0 nb v w u) := by
  intro A1 hE
  have hn := hD.1
  rw [tk_pre, if_pos (by decide)]
  refine ⟨fun h => by rw [if_neg h, rtz_0], fun h v w u b1 b2 b3 e0 e1 e2 => ?_⟩
  rw [if_pos h, e0, e1 (by decide), e2 (by decide)]
  exact tk_fin (t_beast (dc_k0 hD hk0 hE).2.2 (by omega) b1 b2 b3)
theorem tkC (hD : DC A B k0 np nd nb l) (hk0 : 5 ≤ k0) : TKF fu k0 99 2 A (fun v w _ => v < np ∧ w ≤ 9) (fun A1 v w _ => upR A1 (k0 + 1 + 8) (upd (A1 (k0 + 1 + 8)) v (nI w))) := by
  intro A1 hE
  have hn := hD.1
  rw [tk_pre, if_neg (by decide), if_pos (by decide)]
  refine ⟨fun h => by rw [if_neg h, rtz_0], fun h v w u b1 b2 b3 e0 e1 e2 => ?_⟩
  rw [if_pos h, e0, e1 (by decide)]
  exact tk_fin (t_car (dc_k0 hD hk0 hE).1 (by omega) b1 b2)
theorem tkD (hD : DC A B k0 np nd nb l) (hk0 : 5 ≤ k0) : TKF fu k0 100 2 A (fun v w _ => nd < 4 ∧ v ≤ 3 ∧ w < np) (fun A1 v w _ => doX A1 k0 nd v w) := by
  intro A1 hE
  have hn := hD.1
  rw [tk_pre, if_neg (by decide), if_neg (by decide), if_pos (by decide)]
  refine ⟨fun h => by rw [if_neg h, rtz_0], fun h v w u b1 b2 b3 e0 e1 e2 => ?_⟩
  rw [if_pos h, e0, e1 (by decide)]
  exact tk_fin (t_door (dc_k0 hD hk0 hE).1 (by omega) (dc_k0 hD hk0 hE).2.1 (by omega) b1 b2)
theorem tkM (hD : DC A B k0 np nd nb l) (hk0 : 5 ≤ k0) : TKF fu k0 109 1 A (fun v _ _ => v < np) (fun A1 v _ _ => upR A1 (k0 + 1 + 9) (upd (A1 (k0 + 1 + 9)) v 1)) := by
  intro A1 hE
  have hn := hD.1
  rw [tk_pre, if_neg (by decide), if_neg (by decide), if_neg (by decide), if_pos (by decide)]
  refine ⟨fun h => by rw [if_neg h, rtz_0], fun h v w u b1 b2 b3 e0 e1 e2 => ?_⟩
  rw [if_pos h, e0]
  exact tk_fin (t_mare (dc_k0 hD hk0 hE).1 (by omega) b1)
theorem tkN : TKF fu k0 110 1 A (fun v _ _ => 1 ≤ v ∧ v ≤ 8) (fun A1 v _ _ => upR A1 k0 (upd (A1 k0) 10 (nI v))) := by
  intro A1 hE
  rw [tk_pre, if_neg (by decide), if_neg (by decide), if_neg (by decide), if_neg (by decide), if_pos (by decide)]
  refine ⟨fun h => by rw [if_neg h, rtz_0], fun h v w u b1 b2 b3 e0 e1 e2 => ?_⟩
  rw [if_pos h, e0]
  exact tk_fin (t_places b1)
theorem tkO (hL : L ≤ 126) (h1 : L ≠ 98) (h2 : L ≠ 99) (h3 : L ≠ 100) (h4 : L ≠ 109) (h5 : L ≠ 110) (h6 : L ≠ 119) : TKF fu k0 L 1 A (fun _ _ _ => False) (fun A1 _ _ _ => A1) := by
  intro A1 hE
  have ne : ∀ k, k ≤ 126 → L ≠ k → ¬ nI L = nI k := fun k hk h z => h ((nI_eq_iff (by omega) (by omega)).mp z)
  rw [tk_pre, if_neg (ne 98 (by decide) h1), if_neg (ne 99 (by decide) h2), if_neg (ne 100 (by decide) h3), if_neg (ne 109 (by decide) h4), if_neg (ne 110 (by decide) h5), if_neg (ne 119 (by decide) h6), rtz_0]
  exact ⟨fun _ => rfl, fun _ v w u _ _ _ _ _ _ => Or.inr ⟨id, rfl⟩⟩
/-- one item, in both -/
theorem one_item (hk0 : 5 ≤ k0) (hT : TX A n c) (hTM : TM B n c) (hs : s < n) (hi : i < 200) (h24 : B 0 24 = nI s) (h26 : B 0 26 = 0) (hf : 1000 < fu) (hD : DC A B k0 np nd nb l) {x : Int32} (hx : x = 0 ∨ x = 1) (hfst : x = 1 → (∀ a b, l a b = 0) ∧ nd = 0) (K : Int32 → Int32 → Int32 → Mem → Res) (K2 : Int32 → Mem → Res) (Ke : Mem → Res) : ∃ f, (f = 0 ∨ f = 1) ∧ STEPo A B n s i k0 f (pX7_firstFault_12b fu k0 x (nI s) (nI i) A K) (pX10_reads_16b fu x B K2 Ke) K K2 := by
  have hn := hT.2.1
  have hc : ∀ j, j < n → c j ≤ 126 := fun j hj => (hT.2.2 j hj).2.1
  have hcs := hc s hs
  have hD1 : ∀ A1, eqX A A1 → DC A1 (B1s B s) k0 np nd nb l := fun A1 hE => DC_cong (B1s_DC hD) hk0 hE (eqP_rf _)
  have hT1 := B1s_TM (s := s) hTM
  have w26 : B1s B s 0 26 = 0 := (B1s_o B s (by decide) (by decide)).trans h26
  have g := (B1s_DC (s := s) hD).2.2.1
  have hnn := hD.1
  have e12 : pX7_firstFault_12b fu k0 x (nI s) (nI i) A K = if x = 1 ∧ c s = 110 then pX7_firstFault_65 fu k0 1 (nI s) (nI i) (nI (c s)) A K else if c s = 110 then some (nI s, A) else pX7_firstFault_65 fu k0 0 (nI s) (nI i) (nI (c s)) A K := by
    unfold pX7_firstFault_12b pX5_length pX7_firstFault_52 pX7_firstFault_53
    rw [if_neg (show ¬ (200 : Int32) ≤ nI i from fun z => by have := (nI_le_iff (a := 200) (by decide) (by omega)).mp z; omega), bI_some, hT.1, if_neg (fun z => by have := (nI_le_iff (by omega) (by omega)).mp z; omega), x_ch hT hs, bI_some]
    by_cases q : c s = 110
    · have q' : nI (c s) = (110 : Int32) := by rw [q]; rfl
      rcases hx with rfl | rfl
      · rw [if_pos rfl, if_pos q', if_pos rfl, if_neg (fun z => absurd z.1 (by decide)), if_pos q]
      · rw [if_neg one_ne, if_pos q', if_pos q', if_neg one_ne, if_pos ⟨rfl, q⟩]
    · have q' : ¬ nI (c s) = (110 : Int32) := fun z => q ((nI_eq_iff (b := 110) (by omega) (by decide)).mp z)
      rcases hx with rfl | rfl
      · rw [if_pos rfl, if_neg q', if_neg (fun z => q z.2), if_neg q]
      · rw [if_neg one_ne, if_neg q', if_neg q', if_neg (fun z => q z.2), if_neg q]
  rw [e12]
  have h0 : ∀ {z : Int32}, (0 : Int32) = if (0 : Int32) = 0 then 0 else if z = 0 then 0 else 1 := fun {z} => by rw [if_pos rfl]
  have no1 : ∀ {Q : Prop}, (0 : Int32) = 1 → Q := fun h => absurd h (by decide)
  by_cases c110 : c s = 110
  · rcases hx with rfl | rfl
    · rw [if_neg (fun z => absurd z.1 (by decide)), if_pos c110]
      obtain ⟨B', e1, e2, e3, p', e4, e5⟩ := m_itemN0 (fu := fu) (B1s_24 B s)
      have e1' : pX10_item fu (nI (c s)) 0 (B1s B s) = some (1, B') := by rw [c110]; exact e1
      have hst := m_step (fu := fu) hTM hn hc hs h24 h26 e1' e5 (by omega) (TM_pB hT1 e3.1) K2 Ke
      rw [if_neg (fun z => by have := z.1; rw [e2] at this; exact absurd this (by decide))] at hst
      have e := eqP_tr (eqP_26 B' 1) (eqP_24 (s26 B' 1) (p' + 1))
      exact ⟨0, Or.inl rfl, Or.inr ⟨A, _, _, rfl, hst, by rw [s24_26, s26_26], ((eqP_mB e).2.trans e3.2).trans (B1s_25 B s), FX_eq (eqX_rf A), pB_tr (B1s_pB B s) (pB_tr e3.1 (eqP_mB e).1)⟩⟩
    · rw [if_pos ⟨rfl, c110⟩]
      obtain ⟨l0, d0⟩ := hfst rfl
      refine ⟨1, Or.inr rfl, step_ok (k := 1) (x := 1) (r := 1) (P := fun v _ _ => 1 ≤ v ∧ v ≤ 8) (X := fun A1 v _ _ => upR A1 k0 (upd (A1 k0) 10 (nI v))) (U := fun v _ _ => upR (B1s B s) 0 (upd (B1s B s 0) 10 (nI v))) hk0 hT hTM hs h24 h26 hf (Or.inl rfl) (by rw [if_neg one_ne, if_neg one_ne]) (by rw [c110]; exact tkN) (fun A1 v w u _ => ⟨upR_ne (by omega), fun k _ _ h => upR_ne (by omega)⟩) (fun v w u _ => mB_0 (by omega) _) (fun A1 v w u hE hP => ⟨v, nd, nb, l, DC_n (hD1 A1 hE) l0 d0 hP.1 hP.2, fun _ => ⟨l0, d0⟩⟩) ?_ K K2 Ke⟩
      obtain ⟨B', e1, e2⟩ := m_itemN (fu := fu) hT1 hn hc (B1s_24 B s) (show s + 1 < 2 ^ 17 by omega) hf
      refine ⟨B', by rw [c110]; exact e1, ?_⟩
      rcases e2 with ⟨v, q, a, b1, b2, d⟩ | ⟨a, d⟩
      · exact Or.inl ⟨v, 0, 0, q, ⟨a, rfl, rfl⟩, ⟨b1, b2⟩, d⟩
      · exact Or.inr ⟨fun v w u q h => a v q h.1, d⟩
  · rw [if_neg (fun z => c110 z.2), if_neg c110]
    refine ⟨0, Or.inl rfl, ?_⟩
    by_cases c119 : c s = 119
    · refine step_ok (k := 3) (x := x) (r := 0) (P := fun v w u => v < np ∧ w < np ∧ v ≠ w ∧ 1 ≤ u ∧ u ≤ 9) (X := fun A1 v w u => wyX A1 k0 v w u) (U := fun v w u => upR (B1s B s) 7 (upd (upd (B1s B s 7) (8 * v + w) (nI u)) (8 * w + v) (nI u))) hk0 hT hTM hs h24 h26 hf (Or.inr (Or.inr rfl)) h0 (by rw [c119]; exact tkW hD hk0) (fun A1 v w u _ => ⟨upR_ne (by omega), fun k _ _ h => upR_ne (by omega)⟩) (fun v w u _ => mB_up (by omega)) (fun A1 v w u hE hP => ⟨np, nd, nb, _, DC_w (hD1 A1 hE) hP, no1⟩) ?_ K K2 Ke
      obtain ⟨B', e1, e2⟩ := m_itemW (fu := fu) hT1 hn hc (B1s_24 B s) (show s + 1 < 2 ^ 17 by omega) w26 g.1 (by omega) hf x
      refine ⟨B', by rw [c119]; exact e1, ?_⟩
      rcases e2 with ⟨v, w, u, q, a, b1, d⟩ | ⟨a, d⟩
      · exact Or.inl ⟨v, w, u, q, a, b1, d⟩
      · exact Or.inr ⟨fun v w u q h => a v w u q h, d⟩
    · by_cases c100 : c s = 100
      · refine step_ok (k := 2) (x := x) (r := 0) (P := fun v w _ => nd < 4 ∧ v ≤ 3 ∧ w < np) (X := fun A1 v w _ => doX A1 k0 nd v w) (U := fun v w _ => opM (B1s B s) nd v w) hk0 hT hTM hs h24 h26 hf (Or.inr (Or.inl rfl)) h0 (by rw [c100]; exact tkD hD hk0) (fun A1 v w u _ => ⟨by unfold doX; rw [upR_ne (by omega), upR_ne (by omega), upR_ne (by omega)], fun k _ _ h => by unfold doX; rw [upR_ne (by omega), upR_ne (by omega), upR_ne (by omega)]⟩) (fun v w u _ => ⟨⟨fun k h1 h2 => by unfold opM; rw [upR_ne (by omega), upR_ne (by omega), upR_ne (by omega)], by unfold opM; rw [upR_ne (by decide), upR_ne (by decide), upR_ne (by decide)], fun j hj => by unfold opM; rw [upR_at, upd_ne (by omega)], fun j hj => by unfold opM; rw [upR_ne (by decide), upR_ne (by decide), upR_ne (by decide)]⟩, by unfold opM; rw [upR_at, upd_ne (by decide)]⟩) (fun A1 v w u hE hP => ⟨np, nd + 1, nb, l, DC_d (hD1 A1 hE) hP, no1⟩) ?_ K K2 Ke
        obtain ⟨B', e1, e2⟩ := m_itemD (fu := fu) hT1 hn hc (B1s_24 B s) (show s + 1 < 2 ^ 17 by omega) g.1 (by omega) g.2.1 (by omega) hf x
        refine ⟨B', by rw [c100]; exact e1, ?_⟩
        rcases e2 with ⟨v, w, q, a, b1, d⟩ | ⟨a, d⟩
        · exact Or.inl ⟨v, w, 0, q, ⟨a, rfl⟩, b1, d⟩
        · exact Or.inr ⟨fun v w u q h => a v w q h.1, d⟩
      · by_cases c98 : c s = 98
        · refine step_ok (k := 3) (x := x) (r := 0) (P := fun v w u => nb < 5 ∧ v ≤ 3 ∧ 1 ≤ w ∧ w ≤ 3 ∧ u ≤ 9) (X := fun A1 v w u => beX A1 k0 nb v w u) (U := fun v w u => coM (B1s B s) nb v w u) hk0 hT hTM hs h24 h26 hf (Or.inr (Or.inr rfl)) h0 (by rw [c98]; exact tkB hD hk0) (fun A1 v w u _ => ⟨by unfold beX; rw [upR_ne (by omega), upR_ne (by omega), upR_ne (by omega), upR_ne (by omega)], fun k _ _ h => by unfold beX; rw [upR_ne (by omega), upR_ne (by omega), upR_ne (by omega), upR_ne (by omega)]⟩) (fun v w u hP => ⟨⟨fun k h1 h2 => by unfold coM; rw [upR_ne (by omega), upR_ne (by omega), upR_ne (by omega), upR_ne (by omega)], by unfold coM; rw [upR_ne (by decide), upR_ne (by decide), upR_ne (by decide), upR_ne (by decide)], fun j hj => by unfold coM; rw [upR_at, upd_ne (by omega)], fun j hj => by unfold coM; rw [upR_ne (by decide), upR_at, upd_ne (by omega), upd_ne (by omega), upd_ne (by omega)]⟩, by unfold coM; rw [upR_at, upd_ne (by decide)]⟩) (fun A1 v w u hE hP => ⟨np, nd, nb + 1, l, DC_b (hD1 A1 hE) hP, no1⟩) ?_ K K2 Ke
          obtain ⟨B', e1, e2⟩ := m_itemB (fu := fu) hT1 hn hc (B1s_24 B s) (show s + 1 < 2 ^ 17 by omega) g.2.2 (by omega) hf x
          refine ⟨B', by rw [c98]; exact e1, ?_⟩
          rcases e2 with ⟨v, w, u, q, a, b1, d⟩ | ⟨a, d⟩
          · exact Or.inl ⟨v, w, u, q, a, b1, d⟩
          · exact Or.inr ⟨fun v w u q h => a v w u q h, d⟩
        · by_cases c99 : c s = 99
          · refine step_ok (k := 2) (x := x) (r := 0) (P := fun v w _ => v < np ∧ w ≤ 9) (X := fun A1 v w _ => upR A1 (k0 + 1 + 8) (upd (A1 (k0 + 1 + 8)) v (nI w))) (U := fun v w _ => upR (B1s B s) 12 (upd (B1s B s 12) (759 + v) (nI w))) hk0 hT hTM hs h24 h26 hf (Or.inr (Or.inl rfl)) h0 (by rw [c99]; exact tkC hD hk0) (fun A1 v w u _ => ⟨upR_ne (by omega), fun k _ _ h => upR_ne (by omega)⟩) (fun v w u _ => mB_12 (by omega) _) (fun A1 v w u hE hP => ⟨np, nd, nb, l, DC_c (hD1 A1 hE) hP, no1⟩) ?_ K K2 Ke
            obtain ⟨B', e1, e2⟩ := m_itemC (fu := fu) hT1 hn hc (B1s_24 B s) (show s + 1 < 2 ^ 17 by omega) w26 g.1 (by omega) hf x
            refine ⟨B', by rw [c99]; exact e1, ?_⟩
            rcases e2 with ⟨v, w, q, a, b1, b2, d⟩ | ⟨a, d⟩
            · exact Or.inl ⟨v, w, 0, q, ⟨a, rfl⟩, ⟨b1, b2⟩, d⟩
            · exact Or.inr ⟨fun v w u q h => a v w q h.1, d⟩
          · by_cases c109 : c s = 109
            · refine step_ok (k := 1) (x := x) (r := 0) (P := fun v _ _ => v < np) (X := fun A1 v _ _ => upR A1 (k0 + 1 + 9) (upd (A1 (k0 + 1 + 9)) v 1)) (U := fun v _ _ => upR (B1s B s) 0 (upd (B1s B s 0) 12 (B1s B s 0 12 ||| (1 <<< (nI v &&& 31))))) hk0 hT hTM hs h24 h26 hf (Or.inl rfl) h0 (by rw [c109]; exact tkM hD hk0) (fun A1 v w u _ => ⟨upR_ne (by omega), fun k _ _ h => upR_ne (by omega)⟩) (fun v w u _ => mB_0 (by omega) _) (fun A1 v w u hE hP => ⟨np, nd, nb, l, DC_m (hD1 A1 hE) hP, no1⟩) ?_ K K2 Ke
              obtain ⟨B', e1, e2⟩ := m_itemM (fu := fu) hT1 hn hc (B1s_24 B s) (show s + 1 < 2 ^ 17 by omega) w26 g.1 (by omega) hf x
              refine ⟨B', by rw [c109]; exact e1, ?_⟩
              rcases e2 with ⟨v, q, a, b1, d⟩ | ⟨a, d⟩
              · exact Or.inl ⟨v, 0, 0, q, ⟨a, rfl, rfl⟩, b1, d⟩
              · exact Or.inr ⟨fun v w u q h => a v q h.1, d⟩
            · refine step_ok (k := 1) (x := x) (r := 0) (P := fun _ _ _ => False) (X := fun A1 _ _ _ => A1) (U := fun _ _ _ => B) hk0 hT hTM hs h24 h26 hf (Or.inl rfl) h0 (tkO hcs c98 c99 c100 c109 c110 c119) (fun A1 v w u h => absurd h id) (fun v w u h => absurd h id) (fun A1 v w u hE hP => absurd hP id) ?_ K K2 Ke
              have ne : ∀ k, k ≤ 126 → c s ≠ k → nI (c s) ≠ nI k := fun k hk h z => h ((nI_eq_iff (by omega) (by omega)).mp z)
              obtain ⟨B', e1, e2⟩ := m_itemO (fu := fu) (B1s_24 B s) x (ne 110 (by decide) c110) (ne 119 (by decide) c119) (ne 100 (by decide) c100) (ne 98 (by decide) c98) (ne 99 (by decide) c99) (ne 109 (by decide) c109)
              exact ⟨B', e1, Or.inr ⟨fun _ _ _ _ _ h => h, e2⟩⟩
end LK
