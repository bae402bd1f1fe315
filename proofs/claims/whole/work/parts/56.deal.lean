/-! PURE: deal, all hands -/
section DA
variable {A0 B0 : Mem} {np nd nb fu : Nat} {ln ds : Nat → Nat → Nat}
theorem r_pick (hn : 1 ≤ nb ∧ nb ≤ 5) (x1 x2 x3 x4 x5 : Int32) (K : Int32 → Int32 → Int32 → Int32 → Int32 → Mem → Res) : ∀ (m rest t t' : Nat) (A B : Mem), m ≤ 4 → rest < 2 ^ 31 → m < t → m < t' → B 0 7 = nI nb → ∃ (f g : Row) (h : Nat → Nat), pX2_pick_21 fu t (nI rest) (nI nb) (nI m - 1) A = some (0, upR A 57 f) ∧ pX10_deal_84 fu K t' x1 x2 x3 x4 x5 (nI rest) (nI m - 1) B = K x1 x2 x3 x4 x5 (upR B 15 g) ∧ (∀ d, d < m → h d < nb ∧ f d = nI (h d) ∧ g d = nI (h d)) ∧ ∀ d, m ≤ d → f d = A 57 d ∧ g d = B 15 d := by
  intro m
  induction m with
  | zero =>
    intro rest t t' A B hm hr ht ht' h7
    obtain ⟨t, rfl⟩ : ∃ q, t = q + 1 := ⟨t - 1, by omega⟩
    obtain ⟨t', rfl⟩ : ∃ q, t' = q + 1 := ⟨t' - 1, by omega⟩
    refine ⟨A 57, B 15, fun _ => 0, ?_, ?_, fun d hd => absurd hd (by omega), fun d _ => ⟨rfl, rfl⟩⟩
    · show pX2_pick_21b fu (nI rest) (nI nb) (nI 0 - 1) A _ = _
      unfold pX2_pick_21b
      rw [if_pos (by decide), upR_self]
    · show pX10_deal_84b fu x1 x2 x3 x4 x5 (nI rest) (nI 0 - 1) B _ _ = _
      unfold pX10_deal_84b
      rw [if_pos (by decide), upR_self]
  | succ m ih =>
    intro rest t t' A B hm hr ht ht' h7
    obtain ⟨t, rfl⟩ : ∃ q, t = q + 1 := ⟨t - 1, by omega⟩
    obtain ⟨t', rfl⟩ : ∃ q, t' = q + 1 := ⟨t' - 1, by omega⟩
    have hz : ¬ nI nb = 0 := fun z => by have := (nI_eq_iff (b := 0) (by omega) (by decide)).mp z; omega
    have em : nI (m + 1) - 1 = nI m := nI_pred m
    have em2 : nI m + (-1 : Int32) = nI m - 1 := by rw [Int32.sub_eq_add_neg]
    have er : irm (nI rest) (nI nb) = nI (rest % nb) := pk_rem hr (by omega) (by omega)
    have ed : nI rest / nI nb = nI (rest / nb) := pk_div hr (by omega) (by omega)
    have hmod := Nat.mod_lt rest (show 0 < nb by omega)
    have hdiv : rest / nb ≤ rest := Nat.div_le_self _ _
    obtain ⟨f, g, h, e1, e2, e3, e4⟩ := ih (rest / nb) t t' (upR A 57 (upd (A 57) m (nI (rest % nb)))) (upR B 15 (upd (B 15) m (nI (rest % nb)))) (by omega) (by omega) (by omega) (by omega) (by rw [upR_ne (by decide)]; exact h7)
    refine ⟨f, g, fun d => if d < m then h d else rest % nb, ?_, ?_, ?_, ?_⟩
    · show pX2_pick_21b fu (nI rest) (nI nb) (nI (m + 1) - 1) A _ = _
      unfold pX2_pick_21b
      rw [em, if_neg (nI_pos (by omega)), if_neg (fun z => by have := (nI_le0 (by omega)).mp z; omega), if_neg hz, x_put _ _ _ _ _ _ (by decide), bV_some, if_neg hz, rpu_nI (by omega) (by decide), er, ed, em2, e1, upR_upR]
    · show pX10_deal_84b fu x1 x2 x3 x4 x5 (nI rest) (nI (m + 1) - 1) B _ _ = _
      unfold pX10_deal_84b
      rw [em, if_neg (nI_pos (by omega)), h7, if_neg hz, sto_nI (by omega) (by decide), upR_ne (by decide), h7, if_neg hz, er, ed, em2, e2, upR_upR]
    · intro d hd
      by_cases z : d < m
      · dsimp only
        rw [if_pos z]; exact e3 d z
      · have e5 := e4 d (by omega)
        dsimp only
        rw [if_neg z]
        have : d = m := by omega
        subst this
        rw [upR_at, upR_at, upd_at, upd_at] at e5
        exact ⟨hmod, e5.1, e5.2⟩
    · intro d hd
      have e5 := e4 d (by omega)
      rw [upR_at, upR_at, upd_ne (by omega), upd_ne (by omega)] at e5
      exact e5
theorem m_best (x1 x2 x3 x4 x5 : Int32) (K : Int32 → Int32 → Int32 → Int32 → Int32 → Mem → Res) : ∀ (m i t : Nat) (B : Mem), i + m = 4 → m < t → ∃ g : Row, pX10_deal_149 fu K t x1 x2 x3 x4 x5 (nI i) B = K x1 x2 x3 x4 x5 (upR B 16 g) ∧ (∀ j, i ≤ j → j < 4 → g j = B 15 j) ∧ ∀ j, j < i → g j = B 16 j := by
  intro m
  induction m with
  | zero =>
    intro i t B hi ht
    obtain ⟨t, rfl⟩ : ∃ q, t = q + 1 := ⟨t - 1, by omega⟩
    refine ⟨B 16, ?_, fun j h1 h2 => absurd h2 (by omega), fun j _ => rfl⟩
    show pX10_deal_149b fu x1 x2 x3 x4 x5 (nI i) B _ _ = _
    unfold pX10_deal_149b
    rw [if_pos (show (4 : Int32) ≤ nI i from (nI_le_iff (a := 4) (by decide) (by omega)).mpr (by omega)), upR_self]
  | succ m ih =>
    intro i t B hi ht
    obtain ⟨t, rfl⟩ : ∃ q, t = q + 1 := ⟨t - 1, by omega⟩
    obtain ⟨g, e1, e2, e3⟩ := ih (i + 1) t (upR B 16 (upd (B 16) i (B 15 i))) (by omega) (by omega)
    refine ⟨g, ?_, ?_, ?_⟩
    · show pX10_deal_149b fu x1 x2 x3 x4 x5 (nI i) B _ _ = _
      unfold pX10_deal_149b
      rw [if_neg (fun q => by have := (nI_le_iff (a := 4) (by decide) (by omega)).mp q; omega), ld_nI (by omega) (by decide), sto_nI (by omega) (by decide), nI_1, e1, upR_upR]
    · intro j h1 h2
      by_cases z : j = i
      · subst z; rw [e3 j (by omega), upR_at, upd_at]
      · rw [e2 j (by omega) h2, upR_ne (by decide)]
    · intro j hj
      rw [e3 j (by omega), upR_at, upd_ne (by omega)]
theorem HRS_c {C : Mem} {pl h : Nat → Nat} {w : Int32} {f0 : Row} {r : Int32} (hn4 : nd ≤ 4) (h1 : HRS C nb nd ds pl h w f0 r) : r = -4 ∨ ∃ s, s ≤ 396 ∧ r = nI s := by
  rcases h1 with ⟨-, e⟩ | ⟨-, e⟩
  · refine Or.inr ⟨_, ?_, e⟩
    unfold hSum
    have := sumF_le (F := gng C nb nd h (sH C h w f0 nd)) (c := 4) 99 0 (fun j _ _ => gng_le hn4 j)
    omega
  · exact Or.inl e
def BST (nd nb : Nat) (few : Int32) (A B : Mem) : Prop := few = -4 ∨ ∃ s, s ≤ 396 ∧ few = nI s ∧ ∀ d, d < nd → A 58 d = B 16 d
theorem r_deal (hR : RC A0 B0 np nd nb ln ds) (hN : HMV A0 B0 np nd nb ds 28 0) {v N : Nat} (hv : v < 8) (hN6 : N ≤ 625) (hf : 1000 < fu) (x2 : Int32) (K : Int32 → Int32 → Mem → Res) : ∀ (m i t t' : Nat) (few : Int32) (A B : Mem), pA A0 A → pB B0 B → BST nd nb few A B → i + m = N → m < t → m < t' → ∃ few' A' B', pX2_fewestHours_42 fu 27 t (nI v) few (nI N) (nI i) A = some (few', A') ∧ pX10_deal_66 fu K t' (nI v) x2 (nI N) few (nI i) B = K x2 few' B' ∧ pA A0 A' ∧ pB B0 B' ∧ BST nd nb few' A' B' := by
  have hn := hR.1
  intro m
  induction m with
  | zero =>
    intro i t t' few A B hA hB hS hi ht ht'
    obtain ⟨t, rfl⟩ : ∃ q, t = q + 1 := ⟨t - 1, by omega⟩
    obtain ⟨t', rfl⟩ : ∃ q, t' = q + 1 := ⟨t' - 1, by omega⟩
    refine ⟨few, A, B, ?_, ?_, hA, hB, hS⟩
    · show pX2_fewestHours_42b fu 27 (nI v) few (nI N) (nI i) A _ = _
      unfold pX2_fewestHours_42b
      rw [if_pos ((nI_le_iff (by omega) (by omega)).mpr (by omega))]
    · show pX10_deal_66b fu (nI v) x2 (nI N) few (nI i) B _ _ = _
      unfold pX10_deal_66b
      rw [if_pos ((nI_le_iff (by omega) (by omega)).mpr (by omega))]
  | succ m ih =>
    intro i t t' few A B hA hB hS hi ht ht'
    obtain ⟨t, rfl⟩ : ∃ q, t = q + 1 := ⟨t - 1, by omega⟩
    obtain ⟨t', rfl⟩ : ∃ q, t' = q + 1 := ⟨t' - 1, by omega⟩
    have hRB := pB_RC hR hB
    have hL : pX2_fewestHours_42 fu 27 (t + 1) (nI v) few (nI N) (nI i) A = pX2_fewestHours_42b fu 27 (nI v) few (nI N) (nI i) A (pX2_fewestHours_42 fu 27 t) := rfl
    have hM' : pX10_deal_66 fu K (t' + 1) (nI v) x2 (nI N) few (nI i) B = pX10_deal_66b fu (nI v) x2 (nI N) few (nI i) B (pX10_deal_66 fu K t') K := rfl
    obtain ⟨f, g, h, e1, e2, e3, -⟩ := r_pick (fu := fu) (nb := nb) (by omega) (nI v) x2 (nI N) few (nI i) (fun y10 y11 y12 y13 y14 M15 =>
      bI (pX10_dealsSum fu y10 M15) fun r17 M16 =>
      if r17 < 0 then (
        pX10_deal_175 fu  y10 y11 y12 y13 y14 M16 (pX10_deal_66 fu K t'))
      else
      if y13 < 0 then (
        pX10_deal_142 fu  y10 y11 y12 y14 r17 M16 (pX10_deal_66 fu K t'))
      else
      if y13 ≤ r17 then (
        pX10_deal_175 fu  y10 y11 y12 y13 y14 M16 (pX10_deal_66 fu K t'))
      else
      pX10_deal_142 fu  y10 y11 y12 y14 r17 M16 (pX10_deal_66 fu K t')) nd i fu fu A B (by omega) (by omega) (by omega) (by omega) hRB.2.2.1.2.2
    have hA1 : pA A0 (upR A 57 f) := pA_tr hA (pA_up (by omega))
    have hB1 : pB B0 (upR B 15 g) := pB_tr hB (pB_hi (by omega))
    have hh : ∀ d, d < nd → h d < nb := fun d hd => (e3 d hd).1
    have hpl : ∀ d, d < nd → (A0 10 d).toNatClampNeg < np ∧ A0 10 d = nI (A0 10 d).toNatClampNeg := fun d hd => by
      obtain ⟨p, hp, e⟩ := RC_doors hR d hd
      rw [e, nI_clamp (by omega)]; exact ⟨hp, rfl⟩
    have e28 : upR A 57 f 28 = A0 28 := by rw [upR_ne (by decide)]; exact hA 28 (by omega)
    obtain ⟨r, g1, r1, r2⟩ := x_hand (fu := fu) (h := h) (pl := fun d => (A0 10 d).toNatClampNeg) hR hh hpl hv hf (A := upR A 57 f) (pA_CC hA1) (fun d hd => by rw [upR_at]; exact (e3 d hd).2.1) (by rw [e28]; exact hN.2) (fun r M => pX2_fewestHours_74 fu 27 (nI v) few (nI N) (nI i) r M (pX2_fewestHours_42 fu 27 t))
    have hV0 : HV A0 np nd nb ds (va_cpy (upR A 57 f 28) (upR A 57 f 60) 0 0 64) := HV_cong (by omega) (by omega) hN.2 (fun j hj => by rw [cpy_at _ _ hj, e28])
    have hM0 : HM np nb (va_cpy (upR A 57 f 28) (upR A 57 f 60) 0 0 64) (B0 12) 0 := HM_cong (M := B0) (by omega) (by omega) hN.1 (fun j hj => by rw [cpy_at _ _ hj, e28]) (fun j hj => rfl)
    obtain ⟨r', B', q1, q2, q3, q4, q5⟩ := m_hand (fu := fu) (v := v) (h := h) (pl := fun d => (A0 10 d).toNatClampNeg) hR hB1 hh hpl hM0 hV0 (fun d hd => by rw [upR_at]; exact (e3 d hd).2.2) hf
    have err := HRS_eq r1 q2
    subst err
    rw [hL, hM']
    unfold pX2_fewestHours_42b pX10_deal_66b pX2_pick
    rw [if_neg (fun q => by have := (nI_le_iff (by omega) (by omega)).mp q; omega), if_neg (fun q => by have := (nI_le_iff (by omega) (by omega)).mp q; omega), x_beasts (pA_CC hA), bI_some, x_doors (pA_CC hA), bI_some, hR.2.1.2.1, hR.2.1.2.2, e1, bV_some, r2, hRB.2.2.1.2.1, e2, q1, bI_some]
    have hA2 : pA A0 (upR (upR A 57 f) 60 g1) := pA_tr hA1 (pA_up (by omega))
    unfold pX2_fewestHours_74 pX10_deal_175 pX2_fewestHours_116 pX2_fewestHours_95 pX10_deal_142
    have h58 : upR (upR A 57 f) 60 g1 58 = A 58 := by rw [upR_ne (by decide), upR_ne (by decide)]
    have h57 : upR (upR A 57 f) 60 g1 57 = f := by rw [upR_ne (by decide), upR_at]
    have hB16 : B' 16 = B 16 := by rw [q5, upR_ne (by decide)]
    have hB15 : B' 15 = g := by rw [q4, upR_at]
    have hkeep : BST nd nb few (upR (upR A 57 f) 60 g1) B' := by
      unfold BST at hS ⊢
      rw [h58, hB16]; exact hS
    have hnew : ∀ s, s ≤ 396 → r = nI s → ∃ few' A2 B2, (cpy (upR (upR A 57 f) 60 g1) 57 58 4 fun M12 => pX2_fewestHours_116 fu 27 (nI v) r (nI N) (nI i) M12 (pX2_fewestHours_42 fu 27 t)) = some (few', A2) ∧ pX10_deal_149 fu (fun y20 y21 y22 y23 y24 M25 => pX10_deal_175 fu y20 y21 y22 y23 y24 M25 (pX10_deal_66 fu K t')) fu (nI v) x2 (nI N) r (nI i) 0 B' = K x2 few' B2 ∧ pA A0 A2 ∧ pB B0 B2 ∧ BST nd nb few' A2 B2 := by
      intro s hs hrs
      obtain ⟨g2, b1, b2, -⟩ := m_best (fu := fu) (nI v) x2 (nI N) r (nI i) (fun y20 y21 y22 y23 y24 M25 => pX10_deal_175 fu y20 y21 y22 y23 y24 M25 (pX10_deal_66 fu K t')) 4 0 fu B' (by omega) (by omega)
      have b1' : pX10_deal_149 fu _ fu (nI v) x2 (nI N) r (nI i) 0 B' = _ := b1
      rw [b1']
      unfold cpy pX2_fewestHours_116 pX10_deal_175
      rw [nI_1]
      refine ih (i + 1) t t' r _ _ (pA_tr hA2 (pA_up (by omega))) (pB_tr q3 (pB_hi (by omega))) (Or.inr ⟨s, hs, hrs, fun d hd => ?_⟩) (by omega) (by omega) (by omega)
      rw [upR_at, upR_at, h57, b2 d (by omega) (by omega), hB15, pk_cpy_in (by omega) (by omega), Nat.zero_add, Nat.sub_zero, (e3 d hd).2.1, (e3 d hd).2.2]
    rcases HRS_c (by omega) r1 with rfl | ⟨s, hs, hrs⟩
    · rw [if_pos rfl, if_pos (by decide), nI_1]
      exact ih (i + 1) t t' few _ _ hA2 q3 hkeep (by omega) (by omega) (by omega)
    · have hr4 : ¬ r = -4 := by rw [hrs]; exact nI_ne4 (by omega)
      have hr0 : ¬ r < 0 := by rw [hrs]; exact nI_pos (by omega)
      rw [if_neg hr4, if_neg hr0]
      rcases hS with rfl | ⟨s', hs', hfew, hbest⟩
      · rw [if_pos rfl, if_pos (by decide)]
        exact hnew s hs hrs
      · have hf4 : ¬ few = -4 := by rw [hfew]; exact nI_ne4 (by omega)
        have hf0 : ¬ few < 0 := by rw [hfew]; exact nI_pos (by omega)
        rw [if_neg hf4, if_neg hf0]
        by_cases z : few ≤ r
        · rw [if_pos z, if_pos z, nI_1]
          exact ih (i + 1) t t' few _ _ hA2 q3 hkeep (by omega) (by omega) (by omega)
        · rw [if_neg z, if_neg z]
          exact hnew s hs hrs
theorem x_hands {A : Mem} (hA : CC A0 A) (hnd : A0 5 11 = nI nd) (hnb : A0 5 12 = nI nb) (h4 : nd ≤ 4) (x2 x3 : Int32) (K : Int32 → Int32 → Int32 → Mem → Res) : ∀ (m i t c : Nat), i + m = nd → m < t → pX2_fewestHours_9 fu 27 K t x2 x3 (nI c) (nI i) A = K x2 x3 (nI (c * nb ^ m)) A := by
  intro m
  induction m with
  | zero =>
    intro i t c hi ht
    obtain ⟨t, rfl⟩ : ∃ q, t = q + 1 := ⟨t - 1, by omega⟩
    show pX2_fewestHours_9b fu 27 x2 x3 (nI c) (nI i) A _ _ = _
    unfold pX2_fewestHours_9b
    rw [x_doors hA, bI_some, hnd, if_pos ((nI_le_iff (by omega) (by omega)).mpr (by omega)), Nat.pow_zero, Nat.mul_one]
  | succ m ih =>
    intro i t c hi ht
    obtain ⟨t, rfl⟩ : ∃ q, t = q + 1 := ⟨t - 1, by omega⟩
    show pX2_fewestHours_9b fu 27 x2 x3 (nI c) (nI i) A _ _ = _
    unfold pX2_fewestHours_9b
    rw [x_doors hA, bI_some, hnd, if_neg (fun q => by have := (nI_le_iff (by omega) (by omega)).mp q; omega), x_beasts hA, bI_some, hnb, pk_mul, nI_1, ih (i + 1) t (c * nb) (by omega) (by omega), Nat.pow_succ, Nat.mul_assoc, Nat.mul_comm nb]
theorem m_hands {B : Mem} (hnd : B 0 4 = nI nd) (hnb : B 0 7 = nI nb) (h4 : nd ≤ 4) (x1 x2 : Int32) (K : Int32 → Int32 → Int32 → Mem → Res) : ∀ (m i t c : Nat), i + m = nd → m < t → pX10_deal_37 fu K t x1 x2 (nI c) (nI i) B = K x1 x2 (nI (c * nb ^ m)) B := by
  intro m
  induction m with
  | zero =>
    intro i t c hi ht
    obtain ⟨t, rfl⟩ : ∃ q, t = q + 1 := ⟨t - 1, by omega⟩
    show pX10_deal_37b fu x1 x2 (nI c) (nI i) B _ _ = _
    unfold pX10_deal_37b
    rw [hnd, if_pos ((nI_le_iff (by omega) (by omega)).mpr (by omega)), Nat.pow_zero, Nat.mul_one]
  | succ m ih =>
    intro i t c hi ht
    obtain ⟨t, rfl⟩ : ∃ q, t = q + 1 := ⟨t - 1, by omega⟩
    show pX10_deal_37b fu x1 x2 (nI c) (nI i) B _ _ = _
    unfold pX10_deal_37b
    rw [hnd, if_neg (fun q => by have := (nI_le_iff (by omega) (by omega)).mp q; omega), hnb, pk_mul, nI_1, ih (i + 1) t (c * nb) (by omega) (by omega), Nat.pow_succ, Nat.mul_assoc, Nat.mul_comm nb]
end DA
theorem a_deal {A B : Mem} {fu : Nat} (h : REL A B) (hf : 1000 < fu) (x y : Int32) : AGREE (pX9_deal fu x y A) (pX10_deal fu x y B) := by
  have h' := h
  obtain ⟨np, nd, nb, ln, ds, hR, hN, -⟩ := h'
  have hn := hR.1
  have hCC := CC_rf A
  unfold pX9_deal pX10_deal
  rw [x_isVerdict, m_in0 x 7 8 (by decide), bI_some, bI_some]
  by_cases hx : inR x 8
  · rw [if_pos hx, if_neg one_ne, if_neg one_ne, hR.2.2.1.2.1, m_in, bI_some, pred_toInt (by omega) (by omega), w_toInt, show (-1 : Int64).toInt = -1 from rfl]
    obtain ⟨v, hv, rfl⟩ := of_inR hx (by decide)
    have hpow : nb ^ nd ≤ 625 := by
      have h1 : nb ^ nd ≤ 5 ^ nd := Nat.pow_le_pow_left (by omega) _
      have h2 : 5 ^ nd ≤ 5 ^ 4 := Nat.pow_le_pow_right (by decide) (by omega)
      have : (5 : Nat) ^ 4 = 625 := by decide
      omega
    have hy1 : (-1 : Int32).toInt = -1 := rfl
    have hgo : y = -1 ∨ inR y nd → AGREE (pX9_deal_25 fu (nI v) y A) (pX10_deal_37 fu
    (fun y5 y6 y7 M8 =>
      pX10_deal_66 fu
        (fun y26 y27 M28 =>
          if 0 ≤ y27 then (
            if 0 ≤ y26 then (
              ld M28 16 4 y26 fun v29 =>
              some (v29, M28))
            else
            some (y27, M28))
          else
          some ((-4 : Int32), M28))
        fu y5 y6 y7 (-4 : Int32) (0 : Int32) M8)
    fu (nI v) y (1 : Int32) (0 : Int32) B) := by
      intro hy
      unfold pX9_deal_25 pX2_fewestHours
      have e1 := x_hands (fu := fu) (A0 := A) (nb := nb) hCC hR.2.1.2.1 hR.2.1.2.2 (by omega) (nI v) (-4) (fun y5 y6 y7 M8 => pX2_fewestHours_42 fu 27 fu y5 y6 y7 (0 : Int32) M8) nd 0 fu 1 (by omega) (by omega)
      have e1' : pX2_fewestHours_9 fu 27 _ fu (nI v) (-4) 1 0 A = _ := e1
      have e2 := m_hands (fu := fu) (nb := nb) hR.2.2.1.2.1 hR.2.2.1.2.2 (by omega) (nI v) y (fun y5 y6 y7 M8 =>
      pX10_deal_66 fu
        (fun y26 y27 M28 =>
          if 0 ≤ y27 then (
            if 0 ≤ y26 then (
              ld M28 16 4 y26 fun v29 =>
              some (v29, M28))
            else
            some (y27, M28))
          else
          some ((-4 : Int32), M28))
        fu y5 y6 y7 (-4 : Int32) (0 : Int32) M8) nd 0 fu 1 (by omega) (by omega)
      have e2' : pX10_deal_37 fu _ fu (nI v) y 1 0 B = _ := e2
      rw [e1', e2', Nat.one_mul]
      obtain ⟨few, A', B', e3, e4, e5, e6, e7⟩ := r_deal (fu := fu) hR hN hv hpow hf y (fun y26 y27 M28 =>
          if 0 ≤ y27 then (
            if 0 ≤ y26 then (
              ld M28 16 4 y26 fun v29 =>
              some (v29, M28))
            else
            some (y27, M28))
          else
          some ((-4 : Int32), M28)) (nb ^ nd) 0 fu fu (-4) A B (pA_rf A) (pB_rf B) (Or.inl rfl) (by omega) (by omega) (by omega)
      have e3' : pX2_fewestHours_42 fu 27 fu (nI v) (-4) (nI (nb ^ nd)) 0 A = _ := e3
      have e4' : pX10_deal_66 fu _ fu (nI v) y (nI (nb ^ nd)) (-4) 0 B = _ := e4
      rw [e3', bI_some, e4']
      rcases e7 with rfl | ⟨s, hs, rfl, hbest⟩
      · rw [if_pos rfl, if_neg (by decide)]
        exact AGQ_ok h ⟨_, _, _, rfl, rfl, e5, e6⟩
      · rw [if_neg (nI_ne4 (by omega)), if_pos (nI_pos' (by omega))]
        rcases hy with rfl | hy
        · rw [if_pos rfl, if_neg (by decide)]
          exact AGQ_ok h ⟨_, _, _, rfl, rfl, e5, e6⟩
        · obtain ⟨d, hd, rfl⟩ := of_inR hy (by omega)
          have hm1 : ¬ nI d = -1 := fun z => by
            have := congrArg Int32.toInt z
            rw [nI_toInt (by omega), hy1] at this
            omega
          unfold pX2_beastAt
          rw [if_neg hm1, if_pos (nI_pos' (by omega)), x_at _ _ _ _ _ (by decide), bI_some, bI_some, rat_nI (by omega) (by decide), ld_nI (by omega) (by decide), hbest d hd]
          exact AGQ_ok h ⟨_, _, _, rfl, rfl, e5, e6⟩
    by_cases hy : y = -1
    · have hc : -1 ≤ y.toInt ∧ y.toInt ≤ (nd : Int) - 1 := by rw [hy, hy1]; omega
      rw [if_pos hy, if_pos hc, if_neg one_ne]
      exact hgo (Or.inl hy)
    · rw [if_neg hy, x_hasD hCC hR, bI_some]
      by_cases hy2 : inR y nd
      · have hc : -1 ≤ y.toInt ∧ y.toInt ≤ (nd : Int) - 1 := by omega
        rw [if_pos hy2, if_neg one_ne, if_pos hc, if_neg one_ne]
        exact hgo (Or.inr hy2)
      · have hc : ¬ (-1 ≤ y.toInt ∧ y.toInt ≤ (nd : Int) - 1) := fun z => by
          have hne : y.toInt ≠ -1 := fun q => hy (Int32.toInt_inj.mp (q.trans hy1.symm))
          exact hy2 ⟨by omega, by omega⟩
        rw [if_neg hy2, if_pos rfl, if_neg hc, if_pos rfl]
        exact AG_s h
  · rw [if_neg hx, if_pos rfl, if_pos rfl]; exact AG_s h
