/-! PURE: lure -/
section LU
variable {A0 B0 : Mem} {np nd nb fu b : Nat} {ln ds : Nat → Nat → Nat}
/-- the trial with one carrot more in the i-th place -/
def sMore (f : Row) (i : Nat) : Row := upd f (55 + i) (imin (f (55 + i) + 1) 9)
theorem more_ok {C : Mem} {f : Row} (hn : nb ≤ 5) {i : Nat} (hi : i < np) (hV : HV C np nd nb ds f) : HV C np nd nb ds (sMore f i) := by
  obtain ⟨c, hc, e⟩ := hV.2 i hi
  unfold sMore
  rw [e, nI_1, show (9 : Int32) = nI 9 from rfl, imin_nI (by omega) (by decide)]
  exact v_car hn hV (by split <;> omega)
theorem x_more {A : Mem} (hp : np ≤ 8) (h28 : A 28 = A0 28) {i : Nat} (hi : i < np) : (bV (pX4_copy fu 54 27 A) fun M8 => bI (pX4_carrotsIn fu 27 (nI i) M8) fun r10 M9 => pX4_putCarrots fu 54 (nI i) (imin (r10 + (1 : Int32)) (9 : Int32)) M9) = some (0, upR A 55 (sMore (va_cpy (A0 28) (A 55) 0 0 64) i)) := by
  rw [x_copy, bV_some, x_carrotsIn, bI_some, x_putCarrots, show (55 : Int32) + nI i = nI (55 + i) from nI_add 55 i, rat_nI (by omega) (by decide), rpu_nI (by omega) (by decide)]
  rw [show 27 + 1 = 28 from rfl, show 54 + 1 = 55 from rfl, upR_ne (a := 28) (by decide), upR_at, upR_upR, h28]
  unfold sMore
  rw [cpy_at _ _ (show 55 + i < 64 by omega)]
theorem r_lure0 (hR : RC A0 B0 np nd nb ln ds) (hb : b < nb) (hf : 1000 < fu) : ∀ (m i t : Nat) (A : Mem), pA A0 A → i + m = np → m < t → ∃ A', pX3_luringPlace_38 fu 27 t (nI b) 0 (-4) (nI i) A = some (-4, A') ∧ pA A0 A' := by
  have hn := hR.1
  intro m
  induction m with
  | zero =>
    intro i t A hA hi ht
    obtain ⟨t, rfl⟩ : ∃ q, t = q + 1 := ⟨t - 1, by omega⟩
    refine ⟨A, ?_, hA⟩
    show pX3_luringPlace_38b fu 27 (nI b) 0 (-4) (nI i) A _ = _
    unfold pX3_luringPlace_38b
    rw [x_places (pA_CC hA), bI_some, hR.2.1.1, if_pos ((nI_le_iff (by omega) (by omega)).mpr (by omega))]
  | succ m ih =>
    intro i t A hA hi ht
    obtain ⟨t, rfl⟩ : ∃ q, t = q + 1 := ⟨t - 1, by omega⟩
    have hCC55 : ∀ f : Row, CC A0 (upR A 55 f) := fun f => CC_up (pA_CC hA) (by decide) f
    have hA55 : ∀ f : Row, pA A0 (upR A 55 f) := fun f => pA_tr hA (pA_up (by omega))
    have hmore := x_more (fu := fu) (A0 := A0) (np := np) (A := A) (by omega) (hA 28 (by omega)) (show i < np by omega)
    have hgo : ∀ f : Row, ∃ A', pX3_luringPlace_115 fu 27 (nI b) 0 (-4) (nI i) (upR A 55 f) (pX3_luringPlace_38 fu 27 t) = some (-4, A') ∧ pA A0 A' := fun f => by
      unfold pX3_luringPlace_115
      rw [nI_1]; exact ih (i + 1) t _ (hA55 f) (by omega) (by omega)
    show ∃ A', pX3_luringPlace_38b fu 27 (nI b) 0 (-4) (nI i) A (pX3_luringPlace_38 fu 27 t) = some (-4, A') ∧ pA A0 A'
    unfold pX3_luringPlace_38b
    rw [x_places (pA_CC hA), bI_some, hR.2.1.1, if_neg (fun q => by have := (nI_le_iff (by omega) (by omega)).mp q; omega)]
    have hstep : (bV (pX4_copy fu 54 27 A) fun M8 => bI (pX4_carrotsIn fu 27 (nI i) M8) fun r10 M9 => bV (pX4_putCarrots fu 54 (nI i) (imin (r10 + (1 : Int32)) (9 : Int32)) M9) fun M11 => bI (pX3_awaitBeast fu (nI b) M11) fun r13 M12 => if r13 = (-4 : Int32) then pX3_luringPlace_115 fu 27 (nI b) 0 (-4) (nI i) M12 (pX3_luringPlace_38 fu 27 t) else bI (pX4_readOf fu 54 (nI b) M12) fun r15 M14 => if (0 : Int32) ≤ r15 then pX3_luringPlace_115 fu 27 (nI b) 0 (-4) (nI i) M14 (pX3_luringPlace_38 fu 27 t) else bI (pX4_readOf fu 54 (nI b) M14) fun r17 M16 => pX3_luringPlace_115 fu 27 (nI b) r17 (nI i) (nI i) M16 (pX3_luringPlace_38 fu 27 t)) = (bV (bV (pX4_copy fu 54 27 A) fun M8 => bI (pX4_carrotsIn fu 27 (nI i) M8) fun r10 M9 => pX4_putCarrots fu 54 (nI i) (imin (r10 + (1 : Int32)) (9 : Int32)) M9) fun M11 => bI (pX3_awaitBeast fu (nI b) M11) fun r13 M12 => if r13 = (-4 : Int32) then pX3_luringPlace_115 fu 27 (nI b) 0 (-4) (nI i) M12 (pX3_luringPlace_38 fu 27 t) else bI (pX4_readOf fu 54 (nI b) M12) fun r15 M14 => if (0 : Int32) ≤ r15 then pX3_luringPlace_115 fu 27 (nI b) 0 (-4) (nI i) M14 (pX3_luringPlace_38 fu 27 t) else bI (pX4_readOf fu 54 (nI b) M14) fun r17 M16 => pX3_luringPlace_115 fu 27 (nI b) r17 (nI i) (nI i) M16 (pX3_luringPlace_38 fu 27 t)) := by
      cases pX4_copy fu 54 27 A with
      | none => rfl
      | some q =>
        simp only [bV]
        cases pX4_carrotsIn fu 27 (nI i) q.2 with
        | none => rfl
        | some q2 => rfl
    rw [hstep, hmore, bV_some, x_await (hCC55 _) hR.2.1.2.2 (by omega) (by omega) hf, bI_some, upR_at, upR_upR]
    split
    · exact hgo _
    · rw [x_readOf (hCC55 _) (by omega), bI_some, if_pos (by rw [i_le]; exact sRd_nn _ _ _ _)]
      exact hgo _
theorem r_lure (hR : RC A0 B0 np nd nb ln ds) (hN : HMV A0 B0 np nd nb ds 28 0) (hb : b < nb) (hf : 1000 < fu) : ∀ (m i t t2 : Nat) (A B : Mem) (best least : Int32), 0 ≤ least.toInt → pA A0 A → pB B0 B → i + m = np → m < t → m < t2 → ∃ r A' B', pX3_luringPlace_38 fu 27 t (nI b) least best (nI i) A = some (r, A') ∧ pX10_lure_43 fu t2 (nI b) least best (nI i) B = some (r, B') ∧ pA A0 A' ∧ pB B0 B' := by
  have hn := hR.1
  have hb5 : b < 5 := by omega
  intro m
  induction m with
  | zero =>
    intro i t t2 A B best least hl hA hB hi ht ht2
    obtain ⟨t, rfl⟩ : ∃ q, t = q + 1 := ⟨t - 1, by omega⟩
    obtain ⟨t2, rfl⟩ : ∃ q, t2 = q + 1 := ⟨t2 - 1, by omega⟩
    refine ⟨best, A, B, ?_, ?_, hA, hB⟩
    · show pX3_luringPlace_38b fu 27 (nI b) least best (nI i) A _ = _
      unfold pX3_luringPlace_38b
      rw [x_places (pA_CC hA), bI_some, hR.2.1.1, if_pos ((nI_le_iff (by omega) (by omega)).mpr (by omega))]
    · show pX10_lure_43b fu (nI b) least best (nI i) B _ = _
      unfold pX10_lure_43b
      rw [(pB_RC hR hB).2.2.1.1, if_pos ((nI_le_iff (by omega) (by omega)).mpr (by omega))]
  | succ m ih =>
    intro i t t2 A B best least hl hA hB hi ht ht2
    obtain ⟨t, rfl⟩ : ∃ q, t = q + 1 := ⟨t - 1, by omega⟩
    obtain ⟨t2, rfl⟩ : ∃ q, t2 = q + 1 := ⟨t2 - 1, by omega⟩
    have hip : i < np := by omega
    have hCC55 : ∀ f : Row, CC A0 (upR A 55 f) := fun f => CC_up (pA_CC hA) (by decide) f
    have hA55 : ∀ f : Row, pA A0 (upR A 55 f) := fun f => pA_tr hA (pA_up (by omega))
    have hmore := x_more (fu := fu) (A0 := A0) (np := np) (A := A) (by omega) (hA 28 (by omega)) hip
    generalize hfE : va_cpy (A0 28) (A 55) 0 0 64 = f at hmore
    have hRB := pB_RC hR hB
    obtain ⟨s1, k1, k2, k3, k4⟩ := m_try (fu := fu) (f := f) hRB (pB_HM (by omega) (by omega) hN.1 hB) hN.2 (fun j hj => by rw [← hfE, cpy_at _ _ hj]) hf
    have eC := k3.2.2.1 i hip
    have hE := HM_car (by omega) (by omega) k3 i hip (imin (f (55 + i) + 1) 9)
    have hVm := more_ok (ds := ds) (C := A0) (f := f) (by omega) hip k4
    have hR1 := RC_up hRB (k := 12) (by decide) (upd s1 (704 + (55 + i)) (imin (f (55 + i) + 1) 9))
    obtain ⟨s2, p1, p2⟩ := m_readThen (fu := fu) (f := sMore f i) hR1 hb (by rw [upR_at]; exact hE) hVm hf
    rw [upR_at] at p2
    have hB2 : pB B0 (upR B 12 s2) := pB_tr hB (pB_fr (fr_tr k2 (fr_tr (fr_upd (by omega)) p2)))
    have hn0 : ¬ least < 0 := fun q => by rw [i_lt] at q; have h0 : (0 : Int32).toInt = 0 := rfl; omega
    -- the reference's step
    have mstep : pX10_lure_43 fu (t2 + 1) (nI b) least best (nI i) B = (if sRT A0 nb b (sMore f i) < 0 then pX10_lure_43 fu t2 (nI b) least best (nI (i + 1)) (upR B 12 s2) else if least ≤ sRT A0 nb b (sMore f i) then pX10_lure_43 fu t2 (nI b) least best (nI (i + 1)) (upR B 12 s2) else pX10_lure_43 fu t2 (nI b) (sRT A0 nb b (sMore f i)) (nI i) (nI (i + 1)) (upR B 12 s2)) := by
      show pX10_lure_43b fu (nI b) least best (nI i) B (pX10_lure_43 fu t2) = _
      unfold pX10_lure_43b
      rw [hRB.2.2.1.1, if_neg (fun q => by have := (nI_le_iff (by omega) (by omega)).mp q; omega), if_neg hn0, k1, bV_some, show (759 : Int32) + nI i = nI (704 + (55 + i)) by rw [show 704 + (55 + i) = 759 + i by omega]; exact nI_add 759 i, ld_nI (by omega) (by decide), upR_at, eC, m_smaller, bI_some, sto_nI (by omega) (by decide), upR_at, upR_upR, p1, bI_some, upR_upR]
      simp only [pX10_lure_115, pX10_lure_116, pX10_lure_129, pX10_lure_141, nI_1, if_true, if_neg one_ne]
    have xstep : pX3_luringPlace_38 fu 27 (t + 1) (nI b) least best (nI i) A = (if (sAwait A0 nb b (sMore f i)).1 = -4 then pX3_luringPlace_38 fu 27 t (nI b) least best (nI (i + 1)) (upR A 55 (sAwait A0 nb b (sMore f i)).2) else if least ≤ sRd A0 (sAwait A0 nb b (sMore f i)).2 b ((sAwait A0 nb b (sMore f i)).2 (11 * b + 6)) then pX3_luringPlace_38 fu 27 t (nI b) least best (nI (i + 1)) (upR A 55 (sAwait A0 nb b (sMore f i)).2) else pX3_luringPlace_38 fu 27 t (nI b) (sRd A0 (sAwait A0 nb b (sMore f i)).2 b ((sAwait A0 nb b (sMore f i)).2 (11 * b + 6))) (nI i) (nI (i + 1)) (upR A 55 (sAwait A0 nb b (sMore f i)).2)) := by
      show pX3_luringPlace_38b fu 27 (nI b) least best (nI i) A (pX3_luringPlace_38 fu 27 t) = _
      unfold pX3_luringPlace_38b
      rw [x_places (pA_CC hA), bI_some, hR.2.1.1, if_neg (fun q => by have := (nI_le_iff (by omega) (by omega)).mp q; omega)]
      rw [x_copy, bV_some, x_carrotsIn, bI_some] at hmore ⊢
      rw [hmore, bV_some, x_await (hCC55 _) hR.2.1.2.2 (by omega) hb5 hf, bI_some, upR_at, upR_upR, x_readOf (hCC55 _) hb5, bI_some, x_readOf (hCC55 _) hb5, bI_some, show 54 + 1 = 55 from rfl, upR_at]
      simp only [pX3_luringPlace_115, nI_1]
    have h0 : (0 : Int32).toInt = 0 := rfl
    unfold sRT at mstep
    by_cases q : (sAwait A0 nb b (sMore f i)).1 = -4
    · rw [if_pos q] at xstep
      rw [if_pos q, if_pos (by decide)] at mstep
      rw [xstep, mstep]
      exact ih (i + 1) t t2 _ _ best least hl (hA55 _) hB2 (by omega) (by omega) (by omega)
    · have hnn := sRd_nn A0 (sAwait A0 nb b (sMore f i)).2 b ((sAwait A0 nb b (sMore f i)).2 (11 * b + 6))
      rw [if_neg q] at xstep
      rw [if_neg q, if_neg (fun z => by rw [i_lt, h0] at z; omega)] at mstep
      rw [xstep, mstep]
      by_cases q2 : least ≤ sRd A0 (sAwait A0 nb b (sMore f i)).2 b ((sAwait A0 nb b (sMore f i)).2 (11 * b + 6))
      · rw [if_pos q2, if_pos q2]
        exact ih (i + 1) t t2 _ _ best least hl (hA55 _) hB2 (by omega) (by omega) (by omega)
      · rw [if_neg q2, if_neg q2]
        exact ih (i + 1) t t2 _ _ (nI i) _ hnn (hA55 _) hB2 (by omega) (by omega) (by omega)
end LU
theorem a_lure {A B : Mem} {fu : Nat} (h : REL A B) (hf : 1000 < fu) (x : Int32) : AGREE (pX9_lure fu x A) (pX10_lure fu x B) := by
  have h' := h
  obtain ⟨np, nd, nb, ln, ds, hR, hN, -⟩ := h'
  have hn := hR.1
  have hCC := CC_rf A
  unfold pX9_lure pX10_lure
  rw [x_hasB hCC hR, m_isBeast hR, bI_some, bI_some]
  by_cases hx : inR x nb
  · rw [if_pos hx, if_neg one_ne, if_neg one_ne]
    obtain ⟨b, hb, rfl⟩ := of_inR hx (by omega)
    have hb5 : b < 5 := by omega
    have e1 := slot0 hN.1 hb 1 (by decide) (by decide)
    rw [show off 1 + b = b from by simp [off]] at e1
    rw [x_is hb5, bI_some, ld_nI (by omega) (by decide), e1]
    by_cases h2 : A 28 (11 * b + 1) = 1
    · rw [if_pos h2, if_neg one_ne, if_pos h2]
      obtain ⟨s1, g1, g2, g3, g4⟩ := m_try (fu := fu) (f := va_cpy (A 28) (A 55) 0 0 64) hR hN.1 hN.2 (fun j hj => cpy_at _ _ hj) hf
      have hR1 := RC_up hR (k := 12) (by decide) s1
      obtain ⟨s2, p1, p2⟩ := m_readThen (fu := fu) hR1 hb (by rw [upR_at]; exact g3) g4 hf
      rw [upR_at] at p2
      unfold pX3_luringPlace
      rw [x_copy, bV_some, x_await (CC_up hCC (by decide) _) hR.2.1.2.2 (by omega) hb5 hf, bI_some, upR_upR, show 54 + 1 = 55 from rfl, upR_at, g1, bV_some, p1, bI_some, upR_upR, show 27 + 1 = 28 from rfl]
      have hB2 : pB B (upR B 12 s2) := pB_fr (fr_tr g2 p2)
      have hA2 : pA A (upR A 55 (sAwait A nb b (va_cpy (A 28) (A 55) 0 0 64)).2) := pA_up (by omega)
      unfold sRT
      by_cases q : (sAwait A nb b (va_cpy (A 28) (A 55) 0 0 64)).1 = -4
      · rw [if_pos q, if_pos q]
        obtain ⟨A', e1, e2⟩ := r_lure0 (fu := fu) hR hb hf np 0 fu _ hA2 (by omega) (by omega)
        unfold pX3_luringPlace_30
        have e1' : pX3_luringPlace_38 fu 27 fu (nI b) 0 (-4) 0 (upR A 55 (sAwait A nb b (va_cpy (A 28) (A 55) 0 0 64)).2) = some (-4, A') := e1
        rw [e1', bI_some]
        obtain ⟨t, ht⟩ : ∃ t, fu = t + 1 := ⟨fu - 1, by omega⟩
        have em : pX10_lure_43 fu fu (nI b) (-4) (-4) 0 (upR B 12 s2) = some (-4, upR B 12 s2) := by
          conv => lhs; arg 2; rw [ht]
          show pX10_lure_43b fu (nI b) (-4) (-4) 0 (upR B 12 s2) _ = _
          unfold pX10_lure_43b
          rw [(pB_RC hR hB2).2.2.1.1, show (0 : Int32) = nI 0 from rfl, if_neg (fun q => by have := (nI_le_iff (by omega) (by omega)).mp q; omega), if_pos (by decide)]
        rw [em]
        exact AGQ_ok h ⟨_, _, _, rfl, rfl, e2, hB2⟩
      · rw [if_neg q, if_neg q, x_readOf (CC_up hCC (by decide) _) hb5, bI_some, show 54 + 1 = 55 from rfl, upR_at]
        obtain ⟨r, A', B', e1, e2, e3, e4⟩ := r_lure (fu := fu) hR hN hb hf np 0 fu fu _ _ (-4) _ (sRd_nn A (sAwait A nb b (va_cpy (A 28) (A 55) 0 0 64)).2 b ((sAwait A nb b (va_cpy (A 28) (A 55) 0 0 64)).2 (11 * b + 6))) hA2 hB2 (by omega) (by omega) (by omega)
        unfold pX3_luringPlace_30
        have e1' : pX3_luringPlace_38 fu 27 fu (nI b) _ (-4) 0 _ = some (r, A') := e1
        have e2' : pX10_lure_43 fu fu (nI b) _ (-4) 0 _ = some (r, B') := e2
        rw [e1', e2', bI_some]
        exact AGQ_ok h ⟨_, _, _, rfl, rfl, e3, e4⟩
    · rw [if_neg h2, if_pos rfl, if_neg h2]; exact AG_s h
  · rw [if_neg hx, if_pos rfl, if_pos rfl]; exact AG_s h
