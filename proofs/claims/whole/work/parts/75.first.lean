/-! PURE: the first court -/
section FC
variable {A0 A B : Mem} {fu s i np nd nb k : Nat}
theorem x_clearT (A : Mem) (k0 fu : Nat) (hf : 1000 < fu) : ∃ A1, pX1_clear fu k0 A = some (0, A1) ∧ (A1 k0 10 = 5 ∧ A1 k0 11 = 0 ∧ A1 k0 12 = 0) ∧ (∀ j, j < 64 → A1 (k0 + 1 + 0) j = 0) ∧ (∀ j, j < 8 → A1 (k0 + 1 + 8) j = 0) ∧ (∀ j, j < 8 → A1 (k0 + 1 + 9) j = 0) ∧ FX k0 A A1 := by
  unfold pX1_clear fpt
  rw [x_clear _ _ _ _ (by decide) (by omega), bV_some, x_clear _ _ _ _ (by decide) (by omega), bV_some, x_clear _ _ _ _ (by decide) (by omega), bV_some]
  refine ⟨_, rfl, ⟨?_, ?_, ?_⟩, ?_, ?_, ?_, ?_⟩
  · rw [up2_eq, upR_at, upd_ne (by decide), up2_eq, upR_at, upd_ne (by decide), up2_eq, upR_at, upd_at]
  · rw [up2_eq, upR_at, upd_ne (by decide), up2_eq, upR_at, upd_at]
  · rw [up2_eq, upR_at, upd_at]
  · intro j hj
    rw [up2_eq, upR_ne (by omega), up2_eq, upR_ne (by omega), up2_eq, upR_ne (by omega), upR_ne (by omega), upR_ne (by omega), upR_at, if_pos hj]
  · intro j hj
    rw [up2_eq, upR_ne (by omega), up2_eq, upR_ne (by omega), up2_eq, upR_ne (by omega), upR_ne (by omega), upR_at, if_pos hj]
  · intro j hj
    rw [up2_eq, upR_ne (by omega), up2_eq, upR_ne (by omega), up2_eq, upR_ne (by omega), upR_at, if_pos hj]
  · intro k h3 h4 hk
    rw [up2_eq, upR_ne (by omega), up2_eq, upR_ne (by omega), up2_eq, upR_ne (by omega), upR_ne (by omega), upR_ne (by omega), upR_ne (by omega)]
theorem m_clearsT (B : Mem) (fu : Nat) (hf : 1000 < fu) : ∃ B1, pX10_clears fu B = some (0, B1) ∧ (B1 0 10 = 5 ∧ B1 0 12 = 0 ∧ B1 0 13 = 0 ∧ B1 0 16 = 0) ∧ (∀ j, j < 64 → B1 7 j = -4) ∧ (∀ j, 704 ≤ j → j < 768 → B1 12 j = 0) ∧ (∀ j, j < 704 → B1 12 j = B 12 j) ∧ (∀ k, k ≠ 0 → k ≠ 7 → k ≠ 12 → B1 k = B k) ∧ (∀ j, j ≠ 10 → j ≠ 12 → j ≠ 13 → j ≠ 16 → B1 0 j = B 0 j) := by
  unfold pX10_clears fpt
  have e := m_clears22 (fu := fu) 64 0 fu (up2 (up2 (up2 (up2 B 0 10 5) 0 12 0) 0 13 0) 0 16 0) (by omega) (by omega)
  have e' : pX10_clears_22 fu fu 0 (up2 (up2 (up2 (up2 B 0 10 5) 0 12 0) 0 13 0) 0 16 0) = _ := e
  dsimp only
  rw [e']
  have r0 : up2 (up2 (up2 (up2 B 0 10 5) 0 12 0) 0 13 0) 0 16 0 0 = upd (upd (upd (upd (B 0) 10 5) 12 0) 13 0) 16 0 := by
    rw [up2_eq, upR_at, up2_eq, upR_at, up2_eq, upR_at, up2_eq, upR_at]
  have rk : ∀ k, k ≠ 0 → up2 (up2 (up2 (up2 B 0 10 5) 0 12 0) 0 13 0) 0 16 0 k = B k := fun k hk => by
    rw [up2_eq, upR_ne hk, up2_eq, upR_ne hk, up2_eq, upR_ne hk, up2_eq, upR_ne hk]
  refine ⟨_, rfl, ⟨?_, ?_, ?_, ?_⟩, fun j hj => ?_, fun j h1 h2 => ?_, fun j hj => ?_, fun k h0 h7 h12 => ?_, fun j h1 h2 h3 h4 => ?_⟩
  · rw [upR_ne (by decide), upR_ne (by decide), r0, upd_ne (by decide), upd_ne (by decide), upd_ne (by decide), upd_at]
  · rw [upR_ne (by decide), upR_ne (by decide), r0, upd_ne (by decide), upd_ne (by decide), upd_at]
  · rw [upR_ne (by decide), upR_ne (by decide), r0, upd_ne (by decide), upd_at]
  · rw [upR_ne (by decide), upR_ne (by decide), r0, upd_at]
  · rw [upR_ne (by decide), upR_at, if_pos (by omega)]
  · rw [upR_at, if_pos (by omega)]
  · rw [upR_at, if_neg (by omega), rk 12 (by decide)]
  · rw [upR_ne h12, upR_ne h7, rk k h0]
  · rw [upR_ne (by decide), upR_ne (by decide), r0, upd_ne h4, upd_ne h3, upd_ne h2, upd_ne h1]
theorem m_leadsT {v w u : Nat} (hv : v < 8) (hw : w < 8) : pX10_leads fu (nI v) (nI w) (nI u) B = some (0, upR B 7 (upd (upd (B 7) (8 * v + w) (nI u)) (8 * w + v) (nI u))) := by
  unfold pX10_leads
  rw [ix8, ix8, sto_nI (by omega) (by decide), sto_nI (by omega) (by decide), upR_upR, upR_at]
theorem fc_cls (hT : TX A 120 fcN) (hs : s < 120) (hi : i < 200) (hf : 1000 < fu) (hk : k = 1 ∨ k = 2 ∨ k = 3) {P : Nat → Nat → Nat → Prop} {X : Mem → Nat → Nat → Nat → Mem} (hTk : TKF fu 5 (fcN s) k A P X) (hX : ∀ A1 v w u, X A1 v w u 3 = A1 3) {f x : Int32} (hx : (x = 1 ∧ fcN s = 110 ∧ f = 1) ∨ ((x = 0 ∨ x = 1) ∧ fcN s ≠ 110 ∧ f = 0)) {v w u q : Nat} (hW : WW k fcN 120 (s + 1) v w u q) (h9 : chr fcN 120 q = 59) (hP : P v w u) (t : Nat) : ∃ A1, eqX A A1 ∧ pX7_firstFault_12 fu 5 (t + 1) x (nI s) (nI i) A = pX7_firstFault_12 fu 5 t f (nI (q + 1)) (nI (i + 1)) (X A1 v w u) := by
  have hb := fc_b s hs
  have e0 : pX7_firstFault_12 fu 5 (t + 1) x (nI s) (nI i) A = pX7_firstFault_12b fu 5 x (nI s) (nI i) A (pX7_firstFault_12 fu 5 t) := rfl
  have e12 : pX7_firstFault_12b fu 5 x (nI s) (nI i) A (pX7_firstFault_12 fu 5 t) = pX7_firstFault_65 fu 5 f (nI s) (nI i) (nI (fcN s)) A (pX7_firstFault_12 fu 5 t) := by
    unfold pX7_firstFault_12b pX5_length pX7_firstFault_52 pX7_firstFault_53
    rw [if_neg (show ¬ (200 : Int32) ≤ nI i from fun z => by have := (nI_le_iff (a := 200) (by decide) (by omega)).mp z; omega), bI_some, hT.1, if_neg (fun z => by have := (nI_le_iff (by omega) (by omega)).mp z; omega), x_ch hT hs, bI_some]
    rcases hx with ⟨rfl, q, rfl⟩ | ⟨hx, q, rfl⟩
    · have q' : nI (fcN s) = (110 : Int32) := by rw [q]; rfl
      rw [if_neg one_ne, if_pos q', if_pos q', if_neg one_ne]
    · have q' : ¬ nI (fcN s) = (110 : Int32) := fun z => q ((nI_eq_iff (b := 110) (by omega) (by decide)).mp z)
      rcases hx with rfl | rfl
      · rw [if_pos rfl, if_neg q']
      · rw [if_neg one_ne, if_neg q', if_neg q']
  rcases cls (i := i) hT (show s ≤ 200 by omega) hf hk hTk f (pX7_firstFault_12 fu 5 t) with ⟨v', w', u', q', A1, hW', h9', hP', hE, h32, hq, hsq, hR⟩ | ⟨A2, -, -, hno⟩
  · obtain ⟨rfl, rfl, rfl, rfl⟩ := WW_f hW hW'
    exact ⟨A1, hE, by rw [e0, e12, hR, hX, h32]⟩
  · exact absurd hP (hno v w u q hW h9)
/-- where the two are, behind i items -/
def FCS (fu : Nat) (A0 A B : Mem) (s i : Nat) (x : Int32) (np nd nb : Nat) : Prop := ∃ t, i + t = fu ∧ pX7_firstFault_12 fu 5 fu 1 (nI 0) (nI 0) A0 = pX7_firstFault_12 fu 5 t x (nI s) (nI i) A ∧ TX A 120 fcN ∧ FX 5 A0 A ∧ (B 0 12 = 0 ∧ B 0 20 = 0 ∧ B 0 21 = 0 ∧ B 0 22 = 0) ∧ ∃ l, DC A B 5 np nd nb l
theorem fs_step {B' : Mem} {np' nd' nb' : Nat} (hf : 1000 < fu) (h : FCS fu A0 A B s i 0 np nd nb) (hs : s < 120) (hi : i < 200) (hk : k = 1 ∨ k = 2 ∨ k = 3) {P : Nat → Nat → Nat → Prop} {X : Mem → Nat → Nat → Nat → Mem} (hTk : ∀ l, DC A B 5 np nd nb l → TKF fu 5 (fcN s) k A P X) (hX : ∀ A1 v w u, X A1 v w u 3 = A1 3 ∧ FX 5 A1 (X A1 v w u)) (hne : fcN s ≠ 110) {v w u q : Nat} (hW : WW k fcN 120 (s + 1) v w u q) (h9 : chr fcN 120 q = 59) (hP : P v w u) (hB : B' 0 20 = B 0 20 ∧ B' 0 21 = B 0 21 ∧ B' 0 22 = B 0 22) (h12 : B' 0 12 = B 0 12) (hDC : ∀ A1 l, DC A1 B 5 np nd nb l → ∃ l', DC (X A1 v w u) B' 5 np' nd' nb' l') : ∃ A', FCS fu A0 A' B' (q + 1) (i + 1) 0 np' nd' nb' := by
  obtain ⟨t, ht, e, hT, hF, hz, l, hD⟩ := h
  obtain ⟨t, rfl⟩ : ∃ y, t = y + 1 := ⟨t - 1, by omega⟩
  obtain ⟨A1, hE, hR⟩ := fc_cls (fu := fu) (i := i) (f := 0) (x := 0) hT hs hi hf hk (hTk l hD) (fun A1 v w u => (hX A1 v w u).1) (Or.inr ⟨Or.inl rfl, hne, rfl⟩) hW h9 hP t
  have hF1 : FX 5 A (X A1 v w u) := FX_tr (FX_eq hE) (hX A1 v w u).2
  exact ⟨X A1 v w u, t, by omega, by rw [e, hR], TX_FX (by decide) hT hF1, FX_tr hF hF1, ⟨by rw [h12]; exact hz.1, by rw [hB.1]; exact hz.2.1, by rw [hB.2.1]; exact hz.2.2.1, by rw [hB.2.2]; exact hz.2.2.2⟩, hDC A1 l (DC_cong hD (by decide) hE (eqP_rf B))⟩
theorem fs_w (v w u q : Nat) (hf : 1000 < fu) (h : FCS fu A0 A B s i 0 np nd nb) (hs : s < 120) (hi : i < 200) (hc : fcN s = 119) (hW : W3 fcN 120 (s + 1) v w u q) (h9 : chr fcN 120 q = 59) (hn : np ≤ 8) (hP : v < np ∧ w < np ∧ v ≠ w ∧ 1 ≤ u ∧ u ≤ 9) : ∃ A' B', pX10_leads fu (nI v) (nI w) (nI u) B = some (0, B') ∧ FCS fu A0 A' B' (q + 1) (i + 1) 0 np nd nb := by
  obtain ⟨A', h'⟩ := fs_step (k := 3) (P := fun v w u => v < np ∧ w < np ∧ v ≠ w ∧ 1 ≤ u ∧ u ≤ 9) (X := fun A1 v w u => wyX A1 5 v w u) (B' := upR B 7 (upd (upd (B 7) (8 * v + w) (nI u)) (8 * w + v) (nI u))) (np' := np) (nd' := nd) (nb' := nb) hf h hs hi (Or.inr (Or.inr rfl)) (fun l hD => by rw [hc]; exact tkW hD (by decide)) (fun A1 v w u => ⟨upR_ne (by omega), fun k _ _ h => upR_ne (by omega)⟩) (by rw [hc]; decide) hW h9 hP ⟨by rw [upR_ne (by decide)], by rw [upR_ne (by decide)], by rw [upR_ne (by decide)]⟩ (by rw [upR_ne (by decide)]) (fun A1 l hD => ⟨_, DC_w hD hP⟩)
  exact ⟨A', _, m_leadsT (by omega) (by omega), h'⟩
theorem fs_d (v w q : Nat) (hf : 1000 < fu) (h : FCS fu A0 A B s i 0 np nd nb) (hs : s < 120) (hi : i < 200) (hc : fcN s = 100) (hW : W2 fcN 120 (s + 1) v w q) (h9 : chr fcN 120 q = 59) (hP : nd < 4 ∧ v ≤ 3 ∧ w < np) : ∃ A' B', pX10_opens fu (nI v) (nI w) B = some (0, B') ∧ FCS fu A0 A' B' (q + 1) (i + 1) 0 np (nd + 1) nb := by
  have h13 : B 0 13 = nI nd := by
    obtain ⟨t, -, -, -, -, -, l, hD⟩ := h
    exact hD.2.2.1.2.1
  obtain ⟨A', h'⟩ := fs_step (k := 2) (u := 0) (P := fun v w _ => nd < 4 ∧ v ≤ 3 ∧ w < np) (X := fun A1 v w _ => doX A1 5 nd v w) (B' := opM B nd v w) (np' := np) (nd' := nd + 1) (nb' := nb) hf h hs hi (Or.inr (Or.inl rfl)) (fun l hD => by rw [hc]; exact tkD hD (by decide)) (fun A1 v w u => ⟨by unfold doX; rw [upR_ne (by omega), upR_ne (by omega), upR_ne (by omega)], fun k _ _ h => by unfold doX; rw [upR_ne (by omega), upR_ne (by omega), upR_ne (by omega)]⟩) (by rw [hc]; decide) ⟨hW, rfl⟩ h9 hP (by unfold opM; refine ⟨?_, ?_, ?_⟩ <;> rw [upR_at, upd_ne (by decide)]) (by unfold opM; rw [upR_at, upd_ne (by decide)]) (fun A1 l hD => ⟨_, DC_d hD hP⟩)
  exact ⟨A', _, m_opens h13 hP.1, h'⟩
theorem fs_b (v w u q : Nat) (hf : 1000 < fu) (h : FCS fu A0 A B s i 0 np nd nb) (hs : s < 120) (hi : i < 200) (hc : fcN s = 98) (hW : W3 fcN 120 (s + 1) v w u q) (h9 : chr fcN 120 q = 59) (hP : nb < 5 ∧ v ≤ 3 ∧ 1 ≤ w ∧ w ≤ 3 ∧ u ≤ 9) : ∃ A' B', pX10_comes fu (nI v) (nI w) (nI u) B = some (0, B') ∧ FCS fu A0 A' B' (q + 1) (i + 1) 0 np nd (nb + 1) := by
  have h16 : B 0 16 = nI nb := by
    obtain ⟨t, -, -, -, -, -, l, hD⟩ := h
    exact hD.2.2.1.2.2
  obtain ⟨A', h'⟩ := fs_step (k := 3) (P := fun v w u => nb < 5 ∧ v ≤ 3 ∧ 1 ≤ w ∧ w ≤ 3 ∧ u ≤ 9) (X := fun A1 v w u => beX A1 5 nb v w u) (B' := coM B nb v w u) (np' := np) (nd' := nd) (nb' := nb + 1) hf h hs hi (Or.inr (Or.inr rfl)) (fun l hD => by rw [hc]; exact tkB hD (by decide)) (fun A1 v w u => ⟨by unfold beX; rw [upR_ne (by omega), upR_ne (by omega), upR_ne (by omega), upR_ne (by omega)], fun k _ _ h => by unfold beX; rw [upR_ne (by omega), upR_ne (by omega), upR_ne (by omega), upR_ne (by omega)]⟩) (by rw [hc]; decide) hW h9 hP (by unfold coM; refine ⟨?_, ?_, ?_⟩ <;> rw [upR_at, upd_ne (by decide)]) (by unfold coM; rw [upR_at, upd_ne (by decide)]) (fun A1 l hD => ⟨_, DC_b hD hP⟩)
  exact ⟨A', _, m_comes h16 hP.1, h'⟩
theorem fs_c (v w q z : Nat) (hf : 1000 < fu) (h : FCS fu A0 A B s i 0 np nd nb) (hs : s < 120) (hi : i < 200) (hc : fcN s = 99) (hW : W2 fcN 120 (s + 1) v w q) (h9 : chr fcN 120 q = 59) (hn : np ≤ 8) (hz : z = 759 + v) (hP : v < np ∧ w ≤ 9) : ∃ A' B', up2 B 12 (nI z).toNatClampNeg (nI w) = B' ∧ FCS fu A0 A' B' (q + 1) (i + 1) 0 np nd nb := by
  obtain ⟨A', h'⟩ := fs_step (k := 2) (u := 0) (P := fun v w _ => v < np ∧ w ≤ 9) (X := fun A1 v w _ => upR A1 (5 + 1 + 8) (upd (A1 (5 + 1 + 8)) v (nI w))) (B' := upR B 12 (upd (B 12) (759 + v) (nI w))) (np' := np) (nd' := nd) (nb' := nb) hf h hs hi (Or.inr (Or.inl rfl)) (fun l hD => by rw [hc]; exact tkC hD (by decide)) (fun A1 v w u => ⟨upR_ne (by omega), fun k _ _ h => upR_ne (by omega)⟩) (by rw [hc]; decide) ⟨hW, rfl⟩ h9 hP ⟨by rw [upR_ne (by decide)], by rw [upR_ne (by decide)], by rw [upR_ne (by decide)]⟩ (by rw [upR_ne (by decide)]) (fun A1 l hD => ⟨_, DC_c hD hP⟩)
  exact ⟨A', _, by rw [up2_eq, nI_clamp (by omega), hz], h'⟩
/-- the last item: the mare; the text ends there -/
theorem fs_m (v : Nat) (hf : 1000 < fu) (h : FCS fu A0 A B 117 i 0 np nd nb) (hi : i < 199) (hc : fcN 117 = 109) (hW : W1 fcN 120 118 v 119) (h9 : chr fcN 120 119 = 59) (hP : v < np) : ∃ A', pX7_firstFault_12 fu 5 fu 1 0 0 A0 = some (-4, A') ∧ FX 5 A0 A' ∧ ∃ l, DC A' (up2 B 0 12 (1 <<< (nI v &&& 31))) 5 np nd nb l := by
  obtain ⟨t, ht, e, hT, hF, hz, l, hD⟩ := h
  obtain ⟨t, rfl⟩ : ∃ y, t = y + 1 + 1 := ⟨t - 2, by omega⟩
  obtain ⟨A1, hE, hR⟩ := fc_cls (fu := fu) (i := i) (f := 0) (x := 0) (k := 1) (w := 0) (u := 0) (P := fun v _ _ => v < np) (X := fun A1 v _ _ => upR A1 (5 + 1 + 9) (upd (A1 (5 + 1 + 9)) v 1)) hT (by decide) (by omega) hf (Or.inl rfl) (by rw [hc]; exact tkM hD (by decide)) (fun A1 v w u => upR_ne (by omega)) (Or.inr ⟨Or.inl rfl, by rw [hc]; decide, rfl⟩) ⟨hW, rfl, rfl⟩ h9 hP (t + 1)
  have hF1 : FX 5 A (upR A1 (5 + 1 + 9) (upd (A1 (5 + 1 + 9)) v 1)) := FX_tr (FX_eq hE) (fun k _ _ h => upR_ne (by omega))
  have hT1 := TX_FX (by decide) hT hF1
  refine ⟨_, ?_, FX_tr hF hF1, l, ?_⟩
  · have e' : pX7_firstFault_12 fu 5 fu 1 0 0 A0 = _ := e
    rw [e', hR]
    show pX7_firstFault_12b fu 5 0 (nI 120) (nI (i + 1)) _ _ = _
    unfold pX7_firstFault_12b pX5_length
    rw [bI_some, hT1.1, if_pos ((nI_le_iff (by omega) (by omega)).mpr (Nat.le_refl 120))]
    split <;> rfl
  · have := DC_m (DC_cong hD (by decide) hE (eqP_rf B)) hP
    rw [hz.1] at this
    rw [up2_eq]
    rw [show (0 : Int32) ||| (1 <<< (nI v &&& 31)) = 1 <<< (nI v &&& 31) from by simp] at this
    exact this
theorem fc_start (A : Mem) (hf : 1000 < fu) (hT : TX A 120 fcN) : ∃ A' Bf, pX7_firstFault fu 5 A = some (-4, A') ∧ pM2 fu mZ = (bV (pX10_settles fu Bf) fun M => some (0, M)) ∧ FX 5 A A' ∧ (Bf 0 20 = 0 ∧ Bf 0 21 = 0 ∧ Bf 0 22 = 0) ∧ ∃ l, DC A' Bf 5 7 4 4 l := by
  obtain ⟨A1, hA1, ha0, hl1, hc1, hm1, hF1⟩ := x_clearT A 5 fu hf
  obtain ⟨B1, hB1, hb0, hb7, hb12, hb12', hbk, hbo⟩ := m_clearsT mZ fu hf
  have hDC : DC A1 B1 5 5 0 0 (fun _ _ => 0) := by
    refine ⟨by omega, ha0, ⟨hb0.1, hb0.2.2.1, hb0.2.2.2⟩, fun a b ha hb => ⟨Nat.zero_le 9, rfl, fun _ => rfl, hl1 _ (by omega), ?_⟩, fun d hd => absurd hd (by omega), fun b hb => absurd hb (by omega), fun x hx => ⟨0, by omega, hc1 x hx, hb12 _ (by omega) (by omega)⟩, ⟨fun _ => false, ?_, fun x hx => ?_⟩, fun j hj _ => hb12 _ (by omega) (by omega)⟩
    · rw [hb7 _ (by omega)]; rfl
    · rw [hb0.2.1]; decide
    · rw [hm1 x hx]; rfl
  have hT1 := TX_FX (by decide) hT hF1
  obtain ⟨t, rfl⟩ : ∃ y, fu = y + 1 := ⟨fu - 1, by omega⟩
  obtain ⟨A2, hE2, hR2⟩ := fc_cls (fu := t + 1) (s := 0) (i := 0) (f := 1) (x := 1) (k := 1) (v := 7) (w := 0) (u := 0) (q := 2) (P := fun v _ _ => 1 ≤ v ∧ v ≤ 8) (X := fun A1 v _ _ => upR A1 5 (upd (A1 5) 10 (nI v))) hT1 (by decide) (by decide) hf (Or.inl rfl) (by rw [show fcN 0 = 110 by decide]; exact tkN) (fun A1 v w u => upR_ne (by omega)) (Or.inl ⟨rfl, by decide, rfl⟩) ⟨by unfold W1; decide +kernel, rfl, rfl⟩ (by decide +kernel) (by decide) t
  have hF2 : FX 5 A1 (upR A2 5 (upd (A2 5) 10 (nI 7))) := FX_tr (FX_eq hE2) (fun k _ _ h => upR_ne (by omega))
  obtain ⟨B2, eB2⟩ : ∃ B2, up2 B1 0 10 (nI 7) = B2 := ⟨_, rfl⟩
  have S1 : ∃ t', 1 + t' = t + 1 ∧ pX7_firstFault_12 (t + 1) 5 (t + 1) 1 (nI 0) (nI 0) A1 = pX7_firstFault_12 (t + 1) 5 t' 1 (nI 3) (nI 1) (upR A2 5 (upd (A2 5) 10 (nI 7))) := ⟨t, by omega, hR2⟩
  have hT2 := TX_FX (by decide) hT1 hF2
  have hz2 : B2 0 12 = 0 ∧ B2 0 20 = 0 ∧ B2 0 21 = 0 ∧ B2 0 22 = 0 := by
    rw [← eB2, up2_eq]
    refine ⟨?_, ?_, ?_, ?_⟩ <;> rw [upR_at, upd_ne (by decide)]
    · exact hb0.2.1
    all_goals exact hbo _ (by decide) (by decide) (by decide) (by decide)
  have hD2 : DC (upR A2 5 (upd (A2 5) 10 (nI 7))) B2 5 7 0 0 (fun _ _ => 0) := by
    rw [← eB2, up2_eq]
    exact DC_n (DC_cong hDC (by decide) hE2 (eqP_rf _)) (fun _ _ => rfl) rfl (by decide) (by decide)
  generalize upR A2 5 (upd (A2 5) 10 (nI 7)) = A3 at *
  -- the second item: still the first flag
  obtain ⟨t', ht', hS1⟩ := S1
  obtain ⟨t', rfl⟩ : ∃ y, t' = y + 1 := ⟨t' - 1, by omega⟩
  obtain ⟨A4, hE4, hR4⟩ := fc_cls (fu := t + 1) (s := 3) (i := 1) (f := 0) (x := 1) (k := 3) (v := 0) (w := 1) (u := 2) (q := 9) (P := fun v w u => v < 7 ∧ w < 7 ∧ v ≠ w ∧ 1 ≤ u ∧ u ≤ 9) (X := fun A1 v w u => wyX A1 5 v w u) hT2 (by decide) (by decide) hf (Or.inr (Or.inr rfl)) (by rw [show fcN 3 = 119 by decide]; exact tkW hD2 (by decide)) (fun A1 v w u => upR_ne (by omega)) (Or.inr ⟨Or.inr rfl, by decide, rfl⟩) ⟨7, ⟨5, by decide +kernel, by decide +kernel, by decide +kernel⟩, by decide +kernel, by decide +kernel⟩ (by decide +kernel) (by decide) t'
  have hF4 : FX 5 A3 (wyX A4 5 0 1 2) := FX_tr (FX_eq hE4) (fun k _ _ h => upR_ne (by omega))
  obtain ⟨B4, eB4⟩ : ∃ B4, upR B2 7 (upd (upd (B2 7) (8 * 0 + 1) (nI 2)) (8 * 1 + 0) (nI 2)) = B4 := ⟨_, rfl⟩
  have S2 : FCS (t + 1) A1 (wyX A4 5 0 1 2) B4 10 2 0 7 0 0 := ⟨t', by omega, by rw [hS1, hR4], TX_FX (by decide) hT2 hF4, FX_tr hF2 hF4, by rw [← eB4]; exact ⟨by rw [upR_ne (by decide)]; exact hz2.1, by rw [upR_ne (by decide)]; exact hz2.2.1, by rw [upR_ne (by decide)]; exact hz2.2.2.1, by rw [upR_ne (by decide)]; exact hz2.2.2.2⟩, _, by rw [← eB4]; exact DC_w (DC_cong hD2 (by decide) hE4 (eqP_rf _)) (by decide)⟩
  have e2 : pX10_leads (t + 1) (nI 0) (nI 1) (nI 2) B2 = some (0, B4) := by rw [← eB4]; exact m_leadsT (by decide) (by decide)
  obtain ⟨A5, B5, e3, S3⟩ := fs_w 1 2 3 16 hf S2 (by decide) (by decide) (by decide) ⟨14, ⟨12, by decide +kernel, by decide +kernel, by decide +kernel⟩, by decide +kernel, by decide +kernel⟩ (by decide +kernel) (by decide) (by decide)
  obtain ⟨A6, B6, e4, S4⟩ := fs_w 2 3 1 23 hf S3 (by decide) (by decide) (by decide) ⟨21, ⟨19, by decide +kernel, by decide +kernel, by decide +kernel⟩, by decide +kernel, by decide +kernel⟩ (by decide +kernel) (by decide) (by decide)
  obtain ⟨A7, B7, e5, S5⟩ := fs_w 1 4 4 30 hf S4 (by decide) (by decide) (by decide) ⟨28, ⟨26, by decide +kernel, by decide +kernel, by decide +kernel⟩, by decide +kernel, by decide +kernel⟩ (by decide +kernel) (by decide) (by decide)
  obtain ⟨A8, B8, e6, S6⟩ := fs_w 4 5 2 37 hf S5 (by decide) (by decide) (by decide) ⟨35, ⟨33, by decide +kernel, by decide +kernel, by decide +kernel⟩, by decide +kernel, by decide +kernel⟩ (by decide +kernel) (by decide) (by decide)
  obtain ⟨A9, B9, e7, S7⟩ := fs_w 3 5 5 44 hf S6 (by decide) (by decide) (by decide) ⟨42, ⟨40, by decide +kernel, by decide +kernel, by decide +kernel⟩, by decide +kernel, by decide +kernel⟩ (by decide +kernel) (by decide) (by decide)
  obtain ⟨A10, B10, e8, S8⟩ := fs_w 0 6 6 51 hf S7 (by decide) (by decide) (by decide) ⟨49, ⟨47, by decide +kernel, by decide +kernel, by decide +kernel⟩, by decide +kernel, by decide +kernel⟩ (by decide +kernel) (by decide) (by decide)
  obtain ⟨A11, B11, e9, S9⟩ := fs_w 6 3 2 58 hf S8 (by decide) (by decide) (by decide) ⟨56, ⟨54, by decide +kernel, by decide +kernel, by decide +kernel⟩, by decide +kernel, by decide +kernel⟩ (by decide +kernel) (by decide) (by decide)
  obtain ⟨A12, B12, e10, S10⟩ := fs_d 0 3 63 hf S9 (by decide) (by decide) (by decide) ⟨61, by decide +kernel, by decide +kernel, by decide +kernel⟩ (by decide +kernel) (by decide)
  obtain ⟨A13, B13, e11, S11⟩ := fs_d 1 5 68 hf S10 (by decide) (by decide) (by decide) ⟨66, by decide +kernel, by decide +kernel, by decide +kernel⟩ (by decide +kernel) (by decide)
  obtain ⟨A14, B14, e12, S12⟩ := fs_d 2 4 73 hf S11 (by decide) (by decide) (by decide) ⟨71, by decide +kernel, by decide +kernel, by decide +kernel⟩ (by decide +kernel) (by decide)
  obtain ⟨A15, B15, e13, S13⟩ := fs_d 3 2 78 hf S12 (by decide) (by decide) (by decide) ⟨76, by decide +kernel, by decide +kernel, by decide +kernel⟩ (by decide +kernel) (by decide)
  obtain ⟨A16, B16, e14, S14⟩ := fs_b 0 1 3 85 hf S13 (by decide) (by decide) (by decide) ⟨83, ⟨81, by decide +kernel, by decide +kernel, by decide +kernel⟩, by decide +kernel, by decide +kernel⟩ (by decide +kernel) (by decide)
  obtain ⟨A17, B17, e15, S15⟩ := fs_b 1 2 5 92 hf S14 (by decide) (by decide) (by decide) ⟨90, ⟨88, by decide +kernel, by decide +kernel, by decide +kernel⟩, by decide +kernel, by decide +kernel⟩ (by decide +kernel) (by decide)
  obtain ⟨A18, B18, e16, S16⟩ := fs_b 2 1 7 99 hf S15 (by decide) (by decide) (by decide) ⟨97, ⟨95, by decide +kernel, by decide +kernel, by decide +kernel⟩, by decide +kernel, by decide +kernel⟩ (by decide +kernel) (by decide)
  obtain ⟨A19, B19, e17, S17⟩ := fs_b 3 3 2 106 hf S16 (by decide) (by decide) (by decide) ⟨104, ⟨102, by decide +kernel, by decide +kernel, by decide +kernel⟩, by decide +kernel, by decide +kernel⟩ (by decide +kernel) (by decide)
  obtain ⟨A20, B20, e18, S18⟩ := fs_c 2 1 111 761 hf S17 (by decide) (by decide) (by decide) ⟨109, by decide +kernel, by decide +kernel, by decide +kernel⟩ (by decide +kernel) (by decide) rfl (by decide)
  obtain ⟨A21, B21, e19, S19⟩ := fs_c 4 2 116 763 hf S18 (by decide) (by decide) (by decide) ⟨114, by decide +kernel, by decide +kernel, by decide +kernel⟩ (by decide +kernel) (by decide) rfl (by decide)
  obtain ⟨Af, f1, f2, f3⟩ := fs_m 4 hf S19 (by decide) (by decide) (by unfold W1; decide +kernel) (by decide +kernel) (by decide)
  have f0 : 1 <<< (nI 4 &&& 31) = nI 16 := by decide +kernel
  rw [f0] at f3
  have hzz : B21 0 20 = 0 ∧ B21 0 21 = 0 ∧ B21 0 22 = 0 := by
    obtain ⟨-, -, -, -, -, hz, -⟩ := S19
    exact hz.2
  refine ⟨Af, up2 B21 0 12 (nI 16), ?_, ?_, FX_tr hF1 f2, ?_, f3⟩
  · unfold pX7_firstFault
    rw [hA1, bV_some, f1]
  · unfold pM2
    rw [hB1, bV_some, eB2, e2, bV_some, e3, bV_some, e4, bV_some, e5, bV_some, e6, bV_some, e7, bV_some, e8, bV_some, e9, bV_some, e10, bV_some, e11, bV_some, e12, bV_some, e13, bV_some, e14, bV_some, e15, bV_some, e16, bV_some, e17, bV_some, e18, e19]
  · rw [up2_eq]
    refine ⟨?_, ?_, ?_⟩ <;> rw [upR_at, upd_ne (by decide)]
    · exact hzz.1
    · exact hzz.2.1
    · exact hzz.2.2
end FC
/-- the class's cells as they are made -/
def r5T : Nat → Int32 := fun j => if j = 10 then nI 5 else 0
def mX0 : Mem := fun k => if k = 5 then r5T else if k = 16 then r5T else fun _ => 0
theorem nar_okC : ∀ c, c < 127 → vp_nar .char (nI c) = nI c := by decide +kernel
/-- with i letters of the first court's text -/
def mTx (i : Nat) : Mem := upR (upR mX0 1 (fun j => if j = 1 then nI i else 0)) 2 (fun j => if j < i then nI (fcN j) else 0)
theorem mTx_0 : mTx 0 = mX0 := by
  funext k j
  unfold mTx upR
  by_cases h : k = 2
  · subst h
    simp [mX0]
  · by_cases h1 : k = 1
    · subst h1
      by_cases hj : j = 1
      · subst hj; simp [mX0]; exact nI_0
      · simp [mX0, hj]
    · simp [h, h1]
theorem mTx_1 (i : Nat) : mTx i 1 = fun j => if j = 1 then nI i else 0 := by
  unfold mTx
  rw [upR_ne (by decide), upR_at]
theorem mTx_2 (i : Nat) : mTx i 2 = fun j => if j < i then nI (fcN j) else 0 := by
  unfold mTx
  rw [upR_at]
theorem mTx_o {k i : Nat} (h1 : k ≠ 1) (h2 : k ≠ 2) : mTx i k = mX0 k := by
  unfold mTx
  rw [upR_ne h2, upR_ne h1]
theorem mTx_add {fu i : Nat} (hi : i < 120) : pX5_add fu (nI (fcN i)) (mTx i) = some (1, mTx (i + 1)) := by
  have hb := fc_b i hi
  have h1 : mTx i 1 1 = nI i := by unfold mTx; rw [upR_ne (by decide), upR_at, if_pos rfl]
  unfold pX5_add fpt
  rw [h1, if_neg (nI_pos (by omega)), if_pos (show nI i < (200 : Int32) from (nI_lt_iff (b := 200) (by omega) (by decide)).mpr (by omega)), sto_nI (by omega) (by decide)]
  dsimp only
  rw [upR_ne (by decide), h1, nI_1, rtz_1, up2_eq]
  refine congrArg (fun z => some ((1 : Int32), z)) ?_
  rw [(nar_okC (fcN i) (by omega))]
  funext k j
  by_cases h : k = 1
  · subst h
    rw [upR_at, upR_ne (show (1 : Nat) ≠ 2 by decide), mTx_1, mTx_1]
    dsimp only
    by_cases hj : j = 1
    · subst hj; rw [upd_at, if_pos rfl]
    · rw [upd_ne hj, if_neg hj, if_neg hj]
  · rw [upR_ne h]
    by_cases h2 : k = 2
    · subst h2
      rw [upR_at, mTx_2, mTx_2]
      dsimp only
      by_cases hj : j = i
      · subst hj; rw [upd_at, if_pos (by omega)]
      · rw [upd_ne hj]
        by_cases hl : j < i
        · rw [if_pos hl, if_pos (by omega)]
        · rw [if_neg hl, if_neg (by omega)]
    · rw [upR_ne h2, mTx_o h h2, mTx_o h h2]
theorem mTx_TX : TX (mTx 120) 120 fcN := by
  refine ⟨?_, by decide, fun j hj => ⟨(fc_b j hj).1, (fc_b j hj).2, ?_⟩⟩
  · unfold mTx; rw [upR_ne (by decide), upR_at, if_pos rfl]
  · unfold mTx; rw [upR_at, if_pos hj]
/-- what is left of the class's constructor -/
def pX2 (fu : Nat) : Res := bV (pX9_open fu (mTx 120)) fun M1 => bV (pX5_clear fu M1) fun M2 => some (0, M2)
theorem start_ok {fu : Nat} (hf : 1000 < fu) : ∃ Af Bf, pX2 fu = some (0, Af) ∧ pM2 fu mZ = some (0, Bf) ∧ REL Af Bf := by
  obtain ⟨A1, B1, e1, e2, e3, ⟨z20, z21, z22⟩, l, hD⟩ := fc_start (fu := fu) (mTx 120) hf mTx_TX
  have a29 : A1 29 1 = nI 0 := by rw [e3 29 (by decide) (by decide) (by omega)]; rfl
  have a47 : A1 47 1 = nI 0 := by rw [e3 47 (by decide) (by decide) (by omega)]; rfl
  obtain ⟨A3, B3, g1, g2, g3, g4, g5, g6, g7, g8, g9, g10, g11⟩ := open_core (fu := fu) hD (by decide) (by decide) ⟨0, by decide, a29⟩ ⟨0, by decide, a47⟩ hf
  obtain ⟨ds, r1, r2, r3, r4⟩ := g11 B3 (fun _ _ => rfl) (fun _ _ _ => rfl) (g9.trans z20) (g10.trans z21)
  have hx : pX2 fu = some (0, up2 A3 1 1 0) := by
    unfold pX2 pX9_open
    rw [e1, bI_some, g1, bV_some]
    unfold pX5_clear fpt
    rw [bV_some]
  refine ⟨up2 A3 1 1 0, B3, hx, by rw [e2, g2, bV_some], ?_⟩
  rw [up2_eq]
  have hC : CC A3 (upR A3 1 (upd (A3 1) 1 0)) := fun a h1 h2 => upR_ne (by omega)
  have h10 : upR A3 1 (upd (A3 1) 1 0) 10 = A3 10 := upR_ne (by decide)
  have hn := r1.1
  refine ⟨7, 4, 4, l, ds, RC_cong r1 hC (fun _ _ _ => rfl) rfl rfl rfl rfl, HMV_cong (by omega) (by omega) r2 (fun j _ => by rw [upR_ne (by decide)]) (fun j hj => rfl) h10, ⟨0, by decide, by rw [upR_at, upd_at]; rfl, by rw [g8]; exact z22, fun j hj => absurd hj (by omega)⟩, ?_, ?_⟩
  · obtain ⟨m, t, h1, h2, h3, h4, h5, h6⟩ := r3
    exact ⟨m, t, h1, h2, by rw [upR_ne (by decide)]; exact h3, by rw [upR_ne (by decide)]; exact h4, h5, fun i hi => HMV_cong (by omega) (by omega) (h6 i hi) (fun j _ => by rw [upR_ne (by omega)]) (fun j hj => rfl) h10⟩
  · obtain ⟨m, t, h1, h2, h3, h4, h5, h6⟩ := r4
    exact ⟨m, t, h1, h2, by rw [upR_ne (by decide)]; exact h3, by rw [upR_ne (by decide)]; exact h4, h5, fun i hi => HMV_cong (by omega) (by omega) (h6 i hi) (fun j _ => by rw [upR_ne (by omega)]) (fun j hj => rfl) h10⟩
