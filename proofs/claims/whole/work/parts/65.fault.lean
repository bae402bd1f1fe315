/-! PURE: the loop over the items; fault -/
section LP
variable {n fu k0 : Nat} {c : Nat → Nat}
theorem m_end26 {B : Mem} {t : Nat} {f : Int32} (Ke : Mem → Res) (h26 : B 0 26 = 1) : pX10_reads_16 fu Ke (t + 1) f B = Ke B := by
  show pX10_reads_16b fu f B _ Ke = _
  unfold pX10_reads_16b
  split
  · rfl
  · rw [if_neg (by rw [h26]; decide)]
def PRo (k0 n : Nat) (A' B' : Mem) (r : Int32) : Prop := (r = -4 ∧ B' 0 26 = 0 ∧ ∃ np nd nb l, DC A' B' k0 np nd nb l) ∨ (∃ s', s' < n ∧ r = nI s' ∧ B' 0 26 = 1 ∧ B' 0 25 = nI s')
theorem pr_loop (hk0 : 5 ≤ k0) (hf : 1000 < fu) (Ke : Mem → Res) : ∀ (m s i t t' : Nat) (A B : Mem) (x : Int32) (np nd nb : Nat) (l : Nat → Nat → Nat), TX A n c → TM B n c → n ≤ s + m → s ≤ n → i ≤ s → B 0 24 = nI s → B 0 26 = 0 → DC A B k0 np nd nb l → (x = 0 ∨ x = 1) → (x = 1 → (∀ a b, l a b = 0) ∧ nd = 0) → m < t → m + 1 < t' → ∃ r A' B', pX7_firstFault_12 fu k0 t x (nI s) (nI i) A = some (r, A') ∧ pX10_reads_16 fu Ke t' x B = Ke B' ∧ FX k0 A A' ∧ pB B B' ∧ PRo k0 n A' B' r := by
  intro m
  induction m with
  | zero =>
    intro s i t t' A B x np nd nb l hT hTM hm hs hi h24 h26 hD hx hfst ht ht'
    obtain ⟨t, rfl⟩ : ∃ q, t = q + 1 := ⟨t - 1, by omega⟩
    obtain ⟨t', rfl⟩ : ∃ q, t' = q + 1 := ⟨t' - 1, by omega⟩
    have hn := hT.2.1
    have e : s = n := by omega
    subst e
    refine ⟨-4, A, B, ?_, ?_, fun _ _ _ _ => rfl, pB_rf B, Or.inl ⟨rfl, h26, np, nd, nb, l, hD⟩⟩
    · show pX7_firstFault_12b fu k0 x (nI s) (nI i) A _ = _
      unfold pX7_firstFault_12b pX5_length
      rw [bI_some, hT.1, if_pos ((nI_le_iff (by omega) (by omega)).mpr (Nat.le_refl s))]
      split <;> rfl
    · show pX10_reads_16b fu x B _ Ke = _
      unfold pX10_reads_16b
      rw [hTM.1, h24, if_pos ((nI_le_iff (by omega) (by omega)).mpr (Nat.le_refl s))]
  | succ m ih =>
    intro s i t t' A B x np nd nb l hT hTM hm hs hi h24 h26 hD hx hfst ht ht'
    have hn := hT.2.1
    obtain ⟨t, rfl⟩ : ∃ q, t = q + 1 := ⟨t - 1, by omega⟩
    obtain ⟨t', rfl⟩ : ∃ q, t' = q + 1 := ⟨t' - 1, by omega⟩
    by_cases hsn : s < n
    · have e1 : pX7_firstFault_12 fu k0 (t + 1) x (nI s) (nI i) A = pX7_firstFault_12b fu k0 x (nI s) (nI i) A (pX7_firstFault_12 fu k0 t) := rfl
      have e2 : pX10_reads_16 fu Ke (t' + 1) x B = pX10_reads_16b fu x B (pX10_reads_16 fu Ke t') Ke := rfl
      rw [e1, e2]
      obtain ⟨f, hf01, hst⟩ := one_item (fu := fu) (i := i) hk0 hT hTM hsn (by omega) h24 h26 hf hD hx hfst (pX7_firstFault_12 fu k0 t) (pX10_reads_16 fu Ke t') Ke
      rcases hst with ⟨q, A', B3, np', nd', nb', l', r1, r2, r3, r4, r5, r6, r7, r8, r9, r10⟩ | ⟨A', B3, f'', r1, r2, r3, r4, r5, r6⟩
      · rw [r1, r2]
        obtain ⟨r, A2, B2, a1, a2, a3, a4, a5⟩ := ih (q + 1) (i + 1) t t' A' B3 f np' nd' nb' l' (TX_FX hk0 hT r9) (TM_pB hTM r10) (by omega) (by omega) (by omega) r5 r6 r7 hf01 r8 (by omega) (by omega)
        exact ⟨r, A2, B2, a1, a2, FX_tr r9 a3, pB_tr r10 a4, a5⟩
      · rw [r1, r2]
        obtain ⟨t', rfl⟩ : ∃ q, t' = q + 1 := ⟨t' - 1, by omega⟩
        rw [m_end26 Ke r3]
        exact ⟨nI s, A', B3, rfl, rfl, r5, r6, Or.inr ⟨s, hsn, rfl, r3, r4⟩⟩
    · exact ih s i (t + 1) (t' + 1) A B x np nd nb l hT hTM (by omega) hs hi h24 h26 hD hx hfst (by omega) (by omega)
/-! the beginning -/
theorem m_clears22 : ∀ (m i t : Nat) (B : Mem), i + m = 64 → m < t → pX10_clears_22 fu t (nI i) B = some (0, upR (upR B 7 (fun j => if i ≤ j ∧ j < 64 then -4 else B 7 j)) 12 (fun j => if 704 + i ≤ j ∧ j < 768 then 0 else B 12 j)) := by
  intro m
  induction m with
  | zero =>
    intro i t B hi ht
    obtain ⟨t, rfl⟩ : ∃ q, t = q + 1 := ⟨t - 1, by omega⟩
    show pX10_clears_22b fu (nI i) B _ = _
    unfold pX10_clears_22b
    rw [if_pos (show (64 : Int32) ≤ nI i from (nI_le_iff (a := 64) (by decide) (by omega)).mpr (by omega))]
    congr 2
    rw [show (fun j => if i ≤ j ∧ j < 64 then (-4 : Int32) else B 7 j) = B 7 from by funext j; rw [if_neg (by omega)], show (fun j => if 704 + i ≤ j ∧ j < 768 then (0 : Int32) else B 12 j) = B 12 from by funext j; rw [if_neg (by omega)], upR_self, upR_self]
  | succ m ih =>
    intro i t B hi ht
    obtain ⟨t, rfl⟩ : ∃ q, t = q + 1 := ⟨t - 1, by omega⟩
    show pX10_clears_22b fu (nI i) B _ = _
    unfold pX10_clears_22b
    rw [if_neg (show ¬ (64 : Int32) ≤ nI i from fun z => by have := (nI_le_iff (a := 64) (by decide) (by omega)).mp z; omega), sto_nI (by omega) (by decide), show (704 : Int32) + nI i = nI (704 + i) from nI_add 704 i, sto_nI (by omega) (by decide), nI_1, ih (i + 1) t _ (by omega) (by omega)]
    congr 2
    funext a
    by_cases z : a = 12
    · subst z
      rw [upR_at, upR_at]
      funext j
      rw [upR_at, upR_ne (by decide)]
      by_cases y : j = 704 + i
      · subst y; rw [if_neg (by omega), upd_at, if_pos (by omega)]
      · rw [upd_ne y]
        by_cases y2 : 704 + (i + 1) ≤ j ∧ j < 768
        · rw [if_pos y2, if_pos (by omega)]
        · rw [if_neg y2, if_neg (by omega)]
    · rw [upR_ne z, upR_ne z]
      by_cases y : a = 7
      · subst y
        rw [upR_at, upR_at]
        funext j
        rw [upR_ne (by decide), upR_at]
        by_cases x : j = i
        · subst x; rw [if_neg (by omega), upd_at, if_pos (by omega)]
        · rw [upd_ne x]
          by_cases y2 : i + 1 ≤ j ∧ j < 64
          · rw [if_pos y2, if_pos (by omega)]
          · rw [if_neg y2, if_neg (by omega)]
      · rw [upR_ne y, upR_ne z, upR_ne y, upR_ne y]
theorem parse {A B : Mem} (hk0 : 5 ≤ k0) (hT : TX A n c) (hTM : TM B n c) (hf : 1000 < fu) : ∃ r A' B', pX7_firstFault fu k0 A = some (r, A') ∧ pX10_reads fu B = some ((if r = -4 then 1 else 0), B') ∧ FX k0 A A' ∧ pB B B' ∧ PRo k0 n A' B' r := by
  have hn := hT.2.1
  obtain ⟨A1, hA1, ha0, hl1, hc1, hm1⟩ : ∃ A1, pX1_clear fu k0 A = some (0, A1) ∧ (A1 k0 10 = 5 ∧ A1 k0 11 = 0 ∧ A1 k0 12 = 0) ∧ (∀ j, j < 64 → A1 (k0 + 1 + 0) j = 0) ∧ (∀ j, j < 8 → A1 (k0 + 1 + 8) j = 0) ∧ (∀ j, j < 8 → A1 (k0 + 1 + 9) j = 0) ∧ FX k0 A A1 := by
    unfold pX1_clear fpt
    rw [x_clear _ _ _ _ (by decide) (by omega), bV_some, x_clear _ _ _ _ (by decide) (by omega), bV_some, x_clear _ _ _ _ (by decide) (by omega), bV_some]
    refine ⟨_, rfl, ⟨?_, ?_, ?_⟩, ?_, ?_, ?_, ?_⟩
    · rw [up2_eq, upR_at, upd_ne (by decide), up2_eq, upR_at, upd_ne (by decide), up2_eq, upR_at, upd_at]
    · rw [up2_eq, upR_at, upd_ne (by decide), up2_eq, upR_at, upd_at]
    · rw [up2_eq, upR_at, upd_at]
    · intro j hj
      rw [up2_eq, upR_ne (by omega), up2_eq, upR_ne (by omega), up2_eq, upR_ne (by omega), upR_ne (by omega), upR_ne (by omega), upR_at, if_pos hj]
    · intro j hj
      rw [up2_eq, upR_ne (by omega), up2_eq, upR_ne (by omega), up2_eq, upR_ne (by omega), upR_ne (by omega), upR_at, if_pos hj]
    · intro j hj
      rw [up2_eq, upR_ne (by omega), up2_eq, upR_ne (by omega), up2_eq, upR_ne (by omega), upR_at, if_pos hj]
    · intro k h3 h4 hk
      rw [up2_eq, upR_ne (by omega), up2_eq, upR_ne (by omega), up2_eq, upR_ne (by omega), upR_ne (by omega), upR_ne (by omega), upR_ne (by omega)]
  obtain ⟨hm1, hF1⟩ := hm1
  obtain ⟨B1, hB1, hb0, hb7, hb12, hb12', hbk, hbo⟩ : ∃ B1, pX10_clears fu B = some (0, B1) ∧ (B1 0 10 = 5 ∧ B1 0 12 = 0 ∧ B1 0 13 = 0 ∧ B1 0 16 = 0) ∧ (∀ j, j < 64 → B1 7 j = -4) ∧ (∀ j, 704 ≤ j → j < 768 → B1 12 j = 0) ∧ (∀ j, j < 704 → B1 12 j = B 12 j) ∧ (∀ k, k ≠ 0 → k ≠ 7 → k ≠ 12 → B1 k = B k) ∧ (∀ j, j ≠ 10 → j ≠ 12 → j ≠ 13 → j ≠ 16 → B1 0 j = B 0 j) := by
    unfold pX10_clears fpt
    have e := m_clears22 (fu := fu) 64 0 fu (up2 (up2 (up2 (up2 B 0 10 5) 0 12 0) 0 13 0) 0 16 0) (by omega) (by omega)
    have e' : pX10_clears_22 fu fu 0 (up2 (up2 (up2 (up2 B 0 10 5) 0 12 0) 0 13 0) 0 16 0) = _ := e
    dsimp only
    rw [e']
    have r0 : up2 (up2 (up2 (up2 B 0 10 5) 0 12 0) 0 13 0) 0 16 0 0 = upd (upd (upd (upd (B 0) 10 5) 12 0) 13 0) 16 0 := by
      rw [up2_eq, upR_at, up2_eq, upR_at, up2_eq, upR_at, up2_eq, upR_at]
    have rk : ∀ k, k ≠ 0 → up2 (up2 (up2 (up2 B 0 10 5) 0 12 0) 0 13 0) 0 16 0 k = B k := fun k hk => by
      rw [up2_eq, upR_ne hk, up2_eq, upR_ne hk, up2_eq, upR_ne hk, up2_eq, upR_ne hk]
    refine ⟨_, rfl, ⟨?_, ?_, ?_, ?_⟩, fun j hj => ?_, fun j h1 h2 => ?_, fun j hj => ?_, fun k h0 h7 h12 => ?_, fun j h1 h2 h3 h4 => ?_⟩
    · rw [upR_ne (by decide), upR_ne (by decide), r0, upd_ne (by decide), upd_ne (by decide), upd_ne (by decide), upd_at]
    · rw [upR_ne (by decide), upR_ne (by decide), r0, upd_ne (by decide), upd_ne (by decide), upd_at]
    · rw [upR_ne (by decide), upR_ne (by decide), r0, upd_ne (by decide), upd_at]
    · rw [upR_ne (by decide), upR_ne (by decide), r0, upd_at]
    · rw [upR_ne (by decide), upR_at, if_pos (by omega)]
    · rw [upR_at, if_pos (by omega)]
    · rw [upR_at, if_neg (by omega), rk 12 (by decide)]
    · rw [upR_ne h12, upR_ne h7, rk k h0]
    · rw [upR_ne (by decide), upR_ne (by decide), r0, upd_ne h4, upd_ne h3, upd_ne h2, upd_ne h1]
  -- both begin
  have eB : ∀ K : Mem → Res, (fpt B1 0 24 0 fun M2 => fpz M2 0 26 0 K) = K (s26 (s24 B1 0) 0) := fun K => by
    unfold fpt fpz
    dsimp only
    rw [if_pos (Or.inl rfl), up_026]
    exact congrArg (fun z => K (s26 z 0)) (up2_eq _ _ _ _)
  have E2 : eqP B1 (s26 (s24 B1 0) 0) := eqP_tr (eqP_24 _ _) (eqP_26 _ _)
  have pB1 : pB B B1 := ⟨fun k h1 h2 => hbk k (by omega) (by omega) (by omega), hbk 13 (by decide) (by decide) (by decide), fun j hj => hbo j (by omega) (by omega) (by omega) (by omega), hb12'⟩
  have hDC : DC A1 B1 k0 5 0 0 (fun _ _ => 0) := by
    refine ⟨by omega, ha0, ⟨hb0.1, hb0.2.2.1, hb0.2.2.2⟩, fun a b ha hb => ⟨Nat.zero_le 9, rfl, fun _ => rfl, hl1 _ (by omega), ?_⟩, fun d hd => absurd hd (by omega), fun b hb => absurd hb (by omega), fun x hx => ⟨0, by omega, hc1 x hx, hb12 _ (by omega) (by omega)⟩, ⟨fun _ => false, ?_, fun x hx => ?_⟩, fun j hj _ => hb12 _ (by omega) (by omega)⟩
    · rw [hb7 _ (by omega)]; rfl
    · rw [hb0.2.1]; decide
    · rw [hm1 x hx]; rfl
  obtain ⟨r, A', B', e1, e2, e3, e4, e5⟩ := pr_loop (n := n) (c := c) hk0 hf (fun M14 => pX10_reads_114 fu M14) n 0 0 fu fu A1 (s26 (s24 B1 0) 0) 1 5 0 0 (fun _ _ => 0) (TX_FX hk0 hT hF1) (TM_eq (TM_pB hTM pB1) E2) (by omega) (by omega) (by omega) (by rw [s26_24, s24_24]) (s26_26 _ _) (DC_cong hDC hk0 (eqX_rf _) E2) (Or.inr rfl) (fun _ => ⟨fun _ _ => rfl, rfl⟩) (by omega) (by omega)
  have e1' : pX7_firstFault_12 fu k0 fu 1 0 0 A1 = _ := e1
  refine ⟨r, A', B', ?_, ?_, FX_tr hF1 e3, pB_tr pB1 (pB_tr (eqP_mB E2).1 e4), e5⟩
  · unfold pX7_firstFault
    rw [hA1, bV_some, e1']
  · unfold pX10_reads
    rw [hB1, bV_some, eB, e2]
    unfold pX10_reads_114
    rw [rtz_0, rtz_1]
    rcases e5 with ⟨rfl, h26, -⟩ | ⟨s', hs', rfl, h26, -⟩
    · rw [if_pos h26, if_pos rfl]
    · rw [if_neg (by rw [h26]; decide), if_neg (nI_ne4 (by omega))]
end LP
theorem TX_of {A B : Mem} (h : TXT A B) : ∃ n c, TX A n c ∧ TM B n c := by
  obtain ⟨n, hn, h1, h2, h3⟩ := h
  have hc : ∀ j, j < n → 32 ≤ (A 2 j).toNatClampNeg ∧ (A 2 j).toNatClampNeg ≤ 126 ∧ A 2 j = nI (A 2 j).toNatClampNeg ∧ B 13 j = nI (A 2 j).toNatClampNeg := fun j hj => by
    obtain ⟨c, c1, c2, c3, c4⟩ := h3 j hj
    rw [c3, nI_clamp (by omega)]
    exact ⟨c1, c2, rfl, c4⟩
  exact ⟨n, fun j => (A 2 j).toNatClampNeg, ⟨h1, hn, fun j hj => ⟨(hc j hj).1, (hc j hj).2.1, (hc j hj).2.2.1⟩⟩, ⟨h2, fun j hj => (hc j hj).2.2.2⟩⟩
theorem FX_pA {A A' : Mem} (h : FX 16 A A') : pA A A' := fun k hk => h k (by omega) (by omega) (by omega)
theorem a_fault {A B : Mem} {fu : Nat} (h : REL A B) (hf : 1000 < fu) : AGREE (pX9_fault fu A) (pX10_fault fu B) := by
  have h' := h
  obtain ⟨np, nd, nb, ln, ds, -, -, hT, -⟩ := h'
  obtain ⟨n, c, t1, t2⟩ := TX_of hT
  obtain ⟨r, A', B', e1, e2, e3, e4, e5⟩ := parse (fu := fu) (k0 := 16) (by decide) t1 t2 hf
  unfold pX9_fault pX10_fault
  rw [e1, bI_some, e2, bI_some]
  have hn := t1.2.1
  rcases e5 with ⟨rfl, -⟩ | ⟨s', hs', rfl, -, h25⟩
  · rw [if_pos rfl, if_neg one_ne]
    exact AGQ_ok h ⟨_, _, _, rfl, rfl, FX_pA e3, e4⟩
  · rw [if_neg (nI_ne4 (by omega)), if_pos rfl, h25]
    exact AGQ_ok h ⟨_, _, _, rfl, rfl, FX_pA e3, e4⟩
