/-! PURE: right, soonest, meet, lure -/
theorem i_or0 (x : Int32) : x ||| 0 = x := by simp
section FRM
variable {A0 B0 A B : Mem} {np nd nb : Nat} {ln ds : Nat → Nat → Nat}
theorem pB_RC {C : Mem} (hR : RC C B0 np nd nb ln ds) (h : pB B0 B) : RC C B np nd nb ln ds :=
  RC_cong hR (CC_rf C) h.1 (h.2.2.1 0 (by omega)) (h.2.2.1 3 (by omega)) (h.2.2.1 4 (by omega)) (h.2.2.1 7 (by omega))
theorem pB_HM {f : Row} (hn : nb ≤ 5) (hp : np ≤ 8) (hM : HM np nb f (B0 12) 0) (h : pB B0 B) : HM np nb f (B 12) 0 :=
  HM_cong (M := B0) hn hp hM (fun _ _ => rfl) (fun j hj => h.2.2.2 _ (by omega))
end FRM
section RT
variable {A0 B0 : Mem} {np nd nb fu b : Nat} {ln ds : Nat → Nat → Nat}
theorem bFR_of {C : Mem} {f : Row} (hV : HV C np nd nb ds f) (hb : b < nb) (h : f (11 * b + 1) = 0) : bFR f b := by
  rcases hV.1 b hb with z | z | z
  · exact z
  · rw [z.1] at h; exact absurd h (by decide)
  · rcases z.1 with ⟨z1, -⟩ | ⟨z1, -⟩ <;> rw [z1] at h <;> exact absurd h (by decide)
/-- trySending -/
theorem x_try {A : Mem} (hR : RC A0 B0 np nd nb ln ds) (hN : HMV A0 B0 np nd nb ds 28 0) (hA : pA A0 A) (hb : b < nb) {d p : Nat} (hd : d < nd) (hp : p < np) (hC : A0 10 d = nI p) (v : Int32) : pX3_trySending fu 27 (nI b) v (nI d) A = some (if va_cpy (A0 28) (A 55) 0 0 64 (11 * b + 1) = 0 ∧ ds 0 p < 9999 then 1 else 0, upR A 55 (if va_cpy (A0 28) (A 55) 0 0 64 (11 * b + 1) = 0 ∧ ds 0 p < 9999 then sSend A0 (va_cpy (A0 28) (A 55) 0 0 64) b v (nI d) else va_cpy (A0 28) (A 55) 0 0 64)) := by
  have hn := hR.1
  have h28 : A 28 = A0 28 := hA 28 (by omega)
  have hV : HV A0 np nd nb ds (va_cpy (A0 28) (A 55) 0 0 64) := HV_cong (by omega) (by omega) hN.2 (fun j hj => cpy_at _ _ hj)
  unfold pX3_trySending
  rw [x_copy, bV_some, show 27 + 1 = 28 from rfl, show 54 + 1 = 55 from rfl, h28]
  have hCC1 : CC A0 (upR A 55 (va_cpy (A0 28) (A 55) 0 0 64)) := CC_up (pA_CC hA) (by decide) _
  rw [x_canSend (k := 54) hCC1 hR hb (by rw [show 54 + 1 = 55 from rfl, upR_at]; exact hV) hd hp hC, bI_some, show 54 + 1 = 55 from rfl, upR_at]
  by_cases q : va_cpy (A0 28) (A 55) 0 0 64 (11 * b + 1) = 0 ∧ ds 0 p < 9999
  · rw [if_pos q, if_neg one_ne, x_dispatch hCC1 (by decide) (by omega), bV_some, show 54 + 1 = 55 from rfl, upR_at, upR_upR, if_pos q]; rfl
  · rw [if_neg q, if_pos rfl, if_neg q]; rfl
theorem r_right (hR : RC A0 B0 np nd nb ln ds) (hN : HMV A0 B0 np nd nb ds 28 0) {d p w : Nat} (hd : d < nd) (hp : p < np) (hC : A0 10 d = nI p) (hw : w < 8) (hf : 1000 < fu) : ∀ (m i t t2 : Nat) (A B : Mem) (acc : Int32), pA A0 A → pB B0 B → i + m = nb → m < t → m < t2 → ∃ r A' B', pX3_rightBeasts_6 fu 27 t (nI d) (nI w) acc (nI i) A = some (r, A') ∧ pX10_right_27 fu t2 (nI d) (nI w) acc (nI i) B = some (r, B') ∧ pA A0 A' ∧ pB B0 B' := by
  have hn := hR.1
  intro m
  induction m with
  | zero =>
    intro i t t2 A B acc hA hB hi ht ht2
    obtain ⟨t, rfl⟩ : ∃ q, t = q + 1 := ⟨t - 1, by omega⟩
    obtain ⟨t2, rfl⟩ : ∃ q, t2 = q + 1 := ⟨t2 - 1, by omega⟩
    refine ⟨acc, A, B, ?_, ?_, hA, hB⟩
    · show pX3_rightBeasts_6b fu 27 (nI d) (nI w) acc (nI i) A _ = _
      unfold pX3_rightBeasts_6b
      rw [x_beasts (pA_CC hA), bI_some, hR.2.1.2.2, if_pos ((nI_le_iff (by omega) (by omega)).mpr (by omega))]
    · show pX10_right_27b fu (nI d) (nI w) acc (nI i) B _ = _
      unfold pX10_right_27b
      rw [(pB_RC hR hB).2.2.1.2.2, if_pos ((nI_le_iff (by omega) (by omega)).mpr (by omega))]
  | succ m ih =>
    intro i t t2 A B acc hA hB hi ht ht2
    obtain ⟨t, rfl⟩ : ∃ q, t = q + 1 := ⟨t - 1, by omega⟩
    obtain ⟨t2, rfl⟩ : ∃ q, t2 = q + 1 := ⟨t2 - 1, by omega⟩
    have hb : i < nb := by omega
    have hb5 : i < 5 := by omega
    have hRB := pB_RC hR hB
    obtain ⟨s', g1, g2⟩ := m_readSent (fu := fu) (f := va_cpy (A0 28) (A 55) 0 0 64) hRB hb (pB_HM (by omega) (by omega) hN.1 hB) hN.2 (fun j hj => cpy_at _ _ hj) hd hp hC (nI w) hf
    have hB' : pB B0 (upR B 12 s') := pB_tr hB (pB_fr g2)
    have hCC55 : ∀ f : Row, CC A0 (upR A 55 f) := fun f => CC_up (pA_CC hA) (by decide) f
    have hA55 : ∀ f : Row, pA A0 (upR A 55 f) := fun f => pA_tr hA (pA_up (by omega))
    have hnw : ¬ ((-4 : Int32) = nI w) := fun e => nI_ne4 (by omega) e.symm
    -- the reference's step
    have key : ∀ acc', (∃ r A' B', pX3_rightBeasts_6 fu 27 (t + 1) (nI d) (nI w) acc (nI i) A = some (r, A') ∧ pX10_right_27 fu t2 (nI d) (nI w) acc' (nI (i + 1)) (upR B 12 s') = some (r, B') ∧ pA A0 A' ∧ pB B0 B') → (acc ||| (if sRS A0 nb (ds 0 p < 9999) (va_cpy (A0 28) (A 55) 0 0 64) i (nI w) (nI d) = nI w then 1 <<< (nI i &&& 31) else 0) = acc') → ∃ r A' B', pX3_rightBeasts_6 fu 27 (t + 1) (nI d) (nI w) acc (nI i) A = some (r, A') ∧ pX10_right_27 fu (t2 + 1) (nI d) (nI w) acc (nI i) B = some (r, B') ∧ pA A0 A' ∧ pB B0 B' := by
      intro acc' ⟨r, A', B', e1, e2, e3, e4⟩ hacc
      refine ⟨r, A', B', e1, ?_, e3, e4⟩
      show pX10_right_27b fu (nI d) (nI w) acc (nI i) B (pX10_right_27 fu t2) = _
      unfold pX10_right_27b
      rw [hRB.2.2.1.2.2, if_neg (fun q => by have := (nI_le_iff (by omega) (by omega)).mp q; omega), g1, bI_some]
      simp only [pX10_right_57, nI_1]
      rw [← e2, ← hacc]
      split <;> rfl
    have xstep : pX3_rightBeasts_6 fu 27 (t + 1) (nI d) (nI w) acc (nI i) A = (bI (pX3_trySending fu 27 (nI i) (nI w) (nI d) A) fun r4 M3 => if r4 = 0 then pX3_rightBeasts_6 fu 27 t (nI d) (nI w) acc (nI (i + 1)) M3 else bI (pX3_awaitBeast fu (nI i) M3) fun r6 M5 => if r6 = (-4 : Int32) then pX3_rightBeasts_6 fu 27 t (nI d) (nI w) acc (nI (i + 1)) M5 else bI (pX4_readOf fu 54 (nI i) M5) fun r8 M7 => if r8 = nI w then pX3_rightBeasts_6 fu 27 t (nI d) (nI w) (acc ||| ((1 : Int32) <<< (nI i &&& 31))) (nI (i + 1)) M7 else pX3_rightBeasts_6 fu 27 t (nI d) (nI w) acc (nI (i + 1)) M7) := by
      show pX3_rightBeasts_6b fu 27 (nI d) (nI w) acc (nI i) A (pX3_rightBeasts_6 fu 27 t) = _
      unfold pX3_rightBeasts_6b
      rw [x_beasts (pA_CC hA), bI_some, hR.2.1.2.2, if_neg (fun q => by have := (nI_le_iff (by omega) (by omega)).mp q; omega)]
      simp only [pX3_rightBeasts_63, nI_1]
    rw [x_try hR hN hA hb hd hp hC (nI w), bI_some] at xstep
    unfold sRS at key
    by_cases q : va_cpy (A0 28) (A 55) 0 0 64 (11 * i + 1) = 0 ∧ ds 0 p < 9999
    · rw [if_pos q, if_neg one_ne, if_pos q, x_await (hCC55 _) hR.2.1.2.2 (by omega) hb5 hf, bI_some, upR_at, upR_upR] at xstep
      simp only [if_pos q] at key
      unfold sRT at key
      by_cases q2 : (sAwait A0 nb i (sSend A0 (va_cpy (A0 28) (A 55) 0 0 64) i (nI w) (nI d))).1 = -4
      · rw [if_pos q2] at xstep
        simp only [if_pos q2] at key
        refine key acc ?_ (by rw [if_neg hnw, i_or0])
        rw [xstep]
        exact ih (i + 1) t t2 _ _ acc (hA55 _) hB' (by omega) (by omega) (by omega)
      · rw [if_neg q2, x_readOf (hCC55 _) hb5, bI_some, show 54 + 1 = 55 from rfl, upR_at] at xstep
        simp only [if_neg q2] at key
        by_cases q3 : sRd A0 (sAwait A0 nb i (sSend A0 (va_cpy (A0 28) (A 55) 0 0 64) i (nI w) (nI d))).2 i ((sAwait A0 nb i (sSend A0 (va_cpy (A0 28) (A 55) 0 0 64) i (nI w) (nI d))).2 (11 * i + 6)) = nI w
        · rw [if_pos q3] at xstep
          refine key (acc ||| ((1 : Int32) <<< (nI i &&& 31))) ?_ (by rw [if_pos q3])
          rw [xstep]
          exact ih (i + 1) t t2 _ _ _ (hA55 _) hB' (by omega) (by omega) (by omega)
        · rw [if_neg q3] at xstep
          refine key acc ?_ (by rw [if_neg q3, i_or0])
          rw [xstep]
          exact ih (i + 1) t t2 _ _ acc (hA55 _) hB' (by omega) (by omega) (by omega)
    · rw [if_neg q, if_pos rfl, if_neg q] at xstep
      simp only [if_neg q] at key
      refine key acc ?_ (by rw [if_neg hnw, i_or0])
      rw [xstep]
      exact ih (i + 1) t t2 _ _ acc (hA55 _) hB' (by omega) (by omega) (by omega)
end RT
section Q2
variable {A B : Mem} {fu : Nat}
theorem a_right (h : REL A B) (hf : 1000 < fu) (x v : Int32) : AGREE (pX9_right fu x v A) (pX10_right fu x v B) := by
  have h' := h
  obtain ⟨np, nd, nb, ln, ds, hR, hN, -⟩ := h'
  have hn := hR.1
  have hCC := CC_rf A
  unfold pX9_right pX10_right
  rw [x_hasD hCC hR, m_isDoor hR, bI_some, bI_some]
  by_cases hx : inR x nd
  · rw [if_pos hx, if_neg one_ne, if_neg one_ne, x_isVerdict, m_in0 v 7 8 (by decide), bI_some, bI_some]
    by_cases hv : inR v 8
    · rw [if_pos hv, if_neg one_ne, if_neg one_ne]
      obtain ⟨d, hd, rfl⟩ := of_inR hx (by omega)
      obtain ⟨w, hw, rfl⟩ := of_inR hv (by decide)
      obtain ⟨p, kd, hp, -, q1, -, -, -⟩ := hR.2.2.2.2.2.2.2.1 d hd
      obtain ⟨r, A', B', e1, e2, e3, e4⟩ := r_right (fu := fu) hR hN hd hp q1 hw hf nb 0 fu fu A B 0 (pA_rf A) (pB_rf B) (by omega) (by omega) (by omega)
      have z0 : (0 : Int32) = nI 0 := rfl
      unfold pX3_rightBeasts
      have e1' : pX3_rightBeasts_6 fu 27 fu (nI d) (nI w) 0 0 A = some (r, A') := e1
      have e2' : pX10_right_27 fu fu (nI d) (nI w) 0 0 B = some (r, B') := e2
      rw [e1', e2', bI_some]
      exact AGQ_ok h ⟨r, A', B', rfl, rfl, e3, e4⟩
    · rw [if_neg hv, if_pos rfl, if_pos rfl]; exact AG_s h
  · rw [if_neg hx, if_pos rfl, if_pos rfl]; exact AG_s h
end Q2
