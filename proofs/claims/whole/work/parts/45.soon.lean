/-! PURE: soonest, meet, lure -/
theorem imax_ge (z y : Int32) : y.toInt ≤ (imax z y).toInt := by
  unfold imax
  by_cases h : z < y
  · rw [if_pos h]; omega
  · rw [if_neg h]; rw [i_lt] at h; omega
theorem nn_of {s : Int32} (h : 0 ≤ s.toInt) : ∃ n : Nat, n < 2 ^ 31 ∧ s = nI n := by
  have h' : ¬ s < 0 := fun q => by rw [i_lt] at q; have h0 : (0 : Int32).toInt = 0 := rfl; omega
  exact nI_of h'
theorem rdK_nn (kd s : Int32) (h : 0 ≤ s.toInt) : 0 ≤ (rdK kd s).toInt := by
  obtain ⟨n, hn, rfl⟩ := nn_of h
  unfold rdK
  have hrem : irm (nI n) 2 = nI (n % 2) := pk_rem hn (by decide) (by decide)
  have hdiv : nI n / 2 = nI (n / 2) := pk_div hn (by decide) (by decide)
  split
  · rw [hrem, pk_sub (by omega), nI_toInt (by omega)]; omega
  · split
    · have := imax_ge (nI n) 4
      have h4 : (4 : Int32).toInt = 4 := rfl
      omega
    · split
      · rw [hdiv, nI_toInt (by omega)]; omega
      · exact h
theorem sRd_nn (C : Mem) (f : Row) (b : Nat) (v : Int32) : 0 ≤ (sRd C f b v).toInt := by
  unfold sRd
  apply rdK_nn
  have := imax_ge (sSg2 C f b (f (11 * b + 9)) (sSg1 C b (f (11 * b + 9)) v) - f (11 * b + 7) - 2 * f (11 * b + 8)) 0
  have h0 : (0 : Int32).toInt = 0 := rfl
  unfold sSgn
  omega
theorem sRd_n4 (C : Mem) (f : Row) (b : Nat) (v : Int32) : ¬ sRd C f b v = -4 := fun e => by
  have := sRd_nn C f b v
  rw [e] at this
  have h4 : (-4 : Int32).toInt = -4 := rfl
  omega
section SO
variable {A0 B0 : Mem} {np nd nb fu b : Nat} {ln ds : Nat → Nat → Nat}
/-- how the two have the fewest hours -/
def FEW (x y : Int32) : Prop := (x = 100 ∧ y = 9999) ∨ ∃ n, n ≤ 99 ∧ x = nI n ∧ y = nI n
theorem r_soon (hR : RC A0 B0 np nd nb ln ds) (hN : HMV A0 B0 np nd nb ds 28 0) {d p w : Nat} (hd : d < nd) (hp : p < np) (hC : A0 10 d = nI p) (hw : w < 8) (hf : 1000 < fu) : ∀ (m i t t2 : Nat) (A B : Mem) (best few least : Int32), FEW few least → pA A0 A → pB B0 B → i + m = nb → m < t → m < t2 → ∃ r A' B', pX3_soonestBeast_11 fu 27 t (nI d) (nI w) best few (nI i) A = some (r, A') ∧ pX10_soonest_33 fu t2 (nI d) (nI w) best least (nI i) B = some (r, B') ∧ pA A0 A' ∧ pB B0 B' := by
  have hn := hR.1
  intro m
  induction m with
  | zero =>
    intro i t t2 A B best few least hFE hA hB hi ht ht2
    obtain ⟨t, rfl⟩ : ∃ q, t = q + 1 := ⟨t - 1, by omega⟩
    obtain ⟨t2, rfl⟩ : ∃ q, t2 = q + 1 := ⟨t2 - 1, by omega⟩
    refine ⟨best, A, B, ?_, ?_, hA, hB⟩
    · show pX3_soonestBeast_11b fu 27 (nI d) (nI w) best few (nI i) A _ = _
      unfold pX3_soonestBeast_11b
      rw [x_beasts (pA_CC hA), bI_some, hR.2.1.2.2, if_pos ((nI_le_iff (by omega) (by omega)).mpr (by omega))]
    · show pX10_soonest_33b fu (nI d) (nI w) best least (nI i) B _ = _
      unfold pX10_soonest_33b
      rw [(pB_RC hR hB).2.2.1.2.2, if_pos ((nI_le_iff (by omega) (by omega)).mpr (by omega))]
  | succ m ih =>
    intro i t t2 A B best few least hFE hA hB hi ht ht2
    obtain ⟨t, rfl⟩ : ∃ q, t = q + 1 := ⟨t - 1, by omega⟩
    obtain ⟨t2, rfl⟩ : ∃ q, t2 = q + 1 := ⟨t2 - 1, by omega⟩
    have hb : i < nb := by omega
    have hb5 : i < 5 := by omega
    have hRB := pB_RC hR hB
    have hMB := pB_HM (by omega) (by omega) hN.1 hB
    obtain ⟨s', g1, g2⟩ := m_readSent (fu := fu) (f := va_cpy (A0 28) (A 55) 0 0 64) hRB hb hMB hN.2 (fun j hj => cpy_at _ _ hj) hd hp hC (nI w) hf
    have hB' : pB B0 (upR B 12 s') := pB_tr hB (pB_fr g2)
    have hCC55 : ∀ f : Row, CC A0 (upR A 55 f) := fun f => CC_up (pA_CC hA) (by decide) f
    have hA55 : ∀ f : Row, pA A0 (upR A 55 f) := fun f => pA_tr hA (pA_up (by omega))
    have hnw : ¬ ((-4 : Int32) = nI w) := fun e => nI_ne4 (by omega) e.symm
    have xstep : pX3_soonestBeast_11 fu 27 (t + 1) (nI d) (nI w) best few (nI i) A = (bI (pX3_trySending fu 27 (nI i) (nI w) (nI d) A) fun r4 M3 => if r4 = 0 then pX3_soonestBeast_46 fu 27 (nI d) (nI w) best few (nI i) (-4 : Int32) M3 (pX3_soonestBeast_11 fu 27 t) else bI (pX3_awaitBeast fu (nI i) M3) fun r8 M7 => pX3_soonestBeast_46 fu 27 (nI d) (nI w) best few (nI i) r8 M7 (pX3_soonestBeast_11 fu 27 t)) := by
      show pX3_soonestBeast_11b fu 27 (nI d) (nI w) best few (nI i) A (pX3_soonestBeast_11 fu 27 t) = _
      unfold pX3_soonestBeast_11b
      rw [x_beasts (pA_CC hA), bI_some, hR.2.1.2.2, if_neg (fun q => by have := (nI_le_iff (by omega) (by omega)).mp q; omega)]
    rw [x_try hR hN hA hb hd hp hC (nI w), bI_some] at xstep
    have mstep : pX10_soonest_33 fu (t2 + 1) (nI d) (nI w) best least (nI i) B = (if sRS A0 nb (ds 0 p < 9999) (va_cpy (A0 28) (A 55) 0 0 64) i (nI w) (nI d) = nI w then (bV (pX10_copies fu (0 : Int32) (704 : Int32) (upR B 12 s')) fun M7 => bV (pX10_sends fu (704 : Int32) (nI i) (nI w) (nI d) M7) fun M8 => bI (pX10_standsBehind fu (nI i) M8) fun r10 M9 => if least ≤ r10 then pX10_soonest_94 fu (nI d) (nI w) least (nI i) r10 best M9 (pX10_soonest_33 fu t2) else pX10_soonest_94 fu (nI d) (nI w) least (nI i) r10 (nI i) M9 (pX10_soonest_33 fu t2)) else pX10_soonest_33 fu t2 (nI d) (nI w) best least (nI (i + 1)) (upR B 12 s')) := by
      show pX10_soonest_33b fu (nI d) (nI w) best least (nI i) B (pX10_soonest_33 fu t2) = _
      unfold pX10_soonest_33b
      rw [hRB.2.2.1.2.2, if_neg (fun q => by have := (nI_le_iff (by omega) (by omega)).mp q; omega), g1, bI_some]
      simp only [pX10_soonest_104, nI_1]
    have skip : ∀ A1 : Mem, pA A0 A1 → pX3_soonestBeast_11 fu 27 (t + 1) (nI d) (nI w) best few (nI i) A = pX3_soonestBeast_11 fu 27 t (nI d) (nI w) best few (nI (i + 1)) A1 → ¬ sRS A0 nb (ds 0 p < 9999) (va_cpy (A0 28) (A 55) 0 0 64) i (nI w) (nI d) = nI w → ∃ r A' B', pX3_soonestBeast_11 fu 27 (t + 1) (nI d) (nI w) best few (nI i) A = some (r, A') ∧ pX10_soonest_33 fu (t2 + 1) (nI d) (nI w) best least (nI i) B = some (r, B') ∧ pA A0 A' ∧ pB B0 B' := by
      intro A1 h1 h2 h3
      rw [h2, mstep, if_neg h3]
      exact ih (i + 1) t t2 A1 _ best few least hFE h1 hB' (by omega) (by omega) (by omega)
    unfold sRS at mstep skip
    by_cases q : va_cpy (A0 28) (A 55) 0 0 64 (11 * i + 1) = 0 ∧ ds 0 p < 9999
    · rw [if_pos q, if_neg one_ne, if_pos q, x_await (hCC55 _) hR.2.1.2.2 (by omega) hb5 hf, bI_some, upR_at, upR_upR] at xstep
      rw [if_pos q] at mstep
      simp only [if_pos q] at skip
      unfold sRT at mstep skip
      by_cases q2 : (sAwait A0 nb i (sSend A0 (va_cpy (A0 28) (A 55) 0 0 64) i (nI w) (nI d))).1 = -4
      · refine skip (upR A 55 (sAwait A0 nb i (sSend A0 (va_cpy (A0 28) (A 55) 0 0 64) i (nI w) (nI d))).2) (hA55 _) ?_ (by rw [if_pos q2]; exact hnw)
        rw [xstep]
        unfold pX3_soonestBeast_46
        rw [if_pos q2]
        simp only [pX3_soonestBeast_83, nI_1]
      · rw [if_neg q2] at mstep
        simp only [if_neg q2] at skip
        unfold pX3_soonestBeast_46 at xstep
        rw [if_neg q2, x_readOf (hCC55 _) hb5, bI_some, show 54 + 1 = 55 from rfl, upR_at] at xstep
        simp only [pX3_soonestBeast_83, nI_1] at xstep
        by_cases q3 : sRd A0 (sAwait A0 nb i (sSend A0 (va_cpy (A0 28) (A 55) 0 0 64) i (nI w) (nI d))).2 i ((sAwait A0 nb i (sSend A0 (va_cpy (A0 28) (A 55) 0 0 64) i (nI w) (nI d))).2 (11 * i + 6)) = nI w
        · -- the second trial of the reference
          have hRB' := pB_RC hR hB'
          have hMB' := pB_HM (by omega) (by omega) hN.1 hB'
          obtain ⟨s1, k1, k2, k3, k4⟩ := m_try (fu := fu) (f := va_cpy (A0 28) (A 55) 0 0 64) hRB' hMB' hN.2 (fun j hj => cpy_at _ _ hj) hf
          have hF := bFR_of k4 hb q.1
          have hR1 := RC_up hRB' (k := 12) (by decide) s1
          obtain ⟨s2, p1, p2, p3⟩ := m_sends (fu := fu) (base := 704) hR1 (by decide) hb (by rw [upR_at]; exact k3) hF (nI w) (nI d)
          have p1' : pX10_sends fu 704 (nI i) (nI w) (nI d) (upR (upR B 12 s') 12 s1) = _ := p1
          have hV2 := v_sends hR1 hb k4 hF (nI w) hd hp hC q.2
          obtain ⟨s3, r1, r2, r3⟩ := m_await (fu := fu) (RC_up hR1 (k := 12) (by decide) s2) hb (by rw [upR_at]; exact p2) hV2 hf
          obtain ⟨-, -, -, n, hn99, hnn⟩ := r3 q2
          simp only [upR_at] at k2 p3 r2
          have hB3 : pB B0 (upR (upR (upR (upR B 12 s') 12 s1) 12 s2) 12 s3) := by
            rw [upR_upR, upR_upR, upR_upR]
            refine pB_tr hB (pB_fr ?_)
            exact fr_tr g2 (fr_tr k2 (fr_tr p3 r2))
          rw [if_pos q3, k1, bV_some, p1', bV_some, r1, bI_some] at mstep
          simp only [pX10_soonest_94, m_smaller, bI_some, pX10_soonest_104, nI_1] at mstep
          rw [hnn] at mstep xstep
          have cond : few ≤ nI n ↔ least ≤ nI n := by
            rcases hFE with ⟨e1, e2⟩ | ⟨k, hk, e1, e2⟩
            · rw [e1, e2]
              constructor
              · intro z; have := (nI_le_iff (a := 100) (by decide) (by omega)).mp z; omega
              · intro z; have := (nI_le_iff (a := 9999) (by decide) (by omega)).mp z; omega
            · rw [e1, e2]
          by_cases q4 : few ≤ nI n
          · rw [if_pos q4] at xstep
            have q4' := cond.mp q4
            rw [if_pos q4'] at mstep
            have hmn : imin least (nI n) = least := by
              unfold imin
              rw [if_neg (fun z => by rw [i_lt] at z; rw [i_le] at q4'; omega)]
            rw [xstep, mstep, hmn]
            exact ih (i + 1) t t2 _ _ best few least hFE (hA55 _) hB3 (by omega) (by omega) (by omega)
          · rw [if_neg q4, if_pos q3] at xstep
            have q4' : ¬ least ≤ nI n := fun z => q4 (cond.mpr z)
            rw [if_neg q4'] at mstep
            have hmn : imin least (nI n) = nI n := by
              unfold imin
              rw [if_pos (by rw [i_lt]; rw [i_le] at q4'; omega)]
            rw [xstep, mstep, hmn]
            exact ih (i + 1) t t2 _ _ (nI i) (nI n) (nI n) (Or.inr ⟨n, hn99, rfl, rfl⟩) (hA55 _) hB3 (by omega) (by omega) (by omega)
        · refine skip (upR A 55 (sAwait A0 nb i (sSend A0 (va_cpy (A0 28) (A 55) 0 0 64) i (nI w) (nI d))).2) (hA55 _) ?_ q3
          rw [xstep, if_neg q3]
          split <;> rfl
    · rw [if_neg q, if_pos rfl, if_neg q] at xstep
      simp only [if_neg q] at skip
      refine skip (upR A 55 (va_cpy (A0 28) (A 55) 0 0 64)) (hA55 _) ?_ hnw
      rw [xstep]
      unfold pX3_soonestBeast_46
      rw [if_pos rfl]
      simp only [pX3_soonestBeast_83, nI_1]
/-- two that meet -/
theorem r_meet (hR : RC A0 B0 np nd nb ln ds) {c : Nat} (hb : b < nb) (hc : c < nb) (hf : 1000 < fu) : ∀ (m i t t2 : Nat) (A B : Mem), pA A0 A → pB B0 B → HM np nb (A 55) (B 12) 704 → HV A0 np nd nb ds (A 55) → i + m = 61 → m < t → m < t2 → ∃ r A' B', pX3_hoursTillMeeting_11 fu 27 t (nI b) (nI c) (nI i) A = some (r, A') ∧ pX10_meet_33 fu t2 (nI b) (nI c) (nI i) B = some (r, B') ∧ pA A0 A' ∧ pB B0 B' := by
  have hn := hR.1
  have hb5 : b < 5 := by omega
  have hc5 : c < 5 := by omega
  intro m
  induction m with
  | zero =>
    intro i t t2 A B hA hB hM hV hi ht ht2
    obtain ⟨t, rfl⟩ : ∃ q, t = q + 1 := ⟨t - 1, by omega⟩
    obtain ⟨t2, rfl⟩ : ∃ q, t2 = q + 1 := ⟨t2 - 1, by omega⟩
    have h60 : (60 : Int32) < nI i := (nI_lt_iff (a := 60) (by decide) (by omega)).mpr (by omega)
    refine ⟨-4, A, B, ?_, ?_, hA, hB⟩
    · show pX3_hoursTillMeeting_11b fu 27 (nI b) (nI c) (nI i) A _ = _
      unfold pX3_hoursTillMeeting_11b
      rw [if_pos h60]
    · show pX10_meet_33b fu (nI b) (nI c) (nI i) B _ = _
      unfold pX10_meet_33b
      rw [if_pos h60]
  | succ m ih =>
    intro i t t2 A B hA hB hM hV hi ht ht2
    obtain ⟨t, rfl⟩ : ∃ q, t = q + 1 := ⟨t - 1, by omega⟩
    obtain ⟨t2, rfl⟩ : ∃ q, t2 = q + 1 := ⟨t2 - 1, by omega⟩
    have h60 : ¬ (60 : Int32) < nI i := fun q => by have := (nI_lt_iff (a := 60) (by decide) (by omega)).mp q; omega
    have hRB := pB_RC hR hB
    obtain ⟨s', g1, g2, g3, g4⟩ := m_hour (fu := fu) hRB (show 704 + 64 ≤ 768 by decide) (by omega) (-4) (-1) nobal hM hV
    have g1' : pX10_hour fu 704 (-1) B = some (0, upR B 12 s') := g1
    have xg := x_goOn (fu := fu) (k := 54) (pA_CC hA) hR.2.1.2.2 (by omega) (by decide) (-4) (by omega)
    obtain ⟨r, A', B', e1, e2, e3, e4⟩ := ih (i + 1) t t2 (upR A 55 (sHour A0 nb (-4) (A 55))) (upR B 12 s') (pA_tr hA (pA_up (by omega))) (pB_tr hB (pB_fr g4)) (by rw [upR_at, upR_at]; exact g2) (by rw [upR_at]; exact g3) (by omega) (by omega) (by omega)
    have xgo : pX3_hoursTillMeeting_58 fu 27 (nI b) (nI c) (nI i) A (pX3_hoursTillMeeting_11 fu 27 t) = some (r, A') := by
      unfold pX3_hoursTillMeeting_58
      rw [xg, bV_some, nI_1]; exact e1
    have mgo : pX10_meet_94 fu (nI b) (nI c) (nI i) B (pX10_meet_33 fu t2) = some (r, B') := by
      unfold pX10_meet_94
      rw [g1', bV_some, nI_1]; exact e2
    have eb3 := hM.1 b hb 3 (by decide) (by decide)
    have ec3 := hM.1 c hc 3 (by decide) (by decide)
    have eb2 := hM.1 b hb 2 (by decide) (by decide)
    have ec2 := hM.1 c hc 2 (by decide) (by decide)
    simp only [show off 3 = 10 from rfl, show off 2 = 5 from rfl] at eb3 ec3 eb2 ec2
    have xst : pX3_hoursTillMeeting_11 fu 27 (t + 1) (nI b) (nI c) (nI i) A = (if A 55 (11 * b + 3) = -4 then (if A 55 (11 * c + 2) = A 55 (11 * b + 2) ∧ A 55 (11 * c + 3) = -4 then some (nI i, A) else some (r, A')) else some (r, A')) := by
      show pX3_hoursTillMeeting_11b fu 27 (nI b) (nI c) (nI i) A _ = _
      unfold pX3_hoursTillMeeting_11b
      rw [if_neg h60, x_get2 hb5, bI_some, x_isIn hb5, bI_some, x_isIn hc5, bI_some, xgo, show 54 + 1 = 55 from rfl]
      by_cases q1 : A 55 (11 * b + 3) = -4
      · rw [if_pos (show A 55 (11 * b + 2) = A 55 (11 * b + 2) ∧ A 55 (11 * b + 3) = -4 from ⟨rfl, q1⟩), if_neg one_ne, if_pos q1]
        by_cases q2 : A 55 (11 * c + 2) = A 55 (11 * b + 2) ∧ A 55 (11 * c + 3) = -4
        · rw [if_pos q2, if_neg one_ne, if_pos q2]
        · rw [if_neg q2, if_pos rfl, if_neg q2]
      · rw [if_neg (show ¬ (A 55 (11 * b + 2) = A 55 (11 * b + 2) ∧ A 55 (11 * b + 3) = -4) from fun z => q1 z.2), if_pos rfl, if_neg q1]
    have mst : pX10_meet_33 fu (t2 + 1) (nI b) (nI c) (nI i) B = (if A 55 (11 * b + 3) = -4 then (if A 55 (11 * c + 2) = A 55 (11 * b + 2) ∧ A 55 (11 * c + 3) = -4 then some (nI i, B) else some (r, B')) else some (r, B')) := by
      show pX10_meet_33b fu (nI b) (nI c) (nI i) B _ = _
      unfold pX10_meet_33b
      rw [if_neg h60, show (714 : Int32) + nI b = nI (704 + (10 + b)) by rw [show 704 + (10 + b) = 714 + b by omega]; exact nI_add 714 b, show (714 : Int32) + nI c = nI (704 + (10 + c)) by rw [show 704 + (10 + c) = 714 + c by omega]; exact nI_add 714 c, show (709 : Int32) + nI b = nI (704 + (5 + b)) by rw [show 704 + (5 + b) = 709 + b by omega]; exact nI_add 709 b, show (709 : Int32) + nI c = nI (704 + (5 + c)) by rw [show 704 + (5 + c) = 709 + c by omega]; exact nI_add 709 c]
      rw [ld_nI (by omega) (by decide), ld_nI (by omega) (by decide), ld_nI (by omega) (by decide), ld_nI (by omega) (by decide), eb3, ec3, eb2, ec2, mgo]
      by_cases q1 : A 55 (11 * b + 3) = -4
      · rw [if_pos q1, if_pos q1]
        by_cases q2 : A 55 (11 * c + 3) = -4
        · rw [if_pos q2]
          by_cases q3 : A 55 (11 * b + 2) = A 55 (11 * c + 2)
          · rw [if_pos q3, if_pos ⟨q3.symm, q2⟩]
          · rw [if_neg q3, if_neg (fun z => q3 z.1.symm)]
        · rw [if_neg q2, if_neg (fun z => q2 z.2)]
      · rw [if_neg q1, if_neg q1]
    by_cases q1 : A 55 (11 * b + 3) = -4
    · by_cases q2 : A 55 (11 * c + 2) = A 55 (11 * b + 2) ∧ A 55 (11 * c + 3) = -4
      · exact ⟨nI i, A, B, by rw [xst, if_pos q1, if_pos q2], by rw [mst, if_pos q1, if_pos q2], hA, hB⟩
      · exact ⟨r, A', B', by rw [xst, if_pos q1, if_neg q2], by rw [mst, if_pos q1, if_neg q2], e3, e4⟩
    · exact ⟨r, A', B', by rw [xst, if_neg q1], by rw [mst, if_neg q1], e3, e4⟩
end SO
section Q3
variable {A B : Mem} {fu : Nat}
theorem a_soonest (h : REL A B) (hf : 1000 < fu) (x v : Int32) : AGREE (pX9_soonest fu x v A) (pX10_soonest fu x v B) := by
  have h' := h
  obtain ⟨np, nd, nb, ln, ds, hR, hN, -⟩ := h'
  have hn := hR.1
  have hCC := CC_rf A
  unfold pX9_soonest pX10_soonest
  rw [x_hasD hCC hR, m_isDoor hR, bI_some, bI_some]
  by_cases hx : inR x nd
  · rw [if_pos hx, if_neg one_ne, if_neg one_ne, x_isVerdict, m_in0 v 7 8 (by decide), bI_some, bI_some]
    by_cases hv : inR v 8
    · rw [if_pos hv, if_neg one_ne, if_neg one_ne]
      obtain ⟨d, hd, rfl⟩ := of_inR hx (by omega)
      obtain ⟨w, hw, rfl⟩ := of_inR hv (by decide)
      obtain ⟨p, kd, hp, -, q1, -, -, -⟩ := hR.2.2.2.2.2.2.2.1 d hd
      obtain ⟨r, A', B', e1, e2, e3, e4⟩ := r_soon (fu := fu) hR hN hd hp q1 hw hf nb 0 fu fu A B (-4) 100 9999 (Or.inl ⟨rfl, rfl⟩) (pA_rf A) (pB_rf B) (by omega) (by omega) (by omega)
      unfold pX3_soonestBeast
      have e1' : pX3_soonestBeast_11 fu 27 fu (nI d) (nI w) (-4) 100 0 A = some (r, A') := e1
      have e2' : pX10_soonest_33 fu fu (nI d) (nI w) (-4) 9999 0 B = some (r, B') := e2
      rw [e1', e2', bI_some]
      exact AGQ_ok h ⟨r, A', B', rfl, rfl, e3, e4⟩
    · rw [if_neg hv, if_pos rfl, if_pos rfl]; exact AG_s h
  · rw [if_neg hx, if_pos rfl, if_pos rfl]; exact AG_s h
theorem a_meet (h : REL A B) (hf : 1000 < fu) (x y : Int32) : AGREE (pX9_meet fu x y A) (pX10_meet fu x y B) := by
  have h' := h
  obtain ⟨np, nd, nb, ln, ds, hR, hN, -⟩ := h'
  have hn := hR.1
  have hCC := CC_rf A
  unfold pX9_meet pX10_meet
  rw [x_hasB hCC hR, m_isBeast hR, bI_some, bI_some]
  by_cases hx : inR x nb
  · rw [if_pos hx, if_neg one_ne, if_neg one_ne, x_hasB hCC hR, m_isBeast hR, bI_some, bI_some]
    by_cases hy : inR y nb
    · rw [if_pos hy, if_neg one_ne, if_neg one_ne]
      by_cases hxy : x = y
      · rw [if_pos hxy, if_pos hxy]; exact AG_s h
      · rw [if_neg hxy, if_neg hxy]
        obtain ⟨b, hb, rfl⟩ := of_inR hx (by omega)
        obtain ⟨c, hc, rfl⟩ := of_inR hy (by omega)
        obtain ⟨s1, g1, g2, g3, g4⟩ := m_try (fu := fu) (f := va_cpy (A 28) (A 55) 0 0 64) hR hN.1 hN.2 (fun j hj => cpy_at _ _ hj) hf
        obtain ⟨r, A', B', e1, e2, e3, e4⟩ := r_meet (fu := fu) hR hb hc hf 61 0 fu fu (upR A 55 (va_cpy (A 28) (A 55) 0 0 64)) (upR B 12 s1) (pA_up (by omega)) (pB_fr g2) (by rw [upR_at, upR_at]; exact g3) (by rw [upR_at]; exact g4) (by omega) (by omega) (by omega)
        unfold pX3_hoursTillMeeting
        have e1' : pX3_hoursTillMeeting_11 fu 27 fu (nI b) (nI c) 0 (upR A (54 + 1) (va_cpy (A (27 + 1)) (A (54 + 1)) 0 0 64)) = some (r, A') := e1
        have e2' : pX10_meet_33 fu fu (nI b) (nI c) 0 (upR B 12 s1) = some (r, B') := e2
        rw [x_copy, bV_some, e1', bI_some, g1, bV_some, e2']
        exact AGQ_ok h ⟨r, A', B', rfl, rfl, e3, e4⟩
    · rw [if_neg hy, if_pos rfl, if_pos rfl]; exact AG_s h
  · rw [if_neg hx, if_pos rfl, if_pos rfl]; exact AG_s h
end Q3
