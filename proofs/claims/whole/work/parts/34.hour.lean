/-! PURE: one beast's hour, an hour of all, in the reference -/
/-- how a beast can stand -/
def bFR (f : Row) (b : Nat) : Prop := f (11 * b + 1) = 0 ∧ f (11 * b + 2) = 0 ∧ f (11 * b + 3) = -4 ∧ f (11 * b + 4) = 0 ∧ f (11 * b + 5) = -4
def bST (C : Mem) (np nd : Nat) (ds : Nat → Nat → Nat) (f : Row) (b : Nat) : Prop := f (11 * b + 1) = 2 ∧ ∃ d p, d < nd ∧ p < np ∧ ds p 0 < 9999 ∧ C 10 d = nI p ∧ f (11 * b + 5) = nI d ∧ f (11 * b + 2) = nI p ∧ f (11 * b + 3) = -4 ∧ f (11 * b + 4) = 0 ∧ f (11 * b + 10) = nI p
def bPL (np : Nat) (ds : Nat → Nat → Nat) (f : Row) (b : Nat) : Prop := ∃ g a, g < np ∧ a < np ∧ ds g 0 < 9999 ∧ f (11 * b + 10) = nI g ∧ f (11 * b + 2) = nI a ∧ ((f (11 * b + 3) = -4 ∧ ds a g < 9999 ∧ ∃ w, w ≤ 3 ∧ f (11 * b + 4) = nI w) ∨ (∃ t l, t < np ∧ f (11 * b + 3) = nI t ∧ ds t g < 9999 ∧ 1 ≤ l ∧ l ≤ 27 ∧ f (11 * b + 4) = nI l))
def bUW (C : Mem) (np nd : Nat) (ds : Nat → Nat → Nat) (f : Row) (b : Nat) : Prop := GD C nd f b ∧ bPL np ds f b
def BV (C : Mem) (np nd : Nat) (ds : Nat → Nat → Nat) (f : Row) (b : Nat) : Prop := bFR f b ∨ bST C np nd ds f b ∨ bUW C np nd ds f b
def HV (C : Mem) (np nd nb : Nat) (ds : Nat → Nat → Nat) (f : Row) : Prop := (∀ b, b < nb → BV C np nd ds f b) ∧ ∀ x, x < np → ∃ c, c ≤ 9 ∧ f (55 + x) = nI c
theorem nI_ne4 {n : Nat} (h : n < 2 ^ 31) : nI n ≠ -4 := by
  intro e
  have := congrArg Int32.toInt e
  rw [nI_toInt h] at this
  have h4' : (-4 : Int32).toInt = -4 := rfl
  omega
theorem nI_le0 {n : Nat} (h : n < 2 ^ 31) : nI n ≤ 0 ↔ n = 0 := by
  rw [show (0 : Int32) = nI 0 from rfl, nI_le_iff h (by decide)]; omega
section MG
variable {C M : Mem} {np nd nb fu base b : Nat} {ln ds : Nat → Nat → Nat} {f : Row}
theorem m_next_2 (hR : RC C M np nd nb ln ds) {a g u : Nat} (ha : a < np) (hg : g < np) (hne : a ≠ g) (hfin : ds a g < 9999) (hu : u < np) (hl : 0 < ln a u) (he : ln a u + ds u g = ds a g) (hlow : ∀ v, v < u → ¬ (0 < ln a v ∧ ln a v + ds v g = ds a g)) : ∀ (m i t : Nat), i + m = u → m < t → pX10_nextOn_2 fu t (nI a) (nI g) (nI i) M = some (nI u, M) := by
  have hn := hR.1
  intro m
  induction m with
  | zero =>
    intro i t hi ht
    obtain ⟨t, rfl⟩ : ∃ q, t = q + 1 := ⟨t - 1, by omega⟩
    have hiu : i = u := by omega
    subst hiu
    obtain ⟨q1, q2, q3, q4, q5, q6, q7⟩ := hR.2.2.2.1 a i ha hu
    obtain ⟨r1, r2, r3, r4, r5, r6, r7⟩ := hR.2.2.2.1 a g ha hg
    obtain ⟨t1, t2, t3, t4, t5, t6, t7⟩ := hR.2.2.2.1 i g hu hg
    show pX10_nextOn_2b fu (nI a) (nI g) (nI i) M _ = _
    unfold pX10_nextOn_2b
    rw [hR.2.2.1.1, if_neg (fun q => by have := (nI_le_iff (by omega) (by omega)).mp q; omega), if_neg (fun q => hne ((nI_eq_iff (by omega) (by omega)).mp q))]
    have q6' : M 1 (8 * a + i) = nI (ln a i) := by rw [q6, if_neg (by omega)]
    rw [ix8, ld_nI (by omega) (by decide), q6', if_neg (fun q => by have := (nI_le0 (by omega)).mp q; omega)]
    rw [ix8, ld_nI (by omega) (by decide), r7, show (9999 : Int32) = nI 9999 from rfl, if_neg (fun q => by have := (nI_le_iff (by decide) (by omega)).mp q; omega)]
    rw [ld_nI (by omega) (by decide), q6', ix8, ld_nI (by omega) (by decide), t7, ld_nI (by omega) (by decide), r7, nI_add, he, if_pos rfl]
  | succ m ih =>
    intro i t hi ht
    obtain ⟨t, rfl⟩ : ∃ q, t = q + 1 := ⟨t - 1, by omega⟩
    obtain ⟨q1, q2, q3, q4, q5, q6, q7⟩ := hR.2.2.2.1 a i ha (by omega)
    obtain ⟨r1, r2, r3, r4, r5, r6, r7⟩ := hR.2.2.2.1 a g ha hg
    obtain ⟨t1, t2, t3, t4, t5, t6, t7⟩ := hR.2.2.2.1 i g (by omega) hg
    have hgo : pX10_nextOn_85 fu (nI a) (nI g) (nI i) M (pX10_nextOn_2 fu t) = some (nI u, M) := by
      unfold pX10_nextOn_85
      rw [nI_1]
      exact ih (i + 1) t (by omega) (by omega)
    show pX10_nextOn_2b fu (nI a) (nI g) (nI i) M (pX10_nextOn_2 fu t) = _
    unfold pX10_nextOn_2b
    rw [hR.2.2.1.1, if_neg (fun q => by have := (nI_le_iff (by omega) (by omega)).mp q; omega), if_neg (fun q => hne ((nI_eq_iff (by omega) (by omega)).mp q))]
    rw [ix8, ld_nI (by omega) (by decide), q6]
    by_cases h0 : ln a i = 0
    · rw [if_pos h0, if_pos (by decide)]; exact hgo
    · rw [if_neg h0, if_neg (fun q => by have := (nI_le0 (by omega)).mp q; omega)]
      rw [ix8, ld_nI (by omega) (by decide), r7, show (9999 : Int32) = nI 9999 from rfl, if_neg (fun q => by have := (nI_le_iff (by decide) (by omega)).mp q; omega)]
      rw [ld_nI (by omega) (by decide), q6, if_neg h0, ix8, ld_nI (by omega) (by decide), t7, ld_nI (by omega) (by decide), r7, nI_add]
      rw [if_neg (fun q => hlow i (by omega) ⟨by omega, (nI_eq_iff (by omega) (by omega)).mp q⟩)]
      exact hgo
/-- the first place on PATH -/
theorem m_next (hR : RC C M np nd nb ln ds) {a g : Nat} (ha : a < np) (hg : g < np) (hne : a ≠ g) (hfin : ds a g < 9999) (hf : 8 < fu) : ∃ u, u < np ∧ 0 < ln a u ∧ ln a u + ds u g = ds a g ∧ cHop C (nI a) (nI g) = nI u ∧ pX10_nextOn fu (nI a) (nI g) M = some (nI u, M) := by
  have hn := hR.1
  obtain ⟨u, hu, h8, hl, he, hlow⟩ := hR.2.2.2.2.1 a g ha hg hne hfin
  refine ⟨u, hu, hl, he, ?_, ?_⟩
  · unfold cHop; rw [ix8', rat_nI (by omega) (by decide), h8]
  · unfold pX10_nextOn
    exact m_next_2 hR ha hg hne hfin hu hl he hlow u 0 fu (by omega) (by omega)
theorem m_130 (hR : RC C M np nd nb ln ds) (hB : base + 64 ≤ 768) (hb : b < nb) {f0 : Row} {x l : Nat} (hx : x < np) (hl : 1 ≤ l) (hl2 : l ≤ 27) (h15 : M 12 (base + (15 + b)) = nI l) (hM : HM np nb (upd f0 (11 * b + 4) (nI l - 1)) (upd (M 12) (base + (15 + b)) (nI l - 1)) base) (h3 : f0 (11 * b + 3) = nI x) (hg : GD C nd f0 b) : ∃ s', pX10_goesOn_130 fu (nI base) (nI b) M = some (0, upR M 12 s') ∧ HM np nb (sM101 C f0 b (f0 (11 * b + 10)) (nI l)) s' base ∧ fr base (M 12) s' := by
  have hn := hR.1
  have hb5 : b < 5 := by omega
  have el : nI l - 1 = nI (l - 1) := by rw [show (1 : Int32) = nI 1 from rfl, pk_sub hl]
  simp only [pX10_goesOn_130, m_ld15 hB hb5, m_st15 hB hb5, h15, upR_at, upd_at, sM101]
  by_cases h1 : l = 1
  · subst h1
    have e0 : nI 1 - 1 = (0 : Int32) := by decide
    rw [e0] at hM ⊢
    rw [if_pos rfl, if_neg (by decide), upd_ne (f := f0) (j := 11 * b + 3) (by omega), h3]
    obtain ⟨s', a1, a2, a3⟩ := m_arr (fu := fu) (f := upd f0 (11 * b + 4) 0) (RC_up hR (k := 12) (by omega) (upd (M 12) (base + (15 + b)) 0)) hB hb (by rw [upR_at]; exact hM) hx (by rw [upd_ne (by omega)]; exact h3) (upd_at _ _ _) (GD_upd hg (by decide) (by decide) (by decide) (by decide))
    rw [upd_ne (j := 11 * b + 10) (by omega)] at a2
    rw [a1, bV_some, upR_upR]
    rw [upR_at] at a3
    exact ⟨s', rfl, a2, fr_tr (fr_upd (by omega)) a3⟩
  · rw [if_neg (fun q => by rw [el, show (0 : Int32) = nI 0 from rfl] at q; have := (nI_eq_iff (by omega) (by decide)).mp q; omega)]
    rw [if_pos (by rw [show (1 : Int32) = nI 1 from rfl]; exact (nI_lt_iff (by decide) (by omega)).mpr (by omega))]
    exact ⟨_, rfl, hM, fr_upd (by omega)⟩
/-- an hour of one that goes -/
theorem m_goesOn (hR : RC C M np nd nb ln ds) (hB : base + 64 ≤ 768) (hb : b < nb) (hM : HM np nb f (M 12) base) (hU : bUW C np nd ds f b) (hf : 8 < fu) : ∃ s', pX10_goesOn fu (nI base) (nI b) M = some (0, upR M 12 s') ∧ HM np nb (sMove C f b) s' base ∧ fr base (M 12) s' := by
  have hn := hR.1
  have hb5 : b < 5 := by omega
  obtain ⟨hG, g, a, hg, ha, hg0, h10, h2, hpl⟩ := hU
  have e3 : M 12 (base + (10 + b)) = f (11 * b + 3) := hM.1 b hb 3 (by decide) (by decide)
  have e2 : M 12 (base + (5 + b)) = f (11 * b + 2) := hM.1 b hb 2 (by decide) (by decide)
  have hgo := m_goal (fu := fu) hR hB hb hM hG
  rcases hpl with ⟨h3, hfin, wt, hw, h4⟩ | ⟨t, l, ht, h3, hfin, hl, hl2, h4⟩
  · have e20 : M 12 (base + (20 + b)) = nI wt := ((hM.2.1 b hb).1 h3).trans h4
    unfold pX10_goesOn sMove
    rw [m_ld20 hB hb5, e20, h3, if_pos rfl, h4]
    by_cases hw0 : wt = 0
    · subst hw0
      rw [if_pos (by decide), if_pos (by decide), m_ld10 hB hb5, e3, h3, if_pos rfl, m_ld5 hB hb5, e2, hgo, bI_some, h2, h10]
      by_cases hag : a = g
      · subst hag
        rw [if_pos rfl, if_pos rfl]
        obtain ⟨s', p1, p2, p3⟩ := m_settle (fu := fu) hR hB hb hM (fun _ _ => rfl) h3 h4 (by rcases hG with h | h; exact Or.inl h.1; exact Or.inr h.1)
        rw [p1, bV_some]
        exact ⟨s', rfl, p2, p3⟩
      · have hne : ¬ nI a = nI g := fun q => hag ((nI_eq_iff (by omega) (by omega)).mp q)
        rw [if_neg hne, if_neg hne, hgo, bI_some, h10]
        obtain ⟨u, hu, hl, he, hhop, hnx⟩ := m_next (fu := fu) hR ha hg hag hfin hf
        obtain ⟨q1, q2, q3, q4, q5, q6, q7⟩ := hR.2.2.2.1 a u ha hu
        obtain ⟨kd, pc, -, hp1, hp3, -, -, k3, k4⟩ := hR.2.2.2.2.2.2.2.2.1 b hb
        have hlen : cLen C (nI a) (nI u) = nI (ln a u) := by unfold cLen; rw [ix8', rat_nI (by omega) (by decide), q4]
        have hpc : cPc C (nI b) = nI pc := by unfold cPc; rw [rat_nI hb5 (by decide), k3]
        rw [hnx, bI_some, m_st10 hB hb5, hhop, hlen, hpc]
        rw [ix8, ld_nI (by omega) (by decide), upR_ne (a := 1) (by decide), q6, if_neg (by omega), ld_nI hb5 (by decide), upR_ne (a := 6) (by decide), k4, m_st15 hB hb5, upR_at, upR_upR, pk_mul]
        have hlb : 1 ≤ ln a u * pc := Nat.mul_pos hl hp1
        have hlb2 : ln a u * pc ≤ 27 := Nat.le_trans (Nat.mul_le_mul q1 hp3) (by decide)
        have ht : (nI u : Int32) ≠ -4 := nI_ne4 (by omega)
        have h20 : M 12 (base + (20 + b)) = 0 := e20
        have hO := HM_out (by omega) (by omega) hb hM h20 (nI u) (nI (ln a u * pc) - 1) ht
        obtain ⟨s', p1, p2, p3⟩ := m_130 (fu := fu) (f0 := upd f (11 * b + 3) (nI u)) (RC_up hR (k := 12) (by omega) (upd (upd (M 12) (base + (10 + b)) (nI u)) (base + (15 + b)) (nI (ln a u * pc)))) hB hb hu hlb hlb2 (by rw [upR_at, upd_at]) (by rw [upR_at, upd_upd]; exact hO) (upd_at _ _ _) (GD_upd hG (by decide) (by decide) (by decide) (by decide))
        rw [upd_ne (j := 11 * b + 10) (by omega), h10] at p2
        rw [p1, upR_upR]
        rw [upR_at] at p3
        exact ⟨s', rfl, p2, fr_tr (fr_tr (fr_upd (by omega)) (fr_upd (by omega))) p3⟩
    · have hnw : ¬ nI wt ≤ 0 := fun q => hw0 ((nI_le0 (by omega)).mp q)
      rw [if_neg hnw, if_neg hnw, m_ld20 hB hb5, e20, m_st20 hB hb5]
      exact ⟨_, rfl, HM_wait (by omega) (by omega) hb hM h3 _, fr_upd (by omega)⟩
  · have ne3 : f (11 * b + 3) ≠ -4 := by rw [h3]; exact nI_ne4 (by omega)
    obtain ⟨e20, e15⟩ := (hM.2.1 b hb).2 ne3
    unfold pX10_goesOn sMove
    rw [m_ld20 hB hb5, e20, if_pos (by decide), if_neg ne3, m_ld10 hB hb5, e3, if_neg ne3, h4]
    have hO := HM_left (by omega) (by omega) hb hM ne3 (nI l - 1)
    exact m_130 (fu := fu) (f0 := f) hR hB hb ht hl hl2 (e15.trans h4) hO h3 hG
end MG
