/-! PURE: the two courts side by side; an hour of the reference -/
def RC (C M : Mem) (np nd nb : Nat) (ln ds : Nat → Nat → Nat) : Prop :=
  (1 ≤ np ∧ np ≤ 8 ∧ 1 ≤ nd ∧ nd ≤ 4 ∧ 1 ≤ nb ∧ nb ≤ 5) ∧
  (C 5 10 = nI np ∧ C 5 11 = nI nd ∧ C 5 12 = nI nb) ∧
  (M 0 0 = nI np ∧ M 0 4 = nI nd ∧ M 0 7 = nI nb) ∧
  (∀ a b, a < np → b < np → ln a b ≤ 9 ∧ ds a b ≤ 9999 ∧ (ds a b < 9999 → ds a b ≤ 100) ∧ C 6 (8 * a + b) = nI (ln a b) ∧ C 7 (8 * a + b) = nI (if ds a b < 9999 then ds a b else 1000) ∧ M 1 (8 * a + b) = (if ln a b = 0 then -4 else nI (ln a b)) ∧ M 2 (8 * a + b) = nI (ds a b)) ∧
  (∀ a g, a < np → g < np → a ≠ g → ds a g < 9999 → ∃ u, u < np ∧ C 8 (8 * a + g) = nI u ∧ 0 < ln a u ∧ ln a u + ds u g = ds a g ∧ ∀ v, v < u → ¬ (0 < ln a v ∧ ln a v + ds v g = ds a g)) ∧
  (∀ a, a < np → ds a a = 0) ∧ (∀ a b, a < np → b < np → ds a b < 9999 → ds b a < 9999) ∧
  (∀ d, d < nd → ∃ p kd, p < np ∧ kd < 4 ∧ C 10 d = nI p ∧ M 4 d = nI p ∧ C 9 d = nI kd ∧ M 3 d = nI kd) ∧
  (∀ b, b < nb → ∃ kd pc, kd < 4 ∧ 1 ≤ pc ∧ pc ≤ 3 ∧ C 11 b = nI kd ∧ M 5 b = nI kd ∧ C 12 b = nI pc ∧ M 6 b = nI pc) ∧
  (∀ x, x < np → ((M 0 3 >>> (nI x &&& 31)) &&& 1 = C 15 x) ∧ (C 15 x = 0 ∨ C 15 x = 1)) ∧
  (∀ a b, a < 8 → b < 8 → np ≤ a ∨ np ≤ b → M 1 (8 * a + b) = -4)
theorem RC_up {C M : Mem} {np nd nb : Nat} {ln ds : Nat → Nat → Nat} (h : RC C M np nd nb ln ds) {k : Nat} (hk : 7 ≤ k) (s : Row) : RC C (upR M k s) np nd nb ln ds := by
  unfold RC at h ⊢
  simp only [upR_ne (M := M) (k := k) (f := s) (a := 0) (by omega), upR_ne (M := M) (k := k) (f := s) (a := 1) (by omega), upR_ne (M := M) (k := k) (f := s) (a := 2) (by omega), upR_ne (M := M) (k := k) (f := s) (a := 3) (by omega), upR_ne (M := M) (k := k) (f := s) (a := 4) (by omega), upR_ne (M := M) (k := k) (f := s) (a := 5) (by omega), upR_ne (M := M) (k := k) (f := s) (a := 6) (by omega)]
  exact h
section ML
variable {M : Mem} {K : Int32 → Res} {L : Mem → Res} {v : Int32}
theorem ld_nI {k n j : Nat} (h : j < n) (hn : n < 2 ^ 31) : ld M k n (nI j) K = K (M k j) := by
  unfold ld; rw [if_pos (inR_nI h hn), nI_clamp (by omega)]
theorem sto_nI {k n j : Nat} (h : j < n) (hn : n < 2 ^ 31) : sto M k n (nI j) v L = L (upR M k (upd (M k) j v)) := by
  unfold sto; rw [if_pos (inR_nI h hn), nI_clamp (by omega), up2_eq]
theorem ix0 (base b : Nat) : nI base + nI b = nI (base + (0 + b)) := by rw [nI_add, Nat.zero_add]
theorem ix8 (a b : Nat) : (8 : Int32) * nI a + nI b = nI (8 * a + b) := by rw [show (8 : Int32) = nI 8 from rfl, pk_mul, nI_add]
theorem ix8' (a b : Nat) : nI a * (8 : Int32) + nI b = nI (8 * a + b) := by rw [show (8 : Int32) = nI 8 from rfl, pk_mul, nI_add, Nat.mul_comm]
variable {base b : Nat}
theorem m_ld0 (hB : base + 64 ≤ 768) (hb : b < 5) : ld M 12 768 (nI base + nI b) K = K (M 12 (base + (0 + b))) := by rw [ix0, ld_nI (by omega) (by decide)]
theorem m_st0 (hB : base + 64 ≤ 768) (hb : b < 5) : sto M 12 768 (nI base + nI b) v L = L (upR M 12 (upd (M 12) (base + (0 + b)) v)) := by rw [ix0, sto_nI (by omega) (by decide)]
theorem ix5 (base b : Nat) : nI base + (5 : Int32) + nI b = nI (base + (5 + b)) := by rw [show (5 : Int32) = nI 5 from rfl, nI_add, nI_add, Nat.add_assoc]
theorem m_ld5 (hB : base + 64 ≤ 768) (hb : b < 5) : ld M 12 768 (nI base + (5 : Int32) + nI b) K = K (M 12 (base + (5 + b))) := by rw [ix5, ld_nI (by omega) (by decide)]
theorem m_st5 (hB : base + 64 ≤ 768) (hb : b < 5) : sto M 12 768 (nI base + (5 : Int32) + nI b) v L = L (upR M 12 (upd (M 12) (base + (5 + b)) v)) := by rw [ix5, sto_nI (by omega) (by decide)]
theorem ix10 (base b : Nat) : nI base + (10 : Int32) + nI b = nI (base + (10 + b)) := by rw [show (10 : Int32) = nI 10 from rfl, nI_add, nI_add, Nat.add_assoc]
theorem m_ld10 (hB : base + 64 ≤ 768) (hb : b < 5) : ld M 12 768 (nI base + (10 : Int32) + nI b) K = K (M 12 (base + (10 + b))) := by rw [ix10, ld_nI (by omega) (by decide)]
theorem m_st10 (hB : base + 64 ≤ 768) (hb : b < 5) : sto M 12 768 (nI base + (10 : Int32) + nI b) v L = L (upR M 12 (upd (M 12) (base + (10 + b)) v)) := by rw [ix10, sto_nI (by omega) (by decide)]
theorem ix15 (base b : Nat) : nI base + (15 : Int32) + nI b = nI (base + (15 + b)) := by rw [show (15 : Int32) = nI 15 from rfl, nI_add, nI_add, Nat.add_assoc]
theorem m_ld15 (hB : base + 64 ≤ 768) (hb : b < 5) : ld M 12 768 (nI base + (15 : Int32) + nI b) K = K (M 12 (base + (15 + b))) := by rw [ix15, ld_nI (by omega) (by decide)]
theorem m_st15 (hB : base + 64 ≤ 768) (hb : b < 5) : sto M 12 768 (nI base + (15 : Int32) + nI b) v L = L (upR M 12 (upd (M 12) (base + (15 + b)) v)) := by rw [ix15, sto_nI (by omega) (by decide)]
theorem ix20 (base b : Nat) : nI base + (20 : Int32) + nI b = nI (base + (20 + b)) := by rw [show (20 : Int32) = nI 20 from rfl, nI_add, nI_add, Nat.add_assoc]
theorem m_ld20 (hB : base + 64 ≤ 768) (hb : b < 5) : ld M 12 768 (nI base + (20 : Int32) + nI b) K = K (M 12 (base + (20 + b))) := by rw [ix20, ld_nI (by omega) (by decide)]
theorem m_st20 (hB : base + 64 ≤ 768) (hb : b < 5) : sto M 12 768 (nI base + (20 : Int32) + nI b) v L = L (upR M 12 (upd (M 12) (base + (20 + b)) v)) := by rw [ix20, sto_nI (by omega) (by decide)]
theorem ix25 (base b : Nat) : nI base + (25 : Int32) + nI b = nI (base + (25 + b)) := by rw [show (25 : Int32) = nI 25 from rfl, nI_add, nI_add, Nat.add_assoc]
theorem m_ld25 (hB : base + 64 ≤ 768) (hb : b < 5) : ld M 12 768 (nI base + (25 : Int32) + nI b) K = K (M 12 (base + (25 + b))) := by rw [ix25, ld_nI (by omega) (by decide)]
theorem m_st25 (hB : base + 64 ≤ 768) (hb : b < 5) : sto M 12 768 (nI base + (25 : Int32) + nI b) v L = L (upR M 12 (upd (M 12) (base + (25 + b)) v)) := by rw [ix25, sto_nI (by omega) (by decide)]
theorem ix30 (base b : Nat) : nI base + (30 : Int32) + nI b = nI (base + (30 + b)) := by rw [show (30 : Int32) = nI 30 from rfl, nI_add, nI_add, Nat.add_assoc]
theorem m_ld30 (hB : base + 64 ≤ 768) (hb : b < 5) : ld M 12 768 (nI base + (30 : Int32) + nI b) K = K (M 12 (base + (30 + b))) := by rw [ix30, ld_nI (by omega) (by decide)]
theorem m_st30 (hB : base + 64 ≤ 768) (hb : b < 5) : sto M 12 768 (nI base + (30 : Int32) + nI b) v L = L (upR M 12 (upd (M 12) (base + (30 + b)) v)) := by rw [ix30, sto_nI (by omega) (by decide)]
theorem ix35 (base b : Nat) : nI base + (35 : Int32) + nI b = nI (base + (35 + b)) := by rw [show (35 : Int32) = nI 35 from rfl, nI_add, nI_add, Nat.add_assoc]
theorem m_ld35 (hB : base + 64 ≤ 768) (hb : b < 5) : ld M 12 768 (nI base + (35 : Int32) + nI b) K = K (M 12 (base + (35 + b))) := by rw [ix35, ld_nI (by omega) (by decide)]
theorem m_st35 (hB : base + 64 ≤ 768) (hb : b < 5) : sto M 12 768 (nI base + (35 : Int32) + nI b) v L = L (upR M 12 (upd (M 12) (base + (35 + b)) v)) := by rw [ix35, sto_nI (by omega) (by decide)]
theorem ix40 (base b : Nat) : nI base + (40 : Int32) + nI b = nI (base + (40 + b)) := by rw [show (40 : Int32) = nI 40 from rfl, nI_add, nI_add, Nat.add_assoc]
theorem m_ld40 (hB : base + 64 ≤ 768) (hb : b < 5) : ld M 12 768 (nI base + (40 : Int32) + nI b) K = K (M 12 (base + (40 + b))) := by rw [ix40, ld_nI (by omega) (by decide)]
theorem m_st40 (hB : base + 64 ≤ 768) (hb : b < 5) : sto M 12 768 (nI base + (40 : Int32) + nI b) v L = L (upR M 12 (upd (M 12) (base + (40 + b)) v)) := by rw [ix40, sto_nI (by omega) (by decide)]
theorem ix45 (base b : Nat) : nI base + (45 : Int32) + nI b = nI (base + (45 + b)) := by rw [show (45 : Int32) = nI 45 from rfl, nI_add, nI_add, Nat.add_assoc]
theorem m_ld45 (hB : base + 64 ≤ 768) (hb : b < 5) : ld M 12 768 (nI base + (45 : Int32) + nI b) K = K (M 12 (base + (45 + b))) := by rw [ix45, ld_nI (by omega) (by decide)]
theorem m_st45 (hB : base + 64 ≤ 768) (hb : b < 5) : sto M 12 768 (nI base + (45 : Int32) + nI b) v L = L (upR M 12 (upd (M 12) (base + (45 + b)) v)) := by rw [ix45, sto_nI (by omega) (by decide)]
theorem ix50 (base b : Nat) : nI base + (50 : Int32) + nI b = nI (base + (50 + b)) := by rw [show (50 : Int32) = nI 50 from rfl, nI_add, nI_add, Nat.add_assoc]
theorem m_ld50 (hB : base + 64 ≤ 768) (hb : b < 5) : ld M 12 768 (nI base + (50 : Int32) + nI b) K = K (M 12 (base + (50 + b))) := by rw [ix50, ld_nI (by omega) (by decide)]
theorem m_st50 (hB : base + 64 ≤ 768) (hb : b < 5) : sto M 12 768 (nI base + (50 : Int32) + nI b) v L = L (upR M 12 (upd (M 12) (base + (50 + b)) v)) := by rw [ix50, sto_nI (by omega) (by decide)]
theorem ix55 (base b : Nat) : nI base + (55 : Int32) + nI b = nI (base + (55 + b)) := by rw [show (55 : Int32) = nI 55 from rfl, nI_add, nI_add, Nat.add_assoc]
theorem m_ld55 (hB : base + 64 ≤ 768) (hb : b < 8) : ld M 12 768 (nI base + (55 : Int32) + nI b) K = K (M 12 (base + (55 + b))) := by rw [ix55, ld_nI (by omega) (by decide)]
theorem m_st55 (hB : base + 64 ≤ 768) (hb : b < 8) : sto M 12 768 (nI base + (55 : Int32) + nI b) v L = L (upR M 12 (upd (M 12) (base + (55 + b)) v)) := by rw [ix55, sto_nI (by omega) (by decide)]
end ML
/-- where one that goes is bound for -/
def GD (C : Mem) (nd : Nat) (f : Row) (b : Nat) : Prop := (f (11 * b + 1) = 1 ∧ ∃ d, d < nd ∧ f (11 * b + 5) = nI d ∧ f (11 * b + 10) = C 10 d) ∨ (f (11 * b + 1) = 3 ∧ f (11 * b + 5) = -4 ∧ f (11 * b + 10) = 0)
section MH
variable {C M : Mem} {np nd nb fu base b : Nat} {ln ds : Nat → Nat → Nat} {f : Row}
theorem m_goal (hR : RC C M np nd nb ln ds) (hB : base + 64 ≤ 768) (hb : b < nb) (hM : HM np nb f (M 12) base) (hg : GD C nd f b) : pX10_goal fu (nI base) (nI b) M = some (f (11 * b + 10), M) := by
  have hb5 : b < 5 := by have := hR.1; omega
  have e1 : M 12 (base + (0 + b)) = f (11 * b + 1) := hM.1 b hb 1 (by decide) (by decide)
  have e5 : M 12 (base + (25 + b)) = f (11 * b + 5) := hM.1 b hb 5 (by decide) (by decide)
  unfold pX10_goal
  rw [m_ld0 hB hb5, e1]
  rcases hg with ⟨h1, d, hd, h5, h10⟩ | ⟨h1, h5, h10⟩
  · rw [h1, if_neg (by decide), m_ld25 hB hb5, e5, h5, ld_nI (by have := hR.1; omega) (by decide)]
    obtain ⟨p, kd, -, -, q1, q2, -, -⟩ := hR.2.2.2.2.2.2.2.1 d hd
    rw [q2, h10, q1]
  · rw [h1, if_pos rfl, h10]
theorem m_settles (hB : base + 64 ≤ 768) (hb : b < 5) : pX10_settlesAt fu (nI base) (nI b) M = some (0, upR M 12 (upd (upd (upd (upd (M 12) (base + (10 + b)) (-4)) (base + (15 + b)) 0) (base + (20 + b)) 0) (base + (0 + b)) (if M 12 (base + (0 + b)) = 3 then 0 else 2))) := by
  simp only [pX10_settlesAt, pX10_settlesAt_61, m_st10 hB hb, m_st15 hB hb, m_st20 hB hb, m_ld0 hB hb, m_st0 hB hb, upR_at, upR_upR]
  rw [upd_ne (j := base + (0 + b)) (k := base + (20 + b)) (by omega), upd_ne (j := base + (0 + b)) (k := base + (15 + b)) (by omega), upd_ne (j := base + (0 + b)) (k := base + (10 + b)) (by omega)]
  split <;> rfl
/-- it settles: for a block where it is already in its PLACE, waiting for nothing -/
theorem m_settle (hR : RC C M np nd nb ln ds) (hB : base + 64 ≤ 768) (hb : b < nb) {s0 : Row} (hM : HM np nb f s0 base) (hfr : ∀ j, j ≠ base + (20 + b) → M 12 j = s0 j) (h3 : f (11 * b + 3) = -4) (h4 : f (11 * b + 4) = 0) (h1 : f (11 * b + 1) = 1 ∨ f (11 * b + 1) = 3) : ∃ s', pX10_settlesAt fu (nI base) (nI b) M = some (0, upR M 12 s') ∧ HM np nb (sEnd f b) s' base ∧ fr base (M 12) s' := by
  have hb5 : b < 5 := by have := hR.1; omega
  have hn := hR.1
  refine ⟨_, m_settles hB hb5, ?_, ?_⟩
  · have e3 : s0 (base + (10 + b)) = -4 := (hM.1 b hb 3 (by decide) (by decide)).trans h3
    have e20 : s0 (base + (20 + b)) = 0 := ((hM.2.1 b hb).1 h3).trans h4
    have e1 : s0 (base + (0 + b)) = f (11 * b + 1) := hM.1 b hb 1 (by decide) (by decide)
    have key : upd (upd (upd (M 12) (base + (10 + b)) (-4)) (base + (15 + b)) 0) (base + (20 + b)) 0 = upd s0 (base + (15 + b)) 0 := by
      funext j
      by_cases q20 : j = base + (20 + b)
      · subst q20; rw [upd_at, upd_ne (by omega), e20]
      · rw [upd_ne q20]
        by_cases q15 : j = base + (15 + b)
        · subst q15; rw [upd_at, upd_at]
        · rw [upd_ne q15, upd_ne q15]
          by_cases q10 : j = base + (10 + b)
          · subst q10; rw [upd_at, e3]
          · rw [upd_ne q10, hfr j q20]
    rw [key, hfr _ (by omega), e1]
    have hw : (if f (11 * b + 1) = 3 then (0 : Int32) else 2) = (if f (11 * b + 1) = 1 then 2 else 0) := by
      rcases h1 with h | h <;> rw [h] <;> rfl
    rw [hw]
    exact HM_set (by omega) hb (HM_s15 (by omega) (by omega) hb hM h3 0) 1 (by decide) (by decide) (by decide) _
  · exact fr_tr (fr_tr (fr_tr (fr_upd (by omega)) (fr_upd (by omega))) (fr_upd (by omega))) (fr_upd (by omega))
theorem m_144 (hR : RC C M np nd nb ln ds) (hB : base + 64 ≤ 768) (hb : b < nb) (hM : HM np nb f (M 12) base) (h3 : f (11 * b + 3) = -4) (h4 : f (11 * b + 4) = 0) (hg : GD C nd f b) (x w : Int32) : ∃ s', pX10_arrivesIn_144 fu (nI base) (nI b) x w M = some (0, upR M 12 s') ∧ HM np nb (sA114 f b x (f (11 * b + 10)) w) s' base ∧ fr base (M 12) s' := by
  have hn := hR.1
  have hb5 : b < 5 := by omega
  have hM' := HM_wait (by omega) (by omega) hb hM h3 w
  have hg' : GD C nd (upd f (11 * b + 4) w) b := by
    unfold GD at hg ⊢
    rw [upd_ne (j := 11 * b + 1) (by omega), upd_ne (j := 11 * b + 5) (by omega), upd_ne (j := 11 * b + 10) (by omega)]; exact hg
  have hR' := RC_up hR (k := 12) (by omega) (upd (M 12) (base + (20 + b)) w)
  have hgo := m_goal (fu := fu) hR' hB hb (f := upd f (11 * b + 4) w) (by rw [upR_at]; exact hM') hg'
  rw [upd_ne (j := 11 * b + 10) (by omega)] at hgo
  simp only [pX10_arrivesIn_144, m_st20 hB hb5, hgo, bI_some, sA114]
  by_cases hx : x = f (11 * b + 10)
  · rw [if_pos hx, if_pos hx]
    obtain ⟨s', e, g1, g2⟩ := m_settle (fu := fu) (f := f) (s0 := M 12) hR' hB hb hM (fun j hj => by rw [upR_at, upd_ne hj]) h3 h4 (by rcases hg with h | h; exact Or.inl h.1; exact Or.inr h.1)
    rw [e, bV_some, upR_upR]
    rw [upR_at] at g2
    exact ⟨s', rfl, g1, fr_tr (fr_upd (by omega)) g2⟩
  · rw [if_neg hx, if_neg hx]
    exact ⟨_, rfl, hM', fr_upd (by omega)⟩
theorem GD_upd {c : Nat} {v : Int32} (hg : GD C nd f b) (h1 : c ≠ 1) (h5 : c ≠ 5) (h10 : c ≠ 10) (hc : c < 11) : GD C nd (upd f (11 * b + c) v) b := by
  unfold GD at hg ⊢
  rw [upd_ne (j := 11 * b + 1) (by omega), upd_ne (j := 11 * b + 5) (by omega), upd_ne (j := 11 * b + 10) (by omega)]; exact hg
theorem m_126 (hR : RC C M np nd nb ln ds) (hB : base + 64 ≤ 768) (hb : b < nb) (hM : HM np nb f (M 12) base) (h3 : f (11 * b + 3) = -4) (h4 : f (11 * b + 4) = 0) (hg : GD C nd f b) (x w : Int32) : ∃ s', pX10_arrivesIn_126 fu (nI base) (nI b) x w M = some (0, upR M 12 s') ∧ HM np nb (sA95 f b x (f (11 * b + 10)) w) s' base ∧ fr base (M 12) s' := by
  have hn := hR.1
  have hb5 : b < 5 := by omega
  have e8 : M 12 (base + (50 + b)) = f (11 * b + 8) := hM.1 b hb 8 (by decide) (by decide)
  have hM' := HM_set (by omega) hb hM 8 (by decide) (by decide) (by decide) (f (11 * b + 8) + 1)
  simp only [pX10_arrivesIn_126, m_ld50 hB hb5, m_st50 hB hb5, e8]
  obtain ⟨s', e, g1, g2⟩ := m_144 (fu := fu) (f := upd f (11 * b + 8) (f (11 * b + 8) + 1)) (RC_up hR (k := 12) (by omega) (upd (M 12) (base + (50 + b)) (f (11 * b + 8) + 1))) hB hb (by rw [upR_at]; exact hM') (by rw [upd_ne (by omega)]; exact h3) (by rw [upd_ne (by omega)]; exact h4) (GD_upd hg (by decide) (by decide) (by decide) (by decide)) x (w + 2)
  rw [upd_ne (j := 11 * b + 10) (by omega)] at g1
  rw [e, upR_upR]
  rw [upR_at] at g2
  exact ⟨s', rfl, g1, fr_tr (fr_upd (by omega)) g2⟩
theorem m_96 (hR : RC C M np nd nb ln ds) (hB : base + 64 ≤ 768) (hb : b < nb) (hM : HM np nb f (M 12) base) (h3 : f (11 * b + 3) = -4) (h4 : f (11 * b + 4) = 0) (hg : GD C nd f b) {x : Nat} (hx : x < np) (w : Int32) : ∃ s', pX10_arrivesIn_96 fu (nI base) (nI b) (nI x) w M = some (0, upR M 12 s') ∧ HM np nb (sA73 C f b (nI x) (f (11 * b + 10)) (cKd C (nI b)) w) s' base ∧ fr base (M 12) s' := by
  have hn := hR.1
  have hb5 : b < 5 := by omega
  obtain ⟨kd, pc, hkd, -, -, k1, k2, -, -⟩ := hR.2.2.2.2.2.2.2.2.1 b hb
  have hck : cKd C (nI b) = nI kd := by unfold cKd; rw [rat_nI hb5 (by decide), k1]
  obtain ⟨m1, m2⟩ := hR.2.2.2.2.2.2.2.2.2.1 x hx
  have hcm : cMr C (nI x) = C 15 x := by unfold cMr; rw [rat_nI (by omega) (by decide)]
  have hhas : pX10_has fu (M 0 3) (nI x) M = some (if C 15 x = 1 then 1 else 0, M) := by
    unfold pX10_has
    rw [m1]
    split <;> rfl
  have A := m_144 (fu := fu) hR hB hb hM h3 h4 hg (nI x) w
  have B := m_126 (fu := fu) hR hB hb hM h3 h4 hg (nI x) w
  simp only [pX10_arrivesIn_96, hhas, bI_some, sA73, hcm, hck]
  by_cases hm : C 15 x = 1
  · rw [if_pos hm, if_neg (by decide), ld_nI (by omega) (by decide), k2, if_pos hm]
    by_cases q0 : nI kd = 0
    · rw [if_pos q0, if_pos q0]; exact B
    · rw [if_neg q0, if_neg q0, ld_nI (by omega) (by decide), k2]
      by_cases q2 : nI kd = 2
      · rw [if_pos q2, if_pos q2]; exact B
      · rw [if_neg q2, if_neg q2]; exact A
  · rw [if_neg hm, if_pos rfl, if_neg hm]; exact A
theorem m_arr (hR : RC C M np nd nb ln ds) (hB : base + 64 ≤ 768) (hb : b < nb) (hM : HM np nb f (M 12) base) {x : Nat} (hx : x < np) (h3 : f (11 * b + 3) = nI x) (h4 : f (11 * b + 4) = 0) (hg : GD C nd f b) : ∃ s', pX10_arrivesIn fu (nI base) (nI b) M = some (0, upR M 12 s') ∧ HM np nb (sArr C f b (nI x) (f (11 * b + 10))) s' base ∧ fr base (M 12) s' := by
  have hn := hR.1
  have hb5 : b < 5 := by omega
  have e3 : M 12 (base + (10 + b)) = nI x := (hM.1 b hb 3 (by decide) (by decide)).trans h3
  have ne3 : f (11 * b + 3) ≠ -4 := by
    rw [h3]; intro h
    have := congrArg Int32.toInt h
    rw [nI_toInt (by omega)] at this
    have h4' : (-4 : Int32).toInt = -4 := rfl
    omega
  have e20 := ((hM.2.1 b hb).2 ne3).1
  -- it is in the place
  have hA := HM_set (by omega) hb hM 2 (by decide) (by decide) (by decide) (nI x)
  have hA2 := HM_in (by omega) (by omega) hb hA (by rw [upd_ne (by omega)]; exact h4) (by rw [show off 2 = 5 from rfl, upd_ne (by omega)]; exact e20)
  have hIn : HM np nb (sIn f b (nI x)) (upd (upd (M 12) (base + (5 + b)) (nI x)) (base + (10 + b)) (-4)) base := hA2
  have g3 : sIn f b (nI x) (11 * b + 3) = -4 := by unfold sIn; rw [upd_at]
  have g4 : sIn f b (nI x) (11 * b + 4) = 0 := by unfold sIn; rw [upd_ne (by omega), upd_ne (by omega)]; exact h4
  have g10 : sIn f b (nI x) (11 * b + 10) = f (11 * b + 10) := by unfold sIn; rw [upd_ne (by omega), upd_ne (by omega)]
  have gG : GD C nd (sIn f b (nI x)) b := GD_upd (GD_upd hg (by decide) (by decide) (by decide) (by decide)) (by decide) (by decide) (by decide) (by decide)
  have hcar := hIn.2.2.1 x hx
  have hi55 : (55 : Int32) + nI x = nI (55 + x) := nI_add 55 x
  have hrat : rat (sIn f b (nI x)) 64 (55 + nI x) = sIn f b (nI x) (55 + x) := by rw [hi55, rat_nI (by omega) (by decide)]
  obtain ⟨kd, pc, hkd, -, -, k1, k2, -, -⟩ := hR.2.2.2.2.2.2.2.2.1 b hb
  have hck : cKd C (nI b) = nI kd := by unfold cKd; rw [rat_nI hb5 (by decide), k1]
  have hR1 := fun s => RC_up hR (k := 12) (by omega) s
  have hup5 : ∀ s : Row, upR M 12 s 5 = M 5 := fun s => upR_ne (by decide)
  have A := m_96 (fu := fu) (f := sIn f b (nI x)) (hR1 (upd (upd (M 12) (base + (5 + b)) (nI x)) (base + (10 + b)) (-4))) hB hb (by rw [upR_at]; exact hIn) g3 g4 gG hx 0
  rw [g10] at A
  simp only [upR_at, upR_upR] at A
  have A' : ∃ s', pX10_arrivesIn_96 fu (nI base) (nI b) (nI x) 0 (upR M 12 (upd (upd (M 12) (base + (5 + b)) (nI x)) (base + (10 + b)) (-4))) = some (0, upR M 12 s') ∧ HM np nb (sA73 C (sIn f b (nI x)) b (nI x) (f (11 * b + 10)) (cKd C (nI b)) 0) s' base ∧ fr base (M 12) s' := by
    obtain ⟨s', a1, a2, a3⟩ := A
    exact ⟨s', a1, a2, fr_tr (fr_tr (fr_upd (by omega)) (fr_upd (by omega))) a3⟩
  simp only [pX10_arrivesIn, m_ld10 hB hb5, e3, m_st5 hB hb5, m_st10 hB hb5, m_ld55 hB (show x < 8 by omega), upR_at, upR_upR, hcar, sArr, hrat]
  by_cases q : sIn f b (nI x) (55 + x) ≤ 0
  · rw [if_pos q, if_pos q]; exact A'
  · rw [if_neg q, if_neg q, ld_nI (by omega) (by decide), hup5, k2, hck]
    by_cases q3 : nI kd = 3
    · rw [if_pos q3, if_pos q3, ← hck]; exact A'
    · rw [if_neg q3, if_neg q3, ← hck]
      -- it eats one
      have hE := HM_car (by omega) (by omega) hIn x hx (sIn f b (nI x) (55 + x) - 1)
      have hE2 := HM_set (by omega) hb hE 7 (by decide) (by decide) (by decide) (upd (sIn f b (nI x)) (55 + x) (sIn f b (nI x) (55 + x) - 1) (11 * b + 7) + 1)
      have hAte : sAte (sIn f b (nI x)) b (nI x) = upd (upd (sIn f b (nI x)) (55 + x) (sIn f b (nI x) (55 + x) - 1)) (11 * b + 7) (upd (sIn f b (nI x)) (55 + x) (sIn f b (nI x) (55 + x) - 1) (11 * b + 7) + 1) := by
        unfold sAte
        rw [hrat, hi55, rpu_nI (by omega) (by decide)]
      rw [← hAte] at hE2
      have e7 := hE.1 b hb 7 (by decide) (by decide)
      simp only [show off 7 = 45 from rfl] at e7 hE2
      simp only [m_ld55 hB (show x < 8 by omega), m_st55 hB (show x < 8 by omega), m_ld45 hB hb5, m_st45 hB hb5, upR_at, upR_upR, hcar, e7]
      have t3 : sAte (sIn f b (nI x)) b (nI x) (11 * b + 3) = -4 := by rw [hAte, upd_ne (by omega), upd_ne (by omega)]; exact g3
      have t4 : sAte (sIn f b (nI x)) b (nI x) (11 * b + 4) = 0 := by rw [hAte, upd_ne (by omega), upd_ne (by omega)]; exact g4
      have t10 : sAte (sIn f b (nI x)) b (nI x) (11 * b + 10) = f (11 * b + 10) := by rw [hAte, upd_ne (by omega), upd_ne (by omega)]; exact g10
      have tG : GD C nd (sAte (sIn f b (nI x)) b (nI x)) b := by
        rw [hAte]
        refine GD_upd ?_ (by decide) (by decide) (by decide) (by decide)
        unfold GD at gG ⊢
        rw [upd_ne (j := 11 * b + 1) (by omega), upd_ne (j := 11 * b + 5) (by omega), upd_ne (j := 11 * b + 10) (by omega)]; exact gG
      obtain ⟨s', a1, a2, a3⟩ := m_96 (fu := fu) (f := sAte (sIn f b (nI x)) b (nI x)) (hR1 (upd (upd (upd (upd (M 12) (base + (5 + b)) (nI x)) (base + (10 + b)) (-4)) (base + (55 + x)) (sIn f b (nI x) (55 + x) - 1)) (base + (45 + b)) (upd (sIn f b (nI x)) (55 + x) (sIn f b (nI x) (55 + x) - 1) (11 * b + 7) + 1))) hB hb (by rw [upR_at]; exact hE2) t3 t4 tG hx (0 + 1)
      rw [t10] at a2
      simp only [upR_at, upR_upR] at a1 a3
      exact ⟨s', a1, a2, fr_tr (fr_tr (fr_tr (fr_tr (fr_upd (by omega)) (fr_upd (by omega))) (fr_upd (by omega))) (fr_upd (by omega))) a3⟩
end MH
