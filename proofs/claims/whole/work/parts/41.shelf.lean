/-! PURE: what can be undone, what is kept -/
abbrev RELp (A B : Mem) (np nd nb : Nat) (ln ds : Nat → Nat → Nat) : Prop := RC A B np nd nb ln ds ∧ HMV A B np nd nb ds 28 0 ∧ TXT A B ∧ PAST A B np nd nb ds ∧ KEPT A B np nd nb ds
theorem imin_nI {a b : Nat} (ha : a < 2 ^ 31) (hb : b < 2 ^ 31) : imin (nI a) (nI b) = nI (if b < a then b else a) := by
  unfold imin
  by_cases h : b < a
  · rw [if_pos ((nI_lt_iff hb ha).mpr h), if_pos h]
  · rw [if_neg (fun q => h ((nI_lt_iff hb ha).mp q)), if_neg h]
theorem ldr_nI {n j : Nat} {K : Nat → Res} (h : j < n) (hn : n < 2 ^ 31) : ldr n (nI j) K = K j := by
  unfold ldr; rw [if_pos (inR_nI h hn), nI_clamp (by omega)]
section SH
variable {A : Mem} {fu : Nat}
theorem x_push {k N t m : Nat} (hN : lX (k + 1) = N) (hN1 : 1 ≤ N) (hN2 : N ≤ 8) (hk : 29 ≤ k) (ht : t < N) (hm : m ≤ N) (h1 : A k 1 = nI t) (h2 : A k 2 = nI m) : pX8_push fu k 27 A = some (0, upR (upR A k (upd (upd (A k) 1 (nI (if t + 1 < N then t + 1 else 0))) 2 (nI (if m + 1 < N then m + 1 else N)))) (k + 1 + 1 + 2 * (if t + 1 < N then t + 1 else 0) + 1) (va_cpy (A 28) (A (k + 1 + 1 + 2 * (if t + 1 < N then t + 1 else 0) + 1)) 0 0 64)) := by
  have h25 : ∀ t', t' < N → pX8_push_25 fu k 27 (nI t') A = some (0, upR (upR A k (upd (upd (A k) 1 (nI t')) 2 (nI (if m + 1 < N then m + 1 else N)))) (k + 1 + 1 + 2 * t' + 1) (va_cpy (A 28) (A (k + 1 + 1 + 2 * t' + 1)) 0 0 64)) := by
    intro t' ht'
    unfold pX8_push_25
    rw [hN]
    simp only [fpt, up2_eq, upR_at, upR_upR]
    rw [upd_ne (f := A k) (j := 2) (by decide), h2, nI_1, show Int32.ofNat N = nI N from rfl, imin_nI (by omega) (by omega), upd_ne (j := 1) (k := 2) (by decide), upd_at, if_neg (nI_pos (by omega)), if_neg (fun q => by have := (nI_le_iff (by omega) (by omega)).mp q; omega), ldr_nI ht' (by omega), ldr_nI ht' (by omega), x_copy, bV_some]
    congr 2
    have e : (if N < m + 1 then N else m + 1) = (if m + 1 < N then m + 1 else N) := by split <;> split <;> omega
    rw [e, upR_ne (a := 27 + 1) (by omega), upR_ne (a := k + 1 + 1 + 2 * t' + 1) (by omega)]
  unfold pX8_push
  rw [hN, h1, nI_1, show Int32.ofNat N = nI N from rfl]
  by_cases q : t + 1 < N
  · rw [if_neg (fun z => by have := (nI_le_iff (by omega) (by omega)).mp z; omega), if_pos q, h25 (t + 1) q]
  · rw [if_pos ((nI_le_iff (by omega) (by omega)).mpr (by omega)), if_neg q]
    exact h25 0 (by omega)
theorem x_pop0 {k : Nat} (h2 : A k 2 = nI 0) : pX8_pop fu k 27 A = some (0, A) := by
  unfold pX8_pop
  rw [h2, if_pos (by decide)]; rfl
theorem x_pop {k N t m : Nat} (hN : lX (k + 1) = N) (hN1 : 1 ≤ N) (hN2 : N ≤ 8) (hk : 29 ≤ k) (ht : t < N) (hm : m ≤ N) (hm0 : 0 < m) (h1 : A k 1 = nI t) (h2 : A k 2 = nI m) : pX8_pop fu k 27 A = some (1, upR (upR A 28 (va_cpy (A (k + 1 + 1 + 2 * t + 1)) (A 28) 0 0 64)) k (upd (upd (A k) 1 (nI (if 0 < t then t - 1 else N - 1))) 2 (nI (m - 1)))) := by
  unfold pX8_pop
  rw [h2, if_neg (fun q => by have := (nI_eq_iff (b := 0) (by omega) (by decide)).mp q; omega), h1, if_neg (nI_pos (by omega)), hN, show Int32.ofNat N = nI N from rfl, if_neg (fun q => by have := (nI_le_iff (by omega) (by omega)).mp q; omega), ldr_nI ht (by omega), ldr_nI ht (by omega), x_copy, bV_some]
  have e1 : upR A (27 + 1) (va_cpy (A (k + 1 + 1 + 2 * t + 1)) (A (27 + 1)) 0 0 64) k = A k := upR_ne (by omega)
  have h77 : ∀ t', pX8_pop_77 fu k 27 (nI t') (upR A (27 + 1) (va_cpy (A (k + 1 + 1 + 2 * t + 1)) (A (27 + 1)) 0 0 64)) = some (1, upR (upR A 28 (va_cpy (A (k + 1 + 1 + 2 * t + 1)) (A 28) 0 0 64)) k (upd (upd (A k) 1 (nI t')) 2 (nI (m - 1)))) := by
    intro t'
    unfold pX8_pop_77
    simp only [fpt, up2_eq, upR_at, upR_upR, e1, rtz_1]
    rw [upd_ne (f := A k) (j := 2) (by decide), h2, show (1 : Int32) = nI 1 from rfl, pk_sub hm0]
  unfold pX8_pop_53
  rw [hN, e1, h1]
  by_cases q : 0 < t
  · rw [if_neg (fun z => by have := (nI_le0 (by omega)).mp z; omega), if_pos q, show (1 : Int32) = nI 1 from rfl, pk_sub (by omega), h77]
    rfl
  · rw [if_pos ((nI_le0 (by omega)).mpr (by omega)), if_neg q, show Int32.ofNat N = nI N from rfl, show (1 : Int32) = nI 1 from rfl, pk_sub (by omega), h77]
    rfl
end SH
section KN
variable {M : Mem} {fu : Nat}
theorem m_kn12 (c40 : Mem → Res) : ∀ (m i t : Nat) (M : Mem), i + m = 512 → m < t → pX10_known_12 fu c40 t (nI i) M = c40 (upR M 12 (fun j => if i ≤ j ∧ j < 512 then M 12 (j + 64) else M 12 j)) := by
  intro m
  induction m with
  | zero =>
    intro i t M hi ht
    obtain ⟨t, rfl⟩ : ∃ q, t = q + 1 := ⟨t - 1, by omega⟩
    show pX10_known_12b fu (nI i) M _ _ = _
    unfold pX10_known_12b
    rw [if_pos (show (512 : Int32) ≤ nI i from (nI_le_iff (a := 512) (by decide) (by omega)).mpr (by omega))]
    congr 1
    rw [show (fun j => if i ≤ j ∧ j < 512 then M 12 (j + 64) else M 12 j) = M 12 from by funext j; rw [if_neg (by omega)], upR_self]
  | succ m ih =>
    intro i t M hi ht
    obtain ⟨t, rfl⟩ : ∃ q, t = q + 1 := ⟨t - 1, by omega⟩
    show pX10_known_12b fu (nI i) M _ _ = _
    unfold pX10_known_12b
    rw [if_neg (fun q => by have := (nI_le_iff (a := 512) (by decide) (by omega)).mp q; omega), show nI i + (64 : Int32) = nI (i + 64) from nI_add i 64, ld_nI (by omega) (by decide), sto_nI (by omega) (by decide), nI_1, ih (i + 1) t _ (by omega) (by omega), upR_upR, upR_at]
    congr 2
    funext j
    by_cases h : j = i
    · subst h
      rw [if_neg (by omega), if_pos (by omega), upd_at]
    · by_cases h2 : i ≤ j ∧ j < 512
      · rw [if_pos (by omega), if_pos h2, upd_ne (by omega)]
      · rw [if_neg (by omega), if_neg h2, upd_ne h]
theorem m_kn46 {m : Nat} (hm : m < 8) (h : M 0 20 = nI m) (hf : 64 < fu) : pX10_known_46 fu M = some (0, upR (upR M 0 (upd (M 0) 20 (nI (m + 1)))) 12 (cpB (M 12) 0 ((m + 1) * 64))) := by
  unfold pX10_known_46
  simp only [fpt, up2_eq, h, nI_1, upR_at, upd_at]
  rw [show (64 : Int32) = nI 64 from rfl, pk_mul, show (0 : Int32) = nI 0 from rfl, m_copies (by decide) (by omega) (by omega) hf, bV_some, upR_ne (a := 12) (by decide)]
theorem m_known {m : Nat} (hm : m ≤ 8) (h : M 0 20 = nI m) (hf : 512 < fu) : ∃ s', pX10_known fu M = some (0, upR (upR M 0 (upd (M 0) 20 (nI (if m < 8 then m + 1 else 8)))) 12 s') ∧ (∀ j, j < 64 → s' j = M 12 j) ∧ (∀ j, 576 ≤ j → s' j = M 12 j) ∧ (∀ j, j < 64 → s' ((if m < 8 then m + 1 else 8) * 64 + j) = M 12 j) ∧ (∀ i, 1 ≤ i → i < (if m < 8 then m + 1 else 8) → ∀ j, j < 64 → s' (((if m < 8 then m + 1 else 8) - i) * 64 + j) = M 12 ((m - (i - 1)) * 64 + j)) := by
  unfold pX10_known
  by_cases q : m < 8
  · rw [h, if_neg (fun z => by have := (nI_eq_iff (b := 8) (by omega) (by decide)).mp z; omega), m_kn46 q h (by omega)]
    simp only [if_pos q]
    refine ⟨_, rfl, fun j hj => cpB_out (by omega), fun j hj => cpB_out (by omega), fun j hj => ?_, fun i h1 h2 j hj => ?_⟩
    · rw [cpB_in hj, Nat.zero_add]
    · rw [cpB_out (by omega), show m + 1 - i = m - (i - 1) by omega]
  · have e8 : m = 8 := by omega
    subst e8
    have hk := m_kn12 (fu := fu) (fun M5 => fpt M5 0 20 (7 : Int32) fun M6 => pX10_known_46 fu M6) 448 64 fu M (by omega) (by omega)
    rw [h, if_pos (by decide), show (64 : Int32) = nI 64 from rfl, hk]
    simp only [if_neg q, fpt, up2_eq]
    rw [m_kn46 (m := 7) (by decide) (by rw [upR_at, upd_at]; rfl) (by omega)]
    refine ⟨cpB (fun j => if 64 ≤ j ∧ j < 512 then M 12 (j + 64) else M 12 j) 0 ((7 + 1) * 64), ?_, fun j hj => ?_, fun j hj => ?_, fun j hj => ?_, fun i h1 h2 j hj => ?_⟩
    · congr 2
      funext a
      by_cases a12 : a = 12
      · subst a12; rw [upR_at, upR_at, upR_ne (a := 12) (by decide), upR_at]
      · rw [upR_ne a12, upR_ne a12]
        by_cases a0 : a = 0
        · subst a0; rw [upR_at, upR_at, upR_at, upR_ne (a := 0) (by decide), upd_upd]
        · rw [upR_ne a0, upR_ne a0, upR_ne a0, upR_ne a12]
    · rw [cpB_out (by omega), if_neg (by omega)]
    · rw [cpB_out (by omega), if_neg (by omega)]
    · rw [cpB_in hj, if_neg (by omega), Nat.zero_add]
    · rw [cpB_out (by omega), if_pos (by omega)]
      congr 1; omega
end KN
section PU
variable {A B : Mem} {np nd nb fu : Nat} {ln ds : Nat → Nat → Nat}
/-- the latest is put where it can be undone -/
theorem r_push (h : RELp A B np nd nb ln ds) (hf : 1000 < fu) : ∃ A' B', pX8_push fu 29 27 A = some (0, A') ∧ pX10_known fu B = some (0, B') ∧ RELp A' B' np nd nb ln ds ∧ A' 28 = A 28 ∧ CC A A' := by
  obtain ⟨hR, hN, hT, ⟨m, t, hm, ht, h1, h2, h3, h4⟩, hK⟩ := h
  have hn := hR.1
  obtain ⟨s', e, p1, p2, p3, p4⟩ := m_known (fu := fu) hm h3 (by omega)
  have hx := x_push (fu := fu) (k := 29) (N := 8) rfl (by decide) (by decide) (by decide) ht hm h2 h1
  refine ⟨_, _, hx, e, ?_, ?_, ?_⟩
  · generalize hT' : (if t + 1 < 8 then t + 1 else 0) = t' at hx ⊢
    generalize hM' : (if m < 8 then m + 1 else 8) = m' at e p3 p4 ⊢
    have hM2 : (if m + 1 < 8 then m + 1 else 8) = m' := by rw [← hM']; split <;> split <;> omega
    rw [hM2]
    have ht8 : t' < 8 := by rw [← hT']; split <;> omega
    have htt : t' = (t + 1) % 8 := by rw [← hT']; split <;> omega
    have hmm : m' ≤ m + 1 ∧ m' ≤ 8 ∧ (m < 8 → m' = m + 1) := by rw [← hM']; split <;> omega
    have a28 : ∀ a, a ≠ 29 → a ≠ 29 + 1 + 1 + 2 * t' + 1 → upR (upR A 29 (upd (upd (A 29) 1 (nI t')) 2 (nI m'))) (29 + 1 + 1 + 2 * t' + 1) (va_cpy (A 28) (A (29 + 1 + 1 + 2 * t' + 1)) 0 0 64) a = A a := fun a g1 g2 => by rw [upR_ne g2, upR_ne g1]
    have b0 : ∀ a, a ≠ 0 → a ≠ 12 → upR (upR B 0 (upd (B 0) 20 (nI m'))) 12 s' a = B a := fun a g1 g2 => by rw [upR_ne g2, upR_ne g1]
    have b00 : ∀ j, j ≠ 20 → upR (upR B 0 (upd (B 0) 20 (nI m'))) 12 s' 0 j = B 0 j := fun j hj => by rw [upR_ne (by decide), upR_at, upd_ne hj]
    have b12 : upR (upR B 0 (upd (B 0) 20 (nI m'))) 12 s' 12 = s' := upR_at _ _ _
    refine ⟨RC_cong hR (fun a g1 g2 => a28 a (by omega) (by omega)) (fun a g1 g2 => b0 a (by omega) (by omega)) (b00 0 (by decide)) (b00 3 (by decide)) (b00 4 (by decide)) (b00 7 (by decide)), ?_, ?_, ?_, ?_⟩
    · exact HMV_cong (by omega) (by omega) hN (fun j _ => by rw [a28 28 (by omega) (by omega)]) (fun j hj => by rw [b12]; exact p1 _ (by omega)) (a28 10 (by omega) (by omega))
    · obtain ⟨n, g1, g2, g3, g4⟩ := hT
      exact ⟨n, g1, by rw [a28 1 (by omega) (by omega)]; exact g2, by rw [b00 22 (by decide)]; exact g3, fun j hj => by rw [a28 2 (by omega) (by omega), b0 13 (by decide) (by decide)]; exact g4 j hj⟩
    · refine ⟨m', t', hmm.2.1, ht8, ?_, ?_, ?_, fun i hi => ?_⟩
      · rw [upR_ne (by omega), upR_at, upd_at]
      · rw [upR_ne (by omega), upR_at, upd_ne (by decide), upd_at]
      · rw [upR_ne (by decide), upR_at, upd_at]
      · by_cases hi0 : i = 0
        · subst hi0
          have e1 : 32 + 2 * ((t' + 8 - 0) % 8) = 29 + 1 + 1 + 2 * t' + 1 := by omega
          rw [e1]
          exact HMV_cong (by omega) (by omega) hN (fun j hj => by rw [upR_at, cpy_at _ _ hj]) (fun j hj => by rw [b12, Nat.sub_zero, p3 j hj, Nat.zero_add]) (a28 10 (by omega) (by omega))
        · have e1 : (t' + 8 - i) % 8 = (t + 8 - (i - 1)) % 8 := by omega
          have hne : (t + 8 - (i - 1)) % 8 ≠ t' := by omega
          rw [e1]
          exact HMV_cong (by omega) (by omega) (h4 (i - 1) (by omega)) (fun j hj => by rw [a28 _ (by omega) (by omega)]) (fun j hj => by rw [b12]; exact p4 i (by omega) hi j hj) (a28 10 (by omega) (by omega))
    · obtain ⟨m2, t2, g1, g2, g3, g4, g5, g6⟩ := hK
      refine ⟨m2, t2, g1, g2, by rw [a28 47 (by omega) (by omega)]; exact g3, by rw [a28 47 (by omega) (by omega)]; exact g4, by rw [b00 21 (by decide)]; exact g5, fun i hi => ?_⟩
      exact HMV_cong (by omega) (by omega) (g6 i hi) (fun j hj => by rw [a28 _ (by omega) (by omega)]) (fun j hj => by rw [b12]; exact p2 _ (by omega)) (a28 10 (by omega) (by omega))
  · rw [upR_ne (by omega), upR_ne (by omega)]
  · intro a g1 g2
    rw [upR_ne (by split <;> omega), upR_ne (by omega)]
/-- now is another -/
theorem r_now (h : RELp A B np nd nb ln ds) {f' s' : Row} (hM : HM np nb f' s' 0) (hV : HV A np nd nb ds f') (hfr : fr 0 (B 12) s') : RELp (upR A 28 f') (upR B 12 s') np nd nb ln ds := by
  obtain ⟨hR, hN, hT, hP, hK⟩ := h
  have hn := hR.1
  have a28 : ∀ a, a ≠ 28 → upR A 28 f' a = A a := fun a g => upR_ne g
  have b12 : ∀ a, a ≠ 12 → upR B 12 s' a = B a := fun a g => upR_ne g
  refine ⟨RC_cong hR (fun a g1 g2 => a28 a (by omega)) (fun a g1 g2 => b12 a (by omega)) (by rw [b12 0 (by decide)]) (by rw [b12 0 (by decide)]) (by rw [b12 0 (by decide)]) (by rw [b12 0 (by decide)]), ?_, ?_, ?_, ?_⟩
  · exact ⟨by rw [upR_at, upR_at]; exact hM, by rw [upR_at]; exact HV_C hV (a28 10 (by decide))⟩
  · obtain ⟨n, g1, g2, g3, g4⟩ := hT
    exact ⟨n, g1, by rw [a28 1 (by decide)]; exact g2, by rw [b12 0 (by decide)]; exact g3, fun j hj => by rw [a28 2 (by decide), b12 13 (by decide)]; exact g4 j hj⟩
  · obtain ⟨m, t, g1, g2, g3, g4, g5, g6⟩ := hP
    refine ⟨m, t, g1, g2, by rw [a28 29 (by decide)]; exact g3, by rw [a28 29 (by decide)]; exact g4, by rw [b12 0 (by decide)]; exact g5, fun i hi => ?_⟩
    exact HMV_cong (by omega) (by omega) (g6 i hi) (fun j hj => by rw [a28 _ (by omega)]) (fun j hj => by rw [upR_at]; exact hfr _ (by omega)) (a28 10 (by decide))
  · obtain ⟨m, t, g1, g2, g3, g4, g5, g6⟩ := hK
    refine ⟨m, t, g1, g2, by rw [a28 47 (by decide)]; exact g3, by rw [a28 47 (by decide)]; exact g4, by rw [b12 0 (by decide)]; exact g5, fun i hi => ?_⟩
    exact HMV_cong (by omega) (by omega) (g6 i hi) (fun j hj => by rw [a28 _ (by omega)]) (fun j hj => by rw [upR_at]; exact hfr _ (by omega)) (a28 10 (by decide))
end PU
