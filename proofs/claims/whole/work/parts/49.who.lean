/-! PURE: who -/
def c8 (a b c d e f g h : Bool) : Nat := (if a then 1 else 0) + ((if b then 1 else 0) + ((if c then 1 else 0) + ((if d then 1 else 0) + ((if e then 1 else 0) + ((if f then 1 else 0) + ((if g then 1 else 0) + ((if h then 1 else 0) + 0)))))))
def bct (x0 : Int32) : Int32 := ((((((((x0 - ((ius x0 (1 : Int32)) &&& (1431655765 : Int32))) &&& (858993459 : Int32)) + ((ius (x0 - ((ius x0 (1 : Int32)) &&& (1431655765 : Int32))) (2 : Int32)) &&& (858993459 : Int32))) + (ius (((x0 - ((ius x0 (1 : Int32)) &&& (1431655765 : Int32))) &&& (858993459 : Int32)) + ((ius (x0 - ((ius x0 (1 : Int32)) &&& (1431655765 : Int32))) (2 : Int32)) &&& (858993459 : Int32))) (4 : Int32))) &&& (252645135 : Int32)) + (ius (((((x0 - ((ius x0 (1 : Int32)) &&& (1431655765 : Int32))) &&& (858993459 : Int32)) + ((ius (x0 - ((ius x0 (1 : Int32)) &&& (1431655765 : Int32))) (2 : Int32)) &&& (858993459 : Int32))) + (ius (((x0 - ((ius x0 (1 : Int32)) &&& (1431655765 : Int32))) &&& (858993459 : Int32)) + ((ius (x0 - ((ius x0 (1 : Int32)) &&& (1431655765 : Int32))) (2 : Int32)) &&& (858993459 : Int32))) (4 : Int32))) &&& (252645135 : Int32)) (8 : Int32))) + (ius ((((((x0 - ((ius x0 (1 : Int32)) &&& (1431655765 : Int32))) &&& (858993459 : Int32)) + ((ius (x0 - ((ius x0 (1 : Int32)) &&& (1431655765 : Int32))) (2 : Int32)) &&& (858993459 : Int32))) + (ius (((x0 - ((ius x0 (1 : Int32)) &&& (1431655765 : Int32))) &&& (858993459 : Int32)) + ((ius (x0 - ((ius x0 (1 : Int32)) &&& (1431655765 : Int32))) (2 : Int32)) &&& (858993459 : Int32))) (4 : Int32))) &&& (252645135 : Int32)) + (ius (((((x0 - ((ius x0 (1 : Int32)) &&& (1431655765 : Int32))) &&& (858993459 : Int32)) + ((ius (x0 - ((ius x0 (1 : Int32)) &&& (1431655765 : Int32))) (2 : Int32)) &&& (858993459 : Int32))) + (ius (((x0 - ((ius x0 (1 : Int32)) &&& (1431655765 : Int32))) &&& (858993459 : Int32)) + ((ius (x0 - ((ius x0 (1 : Int32)) &&& (1431655765 : Int32))) (2 : Int32)) &&& (858993459 : Int32))) (4 : Int32))) &&& (252645135 : Int32)) (8 : Int32))) (16 : Int32))) &&& (63 : Int32))
theorem b8_cnt : ∀ a b c d e f g h : Bool, bct (b8 a b c d e f g h) = nI (c8 a b c d e f g h) ∧ decide (b8 a b c d e f g h = 0) = decide (c8 a b c d e f g h = 0) := by decide +kernel
theorem c8_eq (p : Nat → Bool) : cntF p 8 0 = c8 (p 0) (p 1) (p 2) (p 3) (p 4) (p 5) (p 6) (p 7) := rfl
theorem x_bitCount {fu : Nat} {M : Mem} (p : Nat → Bool) : pJ6_bitCount_0f7a4 fu (bits8 p) M = some (nI (cntF p 8 0), M) := by
  rw [bits8_eq, c8_eq, ← (b8_cnt (p 0) (p 1) (p 2) (p 3) (p 4) (p 5) (p 6) (p 7)).1]; rfl
theorem bits8_0 (p : Nat → Bool) : bits8 p = 0 ↔ cntF p 8 0 = 0 := by
  rw [bits8_eq, c8_eq]
  have := (b8_cnt (p 0) (p 1) (p 2) (p 3) (p 4) (p 5) (p 6) (p 7)).2
  exact decide_eq_decide.mp this
theorem cntF_le (p : Nat → Bool) : ∀ m i, cntF p m i ≤ m := by
  intro m
  induction m with
  | zero => intro i; exact Nat.le_refl 0
  | succ m ih => intro i; unfold cntF; have := ih (i + 1); split <;> omega
theorem lowF_nI (p : Nat → Bool) : ∀ m i, cntF p m i ≠ 0 → ∃ j, j < i + m ∧ lowF p m i = nI j := by
  intro m
  induction m with
  | zero => intro i h; exact absurd rfl h
  | succ m ih =>
    intro i h
    unfold lowF
    by_cases q : p i = true
    · rw [if_pos q]; exact ⟨i, by omega, rfl⟩
    · rw [if_neg q]
      unfold cntF at h
      rw [if_neg q, Nat.zero_add] at h
      obtain ⟨j, h1, h2⟩ := ih (i + 1) h
      exact ⟨j, by omega, h2⟩
section WH
variable {A0 B0 : Mem} {np nd nb fu b : Nat} {ln ds : Nat → Nat → Nat}
theorem m_who8 {A : Mem} (hR : RC A0 B0 np nd nb ln ds) (hN : HMV A0 B0 np nd nb ds 28 0) (hb : b < nb) {d p w : Nat} (hd : d < nd) (hp : p < np) (hC : A0 10 d = nI p) (hw : w < 8) (hf : 1000 < fu) (x3 : Int32) (K : Int32 → Int32 → Int32 → Int32 → Int32 → Int32 → Mem → Res) : ∀ (m i t n : Nat) (fi : Int32) (B : Mem), pB B0 B → i + m = 8 → m < t → n + m ≤ 100 → ∃ B', pX10_who_54 fu K t (nI d) (nI w) x3 (nI n) fi (nI b) (nI i) B = K (nI d) (nI w) x3 (nI (n + cntF (pV A0 nb (decide (ds 0 p < 9999)) (va_cpy (A0 28) (A 55) 0 0 64) b (nI d) (nI w)) m i)) (if n = 0 ∧ cntF (pV A0 nb (decide (ds 0 p < 9999)) (va_cpy (A0 28) (A 55) 0 0 64) b (nI d) (nI w)) m i ≠ 0 then 10 * nI b + lowF (pV A0 nb (decide (ds 0 p < 9999)) (va_cpy (A0 28) (A 55) 0 0 64) b (nI d) (nI w)) m i else fi) (nI b) B' ∧ pB B0 B' := by
  intro m
  induction m with
  | zero =>
    intro i t n fi B hB hi ht hn
    obtain ⟨t, rfl⟩ : ∃ q, t = q + 1 := ⟨t - 1, by omega⟩
    refine ⟨B, ?_, hB⟩
    show pX10_who_54b fu (nI d) (nI w) x3 (nI n) fi (nI b) (nI i) B _ _ = _
    unfold pX10_who_54b cntF
    rw [if_pos (show (8 : Int32) ≤ nI i from (nI_le_iff (a := 8) (by decide) (by omega)).mpr (by omega)), if_neg (by simp)]
    rfl
  | succ m ih =>
    intro i t n fi B hB hi ht hn
    obtain ⟨t, rfl⟩ : ∃ q, t = q + 1 := ⟨t - 1, by omega⟩
    obtain ⟨s', z, g1, g2, g3⟩ := m_pV (fu := fu) (A := A) (v := i) hR hN hB hb hd hp hC hw hf
    have hB' : pB B0 (upR B 12 s') := pB_tr hB (pB_fr g3)
    show ∃ B', pX10_who_54b fu (nI d) (nI w) x3 (nI n) fi (nI b) (nI i) B _ _ = _ ∧ _
    unfold pX10_who_54b cntF lowF
    rw [if_neg (fun q => by have := (nI_le_iff (a := 8) (by decide) (by omega)).mp q; omega), g1, bI_some]
    simp only [pX10_who_79, pX10_who_102, pX10_who_104, pX10_who_118, nI_1]
    by_cases q : z = nI w
    · have q' := g2.mp q
      rw [if_pos q, if_neg one_ne, if_neg one_ne, if_neg one_ne]
      simp only [q', if_true]
      by_cases hn0 : n = 0
      · subst hn0
        rw [if_pos (show nI 0 = 0 from rfl)]
        obtain ⟨B', e1, e2⟩ := ih (i + 1) t 1 (10 * nI b + nI i) _ hB' (by omega) (by omega) (by omega)
        refine ⟨B', ?_, e2⟩
        rw [Nat.zero_add, Nat.zero_add, e1, if_neg (by simp), if_pos ⟨rfl, by omega⟩]
      · rw [if_neg (show ¬ nI n = 0 from fun y => hn0 ((nI_eq_iff (b := 0) (by omega) (by decide)).mp y))]
        obtain ⟨B', e1, e2⟩ := ih (i + 1) t (n + 1) fi _ hB' (by omega) (by omega) (by omega)
        refine ⟨B', ?_, e2⟩
        rw [e1, if_neg (by omega), if_neg (by omega), Nat.add_assoc]
    · have q' : ¬ pV A0 nb (decide (ds 0 p < 9999)) (va_cpy (A0 28) (A 55) 0 0 64) b (nI d) (nI w) i = true := fun y => q (g2.mpr y)
      rw [if_neg q]
      simp only [q', Bool.false_eq_true, if_false, if_true, Nat.zero_add]
      obtain ⟨B', e1, e2⟩ := ih (i + 1) t n fi _ hB' (by omega) (by omega) (by omega)
      refine ⟨B', ?_, e2⟩
      rw [show nI n + (0 : Int32) = nI n from nI_add n 0, e1]
theorem a_who8 (hR : RC A0 B0 np nd nb ln ds) (hN : HMV A0 B0 np nd nb ds 28 0) {d p w : Nat} (hd : d < nd) (hp : p < np) (hC : A0 10 d = nI p) (hw : w < 8) (hf : 1000 < fu) (x3 : Int32) (K K' : Int32 → Int32 → Int32 → Mem → Res) : ∀ (m i t t' n : Nat) (fi : Int32) (A B : Mem), pA A0 A → pB B0 B → i + m = nb → m < t → m < t' → n ≤ 8 * i → (fi = -4 ↔ n = 0) → ∃ n' fi' A' B', pX9_who_39 fu K t (nI d) (nI w) x3 (nI n) fi (nI i) A = K x3 (nI n') fi' A' ∧ pX10_who_42 fu K' t' (nI d) (nI w) x3 (nI n) fi (nI i) B = K' x3 (nI n') fi' B' ∧ pA A0 A' ∧ pB B0 B' := by
  have hn := hR.1
  intro m
  induction m with
  | zero =>
    intro i t t' n fi A B hA hB hi ht ht' hni hfi
    obtain ⟨t, rfl⟩ : ∃ q, t = q + 1 := ⟨t - 1, by omega⟩
    obtain ⟨t', rfl⟩ : ∃ q, t' = q + 1 := ⟨t' - 1, by omega⟩
    refine ⟨n, fi, A, B, ?_, ?_, hA, hB⟩
    · show pX9_who_39b fu (nI d) (nI w) x3 (nI n) fi (nI i) A _ _ = _
      unfold pX9_who_39b
      rw [x_beasts (pA_CC hA), bI_some, hR.2.1.2.2, if_pos ((nI_le_iff (by omega) (by omega)).mpr (by omega))]
    · show pX10_who_42b fu (nI d) (nI w) x3 (nI n) fi (nI i) B _ _ = _
      unfold pX10_who_42b
      rw [(pB_RC hR hB).2.2.1.2.2, if_pos ((nI_le_iff (by omega) (by omega)).mpr (by omega))]
  | succ m ih =>
    intro i t t' n fi A B hA hB hi ht ht' hni hfi
    obtain ⟨t, rfl⟩ : ∃ q, t = q + 1 := ⟨t - 1, by omega⟩
    obtain ⟨t', rfl⟩ : ∃ q, t' = q + 1 := ⟨t' - 1, by omega⟩
    have hb : i < nb := by omega
    obtain ⟨g, e2⟩ := x_vra (fu := fu) hR hN hA hb hd hp hC (nI w) hf
    have hA' : pA A0 (upR A 55 g) := pA_tr hA (pA_up (by omega))
    have e5 := x_lowest (fu := fu) (M := upR A 55 g) (pV A0 nb (decide (ds 0 p < 9999)) (va_cpy (A0 28) (A 55) 0 0 64) i (nI d) (nI w)) 8 0 fu (by omega) (by omega)
    have e5' : pX9_lowestBit fu _ (upR A 55 g) = _ := e5
    obtain ⟨B', e6, e7⟩ := m_who8 (fu := fu) (A := A) hR hN hb hd hp hC hw hf x3 (fun y9 y10 y11 y12 y13 y14 M15 => pX10_who_42 fu K' t' y9 y10 y11 y12 y13 (y14 + (1 : Int32)) M15) 8 0 fu n fi B hB (by omega) (by omega) (by omega)
    have e6' : pX10_who_54 fu _ fu (nI d) (nI w) x3 (nI n) fi (nI i) 0 B = _ := e6
    have hL : pX9_who_39 fu K (t + 1) (nI d) (nI w) x3 (nI n) fi (nI i) A = pX9_who_39b fu (nI d) (nI w) x3 (nI n) fi (nI i) A (pX9_who_39 fu K t) K := rfl
    have hM : pX10_who_42 fu K' (t' + 1) (nI d) (nI w) x3 (nI n) fi (nI i) B = pX10_who_42b fu (nI d) (nI w) x3 (nI n) fi (nI i) B (pX10_who_42 fu K' t') K' := rfl
    rw [hL, hM]
    unfold pX9_who_39b pX10_who_42b
    rw [x_beasts (pA_CC hA), bI_some, hR.2.1.2.2, if_neg (fun q => by have := (nI_le_iff (by omega) (by omega)).mp q; omega), e2, bI_some, (pB_RC hR hB).2.2.1.2.2, if_neg (fun q => by have := (nI_le_iff (by omega) (by omega)).mp q; omega), e6', x_bitCount, bI_some, e5', bI_some]
    generalize hP : pV A0 nb (decide (ds 0 p < 9999)) (va_cpy (A0 28) (A 55) 0 0 64) i (nI d) (nI w) = P
    have hc := cntF_le P 8 0
    simp only [pX9_who_103, nI_1, nI_add]
    by_cases hn0 : n = 0
    · rw [if_pos (hfi.mpr hn0)]
      by_cases hc0 : cntF P 8 0 = 0
      · rw [if_pos ((bits8_0 P).mpr hc0), if_neg (fun q => q.2 hc0)]
        exact ih (i + 1) t t' _ fi _ _ hA' e7 (by omega) (by omega) (by omega) (by omega) ⟨fun q => by have := hfi.mp q; omega, fun q => hfi.mpr (by omega)⟩
      · rw [if_neg (fun q => hc0 ((bits8_0 P).mp q)), if_pos ⟨hn0, hc0⟩]
        obtain ⟨j, hj, hl⟩ := lowF_nI P 8 0 hc0
        refine ih (i + 1) t t' _ _ _ _ hA' e7 (by omega) (by omega) (by omega) (by omega) ⟨fun q => ?_, fun q => by omega⟩
        rw [hl, show (10 : Int32) * nI i = nI (10 * i) from pk_mul 10 i, nI_add] at q
        exact absurd q (nI_ne4 (by omega))
    · rw [if_neg (fun q => hn0 (hfi.mp q)), if_neg (fun q => hn0 q.1)]
      exact ih (i + 1) t t' _ fi _ _ hA' e7 (by omega) (by omega) (by omega) (by omega) ⟨fun q => by have := hfi.mp q; omega, fun q => by omega⟩
end WH
theorem a_who {A B : Mem} {fu : Nat} (h : REL A B) (hf : 1000 < fu) (x y v : Int32) : AGREE (pX9_who fu x y v A) (pX10_who fu x y v B) := by
  have h' := h
  obtain ⟨np, nd, nb, ln, ds, hR, hN, -⟩ := h'
  have hn := hR.1
  have hCC := CC_rf A
  unfold pX9_who pX10_who
  rw [x_hasD hCC hR, m_isDoor hR, bI_some, bI_some]
  by_cases hx : inR x nd
  · rw [if_pos hx, if_neg one_ne, if_neg one_ne, x_isVerdict, m_in0 y 7 8 (by decide), bI_some, bI_some]
    by_cases hy : inR y 8
    · rw [if_pos hy, if_neg one_ne, if_neg one_ne, m_in0 v 1 2 (by decide), bI_some]
      have h0 : (0 : Int32).toInt = 0 := rfl
      have h1 : (1 : Int32).toInt = 1 := rfl
      by_cases hv : inR v 2
      · rw [if_pos hv, if_neg one_ne, if_neg (show ¬ v < 0 from fun q => by rw [i_lt, h0] at q; omega), if_pos (show v ≤ 1 from by rw [i_le, h1]; omega)]
        obtain ⟨d, hd, rfl⟩ := of_inR hx (by omega)
        obtain ⟨w, hw, rfl⟩ := of_inR hy (by omega)
        obtain ⟨p, kd, hp, -, q1, -, -, -⟩ := hR.2.2.2.2.2.2.2.1 d hd
        obtain ⟨n', fi', A', B', e1, e2, e3, e4⟩ := a_who8 (fu := fu) hR hN hd hp q1 hw hf v (fun y13 y14 y15 M16 =>
        if y13 = 0 then (
          some (y14, M16))
        else
        some (y15, M16)) (fun y13 y14 y15 M16 =>
        if y13 = 0 then (
          some (y14, M16))
        else
        some (y15, M16)) nb 0 fu fu 0 (-4) A B (pA_rf A) (pB_rf B) (by omega) (by omega) (by omega) (by omega) ⟨fun _ => rfl, fun _ => rfl⟩
        have e1' : pX9_who_39 fu _ fu (nI d) (nI w) v 0 (-4) 0 A = _ := e1
        have e2' : pX10_who_42 fu _ fu (nI d) (nI w) v 0 (-4) 0 B = _ := e2
        rw [e1', e2']
        split
        · exact AGQ_ok h ⟨_, _, _, rfl, rfl, e3, e4⟩
        · exact AGQ_ok h ⟨_, _, _, rfl, rfl, e3, e4⟩
      · rw [if_neg hv, if_pos rfl]
        by_cases q : v < 0
        · rw [if_pos q]; exact AG_s h
        · rw [if_neg q, if_neg (show ¬ v ≤ 1 from fun z => by rw [i_le, h1] at z; rw [i_lt, h0] at q; exact hv ⟨by omega, by omega⟩)]; exact AG_s h
    · rw [if_neg hy, if_pos rfl, if_pos rfl]; exact AG_s h
  · rw [if_neg hx, if_pos rfl, if_pos rfl]; exact AG_s h
