/-! PURE: these questions agree -/
theorem one_ne : ¬ ((1 : Int32) = 0) := by decide
section Q1
variable {A B : Mem} {fu : Nat}
theorem slot0 {np nb b : Nat} {f : Row} (hM : HM np nb f (B 12) 0) (hb : b < nb) (c : Nat) (hc : c < 10) (h4 : c ≠ 4) : B 12 (off c + b) = f (11 * b + c) := by
  have := hM.1 b hb c hc h4
  rwa [Nat.zero_add] at this
theorem a_place (h : REL A B) (hf : 1000 < fu) (x y : Int32) : AGREE (pX9_place fu x y A) (pX10_place fu x y B) := by
  have h' := h
  obtain ⟨np, nd, nb, ln, ds, hR, hN, -⟩ := h'
  have hn := hR.1
  unfold pX9_place pX10_place
  rw [x_hasP (CC_rf A) hR, m_isPlace hR, bI_some, bI_some]
  by_cases hx : inR x np
  · rw [if_pos hx, if_neg one_ne, if_neg one_ne, m_in0 y 2 3 (by decide), bI_some]
    obtain ⟨j, hj, rfl⟩ := of_inR hx (by omega)
    by_cases hy : inR y 3
    · rw [if_pos hy, if_neg one_ne]
      obtain ⟨i, hi, rfl⟩ := of_inR hy (by decide)
      have e1 := hN.1.2.2.1 j hj
      rw [Nat.zero_add] at e1
      obtain ⟨m1, m2⟩ := hR.2.2.2.2.2.2.2.2.2.1 j hj
      have hcm : cMr A (nI j) = A 15 j := by unfold cMr; rw [rat_nI (by omega) (by decide)]
      match i, hi with
      | 0, _ =>
        rw [if_pos (by decide), if_pos (by decide), x_carrotsIn, bI_some, show (55 : Int32) + nI j = nI (55 + j) from nI_add 55 j, rat_nI (by omega) (by decide), ld_nI (by omega) (by decide), e1]
        exact ⟨_, _, _, rfl, rfl, h⟩
      | 1, _ =>
        rw [if_neg (by decide), if_pos (by decide), if_neg (by decide), if_pos (by decide), x_hasMare (CC_rf A), bI_some, hcm, m1]
        rcases m2 with e | e
        · rw [e, show (if (0 : Int32) = 1 then (1 : Int32) else 0) = 0 from by decide, if_pos rfl]; exact ⟨_, _, _, rfl, rfl, h⟩
        · rw [e, show (if (1 : Int32) = 1 then (1 : Int32) else 0) = 1 from by decide, if_neg one_ne]; exact ⟨_, _, _, rfl, rfl, h⟩
      | 2, _ =>
        rw [if_neg (by decide), if_neg (by decide), if_pos (by decide), if_neg (by decide), if_neg (by decide), x_beastsIn (CC_rf A) hR.2.1.2.2 (by omega) (by omega), bI_some, show (0 : Int32) = nI 0 from rfl, m_standing hR (by decide) hN.1 (by omega), bI_some]
        exact ⟨_, _, _, rfl, rfl, h⟩
    · rw [if_neg hy, if_pos rfl, if_neg (fun e => hy (by rw [e]; decide)), if_neg (fun e => hy (by rw [e]; decide)), if_neg (fun e => hy (by rw [e]; decide))]
      exact ⟨_, _, _, rfl, rfl, h⟩
  · rw [if_neg hx, if_pos rfl, if_pos rfl]
    exact ⟨_, _, _, rfl, rfl, h⟩
theorem a_way (h : REL A B) (x y : Int32) : AGREE (pX9_way fu x y A) (pX10_way fu x y B) := by
  have h' := h
  obtain ⟨np, nd, nb, ln, ds, hR, hN, -⟩ := h'
  have hn := hR.1
  unfold pX9_way pX10_way
  rw [x_hasP (CC_rf A) hR, m_isPlace hR, bI_some, bI_some]
  by_cases hx : inR x np
  · rw [if_pos hx, if_neg one_ne, if_neg one_ne, x_hasP (CC_rf A) hR, m_isPlace hR, bI_some, bI_some]
    by_cases hy : inR y np
    · rw [if_pos hy, if_neg one_ne, if_neg one_ne]
      obtain ⟨j, hj, rfl⟩ := of_inR hx (by omega)
      obtain ⟨i, hi, rfl⟩ := of_inR hy (by omega)
      by_cases e : nI j = nI i
      · rw [if_pos e, if_pos e]; exact ⟨_, _, _, rfl, rfl, h⟩
      · obtain ⟨q1, q2, q3, q4, q5, q6, q7⟩ := hR.2.2.2.1 j i hj hi
        have hlen : cLen A (nI j) (nI i) = nI (ln j i) := by unfold cLen; rw [ix8', rat_nI (by omega) (by decide), q4]
        rw [if_neg e, if_neg e, x_lengthOf (CC_rf A), bI_some, hlen, ix8, ld_nI (by omega) (by decide), q6]
        by_cases h0 : ln j i = 0
        · rw [h0, if_pos (by decide), if_pos rfl]; exact ⟨_, _, _, rfl, rfl, h⟩
        · rw [if_neg h0, if_neg (show ¬ nI (ln j i) = 0 from fun q => h0 ((nI_eq_iff (b := 0) (by omega) (by decide)).mp q))]; exact ⟨_, _, _, rfl, rfl, h⟩
    · rw [if_neg hy, if_pos rfl, if_pos rfl]; exact ⟨_, _, _, rfl, rfl, h⟩
  · rw [if_neg hx, if_pos rfl, if_pos rfl]; exact ⟨_, _, _, rfl, rfl, h⟩
theorem a_door (h : REL A B) (x y : Int32) : AGREE (pX9_door fu x y A) (pX10_door fu x y B) := by
  have h' := h
  obtain ⟨np, nd, nb, ln, ds, hR, hN, -⟩ := h'
  have hn := hR.1
  unfold pX9_door pX10_door
  rw [x_hasD (CC_rf A) hR, m_isDoor hR, bI_some, bI_some]
  by_cases hx : inR x nd
  · rw [if_pos hx, if_neg one_ne, if_neg one_ne, m_in0 y 1 2 (by decide), bI_some]
    obtain ⟨j, hj, rfl⟩ := of_inR hx (by omega)
    obtain ⟨p, kd, -, -, q1, q2, q3, q4⟩ := hR.2.2.2.2.2.2.2.1 j hj
    by_cases hy : inR y 2
    · rw [if_pos hy, if_neg one_ne]
      obtain ⟨i, hi, rfl⟩ := of_inR hy (by decide)
      match i, hi with
      | 0, _ =>
        rw [if_pos (by decide), if_pos (by decide), x_doorKind (CC_rf A), bI_some, ld_nI (by omega) (by decide), q4, show cDK A (nI j) = nI kd by unfold cDK; rw [rat_nI (by omega) (by decide), q3]]
        exact ⟨_, _, _, rfl, rfl, h⟩
      | 1, _ =>
        rw [if_neg (by decide), if_pos (by decide), if_neg (by decide), x_doorPlace (CC_rf A), bI_some, ld_nI (by omega) (by decide), q2, show cDP A (nI j) = nI p by unfold cDP; rw [rat_nI (by omega) (by decide), q1]]
        exact ⟨_, _, _, rfl, rfl, h⟩
    · rw [if_neg hy, if_pos rfl, if_neg (fun e => hy (by rw [e]; decide)), if_neg (fun e => hy (by rw [e]; decide))]
      exact ⟨_, _, _, rfl, rfl, h⟩
  · rw [if_neg hx, if_pos rfl, if_pos rfl]; exact ⟨_, _, _, rfl, rfl, h⟩
theorem a_beast (h : REL A B) (x y : Int32) : AGREE (pX9_beast fu x y A) (pX10_beast fu x y B) := by
  have h' := h
  obtain ⟨np, nd, nb, ln, ds, hR, hN, -⟩ := h'
  have hn := hR.1
  unfold pX9_beast pX10_beast
  rw [x_hasB (CC_rf A) hR, m_isBeast hR, bI_some, bI_some]
  by_cases hx : inR x nb
  · rw [if_pos hx, if_neg one_ne, if_neg one_ne, m_in0 y 7 8 (by decide), bI_some]
    obtain ⟨b, hb, rfl⟩ := of_inR hx (by omega)
    have hb5 : b < 5 := by omega
    obtain ⟨kd, pc, -, -, -, k1, k2, k3, k4⟩ := hR.2.2.2.2.2.2.2.2.1 b hb
    have e0 := slot0 hN.1 hb 0 (by decide) (by decide)
    have e1 := slot0 hN.1 hb 1 (by decide) (by decide)
    have e2 := slot0 hN.1 hb 2 (by decide) (by decide)
    have e3 := slot0 hN.1 hb 3 (by decide) (by decide)
    have e5 := slot0 hN.1 hb 5 (by decide) (by decide)
    simp only [show off 0 = 40 from rfl, show off 1 = 0 from rfl, show off 2 = 5 from rfl, show off 3 = 10 from rfl, show off 5 = 25 from rfl, Nat.zero_add] at e0 e1 e2 e3 e5
    have hL := hN.1.2.1 b hb
    rw [Nat.zero_add, Nat.zero_add] at hL
    have still : ∀ K : Int32 → Res, (ld B 12 768 ((10 : Int32) + nI b) fun v5 => if v5 = (-4 : Int32) then (ld B 12 768 ((20 : Int32) + nI b) K) else ld B 12 768 ((15 : Int32) + nI b) K) = K (A 28 (11 * b + 4)) := fun K => by
      rw [show (10 : Int32) + nI b = nI (10 + b) from nI_add 10 b, ld_nI (by omega) (by decide), e3, show (20 : Int32) + nI b = nI (20 + b) from nI_add 20 b, ld_nI (by omega) (by decide), show (15 : Int32) + nI b = nI (15 + b) from nI_add 15 b, ld_nI (by omega) (by decide)]
      by_cases q : A 28 (11 * b + 3) = -4
      · rw [if_pos q, hL.1 q]
      · rw [if_neg q, (hL.2 q).2]
    by_cases hy : inR y 8
    · rw [if_pos hy, if_neg one_ne, still]
      obtain ⟨i, hi, rfl⟩ := of_inR hy (by decide)
      unfold pX10_beast_57
      match i, hi with
      | 0, _ =>
        rw [if_pos (by decide), if_pos (by decide), x_kind (CC_rf A), bI_some, ld_nI (by omega) (by decide), k2, show cKd A (nI b) = nI kd by unfold cKd; rw [rat_nI (by omega) (by decide), k1]]
        exact ⟨_, _, _, rfl, rfl, h⟩
      | 1, _ =>
        rw [if_neg (by decide), if_pos (by decide), if_neg (by decide), if_pos (by decide), x_pace (CC_rf A), bI_some, ld_nI (by omega) (by decide), k4, show cPc A (nI b) = nI pc by unfold cPc; rw [rat_nI (by omega) (by decide), k3]]
        exact ⟨_, _, _, rfl, rfl, h⟩
      | 2, _ =>
        rw [if_neg (by decide), if_neg (by decide), if_pos (by decide), if_neg (by decide), if_neg (by decide), if_pos (by decide), x_get0 hb5, bI_some, show (40 : Int32) + nI b = nI (40 + b) from nI_add 40 b, ld_nI (by omega) (by decide), e0]
        exact ⟨_, _, _, rfl, rfl, h⟩
      | 3, _ =>
        rw [if_neg (by decide), if_neg (by decide), if_neg (by decide), if_pos (by decide), if_neg (by decide), if_neg (by decide), if_neg (by decide), if_pos (by decide), x_get1 hb5, bI_some, ld_nI (by omega) (by decide), e1]
        exact ⟨_, _, _, rfl, rfl, h⟩
      | 4, _ =>
        rw [if_neg (by decide), if_neg (by decide), if_neg (by decide), if_neg (by decide), if_pos (by decide), if_neg (by decide), if_neg (by decide), if_neg (by decide), if_neg (by decide), if_pos (by decide), x_get2 hb5, bI_some, show (5 : Int32) + nI b = nI (5 + b) from nI_add 5 b, ld_nI (by omega) (by decide), e2]
        exact ⟨_, _, _, rfl, rfl, h⟩
      | 5, _ =>
        rw [if_neg (by decide), if_neg (by decide), if_neg (by decide), if_neg (by decide), if_neg (by decide), if_pos (by decide), if_neg (by decide), if_neg (by decide), if_neg (by decide), if_neg (by decide), if_neg (by decide), if_pos (by decide), x_get3 hb5, bI_some, show (10 : Int32) + nI b = nI (10 + b) from nI_add 10 b, ld_nI (by omega) (by decide), e3]
        exact ⟨_, _, _, rfl, rfl, h⟩
      | 6, _ =>
        rw [if_neg (by decide), if_neg (by decide), if_neg (by decide), if_neg (by decide), if_neg (by decide), if_neg (by decide), if_pos (by decide), if_neg (by decide), if_neg (by decide), if_neg (by decide), if_neg (by decide), if_neg (by decide), if_neg (by decide), if_pos (by decide), x_get4 hb5, bI_some]
        exact ⟨_, _, _, rfl, rfl, h⟩
      | 7, _ =>
        rw [if_neg (by decide), if_neg (by decide), if_neg (by decide), if_neg (by decide), if_neg (by decide), if_neg (by decide), if_neg (by decide), if_pos (by decide), if_neg (by decide), if_neg (by decide), if_neg (by decide), if_neg (by decide), if_neg (by decide), if_neg (by decide), if_neg (by decide), x_get5 hb5, bI_some, show (25 : Int32) + nI b = nI (25 + b) from nI_add 25 b, ld_nI (by omega) (by decide), e5]
        exact ⟨_, _, _, rfl, rfl, h⟩
    · have ne : ∀ j : Nat, j < 8 → ¬ y = nI j := fun j hj e => hy (by rw [e]; exact inR_nI hj (by decide))
      rw [if_neg hy, if_pos rfl, if_neg (show ¬ y = 0 from ne 0 (by decide)), if_neg (show ¬ y = 1 from ne 1 (by decide)), if_neg (show ¬ y = 2 from ne 2 (by decide)), if_neg (show ¬ y = 3 from ne 3 (by decide)), if_neg (show ¬ y = 4 from ne 4 (by decide)), if_neg (show ¬ y = 5 from ne 5 (by decide)), if_neg (show ¬ y = 6 from ne 6 (by decide)), if_neg (show ¬ y = 7 from ne 7 (by decide))]
      exact ⟨_, _, _, rfl, rfl, h⟩
  · rw [if_neg hx, if_pos rfl, if_pos rfl]; exact ⟨_, _, _, rfl, rfl, h⟩
theorem in3_eq {α : Type} (y : Int32) (n : Nat) (hi : Int32) (hh : hi.toInt + 1 = n) (a b : α) : (if y < 0 then a else if y ≤ hi then b else a) = if inR y n then b else a := by
  have h0 : (0 : Int32).toInt = 0 := rfl
  by_cases h1 : y < 0
  · rw [if_pos h1]; rw [i_lt, h0] at h1
    rw [if_neg (fun q : inR y n => by omega)]
  · rw [if_neg h1]; rw [i_lt, h0] at h1
    by_cases h2 : y ≤ hi
    · rw [if_pos h2]; rw [i_le] at h2
      rw [if_pos (by constructor <;> omega)]
    · rw [if_neg h2]; rw [i_le] at h2
      rw [if_neg (fun q : inR y n => by omega)]
theorem a_sign (h : REL A B) (x y : Int32) : AGREE (pX9_sign fu x y A) (pX10_sign fu x y B) := by
  have h' := h
  obtain ⟨np, nd, nb, ln, ds, hR, hN, -⟩ := h'
  have hn := hR.1
  unfold pX9_sign pX10_sign
  rw [x_hasB (CC_rf A) hR, m_isBeast hR, bI_some, bI_some]
  by_cases hx : inR x nb
  · rw [if_pos hx, if_neg one_ne, if_neg one_ne, m_in0 y 2 3 (by decide), bI_some, in3_eq y 3 2 (by decide)]
    obtain ⟨b, hb, rfl⟩ := of_inR hx (by omega)
    have hb5 : b < 5 := by omega
    by_cases hy : inR y 3
    · rw [if_pos hy, if_pos hy, if_neg one_ne, x_carries hb5, m_isOut hR hb hN.1, bI_some, bI_some]
      by_cases ho : A 28 (11 * b + 1) = 1 ∨ A 28 (11 * b + 1) = 2
      · rw [if_pos ho, if_neg one_ne, if_neg one_ne]
        obtain ⟨i, hi, rfl⟩ := of_inR hy (by decide)
        have e6 := slot0 hN.1 hb 6 (by decide) (by decide)
        have e7 := slot0 hN.1 hb 7 (by decide) (by decide)
        have e8 := slot0 hN.1 hb 8 (by decide) (by decide)
        simp only [show off 6 = 30 from rfl, show off 7 = 45 from rfl, show off 8 = 50 from rfl] at e6 e7 e8
        match i, hi with
        | 0, _ =>
          rw [if_pos (by decide), if_pos (by decide), x_get6 hb5, bI_some, x_signOf (CC_rf A) hb5, bI_some, show (30 : Int32) + nI b = nI (30 + b) from nI_add 30 b, ld_nI (by omega) (by decide), e6, show (0 : Int32) = nI 0 from rfl, m_signBy hR (by decide) hb hN.1, bI_some]
          exact ⟨_, _, _, rfl, rfl, h⟩
        | 1, _ =>
          rw [if_neg (by decide), if_pos (by decide), if_neg (by decide), if_pos (by decide), x_get7 hb5, bI_some, show (45 : Int32) + nI b = nI (45 + b) from nI_add 45 b, ld_nI (by omega) (by decide), e7]
          exact ⟨_, _, _, rfl, rfl, h⟩
        | 2, _ =>
          rw [if_neg (by decide), if_neg (by decide), if_neg (by decide), if_neg (by decide), x_get8 hb5, bI_some, show (50 : Int32) + nI b = nI (50 + b) from nI_add 50 b, ld_nI (by omega) (by decide), e8]
          exact ⟨_, _, _, rfl, rfl, h⟩
      · rw [if_neg ho, if_pos rfl, if_pos rfl]; exact ⟨_, _, _, rfl, rfl, h⟩
    · rw [if_neg hy, if_neg hy, if_pos rfl]; exact ⟨_, _, _, rfl, rfl, h⟩
  · rw [if_neg hx, if_pos rfl, if_pos rfl]; exact ⟨_, _, _, rfl, rfl, h⟩
theorem a_told (h : REL A B) (hf : 1000 < fu) (x y : Int32) : AGREE (pX9_told fu x y A) (pX10_told fu x y B) := by
  have h' := h
  obtain ⟨np, nd, nb, ln, ds, hR, hN, -⟩ := h'
  have hn := hR.1
  unfold pX9_told pX10_told
  rw [x_hasB (CC_rf A) hR, m_isBeast hR, bI_some, bI_some]
  by_cases hx : inR x nb
  · rw [if_pos hx, if_neg one_ne, if_neg one_ne, m_in0 y 7 8 (by decide), bI_some, x_isVerdict, bI_some]
    obtain ⟨b, hb, rfl⟩ := of_inR hx (by omega)
    have hb5 : b < 5 := by omega
    by_cases hy : inR y 8
    · rw [if_pos hy, if_neg one_ne, if_neg one_ne, x_carries hb5, m_isOut hR hb hN.1, bI_some, bI_some]
      by_cases ho : A 28 (11 * b + 1) = 1 ∨ A 28 (11 * b + 1) = 2
      · rw [if_pos ho, if_neg one_ne, if_neg one_ne, x_verdicts (CC_rf A) hb5 (by omega), bI_some, m_told8 hR hb hN.1 (by omega)]
        exact ⟨_, _, _, rfl, rfl, h⟩
      · rw [if_neg ho, if_pos rfl, if_pos rfl]; exact ⟨_, _, _, rfl, rfl, h⟩
    · rw [if_neg hy, if_pos rfl, if_pos rfl]; exact ⟨_, _, _, rfl, rfl, h⟩
  · rw [if_neg hx, if_pos rfl, if_pos rfl]; exact ⟨_, _, _, rfl, rfl, h⟩
end Q1
