/-! PURE: what is done: send, pass, home, carrots, undo, keep, back, write, wipe -/
section AC
variable {A B : Mem} {fu : Nat}
theorem AG_f {r : Int32} {A' B' : Mem} {np nd nb : Nat} {ln ds : Nat → Nat → Nat} (h : RELp A' B' np nd nb ln ds) : AGREE (some (r, A')) (some (r, B')) := ⟨r, A', B', rfl, rfl, np, nd, nb, ln, ds, h⟩
theorem AG_s {r : Int32} (h : REL A B) : AGREE (some (r, A)) (some (r, B)) := ⟨r, A, B, rfl, rfl, h⟩
theorem a_send (h : REL A B) (hf : 1000 < fu) (x v y : Int32) : AGREE (pX9_send fu x v y A) (pX10_send fu x v y B) := by
  have h' := h
  obtain ⟨np, nd, nb, ln, ds, hr⟩ := h'
  have hR := hr.1
  have hN := hr.2.1
  have hn := hR.1
  have hCC := CC_rf A
  unfold pX9_send pX10_send
  rw [x_hasB hCC hR, m_isBeast hR, bI_some, bI_some]
  by_cases hx : inR x nb
  · rw [if_pos hx, if_neg one_ne, if_neg one_ne, x_isVerdict, m_in0 v 7 8 (by decide), bI_some, bI_some]
    by_cases hv : inR v 8
    · rw [if_pos hv, if_neg one_ne, if_neg one_ne, x_hasD hCC hR, m_isDoor hR, bI_some, bI_some]
      by_cases hy : inR y nd
      · rw [if_pos hy, if_neg one_ne, if_neg one_ne]
        obtain ⟨b, hb, rfl⟩ := of_inR hx (by omega)
        obtain ⟨d, hd, rfl⟩ := of_inR hy (by omega)
        obtain ⟨p, kd, hp, -, q1, -, -, -⟩ := hR.2.2.2.2.2.2.2.1 d hd
        have hcs : pX10_canSend fu 0 (nI b) (nI d) B = some (if A 28 (11 * b + 1) = 0 ∧ ds 0 p < 9999 then 1 else 0, B) := m_canSend (base := 0) hR (by decide) hb hN.1 hd hp q1
        rw [x_canSend (k := 27) hCC hR hb hN.2 hd hp q1, hcs, bI_some, bI_some, show 27 + 1 = 28 from rfl]
        by_cases hc : A 28 (11 * b + 1) = 0 ∧ ds 0 p < 9999
        · rw [if_pos hc, if_neg one_ne, if_neg one_ne]
          obtain ⟨A', B', e1, e2, hr', e28, hCA⟩ := r_push (fu := fu) hr hf
          have hF : bFR (A' 28) b := by
            rw [e28]
            rcases hN.2.1 b hb with z | z | z
            · exact z
            · rw [z.1] at hc; exact absurd hc.1 (by decide)
            · rcases z.1 with ⟨z1, -⟩ | ⟨z1, -⟩ <;> rw [z1] at hc <;> exact absurd hc.1 (by decide)
          have h10 : A' 10 = A 10 := hCA 10 (by decide) (by decide)
          obtain ⟨s', g1, g2, g3⟩ := m_sends (fu := fu) hr'.1 (show 0 + 64 ≤ 768 by decide) hb hr'.2.1.1 hF v (nI d)
          have hV' := v_sends hr'.1 hb hr'.2.1.2 hF v hd hp (by rw [h10]; exact q1) hc.2
          have hrr := r_now hr' g2 hV' g3
          have eM := slot0 (B := upR B' 12 s') (np := np) (nb := nb) (f := sSend A' (A' 28) b v (nI d)) (by rw [upR_at]; exact g2) hb 0 (by decide) (by decide)
          have g1' : pX10_sends fu 0 (nI b) v (nI d) B' = some (0, upR B' 12 s') := g1
          rw [e1, e2, bV_some, bV_some, x_dispatch (CC_rf A') (by decide) (by omega), g1', bV_some, bV_some, x_get0 (by omega), bI_some, show (40 : Int32) + nI b = nI (40 + b) from nI_add 40 b, ld_nI (by omega) (by decide), show (40 : Nat) + b = off 0 + b from rfl, eM, show 27 + 1 = 28 from rfl, upR_at]
          exact AG_f hrr
        · rw [if_neg hc, if_pos rfl, if_pos rfl]; exact AG_s h
      · rw [if_neg hy, if_pos rfl, if_pos rfl]; exact AG_s h
    · rw [if_neg hv, if_pos rfl, if_pos rfl]; exact AG_s h
  · rw [if_neg hx, if_pos rfl, if_pos rfl]; exact AG_s h
/-- hours, one after the other -/
def sHours (C : Mem) (nb : Nat) : Nat → Row → Row
  | 0, f => f
  | n + 1, f => sHours C nb n (sHour C nb (-4) f)
theorem nobal : ∀ i, i < 5 → (nI i = (-4 : Int32) ↔ nI i = (-1 : Int32)) := by decide
theorem r_hour {np nd nb : Nat} {ln ds : Nat → Nat → Nat} (hr : RELp A B np nd nb ln ds) (hf : 1000 < fu) : ∃ A' B', pX4_goOn fu 27 (-4) A = some (0, A') ∧ pX10_hour fu 0 (-1) B = some (0, B') ∧ RELp A' B' np nd nb ln ds := by
  have hR := hr.1
  have hn := hR.1
  obtain ⟨s', g1, g2, g3, g4⟩ := m_hour (fu := fu) hR (show 0 + 64 ≤ 768 by decide) (by omega) (-4) (-1) nobal hr.2.1.1 hr.2.1.2
  exact ⟨_, _, x_goOn (CC_rf A) hR.2.1.2.2 (by omega) (by decide) (-4) (by omega), g1, r_now hr g2 g3 g4⟩
theorem r_pass {np nd nb : Nat} {ln ds : Nat → Nat → Nat} (hf : 1000 < fu) (n : Nat) (hn24 : n ≤ 24) (c1 c2 : Mem → Res) : ∀ (m i t t2 : Nat) (A B : Mem), RELp A B np nd nb ln ds → i + m = n → m < t → m < t2 → ∃ A' B', RELp A' B' np nd nb ln ds ∧ pX9_pass_26 fu c1 t (nI n) (nI i) A = c1 A' ∧ pX10_pass_20 fu c2 t2 (nI n) (nI i) B = c2 B' := by
  intro m
  induction m with
  | zero =>
    intro i t t2 A B hr hi ht ht2
    obtain ⟨t, rfl⟩ : ∃ q, t = q + 1 := ⟨t - 1, by omega⟩
    obtain ⟨t2, rfl⟩ : ∃ q, t2 = q + 1 := ⟨t2 - 1, by omega⟩
    refine ⟨A, B, hr, ?_, ?_⟩
    · show pX9_pass_26b fu (nI n) (nI i) A _ _ = _
      unfold pX9_pass_26b
      rw [if_pos ((nI_le_iff (by omega) (by omega)).mpr (by omega))]
    · show pX10_pass_20b fu (nI n) (nI i) B _ _ = _
      unfold pX10_pass_20b
      rw [if_pos ((nI_le_iff (by omega) (by omega)).mpr (by omega))]
  | succ m ih =>
    intro i t t2 A B hr hi ht ht2
    obtain ⟨t, rfl⟩ : ∃ q, t = q + 1 := ⟨t - 1, by omega⟩
    obtain ⟨t2, rfl⟩ : ∃ q, t2 = q + 1 := ⟨t2 - 1, by omega⟩
    obtain ⟨A1, B1, e1, e2, hr1⟩ := r_hour (fu := fu) hr hf
    obtain ⟨A', B', hr', p1, p2⟩ := ih (i + 1) t t2 A1 B1 hr1 (by omega) (by omega) (by omega)
    refine ⟨A', B', hr', ?_, ?_⟩
    · show pX9_pass_26b fu (nI n) (nI i) A _ _ = _
      unfold pX9_pass_26b
      rw [if_neg (fun q => by have := (nI_le_iff (by omega) (by omega)).mp q; omega), e1, bV_some, nI_1, p1]
    · show pX10_pass_20b fu (nI n) (nI i) B _ _ = _
      unfold pX10_pass_20b
      rw [if_neg (fun q => by have := (nI_le_iff (by omega) (by omega)).mp q; omega), e2, bV_some, nI_1, p2]
theorem a_pass (h : REL A B) (hf : 1000 < fu) (x : Int32) : AGREE (pX9_pass fu x A) (pX10_pass fu x B) := by
  have h' := h
  obtain ⟨np, nd, nb, ln, ds, hr⟩ := h'
  unfold pX9_pass pX10_pass
  rw [m_in, bI_some, w_toInt, show (1 : Int64).toInt = 1 from rfl, show (24 : Int64).toInt = 24 from rfl]
  have t1 : (1 : Int32).toInt = 1 := rfl
  have t24 : (24 : Int32).toInt = 24 := rfl
  by_cases hx : 1 ≤ x.toInt ∧ x.toInt ≤ 24
  · rw [if_pos hx, if_neg one_ne, if_neg (fun q => by rw [i_lt, t1] at q; omega), if_pos (by rw [i_le, t24]; omega)]
    obtain ⟨n, hn, rfl⟩ := of_inR (n := 25) (x := x) (by constructor <;> omega) (by decide)
    obtain ⟨A1, B1, e1, e2, hr1, -, -⟩ := r_push (fu := fu) hr hf
    rw [e1, e2, bV_some, bV_some]
    obtain ⟨A2, B2, hr2, p1, p2⟩ := r_pass (fu := fu) hf n (by omega) (fun M3 => bI (pX4_hours fu 27 M3) fun r5 M4 => some (r5, M4)) (fun M5 => ld M5 12 768 (63 : Int32) fun v6 => some (v6, M5)) n 0 fu fu A1 B1 hr1 (by omega) (by omega) (by omega)
    have z0 : (0 : Int32) = nI 0 := rfl
    rw [z0, p1, p2]
    have e := hr2.2.1.1.2.2.2
    rw [Nat.zero_add] at e
    simp only [pX4_hours, x_at fu _ 64 _ A2 (by decide), bI_some]
    rw [show (63 : Int32) = nI 63 from rfl, rat_nI (by decide) (by decide), ld_nI (by decide) (by decide), e]
    exact AG_f hr2
  · rw [if_neg hx, if_pos rfl]
    by_cases h1 : x < 1
    · rw [if_pos h1]; exact AG_s h
    · rw [if_neg h1]
      rw [i_lt, t1] at h1
      rw [if_neg (fun q => by rw [i_le, t24] at q; omega)]; exact AG_s h
theorem bST_of {np nd nb b : Nat} {ds : Nat → Nat → Nat} {C : Mem} {f : Row} (hV : HV C np nd nb ds f) (hb : b < nb) (h : f (11 * b + 1) = 2) : bST C np nd ds f b := by
  rcases hV.1 b hb with z | z | z
  · rw [z.1] at h; exact absurd h (by decide)
  · exact z
  · rcases z.1 with ⟨z1, -⟩ | ⟨z1, -⟩ <;> rw [z1] at h <;> exact absurd h (by decide)
theorem a_home (h : REL A B) (hf : 1000 < fu) (x : Int32) : AGREE (pX9_home fu x A) (pX10_home fu x B) := by
  have h' := h
  obtain ⟨np, nd, nb, ln, ds, hr⟩ := h'
  have hR := hr.1
  have hN := hr.2.1
  have hn := hR.1
  have hCC := CC_rf A
  unfold pX9_home pX10_home
  rw [x_hasB hCC hR, m_isBeast hR, bI_some, bI_some]
  by_cases hx : inR x nb
  · rw [if_pos hx, if_neg one_ne, if_neg one_ne]
    obtain ⟨b, hb, rfl⟩ := of_inR hx (by omega)
    have hb5 : b < 5 := by omega
    have e1 := slot0 hN.1 hb 1 (by decide) (by decide)
    rw [show off 1 + b = b from by simp [off]] at e1
    rw [x_is hb5, bI_some, ld_nI (by omega) (by decide), e1]
    by_cases h2 : A 28 (11 * b + 1) = 2
    · rw [if_pos h2, if_neg one_ne, if_pos h2]
      obtain ⟨A', B', p1, p2, hr', e28, hCA⟩ := r_push (fu := fu) hr hf
      have hS : bST A' np nd ds (A' 28) b := bST_of hr'.2.1.2 hb (by rw [e28]; exact h2)
      have hS' := hS
      obtain ⟨-, d, p, hd, -, -, -, f5, -⟩ := hS'
      obtain ⟨s', g1, g2, g3⟩ := m_goesHome (fu := fu) hr'.1 (show 0 + 64 ≤ 768 by decide) hb hr'.2.1.1 hS
      have hV' := v_goesHome hr'.1 hb hr'.2.1.2 hS
      rw [p1, p2, bV_some, bV_some, x_readOf (CC_rf A') hb5, bI_some, show (0 : Int32) = nI 0 from rfl, m_read hr'.1 (by decide) hb hr'.2.1.1 hd f5, bI_some, x_callHome hb5, g1, bV_some, bV_some]
      exact AG_f (r_now hr' g2 hV' g3)
    · rw [if_neg h2, if_pos rfl, if_neg h2]; exact AG_s h
  · rw [if_neg hx, if_pos rfl, if_pos rfl]; exact AG_s h
theorem v_car {np nd nb x c : Nat} {ds : Nat → Nat → Nat} {C : Mem} {f : Row} (hn : nb ≤ 5) (hV : HV C np nd nb ds f) (hc : c ≤ 9) : HV C np nd nb ds (upd f (55 + x) (nI c)) := by
  refine ⟨fun b hb => ?_, fun y hy => ?_⟩
  · have e : ∀ k, k < 11 → upd f (55 + x) (nI c) (11 * b + k) = f (11 * b + k) := fun k hk => upd_ne (by omega)
    have hv := hV.1 b hb
    unfold BV bFR bST bUW GD bPL at hv ⊢
    rw [e 1 (by decide), e 2 (by decide), e 3 (by decide), e 4 (by decide), e 5 (by decide), e 10 (by decide)]
    exact hv
  · by_cases e : y = x
    · subst e; rw [upd_at]; exact ⟨c, hc, rfl⟩
    · rw [upd_ne (by omega)]; exact hV.2 y hy
theorem a_carrots (h : REL A B) (hf : 1000 < fu) (x y : Int32) : AGREE (pX9_carrots fu x y A) (pX10_carrots fu x y B) := by
  have h' := h
  obtain ⟨np, nd, nb, ln, ds, hr⟩ := h'
  have hR := hr.1
  have hn := hR.1
  have hCC := CC_rf A
  unfold pX9_carrots pX10_carrots
  rw [x_hasP hCC hR, m_isPlace hR, bI_some, bI_some]
  by_cases hx : inR x np
  · rw [if_pos hx, if_neg one_ne, if_neg one_ne, m_in0 y 9 10 (by decide), bI_some, in3_eq y 10 9 (by decide)]
    obtain ⟨j, hj, rfl⟩ := of_inR hx (by omega)
    by_cases hy : inR y 10
    · rw [if_pos hy, if_pos hy, if_neg one_ne]
      obtain ⟨c, hc, rfl⟩ := of_inR hy (by decide)
      obtain ⟨A', B', p1, p2, hr', -, -⟩ := r_push (fu := fu) hr hf
      have e1 := hr'.2.1.1.2.2.1 j hj
      have hE := HM_car (base := 0) (by omega) (by omega) hr'.2.1.1 j hj (nI c)
      rw [Nat.zero_add] at e1 hE
      rw [p1, p2, bV_some, bV_some, x_carrotsIn, bI_some, x_putCarrots, bV_some, show (55 : Int32) + nI j = nI (55 + j) from nI_add 55 j, rat_nI (by omega) (by decide), rpu_nI (by omega) (by decide), ld_nI (by omega) (by decide), sto_nI (by omega) (by decide), e1]
      exact AG_f (r_now hr' hE (v_car (by omega) hr'.2.1.2 (by omega)) (fun i hi => upd_ne (by omega)))
    · rw [if_neg hy, if_neg hy, if_pos rfl]; exact AG_s h
  · rw [if_neg hx, if_pos rfl, if_pos rfl]; exact AG_s h
theorem a_undo (h : REL A B) (hf : 1000 < fu) : AGREE (pX9_undo fu A) (pX10_undo fu B) := by
  have h' := h
  obtain ⟨np, nd, nb, ln, ds, hR, hN, hT, ⟨m, t, hm, ht, h1, h2, h3, h4⟩, hK⟩ := h'
  have hn := hR.1
  unfold pX9_undo pX10_undo
  by_cases hm0 : m = 0
  · subst hm0
    rw [x_pop0 h1, bI_some, if_pos rfl, h3, if_pos (by decide)]; exact AG_s h
  · rw [x_pop (N := 8) rfl (by decide) (by decide) (by decide) ht hm (by omega) h2 h1, bI_some, if_neg one_ne, h3, if_neg (show ¬ nI m = 0 from fun q => hm0 ((nI_eq_iff (b := 0) (by omega) (by decide)).mp q)), pX8_size, bI_some, show (64 : Int32) = nI 64 from rfl, pk_mul, show (0 : Int32) = nI 0 from rfl, m_copies (by omega) (by decide) (by omega) (by omega), bV_some]
    simp only [fpt, up2_eq, upR_at]
    rw [upR_ne (a := 0) (k := 12) (by decide), h3, show (1 : Int32) = nI 1 from rfl, pk_sub (by omega), upd_at, upd_at]
    refine AG_f (np := np) (nd := nd) (nb := nb) (ln := ln) (ds := ds) ?_
    generalize hT' : (if 0 < t then t - 1 else 8 - 1) = t'
    have ht' : t' < 8 ∧ t' = (t + 7) % 8 := by rw [← hT']; split <;> omega
    have a28 : ∀ a, a ≠ 29 → a ≠ 28 → upR (upR A 28 (va_cpy (A (29 + 1 + 1 + 2 * t + 1)) (A 28) 0 0 64)) 29 (upd (upd (A 29) 1 (nI t')) 2 (nI (m - 1))) a = A a := fun a g1 g2 => by rw [upR_ne g1, upR_ne g2]
    have b0 : ∀ a, a ≠ 0 → a ≠ 12 → upR (upR B 12 (cpB (B 12) (m * 64) 0)) 0 (upd (B 0) 20 (nI (m - 1))) a = B a := fun a g1 g2 => by rw [upR_ne g1, upR_ne g2]
    have b00 : ∀ j, j ≠ 20 → upR (upR B 12 (cpB (B 12) (m * 64) 0)) 0 (upd (B 0) 20 (nI (m - 1))) 0 j = B 0 j := fun j hj => by rw [upR_at, upd_ne hj]
    have b12 : upR (upR B 12 (cpB (B 12) (m * 64) 0)) 0 (upd (B 0) 20 (nI (m - 1))) 12 = cpB (B 12) (m * 64) 0 := by rw [upR_ne (by decide), upR_at]
    refine ⟨RC_cong hR (fun a g1 g2 => a28 a (by omega) (by omega)) (fun a g1 g2 => b0 a (by omega) (by omega)) (b00 0 (by decide)) (b00 3 (by decide)) (b00 4 (by decide)) (b00 7 (by decide)), ?_, ?_, ?_, ?_⟩
    · have h40 := h4 0 (by omega)
      refine HMV_cong (by omega) (by omega) h40 (fun j hj => ?_) (fun j hj => ?_) (a28 10 (by omega) (by omega))
      · rw [upR_ne (by decide), upR_at, cpy_at _ _ hj, show 29 + 1 + 1 + 2 * t + 1 = 32 + 2 * ((t + 8 - 0) % 8) by omega]
      · rw [b12, cpB_in hj, Nat.sub_zero]
    · obtain ⟨n, g1, g2, g3, g4⟩ := hT
      exact ⟨n, g1, by rw [a28 1 (by omega) (by omega)]; exact g2, by rw [b00 22 (by decide)]; exact g3, fun j hj => by rw [a28 2 (by omega) (by omega), b0 13 (by decide) (by decide)]; exact g4 j hj⟩
    · refine ⟨m - 1, t', by omega, ht'.1, ?_, ?_, ?_, fun i hi => ?_⟩
      · rw [upR_at, upd_at]
      · rw [upR_at, upd_ne (by decide), upd_at]
      · rw [upR_at, upd_at]
      · have e1 : (t' + 8 - i) % 8 = (t + 8 - (i + 1)) % 8 := by omega
        rw [e1, show m - 1 - i = m - (i + 1) by omega]
        exact HMV_cong (by omega) (by omega) (h4 (i + 1) (by omega)) (fun j hj => by rw [a28 _ (by omega) (by omega)]) (fun j hj => by rw [b12, cpB_out (by omega)]) (a28 10 (by omega) (by omega))
    · obtain ⟨m2, t2, g1, g2, g3, g4, g5, g6⟩ := hK
      refine ⟨m2, t2, g1, g2, by rw [a28 47 (by omega) (by omega)]; exact g3, by rw [a28 47 (by omega) (by omega)]; exact g4, by rw [b00 21 (by decide)]; exact g5, fun i hi => ?_⟩
      exact HMV_cong (by omega) (by omega) (g6 i hi) (fun j hj => by rw [a28 _ (by omega) (by omega)]) (fun j hj => by rw [b12, cpB_out (by omega)]) (a28 10 (by omega) (by omega))
theorem a_keep (h : REL A B) (hf : 1000 < fu) : AGREE (pX9_keep fu A) (pX10_keep fu B) := by
  have h' := h
  obtain ⟨np, nd, nb, ln, ds, hR, hN, hT, hP, ⟨m, t, hm, ht, h1, h2, h3, h4⟩⟩ := h'
  have hn := hR.1
  unfold pX9_keep pX10_keep
  rw [pX8_size, bI_some, h1, h3]
  by_cases hm2 : m = 2
  · subst hm2
    rw [if_pos (by decide), if_pos (by decide)]; exact AG_s h
  · have hne : ¬ nI m = 2 := fun q => hm2 ((nI_eq_iff (b := 2) (by omega) (by decide)).mp q)
    rw [if_neg hne, if_neg hne, x_push (k := 47) (N := 2) rfl (by decide) (by decide) (by decide) ht hm h2 h1, bV_some, pX8_size, bI_some, show (9 : Int32) + nI m = nI (9 + m) from nI_add 9 m, show (64 : Int32) = nI 64 from rfl, pk_mul, show (0 : Int32) = nI 0 from rfl, m_copies (by decide) (by omega) (by omega) (by omega), bV_some]
    simp only [fpt, up2_eq, upR_at]
    rw [upR_ne (a := 0) (k := 12) (by decide), h3, nI_1, upd_at, upR_ne (a := 47) (by split <;> omega), upR_at, upd_at]
    have em : (if m + 1 < 2 then m + 1 else 2) = m + 1 := by split <;> omega
    rw [em]
    refine AG_f (np := np) (nd := nd) (nb := nb) (ln := ln) (ds := ds) ?_
    generalize hT' : (if t + 1 < 2 then t + 1 else 0) = t'
    have ht' : t' < 2 ∧ t' = (t + 1) % 2 := by rw [← hT']; split <;> omega
    have a28 : ∀ a, a ≠ 47 → a ≠ 47 + 1 + 1 + 2 * t' + 1 → upR (upR A 47 (upd (upd (A 47) 1 (nI t')) 2 (nI (m + 1)))) (47 + 1 + 1 + 2 * t' + 1) (va_cpy (A 28) (A (47 + 1 + 1 + 2 * t' + 1)) 0 0 64) a = A a := fun a g1 g2 => by rw [upR_ne g2, upR_ne g1]
    have b0 : ∀ a, a ≠ 0 → a ≠ 12 → upR (upR B 12 (cpB (B 12) 0 ((9 + m) * 64))) 0 (upd (B 0) 21 (nI (m + 1))) a = B a := fun a g1 g2 => by rw [upR_ne g1, upR_ne g2]
    have b00 : ∀ j, j ≠ 21 → upR (upR B 12 (cpB (B 12) 0 ((9 + m) * 64))) 0 (upd (B 0) 21 (nI (m + 1))) 0 j = B 0 j := fun j hj => by rw [upR_at, upd_ne hj]
    have b12 : upR (upR B 12 (cpB (B 12) 0 ((9 + m) * 64))) 0 (upd (B 0) 21 (nI (m + 1))) 12 = cpB (B 12) 0 ((9 + m) * 64) := by rw [upR_ne (by decide), upR_at]
    refine ⟨RC_cong hR (fun a g1 g2 => a28 a (by omega) (by omega)) (fun a g1 g2 => b0 a (by omega) (by omega)) (b00 0 (by decide)) (b00 3 (by decide)) (b00 4 (by decide)) (b00 7 (by decide)), ?_, ?_, ?_, ?_⟩
    · exact HMV_cong (by omega) (by omega) hN (fun j hj => by rw [a28 28 (by omega) (by omega)]) (fun j hj => by rw [b12, cpB_out (by omega)]) (a28 10 (by omega) (by omega))
    · obtain ⟨n, g1, g2, g3, g4⟩ := hT
      exact ⟨n, g1, by rw [a28 1 (by omega) (by omega)]; exact g2, by rw [b00 22 (by decide)]; exact g3, fun j hj => by rw [a28 2 (by omega) (by omega), b0 13 (by decide) (by decide)]; exact g4 j hj⟩
    · obtain ⟨m2, t2, g1, g2, g3, g4, g5, g6⟩ := hP
      refine ⟨m2, t2, g1, g2, by rw [a28 29 (by omega) (by omega)]; exact g3, by rw [a28 29 (by omega) (by omega)]; exact g4, by rw [b00 20 (by decide)]; exact g5, fun i hi => ?_⟩
      exact HMV_cong (by omega) (by omega) (g6 i hi) (fun j hj => by rw [a28 _ (by omega) (by omega)]) (fun j hj => by rw [b12, cpB_out (by omega)]) (a28 10 (by omega) (by omega))
    · refine ⟨m + 1, t', by omega, ht'.1, ?_, ?_, ?_, fun i hi => ?_⟩
      · rw [upR_ne (by omega), upR_at, upd_at]
      · rw [upR_ne (by omega), upR_at, upd_ne (by decide), upd_at]
      · rw [upR_at, upd_at]
      · by_cases hi0 : i = 0
        · subst hi0
          rw [show 50 + 2 * ((t' + 2 - 0) % 2) = 47 + 1 + 1 + 2 * t' + 1 by omega]
          refine HMV_cong (by omega) (by omega) hN (fun j hj => by rw [upR_at, cpy_at _ _ hj]) (fun j hj => ?_) (a28 10 (by omega) (by omega))
          rw [b12, show 9 + (m + 1 - 1 - 0) = 9 + m by omega, cpB_in hj]
        · have e1 : (t' + 2 - i) % 2 = (t + 2 - (i - 1)) % 2 := by omega
          have hne2 : (t + 2 - (i - 1)) % 2 ≠ t' := by omega
          rw [e1]
          refine HMV_cong (by omega) (by omega) (h4 (i - 1) (by omega)) (fun j hj => by rw [a28 _ (by omega) (by omega)]) (fun j hj => ?_) (a28 10 (by omega) (by omega))
          rw [b12, cpB_out (by omega), show m + 1 - 1 - i = m - 1 - (i - 1) by omega]
theorem a_back (h : REL A B) (hf : 1000 < fu) : AGREE (pX9_back fu A) (pX10_back fu B) := by
  have h' := h
  obtain ⟨np, nd, nb, ln, ds, hR, hN, hT, hP, ⟨m, t, hm, ht, h1, h2, h3, h4⟩⟩ := h'
  have hn := hR.1
  unfold pX9_back pX10_back
  by_cases hm0 : m = 0
  · subst hm0
    rw [x_pop0 h1, bI_some, if_pos rfl, h3, if_pos (by decide)]; exact AG_s h
  · rw [x_pop (k := 47) (N := 2) rfl (by decide) (by decide) (by decide) ht hm (by omega) h2 h1, bI_some, if_neg one_ne, h3, if_neg (show ¬ nI m = 0 from fun q => hm0 ((nI_eq_iff (b := 0) (by omega) (by decide)).mp q))]
    simp only [pX8_clear, pX8_size, fpt, up2_eq, upR_at, bV_some, bI_some]
    rw [show (1 : Int32) = nI 1 from rfl, pk_sub (by omega), upd_at, show (9 : Int32) + nI (m - 1) = nI (9 + (m - 1)) from nI_add 9 _, show (64 : Int32) = nI 64 from rfl, pk_mul, show (0 : Int32) = nI 0 from rfl, m_copies (by omega) (by decide) (by omega) (by omega), bV_some]
    rw [upR_ne (a := 47) (k := 29) (by decide), upR_at, upd_at, upR_ne (a := 0) (k := 12) (by decide), upR_at, upR_ne (a := 12) (k := 0) (by decide), upd_ne (j := 21) (k := 20) (by decide), upd_at]
    refine AG_f (np := np) (nd := nd) (nb := nb) (ln := ln) (ds := ds) ?_
    generalize hT' : (if 0 < t then t - 1 else 2 - 1) = t'
    have ht' : t' < 2 ∧ t' = (t + 1) % 2 := by rw [← hT']; split <;> omega
    generalize hA' : upR (upR (upR A 28 (va_cpy (A (47 + 1 + 1 + 2 * t + 1)) (A 28) 0 0 64)) 47 (upd (upd (A 47) 1 (nI t')) 2 (nI (m - 1)))) 29 (upd (upR (upR A 28 (va_cpy (A (47 + 1 + 1 + 2 * t + 1)) (A 28) 0 0 64)) 47 (upd (upd (A 47) 1 (nI t')) 2 (nI (m - 1))) 29) 2 (nI 0)) = A'
    have a28 : ∀ a, a ≠ 47 → a ≠ 28 → a ≠ 29 → A' a = A a := fun a g1 g2 g3 => by rw [← hA', upR_ne g3, upR_ne g1, upR_ne g2]
    have a28' : A' 28 = va_cpy (A (47 + 1 + 1 + 2 * t + 1)) (A 28) 0 0 64 := by rw [← hA', upR_ne (by decide), upR_ne (by decide), upR_at]
    have a47 : A' 47 = upd (upd (A 47) 1 (nI t')) 2 (nI (m - 1)) := by rw [← hA', upR_ne (by decide), upR_at]
    have a29 : A' 29 = upd (A 29) 2 (nI 0) := by rw [← hA', upR_at, upR_ne (by decide), upR_ne (by decide)]
    generalize hB' : upR (upR (upR B 0 (upd (B 0) 21 (nI (m - 1)))) 12 (cpB (B 12) ((9 + (m - 1)) * 64) 0)) 0 (upd (upd (B 0) 21 (nI (m - 1))) 20 (nI 0)) = B'
    have b0 : ∀ a, a ≠ 0 → a ≠ 12 → B' a = B a := fun a g1 g2 => by rw [← hB', upR_ne g1, upR_ne g2, upR_ne g1]
    have b00 : ∀ j, j ≠ 20 → j ≠ 21 → B' 0 j = B 0 j := fun j g1 g2 => by rw [← hB', upR_at, upd_ne g1, upd_ne g2]
    have b12 : B' 12 = cpB (B 12) ((9 + (m - 1)) * 64) 0 := by rw [← hB', upR_ne (by decide), upR_at]
    refine ⟨RC_cong hR (fun a g1 g2 => a28 a (by omega) (by omega) (by omega)) (fun a g1 g2 => b0 a (by omega) (by omega)) (b00 0 (by decide) (by decide)) (b00 3 (by decide) (by decide)) (b00 4 (by decide) (by decide)) (b00 7 (by decide) (by decide)), ?_, ?_, ?_, ?_⟩
    · have h40 := h4 0 (by omega)
      refine HMV_cong (by omega) (by omega) h40 (fun j hj => ?_) (fun j hj => ?_) (a28 10 (by omega) (by omega) (by omega))
      · rw [a28', cpy_at _ _ hj, show 47 + 1 + 1 + 2 * t + 1 = 50 + 2 * ((t + 2 - 0) % 2) by omega]
      · rw [b12, cpB_in hj, Nat.sub_zero]
    · obtain ⟨n, g1, g2, g3, g4⟩ := hT
      exact ⟨n, g1, by rw [a28 1 (by omega) (by omega) (by omega)]; exact g2, by rw [b00 22 (by decide) (by decide)]; exact g3, fun j hj => by rw [a28 2 (by omega) (by omega) (by omega), b0 13 (by decide) (by decide)]; exact g4 j hj⟩
    · obtain ⟨m2, t2, g1, g2, g3, g4, g5, g6⟩ := hP
      refine ⟨0, t2, by decide, g2, by rw [a29, upd_at], by rw [a29, upd_ne (by decide)]; exact g4, by rw [← hB', upR_at, upd_at], fun i hi => absurd hi (Nat.not_lt_zero i)⟩
    · refine ⟨m - 1, t', by omega, ht'.1, by rw [a47, upd_at], by rw [a47, upd_ne (by decide), upd_at], by rw [← hB', upR_at, upd_ne (by decide), upd_at], fun i hi => ?_⟩
      have e1 : (t' + 2 - i) % 2 = (t + 2 - (i + 1)) % 2 := by omega
      rw [e1]
      refine HMV_cong (by omega) (by omega) (h4 (i + 1) (by omega)) (fun j hj => by rw [a28 _ (by omega) (by omega) (by omega)]) (fun j hj => ?_) (a28 10 (by omega) (by omega) (by omega))
      rw [b12, cpB_out (by omega), show m - 1 - 1 - i = m - 1 - (i + 1) by omega]
end AC
