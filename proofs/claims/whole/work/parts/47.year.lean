/-! PURE: a year -/
section YR
variable {A0 B0 : Mem} {np nd nb fu : Nat} {ln ds : Nat → Nat → Nat}
/-- the trials side by side -/
def TT (A0 B0 A B : Mem) (np nd nb : Nat) (ds : Nat → Nat → Nat) : Prop := pA A0 A ∧ pB B0 B ∧ HM np nb (A 55) (B 12) 704 ∧ HV A0 np nd nb ds (A 55)
theorem TT_step {A B : Mem} {f' s' : Row} (h : TT A0 B0 A B np nd nb ds) (hM : HM np nb f' s' 704) (hV : HV A0 np nd nb ds f') (hfr : fr 704 (B 12) s') : TT A0 B0 (upR A 55 f') (upR B 12 s') np nd nb ds :=
  ⟨pA_tr h.1 (pA_up (by omega)), pB_tr h.2.1 (pB_fr hfr), by rw [upR_at, upR_at]; exact hM, by rw [upR_at]; exact hV⟩
theorem TT_hour {A B : Mem} (hR : RC A0 B0 np nd nb ln ds) (h : TT A0 B0 A B np nd nb ds) (hf : 1000 < fu) : ∃ A' B', pX4_goOn fu 54 (-4) A = some (0, A') ∧ pX10_hour fu 704 (-1) B = some (0, B') ∧ TT A0 B0 A' B' np nd nb ds := by
  have hn := hR.1
  obtain ⟨s', g1, g2, g3, g4⟩ := m_hour (fu := fu) (pB_RC hR h.2.1) (show 704 + 64 ≤ 768 by decide) (by omega) (-4) (-1) nobal h.2.2.1 h.2.2.2
  exact ⟨_, _, x_goOn (pA_CC h.1) hR.2.1.2.2 (by omega) (by decide) (-4) (by omega), g1, TT_step h g2 g3 g4⟩
theorem wrap_nI {M : Mem} {a n : Nat} (ha : a < 2 ^ 31) (h1 : 1 ≤ n) (h2 : n ≤ 8) : pX3_wrap fu (nI a) (nI n) M = some (nI (a % n), M) := by
  unfold pX3_wrap
  rw [if_neg (fun q => by have := (nI_le0 (by omega)).mp q; omega), if_neg (show ¬ nI n = 0 from fun q => by have := (nI_eq_iff (b := 0) (by omega) (by decide)).mp q; omega)]
  rw [show irm (nI a) (nI n) = nI (a % n) from pk_rem ha (by omega) (by omega)]
theorem TT_act {A B : Mem} (hR : RC A0 B0 np nd nb ln ds) (h : TT A0 B0 A B np nd nb ds) {dr : Nat} (hdr : dr < 65521) : ∃ A' B', pX3_act fu (nI dr) A = some (0, A') ∧ pX10_does fu 704 (nI dr) B = some (0, B') ∧ TT A0 B0 A' B' np nd nb ds := by
  have hn := hR.1
  have hRB := pB_RC hR h.2.1
  have hCC := pA_CC h.1
  have d8 : nI dr / 8 = nI (dr / 8) := pk_div (by omega) (by decide) (by decide)
  have d64 : nI dr / 64 = nI (dr / 64) := pk_div (by omega) (by decide) (by decide)
  have d512 : nI dr / 512 = nI (dr / 512) := pk_div (by omega) (by decide) (by decide)
  have m8 : irm (nI dr) 8 = nI (dr % 8) := pk_rem (by omega) (by decide) (by decide)
  have v8 : irm (nI (dr / 64)) 8 = nI (dr / 64 % 8) := pk_rem (by omega) (by decide) (by decide)
  have c10 : irm (nI (dr / 64)) 10 = nI (dr / 64 % 10) := pk_rem (by omega) (by decide) (by decide)
  have rb : irm (nI (dr / 8)) (nI nb) = nI (dr / 8 % nb) := pk_rem (by omega) (by omega) (by omega)
  have rd : irm (nI (dr / 512)) (nI nd) = nI (dr / 512 % nd) := pk_rem (by omega) (by omega) (by omega)
  have rp : irm (nI (dr / 8)) (nI np) = nI (dr / 8 % np) := pk_rem (by omega) (by omega) (by omega)
  generalize hbE : dr / 8 % nb = b at rb
  generalize hdE : dr / 512 % nd = d at rd
  generalize hpE : dr / 8 % np = x at rp
  have hb : b < nb := by rw [← hbE]; exact Nat.mod_lt _ (by omega)
  have hd : d < nd := by rw [← hdE]; exact Nat.mod_lt _ (by omega)
  have hx : x < np := by rw [← hpE]; exact Nat.mod_lt _ (by omega)
  have hb5 : b < 5 := by omega
  obtain ⟨p, kd, hp, -, q1, -, -, -⟩ := hR.2.2.2.2.2.2.2.1 d hd
  have hnb0 : ¬ nI nb = 0 := fun q => by have := (nI_eq_iff (b := 0) (by omega) (by decide)).mp q; omega
  have hnd0 : ¬ nI nd = 0 := fun q => by have := (nI_eq_iff (b := 0) (by omega) (by decide)).mp q; omega
  have hnp0 : ¬ nI np = 0 := fun q => by have := (nI_eq_iff (b := 0) (by omega) (by decide)).mp q; omega
  -- the last deed
  have last : ∃ A' B', pX3_act_103 fu (nI dr) (nI (dr % 8)) A = some (0, A') ∧ pX10_does_90 fu 704 (nI dr) (nI (dr % 8)) B = some (0, B') ∧ TT A0 B0 A' B' np nd nb ds := by
    unfold pX3_act_103 pX10_does_90
    by_cases q : nI (dr % 8) = 4
    · rw [if_pos q, if_pos q, x_places hCC, bI_some, hR.2.1.1, d8, wrap_nI (by omega) (by omega) (by omega), bI_some, d64, c10, hpE, x_putCarrots, bV_some, hRB.2.2.1.1, if_neg hnp0, rp, show (55 : Int32) + nI x = nI (55 + x) from nI_add 55 x, rpu_nI (by omega) (by decide), show (704 : Int32) + 55 + nI x = nI (704 + (55 + x)) from ix55 704 x, sto_nI (by omega) (by decide)]
      exact ⟨_, _, rfl, rfl, TT_step h (HM_car (by omega) (by omega) h.2.2.1 x hx _) (v_car (by omega) h.2.2.2 (by omega)) (fr_upd (by omega))⟩
    · rw [if_neg q, if_neg q]
      exact ⟨_, _, rfl, rfl, h⟩
  have mid : ∃ A' B', pX3_act_74 fu (nI dr) (nI b) (nI (dr % 8)) A = some (0, A') ∧ pX10_does_63 fu 704 (nI dr) (nI b) (nI (dr % 8)) B = some (0, B') ∧ TT A0 B0 A' B' np nd nb ds := by
    unfold pX3_act_74 pX10_does_63
    by_cases q : nI (dr % 8) = 3
    · have e1 : B 12 (704 + (0 + b)) = A 55 (11 * b + 1) := h.2.2.1.1 b hb 1 (by decide) (by decide)
      rw [if_pos q, if_pos q, x_is hb5, bI_some, show (704 : Int32) + nI b = nI (704 + (0 + b)) from ix0 704 b, ld_nI (by omega) (by decide), e1, show 54 + 1 = 55 from rfl]
      by_cases q2 : A 55 (11 * b + 1) = 2
      · rw [if_pos q2, if_neg one_ne, if_pos q2, x_callHome hb5, bV_some]
        have hS := bST_of h.2.2.2 hb q2
        obtain ⟨s', g1, g2, g3⟩ := m_goesHome (fu := fu) (base := 704) hRB (by decide) hb h.2.2.1 hS
        have g1' : pX10_goesHome fu 704 (nI b) B = _ := g1
        rw [g1', bV_some]
        exact ⟨_, _, rfl, rfl, TT_step h g2 (v_goesHome hRB hb h.2.2.2 hS) g3⟩
      · rw [if_neg q2, if_pos rfl, if_neg q2]; exact last
    · rw [if_neg q, if_neg q]; exact last
  unfold pX3_act pX10_does
  rw [x_beasts hCC, bI_some, hR.2.1.2.2, d8, wrap_nI (by omega) (by omega) (by omega), bI_some, hbE, x_doors hCC, bI_some, hR.2.1.2.1, d512, wrap_nI (by omega) (by omega) (by omega), bI_some, hdE, m8, hRB.2.2.1.2.2, if_neg hnb0, hRB.2.2.1.2.1, if_neg hnd0, rb, rd, d64, v8]
  by_cases q : dr % 8 ≤ 2
  · rw [if_neg (show ¬ (2 : Int32) < nI (dr % 8) from fun z => by have := (nI_lt_iff (a := 2) (by decide) (by omega)).mp z; omega), if_neg (show ¬ (3 : Int32) ≤ nI (dr % 8) from fun z => by have := (nI_le_iff (a := 3) (by decide) (by omega)).mp z; omega)]
    have hcs : pX10_canSend fu 704 (nI b) (nI d) B = some (if A 55 (11 * b + 1) = 0 ∧ ds 0 p < 9999 then 1 else 0, B) := m_canSend (base := 704) hRB (by decide) hb h.2.2.1 hd hp q1
    rw [x_canSend (k := 54) hCC hR hb h.2.2.2 hd hp q1, bI_some, hcs, bI_some, show 54 + 1 = 55 from rfl]
    by_cases hc : A 55 (11 * b + 1) = 0 ∧ ds 0 p < 9999
    · rw [if_pos hc, if_neg one_ne, if_neg one_ne, x_dispatch hCC (by decide) hb5, bV_some]
      have hF := bFR_of h.2.2.2 hb hc.1
      obtain ⟨s', g1, g2, g3⟩ := m_sends (fu := fu) (base := 704) hRB (by decide) hb h.2.2.1 hF (nI (dr / 64 % 8)) (nI d)
      have g1' : pX10_sends fu 704 (nI b) (nI (dr / 64 % 8)) (nI d) B = _ := g1
      rw [g1', bV_some]
      exact ⟨_, _, rfl, rfl, TT_step h g2 (v_sends hRB hb h.2.2.2 hF _ hd hp q1 hc.2) g3⟩
    · rw [if_neg hc, if_pos rfl, if_pos rfl]; exact mid
  · rw [if_pos (show (2 : Int32) < nI (dr % 8) from (nI_lt_iff (a := 2) (by decide) (by omega)).mpr (by omega)), if_pos (show (3 : Int32) ≤ nI (dr % 8) from (nI_le_iff (a := 3) (by decide) (by omega)).mpr (by omega))]
    exact mid
/-- the draw -/
def drw (z k : Nat) : Nat := (7919 * z + 6151 * k + 1) * (7919 * z + 6151 * k + 1) % 65521
theorem draw_eq {z k : Nat} (hz : z ≤ 9999) (hk : k ≤ 60) : (lrm ((((7919 : Int64) * (nI z).toInt64 + (6151 : Int64) * (nI k).toInt64) + (1 : Int64)) * (((7919 : Int64) * (nI z).toInt64 + (6151 : Int64) * (nI k).toInt64) + (1 : Int64))) (65521 : Int64)).toInt32 = nI (drw z k) := by
  have e : ((7919 : Int64) * (nI z).toInt64 + (6151 : Int64) * (nI k).toInt64) + (1 : Int64) = lN (7919 * z + 6151 * k + 1) := by
    rw [nI_l (by omega), nI_l (by omega), show (7919 : Int64) = lN 7919 from rfl, show (6151 : Int64) = lN 6151 from rfl, show (1 : Int64) = lN 1 from rfl, lN_mul, lN_mul, lN_add, lN_add]
  rw [e, lN_mul]
  have hlt : (7919 * z + 6151 * k + 1) * (7919 * z + 6151 * k + 1) < 2 ^ 63 := by
    have : 7919 * z + 6151 * k + 1 ≤ 80000000 := by omega
    exact Nat.lt_of_le_of_lt (Nat.mul_le_mul this this) (by decide)
  rw [show lrm (lN ((7919 * z + 6151 * k + 1) * (7919 * z + 6151 * k + 1))) 65521 = lN (drw z k) from pk_lRem hlt (by decide) (by decide), lN_i]
theorem r_year (hR : RC A0 B0 np nd nb ln ds) {z n : Nat} (hz : z ≤ 9999) (hn60 : n ≤ 60) (w : Int32) (c2 : Int32 → Mem → Res) (hf : 1000 < fu) : ∀ (m i t t2 : Nat) (A B : Mem), TT A0 B0 A B np nd nb ds → i + m = n → m < t → m < t2 → ∃ A' B', TT A0 B0 A' B' np nd nb ds ∧ pX3_afterYear_11 fu 27 t (nI z) (nI n) (nI i) A = some (nI 54, A') ∧ pX10_year_47 fu c2 t2 (nI z) (nI n) w (nI i) B = c2 w B' := by
  intro m
  induction m with
  | zero =>
    intro i t t2 A B h hi ht ht2
    obtain ⟨t, rfl⟩ : ∃ q, t = q + 1 := ⟨t - 1, by omega⟩
    obtain ⟨t2, rfl⟩ : ∃ q, t2 = q + 1 := ⟨t2 - 1, by omega⟩
    refine ⟨A, B, h, ?_, ?_⟩
    · show pX3_afterYear_11b fu 27 (nI z) (nI n) (nI i) A _ = _
      unfold pX3_afterYear_11b
      rw [if_pos ((nI_le_iff (by omega) (by omega)).mpr (by omega))]
    · show pX10_year_47b fu (nI z) (nI n) w (nI i) B _ _ = _
      unfold pX10_year_47b
      rw [if_pos ((nI_le_iff (by omega) (by omega)).mpr (by omega))]
  | succ m ih =>
    intro i t t2 A B h hi ht ht2
    obtain ⟨t, rfl⟩ : ∃ q, t = q + 1 := ⟨t - 1, by omega⟩
    obtain ⟨t2, rfl⟩ : ∃ q, t2 = q + 1 := ⟨t2 - 1, by omega⟩
    obtain ⟨A1, B1, a1, b1, h1⟩ := TT_act (fu := fu) hR h (dr := drw z i) (Nat.mod_lt _ (by decide))
    obtain ⟨A2, B2, a2, b2, h2⟩ := TT_hour (fu := fu) hR h1 hf
    obtain ⟨A', B', h3, e1, e2⟩ := ih (i + 1) t t2 A2 B2 h2 (by omega) (by omega) (by omega)
    refine ⟨A', B', h3, ?_, ?_⟩
    · show pX3_afterYear_11b fu 27 (nI z) (nI n) (nI i) A _ = _
      unfold pX3_afterYear_11b pX3_drawOf
      rw [if_neg (fun q => by have := (nI_le_iff (by omega) (by omega)).mp q; omega), bI_some, draw_eq hz (by omega), a1, bV_some, a2, bV_some, nI_1, e1]
    · show pX10_year_47b fu (nI z) (nI n) w (nI i) B _ _ = _
      unfold pX10_year_47b
      rw [if_neg (fun q => by have := (nI_le_iff (by omega) (by omega)).mp q; omega), draw_eq hz (by omega), b1, bV_some, b2, bV_some, nI_1, e2]
/-- the sums at a year's end -/
theorem m_yearEnd {A B : Mem} (hR : RC A0 B0 np nd nb ln ds) (h : TT A0 B0 A B np nd nb ds) (w : Int32) (c2 : Int32 → Int32 → Int32 → Mem → Res) : ∀ (m i t : Nat) (u v : Int32), i + m = nb → m < t → pX10_year_111 fu c2 t w u v (nI i) B = c2 w (itr (gAm (A 55) 2) m i u) (itr (gRd A0 (A 55)) m i v) B := by
  have hn := hR.1
  have hRB := pB_RC hR h.2.1
  intro m
  induction m with
  | zero =>
    intro i t u v hi ht
    obtain ⟨t, rfl⟩ : ∃ q, t = q + 1 := ⟨t - 1, by omega⟩
    show pX10_year_111b fu w u v (nI i) B _ _ = _
    unfold pX10_year_111b
    rw [hRB.2.2.1.2.2, if_pos ((nI_le_iff (by omega) (by omega)).mpr (by omega))]
    rfl
  | succ m ih =>
    intro i t u v hi ht
    obtain ⟨t, rfl⟩ : ∃ q, t = q + 1 := ⟨t - 1, by omega⟩
    have hb : i < nb := by omega
    have e1 : B 12 (704 + (0 + i)) = A 55 (11 * i + 1) := h.2.2.1.1 i hb 1 (by decide) (by decide)
    show pX10_year_111b fu w u v (nI i) B _ _ = c2 w (itr (gAm (A 55) 2) m (i + 1) (gAm (A 55) 2 i u)) (itr (gRd A0 (A 55)) m (i + 1) (gRd A0 (A 55) i v)) B
    rw [← ih (i + 1) t _ _ (by omega) (by omega)]
    unfold pX10_year_111b
    rw [hRB.2.2.1.2.2, if_neg (fun q => by have := (nI_le_iff (by omega) (by omega)).mp q; omega), show (704 : Int32) + nI i = nI (704 + (0 + i)) from ix0 704 i, ld_nI (by omega) (by decide), e1]
    unfold gAm gRd
    by_cases q : A 55 (11 * i + 1) = 2
    · obtain ⟨-, d, p, hd, -, -, -, f5, -⟩ := bST_of h.2.2.2 hb q
      have hrd : pX10_read fu 704 (nI i) B = _ := m_read (fu := fu) (base := 704) hRB (by decide) hb h.2.2.1 hd f5
      rw [if_pos q, if_pos q, if_pos q]
      simp only [pX10_year_140, pX10_year_154, pX10_year_177, if_neg one_ne, hrd, bI_some, nI_1]
    · rw [if_neg q, if_neg q, if_neg q]
      simp only [pX10_year_140, pX10_year_154, pX10_year_177, if_true, nI_1]
end YR
theorem a_year {A B : Mem} {fu : Nat} (h : REL A B) (hf : 1000 < fu) (x y w : Int32) : AGREE (pX9_year fu x y w A) (pX10_year fu x y w B) := by
  have h' := h
  obtain ⟨np, nd, nb, ln, ds, hR, hN, -⟩ := h'
  have hn := hR.1
  have hCC := CC_rf A
  unfold pX9_year pX10_year
  have t0 : (0 : Int32).toInt = 0 := rfl
  have t1 : (1 : Int32).toInt = 1 := rfl
  have t60 : (60 : Int32).toInt = 60 := rfl
  have t9999 : (9999 : Int32).toInt = 9999 := rfl
  rw [m_in0 x 9999 10000 (by decide), bI_some]
  by_cases hx : inR x 10000
  · rw [if_pos hx, if_neg one_ne, if_neg (fun q => by rw [i_lt, t0] at q; have := hx.1; omega), if_neg (fun q => by rw [i_lt, t9999] at q; have := hx.2; omega), m_in, bI_some, w_toInt, show (1 : Int64).toInt = 1 from rfl, show (60 : Int64).toInt = 60 from rfl]
    by_cases hy : 1 ≤ y.toInt ∧ y.toInt ≤ 60
    · rw [if_pos hy, if_neg one_ne, if_neg (fun q => by rw [i_lt, t1] at q; omega), if_pos (by rw [i_le, t60]; omega), m_in0 w 1 2 (by decide), bI_some]
      obtain ⟨z, hz, rfl⟩ := of_inR hx (by decide)
      obtain ⟨n, hn61, rfl⟩ := of_inR (n := 61) (x := y) (by constructor <;> omega) (by decide)
      by_cases hw : inR w 2
      · rw [if_pos hw, if_neg one_ne]
        obtain ⟨s1, g1, g2, g3, g4⟩ := m_try (fu := fu) (f := va_cpy (A 28) (A 55) 0 0 64) hR hN.1 hN.2 (fun j hj => cpy_at _ _ hj) hf
        have hTT : TT A B (upR A 55 (va_cpy (A 28) (A 55) 0 0 64)) (upR B 12 s1) np nd nb ds := ⟨pA_up (by omega), pB_fr g2, by rw [upR_at, upR_at]; exact g3, by rw [upR_at]; exact g4⟩
        obtain ⟨A', B', hT', e1, e2⟩ := r_year (fu := fu) hR (show z ≤ 9999 by omega) (show n ≤ 60 by omega) w (fun y10 M11 => pX10_year_111 fu (fun y15 y16 y17 M18 => if y15 = 0 then some (y16, M18) else some (y17, M18)) fu y10 (0 : Int32) (0 : Int32) (0 : Int32) M11) hf n 0 fu fu _ _ hTT (by omega) (by omega) (by omega)
        have e3 := m_yearEnd (fu := fu) hR hT' w (fun y15 y16 y17 M18 => if y15 = 0 then some (y16, M18) else some (y17, M18)) nb 0 fu 0 0 (by omega) (by omega)
        have ex : pX3_afterYear fu 27 (nI z) (nI n) A = some (nI 54, A') := by
          unfold pX3_afterYear
          rw [x_copy, bV_some]; exact e1
        have em : (bV (pX10_copies fu (0 : Int32) (704 : Int32) B) fun M7 => pX10_year_47 fu (fun y10 M11 => pX10_year_111 fu (fun y15 y16 y17 M18 => if y15 = 0 then some (y16, M18) else some (y17, M18)) fu y10 (0 : Int32) (0 : Int32) (0 : Int32) M11) fu (nI z) (nI n) w (0 : Int32) M7) = (if w = 0 then some (itr (gAm (A' 55) 2) nb 0 0, B') else some (itr (gRd A (A' 55)) nb 0 0, B')) := by
          rw [g1, bV_some]
          exact e2.trans e3
        rw [em, ex]
        simp only [bR, if_true]
        rw [x_amount (k := 54) (pA_CC hT'.1) hR.2.1.2.2 (by omega) (by omega), x_readInSum (k := 54) (pA_CC hT'.1) hR.2.1.2.2 (by omega) (by omega), bI_some, bI_some, show 54 + 1 = 55 from rfl]
        obtain ⟨i, hi, rfl⟩ := of_inR hw (by decide)
        match i, hi with
        | 0, _ =>
          rw [if_pos (by decide), if_pos (by decide)]
          exact AGQ_ok h ⟨_, _, _, rfl, rfl, hT'.1, hT'.2.1⟩
        | 1, _ =>
          rw [if_neg (by decide), if_pos (by decide), if_neg (by decide)]
          exact AGQ_ok h ⟨_, _, _, rfl, rfl, hT'.1, hT'.2.1⟩
      · rw [if_neg hw, if_pos rfl, if_neg (fun e => hw (by rw [e]; decide)), if_neg (fun e => hw (by rw [e]; decide))]; exact AG_s h
    · rw [if_neg hy, if_pos rfl]
      by_cases q : y < 1
      · rw [if_pos q]; exact AG_s h
      · rw [if_neg q]
        rw [i_lt, t1] at q
        rw [if_neg (fun z => by rw [i_le, t60] at z; omega)]; exact AG_s h
  · rw [if_neg hx, if_pos rfl]
    by_cases q : x < 0
    · rw [if_pos q]; exact AG_s h
    · rw [if_neg q]
      rw [i_lt, t0] at q
      rw [if_pos (by rw [i_lt, t9999]; rcases Int.lt_or_le 9999 x.toInt with z | z; exact z; exact absurd ⟨by omega, by omega⟩ hx)]; exact AG_s h
