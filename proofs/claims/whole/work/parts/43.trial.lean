/-! PURE: trials: hours go by till one stands -/
def sAw (C : Mem) (nb b : Nat) : Nat → Nat → Row → Int32 × Row
  | 0, i, f => if f (11 * b + 1) = 2 then (nI i, f) else (-4, f)
  | m + 1, i, f => if f (11 * b + 1) = 2 then (nI i, f) else sAw C nb b m (i + 1) (sHour C nb (-4) f)
def sAwait (C : Mem) (nb b : Nat) (f : Row) : Int32 × Row := sAw C nb b 99 0 f
section TRI
variable {C : Mem} {np nd nb fu b : Nat} {ln ds : Nat → Nat → Nat}
theorem x_await_2 (hnb : C 5 12 = nI nb) (hn : nb ≤ 5) (hb : b < 5) (hf : 1000 < fu) : ∀ (m i t : Nat) (A : Mem), CC C A → i + m = 99 → m < t → pX3_awaitBeast_2 fu (fun y4 M5 => bI (pX4_is fu 54 y4 (2 : Int32) M5) fun r7 M6 => if r7 = 0 then some ((-4 : Int32), M6) else some ((99 : Int32), M6)) t (nI b) (nI i) A = some ((sAw C nb b m i (A 55)).1, upR A 55 (sAw C nb b m i (A 55)).2) := by
  intro m
  induction m with
  | zero =>
    intro i t A h hi ht
    obtain ⟨t, rfl⟩ : ∃ q, t = q + 1 := ⟨t - 1, by omega⟩
    have e99 : i = 99 := by omega
    subst e99
    show pX3_awaitBeast_2b fu (nI b) (nI 99) A _ _ = _
    unfold pX3_awaitBeast_2b
    rw [if_pos (by decide)]
    dsimp only
    rw [x_is hb, bI_some]
    unfold sAw
    by_cases q : A 55 (11 * b + 1) = 2
    · rw [if_pos q, if_neg one_ne, if_pos q, upR_self]; rfl
    · rw [if_neg q, if_pos rfl, if_neg q, upR_self]
  | succ m ih =>
    intro i t A h hi ht
    obtain ⟨t, rfl⟩ : ∃ q, t = q + 1 := ⟨t - 1, by omega⟩
    show pX3_awaitBeast_2b fu (nI b) (nI i) A _ _ = _
    unfold pX3_awaitBeast_2b
    rw [if_neg (fun q => by have := (nI_le_iff (a := 99) (by decide) (by omega)).mp q; omega), x_is hb, bI_some]
    unfold sAw
    by_cases q : A 55 (11 * b + 1) = 2
    · rw [if_pos q, if_neg one_ne, if_pos q, upR_self]
    · rw [if_neg q, if_pos rfl, if_neg q, x_goOn h hnb hn (by decide) (-4) (by omega), bV_some, nI_1, ih (i + 1) t _ (CC_up h (by decide) _) (by omega) (by omega), upR_at, upR_upR]
theorem x_await {A : Mem} (h : CC C A) (hnb : C 5 12 = nI nb) (hn : nb ≤ 5) (hb : b < 5) (hf : 1000 < fu) : pX3_awaitBeast fu (nI b) A = some ((sAwait C nb b (A 55)).1, upR A 55 (sAwait C nb b (A 55)).2) := by
  unfold pX3_awaitBeast
  exact x_await_2 hnb hn hb hf 99 0 fu A h (by omega) (by omega)
/-- behind a trial that came to its end -/
def AWok (C : Mem) (np nd nb : Nat) (ds : Nat → Nat → Nat) (b : Nat) (q : Int32 × Row) (s' : Row) : Prop := ¬ q.1 = -4 → HM np nb q.2 s' 704 ∧ HV C np nd nb ds q.2 ∧ q.2 (11 * b + 1) = 2 ∧ ∃ n, n ≤ 99 ∧ q.1 = nI n
theorem m_await_2 (hb : b < nb) (hf : 1000 < fu) : ∀ (m i t : Nat) (M : Mem) (f : Row), RC C M np nd nb ln ds → HM np nb f (M 12) 704 → HV C np nd nb ds f → i + m = 99 → m + 1 < t → ∃ s', pX10_standsBehind_2 fu t (nI b) (nI i) M = some ((sAw C nb b m i f).1, upR M 12 s') ∧ fr 704 (M 12) s' ∧ AWok C np nd nb ds b (sAw C nb b m i f) s' := by
  intro m
  induction m with
  | zero =>
    intro i t M f hR hM hV hi ht
    have hn := hR.1
    obtain ⟨t, rfl⟩ : ∃ q, t = q + 2 := ⟨t - 2, by omega⟩
    have e99 : i = 99 := by omega
    subst e99
    have e1 : M 12 (704 + (0 + b)) = f (11 * b + 1) := hM.1 b hb 1 (by decide) (by decide)
    have eix : (704 : Int32) + nI b = nI (704 + (0 + b)) := by rw [Nat.zero_add]; exact nI_add 704 b
    show ∃ s', pX10_standsBehind_2b fu (nI b) (nI 99) M (pX10_standsBehind_2 fu (t + 1)) = _ ∧ _
    unfold pX10_standsBehind_2b
    rw [if_neg (by decide), eix, ld_nI (by omega) (by decide), e1]
    unfold sAw
    by_cases q : f (11 * b + 1) = 2
    · rw [if_pos q, if_pos q]
      exact ⟨M 12, by rw [upR_self], fr_rf _ _, fun _ => ⟨hM, hV, q, 99, by decide, rfl⟩⟩
    · rw [if_neg q, if_neg q]
      obtain ⟨s', g1, g2, g3, g4⟩ := m_hour (fu := fu) hR (show 704 + 64 ≤ 768 by decide) (by omega) (-4) (-1) nobal hM hV
      have g1' : pX10_hour fu 704 (-1) M = some (0, upR M 12 s') := g1
      rw [g1', bV_some, nI_1]
      refine ⟨s', ?_, g4, fun z => absurd rfl z⟩
      show pX10_standsBehind_2b fu (nI b) (nI (99 + 1)) _ _ = _
      unfold pX10_standsBehind_2b
      rw [if_pos (by decide)]
  | succ m ih =>
    intro i t M f hR hM hV hi ht
    have hn := hR.1
    obtain ⟨t, rfl⟩ : ∃ q, t = q + 1 := ⟨t - 1, by omega⟩
    have e1 : M 12 (704 + (0 + b)) = f (11 * b + 1) := hM.1 b hb 1 (by decide) (by decide)
    have eix : (704 : Int32) + nI b = nI (704 + (0 + b)) := by rw [Nat.zero_add]; exact nI_add 704 b
    show ∃ s', pX10_standsBehind_2b fu (nI b) (nI i) M (pX10_standsBehind_2 fu t) = _ ∧ _
    unfold pX10_standsBehind_2b
    rw [if_neg (fun q => by have := (nI_lt_iff (a := 99) (by decide) (by omega)).mp q; omega), eix, ld_nI (by omega) (by decide), e1]
    unfold sAw
    by_cases q : f (11 * b + 1) = 2
    · rw [if_pos q, if_pos q]
      exact ⟨M 12, by rw [upR_self], fr_rf _ _, fun _ => ⟨hM, hV, q, i, by omega, rfl⟩⟩
    · rw [if_neg q, if_neg q]
      obtain ⟨s1, g1, g2, g3, g4⟩ := m_hour (fu := fu) hR (show 704 + 64 ≤ 768 by decide) (by omega) (-4) (-1) nobal hM hV
      have g1' : pX10_hour fu 704 (-1) M = some (0, upR M 12 s1) := g1
      rw [g1', bV_some, nI_1]
      obtain ⟨s', p1, p2, p3⟩ := ih (i + 1) t (upR M 12 s1) _ (RC_up hR (by decide) s1) (by rw [upR_at]; exact g2) g3 (by omega) (by omega)
      rw [upR_upR] at p1
      rw [upR_at] at p2
      exact ⟨s', p1, fr_tr g4 p2, p3⟩
theorem m_await {M : Mem} {f : Row} (hR : RC C M np nd nb ln ds) (hb : b < nb) (hM : HM np nb f (M 12) 704) (hV : HV C np nd nb ds f) (hf : 1000 < fu) : ∃ s', pX10_standsBehind fu (nI b) M = some ((sAwait C nb b f).1, upR M 12 s') ∧ fr 704 (M 12) s' ∧ AWok C np nd nb ds b (sAwait C nb b f) s' := by
  unfold pX10_standsBehind
  exact m_await_2 hb hf 99 0 fu M f hR hM hV (by omega) (by omega)
/-- what would be READ behind a trial, or none -/
def sRT (C : Mem) (nb b : Nat) (f : Row) : Int32 := if (sAwait C nb b f).1 = -4 then -4 else sRd C (sAwait C nb b f).2 b ((sAwait C nb b f).2 (11 * b + 6))
theorem m_readThen {M : Mem} {f : Row} (hR : RC C M np nd nb ln ds) (hb : b < nb) (hM : HM np nb f (M 12) 704) (hV : HV C np nd nb ds f) (hf : 1000 < fu) : ∃ s', pX10_readThen fu (nI b) M = some (sRT C nb b f, upR M 12 s') ∧ fr 704 (M 12) s' := by
  obtain ⟨s', g1, g2, g3⟩ := m_await (fu := fu) hR hb hM hV hf
  unfold pX10_readThen sRT
  rw [g1, bI_some]
  by_cases q : (sAwait C nb b f).1 = -4
  · rw [if_pos q, q, if_neg (by decide)]; exact ⟨s', rfl, g2⟩
  · obtain ⟨k1, k2, k3, n, hn9, kn⟩ := g3 q
    obtain ⟨-, d, p, hd, -, -, -, f5, -⟩ := bST_of k2 hb k3
    rw [if_neg q, kn, if_pos (nI_pos' (by omega))]
    have hrd := m_read (fu := fu) (base := 704) (RC_up hR (k := 12) (by decide) s') (by decide) hb (by rw [upR_at]; exact k1) hd f5
    have hrd' : pX10_read fu 704 (nI b) (upR M 12 s') = _ := hrd
    rw [hrd', bI_some]; exact ⟨s', rfl, g2⟩
/-- a trial begins: in the class, in the reference -/
theorem m_try {M : Mem} {f f0 : Row} (hR : RC C M np nd nb ln ds) (hM : HM np nb f0 (M 12) 0) (hV : HV C np nd nb ds f0) (hff : ∀ j, j < 64 → f j = f0 j) (hf : 1000 < fu) : ∃ s', pX10_copies fu 0 704 M = some (0, upR M 12 s') ∧ fr 704 (M 12) s' ∧ HM np nb f s' 704 ∧ HV C np nd nb ds f := by
  have hn := hR.1
  refine ⟨_, m_copies (a := 0) (c := 704) (by decide) (by decide) (by decide) (by omega), fun j hj => cpB_out (by omega), HM_cong (M := M) (by omega) (by omega) hM hff (fun j hj => ?_), HV_cong (by omega) (by omega) hV hff⟩
  rw [cpB_in hj]
/-- READ of one sent in a trial -/
def sRS (C : Mem) (nb : Nat) (fin : Prop) [Decidable fin] (f : Row) (b : Nat) (v d : Int32) : Int32 := if f (11 * b + 1) = 0 ∧ fin then sRT C nb b (sSend C f b v d) else -4
theorem m_readSent {M : Mem} {f f0 : Row} (hR : RC C M np nd nb ln ds) (hb : b < nb) (hM : HM np nb f0 (M 12) 0) (hV : HV C np nd nb ds f0) (hff : ∀ j, j < 64 → f j = f0 j) {d p : Nat} (hd : d < nd) (hp : p < np) (hC : C 10 d = nI p) (v : Int32) (hf : 1000 < fu) : ∃ s', pX10_readSent fu (nI b) v (nI d) M = some (sRS C nb (ds 0 p < 9999) f b v (nI d), upR M 12 s') ∧ fr 704 (M 12) s' := by
  have hn := hR.1
  have hcs : pX10_canSend fu 0 (nI b) (nI d) M = some (if f0 (11 * b + 1) = 0 ∧ ds 0 p < 9999 then 1 else 0, M) := m_canSend (base := 0) hR (by decide) hb hM hd hp hC
  unfold pX10_readSent sRS
  rw [hcs, bI_some, hff (11 * b + 1) (by omega)]
  by_cases q : f0 (11 * b + 1) = 0 ∧ ds 0 p < 9999
  · rw [if_pos q, if_neg one_ne, if_pos q]
    obtain ⟨s1, g1, g2, g3, g4⟩ := m_try (fu := fu) hR hM hV hff hf
    have hF : bFR f b := by
      rcases g4.1 b hb with z | z | z
      · exact z
      · have := z.1; rw [hff _ (by omega), q.1] at this; exact absurd this (by decide)
      · rcases z.1 with ⟨z1, -⟩ | ⟨z1, -⟩ <;> rw [hff _ (by omega), q.1] at z1 <;> exact absurd z1 (by decide)
    have hR1 := RC_up hR (k := 12) (by decide) s1
    obtain ⟨s2, p1, p2, p3⟩ := m_sends (fu := fu) (base := 704) hR1 (by decide) hb (by rw [upR_at]; exact g3) hF v (nI d)
    have p1' : pX10_sends fu 704 (nI b) v (nI d) (upR M 12 s1) = _ := p1
    have hV2 := v_sends hR1 hb g4 hF v hd hp hC q.2
    rw [g1, bV_some, p1', bV_some, upR_upR]
    obtain ⟨s3, r1, r2⟩ := m_readThen (fu := fu) (RC_up hR (k := 12) (by decide) s2) hb (by rw [upR_at]; exact p2) hV2 hf
    rw [r1, bI_some, upR_upR]
    rw [upR_at] at p3 r2
    exact ⟨s3, rfl, fr_tr (fr_tr g2 p3) r2⟩
  · rw [if_neg q, if_pos rfl, if_neg q]
    exact ⟨M 12, by rw [upR_self], fr_rf _ _⟩
theorem pB_fr {B : Mem} {s' : Row} (h : fr 704 (B 12) s') : pB B (upR B 12 s') := pB_12 (fun j hj => h j (by omega))
end TRI
/-- both have answered, and left alone what is to be left -/
def AGQ (A B : Mem) (p q : Res) : Prop := ∃ r A' B', p = some (r, A') ∧ q = some (r, B') ∧ pA A A' ∧ pB B B'
theorem AGQ_ok {A B : Mem} {p q : Res} (h : REL A B) (hq : AGQ A B p q) : AGREE p q := by
  obtain ⟨r, A', B', h1, h2, h3, h4⟩ := hq
  exact ⟨r, A', B', h1, h2, REL_frame h h3 h4⟩
section QT
variable {A B : Mem} {fu : Nat}
theorem a_arrives (h : REL A B) (hf : 1000 < fu) (x : Int32) : AGREE (pX9_arrives fu x A) (pX10_arrives fu x B) := by
  have h' := h
  obtain ⟨np, nd, nb, ln, ds, hR, hN, -⟩ := h'
  have hn := hR.1
  have hCC := CC_rf A
  unfold pX9_arrives pX10_arrives
  rw [x_hasB hCC hR, m_isBeast hR, bI_some, bI_some]
  by_cases hx : inR x nb
  · rw [if_pos hx, if_neg one_ne, if_neg one_ne]
    obtain ⟨b, hb, rfl⟩ := of_inR hx (by omega)
    have hb5 : b < 5 := by omega
    obtain ⟨s1, g1, g2, g3, g4⟩ := m_try (fu := fu) (f := va_cpy (A 28) (A 55) 0 0 64) hR hN.1 hN.2 (fun j hj => cpy_at _ _ hj) hf
    have hR1 := RC_up hR (k := 12) (by decide) s1
    have hM0 : HM np nb (A 28) (upR B 12 s1 12) 0 := by
      rw [upR_at]
      exact HM_cong (M := B) (by omega) (by omega) hN.1 (fun _ _ => rfl) (fun j hj => g2 _ (by omega))
    rw [x_carries hb5, bI_some, g1, bV_some, m_isOut hR1 hb hM0, bI_some]
    by_cases ho : A 28 (11 * b + 1) = 1 ∨ A 28 (11 * b + 1) = 2
    · rw [if_pos ho, if_neg one_ne, if_neg one_ne]
      unfold pX3_hoursTill
      rw [x_copy, bV_some, x_await (CC_up hCC (by decide) _) hR.2.1.2.2 (by omega) hb5 hf, bI_some, bI_some]
      obtain ⟨s2, p1, p2, p3⟩ := m_await (fu := fu) hR1 hb (by rw [upR_at]; exact g3) g4 hf
      rw [p1, bI_some, upR_upR, upR_at, upR_upR]
      rw [upR_at] at p2
      exact AGQ_ok h ⟨_, _, _, rfl, rfl, pA_up (by omega), pB_fr (fr_tr g2 p2)⟩
    · rw [if_neg ho, if_pos rfl, if_pos rfl]
      exact AGQ_ok h ⟨_, _, _, rfl, rfl, pA_rf _, pB_fr g2⟩
  · rw [if_neg hx, if_pos rfl, if_pos rfl]; exact AG_s h
theorem a_reading (h : REL A B) (hf : 1000 < fu) (x : Int32) : AGREE (pX9_reading fu x A) (pX10_reading fu x B) := by
  have h' := h
  obtain ⟨np, nd, nb, ln, ds, hR, hN, -⟩ := h'
  have hn := hR.1
  have hCC := CC_rf A
  unfold pX9_reading pX10_reading
  rw [x_hasB hCC hR, m_isBeast hR, bI_some, bI_some]
  by_cases hx : inR x nb
  · rw [if_pos hx, if_neg one_ne, if_neg one_ne]
    obtain ⟨b, hb, rfl⟩ := of_inR hx (by omega)
    have hb5 : b < 5 := by omega
    obtain ⟨s1, g1, g2, g3, g4⟩ := m_try (fu := fu) (f := va_cpy (A 28) (A 55) 0 0 64) hR hN.1 hN.2 (fun j hj => cpy_at _ _ hj) hf
    have hR1 := RC_up hR (k := 12) (by decide) s1
    have hM0 : HM np nb (A 28) (upR B 12 s1 12) 0 := by
      rw [upR_at]
      exact HM_cong (M := B) (by omega) (by omega) hN.1 (fun _ _ => rfl) (fun j hj => g2 _ (by omega))
    rw [x_carries hb5, bI_some, g1, bV_some, m_isOut hR1 hb hM0, bI_some]
    by_cases ho : A 28 (11 * b + 1) = 1 ∨ A 28 (11 * b + 1) = 2
    · rw [if_pos ho, if_neg one_ne, if_neg one_ne]
      unfold pX3_readOf
      rw [x_copy, bV_some, x_await (CC_up hCC (by decide) _) hR.2.1.2.2 (by omega) hb5 hf, bI_some]
      obtain ⟨s2, p1, p2⟩ := m_readThen (fu := fu) hR1 hb (by rw [upR_at]; exact g3) g4 hf
      rw [p1, bI_some, upR_upR, show 54 + 1 = 55 from rfl, upR_at, upR_upR]
      rw [upR_at] at p2
      unfold sRT
      by_cases q : (sAwait A nb b (va_cpy (A 28) (A 55) 0 0 64)).1 = -4
      · rw [if_pos q, bI_some, if_pos q]
        exact AGQ_ok h ⟨_, _, _, rfl, rfl, pA_up (by omega), pB_fr (fr_tr g2 p2)⟩
      · rw [if_neg q, x_readOf (CC_up hCC (by decide) _) hb5, bI_some, bI_some, if_neg q, show 54 + 1 = 55 from rfl, upR_at]
        exact AGQ_ok h ⟨_, _, _, rfl, rfl, pA_up (by omega), pB_fr (fr_tr g2 p2)⟩
    · rw [if_neg ho, if_pos rfl, if_pos rfl]
      exact AGQ_ok h ⟨_, _, _, rfl, rfl, pA_rf _, pB_fr g2⟩
  · rw [if_neg hx, if_pos rfl, if_pos rfl]; exact AG_s h
end QT
