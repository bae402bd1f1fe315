/-! PURE: what is read so far, in the class's court k0 and in the reference -/
def DC (A B : Mem) (k0 np nd nb : Nat) (l : Nat → Nat → Nat) : Prop :=
  (1 ≤ np ∧ np ≤ 8 ∧ nd ≤ 4 ∧ nb ≤ 5) ∧
  (A k0 10 = nI np ∧ A k0 11 = nI nd ∧ A k0 12 = nI nb) ∧
  (B 0 10 = nI np ∧ B 0 13 = nI nd ∧ B 0 16 = nI nb) ∧
  (∀ a b, a < 8 → b < 8 → l a b ≤ 9 ∧ l a b = l b a ∧ (np ≤ a ∨ np ≤ b ∨ a = b → l a b = 0) ∧ A (k0 + 1 + 0) (8 * a + b) = nI (l a b) ∧ B 7 (8 * a + b) = if l a b = 0 then -4 else nI (l a b)) ∧
  (∀ d, d < nd → ∃ p kd, p < np ∧ kd < 4 ∧ A (k0 + 1 + 4) d = nI p ∧ B 9 d = nI p ∧ A (k0 + 1 + 3) d = nI kd ∧ B 8 d = nI kd) ∧
  (∀ b, b < nb → ∃ kd pc m, kd < 4 ∧ 1 ≤ pc ∧ pc ≤ 3 ∧ m ≤ 9 ∧ A (k0 + 1 + 5) b = nI kd ∧ B 10 b = nI kd ∧ A (k0 + 1 + 6) b = nI pc ∧ B 11 b = nI pc ∧ A (k0 + 1 + 7) b = nI m ∧ B 12 (744 + b) = nI m ∧ B 12 (714 + b) = -4 ∧ B 12 (729 + b) = -4) ∧
  (∀ x, x < 8 → ∃ c, c ≤ 9 ∧ A (k0 + 1 + 8) x = nI c ∧ B 12 (759 + x) = nI c) ∧
  (∃ p : Nat → Bool, B 0 12 = bits8 p ∧ ∀ x, x < 8 → A (k0 + 1 + 9) x = if p x = true then 1 else 0) ∧
  (∀ j, j < 64 → (j < 10 ∨ (15 ≤ j ∧ j < 25) ∨ (30 ≤ j ∧ j < 40) ∨ (45 ≤ j ∧ j < 55) ∨ j = 63) → B 12 (704 + j) = 0)
def mB (B B' : Mem) : Prop := pB B B' ∧ B' 0 25 = B 0 25
theorem eqP_mB {B B' : Mem} (h : eqP B B') : mB B B' := ⟨⟨fun k a _ => h.1 k a, h.1 13 (by decide), fun j hj => h.2 j (by omega) (by omega), fun j _ => by rw [h.1 12 (by decide)]⟩, h.2 25 (by decide) (by decide)⟩
theorem mB_tr {B B1 B2 : Mem} (h1 : mB B B1) (h2 : mB B1 B2) : mB B B2 := ⟨pB_tr h1.1 h2.1, h2.2.trans h1.2⟩
theorem mB_up {B : Mem} {k : Nat} {s : Row} (h : 7 ≤ k ∧ k ≤ 11) : mB B (upR B k s) := ⟨pB_hi (Or.inl h), by rw [upR_ne (by omega)]⟩
theorem mB_12 {B : Mem} {j : Nat} (h : 704 ≤ j) (v : Int32) : mB B (upR B 12 (upd (B 12) j v)) := ⟨pB_12 (fun i hi => upd_ne (by omega)), by rw [upR_ne (by decide)]⟩
theorem mB_0 {B : Mem} {j : Nat} (h : j = 10 ∨ j = 12 ∨ j = 13 ∨ j = 16) (v : Int32) : mB B (upR B 0 (upd (B 0) j v)) := ⟨⟨fun k a _ => upR_ne (by omega), upR_ne (by decide), fun i hi => by rw [upR_at, upd_ne (by omega)], fun i _ => by rw [upR_ne (by decide)]⟩, by rw [upR_at, upd_ne (by omega)]⟩
theorem DC_cong {A B A' B' : Mem} {k0 np nd nb : Nat} {l : Nat → Nat → Nat} (h : DC A B k0 np nd nb l) (hk : 5 ≤ k0) (hA : eqX A A') (hB : eqP B B') : DC A' B' k0 np nd nb l := by
  unfold DC at *
  rw [hA k0 (by omega) (by omega), hA (k0 + 1 + 0) (by omega) (by omega), hA (k0 + 1 + 3) (by omega) (by omega), hA (k0 + 1 + 4) (by omega) (by omega), hA (k0 + 1 + 5) (by omega) (by omega), hA (k0 + 1 + 6) (by omega) (by omega), hA (k0 + 1 + 7) (by omega) (by omega), hA (k0 + 1 + 8) (by omega) (by omega), hA (k0 + 1 + 9) (by omega) (by omega)]
  rw [hB.2 10 (by decide) (by decide), hB.2 13 (by decide) (by decide), hB.2 16 (by decide) (by decide), hB.2 12 (by decide) (by decide), hB.1 7 (by decide), hB.1 8 (by decide), hB.1 9 (by decide), hB.1 10 (by decide), hB.1 11 (by decide), hB.1 12 (by decide)]
  exact h
def BADI (B B' : Mem) (p : Nat) : Prop := B' 0 26 = 1 ∧ mB B B' ∧ ∃ p', p' ≤ p + 20 ∧ B' 0 24 = nI p'
def OKI (U B' : Mem) (q : Nat) : Prop := B' 0 24 = nI q ∧ B' 0 26 = 0 ∧ eqP U B'
section IT
variable {A B : Mem} {n fu p np nd nb k0 : Nat} {c : Nat → Nat} {l : Nat → Nat → Nat}
/-! the reference's items -/
theorem up_026 (B : Mem) (w : Int32) : up2 B 0 26 w = s26 B w := up2_eq _ _ _ _
theorem np_1 (h1 : 1 ≤ np) : nI np - (1 : Int32) = nI (np - 1) := by rw [show (1 : Int32) = nI 1 from rfl, pk_sub h1]
theorem m_itemN (hT : TM B n c) (hn : n ≤ 200) (hc : ∀ j, j < n → c j ≤ 126) (h24 : B 0 24 = nI p) (hp : p < 2 ^ 17) (hf : 1000 < fu) : ∃ B', pX10_item fu 110 1 B = some (1, B') ∧ ((∃ v q, W1 c n p v q ∧ 1 ≤ v ∧ v ≤ 8 ∧ OKI (upR B 0 (upd (B 0) 10 (nI v))) B' q) ∨ ((∀ v q, W1 c n p v q → ¬ (1 ≤ v ∧ v ≤ 8)) ∧ BADI B B' p)) := by
  unfold pX10_item pX10_item_16 fpz
  rw [if_pos rfl, if_neg one_ne, if_pos (Or.inl rfl)]
  dsimp only
  rw [up_026, s26_26, if_pos rfl]
  have E := eqP_26 B 0
  obtain ⟨r, B', e1, e2, e3⟩ := m_number (fu := fu) (lo := 1) (hi := 8) (TM_eq hT E) hn hc ((s26_24 _ _).trans h24) (by omega) (s26_26 _ _) (by decide) (by decide) hf
  have e1' : pX10_number fu 1 8 (s26 B 0) = _ := e1
  rw [e1', bI_some]
  unfold pX10_item_37 pX10_item_54 fpt
  have EB := eqP_tr E e2
  rcases e3 with ⟨v, q, hnum, h1, h2, rfl, g24, g26⟩ | ⟨hno, rfl, g26, p', hp', g24⟩
  · rw [if_pos g26, up2_eq]
    refine ⟨_, rfl, Or.inl ⟨v, q, hnum, h1, h2, ?_, ?_, ?_⟩⟩
    · rw [upR_at, upd_ne (by decide)]; exact g24
    · rw [upR_at, upd_ne (by decide)]; exact g26
    · refine ⟨fun k hk => by rw [upR_ne (by omega), upR_ne (by omega)]; exact EB.1 k hk, fun j a b => ?_⟩
      rw [upR_at, upR_at]
      by_cases z : j = 10
      · subst z; rw [upd_at, upd_at]
      · rw [upd_ne z, upd_ne z]; exact EB.2 j a b
  · rw [if_neg (by rw [g26]; decide), up2_eq]
    refine ⟨_, rfl, Or.inr ⟨hno, ?_, mB_tr (eqP_mB EB) (mB_0 (by omega) _), p', by omega, ?_⟩⟩
    · rw [upR_at, upd_ne (by decide)]; exact g26
    · rw [upR_at, upd_ne (by decide)]; exact g24
theorem m_itemN0 (h24 : B 0 24 = nI p) : ∃ B', pX10_item fu 110 0 B = some (1, B') ∧ BADI B B' p := by
  unfold pX10_item pX10_item_16 pX10_item_37 pX10_item_54 fpz fpt
  rw [if_pos rfl, if_pos rfl, if_pos (Or.inr rfl)]
  dsimp only
  rw [up_026, s26_26, if_neg one_ne, if_neg one_ne, up2_eq, rtz_1]
  refine ⟨_, rfl, ?_, mB_tr (eqP_mB (eqP_26 B 1)) (mB_0 (by omega) _), p, by omega, ?_⟩
  · rw [upR_at, upd_ne (by decide), s26_26]
  · rw [upR_at, upd_ne (by decide), s26_24]; exact h24
theorem m_itemO {x : Int32} (h24 : B 0 24 = nI p) (y : Int32) (h1 : x ≠ 110) (h2 : x ≠ 119) (h3 : x ≠ 100) (h4 : x ≠ 98) (h5 : x ≠ 99) (h6 : x ≠ 109) : ∃ B', pX10_item fu x y B = some (0, B') ∧ BADI B B' p := by
  unfold pX10_item fpz
  rw [if_neg h1, if_neg h2, if_neg h3, if_neg h4, if_neg h5, if_neg h6, if_pos (Or.inr rfl), up_026]
  dsimp only
  rw [rtz_0]
  exact ⟨_, rfl, s26_26 _ _, eqP_mB (eqP_26 B 1), p, by omega, (s26_24 _ _).trans h24⟩
theorem m_itemM (hT : TM B n c) (hn : n ≤ 200) (hc : ∀ j, j < n → c j ≤ 126) (h24 : B 0 24 = nI p) (hp : p < 2 ^ 17) (h26 : B 0 26 = 0) (h10 : B 0 10 = nI np) (hnp : 1 ≤ np ∧ np ≤ 8) (hf : 1000 < fu) (y : Int32) : ∃ B', pX10_item fu 109 y B = some (0, B') ∧ ((∃ v q, W1 c n p v q ∧ v < np ∧ OKI (upR B 0 (upd (B 0) 12 (B 0 12 ||| (1 <<< (nI v &&& 31))))) B' q) ∨ ((∀ v q, W1 c n p v q → ¬ v < np) ∧ BADI B B' p)) := by
  obtain ⟨r, B', e1, e2, e3⟩ := m_number (fu := fu) (lo := 0) (hi := np - 1) hT hn hc h24 (by omega) h26 (by decide) (by omega) hf
  have e1' : pX10_number fu 0 (nI (np - 1)) B = _ := e1
  unfold pX10_item
  rw [if_neg (show ¬ (109 : Int32) = 110 by decide), if_neg (show ¬ (109 : Int32) = 119 by decide), if_neg (show ¬ (109 : Int32) = 100 by decide), if_neg (show ¬ (109 : Int32) = 98 by decide), if_neg (show ¬ (109 : Int32) = 99 by decide), if_pos rfl, h10, np_1 hnp.1, e1', bI_some]
  unfold pX10_item_188 fpt
  dsimp only
  rw [rtz_0, rtz_0]
  rcases e3 with ⟨v, q, hnum, h1, h2, rfl, g24, g26⟩ | ⟨hno, rfl, g26, p', hp', g24⟩
  · rw [if_pos g26, up2_eq, e2.2 12 (by decide) (by decide)]
    refine ⟨_, rfl, Or.inl ⟨v, q, hnum, by omega, ?_, ?_, ?_⟩⟩
    · rw [upR_at, upd_ne (by decide)]; exact g24
    · rw [upR_at, upd_ne (by decide)]; exact g26
    · refine ⟨fun k hk => by rw [upR_ne (by omega), upR_ne (by omega)]; exact e2.1 k hk, fun j a b => ?_⟩
      rw [upR_at, upR_at]
      by_cases z : j = 12
      · subst z; rw [upd_at, upd_at]
      · rw [upd_ne z, upd_ne z]; exact e2.2 j a b
  · rw [if_neg (by rw [g26]; decide), up2_eq]
    refine ⟨_, rfl, Or.inr ⟨fun v q h hv => hno v q h (by omega), ?_, mB_tr (eqP_mB e2) (mB_0 (by omega) _), p', by omega, ?_⟩⟩
    · rw [upR_at, upd_ne (by decide)]; exact g26
    · rw [upR_at, upd_ne (by decide)]; exact g24
theorem m_itemC (hT : TM B n c) (hn : n ≤ 200) (hc : ∀ j, j < n → c j ≤ 126) (h24 : B 0 24 = nI p) (hp : p < 2 ^ 17) (h26 : B 0 26 = 0) (h10 : B 0 10 = nI np) (hnp : 1 ≤ np ∧ np ≤ 8) (hf : 1000 < fu) (y : Int32) : ∃ B', pX10_item fu 99 y B = some (0, B') ∧ ((∃ v w q, W2 c n p v w q ∧ v < np ∧ w ≤ 9 ∧ OKI (upR B 12 (upd (B 12) (759 + v) (nI w))) B' q) ∨ ((∀ v w q, W2 c n p v w q → ¬ (v < np ∧ w ≤ 9)) ∧ BADI B B' p)) := by
  obtain ⟨r, B1, e1, e2, e3⟩ := m_number (fu := fu) (lo := 0) (hi := np - 1) hT hn hc h24 (by omega) h26 (by decide) (by omega) hf
  have e1' : pX10_number fu 0 (nI (np - 1)) B = _ := e1
  unfold pX10_item
  rw [if_neg (show ¬ (99 : Int32) = 110 by decide), if_neg (show ¬ (99 : Int32) = 119 by decide), if_neg (show ¬ (99 : Int32) = 100 by decide), if_neg (show ¬ (99 : Int32) = 98 by decide), if_pos rfl, h10, np_1 hnp.1, e1', bI_some]
  have hr : ∃ v, v < 8 ∧ r = nI v := by
    rcases e3 with ⟨v, q, -, h1, h2, h3, -, -⟩ | ⟨-, h3, -⟩
    · exact ⟨v, by omega, h3⟩
    · exact ⟨0, by omega, h3⟩
  have hw : B1 0 26 = 0 ∨ B1 0 26 = 1 := by
    rcases e3 with ⟨v, q, -, -, -, -, -, h⟩ | ⟨-, -, h, -⟩
    · exact Or.inl h
    · exact Or.inr h
  have hp1 : ∃ p1, p1 ≤ p + 3 ∧ B1 0 24 = nI p1 := by
    rcases e3 with ⟨v, q, hnum, -, -, -, h, -⟩ | ⟨-, -, -, p', h, h'⟩
    · exact ⟨q, by have := num_b hnum; omega, h⟩
    · exact ⟨p', h, h'⟩
  obtain ⟨v0, hv0, rfl⟩ := hr
  obtain ⟨p1, hp1, g24⟩ := hp1
  obtain ⟨r2, B2, f1, f2, f3⟩ := m_more (fu := fu) (lo := 0) (hi := 9) (TM_eq hT e2) hn hc g24 (by omega) hw (by decide) (by decide) hf
  have f1' : pX10_more fu 0 9 B1 = _ := f1
  have EB := eqP_tr e2 f2
  rw [f1', bI_some]
  unfold pX10_item_147
  rw [show (759 : Int32) + nI v0 = nI (759 + v0) from nI_add 759 v0, sto_nI (by omega) (by decide), sto_nI (by omega) (by decide), rtz_0, rtz_0, EB.1 12 (by decide)]
  rcases f3 with ⟨z1, z2, w, q, hnum2, w1, w2, rfl, y24, y26⟩ | ⟨hno2, rfl, y26, p2, hp2, y24⟩
  · rw [if_pos y26]
    rcases e3 with ⟨v, q1, hnum, h1, h2, h3, h24', h26'⟩ | ⟨hno, h3, h26', _⟩
    · have hvv : v0 = v := (nI_eq_iff (by omega) (by omega)).mp h3
      subst hvv
      have hq1 : p1 = q1 := by
        have := num_b hnum
        exact (nI_eq_iff (by omega) (by omega)).mp (g24.symm.trans h24')
      subst hq1
      refine ⟨_, rfl, Or.inl ⟨v0, w, q, ⟨p1, hnum, z2, hnum2⟩, by omega, w2, ?_, ?_, ?_⟩⟩
      · rw [upR_ne (by decide)]; exact y24
      · rw [upR_ne (by decide)]; exact y26
      · refine ⟨fun k hk => ?_, fun j a b => by rw [upR_ne (by decide), upR_ne (by decide)]; exact EB.2 j a b⟩
        by_cases z : k = 12
        · subst z; rw [upR_at, upR_at]
        · rw [upR_ne z, upR_ne z]; exact EB.1 k hk
    · rw [h26'] at z1; exact absurd z1 (by decide)
  · rw [if_neg (by rw [y26]; decide)]
    have e12 : upR B2 12 (upd (B 12) (759 + v0) 0) = upR B2 12 (upd (B2 12) (759 + v0) 0) := by rw [EB.1 12 (by decide)]
    refine ⟨_, rfl, Or.inr ⟨fun v w q h hvw => ?_, ?_, ?_, p2, by omega, ?_⟩⟩
    · obtain ⟨q1, a1, a2, a3⟩ := h
      rcases e3 with ⟨v', q1', hnum, h1, h2, h3, h24', h26'⟩ | ⟨hno, h3, h26', _⟩
      · rw [hnum] at a1
        cases a1
        have hq1 : p1 = q1 := by
          have := num_b hnum
          exact (nI_eq_iff (by omega) (by omega)).mp (g24.symm.trans h24')
        subst hq1
        exact hno2 h26' a2 w q a3 ⟨by omega, by omega⟩
      · exact hno v q1 a1 ⟨by omega, by omega⟩
    · rw [upR_ne (by decide)]; exact y26
    · rw [e12]; exact mB_tr (eqP_mB EB) (mB_12 (by omega) _)
    · rw [upR_ne (by decide)]; exact y24
theorem m_itemW (hT : TM B n c) (hn : n ≤ 200) (hc : ∀ j, j < n → c j ≤ 126) (h24 : B 0 24 = nI p) (hp : p < 2 ^ 17) (h26 : B 0 26 = 0) (h10 : B 0 10 = nI np) (hnp : 1 ≤ np ∧ np ≤ 8) (hf : 1000 < fu) (y : Int32) : ∃ B', pX10_item fu 119 y B = some (0, B') ∧ ((∃ v w u q, W3 c n p v w u q ∧ (v < np ∧ w < np ∧ v ≠ w ∧ 1 ≤ u ∧ u ≤ 9) ∧ OKI (upR B 7 (upd (upd (B 7) (8 * v + w) (nI u)) (8 * w + v) (nI u))) B' q) ∨ ((∀ v w u q, W3 c n p v w u q → ¬ (v < np ∧ w < np ∧ v ≠ w ∧ 1 ≤ u ∧ u ≤ 9)) ∧ BADI B B' p)) := by
  unfold pX10_item
  rw [if_neg (show ¬ (119 : Int32) = 110 by decide), if_pos rfl]
  unfold pX10_wayItem
  obtain ⟨r1, B1, e1, e2, e3⟩ := m_number (fu := fu) (lo := 0) (hi := np - 1) hT hn hc h24 (by omega) h26 (by decide) (by omega) hf
  have e1' : pX10_number fu 0 (nI (np - 1)) B = _ := e1
  rw [h10, np_1 hnp.1, e1', bI_some, e2.2 10 (by decide) (by decide), h10, np_1 hnp.1]
  have bad : ∀ B3 r1 r2 r3, eqP B B3 → B3 0 26 = 1 → (∃ p', p' ≤ p + 20 ∧ B3 0 24 = nI p') → (∀ v w u q, W3 c n p v w u q → ¬ (v < np ∧ w < np ∧ v ≠ w ∧ 1 ≤ u ∧ u ≤ 9)) → ∃ B', (bV (pX10_wayItem_45 fu r1 r2 r3 B3) fun M12 => rtz 0 M12) = some (0, B') ∧ ((∃ v w u q, W3 c n p v w u q ∧ (v < np ∧ w < np ∧ v ≠ w ∧ 1 ≤ u ∧ u ≤ 9) ∧ OKI (upR B 7 (upd (upd (B 7) (8 * v + w) (nI u)) (8 * w + v) (nI u))) B' q) ∨ ((∀ v w u q, W3 c n p v w u q → ¬ (v < np ∧ w < np ∧ v ≠ w ∧ 1 ≤ u ∧ u ≤ 9)) ∧ BADI B B' p)) := by
    intro B3 r1 r2 r3 hE h26' ⟨p', hp', h24'⟩ hno
    unfold pX10_wayItem_45 pX10_wayItem_50 fpz
    rw [if_pos (Or.inr rfl)]
    dsimp only
    rw [up_026, s26_26, if_neg one_ne, bV_some, rtz_0]
    exact ⟨_, rfl, Or.inr ⟨hno, s26_26 _ _, mB_tr (eqP_mB hE) (eqP_mB (eqP_26 _ _)), p', hp', (s26_24 _ _).trans h24'⟩⟩
  rcases e3 with ⟨v, q1, hnum, h1, h2, rfl, g24, g26⟩ | ⟨hno, rfl, g26, p1, hp1, g24⟩
  · have nb1 := num_b hnum
    obtain ⟨r2, B2, f1, f2, f3⟩ := m_more (fu := fu) (lo := 0) (hi := np - 1) (TM_eq hT e2) hn hc g24 (by omega) (Or.inl g26) (by decide) (by omega) hf
    have f1' : pX10_more fu 0 (nI (np - 1)) B1 = _ := f1
    have E2 := eqP_tr e2 f2
    rw [f1', bI_some]
    rcases f3 with ⟨-, z2, w, q2, hnum2, w1, w2, rfl, y24, y26⟩ | ⟨hno2, rfl, y26, p2, hp2, y24⟩
    · have nb2 := num_b hnum2
      obtain ⟨r3, B3, i1, i2, i3⟩ := m_more (fu := fu) (lo := 1) (hi := 9) (TM_eq hT E2) hn hc y24 (by omega) (Or.inl y26) (by decide) (by decide) hf
      have i1' : pX10_more fu 1 9 B2 = _ := i1
      have E3 := eqP_tr E2 i2
      rw [i1', bI_some]
      rcases i3 with ⟨-, z3, u, q3, hnum3, u1, u2, rfl, x24, x26⟩ | ⟨hno3, rfl, x26, p3, hp3, x24⟩
      · rw [if_pos x26]
        have nb3 := num_b hnum3
        by_cases hvw : v = w
        · subst hvw
          rw [if_pos rfl]
          unfold pX10_wayItem_45 pX10_wayItem_50 fpz
          rw [if_pos (Or.inr rfl)]
          dsimp only
          rw [up_026, s26_26, if_neg one_ne, bV_some, rtz_0]
          refine ⟨_, rfl, Or.inr ⟨fun v' w' u' q' h hh => ?_, s26_26 _ _, mB_tr (eqP_mB E3) (eqP_mB (eqP_26 _ _)), q3, by omega, (s26_24 _ _).trans x24⟩⟩
          have h3 : W3 c n p v v u q3 := ⟨q2, ⟨q1, hnum, z2, hnum2⟩, z3, hnum3⟩
          obtain ⟨rfl, rfl, -, -⟩ := W3_f h h3
          exact hh.2.2.1 rfl
        · rw [if_neg (fun z => hvw ((nI_eq_iff (by omega) (by omega)).mp z))]
          unfold pX10_wayItem_50 fpz pX10_leads
          rw [if_pos (Or.inl rfl)]
          dsimp only
          rw [up_026, s26_26, if_pos rfl, ix8, ix8, sto_nI (by omega) (by decide), sto_nI (by omega) (by decide), bV_some, bV_some, rtz_0]
          have E4 := eqP_tr E3 (eqP_26 B3 0)
          refine ⟨_, rfl, Or.inl ⟨v, w, u, q3, ⟨q2, ⟨q1, hnum, z2, hnum2⟩, z3, hnum3⟩, ⟨by omega, by omega, hvw, u1, u2⟩, ?_, ?_, ?_⟩⟩
          · rw [upR_ne (by decide), upR_ne (by decide), s26_24]; exact x24
          · rw [upR_ne (by decide), upR_ne (by decide), s26_26]
          · refine ⟨fun k hk => ?_, fun j a b => by rw [upR_ne (by decide), upR_ne (by decide), upR_ne (by decide)]; exact E4.2 j a b⟩
            by_cases z : k = 7
            · subst z; rw [upR_at, upR_at, upR_at, E4.1 7 (by decide)]
            · rw [upR_ne z, upR_ne z, upR_ne z]; exact E4.1 k hk
      · rw [if_neg (by rw [x26]; decide)]
        refine bad B3 _ _ _ E3 x26 ⟨p3, by omega, x24⟩ (fun v' w' u' q' h hh => ?_)
        obtain ⟨q2', ⟨q1', a1, a2, a3⟩, a4, a5⟩ := h
        rw [hnum] at a1; cases a1
        rw [hnum2] at a3; cases a3
        exact hno3 y26 a4 u' q' a5 ⟨by omega, by omega⟩
    · obtain ⟨r3, B3, i1, i2, i3⟩ := m_more (fu := fu) (lo := 1) (hi := 9) (TM_eq hT E2) hn hc y24 (by omega) (Or.inr y26) (by decide) (by decide) hf
      have i1' : pX10_more fu 1 9 B2 = _ := i1
      rw [i1', bI_some]
      rcases i3 with ⟨z0, -⟩ | ⟨-, rfl, x26, p3, hp3, x24⟩
      · rw [y26] at z0; exact absurd z0 (by decide)
      · rw [if_neg (by rw [x26]; decide)]
        refine bad B3 _ _ _ (eqP_tr E2 i2) x26 ⟨p3, by omega, x24⟩ (fun v' w' u' q' h hh => ?_)
        obtain ⟨q2', ⟨q1', a1, a2, a3⟩, a4, a5⟩ := h
        rw [hnum] at a1; cases a1
        exact hno2 g26 a2 w' q2' a3 ⟨by omega, by omega⟩
  · obtain ⟨r2, B2, f1, f2, f3⟩ := m_more (fu := fu) (lo := 0) (hi := np - 1) (TM_eq hT e2) hn hc g24 (by omega) (Or.inr g26) (by decide) (by omega) hf
    have f1' : pX10_more fu 0 (nI (np - 1)) B1 = _ := f1
    have E2 := eqP_tr e2 f2
    rw [f1', bI_some]
    rcases f3 with ⟨z0, -⟩ | ⟨-, rfl, y26, p2, hp2, y24⟩
    · rw [g26] at z0; exact absurd z0 (by decide)
    · obtain ⟨r3, B3, i1, i2, i3⟩ := m_more (fu := fu) (lo := 1) (hi := 9) (TM_eq hT E2) hn hc y24 (by omega) (Or.inr y26) (by decide) (by decide) hf
      have i1' : pX10_more fu 1 9 B2 = _ := i1
      rw [i1', bI_some]
      rcases i3 with ⟨z0, -⟩ | ⟨-, rfl, x26, p3, hp3, x24⟩
      · rw [y26] at z0; exact absurd z0 (by decide)
      · rw [if_neg (by rw [x26]; decide)]
        refine bad B3 _ _ _ (eqP_tr E2 i2) x26 ⟨p3, by omega, x24⟩ (fun v' w' u' q' h hh => ?_)
        obtain ⟨q2', ⟨q1', a1, a2, a3⟩, a4, a5⟩ := h
        exact hno v' q1' a1 ⟨by omega, by omega⟩
end IT
