/-! PURE: items of doors and beasts in the reference -/
section IT2
variable {A B : Mem} {n fu p np nd nb k0 : Nat} {c : Nat → Nat} {l : Nat → Nat → Nat}
def opM (B : Mem) (nd v w : Nat) : Mem := upR (upR (upR B 8 (upd (B 8) nd (nI v))) 9 (upd (B 9) nd (nI w))) 0 (upd (B 0) 13 (nI (nd + 1)))
theorem m_opens {v w : Nat} (h13 : B 0 13 = nI nd) (hnd : nd < 4) : pX10_opens fu (nI v) (nI w) B = some (0, opM B nd v w) := by
  unfold pX10_opens fpt
  rw [h13, sto_nI (by omega) (by decide), upR_ne (a := 0) (k := 8) (by decide), h13, sto_nI (by omega) (by decide), up2_eq, upR_ne (a := 0) (k := 9) (by decide), upR_ne (a := 0) (k := 8) (by decide), h13, nI_1, upR_ne (a := 9) (k := 8) (by decide)]
  rfl
theorem eqP_op {B B' : Mem} (h : eqP B B') (nd v w : Nat) : eqP (opM B nd v w) (opM B' nd v w) := by
  unfold opM
  refine ⟨fun k hk => ?_, fun j a b => ?_⟩
  · rw [upR_ne (a := k) (k := 0) (by omega), upR_ne (a := k) (k := 0) (by omega)]
    by_cases z : k = 9
    · subst z; rw [upR_at, upR_at, h.1 9 (by decide)]
    · rw [upR_ne z, upR_ne z]
      by_cases y : k = 8
      · subst y; rw [upR_at, upR_at, h.1 8 (by decide)]
      · rw [upR_ne y, upR_ne y]; exact h.1 k hk
  · rw [upR_at, upR_at]
    by_cases z : j = 13
    · subst z; rw [upd_at, upd_at]
    · rw [upd_ne z, upd_ne z]; exact h.2 j a b
theorem m_itemD (hT : TM B n c) (hn : n ≤ 200) (hc : ∀ j, j < n → c j ≤ 126) (h24 : B 0 24 = nI p) (hp : p < 2 ^ 17) (h10 : B 0 10 = nI np) (hnp : 1 ≤ np ∧ np ≤ 8) (h13 : B 0 13 = nI nd) (hnd : nd ≤ 4) (hf : 1000 < fu) (y : Int32) : ∃ B', pX10_item fu 100 y B = some (0, B') ∧ ((∃ v w q, W2 c n p v w q ∧ (nd < 4 ∧ v ≤ 3 ∧ w < np) ∧ OKI (opM B nd v w) B' q) ∨ ((∀ v w q, W2 c n p v w q → ¬ (nd < 4 ∧ v ≤ 3 ∧ w < np)) ∧ BADI B B' p)) := by
  unfold pX10_item
  rw [if_neg (show ¬ (100 : Int32) = 110 by decide), if_neg (show ¬ (100 : Int32) = 119 by decide), if_pos rfl]
  unfold pX10_doorItem
  -- the place, behind a kind
  have tail : ∀ (B1 : Mem) (s : Int32) (p1 : Nat), eqP B B1 → B1 0 24 = nI p1 → p1 ≤ p + 3 → (B1 0 26 = 0 ∨ B1 0 26 = 1) → ∃ r2 B2, pX10_doorItem_34 fu s B1 = (if B2 0 26 = 0 then (bV (pX10_opens fu s r2 B2) fun M6 => some (0, M6)) else some (0, B2)) ∧ eqP B B2 ∧ ((B1 0 26 = 0 ∧ chr c n p1 = 44 ∧ ∃ w q, num c n (p1 + 1) = some (w, q) ∧ w < np ∧ r2 = nI w ∧ B2 0 24 = nI q ∧ B2 0 26 = 0) ∨ ((B1 0 26 = 0 → chr c n p1 = 44 → ∀ w q, num c n (p1 + 1) = some (w, q) → ¬ w < np) ∧ B2 0 26 = 1 ∧ ∃ p', p' ≤ p + 20 ∧ B2 0 24 = nI p')) := by
    intro B1 s p1 hE h1 hle hw
    obtain ⟨r2, B2, f1, f2, f3⟩ := m_more (fu := fu) (lo := 0) (hi := np - 1) (TM_eq hT hE) hn hc h1 (by omega) hw (by decide) (by omega) hf
    have f1' : pX10_more fu 0 (nI (np - 1)) B1 = _ := f1
    refine ⟨r2, B2, ?_, eqP_tr hE f2, ?_⟩
    · unfold pX10_doorItem_34
      rw [hE.2 10 (by decide) (by decide), h10, np_1 hnp.1, f1', bI_some]
    · rcases f3 with ⟨z1, z2, w, q, hnum2, w1, w2, rfl, y24, y26⟩ | ⟨hno2, rfl, y26, p2, hp2, y24⟩
      · exact Or.inl ⟨z1, z2, w, q, hnum2, by omega, rfl, y24, y26⟩
      · exact Or.inr ⟨fun a b w q h hh => hno2 a b w q h ⟨by omega, by omega⟩, y26, p2, by omega, y24⟩
  by_cases hfull : nd = 4
  · rw [if_pos (show B 0 13 = 4 by rw [h13, hfull]; rfl)]
    unfold pX10_doorItem_14 fpz
    rw [if_pos (Or.inr rfl)]
    dsimp only
    rw [up_026, s26_26, if_neg one_ne]
    obtain ⟨r2, B2, g1, g2, g3⟩ := tail (s26 B 1) 0 p (eqP_26 _ _) ((s26_24 _ _).trans h24) (by omega) (Or.inr (s26_26 _ _))
    rw [g1]
    rcases g3 with ⟨z, -⟩ | ⟨-, y26, p', hp', y24⟩
    · rw [s26_26] at z; exact absurd z (by decide)
    · rw [if_neg (by rw [y26]; decide), bV_some, rtz_0]
      exact ⟨_, rfl, Or.inr ⟨fun v w q _ hh => by omega, y26, eqP_mB g2, p', hp', y24⟩⟩
  · rw [if_neg (show ¬ B 0 13 = 4 from fun z => hfull ((nI_eq_iff (b := 4) (by omega) (by decide)).mp (h13.symm.trans z)))]
    unfold pX10_doorItem_14 fpz
    rw [if_pos (Or.inl rfl)]
    dsimp only
    rw [up_026, s26_26, if_pos rfl]
    have E := eqP_26 B 0
    obtain ⟨r1, B1, e1, e2, e3⟩ := m_number (fu := fu) (lo := 0) (hi := 3) (TM_eq hT E) hn hc ((s26_24 _ _).trans h24) (by omega) (s26_26 _ _) (by decide) (by decide) hf
    have e1' : pX10_number fu 0 3 (s26 B 0) = _ := e1
    rw [e1', bI_some]
    have EB := eqP_tr E e2
    rcases e3 with ⟨v, q1, hnum, h1, h2, rfl, g24, g26⟩ | ⟨hno, rfl, g26, p1, hp1, g24⟩
    · have nb1 := num_b hnum
      obtain ⟨r2, B2, g1, g2, g3⟩ := tail B1 (nI v) q1 EB g24 (by omega) (Or.inl g26)
      rw [g1]
      rcases g3 with ⟨-, z2, w, q, hnum2, hw, rfl, y24, y26⟩ | ⟨hno2, y26, p', hp', y24⟩
      · rw [if_pos y26, m_opens (by rw [g2.2 13 (by decide) (by decide)]; exact h13) (by omega), bV_some, bV_some, rtz_0]
        refine ⟨_, rfl, Or.inl ⟨v, w, q, ⟨q1, hnum, z2, hnum2⟩, ⟨by omega, by omega, hw⟩, ?_, ?_, eqP_op g2 nd v w⟩⟩
        · unfold opM; rw [upR_at, upd_ne (by decide)]; exact y24
        · unfold opM; rw [upR_at, upd_ne (by decide)]; exact y26
      · rw [if_neg (by rw [y26]; decide), bV_some, rtz_0]
        refine ⟨_, rfl, Or.inr ⟨fun v' w' q' h hh => ?_, y26, eqP_mB g2, p', hp', y24⟩⟩
        obtain ⟨q1', a1, a2, a3⟩ := h
        rw [hnum] at a1; cases a1
        exact hno2 g26 a2 w' q' a3 hh.2.2
    · obtain ⟨r2, B2, g1, g2, g3⟩ := tail B1 0 p1 EB g24 hp1 (Or.inr g26)
      rw [g1]
      rcases g3 with ⟨z, -⟩ | ⟨-, y26, p', hp', y24⟩
      · rw [g26] at z; exact absurd z (by decide)
      · rw [if_neg (by rw [y26]; decide), bV_some, rtz_0]
        refine ⟨_, rfl, Or.inr ⟨fun v' w' q' h hh => ?_, y26, eqP_mB g2, p', hp', y24⟩⟩
        obtain ⟨q1', a1, a2, a3⟩ := h
        exact hno v' q1' a1 ⟨by omega, by omega⟩
def coM (B : Mem) (nb v w u : Nat) : Mem := upR (upR (upR (upR B 10 (upd (B 10) nb (nI v))) 11 (upd (B 11) nb (nI w))) 12 (upd (upd (upd (B 12) (744 + nb) (nI u)) (714 + nb) (-4)) (729 + nb) (-4))) 0 (upd (B 0) 16 (nI (nb + 1)))
theorem m_comes {v w u : Nat} (h16 : B 0 16 = nI nb) (hnb : nb < 5) : pX10_comes fu (nI v) (nI w) (nI u) B = some (0, coM B nb v w u) := by
  have e1 : ∀ (M : Mem), M 0 16 = nI nb → (744 : Int32) + M 0 16 = nI (744 + nb) := fun M h => by rw [h]; exact nI_add 744 nb
  have e2 : ∀ (M : Mem), M 0 16 = nI nb → (714 : Int32) + M 0 16 = nI (714 + nb) := fun M h => by rw [h]; exact nI_add 714 nb
  have e3 : ∀ (M : Mem), M 0 16 = nI nb → (729 : Int32) + M 0 16 = nI (729 + nb) := fun M h => by rw [h]; exact nI_add 729 nb
  unfold pX10_comes fpt
  rw [h16, sto_nI (by omega) (by decide)]
  have k1 : upR B 10 (upd (B 10) nb (nI v)) 0 16 = nI nb := by rw [upR_ne (by decide)]; exact h16
  rw [k1, sto_nI (by omega) (by decide)]
  have k2 : upR (upR B 10 (upd (B 10) nb (nI v))) 11 (upd (upR B 10 (upd (B 10) nb (nI v)) 11) nb (nI w)) 0 16 = nI nb := by rw [upR_ne (by decide)]; exact k1
  rw [e1 _ k2, sto_nI (by omega) (by decide)]
  generalize hM2 : upR (upR B 10 (upd (B 10) nb (nI v))) 11 (upd (upR B 10 (upd (B 10) nb (nI v)) 11) nb (nI w)) = M2 at *
  rw [e2 _ (by rw [upR_ne (by decide)]; exact k2), sto_nI (by omega) (by decide), e3 _ (by rw [upR_ne (by decide), upR_ne (by decide)]; exact k2), sto_nI (by omega) (by decide), up2_eq, upR_ne (a := 0) (k := 12) (by decide), upR_ne (a := 0) (k := 12) (by decide), upR_ne (a := 0) (k := 12) (by decide), k2, nI_1, upR_at, upR_at, upR_upR, upR_upR]
  unfold coM
  rw [← hM2, upR_ne (a := 12) (k := 11) (by decide), upR_ne (a := 12) (k := 10) (by decide), upR_ne (a := 11) (k := 10) (by decide), upR_ne (a := 0) (k := 11) (by decide), upR_ne (a := 0) (k := 10) (by decide)]
theorem eqP_co {B B' : Mem} (h : eqP B B') (nb v w u : Nat) : eqP (coM B nb v w u) (coM B' nb v w u) := by
  unfold coM
  refine ⟨fun k hk => ?_, fun j a b => ?_⟩
  · rw [upR_ne (a := k) (k := 0) (by omega), upR_ne (a := k) (k := 0) (by omega)]
    by_cases z : k = 12
    · subst z; rw [upR_at, upR_at, h.1 12 (by decide)]
    · rw [upR_ne z, upR_ne z]
      by_cases y : k = 11
      · subst y; rw [upR_at, upR_at, h.1 11 (by decide)]
      · rw [upR_ne y, upR_ne y]
        by_cases x : k = 10
        · subst x; rw [upR_at, upR_at, h.1 10 (by decide)]
        · rw [upR_ne x, upR_ne x]; exact h.1 k hk
  · rw [upR_at, upR_at]
    by_cases z : j = 16
    · subst z; rw [upd_at, upd_at]
    · rw [upd_ne z, upd_ne z]; exact h.2 j a b
theorem m_itemB (hT : TM B n c) (hn : n ≤ 200) (hc : ∀ j, j < n → c j ≤ 126) (h24 : B 0 24 = nI p) (hp : p < 2 ^ 17) (h16 : B 0 16 = nI nb) (hnb : nb ≤ 5) (hf : 1000 < fu) (y : Int32) : ∃ B', pX10_item fu 98 y B = some (0, B') ∧ ((∃ v w u q, W3 c n p v w u q ∧ (nb < 5 ∧ v ≤ 3 ∧ 1 ≤ w ∧ w ≤ 3 ∧ u ≤ 9) ∧ OKI (coM B nb v w u) B' q) ∨ ((∀ v w u q, W3 c n p v w u q → ¬ (nb < 5 ∧ v ≤ 3 ∧ 1 ≤ w ∧ w ≤ 3 ∧ u ≤ 9)) ∧ BADI B B' p)) := by
  unfold pX10_item
  rw [if_neg (show ¬ (98 : Int32) = 110 by decide), if_neg (show ¬ (98 : Int32) = 119 by decide), if_neg (show ¬ (98 : Int32) = 100 by decide), if_pos rfl]
  unfold pX10_beastItem
  have tail : ∀ (B1 : Mem) (s : Int32) (p1 : Nat), eqP B B1 → B1 0 24 = nI p1 → p1 ≤ p + 3 → (B1 0 26 = 0 ∨ B1 0 26 = 1) → ∃ r2 r3 B3, pX10_beastItem_34 fu s B1 = (if B3 0 26 = 0 then (bV (pX10_comes fu s r2 r3 B3) fun M6 => some (0, M6)) else some (0, B3)) ∧ eqP B B3 ∧ ((B1 0 26 = 0 ∧ chr c n p1 = 44 ∧ ∃ w q2 u q, num c n (p1 + 1) = some (w, q2) ∧ (1 ≤ w ∧ w ≤ 3) ∧ r2 = nI w ∧ chr c n q2 = 44 ∧ num c n (q2 + 1) = some (u, q) ∧ u ≤ 9 ∧ r3 = nI u ∧ B3 0 24 = nI q ∧ B3 0 26 = 0) ∨ ((B1 0 26 = 0 → chr c n p1 = 44 → ∀ w q2 u q, num c n (p1 + 1) = some (w, q2) → chr c n q2 = 44 → num c n (q2 + 1) = some (u, q) → ¬ (1 ≤ w ∧ w ≤ 3 ∧ u ≤ 9)) ∧ B3 0 26 = 1 ∧ ∃ p', p' ≤ p + 20 ∧ B3 0 24 = nI p')) := by
    intro B1 s p1 hE h1 hle hw
    obtain ⟨r2, B2, f1, f2, f3⟩ := m_more (fu := fu) (lo := 1) (hi := 3) (TM_eq hT hE) hn hc h1 (by omega) hw (by decide) (by omega) hf
    have f1' : pX10_more fu 1 3 B1 = _ := f1
    have E2 := eqP_tr hE f2
    rcases f3 with ⟨z1, z2, w, q2, hnum2, w1, w2, rfl, y24, y26⟩ | ⟨hno2, rfl, y26, p2, hp2, y24⟩
    · have nb2 := num_b hnum2
      obtain ⟨r3, B3, i1, i2, i3⟩ := m_more (fu := fu) (lo := 0) (hi := 9) (TM_eq hT E2) hn hc y24 (by omega) (Or.inl y26) (by decide) (by decide) hf
      have i1' : pX10_more fu 0 9 B2 = _ := i1
      refine ⟨nI w, r3, B3, ?_, eqP_tr E2 i2, ?_⟩
      · unfold pX10_beastItem_34; rw [f1', bI_some, i1', bI_some]
      · rcases i3 with ⟨-, z3, u, q3, hnum3, u1, u2, rfl, x24, x26⟩ | ⟨hno3, rfl, x26, p3, hp3, x24⟩
        · exact Or.inl ⟨z1, z2, w, q2, u, q3, hnum2, ⟨w1, w2⟩, rfl, z3, hnum3, u2, rfl, x24, x26⟩
        · refine Or.inr ⟨fun a b w' q2' u' q' hh1 hh2 hh3 hh => ?_, x26, p3, by omega, x24⟩
          rw [hnum2] at hh1; cases hh1
          exact hno3 y26 hh2 u' q' hh3 ⟨by omega, by omega⟩
    · obtain ⟨r3, B3, i1, i2, i3⟩ := m_more (fu := fu) (lo := 0) (hi := 9) (TM_eq hT E2) hn hc y24 (by omega) (Or.inr y26) (by decide) (by decide) hf
      have i1' : pX10_more fu 0 9 B2 = _ := i1
      refine ⟨0, r3, B3, ?_, eqP_tr E2 i2, ?_⟩
      · unfold pX10_beastItem_34; rw [f1', bI_some, i1', bI_some]
      · rcases i3 with ⟨z, -⟩ | ⟨-, rfl, x26, p3, hp3, x24⟩
        · rw [y26] at z; exact absurd z (by decide)
        · exact Or.inr ⟨fun a b w' q2' u' q' hh1 hh2 hh3 hh => hno2 a b w' q2' hh1 ⟨hh.1, hh.2.1⟩, x26, p3, by omega, x24⟩
  by_cases hfull : nb = 5
  · rw [if_pos (show B 0 16 = 5 by rw [h16, hfull]; rfl)]
    unfold pX10_beastItem_14 fpz
    rw [if_pos (Or.inr rfl)]
    dsimp only
    rw [up_026, s26_26, if_neg one_ne]
    obtain ⟨r2, r3, B2, g1, g2, g3⟩ := tail (s26 B 1) 0 p (eqP_26 _ _) ((s26_24 _ _).trans h24) (by omega) (Or.inr (s26_26 _ _))
    rw [g1]
    rcases g3 with ⟨z, -⟩ | ⟨-, y26, p', hp', y24⟩
    · rw [s26_26] at z; exact absurd z (by decide)
    · rw [if_neg (by rw [y26]; decide), bV_some, rtz_0]
      exact ⟨_, rfl, Or.inr ⟨fun v w u q _ hh => by omega, y26, eqP_mB g2, p', hp', y24⟩⟩
  · rw [if_neg (show ¬ B 0 16 = 5 from fun z => hfull ((nI_eq_iff (b := 5) (by omega) (by decide)).mp (h16.symm.trans z)))]
    unfold pX10_beastItem_14 fpz
    rw [if_pos (Or.inl rfl)]
    dsimp only
    rw [up_026, s26_26, if_pos rfl]
    have E := eqP_26 B 0
    obtain ⟨r1, B1, e1, e2, e3⟩ := m_number (fu := fu) (lo := 0) (hi := 3) (TM_eq hT E) hn hc ((s26_24 _ _).trans h24) (by omega) (s26_26 _ _) (by decide) (by decide) hf
    have e1' : pX10_number fu 0 3 (s26 B 0) = _ := e1
    rw [e1', bI_some]
    have EB := eqP_tr E e2
    rcases e3 with ⟨v, q1, hnum, h1, h2, rfl, g24, g26⟩ | ⟨hno, rfl, g26, p1, hp1, g24⟩
    · have nb1 := num_b hnum
      obtain ⟨r2, r3, B2, g1, g2, g3⟩ := tail B1 (nI v) q1 EB g24 (by omega) (Or.inl g26)
      rw [g1]
      rcases g3 with ⟨-, z2, w, q2, u, q, hnum2, hw, rfl, z3, hnum3, hu, rfl, y24, y26⟩ | ⟨hno2, y26, p', hp', y24⟩
      · rw [if_pos y26, m_comes (by rw [g2.2 16 (by decide) (by decide)]; exact h16) (by omega), bV_some, bV_some, rtz_0]
        refine ⟨_, rfl, Or.inl ⟨v, w, u, q, ⟨q2, ⟨q1, hnum, z2, hnum2⟩, z3, hnum3⟩, ⟨by omega, by omega, hw.1, hw.2, hu⟩, ?_, ?_, eqP_co g2 nb v w u⟩⟩
        · unfold coM; rw [upR_at, upd_ne (by decide)]; exact y24
        · unfold coM; rw [upR_at, upd_ne (by decide)]; exact y26
      · rw [if_neg (by rw [y26]; decide), bV_some, rtz_0]
        refine ⟨_, rfl, Or.inr ⟨fun v' w' u' q' h hh => ?_, y26, eqP_mB g2, p', hp', y24⟩⟩
        obtain ⟨q2', ⟨q1', a1, a2, a3⟩, a4, a5⟩ := h
        rw [hnum] at a1; cases a1
        exact hno2 g26 a2 w' q2' u' q' a3 a4 a5 hh.2.2
    · obtain ⟨r2, r3, B2, g1, g2, g3⟩ := tail B1 0 p1 EB g24 hp1 (Or.inr g26)
      rw [g1]
      rcases g3 with ⟨z, -⟩ | ⟨-, y26, p', hp', y24⟩
      · rw [g26] at z; exact absurd z (by decide)
      · rw [if_neg (by rw [y26]; decide), bV_some, rtz_0]
        refine ⟨_, rfl, Or.inr ⟨fun v' w' u' q' h hh => ?_, y26, eqP_mB g2, p', hp', y24⟩⟩
        obtain ⟨q2', ⟨q1', a1, a2, a3⟩, a4, a5⟩ := h
        exact hno v' q1' a1 ⟨by omega, by omega⟩
end IT2
