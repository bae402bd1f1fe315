/-! PURE: the reference settles -/
section SE
variable {l : Nat → Nat → Nat} {np fu : Nat}
theorem i8 {i : Nat} (h : i < 64) : nI i / (8 : Int32) = nI (i / 8) ∧ irm (nI i) 8 = nI (i % 8) := ⟨pk_div (d := 8) (by omega) (by decide) (by decide), pk_rem (by omega) (by decide) (by decide)⟩
theorem m_set34 (hl : ∀ j, j < 64 → l (j / 8) (j % 8) ≤ 9) (K : Mem → Res) : ∀ (m i t : Nat) (B : Mem), (∀ j, j < 64 → B 7 j = if l (j / 8) (j % 8) = 0 then -4 else nI (l (j / 8) (j % 8))) → i + m = 64 → m < t → ∃ f g : Row, pX10_settles_34 fu K t (nI i) B = K (upR (upR B 1 f) 2 g) ∧ (∀ j, i ≤ j → j < 64 → f j = B 7 j ∧ g j = nI (d0 l (j / 8) (j % 8))) ∧ ∀ j, j < i → f j = B 1 j ∧ g j = B 2 j := by
  intro m
  induction m with
  | zero =>
    intro i t B h7 hi ht
    obtain ⟨t, rfl⟩ : ∃ q, t = q + 1 := ⟨t - 1, by omega⟩
    refine ⟨B 1, B 2, ?_, fun j h1 h2 => by omega, fun j _ => ⟨rfl, rfl⟩⟩
    show pX10_settles_34b fu (nI i) B _ _ = _
    unfold pX10_settles_34b
    rw [if_pos (show (64 : Int32) ≤ nI i from (nI_le_iff (a := 64) (by decide) (by omega)).mpr (by omega)), upR_self, upR_self]
  | succ m ih =>
    intro i t B h7 hi ht
    obtain ⟨t, rfl⟩ : ∃ q, t = q + 1 := ⟨t - 1, by omega⟩
    have e7 := h7 i (by omega)
    have hl9 := hl i (by omega)
    have hgo : ∀ v, v = nI (d0 l (i / 8) (i % 8)) → ∃ f g : Row, pX10_settles_93 fu (nI i) v (nI i) (upR B 1 (upd (B 1) i (B 7 i))) (pX10_settles_34 fu K t) = K (upR (upR B 1 f) 2 g) ∧ (∀ j, i ≤ j → j < 64 → f j = B 7 j ∧ g j = nI (d0 l (j / 8) (j % 8))) ∧ ∀ j, j < i → f j = B 1 j ∧ g j = B 2 j := by
      intro v hv
      unfold pX10_settles_93
      rw [sto_nI (by omega) (by decide), nI_1, upR_ne (a := 2) (k := 1) (by decide)]
      obtain ⟨f, g, e1, e2, e3⟩ := ih (i + 1) t (upR (upR B 1 (upd (B 1) i (B 7 i))) 2 (upd (B 2) i v)) (fun j hj => by rw [upR_ne (by decide), upR_ne (by decide)]; exact h7 j hj) (by omega) (by omega)
      refine ⟨f, g, ?_, fun j h1 h2 => ?_, fun j hj => ?_⟩
      · rw [e1]
        congr 1
        funext a
        by_cases z : a = 2
        · subst z; rw [upR_at, upR_at]
        · rw [upR_ne z, upR_ne z]
          by_cases y : a = 1
          · subst y; rw [upR_at, upR_at]
          · rw [upR_ne y, upR_ne z, upR_ne y, upR_ne y]
      · by_cases z : j = i
        · subst z
          have := e3 j (by omega)
          rw [upR_ne (by decide), upR_at, upd_at, upR_at, upd_at] at this
          exact ⟨this.1, this.2.trans hv⟩
        · have := e2 j (by omega) h2
          rw [upR_ne (by decide), upR_ne (by decide)] at this
          exact this
      · have := e3 j (by omega)
        rw [upR_ne (by decide), upR_at, upd_ne (by omega), upR_at, upd_ne (by omega)] at this
        exact this
    show ∃ f g : Row, pX10_settles_34b fu (nI i) B _ _ = _ ∧ _
    unfold pX10_settles_34b
    rw [if_neg (show ¬ (64 : Int32) ≤ nI i from fun z => by have := (nI_le_iff (a := 64) (by decide) (by omega)).mp z; omega), ld_nI (by omega) (by decide), sto_nI (by omega) (by decide), (i8 (show i < 64 by omega)).1, (i8 (show i < 64 by omega)).2]
    by_cases q : i / 8 = i % 8
    · rw [if_pos (by rw [q])]
      exact hgo 0 (by unfold d0; rw [if_pos q]; rfl)
    · rw [if_neg (fun z => q ((nI_eq_iff (by omega) (by omega)).mp z)), ld_nI (by omega) (by decide), ld_nI (by omega) (by decide), upR_at, upd_at]
      by_cases z : l (i / 8) (i % 8) = 0
      · have e7' : B 7 i = -4 := by rw [e7, if_pos z]
        rw [if_neg (by rw [e7']; decide)]
        exact hgo 9999 (by unfold d0; rw [if_neg q, if_pos z]; rfl)
      · have e7' : B 7 i = nI (l (i / 8) (i % 8)) := by rw [e7, if_neg z]
        rw [if_pos (by rw [e7']; exact nI_pos' (by omega))]
        exact hgo _ (by unfold d0; rw [if_neg q, if_neg z, e7'])
/-- a row is copied beside another -/
theorem m_set102 (K : Mem → Res) : ∀ (m i t : Nat) (B : Mem), i + m = 4 → m < t → ∃ f g : Row, pX10_settles_102 fu K t (nI i) B = K (upR (upR B 3 f) 4 g) ∧ (∀ j, i ≤ j → j < 4 → f j = B 8 j ∧ g j = B 9 j) ∧ ∀ j, j < i → f j = B 3 j ∧ g j = B 4 j := by
  intro m
  induction m with
  | zero =>
    intro i t B hi ht
    obtain ⟨t, rfl⟩ : ∃ q, t = q + 1 := ⟨t - 1, by omega⟩
    refine ⟨B 3, B 4, ?_, fun j h1 h2 => by omega, fun j _ => ⟨rfl, rfl⟩⟩
    show pX10_settles_102b fu (nI i) B _ _ = _
    unfold pX10_settles_102b
    rw [if_pos (show (4 : Int32) ≤ nI i from (nI_le_iff (a := 4) (by decide) (by omega)).mpr (by omega)), upR_self, upR_self]
  | succ m ih =>
    intro i t B hi ht
    obtain ⟨t, rfl⟩ : ∃ q, t = q + 1 := ⟨t - 1, by omega⟩
    obtain ⟨f, g, e1, e2, e3⟩ := ih (i + 1) t (upR (upR B 3 (upd (B 3) i (B 8 i))) 4 (upd (B 4) i (B 9 i))) (by omega) (by omega)
    refine ⟨f, g, ?_, fun j h1 h2 => ?_, fun j hj => ?_⟩
    · show pX10_settles_102b fu (nI i) B _ _ = _
      unfold pX10_settles_102b
      rw [if_neg (show ¬ (4 : Int32) ≤ nI i from fun z => by have := (nI_le_iff (a := 4) (by decide) (by omega)).mp z; omega), ld_nI (by omega) (by decide), sto_nI (by omega) (by decide), ld_nI (by omega) (by decide), sto_nI (by omega) (by decide), nI_1, upR_ne (a := 9) (by decide), upR_ne (a := 4) (k := 3) (by decide), e1]
      congr 1
      funext a
      by_cases z : a = 4
      · subst z; rw [upR_at, upR_at]
      · rw [upR_ne z, upR_ne z]
        by_cases y : a = 3
        · subst y; rw [upR_at, upR_at]
        · rw [upR_ne y, upR_ne z, upR_ne y, upR_ne y]
    · by_cases z : j = i
      · subst z
        have := e3 j (by omega)
        rw [upR_ne (by decide), upR_at, upd_at, upR_at, upd_at] at this
        exact this
      · have := e2 j (by omega) h2
        rw [upR_ne (by decide), upR_ne (by decide), upR_ne (by decide), upR_ne (by decide)] at this
        exact this
    · have := e3 j (by omega)
      rw [upR_ne (by decide), upR_at, upd_ne (by omega), upR_at, upd_ne (by omega)] at this
      exact this
theorem m_set139 (K : Mem → Res) : ∀ (m i t : Nat) (B : Mem), i + m = 5 → m < t → ∃ f g : Row, pX10_settles_139 fu K t (nI i) B = K (upR (upR B 5 f) 6 g) ∧ (∀ j, i ≤ j → j < 5 → f j = B 10 j ∧ g j = B 11 j) ∧ ∀ j, j < i → f j = B 5 j ∧ g j = B 6 j := by
  intro m
  induction m with
  | zero =>
    intro i t B hi ht
    obtain ⟨t, rfl⟩ : ∃ q, t = q + 1 := ⟨t - 1, by omega⟩
    refine ⟨B 5, B 6, ?_, fun j h1 h2 => by omega, fun j _ => ⟨rfl, rfl⟩⟩
    show pX10_settles_139b fu (nI i) B _ _ = _
    unfold pX10_settles_139b
    rw [if_pos (show (5 : Int32) ≤ nI i from (nI_le_iff (a := 5) (by decide) (by omega)).mpr (by omega)), upR_self, upR_self]
  | succ m ih =>
    intro i t B hi ht
    obtain ⟨t, rfl⟩ : ∃ q, t = q + 1 := ⟨t - 1, by omega⟩
    obtain ⟨f, g, e1, e2, e3⟩ := ih (i + 1) t (upR (upR B 5 (upd (B 5) i (B 10 i))) 6 (upd (B 6) i (B 11 i))) (by omega) (by omega)
    refine ⟨f, g, ?_, fun j h1 h2 => ?_, fun j hj => ?_⟩
    · show pX10_settles_139b fu (nI i) B _ _ = _
      unfold pX10_settles_139b
      rw [if_neg (show ¬ (5 : Int32) ≤ nI i from fun z => by have := (nI_le_iff (a := 5) (by decide) (by omega)).mp z; omega), ld_nI (by omega) (by decide), sto_nI (by omega) (by decide), ld_nI (by omega) (by decide), sto_nI (by omega) (by decide), nI_1, upR_ne (a := 11) (by decide), upR_ne (a := 6) (k := 5) (by decide), e1]
      congr 1
      funext a
      by_cases z : a = 6
      · subst z; rw [upR_at, upR_at]
      · rw [upR_ne z, upR_ne z]
        by_cases y : a = 5
        · subst y; rw [upR_at, upR_at]
        · rw [upR_ne y, upR_ne z, upR_ne y, upR_ne y]
    · by_cases z : j = i
      · subst z
        have := e3 j (by omega)
        rw [upR_ne (by decide), upR_at, upd_at, upR_at, upd_at] at this
        exact this
      · have := e2 j (by omega) h2
        rw [upR_ne (by decide), upR_ne (by decide), upR_ne (by decide), upR_ne (by decide)] at this
        exact this
    · have := e3 j (by omega)
      rw [upR_ne (by decide), upR_at, upd_ne (by omega), upR_at, upd_ne (by omega)] at this
      exact this
theorem min_nI {s d : Nat} (hs : s < 2 ^ 31) (hd : d < 2 ^ 31) : imin (nI s) (nI d) = nI (min d s) := by
  unfold imin
  by_cases q : d < s
  · rw [if_pos ((nI_lt_iff hd hs).mpr q), Nat.min_eq_left (by omega)]
  · rw [if_neg (fun z => q ((nI_lt_iff hd hs).mp z)), Nat.min_eq_right (by omega)]
theorem m_set184 (h : LH l np) {p : Nat} (hp : p < 8) (K : Int32 → Mem → Res) : ∀ (m k t : Nat) (B : Mem), (∀ j, j < 64 → B 2 j = nI (if j < k then DD l (p + 1) (j / 8) (j % 8) else DD l p (j / 8) (j % 8))) → k + m = 64 → m < t → ∃ g : Row, pX10_settles_184 fu K t (nI p) (nI k) B = K (nI p) (upR B 2 g) ∧ ∀ j, j < 64 → g j = nI (DD l (p + 1) (j / 8) (j % 8)) := by
  intro m
  induction m with
  | zero =>
    intro k t B hB hk ht
    obtain ⟨t, rfl⟩ : ∃ q, t = q + 1 := ⟨t - 1, by omega⟩
    refine ⟨B 2, ?_, fun j hj => by rw [hB j hj, if_pos (by omega)]⟩
    show pX10_settles_184b fu (nI p) (nI k) B _ _ = _
    unfold pX10_settles_184b
    rw [if_pos (show (64 : Int32) ≤ nI k from (nI_le_iff (a := 64) (by decide) (by omega)).mpr (by omega)), upR_self]
  | succ m ih =>
    intro k t B hB hk ht
    obtain ⟨t, rfl⟩ : ∃ q, t = q + 1 := ⟨t - 1, by omega⟩
    have ha : k / 8 < 8 := by omega
    have hb : k % 8 < 8 := by omega
    have v1 : B 2 k = nI (DD l p (k / 8) (k % 8)) := by rw [hB k (by omega), if_neg (by omega)]
    have v2 : B 2 (k / 8 * 8 + p) = nI (DD l p (k / 8) p) := by
      rw [hB _ (by omega), show (k / 8 * 8 + p) / 8 = k / 8 by omega, show (k / 8 * 8 + p) % 8 = p by omega, DD_am]
      split <;> rfl
    have v3 : B 2 (8 * p + k % 8) = nI (DD l p p (k % 8)) := by
      rw [hB _ (by omega), show (8 * p + k % 8) / 8 = p by omega, show (8 * p + k % 8) % 8 = k % 8 by omega, DD_mb]
      split <;> rfl
    have b1 := DD_le h p (k / 8) (k % 8) ha hb
    have b2 := DD_le h p (k / 8) p ha hp
    have b3 := DD_le h p p (k % 8) hp hb
    show ∃ g : Row, pX10_settles_184b fu (nI p) (nI k) B _ _ = _ ∧ _
    unfold pX10_settles_184b
    rw [if_neg (show ¬ (64 : Int32) ≤ nI k from fun z => by have := (nI_le_iff (a := 64) (by decide) (by omega)).mp z; omega), ld_nI (by omega) (by decide), (i8 (show k < 64 by omega)).1, (i8 (show k < 64 by omega)).2, show nI (k / 8) * (8 : Int32) = nI (k / 8 * 8) from pk_mul _ 8, nI_add, ld_nI (by omega) (by decide), ix8, ld_nI (by omega) (by decide), v1, v2, v3, nI_add, m_smaller, bI_some, sto_nI (by omega) (by decide), nI_1, min_nI (by omega) (by omega), ← DD_s]
    obtain ⟨g, e1, e2⟩ := ih (k + 1) t (upR B 2 (upd (B 2) k (nI (DD l (p + 1) (k / 8) (k % 8))))) (fun j hj => by
      rw [upR_at]
      by_cases z : j = k
      · subst z; rw [upd_at, if_pos (by omega)]
      · rw [upd_ne z, hB j hj]
        by_cases y : j < k
        · rw [if_pos y, if_pos (by omega)]
        · rw [if_neg y, if_neg (by omega)]) (by omega) (by omega)
    exact ⟨g, by rw [e1, upR_upR], e2⟩
theorem m_set176 (h : LH l np) (hf : 1000 < fu) (K : Mem → Res) : ∀ (m p t : Nat) (B : Mem), (∀ j, j < 64 → B 2 j = nI (DD l p (j / 8) (j % 8))) → p + m = 8 → m < t → ∃ g : Row, pX10_settles_176 fu K t (nI p) B = K (upR B 2 g) ∧ ∀ j, j < 64 → g j = nI (DD l 8 (j / 8) (j % 8)) := by
  intro m
  induction m with
  | zero =>
    intro p t B hB hp ht
    obtain ⟨t, rfl⟩ : ∃ q, t = q + 1 := ⟨t - 1, by omega⟩
    have e : p = 8 := by omega
    subst e
    refine ⟨B 2, ?_, hB⟩
    show pX10_settles_176b fu (nI 8) B _ _ = _
    unfold pX10_settles_176b
    rw [if_pos (by decide), upR_self]
  | succ m ih =>
    intro p t B hB hp ht
    obtain ⟨t, rfl⟩ : ∃ q, t = q + 1 := ⟨t - 1, by omega⟩
    show ∃ g : Row, pX10_settles_176b fu (nI p) B _ _ = _ ∧ _
    unfold pX10_settles_176b
    rw [if_neg (show ¬ (8 : Int32) ≤ nI p from fun z => by have := (nI_le_iff (a := 8) (by decide) (by omega)).mp z; omega)]
    obtain ⟨g1, e1, e2⟩ := m_set184 (fu := fu) h (show p < 8 by omega) (fun y27 M28 => (pX10_settles_176 fu K t) (y27 + (1 : Int32)) M28) 64 0 fu B (fun j hj => by rw [if_neg (by omega)]; exact hB j hj) (by omega) (by omega)
    have e1' : pX10_settles_184 fu _ fu (nI p) 0 B = _ := e1
    rw [e1', nI_1]
    obtain ⟨g, f1, f2⟩ := ih (p + 1) t (upR B 2 g1) (fun j hj => by rw [upR_at]; exact e2 j hj) (by omega) (by omega)
    exact ⟨g, by rw [f1, upR_upR], f2⟩
theorem ms_settles {B : Mem} (h : LH l np) (h7 : ∀ j, j < 64 → B 7 j = if l (j / 8) (j % 8) = 0 then -4 else nI (l (j / 8) (j % 8))) (hf : 1000 < fu) : ∃ B', pX10_settles fu B = some (0, B') ∧ (B' 0 0 = B 0 10 ∧ B' 0 3 = B 0 12 ∧ B' 0 4 = B 0 13 ∧ B' 0 7 = B 0 16) ∧ (∀ j, j ≠ 0 → j ≠ 3 → j ≠ 4 → j ≠ 7 → B' 0 j = B 0 j) ∧ (∀ j, j < 64 → B' 1 j = B 7 j ∧ B' 2 j = nI (DD l 8 (j / 8) (j % 8))) ∧ (∀ j, j < 4 → B' 3 j = B 8 j ∧ B' 4 j = B 9 j) ∧ (∀ j, j < 5 → B' 5 j = B 10 j ∧ B' 6 j = B 11 j) ∧ (∀ j, j < 64 → B' 12 j = B 12 (704 + j)) ∧ B' 13 = B 13 := by
  unfold pX10_settles fpt
  dsimp only
  generalize hM4 : up2 (up2 (up2 (up2 B 0 0 (B 0 10)) 0 3 (up2 B 0 0 (B 0 10) 0 12)) 0 4 (up2 (up2 B 0 0 (B 0 10)) 0 3 (up2 B 0 0 (B 0 10) 0 12) 0 13)) 0 7 (up2 (up2 (up2 B 0 0 (B 0 10)) 0 3 (up2 B 0 0 (B 0 10) 0 12)) 0 4 (up2 (up2 B 0 0 (B 0 10)) 0 3 (up2 B 0 0 (B 0 10) 0 12) 0 13) 0 16) = M4
  have k4 : ∀ k, k ≠ 0 → M4 k = B k := fun k hk => by rw [← hM4, up2_eq, upR_ne hk, up2_eq, upR_ne hk, up2_eq, upR_ne hk, up2_eq, upR_ne hk]
  have z4 : M4 0 = upd (upd (upd (upd (B 0) 0 (B 0 10)) 3 (B 0 12)) 4 (B 0 13)) 7 (B 0 16) := by
    rw [← hM4]
    simp only [up2_eq, upR_at]
    rw [upd_ne (k := 0) (j := 12) (by decide), upd_ne (k := 3) (j := 13) (by decide), upd_ne (k := 0) (j := 13) (by decide), upd_ne (k := 4) (j := 16) (by decide), upd_ne (k := 3) (j := 16) (by decide), upd_ne (k := 0) (j := 16) (by decide)]
  obtain ⟨f1, g1, e1, a1, -⟩ := m_set34 (fu := fu) (l := l) (fun j hj => (h.2 (j / 8) (j % 8) (by omega) (by omega)).1) (fun M10 =>
      pX10_settles_102 fu
        (fun  M15 =>
          pX10_settles_139 fu
            (fun  M20 =>
              pX10_settles_176 fu
                (fun  M29 =>
                  bV (pX10_copies fu (704 : Int32) (0 : Int32) M29) fun M30 =>
                  some (0, M30))
                fu (0 : Int32) M20)
            fu (0 : Int32) M15)
        fu (0 : Int32) M10) 64 0 fu M4 (fun j hj => by rw [k4 7 (by decide)]; exact h7 j hj) (by omega) (by omega)
  have e1' : pX10_settles_34 fu _ fu 0 M4 = _ := e1
  rw [e1']
  generalize hM5 : upR (upR M4 1 f1) 2 g1 = M5
  have k5 : ∀ k, k ≠ 1 → k ≠ 2 → M5 k = M4 k := fun k h1 h2 => by rw [← hM5, upR_ne h2, upR_ne h1]
  have r51 : M5 1 = f1 := by rw [← hM5, upR_ne (by decide), upR_at]
  have r52 : M5 2 = g1 := by rw [← hM5, upR_at]
  obtain ⟨f2, g2, e2, a2, -⟩ := m_set102 (fu := fu) (fun  M15 =>
          pX10_settles_139 fu
            (fun  M20 =>
              pX10_settles_176 fu
                (fun  M29 =>
                  bV (pX10_copies fu (704 : Int32) (0 : Int32) M29) fun M30 =>
                  some (0, M30))
                fu (0 : Int32) M20)
            fu (0 : Int32) M15) 4 0 fu M5 (by omega) (by omega)
  have e2' : pX10_settles_102 fu _ fu 0 M5 = _ := e2
  rw [e2']
  generalize hM6 : upR (upR M5 3 f2) 4 g2 = M6
  have k6 : ∀ k, k ≠ 3 → k ≠ 4 → M6 k = M5 k := fun k h1 h2 => by rw [← hM6, upR_ne h2, upR_ne h1]
  have r63 : M6 3 = f2 := by rw [← hM6, upR_ne (by decide), upR_at]
  have r64 : M6 4 = g2 := by rw [← hM6, upR_at]
  obtain ⟨f3, g3, e3, a3, -⟩ := m_set139 (fu := fu) (fun  M20 =>
              pX10_settles_176 fu
                (fun  M29 =>
                  bV (pX10_copies fu (704 : Int32) (0 : Int32) M29) fun M30 =>
                  some (0, M30))
                fu (0 : Int32) M20) 5 0 fu M6 (by omega) (by omega)
  have e3' : pX10_settles_139 fu _ fu 0 M6 = _ := e3
  rw [e3']
  generalize hM7 : upR (upR M6 5 f3) 6 g3 = M7
  have k7 : ∀ k, k ≠ 5 → k ≠ 6 → M7 k = M6 k := fun k h1 h2 => by rw [← hM7, upR_ne h2, upR_ne h1]
  have r75 : M7 5 = f3 := by rw [← hM7, upR_ne (by decide), upR_at]
  have r76 : M7 6 = g3 := by rw [← hM7, upR_at]
  obtain ⟨g4, e4, a4⟩ := m_set176 (fu := fu) h hf (fun  M29 =>
                  bV (pX10_copies fu (704 : Int32) (0 : Int32) M29) fun M30 =>
                  some (0, M30)) 8 0 fu M7 (fun j hj => by rw [k7 2 (by decide) (by decide), k6 2 (by decide) (by decide), r52]; exact (a1 j (by omega) hj).2) (by omega) (by omega)
  have e4' : pX10_settles_176 fu _ fu 0 M7 = _ := e4
  rw [e4']
  have e5 : pX10_copies fu 704 0 (upR M7 2 g4) = _ := m_copies (fu := fu) (M := upR M7 2 g4) (a := 704) (c := 0) (by decide) (by decide) (Or.inr (by decide)) (by omega)
  rw [e5, bV_some]
  have c12 : upR M7 2 g4 12 = B 12 := by rw [upR_ne (by decide), k7 12 (by decide) (by decide), k6 12 (by decide) (by decide), k5 12 (by decide) (by decide), k4 12 (by decide)]
  have c0 : upR (upR M7 2 g4) 12 (cpB (upR M7 2 g4 12) 704 0) 0 = M4 0 := by rw [upR_ne (by decide), upR_ne (by decide), k7 0 (by decide) (by decide), k6 0 (by decide) (by decide), k5 0 (by decide) (by decide)]
  refine ⟨_, rfl, ?_, ?_, ?_, ?_, ?_, ?_, ?_⟩
  · rw [c0, z4]
    refine ⟨?_, ?_, ?_, ?_⟩
    · rw [upd_ne (by decide), upd_ne (by decide), upd_ne (by decide), upd_at]
    · rw [upd_ne (by decide), upd_ne (by decide), upd_at]
    · rw [upd_ne (by decide), upd_at]
    · rw [upd_at]
  · intro j h0 h3 h4 h7'
    rw [c0, z4, upd_ne h7', upd_ne h4, upd_ne h3, upd_ne h0]
  · intro j hj
    rw [upR_ne (by decide), upR_ne (by decide), k7 1 (by decide) (by decide), k6 1 (by decide) (by decide), r51, upR_ne (by decide), upR_at]
    exact ⟨(a1 j (by omega) hj).1.trans (by rw [k4 7 (by decide)]), a4 j hj⟩
  · intro j hj
    have q := a2 j (by omega) hj
    rw [upR_ne (by decide), upR_ne (by decide), k7 3 (by decide) (by decide), r63, upR_ne (by decide), upR_ne (by decide), k7 4 (by decide) (by decide), r64]
    rw [k5 8 (by decide) (by decide), k4 8 (by decide), k5 9 (by decide) (by decide), k4 9 (by decide)] at q
    exact q
  · intro j hj
    have q := a3 j (by omega) hj
    rw [upR_ne (by decide), upR_ne (by decide), r75, upR_ne (by decide), upR_ne (by decide), r76]
    rw [k6 10 (by decide) (by decide), k5 10 (by decide) (by decide), k4 10 (by decide), k6 11 (by decide) (by decide), k5 11 (by decide) (by decide), k4 11 (by decide)] at q
    exact q
  · intro j hj
    rw [upR_at, c12]
    have := cpB_in (s := B 12) (a := 704) (c := 0) hj
    rw [Nat.zero_add] at this
    exact this
  · rw [upR_ne (by decide), upR_ne (by decide), k7 13 (by decide) (by decide), k6 13 (by decide) (by decide), k5 13 (by decide) (by decide), k4 13 (by decide)]
end SE
