/-! PURE: the reference's numbers -/
def s24 (B : Mem) (q : Nat) : Mem := upR B 0 (upd (B 0) 24 (nI q))
def s26 (B : Mem) (w : Int32) : Mem := upR B 0 (upd (B 0) 26 w)
def eqP (B B' : Mem) : Prop := (∀ k, 1 ≤ k → B' k = B k) ∧ ∀ j, j ≠ 24 → j ≠ 26 → B' 0 j = B 0 j
theorem eqP_rf (B : Mem) : eqP B B := ⟨fun _ _ => rfl, fun _ _ _ => rfl⟩
theorem eqP_tr {B B1 B2 : Mem} (h1 : eqP B B1) (h2 : eqP B1 B2) : eqP B B2 := ⟨fun k a => (h2.1 k a).trans (h1.1 k a), fun j a b => (h2.2 j a b).trans (h1.2 j a b)⟩
theorem eqP_24 (B : Mem) (q : Nat) : eqP B (s24 B q) := ⟨fun k a => upR_ne (by omega), fun j a _ => by unfold s24; rw [upR_at, upd_ne a]⟩
theorem eqP_26 (B : Mem) (w : Int32) : eqP B (s26 B w) := ⟨fun k a => upR_ne (by omega), fun j _ b => by unfold s26; rw [upR_at, upd_ne b]⟩
theorem s24_24 (B : Mem) (q : Nat) : s24 B q 0 24 = nI q := by unfold s24; rw [upR_at, upd_at]
theorem s24_26 (B : Mem) (q : Nat) : s24 B q 0 26 = B 0 26 := by unfold s24; rw [upR_at, upd_ne (by decide)]
theorem s26_26 (B : Mem) (w : Int32) : s26 B w 0 26 = w := by unfold s26; rw [upR_at, upd_at]
theorem s26_24 (B : Mem) (w : Int32) : s26 B w 0 24 = B 0 24 := by unfold s26; rw [upR_at, upd_ne (by decide)]
theorem TM_eq {B B' : Mem} {n : Nat} {c : Nat → Nat} (h : TM B n c) (he : eqP B B') : TM B' n c := by
  unfold TM at *
  rw [he.2 22 (by decide) (by decide), he.1 13 (by decide)]; exact h
section MN
variable {B : Mem} {n fu p : Nat} {c : Nat → Nat}
theorem m_byte (hT : TM B n c) (hn : n ≤ 200) (h24 : B 0 24 = nI p) (hp : p < 2 ^ 20) : pX10_byteNow fu B = some (if p < n then nI (c p) else -1, B) := by
  unfold pX10_byteNow
  rw [hT.1, h24]
  by_cases q : p < n
  · rw [if_neg (fun z => by have := (nI_le_iff (by omega) (by omega)).mp z; omega), ld_nI (by omega) (by decide), hT.2 p q, if_pos q]
  · rw [if_pos ((nI_le_iff (by omega) (by omega)).mpr (by omega)), if_neg q]
theorem in_dgt (hc : ∀ j, j < n → c j ≤ 126) : pX10_in fu (if p < n then nI (c p) else (-1 : Int32)).toInt64 48 57 B = some (if dgt c n p then 1 else 0, B) := by
  rw [m_in, w_toInt, show (48 : Int64).toInt = 48 from rfl, show (57 : Int64).toInt = 57 from rfl]
  by_cases q : p < n
  · have := hc p q
    rw [if_pos q, nI_toInt (by omega)]
    by_cases z : dgt c n p
    · have z' := z
      unfold dgt at z'
      rw [if_pos z, if_pos (by omega)]
    · rw [if_neg z, if_neg (fun y => z ⟨q, by omega, by omega⟩)]
  · rw [if_neg q, if_neg (by decide), if_neg (fun z => q z.1)]
theorem mn_stop (hT : TM B n c) (hn : n ≤ 200) (hc : ∀ j, j < n → c j ≤ 126) (h24 : B 0 24 = nI p) (hp : p < 2 ^ 20) (hd : ¬ dgt c n p) (x1 x2 x3 x4 : Int32) (K : Int32 → Int32 → Int32 → Int32 → Mem → Res) {t : Nat} : pX10_number_5 fu K (t + 1) x1 x2 x3 x4 B = K x1 x2 x3 x4 B := by
  show pX10_number_5b fu x1 x2 x3 x4 B _ _ = _
  unfold pX10_number_5b
  rw [m_byte hT hn h24 hp, bI_some, in_dgt hc, bI_some, if_neg hd, if_pos rfl]
theorem mn_3 (hT : TM B n c) (hn : n ≤ 200) (hc : ∀ j, j < n → c j ≤ 126) (h24 : B 0 24 = nI p) (hp : p < 2 ^ 20) (x1 x2 x3 : Int32) (K : Int32 → Int32 → Int32 → Int32 → Mem → Res) {t : Nat} : pX10_number_5 fu K (t + 1) x1 x2 x3 3 B = K x1 x2 x3 3 B := by
  show pX10_number_5b fu x1 x2 x3 3 B _ _ = _
  unfold pX10_number_5b
  rw [m_byte hT hn h24 hp, bI_some, in_dgt hc, bI_some]
  by_cases hd : dgt c n p
  · rw [if_pos hd, if_neg one_ne, if_pos (by decide)]
  · rw [if_neg hd, if_pos rfl]
theorem mn_dig (hT : TM B n c) (hn : n ≤ 200) (hc : ∀ j, j < n → c j ≤ 126) (h24 : B 0 24 = nI p) (hp : p < 2 ^ 20) (hd : dgt c n p) (x1 x2 : Int32) {v g : Nat} (hg : g < 3) (K : Int32 → Int32 → Int32 → Int32 → Mem → Res) {t : Nat} : pX10_number_5 fu K (t + 1) x1 x2 (nI v) (nI g) B = pX10_number_5 fu K t x1 x2 (nI (10 * v + (c p - 48))) (nI (g + 1)) (s24 B (p + 1)) := by
  show pX10_number_5b fu x1 x2 (nI v) (nI g) B _ _ = _
  unfold pX10_number_5b fpt
  rw [m_byte hT hn h24 hp, bI_some, in_dgt hc, bI_some, if_pos hd, if_neg one_ne, if_neg (show ¬ (3 : Int32) ≤ nI g from fun z => by have := (nI_le_iff (a := 3) (by decide) (by omega)).mp z; omega), m_byte hT hn h24 hp, bI_some, if_pos hd.1, up2_eq, h24, nI_1, nI_1]
  have := hd.2.1
  have e : (10 : Int32) * nI v + nI (c p) - 48 = nI (10 * v + (c p - 48)) := by
    rw [show (10 : Int32) * nI v = nI (10 * v) from pk_mul 10 v, nI_add, show (48 : Int32) = nI 48 from rfl, pk_sub (show 48 ≤ 10 * v + c p by omega)]
    congr 1; omega
  rw [e]
  rfl
theorem mn_57 {v g lo hi : Nat} (h26 : B 0 26 = 0) (hv : v ≤ 999) (hg : g ≤ 3) (hlo : lo ≤ 99) (hhi : hi ≤ 99) : pX10_number_57 fu (nI lo) (nI hi) (nI v) (nI g) B = if 1 ≤ g ∧ g ≤ 2 ∧ lo ≤ v ∧ v ≤ hi then some (nI v, s26 B 0) else some (0, s26 B 1) := by
  have e1 : pX10_number_88 fu (nI v) B = some (0, s26 B 1) := by
    unfold pX10_number_88 pX10_number_93 fpz
    rw [if_pos (Or.inr rfl), up2_eq]
    dsimp only
    rw [upR_at, upd_at, if_neg one_ne]; rfl
  have e0 : pX10_number_93 fu (nI v) 0 B = some (nI v, s26 B 0) := by
    unfold pX10_number_93 fpz
    rw [if_pos (Or.inl rfl), up2_eq]
    dsimp only
    rw [upR_at, upd_at, if_pos rfl]; rfl
  unfold pX10_number_57
  rw [if_pos h26, e1]
  by_cases g0 : g = 0
  · subst g0; rw [if_pos (show nI 0 = 0 from rfl), if_neg (by omega)]
  · rw [if_neg (show ¬ nI g = 0 from fun z => g0 ((nI_eq_iff (b := 0) (by omega) (by decide)).mp z))]
    by_cases g2 : 2 < g
    · rw [if_pos (show (2 : Int32) < nI g from (nI_lt_iff (a := 2) (by decide) (by omega)).mpr g2), if_neg (by omega)]
    · rw [if_neg (show ¬ (2 : Int32) < nI g from fun z => g2 ((nI_lt_iff (a := 2) (by decide) (by omega)).mp z)), m_in, bI_some, w_toInt, w_toInt, w_toInt, nI_toInt (by omega), nI_toInt (by omega), nI_toInt (by omega), e1, e0]
      by_cases z : lo ≤ v ∧ v ≤ hi
      · rw [if_pos (show (lo : Int) ≤ v ∧ (v : Int) ≤ hi by omega), if_neg one_ne, if_pos (by omega)]
      · rw [if_neg (show ¬ ((lo : Int) ≤ v ∧ (v : Int) ≤ hi) by omega), if_pos rfl, if_neg (by omega)]
def NO (B B' : Mem) (c : Nat → Nat) (n p lo hi : Nat) (r : Int32) : Prop := (∃ v q, num c n p = some (v, q) ∧ lo ≤ v ∧ v ≤ hi ∧ r = nI v ∧ B' 0 24 = nI q ∧ B' 0 26 = 0) ∨ ((∀ v q, num c n p = some (v, q) → ¬ (lo ≤ v ∧ v ≤ hi)) ∧ r = 0 ∧ B' 0 26 = 1 ∧ ∃ p', p' ≤ p + 3 ∧ B' 0 24 = nI p')
theorem m_number (hT : TM B n c) (hn : n ≤ 200) (hc : ∀ j, j < n → c j ≤ 126) (h24 : B 0 24 = nI p) (hp : p < 2 ^ 19) (h26 : B 0 26 = 0) {lo hi : Nat} (hlo : lo ≤ 99) (hhi : hi ≤ 99) (hf : 1000 < fu) : ∃ r B', pX10_number fu (nI lo) (nI hi) B = some (r, B') ∧ eqP B B' ∧ NO B B' c n p lo hi r := by
  unfold pX10_number
  obtain ⟨t, rfl⟩ : ∃ t, fu = t + 4 := ⟨fu - 4, by omega⟩
  have fin : ∀ v g q B1, (∀ v' q', num c n p = some (v', q') → v' = v ∧ q' = q) → (1 ≤ g ∧ g ≤ 2 → num c n p = some (v, q)) → (¬ (1 ≤ g ∧ g ≤ 2) → num c n p = none) → v ≤ 999 → g ≤ 3 → q ≤ p + 3 → eqP B B1 → B1 0 24 = nI q → B1 0 26 = 0 → ∃ r B', pX10_number_57 (t + 4) (nI lo) (nI hi) (nI v) (nI g) B1 = some (r, B') ∧ eqP B B' ∧ NO B B' c n p lo hi r := by
    intro v g q B1 hu hs hno hv hg hq he h1 h2
    rw [mn_57 h2 hv hg hlo hhi]
    by_cases z : 1 ≤ g ∧ g ≤ 2 ∧ lo ≤ v ∧ v ≤ hi
    · rw [if_pos z]
      exact ⟨_, _, rfl, eqP_tr he (eqP_26 _ _), Or.inl ⟨v, q, hs (by omega), by omega, by omega, rfl, (s26_24 _ _).trans h1, s26_26 _ _⟩⟩
    · rw [if_neg z]
      refine ⟨_, _, rfl, eqP_tr he (eqP_26 _ _), Or.inr ⟨fun v' q' e y => ?_, rfl, s26_26 _ _, q, hq, (s26_24 _ _).trans h1⟩⟩
      obtain ⟨rfl, rfl⟩ := hu v' q' e
      by_cases w : 1 ≤ g ∧ g ≤ 2
      · exact z ⟨w.1, w.2, y⟩
      · rw [hno w] at e; cases e
  by_cases d0 : dgt c n p
  · have y0 := d0
    unfold dgt at y0
    have E1 := eqP_24 B (p + 1)
    have e0 := mn_dig (fu := t + 4) hT hn hc h24 (by omega) d0 (nI lo) (nI hi) (v := 0) (g := 0) (by decide) (fun y8 y9 y10 y11 M12 => pX10_number_57 (t + 4) y8 y9 y10 y11 M12) (t := t + 3)
    rw [Nat.mul_zero, Nat.zero_add, Nat.zero_add] at e0
    have e0' : pX10_number_5 (t + 4) _ (t + 4) (nI lo) (nI hi) 0 0 B = _ := e0
    rw [e0']
    by_cases d1 : dgt c n (p + 1)
    · have y1 := d1
      unfold dgt at y1
      have T1 := TM_eq hT E1
      have E2 := eqP_tr E1 (eqP_24 (s24 B (p + 1)) (p + 2))
      rw [mn_dig T1 hn hc (s24_24 _ _) (by omega) d1 (nI lo) (nI hi) (by decide)]
      by_cases d2 : dgt c n (p + 2)
      · have y2 := d2
        unfold dgt at y2
        have T2 := TM_eq hT E2
        rw [mn_dig T2 hn hc (s24_24 _ _) (by omega) d2 (nI lo) (nI hi) (by decide)]
        have E3 := eqP_tr E2 (eqP_24 (s24 (s24 B (p + 1)) (p + 2)) (p + 3))
        have T3 := TM_eq hT E3
        have e3 := mn_3 (fu := t + 4) T3 hn hc (s24_24 _ _) (show p + 3 < 2 ^ 20 by omega) (nI lo) (nI hi) (nI (10 * (10 * (c p - 48) + (c (p + 1) - 48)) + (c (p + 2) - 48))) (fun y8 y9 y10 y11 M12 => pX10_number_57 (t + 4) y8 y9 y10 y11 M12) (t := t)
        have hnone : num c n p = none := by unfold num; rw [if_pos d0, if_pos d1, if_pos d2]
        have e3' : pX10_number_5 (t + 4) _ (t + 1) (nI lo) (nI hi) _ (nI (1 + 1 + 1)) (s24 (s24 (s24 B (p + 1)) (p + 2)) (p + 2 + 1)) = _ := e3
        rw [e3']
        exact fin _ 3 (p + 3) _ (fun v' q' z => by rw [hnone] at z; cases z) (fun z => by omega) (fun _ => hnone) (by omega) (by decide) (by omega) E3 (s24_24 _ _) (by rw [s24_26, s24_26, s24_26]; exact h26)
      · have T2 := TM_eq hT E2
        have hsome : num c n p = some (10 * (c p - 48) + (c (p + 1) - 48), p + 2) := by unfold num; rw [if_pos d0, if_pos d1, if_neg d2]
        rw [mn_stop T2 hn hc (s24_24 _ _) (by omega) d2]
        exact fin _ 2 (p + 2) _ (fun v' q' z => by rw [hsome] at z; cases z; exact ⟨rfl, rfl⟩) (fun _ => hsome) (fun z => by omega) (by omega) (by decide) (by omega) E2 (s24_24 _ _) (by rw [s24_26, s24_26]; exact h26)
    · have T1 := TM_eq hT E1
      have hsome : num c n p = some (c p - 48, p + 1) := by unfold num; rw [if_pos d0, if_neg d1]
      rw [mn_stop T1 hn hc (s24_24 _ _) (by omega) d1]
      exact fin _ 1 (p + 1) _ (fun v' q' z => by rw [hsome] at z; cases z; exact ⟨rfl, rfl⟩) (fun _ => hsome) (fun z => by omega) (by omega) (by decide) (by omega) E1 (s24_24 _ _) (by rw [s24_26]; exact h26)
  · have hnone : num c n p = none := by unfold num; rw [if_neg d0]
    rw [mn_stop hT hn hc h24 (by omega) d0]
    exact fin 0 0 p B (fun v' q' z => by rw [hnone] at z; cases z) (fun z => by omega) (fun _ => hnone) (by decide) (by decide) (by omega) (eqP_rf B) h24 h26
theorem m_more (hT : TM B n c) (hn : n ≤ 200) (hc : ∀ j, j < n → c j ≤ 126) (h24 : B 0 24 = nI p) (hp : p < 2 ^ 18) (h26 : B 0 26 = 0 ∨ B 0 26 = 1) {lo hi : Nat} (hlo : lo ≤ 99) (hhi : hi ≤ 99) (hf : 1000 < fu) : ∃ r B', pX10_more fu (nI lo) (nI hi) B = some (r, B') ∧ eqP B B' ∧ ((B 0 26 = 0 ∧ chr c n p = 44 ∧ ∃ v q, num c n (p + 1) = some (v, q) ∧ lo ≤ v ∧ v ≤ hi ∧ r = nI v ∧ B' 0 24 = nI q ∧ B' 0 26 = 0) ∨ ((B 0 26 = 0 → chr c n p = 44 → ∀ v q, num c n (p + 1) = some (v, q) → ¬ (lo ≤ v ∧ v ≤ hi)) ∧ r = 0 ∧ B' 0 26 = 1 ∧ ∃ p', p' ≤ p + 4 ∧ B' 0 24 = nI p')) := by
  have w17 : s24 (s26 B 1) (p + 1) 0 26 = 1 := by rw [s24_26, s26_26]
  have e17 : pX10_more_17 fu (nI lo) (nI hi) B = some (0, s24 (s26 B 1) (p + 1)) := by
    unfold pX10_more_17 pX10_more_22 fpz fpt
    have eB : up2 (up2 B 0 26 1) 0 24 (up2 B 0 26 1 0 24 + 1) = s24 (s26 B 1) (p + 1) := by
      rw [up2_eq, up2_eq, upR_at, upd_ne (k := 26) (j := 24) (by decide), h24, nI_1]; unfold s24 s26; rw [upR_at]
    rw [if_pos (Or.inr rfl)]
    dsimp only
    rw [eB, w17, if_neg one_ne]
  have E17 : eqP B (s24 (s26 B 1) (p + 1)) := eqP_tr (eqP_26 _ _) (eqP_24 _ _)
  unfold pX10_more
  rcases h26 with h26 | h26
  · rw [if_pos h26, m_byte hT hn h24 (by omega), bI_some]
    by_cases q : p < n ∧ c p = 44
    · rw [if_pos q.1, if_pos (show nI (c p) = (44 : Int32) by rw [q.2]; rfl)]
      have ech : chr c n p = 44 := by unfold chr; rw [if_pos q.1]; exact q.2
      have E : eqP B (s24 (s26 B 0) (p + 1)) := eqP_tr (eqP_26 _ _) (eqP_24 _ _)
      have w0 : s24 (s26 B 0) (p + 1) 0 26 = 0 := by rw [s24_26, s26_26]
      obtain ⟨r, B', e1, e2, e3⟩ := m_number (fu := fu) (TM_eq hT E) hn hc (s24_24 _ _) (show p + 1 < 2 ^ 19 by omega) w0 hlo hhi hf
      refine ⟨r, B', ?_, eqP_tr E e2, ?_⟩
      · unfold pX10_more_22 fpz fpt
        have eB : up2 (up2 B 0 26 0) 0 24 (up2 B 0 26 0 0 24 + 1) = s24 (s26 B 0) (p + 1) := by
          rw [up2_eq, up2_eq, upR_at, upd_ne (k := 26) (j := 24) (by decide), h24, nI_1]; unfold s24 s26; rw [upR_at]
        rw [if_pos (Or.inl rfl)]
        dsimp only
        rw [eB, w0, if_pos rfl, e1, bI_some]
      · rcases e3 with ⟨v, q', z⟩ | ⟨z, y1, y2, p', y3, y4⟩
        · exact Or.inl ⟨h26, ech, v, q', z⟩
        · exact Or.inr ⟨fun _ _ => z, y1, y2, p', by omega, y4⟩
    · have hne : ¬ (if p < n then nI (c p) else (-1 : Int32)) = 44 := by
        by_cases z : p < n
        · have := hc p z
          rw [if_pos z]; exact fun y => q ⟨z, (nI_eq_iff (b := 44) (by omega) (by decide)).mp y⟩
        · rw [if_neg z]; decide
      rw [if_neg hne, e17]
      refine ⟨_, _, rfl, E17, Or.inr ⟨fun _ ech => ?_, rfl, w17, p + 1, by omega, s24_24 _ _⟩⟩
      have hpn := chr_lt (c := c) (n := n) (q := p) (by rw [ech]; decide)
      unfold chr at ech
      rw [if_pos hpn] at ech
      exact absurd ⟨hpn, ech⟩ q
  · rw [if_neg (by rw [h26]; decide), e17]
    exact ⟨_, _, rfl, E17, Or.inr ⟨fun z => by rw [h26] at z; exact absurd z (by decide), rfl, w17, p + 1, by omega, s24_24 _ _⟩⟩
end MN
