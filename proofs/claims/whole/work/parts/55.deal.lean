/-! PURE: deal, one hand in the reference; all hands; deal -/
section DM
variable {C B0 : Mem} {np nd nb fu : Nat} {ln ds : Nat → Nat → Nat} {f0 F : Row} {h pl : Nat → Nat} {w : Int32}
theorem m_chk20 {B : Mem} {d : Nat} (hd : d < nd) (hn : nd ≤ 4) (hh : ∀ d, d < nd → h d < 5) (h15 : ∀ d, d < nd → B 15 d = nI (h d)) (x1 : Int32) (K : Int32 → Int32 → Mem → Res) : ∀ (m e t : Nat), e + m = d → m < t → (∀ i, i < e → h d ≠ h i) → ((∀ i, i < d → h d ≠ h i) ∧ pX10_dealsSum_20 fu K t x1 (nI d) (nI e) B = K x1 (nI d) B) ∨ (¬ (∀ i, i < d → h d ≠ h i) ∧ pX10_dealsSum_20 fu K t x1 (nI d) (nI e) B = some (-4, B)) := by
  intro m
  induction m with
  | zero =>
    intro e t he ht hi
    obtain ⟨t, rfl⟩ : ∃ q, t = q + 1 := ⟨t - 1, by omega⟩
    refine Or.inl ⟨fun i hi' => hi i (by omega), ?_⟩
    show pX10_dealsSum_20b fu x1 (nI d) (nI e) B _ _ = _
    unfold pX10_dealsSum_20b
    rw [if_pos ((nI_le_iff (by omega) (by omega)).mpr (by omega))]
  | succ m ih =>
    intro e t he ht hi
    obtain ⟨t, rfl⟩ : ∃ q, t = q + 1 := ⟨t - 1, by omega⟩
    have eq : pX10_dealsSum_20 fu K (t + 1) x1 (nI d) (nI e) B = pX10_dealsSum_20b fu x1 (nI d) (nI e) B (pX10_dealsSum_20 fu K t) K := rfl
    rw [eq]
    unfold pX10_dealsSum_20b
    rw [if_neg (fun q => by have := (nI_le_iff (by omega) (by omega)).mp q; omega), ld_nI (by omega) (by decide), ld_nI (by omega) (by decide), h15 d hd, h15 e (by omega), nI_1]
    have h1 := hh d hd
    have h2 := hh e (by omega)
    by_cases q : h d = h e
    · rw [if_pos (by rw [q])]
      exact Or.inr ⟨fun z => z e (by omega) q, rfl⟩
    · rw [if_neg (fun z => q ((nI_eq_iff (by omega) (by omega)).mp z))]
      refine ih (e + 1) t (by omega) (by omega) (fun i hi' => ?_)
      by_cases z : i = e
      · subst z; exact q
      · exact hi i (by omega)
theorem m_chk10 {B : Mem} (hR : RC C B np nd nb ln ds) (hh : ∀ d, d < nd → h d < nb) (hpl : ∀ d, d < nd → pl d < np ∧ C 10 d = nI (pl d)) (hM : HM np nb f0 (B 12) 0) (h15 : ∀ d, d < nd → B 15 d = nI (h d)) (hf : 1000 < fu) (x1 : Int32) (K : Int32 → Mem → Res) : ∀ (m d t : Nat), d + m = nd → m < t → OKs ds pl h f0 d → (OKs ds pl h f0 nd ∧ pX10_dealsSum_10 fu K t x1 (nI d) B = K x1 B) ∨ (¬ OKs ds pl h f0 nd ∧ pX10_dealsSum_10 fu K t x1 (nI d) B = some (-4, B)) := by
  have hn := hR.1
  intro m
  induction m with
  | zero =>
    intro d t hd ht hO
    obtain ⟨t, rfl⟩ : ∃ q, t = q + 1 := ⟨t - 1, by omega⟩
    have : d = nd := by omega
    subst this
    refine Or.inl ⟨hO, ?_⟩
    show pX10_dealsSum_10b fu x1 (nI d) B _ _ = _
    unfold pX10_dealsSum_10b
    rw [hR.2.2.1.2.1, if_pos ((nI_le_iff (by omega) (by omega)).mpr (by omega))]
  | succ m ih =>
    intro d t hd ht hO
    obtain ⟨t, rfl⟩ : ∃ q, t = q + 1 := ⟨t - 1, by omega⟩
    have eq : pX10_dealsSum_10 fu K (t + 1) x1 (nI d) B = pX10_dealsSum_10b fu x1 (nI d) B (pX10_dealsSum_10 fu K t) K := rfl
    rw [eq]
    unfold pX10_dealsSum_10b
    have hd' : d < nd := by omega
    rw [hR.2.2.1.2.1, if_neg (fun q => by have := (nI_le_iff (by omega) (by omega)).mp q; omega)]
    have e := m_chk20 (fu := fu) (B := B) hd' (by omega) (fun d hd => by have := hh d hd; omega) h15 x1 (fun y4 y5 M6 =>
      ld M6 15 4 y5 fun v7 =>
      bI (pX10_canSend fu (0 : Int32) v7 y5 M6) fun r9 M8 =>
      if r9 = 0 then (
        some ((-4 : Int32), M8))
      else
      (pX10_dealsSum_10 fu K t) y4 (y5 + (1 : Int32)) M8) d 0 fu (by omega) (by omega) (fun i hi => absurd hi (by omega))
    have e' : _ ∨ (_ ∧ pX10_dealsSum_20 fu _ fu x1 (nI d) 0 B = _) := e
    have e0 : ∀ K', pX10_dealsSum_20 fu K' fu x1 (nI d) 0 B = pX10_dealsSum_20 fu K' fu x1 (nI d) (nI 0) B := fun _ => rfl
    rw [e0]
    rcases e with ⟨q, e⟩ | ⟨q, e⟩
    · have ec : pX10_canSend fu 0 (nI (h d)) (nI d) B = _ := m_canSend (base := 0) hR (by decide) (hh d hd') hM hd' (hpl d hd').1 (hpl d hd').2
      rw [e, ld_nI (by omega) (by decide), h15 d hd', ec, bI_some, nI_1]
      by_cases q2 : f0 (11 * h d + 1) = 0 ∧ ds 0 (pl d) < 9999
      · rw [if_pos q2, if_neg one_ne]
        refine ih (d + 1) t (by omega) (by omega) (fun i hi => ?_)
        by_cases z : i = d
        · subst z; exact ⟨q2, q⟩
        · exact hO i (by omega)
      · rw [if_neg q2, if_pos rfl]
        exact Or.inr ⟨fun z => q2 (z d hd').1, rfl⟩
    · rw [e]
      exact Or.inr ⟨fun z => q (z d hd').2, rfl⟩
theorem m_snd (hh : ∀ d, d < nd → h d < nb) (hpl : ∀ d, d < nd → pl d < np ∧ C 10 d = nI (pl d)) (hV : HV C np nd nb ds f0) (hO : OKs ds pl h f0 nd) (K : Int32 → Mem → Res) : ∀ (m d t : Nat) (B : Mem), RC C B np nd nb ln ds → (∀ d, d < nd → B 15 d = nI (h d)) → HM np nb (sH C h w f0 d) (B 12) 704 → d + m = nd → m < t → ∃ s', pX10_dealsSum_75 fu K t w (nI d) B = K w (upR B 12 s') ∧ fr 704 (B 12) s' ∧ HM np nb (sH C h w f0 nd) s' 704 := by
  intro m
  induction m with
  | zero =>
    intro d t B hR h15 hM hd ht
    have hn := hR.1
    obtain ⟨t, rfl⟩ : ∃ q, t = q + 1 := ⟨t - 1, by omega⟩
    have : d = nd := by omega
    subst this
    refine ⟨B 12, ?_, fr_rf _ _, hM⟩
    show pX10_dealsSum_75b fu w (nI d) B _ _ = _
    unfold pX10_dealsSum_75b
    rw [hR.2.2.1.2.1, if_pos ((nI_le_iff (by omega) (by omega)).mpr (by omega)), upR_self]
  | succ m ih =>
    intro d t B hR h15 hM hd ht
    have hn := hR.1
    obtain ⟨t, rfl⟩ : ∃ q, t = q + 1 := ⟨t - 1, by omega⟩
    have hd' : d < nd := by omega
    have hV1 := sH_v (w := w) hR hh hpl hV d (by omega) (OKs_le hO (by omega))
    obtain ⟨s1, g1, g2, g3⟩ := m_sends (fu := fu) (base := 704) hR (by decide) (hh d hd') hM (bFR_of hV1 (hh d hd') (sH_fr (OKs_le hO (by omega)))) w (nI d)
    have g1' : pX10_sends fu 704 (nI (h d)) w (nI d) B = _ := g1
    show ∃ s', pX10_dealsSum_75b fu w (nI d) B _ _ = _ ∧ _
    unfold pX10_dealsSum_75b
    rw [hR.2.2.1.2.1, if_neg (fun q => by have := (nI_le_iff (by omega) (by omega)).mp q; omega), ld_nI (by omega) (by decide), h15 d hd', g1', bV_some, nI_1]
    obtain ⟨s2, e1, e2, e3⟩ := ih (d + 1) t (upR B 12 s1) (RC_up hR (by decide) _) (fun d hd => by rw [upR_ne (by decide)]; exact h15 d hd) (by rw [upR_at]; exact g2) (by omega) (by omega)
    rw [upR_at] at e2
    exact ⟨s2, by rw [e1, upR_upR], fr_tr g3 e2, e3⟩
theorem m_ini (K : Int32 → Mem → Res) : ∀ (m i t : Nat) (B : Mem), i + m = 5 → m < t → (∀ j, j < i → B 14 j = -4) → ∃ g : Row, pX10_dealsSum_106 fu K t w (nI i) B = K w (upR B 14 g) ∧ ∀ j, j < 5 → g j = -4 := by
  intro m
  induction m with
  | zero =>
    intro i t B hi ht h4
    obtain ⟨t, rfl⟩ : ∃ q, t = q + 1 := ⟨t - 1, by omega⟩
    refine ⟨B 14, ?_, fun j hj => h4 j (by omega)⟩
    show pX10_dealsSum_106b fu w (nI i) B _ _ = _
    unfold pX10_dealsSum_106b
    rw [if_pos (show (5 : Int32) ≤ nI i from (nI_le_iff (a := 5) (by decide) (by omega)).mpr (by omega)), upR_self]
  | succ m ih =>
    intro i t B hi ht h4
    obtain ⟨t, rfl⟩ : ∃ q, t = q + 1 := ⟨t - 1, by omega⟩
    show ∃ g : Row, pX10_dealsSum_106b fu w (nI i) B _ _ = _ ∧ _
    unfold pX10_dealsSum_106b
    rw [if_neg (fun q => by have := (nI_le_iff (a := 5) (by decide) (by omega)).mp q; omega), sto_nI (by omega) (by decide), nI_1]
    obtain ⟨g, e1, e2⟩ := ih (i + 1) t (upR B 14 (upd (B 14) i (-4))) (by omega) (by omega) (fun j hj => by
      rw [upR_at]
      by_cases z : j = i
      · subst z; exact upd_at _ _ _
      · rw [upd_ne z]; exact h4 j (by omega))
    exact ⟨g, by rw [e1, upR_upR], e2⟩
/-- which beasts stand by now, marked with the hour -/
def upS (F : Row) (n : Int32) (st : Row) (b : Nat) : Int32 := if 0 ≤ st b then st b else if F (11 * b + 1) = 2 then n else st b
theorem m_143 (x2 : Int32) (K : Int32 → Int32 → Mem → Res) : ∀ (m i t : Nat) (B : Mem), RC C B np nd nb ln ds → HM np nb F (B 12) 704 → i + m = nb → m < t → ∃ g : Row, pX10_dealsSum_143 fu K t w x2 (nI i) B = K w x2 (upR B 14 g) ∧ ∀ j, g j = if i ≤ j ∧ j < nb then upS F x2 (B 14) j else B 14 j := by
  intro m
  induction m with
  | zero =>
    intro i t B hR hM hi ht
    have hn := hR.1
    obtain ⟨t, rfl⟩ : ∃ q, t = q + 1 := ⟨t - 1, by omega⟩
    refine ⟨B 14, ?_, fun j => by rw [if_neg (by omega)]⟩
    show pX10_dealsSum_143b fu w x2 (nI i) B _ _ = _
    unfold pX10_dealsSum_143b
    rw [hR.2.2.1.2.2, if_pos ((nI_le_iff (by omega) (by omega)).mpr (by omega)), upR_self]
  | succ m ih =>
    intro i t B hR hM hi ht
    have hn := hR.1
    obtain ⟨t, rfl⟩ : ∃ q, t = q + 1 := ⟨t - 1, by omega⟩
    have e4 := hM.1 i (by omega) 1 (by decide) (by decide)
    rw [show off 1 + i = 0 + i from by simp [off], Nat.zero_add] at e4
    have hgo : ∃ g : Row, pX10_dealsSum_143 fu K t w x2 (nI (i + 1)) (upR B 14 (upd (B 14) i (upS F x2 (B 14) i))) = K w x2 (upR B 14 g) ∧ ∀ j, g j = if i ≤ j ∧ j < nb then upS F x2 (B 14) j else B 14 j := by
      obtain ⟨g, e1, e2⟩ := ih (i + 1) t (upR B 14 (upd (B 14) i (upS F x2 (B 14) i))) (RC_up hR (by decide) _) (by rw [upR_ne (by decide)]; exact hM) (by omega) (by omega)
      refine ⟨g, by rw [e1, upR_upR], fun j => ?_⟩
      rw [e2 j, upR_at]
      by_cases z : j = i
      · subst z; rw [if_neg (by omega), if_pos (by omega), upd_at]
      · rw [upd_ne z]
        by_cases z2 : i + 1 ≤ j ∧ j < nb
        · rw [if_pos z2, if_pos (by omega)]
          unfold upS
          rw [upd_ne z]
        · rw [if_neg z2, if_neg (by omega)]
    show ∃ g : Row, pX10_dealsSum_143b fu w x2 (nI i) B _ _ = _ ∧ _
    unfold pX10_dealsSum_143b pX10_dealsSum_183 pX10_dealsSum_189
    rw [hR.2.2.1.2.2, if_neg (fun q => by have := (nI_le_iff (by omega) (by omega)).mp q; omega)]
    simp only [ld_nI (M := B) (k := 14) (show i < 5 by omega) (show 5 < 2 ^ 31 by decide), sto_nI (M := B) (k := 14) (show i < 5 by omega) (show 5 < 2 ^ 31 by decide), nI_1, show (704 : Int32) + nI i = nI (704 + i) from nI_add 704 i, ld_nI (M := B) (k := 12) (show 704 + i < 768 by omega) (show 768 < 2 ^ 31 by decide), e4]
    unfold upS at hgo
    by_cases q : 0 ≤ B 14 i
    · rw [if_pos q] at hgo ⊢; exact hgo
    · rw [if_neg q] at hgo ⊢
      by_cases q2 : F (11 * i + 1) = 2
      · rw [if_pos q2] at hgo ⊢; exact hgo
      · rw [if_neg q2] at hgo ⊢; exact hgo
theorem m_127 (hh : ∀ d, d < nd → h d < nb) (hV : HV C np nd nb ds F) (hgo : ∀ d, d < nd → F (11 * h d + 1) = 1) (hf : 1000 < fu) (K : Int32 → Mem → Res) : ∀ (m k t : Nat) (B : Mem), RC C B np nd nb ln ds → HM np nb (hrs C nb F k) (B 12) 704 → (∀ d, d < nd → B 14 (h d) = SAV C nb F (h d) k) → k + m = 99 → m < t → ∃ s' g, pX10_dealsSum_127 fu K t w (nI (k + 1)) B = K w (upR (upR B 12 s') 14 g) ∧ fr 704 (B 12) s' ∧ HM np nb (hrs C nb F 99) s' 704 ∧ ∀ d, d < nd → g (h d) = SAV C nb F (h d) 99 := by
  intro m
  induction m with
  | zero =>
    intro k t B hR hM hS hk ht
    obtain ⟨t, rfl⟩ : ∃ q, t = q + 1 := ⟨t - 1, by omega⟩
    have : k = 99 := by omega
    subst this
    refine ⟨B 12, B 14, ?_, fr_rf _ _, hM, hS⟩
    show pX10_dealsSum_127b fu w (nI (99 + 1)) B _ _ = _
    unfold pX10_dealsSum_127b
    rw [if_pos (by decide), upR_self, upR_self]
  | succ m ih =>
    intro k t B hR hM hS hk ht
    have hn := hR.1
    obtain ⟨t, rfl⟩ : ∃ q, t = q + 1 := ⟨t - 1, by omega⟩
    obtain ⟨s1, g1, g2, g3, g4⟩ := m_hour (fu := fu) (base := 704) hR (by decide) (by omega) (-4) (-1) nobal hM (hrs_v hR hV k)
    have g1' : pX10_hour fu 704 (-1) B = _ := g1
    show ∃ s' g, pX10_dealsSum_127b fu w (nI (k + 1)) B _ _ = _ ∧ _
    unfold pX10_dealsSum_127b
    rw [if_neg (fun q => by have := (nI_lt_iff (a := 99) (by decide) (by omega)).mp q; omega), g1', bV_some]
    obtain ⟨g, e1, e2⟩ := m_143 (fu := fu) (w := w) (F := hrs C nb F (k + 1)) (nI (k + 1)) (fun y24 y25 M26 => (pX10_dealsSum_127 fu K t) y24 (y25 + (1 : Int32)) M26) nb 0 fu (upR B 12 s1) (RC_up hR (by decide) _) (by rw [upR_at]; exact g2) (by omega) (by omega)
    have e1' : pX10_dealsSum_143 fu _ fu w (nI (k + 1)) 0 (upR B 12 s1) = _ := e1
    rw [e1', nI_1]
    have hS' : ∀ d, d < nd → g (h d) = SAV C nb F (h d) (k + 1) := fun d hd => by
      have hb := hh d hd
      rw [e2, if_pos (by omega), ← SAV_s hR hb hV (hgo d hd) (by omega)]
      unfold upS
      rw [upR_ne (by decide), hS d hd]
    obtain ⟨s2, g', f1, f2, f3, f4⟩ := ih (k + 1) t (upR (upR B 12 s1) 14 g) (RC_up (RC_up hR (by decide) _) (by decide) _) (by rw [upR_ne (by decide), upR_at]; exact g2) (fun d hd => by rw [upR_at]; exact hS' d hd) (by omega) (by omega)
    rw [upR_ne (by decide), upR_at] at f2
    refine ⟨s2, g', ?_, fr_tr g4 f2, f3, f4⟩
    rw [f1]
    congr 1
    funext a
    by_cases z : a = 14
    · subst z; rw [upR_at, upR_at]
    · rw [upR_ne z, upR_ne z]
      by_cases z2 : a = 12
      · subst z2; rw [upR_at, upR_at]
      · rw [upR_ne z2, upR_ne z, upR_ne z2, upR_ne z2]
theorem m_206 {B : Mem} (hR : RC C B np nd nb ln ds) (hh : ∀ d, d < nd → h d < nb) {G : Row} (hM : HM np nb G (B 12) 704) (hV : HV C np nd nb ds G) {a : Nat → Nat} (ha : ∀ d, d < nd → a d ≤ 99) (h15 : ∀ d, d < nd → B 15 d = nI (h d)) (hS : ∀ d, d < nd → B 14 (h d) = if G (11 * h d + 1) = 2 then nI (a d) else -4) : ∀ (m i t s : Nat), i + m = nd → m < t → (∀ d, d < i → G (11 * h d + 1) = 2 ∧ sRd C G (h d) (G (11 * h d + 6)) = w) → ∃ r, pX10_dealsSum_206 fu t w (nI s) (nI i) B = some (r, B) ∧ ((FIN C nd h w G ∧ r = nI (s + sumF a m i)) ∨ (¬ FIN C nd h w G ∧ r = -4)) := by
  have hn := hR.1
  intro m
  induction m with
  | zero =>
    intro i t s hi ht hD
    obtain ⟨t, rfl⟩ : ∃ q, t = q + 1 := ⟨t - 1, by omega⟩
    refine ⟨nI s, ?_, Or.inl ⟨fun d hd => hD d (by omega), rfl⟩⟩
    show pX10_dealsSum_206b fu w (nI s) (nI i) B _ = _
    unfold pX10_dealsSum_206b
    rw [hR.2.2.1.2.1, if_pos ((nI_le_iff (by omega) (by omega)).mpr (by omega))]
  | succ m ih =>
    intro i t s hi ht hD
    obtain ⟨t, rfl⟩ : ∃ q, t = q + 1 := ⟨t - 1, by omega⟩
    have hd : i < nd := by omega
    have hb := hh i hd
    have h99 := ha i hd
    show ∃ r, pX10_dealsSum_206b fu w (nI s) (nI i) B _ = _ ∧ _
    unfold pX10_dealsSum_206b
    rw [hR.2.2.1.2.1, if_neg (fun q => by have := (nI_le_iff (by omega) (by omega)).mp q; omega), ld_nI (by omega) (by decide), h15 i hd, ld_nI (by omega) (by decide), hS i hd, ld_nI (by omega) (by decide), h15 i hd]
    by_cases q : G (11 * h i + 1) = 2
    · rw [if_pos q, if_neg (nI_pos (by omega))]
      obtain ⟨-, dd, p, hdd, -, -, -, h5, -⟩ := bST_of hV hb q
      have er : pX10_read fu 704 (nI (h i)) B = _ := m_read (base := 704) hR (by decide) hb hM hdd h5
      rw [er, bI_some]
      by_cases q2 : sRd C G (h i) (G (11 * h i + 6)) = w
      · rw [if_pos q2, ld_nI (by omega) (by decide), h15 i hd, ld_nI (by omega) (by decide), hS i hd, if_pos q, nI_1, nI_add, sumF_s, ← Nat.add_assoc]
        refine ih (i + 1) t (s + a i) (by omega) (by omega) (fun d hd' => ?_)
        by_cases e : d = i
        · subst e; exact ⟨q, q2⟩
        · exact hD d (by omega)
      · rw [if_neg q2]
        exact ⟨-4, rfl, Or.inr ⟨fun z => q2 (z i hd).2, rfl⟩⟩
    · rw [if_neg q, if_pos (by decide)]
      exact ⟨-4, rfl, Or.inr ⟨fun z => q (z i hd).1, rfl⟩⟩
theorem hSum_eq : hSum C nb nd h F = sumF (fun d => aG C nb F (h d) 99) nd 0 := by
  unfold hSum gng aG
  exact sumF_swap (fun j d => if hrs C nb F j (11 * h d + 1) = 1 then 1 else 0) nd 0 99 0
theorem pB_up14 {B : Mem} (hB : pB B0 B) (g : Row) : pB B0 (upR B 14 g) := pB_tr hB (pB_hi (by omega))
theorem m_hand {B : Mem} {v : Nat} (hR : RC C B0 np nd nb ln ds) (hB : pB B0 B) (hh : ∀ d, d < nd → h d < nb) (hpl : ∀ d, d < nd → pl d < np ∧ C 10 d = nI (pl d)) (hM : HM np nb f0 (B0 12) 0) (hV : HV C np nd nb ds f0) (h15 : ∀ d, d < nd → B 15 d = nI (h d)) (hf : 1000 < fu) : ∃ r B', pX10_dealsSum fu (nI v) B = some (r, B') ∧ HRS C nb nd ds pl h (nI v) f0 r ∧ pB B0 B' ∧ B' 15 = B 15 ∧ B' 16 = B 16 := by
  have hn := hR.1
  have hRB := pB_RC hR hB
  obtain ⟨s1, g1, g2, g3, -⟩ := m_try (fu := fu) (f := f0) hRB (pB_HM (by omega) (by omega) hM hB) hV (fun j hj => rfl) hf
  have hB1 := pB_tr hB (pB_fr g2)
  have hRB1 := pB_RC hR hB1
  unfold pX10_dealsSum
  rw [g1, bV_some]
  have h15' : ∀ d, d < nd → upR B 12 s1 15 d = nI (h d) := fun d hd => by rw [upR_ne (by decide)]; exact h15 d hd
  have e := m_chk10 (fu := fu) (f0 := f0) hRB1 hh hpl (pB_HM (by omega) (by omega) hM hB1) h15' hf (nI v) (fun y10 M11 =>
      pX10_dealsSum_75 fu
        (fun y14 M15 =>
          pX10_dealsSum_106 fu
            (fun y17 M18 =>
              pX10_dealsSum_127 fu
                (fun y27 M28 =>
                  pX10_dealsSum_206 fu
                    fu y27 (0 : Int32) (0 : Int32) M28)
                fu y17 (1 : Int32) M18)
            fu y14 (0 : Int32) M15)
        fu y10 (0 : Int32) M11) nd 0 fu (by omega) (by omega) (fun d hd => absurd hd (by omega))
  have e0 : ∀ K', pX10_dealsSum_10 fu K' fu (nI v) 0 (upR B 12 s1) = pX10_dealsSum_10 fu K' fu (nI v) (nI 0) (upR B 12 s1) := fun _ => rfl
  rw [e0]
  rcases e with ⟨hO, e⟩ | ⟨hno, e⟩
  · rw [e]
    obtain ⟨s2, f1, f2, f3⟩ := m_snd (fu := fu) (w := nI v) hh hpl hV hO (fun y14 M15 =>
          pX10_dealsSum_106 fu
            (fun y17 M18 =>
              pX10_dealsSum_127 fu
                (fun y27 M28 =>
                  pX10_dealsSum_206 fu
                    fu y27 (0 : Int32) (0 : Int32) M28)
                fu y17 (1 : Int32) M18)
            fu y14 (0 : Int32) M15) nd 0 fu (upR B 12 s1) hRB1 h15' (by rw [upR_at]; exact g3) (by omega) (by omega)
    have f1' : pX10_dealsSum_75 fu _ fu (nI v) 0 (upR B 12 s1) = _ := f1
    rw [upR_upR] at f1'
    rw [upR_at] at f2
    rw [f1']
    have hB2 : pB B0 (upR B 12 s2) := pB_tr hB (pB_fr (fr_tr g2 f2))
    obtain ⟨g, i1, i2⟩ := m_ini (fu := fu) (w := nI v) (fun y17 M18 =>
              pX10_dealsSum_127 fu
                (fun y27 M28 =>
                  pX10_dealsSum_206 fu
                    fu y27 (0 : Int32) (0 : Int32) M28)
                fu y17 (1 : Int32) M18) 5 0 fu (upR B 12 s2) (by omega) (by omega) (fun j hj => absurd hj (by omega))
    have i1' : pX10_dealsSum_106 fu _ fu (nI v) 0 (upR B 12 s2) = _ := i1
    rw [i1']
    have hB3 := pB_up14 hB2 g
    have hRB3 := pB_RC hR hB3
    have hVF := sH_v (w := nI v) hR hh hpl hV nd (Nat.le_refl nd) hO
    have hgo := sH_go (C := C) (w := nI v) hO
    obtain ⟨s3, g', j1, j2, j3, j4⟩ := m_127 (fu := fu) (w := nI v) hh hVF hgo hf (fun y27 M28 => pX10_dealsSum_206 fu fu y27 (0 : Int32) (0 : Int32) M28) 99 0 fu (upR (upR B 12 s2) 14 g) hRB3 (by rw [upR_ne (by decide), upR_at]; exact f3) (fun d hd => by
      have hb := hh d hd
      rw [upR_at, i2 _ (by omega)]
      unfold SAV
      rw [show hrs C nb (sH C h (nI v) f0 nd) 0 = sH C h (nI v) f0 nd from rfl, hgo d hd, if_neg (by decide)]) (by omega) (by omega)
    have j1' : pX10_dealsSum_127 fu _ fu (nI v) 1 (upR (upR B 12 s2) 14 g) = _ := j1
    rw [j1']
    rw [upR_ne (by decide), upR_at] at j2
    have hB4 : pB B0 (upR (upR (upR (upR B 12 s2) 14 g) 12 s3) 14 g') := pB_up14 (pB_tr hB3 (pB_fr (by rw [upR_ne (by decide), upR_at]; exact j2))) g'
    have hRB4 := pB_RC hR hB4
    obtain ⟨r, k1, k2⟩ := m_206 (fu := fu) (w := nI v) (h := h) (a := fun d => aG C nb (sH C h (nI v) f0 nd) (h d) 99) hRB4 hh (G := hrs C nb (sH C h (nI v) f0 nd) 99) (by rw [upR_ne (by decide), upR_at]; exact j3) (hrs_v hR hVF 99) (fun d _ => aG_le 99) (fun d hd => by rw [upR_ne (by decide), upR_ne (by decide), upR_ne (by decide), upR_ne (by decide)]; exact h15 d hd) (fun d hd => by rw [upR_at]; exact j4 d hd) nd 0 fu 0 (by omega) (by omega) (fun d hd => absurd hd (by omega))
    have k1' : pX10_dealsSum_206 fu fu (nI v) 0 0 (upR (upR (upR (upR B 12 s2) 14 g) 12 s3) 14 g') = _ := k1
    rw [Nat.zero_add, ← hSum_eq] at k2
    refine ⟨r, _, k1', ?_, hB4, ?_, ?_⟩
    · rcases k2 with ⟨z, rfl⟩ | ⟨z, rfl⟩
      · exact Or.inl ⟨⟨hO, z⟩, rfl⟩
      · exact Or.inr ⟨fun y => z y.2, rfl⟩
    · rw [upR_ne (by decide), upR_ne (by decide), upR_ne (by decide), upR_ne (by decide)]
    · rw [upR_ne (by decide), upR_ne (by decide), upR_ne (by decide), upR_ne (by decide)]
  · rw [e]
    exact ⟨-4, _, rfl, Or.inr ⟨fun z => hno z.1, rfl⟩, hB1, upR_ne (by decide), upR_ne (by decide)⟩
end DM
