/-! PURE: what an hour does to one beast's row; rows alike below 64 -/
def keepC (f f' : Row) (b : Nat) : Prop := ∀ c, c = 0 ∨ c = 5 ∨ c = 6 ∨ c = 9 ∨ c = 10 → f' (11 * b + c) = f (11 * b + c)
def grw (f f' : Row) (j : Nat) : Prop := f' j = f j ∨ f' j = f j + 1
def doR (f f' : Row) (b : Nat) : Prop := f' (11 * b + 1) = f (11 * b + 1) ∨ f' (11 * b + 1) = if f (11 * b + 1) = 1 then 2 else 0
section ST
variable {C M : Mem} {np nd nb b : Nat} {ln ds : Nat → Nat → Nat} {f : Row}
theorem st_114 (x g w : Int32) : (∀ c, c < 11 → c ≠ 1 → c ≠ 4 → sA114 f b x g w (11 * b + c) = f (11 * b + c)) ∧ doR f (sA114 f b x g w) b := by
  unfold sA114 sEnd doR
  split
  · exact ⟨fun c _ h1 _ => upd_ne (by omega), Or.inr (upd_at _ _ _)⟩
  · exact ⟨fun c _ _ h4 => upd_ne (by omega), Or.inl (upd_ne (by omega))⟩
theorem st_73 (x g kd w : Int32) : (∀ c, c < 11 → c ≠ 1 → c ≠ 4 → c ≠ 8 → sA73 C f b x g kd w (11 * b + c) = f (11 * b + c)) ∧ doR f (sA73 C f b x g kd w) b ∧ grw f (sA73 C f b x g kd w) (11 * b + 8) := by
  have h1 := st_114 (f := f) (b := b) x g w
  have h2 := st_114 (f := upd f (11 * b + 8) (f (11 * b + 8) + 1)) (b := b) x g (w + 2)
  have A : (∀ c, c < 11 → c ≠ 1 → c ≠ 4 → c ≠ 8 → sA114 f b x g w (11 * b + c) = f (11 * b + c)) ∧ doR f (sA114 f b x g w) b ∧ grw f (sA114 f b x g w) (11 * b + 8) := ⟨fun c h h' h'' _ => h1.1 c h h' h'', h1.2, Or.inl (h1.1 8 (by decide) (by decide) (by decide))⟩
  have B : (∀ c, c < 11 → c ≠ 1 → c ≠ 4 → c ≠ 8 → sA95 f b x g w (11 * b + c) = f (11 * b + c)) ∧ doR f (sA95 f b x g w) b ∧ grw f (sA95 f b x g w) (11 * b + 8) := by
    unfold sA95
    refine ⟨fun c h h' h'' h8 => (h2.1 c h h' h'').trans (upd_ne (by omega)), ?_, Or.inr ((h2.1 8 (by decide) (by decide) (by decide)).trans (upd_at _ _ _))⟩
    have := h2.2
    unfold doR at this ⊢
    rw [upd_ne (k := 11 * b + 8) (j := 11 * b + 1) (by omega)] at this
    exact this
  unfold sA73
  split
  · split
    · exact B
    · split
      · exact B
      · exact A
  · exact A
theorem st_arr (hb : b < 5) {x : Nat} (hx : x < 8) (g : Int32) : keepC f (sArr C f b (nI x) g) b ∧ doR f (sArr C f b (nI x) g) b ∧ grw f (sArr C f b (nI x) g) (11 * b + 7) ∧ grw f (sArr C f b (nI x) g) (11 * b + 8) := by
  have hi : ∀ c, c < 11 → c ≠ 2 → c ≠ 3 → sIn f b (nI x) (11 * b + c) = f (11 * b + c) := fun c _ h2 h3 => by
    unfold sIn; rw [upd_ne (by omega), upd_ne (by omega)]
  have ha : (∀ c, c < 11 → c ≠ 7 → sAte (sIn f b (nI x)) b (nI x) (11 * b + c) = sIn f b (nI x) (11 * b + c)) ∧ sAte (sIn f b (nI x)) b (nI x) (11 * b + 7) = sIn f b (nI x) (11 * b + 7) + 1 := by
    unfold sAte
    rw [show (55 : Int32) + nI x = nI (55 + x) from nI_add 55 x, rpu_nI (by omega) (by decide)]
    exact ⟨fun c hc h7 => by rw [upd_ne (by omega), upd_ne (by omega)], by rw [upd_at, upd_ne (by omega)]⟩
  have A : ∀ kd w, keepC f (sA73 C (sIn f b (nI x)) b (nI x) g kd w) b ∧ doR f (sA73 C (sIn f b (nI x)) b (nI x) g kd w) b ∧ grw f (sA73 C (sIn f b (nI x)) b (nI x) g kd w) (11 * b + 7) ∧ grw f (sA73 C (sIn f b (nI x)) b (nI x) g kd w) (11 * b + 8) := fun kd w => by
    obtain ⟨h1, h2, h3⟩ := st_73 (C := C) (f := sIn f b (nI x)) (b := b) (nI x) g kd w
    refine ⟨fun c hc => (h1 c (by omega) (by omega) (by omega) (by omega)).trans (hi c (by omega) (by omega) (by omega)), ?_, Or.inl ((h1 7 (by decide) (by decide) (by decide) (by decide)).trans (hi 7 (by decide) (by decide) (by decide))), ?_⟩
    · unfold doR at h2 ⊢; rw [hi 1 (by decide) (by decide) (by decide)] at h2; exact h2
    · unfold grw at h3 ⊢; rw [hi 8 (by decide) (by decide) (by decide)] at h3; exact h3
  have B : ∀ kd w, keepC f (sA73 C (sAte (sIn f b (nI x)) b (nI x)) b (nI x) g kd w) b ∧ doR f (sA73 C (sAte (sIn f b (nI x)) b (nI x)) b (nI x) g kd w) b ∧ grw f (sA73 C (sAte (sIn f b (nI x)) b (nI x)) b (nI x) g kd w) (11 * b + 7) ∧ grw f (sA73 C (sAte (sIn f b (nI x)) b (nI x)) b (nI x) g kd w) (11 * b + 8) := fun kd w => by
    obtain ⟨h1, h2, h3⟩ := st_73 (C := C) (f := sAte (sIn f b (nI x)) b (nI x)) (b := b) (nI x) g kd w
    refine ⟨fun c hc => ((h1 c (by omega) (by omega) (by omega) (by omega)).trans (ha.1 c (by omega) (by omega))).trans (hi c (by omega) (by omega) (by omega)), ?_, Or.inr (((h1 7 (by decide) (by decide) (by decide) (by decide)).trans ha.2).trans (by rw [hi 7 (by decide) (by decide) (by decide)])), ?_⟩
    · unfold doR at h2 ⊢; rw [ha.1 1 (by decide) (by decide), hi 1 (by decide) (by decide) (by decide)] at h2; exact h2
    · unfold grw at h3 ⊢; rw [ha.1 8 (by decide) (by decide), hi 8 (by decide) (by decide) (by decide)] at h3; exact h3
  unfold sArr
  split
  · exact A _ _
  · split
    · exact A _ _
    · exact B _ _
def ST4 (f f' : Row) (b : Nat) : Prop := keepC f f' b ∧ doR f f' b ∧ grw f f' (11 * b + 7) ∧ grw f f' (11 * b + 8)
theorem ST4_of {f0 : Row} (h : ST4 f0 f b) {f1 : Row} (he : ∀ c, c < 11 → c ≠ 3 → c ≠ 4 → f0 (11 * b + c) = f1 (11 * b + c)) : ST4 f1 f b := by
  obtain ⟨h1, h2, h3, h4⟩ := h
  refine ⟨fun c hc => (h1 c hc).trans (he c (by omega) (by omega) (by omega)), ?_, ?_, ?_⟩
  · unfold doR at h2 ⊢; rw [he 1 (by decide) (by decide) (by decide)] at h2; exact h2
  · unfold grw at h3 ⊢; rw [he 7 (by decide) (by decide) (by decide)] at h3; exact h3
  · unfold grw at h4 ⊢; rw [he 8 (by decide) (by decide) (by decide)] at h4; exact h4
theorem ST4_rf : ST4 f f b := ⟨fun _ _ => rfl, Or.inl rfl, Or.inl rfl, Or.inl rfl⟩
theorem st_101 (hb : b < 5) {x : Nat} (hx : x < 8) (h3 : f (11 * b + 3) = nI x) (g l : Int32) : ST4 f (sM101 C f b g l) b := by
  have he : ∀ c, c < 11 → c ≠ 3 → c ≠ 4 → upd f (11 * b + 4) (l - 1) (11 * b + c) = f (11 * b + c) := fun c _ _ h4 => upd_ne (by omega)
  unfold sM101
  rw [upd_ne (j := 11 * b + 3) (by omega), h3]
  split
  · exact ST4_of ST4_rf he
  · exact ST4_of (st_arr hb hx g) he
theorem st_move (hR : RC C M np nd nb ln ds) (hb : b < nb) (hU : bUW C np nd ds f b) : ST4 f (sMove C f b) b := by
  have hn := hR.1
  obtain ⟨hG, g, s, hg, hs, hg0, h10, h2, hpl⟩ := hU
  unfold sMove
  rcases hpl with ⟨h3, hfin, wt, hw, h4⟩ | ⟨t, l, ht, h3, hfin, hl, hl2, h4⟩
  · rw [if_pos h3]
    split
    · rw [h2, h10]
      by_cases hag : s = g
      · subst hag
        rw [if_pos rfl]
        unfold sEnd
        exact ⟨fun c hc => upd_ne (by omega), Or.inr (upd_at _ _ _), Or.inl (upd_ne (by omega)), Or.inl (upd_ne (by omega))⟩
      · have hne : ¬ nI s = nI g := fun z => hag ((nI_eq_iff (by omega) (by omega)).mp z)
        rw [if_neg hne]
        obtain ⟨u, hu, h8, hl, he, -⟩ := hR.2.2.2.2.1 s g hs hg hag hfin
        have hhop : cHop C (nI s) (nI g) = nI u := by unfold cHop; rw [ix8', rat_nI (by omega) (by decide), h8]
        rw [hhop]
        exact ST4_of (st_101 (by omega) (show u < 8 by omega) (upd_at _ _ _) _ _) (fun c _ h3 _ => upd_ne (by omega))
    · exact ST4_of ST4_rf (f0 := upd f (11 * b + 4) (f (11 * b + 4) - 1)) (fun c _ _ h4 => upd_ne (by omega))
  · rw [if_neg (by rw [h3]; exact nI_ne4 (by omega))]
    exact st_101 (by omega) (show t < 8 by omega) h3 _ _
/-- what becomes of one beast in an hour -/
def STP (f f' : Row) (b : Nat) : Prop := keepC f f' b ∧ (f' (11 * b + 1) = f (11 * b + 1) ∨ (f (11 * b + 1) = 1 ∧ f' (11 * b + 1) = 2) ∨ (f (11 * b + 1) = 3 ∧ f' (11 * b + 1) = 0)) ∧ grw f f' (11 * b + 7) ∧ grw f f' (11 * b + 8) ∧ (f (11 * b + 1) ≠ 1 → f (11 * b + 1) ≠ 3 → ∀ c, c < 11 → f' (11 * b + c) = f (11 * b + c))
theorem STP_same {f' : Row} (h : ∀ c, c < 11 → f' (11 * b + c) = f (11 * b + c)) : STP f f' b := ⟨fun c hc => h c (by omega), Or.inl (h 1 (by decide)), Or.inl (h 7 (by decide)), Or.inl (h 8 (by decide)), fun _ _ => h⟩
theorem STP_l {f1 f2 : Row} (h : STP f1 f2 b) (he : ∀ c, c < 11 → f1 (11 * b + c) = f (11 * b + c)) : STP f f2 b := by
  unfold STP keepC grw at *
  rw [he 1 (by decide), he 7 (by decide), he 8 (by decide)] at h
  exact ⟨fun c hc => (h.1 c hc).trans (he c (by omega)), h.2.1, h.2.2.1, h.2.2.2.1, fun p q c hc => (h.2.2.2.2 p q c hc).trans (he c hc)⟩
theorem STP_r {f1 f2 : Row} (h : STP f f1 b) (he : ∀ c, c < 11 → f2 (11 * b + c) = f1 (11 * b + c)) : STP f f2 b := by
  unfold STP keepC grw at *
  rw [he 1 (by decide), he 7 (by decide), he 8 (by decide)]
  exact ⟨fun c hc => (he c (by omega)).trans (h.1 c hc), h.2.1, h.2.2.1, h.2.2.2.1, fun p q c hc => (he c hc).trans (h.2.2.2.2 p q c hc)⟩
theorem bUW_of (hV : HV C np nd nb ds f) (hb : b < nb) (h : f (11 * b + 1) = 1 ∨ f (11 * b + 1) = 3) : bUW C np nd ds f b := by
  rcases hV.1 b hb with z | z | z
  · have := z.1; rw [this] at h; exact absurd h (by decide)
  · have := z.1; rw [this] at h; exact absurd h (by decide)
  · exact z
theorem st_turn (hR : RC C M np nd nb ln ds) (hb : b < nb) (hV : HV C np nd nb ds f) (bal : Int32) : STP f (sTurn C bal b f) b := by
  unfold sTurn
  split
  · exact STP_same (fun _ _ => rfl)
  · split
    · rename_i h1
      obtain ⟨g1, g2, g3, g4⟩ := st_move hR hb (bUW_of hV hb h1)
      refine ⟨g1, ?_, g3, g4, fun p q => absurd h1 (fun z => z.elim p q)⟩
      unfold doR at g2
      rcases h1 with h1 | h1
      · rw [h1] at g2 ⊢; rw [if_pos rfl] at g2
        exact g2.elim Or.inl (fun z => Or.inr (Or.inl ⟨rfl, z⟩))
      · rw [h1] at g2 ⊢; rw [if_neg (by decide)] at g2
        exact g2.elim Or.inl (fun z => Or.inr (Or.inr ⟨rfl, z⟩))
    · exact STP_same (fun _ _ => rfl)
theorem oth_turn {i : Nat} (hR : RC C M np nd nb ln ds) (hi : i < nb) (hb : b < nb) (hne : b ≠ i) (hV : HV C np nd nb ds f) (bal : Int32) : ∀ c, c < 11 → sTurn C bal i f (11 * b + c) = f (11 * b + c) := by
  have hn := hR.1
  intro c hc
  unfold sTurn
  split
  · rfl
  · split
    · rename_i h1
      exact (v_move hR hi hV.2 (bUW_of hV hi h1)).2.1 _ (by omega) (by omega)
    · rfl
theorem it_same (hR : RC C M np nd nb ln ds) (hb : b < nb) (bal : Int32) : ∀ m i (f : Row), HV C np nd nb ds f → i + m ≤ nb → b < i ∨ i + m ≤ b → ∀ c, c < 11 → itr (sTurn C bal) m i f (11 * b + c) = f (11 * b + c) := by
  intro m
  induction m with
  | zero => intro i f _ _ _ c _; rfl
  | succ m ih =>
    intro i f hV hi ho c hc
    show itr (sTurn C bal) m (i + 1) (sTurn C bal i f) (11 * b + c) = _
    rw [ih (i + 1) _ (v_turn hR (by omega) hV bal) (by omega) (by omega) c hc, oth_turn hR (by omega) hb (by omega) hV bal c hc]
theorem it_stp (hR : RC C M np nd nb ln ds) (hb : b < nb) (bal : Int32) : ∀ m i (f : Row), HV C np nd nb ds f → i + m ≤ nb → i ≤ b → b < i + m → STP f (itr (sTurn C bal) m i f) b := by
  intro m
  induction m with
  | zero => intro i f _ _ h1 h2; omega
  | succ m ih =>
    intro i f hV hi h1 h2
    show STP f (itr (sTurn C bal) m (i + 1) (sTurn C bal i f)) b
    have hV' := v_turn hR (show i < nb by omega) hV bal
    by_cases e : i = b
    · subst e
      exact STP_r (st_turn hR hb hV bal) (it_same hR hb bal m (i + 1) _ hV' (by omega) (by omega))
    · exact STP_l (ih (i + 1) _ hV' (by omega) (by omega) (by omega)) (oth_turn hR (by omega) hb (Ne.symm e) hV bal)
theorem v_itr (hR : RC C M np nd nb ln ds) (bal : Int32) : ∀ m i (f : Row), HV C np nd nb ds f → i + m ≤ nb → HV C np nd nb ds (itr (sTurn C bal) m i f) := by
  intro m
  induction m with
  | zero => intro i f h _; exact h
  | succ m ih => intro i f h hi; exact ih (i + 1) _ (v_turn hR (by omega) h bal) (by omega)
theorem v_hour (hR : RC C M np nd nb ln ds) (hV : HV C np nd nb ds f) (bal : Int32) : HV C np nd nb ds (sHour C nb bal f) := by
  have hn := hR.1
  exact v_63 (by omega) (by omega) (v_itr hR bal nb 0 f hV (by omega))
theorem st_hour (hR : RC C M np nd nb ln ds) (hb : b < nb) (hV : HV C np nd nb ds f) (bal : Int32) : STP f (sHour C nb bal f) b := by
  have hn := hR.1
  exact STP_r (it_stp hR hb bal nb 0 f hV (by omega) (by omega) (by omega)) (fun c hc => upd_ne (by omega))
end ST
/-! rows alike below 64 -/
def nm (f : Row) : Row := fun j => if j < 64 then f j else 0
section NM
variable {C : Mem} {nb b : Nat} {f : Row}
theorem nm_at {j : Nat} (h : j < 64) : nm f j = f j := if_pos h
theorem nm_upd {j : Nat} (h : j < 64) (v : Int32) : upd (nm f) j v = nm (upd f j v) := by
  funext k
  unfold nm
  by_cases e : k = j
  · subst e; rw [upd_at, if_pos h, upd_at]
  · rw [upd_ne e, upd_ne e]
theorem nm_rat (i : Int32) : rat (nm f) 64 i = rat f 64 i := by
  by_cases h : inR i 64
  · obtain ⟨j, hj, rfl⟩ := of_inR h (by decide)
    rw [rat_nI hj (by decide), rat_nI hj (by decide), nm_at hj]
  · unfold rat; rw [if_neg h, if_neg h]
theorem nm_rpu (i v : Int32) : rpu (nm f) 64 i v = nm (rpu f 64 i v) := by
  by_cases h : inR i 64
  · obtain ⟨j, hj, rfl⟩ := of_inR h (by decide)
    rw [rpu_nI hj (by decide), rpu_nI hj (by decide), nm_upd hj]
  · unfold rpu; rw [if_neg h, if_neg h]
theorem nm_end (hb : b < 5) : sEnd (nm f) b = nm (sEnd f b) := by
  unfold sEnd; rw [nm_at (by omega), nm_upd (by omega)]
theorem nm_114 (hb : b < 5) (x g w : Int32) : sA114 (nm f) b x g w = nm (sA114 f b x g w) := by
  unfold sA114; rw [nm_end hb, nm_upd (by omega)]; split <;> rfl
theorem nm_95 (hb : b < 5) (x g w : Int32) : sA95 (nm f) b x g w = nm (sA95 f b x g w) := by
  unfold sA95; rw [nm_at (by omega), nm_upd (by omega), nm_114 hb]
theorem nm_73 (hb : b < 5) (x g kd w : Int32) : sA73 C (nm f) b x g kd w = nm (sA73 C f b x g kd w) := by
  unfold sA73; rw [nm_95 hb, nm_114 hb]
  split
  · split
    · rfl
    · split <;> rfl
  · rfl
theorem nm_ate (hb : b < 5) (x : Int32) : sAte (nm f) b x = nm (sAte f b x) := by
  unfold sAte; rw [nm_rat, nm_rpu, nm_at (by omega), nm_upd (by omega)]
theorem nm_in (hb : b < 5) (x : Int32) : sIn (nm f) b x = nm (sIn f b x) := by
  unfold sIn; rw [nm_upd (by omega), nm_upd (by omega)]
theorem nm_arr (hb : b < 5) (x g : Int32) : sArr C (nm f) b x g = nm (sArr C f b x g) := by
  unfold sArr; rw [nm_in hb, nm_rat, nm_ate hb, nm_73 hb, nm_73 hb]
  split
  · rfl
  · split <;> rfl
theorem nm_101 (hb : b < 5) (g l : Int32) : sM101 C (nm f) b g l = nm (sM101 C f b g l) := by
  unfold sM101; rw [nm_upd (by omega), nm_at (by omega), nm_arr hb]; split <;> rfl
theorem nm_move (hb : b < 5) : sMove C (nm f) b = nm (sMove C f b) := by
  unfold sMove
  rw [nm_at (by omega), nm_at (by omega), nm_at (by omega), nm_at (by omega), nm_end hb, nm_upd (by omega), nm_upd (by omega), nm_101 hb, nm_101 hb]
  split
  · split
    · split <;> rfl
    · rfl
  · rfl
theorem nm_turn (hb : b < 5) (bal : Int32) : sTurn C bal b (nm f) = nm (sTurn C bal b f) := by
  unfold sTurn; rw [nm_at (by omega), nm_move hb]
  split
  · rfl
  · split <;> rfl
theorem nm_itr (bal : Int32) : ∀ m i (f : Row), i + m ≤ 5 → itr (sTurn C bal) m i (nm f) = nm (itr (sTurn C bal) m i f) := by
  intro m
  induction m with
  | zero => intro i f _; rfl
  | succ m ih =>
    intro i f h
    show itr (sTurn C bal) m (i + 1) (sTurn C bal i (nm f)) = _
    rw [nm_turn (by omega), ih (i + 1) _ (by omega)]
    rfl
theorem nm_hour (hn : nb ≤ 5) (bal : Int32) : sHour C nb bal (nm f) = nm (sHour C nb bal f) := by
  unfold sHour; rw [nm_itr bal nb 0 f (by omega), nm_at (by decide), nm_upd (by decide)]
theorem nm_eq {f f' : Row} (h : ∀ j, j < 64 → f' j = f j) : nm f' = nm f := by
  funext j; unfold nm; split
  · exact h j ‹_›
  · rfl
theorem nm_of {f f' : Row} (h : nm f' = nm f) : ∀ j, j < 64 → f' j = f j := fun j hj => by
  rw [← nm_at (f := f') hj, h, nm_at hj]
theorem hour_cong {f f' : Row} (hn : nb ≤ 5) (bal : Int32) (h : ∀ j, j < 64 → f' j = f j) : ∀ j, j < 64 → sHour C nb bal f' j = sHour C nb bal f j :=
  nm_of (by rw [← nm_hour hn, nm_eq h, nm_hour hn])
end NM
