/-! PURE: an hour keeps a herd as a herd can stand -/
/-- only beast b and the carrots have changed -/
def frB (b : Nat) (f f' : Row) : Prop := ∀ j, j < 11 * b ∨ 11 * b + 11 ≤ j → j < 55 ∨ 63 ≤ j → f' j = f j
theorem frB_rf (b : Nat) (f : Row) : frB b f f := fun _ _ _ => rfl
theorem frB_tr {b : Nat} {f f1 f2 : Row} (h1 : frB b f f1) (h2 : frB b f1 f2) : frB b f f2 := fun j a c => (h2 j a c).trans (h1 j a c)
theorem frB_upd {b c : Nat} {f : Row} {v : Int32} (hc : c < 11) : frB b f (upd f (11 * b + c) v) := fun j h1 _ => upd_ne (by omega)
theorem frB_car {b x : Nat} {f : Row} {v : Int32} (hx : x < 8) : frB b f (upd f (55 + x) v) := fun j _ h2 => upd_ne (by omega)
/-- carrots as they can be -/
def CAR (np : Nat) (f : Row) : Prop := ∀ x, x < np → ∃ c, c ≤ 9 ∧ f (55 + x) = nI c
theorem CAR_upd {np b c : Nat} {f : Row} {v : Int32} (h : CAR np f) (hb : b < 5) (hc : c < 11) : CAR np (upd f (11 * b + c) v) := fun x hx => by
  rw [upd_ne (by omega)]; exact h x hx
section HVs
variable {C : Mem} {np nd nb b : Nat} {ln ds : Nat → Nat → Nat} {f : Row}
theorem v_114 (hp : np ≤ 8) (hb : b < 5) (hC0 : ∀ d, d < nd → ∃ p, p < np ∧ C 10 d = nI p) (hc : CAR np f) {x g w : Nat} (hx : x < np) (hg : g < np) (h2 : f (11 * b + 2) = nI x) (h3 : f (11 * b + 3) = -4) (h4 : f (11 * b + 4) = 0) (h10 : f (11 * b + 10) = nI g) (hG : GD C nd f b) (hfin : ds x g < 9999) (hg0 : ds g 0 < 9999) (hw : w ≤ 3) : BV C np nd ds (sA114 f b (nI x) (f (11 * b + 10)) (nI w)) b ∧ frB b f (sA114 f b (nI x) (f (11 * b + 10)) (nI w)) ∧ CAR np (sA114 f b (nI x) (f (11 * b + 10)) (nI w)) := by
  unfold sA114
  by_cases h : nI x = f (11 * b + 10)
  · rw [if_pos h]
    refine ⟨?_, frB_upd (by decide), CAR_upd hc hb (by decide)⟩
    unfold BV sEnd
    rcases hG with ⟨h1, d, hd, h5, h10'⟩ | ⟨h1, h5, h10'⟩
    · obtain ⟨p, hp', hCp⟩ := hC0 d hd
      refine Or.inr (Or.inl ?_)
      unfold bST
      rw [h1, if_pos rfl, upd_at]
      have exg : x = g := (nI_eq_iff (by omega) (by omega)).mp (h.trans h10)
      have epg : p = g := (nI_eq_iff (by omega) (by omega)).mp (hCp.symm.trans (h10'.symm.trans h10))
      refine ⟨rfl, d, p, hd, hp', by rw [epg]; exact hg0, hCp, ?_, ?_, ?_, ?_, ?_⟩
      · rw [upd_ne (by omega)]; exact h5
      · rw [upd_ne (by omega), h2, h, h10', hCp]
      · rw [upd_ne (by omega)]; exact h3
      · rw [upd_ne (by omega)]; exact h4
      · rw [upd_ne (by omega), h10', hCp]
    · refine Or.inl ?_
      unfold bFR
      rw [h1, if_neg (by decide), upd_at]
      refine ⟨rfl, ?_, ?_, ?_, ?_⟩
      · rw [upd_ne (by omega), h2, h, h10']
      · rw [upd_ne (by omega)]; exact h3
      · rw [upd_ne (by omega)]; exact h4
      · rw [upd_ne (by omega)]; exact h5
  · rw [if_neg h]
    refine ⟨Or.inr (Or.inr ⟨GD_upd hG (by decide) (by decide) (by decide) (by decide), g, x, hg, hx, hg0, ?_, ?_, Or.inl ⟨?_, hfin, w, hw, upd_at _ _ _⟩⟩), frB_upd (by decide), CAR_upd hc hb (by decide)⟩
    · rw [upd_ne (by omega)]; exact h10
    · rw [upd_ne (by omega)]; exact h2
    · rw [upd_ne (by omega)]; exact h3
theorem v_95 (hp : np ≤ 8) (hb : b < 5) (hC0 : ∀ d, d < nd → ∃ p, p < np ∧ C 10 d = nI p) (hc : CAR np f) {x g w : Nat} (hx : x < np) (hg : g < np) (h2 : f (11 * b + 2) = nI x) (h3 : f (11 * b + 3) = -4) (h4 : f (11 * b + 4) = 0) (h10 : f (11 * b + 10) = nI g) (hG : GD C nd f b) (hfin : ds x g < 9999) (hg0 : ds g 0 < 9999) (hw : w ≤ 1) : BV C np nd ds (sA95 f b (nI x) (f (11 * b + 10)) (nI w)) b ∧ frB b f (sA95 f b (nI x) (f (11 * b + 10)) (nI w)) ∧ CAR np (sA95 f b (nI x) (f (11 * b + 10)) (nI w)) := by
  unfold sA95
  have e : nI w + 2 = nI (w + 2) := nI_add w 2
  have hA := v_114 (f := upd f (11 * b + 8) (f (11 * b + 8) + 1)) (w := w + 2) hp hb hC0 (CAR_upd hc hb (by decide)) hx hg (by rw [upd_ne (by omega)]; exact h2) (by rw [upd_ne (by omega)]; exact h3) (by rw [upd_ne (by omega)]; exact h4) (by rw [upd_ne (by omega)]; exact h10) (GD_upd hG (by decide) (by decide) (by decide) (by decide)) hfin hg0 (by omega)
  rw [upd_ne (j := 11 * b + 10) (by omega)] at hA
  rw [e]
  exact ⟨hA.1, frB_tr (frB_upd (by decide)) hA.2.1, hA.2.2⟩
theorem v_73 (hp : np ≤ 8) (hb : b < 5) (hC0 : ∀ d, d < nd → ∃ p, p < np ∧ C 10 d = nI p) (hc : CAR np f) {x g w : Nat} (hx : x < np) (hg : g < np) (h2 : f (11 * b + 2) = nI x) (h3 : f (11 * b + 3) = -4) (h4 : f (11 * b + 4) = 0) (h10 : f (11 * b + 10) = nI g) (hG : GD C nd f b) (hfin : ds x g < 9999) (hg0 : ds g 0 < 9999) (hw : w ≤ 1) (kd : Int32) : BV C np nd ds (sA73 C f b (nI x) (f (11 * b + 10)) kd (nI w)) b ∧ frB b f (sA73 C f b (nI x) (f (11 * b + 10)) kd (nI w)) ∧ CAR np (sA73 C f b (nI x) (f (11 * b + 10)) kd (nI w)) := by
  have A := v_114 (w := w) hp hb hC0 hc hx hg h2 h3 h4 h10 hG hfin hg0 (by omega)
  have B := v_95 hp hb hC0 hc hx hg h2 h3 h4 h10 hG hfin hg0 hw
  unfold sA73
  split
  · split
    · exact B
    · split
      · exact B
      · exact A
  · exact A
theorem v_arr (hp : np ≤ 8) (hb : b < 5) (hC0 : ∀ d, d < nd → ∃ p, p < np ∧ C 10 d = nI p) (hc : CAR np f) {x g : Nat} (hx : x < np) (hg : g < np) (h4 : f (11 * b + 4) = 0) (h10 : f (11 * b + 10) = nI g) (hG : GD C nd f b) (hfin : ds x g < 9999) (hg0 : ds g 0 < 9999) : BV C np nd ds (sArr C f b (nI x) (f (11 * b + 10))) b ∧ frB b f (sArr C f b (nI x) (f (11 * b + 10))) ∧ CAR np (sArr C f b (nI x) (f (11 * b + 10))) := by
  have g2 : sIn f b (nI x) (11 * b + 2) = nI x := by unfold sIn; rw [upd_ne (by omega), upd_at]
  have g3 : sIn f b (nI x) (11 * b + 3) = -4 := by unfold sIn; rw [upd_at]
  have g4 : sIn f b (nI x) (11 * b + 4) = 0 := by unfold sIn; rw [upd_ne (by omega), upd_ne (by omega)]; exact h4
  have g10 : sIn f b (nI x) (11 * b + 10) = f (11 * b + 10) := by unfold sIn; rw [upd_ne (by omega), upd_ne (by omega)]
  have gG : GD C nd (sIn f b (nI x)) b := GD_upd (GD_upd hG (by decide) (by decide) (by decide) (by decide)) (by decide) (by decide) (by decide) (by decide)
  have gc : CAR np (sIn f b (nI x)) := CAR_upd (CAR_upd hc hb (by decide)) hb (by decide)
  have gf : frB b f (sIn f b (nI x)) := frB_tr (frB_upd (by decide)) (frB_upd (by decide))
  have hi55 : (55 : Int32) + nI x = nI (55 + x) := nI_add 55 x
  have hrat : rat (sIn f b (nI x)) 64 (55 + nI x) = sIn f b (nI x) (55 + x) := by rw [hi55, rat_nI (by omega) (by decide)]
  have A := v_73 (f := sIn f b (nI x)) (w := 0) hp hb hC0 gc hx hg g2 g3 g4 (g10.trans h10) gG hfin hg0 (by decide) (cKd C (nI b))
  rw [g10] at A
  have A' : BV C np nd ds (sA73 C (sIn f b (nI x)) b (nI x) (f (11 * b + 10)) (cKd C (nI b)) 0) b ∧ frB b f (sA73 C (sIn f b (nI x)) b (nI x) (f (11 * b + 10)) (cKd C (nI b)) 0) ∧ CAR np (sA73 C (sIn f b (nI x)) b (nI x) (f (11 * b + 10)) (cKd C (nI b)) 0) := ⟨A.1, frB_tr gf A.2.1, A.2.2⟩
  unfold sArr
  rw [hrat]
  by_cases q : sIn f b (nI x) (55 + x) ≤ 0
  · rw [if_pos q]; exact A'
  · rw [if_neg q]
    split
    · exact A'
    · obtain ⟨c, hc9, hcx⟩ := gc x hx
      have hc0 : 0 < c := by
        rcases Nat.eq_zero_or_pos c with e | e
        · rw [hcx, e] at q; exact absurd (by decide) q
        · exact e
      have hAte : sAte (sIn f b (nI x)) b (nI x) = upd (upd (sIn f b (nI x)) (55 + x) (sIn f b (nI x) (55 + x) - 1)) (11 * b + 7) (upd (sIn f b (nI x)) (55 + x) (sIn f b (nI x) (55 + x) - 1) (11 * b + 7) + 1) := by
        unfold sAte
        rw [hrat, hi55, rpu_nI (by omega) (by decide)]
      have t2 : sAte (sIn f b (nI x)) b (nI x) (11 * b + 2) = nI x := by rw [hAte, upd_ne (by omega), upd_ne (by omega)]; exact g2
      have t3 : sAte (sIn f b (nI x)) b (nI x) (11 * b + 3) = -4 := by rw [hAte, upd_ne (by omega), upd_ne (by omega)]; exact g3
      have t4 : sAte (sIn f b (nI x)) b (nI x) (11 * b + 4) = 0 := by rw [hAte, upd_ne (by omega), upd_ne (by omega)]; exact g4
      have t10 : sAte (sIn f b (nI x)) b (nI x) (11 * b + 10) = f (11 * b + 10) := by rw [hAte, upd_ne (by omega), upd_ne (by omega)]; exact g10
      have tG : GD C nd (sAte (sIn f b (nI x)) b (nI x)) b := by
        rw [hAte]
        refine GD_upd ?_ (by decide) (by decide) (by decide) (by decide)
        unfold GD at gG ⊢
        rw [upd_ne (j := 11 * b + 1) (by omega), upd_ne (j := 11 * b + 5) (by omega), upd_ne (j := 11 * b + 10) (by omega)]; exact gG
      have tc : CAR np (sAte (sIn f b (nI x)) b (nI x)) := by
        rw [hAte]
        refine CAR_upd (fun y hy => ?_) hb (by decide)
        by_cases e : y = x
        · subst e
          rw [upd_at, hcx]
          exact ⟨c - 1, by omega, by rw [show (1 : Int32) = nI 1 from rfl, pk_sub (by omega)]⟩
        · rw [upd_ne (by omega)]; exact gc y hy
      have tf : frB b f (sAte (sIn f b (nI x)) b (nI x)) := by
        rw [hAte]
        exact frB_tr (frB_tr gf (frB_car (by omega))) (frB_upd (by decide))
      have B := v_73 (f := sAte (sIn f b (nI x)) b (nI x)) (w := 1) hp hb hC0 tc hx hg t2 t3 t4 (t10.trans h10) tG hfin hg0 (by decide) (cKd C (nI b))
      rw [t10] at B
      exact ⟨B.1, frB_tr tf B.2.1, B.2.2⟩
theorem v_101 (hp : np ≤ 8) (hb : b < 5) (hC0 : ∀ d, d < nd → ∃ p, p < np ∧ C 10 d = nI p) (hc : CAR np f) {x g a l : Nat} (hx : x < np) (hg : g < np) (ha : a < np) (h2 : f (11 * b + 2) = nI a) (h3 : f (11 * b + 3) = nI x) (hl : 1 ≤ l) (hl2 : l ≤ 27) (h10 : f (11 * b + 10) = nI g) (hG : GD C nd f b) (hfin : ds x g < 9999) (hg0 : ds g 0 < 9999) : BV C np nd ds (sM101 C f b (f (11 * b + 10)) (nI l)) b ∧ frB b f (sM101 C f b (f (11 * b + 10)) (nI l)) ∧ CAR np (sM101 C f b (f (11 * b + 10)) (nI l)) := by
  have el : nI l - 1 = nI (l - 1) := by rw [show (1 : Int32) = nI 1 from rfl, pk_sub hl]
  unfold sM101
  by_cases h1 : l = 1
  · subst h1
    have e0 : nI 1 - 1 = (0 : Int32) := by decide
    rw [if_neg (by decide), e0, upd_ne (f := f) (j := 11 * b + 3) (by omega), h3]
    have A := v_arr (f := upd f (11 * b + 4) 0) hp hb hC0 (CAR_upd hc hb (by decide)) hx hg (upd_at _ _ _) (by rw [upd_ne (by omega)]; exact h10) (GD_upd hG (by decide) (by decide) (by decide) (by decide)) hfin hg0
    rw [upd_ne (j := 11 * b + 10) (by omega)] at A
    exact ⟨A.1, frB_tr (frB_upd (by decide)) A.2.1, A.2.2⟩
  · rw [if_pos (by rw [show (1 : Int32) = nI 1 from rfl]; exact (nI_lt_iff (by decide) (by omega)).mpr (by omega)), el]
    refine ⟨Or.inr (Or.inr ⟨GD_upd hG (by decide) (by decide) (by decide) (by decide), g, a, hg, ha, hg0, ?_, ?_, Or.inr ⟨x, l - 1, hx, ?_, hfin, by omega, by omega, upd_at _ _ _⟩⟩), frB_upd (by decide), CAR_upd hc hb (by decide)⟩
    · rw [upd_ne (by omega)]; exact h10
    · rw [upd_ne (by omega)]; exact h2
    · rw [upd_ne (by omega)]; exact h3
end HVs
section HVm
variable {C M : Mem} {np nd nb fu base b : Nat} {ln ds : Nat → Nat → Nat} {f : Row}
theorem RC_doors (hR : RC C M np nd nb ln ds) : ∀ d, d < nd → ∃ p, p < np ∧ C 10 d = nI p := fun d hd => by
  obtain ⟨p, kd, q1, -, q2, -⟩ := hR.2.2.2.2.2.2.2.1 d hd
  exact ⟨p, q1, q2⟩
theorem v_move (hR : RC C M np nd nb ln ds) (hb : b < nb) (hc : CAR np f) (hU : bUW C np nd ds f b) : BV C np nd ds (sMove C f b) b ∧ frB b f (sMove C f b) ∧ CAR np (sMove C f b) := by
  have hn := hR.1
  have hb5 : b < 5 := by omega
  have hC0 := RC_doors hR
  have hU' := hU
  obtain ⟨hG, g, a, hg, ha, hg0, h10, h2, hpl⟩ := hU
  rcases hpl with ⟨h3, hfin, wt, hw, h4⟩ | ⟨t, l, ht, h3, hfin, hl, hl2, h4⟩
  · unfold sMove
    rw [h3, if_pos rfl, h4]
    by_cases hw0 : wt = 0
    · subst hw0
      rw [if_pos (by decide), h2, h10]
      by_cases hag : a = g
      · subst hag
        rw [if_pos rfl]
        have A := v_114 (w := 0) (np := np) (ds := ds) (by omega) hb5 hC0 hc ha ha h2 h3 h4 h10 hG hfin hg0 (by decide)
        unfold sA114 at A
        rw [if_pos h10.symm] at A
        exact A
      · rw [if_neg (fun q => hag ((nI_eq_iff (by omega) (by omega)).mp q))]
        obtain ⟨u, hu, h8, hl, he, -⟩ := hR.2.2.2.2.1 a g ha hg hag hfin
        obtain ⟨q1, q2, q3, q4, q5, q6, q7⟩ := hR.2.2.2.1 a u ha hu
        obtain ⟨kd, pc, -, hp1, hp3, -, -, k3, k4⟩ := hR.2.2.2.2.2.2.2.2.1 b hb
        have hhop : cHop C (nI a) (nI g) = nI u := by unfold cHop; rw [ix8', rat_nI (by omega) (by decide), h8]
        have hlen : cLen C (nI a) (nI u) = nI (ln a u) := by unfold cLen; rw [ix8', rat_nI (by omega) (by decide), q4]
        have hpc : cPc C (nI b) = nI pc := by unfold cPc; rw [rat_nI hb5 (by decide), k3]
        have hlb : 1 ≤ ln a u * pc := Nat.mul_pos hl hp1
        have hlb2 : ln a u * pc ≤ 27 := Nat.le_trans (Nat.mul_le_mul q1 hp3) (by decide)
        rw [hhop, hlen, hpc, pk_mul]
        have A := v_101 (f := upd f (11 * b + 3) (nI u)) (ds := ds) (by omega) hb5 hC0 (CAR_upd hc hb5 (by decide)) hu hg ha (by rw [upd_ne (by omega)]; exact h2) (upd_at _ _ _) hlb hlb2 (by rw [upd_ne (by omega)]; exact h10) (GD_upd hG (by decide) (by decide) (by decide) (by decide)) (by omega) hg0
        rw [upd_ne (j := 11 * b + 10) (by omega), h10] at A
        exact ⟨A.1, frB_tr (frB_upd (by decide)) A.2.1, A.2.2⟩
    · rw [if_neg (fun q => hw0 ((nI_le0 (by omega)).mp q)), show (1 : Int32) = nI 1 from rfl, pk_sub (by omega)]
      refine ⟨Or.inr (Or.inr ⟨GD_upd hG (by decide) (by decide) (by decide) (by decide), g, a, hg, ha, hg0, ?_, ?_, Or.inl ⟨?_, hfin, wt - 1, by omega, upd_at _ _ _⟩⟩), frB_upd (by decide), CAR_upd hc hb5 (by decide)⟩
      · rw [upd_ne (by omega)]; exact h10
      · rw [upd_ne (by omega)]; exact h2
      · rw [upd_ne (by omega)]; exact h3
  · unfold sMove
    rw [if_neg (by rw [h3]; exact nI_ne4 (by omega)), h4]
    exact v_101 (by omega) hb5 hC0 hc ht hg ha h2 h3 hl hl2 h10 hG hfin hg0
theorem BV_fr {b' : Nat} {f' : Row} (hb' : b' < 5) (hne : b' ≠ b) (hb : b < 5) (h : frB b f f') (hv : BV C np nd ds f b') : BV C np nd ds f' b' := by
  have e : ∀ c, c < 11 → f' (11 * b' + c) = f (11 * b' + c) := fun c hc => h _ (by omega) (by omega)
  unfold BV bFR bST bUW GD bPL at hv ⊢
  rw [e 1 (by decide), e 2 (by decide), e 3 (by decide), e 4 (by decide), e 5 (by decide), e 10 (by decide)]
  exact hv
theorem v_turn (hR : RC C M np nd nb ln ds) (hb : b < nb) (hV : HV C np nd nb ds f) (bal : Int32) : HV C np nd nb ds (sTurn C bal b f) := by
  have hn := hR.1
  unfold sTurn
  split
  · exact hV
  · split
    · rename_i h1
      have hU : bUW C np nd ds f b := by
        rcases hV.1 b hb with q | q | q
        · rw [q.1] at h1; rcases h1 with h | h <;> exact absurd h (by decide)
        · rw [q.1] at h1; rcases h1 with h | h <;> exact absurd h (by decide)
        · exact q
      obtain ⟨A, B, D⟩ := v_move hR hb hV.2 hU
      refine ⟨fun b' hb' => ?_, D⟩
      by_cases e : b' = b
      · subst e; exact A
      · exact BV_fr (by omega) e (by omega) B (hV.1 b' hb')
    · exact hV
/-- an hour of all, in the reference; bal is the one that stays, st is its number there -/
theorem m_hour_2 (hB : base + 64 ≤ 768) (hf : 8 < fu) (bal st : Int32) (hbs : ∀ i, i < 5 → (nI i = bal ↔ nI i = st)) (c51 : Int32 → Mem → Res) : ∀ (m i t : Nat) (M : Mem) (f : Row), RC C M np nd nb ln ds → HM np nb f (M 12) base → HV C np nd nb ds f → i + m = nb → m < t → ∃ s', pX10_hour_2 fu c51 t (nI base) st (nI i) M = c51 (nI base) (upR M 12 s') ∧ HM np nb (itr (sTurn C bal) m i f) s' base ∧ HV C np nd nb ds (itr (sTurn C bal) m i f) ∧ fr base (M 12) s' := by
  intro m
  induction m with
  | zero =>
    intro i t M f hR hM hV hi ht
    have hn := hR.1
    obtain ⟨t, rfl⟩ : ∃ q, t = q + 1 := ⟨t - 1, by omega⟩
    refine ⟨M 12, ?_, hM, hV, fr_rf _ _⟩
    show pX10_hour_2b fu (nI base) st (nI i) M _ _ = _
    unfold pX10_hour_2b
    rw [hR.2.2.1.2.2, if_pos ((nI_le_iff (by omega) (by omega)).mpr (by omega)), upR_self]
  | succ m ih =>
    intro i t M f hR hM hV hi ht
    have hn := hR.1
    obtain ⟨t, rfl⟩ : ∃ q, t = q + 1 := ⟨t - 1, by omega⟩
    have hb : i < nb := by omega
    have hb5 : i < 5 := by omega
    have e1 : M 12 (base + (0 + i)) = f (11 * i + 1) := hM.1 i hb 1 (by decide) (by decide)
    have hV' := v_turn hR hb hV bal
    show ∃ s', pX10_hour_2b fu (nI base) st (nI i) M (pX10_hour_2 fu c51 t) c51 = _ ∧ HM np nb (itr (sTurn C bal) m (i + 1) (sTurn C bal i f)) s' base ∧ HV C np nd nb ds (itr (sTurn C bal) m (i + 1) (sTurn C bal i f)) ∧ _
    unfold pX10_hour_2b
    rw [hR.2.2.1.2.2, if_neg (fun q => by have := (nI_le_iff (by omega) (by omega)).mp q; omega)]
    by_cases hs : nI i = st
    · have hT : sTurn C bal i f = f := by unfold sTurn; rw [if_pos ((hbs i hb5).mpr hs)]
      rw [hT, if_pos hs]
      unfold pX10_hour_45
      rw [nI_1]
      exact ih (i + 1) t M f hR hM hV (by omega) (by omega)
    · have hs' : ¬ nI i = bal := fun q => hs ((hbs i hb5).mp q)
      rw [if_neg hs, m_ld0 hB hb5, e1]
      by_cases h1 : f (11 * i + 1) = 1 ∨ f (11 * i + 1) = 3
      · have hT : sTurn C bal i f = sMove C f i := by unfold sTurn; rw [if_neg hs', if_pos h1]
        rw [hT] at hV' ⊢
        have hU : bUW C np nd ds f i := by
          rcases hV.1 i hb with q | q | q
          · rw [q.1] at h1; rcases h1 with h | h <;> exact absurd h (by decide)
          · rw [q.1] at h1; rcases h1 with h | h <;> exact absurd h (by decide)
          · exact q
        obtain ⟨s1, a1, a2, a3⟩ := m_goesOn (fu := fu) hR hB hb hM hU hf
        obtain ⟨s', p1, p2, p3, p4⟩ := ih (i + 1) t (upR M 12 s1) (sMove C f i) (RC_up hR (by omega) s1) (by rw [upR_at]; exact a2) hV' (by omega) (by omega)
        rw [upR_at] at p4
        rw [upR_upR] at p1
        have h39 : pX10_hour_39 fu (nI base) st (nI i) M (pX10_hour_2 fu c51 t) = c51 (nI base) (upR M 12 s') := by
          unfold pX10_hour_39 pX10_hour_45
          rw [a1, bV_some, nI_1, p1]
        refine ⟨s', ?_, p2, p3, fr_tr a3 p4⟩
        by_cases h1a : f (11 * i + 1) = 1
        · rw [if_pos h1a, h39]
        · rw [if_neg h1a, m_ld0 hB hb5, e1, if_pos (by rcases h1 with h | h; exact absurd h h1a; exact h), h39]
      · have hT : sTurn C bal i f = f := by unfold sTurn; rw [if_neg hs', if_neg h1]
        rw [hT]
        rw [if_neg (fun q => h1 (Or.inl q)), m_ld0 hB hb5, e1, if_neg (fun q => h1 (Or.inr q))]
        unfold pX10_hour_45
        rw [nI_1]
        exact ih (i + 1) t M f hR hM hV (by omega) (by omega)
theorem v_63 {v : Int32} (hn : nb ≤ 5) (hp : np ≤ 8) (hV : HV C np nd nb ds f) : HV C np nd nb ds (upd f 63 v) := by
  refine ⟨fun b hb => ?_, fun x hx => by rw [upd_ne (by omega)]; exact hV.2 x hx⟩
  have e : ∀ c, c < 11 → upd f 63 v (11 * b + c) = f (11 * b + c) := fun c hc => upd_ne (by omega)
  have hv := hV.1 b hb
  unfold BV bFR bST bUW GD bPL at hv ⊢
  rw [e 1 (by decide), e 2 (by decide), e 3 (by decide), e 4 (by decide), e 5 (by decide), e 10 (by decide)]
  exact hv
theorem m_hour (hR : RC C M np nd nb ln ds) (hB : base + 64 ≤ 768) (hf : 8 < fu) (bal st : Int32) (hbs : ∀ i, i < 5 → (nI i = bal ↔ nI i = st)) (hM : HM np nb f (M 12) base) (hV : HV C np nd nb ds f) : ∃ s', pX10_hour fu (nI base) st M = some (0, upR M 12 s') ∧ HM np nb (sHour C nb bal f) s' base ∧ HV C np nd nb ds (sHour C nb bal f) ∧ fr base (M 12) s' := by
  have hn := hR.1
  unfold pX10_hour
  obtain ⟨s1, p1, p2, p3, p4⟩ := m_hour_2 (fu := fu) hB hf bal st hbs (fun y4 M5 => ld M5 12 768 (y4 + (63 : Int32)) fun v6 => sto M5 12 768 (y4 + (63 : Int32)) (v6 + (1 : Int32)) fun M7 => some (0, M7)) nb 0 fu M f hR hM hV (by omega) (by omega)
  have e63 : nI base + (63 : Int32) = nI (base + 63) := nI_add base 63
  rw [show (0 : Int32) = nI 0 from rfl] at p1 ⊢
  rw [p1]
  rw [e63, ld_nI (by omega) (by decide), sto_nI (by omega) (by decide), upR_at, upR_upR, p2.2.2.2]
  exact ⟨_, rfl, HM_hours (by omega) (by omega) p2 _, v_63 (by omega) (by omega) p3, fr_tr p4 (fr_upd (by decide))⟩
end HVm
