/-! PURE: write, wipe -/
theorem nar_ok : ∀ c, c < 127 → vp_nar .char ((nI c).toUInt32 % 65536).toInt32 = nI c ∧ vp_nar .byte (nI c).toInt8.toInt32 = nI c := by decide +kernel
theorem REL_txt {A B A' B' : Mem} (h : REL A B) (hA : ∀ k, k ≠ 1 → k ≠ 2 → A' k = A k) (hB : (∀ k, 1 ≤ k → k ≠ 13 → B' k = B k) ∧ ∀ j, j ≠ 22 → B' 0 j = B 0 j) (hT : TXT A' B') : REL A' B' := by
  obtain ⟨np, nd, nb, ln, ds, hR, hN, -, hP, hK⟩ := h
  have hn := hR.1
  have h10 : A' 10 = A 10 := hA 10 (by decide) (by decide)
  have hs : B' 12 = B 12 := hB.1 12 (by decide) (by decide)
  refine ⟨np, nd, nb, ln, ds, RC_cong hR (fun a h1 h2 => hA a (by omega) (by omega)) (fun a h1 h2 => hB.1 a h1 (by omega)) (hB.2 0 (by decide)) (hB.2 3 (by decide)) (hB.2 4 (by decide)) (hB.2 7 (by decide)), ?_, hT, ?_, ?_⟩
  · exact HMV_cong (by omega) (by omega) hN (fun j _ => by rw [hA 28 (by decide) (by decide)]) (fun j hj => by rw [hs]) h10
  · obtain ⟨m, t, h1, h2, h3, h4, h5, h6⟩ := hP
    refine ⟨m, t, h1, h2, by rw [hA 29 (by decide) (by decide)]; exact h3, by rw [hA 29 (by decide) (by decide)]; exact h4, by rw [hB.2 20 (by decide)]; exact h5, fun i hi => ?_⟩
    exact HMV_cong (by omega) (by omega) (h6 i hi) (fun j _ => by rw [hA _ (by omega) (by omega)]) (fun j hj => by rw [hs]) h10
  · obtain ⟨m, t, h1, h2, h3, h4, h5, h6⟩ := hK
    refine ⟨m, t, h1, h2, by rw [hA 47 (by decide) (by decide)]; exact h3, by rw [hA 47 (by decide) (by decide)]; exact h4, by rw [hB.2 21 (by decide)]; exact h5, fun i hi => ?_⟩
    exact HMV_cong (by omega) (by omega) (h6 i hi) (fun j _ => by rw [hA _ (by omega) (by omega)]) (fun j hj => by rw [hs]) h10
theorem a_wipe {A B : Mem} {fu : Nat} (h : REL A B) (hf : 1000 < fu) : AGREE (pX9_wipe fu A) (pX10_wipe fu B) := by
  have h' := h
  obtain ⟨np, nd, nb, ln, ds, -, -, ⟨n, hn, h1, h2, h3⟩, -⟩ := h'
  unfold pX9_wipe pX10_wipe pX5_length pX5_clear fpt
  rw [bI_some, bV_some, h1, h2, up2_eq, up2_eq]
  refine ⟨nI n, _, _, rfl, rfl, REL_txt h (fun k q1 q2 => upR_ne q1) ⟨fun k q _ => upR_ne (by omega), fun j q => by rw [upR_at, upd_ne q]⟩ ?_⟩
  exact ⟨0, by omega, by rw [upR_at, upd_at]; rfl, by rw [upR_at, upd_at]; rfl, fun j hj => absurd hj (by omega)⟩
theorem a_write {A B : Mem} {fu : Nat} (h : REL A B) (hf : 1000 < fu) (x : Int32) : AGREE (pX9_write fu x A) (pX10_write fu x B) := by
  have h' := h
  obtain ⟨np, nd, nb, ln, ds, -, -, ⟨n, hn, h1, h2, h3⟩, -⟩ := h'
  have e32 : (32 : Int32).toInt = 32 := rfl
  have e126 : (126 : Int32).toInt = 126 := rfl
  unfold pX9_write pX10_write
  rw [m_in, bI_some, w_toInt, show (32 : Int64).toInt = 32 from rfl, show (126 : Int64).toInt = 126 from rfl]
  by_cases hx : 32 ≤ x.toInt ∧ x.toInt ≤ 126
  · obtain ⟨c, hc, rfl⟩ := of_inR (x := x) (n := 127) ⟨by omega, by omega⟩ (by decide)
    have hc32 : (nI c).toInt = (c : Int) := nI_toInt (by omega)
    obtain ⟨n1, n2⟩ := nar_ok c hc
    rw [if_pos hx, if_neg one_ne, if_neg (show ¬ nI c < 32 from fun q => by rw [i_lt, e32] at q; omega), if_pos (show nI c ≤ 126 from by rw [i_le, e126]; omega)]
    unfold pX5_add
    rw [h1, h2, if_neg (nI_pos (by omega)), n1, n2]
    by_cases hfull : n = 200
    · subst hfull
      rw [if_neg (show ¬ nI 200 < 200 by decide), rtz_0, bI_some, if_pos rfl, if_pos (by decide)]
      exact AG_s h
    · rw [if_pos (show nI n < (200 : Int32) from (nI_lt_iff (b := 200) (by omega) (by decide)).mpr (by omega)), if_neg (show ¬ nI n = (200 : Int32) from fun q => hfull ((nI_eq_iff (b := 200) (by omega) (by decide)).mp q))]
      rw [sto_nI (by omega) (by decide), sto_nI (by omega) (by decide)]
      unfold fpt pX5_length
      rw [up2_eq, up2_eq, upR_ne (a := 1) (k := 2) (by decide), upR_ne (a := 0) (k := 13) (by decide), h1, h2, nI_1]
      dsimp only
      rw [rtz_1, bI_some, if_neg one_ne, bI_some, upR_at, upd_at, upR_at, upd_at]
      refine ⟨nI (n + 1), _, _, rfl, rfl, REL_txt h (fun k q1 q2 => by rw [upR_ne q1, upR_ne q2]) ⟨fun k q q' => by rw [upR_ne (by omega), upR_ne q'], fun j q => by rw [upR_at, upd_ne q]⟩ ?_⟩
      refine ⟨n + 1, by omega, by rw [upR_at, upd_at], by rw [upR_at, upd_at], fun j hj => ?_⟩
      rw [upR_ne (by decide), upR_at, upR_ne (by decide), upR_at]
      by_cases e : j = n
      · subst e; exact ⟨c, by omega, by omega, upd_at _ _ _, upd_at _ _ _⟩
      · rw [upd_ne e, upd_ne e]; exact h3 j (by omega)
  · rw [if_neg hx, if_pos rfl]
    by_cases q : x < 32
    · rw [if_pos q]; exact AG_s h
    · rw [if_neg q, if_neg (show ¬ x ≤ 126 from fun z => by rw [i_le, e126] at z; rw [i_lt, e32] at q; exact hx ⟨by omega, by omega⟩)]; exact AG_s h
