/-! PURE: deal, one hand in the class and in the reference -/
def RDs (C : Mem) (h : Nat → Nat) (w : Int32) (f0 : Row) (m : Nat) : Prop := ∀ d, d < m → w ≤ sRd C (sH C h w f0 (d + 1)) (h d) w
def FIN (C : Mem) (nd : Nat) (h : Nat → Nat) (w : Int32) (f : Row) : Prop := ∀ d, d < nd → f (11 * h d + 1) = 2 ∧ sRd C f (h d) (f (11 * h d + 6)) = w
def gng (C : Mem) (nb nd : Nat) (h : Nat → Nat) (f : Row) (j : Nat) : Nat := sumF (fun d => if hrs C nb f j (11 * h d + 1) = 1 then 1 else 0) nd 0
section DX
variable {C M : Mem} {np nd nb fu : Nat} {ln ds : Nat → Nat → Nat} {f0 F : Row} {h pl : Nat → Nat} {w : Int32}
theorem x_sendH (hR : RC C M np nd nb ln ds) (hh : ∀ d, d < nd → h d < nb) (hpl : ∀ d, d < nd → pl d < np ∧ C 10 d = nI (pl d)) (hV : HV C np nd nb ds f0) : ∀ (m i t : Nat) (A : Mem), CC C A → (∀ d, d < nd → A 57 d = nI (h d)) → A 60 = sH C h w f0 i → OKs ds pl h f0 i → RDs C h w f0 i → i + m = nd → m < t → ∃ r g, pX2_sendHand_10 fu 27 t w (nI i) A = some (r, upR A 60 g) ∧ ((r = 1 ∧ g = sH C h w f0 nd ∧ OKs ds pl h f0 nd ∧ RDs C h w f0 nd) ∨ (r = 0 ∧ ¬ (OKs ds pl h f0 nd ∧ RDs C h w f0 nd))) := by
  have hn := hR.1
  intro m
  induction m with
  | zero =>
    intro i t A hA h57 h60 hO hD hi ht
    obtain ⟨t, rfl⟩ : ∃ q, t = q + 1 := ⟨t - 1, by omega⟩
    have : i = nd := by omega
    subst this
    refine ⟨1, sH C h w f0 i, ?_, Or.inl ⟨rfl, rfl, hO, hD⟩⟩
    show pX2_sendHand_10b fu 27 w (nI i) A _ = _
    unfold pX2_sendHand_10b
    rw [x_doors hA, bI_some, hR.2.1.2.1, if_pos ((nI_le_iff (by omega) (by omega)).mpr (by omega)), rtz_1, ← h60, upR_self]
  | succ m ih =>
    intro i t A hA h57 h60 hO hD hi ht
    obtain ⟨t, rfl⟩ : ∃ q, t = q + 1 := ⟨t - 1, by omega⟩
    have hd : i < nd := by omega
    have hb := hh i hd
    have hVi : HV C np nd nb ds (A (59 + 1)) := by
      show HV C np nd nb ds (A 60)
      rw [h60]; exact sH_v hR hh hpl hV i (by omega) hO
    show ∃ r g, pX2_sendHand_10b fu 27 w (nI i) A _ = _ ∧ _
    unfold pX2_sendHand_10b
    rw [x_doors hA, bI_some, hR.2.1.2.1, if_neg (fun q => by have := (nI_le_iff (by omega) (by omega)).mp q; omega), x_at _ _ _ _ _ (by decide), bI_some, rat_nI (by omega) (by decide), h57 i hd, x_canSend hA hR hb hVi hd (hpl i hd).1 (hpl i hd).2, bI_some, show 59 + 1 = 60 from rfl, h60]
    by_cases q : sH C h w f0 i (11 * h i + 1) = 0 ∧ ds 0 (pl i) < 9999
    · have hO' : OKs ds pl h f0 (i + 1) := by
        intro d hd'
        by_cases e : d = i
        · subst e
          have hne : ∀ e, e < d → h d ≠ h e := fun e he z => by
            have := sH_in (C := C) (w := w) hO (show e < d by omega) d (by omega) (by omega) 1 (by decide)
            rw [← z, q.1] at this
            have h1 : sH C h w f0 (e + 1) (11 * h e + 1) = 1 := send_1 _ _
            rw [← z] at h1
            rw [h1] at this
            exact absurd this (by decide)
          refine ⟨⟨?_, q.2⟩, hne⟩
          exact (sH_oth (C := C) (w := w) (f0 := f0) d hne 1 (by decide)).symm.trans q.1
        · exact hO d (by omega)
      rw [if_pos q, if_neg one_ne, x_dispatch hA (by decide) (by omega), bV_some, show 59 + 1 = 60 from rfl, h60, x_readOf (CC_up hA (by decide) _) (by omega), bI_some, show 59 + 1 = 60 from rfl, upR_at, send_6]
      by_cases q2 : w ≤ sRd C (sSend C (sH C h w f0 i) (h i) w (nI i)) (h i) w
      · have hD' : RDs C h w f0 (i + 1) := by
          intro d hd'
          by_cases e : d = i
          · subst e; exact q2
          · exact hD d (by omega)
        rw [if_pos q2, nI_1]
        obtain ⟨r, g, e1, e2⟩ := ih (i + 1) t (upR A 60 (sSend C (sH C h w f0 i) (h i) w (nI i))) (CC_up hA (by decide) _) (fun d hd => by rw [upR_ne (by decide)]; exact h57 d hd) (upR_at _ _ _) hO' hD' (by omega) (by omega)
        rw [upR_upR] at e1
        exact ⟨r, g, e1, e2⟩
      · rw [if_neg q2, rtz_0]
        exact ⟨0, _, rfl, Or.inr ⟨rfl, fun z => q2 (z.2 i hd)⟩⟩
    · rw [if_neg q, if_pos rfl, rtz_0]
      refine ⟨0, sH C h w f0 i, by rw [← h60, upR_self], Or.inr ⟨rfl, fun z => q ?_⟩⟩
      exact ⟨sH_fr (OKs_le z.1 (by omega)), (z.1 i hd).1.2⟩
theorem x_going {A : Mem} (hR : RC C M np nd nb ln ds) (hh : ∀ d, d < nd → h d < nb) (hA : CC C A) (h57 : ∀ d, d < nd → A 57 d = nI (h d)) (hf : 1000 < fu) : pX2_going fu A = some (nI (sumF (fun d => if A 60 (11 * h d + 1) = 1 then 1 else 0) nd 0), A) := by
  have hn := hR.1
  have L : ∀ (m i t s : Nat), i + m = nd → m < t → pX2_going_4 fu t (nI s) (nI i) A = some (nI (s + sumF (fun d => if A 60 (11 * h d + 1) = 1 then 1 else 0) m i), A) := by
    intro m
    induction m with
    | zero =>
      intro i t s hi ht
      obtain ⟨t, rfl⟩ : ∃ q, t = q + 1 := ⟨t - 1, by omega⟩
      show pX2_going_4b fu (nI s) (nI i) A _ = _
      unfold pX2_going_4b
      rw [x_doors hA, bI_some, hR.2.1.2.1, if_pos ((nI_le_iff (by omega) (by omega)).mpr (by omega))]
      rfl
    | succ m ih =>
      intro i t s hi ht
      obtain ⟨t, rfl⟩ : ∃ q, t = q + 1 := ⟨t - 1, by omega⟩
      have hb := hh i (by omega)
      show pX2_going_4b fu (nI s) (nI i) A _ = _
      unfold pX2_going_4b pX2_going_40
      rw [x_doors hA, bI_some, hR.2.1.2.1, if_neg (fun q => by have := (nI_le_iff (by omega) (by omega)).mp q; omega), x_at _ _ _ _ _ (by decide), bI_some, rat_nI (by omega) (by decide), h57 i (by omega), x_is (by omega), bI_some, nI_1, sumF_s, nI_1, show 59 + 1 = 60 from rfl, show nI s + (0 : Int32) = nI s from nI_add s 0]
      by_cases q : A 60 (11 * h i + 1) = 1
      · rw [if_pos q, if_neg one_ne, if_pos q, ih (i + 1) t (s + 1) (by omega) (by omega), Nat.add_assoc]
      · rw [if_neg q, if_pos rfl, if_neg q, ih (i + 1) t s (by omega) (by omega), Nat.zero_add]
  have e := L nd 0 fu 0 (by omega) (by omega)
  rw [Nat.zero_add] at e
  exact e
theorem gng_le (hn4 : nd ≤ 4) (j : Nat) : gng C nb nd h F j ≤ 4 := by
  unfold gng
  have := sumF_le (F := fun d => if hrs C nb F j (11 * h d + 1) = 1 then 1 else 0) (c := 1) nd 0 (fun j _ _ => by split <;> omega)
  omega
theorem sumF_all0 {G : Nat → Nat} : ∀ m i, sumF G m i = 0 → ∀ j, i ≤ j → j < i + m → G j = 0 := by
  intro m
  induction m with
  | zero => intro i _ j h1 h2; omega
  | succ m ih =>
    intro i hz j h1 h2
    rw [sumF_s] at hz
    by_cases e : j = i
    · subst e; omega
    · exact ih (i + 1) (by omega) j (by omega) (by omega)
/-- when none of the hand goes, all stand, and so they stay -/
theorem gng_0 (hR : RC C M np nd nb ln ds) (hh : ∀ d, d < nd → h d < nb) (hV : HV C np nd nb ds F) (hgo : ∀ d, d < nd → F (11 * h d + 1) = 1) {j : Nat} (hz : gng C nb nd h F j = 0) : ∀ d, d < nd → hrs C nb F j (11 * h d + 1) = 2 := by
  intro d hd
  have := sumF_all0 nd 0 hz d (by omega) (by omega)
  rcases hrs_do hR (hh d hd) hV (hgo d hd) j with z | z
  · rw [if_pos z] at this; omega
  · exact z
theorem gng_1 (hR : RC C M np nd nb ln ds) (hh : ∀ d, d < nd → h d < nb) (hV : HV C np nd nb ds F) (hgo : ∀ d, d < nd → F (11 * h d + 1) = 1) {j : Nat} (hz : gng C nb nd h F j = 0) : ∀ k, gng C nb nd h F (j + k) = 0 := by
  intro k
  unfold gng
  refine (sumF_congR nd 0 (fun d _ hd => ?_)).trans (sumF_0 nd 0)
  have h2 := gng_0 hR hh hV hgo hz d (by omega)
  rw [if_neg (by rw [hrs_st hR (hh d (by omega)) hV h2 k 1 (by decide), h2]; decide)]
theorem x_await4 (hR : RC C M np nd nb ln ds) (hh : ∀ d, d < nd → h d < nb) (hV : HV C np nd nb ds F) (hgo : ∀ d, d < nd → F (11 * h d + 1) = 1) (hf : 1000 < fu) (K : Int32 → Int32 → Mem → Res) : ∀ (m i t s : Nat) (A : Mem), CC C A → (∀ d, d < nd → A 57 d = nI (h d)) → A 60 = hrs C nb F i → i + m = 99 → m < t → ∃ T, T ≤ 99 ∧ (T = 99 ∨ gng C nb nd h F T = 0) ∧ pX2_awaitHand_4 fu K t w (nI s) (nI i) A = K w (nI (s + sumF (gng C nb nd h F) m i)) (upR A 60 (hrs C nb F T)) := by
  have hn := hR.1
  intro m
  induction m with
  | zero =>
    intro i t s A hA h57 h60 hi ht
    obtain ⟨t, rfl⟩ : ∃ q, t = q + 1 := ⟨t - 1, by omega⟩
    have : i = 99 := by omega
    subst this
    refine ⟨99, by omega, Or.inl rfl, ?_⟩
    show pX2_awaitHand_4b fu w (nI s) (nI 99) A _ _ = _
    unfold pX2_awaitHand_4b
    rw [if_pos (by decide), ← h60, upR_self]
    rfl
  | succ m ih =>
    intro i t s A hA h57 h60 hi ht
    obtain ⟨t, rfl⟩ : ∃ q, t = q + 1 := ⟨t - 1, by omega⟩
    have hG := gng_le (C := C) (nb := nb) (F := F) (h := h) hn.2.2.2.1 i
    have eG : sumF (fun d => if A 60 (11 * h d + 1) = 1 then 1 else 0) nd 0 = gng C nb nd h F i := by rw [h60]; rfl
    show ∃ T, _ ∧ _ ∧ pX2_awaitHand_4b fu w (nI s) (nI i) A _ _ = _
    unfold pX2_awaitHand_4b
    rw [if_neg (fun q => by have := (nI_le_iff (a := 99) (by decide) (by omega)).mp q; omega), x_going hR hh hA h57 hf, bI_some, eG]
    by_cases q : gng C nb nd h F i = 0
    · refine ⟨i, by omega, Or.inr q, ?_⟩
      rw [if_pos ((nI_le0 (by omega)).mpr q), ← h60, upR_self]
      have e0 : sumF (gng C nb nd h F) (m + 1) i = 0 := by
        rw [← sumF_0 (m + 1) i]
        refine sumF_congR _ _ (fun j h1 _ => ?_)
        have := gng_1 hR hh hV hgo q (j - i)
        rw [show i + (j - i) = j by omega] at this
        exact this
      rw [e0, Nat.add_zero]
    · rw [if_neg (fun z => q ((nI_le0 (by omega)).mp z)), x_going hR hh hA h57 hf, bI_some, eG, x_goOn hA hR.2.1.2.2 (by omega) (by decide) (-4) (by omega), bV_some, nI_1, nI_add, show 59 + 1 = 60 from rfl, h60, sumF_s]
      obtain ⟨T, t1, t2, e⟩ := ih (i + 1) t (s + gng C nb nd h F i) (upR A 60 (sHour C nb (-4) (hrs C nb F i))) (CC_up hA (by decide) _) (fun d hd => by rw [upR_ne (by decide)]; exact h57 d hd) (upR_at _ _ _) (by omega) (by omega)
      exact ⟨T, t1, t2, by rw [e, upR_upR, Nat.add_assoc]⟩
theorem x_await41 (hR : RC C M np nd nb ln ds) (hh : ∀ d, d < nd → h d < nb) (s : Int32) : ∀ (m i t : Nat) (A : Mem), CC C A → (∀ d, d < nd → A 57 d = nI (h d)) → (∀ d, d < i → A 60 (11 * h d + 1) = 2 ∧ sRd C (A 60) (h d) (A 60 (11 * h d + 6)) = w) → i + m = nd → m < t → ∃ r, pX2_awaitHand_41 fu t w s (nI i) A = some (r, A) ∧ ((FIN C nd h w (A 60) ∧ r = s) ∨ (¬ FIN C nd h w (A 60) ∧ r = -4)) := by
  have hn := hR.1
  intro m
  induction m with
  | zero =>
    intro i t A hA h57 hD hi ht
    obtain ⟨t, rfl⟩ : ∃ q, t = q + 1 := ⟨t - 1, by omega⟩
    refine ⟨s, ?_, Or.inl ⟨fun d hd => hD d (by omega), rfl⟩⟩
    show pX2_awaitHand_41b fu w s (nI i) A _ = _
    unfold pX2_awaitHand_41b
    rw [x_doors hA, bI_some, hR.2.1.2.1, if_pos ((nI_le_iff (by omega) (by omega)).mpr (by omega))]
  | succ m ih =>
    intro i t A hA h57 hD hi ht
    obtain ⟨t, rfl⟩ : ∃ q, t = q + 1 := ⟨t - 1, by omega⟩
    have hb := hh i (by omega)
    show ∃ r, pX2_awaitHand_41b fu w s (nI i) A _ = _ ∧ _
    unfold pX2_awaitHand_41b
    rw [x_doors hA, bI_some, hR.2.1.2.1, if_neg (fun q => by have := (nI_le_iff (by omega) (by omega)).mp q; omega), x_at _ _ _ _ _ (by decide), bI_some, rat_nI (by omega) (by decide), h57 i (by omega), x_is (by omega), bI_some, show 59 + 1 = 60 from rfl]
    by_cases q : A 60 (11 * h i + 1) = 2
    · rw [if_pos q, if_neg one_ne, x_readOf hA (by omega), bI_some, show 59 + 1 = 60 from rfl, nI_1]
      by_cases q2 : sRd C (A 60) (h i) (A 60 (11 * h i + 6)) = w
      · rw [if_pos q2]
        refine ih (i + 1) t A hA h57 (fun d hd => ?_) (by omega) (by omega)
        by_cases e : d = i
        · subst e; exact ⟨q, q2⟩
        · exact hD d (by omega)
      · rw [if_neg q2]
        exact ⟨-4, rfl, Or.inr ⟨fun z => q2 (z i (by omega)).2, rfl⟩⟩
    · rw [if_neg q, if_pos rfl]
      exact ⟨-4, rfl, Or.inr ⟨fun z => q (z i (by omega)).1, rfl⟩⟩
/-- the end is the same at the hour when all stand and at the last -/
theorem FIN_T (hR : RC C M np nd nb ln ds) (hh : ∀ d, d < nd → h d < nb) (hV : HV C np nd nb ds F) (hgo : ∀ d, d < nd → F (11 * h d + 1) = 1) {T : Nat} (hT : T ≤ 99) (h0 : T = 99 ∨ gng C nb nd h F T = 0) : FIN C nd h w (hrs C nb F T) ↔ FIN C nd h w (hrs C nb F 99) := by
  rcases h0 with e | e
  · rw [e]
  · have hc : ∀ d, d < nd → ∀ c, c < 11 → hrs C nb F 99 (11 * h d + c) = hrs C nb F T (11 * h d + c) := fun d hd c hc => by
      have := hrs_st hR (hh d hd) hV (gng_0 hR hh hV hgo e d hd) (99 - T) c hc
      rw [show T + (99 - T) = 99 by omega] at this
      exact this
    have hr : ∀ d, d < nd → ∀ v, sRd C (hrs C nb F 99) (h d) v = sRd C (hrs C nb F T) (h d) v := fun d hd v => by
      unfold sRd sSgn sSg2
      rw [hc d hd 5 (by decide), hc d hd 7 (by decide), hc d hd 8 (by decide), hc d hd 9 (by decide)]
    constructor
    · intro hF d hd
      rw [hc d hd 1 (by decide), hc d hd 6 (by decide), hr d hd]; exact hF d hd
    · intro hF d hd
      rw [← hc d hd 1 (by decide), ← hc d hd 6 (by decide), ← hr d hd]; exact hF d hd
/-- what a hand brings -/
def hSum (C : Mem) (nb nd : Nat) (h : Nat → Nat) (F : Row) : Nat := sumF (gng C nb nd h F) 99 0
def HRS (C : Mem) (nb nd : Nat) (ds : Nat → Nat → Nat) (pl h : Nat → Nat) (w : Int32) (f0 : Row) (r : Int32) : Prop := ((OKs ds pl h f0 nd ∧ FIN C nd h w (hrs C nb (sH C h w f0 nd) 99)) ∧ r = nI (hSum C nb nd h (sH C h w f0 nd))) ∨ (¬ (OKs ds pl h f0 nd ∧ FIN C nd h w (hrs C nb (sH C h w f0 nd) 99)) ∧ r = -4)
theorem HRS_eq {C : Mem} {nb nd : Nat} {ds : Nat → Nat → Nat} {pl h : Nat → Nat} {w : Int32} {f0 : Row} {r r' : Int32} (h1 : HRS C nb nd ds pl h w f0 r) (h2 : HRS C nb nd ds pl h w f0 r') : r = r' := by
  rcases h1 with ⟨a, rfl⟩ | ⟨a, rfl⟩
  · rcases h2 with ⟨b, rfl⟩ | ⟨b, rfl⟩
    · rfl
    · exact absurd a b
  · rcases h2 with ⟨b, rfl⟩ | ⟨b, rfl⟩
    · exact absurd b a
    · rfl
theorem sH_go {n : Nat} (hO : OKs ds pl h f0 n) : ∀ d, d < n → sH C h w f0 n (11 * h d + 1) = 1 := fun d hd => by
  rw [sH_in hO hd n hd (Nat.le_refl n) 1 (by decide)]; exact send_1 _ _
/-- a reading that is too small at once stays too small -/
theorem prune (hR : RC C M np nd nb ln ds) (hh : ∀ d, d < nd → h d < nb) (hpl : ∀ d, d < nd → pl d < np ∧ C 10 d = nI (pl d)) (hV : HV C np nd nb ds f0) {v : Nat} (hv : v < 8) (hO : OKs ds pl h f0 nd) (hF : FIN C nd h (nI v) (hrs C nb (sH C h (nI v) f0 nd) 99)) : RDs C h (nI v) f0 nd := by
  intro d hd
  obtain ⟨-, h2⟩ := hF d hd
  have hVF := sH_v (w := nI v) hR hh hpl hV nd (Nat.le_refl nd) hO
  have e : ∀ c, c < 11 → sH C h (nI v) f0 nd (11 * h d + c) = sH C h (nI v) f0 (d + 1) (11 * h d + c) := sH_in hO hd nd hd (Nat.le_refl nd)
  have e7 : sH C h (nI v) f0 (d + 1) (11 * h d + 7) = 0 := send_7 _ _
  have e8 : sH C h (nI v) f0 (d + 1) (11 * h d + 8) = 0 := send_8 _ _
  have e6 : sH C h (nI v) f0 (d + 1) (11 * h d + 6) = nI v := send_6 _ _
  obtain ⟨hk, a, l, ha, hl, g7, g8⟩ := hrs_gr hR (hh d hd) hVF ((e 7 (by decide)).trans e7) ((e 8 (by decide)).trans e8) 99
  rw [hk 6 (by omega), e 6 (by decide), e6] at h2
  have := rd_falls (C := C) (f := sH C h (nI v) f0 (d + 1)) (b := h d) hv ((hk 5 (by omega)).trans (e 5 (by decide))) ((hk 9 (by omega)).trans (e 9 (by decide))) e7 e8 g7 g8 ha hl
  rw [h2] at this
  exact this
theorem x_hand (hR : RC C M np nd nb ln ds) (hh : ∀ d, d < nd → h d < nb) (hpl : ∀ d, d < nd → pl d < np ∧ C 10 d = nI (pl d)) {v : Nat} (hv : v < 8) (hf : 1000 < fu) {A : Mem} (hA : CC C A) (h57 : ∀ d, d < nd → A 57 d = nI (h d)) (hV : HV C np nd nb ds (A 28)) (K : Int32 → Mem → Res) : ∃ r g, HRS C nb nd ds pl h (nI v) (va_cpy (A 28) (A 60) 0 0 64) r ∧ (bI (pX2_sendHand fu 27 (nI v) A) fun r11 M10 => if r11 = 0 then K (-4 : Int32) M10 else bI (pX2_awaitHand fu (nI v) M10) fun r14 M13 => K r14 M13) = K r (upR A 60 g) := by
  have hn := hR.1
  unfold pX2_sendHand
  have hV0 : HV C np nd nb ds (va_cpy (A 28) (A 60) 0 0 64) := HV_cong (by omega) (by omega) hV (fun j hj => cpy_at _ _ hj)
  rw [x_copy, bV_some]
  obtain ⟨r, g, e1, e2⟩ := x_sendH (fu := fu) (w := nI v) hR hh hpl hV0 nd 0 fu (upR A 60 (va_cpy (A 28) (A 60) 0 0 64)) (CC_up hA (by decide) _) (fun d hd => by rw [upR_ne (by decide)]; exact h57 d hd) (upR_at _ _ _) (fun d hd => absurd hd (by omega)) (fun d hd => absurd hd (by omega)) (by omega) (by omega)
  have e1' : pX2_sendHand_10 fu 27 fu (nI v) 0 (upR A (59 + 1) (va_cpy (A (27 + 1)) (A (59 + 1)) 0 0 64)) = _ := e1
  rw [e1', upR_upR, bI_some]
  rcases e2 with ⟨rfl, rfl, hO, hD⟩ | ⟨rfl, hno⟩
  · rw [if_neg one_ne]
    have hVF := sH_v (w := nI v) hR hh hpl hV0 nd (Nat.le_refl nd) hO
    have hgo := sH_go (C := C) (w := nI v) hO
    unfold pX2_awaitHand
    obtain ⟨T, t1, t2, e3⟩ := x_await4 (fu := fu) (w := nI v) hR hh hVF hgo hf (fun y6 y7 M8 => pX2_awaitHand_39 fu y6 y7 M8) 99 0 fu 0 (upR A 60 (sH C h (nI v) (va_cpy (A 28) (A 60) 0 0 64) nd)) (CC_up hA (by decide) _) (fun d hd => by rw [upR_ne (by decide)]; exact h57 d hd) (upR_at _ _ _) (by omega) (by omega)
    have e3' : pX2_awaitHand_4 fu _ fu (nI v) 0 0 (upR A 60 (sH C h (nI v) (va_cpy (A 28) (A 60) 0 0 64) nd)) = _ := e3
    rw [e3', Nat.zero_add, upR_upR]
    obtain ⟨r, e4, e5⟩ := x_await41 (fu := fu) (w := nI v) hR hh (nI (sumF (gng C nb nd h (sH C h (nI v) (va_cpy (A 28) (A 60) 0 0 64) nd)) 99 0)) nd 0 fu (upR A 60 (hrs C nb (sH C h (nI v) (va_cpy (A 28) (A 60) 0 0 64) nd) T)) (CC_up hA (by decide) _) (fun d hd => by rw [upR_ne (by decide)]; exact h57 d hd) (fun d hd => absurd hd (by omega)) (by omega) (by omega)
    unfold pX2_awaitHand_39
    have e4' : pX2_awaitHand_41 fu fu (nI v) _ 0 (upR A 60 (hrs C nb (sH C h (nI v) (va_cpy (A 28) (A 60) 0 0 64) nd) T)) = _ := e4
    rw [e4', bI_some]
    refine ⟨r, _, ?_, rfl⟩
    rw [upR_at] at e5
    rcases e5 with ⟨z, rfl⟩ | ⟨z, rfl⟩
    · exact Or.inl ⟨⟨hO, (FIN_T hR hh hVF hgo t1 t2).mp z⟩, rfl⟩
    · exact Or.inr ⟨fun y => z ((FIN_T hR hh hVF hgo t1 t2).mpr y.2), rfl⟩
  · rw [if_pos rfl]
    exact ⟨-4, g, Or.inr ⟨fun y => hno ⟨y.1, prune hR hh hpl hV0 hv y.1 y.2⟩, rfl⟩, rfl⟩
end DX
