/-! PURE: deal, the rows of a hand -/
def sH (C : Mem) (h : Nat → Nat) (w : Int32) (f0 : Row) : Nat → Row
  | 0 => f0
  | m + 1 => sSend C (sH C h w f0 m) (h m) w (nI m)
def OKs (ds : Nat → Nat → Nat) (pl h : Nat → Nat) (f0 : Row) (m : Nat) : Prop := ∀ d, d < m → (f0 (11 * h d + 1) = 0 ∧ ds 0 (pl d) < 9999) ∧ ∀ e, e < d → h d ≠ h e
def hrs (C : Mem) (nb : Nat) (f : Row) : Nat → Row
  | 0 => f
  | n + 1 => sHour C nb (-4) (hrs C nb f n)
theorem sumF_end (F : Nat → Nat) : ∀ m i, sumF F (m + 1) i = sumF F m i + F (i + m) := by
  intro m
  induction m with
  | zero => intro i; rw [sumF_s]; simp [sumF]
  | succ m ih => intro i; rw [sumF_s, ih (i + 1), sumF_s, show i + 1 + m = i + (m + 1) by omega]; omega
theorem sumF_0 : ∀ m i, sumF (fun _ => 0) m i = 0 := by
  intro m
  induction m with
  | zero => intro i; rfl
  | succ m ih => intro i; rw [sumF_s, ih]
theorem sumF_swap (I : Nat → Nat → Nat) (n k : Nat) : ∀ m i, sumF (fun j => sumF (fun d => I j d) n k) m i = sumF (fun d => sumF (fun j => I j d) m i) n k := by
  intro m
  induction m with
  | zero => intro i; exact (sumF_0 n k).symm
  | succ m ih =>
    intro i
    rw [sumF_s, ih (i + 1)]
    have := sumF_lin (fun d => I i d) (fun d => sumF (fun j => I j d) m (i + 1)) 1 1 n k
    rw [Nat.one_mul, Nat.one_mul] at this
    rw [← this]
    refine sumF_cong _ _ (fun d => ?_)
    rw [Nat.one_mul, Nat.one_mul, sumF_s]
theorem sumF_le {F : Nat → Nat} {c : Nat} : ∀ m i, (∀ j, i ≤ j → j < i + m → F j ≤ c) → sumF F m i ≤ c * m := by
  intro m
  induction m with
  | zero => intro i _; exact Nat.le_refl 0
  | succ m ih =>
    intro i h
    rw [sumF_s, Nat.mul_succ]
    have := ih (i + 1) (fun j h1 h2 => h j (by omega) (by omega))
    have := h i (by omega) (by omega)
    omega
theorem sumF_congR {F G : Nat → Nat} : ∀ m i, (∀ j, i ≤ j → j < i + m → F j = G j) → sumF F m i = sumF G m i := by
  intro m
  induction m with
  | zero => intro i _; rfl
  | succ m ih =>
    intro i h
    rw [sumF_s, sumF_s, h i (by omega) (by omega), ih (i + 1) (fun j h1 h2 => h j (by omega) (by omega))]
section DL
variable {C M : Mem} {np nd nb b : Nat} {ln ds : Nat → Nat → Nat} {f f0 : Row} {h pl : Nat → Nat} {w : Int32}
theorem send_oth {a : Nat} (hne : b ≠ a) (v d : Int32) {c : Nat} (hc : c < 11) : sSend C f a v d (11 * b + c) = f (11 * b + c) := by
  unfold sSend
  rw [upd_ne (by omega), upd_ne (by omega), upd_ne (by omega), upd_ne (by omega), upd_ne (by omega), upd_ne (by omega), upd_ne (by omega), upd_ne (by omega)]
theorem send_1 (v d : Int32) : sSend C f b v d (11 * b + 1) = 1 := by
  unfold sSend
  rw [upd_ne (by omega), upd_ne (by omega), upd_ne (by omega), upd_ne (by omega), upd_ne (by omega), upd_at]
theorem send_5 (v d : Int32) : sSend C f b v d (11 * b + 5) = d := by
  unfold sSend
  rw [upd_ne (by omega), upd_ne (by omega), upd_ne (by omega), upd_at]
theorem send_6 (v d : Int32) : sSend C f b v d (11 * b + 6) = v := by
  unfold sSend
  rw [upd_ne (by omega), upd_ne (by omega), upd_at]
theorem send_7 (v d : Int32) : sSend C f b v d (11 * b + 7) = 0 := by
  unfold sSend
  rw [upd_ne (by omega), upd_at]
theorem send_8 (v d : Int32) : sSend C f b v d (11 * b + 8) = 0 := by
  unfold sSend
  rw [upd_at]
theorem sH_oth : ∀ m, (∀ d, d < m → b ≠ h d) → ∀ c, c < 11 → sH C h w f0 m (11 * b + c) = f0 (11 * b + c) := by
  intro m
  induction m with
  | zero => intro _ c _; rfl
  | succ m ih =>
    intro hb c hc
    show sSend C (sH C h w f0 m) (h m) w (nI m) (11 * b + c) = _
    rw [send_oth (hb m (by omega)) _ _ hc, ih (fun d hd => hb d (by omega)) c hc]
theorem OKs_le {m n : Nat} (hO : OKs ds pl h f0 n) (hm : m ≤ n) : OKs ds pl h f0 m := fun d hd => hO d (by omega)
theorem sH_in {n d : Nat} (hO : OKs ds pl h f0 n) (hd : d < n) : ∀ m, d < m → m ≤ n → ∀ c, c < 11 → sH C h w f0 m (11 * h d + c) = sH C h w f0 (d + 1) (11 * h d + c) := by
  intro m
  induction m with
  | zero => intro h1; omega
  | succ m ih =>
    intro h1 h2 c hc
    by_cases e : m = d
    · subst e; rfl
    · show sSend C (sH C h w f0 m) (h m) w (nI m) (11 * h d + c) = _
      rw [send_oth (fun z => (hO m (by omega)).2 d (by omega) z.symm) _ _ hc, ih (by omega) (by omega) c hc]
theorem sH_fr {m : Nat} (hO : OKs ds pl h f0 (m + 1)) : sH C h w f0 m (11 * h m + 1) = 0 := by
  rw [sH_oth m (fun d hd => (hO m (by omega)).2 d hd) 1 (by decide)]
  exact (hO m (by omega)).1.1
theorem sH_v (hR : RC C M np nd nb ln ds) (hh : ∀ d, d < nd → h d < nb) (hpl : ∀ d, d < nd → pl d < np ∧ C 10 d = nI (pl d)) (hV : HV C np nd nb ds f0) : ∀ m, m ≤ nd → OKs ds pl h f0 m → HV C np nd nb ds (sH C h w f0 m) := by
  intro m
  induction m with
  | zero => intro _ _; exact hV
  | succ m ih =>
    intro hm hO
    have h1 := ih (by omega) (OKs_le hO (by omega))
    exact v_sends hR (hh m (by omega)) h1 (bFR_of h1 (hh m (by omega)) (sH_fr hO)) w (by omega) (hpl m (by omega)).1 (hpl m (by omega)).2 (hO m (by omega)).1.2
theorem hrs_v (hR : RC C M np nd nb ln ds) (hV : HV C np nd nb ds f) : ∀ n, HV C np nd nb ds (hrs C nb f n) := by
  intro n
  induction n with
  | zero => exact hV
  | succ n ih => exact v_hour hR ih _
theorem hrs_do (hR : RC C M np nd nb ln ds) (hb : b < nb) (hV : HV C np nd nb ds f) (h1 : f (11 * b + 1) = 1) : ∀ n, hrs C nb f n (11 * b + 1) = 1 ∨ hrs C nb f n (11 * b + 1) = 2 := by
  intro n
  induction n with
  | zero => exact Or.inl h1
  | succ n ih =>
    have hs := (st_hour hR hb (hrs_v hR hV n) (-4)).2.1
    show sHour C nb (-4) (hrs C nb f n) (11 * b + 1) = 1 ∨ sHour C nb (-4) (hrs C nb f n) (11 * b + 1) = 2
    rcases hs with z | z | z
    · rw [z]; exact ih
    · exact Or.inr z.2
    · rw [z.1] at ih; exact absurd ih (by decide)
theorem hrs_st (hR : RC C M np nd nb ln ds) (hb : b < nb) (hV : HV C np nd nb ds f) {n : Nat} (h2 : hrs C nb f n (11 * b + 1) = 2) : ∀ k c, c < 11 → hrs C nb f (n + k) (11 * b + c) = hrs C nb f n (11 * b + c) := by
  intro k
  induction k with
  | zero => intro c _; rfl
  | succ k ih =>
    intro c hc
    have e1 := ih 1 (by decide)
    rw [h2] at e1
    show sHour C nb (-4) (hrs C nb f (n + k)) (11 * b + c) = _
    rw [(st_hour hR hb (hrs_v hR hV (n + k)) (-4)).2.2.2.2 (by rw [e1]; decide) (by rw [e1]; decide) c hc, ih c hc]
theorem hrs_gr (hR : RC C M np nd nb ln ds) (hb : b < nb) (hV : HV C np nd nb ds f) (h7 : f (11 * b + 7) = 0) (h8 : f (11 * b + 8) = 0) : ∀ n, keepC f (hrs C nb f n) b ∧ ∃ e l, e ≤ n ∧ l ≤ n ∧ hrs C nb f n (11 * b + 7) = nI e ∧ hrs C nb f n (11 * b + 8) = nI l := by
  intro n
  induction n with
  | zero => exact ⟨fun _ _ => rfl, 0, 0, by omega, by omega, h7, h8⟩
  | succ n ih =>
    obtain ⟨k1, e, l, he, hl, e7, e8⟩ := ih
    obtain ⟨s1, -, s3, s4, -⟩ := st_hour hR hb (hrs_v hR hV n) (-4)
    refine ⟨fun c hc => (s1 c hc).trans (k1 c hc), ?_⟩
    have g7 : ∃ e', e' ≤ n + 1 ∧ sHour C nb (-4) (hrs C nb f n) (11 * b + 7) = nI e' := by
      rcases s3 with z | z
      · exact ⟨e, by omega, z.trans e7⟩
      · exact ⟨e + 1, by omega, by rw [z, e7, nI_1]⟩
    have g8 : ∃ e', e' ≤ n + 1 ∧ sHour C nb (-4) (hrs C nb f n) (11 * b + 8) = nI e' := by
      rcases s4 with z | z
      · exact ⟨l, by omega, z.trans e8⟩
      · exact ⟨l + 1, by omega, by rw [z, e8, nI_1]⟩
    obtain ⟨e', a1, a2⟩ := g7
    obtain ⟨l', b1, b2⟩ := g8
    exact ⟨e', l', a1, b1, a2, b2⟩
/-- hours in which it goes, of the first n -/
def aG (C : Mem) (nb : Nat) (f : Row) (b n : Nat) : Nat := sumF (fun j => if hrs C nb f j (11 * b + 1) = 1 then 1 else 0) n 0
theorem aG_s (n : Nat) : aG C nb f b (n + 1) = aG C nb f b n + if hrs C nb f n (11 * b + 1) = 1 then 1 else 0 := by
  unfold aG; rw [sumF_end, Nat.zero_add]
theorem aG_le (n : Nat) : aG C nb f b n ≤ n := by
  unfold aG
  have := sumF_le (F := fun j => if hrs C nb f j (11 * b + 1) = 1 then 1 else 0) (c := 1) n 0 (fun j _ _ => by split <;> omega)
  omega
theorem aG_go (hR : RC C M np nd nb ln ds) (hb : b < nb) (hV : HV C np nd nb ds f) (h1 : f (11 * b + 1) = 1) : ∀ n, hrs C nb f n (11 * b + 1) = 1 → aG C nb f b n = n := by
  intro n
  induction n with
  | zero => intro _; rfl
  | succ n ih =>
    intro hn
    have hp : hrs C nb f n (11 * b + 1) = 1 := by
      rcases hrs_do hR hb hV h1 n with z | z
      · exact z
      · have := hrs_st hR hb hV z 1 1 (by decide)
        rw [hn, z] at this
        exact absurd this (by decide)
    rw [aG_s, ih hp, if_pos hp]
def SAV (C : Mem) (nb : Nat) (f : Row) (b n : Nat) : Int32 := if hrs C nb f n (11 * b + 1) = 2 then nI (aG C nb f b n) else -4
theorem SAV_s (hR : RC C M np nd nb ln ds) (hb : b < nb) (hV : HV C np nd nb ds f) (h1 : f (11 * b + 1) = 1) {n : Nat} (hn : n < 2 ^ 30) : (if 0 ≤ SAV C nb f b n then SAV C nb f b n else if hrs C nb f (n + 1) (11 * b + 1) = 2 then nI (n + 1) else SAV C nb f b n) = SAV C nb f b (n + 1) := by
  have hle := aG_le (C := C) (nb := nb) (f := f) (b := b) n
  unfold SAV
  rcases hrs_do hR hb hV h1 n with z | z
  · have hz : ¬ hrs C nb f n (11 * b + 1) = 2 := by rw [z]; decide
    rw [if_neg hz, if_neg (by decide), aG_s, if_pos z, aG_go hR hb hV h1 n z]
  · have z' := (hrs_st hR hb hV z 1 1 (by decide)).trans z
    rw [if_pos z, if_pos (nI_pos' (by omega)), if_pos z', aG_s, if_neg (by rw [z]; decide)]
    rfl
/-- nothing that is read grows on the way -/
theorem rdK_mono (kd : Int32) {a c : Nat} (h : a ≤ c) (hc : c ≤ 7) : rdK kd (nI a) ≤ rdK kd (nI c) := by
  have H : ∀ c, c ≤ 7 → ∀ a, a ≤ c → (nI a - irm (nI a) 2 ≤ nI c - irm (nI c) 2) ∧ (imax (nI a) 4 ≤ imax (nI c) 4) ∧ (nI a / 2 ≤ nI c / 2) ∧ nI a ≤ nI c := by decide +kernel
  obtain ⟨h1, h2, h3, h4⟩ := H c hc a h
  unfold rdK
  split
  · exact h1
  · split
    · exact h2
    · split
      · exact h3
      · exact h4
theorem told_nI (m : Int32) {v : Nat} (hv : v < 8) : ∃ t, t ≤ 7 ∧ sSg2 C f b m (sSg1 C b m (nI v)) = nI t := by
  have H : ∀ v, v < 8 → (∃ t, t ≤ 7 ∧ (7 : Int32) - nI v = nI t) ∧ (∃ t, t ≤ 7 ∧ imin (nI v + 1) 7 = nI t) := by
    intro v hv
    refine ⟨⟨7 - v, by omega, by rw [show (7 : Int32) = nI 7 from rfl, pk_sub (by omega)]⟩, ?_⟩
    have H2 : ∀ v, v < 8 → imin (nI v + 1) 7 = nI (min (v + 1) 7) := by decide +kernel
    exact ⟨min (v + 1) 7, by omega, H2 v hv⟩
  have h1 : ∃ t, t ≤ 7 ∧ sSg1 C b m (nI v) = nI t := by
    unfold sSg1
    split
    · split
      · exact (H v hv).1
      · exact ⟨v, by omega, rfl⟩
    · exact ⟨v, by omega, rfl⟩
  obtain ⟨t, ht, e⟩ := h1
  rw [e]
  unfold sSg2
  split
  · split
    · exact ⟨t, ht, rfl⟩
    · exact (H t (by omega)).2
  · exact ⟨t, ht, rfl⟩
theorem sub_max {t e l : Nat} (ht : t ≤ 7) (he : e ≤ 99) (hl : l ≤ 99) : imax (nI t - nI e - 2 * nI l) 0 = nI (t - e - 2 * l) := by
  rw [show (2 : Int32) * nI l = nI (2 * l) from pk_mul 2 l]
  by_cases h : e + 2 * l ≤ t
  · rw [pk_sub (by omega), pk_sub (by omega)]
    have H : ∀ k, k ≤ 7 → imax (nI k) 0 = nI k := by decide +kernel
    exact H _ (by omega)
  · have e0 : t - e - 2 * l = 0 := by omega
    rw [e0]
    have hneg : (nI t - nI e - nI (2 * l)).toInt < 0 := by
      rw [Int32.toInt_sub, Int32.toInt_sub, nI_toInt (by omega), nI_toInt (by omega), nI_toInt (by omega)]
      rw [Int.bmod_eq_of_le (n := (t : Int) - (e : Int)) (by omega) (by omega), Int.bmod_eq_of_le (by omega) (by omega)]
      omega
    rw [← z_max, if_pos (by rw [i_le]; have h0 : (0 : Int32).toInt = 0 := rfl; omega)]
    rfl
theorem rd_falls {f' : Row} {v e l : Nat} (hv : v < 8) (h5 : f' (11 * b + 5) = f (11 * b + 5)) (h9 : f' (11 * b + 9) = f (11 * b + 9)) (h7 : f (11 * b + 7) = 0) (h8 : f (11 * b + 8) = 0) (e7 : f' (11 * b + 7) = nI e) (e8 : f' (11 * b + 8) = nI l) (he : e ≤ 99) (hl : l ≤ 99) : sRd C f' b (nI v) ≤ sRd C f b (nI v) := by
  unfold sRd sSgn
  rw [h5, h9, h7, h8, e7, e8]
  have e' : sSg2 C f' b (f (11 * b + 9)) (sSg1 C b (f (11 * b + 9)) (nI v)) = sSg2 C f b (f (11 * b + 9)) (sSg1 C b (f (11 * b + 9)) (nI v)) := rfl
  obtain ⟨t, ht, et⟩ := told_nI (C := C) (f := f) (b := b) (f (11 * b + 9)) hv
  rw [e', et, sub_max ht he hl, show (0 : Int32) = nI 0 from rfl, show nI t - nI 0 - 2 * nI 0 = nI t - nI 0 - 2 * nI 0 from rfl]
  have := sub_max (t := t) (e := 0) (l := 0) ht (by decide) (by decide)
  rw [show (0 : Int32) = nI 0 from rfl] at this
  rw [this]
  exact rdK_mono _ (by omega) (by omega)
end DL
