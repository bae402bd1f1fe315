/-! PURE: balks -/
section TB
variable (C : Mem) (nb b x : Nat)
/-- of ten to the n, by how many it stands behind n hours -/
def tB : Nat → Row → Nat
  | 0, f => if f (11 * b + 1) = 2 then 1 else 0
  | n + 1, f => (10 - x) * tB n (sHour C nb (-4) f) + x * tB n (sHour C nb (nI b) f)
def rW : Nat → Nat → Nat
  | 0, _ => 1
  | n + 1, s => (if s % 2 = 1 then x else 10 - x) * rW n (s / 2)
def rF : Nat → Nat → Row → Row
  | 0, _, f => f
  | n + 1, s, f => rF n (s / 2) (sHour C nb (if s % 2 = 1 then nI b else -4) f)
def sumF (F : Nat → Nat) : Nat → Nat → Nat
  | 0, _ => 0
  | m + 1, i => F i + sumF F m (i + 1)
end TB
theorem sumF_s (F : Nat → Nat) (m i : Nat) : sumF F (m + 1) i = F i + sumF F m (i + 1) := rfl
theorem rW_s (x n s : Nat) : rW x (n + 1) s = (if s % 2 = 1 then x else 10 - x) * rW x n (s / 2) := rfl
theorem rF_s (C : Mem) (nb b n s : Nat) (f : Row) : rF C nb b (n + 1) s f = rF C nb b n (s / 2) (sHour C nb (if s % 2 = 1 then nI b else -4) f) := rfl
theorem tB_s (C : Mem) (nb b x n : Nat) (f : Row) : tB C nb b x (n + 1) f = (10 - x) * tB C nb b x n (sHour C nb (-4) f) + x * tB C nb b x n (sHour C nb (nI b) f) := rfl
theorem sumF_pair (F : Nat → Nat) : ∀ m i, sumF F (2 * m) (2 * i) = sumF (fun s => F (2 * s) + F (2 * s + 1)) m i := by
  intro m
  induction m with
  | zero => intro i; rfl
  | succ m ih =>
    intro i
    rw [show 2 * (m + 1) = (2 * m + 1) + 1 by omega]
    show F (2 * i) + (F (2 * i + 1) + sumF F (2 * m) (2 * (i + 1))) = _
    rw [ih (i + 1), sumF_s]
    omega
theorem sumF_cong {F G : Nat → Nat} : ∀ m i, (∀ s, F s = G s) → sumF F m i = sumF G m i := by
  intro m i h
  rw [show F = G from funext h]
theorem sumF_lin (F G : Nat → Nat) (a c : Nat) : ∀ m i, sumF (fun s => a * F s + c * G s) m i = a * sumF F m i + c * sumF G m i := by
  intro m
  induction m with
  | zero => intro i; rfl
  | succ m ih =>
    intro i
    rw [sumF_s, sumF_s, sumF_s, ih (i + 1), Nat.mul_add, Nat.mul_add]
    omega
section TB2
variable {C M : Mem} {np nd nb b x fu : Nat} {ln ds : Nat → Nat → Nat}
theorem sum_up : ∀ n (f : Row), sumF (fun s => if rF C nb b n s f (11 * b + 1) = 2 then rW x n s else 0) (2 ^ n) 0 = tB C nb b x n f := by
  intro n
  induction n with
  | zero => intro f; rfl
  | succ n ih =>
    intro f
    rw [show 2 ^ (n + 1) = 2 * 2 ^ n by rw [Nat.pow_succ]; omega]
    have := sumF_pair (fun s => if rF C nb b (n + 1) s f (11 * b + 1) = 2 then rW x (n + 1) s else 0) (2 ^ n) 0
    rw [Nat.mul_zero] at this
    rw [this]
    rw [tB_s, ← ih (sHour C nb (-4) f), ← ih (sHour C nb (nI b) f), ← sumF_lin]
    refine sumF_cong _ _ (fun s => ?_)
    rw [rF_s, rF_s, rW_s, rW_s, show 2 * s % 2 = 0 by omega, show 2 * s / 2 = s by omega, show (2 * s + 1) % 2 = 1 by omega, show (2 * s + 1) / 2 = s by omega]
    rw [if_neg (show ¬ (0 = 1) by decide), if_neg (show ¬ (0 = 1) by decide), if_pos (show 1 = 1 from rfl), if_pos (show 1 = 1 from rfl)]
    congr 1
    · split <;> simp
    · split <;> simp
theorem sum_all (hx : x ≤ 10) : ∀ n, sumF (rW x n) (2 ^ n) 0 = 10 ^ n := by
  intro n
  induction n with
  | zero => rfl
  | succ n ih =>
    rw [show 2 ^ (n + 1) = 2 * 2 ^ n by rw [Nat.pow_succ]; omega]
    have := sumF_pair (rW x (n + 1)) (2 ^ n) 0
    rw [Nat.mul_zero] at this
    rw [this]
    have e : (fun s => rW x (n + 1) (2 * s) + rW x (n + 1) (2 * s + 1)) = fun s => (10 - x) * rW x n s + x * rW x n s := by
      funext s
      rw [rW_s, rW_s, show 2 * s % 2 = 0 by omega, show 2 * s / 2 = s by omega, show (2 * s + 1) % 2 = 1 by omega, show (2 * s + 1) / 2 = s by omega, if_neg (by decide), if_pos rfl]
    rw [e, sumF_lin, ih, ← Nat.add_mul, show 10 - x + x = 10 by omega, Nat.pow_succ, Nat.mul_comm]
theorem tB_le (hx : x ≤ 10) : ∀ n (f : Row), tB C nb b x n f ≤ 10 ^ n := by
  intro n
  induction n with
  | zero => intro f; unfold tB; split <;> simp
  | succ n ih =>
    intro f
    rw [tB_s]
    have h1 := Nat.mul_le_mul_left (10 - x) (ih (sHour C nb (-4) f))
    have h2 := Nat.mul_le_mul_left x (ih (sHour C nb (nI b) f))
    have h3 : (10 - x) * 10 ^ n + x * 10 ^ n = 10 ^ (n + 1) := by rw [← Nat.add_mul, show 10 - x + x = 10 by omega, Nat.pow_succ, Nat.mul_comm]
    omega
theorem tB_st (hR : RC C M np nd nb ln ds) (hb : b < nb) (hx : x ≤ 10) : ∀ n (f : Row), HV C np nd nb ds f → f (11 * b + 1) = 2 → tB C nb b x n f = 10 ^ n := by
  intro n
  induction n with
  | zero => intro f _ h; unfold tB; rw [if_pos h, Nat.pow_zero]
  | succ n ih =>
    intro f hV h
    have hs : ∀ bal, sHour C nb bal f (11 * b + 1) = 2 := fun bal => ((st_hour hR hb hV bal).2.2.2.2 (by rw [h]; decide) (by rw [h]; decide) 1 (by decide)).trans h
    rw [tB_s, ih _ (v_hour hR hV _) (hs _), ih _ (v_hour hR hV _) (hs _), ← Nat.add_mul, show 10 - x + x = 10 by omega, Nat.pow_succ, Nat.mul_comm]
theorem tB_no (hR : RC C M np nd nb ln ds) (hb : b < nb) : ∀ n (f : Row), HV C np nd nb ds f → f (11 * b + 1) = 0 ∨ f (11 * b + 1) = 3 → tB C nb b x n f = 0 := by
  intro n
  induction n with
  | zero => intro f _ h; unfold tB; rw [if_neg (by rcases h with h | h <;> rw [h] <;> decide)]
  | succ n ih =>
    intro f hV h
    have hs : ∀ bal, sHour C nb bal f (11 * b + 1) = 0 ∨ sHour C nb bal f (11 * b + 1) = 3 := fun bal => by
      rcases (st_hour hR hb hV bal).2.1 with z | z | z
      · rw [z]; exact h
      · rw [z.1] at h; exact absurd h (by decide)
      · exact Or.inl z.2
    rw [tB_s, ih _ (v_hour hR hV _) (hs _), ih _ (v_hour hR hV _) (hs _)]
    omega
theorem tB_cong (hn : nb ≤ 5) (hb : b < 5) : ∀ n (f f' : Row), (∀ j, j < 64 → f' j = f j) → tB C nb b x n f' = tB C nb b x n f := by
  intro n
  induction n with
  | zero => intro f f' h; unfold tB; rw [h _ (by omega)]
  | succ n ih =>
    intro f f' h
    rw [tB_s, tB_s, ih _ _ (hour_cong hn (-4) h), ih _ _ (hour_cong hn (nI b) h)]
/-- the class's weighing -/
theorem x_power {A : Mem} {n : Nat} (h8 : n ≤ 8) (hf : 1000 < fu) : pX0_power fu (nI n) A = some (nI (10 ^ n), A) := by
  have L : ∀ m i t, i + m = n → m < t → pX0_power_4 fu t (nI n) (nI (10 ^ i)) (nI i) A = some (nI (10 ^ n), A) := by
    intro m
    induction m with
    | zero =>
      intro i t hi ht
      obtain ⟨t, rfl⟩ : ∃ q, t = q + 1 := ⟨t - 1, by omega⟩
      show pX0_power_4b fu (nI n) (nI (10 ^ i)) (nI i) A _ = _
      unfold pX0_power_4b
      rw [if_pos ((nI_le_iff (by omega) (by omega)).mpr (by omega)), show i = n by omega]
    | succ m ih =>
      intro i t hi ht
      obtain ⟨t, rfl⟩ : ∃ q, t = q + 1 := ⟨t - 1, by omega⟩
      show pX0_power_4b fu (nI n) (nI (10 ^ i)) (nI i) A _ = _
      unfold pX0_power_4b
      rw [if_neg (fun q => by have := (nI_le_iff (by omega) (by omega)).mp q; omega), if_neg (fun q => by have := (nI_le_iff (a := 8) (by decide) (by omega)).mp q; omega), nI_1, show nI (10 ^ i) * (10 : Int32) = nI (10 ^ (i + 1)) from by rw [show (10 : Int32) = nI 10 from rfl, pk_mul, Nat.pow_succ]]
      exact ih (i + 1) t (by omega) (by omega)
  exact L n 0 fu (by omega) (by omega)
theorem x_weigh {A0 : Mem} (hR : RC A0 M np nd nb ln ds) (hb : b < nb) (hx : x ≤ 10) (hf : 1000 < fu) : ∀ n d (A : Mem), n ≤ 8 → n < d → pA A0 A → HV A0 np nd nb ds (A (64 + 2 * n)) → ∃ A', pX0_weigh fu d (nI b) (nI n) (nI x) A = some (nI (tB A0 nb b x n (A (64 + 2 * n))), A') ∧ pA A0 A' ∧ ∀ q, n ≤ q → A' (64 + 2 * q) = A (64 + 2 * q) := by
  have hn := hR.1
  intro n
  induction n with
  | zero =>
    intro d A h8 hd hA hV
    obtain ⟨d, rfl⟩ : ∃ q, d = q + 1 := ⟨d - 1, by omega⟩
    show ∃ A', pX0_weighb fu (pX0_weigh fu d) (nI b) (nI 0) (nI x) A = _ ∧ _
    unfold pX0_weighb
    rw [if_neg (show ¬ nI 0 < 0 from by decide), if_neg (show ¬ (9 : Int32) ≤ nI 0 from by decide)]
    simp only [ldr_nI (show 0 < 9 by decide) (show 9 < 2 ^ 31 by decide)]
    rw [x_carries (by omega), bI_some, x_is (by omega), bI_some]
    have e64 : A (62 + 1 + 2 * 0 + 1) = A (64 + 2 * 0) := rfl
    rw [e64]
    refine ⟨A, ?_, hA, fun _ _ => rfl⟩
    by_cases q2 : A (64 + 2 * 0) (11 * b + 1) = 2
    · have hp : pX0_power fu (nI 0) A = some (nI (10 ^ 0), A) := x_power (by decide) hf
      rw [if_pos (Or.inr q2), if_neg one_ne, if_pos q2, if_neg one_ne, hp, bI_some, tB_st hR hb hx 0 _ hV q2]
    · have e0 : tB A0 nb b x 0 (A (64 + 2 * 0)) = 0 := by unfold tB; rw [if_neg q2]
      rw [e0]
      by_cases q1 : A (64 + 2 * 0) (11 * b + 1) = 1
      · rw [if_pos (Or.inl q1), if_neg one_ne, if_neg q2, if_pos rfl, if_pos (show nI 0 = 0 from rfl)]; rfl
      · rw [if_neg (show ¬ (A (64 + 2 * 0) (11 * b + 1) = 1 ∨ A (64 + 2 * 0) (11 * b + 1) = 2) from fun z => z.elim q1 q2), if_pos rfl]; rfl
  | succ n ih =>
    intro d A h8 hd hA hV
    obtain ⟨d, rfl⟩ : ∃ q, d = q + 1 := ⟨d - 1, by omega⟩
    show ∃ A', pX0_weighb fu (pX0_weigh fu d) (nI b) (nI (n + 1)) (nI x) A = _ ∧ _
    unfold pX0_weighb
    rw [if_neg (nI_pos (by omega)), if_neg (fun q => by have := (nI_le_iff (a := 9) (by decide) (by omega)).mp q; omega)]
    have em : nI (n + 1) - 1 = nI n := nI_pred n
    simp only [em, ldr_nI (show n + 1 < 9 by omega) (show 9 < 2 ^ 31 by decide), ldr_nI (show n < 9 by omega) (show 9 < 2 ^ 31 by decide)]
    rw [x_carries (by omega), bI_some]
    have e64 : A (62 + 1 + 2 * (n + 1) + 1) = A (64 + 2 * (n + 1)) := by congr 1; omega
    rw [e64]
    by_cases q2 : A (64 + 2 * (n + 1)) (11 * b + 1) = 2
    · rw [if_pos (Or.inr q2), if_neg one_ne, x_is (by omega), bI_some, e64, if_pos q2, if_neg one_ne, x_power h8 hf, bI_some, tB_st hR hb hx (n + 1) _ hV q2]
      exact ⟨A, rfl, hA, fun _ _ => rfl⟩
    · by_cases q1 : A (64 + 2 * (n + 1)) (11 * b + 1) = 1
      · rw [if_pos (Or.inl q1), if_neg one_ne, x_is (by omega), bI_some, e64, if_neg q2, if_pos rfl, if_neg (show ¬ nI (n + 1) = 0 from fun q => by have := (nI_eq_iff (b := 0) (by omega) (by decide)).mp q; omega)]
        have k1 : 62 + 1 + 2 * n = 63 + 2 * n := by omega
        have k2 : 62 + 1 + 2 * (n + 1) = 65 + 2 * n := by omega
        have k3 : 63 + 2 * n + 1 = 64 + 2 * n := by omega
        have k4 : 65 + 2 * n + 1 = 66 + 2 * n := by omega
        have k5 : 64 + 2 * (n + 1) = 66 + 2 * n := by omega
        rw [k5] at hV q1 q2
        rw [k1, k2, k5, x_copy, bV_some, k3, k4]
        have hc1 : ∀ (A : Mem) (g : Row), ∀ j, j < 64 → va_cpy (A (66 + 2 * n)) g 0 0 64 j = A (66 + 2 * n) j := fun A g j hj => cpy_at _ _ hj
        have hA1 : pA A0 (upR A (64 + 2 * n) (va_cpy (A (66 + 2 * n)) (A (64 + 2 * n)) 0 0 64)) := pA_tr hA (pA_up (by omega))
        rw [x_goOn (pA_CC hA1) hR.2.1.2.2 (by omega) (by omega) (-4) (by omega), bV_some, k3, upR_at, upR_upR]
        have hV1 : HV A0 np nd nb ds (va_cpy (A (66 + 2 * n)) (A (64 + 2 * n)) 0 0 64) := HV_cong (by omega) (by omega) hV (hc1 A _)
        obtain ⟨A2, e1, hA2, hq2⟩ := ih d (upR A (64 + 2 * n) (sHour A0 nb (-4) (va_cpy (A (66 + 2 * n)) (A (64 + 2 * n)) 0 0 64))) (by omega) (by omega) (pA_tr hA (pA_up (by omega))) (by rw [upR_at]; exact v_hour hR hV1 _)
        rw [e1, bI_some, upR_at, x_copy, bV_some, k3, k4]
        have e66 : A2 (66 + 2 * n) = A (66 + 2 * n) := by
          have := hq2 (n + 1) (by omega)
          rw [k5] at this
          rw [this, upR_ne (by omega)]
        rw [e66]
        have hA3 : pA A0 (upR A2 (64 + 2 * n) (va_cpy (A (66 + 2 * n)) (A2 (64 + 2 * n)) 0 0 64)) := pA_tr hA2 (pA_up (by omega))
        rw [x_goOn (pA_CC hA3) hR.2.1.2.2 (by omega) (by omega) (nI b) (by omega), bV_some, k3, upR_at, upR_upR]
        have hV3 : HV A0 np nd nb ds (va_cpy (A (66 + 2 * n)) (A2 (64 + 2 * n)) 0 0 64) := HV_cong (by omega) (by omega) hV (hc1 A _)
        obtain ⟨A4, e2, hA4, hq4⟩ := ih d (upR A2 (64 + 2 * n) (sHour A0 nb (nI b) (va_cpy (A (66 + 2 * n)) (A2 (64 + 2 * n)) 0 0 64))) (by omega) (by omega) (pA_tr hA2 (pA_up (by omega))) (by rw [upR_at]; exact v_hour hR hV3 _)
        rw [e2, bI_some, upR_at]
        refine ⟨A4, ?_, hA4, fun q hq => ?_⟩
        · rw [tB_cong (by omega) (by omega) n _ _ (hour_cong (by omega) (-4) (hc1 A _)), tB_cong (by omega) (by omega) n _ _ (hour_cong (by omega) (nI b) (hc1 A _))]
          rw [show (10 : Int32) - nI x = nI (10 - x) from by rw [show (10 : Int32) = nI 10 from rfl, pk_sub hx], pk_mul, pk_mul, nI_add]
          rfl
        · rw [hq4 q (by omega), upR_ne (by omega), hq2 q (by omega), upR_ne (by omega)]
      · rw [if_neg (show ¬ (A (64 + 2 * (n + 1)) (11 * b + 1) = 1 ∨ A (64 + 2 * (n + 1)) (11 * b + 1) = 2) from fun z => z.elim q1 q2), if_pos rfl]
        have h03 : A (64 + 2 * (n + 1)) (11 * b + 1) = 0 ∨ A (64 + 2 * (n + 1)) (11 * b + 1) = 3 := by
          rcases hV.1 b hb with z | z | z
          · exact Or.inl z.1
          · exact absurd z.1 q2
          · rcases z.1 with z | z
            · exact absurd z.1 q1
            · exact Or.inr z.1
        rw [tB_no hR hb (n + 1) _ hV h03]
        exact ⟨A, rfl, hA, fun _ _ => rfl⟩
theorem bit_ok : ∀ s, s < 256 → ∀ k, k < 8 → decide ((nI s >>> (nI k &&& 31)) &&& (1 : Int32) = (1 : Int32)) = decide (s / 2 ^ k % 2 = 1) := by decide +kernel
theorem m_has {B : Mem} {s k : Nat} (hs : s < 256) (hk : k < 8) : pX10_has fu (nI s) (nI k) B = some (if s / 2 ^ k % 2 = 1 then 1 else 0, B) := by
  unfold pX10_has
  rw [rtz_0, rtz_1]
  have := decide_eq_decide.mp (bit_ok s hs k hk)
  by_cases q : s / 2 ^ k % 2 = 1
  · rw [if_pos (this.mpr q), if_pos q]
  · rw [if_neg (fun z => q (this.mp z)), if_neg q]
theorem m_bal76 {C B0 : Mem} (hb : b < nb) (hx : x ≤ 10) (hf : 1000 < fu) {n s : Nat} (hn8 : n ≤ 8) (hs : s < 256) (x4 x5 x6 : Int32) (K : Int32 → Int32 → Int32 → Int32 → Int32 → Int32 → Int32 → Int32 → Mem → Res) : ∀ (m k t w : Nat) (B : Mem) (f : Row), RC C B np nd nb ln ds → pB B0 B → HM np nb f (B 12) 704 → HV C np nd nb ds f → k + m = n → m < t → ∃ B', pX10_balks_76 fu K t (nI b) (nI n) (nI x) x4 x5 x6 (nI s) (nI w) (nI k) B = K (nI b) (nI n) (nI x) x4 x5 x6 (nI s) (nI (w * rW x m (s / 2 ^ k))) B' ∧ pB B0 B' ∧ HM np nb (rF C nb b m (s / 2 ^ k) f) (B' 12) 704 := by
  intro m
  induction m with
  | zero =>
    intro k t w B f hR hB hM hV hk ht
    obtain ⟨t, rfl⟩ : ∃ q, t = q + 1 := ⟨t - 1, by omega⟩
    refine ⟨B, ?_, hB, hM⟩
    show pX10_balks_76b fu (nI b) (nI n) (nI x) x4 x5 x6 (nI s) (nI w) (nI k) B _ _ = _
    unfold pX10_balks_76b rW
    rw [if_pos ((nI_le_iff (by omega) (by omega)).mpr (by omega)), Nat.mul_one]
  | succ m ih =>
    intro k t w B f hR hB hM hV hk ht
    have hn := hR.1
    obtain ⟨t, rfl⟩ : ∃ q, t = q + 1 := ⟨t - 1, by omega⟩
    show ∃ B', pX10_balks_76b fu (nI b) (nI n) (nI x) x4 x5 x6 (nI s) (nI w) (nI k) B _ _ = _ ∧ _
    unfold pX10_balks_76b pX10_balks_102 pX10_balks_124
    rw [if_neg (fun q => by have := (nI_le_iff (by omega) (by omega)).mp q; omega), m_has hs (by omega), bI_some, m_has hs (by omega), bI_some, bI_some, nI_1]
    have e10 : (10 : Int32) - nI x = nI (10 - x) := by rw [show (10 : Int32) = nI 10 from rfl, pk_sub hx]
    have ed : s / 2 ^ k / 2 = s / 2 ^ (k + 1) := by rw [Nat.div_div_eq_div_mul, Nat.pow_succ]
    rw [e10, pk_mul, pk_mul, rW_s, rF_s, ed]
    by_cases q : s / 2 ^ k % 2 = 1
    · obtain ⟨s', g1, g2, g3, g4⟩ := m_hour (fu := fu) (base := 704) hR (by decide) (by omega) (nI b) (nI b) (fun _ _ => Iff.rfl) hM hV
      have g1' : pX10_hour fu 704 (nI b) B = _ := g1
      simp only [if_pos q, if_neg one_ne]
      rw [g1', bV_some]
      have hB' := pB_tr hB (pB_fr g4)
      obtain ⟨B', e1, e2, e3⟩ := ih (k + 1) t (w * x) _ _ (RC_up hR (by decide) s') hB' (by rw [upR_at]; exact g2) g3 (by omega) (by omega)
      exact ⟨B', by rw [e1, Nat.mul_assoc], e2, e3⟩
    · obtain ⟨s', g1, g2, g3, g4⟩ := m_hour (fu := fu) (base := 704) hR (by decide) (by omega) (-4) (-1) nobal hM hV
      have g1' : pX10_hour fu 704 (-1) B = _ := g1
      simp only [if_neg q, if_true]
      rw [g1', bV_some]
      have hB' := pB_tr hB (pB_fr g4)
      obtain ⟨B', e1, e2, e3⟩ := ih (k + 1) t (w * (10 - x)) _ _ (RC_up hR (by decide) s') hB' (by rw [upR_at]; exact g2) g3 (by omega) (by omega)
      exact ⟨B', by rw [e1, Nat.mul_assoc], e2, e3⟩
theorem shl_ok : ∀ n, n ≤ 8 → (1 : Int32) <<< (nI n &&& 31) = nI (2 ^ n) := by decide +kernel
theorem rF_cong (hn : nb ≤ 5) : ∀ n s (f f' : Row), (∀ j, j < 64 → f' j = f j) → ∀ j, j < 64 → rF C nb b n s f' j = rF C nb b n s f j := by
  intro n
  induction n with
  | zero => intro s f f' h; exact h
  | succ n ih =>
    intro s f f' h
    rw [rF_s, rF_s]
    exact ih _ _ _ (hour_cong hn _ h)
theorem m_bal54 {A0 B0 : Mem} (hR : RC A0 B0 np nd nb ln ds) (hN : HMV A0 B0 np nd nb ds 28 0) (hb : b < nb) (hx : x ≤ 10) (hf : 1000 < fu) {n : Nat} (hn8 : n ≤ 8) (x4 : Int32) (K : Int32 → Int32 → Int32 → Mem → Res) : ∀ (m s t u a : Nat) (B : Mem), pB B0 B → s + m = 2 ^ n → m < t → ∃ B', pX10_balks_54 fu K t (nI b) (nI n) (nI x) x4 (nI u) (nI a) (nI s) B = K x4 (nI (u + sumF (fun s => if rF A0 nb b n s (A0 28) (11 * b + 1) = 2 then rW x n s else 0) m s)) (nI (a + sumF (rW x n) m s)) B' ∧ pB B0 B' := by
  have hn := hR.1
  have h256 : 2 ^ n ≤ 256 := Nat.pow_le_pow_right (by decide) hn8
  intro m
  induction m with
  | zero =>
    intro s t u a B hB hs ht
    obtain ⟨t, rfl⟩ : ∃ q, t = q + 1 := ⟨t - 1, by omega⟩
    refine ⟨B, ?_, hB⟩
    show pX10_balks_54b fu (nI b) (nI n) (nI x) x4 (nI u) (nI a) (nI s) B _ _ = _
    unfold pX10_balks_54b
    rw [shl_ok n hn8, if_pos ((nI_le_iff (by omega) (by omega)).mpr (by omega))]
    rfl
  | succ m ih =>
    intro s t u a B hB hs ht
    obtain ⟨t, rfl⟩ : ∃ q, t = q + 1 := ⟨t - 1, by omega⟩
    have hRB := pB_RC hR hB
    show ∃ B', pX10_balks_54b fu (nI b) (nI n) (nI x) x4 (nI u) (nI a) (nI s) B _ _ = _ ∧ _
    unfold pX10_balks_54b
    rw [shl_ok n hn8, if_neg (fun q => by have := (nI_le_iff (by omega) (by omega)).mp q; omega)]
    obtain ⟨s', g1, g2, g3, g4⟩ := m_try (fu := fu) (f := A0 28) hRB (pB_HM (by omega) (by omega) hN.1 hB) hN.2 (fun j hj => rfl) hf
    rw [g1, bV_some]
    have hB1 := pB_tr hB (pB_fr g2)
    obtain ⟨B2, e1, e2, e3⟩ := m_bal76 (fu := fu) (x := x) (n := n) (s := s) hb hx hf hn8 (by omega) x4 (nI u) (nI a) (fun y15 y16 y17 y18 y19 y20 y21 y22 M23 =>
      ld M23 12 768 ((704 : Int32) + y15) fun v24 =>
      if v24 = (2 : Int32) then (
        pX10_balks_162 fu  y15 y16 y17 y18 (y20 + y22) y21 y22 y19 M23 (pX10_balks_54 fu K t))
      else
      pX10_balks_162 fu  y15 y16 y17 y18 (y20 + y22) y21 (0 : Int32) y19 M23 (pX10_balks_54 fu K t)) n 0 fu 1 _ _ (RC_up hRB (by decide) s') hB1 (by rw [upR_at]; exact g3) g4 (by omega) (by omega)
    have e1' : pX10_balks_76 fu _ fu (nI b) (nI n) (nI x) x4 (nI u) (nI a) (nI s) 1 0 _ = _ := e1
    rw [e1']
    rw [Nat.pow_zero, Nat.div_one] at e3 ⊢
    have e4 := e3.1 b hb 1 (by decide) (by decide)
    rw [show off 1 + b = 0 + b from by simp [off], Nat.zero_add] at e4
    rw [show (704 : Int32) + nI b = nI (704 + b) from nI_add 704 b, ld_nI (by omega) (by decide), e4, Nat.one_mul, sumF_s, sumF_s]
    unfold pX10_balks_162
    simp only [nI_1, nI_add]
    by_cases q : rF A0 nb b n s (A0 28) (11 * b + 1) = 2
    · rw [if_pos q, if_pos q, ← Nat.add_assoc, ← Nat.add_assoc]
      exact ih (s + 1) t _ _ B2 e2 (by omega) (by omega)
    · rw [if_neg q, if_neg q, Nat.zero_add, ← Nat.add_assoc, show nI u + (0 : Int32) = nI u from nI_add u 0]
      exact ih (s + 1) t _ _ B2 e2 (by omega) (by omega)
end TB2
/-! the common divisor, in both -/
theorem mod_half {q r : Nat} (h0 : 0 < r) (h : r < q) : 2 * (q % r) < q := by
  have h1 := Nat.mod_lt q h0
  have h2 := Nat.div_add_mod q r
  have h3 : 1 ≤ q / r := (Nat.le_div_iff_mul_le h0).mpr (by omega)
  have h4 : r * 1 ≤ r * (q / r) := Nat.mul_le_mul_left r h3
  omega
theorem gcd_st (p q : Nat) : Nat.gcd p q = Nat.gcd q (p % q) := by rw [Nat.gcd_comm p q, Nat.gcd_rec q p, Nat.gcd_comm]
theorem x_gcd {fu : Nat} {A : Mem} : ∀ n p q i t, p < 2 ^ 31 → q < 2 ^ n → n ≤ 30 → i + 2 * n < 100 → 2 * n + 1 < t → pX0_commonDivisor_7 fu t (nI p) (nI q) (nI i) A = some (nI (Nat.gcd p q), A) := by
  intro n
  induction n with
  | zero =>
    intro p q i t hp hq hn hi ht
    have h0 : q = 0 := by rw [Nat.pow_zero] at hq; omega
    subst h0
    obtain ⟨t, rfl⟩ : ∃ z, t = z + 1 := ⟨t - 1, by omega⟩
    show pX0_commonDivisor_7b fu (nI p) (nI 0) (nI i) A _ = _
    unfold pX0_commonDivisor_7b
    rw [if_neg (fun z => by have := (nI_le_iff (a := 100) (by decide) (by omega)).mp z; omega), if_pos (show nI 0 = 0 from rfl), Nat.gcd_zero_right]
  | succ n ih =>
    intro p q i t hp hq hn hi ht
    have h30 : 2 ^ (n + 1) ≤ 2 ^ 30 := Nat.pow_le_pow_right (by decide) hn
    rw [Nat.pow_succ] at hq h30
    obtain ⟨t, rfl⟩ : ∃ z, t = z + 1 := ⟨t - 1, by omega⟩
    show pX0_commonDivisor_7b fu (nI p) (nI q) (nI i) A _ = _
    unfold pX0_commonDivisor_7b
    rw [if_neg (fun z => by have := (nI_le_iff (a := 100) (by decide) (by omega)).mp z; omega)]
    by_cases h0 : q = 0
    · subst h0
      rw [if_pos (show nI 0 = 0 from rfl), Nat.gcd_zero_right]
    · have hz : ¬ nI q = 0 := fun z => h0 ((nI_eq_iff (b := 0) (by omega) (by decide)).mp z)
      rw [if_neg hz, if_neg hz, show irm (nI p) (nI q) = nI (p % q) from pk_rem hp (by omega) (by omega), nI_1, gcd_st]
      have hr := Nat.mod_lt p (show 0 < q by omega)
      obtain ⟨t, rfl⟩ : ∃ z, t = z + 1 := ⟨t - 1, by omega⟩
      show pX0_commonDivisor_7b fu (nI q) (nI (p % q)) (nI (i + 1)) A _ = _
      unfold pX0_commonDivisor_7b
      rw [if_neg (fun z => by have := (nI_le_iff (a := 100) (by decide) (by omega)).mp z; omega)]
      by_cases h1 : p % q = 0
      · rw [h1, if_pos (show nI 0 = 0 from rfl), Nat.gcd_zero_right]
      · have hz1 : ¬ nI (p % q) = 0 := fun z => h1 ((nI_eq_iff (b := 0) (by omega) (by decide)).mp z)
        have h2 := mod_half (Nat.pos_of_ne_zero h1) hr
        rw [if_neg hz1, if_neg hz1, show irm (nI q) (nI (p % q)) = nI (q % (p % q)) from pk_rem (by omega) (by omega) (by omega), nI_1, gcd_st]
        exact ih (p % q) _ (i + 1 + 1) t (by omega) (by omega) (by omega) (by omega) (by omega)
theorem m_gcd {fu : Nat} {B : Mem} (x4 x5 x6 : Int32) (K : Int32 → Int32 → Int32 → Int32 → Mem → Res) : ∀ n p q t, p < 2 ^ 31 → q < 2 ^ n → n ≤ 30 → 2 * n + 1 < t → pX10_balks_179 fu K t x4 x5 x6 (nI p) (nI q) B = K x4 x5 x6 (nI (Nat.gcd p q)) B := by
  intro n
  induction n with
  | zero =>
    intro p q t hp hq hn ht
    have h0 : q = 0 := by rw [Nat.pow_zero] at hq; omega
    subst h0
    obtain ⟨t, rfl⟩ : ∃ z, t = z + 1 := ⟨t - 1, by omega⟩
    show pX10_balks_179b fu x4 x5 x6 (nI p) (nI 0) B _ _ = _
    unfold pX10_balks_179b
    rw [if_pos (show nI 0 = 0 from rfl), Nat.gcd_zero_right]
  | succ n ih =>
    intro p q t hp hq hn ht
    have h30 : 2 ^ (n + 1) ≤ 2 ^ 30 := Nat.pow_le_pow_right (by decide) hn
    rw [Nat.pow_succ] at hq h30
    obtain ⟨t, rfl⟩ : ∃ z, t = z + 1 := ⟨t - 1, by omega⟩
    show pX10_balks_179b fu x4 x5 x6 (nI p) (nI q) B _ _ = _
    unfold pX10_balks_179b
    by_cases h0 : q = 0
    · subst h0
      rw [if_pos (show nI 0 = 0 from rfl), Nat.gcd_zero_right]
    · have hz : ¬ nI q = 0 := fun z => h0 ((nI_eq_iff (b := 0) (by omega) (by decide)).mp z)
      rw [if_neg hz, if_neg hz, show irm (nI p) (nI q) = nI (p % q) from pk_rem hp (by omega) (by omega), gcd_st]
      have hr := Nat.mod_lt p (show 0 < q by omega)
      obtain ⟨t, rfl⟩ : ∃ z, t = z + 1 := ⟨t - 1, by omega⟩
      show pX10_balks_179b fu x4 x5 x6 (nI q) (nI (p % q)) B _ _ = _
      unfold pX10_balks_179b
      by_cases h1 : p % q = 0
      · rw [h1, if_pos (show nI 0 = 0 from rfl), Nat.gcd_zero_right]
      · have hz1 : ¬ nI (p % q) = 0 := fun z => h1 ((nI_eq_iff (b := 0) (by omega) (by decide)).mp z)
        have h2 := mod_half (Nat.pos_of_ne_zero h1) hr
        rw [if_neg hz1, if_neg hz1, show irm (nI q) (nI (p % q)) = nI (q % (p % q)) from pk_rem (by omega) (by omega) (by omega), gcd_st]
        exact ih (p % q) _ t (by omega) (by omega) (by omega) (by omega)
theorem in_iff (v : Int32) (n : Nat) (hn : n < 2 ^ 31) : inR v (n + 1) ↔ ¬ v < 0 ∧ ¬ nI n < v := by
  have h0 : (0 : Int32).toInt = 0 := rfl
  rw [i_lt, i_lt, h0, nI_toInt hn]
  constructor
  · intro h; exact ⟨by omega, by have := h.2; omega⟩
  · intro h; exact ⟨by omega, by omega⟩
theorem a_balks {A B : Mem} {fu : Nat} (h : REL A B) (hf : 1000 < fu) (x y v w : Int32) : AGREE (pX9_balks fu x y v w A) (pX10_balks fu x y v w B) := by
  have h' := h
  obtain ⟨np, nd, nb, ln, ds, hR, hN, -⟩ := h'
  have hn := hR.1
  have hCC := CC_rf A
  unfold pX9_balks pX10_balks
  rw [x_hasB hCC hR, m_isBeast hR, bI_some, bI_some]
  by_cases hx : inR x nb
  · rw [if_pos hx, if_neg one_ne, if_neg one_ne, m_in0 y 8 9 (by decide), bI_some]
    by_cases hy : inR y 9
    · have hy' := (in_iff y 8 (by decide)).mp hy
      rw [if_pos hy, if_neg one_ne, if_neg hy'.1, if_neg (show ¬ (8 : Int32) < y from hy'.2), m_in0 v 10 11 (by decide), bI_some]
      by_cases hv : inR v 11
      · have hv' := (in_iff v 10 (by decide)).mp hv
        rw [if_pos hv, if_neg one_ne, if_neg hv'.1, if_neg (show ¬ (10 : Int32) < v from hv'.2), m_in0 w 1 2 (by decide), bI_some]
        have h0 : (0 : Int32).toInt = 0 := rfl
        have h1 : (1 : Int32).toInt = 1 := rfl
        by_cases hw : inR w 2
        · rw [if_pos hw, if_neg one_ne, if_neg (show ¬ w < 0 from fun q => by rw [i_lt, h0] at q; omega), if_pos (show w ≤ 1 from by rw [i_le, h1]; omega)]
          obtain ⟨b, hb, rfl⟩ := of_inR hx (by omega)
          obtain ⟨n, hn9, rfl⟩ := of_inR hy (by omega)
          obtain ⟨t, ht, rfl⟩ := of_inR hv (by omega)
          have hpw : 10 ^ n ≤ 10 ^ 8 := Nat.pow_le_pow_right (by decide) (by omega)
          have hp1 : 1 ≤ 10 ^ n := Nat.pow_pos (by decide)
          have hpw' : 10 ^ n < 2 ^ 27 := by have : (10 : Nat) ^ 8 < 2 ^ 27 := by decide
                                            omega
          unfold pX0_weightOf
          rw [if_neg hy'.1, if_neg (fun q => by have := (nI_le_iff (a := 9) (by decide) (by omega)).mp q; omega), ldr_nI (by omega) (by decide), ldr_nI (by omega) (by decide), x_copy, bV_some, show 62 + 1 + 2 * n + 1 = 64 + 2 * n by omega]
          have hc : ∀ j, j < 64 → va_cpy (A (27 + 1)) (A (64 + 2 * n)) 0 0 64 j = A 28 j := fun j hj => cpy_at _ _ hj
          obtain ⟨A', e1, e2, -⟩ := x_weigh (fu := fu) hR hb (show t ≤ 10 by omega) hf n 10 (upR A (64 + 2 * n) (va_cpy (A (27 + 1)) (A (64 + 2 * n)) 0 0 64)) (by omega) (by omega) (pA_up (by omega)) (by rw [upR_at]; exact HV_cong (by omega) (by omega) hN.2 hc)
          rw [e1, bI_some, bI_some, x_power (by omega) hf, bI_some, upR_at, tB_cong (by omega) (by omega) n _ _ hc]
          have hU := tB_le (C := A) (nb := nb) (b := b) (x := t) (by omega) n (A 28)
          unfold pX0_commonDivisor
          have e3 := x_gcd (fu := fu) (A := A') 27 (tB A nb b t n (A 28)) (10 ^ n) 0 fu (by omega) (by omega) (by decide) (by decide) (by omega)
          have e3' : pX0_commonDivisor_7 fu fu _ _ 0 A' = _ := e3
          rw [e3', bI_some]
          obtain ⟨B', e4, e5⟩ := m_bal54 (fu := fu) hR hN hb (show t ≤ 10 by omega) hf (show n ≤ 8 by omega) w (fun y25 y26 y27 M28 =>
      pX10_balks_179 fu
        (fun y29 y30 y31 y32 M33 =>
          if y29 = 0 then (
            if y32 = 0 then none else
            some ((y30 / y32), M33))
          else
          if y32 = 0 then none else
          some ((y31 / y32), M33))
        fu y25 y26 y27 y26 y27 M28) (2 ^ n) 0 fu 0 0 B (pB_rf B) (by omega) (by have : 2 ^ n ≤ 2 ^ 8 := Nat.pow_le_pow_right (by decide) (by omega)
                                                                                omega)
          have e4' : pX10_balks_54 fu _ fu (nI b) (nI n) (nI t) w 0 0 0 B = _ := e4
          rw [e4', sum_up, sum_all (by omega), Nat.zero_add, Nat.zero_add, m_gcd _ _ _ _ 27 _ _ fu (by omega) (by omega) (by decide) (by omega)]
          have hg0 : ¬ nI (Nat.gcd (tB A nb b t n (A 28)) (10 ^ n)) = 0 := fun z => by
            have hle : Nat.gcd (tB A nb b t n (A 28)) (10 ^ n) ≤ 10 ^ n := Nat.gcd_le_right _ (by omega)
            have := (nI_eq_iff (b := 0) (by omega) (by decide)).mp z
            have h2 := Nat.gcd_pos_of_pos_right (tB A nb b t n (A 28)) (show 0 < 10 ^ n by omega)
            omega
          rw [if_neg hg0, if_neg hg0, if_neg hg0]
          split
          · exact AGQ_ok h ⟨_, _, _, rfl, rfl, e2, e5⟩
          · exact AGQ_ok h ⟨_, _, _, rfl, rfl, e2, e5⟩
        · rw [if_neg hw, if_pos rfl]
          by_cases q : w < 0
          · rw [if_pos q]; exact AG_s h
          · rw [if_neg q, if_neg (show ¬ w ≤ 1 from fun z => by rw [i_le, h1] at z; rw [i_lt, h0] at q; exact hw ⟨by omega, by omega⟩)]; exact AG_s h
      · rw [if_neg hv, if_pos rfl]
        by_cases q : v < 0
        · rw [if_pos q]; exact AG_s h
        · rw [if_neg q, if_pos (show (10 : Int32) < v from by
            by_cases z : nI 10 < v
            · exact z
            · exact absurd ((in_iff v 10 (by decide)).mpr ⟨q, z⟩) hv)]; exact AG_s h
    · rw [if_neg hy, if_pos rfl]
      by_cases q : y < 0
      · rw [if_pos q]; exact AG_s h
      · rw [if_neg q, if_pos (show (8 : Int32) < y from by
          by_cases z : nI 8 < y
          · exact z
          · exact absurd ((in_iff y 8 (by decide)).mpr ⟨q, z⟩) hy)]; exact AG_s h
  · rw [if_neg hx, if_pos rfl, if_pos rfl]; exact AG_s h
