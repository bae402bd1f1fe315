/-! PURE: a herd of the class (f) beside a block of the reference's slot (s from base on) -/
def off (c : Nat) : Nat := [40, 0, 5, 10, 99, 25, 30, 45, 50, 35].getD c 99
theorem off_i0 : ∀ c, c < 10 → ∀ d, d < 10 → off c = off d → c = d := by decide
theorem off_5 : ∀ c, c < 10 → c ≠ 4 → off c % 5 = 0 := by decide
theorem off_inj (c : Nat) (hc : c < 10) (h4 : c ≠ 4) (d : Nat) (hd : d < 10) (h4' : d ≠ 4) (b : Nat) (hb : b < 5) (a : Nat) (ha : a < 5) (h : off c + b = off d + a) : c = d ∧ b = a := by
  have h1 := off_5 c hc h4
  have h2 := off_5 d hd h4'
  have e : off c = off d := by omega
  exact ⟨off_i0 c hc d hd e, by omega⟩
theorem off_lt : ∀ c, c < 10 → c ≠ 4 → ∀ b, b < 5 → off c + b < 55 ∧ (off c + b < 15 ∨ 25 ≤ off c + b) := by decide
def HS (nb : Nat) (f s : Row) (base : Nat) : Prop := ∀ b, b < nb → ∀ c, c < 10 → c ≠ 4 → s (base + (off c + b)) = f (11 * b + c)
def HL (nb : Nat) (f s : Row) (base : Nat) : Prop := ∀ b, b < nb → (f (11 * b + 3) = -4 → s (base + (20 + b)) = f (11 * b + 4)) ∧ (f (11 * b + 3) ≠ -4 → s (base + (20 + b)) = 0 ∧ s (base + (15 + b)) = f (11 * b + 4))
def HC (np : Nat) (f s : Row) (base : Nat) : Prop := ∀ x, x < np → s (base + (55 + x)) = f (55 + x)
def HM (np nb : Nat) (f s : Row) (base : Nat) : Prop := HS nb f s base ∧ HL nb f s base ∧ HC np f s base ∧ s (base + 63) = f 63
/-- outside the block nothing has changed -/
def fr (base : Nat) (s s' : Row) : Prop := ∀ j, j < base ∨ base + 64 ≤ j → s' j = s j
theorem fr_rf (base : Nat) (s : Row) : fr base s s := fun _ _ => rfl
theorem fr_tr {base : Nat} {s s1 s2 : Row} (h1 : fr base s s1) (h2 : fr base s1 s2) : fr base s s2 := fun j h => (h2 j h).trans (h1 j h)
theorem fr_upd {base j : Nat} {s : Row} {v : Int32} (h : j < 64) : fr base s (upd s (base + j) v) := fun i hi => upd_ne (by omega)
section HMs
variable {np nb base b : Nat} {f s : Row}
/-- a field that both keep alike -/
theorem HM_set (hn : nb ≤ 5) (hb : b < nb) (h : HM np nb f s base) (c : Nat) (hc : c < 10) (h4 : c ≠ 4) (h3 : c ≠ 3) (v : Int32) : HM np nb (upd f (11 * b + c) v) (upd s (base + (off c + b)) v) base := by
  obtain ⟨h1, h2, hC, h63⟩ := h
  have ol := off_lt c hc h4 b (by omega)
  refine ⟨fun a ha d hd hd4 => ?_, fun a ha => ?_, fun x hx => ?_, ?_⟩
  · by_cases e : a = b ∧ d = c
    · obtain ⟨rfl, rfl⟩ := e
      rw [upd_at, upd_at]
    · rw [upd_ne (fun q => e (by obtain ⟨q1, q2⟩ := off_inj d hd hd4 c hc h4 a (by omega) b (by omega) (by omega); exact ⟨q2, q1⟩)), upd_ne (fun q => e (by constructor <;> omega))]
      exact h1 a ha d hd hd4
  · rw [upd_ne (f := f) (j := 11 * a + 3) (by omega), upd_ne (f := f) (j := 11 * a + 4) (by omega), upd_ne (f := s) (j := base + (20 + a)) (by omega), upd_ne (f := s) (j := base + (15 + a)) (by omega)]
    exact h2 a ha
  · rw [upd_ne (f := f) (j := 55 + x) (by omega), upd_ne (f := s) (j := base + (55 + x)) (by omega)]
    exact hC x hx
  · rw [upd_ne (f := f) (j := 63) (by omega), upd_ne (f := s) (j := base + 63) (by omega)]
    exact h63
theorem HM_car (hn : nb ≤ 5) (hp : np ≤ 8) (h : HM np nb f s base) (x : Nat) (hx : x < np) (v : Int32) : HM np nb (upd f (55 + x) v) (upd s (base + (55 + x)) v) base := by
  obtain ⟨h1, h2, hC, h63⟩ := h
  refine ⟨fun a ha d hd hd4 => ?_, fun a ha => ?_, fun y hy => ?_, ?_⟩
  · have ol := off_lt d hd hd4 a (by omega)
    rw [upd_ne (f := f) (by omega), upd_ne (f := s) (by omega)]
    exact h1 a ha d hd hd4
  · rw [upd_ne (f := f) (j := 11 * a + 3) (by omega), upd_ne (f := f) (j := 11 * a + 4) (by omega), upd_ne (f := s) (j := base + (20 + a)) (by omega), upd_ne (f := s) (j := base + (15 + a)) (by omega)]
    exact h2 a ha
  · by_cases e : y = x
    · subst e; rw [upd_at, upd_at]
    · rw [upd_ne (f := f) (by omega), upd_ne (f := s) (by omega)]
      exact hC y hy
  · rw [upd_ne (f := f) (j := 63) (by omega), upd_ne (f := s) (j := base + 63) (by omega)]
    exact h63
theorem HM_hours (hn : nb ≤ 5) (hp : np ≤ 8) (h : HM np nb f s base) (v : Int32) : HM np nb (upd f 63 v) (upd s (base + 63) v) base := by
  obtain ⟨h1, h2, hC, h63⟩ := h
  refine ⟨fun a ha d hd hd4 => ?_, fun a ha => ?_, fun y hy => ?_, ?_⟩
  · have ol := off_lt d hd hd4 a (by omega)
    rw [upd_ne (f := f) (by omega), upd_ne (f := s) (by omega)]
    exact h1 a ha d hd hd4
  · rw [upd_ne (f := f) (j := 11 * a + 3) (by omega), upd_ne (f := f) (j := 11 * a + 4) (by omega), upd_ne (f := s) (j := base + (20 + a)) (by omega), upd_ne (f := s) (j := base + (15 + a)) (by omega)]
    exact h2 a ha
  · rw [upd_ne (f := f) (by omega), upd_ne (f := s) (by omega)]
    exact hC y hy
  · rw [upd_at, upd_at]
/-- any change of one beast alone -/
theorem HM_at {f' s' : Row} (hn : nb ≤ 5) (hp : np ≤ 8) (hb : b < nb) (h : HM np nb f s base) (hf : ∀ a c, a < 5 → a ≠ b → c < 11 → f' (11 * a + c) = f (11 * a + c)) (hfc : ∀ x, x < 9 → f' (55 + x) = f (55 + x)) (hs : ∀ a q, a < 5 → a ≠ b → q < 11 → s' (base + (5 * q + a)) = s (base + (5 * q + a))) (hsc : ∀ x, x < 9 → s' (base + (55 + x)) = s (base + (55 + x)))
    (hS : ∀ c, c < 10 → c ≠ 4 → s' (base + (off c + b)) = f' (11 * b + c)) (hL : (f' (11 * b + 3) = -4 → s' (base + (20 + b)) = f' (11 * b + 4)) ∧ (f' (11 * b + 3) ≠ -4 → s' (base + (20 + b)) = 0 ∧ s' (base + (15 + b)) = f' (11 * b + 4))) : HM np nb f' s' base := by
  obtain ⟨h1, h2, hC, h63⟩ := h
  have o5 : ∀ c, c < 10 → c ≠ 4 → ∃ q, q < 11 ∧ off c = 5 * q := by decide
  refine ⟨fun a ha c hc h4 => ?_, fun a ha => ?_, fun x hx => ?_, ?_⟩
  · by_cases e : a = b
    · subst e; exact hS c hc h4
    · obtain ⟨q, hq, eq⟩ := o5 c hc h4
      have := h1 a ha c hc h4
      rw [eq] at this ⊢
      rw [hs a q (by omega) e hq, hf a c (by omega) e (by omega)]
      exact this
  · by_cases e : a = b
    · subst e; exact hL
    · have g3 := hf a 3 (by omega) e (by decide)
      have g4 := hf a 4 (by omega) e (by decide)
      have g20 := hs a 4 (by omega) e (by decide)
      have g15 := hs a 3 (by omega) e (by decide)
      simp only [show 5 * 4 = 20 from rfl, show 5 * 3 = 15 from rfl] at g20 g15
      rw [g3, g4, g20, g15]
      exact h2 a ha
  · rw [hsc x (by omega), hfc x (by omega)]
    exact hC x hx
  · have := hsc 8 (by decide); have := hfc 8 (by decide)
    simp only [show 55 + 8 = 63 from rfl] at *
    rw [hsc 8 (by decide), hfc 8 (by decide)]
    exact h63
/-- how the fields stand: c by c -/
theorem HS_all {f s : Row} (h0 : s (base + (40 + b)) = f (11 * b + 0)) (h1 : s (base + (0 + b)) = f (11 * b + 1)) (h2 : s (base + (5 + b)) = f (11 * b + 2)) (h3 : s (base + (10 + b)) = f (11 * b + 3)) (h5 : s (base + (25 + b)) = f (11 * b + 5)) (h6 : s (base + (30 + b)) = f (11 * b + 6)) (h7 : s (base + (45 + b)) = f (11 * b + 7)) (h8 : s (base + (50 + b)) = f (11 * b + 8)) (h9 : s (base + (35 + b)) = f (11 * b + 9)) : ∀ c, c < 10 → c ≠ 4 → s (base + (off c + b)) = f (11 * b + c) := by
  intro c hc h4
  match c, hc, h4 with
  | 0, _, _ => exact h0
  | 1, _, _ => exact h1
  | 2, _, _ => exact h2
  | 3, _, _ => exact h3
  | 4, _, h => exact absurd rfl h
  | 5, _, _ => exact h5
  | 6, _, _ => exact h6
  | 7, _, _ => exact h7
  | 8, _, _ => exact h8
  | 9, _, _ => exact h9
/-- it WAITS: v is left of that -/
theorem HM_wait (hn : nb ≤ 5) (hp : np ≤ 8) (hb : b < nb) (h : HM np nb f s base) (h3 : f (11 * b + 3) = -4) (v : Int32) : HM np nb (upd f (11 * b + 4) v) (upd s (base + (20 + b)) v) base := by
  refine HM_at hn hp hb h (fun a c ha e hc => upd_ne (by omega)) (fun x hx => upd_ne (by omega)) (fun a q ha e hq => upd_ne (by omega)) (fun x hx => upd_ne (by omega)) (fun c hc h4 => ?_) ?_
  · have ol := off_lt c hc h4 b (by omega)
    rw [upd_ne (by omega), upd_ne (by omega)]
    exact h.1 b hb c hc h4
  · rw [upd_ne (f := f) (j := 11 * b + 3) (by omega), h3, upd_at, upd_at]
    exact ⟨fun _ => rfl, fun e => absurd rfl e⟩
/-- it is on a WAY: v is left of that -/
theorem HM_left (hn : nb ≤ 5) (hp : np ≤ 8) (hb : b < nb) (h : HM np nb f s base) (h3 : f (11 * b + 3) ≠ -4) (v : Int32) : HM np nb (upd f (11 * b + 4) v) (upd s (base + (15 + b)) v) base := by
  refine HM_at hn hp hb h (fun a c ha e hc => upd_ne (by omega)) (fun x hx => upd_ne (by omega)) (fun a q ha e hq => upd_ne (by omega)) (fun x hx => upd_ne (by omega)) (fun c hc h4 => ?_) ?_
  · have ol := off_lt c hc h4 b (by omega)
    rw [upd_ne (by omega), upd_ne (by omega)]
    exact h.1 b hb c hc h4
  · rw [upd_ne (f := f) (j := 11 * b + 3) (by omega), upd_at, upd_at, upd_ne (f := s) (j := base + (20 + b)) (by omega)]
    exact ⟨fun e => absurd e h3, fun _ => ⟨((h.2.1 b hb).2 h3).1, rfl⟩⟩
/-- it sets out -/
theorem HM_out (hn : nb ≤ 5) (hp : np ≤ 8) (hb : b < nb) (h : HM np nb f s base) (h20 : s (base + (20 + b)) = 0) (t v : Int32) (ht : t ≠ -4) : HM np nb (upd (upd f (11 * b + 3) t) (11 * b + 4) v) (upd (upd s (base + (10 + b)) t) (base + (15 + b)) v) base := by
  refine HM_at hn hp hb h (fun a c ha e hc => by rw [upd_ne (by omega), upd_ne (by omega)]) (fun x hx => by rw [upd_ne (by omega), upd_ne (by omega)]) (fun a q ha e hq => by rw [upd_ne (by omega), upd_ne (by omega)]) (fun x hx => by rw [upd_ne (by omega), upd_ne (by omega)]) (fun c hc h4 => ?_) ?_
  · by_cases e : c = 3
    · subst e
      show upd _ _ _ (base + (10 + b)) = _
      rw [upd_ne (by omega), upd_at, upd_ne (by omega), upd_at]
    · have ol := off_lt c hc h4 b (by omega)
      have : off c + b ≠ 10 + b := fun q => e (off_inj c hc h4 3 (by decide) (by decide) b (by omega) b (by omega) q).1
      rw [upd_ne (by omega), upd_ne (by omega), upd_ne (by omega), upd_ne (by omega)]
      exact h.1 b hb c hc h4
  · rw [upd_ne (j := 11 * b + 3) (by omega), upd_at, upd_at, upd_at, upd_ne (j := base + (20 + b)) (by omega), upd_ne (j := base + (20 + b)) (by omega)]
    exact ⟨fun e => absurd e ht, fun _ => ⟨h20, rfl⟩⟩
/-- it is in the PLACE to which it was on its way -/
theorem HM_in (hn : nb ≤ 5) (hp : np ≤ 8) (hb : b < nb) (h : HM np nb f s base) (h4 : f (11 * b + 4) = 0) (h20 : s (base + (20 + b)) = 0) : HM np nb (upd f (11 * b + 3) (-4)) (upd s (base + (10 + b)) (-4)) base := by
  refine HM_at hn hp hb h (fun a c ha e hc => upd_ne (by omega)) (fun x hx => upd_ne (by omega)) (fun a q ha e hq => upd_ne (by omega)) (fun x hx => upd_ne (by omega)) (fun c hc h4 => ?_) ?_
  · by_cases e : c = 3
    · subst e
      show upd _ _ _ (base + (10 + b)) = _
      rw [upd_at, upd_at]
    · have : off c + b ≠ 10 + b := fun q => e (off_inj c hc h4 3 (by decide) (by decide) b (by omega) b (by omega) q).1
      rw [upd_ne (by omega), upd_ne (by omega)]
      exact h.1 b hb c hc h4
  · rw [upd_at, upd_ne (f := f) (j := 11 * b + 4) (by omega), upd_ne (f := s) (j := base + (20 + b)) (by omega), h4, h20]
    exact ⟨fun _ => rfl, fun e => absurd rfl e⟩
/-- the reference's own: what is left of a WAY that it isn't on -/
theorem HM_s15 (hn : nb ≤ 5) (hp : np ≤ 8) (hb : b < nb) (h : HM np nb f s base) (h3 : f (11 * b + 3) = -4) (v : Int32) : HM np nb f (upd s (base + (15 + b)) v) base := by
  refine HM_at hn hp hb h (fun a c ha e hc => rfl) (fun x hx => rfl) (fun a q ha e hq => upd_ne (by omega)) (fun x hx => upd_ne (by omega)) (fun c hc h4 => ?_) ?_
  · have ol := off_lt c hc h4 b (by omega)
    rw [upd_ne (by omega)]
    exact h.1 b hb c hc h4
  · rw [upd_ne (f := s) (j := base + (20 + b)) (by omega)]
    exact ⟨(h.2.1 b hb).1, fun e => absurd h3 e⟩
end HMs
