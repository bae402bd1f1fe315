/-! PURE: a court opens -/
section OP
variable {A B : Mem} {np nd nb fu : Nat} {l : Nat → Nat → Nat}
/-- a herd of which the first i are gathered -/
def PAT (f mo : Row) (i : Nat) : Prop := (∀ b, b < i → b < 5 → f (11 * b) = mo b ∧ f (11 * b + 3) = -4 ∧ f (11 * b + 5) = -4 ∧ ∀ c, c < 11 → c ≠ 0 → c ≠ 3 → c ≠ 5 → f (11 * b + c) = 0) ∧ (∀ b, i ≤ b → b < 5 → ∀ c, c < 11 → f (11 * b + c) = 0) ∧ ∀ j, 55 ≤ j → j < 64 → f j = 0
theorem x_gat9 (hnb : A 5 12 = nI nb) (hn5 : nb ≤ 5) (K : Mem → Res) : ∀ (m i t : Nat) (M : Mem), (∀ k, k ≠ 28 → M k = A k) → PAT (M 28) (A 13) i → i + m = nb → m < t → ∃ g : Row, pX4_gather_9 fu 27 K t (nI i) M = K (upR M 28 g) ∧ PAT g (A 13) nb := by
  intro m
  induction m with
  | zero =>
    intro i t M hM hP hi ht
    obtain ⟨t, rfl⟩ : ∃ q, t = q + 1 := ⟨t - 1, by omega⟩
    have e : i = nb := by omega
    subst e
    refine ⟨M 28, ?_, hP⟩
    show pX4_gather_9b fu 27 (nI i) M _ _ = _
    unfold pX4_gather_9b
    rw [x_beasts (CC_rf M), bI_some, hM 5 (by decide), hnb, if_pos ((nI_le_iff (by omega) (by omega)).mpr (by omega)), upR_self]
  | succ m ih =>
    intro i t M hM hP hi ht
    obtain ⟨t, rfl⟩ : ∃ q, t = q + 1 := ⟨t - 1, by omega⟩
    have hi5 : i < 5 := by omega
    show ∃ g : Row, pX4_gather_9b fu 27 (nI i) M _ _ = _ ∧ _
    unfold pX4_gather_9b pX1_firstMood
    rw [x_beasts (CC_rf M), bI_some, hM 5 (by decide), hnb, if_neg (fun z => by have := (nI_le_iff (by omega) (by omega)).mp z; omega), x_at _ _ _ _ _ (by decide), bI_some, bI_some, rat_nI (by omega) (by decide), show 5 + 1 + 7 = 13 from rfl, hM 13 (by decide)]
    rw [x_set0 hi5, bV_some, x_set1 hi5, bV_some, x_set2 hi5, bV_some, x_set3 hi5, bV_some, x_set5 hi5, bV_some, nI_1]
    simp only [show 27 + 1 = 28 from rfl, upR_at, upR_upR]
    obtain ⟨g, e1, e2⟩ := ih (i + 1) t (upR M 28 (upd (upd (upd (upd (upd (M 28) (11 * i + 0) (A 13 i)) (11 * i + 1) 0) (11 * i + 2) 0) (11 * i + 3) (-4)) (11 * i + 5) (-4))) (fun k hk => by rw [upR_ne hk]; exact hM k hk) (by
      rw [upR_at]
      refine ⟨fun b hb hb5 => ?_, fun b hb hb5 c hc => ?_, fun j h1 h2 => ?_⟩
      · by_cases z : b = i
        · subst z
          refine ⟨?_, ?_, ?_, fun c hc h0 h3 h5 => ?_⟩
          · rw [upd_ne (by omega), upd_ne (by omega), upd_ne (by omega), upd_ne (by omega), Nat.add_zero, upd_at]
          · rw [upd_ne (by omega), upd_at]
          · rw [upd_at]
          · rw [upd_ne (by omega), upd_ne (by omega)]
            by_cases c2 : c = 2
            · subst c2; rw [upd_at]
            · rw [upd_ne (by omega)]
              by_cases c1 : c = 1
              · subst c1; rw [upd_at]
              · rw [upd_ne (by omega), upd_ne (by omega)]
                exact hP.2.1 b (by omega) hb5 c hc
        · have q := hP.1 b (by omega) hb5
          refine ⟨?_, ?_, ?_, fun c hc h0 h3 h5 => ?_⟩
          · rw [upd_ne (by omega), upd_ne (by omega), upd_ne (by omega), upd_ne (by omega), upd_ne (by omega)]; exact q.1
          · rw [upd_ne (by omega), upd_ne (by omega), upd_ne (by omega), upd_ne (by omega), upd_ne (by omega)]; exact q.2.1
          · rw [upd_ne (by omega), upd_ne (by omega), upd_ne (by omega), upd_ne (by omega), upd_ne (by omega)]; exact q.2.2.1
          · rw [upd_ne (by omega), upd_ne (by omega), upd_ne (by omega), upd_ne (by omega), upd_ne (by omega)]; exact q.2.2.2 c hc h0 h3 h5
      · rw [upd_ne (by omega), upd_ne (by omega), upd_ne (by omega), upd_ne (by omega), upd_ne (by omega)]; exact hP.2.1 b (by omega) hb5 c hc
      · rw [upd_ne (by omega), upd_ne (by omega), upd_ne (by omega), upd_ne (by omega), upd_ne (by omega)]; exact hP.2.2 j h1 h2) (by omega) (by omega)
    exact ⟨g, by rw [e1, upR_upR], e2⟩
theorem x_gat72 (hnp : A 5 10 = nI np) (hn8 : np ≤ 8) : ∀ (m i t : Nat) (M : Mem), (∀ k, k ≠ 28 → M k = A k) → (∀ x, x < i → M 28 (55 + x) = A 14 x) → i + m = np → m < t → ∃ g : Row, pX4_gather_72 fu 27 t (nI i) M = some (0, upR M 28 g) ∧ (∀ x, x < np → g (55 + x) = A 14 x) ∧ ∀ j, j < 55 ∨ 63 ≤ j → g j = M 28 j := by
  intro m
  induction m with
  | zero =>
    intro i t M hM hP hi ht
    obtain ⟨t, rfl⟩ : ∃ q, t = q + 1 := ⟨t - 1, by omega⟩
    refine ⟨M 28, ?_, fun x hx => hP x (by omega), fun _ _ => rfl⟩
    show pX4_gather_72b fu 27 (nI i) M _ = _
    unfold pX4_gather_72b
    rw [x_places (CC_rf M), bI_some, hM 5 (by decide), hnp, if_pos ((nI_le_iff (by omega) (by omega)).mpr (by omega)), upR_self]
  | succ m ih =>
    intro i t M hM hP hi ht
    obtain ⟨t, rfl⟩ : ∃ q, t = q + 1 := ⟨t - 1, by omega⟩
    show ∃ g : Row, pX4_gather_72b fu 27 (nI i) M _ = _ ∧ _
    unfold pX4_gather_72b pX1_firstCarrots
    rw [x_places (CC_rf M), bI_some, hM 5 (by decide), hnp, if_neg (fun z => by have := (nI_le_iff (by omega) (by omega)).mp z; omega), x_at _ _ _ _ _ (by decide), bI_some, bI_some, rat_nI (by omega) (by decide), show 5 + 1 + 8 = 14 from rfl, hM 14 (by decide), x_putCarrots, bV_some, show (55 : Int32) + nI i = nI (55 + i) from nI_add 55 i, rpu_nI (by omega) (by decide), nI_1, show 27 + 1 = 28 from rfl]
    obtain ⟨g, e1, e2, e3⟩ := ih (i + 1) t (upR M 28 (upd (M 28) (55 + i) (A 14 i))) (fun k hk => by rw [upR_ne hk]; exact hM k hk) (fun x hx => by
      rw [upR_at]
      by_cases z : x = i
      · subst z; rw [upd_at]
      · rw [upd_ne (by omega)]; exact hP x (by omega)) (by omega) (by omega)
    refine ⟨g, by rw [e1, upR_upR], e2, fun j hj => ?_⟩
    rw [e3 j hj, upR_at, upd_ne (by omega)]
theorem x_gather (hnb : A 5 12 = nI nb) (hn5 : nb ≤ 5) (hnp : A 5 10 = nI np) (hn8 : np ≤ 8) (hf : 1000 < fu) : ∃ g : Row, pX4_gather fu 27 A = some (0, upR A 28 g) ∧ (∀ b, b < nb → g (11 * b) = A 13 b ∧ g (11 * b + 3) = -4 ∧ g (11 * b + 5) = -4 ∧ ∀ c, c < 11 → c ≠ 0 → c ≠ 3 → c ≠ 5 → g (11 * b + c) = 0) ∧ (∀ x, x < np → g (55 + x) = A 14 x) ∧ g 63 = 0 := by
  unfold pX4_gather
  rw [x_clear _ _ _ _ (by decide) (by omega), bV_some, show 27 + 1 = 28 from rfl]
  obtain ⟨g1, e1, a1⟩ := x_gat9 (fu := fu) hnb hn5 (fun M11 => pX4_gather_72 fu 27 fu (0 : Int32) M11) nb 0 fu (upR A 28 (fun j => if j < 64 then 0 else A 28 j)) (fun k hk => upR_ne hk) (by
    rw [upR_at]
    refine ⟨fun b hb => absurd hb (by omega), fun b _ hb c hc => ?_, fun j h1 h2 => ?_⟩
    · exact if_pos (by omega)
    · exact if_pos h2) (by omega) (by omega)
  have e1' : pX4_gather_9 fu 27 _ fu 0 (upR A 28 (fun j => if j < 64 then 0 else A 28 j)) = _ := e1
  rw [e1', upR_upR]
  obtain ⟨g, e2, a2, a3⟩ := x_gat72 (fu := fu) hnp hn8 np 0 fu (upR A 28 g1) (fun k hk => upR_ne hk) (fun x hx => absurd hx (by omega)) (by omega) (by omega)
  have e2' : pX4_gather_72 fu 27 fu 0 (upR A 28 g1) = _ := e2
  rw [upR_upR] at e2'
  rw [e2']
  rw [upR_at] at a3
  refine ⟨g, rfl, fun b hb => ?_, a2, ?_⟩
  · have q := a1.1 b hb (by omega)
    refine ⟨(a3 _ (by omega)).trans q.1, (a3 _ (by omega)).trans q.2.1, (a3 _ (by omega)).trans q.2.2.1, fun c hc h0 h3 h5 => (a3 _ (by omega)).trans (q.2.2.2 c hc h0 h3 h5)⟩
  · exact (a3 63 (by omega)).trans (a1.2.2 63 (by decide) (by decide))
theorem b8_val : ∀ x, x < 8 → ∀ a b c d e f g h : Bool, (b8 a b c d e f g h >>> (nI x &&& 31)) &&& 1 = if ([a, b, c, d, e, f, g, h].getD x false) = true then 1 else 0 := by decide +kernel
theorem bits8_val (p : Nat → Bool) {x : Nat} (hx : x < 8) : (bits8 p >>> (nI x &&& 31)) &&& 1 = if p x = true then 1 else 0 := by
  rw [bits8_eq, b8_val x hx]
  match x, hx with
  | 0, _ => rfl
  | 1, _ => rfl
  | 2, _ => rfl
  | 3, _ => rfl
  | 4, _ => rfl
  | 5, _ => rfl
  | 6, _ => rfl
  | 7, _ => rfl
theorem DC_LH (h : DC A B 5 np nd nb l) : LH l np := ⟨h.1.2.1, fun a b ha hb => ⟨(h.2.2.2.1 a b ha hb).1, (h.2.2.2.1 a b ha hb).2.1, (h.2.2.2.1 a b ha hb).2.2.1⟩⟩
theorem hop_fact (hLH : LH l np) {r : Int32} {a c : Nat} (ha : a < np) (hc : c < np) (hH : HOPP l np a c r) (hne : a ≠ c) (hfin : DD l 8 a c < 9999) : ∃ u, u < np ∧ r = nI u ∧ 0 < l a u ∧ l a u + DD l 8 u c = DD l 8 a c ∧ ∀ v, v < u → ¬ (0 < l a v ∧ l a v + DD l 8 v c = DD l 8 a c) := by
  obtain ⟨u, hu, u1, u2, u3⟩ := DD_low hLH ha hc hne hfin
  have h72 := DD_100 hLH ha hc hfin
  unfold HOPP HC8 at hH
  generalize DD l 8 = ds at *
  exact ⟨u, hu, hH u hu ⟨u1, by omega⟩ (fun v hv z => u3 v hv ⟨z.1, by omega⟩), u1, u2, u3⟩
/-- a court opens, in both -/
theorem open_core (hD : DC A B 5 np nd nb l) (hnd : 1 ≤ nd) (hnb : 1 ≤ nb) (ht : ∃ t, t < 8 ∧ A 29 1 = nI t) (hk : ∃ t, t < 2 ∧ A 47 1 = nI t) (hf : 1000 < fu) : ∃ A' B', (bV (pX1_measure fu 5 A) fun M3 => bV (pX4_gather fu 27 M3) fun M4 => bV (pX8_clear fu 29 M4) fun M5 => bV (pX8_clear fu 47 M5) fun M6 => some (0, M6)) = some (0, A') ∧ pX10_settles fu B = some (0, B') ∧ A' 5 12 = nI nb ∧ B' 0 7 = nI nb ∧ A' 1 = A 1 ∧ A' 2 = A 2 ∧ B' 13 = B 13 ∧ B' 0 22 = B 0 22 ∧ B' 0 20 = B 0 20 ∧ B' 0 21 = B 0 21 ∧ ∀ B'', (∀ k, 1 ≤ k → B'' k = B' k) → (∀ j, j ≠ 20 → j ≠ 21 → B'' 0 j = B' 0 j) → B'' 0 20 = 0 → B'' 0 21 = 0 → ∃ ds, RC A' B'' np nd nb l ds ∧ HMV A' B'' np nd nb ds 28 0 ∧ PAST A' B'' np nd nb ds ∧ KEPT A' B'' np nd nb ds := by
  have hLH := DC_LH hD
  obtain ⟨g1, g2, g3, g4, g5, g6, g7, ⟨p, g8, g8'⟩, g9⟩ := hD
  have hLN : LN A l np := ⟨g2.1, fun a b ha hb => (g4 a b (by omega) (by omega)).2.2.2.1⟩
  obtain ⟨A1, e1, k1, d1, h1⟩ := x_measure (fu := fu) hLH hLN hf
  have c5 : A1 5 = A 5 := k1 5 (by decide) (by decide)
  obtain ⟨g, e2, r1, r2, r3⟩ := x_gather (fu := fu) (A := A1) (nb := nb) (np := np) (by rw [c5]; exact g2.2.2) (by omega) (by rw [c5]; exact g2.1) (by omega) hf
  rw [k1 13 (by decide) (by decide)] at r1
  rw [k1 14 (by decide) (by decide)] at r2
  have h7 : ∀ j, j < 64 → B 7 j = if l (j / 8) (j % 8) = 0 then -4 else nI (l (j / 8) (j % 8)) := fun j hj => by
    have := (g4 (j / 8) (j % 8) (by omega) (by omega)).2.2.2.2
    rw [show 8 * (j / 8) + j % 8 = j by omega] at this
    exact this
  obtain ⟨B1, m1, m2, m3, m4, m5, m6, m7, m8⟩ := ms_settles (fu := fu) hLH h7 hf
  have f1 : ∀ a b, a < 8 → b < 8 → DD l 8 a b ≤ 9999 := fun a b ha hb => DD_le hLH 8 a b ha hb
  have f2 : ∀ a b, a < np → b < np → DD l 8 a b < 9999 → DD l 8 a b ≤ 72 := fun a b ha hb => DD_100 hLH ha hb
  have f3 : ∀ a, DD l 8 a a = 0 := DD_aa 8
  have f4 : ∀ a b, a < 8 → b < 8 → DD l 8 a b = DD l 8 b a := fun a b ha hb => DD_sym hLH 8 a b (by decide) ha hb
  have f5 : ∀ a c, a < np → c < np → a ≠ c → DD l 8 a c < 9999 → ∃ u, u < np ∧ A1 8 (8 * a + c) = nI u ∧ 0 < l a u ∧ l a u + DD l 8 u c = DD l 8 a c ∧ ∀ v, v < u → ¬ (0 < l a v ∧ l a v + DD l 8 v c = DD l 8 a c) := fun a c ha hc hne hfin => hop_fact hLH ha hc (h1 a c ha hc) hne hfin
  clear h1
  generalize DD l 8 = ds at *
  have hmood : ∀ b, b < nb → ∃ m, m ≤ 9 ∧ A 13 b = nI m ∧ B 12 (744 + b) = nI m ∧ B 12 (714 + b) = -4 ∧ B 12 (729 + b) = -4 := fun b hb => by
    obtain ⟨kd, pc, m, -, -, -, q4, -, -, -, -, q9, q10, q11, q12⟩ := g6 b hb
    exact ⟨m, q4, q9, q10, q11, q12⟩
  rw [e1, bV_some, e2, bV_some]
  unfold pX8_clear fpt
  rw [bV_some, bV_some, up2_eq, up2_eq]
  generalize hA2 : upR (upR (upR A1 28 g) 29 (upd (upR A1 28 g 29) 2 0)) 47 (upd (upR (upR A1 28 g) 29 (upd (upR A1 28 g 29) 2 0) 47) 2 0) = A2
  have kk : ∀ k, k ≠ 7 → k ≠ 8 → k ≠ 28 → k ≠ 29 → k ≠ 47 → A2 k = A k := fun k a b c d e => by rw [← hA2, upR_ne e, upR_ne d, upR_ne c, k1 k a b]
  have k28 : A2 28 = g := by rw [← hA2, upR_ne (by decide), upR_ne (by decide), upR_at]
  have k29 : A2 29 = upd (A 29) 2 0 := by rw [← hA2, upR_ne (by decide), upR_at, upR_ne (by decide), k1 29 (by decide) (by decide)]
  have k47 : A2 47 = upd (A 47) 2 0 := by rw [← hA2, upR_at, upR_ne (by decide), upR_ne (by decide), k1 47 (by decide) (by decide)]
  have k7 : A2 7 = A1 7 := by rw [← hA2, upR_ne (by decide), upR_ne (by decide), upR_ne (by decide)]
  have k8 : A2 8 = A1 8 := by rw [← hA2, upR_ne (by decide), upR_ne (by decide), upR_ne (by decide)]
  refine ⟨A2, B1, rfl, m1, ?_, ?_, kk 1 (by decide) (by decide) (by decide) (by decide) (by decide), kk 2 (by decide) (by decide) (by decide) (by decide) (by decide), m8, m3 22 (by decide) (by decide) (by decide) (by decide), m3 20 (by decide) (by decide) (by decide) (by decide), m3 21 (by decide) (by decide) (by decide) (by decide), fun B2 b1 b2 b20 b21 => ⟨ds, ?_, ⟨?_, ?_⟩, ?_, ?_⟩⟩
  · rw [kk 5 (by decide) (by decide) (by decide) (by decide) (by decide)]; exact g2.2.2
  · rw [m2.2.2.2]; exact g3.2.2
  · -- the courts
    unfold RC
    rw [kk 5 (by decide) (by decide) (by decide) (by decide) (by decide), kk 6 (by decide) (by decide) (by decide) (by decide) (by decide), kk 9 (by decide) (by decide) (by decide) (by decide) (by decide), kk 10 (by decide) (by decide) (by decide) (by decide) (by decide), kk 11 (by decide) (by decide) (by decide) (by decide) (by decide), kk 12 (by decide) (by decide) (by decide) (by decide) (by decide), kk 15 (by decide) (by decide) (by decide) (by decide) (by decide), k7, k8, b1 1 (by decide), b1 2 (by decide), b1 3 (by decide), b1 4 (by decide), b1 5 (by decide), b1 6 (by decide), b2 0 (by decide) (by decide), b2 3 (by decide) (by decide), b2 4 (by decide) (by decide), b2 7 (by decide) (by decide), m2.1, m2.2.1, m2.2.2.1, m2.2.2.2]
    refine ⟨⟨g1.1, g1.2.1, hnd, g1.2.2.1, hnb, g1.2.2.2⟩, g2, g3, fun a b ha hb => ?_, fun a c ha hc hne hfin => ?_, fun a ha => f3 a, fun a b ha hb hfin => ?_, fun d hd => ?_, fun b hb => ?_, fun x hx => ?_, fun a b ha hb hab => ?_⟩
    · obtain ⟨q1, q2, q3, q4, q5⟩ := g4 a b (by omega) (by omega)
      have q6 := m4 (8 * a + b) (by omega)
      rw [show (8 * a + b) / 8 = a by omega, show (8 * a + b) % 8 = b by omega] at q6
      have hle := f1 a b (by omega) (by omega)
      refine ⟨q1, hle, fun z => by have := f2 a b ha hb z; omega, q4, ?_, by rw [q6.1]; exact q5, q6.2⟩
      rw [d1 a b ha hb]
      refine congrArg nI ?_
      by_cases z : ds a b < 9999
      · have := f2 a b ha hb z
        rw [if_pos z]; omega
      · rw [if_neg z]; omega
    · exact f5 a c ha hc hne hfin
    · rw [f4 b a (by omega) (by omega)]; exact hfin
    · obtain ⟨q, kd, q1, q2, q3, q4, q5, q6⟩ := g5 d hd
      have q7 := m5 d (by omega)
      exact ⟨q, kd, q1, q2, q3, q7.2.trans q4, q5, q7.1.trans q6⟩
    · obtain ⟨kd, pc, m, q1, q2, q3, -, q5, q6, q7, q8, -⟩ := g6 b hb
      have q9 := m6 b (by omega)
      exact ⟨kd, pc, q1, q2, q3, q5, q9.1.trans q6, q7, q9.2.trans q8⟩
    · have q := g8' x (by omega)
      rw [g8, bits8_val p (by omega), show A 15 x = if p x = true then 1 else 0 from q]
      refine ⟨rfl, ?_⟩
      split
      · exact Or.inr rfl
      · exact Or.inl rfl
    · obtain ⟨q1, q2, q3, q4, q5⟩ := g4 a b ha hb
      rw [(m4 (8 * a + b) (by omega)).1, q5, if_pos (q3 (by omega))]
  · -- the herd beside the block
    rw [k28, b1 12 (by decide)]
    have s12 : ∀ j, j < 64 → B1 12 (0 + j) = B 12 (704 + j) := fun j hj => by rw [Nat.zero_add]; exact m7 j hj
    refine ⟨fun b hb c hc h4 => ?_, fun b hb => ?_, fun x hx => ?_, ?_⟩
    · obtain ⟨m, -, n1, n2, n3, n4⟩ := hmood b hb
      have q := r1 b hb
      have z0 : ∀ o, o < 64 → (o < 10 ∨ (15 ≤ o ∧ o < 25) ∨ (30 ≤ o ∧ o < 40) ∨ (45 ≤ o ∧ o < 55) ∨ o = 63) → B1 12 (0 + o) = 0 := fun o ho hz => by rw [s12 o ho]; exact g9 o ho hz
      have hc' : c = 0 ∨ c = 1 ∨ c = 2 ∨ c = 3 ∨ c = 5 ∨ c = 6 ∨ c = 7 ∨ c = 8 ∨ c = 9 := by omega
      rcases hc' with rfl | rfl | rfl | rfl | rfl | rfl | rfl | rfl | rfl
      · show B1 12 (0 + (40 + b)) = _
        rw [s12 _ (by omega), ← Nat.add_assoc, n2, Nat.add_zero, q.1, n1]
      · show B1 12 (0 + (0 + b)) = _
        rw [z0 _ (by omega) (by omega), q.2.2.2 1 (by decide) (by decide) (by decide) (by decide)]
      · show B1 12 (0 + (5 + b)) = _
        rw [z0 _ (by omega) (by omega), q.2.2.2 2 (by decide) (by decide) (by decide) (by decide)]
      · show B1 12 (0 + (10 + b)) = _
        rw [s12 _ (by omega), ← Nat.add_assoc, n3, q.2.1]
      · show B1 12 (0 + (25 + b)) = _
        rw [s12 _ (by omega), ← Nat.add_assoc, n4, q.2.2.1]
      · show B1 12 (0 + (30 + b)) = _
        rw [z0 _ (by omega) (by omega), q.2.2.2 6 (by decide) (by decide) (by decide) (by decide)]
      · show B1 12 (0 + (45 + b)) = _
        rw [z0 _ (by omega) (by omega), q.2.2.2 7 (by decide) (by decide) (by decide) (by decide)]
      · show B1 12 (0 + (50 + b)) = _
        rw [z0 _ (by omega) (by omega), q.2.2.2 8 (by decide) (by decide) (by decide) (by decide)]
      · show B1 12 (0 + (35 + b)) = _
        rw [z0 _ (by omega) (by omega), q.2.2.2 9 (by decide) (by decide) (by decide) (by decide)]
    · have q := r1 b hb
      refine ⟨fun _ => ?_, fun z => absurd q.2.1 z⟩
      rw [s12 _ (by omega), g9 _ (by omega) (by omega), q.2.2.2 4 (by decide) (by decide) (by decide) (by decide)]
    · obtain ⟨c, -, c1, c2⟩ := g7 x (by omega)
      rw [s12 _ (by omega), ← Nat.add_assoc, c2, r2 x hx]
      exact c1.symm
    · rw [s12 _ (by decide), g9 _ (by decide) (by omega), r3]
  · rw [k28]
    refine ⟨fun b hb => Or.inl ?_, fun x hx => ?_⟩
    · have q := r1 b hb
      exact ⟨q.2.2.2 1 (by decide) (by decide) (by decide) (by decide), q.2.2.2 2 (by decide) (by decide) (by decide) (by decide), q.2.1, q.2.2.2 4 (by decide) (by decide) (by decide) (by decide), q.2.2.1⟩
    · obtain ⟨c, hc, c1, -⟩ := g7 x (by omega)
      exact ⟨c, hc, (r2 x hx).trans c1⟩
  · obtain ⟨t, ht, e⟩ := ht
    refine ⟨0, t, by omega, ht, by rw [k29, upd_at]; rfl, by rw [k29, upd_ne (by decide)]; exact e, by rw [b20]; rfl, fun i hi => absurd hi (by omega)⟩
  · obtain ⟨t, ht, e⟩ := hk
    refine ⟨0, t, by omega, ht, by rw [k47, upd_at]; rfl, by rw [k47, upd_ne (by decide)]; exact e, by rw [b21]; rfl, fun i hi => absurd hi (by omega)⟩
end OP
theorem a_lay {A B : Mem} {fu : Nat} (h : REL A B) (hf : 1000 < fu) : AGREE (pX9_lay fu A) (pX10_lay fu B) := by
  have h' := h
  obtain ⟨np0, nd0, nb0, ln0, ds0, hR0, -, hT, hP, hK⟩ := h'
  obtain ⟨n, c, t1, t2⟩ := TX_of hT
  obtain ⟨r, A1, B1, e1, e2, e3, e4, e5⟩ := parse (fu := fu) (k0 := 16) (by decide) t1 t2 hf
  unfold pX9_lay pX10_lay
  rw [e1, bI_some, e2, bI_some]
  have hn := t1.2.1
  rcases e5 with ⟨rfl, -, np, nd, nb, l, hD⟩ | ⟨s', hs', rfl, -, -⟩
  · rw [if_pos rfl, if_pos rfl, if_neg one_ne]
    have hnn := hD.1
    unfold pX1_doors pX1_beasts
    rw [bI_some, hD.2.1.2.1, hD.2.2.1.2.1, hD.2.2.1.2.2, bI_some, hD.2.1.2.2]
    by_cases q : nd = 0
    · subst q
      rw [if_pos (show nI 0 = 0 from rfl), if_pos (show nI 0 = 0 from rfl)]
      exact AGQ_ok h ⟨_, _, _, rfl, rfl, FX_pA e3, e4⟩
    · rw [if_neg (show ¬ nI nd = 0 from fun z => q ((nI_eq_iff (b := 0) (by omega) (by decide)).mp z)), if_neg (show ¬ nI nd = 0 from fun z => q ((nI_eq_iff (b := 0) (by omega) (by decide)).mp z))]
      by_cases q2 : nb = 0
      · subst q2
        rw [if_pos (show nI 0 = 0 from rfl), if_pos (show nI 0 = 0 from rfl)]
        exact AGQ_ok h ⟨_, _, _, rfl, rfl, FX_pA e3, e4⟩
      · rw [if_neg (show ¬ nI nb = 0 from fun z => q2 ((nI_eq_iff (b := 0) (by omega) (by decide)).mp z)), if_neg (show ¬ nI nb = 0 from fun z => q2 ((nI_eq_iff (b := 0) (by omega) (by decide)).mp z))]
        -- the same text, now into the court
        obtain ⟨r2, A2, B2, f1, f2, f3, f4, f5⟩ := parse (fu := fu) (k0 := 5) (A := A1) (by decide) (TX_FX (by decide) t1 e3) t2 hf
        rw [e2] at f2
        have hr : r2 = -4 := by
          rcases f5 with ⟨z, -⟩ | ⟨s, hs, z, -⟩
          · exact z
          · rw [z, if_neg (nI_ne4 (by omega)), if_pos rfl] at f2
            have z1 : (1 : Int32) = 0 := congrArg Prod.fst (Option.some.inj f2)
            exact absurd z1 (by decide)
        subst hr
        have hB : B1 = B2 := congrArg Prod.snd (Option.some.inj f2)
        subst hB
        rcases f5 with ⟨-, -, np', nd', nb', l', hD'⟩ | ⟨s, hs, z, -⟩
        · have en : nd' = nd := (nI_eq_iff (by have := hD'.1; omega) (by omega)).mp (hD'.2.2.1.2.1.symm.trans hD.2.2.1.2.1)
          have eb : nb' = nb := (nI_eq_iff (by have := hD'.1; omega) (by omega)).mp (hD'.2.2.1.2.2.symm.trans hD.2.2.1.2.2)
          subst en; subst eb
          obtain ⟨mp, tp, -, tp2, -, tp4, -, -⟩ := hP
          obtain ⟨mk, tk, -, tk2, -, tk4, -, -⟩ := hK
          have a29 : A2 29 = A 29 := by rw [f3 29 (by decide) (by decide) (by omega), e3 29 (by decide) (by decide) (by omega)]
          have a47 : A2 47 = A 47 := by rw [f3 47 (by decide) (by decide) (by omega), e3 47 (by decide) (by decide) (by omega)]
          have a1 : A2 1 = A 1 := by rw [f3 1 (by decide) (by decide) (by omega), e3 1 (by decide) (by decide) (by omega)]
          have a2 : A2 2 = A 2 := by rw [f3 2 (by decide) (by decide) (by omega), e3 2 (by decide) (by decide) (by omega)]
          obtain ⟨A3, B3, g1, g2, g3, g4, g5, g6, g7, g8, g9, g10, g11⟩ := open_core (fu := fu) hD' (by omega) (by omega) ⟨tp, tp2, by rw [a29]; exact tp4⟩ ⟨tk, tk2, by rw [a47]; exact tk4⟩ hf
          unfold pX9_open
          rw [f1, bI_some, g1, bV_some, bI_some, g3, g2, bV_some]
          unfold fpt
          dsimp only
          rw [up2_eq, up2_eq]
          have hB4 : upR (upR B3 0 (upd (B3 0) 20 0)) 0 (upd (upR B3 0 (upd (B3 0) 20 0) 0) 21 0) = upR B3 0 (upd (upd (B3 0) 20 0) 21 0) := by rw [upR_upR, upR_at]
          rw [hB4, upR_at, upd_ne (by decide), upd_ne (by decide), g4]
          obtain ⟨ds, r1, r2, r3, r4⟩ := g11 (upR B3 0 (upd (upd (B3 0) 20 0) 21 0)) (fun k hk => upR_ne (by omega)) (fun j h0 h1 => by rw [upR_at, upd_ne h1, upd_ne h0]) (by rw [upR_at, upd_ne (by decide), upd_at]) (by rw [upR_at, upd_at])
          refine ⟨nI nb', _, _, rfl, rfl, np', nd', nb', l', ds, r1, r2, ?_, r3, r4⟩
          obtain ⟨tn, x1, x2, x3, x4⟩ := hT
          refine ⟨tn, x1, by rw [g5, a1]; exact x2, ?_, fun j hj => ?_⟩
          · rw [upR_at, upd_ne (by decide), upd_ne (by decide), g8, e4.2.2.1 22 (by omega)]; exact x3
          · rw [g6, a2, upR_ne (by decide), g7, e4.2.1]; exact x4 j hj
        · exact absurd z.symm (nI_ne4 (by omega))
  · rw [if_neg (nI_ne4 (by omega)), if_neg (nI_ne4 (by omega)), if_pos rfl]
    exact AGQ_ok h ⟨_, _, _, rfl, rfl, FX_pA e3, e4⟩
