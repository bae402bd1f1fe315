/-! PURE: the class measures -/
section ME
variable {l : Nat → Nat → Nat} {np fu : Nat}
/-- a court whose ways are l -/
def LN (A : Mem) (l : Nat → Nat → Nat) (np : Nat) : Prop := A 5 10 = nI np ∧ ∀ a b, a < np → b < np → A 6 (8 * a + b) = nI (l a b)
theorem LN_up {A : Mem} (h : LN A l np) {k : Nat} (hk : k = 7 ∨ k = 8) (g : Row) : LN (upR A k g) l np := by
  unfold LN at *
  rw [upR_ne (by omega), upR_ne (by omega)]; exact h
theorem ln_len {A : Mem} (h : LN A l np) (hnp : np ≤ 8) {a b : Nat} (ha : a < np) (hb : b < np) : pX1_lengthOf fu 5 (nI a) (nI b) A = some (nI (l a b), A) := by
  rw [x_lengthOf (CC_rf A)]
  unfold cLen
  rw [ix8', rat_nI (by omega) (by decide), h.2 a b ha hb]
theorem ln_dis {A : Mem} (hnp : np ≤ 8) {a b : Nat} (ha : a < np) (hb : b < np) : pX1_distance fu 5 (nI a) (nI b) A = some (A 7 (8 * a + b), A) := by
  rw [x_distance (CC_rf A)]
  unfold cDis
  rw [ix8', rat_nI (by omega) (by decide)]
theorem x_mea12 (h : LH l np) {a : Nat} (ha : a < np) (K : Int32 → Mem → Res) : ∀ (m b t : Nat) (A : Mem), LN A l np → (∀ a' b', a' < np → b' < np → 8 * a' + b' < 8 * a + b → A 7 (8 * a' + b') = nI (min (d0 l a' b') 1000)) → b + m = np → m < t → ∃ g : Row, pX1_measure_12 fu 5 K t (nI a) (nI b) A = K (nI a) (upR A 7 g) ∧ ∀ a' b', a' < np → b' < np → 8 * a' + b' < 8 * (a + 1) → g (8 * a' + b') = nI (min (d0 l a' b') 1000) := by
  have hnp := h.1
  intro m
  induction m with
  | zero =>
    intro b t A hL hI hb ht
    obtain ⟨t, rfl⟩ : ∃ q, t = q + 1 := ⟨t - 1, by omega⟩
    refine ⟨A 7, ?_, fun a' b' h1 h2 h3 => hI a' b' h1 h2 (by omega)⟩
    show pX1_measure_12b fu 5 (nI a) (nI b) A _ _ = _
    unfold pX1_measure_12b
    rw [hL.1, if_pos ((nI_le_iff (by omega) (by omega)).mpr (by omega)), upR_self]
  | succ m ih =>
    intro b t A hL hI hb ht
    obtain ⟨t, rfl⟩ : ∃ q, t = q + 1 := ⟨t - 1, by omega⟩
    have hbn : b < np := by omega
    have hl9 := (h.2 a b (by omega) (by omega)).1
    have hgo : ∀ v, v = nI (min (d0 l a b) 1000) → ∃ g : Row, pX1_measure_56 fu 5 (nI a) (nI b) v (nI (8 * a + b)) A (pX1_measure_12 fu 5 K t) = K (nI a) (upR A 7 g) ∧ ∀ a' b', a' < np → b' < np → 8 * a' + b' < 8 * (a + 1) → g (8 * a' + b') = nI (min (d0 l a' b') 1000) := by
      intro v hv
      unfold pX1_measure_56
      rw [show 5 + 1 + 1 = 7 from rfl, x_put _ _ _ _ _ _ (by decide), bV_some, rpu_nI (by omega) (by decide), nI_1]
      obtain ⟨g, e1, e2⟩ := ih (b + 1) t (upR A 7 (upd (A 7) (8 * a + b) v)) (LN_up hL (Or.inl rfl) _) (fun a' b' h1 h2 h3 => by
        rw [upR_at]
        by_cases z : 8 * a' + b' = 8 * a + b
        · have e1 : a' = a := by omega
          have e2 : b' = b := by omega
          subst e1; subst e2
          rw [upd_at]; exact hv
        · rw [upd_ne z]; exact hI a' b' h1 h2 (by omega)) (by omega) (by omega)
      exact ⟨g, by rw [e1, upR_upR], e2⟩
    show ∃ g : Row, pX1_measure_12b fu 5 (nI a) (nI b) A _ _ = _ ∧ _
    unfold pX1_measure_12b pX1_pair
    rw [hL.1, if_neg (fun z => by have := (nI_le_iff (by omega) (by omega)).mp z; omega), ln_len hL hnp ha hbn, bI_some, bI_some, ix8']
    by_cases q : a = b
    · subst q
      rw [if_pos rfl]
      exact hgo 0 (by unfold d0; rw [if_pos rfl]; rfl)
    · rw [if_neg (fun z => q ((nI_eq_iff (by omega) (by omega)).mp z))]
      by_cases z : l a b = 0
      · rw [z, if_pos (show nI 0 = 0 from rfl)]
        exact hgo 1000 (by unfold d0; rw [if_neg q, if_pos z]; rfl)
      · rw [if_neg (show ¬ nI (l a b) = 0 from fun y => z ((nI_eq_iff (b := 0) (by omega) (by decide)).mp y))]
        exact hgo _ (by unfold d0; rw [if_neg q, if_neg z, Nat.min_eq_left (by omega)])
theorem x_mea2 (h : LH l np) (hf : 1000 < fu) (K : Mem → Res) : ∀ (m a t : Nat) (A : Mem), LN A l np → (∀ a' b', a' < np → b' < np → 8 * a' + b' < 8 * a → A 7 (8 * a' + b') = nI (min (d0 l a' b') 1000)) → a + m = np → m < t → ∃ g : Row, pX1_measure_2 fu 5 K t (nI a) A = K (upR A 7 g) ∧ ∀ a' b', a' < np → b' < np → g (8 * a' + b') = nI (min (d0 l a' b') 1000) := by
  have hnp := h.1
  intro m
  induction m with
  | zero =>
    intro a t A hL hI ha ht
    obtain ⟨t, rfl⟩ : ∃ q, t = q + 1 := ⟨t - 1, by omega⟩
    refine ⟨A 7, ?_, fun a' b' h1 h2 => hI a' b' h1 h2 (by omega)⟩
    show pX1_measure_2b fu 5 (nI a) A _ _ = _
    unfold pX1_measure_2b
    rw [hL.1, if_pos ((nI_le_iff (by omega) (by omega)).mpr (by omega)), upR_self]
  | succ m ih =>
    intro a t A hL hI ha ht
    obtain ⟨t, rfl⟩ : ∃ q, t = q + 1 := ⟨t - 1, by omega⟩
    show ∃ g : Row, pX1_measure_2b fu 5 (nI a) A _ _ = _ ∧ _
    unfold pX1_measure_2b
    rw [hL.1, if_neg (fun z => by have := (nI_le_iff (by omega) (by omega)).mp z; omega)]
    obtain ⟨g1, e1, e2⟩ := x_mea12 (fu := fu) h (show a < np by omega) (fun y6 M7 => (pX1_measure_2 fu 5 K t) (y6 + (1 : Int32)) M7) np 0 fu A hL (fun a' b' h1 h2 h3 => hI a' b' h1 h2 (by omega)) (by omega) (by omega)
    have e1' : pX1_measure_12 fu 5 _ fu (nI a) 0 A = _ := e1
    rw [e1', nI_1]
    obtain ⟨g, f1, f2⟩ := ih (a + 1) t (upR A 7 g1) (LN_up hL (Or.inl rfl) _) (fun a' b' h1 h2 h3 => by rw [upR_at]; exact e2 a' b' h1 h2 h3) (by omega) (by omega)
    exact ⟨g, by rw [f1, upR_upR], f2⟩
/-- the class's distances: no more than 1000 -/
def CD (A : Mem) (l : Nat → Nat → Nat) (np o k : Nat) : Prop := ∀ a b, a < np → b < np → A 7 (8 * a + b) = nI (min (if 8 * a + b < k then DD l (o + 1) a b else DD l o a b) 1000)
theorem x_mea93 (h : LH l np) {o a : Nat} (ho : o < np) (ha : a < np) (K : Int32 → Int32 → Mem → Res) : ∀ (m b t : Nat) (A : Mem), LN A l np → CD A l np o (8 * a + b) → b + m = np → m < t → ∃ g : Row, pX1_measure_93 fu 5 K t (nI o) (nI a) (nI b) A = K (nI o) (nI a) (upR A 7 g) ∧ CD (upR A 7 g) l np o (8 * (a + 1)) := by
  have hnp := h.1
  intro m
  induction m with
  | zero =>
    intro b t A hL hI hb ht
    obtain ⟨t, rfl⟩ : ∃ q, t = q + 1 := ⟨t - 1, by omega⟩
    refine ⟨A 7, ?_, fun a' b' h1 h2 => ?_⟩
    · show pX1_measure_93b fu 5 (nI o) (nI a) (nI b) A _ _ = _
      unfold pX1_measure_93b
      rw [hL.1, if_pos ((nI_le_iff (by omega) (by omega)).mpr (by omega)), upR_self]
    · rw [upR_at, hI a' b' h1 h2]
      by_cases z : 8 * a' + b' < 8 * a + b
      · rw [if_pos z, if_pos (by omega)]
      · rw [if_neg z, if_neg (by omega)]
  | succ m ih =>
    intro b t A hL hI hb ht
    obtain ⟨t, rfl⟩ : ∃ q, t = q + 1 := ⟨t - 1, by omega⟩
    have hbn : b < np := by omega
    have v1 : A 7 (8 * a + o) = nI (min (DD l o a o) 1000) := by
      rw [hI a o ha ho, DD_am]; split <;> rfl
    have v2 : A 7 (8 * o + b) = nI (min (DD l o o b) 1000) := by
      rw [hI o b ho hbn, DD_mb]; split <;> rfl
    have v3 : A 7 (8 * a + b) = nI (min (DD l o a b) 1000) := by
      rw [hI a b ha hbn, if_neg (by omega)]
    show ∃ g : Row, pX1_measure_93b fu 5 (nI o) (nI a) (nI b) A _ _ = _ ∧ _
    unfold pX1_measure_93b pX1_pair
    rw [hL.1, if_neg (fun z => by have := (nI_le_iff (by omega) (by omega)).mp z; omega), ln_dis hnp ha ho, bI_some, ln_dis hnp ho hbn, bI_some, bI_some, ln_dis hnp ha hbn, bI_some, v1, v2, v3, nI_add, min_nI (by omega) (by omega), ix8', show 5 + 1 + 1 = 7 from rfl, x_put _ _ _ _ _ _ (by decide), bV_some, rpu_nI (by omega) (by decide), nI_1]
    have em : min (min (DD l o a b) 1000) (min (DD l o a o) 1000 + min (DD l o o b) 1000) = min (DD l (o + 1) a b) 1000 := by rw [DD_s]; omega
    rw [em]
    obtain ⟨g, e1, e2⟩ := ih (b + 1) t (upR A 7 (upd (A 7) (8 * a + b) (nI (min (DD l (o + 1) a b) 1000)))) (LN_up hL (Or.inl rfl) _) (fun a' b' h1 h2 => by
      rw [upR_at]
      by_cases z : 8 * a' + b' = 8 * a + b
      · have e1 : a' = a := by omega
        have e2 : b' = b := by omega
        subst e1; subst e2
        rw [upd_at, if_pos (by omega)]
      · rw [upd_ne z, hI a' b' h1 h2]
        by_cases y : 8 * a' + b' < 8 * a + b
        · rw [if_pos y, if_pos (by omega)]
        · rw [if_neg y, if_neg (by omega)]) (by omega) (by omega)
    rw [upR_upR] at e2
    exact ⟨g, by rw [e1, upR_upR], e2⟩
theorem x_mea83 (h : LH l np) (hf : 1000 < fu) {o : Nat} (ho : o < np) (K : Int32 → Mem → Res) : ∀ (m a t : Nat) (A : Mem), LN A l np → CD A l np o (8 * a) → a + m = np → m < t → ∃ g : Row, pX1_measure_83 fu 5 K t (nI o) (nI a) A = K (nI o) (upR A 7 g) ∧ CD (upR A 7 g) l np (o + 1) 0 := by
  have hnp := h.1
  intro m
  induction m with
  | zero =>
    intro a t A hL hI ha ht
    obtain ⟨t, rfl⟩ : ∃ q, t = q + 1 := ⟨t - 1, by omega⟩
    refine ⟨A 7, ?_, fun a' b' h1 h2 => ?_⟩
    · show pX1_measure_83b fu 5 (nI o) (nI a) A _ _ = _
      unfold pX1_measure_83b
      rw [hL.1, if_pos ((nI_le_iff (by omega) (by omega)).mpr (by omega)), upR_self]
    · rw [upR_at, hI a' b' h1 h2, if_pos (by omega), if_neg (by omega)]
  | succ m ih =>
    intro a t A hL hI ha ht
    obtain ⟨t, rfl⟩ : ∃ q, t = q + 1 := ⟨t - 1, by omega⟩
    show ∃ g : Row, pX1_measure_83b fu 5 (nI o) (nI a) A _ _ = _ ∧ _
    unfold pX1_measure_83b
    rw [hL.1, if_neg (fun z => by have := (nI_le_iff (by omega) (by omega)).mp z; omega)]
    obtain ⟨g1, e1, e2⟩ := x_mea93 (fu := fu) h ho (show a < np by omega) (fun y18 y19 M20 => (pX1_measure_83 fu 5 K t) y18 (y19 + (1 : Int32)) M20) np 0 fu A hL hI (by omega) (by omega)
    have e1' : pX1_measure_93 fu 5 _ fu (nI o) (nI a) 0 A = _ := e1
    rw [e1', nI_1]
    obtain ⟨g, f1, f2⟩ := ih (a + 1) t (upR A 7 g1) (LN_up hL (Or.inl rfl) _) e2 (by omega) (by omega)
    rw [upR_upR] at f2
    exact ⟨g, by rw [f1, upR_upR], f2⟩
theorem x_mea73 (h : LH l np) (hf : 1000 < fu) (K : Mem → Res) : ∀ (m o t : Nat) (A : Mem), LN A l np → CD A l np o 0 → o + m = np → m < t → ∃ g : Row, pX1_measure_73 fu 5 K t (nI o) A = K (upR A 7 g) ∧ CD (upR A 7 g) l np np 0 := by
  have hnp := h.1
  intro m
  induction m with
  | zero =>
    intro o t A hL hI ho ht
    obtain ⟨t, rfl⟩ : ∃ q, t = q + 1 := ⟨t - 1, by omega⟩
    have e : o = np := by omega
    subst e
    refine ⟨A 7, ?_, by rw [upR_self]; exact hI⟩
    show pX1_measure_73b fu 5 (nI o) A _ _ = _
    unfold pX1_measure_73b
    rw [hL.1, if_pos ((nI_le_iff (by omega) (by omega)).mpr (by omega)), upR_self]
  | succ m ih =>
    intro o t A hL hI ho ht
    obtain ⟨t, rfl⟩ : ∃ q, t = q + 1 := ⟨t - 1, by omega⟩
    show ∃ g : Row, pX1_measure_73b fu 5 (nI o) A _ _ = _ ∧ _
    unfold pX1_measure_73b
    rw [hL.1, if_neg (fun z => by have := (nI_le_iff (by omega) (by omega)).mp z; omega)]
    obtain ⟨g1, e1, e2⟩ := x_mea83 (fu := fu) h hf (show o < np by omega) (fun y21 M22 => (pX1_measure_73 fu 5 K t) (y21 + (1 : Int32)) M22) np 0 fu A hL hI (by omega) (by omega)
    have e1' : pX1_measure_83 fu 5 _ fu (nI o) 0 A = _ := e1
    rw [e1', nI_1]
    obtain ⟨g, f1, f2⟩ := ih (o + 1) t (upR A 7 g1) (LN_up hL (Or.inl rfl) _) e2 (by omega) (by omega)
    rw [upR_upR] at f2
    exact ⟨g, by rw [f1, upR_upR], f2⟩
def HC8 (l : Nat → Nat → Nat) (a g u : Nat) : Prop := 0 < l a u ∧ l a u + min (DD l 8 u g) 1000 = min (DD l 8 a g) 1000
def HOPP (l : Nat → Nat → Nat) (np a g : Nat) (r : Int32) : Prop := ∀ u, u < np → HC8 l a g u → (∀ v, v < u → ¬ HC8 l a g v) → r = nI u
theorem x_low {A : Mem} (h : LH l np) (hL : LN A l np) (hD : ∀ a b, a < np → b < np → A 7 (8 * a + b) = nI (min (DD l 8 a b) 1000)) {a g : Nat} (ha : a < np) (hg : g < np) : ∀ (m i t : Nat), i + m = np → m < t → (∀ v, v < i → ¬ HC8 l a g v) → ∃ r, pX1_lowestHop_2 fu 5 t (nI a) (nI g) (nI i) A = some (r, A) ∧ HOPP l np a g r := by
  have hnp := h.1
  intro m
  induction m with
  | zero =>
    intro i t hi ht hno
    obtain ⟨t, rfl⟩ : ∃ q, t = q + 1 := ⟨t - 1, by omega⟩
    refine ⟨-4, ?_, fun u hu hc _ => absurd hc (hno u (by omega))⟩
    show pX1_lowestHop_2b fu 5 (nI a) (nI g) (nI i) A _ = _
    unfold pX1_lowestHop_2b
    rw [hL.1, if_pos ((nI_le_iff (by omega) (by omega)).mpr (by omega))]
  | succ m ih =>
    intro i t hi ht hno
    obtain ⟨t, rfl⟩ : ∃ q, t = q + 1 := ⟨t - 1, by omega⟩
    have hin : i < np := by omega
    have hl9 := (h.2 a i (by omega) (by omega)).1
    have b1 := DD_le h 8 i g (by omega) (by omega)
    have b2 := DD_le h 8 a g (by omega) (by omega)
    have hgo : ¬ HC8 l a g i → ∃ r, pX1_lowestHop_43 fu 5 (nI a) (nI g) (nI i) A (pX1_lowestHop_2 fu 5 t) = some (r, A) ∧ HOPP l np a g r := fun hn => by
      unfold pX1_lowestHop_43
      rw [nI_1]
      refine ih (i + 1) t (by omega) (by omega) (fun v hv => ?_)
      by_cases z : v = i
      · subst z; exact hn
      · exact hno v (by omega)
    show ∃ r, pX1_lowestHop_2b fu 5 (nI a) (nI g) (nI i) A _ = _ ∧ _
    unfold pX1_lowestHop_2b
    rw [hL.1, if_neg (fun z => by have := (nI_le_iff (by omega) (by omega)).mp z; omega), ln_len hL hnp ha hin, bI_some]
    by_cases q : l a i = 0
    · rw [if_pos ((nI_le0 (by omega)).mpr q)]
      exact hgo (fun z => by have := z.1; omega)
    · rw [if_neg (fun z => q ((nI_le0 (by omega)).mp z)), ln_dis hnp hin hg, bI_some, ln_dis hnp ha hg, bI_some, hD i g hin hg, hD a g ha hg, nI_add]
      by_cases z : l a i + min (DD l 8 i g) 1000 = min (DD l 8 a g) 1000
      · rw [if_pos (by rw [z])]
        refine ⟨nI i, rfl, fun u hu hc hlow => ?_⟩
        rcases Nat.lt_trichotomy u i with y | y | y
        · exact absurd hc (hno u y)
        · rw [y]
        · exact absurd ⟨by omega, z⟩ (hlow i y)
      · rw [if_neg (fun y => z ((nI_eq_iff (by omega) (by omega)).mp y))]
        exact hgo (fun y => z y.2)
theorem x_mea169 (h : LH l np) (hf : 1000 < fu) {a : Nat} (ha : a < np) (K : Int32 → Mem → Res) : ∀ (m b t : Nat) (A : Mem), LN A l np → (∀ a b, a < np → b < np → A 7 (8 * a + b) = nI (min (DD l 8 a b) 1000)) → (∀ a' b', a' < np → b' < np → 8 * a' + b' < 8 * a + b → HOPP l np a' b' (A 8 (8 * a' + b'))) → b + m = np → m < t → ∃ g : Row, pX1_measure_169 fu 5 K t (nI a) (nI b) A = K (nI a) (upR A 8 g) ∧ ∀ a' b', a' < np → b' < np → 8 * a' + b' < 8 * (a + 1) → HOPP l np a' b' (g (8 * a' + b')) := by
  have hnp := h.1
  intro m
  induction m with
  | zero =>
    intro b t A hL hD hI hb ht
    obtain ⟨t, rfl⟩ : ∃ q, t = q + 1 := ⟨t - 1, by omega⟩
    refine ⟨A 8, ?_, fun a' b' h1 h2 h3 => hI a' b' h1 h2 (by omega)⟩
    show pX1_measure_169b fu 5 (nI a) (nI b) A _ _ = _
    unfold pX1_measure_169b
    rw [hL.1, if_pos ((nI_le_iff (by omega) (by omega)).mpr (by omega)), upR_self]
  | succ m ih =>
    intro b t A hL hD hI hb ht
    obtain ⟨t, rfl⟩ : ∃ q, t = q + 1 := ⟨t - 1, by omega⟩
    have hbn : b < np := by omega
    obtain ⟨r, l1, l2⟩ := x_low (fu := fu) h hL hD ha hbn np 0 fu (by omega) (by omega) (fun v hv => absurd hv (by omega))
    have l1' : pX1_lowestHop fu 5 (nI a) (nI b) A = _ := l1
    show ∃ g : Row, pX1_measure_169b fu 5 (nI a) (nI b) A _ _ = _ ∧ _
    unfold pX1_measure_169b pX1_pair
    rw [hL.1, if_neg (fun z => by have := (nI_le_iff (by omega) (by omega)).mp z; omega), bI_some, l1', bI_some, ix8', show 5 + 1 + 2 = 8 from rfl, x_put _ _ _ _ _ _ (by decide), bV_some, rpu_nI (by omega) (by decide), nI_1]
    obtain ⟨g, e1, e2⟩ := ih (b + 1) t (upR A 8 (upd (A 8) (8 * a + b) r)) (LN_up hL (Or.inr rfl) _) (fun a b h1 h2 => by rw [upR_ne (by decide)]; exact hD a b h1 h2) (fun a' b' h1 h2 h3 => by
      rw [upR_at]
      by_cases z : 8 * a' + b' = 8 * a + b
      · have e1 : a' = a := by omega
        have e2 : b' = b := by omega
        subst e1; subst e2
        rw [upd_at]; exact l2
      · rw [upd_ne z]; exact hI a' b' h1 h2 (by omega)) (by omega) (by omega)
    exact ⟨g, by rw [e1, upR_upR], e2⟩
theorem x_mea159 (h : LH l np) (hf : 1000 < fu) : ∀ (m a t : Nat) (A : Mem), LN A l np → (∀ a b, a < np → b < np → A 7 (8 * a + b) = nI (min (DD l 8 a b) 1000)) → (∀ a' b', a' < np → b' < np → 8 * a' + b' < 8 * a → HOPP l np a' b' (A 8 (8 * a' + b'))) → a + m = np → m < t → ∃ g : Row, pX1_measure_159 fu 5 t (nI a) A = some (0, upR A 8 g) ∧ ∀ a' b', a' < np → b' < np → HOPP l np a' b' (g (8 * a' + b')) := by
  have hnp := h.1
  intro m
  induction m with
  | zero =>
    intro a t A hL hD hI ha ht
    obtain ⟨t, rfl⟩ : ∃ q, t = q + 1 := ⟨t - 1, by omega⟩
    refine ⟨A 8, ?_, fun a' b' h1 h2 => hI a' b' h1 h2 (by omega)⟩
    show pX1_measure_159b fu 5 (nI a) A _ = _
    unfold pX1_measure_159b
    rw [hL.1, if_pos ((nI_le_iff (by omega) (by omega)).mpr (by omega)), upR_self]
  | succ m ih =>
    intro a t A hL hD hI ha ht
    obtain ⟨t, rfl⟩ : ∃ q, t = q + 1 := ⟨t - 1, by omega⟩
    show ∃ g : Row, pX1_measure_159b fu 5 (nI a) A _ = _ ∧ _
    unfold pX1_measure_159b
    rw [hL.1, if_neg (fun z => by have := (nI_le_iff (by omega) (by omega)).mp z; omega)]
    obtain ⟨g1, e1, e2⟩ := x_mea169 (fu := fu) h hf (show a < np by omega) (fun y29 M30 => (pX1_measure_159 fu 5 t) (y29 + (1 : Int32)) M30) np 0 fu A hL hD (fun a' b' h1 h2 h3 => hI a' b' h1 h2 (by omega)) (by omega) (by omega)
    have e1' : pX1_measure_169 fu 5 _ fu (nI a) 0 A = _ := e1
    rw [e1', nI_1]
    obtain ⟨g, f1, f2⟩ := ih (a + 1) t (upR A 8 g1) (LN_up hL (Or.inr rfl) _) (fun a b h1 h2 => by rw [upR_ne (by decide)]; exact hD a b h1 h2) (fun a' b' h1 h2 h3 => by rw [upR_at]; exact e2 a' b' h1 h2 h3) (by omega) (by omega)
    exact ⟨g, by rw [f1, upR_upR], f2⟩
theorem x_measure {A : Mem} (h : LH l np) (hL : LN A l np) (hf : 1000 < fu) : ∃ A', pX1_measure fu 5 A = some (0, A') ∧ (∀ k, k ≠ 7 → k ≠ 8 → A' k = A k) ∧ (∀ a b, a < np → b < np → A' 7 (8 * a + b) = nI (min (DD l 8 a b) 1000)) ∧ ∀ a b, a < np → b < np → HOPP l np a b (A' 8 (8 * a + b)) := by
  have hnp := h.1
  unfold pX1_measure
  obtain ⟨g1, e1, a1⟩ := x_mea2 (fu := fu) h hf (fun  M8 =>
      pX1_measure_73 fu 5
        (fun  M23 =>
          pX1_measure_159 fu 5
            fu (0 : Int32) M23)
        fu (0 : Int32) M8) np 0 fu A hL (fun a' b' _ _ h3 => absurd h3 (by omega)) (by omega) (by omega)
  have e1' : pX1_measure_2 fu 5 _ fu 0 A = _ := e1
  rw [e1']
  obtain ⟨g2, e2, a2⟩ := x_mea73 (fu := fu) h hf (fun  M23 => pX1_measure_159 fu 5 fu (0 : Int32) M23) np 0 fu (upR A 7 g1) (LN_up hL (Or.inl rfl) _) (fun a b h1 h2 => by rw [upR_at, if_neg (by omega)]; exact a1 a b h1 h2) (by omega) (by omega)
  have e2' : pX1_measure_73 fu 5 _ fu 0 (upR A 7 g1) = _ := e2
  rw [upR_upR] at e2' a2
  rw [e2']
  have hD : ∀ a b, a < np → b < np → upR A 7 g2 7 (8 * a + b) = nI (min (DD l 8 a b) 1000) := fun a b h1 h2 => by
    rw [a2 a b h1 h2, if_neg (by omega), DD_8 h h1 h2]
  obtain ⟨g3, e3, a3⟩ := x_mea159 (fu := fu) h hf np 0 fu (upR A 7 g2) (LN_up hL (Or.inl rfl) _) hD (fun a' b' _ _ h3 => absurd h3 (by omega)) (by omega) (by omega)
  have e3' : pX1_measure_159 fu 5 fu 0 (upR A 7 g2) = _ := e3
  rw [e3']
  refine ⟨_, rfl, fun k h7 h8 => by rw [upR_ne h8, upR_ne h7], fun a b h1 h2 => by rw [upR_ne (by decide)]; exact hD a b h1 h2, fun a b h1 h2 => by rw [upR_at]; exact a3 a b h1 h2⟩
end ME
