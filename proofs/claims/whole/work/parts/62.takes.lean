/-! PURE: what the class takes from an item; both courts after it -/
section TK
variable {A B : Mem} {n fu p np nd nb k0 : Nat} {c : Nat → Nat} {l : Nat → Nat → Nat}
theorem t_hasP {v : Nat} (h10 : A k0 10 = nI np) (hnp : np ≤ 8) (hv : v ≤ 99) : pX1_hasPlace fu k0 (nI v) A = some (if v < np then 1 else 0, A) := by
  unfold pX1_hasPlace
  rw [if_neg (nI_pos (by omega)), h10, rtz_0, rtz_1]
  by_cases q : v < np
  · rw [if_neg (fun z => by have := (nI_le_iff (by omega) (by omega)).mp z; omega), if_pos q]
  · rw [if_pos ((nI_le_iff (by omega) (by omega)).mpr (by omega)), if_neg q]
theorem l_lt {v k : Nat} (hv : v ≤ 99) (hk : k ≤ 99) : nI v < nI k ↔ v < k := nI_lt_iff (by omega) (by omega)
theorem l_le {v k : Nat} (hv : v ≤ 99) (hk : k ≤ 99) : nI v ≤ nI k ↔ v ≤ k := nI_le_iff (by omega) (by omega)
theorem t_places {v : Nat} (hv : v ≤ 99) : pX1_takePlaces fu k0 (nI v) A = if 1 ≤ v ∧ v ≤ 8 then some (1, upR A k0 (upd (A k0) 10 (nI v))) else some (0, A) := by
  unfold pX1_takePlaces fpt
  rw [rtz_0, up2_eq]
  by_cases q : v < 1
  · rw [if_pos (show nI v < 1 from (l_lt (k := 1) hv (by decide)).mpr q), if_neg (by omega)]
  · rw [if_neg (show ¬ nI v < 1 from fun z => q ((l_lt (k := 1) hv (by decide)).mp z))]
    by_cases q2 : v ≤ 8
    · rw [if_pos (show nI v ≤ 8 from (l_le (k := 8) hv (by decide)).mpr q2), if_pos (by omega)]; rfl
    · rw [if_neg (show ¬ nI v ≤ 8 from fun z => q2 ((l_le (k := 8) hv (by decide)).mp z)), if_neg (by omega)]
def wyX (A : Mem) (k0 v w u : Nat) : Mem := upR A (k0 + 1 + 0) (upd (upd (A (k0 + 1 + 0)) (8 * v + w) (nI u)) (8 * w + v) (nI u))
theorem t_way {v w u : Nat} (h10 : A k0 10 = nI np) (hnp : np ≤ 8) (hv : v ≤ 99) (hw : w ≤ 99) (hu : u ≤ 99) : pX1_takeWay fu k0 (nI v) (nI w) (nI u) A = if v < np ∧ w < np ∧ v ≠ w ∧ 1 ≤ u ∧ u ≤ 9 then some (1, wyX A k0 v w u) else some (0, A) := by
  unfold pX1_takeWay
  rw [t_hasP h10 hnp hv, bI_some, rtz_0]
  by_cases q1 : v < np
  · rw [if_pos q1, if_neg one_ne, t_hasP h10 hnp hw, bI_some, rtz_0]
    by_cases q2 : w < np
    · rw [if_pos q2, if_neg one_ne]
      by_cases q3 : v = w
      · rw [if_pos (by rw [q3]), if_neg (fun z => z.2.2.1 q3)]
      · rw [if_neg (fun z => q3 ((nI_eq_iff (by omega) (by omega)).mp z))]
        by_cases q4 : u < 1
        · rw [if_pos (show nI u < 1 from (l_lt (k := 1) hu (by decide)).mpr q4), if_neg (by omega)]
        · rw [if_neg (show ¬ nI u < 1 from fun z => q4 ((l_lt (k := 1) hu (by decide)).mp z))]
          by_cases q5 : u ≤ 9
          · rw [if_pos (show nI u ≤ 9 from (l_le (k := 9) hu (by decide)).mpr q5), if_pos ⟨q1, q2, q3, by omega, q5⟩]
            unfold pX1_pair
            rw [bI_some, ix8', x_put _ _ _ _ _ _ (by decide), bV_some, bI_some, ix8', x_put _ _ _ _ _ _ (by decide), bV_some, rtz_1, upR_upR, upR_at, rpu_nI (by omega) (by decide), rpu_nI (by omega) (by decide)]
            rfl
          · rw [if_neg (show ¬ nI u ≤ 9 from fun z => q5 ((l_le (k := 9) hu (by decide)).mp z)), if_neg (by omega)]
    · rw [if_neg q2, if_pos rfl, if_neg (by omega)]
  · rw [if_neg q1, if_pos rfl, if_neg (by omega)]
def doX (A : Mem) (k0 nd v w : Nat) : Mem := upR (upR (upR A (k0 + 1 + 3) (upd (A (k0 + 1 + 3)) nd (nI v))) (k0 + 1 + 4) (upd (A (k0 + 1 + 4)) nd (nI w))) k0 (upd (A k0) 11 (nI (nd + 1)))
theorem t_door {v w : Nat} (h10 : A k0 10 = nI np) (hnp : np ≤ 8) (h11 : A k0 11 = nI nd) (hnd : nd ≤ 4) (hv : v ≤ 99) (hw : w ≤ 99) : pX1_takeDoor fu k0 (nI v) (nI w) A = if nd < 4 ∧ v ≤ 3 ∧ w < np then some (1, doX A k0 nd v w) else some (0, A) := by
  unfold pX1_takeDoor fpt
  rw [h11, rtz_0]
  by_cases q1 : nd < 4
  · rw [if_neg (show ¬ (4 : Int32) ≤ nI nd from fun z => by have := (l_le (v := 4) (by decide) (show nd ≤ 99 by omega)).mp z; omega), if_neg (nI_pos (by omega))]
    by_cases q2 : 3 < v
    · rw [if_pos (show (3 : Int32) < nI v from (l_lt (v := 3) (by decide) hv).mpr q2), if_neg (by omega)]
    · rw [if_neg (show ¬ (3 : Int32) < nI v from fun z => q2 ((l_lt (v := 3) (by decide) hv).mp z)), t_hasP h10 hnp hw, bI_some, rtz_0]
      by_cases q3 : w < np
      · rw [if_pos q3, if_neg one_ne, if_pos ⟨q1, by omega, q3⟩, h11, x_put _ _ _ _ _ _ (by decide), bV_some, rpu_nI (by omega) (by decide), upR_ne (a := k0) (k := k0 + 1 + 3) (by omega), h11, x_put _ _ _ _ _ _ (by decide), bV_some, rpu_nI (by omega) (by decide), up2_eq, upR_ne (a := k0) (k := k0 + 1 + 4) (by omega), upR_ne (a := k0) (k := k0 + 1 + 3) (by omega), h11, nI_1, upR_ne (a := k0 + 1 + 4) (k := k0 + 1 + 3) (by omega)]
        rfl
      · rw [if_neg q3, if_pos rfl, if_neg (by omega)]
  · rw [if_pos (show (4 : Int32) ≤ nI nd from (l_le (v := 4) (by decide) (show nd ≤ 99 by omega)).mpr (by omega)), if_neg (by omega)]
def beX (A : Mem) (k0 nb v w u : Nat) : Mem := upR (upR (upR (upR A (k0 + 1 + 5) (upd (A (k0 + 1 + 5)) nb (nI v))) (k0 + 1 + 6) (upd (A (k0 + 1 + 6)) nb (nI w))) (k0 + 1 + 7) (upd (A (k0 + 1 + 7)) nb (nI u))) k0 (upd (A k0) 12 (nI (nb + 1)))
theorem t_beast {v w u : Nat} (h12 : A k0 12 = nI nb) (hnb : nb ≤ 5) (hv : v ≤ 99) (hw : w ≤ 99) (hu : u ≤ 99) : pX1_takeBeast fu k0 (nI v) (nI w) (nI u) A = if nb < 5 ∧ v ≤ 3 ∧ 1 ≤ w ∧ w ≤ 3 ∧ u ≤ 9 then some (1, beX A k0 nb v w u) else some (0, A) := by
  unfold pX1_takeBeast fpt
  rw [h12, rtz_0]
  by_cases q1 : nb < 5
  · rw [if_neg (show ¬ (5 : Int32) ≤ nI nb from fun z => by have := (l_le (v := 5) (by decide) (show nb ≤ 99 by omega)).mp z; omega), if_neg (nI_pos (by omega))]
    by_cases q2 : 3 < v
    · rw [if_pos (show (3 : Int32) < nI v from (l_lt (v := 3) (by decide) hv).mpr q2), if_neg (by omega)]
    · rw [if_neg (show ¬ (3 : Int32) < nI v from fun z => q2 ((l_lt (v := 3) (by decide) hv).mp z))]
      by_cases q3 : w < 1
      · rw [if_pos (show nI w < 1 from (l_lt (k := 1) hw (by decide)).mpr q3), if_neg (by omega)]
      · rw [if_neg (show ¬ nI w < 1 from fun z => q3 ((l_lt (k := 1) hw (by decide)).mp z))]
        by_cases q4 : 3 < w
        · rw [if_pos (show (3 : Int32) < nI w from (l_lt (v := 3) (by decide) hw).mpr q4), if_neg (by omega)]
        · rw [if_neg (show ¬ (3 : Int32) < nI w from fun z => q4 ((l_lt (v := 3) (by decide) hw).mp z)), if_neg (nI_pos (by omega))]
          by_cases q5 : u < 10
          · rw [if_pos (show nI u < 10 from (l_lt (k := 10) hu (by decide)).mpr q5), if_pos (by omega), x_put _ _ _ _ _ _ (by decide), bV_some, rpu_nI (by omega) (by decide), upR_ne (a := k0) (k := k0 + 1 + 5) (by omega), h12, x_put _ _ _ _ _ _ (by decide), bV_some, rpu_nI (by omega) (by decide), upR_ne (a := k0) (k := k0 + 1 + 6) (by omega), upR_ne (a := k0) (k := k0 + 1 + 5) (by omega), h12, x_put _ _ _ _ _ _ (by decide), bV_some, rpu_nI (by omega) (by decide), up2_eq, upR_ne (a := k0) (k := k0 + 1 + 7) (by omega), upR_ne (a := k0) (k := k0 + 1 + 6) (by omega), upR_ne (a := k0) (k := k0 + 1 + 5) (by omega), h12, nI_1, upR_ne (a := k0 + 1 + 7) (k := k0 + 1 + 6) (by omega), upR_ne (a := k0 + 1 + 7) (k := k0 + 1 + 5) (by omega), upR_ne (a := k0 + 1 + 6) (k := k0 + 1 + 5) (by omega)]
            rfl
          · rw [if_neg (show ¬ nI u < 10 from fun z => q5 ((l_lt (k := 10) hu (by decide)).mp z)), if_neg (by omega)]
  · rw [if_pos (show (5 : Int32) ≤ nI nb from (l_le (v := 5) (by decide) (show nb ≤ 99 by omega)).mpr (by omega)), if_neg (by omega)]
theorem t_car {v w : Nat} (h10 : A k0 10 = nI np) (hnp : np ≤ 8) (hv : v ≤ 99) (hw : w ≤ 99) : pX1_takeCarrots fu k0 (nI v) (nI w) A = if v < np ∧ w ≤ 9 then some (1, upR A (k0 + 1 + 8) (upd (A (k0 + 1 + 8)) v (nI w))) else some (0, A) := by
  unfold pX1_takeCarrots
  rw [t_hasP h10 hnp hv, bI_some, rtz_0]
  by_cases q1 : v < np
  · rw [if_pos q1, if_neg one_ne, if_neg (nI_pos (by omega))]
    by_cases q2 : w ≤ 9
    · rw [if_pos (show nI w ≤ 9 from (l_le (k := 9) hw (by decide)).mpr q2), if_pos ⟨q1, q2⟩, x_put _ _ _ _ _ _ (by decide), bV_some, rpu_nI (by omega) (by decide), rtz_1]
    · rw [if_neg (show ¬ nI w ≤ 9 from fun z => q2 ((l_le (k := 9) hw (by decide)).mp z)), if_neg (by omega)]
  · rw [if_neg q1, if_pos rfl, if_neg (by omega)]
theorem t_mare {v : Nat} (h10 : A k0 10 = nI np) (hnp : np ≤ 8) (hv : v ≤ 99) : pX1_takeMare fu k0 (nI v) A = if v < np then some (1, upR A (k0 + 1 + 9) (upd (A (k0 + 1 + 9)) v 1)) else some (0, A) := by
  unfold pX1_takeMare
  rw [t_hasP h10 hnp hv, bI_some, rtz_0]
  by_cases q1 : v < np
  · rw [if_pos q1, if_neg one_ne, if_pos q1, x_put _ _ _ _ _ _ (by decide), bV_some, rpu_nI (by omega) (by decide), rtz_1]
  · rw [if_neg q1, if_pos rfl, if_neg q1]
/-! both after an item -/
theorem DC_n (h : DC A B k0 np nd nb l) (hl : ∀ a b, l a b = 0) (h0 : nd = 0) {v : Nat} (h1 : 1 ≤ v) (h8 : v ≤ 8) : DC (upR A k0 (upd (A k0) 10 (nI v))) (upR B 0 (upd (B 0) 10 (nI v))) k0 v nd nb l := by
  obtain ⟨g1, g2, g3, g4, g5, g6, g7, g8, g9⟩ := h
  unfold DC
  rw [upR_at, upR_at, upd_at, upd_at, upd_ne (by decide), upd_ne (by decide), upd_ne (by decide), upd_ne (by decide), upd_ne (by decide)]
  rw [upR_ne (a := k0 + 1 + 0) (by omega), upR_ne (a := k0 + 1 + 3) (by omega), upR_ne (a := k0 + 1 + 4) (by omega), upR_ne (a := k0 + 1 + 5) (by omega), upR_ne (a := k0 + 1 + 6) (by omega), upR_ne (a := k0 + 1 + 7) (by omega), upR_ne (a := k0 + 1 + 8) (by omega), upR_ne (a := k0 + 1 + 9) (by omega)]
  rw [upR_ne (a := 7) (by decide), upR_ne (a := 8) (by decide), upR_ne (a := 9) (by decide), upR_ne (a := 10) (by decide), upR_ne (a := 11) (by decide), upR_ne (a := 12) (by decide)]
  refine ⟨⟨h1, h8, g1.2.2.1, g1.2.2.2⟩, ⟨rfl, g2.2⟩, ⟨rfl, g3.2⟩, fun a b ha hb => ?_, fun d hd => absurd hd (by omega), g6, g7, g8, g9⟩
  obtain ⟨q1, q2, -, q4, q5⟩ := g4 a b ha hb
  exact ⟨q1, q2, fun _ => hl a b, q4, q5⟩
def lW (l : Nat → Nat → Nat) (v w u a b : Nat) : Nat := if (a = v ∧ b = w) ∨ (a = w ∧ b = v) then u else l a b
theorem DC_w (h : DC A B k0 np nd nb l) {v w u : Nat} (hh : v < np ∧ w < np ∧ v ≠ w ∧ 1 ≤ u ∧ u ≤ 9) : DC (wyX A k0 v w u) (upR B 7 (upd (upd (B 7) (8 * v + w) (nI u)) (8 * w + v) (nI u))) k0 np nd nb (lW l v w u) := by
  obtain ⟨g1, g2, g3, g4, g5, g6, g7, g8, g9⟩ := h
  unfold DC wyX
  rw [upR_at, upR_at]
  rw [upR_ne (a := k0) (by omega), upR_ne (a := k0 + 1 + 3) (by omega), upR_ne (a := k0 + 1 + 4) (by omega), upR_ne (a := k0 + 1 + 5) (by omega), upR_ne (a := k0 + 1 + 6) (by omega), upR_ne (a := k0 + 1 + 7) (by omega), upR_ne (a := k0 + 1 + 8) (by omega), upR_ne (a := k0 + 1 + 9) (by omega)]
  rw [upR_ne (a := 0) (by decide), upR_ne (a := 8) (by decide), upR_ne (a := 9) (by decide), upR_ne (a := 10) (by decide), upR_ne (a := 11) (by decide), upR_ne (a := 12) (by decide)]
  refine ⟨g1, g2, g3, fun a b ha hb => ?_, g5, g6, g7, g8, g9⟩
  obtain ⟨q1, q2, q3, q4, q5⟩ := g4 a b ha hb
  by_cases z : (a = v ∧ b = w) ∨ (a = w ∧ b = v)
  · have z' : (b = v ∧ a = w) ∨ (b = w ∧ a = v) := by omega
    rw [show lW l v w u a b = u from if_pos z, show lW l v w u b a = u from if_pos z', if_neg (show ¬ u = 0 by omega)]
    refine ⟨by omega, rfl, fun y => by omega, ?_, ?_⟩
    · rcases z with ⟨rfl, rfl⟩ | ⟨rfl, rfl⟩
      · rw [upd_ne (by omega), upd_at]
      · rw [upd_at]
    · rcases z with ⟨rfl, rfl⟩ | ⟨rfl, rfl⟩
      · rw [upd_ne (by omega), upd_at]
      · rw [upd_at]
  · have z' : ¬ ((b = v ∧ a = w) ∨ (b = w ∧ a = v)) := by omega
    rw [show lW l v w u a b = l a b from if_neg z, show lW l v w u b a = l b a from if_neg z']
    have n1 : 8 * a + b ≠ 8 * w + v := by omega
    have n2 : 8 * a + b ≠ 8 * v + w := by omega
    rw [upd_ne n1, upd_ne n2, upd_ne n1, upd_ne n2]
    exact ⟨q1, q2, q3, q4, q5⟩
theorem DC_d (h : DC A B k0 np nd nb l) {v w : Nat} (hh : nd < 4 ∧ v ≤ 3 ∧ w < np) : DC (doX A k0 nd v w) (opM B nd v w) k0 np (nd + 1) nb l := by
  obtain ⟨g1, g2, g3, g4, g5, g6, g7, g8, g9⟩ := h
  unfold DC doX opM
  rw [upR_at, upR_at, upd_at, upd_at, upd_ne (by decide), upd_ne (by decide), upd_ne (by decide), upd_ne (by decide), upd_ne (by decide)]
  rw [upR_ne (a := k0 + 1 + 0) (by omega), upR_ne (a := k0 + 1 + 0) (by omega), upR_ne (a := k0 + 1 + 0) (by omega), upR_ne (a := k0 + 1 + 3) (k := k0) (by omega), upR_ne (a := k0 + 1 + 3) (k := k0 + 1 + 4) (by omega), upR_at, upR_ne (a := k0 + 1 + 4) (k := k0) (by omega), upR_at]
  rw [upR_ne (a := k0 + 1 + 5) (by omega), upR_ne (a := k0 + 1 + 5) (by omega), upR_ne (a := k0 + 1 + 5) (by omega), upR_ne (a := k0 + 1 + 6) (by omega), upR_ne (a := k0 + 1 + 6) (by omega), upR_ne (a := k0 + 1 + 6) (by omega), upR_ne (a := k0 + 1 + 7) (by omega), upR_ne (a := k0 + 1 + 7) (by omega), upR_ne (a := k0 + 1 + 7) (by omega), upR_ne (a := k0 + 1 + 8) (by omega), upR_ne (a := k0 + 1 + 8) (by omega), upR_ne (a := k0 + 1 + 8) (by omega), upR_ne (a := k0 + 1 + 9) (by omega), upR_ne (a := k0 + 1 + 9) (by omega), upR_ne (a := k0 + 1 + 9) (by omega)]
  rw [upR_ne (a := 7) (by decide), upR_ne (a := 7) (by decide), upR_ne (a := 7) (by decide), upR_ne (a := 9) (k := 0) (by decide), upR_at, upR_ne (a := 8) (k := 0) (by decide), upR_ne (a := 8) (k := 9) (by decide), upR_at, upR_ne (a := 10) (by decide), upR_ne (a := 10) (by decide), upR_ne (a := 10) (by decide), upR_ne (a := 11) (by decide), upR_ne (a := 11) (by decide), upR_ne (a := 11) (by decide), upR_ne (a := 12) (by decide), upR_ne (a := 12) (by decide), upR_ne (a := 12) (by decide)]
  refine ⟨⟨g1.1, g1.2.1, by omega, g1.2.2.2⟩, ⟨g2.1, rfl, g2.2.2⟩, ⟨g3.1, rfl, g3.2.2⟩, g4, fun d hd => ?_, g6, g7, g8, g9⟩
  by_cases z : d = nd
  · subst z
    exact ⟨w, v, hh.2.2, by omega, upd_at _ _ _, upd_at _ _ _, upd_at _ _ _, upd_at _ _ _⟩
  · rw [upd_ne z, upd_ne z, upd_ne z, upd_ne z]; exact g5 d (by omega)
theorem DC_b (h : DC A B k0 np nd nb l) {v w u : Nat} (hh : nb < 5 ∧ v ≤ 3 ∧ 1 ≤ w ∧ w ≤ 3 ∧ u ≤ 9) : DC (beX A k0 nb v w u) (coM B nb v w u) k0 np nd (nb + 1) l := by
  obtain ⟨g1, g2, g3, g4, g5, g6, g7, g8, g9⟩ := h
  have b0 : ∀ k, k ≠ 10 → k ≠ 11 → k ≠ 12 → k ≠ 0 → coM B nb v w u k = B k := fun k a1 a2 a3 a4 => by unfold coM; rw [upR_ne a4, upR_ne a3, upR_ne a2, upR_ne a1]
  have a0 : ∀ k, k ≠ k0 + 1 + 5 → k ≠ k0 + 1 + 6 → k ≠ k0 + 1 + 7 → k ≠ k0 → beX A k0 nb v w u k = A k := fun k a1 a2 a3 a4 => by unfold beX; rw [upR_ne a4, upR_ne a3, upR_ne a2, upR_ne a1]
  have e5 : beX A k0 nb v w u (k0 + 1 + 5) = upd (A (k0 + 1 + 5)) nb (nI v) := by unfold beX; rw [upR_ne (by omega), upR_ne (by omega), upR_ne (by omega), upR_at]
  have e6 : beX A k0 nb v w u (k0 + 1 + 6) = upd (A (k0 + 1 + 6)) nb (nI w) := by unfold beX; rw [upR_ne (by omega), upR_ne (by omega), upR_at]
  have e7 : beX A k0 nb v w u (k0 + 1 + 7) = upd (A (k0 + 1 + 7)) nb (nI u) := by unfold beX; rw [upR_ne (by omega), upR_at]
  have ek : beX A k0 nb v w u k0 = upd (A k0) 12 (nI (nb + 1)) := by unfold beX; rw [upR_at]
  have f10 : coM B nb v w u 10 = upd (B 10) nb (nI v) := by unfold coM; rw [upR_ne (by decide), upR_ne (by decide), upR_ne (by decide), upR_at]
  have f11 : coM B nb v w u 11 = upd (B 11) nb (nI w) := by unfold coM; rw [upR_ne (by decide), upR_ne (by decide), upR_at]
  have f12 : coM B nb v w u 12 = upd (upd (upd (B 12) (744 + nb) (nI u)) (714 + nb) (-4)) (729 + nb) (-4) := by unfold coM; rw [upR_ne (by decide), upR_at]
  have f0 : coM B nb v w u 0 = upd (B 0) 16 (nI (nb + 1)) := by unfold coM; rw [upR_at]
  unfold DC
  rw [ek, f0, a0 (k0 + 1 + 0) (by omega) (by omega) (by omega) (by omega), a0 (k0 + 1 + 3) (by omega) (by omega) (by omega) (by omega), a0 (k0 + 1 + 4) (by omega) (by omega) (by omega) (by omega), a0 (k0 + 1 + 8) (by omega) (by omega) (by omega) (by omega), a0 (k0 + 1 + 9) (by omega) (by omega) (by omega) (by omega), e5, e6, e7, f10, f11, f12, b0 7 (by decide) (by decide) (by decide) (by decide), b0 8 (by decide) (by decide) (by decide) (by decide), b0 9 (by decide) (by decide) (by decide) (by decide)]
  rw [upd_at, upd_ne (by decide), upd_ne (by decide), upd_at, upd_ne (by decide), upd_ne (by decide), upd_ne (by decide)]
  refine ⟨⟨g1.1, g1.2.1, g1.2.2.1, by omega⟩, ⟨g2.1, g2.2.1, rfl⟩, ⟨g3.1, g3.2.1, rfl⟩, g4, g5, fun b hb => ?_, fun x hx => ?_, g8, fun j hj hz => ?_⟩
  · by_cases z : b = nb
    · subst z
      refine ⟨v, w, u, by omega, by omega, by omega, by omega, upd_at _ _ _, upd_at _ _ _, upd_at _ _ _, upd_at _ _ _, upd_at _ _ _, ?_, ?_, ?_⟩
      · rw [upd_ne (by omega), upd_ne (by omega), upd_at]
      · rw [upd_ne (by omega), upd_at]
      · rw [upd_at]
    · rw [upd_ne z, upd_ne z, upd_ne z, upd_ne z, upd_ne z, upd_ne (j := 744 + b) (by omega), upd_ne (j := 744 + b) (by omega), upd_ne (j := 744 + b) (by omega), upd_ne (j := 714 + b) (by omega), upd_ne (j := 714 + b) (by omega), upd_ne (j := 714 + b) (by omega), upd_ne (j := 729 + b) (by omega), upd_ne (j := 729 + b) (by omega), upd_ne (j := 729 + b) (by omega)]
      exact g6 b (by omega)
  · rw [upd_ne (by omega), upd_ne (by omega), upd_ne (by omega)]; exact g7 x hx
  · rw [upd_ne (by omega), upd_ne (by omega), upd_ne (by omega)]; exact g9 j hj hz
theorem DC_c (h : DC A B k0 np nd nb l) {v w : Nat} (hh : v < np ∧ w ≤ 9) : DC (upR A (k0 + 1 + 8) (upd (A (k0 + 1 + 8)) v (nI w))) (upR B 12 (upd (B 12) (759 + v) (nI w))) k0 np nd nb l := by
  obtain ⟨g1, g2, g3, g4, g5, g6, g7, g8, g9⟩ := h
  unfold DC
  rw [upR_at, upR_at]
  rw [upR_ne (a := k0) (by omega), upR_ne (a := k0 + 1 + 0) (by omega), upR_ne (a := k0 + 1 + 3) (by omega), upR_ne (a := k0 + 1 + 4) (by omega), upR_ne (a := k0 + 1 + 5) (by omega), upR_ne (a := k0 + 1 + 6) (by omega), upR_ne (a := k0 + 1 + 7) (by omega), upR_ne (a := k0 + 1 + 9) (by omega)]
  rw [upR_ne (a := 0) (by decide), upR_ne (a := 7) (by decide), upR_ne (a := 8) (by decide), upR_ne (a := 9) (by decide), upR_ne (a := 10) (by decide), upR_ne (a := 11) (by decide)]
  refine ⟨g1, g2, g3, g4, g5, fun b hb => ?_, fun x hx => ?_, g8, fun j hj hz => ?_⟩
  · rw [upd_ne (by omega), upd_ne (by omega), upd_ne (by omega)]; exact g6 b hb
  · by_cases z : x = v
    · subst z; exact ⟨w, hh.2, upd_at _ _ _, upd_at _ _ _⟩
    · rw [upd_ne z, upd_ne (by omega)]; exact g7 x hx
  · rw [upd_ne (by omega)]; exact g9 j hj hz
theorem b8_or : ∀ v, v < 8 → ∀ a b c d e f g h : Bool, b8 a b c d e f g h ||| (1 <<< (nI v &&& 31)) = b8 (a || v == 0) (b || v == 1) (c || v == 2) (d || v == 3) (e || v == 4) (f || v == 5) (g || v == 6) (h || v == 7) := by decide +kernel
def orB (p : Nat → Bool) (v x : Nat) : Bool := p x || v == x
theorem DC_m (h : DC A B k0 np nd nb l) {v : Nat} (hv : v < np) : DC (upR A (k0 + 1 + 9) (upd (A (k0 + 1 + 9)) v 1)) (upR B 0 (upd (B 0) 12 (B 0 12 ||| (1 <<< (nI v &&& 31))))) k0 np nd nb l := by
  obtain ⟨g1, g2, g3, g4, g5, g6, g7, ⟨p, g8, g8'⟩, g9⟩ := h
  unfold DC
  rw [upR_at, upR_at, upd_ne (k := 12) (by decide), upd_ne (k := 12) (by decide), upd_ne (k := 12) (by decide), upd_at]
  rw [upR_ne (a := k0) (by omega), upR_ne (a := k0 + 1 + 0) (by omega), upR_ne (a := k0 + 1 + 3) (by omega), upR_ne (a := k0 + 1 + 4) (by omega), upR_ne (a := k0 + 1 + 5) (by omega), upR_ne (a := k0 + 1 + 6) (by omega), upR_ne (a := k0 + 1 + 7) (by omega), upR_ne (a := k0 + 1 + 8) (by omega)]
  rw [upR_ne (a := 7) (by decide), upR_ne (a := 8) (by decide), upR_ne (a := 9) (by decide), upR_ne (a := 10) (by decide), upR_ne (a := 11) (by decide), upR_ne (a := 12) (by decide)]
  refine ⟨g1, g2, g3, g4, g5, g6, g7, ⟨orB p v, ?_, fun x hx => ?_⟩, g9⟩
  · rw [g8, bits8_eq, bits8_eq, b8_or v (by omega)]; rfl
  · by_cases z : x = v
    · subst z; rw [upd_at, if_pos (by simp [orB])]
    · have e : (v == x) = false := by simp; omega
      rw [upd_ne z, g8' x hx, show orB p v x = p x from by unfold orB; rw [e, Bool.or_false]]
end TK
