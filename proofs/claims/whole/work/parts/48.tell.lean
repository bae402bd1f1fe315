/-! PURE: no verdict changes where a beast goes; tell, who -/
theorem upd_sw {f : Row} {i j : Nat} (h : i ≠ j) (x y : Int32) : upd (upd f i x) j y = upd (upd f j y) i x := by
  funext k
  by_cases h1 : k = j
  · subst h1; rw [upd_at, upd_ne (Ne.symm h), upd_at]
  · rw [upd_ne h1]
    by_cases h2 : k = i
    · subst h2; rw [upd_at, upd_at]
    · rw [upd_ne h2, upd_ne h2, upd_ne h1]
section PHI
variable {C M : Mem} {np nd nb fu b a : Nat} {ln ds : Nat → Nat → Nat} {f : Row} {v : Int32}
theorem ph_u (c : Nat) (hc : c < 11) (h6 : c ≠ 6) (x : Int32) : upd (upd f (11 * a + 6) v) (11 * b + c) x = upd (upd f (11 * b + c) x) (11 * a + 6) v := upd_sw (by omega) _ _
theorem ph_r (c : Nat) (hc : c < 11) (h6 : c ≠ 6) : upd f (11 * a + 6) v (11 * b + c) = f (11 * b + c) := upd_ne (by omega)
theorem ph_end : sEnd (upd f (11 * a + 6) v) b = upd (sEnd f b) (11 * a + 6) v := by
  unfold sEnd; rw [ph_r 1 (by decide) (by decide), ph_u 1 (by decide) (by decide)]
theorem ph_114 (x g w : Int32) : sA114 (upd f (11 * a + 6) v) b x g w = upd (sA114 f b x g w) (11 * a + 6) v := by
  unfold sA114; rw [ph_end, ph_u 4 (by decide) (by decide)]; split <;> rfl
theorem ph_95 (x g w : Int32) : sA95 (upd f (11 * a + 6) v) b x g w = upd (sA95 f b x g w) (11 * a + 6) v := by
  unfold sA95; rw [ph_r 8 (by decide) (by decide), ph_u 8 (by decide) (by decide), ph_114]
theorem ph_73 (x g kd w : Int32) : sA73 C (upd f (11 * a + 6) v) b x g kd w = upd (sA73 C f b x g kd w) (11 * a + 6) v := by
  unfold sA73; rw [ph_95, ph_114]
  split
  · split
    · rfl
    · split <;> rfl
  · rfl
theorem ph_in (x : Int32) : sIn (upd f (11 * a + 6) v) b x = upd (sIn f b x) (11 * a + 6) v := by
  unfold sIn; rw [ph_u 2 (by decide) (by decide), ph_u 3 (by decide) (by decide)]
theorem ph_arr (ha : a < 5) {x : Nat} (hx : x < 8) (g : Int32) : sArr C (upd f (11 * a + 6) v) b (nI x) g = upd (sArr C f b (nI x) g) (11 * a + 6) v := by
  have hi55 : (55 : Int32) + nI x = nI (55 + x) := nI_add 55 x
  have hate : ∀ h : Row, sAte (upd h (11 * a + 6) v) b (nI x) = upd (sAte h b (nI x)) (11 * a + 6) v := fun h => by
    unfold sAte
    rw [hi55, rat_nI (by omega) (by decide), rat_nI (by omega) (by decide), rpu_nI (by omega) (by decide), rpu_nI (by omega) (by decide), upd_ne (f := h) (j := 55 + x) (by omega), upd_sw (f := h) (i := 11 * a + 6) (j := 55 + x) (by omega), ph_r 7 (by decide) (by decide), ph_u 7 (by decide) (by decide)]
  unfold sArr
  rw [ph_in, hate, ph_73, ph_73, hi55, rat_nI (by omega) (by decide), rat_nI (by omega) (by decide), upd_ne (j := 55 + x) (by omega)]
  split
  · rfl
  · split <;> rfl
theorem ph_101 (ha : a < 5) {x : Nat} (hx : x < 8) (h3 : f (11 * b + 3) = nI x) (g l : Int32) : sM101 C (upd f (11 * a + 6) v) b g l = upd (sM101 C f b g l) (11 * a + 6) v := by
  unfold sM101
  rw [ph_u 4 (by decide) (by decide), ph_r 3 (by decide) (by decide), upd_ne (j := 11 * b + 3) (k := 11 * b + 4) (by omega), h3, ph_arr ha hx]
  split <;> rfl
theorem ph_move (hR : RC C M np nd nb ln ds) (hb : b < nb) (ha : a < 5) (hU : bUW C np nd ds f b) : sMove C (upd f (11 * a + 6) v) b = upd (sMove C f b) (11 * a + 6) v := by
  have hn := hR.1
  obtain ⟨hG, g, s, hg, hs, hg0, h10, h2, hpl⟩ := hU
  unfold sMove
  rw [ph_r 3 (by decide) (by decide), ph_r 4 (by decide) (by decide), ph_r 2 (by decide) (by decide), ph_r 10 (by decide) (by decide)]
  rcases hpl with ⟨h3, hfin, wt, hw, h4⟩ | ⟨t, l, ht, h3, hfin, hl, hl2, h4⟩
  · rw [if_pos h3, if_pos h3]
    by_cases q : f (11 * b + 4) ≤ 0
    · rw [if_pos q, if_pos q, h2, h10]
      by_cases hag : s = g
      · subst hag
        rw [if_pos rfl, if_pos rfl, ph_end]
      · have hne : ¬ nI s = nI g := fun z => hag ((nI_eq_iff (by omega) (by omega)).mp z)
        rw [if_neg hne, if_neg hne]
        obtain ⟨u, hu, h8, hl, he, -⟩ := hR.2.2.2.2.1 s g hs hg hag hfin
        have hhop : cHop C (nI s) (nI g) = nI u := by unfold cHop; rw [ix8', rat_nI (by omega) (by decide), h8]
        rw [hhop, ph_u 3 (by decide) (by decide), ph_101 ha (show u < 8 by omega) (upd_at _ _ _)]
    · rw [if_neg q, if_neg q, ph_u 4 (by decide) (by decide)]
  · have ne3 : ¬ f (11 * b + 3) = -4 := by rw [h3]; exact nI_ne4 (by omega)
    rw [if_neg ne3, if_neg ne3, ph_101 ha (show t < 8 by omega) h3]
theorem uw_of {C : Mem} (hV : HV C np nd nb ds f) (hb : b < nb) (h1 : f (11 * b + 1) = 1 ∨ f (11 * b + 1) = 3) : bUW C np nd ds f b := by
  rcases hV.1 b hb with q | q | q
  · rw [q.1] at h1; rcases h1 with h | h <;> exact absurd h (by decide)
  · rw [q.1] at h1; rcases h1 with h | h <;> exact absurd h (by decide)
  · exact q
theorem ph_turn (hR : RC C M np nd nb ln ds) (hb : b < nb) (ha : a < 5) (hV : HV C np nd nb ds f) (bal : Int32) : sTurn C bal b (upd f (11 * a + 6) v) = upd (sTurn C bal b f) (11 * a + 6) v := by
  unfold sTurn
  rw [ph_r 1 (by decide) (by decide)]
  split
  · rfl
  · by_cases h1 : f (11 * b + 1) = 1 ∨ f (11 * b + 1) = 3
    · rw [if_pos h1, if_pos h1, ph_move hR hb ha (uw_of hV hb h1)]
    · rw [if_neg h1, if_neg h1]
theorem ph_itr (hR : RC C M np nd nb ln ds) (ha : a < 5) (bal : Int32) : ∀ (m i : Nat) (f : Row), HV C np nd nb ds f → i + m = nb → itr (sTurn C bal) m i (upd f (11 * a + 6) v) = upd (itr (sTurn C bal) m i f) (11 * a + 6) v ∧ HV C np nd nb ds (itr (sTurn C bal) m i f) := by
  intro m
  induction m with
  | zero => intro i f hV _; exact ⟨rfl, hV⟩
  | succ m ih =>
    intro i f hV hi
    show itr (sTurn C bal) m (i + 1) (sTurn C bal i (upd f (11 * a + 6) v)) = upd (itr (sTurn C bal) m (i + 1) (sTurn C bal i f)) (11 * a + 6) v ∧ HV C np nd nb ds (itr (sTurn C bal) m (i + 1) (sTurn C bal i f))
    rw [ph_turn hR (by omega) ha hV bal]
    exact ih (i + 1) _ (v_turn hR (by omega) hV bal) (by omega)
theorem ph_hour (hR : RC C M np nd nb ln ds) (ha : a < 5) (hV : HV C np nd nb ds f) (bal : Int32) : sHour C nb bal (upd f (11 * a + 6) v) = upd (sHour C nb bal f) (11 * a + 6) v ∧ HV C np nd nb ds (sHour C nb bal f) := by
  have hn := hR.1
  obtain ⟨e, hV'⟩ := ph_itr (v := v) hR ha bal nb 0 f hV (by omega)
  refine ⟨?_, v_63 (by omega) (by omega) hV'⟩
  unfold sHour
  rw [e, upd_ne (j := 63) (by omega), upd_sw (by omega)]
theorem ph_aw (hR : RC C M np nd nb ln ds) (ha : a < 5) (hb : b < 5) : ∀ (m i : Nat) (f : Row), HV C np nd nb ds f → sAw C nb b m i (upd f (11 * a + 6) v) = ((sAw C nb b m i f).1, upd (sAw C nb b m i f).2 (11 * a + 6) v) := by
  intro m
  induction m with
  | zero =>
    intro i f hV
    unfold sAw
    rw [ph_r 1 (by decide) (by decide)]
    split <;> rfl
  | succ m ih =>
    intro i f hV
    unfold sAw
    rw [ph_r 1 (by decide) (by decide)]
    split
    · rfl
    · obtain ⟨e, hV'⟩ := ph_hour (v := v) hR ha hV (-4)
      rw [e]
      exact ih (i + 1) _ hV'
theorem ph_send (d : Int32) : sSend C f b v d = upd (sSend C f b 0 d) (11 * b + 6) v := by
  unfold sSend
  rw [upd_sw (i := 11 * b + 8) (j := 11 * b + 6) (by omega), upd_sw (i := 11 * b + 7) (j := 11 * b + 6) (by omega), upd_upd]
theorem ph_rd (w : Int32) : sRd C (upd f (11 * b + 6) v) b w = sRd C f b w := by
  unfold sRd sSgn sSg2
  rw [ph_r 9 (by decide) (by decide), ph_r 7 (by decide) (by decide), ph_r 8 (by decide) (by decide), ph_r 5 (by decide) (by decide)]
/-- a trial with any verdict, by that with 0 -/
theorem ph_RT (hR : RC C M np nd nb ln ds) (hb : b < 5) {d : Int32} (hV : HV C np nd nb ds (sSend C f b 0 d)) : sRT C nb b (sSend C f b v d) = if (sAwait C nb b (sSend C f b 0 d)).1 = -4 then -4 else sRd C (sAwait C nb b (sSend C f b 0 d)).2 b v := by
  have e : sAwait C nb b (sSend C f b v d) = ((sAwait C nb b (sSend C f b 0 d)).1, upd (sAwait C nb b (sSend C f b 0 d)).2 (11 * b + 6) v) := by
    rw [ph_send]
    exact ph_aw hR hb hb 99 0 _ hV
  unfold sRT
  rw [e]
  dsimp only
  rw [upd_at, ph_rd]
end PHI
/-! bits of eight -/
def gB (p : Nat → Bool) : Nat → Int32 → Int32 := fun v acc => acc ||| (if p v then 1 <<< (nI v &&& 31) else 0)
def bits8 (p : Nat → Bool) : Int32 := itr (gB p) 8 0 0
def b8 (a b c d e f g h : Bool) : Int32 := (((((((((0 : Int32) ||| (if a then 1 <<< (nI 0 &&& 31) else 0)) ||| (if b then 1 <<< (nI 1 &&& 31) else 0)) ||| (if c then 1 <<< (nI 2 &&& 31) else 0)) ||| (if d then 1 <<< (nI 3 &&& 31) else 0)) ||| (if e then 1 <<< (nI 4 &&& 31) else 0)) ||| (if f then 1 <<< (nI 5 &&& 31) else 0)) ||| (if g then 1 <<< (nI 6 &&& 31) else 0)) ||| (if h then 1 <<< (nI 7 &&& 31) else 0))
theorem bits8_eq (p : Nat → Bool) : bits8 p = b8 (p 0) (p 1) (p 2) (p 3) (p 4) (p 5) (p 6) (p 7) := rfl
theorem b8_nI : ∀ a b c d e f g h : Bool, b8 a b c d e f g h = nI (a.toNat + 2 * b.toNat + 4 * c.toNat + 8 * d.toNat + 16 * e.toNat + 32 * f.toNat + 64 * g.toNat + 128 * h.toNat) := by decide +kernel
theorem b8_bit : ∀ a b c d e f g h : Bool, (decide ((b8 a b c d e f g h >>> (nI 0 &&& 31)) &&& 1 = 1) = a) ∧ (decide ((b8 a b c d e f g h >>> (nI 1 &&& 31)) &&& 1 = 1) = b) ∧ (decide ((b8 a b c d e f g h >>> (nI 2 &&& 31)) &&& 1 = 1) = c) ∧ (decide ((b8 a b c d e f g h >>> (nI 3 &&& 31)) &&& 1 = 1) = d) ∧ (decide ((b8 a b c d e f g h >>> (nI 4 &&& 31)) &&& 1 = 1) = e) ∧ (decide ((b8 a b c d e f g h >>> (nI 5 &&& 31)) &&& 1 = 1) = f) ∧ (decide ((b8 a b c d e f g h >>> (nI 6 &&& 31)) &&& 1 = 1) = g) ∧ (decide ((b8 a b c d e f g h >>> (nI 7 &&& 31)) &&& 1 = 1) = h) := by decide +kernel
theorem bits8_bit (p : Nat → Bool) {u : Nat} (hu : u < 8) : ((bits8 p >>> (nI u &&& 31)) &&& 1 = 1) ↔ p u = true := by
  obtain ⟨h0, h1, h2, h3, h4, h5, h6, h7⟩ := b8_bit (p 0) (p 1) (p 2) (p 3) (p 4) (p 5) (p 6) (p 7)
  rw [bits8_eq]
  match u, hu with
  | 0, _ => exact ⟨fun q => h0.symm.trans (decide_eq_true q), fun q => of_decide_eq_true (h0.trans q)⟩
  | 1, _ => exact ⟨fun q => h1.symm.trans (decide_eq_true q), fun q => of_decide_eq_true (h1.trans q)⟩
  | 2, _ => exact ⟨fun q => h2.symm.trans (decide_eq_true q), fun q => of_decide_eq_true (h2.trans q)⟩
  | 3, _ => exact ⟨fun q => h3.symm.trans (decide_eq_true q), fun q => of_decide_eq_true (h3.trans q)⟩
  | 4, _ => exact ⟨fun q => h4.symm.trans (decide_eq_true q), fun q => of_decide_eq_true (h4.trans q)⟩
  | 5, _ => exact ⟨fun q => h5.symm.trans (decide_eq_true q), fun q => of_decide_eq_true (h5.trans q)⟩
  | 6, _ => exact ⟨fun q => h6.symm.trans (decide_eq_true q), fun q => of_decide_eq_true (h6.trans q)⟩
  | 7, _ => exact ⟨fun q => h7.symm.trans (decide_eq_true q), fun q => of_decide_eq_true (h7.trans q)⟩
/-- the lowest of them -/
def lowF (p : Nat → Bool) : Nat → Nat → Int32
  | 0, _ => -4
  | m + 1, i => if p i then nI i else lowF p m (i + 1)
def cntF (p : Nat → Bool) : Nat → Nat → Nat
  | 0, _ => 0
  | m + 1, i => (if p i then 1 else 0) + cntF p m (i + 1)
theorem x_lowest {fu : Nat} {M : Mem} (p : Nat → Bool) : ∀ (m i t : Nat), i + m = 8 → m < t → pX9_lowestBit_2 fu t (bits8 p) (nI i) M = some (lowF p m i, M) := by
  intro m
  induction m with
  | zero =>
    intro i t hi ht
    obtain ⟨t, rfl⟩ : ∃ q, t = q + 1 := ⟨t - 1, by omega⟩
    show pX9_lowestBit_2b fu (bits8 p) (nI i) M _ = _
    unfold pX9_lowestBit_2b
    rw [if_pos (show (8 : Int32) ≤ nI i from (nI_le_iff (a := 8) (by decide) (by omega)).mpr (by omega))]
    rfl
  | succ m ih =>
    intro i t hi ht
    obtain ⟨t, rfl⟩ : ∃ q, t = q + 1 := ⟨t - 1, by omega⟩
    show pX9_lowestBit_2b fu (bits8 p) (nI i) M _ = _
    unfold pX9_lowestBit_2b lowF
    rw [if_neg (fun q => by have := (nI_le_iff (a := 8) (by decide) (by omega)).mp q; omega), nI_1, ih (i + 1) t (by omega) (by omega)]
    by_cases q : p i = true
    · rw [if_pos ((bits8_bit p (by omega)).mpr q), if_pos q]
    · rw [if_neg (fun z => q ((bits8_bit p (by omega)).mp z)), if_neg q]
theorem low_cong {p q : Nat → Bool} : ∀ m i, (∀ j, i ≤ j → j < i + m → p j = q j) → lowF p m i = lowF q m i := by
  intro m
  induction m with
  | zero => intro i _; rfl
  | succ m ih =>
    intro i h
    unfold lowF
    rw [h i (by omega) (by omega), ih (i + 1) (fun j h1 h2 => h j (by omega) (by omega))]
section TW
variable {A0 B0 : Mem} {np nd nb fu b : Nat} {ln ds : Nat → Nat → Nat}
/-- with which verdicts it would be read so: by a trial row -/
def pV (C : Mem) (nb : Nat) (fin : Bool) (f : Row) (b : Nat) (d r : Int32) : Nat → Bool := fun v => decide (f (11 * b + 1) = 0) && fin && !decide ((sAwait C nb b (sSend C f b 0 d)).1 = -4) && decide (sRd C (sAwait C nb b (sSend C f b 0 d)).2 b (nI v) = r)
theorem x_vra {A : Mem} (hR : RC A0 B0 np nd nb ln ds) (hN : HMV A0 B0 np nd nb ds 28 0) (hA : pA A0 A) (hb : b < nb) {d p : Nat} (hd : d < nd) (hp : p < np) (hC : A0 10 d = nI p) (r : Int32) (hf : 1000 < fu) : ∃ g, pX3_verdictsReadAs fu 27 (nI b) (nI d) r A = some (bits8 (pV A0 nb (decide (ds 0 p < 9999)) (va_cpy (A0 28) (A 55) 0 0 64) b (nI d) r), upR A 55 g) := by
  have hn := hR.1
  have hCC55 : ∀ f : Row, CC A0 (upR A 55 f) := fun f => CC_up (pA_CC hA) (by decide) f
  have hz : ∀ q : Nat → Bool, (∀ v, q v = false) → bits8 q = 0 := fun q h => by
    rw [bits8_eq, h 0, h 1, h 2, h 3, h 4, h 5, h 6, h 7]; decide
  unfold pX3_verdictsReadAs
  rw [x_try hR hN hA hb hd hp hC 0, bI_some]
  by_cases q : va_cpy (A0 28) (A 55) 0 0 64 (11 * b + 1) = 0 ∧ ds 0 p < 9999
  · rw [if_pos q, if_neg one_ne, if_pos q, x_await (hCC55 _) hR.2.1.2.2 (by omega) (by omega) hf, bI_some, upR_at, upR_upR]
    by_cases q2 : (sAwait A0 nb b (sSend A0 (va_cpy (A0 28) (A 55) 0 0 64) b 0 (nI d))).1 = -4
    · rw [if_pos q2, hz _ (fun v => by simp [pV, q2])]
      exact ⟨_, rfl⟩
    · rw [if_neg q2]
      refine ⟨(sAwait A0 nb b (sSend A0 (va_cpy (A0 28) (A 55) 0 0 64) b 0 (nI d))).2, ?_⟩
      refine lp_acc (F := fun t acc i => pX3_verdictsReadAs_29 fu 27 t (nI b) r acc i _) (n := 8) (g := gB _) ?_ ?_ 8 0 fu 0 (by omega) (by omega)
      · intro t acc
        show pX3_verdictsReadAs_29b fu 27 (nI b) r acc (nI 8) _ _ = _
        unfold pX3_verdictsReadAs_29b
        rw [if_pos (by decide)]
      · intro t acc i hi
        show pX3_verdictsReadAs_29b fu 27 (nI b) r acc (nI i) _ _ = _
        unfold pX3_verdictsReadAs_29b
        rw [if_neg (fun q => by have := (nI_le_iff (a := 8) (by decide) (by omega)).mp q; omega), x_readOf_ (hCC55 _) (by omega), bI_some, show 54 + 1 = 55 from rfl, upR_at]
        simp only [pX3_verdictsReadAs_61, nI_1, gB, pV, q.1, q.2, q2, decide_true, Bool.true_and, decide_false, Bool.not_false, decide_eq_true_eq]
        split <;> rfl
  · rw [if_neg q, if_pos rfl, if_neg q, hz _ (fun v => ?_)]
    · exact ⟨_, rfl⟩
    · unfold pV
      by_cases q1 : va_cpy (A0 28) (A 55) 0 0 64 (11 * b + 1) = 0
      · have : ¬ ds 0 p < 9999 := fun z => q ⟨q1, z⟩
        simp [this]
      · simp [q1]
/-- the reference's readSent by the same -/
theorem m_pV {A B : Mem} (hR : RC A0 B0 np nd nb ln ds) (hN : HMV A0 B0 np nd nb ds 28 0) (hB : pB B0 B) (hb : b < nb) {d p w v : Nat} (hd : d < nd) (hp : p < np) (hC : A0 10 d = nI p) (hw : w < 8) (hf : 1000 < fu) : ∃ s' z, pX10_readSent fu (nI b) (nI v) (nI d) B = some (z, upR B 12 s') ∧ (z = nI w ↔ pV A0 nb (decide (ds 0 p < 9999)) (va_cpy (A0 28) (A 55) 0 0 64) b (nI d) (nI w) v = true) ∧ fr 704 (B 12) s' := by
  have hn := hR.1
  have hRB := pB_RC hR hB
  have hV0 : HV A0 np nd nb ds (va_cpy (A0 28) (A 55) 0 0 64) := HV_cong (by omega) (by omega) hN.2 (fun j hj => cpy_at _ _ hj)
  obtain ⟨s', g1, g2⟩ := m_readSent (fu := fu) (f := va_cpy (A0 28) (A 55) 0 0 64) hRB hb (pB_HM (by omega) (by omega) hN.1 hB) hN.2 (fun j hj => cpy_at _ _ hj) hd hp hC (nI v) hf
  refine ⟨s', _, g1, ?_, g2⟩
  have hnw : ¬ ((-4 : Int32) = nI w) := fun e => nI_ne4 (by omega) e.symm
  unfold sRS pV
  by_cases q : va_cpy (A0 28) (A 55) 0 0 64 (11 * b + 1) = 0 ∧ ds 0 p < 9999
  · have hV1 := v_sends hRB hb hV0 (bFR_of hV0 hb q.1) 0 hd hp hC q.2
    rw [if_pos q, ph_RT hRB (by omega) hV1]
    by_cases q2 : (sAwait A0 nb b (sSend A0 (va_cpy (A0 28) (A 55) 0 0 64) b 0 (nI d))).1 = -4
    · rw [if_pos q2]
      simp [q2, hnw]
    · rw [if_neg q2]
      simp [q.1, q.2, q2]
  · rw [if_neg q]
    by_cases q1 : va_cpy (A0 28) (A 55) 0 0 64 (11 * b + 1) = 0
    · have : ¬ ds 0 p < 9999 := fun z => q ⟨q1, z⟩
      simp [this, hnw]
    · simp [q1, hnw]
theorem m_tell {A : Mem} (hR : RC A0 B0 np nd nb ln ds) (hN : HMV A0 B0 np nd nb ds 28 0) (hb : b < nb) {d p w : Nat} (hd : d < nd) (hp : p < np) (hC : A0 10 d = nI p) (hw : w < 8) (hf : 1000 < fu) : ∀ (m i t : Nat) (B : Mem), pB B0 B → i + m = 8 → m < t → ∃ B', pX10_tell_45 fu t (nI b) (nI d) (nI w) (nI i) B = some (lowF (pV A0 nb (decide (ds 0 p < 9999)) (va_cpy (A0 28) (A 55) 0 0 64) b (nI d) (nI w)) m i, B') ∧ pB B0 B' := by
  intro m
  induction m with
  | zero =>
    intro i t B hB hi ht
    obtain ⟨t, rfl⟩ : ∃ q, t = q + 1 := ⟨t - 1, by omega⟩
    refine ⟨B, ?_, hB⟩
    show pX10_tell_45b fu (nI b) (nI d) (nI w) (nI i) B _ = _
    unfold pX10_tell_45b
    rw [if_pos (show (8 : Int32) ≤ nI i from (nI_le_iff (a := 8) (by decide) (by omega)).mpr (by omega))]
    rfl
  | succ m ih =>
    intro i t B hB hi ht
    obtain ⟨t, rfl⟩ : ∃ q, t = q + 1 := ⟨t - 1, by omega⟩
    obtain ⟨s', z, g1, g2, g3⟩ := m_pV (fu := fu) (A := A) (v := i) hR hN hB hb hd hp hC hw hf
    have hB' : pB B0 (upR B 12 s') := pB_tr hB (pB_fr g3)
    show ∃ B', pX10_tell_45b fu (nI b) (nI d) (nI w) (nI i) B _ = _ ∧ _
    unfold pX10_tell_45b lowF
    rw [if_neg (fun q => by have := (nI_le_iff (a := 8) (by decide) (by omega)).mp q; omega), g1, bI_some, nI_1]
    by_cases q : z = nI w
    · rw [if_pos q, if_pos (g2.mp q)]; exact ⟨_, rfl, hB'⟩
    · rw [if_neg q, if_neg (fun y => q (g2.mpr y))]
      exact ih (i + 1) t _ hB' (by omega) (by omega)
end TW
theorem a_tell {A B : Mem} {fu : Nat} (h : REL A B) (hf : 1000 < fu) (x y v : Int32) : AGREE (pX9_tell fu x y v A) (pX10_tell fu x y v B) := by
  have h' := h
  obtain ⟨np, nd, nb, ln, ds, hR, hN, -⟩ := h'
  have hn := hR.1
  have hCC := CC_rf A
  unfold pX9_tell pX10_tell
  rw [x_hasB hCC hR, m_isBeast hR, bI_some, bI_some]
  by_cases hx : inR x nb
  · rw [if_pos hx, if_neg one_ne, if_neg one_ne, x_hasD hCC hR, m_isDoor hR, bI_some, bI_some]
    by_cases hy : inR y nd
    · rw [if_pos hy, if_neg one_ne, if_neg one_ne, x_isVerdict, m_in0 v 7 8 (by decide), bI_some, bI_some]
      by_cases hv : inR v 8
      · rw [if_pos hv, if_neg one_ne, if_neg one_ne]
        obtain ⟨b, hb, rfl⟩ := of_inR hx (by omega)
        obtain ⟨d, hd, rfl⟩ := of_inR hy (by omega)
        obtain ⟨w, hw, rfl⟩ := of_inR hv (by decide)
        obtain ⟨p, kd, hp, -, q1, -, -, -⟩ := hR.2.2.2.2.2.2.2.1 d hd
        have e1 := slot0 hN.1 hb 1 (by decide) (by decide)
        rw [show off 1 + b = b from by simp [off]] at e1
        rw [x_is (by omega), bI_some, ld_nI (by omega) (by decide), e1]
        by_cases h0 : A 28 (11 * b + 1) = 0
        · rw [if_pos h0, if_neg one_ne, if_pos h0]
          obtain ⟨g, e2⟩ := x_vra (fu := fu) hR hN (pA_rf A) hb hd hp q1 (nI w) hf
          obtain ⟨B', e3, e4⟩ := m_tell (fu := fu) (A := A) hR hN hb hd hp q1 hw hf 8 0 fu B (pB_rf B) (by omega) (by omega)
          have e3' : pX10_tell_45 fu fu (nI b) (nI d) (nI w) 0 B = _ := e3
          have e5 := x_lowest (fu := fu) (M := upR A 55 g) (pV A nb (decide (ds 0 p < 9999)) (va_cpy (A 28) (A 55) 0 0 64) b (nI d) (nI w)) 8 0 fu (by omega) (by omega)
          rw [e2, bI_some, e3']
          unfold pX9_lowestBit
          have e5' : pX9_lowestBit_2 fu fu _ 0 (upR A 55 g) = _ := e5
          rw [e5', bI_some]
          exact AGQ_ok h ⟨_, _, _, rfl, rfl, pA_up (by omega), e4⟩
        · rw [if_neg h0, if_pos rfl, if_neg h0]; exact AG_s h
      · rw [if_neg hv, if_pos rfl, if_pos rfl]; exact AG_s h
    · rw [if_neg hy, if_pos rfl, if_pos rfl]; exact AG_s h
  · rw [if_neg hx, if_pos rfl, if_pos rfl]; exact AG_s h
