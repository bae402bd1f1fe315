/-! PURE: count -/
theorem lp_accK {F : Nat → Int32 → Int32 → Res} {n : Nat} {g : Nat → Int32 → Int32} {K : Int32 → Res} (h0 : ∀ t acc, F (t + 1) acc (nI n) = K acc) (hs : ∀ t acc i, i < n → F (t + 1) acc (nI i) = F t (g i acc) (nI (i + 1))) : ∀ m i t acc, i + m = n → m < t → F t acc (nI i) = K (itr g m i acc) := by
  intro m
  induction m with
  | zero =>
    intro i t acc hi ht
    obtain ⟨t, rfl⟩ : ∃ q, t = q + 1 := ⟨t - 1, by omega⟩
    have : i = n := by omega
    subst this
    exact h0 t acc
  | succ m ih =>
    intro i t acc hi ht
    obtain ⟨t, rfl⟩ : ∃ q, t = q + 1 := ⟨t - 1, by omega⟩
    rw [hs t acc i (by omega), ih (i + 1) t _ (by omega) (by omega)]
    rfl
theorem itr_sh {α : Type} {g : Nat → α → α} (d : Nat) : ∀ m i (a : α), itr g m (d + i) a = itr (fun j a => g (d + j) a) m i a := by
  intro m
  induction m with
  | zero => intro i a; rfl
  | succ m ih => intro i a; exact ih (i + 1) _
def gW (ln : Nat → Nat → Nat) (a : Nat) : Nat → Int32 → Int32 := fun b acc => acc + (if 0 < ln a b then 1 else 0)
def gWo (ln : Nat → Nat → Nat) (np : Nat) : Nat → Int32 → Int32 := fun a acc => itr (gW ln a) (np - (a + 1)) (a + 1) acc
section WY
variable {C M : Mem} {np nd nb fu : Nat} {ln ds : Nat → Nat → Nat}
theorem x_ways {N : Mem} (h : CC C N) (hR : RC C M np nd nb ln ds) (hf : 8 < fu) : pX1_ways fu 5 N = some (itr (gWo ln np) np 0 0, N) := by
  have hn := hR.1
  have hpl : N 5 10 = nI np := by rw [h 5 (by decide) (by decide)]; exact hR.2.1.1
  unfold pX1_ways
  refine lp_acc (F := fun t acc i => pX1_ways_4 fu 5 t acc i N) (n := np) ?_ ?_ np 0 fu 0 (by omega) (by omega)
  · intro t acc
    show pX1_ways_4b fu 5 acc (nI np) N _ = _
    unfold pX1_ways_4b
    rw [hpl, if_pos ((nI_le_iff (by omega) (by omega)).mpr (by omega))]
  · intro t acc a ha
    show pX1_ways_4b fu 5 acc (nI a) N (pX1_ways_4 fu 5 t) = pX1_ways_4 fu 5 t (gWo ln np a acc) (nI (a + 1)) N
    unfold pX1_ways_4b
    rw [hpl, if_neg (fun q => by have := (nI_le_iff (by omega) (by omega)).mp q; omega), nI_1]
    refine (lp_accK (F := fun t acc i => pX1_ways_16 fu 5 (fun y3 y4 M5 => pX1_ways_4 fu 5 _ y3 (y4 + 1) M5) t acc (nI a) i N) (n := np) (g := gW ln a) (K := fun acc => pX1_ways_4 fu 5 t acc (nI (a + 1)) N) ?_ ?_ (np - (a + 1)) (a + 1) fu acc (by omega) (by omega))
    · intro t2 acc2
      show pX1_ways_16b fu 5 acc2 (nI a) (nI np) N _ _ = _
      unfold pX1_ways_16b
      rw [hpl, if_pos ((nI_le_iff (by omega) (by omega)).mpr (by omega))]
      dsimp only
      rw [nI_1]
    · intro t2 acc2 i hi
      show pX1_ways_16b fu 5 acc2 (nI a) (nI i) N _ _ = _
      unfold pX1_ways_16b
      obtain ⟨q1, -, -, q4, -, -, -⟩ := hR.2.2.2.1 a i ha hi
      have hlen : cLen C (nI a) (nI i) = nI (ln a i) := by unfold cLen; rw [ix8', rat_nI (by omega) (by decide), q4]
      rw [hpl, if_neg (fun q => by have := (nI_le_iff (by omega) (by omega)).mp q; omega), x_lengthOf h, bI_some, hlen]
      simp only [pX1_ways_39, nI_1, gW]
      by_cases q : ln a i = 0
      · rw [if_pos ((nI_le0 (by omega)).mpr q), if_neg (by omega)]
      · rw [if_neg (fun z => q ((nI_le0 (by omega)).mp z)), if_pos (by omega)]
def gAll (M : Mem) : Nat → Int32 → Int32 := fun k acc => acc + (if k / 8 < k % 8 ∧ ¬ M 1 k ≤ 0 then 1 else 0)
theorem m_allWays (hf : 64 < fu) : pX10_allWays fu M = some (itr (gAll M) 64 0 0, M) := by
  unfold pX10_allWays
  refine lp_acc (F := fun t acc i => pX10_allWays_4 fu t acc i M) (n := 64) ?_ ?_ 64 0 fu 0 (by omega) (by omega)
  · intro t acc
    show pX10_allWays_4b fu acc (nI 64) M _ = _
    unfold pX10_allWays_4b
    rw [if_pos (by decide)]
  · intro t acc k hk
    show pX10_allWays_4b fu acc (nI k) M _ = _
    unfold pX10_allWays_4b
    have hdiv : nI k / 8 = nI (k / 8) := pk_div (by omega) (by decide) (by decide)
    have hrem : irm (nI k) 8 = nI (k % 8) := pk_rem (by omega) (by decide) (by decide)
    rw [if_neg (fun q => by have := (nI_le_iff (a := 64) (by decide) (by omega)).mp q; omega), hdiv, hrem, ld_nI hk (by decide)]
    simp only [pX10_allWays_35, pX10_allWays_36, nI_1, gAll]
    by_cases q : k / 8 < k % 8
    · rw [if_neg (fun z => by have := (nI_le_iff (by omega) (by omega)).mp z; omega)]
      by_cases q2 : M 1 k ≤ 0
      · rw [if_pos q2, if_neg (fun z => z.2 q2)]
      · rw [if_neg q2, if_pos ⟨q, q2⟩]
    · rw [if_pos ((nI_le_iff (by omega) (by omega)).mpr (by omega)), if_neg (fun z => q z.1)]
theorem all_rows {g : Nat → Int32 → Int32} : ∀ r i acc, itr g (8 * r) (8 * i) acc = itr (fun a acc => itr g 8 (8 * a) acc) r i acc := by
  intro r
  induction r with
  | zero => intro i acc; rfl
  | succ r ih =>
    intro i acc
    rw [show 8 * (r + 1) = 8 + 8 * r by omega, itr_add, show 8 * i + 8 = 8 * (i + 1) by omega, ih]
    rfl
theorem i_add0 (x : Int32) : x + 0 = x := Int32.add_zero x
theorem ways_eq (hR : RC C M np nd nb ln ds) : itr (gAll M) 64 0 0 = itr (gWo ln np) np 0 0 := by
  have hn := hR.1
  rw [show (64 : Nat) = 8 * 8 from rfl, show (0 : Nat) = 8 * 0 from rfl, all_rows]
  rw [show (8 : Nat) = np + (8 - np) by omega, itr_add]
  rw [itr_id (8 - np) (8 * 0 + np) _ ?_]
  · refine itr_cong np _ _ (fun a acc ha1 ha2 => ?_)
    have ha : a < np := by omega
    show itr (gAll M) (np + (8 - np)) ((np + (8 - np)) * a) acc = itr (gW ln a) (np - (a + 1)) (a + 1) acc
    rw [show np + (8 - np) = 8 by omega]
    have hsh := itr_sh (g := gAll M) (8 * a) 8 0 acc
    rw [Nat.add_zero] at hsh
    rw [hsh, show (8 : Nat) = (a + 1) + ((np - (a + 1)) + (8 - np)) by omega, itr_add, itr_add]
    have key : ∀ j, j < 8 → (8 * a + j) / 8 = a ∧ (8 * a + j) % 8 = j := fun j hj => by omega
    rw [show (a + 1) + ((np - (a + 1)) + (8 - np)) = 8 by omega]
    rw [itr_id (a + 1) 0 acc (fun j acc2 h1 h2 => ?_), itr_id (8 - np) _ _ (fun j acc2 h1 h2 => ?_)]
    · rw [Nat.zero_add]
      refine itr_cong _ _ _ (fun j acc2 h1 h2 => ?_)
      obtain ⟨k1, k2⟩ := key j (by omega)
      obtain ⟨q1, -, -, -, -, q6, -⟩ := hR.2.2.2.1 a j ha (by omega)
      show gAll M (8 * a + j) acc2 = gW ln a j acc2
      unfold gAll gW
      rw [k1, k2, q6]
      by_cases q : ln a j = 0
      · rw [if_pos q, if_neg (fun z => z.2 (by decide)), if_neg (by omega)]
      · rw [if_neg q, if_pos ⟨by omega, fun z => q ((nI_le0 (by omega)).mp z)⟩, if_pos (by omega)]
    · obtain ⟨k1, k2⟩ := key j (by omega)
      show gAll M (8 * a + j) acc2 = acc2
      unfold gAll
      rw [hR.2.2.2.2.2.2.2.2.2.2 a j (by omega) (by omega) (Or.inr (by omega)), if_neg (fun z => z.2 (by decide)), i_add0]
    · obtain ⟨k1, k2⟩ := key j (by omega)
      show gAll M (8 * a + j) acc2 = acc2
      unfold gAll
      rw [k1, k2, if_neg (fun z => by omega), i_add0]
  · intro a acc h1 h2
    show itr (gAll M) (np + (8 - np)) ((np + (8 - np)) * a) acc = acc
    rw [show np + (8 - np) = 8 by omega]
    have hsh := itr_sh (g := gAll M) (8 * a) 8 0 acc
    rw [Nat.add_zero] at hsh
    rw [hsh]
    refine itr_id 8 0 acc (fun j acc2 h3 h4 => ?_)
    show gAll M (8 * a + j) acc2 = acc2
    unfold gAll
    rw [hR.2.2.2.2.2.2.2.2.2.2 a j (by omega) (by omega) (Or.inl (by omega)), if_neg (fun z => z.2 (by decide)), i_add0]
end WY
theorem a_count {A B : Mem} {fu : Nat} (h : REL A B) (hf : 1000 < fu) (x : Int32) : AGREE (pX9_count fu x A) (pX10_count fu x B) := by
  have h' := h
  obtain ⟨np, nd, nb, ln, ds, hR, hN, hT, hP, hK⟩ := h'
  have hn := hR.1
  have hCC := CC_rf A
  unfold pX9_count pX10_count
  by_cases h0 : x = 0
  · rw [if_pos h0, if_pos h0, x_places hCC, bI_some, hR.2.1.1, hR.2.2.1.1]; exact ⟨_, _, _, rfl, rfl, h⟩
  rw [if_neg h0, if_neg h0]
  by_cases h1 : x = 1
  · rw [if_pos h1, if_pos h1, x_doors hCC, bI_some, hR.2.1.2.1, hR.2.2.1.2.1]; exact ⟨_, _, _, rfl, rfl, h⟩
  rw [if_neg h1, if_neg h1]
  by_cases h2 : x = 2
  · rw [if_pos h2, if_pos h2, x_beasts hCC, bI_some, hR.2.1.2.2, hR.2.2.1.2.2]; exact ⟨_, _, _, rfl, rfl, h⟩
  rw [if_neg h2, if_neg h2]
  by_cases h3 : x = 3
  · rw [if_pos h3, if_pos h3, x_ways hCC hR (by omega), bI_some, m_allWays (by omega), bI_some, ways_eq hR]; exact ⟨_, _, _, rfl, rfl, h⟩
  rw [if_neg h3, if_neg h3]
  by_cases h4 : x = 4
  · have e := hN.1.2.2.2
    rw [Nat.zero_add] at e
    rw [if_pos h4, if_pos h4]
    simp only [pX4_hours, x_at fu _ 64 _ A (by decide), bI_some]
    rw [show (63 : Int32) = nI 63 from rfl, rat_nI (by decide) (by decide), ld_nI (by decide) (by decide), e]; exact ⟨_, _, _, rfl, rfl, h⟩
  rw [if_neg h4, if_neg h4, m_in, bI_some, w_toInt]
  have t5 : (5 : Int64).toInt = 5 := rfl
  have t8 : (8 : Int64).toInt = 8 := rfl
  rw [t5, t8]
  have am : ∀ d : Int32, pX4_amount fu 27 d A = some (itr (gAm (A 28) d) nb 0 0, A) := fun d => x_amount hCC hR.2.1.2.2 (by omega) (by omega) d
  have mm : ∀ d : Int32, pX10_many fu d B = some (itr (gAm (A 28) d) nb 0 0, B) := fun d => m_many hR hN.1 (by omega) d
  by_cases h5 : x = 5
  · subst h5
    rw [if_pos rfl, if_neg (show ¬ (if (5 : Int) ≤ (5 : Int32).toInt ∧ (5 : Int32).toInt ≤ 8 then (1 : Int32) else 0) = 0 from by decide), am, bI_some, mm, bI_some]; exact ⟨_, _, _, rfl, rfl, h⟩
  by_cases h6 : x = 6
  · subst h6
    rw [if_neg h5, if_pos rfl, if_neg (show ¬ (if (5 : Int) ≤ (6 : Int32).toInt ∧ (6 : Int32).toInt ≤ 8 then (1 : Int32) else 0) = 0 from by decide), am, bI_some, mm, bI_some]; exact ⟨_, _, _, rfl, rfl, h⟩
  by_cases h7 : x = 7
  · subst h7
    rw [if_neg h5, if_neg h6, if_pos rfl, if_neg (show ¬ (if (5 : Int) ≤ (7 : Int32).toInt ∧ (7 : Int32).toInt ≤ 8 then (1 : Int32) else 0) = 0 from by decide), am, bI_some, mm, bI_some]; exact ⟨_, _, _, rfl, rfl, h⟩
  by_cases h8 : x = 8
  · subst h8
    rw [if_neg h5, if_neg h6, if_neg h7, if_pos rfl, if_neg (show ¬ (if (5 : Int) ≤ (8 : Int32).toInt ∧ (8 : Int32).toInt ≤ 8 then (1 : Int32) else 0) = 0 from by decide), am, bI_some, mm, bI_some]; exact ⟨_, _, _, rfl, rfl, h⟩
  have hno : ¬ ((5 : Int) ≤ x.toInt ∧ x.toInt ≤ 8) := by
    intro q
    have : x.toInt = 5 ∨ x.toInt = 6 ∨ x.toInt = 7 ∨ x.toInt = 8 := by omega
    rcases this with e | e | e | e
    · exact h5 (Int32.toInt_inj.mp e)
    · exact h6 (Int32.toInt_inj.mp e)
    · exact h7 (Int32.toInt_inj.mp e)
    · exact h8 (Int32.toInt_inj.mp e)
  rw [if_neg h5, if_neg h6, if_neg h7, if_neg h8, if_neg hno, if_pos rfl]
  by_cases h9 : x = 9
  · rw [if_pos h9, if_pos h9, x_carrotsAll hCC hR.2.1.1 (by omega) (by omega), bI_some, m_allCarrots hR hN.1 (by omega), bI_some]; exact ⟨_, _, _, rfl, rfl, h⟩
  rw [if_neg h9, if_neg h9]
  by_cases ha : x = 10
  · obtain ⟨m, t, -, -, p1, -, p2, -⟩ := hP
    rw [if_pos ha, if_pos ha, pX8_size, bI_some, p1, p2]; exact ⟨_, _, _, rfl, rfl, h⟩
  rw [if_neg ha, if_neg ha]
  by_cases hb : x = 11
  · obtain ⟨m, t, -, -, p1, -, p2, -⟩ := hK
    rw [if_pos hb, if_pos hb, pX8_size, bI_some, p1, p2]; exact ⟨_, _, _, rfl, rfl, h⟩
  rw [if_neg hb, if_neg hb]
  by_cases hc : x = 12
  · obtain ⟨n, -, p1, p2, -⟩ := hT
    rw [if_pos hc, if_pos hc, pX5_length, bI_some, p1, p2]; exact ⟨_, _, _, rfl, rfl, h⟩
  rw [if_neg hc, if_neg hc]
  exact ⟨_, _, _, rfl, rfl, h⟩
