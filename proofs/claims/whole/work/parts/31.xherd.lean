/-! PURE: the class's herds. C is what the court's rows hold (cells 5 to 15) -/
abbrev Row : Type := Nat → Int32
def CC (C M : Mem) : Prop := ∀ a, 5 ≤ a → a ≤ 15 → M a = C a
theorem CC_up {C M : Mem} (h : CC C M) {k : Nat} (hk : 16 ≤ k) (f : Row) : CC C (upR M k f) := fun a h1 h2 => by rw [upR_ne (by omega)]; exact h a h1 h2
def cHop (C : Mem) (x y : Int32) : Int32 := rat (C 8) 64 (x * 8 + y)
def cLen (C : Mem) (x y : Int32) : Int32 := rat (C 6) 64 (x * 8 + y)
def cDis (C : Mem) (x y : Int32) : Int32 := rat (C 7) 64 (x * 8 + y)
def cDK (C : Mem) (x : Int32) : Int32 := rat (C 9) 4 x
def cDP (C : Mem) (x : Int32) : Int32 := rat (C 10) 4 x
def cKd (C : Mem) (x : Int32) : Int32 := rat (C 11) 5 x
def cPc (C : Mem) (x : Int32) : Int32 := rat (C 12) 5 x
def cMr (C : Mem) (x : Int32) : Int32 := rat (C 15) 8 x
section XC
variable {C M : Mem} {fu : Nat}
theorem x_hop (h : CC C M) (x y : Int32) : pX1_hop fu 5 x y M = some (cHop C x y, M) := by
  simp only [pX1_hop, pX1_pair, bI_some, x_at fu _ 64 _ M (by decide), cHop]; rw [h 8 (by decide) (by decide)]
theorem x_lengthOf (h : CC C M) (x y : Int32) : pX1_lengthOf fu 5 x y M = some (cLen C x y, M) := by
  simp only [pX1_lengthOf, pX1_pair, bI_some, x_at fu _ 64 _ M (by decide), cLen]; rw [h 6 (by decide) (by decide)]
theorem x_distance (h : CC C M) (x y : Int32) : pX1_distance fu 5 x y M = some (cDis C x y, M) := by
  simp only [pX1_distance, pX1_pair, bI_some, x_at fu _ 64 _ M (by decide), cDis]; rw [h 7 (by decide) (by decide)]
theorem x_doorKind (h : CC C M) (x : Int32) : pX1_doorKind fu 5 x M = some (cDK C x, M) := by
  simp only [pX1_doorKind, bI_some, x_at fu _ 4 _ M (by decide), cDK]; rw [h 9 (by decide) (by decide)]
theorem x_doorPlace (h : CC C M) (x : Int32) : pX1_doorPlace fu 5 x M = some (cDP C x, M) := by
  simp only [pX1_doorPlace, bI_some, x_at fu _ 4 _ M (by decide), cDP]; rw [h 10 (by decide) (by decide)]
theorem x_kind (h : CC C M) (x : Int32) : pX1_kind fu 5 x M = some (cKd C x, M) := by
  simp only [pX1_kind, bI_some, x_at fu _ 5 _ M (by decide), cKd]; rw [h 11 (by decide) (by decide)]
theorem x_pace (h : CC C M) (x : Int32) : pX1_pace fu 5 x M = some (cPc C x, M) := by
  simp only [pX1_pace, bI_some, x_at fu _ 5 _ M (by decide), cPc]; rw [h 12 (by decide) (by decide)]
theorem x_hasMare (h : CC C M) (x : Int32) : pX1_hasMare fu 5 x M = some (if cMr C x = 1 then 1 else 0, M) := by
  simp only [pX1_hasMare, bI_some, x_at fu _ 8 _ M (by decide), cMr, rtz_0, rtz_1]; rw [h 15 (by decide) (by decide)]
  split <;> rename_i h1 <;> simp only [h1, if_true, if_false]
theorem x_beasts (h : CC C M) : pX1_beasts fu 5 M = some (C 5 12, M) := by
  simp only [pX1_beasts]; rw [h 5 (by decide) (by decide)]
theorem x_doors (h : CC C M) : pX1_doors fu 5 M = some (C 5 11, M) := by
  simp only [pX1_doors]; rw [h 5 (by decide) (by decide)]
theorem x_places (h : CC C M) : pX1_places fu 5 M = some (C 5 10, M) := by
  simp only [pX1_places]; rw [h 5 (by decide) (by decide)]
theorem x_isReached (h : CC C M) (x y : Int32) : pX1_isReached fu 5 x y M = some (if (1000 : Int32) ≤ cDis C x y then 0 else 1, M) := by
  simp only [pX1_isReached, x_distance h, bI_some, rtz_0, rtz_1]
  split <;> rfl
/-- a truth value as a number -/
def zb (c : Prop) [Decidable c] : Int32 := if c then 1 else 0
theorem zb_0 {c : Prop} [Decidable c] : zb c = 0 ↔ ¬ c := by
  unfold zb; split
  · simp [*]
  · simp [*]
theorem x_hasPlace (h : CC C M) (x : Int32) : pX1_hasPlace fu 5 x M = some (if x < 0 then 0 else if C 5 10 ≤ x then 0 else 1, M) := by
  simp only [pX1_hasPlace, rtz_0, rtz_1, h 5 (by decide) (by decide)]
  split
  · rfl
  · split <;> rfl
theorem x_hasDoor (h : CC C M) (x : Int32) : pX1_hasDoor fu 5 x M = some (if x < 0 then 0 else if C 5 11 ≤ x then 0 else 1, M) := by
  simp only [pX1_hasDoor, rtz_0, rtz_1, h 5 (by decide) (by decide)]
  split
  · rfl
  · split <;> rfl
theorem x_hasBeast (h : CC C M) (x : Int32) : pX1_hasBeast fu 5 x M = some (if x < 0 then 0 else if C 5 12 ≤ x then 0 else 1, M) := by
  simp only [pX1_hasBeast, rtz_0, rtz_1, h 5 (by decide) (by decide)]
  split
  · rfl
  · split <;> rfl
end XC
theorem x_ix {b c : Nat} (hb : b < 5) (hc : c < 11) : nI b * 11 + nI c = nI (11 * b + c) := by
  rw [show (11 : Int32) = nI 11 from rfl, pk_mul, nI_add, Nat.mul_comm]
theorem x_getn {fu k b c : Nat} {M : Mem} (hb : b < 5) (hc : c < 11) : pX4_get fu k (nI b) (nI c) M = some (M (k + 1) (11 * b + c), M) := by
  unfold pX4_get
  rw [x_ix hb hc, if_neg (nI_pos (by omega)), show (64 : Int32) = nI 64 from rfl, if_neg (fun h => by have := (nI_le_iff (by decide) (by omega)).mp h; omega)]
  unfold ld
  rw [if_pos (inR_nI (by omega) (by decide)), nI_clamp (by omega)]
theorem x_setn {fu k b c : Nat} {v : Int32} {M : Mem} (hb : b < 5) (hc : c < 11) : pX4_set fu k (nI b) (nI c) v M = some (0, upR M (k + 1) (upd (M (k + 1)) (11 * b + c) v)) := by
  unfold pX4_set
  rw [x_ix hb hc, if_neg (nI_pos (by omega)), show (64 : Int32) = nI 64 from rfl, if_neg (fun h => by have := (nI_le_iff (by decide) (by omega)).mp h; omega)]
  unfold sto
  rw [if_pos (inR_nI (by omega) (by decide)), nI_clamp (by omega), up2_eq]
theorem x_get0 {fu k b : Nat} {M : Mem} (hb : b < 5) : pX4_get fu k (nI b) (0 : Int32) M = some (M (k + 1) (11 * b + 0), M) := x_getn (c := 0) hb (by decide)
theorem x_set0 {fu k b : Nat} {v : Int32} {M : Mem} (hb : b < 5) : pX4_set fu k (nI b) (0 : Int32) v M = some (0, upR M (k + 1) (upd (M (k + 1)) (11 * b + 0) v)) := x_setn (c := 0) hb (by decide)
theorem x_get1 {fu k b : Nat} {M : Mem} (hb : b < 5) : pX4_get fu k (nI b) (1 : Int32) M = some (M (k + 1) (11 * b + 1), M) := x_getn (c := 1) hb (by decide)
theorem x_set1 {fu k b : Nat} {v : Int32} {M : Mem} (hb : b < 5) : pX4_set fu k (nI b) (1 : Int32) v M = some (0, upR M (k + 1) (upd (M (k + 1)) (11 * b + 1) v)) := x_setn (c := 1) hb (by decide)
theorem x_get2 {fu k b : Nat} {M : Mem} (hb : b < 5) : pX4_get fu k (nI b) (2 : Int32) M = some (M (k + 1) (11 * b + 2), M) := x_getn (c := 2) hb (by decide)
theorem x_set2 {fu k b : Nat} {v : Int32} {M : Mem} (hb : b < 5) : pX4_set fu k (nI b) (2 : Int32) v M = some (0, upR M (k + 1) (upd (M (k + 1)) (11 * b + 2) v)) := x_setn (c := 2) hb (by decide)
theorem x_get3 {fu k b : Nat} {M : Mem} (hb : b < 5) : pX4_get fu k (nI b) (3 : Int32) M = some (M (k + 1) (11 * b + 3), M) := x_getn (c := 3) hb (by decide)
theorem x_set3 {fu k b : Nat} {v : Int32} {M : Mem} (hb : b < 5) : pX4_set fu k (nI b) (3 : Int32) v M = some (0, upR M (k + 1) (upd (M (k + 1)) (11 * b + 3) v)) := x_setn (c := 3) hb (by decide)
theorem x_get4 {fu k b : Nat} {M : Mem} (hb : b < 5) : pX4_get fu k (nI b) (4 : Int32) M = some (M (k + 1) (11 * b + 4), M) := x_getn (c := 4) hb (by decide)
theorem x_set4 {fu k b : Nat} {v : Int32} {M : Mem} (hb : b < 5) : pX4_set fu k (nI b) (4 : Int32) v M = some (0, upR M (k + 1) (upd (M (k + 1)) (11 * b + 4) v)) := x_setn (c := 4) hb (by decide)
theorem x_get5 {fu k b : Nat} {M : Mem} (hb : b < 5) : pX4_get fu k (nI b) (5 : Int32) M = some (M (k + 1) (11 * b + 5), M) := x_getn (c := 5) hb (by decide)
theorem x_set5 {fu k b : Nat} {v : Int32} {M : Mem} (hb : b < 5) : pX4_set fu k (nI b) (5 : Int32) v M = some (0, upR M (k + 1) (upd (M (k + 1)) (11 * b + 5) v)) := x_setn (c := 5) hb (by decide)
theorem x_get6 {fu k b : Nat} {M : Mem} (hb : b < 5) : pX4_get fu k (nI b) (6 : Int32) M = some (M (k + 1) (11 * b + 6), M) := x_getn (c := 6) hb (by decide)
theorem x_set6 {fu k b : Nat} {v : Int32} {M : Mem} (hb : b < 5) : pX4_set fu k (nI b) (6 : Int32) v M = some (0, upR M (k + 1) (upd (M (k + 1)) (11 * b + 6) v)) := x_setn (c := 6) hb (by decide)
theorem x_get7 {fu k b : Nat} {M : Mem} (hb : b < 5) : pX4_get fu k (nI b) (7 : Int32) M = some (M (k + 1) (11 * b + 7), M) := x_getn (c := 7) hb (by decide)
theorem x_set7 {fu k b : Nat} {v : Int32} {M : Mem} (hb : b < 5) : pX4_set fu k (nI b) (7 : Int32) v M = some (0, upR M (k + 1) (upd (M (k + 1)) (11 * b + 7) v)) := x_setn (c := 7) hb (by decide)
theorem x_get8 {fu k b : Nat} {M : Mem} (hb : b < 5) : pX4_get fu k (nI b) (8 : Int32) M = some (M (k + 1) (11 * b + 8), M) := x_getn (c := 8) hb (by decide)
theorem x_set8 {fu k b : Nat} {v : Int32} {M : Mem} (hb : b < 5) : pX4_set fu k (nI b) (8 : Int32) v M = some (0, upR M (k + 1) (upd (M (k + 1)) (11 * b + 8) v)) := x_setn (c := 8) hb (by decide)
theorem x_get9 {fu k b : Nat} {M : Mem} (hb : b < 5) : pX4_get fu k (nI b) (9 : Int32) M = some (M (k + 1) (11 * b + 9), M) := x_getn (c := 9) hb (by decide)
theorem x_set9 {fu k b : Nat} {v : Int32} {M : Mem} (hb : b < 5) : pX4_set fu k (nI b) (9 : Int32) v M = some (0, upR M (k + 1) (upd (M (k + 1)) (11 * b + 9) v)) := x_setn (c := 9) hb (by decide)
theorem x_get10 {fu k b : Nat} {M : Mem} (hb : b < 5) : pX4_get fu k (nI b) (10 : Int32) M = some (M (k + 1) (11 * b + 10), M) := x_getn (c := 10) hb (by decide)
theorem x_set10 {fu k b : Nat} {v : Int32} {M : Mem} (hb : b < 5) : pX4_set fu k (nI b) (10 : Int32) v M = some (0, upR M (k + 1) (upd (M (k + 1)) (11 * b + 10) v)) := x_setn (c := 10) hb (by decide)
/-- what an hour does to one beast -/
def sEnd (f : Row) (b : Nat) : Row := upd f (11 * b + 1) (if f (11 * b + 1) = 1 then 2 else 0)
def sA114 (f : Row) (b : Nat) (x g w : Int32) : Row := if x = g then sEnd f b else upd f (11 * b + 4) w
def sA95 (f : Row) (b : Nat) (x g w : Int32) : Row := sA114 (upd f (11 * b + 8) (f (11 * b + 8) + 1)) b x g (w + 2)
def sA73 (C : Mem) (f : Row) (b : Nat) (x g kd w : Int32) : Row := if cMr C x = 1 then (if kd = 0 then sA95 f b x g w else if kd = 2 then sA95 f b x g w else sA114 f b x g w) else sA114 f b x g w
def sAte (f : Row) (b : Nat) (x : Int32) : Row := upd (rpu f 64 (55 + x) (rat f 64 (55 + x) - 1)) (11 * b + 7) (rpu f 64 (55 + x) (rat f 64 (55 + x) - 1) (11 * b + 7) + 1)
def sIn (f : Row) (b : Nat) (x : Int32) : Row := upd (upd f (11 * b + 2) x) (11 * b + 3) (-4)
def sArr (C : Mem) (f : Row) (b : Nat) (x g : Int32) : Row :=
  if rat (sIn f b x) 64 (55 + x) ≤ 0 then sA73 C (sIn f b x) b x g (cKd C (nI b)) 0
  else if cKd C (nI b) = 3 then sA73 C (sIn f b x) b x g (cKd C (nI b)) 0
  else sA73 C (sAte (sIn f b x) b x) b x g (cKd C (nI b)) (0 + 1)
def sM101 (C : Mem) (f : Row) (b : Nat) (g l : Int32) : Row :=
  if 1 < l then upd f (11 * b + 4) (l - 1)
  else sArr C (upd f (11 * b + 4) (l - 1)) b (upd f (11 * b + 4) (l - 1) (11 * b + 3)) g
def sMove (C : Mem) (f : Row) (b : Nat) : Row :=
  if f (11 * b + 3) = -4 then
    if f (11 * b + 4) ≤ 0 then
      if f (11 * b + 2) = f (11 * b + 10) then sEnd f b
      else sM101 C (upd f (11 * b + 3) (cHop C (f (11 * b + 2)) (f (11 * b + 10)))) b (f (11 * b + 10)) (cLen C (f (11 * b + 2)) (cHop C (f (11 * b + 2)) (f (11 * b + 10))) * cPc C (nI b))
    else upd f (11 * b + 4) (f (11 * b + 4) - 1)
  else sM101 C f b (f (11 * b + 10)) (f (11 * b + 4))
def sTurn (C : Mem) (bal : Int32) (b : Nat) (f : Row) : Row := if nI b = bal then f else if f (11 * b + 1) = 1 ∨ f (11 * b + 1) = 3 then sMove C f b else f
/-- an hour: nb beasts, bal stays -/
def sHour (C : Mem) (nb : Nat) (bal : Int32) (f : Row) : Row := upd (itr (sTurn C bal) nb 0 f) 63 (itr (sTurn C bal) nb 0 f 63 + 1)
section XH
variable {C M : Mem} {fu k b : Nat}
theorem x_end (hb : b < 5) : pX4_end fu k (nI b) M = some (0, upR M (k + 1) (sEnd (M (k + 1)) b)) := by
  simp only [pX4_end, pX4_end_18, x_get1 hb, bI_some, x_set1 hb, bV_some, sEnd]
  split <;> rfl
theorem x_A114 (hb : b < 5) (x g w : Int32) : pX4_arrive_114 fu k (nI b) x g w M = some (0, upR M (k + 1) (sA114 (M (k + 1)) b x g w)) := by
  simp only [pX4_arrive_114, x_end hb, bV_some, x_set4 hb, sA114]
  split <;> rfl
theorem x_A95 (hb : b < 5) (x g w : Int32) : pX4_arrive_95 fu k (nI b) x g w M = some (0, upR M (k + 1) (sA95 (M (k + 1)) b x g w)) := by
  simp only [pX4_arrive_95, x_get8 hb, bI_some, bV_some, x_set8 hb, x_A114 hb, upR_at, upR_upR, sA95]
theorem x_A73 (h : CC C M) (hb : b < 5) (x g kd w : Int32) : pX4_arrive_73 fu k (nI b) x g kd w M = some (0, upR M (k + 1) (sA73 C (M (k + 1)) b x g kd w)) := by
  simp only [pX4_arrive_73, x_hasMare h, bI_some, x_A95 hb, x_A114 hb, sA73]
  by_cases h1 : cMr C x = 1
  · simp only [h1, if_true]
    rw [if_neg (by decide)]
    split
    · rfl
    · split <;> rfl
  · simp only [h1, if_false, if_true]
theorem x_carrotsIn (x : Int32) : pX4_carrotsIn fu k x M = some (rat (M (k + 1)) 64 (55 + x), M) := by
  simp only [pX4_carrotsIn, x_at fu _ 64 _ M (by decide), bI_some]
theorem x_putCarrots (x v : Int32) : pX4_putCarrots fu k x v M = some (0, upR M (k + 1) (rpu (M (k + 1)) 64 (55 + x) v)) := by
  simp only [pX4_putCarrots, x_put fu _ 64 _ _ M (by decide), bV_some]
theorem x_arrive (h : CC C M) (hk : 16 ≤ k) (hb : b < 5) (x g : Int32) : pX4_arrive fu k (nI b) x g M = some (0, upR M (k + 1) (sArr C (M (k + 1)) b x g)) := by
  have h1 : ∀ f : Row, CC C (upR M (k + 1) f) := fun f => CC_up h (by omega) f
  simp only [pX4_arrive, x_set2 hb, x_set3 hb, bV_some, bI_some, upR_at, upR_upR, x_kind (h1 _), x_carrotsIn, x_putCarrots, x_get7 hb, x_set7 hb, x_A73 (h1 _) hb, sArr, sIn, sAte]
  split
  · rename_i h2; simp only [h2, if_true]
  · rename_i h2
    split <;> rename_i h3 <;> simp only [h2, h3, if_true, if_false]
theorem x_M101 (h : CC C M) (hk : 16 ≤ k) (hb : b < 5) (g l : Int32) : pX4_move_101 fu k (nI b) g l M = some (0, upR M (k + 1) (sM101 C (M (k + 1)) b g l)) := by
  have h1 : ∀ f : Row, CC C (upR M (k + 1) f) := fun f => CC_up h (by omega) f
  simp only [pX4_move_101, x_set4 hb, bV_some, bI_some, x_get3 hb, upR_at, x_arrive (h1 _) hk hb, upR_upR, sM101]
  split <;> rfl
theorem x_move (h : CC C M) (hk : 16 ≤ k) (hb : b < 5) : pX4_move fu k (nI b) M = some (0, upR M (k + 1) (sMove C (M (k + 1)) b)) := by
  have h1 : ∀ f : Row, CC C (upR M (k + 1) f) := fun f => CC_up h (by omega) f
  simp only [pX4_move, x_get10 hb, x_get4 hb, x_get3 hb, x_get2 hb, bI_some, bV_some, x_end hb, x_hop h, x_set3 hb, x_lengthOf (h1 _), x_pace (h1 _), x_M101 (h1 _) hk hb, x_M101 h hk hb, x_set4 hb, upR_at, upR_upR, sMove]
  split
  · split
    · split <;> rfl
    · rfl
  · rfl
theorem x_is (hb : b < 5) (x : Int32) : pX4_is fu k (nI b) x M = some (if M (k + 1) (11 * b + 1) = x then 1 else 0, M) := by
  simp only [pX4_is, x_get1 hb, bI_some, rtz_0, rtz_1]
  split <;> rfl
theorem x_isUnderWay (hb : b < 5) : pX4_isUnderWay fu k (nI b) M = some (if M (k + 1) (11 * b + 1) = 1 ∨ M (k + 1) (11 * b + 1) = 3 then 1 else 0, M) := by
  simp only [pX4_isUnderWay, x_is hb, bI_some, rtz_0, rtz_1]
  by_cases h1 : M (k + 1) (11 * b + 1) = 1
  · simp [h1]
  · by_cases h2 : M (k + 1) (11 * b + 1) = 3
    · simp [h2]
    · simp [h1, h2]
theorem x_carries (hb : b < 5) : pX4_carries fu k (nI b) M = some (if M (k + 1) (11 * b + 1) = 1 ∨ M (k + 1) (11 * b + 1) = 2 then 1 else 0, M) := by
  simp only [pX4_carries, x_is hb, bI_some, rtz_0, rtz_1]
  by_cases h1 : M (k + 1) (11 * b + 1) = 1
  · simp [h1]
  · by_cases h2 : M (k + 1) (11 * b + 1) = 2
    · simp [h2]
    · simp [h1, h2]
theorem x_goOn_2 {nb : Nat} (hnb : C 5 12 = nI nb) (hn5 : nb ≤ 5) (hk : 16 ≤ k) (bal : Int32) (c37 : Mem → Res) : ∀ (m i t : Nat) (M : Mem), CC C M → i + m = nb → m < t → pX4_goOn_2 fu k c37 t bal (nI i) M = c37 (upR M (k + 1) (itr (sTurn C bal) m i (M (k + 1)))) := by
  intro m
  induction m with
  | zero =>
    intro i t M h hi ht
    obtain ⟨t, rfl⟩ : ∃ u, t = u + 1 := ⟨t - 1, by omega⟩
    show pX4_goOn_2b fu k bal (nI i) M _ _ = _
    unfold pX4_goOn_2b
    rw [x_beasts h, bI_some, hnb, if_pos ((nI_le_iff (by omega) (by omega)).mpr (by omega))]
    show _ = c37 (upR M (k + 1) (M (k + 1)))
    rw [upR_self]
  | succ m ih =>
    intro i t M h hi ht
    obtain ⟨t, rfl⟩ : ∃ u, t = u + 1 := ⟨t - 1, by omega⟩
    have hb : i < 5 := by omega
    show pX4_goOn_2b fu k bal (nI i) M _ _ = _
    unfold pX4_goOn_2b
    rw [x_beasts h, bI_some, hnb, if_neg (fun q => by have := (nI_le_iff (by omega) (by omega)).mp q; omega)]
    show _ = c37 (upR M (k + 1) (itr (sTurn C bal) m (i + 1) (sTurn C bal i (M (k + 1)))))
    by_cases h1 : nI i = bal
    · rw [if_pos h1]
      simp only [pX4_goOn_31, nI_1]
      rw [ih (i + 1) t M h (by omega) (by omega)]
      simp only [sTurn, if_pos h1]
    · rw [if_neg h1, x_isUnderWay hb, bI_some]
      by_cases h2 : M (k + 1) (11 * i + 1) = 1 ∨ M (k + 1) (11 * i + 1) = 3
      · rw [if_pos h2, if_neg (by decide), x_move h hk hb, bV_some]
        simp only [pX4_goOn_31, nI_1]
        rw [ih (i + 1) t _ (CC_up h (by omega) _) (by omega) (by omega)]
        simp only [sTurn, if_neg h1, if_pos h2, upR_at, upR_upR]
      · rw [if_neg h2, if_pos rfl]
        simp only [pX4_goOn_31, nI_1]
        rw [ih (i + 1) t M h (by omega) (by omega)]
        simp only [sTurn, if_neg h1, if_neg h2]
theorem x_goOn {nb : Nat} (h : CC C M) (hnb : C 5 12 = nI nb) (hn5 : nb ≤ 5) (hk : 16 ≤ k) (bal : Int32) (hf : 5 < fu) : pX4_goOn fu k bal M = some (0, upR M (k + 1) (sHour C nb bal (M (k + 1)))) := by
  unfold pX4_goOn
  rw [show (0 : Int32) = nI 0 from rfl, x_goOn_2 hnb hn5 hk bal _ nb 0 fu M h (by omega) (by omega)]
  simp only [pX4_hours, x_at fu _ 64 _ _ (by decide), x_put fu _ 64 _ _ _ (by decide), bI_some, bV_some, upR_at, upR_upR, sHour]
  rw [show (63 : Int32) = nI 63 from rfl, rat_nI (by decide) (by decide), rpu_nI (by decide) (by decide)]
end XH
