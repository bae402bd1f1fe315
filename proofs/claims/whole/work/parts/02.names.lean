/-! ===== BEGIN words of one list among another's, by their places ===== -/
theorem goodIn_r {big : List Cond} (ws : List Cond) (ps : List Nat) (hp : ws = ps.filterMap (fun i => big[i]?)) (h : ws.all goodWord = true) : GoodIn big ws := by
  intro w hw
  have h1 := List.all_eq_true.mp h w hw
  rw [hp] at hw
  obtain ⟨i, -, hi⟩ := List.mem_filterMap.mp hw
  have hm : w ∈ big := by first | exact List.mem_of_getElem? hi | exact List.getElem?_mem hi
  exact ⟨hm, good_of_word h1⟩
theorem goodIn_app {big a b : List Cond} (ha : GoodIn big a) (hb : GoodIn big b) : GoodIn big (a ++ b) := fun w h => (List.mem_append.mp h).elim (ha w) (hb w)
theorem goodIn_ca {big a b : List Cond} {c : Cond} (ha : GoodIn big (c :: a)) (hb : GoodIn big b) : GoodIn big (c :: (a ++ b)) := fun w h => (List.mem_cons.mp h).elim (fun e => ha w (List.mem_cons.mpr (Or.inl e))) (fun h => (List.mem_append.mp h).elim (fun h => ha w (List.mem_cons.mpr (Or.inr h))) (hb w))
theorem goodIn_sub {big ws : List Cond} (hm : ∀ w ∈ ws, w ∈ big) (h : ws.all goodWord = true) : GoodIn big ws := fun w hw => ⟨hm w hw, good_of_word (List.all_eq_true.mp h w hw)⟩
/-! ===== END ===== -/

/-! ===== BEGIN printed: names, fields, word lists, decode rows ===== -/
def RX0 : String := "DonkeyVerdicts$Balking"
def TX0 : u_T := fun k => match k with
  | _ => ("DonkeyVerdicts$Balking", "levels", "[LDonkeyVerdicts$Herd;", true)
def tyX0 : Nat → FieldType := fun k => match k with
  | _ => .array (.object "DonkeyVerdicts$Herd")
abbrev wsX00 : List Cond := u_ws RX0 TX0 1
theorem nmX0 : ∀ a, a < 1 → ∀ b, b < 1 → a ≠ b → (TX0 a).2.1 ≠ (TX0 b).2.1 := by decide +kernel
theorem tyX0_ok : ∀ k, k < 1 → parseFieldDescriptor (TX0 k).2.2.1 = some (tyX0 k) := by decide +kernel
abbrev cX0_init : ByteArray := prog_2_method_1_code
def yX0_init : MethodName := ⟨RX0, "<init>", "(LDonkeyVerdicts$Court;)V"⟩
abbrev cX0_weightOf : ByteArray := prog_2_method_2_code
def yX0_weightOf : MethodName := ⟨RX0, "weightOf", "(LDonkeyVerdicts$Herd;III)I"⟩
abbrev cX0_weigh : ByteArray := prog_2_method_3_code
def yX0_weigh : MethodName := ⟨RX0, "weigh", "(III)I"⟩
abbrev cX0_power : ByteArray := prog_2_method_4_code
def yX0_power : MethodName := ⟨RX0, "power", "(I)I"⟩
abbrev cX0_commonDivisor : ByteArray := prog_2_method_5_code
def yX0_commonDivisor : MethodName := ⟨RX0, "commonDivisor", "(II)I"⟩
def RX1 : String := "DonkeyVerdicts$Court"
def TX1 : u_T := fun k => match k with
  | 0 => ("DonkeyVerdicts$Court", "lengths", "[I", true)
  | 1 => ("DonkeyVerdicts$Court", "distances", "[I", true)
  | 2 => ("DonkeyVerdicts$Court", "hops", "[I", true)
  | 3 => ("DonkeyVerdicts$Court", "doorKinds", "[I", true)
  | 4 => ("DonkeyVerdicts$Court", "doorPlaces", "[I", true)
  | 5 => ("DonkeyVerdicts$Court", "kinds", "[I", true)
  | 6 => ("DonkeyVerdicts$Court", "paces", "[I", true)
  | 7 => ("DonkeyVerdicts$Court", "moods", "[I", true)
  | 8 => ("DonkeyVerdicts$Court", "carrotsLaid", "[I", true)
  | 9 => ("DonkeyVerdicts$Court", "mares", "[I", true)
  | 10 => ("DonkeyVerdicts$Court", "places", "I", false)
  | 11 => ("DonkeyVerdicts$Court", "doors", "I", false)
  | _ => ("DonkeyVerdicts$Court", "beasts", "I", false)
def tyX1 : Nat → FieldType := fun k => match k with
  | 0 => .array .int
  | 1 => .array .int
  | 2 => .array .int
  | 3 => .array .int
  | 4 => .array .int
  | 5 => .array .int
  | 6 => .array .int
  | 7 => .array .int
  | 8 => .array .int
  | 9 => .array .int
  | 10 => .int
  | 11 => .int
  | _ => .int
abbrev wsX10 : List Cond := u_ws RX1 TX1 13
theorem nmX1 : ∀ a, a < 13 → ∀ b, b < 13 → a ≠ b → (TX1 a).2.1 ≠ (TX1 b).2.1 := by decide +kernel
theorem tyX1_ok : ∀ k, k < 13 → parseFieldDescriptor (TX1 k).2.2.1 = some (tyX1 k) := by decide +kernel
abbrev cX1_init : ByteArray := prog_3_method_1_code
def yX1_init : MethodName := ⟨RX1, "<init>", "()V"⟩
abbrev cX1_clear : ByteArray := prog_3_method_2_code
def yX1_clear : MethodName := ⟨RX1, "clear", "()V"⟩
abbrev cX1_takePlaces : ByteArray := prog_3_method_3_code
def yX1_takePlaces : MethodName := ⟨RX1, "takePlaces", "(I)Z"⟩
abbrev cX1_takeWay : ByteArray := prog_3_method_4_code
def yX1_takeWay : MethodName := ⟨RX1, "takeWay", "(III)Z"⟩
abbrev cX1_takeDoor : ByteArray := prog_3_method_5_code
def yX1_takeDoor : MethodName := ⟨RX1, "takeDoor", "(II)Z"⟩
abbrev cX1_takeBeast : ByteArray := prog_3_method_6_code
def yX1_takeBeast : MethodName := ⟨RX1, "takeBeast", "(III)Z"⟩
abbrev cX1_takeCarrots : ByteArray := prog_3_method_7_code
def yX1_takeCarrots : MethodName := ⟨RX1, "takeCarrots", "(II)Z"⟩
abbrev cX1_takeMare : ByteArray := prog_3_method_8_code
def yX1_takeMare : MethodName := ⟨RX1, "takeMare", "(I)Z"⟩
abbrev cX1_measure : ByteArray := prog_3_method_9_code
def yX1_measure : MethodName := ⟨RX1, "measure", "()V"⟩
abbrev cX1_lowestHop : ByteArray := prog_3_method_10_code
def yX1_lowestHop : MethodName := ⟨RX1, "lowestHop", "(II)I"⟩
abbrev cX1_pair : ByteArray := prog_3_method_11_code
def yX1_pair : MethodName := ⟨RX1, "pair", "(II)I"⟩
abbrev cX1_distance : ByteArray := prog_3_method_12_code
def yX1_distance : MethodName := ⟨RX1, "distance", "(II)I"⟩
abbrev cX1_lengthOf : ByteArray := prog_3_method_13_code
def yX1_lengthOf : MethodName := ⟨RX1, "lengthOf", "(II)I"⟩
abbrev cX1_isReached : ByteArray := prog_3_method_14_code
def yX1_isReached : MethodName := ⟨RX1, "isReached", "(II)Z"⟩
abbrev cX1_hop : ByteArray := prog_3_method_15_code
def yX1_hop : MethodName := ⟨RX1, "hop", "(II)I"⟩
abbrev cX1_ways : ByteArray := prog_3_method_16_code
def yX1_ways : MethodName := ⟨RX1, "ways", "()I"⟩
abbrev cX1_places : ByteArray := prog_3_method_17_code
def yX1_places : MethodName := ⟨RX1, "places", "()I"⟩
abbrev cX1_doors : ByteArray := prog_3_method_18_code
def yX1_doors : MethodName := ⟨RX1, "doors", "()I"⟩
abbrev cX1_beasts : ByteArray := prog_3_method_19_code
def yX1_beasts : MethodName := ⟨RX1, "beasts", "()I"⟩
abbrev cX1_hasPlace : ByteArray := prog_3_method_20_code
def yX1_hasPlace : MethodName := ⟨RX1, "hasPlace", "(I)Z"⟩
abbrev cX1_hasDoor : ByteArray := prog_3_method_21_code
def yX1_hasDoor : MethodName := ⟨RX1, "hasDoor", "(I)Z"⟩
abbrev cX1_hasBeast : ByteArray := prog_3_method_22_code
def yX1_hasBeast : MethodName := ⟨RX1, "hasBeast", "(I)Z"⟩
abbrev cX1_hasMare : ByteArray := prog_3_method_23_code
def yX1_hasMare : MethodName := ⟨RX1, "hasMare", "(I)Z"⟩
abbrev cX1_doorKind : ByteArray := prog_3_method_24_code
def yX1_doorKind : MethodName := ⟨RX1, "doorKind", "(I)I"⟩
abbrev cX1_doorPlace : ByteArray := prog_3_method_25_code
def yX1_doorPlace : MethodName := ⟨RX1, "doorPlace", "(I)I"⟩
abbrev cX1_kind : ByteArray := prog_3_method_26_code
def yX1_kind : MethodName := ⟨RX1, "kind", "(I)I"⟩
abbrev cX1_pace : ByteArray := prog_3_method_27_code
def yX1_pace : MethodName := ⟨RX1, "pace", "(I)I"⟩
abbrev cX1_firstMood : ByteArray := prog_3_method_28_code
def yX1_firstMood : MethodName := ⟨RX1, "firstMood", "(I)I"⟩
abbrev cX1_firstCarrots : ByteArray := prog_3_method_29_code
def yX1_firstCarrots : MethodName := ⟨RX1, "firstCarrots", "(I)I"⟩
def RX2 : String := "DonkeyVerdicts$Dealer"
def TX2 : u_T := fun k => match k with
  | 0 => ("DonkeyVerdicts$Dealer", "court", "LDonkeyVerdicts$Court;", true)
  | 1 => ("DonkeyVerdicts$Dealer", "trial", "LDonkeyVerdicts$Herd;", true)
  | 2 => ("DonkeyVerdicts$Dealer", "hand", "[I", true)
  | _ => ("DonkeyVerdicts$Dealer", "best", "[I", true)
def tyX2 : Nat → FieldType := fun k => match k with
  | 0 => .object "DonkeyVerdicts$Court"
  | 1 => .object "DonkeyVerdicts$Herd"
  | 2 => .array .int
  | _ => .array .int
abbrev wsX20 : List Cond := u_ws RX2 TX2 4
theorem nmX2 : ∀ a, a < 4 → ∀ b, b < 4 → a ≠ b → (TX2 a).2.1 ≠ (TX2 b).2.1 := by decide +kernel
theorem tyX2_ok : ∀ k, k < 4 → parseFieldDescriptor (TX2 k).2.2.1 = some (tyX2 k) := by decide +kernel
abbrev cX2_init : ByteArray := prog_4_method_1_code
def yX2_init : MethodName := ⟨RX2, "<init>", "(LDonkeyVerdicts$Court;)V"⟩
abbrev cX2_fewestHours : ByteArray := prog_4_method_2_code
def yX2_fewestHours : MethodName := ⟨RX2, "fewestHours", "(LDonkeyVerdicts$Herd;I)I"⟩
abbrev cX2_beastAt : ByteArray := prog_4_method_3_code
def yX2_beastAt : MethodName := ⟨RX2, "beastAt", "(I)I"⟩
abbrev cX2_pick : ByteArray := prog_4_method_4_code
def yX2_pick : MethodName := ⟨RX2, "pick", "(I)V"⟩
abbrev cX2_sendHand : ByteArray := prog_4_method_5_code
def yX2_sendHand : MethodName := ⟨RX2, "sendHand", "(LDonkeyVerdicts$Herd;I)Z"⟩
abbrev cX2_awaitHand : ByteArray := prog_4_method_6_code
def yX2_awaitHand : MethodName := ⟨RX2, "awaitHand", "(I)I"⟩
abbrev cX2_going : ByteArray := prog_4_method_7_code
def yX2_going : MethodName := ⟨RX2, "going", "()I"⟩
def RX3 : String := "DonkeyVerdicts$Foresight"
def TX3 : u_T := fun k => match k with
  | 0 => ("DonkeyVerdicts$Foresight", "court", "LDonkeyVerdicts$Court;", true)
  | _ => ("DonkeyVerdicts$Foresight", "trial", "LDonkeyVerdicts$Herd;", true)
def tyX3 : Nat → FieldType := fun k => match k with
  | 0 => .object "DonkeyVerdicts$Court"
  | _ => .object "DonkeyVerdicts$Herd"
abbrev wsX30 : List Cond := u_ws RX3 TX3 2
theorem nmX3 : ∀ a, a < 2 → ∀ b, b < 2 → a ≠ b → (TX3 a).2.1 ≠ (TX3 b).2.1 := by decide +kernel
theorem tyX3_ok : ∀ k, k < 2 → parseFieldDescriptor (TX3 k).2.2.1 = some (tyX3 k) := by decide +kernel
abbrev cX3_init : ByteArray := prog_5_method_1_code
def yX3_init : MethodName := ⟨RX3, "<init>", "(LDonkeyVerdicts$Court;)V"⟩
abbrev cX3_hoursTill : ByteArray := prog_5_method_2_code
def yX3_hoursTill : MethodName := ⟨RX3, "hoursTill", "(LDonkeyVerdicts$Herd;I)I"⟩
abbrev cX3_readOf : ByteArray := prog_5_method_3_code
def yX3_readOf : MethodName := ⟨RX3, "readOf", "(LDonkeyVerdicts$Herd;I)I"⟩
abbrev cX3_awaitBeast : ByteArray := prog_5_method_4_code
def yX3_awaitBeast : MethodName := ⟨RX3, "awaitBeast", "(I)I"⟩
abbrev cX3_trySending : ByteArray := prog_5_method_5_code
def yX3_trySending : MethodName := ⟨RX3, "trySending", "(LDonkeyVerdicts$Herd;III)Z"⟩
abbrev cX3_rightBeasts : ByteArray := prog_5_method_6_code
def yX3_rightBeasts : MethodName := ⟨RX3, "rightBeasts", "(LDonkeyVerdicts$Herd;II)I"⟩
abbrev cX3_soonestBeast : ByteArray := prog_5_method_7_code
def yX3_soonestBeast : MethodName := ⟨RX3, "soonestBeast", "(LDonkeyVerdicts$Herd;II)I"⟩
abbrev cX3_verdictsReadAs : ByteArray := prog_5_method_8_code
def yX3_verdictsReadAs : MethodName := ⟨RX3, "verdictsReadAs", "(LDonkeyVerdicts$Herd;III)I"⟩
abbrev cX3_luringPlace : ByteArray := prog_5_method_9_code
def yX3_luringPlace : MethodName := ⟨RX3, "luringPlace", "(LDonkeyVerdicts$Herd;I)I"⟩
abbrev cX3_hoursTillMeeting : ByteArray := prog_5_method_10_code
def yX3_hoursTillMeeting : MethodName := ⟨RX3, "hoursTillMeeting", "(LDonkeyVerdicts$Herd;II)I"⟩
abbrev cX3_afterYear : ByteArray := prog_5_method_11_code
def yX3_afterYear : MethodName := ⟨RX3, "afterYear", "(LDonkeyVerdicts$Herd;II)LDonkeyVerdicts$Herd;"⟩
abbrev cX3_drawOf : ByteArray := prog_5_method_12_code
def yX3_drawOf : MethodName := ⟨RX3, "drawOf", "(II)I"⟩
abbrev cX3_act : ByteArray := prog_5_method_13_code
def yX3_act : MethodName := ⟨RX3, "act", "(I)V"⟩
abbrev cX3_wrap : ByteArray := prog_5_method_14_code
def yX3_wrap : MethodName := ⟨RX3, "wrap", "(II)I"⟩
def RX4 : String := "DonkeyVerdicts$Herd"
def TX4 : u_T := fun k => match k with
  | 0 => ("DonkeyVerdicts$Herd", "court", "LDonkeyVerdicts$Court;", true)
  | _ => ("DonkeyVerdicts$Herd", "cells", "[I", true)
def tyX4 : Nat → FieldType := fun k => match k with
  | 0 => .object "DonkeyVerdicts$Court"
  | _ => .array .int
abbrev wsX40 : List Cond := u_ws RX4 TX4 2
theorem nmX4 : ∀ a, a < 2 → ∀ b, b < 2 → a ≠ b → (TX4 a).2.1 ≠ (TX4 b).2.1 := by decide +kernel
theorem tyX4_ok : ∀ k, k < 2 → parseFieldDescriptor (TX4 k).2.2.1 = some (tyX4 k) := by decide +kernel
abbrev cX4_init : ByteArray := prog_6_method_1_code
def yX4_init : MethodName := ⟨RX4, "<init>", "(LDonkeyVerdicts$Court;)V"⟩
abbrev cX4_copy : ByteArray := prog_6_method_2_code
def yX4_copy : MethodName := ⟨RX4, "copy", "(LDonkeyVerdicts$Herd;)V"⟩
abbrev cX4_get : ByteArray := prog_6_method_3_code
def yX4_get : MethodName := ⟨RX4, "get", "(II)I"⟩
abbrev cX4_set : ByteArray := prog_6_method_4_code
def yX4_set : MethodName := ⟨RX4, "set", "(III)V"⟩
abbrev cX4_carrotsIn : ByteArray := prog_6_method_5_code
def yX4_carrotsIn : MethodName := ⟨RX4, "carrotsIn", "(I)I"⟩
abbrev cX4_putCarrots : ByteArray := prog_6_method_6_code
def yX4_putCarrots : MethodName := ⟨RX4, "putCarrots", "(II)V"⟩
abbrev cX4_hours : ByteArray := prog_6_method_7_code
def yX4_hours : MethodName := ⟨RX4, "hours", "()I"⟩
abbrev cX4_gather : ByteArray := prog_6_method_8_code
def yX4_gather : MethodName := ⟨RX4, "gather", "()V"⟩
abbrev cX4_is : ByteArray := prog_6_method_9_code
def yX4_is : MethodName := ⟨RX4, "is", "(II)Z"⟩
abbrev cX4_carries : ByteArray := prog_6_method_10_code
def yX4_carries : MethodName := ⟨RX4, "carries", "(I)Z"⟩
abbrev cX4_isUnderWay : ByteArray := prog_6_method_11_code
def yX4_isUnderWay : MethodName := ⟨RX4, "isUnderWay", "(I)Z"⟩
abbrev cX4_isIn : ByteArray := prog_6_method_12_code
def yX4_isIn : MethodName := ⟨RX4, "isIn", "(II)Z"⟩
abbrev cX4_canBeSent : ByteArray := prog_6_method_13_code
def yX4_canBeSent : MethodName := ⟨RX4, "canBeSent", "(II)Z"⟩
abbrev cX4_dispatch : ByteArray := prog_6_method_14_code
def yX4_dispatch : MethodName := ⟨RX4, "dispatch", "(III)V"⟩
abbrev cX4_callHome : ByteArray := prog_6_method_15_code
def yX4_callHome : MethodName := ⟨RX4, "callHome", "(I)V"⟩
abbrev cX4_goOn : ByteArray := prog_6_method_16_code
def yX4_goOn : MethodName := ⟨RX4, "goOn", "(I)V"⟩
abbrev cX4_move : ByteArray := prog_6_method_17_code
def yX4_move : MethodName := ⟨RX4, "move", "(I)V"⟩
abbrev cX4_arrive : ByteArray := prog_6_method_18_code
def yX4_arrive : MethodName := ⟨RX4, "arrive", "(III)V"⟩
abbrev cX4_end : ByteArray := prog_6_method_19_code
def yX4_end : MethodName := ⟨RX4, "end", "(I)V"⟩
abbrev cX4_signOf : ByteArray := prog_6_method_20_code
def yX4_signOf : MethodName := ⟨RX4, "signOf", "(II)I"⟩
abbrev cX4_readOf : ByteArray := prog_6_method_21_code
def yX4_readOf : MethodName := ⟨RX4, "readOf", "(I)I"⟩
abbrev cX4_readOf_ : ByteArray := prog_6_method_22_code
def yX4_readOf_ : MethodName := ⟨RX4, "readOf", "(II)I"⟩
abbrev cX4_verdictsOfSign : ByteArray := prog_6_method_23_code
def yX4_verdictsOfSign : MethodName := ⟨RX4, "verdictsOfSign", "(II)I"⟩
abbrev cX4_placeAhead : ByteArray := prog_6_method_24_code
def yX4_placeAhead : MethodName := ⟨RX4, "placeAhead", "(II)I"⟩
abbrev cX4_beastsIn : ByteArray := prog_6_method_25_code
def yX4_beastsIn : MethodName := ⟨RX4, "beastsIn", "(I)I"⟩
abbrev cX4_amount : ByteArray := prog_6_method_26_code
def yX4_amount : MethodName := ⟨RX4, "amount", "(I)I"⟩
abbrev cX4_carrotsInAll : ByteArray := prog_6_method_27_code
def yX4_carrotsInAll : MethodName := ⟨RX4, "carrotsInAll", "()I"⟩
abbrev cX4_readInSum : ByteArray := prog_6_method_28_code
def yX4_readInSum : MethodName := ⟨RX4, "readInSum", "()I"⟩
def RX5 : String := "DonkeyVerdicts$Letters"
def TX5 : u_T := fun k => match k with
  | 0 => ("DonkeyVerdicts$Letters", "signs", "[C", true)
  | _ => ("DonkeyVerdicts$Letters", "length", "I", false)
def tyX5 : Nat → FieldType := fun k => match k with
  | 0 => .array .char
  | _ => .int
abbrev wsX50 : List Cond := u_ws RX5 TX5 2
theorem nmX5 : ∀ a, a < 2 → ∀ b, b < 2 → a ≠ b → (TX5 a).2.1 ≠ (TX5 b).2.1 := by decide +kernel
theorem tyX5_ok : ∀ k, k < 2 → parseFieldDescriptor (TX5 k).2.2.1 = some (tyX5 k) := by decide +kernel
abbrev cX5_init : ByteArray := prog_7_method_1_code
def yX5_init : MethodName := ⟨RX5, "<init>", "()V"⟩
abbrev cX5_add : ByteArray := prog_7_method_2_code
def yX5_add : MethodName := ⟨RX5, "add", "(C)Z"⟩
abbrev cX5_at : ByteArray := prog_7_method_3_code
def yX5_at : MethodName := ⟨RX5, "at", "(I)C"⟩
abbrev cX5_length : ByteArray := prog_7_method_4_code
def yX5_length : MethodName := ⟨RX5, "length", "()I"⟩
abbrev cX5_clear : ByteArray := prog_7_method_5_code
def yX5_clear : MethodName := ⟨RX5, "clear", "()V"⟩
def RX6 : String := "DonkeyVerdicts$Rows"
def TX6 : u_T := fun k => match k with
  | _ => ("", "", "", false)
def tyX6 : Nat → FieldType := fun k => match k with
  | _ => .int
abbrev wsX60 : List Cond := u_ws RX6 TX6 0
theorem nmX6 : ∀ a, a < 0 → ∀ b, b < 0 → a ≠ b → (TX6 a).2.1 ≠ (TX6 b).2.1 := by decide +kernel
theorem tyX6_ok : ∀ k, k < 0 → parseFieldDescriptor (TX6 k).2.2.1 = some (tyX6 k) := by decide +kernel
abbrev cX6_at : ByteArray := prog_8_method_2_code
def yX6_at : MethodName := ⟨RX6, "at", "([II)I"⟩
abbrev cX6_put : ByteArray := prog_8_method_3_code
def yX6_put : MethodName := ⟨RX6, "put", "([III)V"⟩
abbrev cX6_clear : ByteArray := prog_8_method_4_code
def yX6_clear : MethodName := ⟨RX6, "clear", "([I)V"⟩
def RX7 : String := "DonkeyVerdicts$Scribe"
def TX7 : u_T := fun k => match k with
  | 0 => ("DonkeyVerdicts$Scribe", "numbers", "[I", true)
  | 1 => ("DonkeyVerdicts$Scribe", "amount", "I", false)
  | _ => ("DonkeyVerdicts$Scribe", "behind", "I", false)
def tyX7 : Nat → FieldType := fun k => match k with
  | 0 => .array .int
  | 1 => .int
  | _ => .int
abbrev wsX70 : List Cond := u_ws RX7 TX7 3
theorem nmX7 : ∀ a, a < 3 → ∀ b, b < 3 → a ≠ b → (TX7 a).2.1 ≠ (TX7 b).2.1 := by decide +kernel
theorem tyX7_ok : ∀ k, k < 3 → parseFieldDescriptor (TX7 k).2.2.1 = some (tyX7 k) := by decide +kernel
abbrev cX7_init : ByteArray := prog_9_method_1_code
def yX7_init : MethodName := ⟨RX7, "<init>", "()V"⟩
abbrev cX7_firstFault : ByteArray := prog_9_method_2_code
def yX7_firstFault : MethodName := ⟨RX7, "firstFault", "(LDonkeyVerdicts$Letters;LDonkeyVerdicts$Court;)I"⟩
abbrev cX7_split : ByteArray := prog_9_method_3_code
def yX7_split : MethodName := ⟨RX7, "split", "(LDonkeyVerdicts$Letters;I)Z"⟩
abbrev cX7_take : ByteArray := prog_9_method_4_code
def yX7_take : MethodName := ⟨RX7, "take", "(CLDonkeyVerdicts$Court;)Z"⟩
def RX8 : String := "DonkeyVerdicts$Shelf"
def TX8 : u_T := fun k => match k with
  | 0 => ("DonkeyVerdicts$Shelf", "herds", "[LDonkeyVerdicts$Herd;", true)
  | 1 => ("DonkeyVerdicts$Shelf", "top", "I", false)
  | _ => ("DonkeyVerdicts$Shelf", "size", "I", false)
def tyX8 : Nat → FieldType := fun k => match k with
  | 0 => .array (.object "DonkeyVerdicts$Herd")
  | 1 => .int
  | _ => .int
abbrev wsX80 : List Cond := u_ws RX8 TX8 3
theorem nmX8 : ∀ a, a < 3 → ∀ b, b < 3 → a ≠ b → (TX8 a).2.1 ≠ (TX8 b).2.1 := by decide +kernel
theorem tyX8_ok : ∀ k, k < 3 → parseFieldDescriptor (TX8 k).2.2.1 = some (tyX8 k) := by decide +kernel
abbrev cX8_init : ByteArray := prog_10_method_1_code
def yX8_init : MethodName := ⟨RX8, "<init>", "(LDonkeyVerdicts$Court;I)V"⟩
abbrev cX8_size : ByteArray := prog_10_method_2_code
def yX8_size : MethodName := ⟨RX8, "size", "()I"⟩
abbrev cX8_clear : ByteArray := prog_10_method_3_code
def yX8_clear : MethodName := ⟨RX8, "clear", "()V"⟩
abbrev cX8_push : ByteArray := prog_10_method_4_code
def yX8_push : MethodName := ⟨RX8, "push", "(LDonkeyVerdicts$Herd;)V"⟩
abbrev cX8_pop : ByteArray := prog_10_method_5_code
def yX8_pop : MethodName := ⟨RX8, "pop", "(LDonkeyVerdicts$Herd;)Z"⟩
def RX9 : String := "DonkeyVerdicts"
def TX9 : u_T := fun k => match k with
  | 0 => ("DonkeyVerdicts", "text", "LDonkeyVerdicts$Letters;", true)
  | 1 => ("DonkeyVerdicts", "scribe", "LDonkeyVerdicts$Scribe;", true)
  | 2 => ("DonkeyVerdicts", "court", "LDonkeyVerdicts$Court;", true)
  | 3 => ("DonkeyVerdicts", "draft", "LDonkeyVerdicts$Court;", true)
  | 4 => ("DonkeyVerdicts", "now", "LDonkeyVerdicts$Herd;", true)
  | 5 => ("DonkeyVerdicts", "past", "LDonkeyVerdicts$Shelf;", true)
  | 6 => ("DonkeyVerdicts", "kept", "LDonkeyVerdicts$Shelf;", true)
  | 7 => ("DonkeyVerdicts", "foresight", "LDonkeyVerdicts$Foresight;", true)
  | 8 => ("DonkeyVerdicts", "dealer", "LDonkeyVerdicts$Dealer;", true)
  | _ => ("DonkeyVerdicts", "balking", "LDonkeyVerdicts$Balking;", true)
def tyX9 : Nat → FieldType := fun k => match k with
  | 0 => .object "DonkeyVerdicts$Letters"
  | 1 => .object "DonkeyVerdicts$Scribe"
  | 2 => .object "DonkeyVerdicts$Court"
  | 3 => .object "DonkeyVerdicts$Court"
  | 4 => .object "DonkeyVerdicts$Herd"
  | 5 => .object "DonkeyVerdicts$Shelf"
  | 6 => .object "DonkeyVerdicts$Shelf"
  | 7 => .object "DonkeyVerdicts$Foresight"
  | 8 => .object "DonkeyVerdicts$Dealer"
  | _ => .object "DonkeyVerdicts$Balking"
abbrev wsX90 : List Cond := u_ws RX9 TX9 10
theorem nmX9 : ∀ a, a < 10 → ∀ b, b < 10 → a ≠ b → (TX9 a).2.1 ≠ (TX9 b).2.1 := by decide +kernel
theorem tyX9_ok : ∀ k, k < 10 → parseFieldDescriptor (TX9 k).2.2.1 = some (tyX9 k) := by decide +kernel
abbrev cX9_init : ByteArray := prog_1_method_1_code
def yX9_init : MethodName := ⟨RX9, "<init>", "()V"⟩
abbrev cX9_write : ByteArray := prog_1_method_2_code
def yX9_write : MethodName := ⟨RX9, "write", "(I)I"⟩
abbrev cX9_wipe : ByteArray := prog_1_method_3_code
def yX9_wipe : MethodName := ⟨RX9, "wipe", "()I"⟩
abbrev cX9_fault : ByteArray := prog_1_method_4_code
def yX9_fault : MethodName := ⟨RX9, "fault", "()I"⟩
abbrev cX9_lay : ByteArray := prog_1_method_5_code
def yX9_lay : MethodName := ⟨RX9, "lay", "()I"⟩
abbrev cX9_place : ByteArray := prog_1_method_6_code
def yX9_place : MethodName := ⟨RX9, "place", "(II)I"⟩
abbrev cX9_way : ByteArray := prog_1_method_7_code
def yX9_way : MethodName := ⟨RX9, "way", "(II)I"⟩
abbrev cX9_door : ByteArray := prog_1_method_8_code
def yX9_door : MethodName := ⟨RX9, "door", "(II)I"⟩
abbrev cX9_beast : ByteArray := prog_1_method_9_code
def yX9_beast : MethodName := ⟨RX9, "beast", "(II)I"⟩
abbrev cX9_sign : ByteArray := prog_1_method_10_code
def yX9_sign : MethodName := ⟨RX9, "sign", "(II)I"⟩
abbrev cX9_send : ByteArray := prog_1_method_11_code
def yX9_send : MethodName := ⟨RX9, "send", "(III)I"⟩
abbrev cX9_pass : ByteArray := prog_1_method_12_code
def yX9_pass : MethodName := ⟨RX9, "pass", "(I)I"⟩
abbrev cX9_home : ByteArray := prog_1_method_13_code
def yX9_home : MethodName := ⟨RX9, "home", "(I)I"⟩
abbrev cX9_carrots : ByteArray := prog_1_method_14_code
def yX9_carrots : MethodName := ⟨RX9, "carrots", "(II)I"⟩
abbrev cX9_undo : ByteArray := prog_1_method_15_code
def yX9_undo : MethodName := ⟨RX9, "undo", "()I"⟩
abbrev cX9_arrives : ByteArray := prog_1_method_16_code
def yX9_arrives : MethodName := ⟨RX9, "arrives", "(I)I"⟩
abbrev cX9_reading : ByteArray := prog_1_method_17_code
def yX9_reading : MethodName := ⟨RX9, "reading", "(I)I"⟩
abbrev cX9_right : ByteArray := prog_1_method_18_code
def yX9_right : MethodName := ⟨RX9, "right", "(II)I"⟩
abbrev cX9_soonest : ByteArray := prog_1_method_19_code
def yX9_soonest : MethodName := ⟨RX9, "soonest", "(II)I"⟩
abbrev cX9_tell : ByteArray := prog_1_method_20_code
def yX9_tell : MethodName := ⟨RX9, "tell", "(III)I"⟩
abbrev cX9_deal : ByteArray := prog_1_method_21_code
def yX9_deal : MethodName := ⟨RX9, "deal", "(II)I"⟩
abbrev cX9_lure : ByteArray := prog_1_method_22_code
def yX9_lure : MethodName := ⟨RX9, "lure", "(I)I"⟩
abbrev cX9_next : ByteArray := prog_1_method_23_code
def yX9_next : MethodName := ⟨RX9, "next", "(II)I"⟩
abbrev cX9_meet : ByteArray := prog_1_method_24_code
def yX9_meet : MethodName := ⟨RX9, "meet", "(II)I"⟩
abbrev cX9_told : ByteArray := prog_1_method_25_code
def yX9_told : MethodName := ⟨RX9, "told", "(II)I"⟩
abbrev cX9_who : ByteArray := prog_1_method_26_code
def yX9_who : MethodName := ⟨RX9, "who", "(III)I"⟩
abbrev cX9_balks : ByteArray := prog_1_method_27_code
def yX9_balks : MethodName := ⟨RX9, "balks", "(IIII)I"⟩
abbrev cX9_year : ByteArray := prog_1_method_28_code
def yX9_year : MethodName := ⟨RX9, "year", "(III)I"⟩
abbrev cX9_keep : ByteArray := prog_1_method_29_code
def yX9_keep : MethodName := ⟨RX9, "keep", "()I"⟩
abbrev cX9_back : ByteArray := prog_1_method_30_code
def yX9_back : MethodName := ⟨RX9, "back", "()I"⟩
abbrev cX9_count : ByteArray := prog_1_method_31_code
def yX9_count : MethodName := ⟨RX9, "count", "(I)I"⟩
abbrev cX9_isVerdict : ByteArray := prog_1_method_32_code
def yX9_isVerdict : MethodName := ⟨RX9, "isVerdict", "(I)Z"⟩
abbrev cX9_lowestBit : ByteArray := prog_1_method_33_code
def yX9_lowestBit : MethodName := ⟨RX9, "lowestBit", "(I)I"⟩
abbrev cX9_open : ByteArray := prog_1_method_34_code
def yX9_open : MethodName := ⟨RX9, "open", "()V"⟩
def RX10 : String := "DonkeyVerdictsModel"
def TX10 : u_T := fun k => match k with
  | 0 => ("DonkeyVerdictsModel", "places", "I", false)
  | 1 => ("DonkeyVerdictsModel", "ways", "[I", true)
  | 2 => ("DonkeyVerdictsModel", "far", "[I", true)
  | 3 => ("DonkeyVerdictsModel", "mares", "I", false)
  | 4 => ("DonkeyVerdictsModel", "doors", "I", false)
  | 5 => ("DonkeyVerdictsModel", "doorKind", "[I", true)
  | 6 => ("DonkeyVerdictsModel", "doorPlace", "[I", true)
  | 7 => ("DonkeyVerdictsModel", "beasts", "I", false)
  | 8 => ("DonkeyVerdictsModel", "sort", "[I", true)
  | 9 => ("DonkeyVerdictsModel", "pace", "[I", true)
  | 10 => ("DonkeyVerdictsModel", "newPlaces", "I", false)
  | 11 => ("DonkeyVerdictsModel", "newWays", "[I", true)
  | 12 => ("DonkeyVerdictsModel", "newMares", "I", false)
  | 13 => ("DonkeyVerdictsModel", "newDoors", "I", false)
  | 14 => ("DonkeyVerdictsModel", "newDoorKind", "[I", true)
  | 15 => ("DonkeyVerdictsModel", "newDoorPlace", "[I", true)
  | 16 => ("DonkeyVerdictsModel", "newBeasts", "I", false)
  | 17 => ("DonkeyVerdictsModel", "newSort", "[I", true)
  | 18 => ("DonkeyVerdictsModel", "newPace", "[I", true)
  | 19 => ("DonkeyVerdictsModel", "slot", "[I", true)
  | 20 => ("DonkeyVerdictsModel", "acts", "I", false)
  | 21 => ("DonkeyVerdictsModel", "keeps", "I", false)
  | 22 => ("DonkeyVerdictsModel", "length", "I", false)
  | 23 => ("DonkeyVerdictsModel", "text", "[B", true)
  | 24 => ("DonkeyVerdictsModel", "at", "I", false)
  | 25 => ("DonkeyVerdictsModel", "begin", "I", false)
  | 26 => ("DonkeyVerdictsModel", "isWrong", "Z", false)
  | 27 => ("DonkeyVerdictsModel", "stoodAt", "[I", true)
  | 28 => ("DonkeyVerdictsModel", "dealt", "[I", true)
  | _ => ("DonkeyVerdictsModel", "best", "[I", true)
def tyX10 : Nat → FieldType := fun k => match k with
  | 0 => .int
  | 1 => .array .int
  | 2 => .array .int
  | 3 => .int
  | 4 => .int
  | 5 => .array .int
  | 6 => .array .int
  | 7 => .int
  | 8 => .array .int
  | 9 => .array .int
  | 10 => .int
  | 11 => .array .int
  | 12 => .int
  | 13 => .int
  | 14 => .array .int
  | 15 => .array .int
  | 16 => .int
  | 17 => .array .int
  | 18 => .array .int
  | 19 => .array .int
  | 20 => .int
  | 21 => .int
  | 22 => .int
  | 23 => .array .byte
  | 24 => .int
  | 25 => .int
  | 26 => .boolean
  | 27 => .array .int
  | 28 => .array .int
  | _ => .array .int
abbrev wsX100 : List Cond := u_ws RX10 TX10 30
theorem nmX10 : ∀ a, a < 30 → ∀ b, b < 30 → a ≠ b → (TX10 a).2.1 ≠ (TX10 b).2.1 := by decide +kernel
theorem tyX10_ok : ∀ k, k < 30 → parseFieldDescriptor (TX10 k).2.2.1 = some (tyX10 k) := by decide +kernel
abbrev cX10_init : ByteArray := prog_12_method_1_code
def yX10_init : MethodName := ⟨RX10, "<init>", "()V"⟩
abbrev cX10_in : ByteArray := prog_12_method_2_code
def yX10_in : MethodName := ⟨RX10, "in", "(JJJ)Z"⟩
abbrev cX10_has : ByteArray := prog_12_method_3_code
def yX10_has : MethodName := ⟨RX10, "has", "(II)Z"⟩
abbrev cX10_smaller : ByteArray := prog_12_method_4_code
def yX10_smaller : MethodName := ⟨RX10, "smaller", "(II)I"⟩
abbrev cX10_larger : ByteArray := prog_12_method_5_code
def yX10_larger : MethodName := ⟨RX10, "larger", "(II)I"⟩
abbrev cX10_clears : ByteArray := prog_12_method_6_code
def yX10_clears : MethodName := ⟨RX10, "clears", "()V"⟩
abbrev cX10_leads : ByteArray := prog_12_method_7_code
def yX10_leads : MethodName := ⟨RX10, "leads", "(III)V"⟩
abbrev cX10_opens : ByteArray := prog_12_method_8_code
def yX10_opens : MethodName := ⟨RX10, "opens", "(II)V"⟩
abbrev cX10_comes : ByteArray := prog_12_method_9_code
def yX10_comes : MethodName := ⟨RX10, "comes", "(III)V"⟩
abbrev cX10_settles : ByteArray := prog_12_method_10_code
def yX10_settles : MethodName := ⟨RX10, "settles", "()V"⟩
abbrev cX10_copies : ByteArray := prog_12_method_11_code
def yX10_copies : MethodName := ⟨RX10, "copies", "(II)V"⟩
abbrev cX10_isPlace : ByteArray := prog_12_method_12_code
def yX10_isPlace : MethodName := ⟨RX10, "isPlace", "(I)Z"⟩
abbrev cX10_isDoor : ByteArray := prog_12_method_13_code
def yX10_isDoor : MethodName := ⟨RX10, "isDoor", "(I)Z"⟩
abbrev cX10_isBeast : ByteArray := prog_12_method_14_code
def yX10_isBeast : MethodName := ⟨RX10, "isBeast", "(I)Z"⟩
abbrev cX10_write : ByteArray := prog_12_method_15_code
def yX10_write : MethodName := ⟨RX10, "write", "(I)I"⟩
abbrev cX10_wipe : ByteArray := prog_12_method_16_code
def yX10_wipe : MethodName := ⟨RX10, "wipe", "()I"⟩
abbrev cX10_byteNow : ByteArray := prog_12_method_17_code
def yX10_byteNow : MethodName := ⟨RX10, "byteNow", "()I"⟩
abbrev cX10_number : ByteArray := prog_12_method_18_code
def yX10_number : MethodName := ⟨RX10, "number", "(II)I"⟩
abbrev cX10_more : ByteArray := prog_12_method_19_code
def yX10_more : MethodName := ⟨RX10, "more", "(II)I"⟩
abbrev cX10_wayItem : ByteArray := prog_12_method_20_code
def yX10_wayItem : MethodName := ⟨RX10, "wayItem", "()V"⟩
abbrev cX10_doorItem : ByteArray := prog_12_method_21_code
def yX10_doorItem : MethodName := ⟨RX10, "doorItem", "()V"⟩
abbrev cX10_beastItem : ByteArray := prog_12_method_22_code
def yX10_beastItem : MethodName := ⟨RX10, "beastItem", "()V"⟩
abbrev cX10_item : ByteArray := prog_12_method_23_code
def yX10_item : MethodName := ⟨RX10, "item", "(IZ)Z"⟩
abbrev cX10_reads : ByteArray := prog_12_method_24_code
def yX10_reads : MethodName := ⟨RX10, "reads", "()Z"⟩
abbrev cX10_fault : ByteArray := prog_12_method_25_code
def yX10_fault : MethodName := ⟨RX10, "fault", "()I"⟩
abbrev cX10_lay : ByteArray := prog_12_method_26_code
def yX10_lay : MethodName := ⟨RX10, "lay", "()I"⟩
abbrev cX10_standing : ByteArray := prog_12_method_27_code
def yX10_standing : MethodName := ⟨RX10, "standing", "(II)I"⟩
abbrev cX10_place : ByteArray := prog_12_method_28_code
def yX10_place : MethodName := ⟨RX10, "place", "(II)I"⟩
abbrev cX10_way : ByteArray := prog_12_method_29_code
def yX10_way : MethodName := ⟨RX10, "way", "(II)I"⟩
abbrev cX10_door : ByteArray := prog_12_method_30_code
def yX10_door : MethodName := ⟨RX10, "door", "(II)I"⟩
abbrev cX10_beast : ByteArray := prog_12_method_31_code
def yX10_beast : MethodName := ⟨RX10, "beast", "(II)I"⟩
abbrev cX10_signBy : ByteArray := prog_12_method_32_code
def yX10_signBy : MethodName := ⟨RX10, "signBy", "(III)I"⟩
abbrev cX10_read : ByteArray := prog_12_method_33_code
def yX10_read : MethodName := ⟨RX10, "read", "(II)I"⟩
abbrev cX10_isOut : ByteArray := prog_12_method_34_code
def yX10_isOut : MethodName := ⟨RX10, "isOut", "(I)Z"⟩
abbrev cX10_sign : ByteArray := prog_12_method_35_code
def yX10_sign : MethodName := ⟨RX10, "sign", "(II)I"⟩
abbrev cX10_known : ByteArray := prog_12_method_36_code
def yX10_known : MethodName := ⟨RX10, "known", "()V"⟩
abbrev cX10_canSend : ByteArray := prog_12_method_37_code
def yX10_canSend : MethodName := ⟨RX10, "canSend", "(III)Z"⟩
abbrev cX10_sends : ByteArray := prog_12_method_38_code
def yX10_sends : MethodName := ⟨RX10, "sends", "(IIII)V"⟩
abbrev cX10_goal : ByteArray := prog_12_method_39_code
def yX10_goal : MethodName := ⟨RX10, "goal", "(II)I"⟩
abbrev cX10_nextOn : ByteArray := prog_12_method_40_code
def yX10_nextOn : MethodName := ⟨RX10, "nextOn", "(II)I"⟩
abbrev cX10_settlesAt : ByteArray := prog_12_method_41_code
def yX10_settlesAt : MethodName := ⟨RX10, "settlesAt", "(II)V"⟩
abbrev cX10_arrivesIn : ByteArray := prog_12_method_42_code
def yX10_arrivesIn : MethodName := ⟨RX10, "arrivesIn", "(II)V"⟩
abbrev cX10_goesOn : ByteArray := prog_12_method_43_code
def yX10_goesOn : MethodName := ⟨RX10, "goesOn", "(II)V"⟩
abbrev cX10_hour : ByteArray := prog_12_method_44_code
def yX10_hour : MethodName := ⟨RX10, "hour", "(II)V"⟩
abbrev cX10_send : ByteArray := prog_12_method_45_code
def yX10_send : MethodName := ⟨RX10, "send", "(III)I"⟩
abbrev cX10_pass : ByteArray := prog_12_method_46_code
def yX10_pass : MethodName := ⟨RX10, "pass", "(I)I"⟩
abbrev cX10_goesHome : ByteArray := prog_12_method_47_code
def yX10_goesHome : MethodName := ⟨RX10, "goesHome", "(II)V"⟩
abbrev cX10_home : ByteArray := prog_12_method_48_code
def yX10_home : MethodName := ⟨RX10, "home", "(I)I"⟩
abbrev cX10_carrots : ByteArray := prog_12_method_49_code
def yX10_carrots : MethodName := ⟨RX10, "carrots", "(II)I"⟩
abbrev cX10_undo : ByteArray := prog_12_method_50_code
def yX10_undo : MethodName := ⟨RX10, "undo", "()I"⟩
abbrev cX10_standsBehind : ByteArray := prog_12_method_51_code
def yX10_standsBehind : MethodName := ⟨RX10, "standsBehind", "(I)I"⟩
abbrev cX10_arrives : ByteArray := prog_12_method_52_code
def yX10_arrives : MethodName := ⟨RX10, "arrives", "(I)I"⟩
abbrev cX10_readThen : ByteArray := prog_12_method_53_code
def yX10_readThen : MethodName := ⟨RX10, "readThen", "(I)I"⟩
abbrev cX10_reading : ByteArray := prog_12_method_54_code
def yX10_reading : MethodName := ⟨RX10, "reading", "(I)I"⟩
abbrev cX10_readSent : ByteArray := prog_12_method_55_code
def yX10_readSent : MethodName := ⟨RX10, "readSent", "(III)I"⟩
abbrev cX10_right : ByteArray := prog_12_method_56_code
def yX10_right : MethodName := ⟨RX10, "right", "(II)I"⟩
abbrev cX10_soonest : ByteArray := prog_12_method_57_code
def yX10_soonest : MethodName := ⟨RX10, "soonest", "(II)I"⟩
abbrev cX10_tell : ByteArray := prog_12_method_58_code
def yX10_tell : MethodName := ⟨RX10, "tell", "(III)I"⟩
abbrev cX10_dealsSum : ByteArray := prog_12_method_59_code
def yX10_dealsSum : MethodName := ⟨RX10, "dealsSum", "(I)I"⟩
abbrev cX10_deal : ByteArray := prog_12_method_60_code
def yX10_deal : MethodName := ⟨RX10, "deal", "(II)I"⟩
abbrev cX10_lure : ByteArray := prog_12_method_61_code
def yX10_lure : MethodName := ⟨RX10, "lure", "(I)I"⟩
abbrev cX10_next : ByteArray := prog_12_method_62_code
def yX10_next : MethodName := ⟨RX10, "next", "(II)I"⟩
abbrev cX10_meet : ByteArray := prog_12_method_63_code
def yX10_meet : MethodName := ⟨RX10, "meet", "(II)I"⟩
abbrev cX10_told : ByteArray := prog_12_method_64_code
def yX10_told : MethodName := ⟨RX10, "told", "(II)I"⟩
abbrev cX10_who : ByteArray := prog_12_method_65_code
def yX10_who : MethodName := ⟨RX10, "who", "(III)I"⟩
abbrev cX10_balks : ByteArray := prog_12_method_66_code
def yX10_balks : MethodName := ⟨RX10, "balks", "(IIII)I"⟩
abbrev cX10_does : ByteArray := prog_12_method_67_code
def yX10_does : MethodName := ⟨RX10, "does", "(II)V"⟩
abbrev cX10_year : ByteArray := prog_12_method_68_code
def yX10_year : MethodName := ⟨RX10, "year", "(III)I"⟩
abbrev cX10_keep : ByteArray := prog_12_method_69_code
def yX10_keep : MethodName := ⟨RX10, "keep", "()I"⟩
abbrev cX10_back : ByteArray := prog_12_method_70_code
def yX10_back : MethodName := ⟨RX10, "back", "()I"⟩
abbrev cX10_many : ByteArray := prog_12_method_71_code
def yX10_many : MethodName := ⟨RX10, "many", "(I)I"⟩
abbrev cX10_allWays : ByteArray := prog_12_method_72_code
def yX10_allWays : MethodName := ⟨RX10, "allWays", "()I"⟩
abbrev cX10_allCarrots : ByteArray := prog_12_method_73_code
def yX10_allCarrots : MethodName := ⟨RX10, "allCarrots", "()I"⟩
abbrev cX10_count : ByteArray := prog_12_method_74_code
def yX10_count : MethodName := ⟨RX10, "count", "(I)I"⟩
def RJ6 : String := "java/lang/Integer"
def TJ6 : u_T := fun k => match k with
  | _ => ("", "", "", false)
def tyJ6 : Nat → FieldType := fun k => match k with
  | _ => .int
abbrev wsJ60 : List Cond := u_ws RJ6 TJ6 0
theorem nmJ6 : ∀ a, a < 0 → ∀ b, b < 0 → a ≠ b → (TJ6 a).2.1 ≠ (TJ6 b).2.1 := by decide +kernel
theorem tyJ6_ok : ∀ k, k < 0 → parseFieldDescriptor (TJ6 k).2.2.1 = some (tyJ6 k) := by decide +kernel
abbrev cJ6_bitCount_0f7a4 : ByteArray := prog_13_method_49_code
def yJ6_bitCount_0f7a4 : MethodName := ⟨RJ6, "bitCount", "(I)I"⟩
def RJ9 : String := "java/lang/Math"
def TJ9 : u_T := fun k => match k with
  | _ => ("", "", "", false)
def tyJ9 : Nat → FieldType := fun k => match k with
  | _ => .int
abbrev wsJ90 : List Cond := u_ws RJ9 TJ9 0
theorem nmJ9 : ∀ a, a < 0 → ∀ b, b < 0 → a ≠ b → (TJ9 a).2.1 ≠ (TJ9 b).2.1 := by decide +kernel
theorem tyJ9_ok : ∀ k, k < 0 → parseFieldDescriptor (TJ9 k).2.2.1 = some (tyJ9 k) := by decide +kernel
abbrev cJ9_max_7cf53 : ByteArray := prog_14_method_65_code
def yJ9_max_7cf53 : MethodName := ⟨RJ9, "max", "(II)I"⟩
abbrev cJ9_min_7cf53 : ByteArray := prog_14_method_69_code
def yJ9_min_7cf53 : MethodName := ⟨RJ9, "min", "(II)I"⟩
def RJ0 : String := "java/lang/String"
def TJ0 : u_T := fun k => match k with
  | _ => ("", "", "", false)
def tyJ0 : Nat → FieldType := fun k => match k with
  | _ => .int
abbrev wsJ00 : List Cond := u_ws RJ0 TJ0 0
theorem nmJ0 : ∀ a, a < 0 → ∀ b, b < 0 → a ≠ b → (TJ0 a).2.1 ≠ (TJ0 b).2.1 := by decide +kernel
theorem tyJ0_ok : ∀ k, k < 0 → parseFieldDescriptor (TJ0 k).2.2.1 = some (tyJ0 k) := by decide +kernel
abbrev cJ0_length_8abf5 : ByteArray := prog_15_method_54_code
def yJ0_length_8abf5 : MethodName := ⟨RJ0, "length", "()I"⟩
abbrev cJ0_charAt_5068e : ByteArray := prog_15_method_56_code
def yJ0_charAt_5068e : MethodName := ⟨RJ0, "charAt", "(I)C"⟩
abbrev cJ0_coder_7d493 : ByteArray := prog_15_method_152_code
def yJ0_coder_7d493 : MethodName := ⟨RJ0, "coder", "()B"⟩
abbrev cJ0_isLatin1_aae02 : ByteArray := prog_15_method_154_code
def yJ0_isLatin1_aae02 : MethodName := ⟨RJ0, "isLatin1", "()Z"⟩
abbrev cJ0_checkIndex_df160 : ByteArray := prog_15_method_155_code
def yJ0_checkIndex_df160 : MethodName := ⟨RJ0, "checkIndex", "(II)V"⟩
def RJ1 : String := "java/lang/StringLatin1"
def TJ1 : u_T := fun k => match k with
  | _ => ("", "", "", false)
def tyJ1 : Nat → FieldType := fun k => match k with
  | _ => .int
abbrev wsJ10 : List Cond := u_ws RJ1 TJ1 0
theorem nmJ1 : ∀ a, a < 0 → ∀ b, b < 0 → a ≠ b → (TJ1 a).2.1 ≠ (TJ1 b).2.1 := by decide +kernel
theorem tyJ1_ok : ∀ k, k < 0 → parseFieldDescriptor (TJ1 k).2.2.1 = some (tyJ1 k) := by decide +kernel
abbrev cJ1_charAt_3b067 : ByteArray := prog_16_method_2_code
def yJ1_charAt_3b067 : MethodName := ⟨RJ1, "charAt", "([BI)C"⟩
def RJ2 : String := "java/lang/StringUTF16"
def TJ2 : u_T := fun k => match k with
  | _ => ("", "", "", false)
def tyJ2 : Nat → FieldType := fun k => match k with
  | _ => .int
abbrev wsJ20 : List Cond := u_ws RJ2 TJ2 0
theorem nmJ2 : ∀ a, a < 0 → ∀ b, b < 0 → a ≠ b → (TJ2 a).2.1 ≠ (TJ2 b).2.1 := by decide +kernel
theorem tyJ2_ok : ∀ k, k < 0 → parseFieldDescriptor (TJ2 k).2.2.1 = some (tyJ2 k) := by decide +kernel
abbrev cJ2_getChar_3b067 : ByteArray := prog_17_method_5_code
def yJ2_getChar_3b067 : MethodName := ⟨RJ2, "getChar", "([BI)C"⟩
abbrev cJ2_length_9d52b : ByteArray := prog_17_method_6_code
def yJ2_length_9d52b : MethodName := ⟨RJ2, "length", "([B)I"⟩
abbrev cJ2_charAt_3b067 : ByteArray := prog_17_method_83_code
def yJ2_charAt_3b067 : MethodName := ⟨RJ2, "charAt", "([BI)C"⟩
abbrev cJ2_checkIndex_2214a : ByteArray := prog_17_method_91_code
def yJ2_checkIndex_2214a : MethodName := ⟨RJ2, "checkIndex", "(I[B)V"⟩
def RJ10 : String := "java/lang/System"
def TJ10 : u_T := fun k => match k with
  | _ => ("", "", "", false)
def tyJ10 : Nat → FieldType := fun k => match k with
  | _ => .int
abbrev wsJ100 : List Cond := u_ws RJ10 TJ10 0
theorem nmJ10 : ∀ a, a < 0 → ∀ b, b < 0 → a ≠ b → (TJ10 a).2.1 ≠ (TJ10 b).2.1 := by decide +kernel
theorem tyJ10_ok : ∀ k, k < 0 → parseFieldDescriptor (TJ10 k).2.2.1 = some (tyJ10 k) := by decide +kernel
def RJ3 : String := "jdk/internal/util/Preconditions"
def TJ3 : u_T := fun k => match k with
  | _ => ("", "", "", false)
def tyJ3 : Nat → FieldType := fun k => match k with
  | _ => .int
abbrev wsJ30 : List Cond := u_ws RJ3 TJ3 0
theorem nmJ3 : ∀ a, a < 0 → ∀ b, b < 0 → a ≠ b → (TJ3 a).2.1 ≠ (TJ3 b).2.1 := by decide +kernel
theorem tyJ3_ok : ∀ k, k < 0 → parseFieldDescriptor (TJ3 k).2.2.1 = some (tyJ3 k) := by decide +kernel
abbrev cJ3_checkIndex_8e157 : ByteArray := prog_19_method_11_code
def yJ3_checkIndex_8e157 : MethodName := ⟨RJ3, "checkIndex", "(IILjava/util/function/BiFunction;)I"⟩
def RL : String := "DonkeyVerdictsLaw"
abbrev cL_law : ByteArray := code
def yL_law : MethodName := ⟨RL, "law", "([I)Z"⟩
abbrev vwCl : List vw_C := [(RX0, TX0, 1), (RX1, TX1, 13), (RX2, TX2, 4), (RX3, TX3, 2), (RX4, TX4, 2), (RX5, TX5, 2), (RX7, TX7, 3), (RX8, TX8, 3), (RX9, TX9, 10), (RX10, TX10, 30)]
/-- the words that any method may carry -/
def tbg : List Cond := lw_tbl.filter goodWord
theorem tbg_good {w : Cond} (h : w ∈ tbg) : (w.onTables && w.keeps) = true ∨ ∃ ty, w = .arrayClass ty := good_of_word (List.mem_filter.mp h).2
theorem tbg_mem (i : Nat) {w : Cond} (h : lw_tbl[i]? = some w) (g : goodWord w = true) : w ∈ tbg := List.mem_filter.mpr ⟨List.mem_of_getElem? h, g⟩
set_option maxRecDepth 20000 in
theorem in0X0 : ∀ w ∈ wsX00, w ∈ lw_tbl := by decide +kernel
set_option maxRecDepth 20000 in
theorem gdX0 : wsX00.all goodWord = true := by decide +kernel
set_option maxRecDepth 20000 in
theorem inX0 : ∀ w ∈ wsX00, w ∈ tbg := fun w h => List.mem_filter.mpr ⟨in0X0 w h, List.all_eq_true.mp gdX0 w h⟩
set_option maxRecDepth 20000 in
theorem in0X1 : ∀ w ∈ wsX10, w ∈ lw_tbl := by decide +kernel
set_option maxRecDepth 20000 in
theorem gdX1 : wsX10.all goodWord = true := by decide +kernel
set_option maxRecDepth 20000 in
theorem inX1 : ∀ w ∈ wsX10, w ∈ tbg := fun w h => List.mem_filter.mpr ⟨in0X1 w h, List.all_eq_true.mp gdX1 w h⟩
set_option maxRecDepth 20000 in
theorem in0X2 : ∀ w ∈ wsX20, w ∈ lw_tbl := by decide +kernel
set_option maxRecDepth 20000 in
theorem gdX2 : wsX20.all goodWord = true := by decide +kernel
set_option maxRecDepth 20000 in
theorem inX2 : ∀ w ∈ wsX20, w ∈ tbg := fun w h => List.mem_filter.mpr ⟨in0X2 w h, List.all_eq_true.mp gdX2 w h⟩
set_option maxRecDepth 20000 in
theorem in0X3 : ∀ w ∈ wsX30, w ∈ lw_tbl := by decide +kernel
set_option maxRecDepth 20000 in
theorem gdX3 : wsX30.all goodWord = true := by decide +kernel
set_option maxRecDepth 20000 in
theorem inX3 : ∀ w ∈ wsX30, w ∈ tbg := fun w h => List.mem_filter.mpr ⟨in0X3 w h, List.all_eq_true.mp gdX3 w h⟩
set_option maxRecDepth 20000 in
theorem in0X4 : ∀ w ∈ wsX40, w ∈ lw_tbl := by decide +kernel
set_option maxRecDepth 20000 in
theorem gdX4 : wsX40.all goodWord = true := by decide +kernel
set_option maxRecDepth 20000 in
theorem inX4 : ∀ w ∈ wsX40, w ∈ tbg := fun w h => List.mem_filter.mpr ⟨in0X4 w h, List.all_eq_true.mp gdX4 w h⟩
set_option maxRecDepth 20000 in
theorem in0X5 : ∀ w ∈ wsX50, w ∈ lw_tbl := by decide +kernel
set_option maxRecDepth 20000 in
theorem gdX5 : wsX50.all goodWord = true := by decide +kernel
set_option maxRecDepth 20000 in
theorem inX5 : ∀ w ∈ wsX50, w ∈ tbg := fun w h => List.mem_filter.mpr ⟨in0X5 w h, List.all_eq_true.mp gdX5 w h⟩
set_option maxRecDepth 20000 in
theorem in0X6 : ∀ w ∈ wsX60, w ∈ lw_tbl := by decide +kernel
set_option maxRecDepth 20000 in
theorem gdX6 : wsX60.all goodWord = true := by decide +kernel
set_option maxRecDepth 20000 in
theorem inX6 : ∀ w ∈ wsX60, w ∈ tbg := fun w h => List.mem_filter.mpr ⟨in0X6 w h, List.all_eq_true.mp gdX6 w h⟩
set_option maxRecDepth 20000 in
theorem in0X7 : ∀ w ∈ wsX70, w ∈ lw_tbl := by decide +kernel
set_option maxRecDepth 20000 in
theorem gdX7 : wsX70.all goodWord = true := by decide +kernel
set_option maxRecDepth 20000 in
theorem inX7 : ∀ w ∈ wsX70, w ∈ tbg := fun w h => List.mem_filter.mpr ⟨in0X7 w h, List.all_eq_true.mp gdX7 w h⟩
set_option maxRecDepth 20000 in
theorem in0X8 : ∀ w ∈ wsX80, w ∈ lw_tbl := by decide +kernel
set_option maxRecDepth 20000 in
theorem gdX8 : wsX80.all goodWord = true := by decide +kernel
set_option maxRecDepth 20000 in
theorem inX8 : ∀ w ∈ wsX80, w ∈ tbg := fun w h => List.mem_filter.mpr ⟨in0X8 w h, List.all_eq_true.mp gdX8 w h⟩
set_option maxRecDepth 20000 in
theorem in0X9 : ∀ w ∈ wsX90, w ∈ lw_tbl := by decide +kernel
set_option maxRecDepth 20000 in
theorem gdX9 : wsX90.all goodWord = true := by decide +kernel
set_option maxRecDepth 20000 in
theorem inX9 : ∀ w ∈ wsX90, w ∈ tbg := fun w h => List.mem_filter.mpr ⟨in0X9 w h, List.all_eq_true.mp gdX9 w h⟩
set_option maxRecDepth 20000 in
theorem in0X10 : ∀ w ∈ wsX100, w ∈ lw_tbl := by decide +kernel
set_option maxRecDepth 20000 in
theorem gdX10 : wsX100.all goodWord = true := by decide +kernel
set_option maxRecDepth 20000 in
theorem inX10 : ∀ w ∈ wsX100, w ∈ tbg := fun w h => List.mem_filter.mpr ⟨in0X10 w h, List.all_eq_true.mp gdX10 w h⟩
