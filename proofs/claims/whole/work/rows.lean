section
-- ===== PART A: goes FIRST, ahead of the names: the tables' words, and 'selects' of the private methods out of them =====
/-- a private method of a class that the tables say can be made, by its rows of tables_1 -/
def lw_okq (q : MethodName × Nat) : Prop := (q.1.cls ≠ "java/lang/invoke/MethodHandle" ∧ q.1.cls ≠ "java/lang/invoke/VarHandle") ∧ Cond.instantiable q.1.cls q.2 ∈ tables_1 ∧ Cond.privateMethod q.1 ∈ tables_1 ∧ Cond.instanceMethod q.1 ∈ tables_1
theorem lw_p0 : lw_okq (⟨"DonkeyVerdicts", "open", "()V"⟩, 10) := ⟨⟨by decide +kernel, by decide +kernel⟩, List.mem_of_getElem? (i := 20) (by decide +kernel), List.mem_of_getElem? (i := 238) (by decide +kernel), List.mem_of_getElem? (i := 239) (by decide +kernel)⟩
theorem lw_p1 : lw_okq (⟨"DonkeyVerdicts$Scribe", "split", "(LDonkeyVerdicts$Letters;I)Z"⟩, 3) := ⟨⟨by decide +kernel, by decide +kernel⟩, List.mem_of_getElem? (i := 42) (by decide +kernel), List.mem_of_getElem? (i := 261) (by decide +kernel), List.mem_of_getElem? (i := 262) (by decide +kernel)⟩
theorem lw_p2 : lw_okq (⟨"DonkeyVerdicts$Scribe", "take", "(CLDonkeyVerdicts$Court;)Z"⟩, 3) := ⟨⟨by decide +kernel, by decide +kernel⟩, List.mem_of_getElem? (i := 42) (by decide +kernel), List.mem_of_getElem? (i := 268) (by decide +kernel), List.mem_of_getElem? (i := 269) (by decide +kernel)⟩
theorem lw_p3 : lw_okq (⟨"DonkeyVerdicts$Court", "distance", "(II)I"⟩, 13) := ⟨⟨by decide +kernel, by decide +kernel⟩, List.mem_of_getElem? (i := 59) (by decide +kernel), List.mem_of_getElem? (i := 316) (by decide +kernel), List.mem_of_getElem? (i := 317) (by decide +kernel)⟩
theorem lw_p4 : lw_okq (⟨"DonkeyVerdicts$Court", "lowestHop", "(II)I"⟩, 13) := ⟨⟨by decide +kernel, by decide +kernel⟩, List.mem_of_getElem? (i := 59) (by decide +kernel), List.mem_of_getElem? (i := 323) (by decide +kernel), List.mem_of_getElem? (i := 324) (by decide +kernel)⟩
theorem lw_p5 : lw_okq (⟨"DonkeyVerdicts$Herd", "set", "(III)V"⟩, 2) := ⟨⟨by decide +kernel, by decide +kernel⟩, List.mem_of_getElem? (i := 105) (by decide +kernel), List.mem_of_getElem? (i := 340) (by decide +kernel), List.mem_of_getElem? (i := 341) (by decide +kernel)⟩
theorem lw_p6 : lw_okq (⟨"DonkeyVerdicts$Herd", "move", "(I)V"⟩, 2) := ⟨⟨by decide +kernel, by decide +kernel⟩, List.mem_of_getElem? (i := 105) (by decide +kernel), List.mem_of_getElem? (i := 548) (by decide +kernel), List.mem_of_getElem? (i := 549) (by decide +kernel)⟩
theorem lw_p7 : lw_okq (⟨"DonkeyVerdicts$Herd", "end", "(I)V"⟩, 2) := ⟨⟨by decide +kernel, by decide +kernel⟩, List.mem_of_getElem? (i := 105) (by decide +kernel), List.mem_of_getElem? (i := 552) (by decide +kernel), List.mem_of_getElem? (i := 553) (by decide +kernel)⟩
theorem lw_p8 : lw_okq (⟨"DonkeyVerdicts$Herd", "arrive", "(III)V"⟩, 2) := ⟨⟨by decide +kernel, by decide +kernel⟩, List.mem_of_getElem? (i := 105) (by decide +kernel), List.mem_of_getElem? (i := 562) (by decide +kernel), List.mem_of_getElem? (i := 563) (by decide +kernel)⟩
theorem lw_p9 : lw_okq (⟨"DonkeyVerdicts$Foresight", "awaitBeast", "(I)I"⟩, 2) := ⟨⟨by decide +kernel, by decide +kernel⟩, List.mem_of_getElem? (i := 137) (by decide +kernel), List.mem_of_getElem? (i := 618) (by decide +kernel), List.mem_of_getElem? (i := 619) (by decide +kernel)⟩
theorem lw_p10 : lw_okq (⟨"DonkeyVerdicts$Foresight", "trySending", "(LDonkeyVerdicts$Herd;III)Z"⟩, 2) := ⟨⟨by decide +kernel, by decide +kernel⟩, List.mem_of_getElem? (i := 137) (by decide +kernel), List.mem_of_getElem? (i := 642) (by decide +kernel), List.mem_of_getElem? (i := 643) (by decide +kernel)⟩
theorem lw_p11 : lw_okq (⟨"DonkeyVerdicts$Dealer", "pick", "(I)V"⟩, 4) := ⟨⟨by decide +kernel, by decide +kernel⟩, List.mem_of_getElem? (i := 152) (by decide +kernel), List.mem_of_getElem? (i := 678) (by decide +kernel), List.mem_of_getElem? (i := 679) (by decide +kernel)⟩
theorem lw_p12 : lw_okq (⟨"DonkeyVerdicts$Dealer", "sendHand", "(LDonkeyVerdicts$Herd;I)Z"⟩, 4) := ⟨⟨by decide +kernel, by decide +kernel⟩, List.mem_of_getElem? (i := 152) (by decide +kernel), List.mem_of_getElem? (i := 683) (by decide +kernel), List.mem_of_getElem? (i := 684) (by decide +kernel)⟩
theorem lw_p13 : lw_okq (⟨"DonkeyVerdicts$Dealer", "awaitHand", "(I)I"⟩, 4) := ⟨⟨by decide +kernel, by decide +kernel⟩, List.mem_of_getElem? (i := 152) (by decide +kernel), List.mem_of_getElem? (i := 692) (by decide +kernel), List.mem_of_getElem? (i := 693) (by decide +kernel)⟩
theorem lw_p14 : lw_okq (⟨"DonkeyVerdicts$Dealer", "going", "()I"⟩, 4) := ⟨⟨by decide +kernel, by decide +kernel⟩, List.mem_of_getElem? (i := 152) (by decide +kernel), List.mem_of_getElem? (i := 696) (by decide +kernel), List.mem_of_getElem? (i := 697) (by decide +kernel)⟩
theorem lw_p15 : lw_okq (⟨"DonkeyVerdicts$Balking", "weigh", "(III)I"⟩, 1) := ⟨⟨by decide +kernel, by decide +kernel⟩, List.mem_of_getElem? (i := 173) (by decide +kernel), List.mem_of_getElem? (i := 765) (by decide +kernel), List.mem_of_getElem? (i := 766) (by decide +kernel)⟩
def lw_privs_1 : List (MethodName × Nat) := [(⟨"DonkeyVerdicts", "open", "()V"⟩, 10), (⟨"DonkeyVerdicts$Scribe", "split", "(LDonkeyVerdicts$Letters;I)Z"⟩, 3), (⟨"DonkeyVerdicts$Scribe", "take", "(CLDonkeyVerdicts$Court;)Z"⟩, 3), (⟨"DonkeyVerdicts$Court", "distance", "(II)I"⟩, 13), (⟨"DonkeyVerdicts$Court", "lowestHop", "(II)I"⟩, 13), (⟨"DonkeyVerdicts$Herd", "set", "(III)V"⟩, 2), (⟨"DonkeyVerdicts$Herd", "move", "(I)V"⟩, 2), (⟨"DonkeyVerdicts$Herd", "end", "(I)V"⟩, 2), (⟨"DonkeyVerdicts$Herd", "arrive", "(III)V"⟩, 2), (⟨"DonkeyVerdicts$Foresight", "awaitBeast", "(I)I"⟩, 2), (⟨"DonkeyVerdicts$Foresight", "trySending", "(LDonkeyVerdicts$Herd;III)Z"⟩, 2), (⟨"DonkeyVerdicts$Dealer", "pick", "(I)V"⟩, 4), (⟨"DonkeyVerdicts$Dealer", "sendHand", "(LDonkeyVerdicts$Herd;I)Z"⟩, 4), (⟨"DonkeyVerdicts$Dealer", "awaitHand", "(I)I"⟩, 4), (⟨"DonkeyVerdicts$Dealer", "going", "()I"⟩, 4), (⟨"DonkeyVerdicts$Balking", "weigh", "(III)I"⟩, 1)]
theorem lw_r1 : ∀ q ∈ lw_privs_1, lw_okq q := List.forall_mem_cons.mpr ⟨lw_p0, List.forall_mem_cons.mpr ⟨lw_p1, List.forall_mem_cons.mpr ⟨lw_p2, List.forall_mem_cons.mpr ⟨lw_p3, List.forall_mem_cons.mpr ⟨lw_p4, List.forall_mem_cons.mpr ⟨lw_p5, List.forall_mem_cons.mpr ⟨lw_p6, List.forall_mem_cons.mpr ⟨lw_p7, List.forall_mem_cons.mpr ⟨lw_p8, List.forall_mem_cons.mpr ⟨lw_p9, List.forall_mem_cons.mpr ⟨lw_p10, List.forall_mem_cons.mpr ⟨lw_p11, List.forall_mem_cons.mpr ⟨lw_p12, List.forall_mem_cons.mpr ⟨lw_p13, List.forall_mem_cons.mpr ⟨lw_p14, List.forall_mem_cons.mpr ⟨lw_p15, fun _ h => absurd h List.not_mem_nil⟩⟩⟩⟩⟩⟩⟩⟩⟩⟩⟩⟩⟩⟩⟩⟩
theorem lw_p16 : lw_okq (⟨"DonkeyVerdicts$Foresight", "act", "(I)V"⟩, 2) := ⟨⟨by decide +kernel, by decide +kernel⟩, List.mem_of_getElem? (i := 137) (by decide +kernel), List.mem_of_getElem? (i := 793) (by decide +kernel), List.mem_of_getElem? (i := 794) (by decide +kernel)⟩
theorem lw_p17 : lw_okq (⟨"DonkeyVerdictsModel", "clears", "()V"⟩, 30) := ⟨⟨by decide +kernel, by decide +kernel⟩, List.mem_of_getElem? (i := 832) (by decide +kernel), List.mem_of_getElem? (i := 838) (by decide +kernel), List.mem_of_getElem? (i := 839) (by decide +kernel)⟩
theorem lw_p18 : lw_okq (⟨"DonkeyVerdictsModel", "leads", "(III)V"⟩, 30) := ⟨⟨by decide +kernel, by decide +kernel⟩, List.mem_of_getElem? (i := 832) (by decide +kernel), List.mem_of_getElem? (i := 842) (by decide +kernel), List.mem_of_getElem? (i := 843) (by decide +kernel)⟩
theorem lw_p19 : lw_okq (⟨"DonkeyVerdictsModel", "opens", "(II)V"⟩, 30) := ⟨⟨by decide +kernel, by decide +kernel⟩, List.mem_of_getElem? (i := 832) (by decide +kernel), List.mem_of_getElem? (i := 846) (by decide +kernel), List.mem_of_getElem? (i := 847) (by decide +kernel)⟩
theorem lw_p20 : lw_okq (⟨"DonkeyVerdictsModel", "comes", "(III)V"⟩, 30) := ⟨⟨by decide +kernel, by decide +kernel⟩, List.mem_of_getElem? (i := 832) (by decide +kernel), List.mem_of_getElem? (i := 850) (by decide +kernel), List.mem_of_getElem? (i := 851) (by decide +kernel)⟩
theorem lw_p21 : lw_okq (⟨"DonkeyVerdictsModel", "settles", "()V"⟩, 30) := ⟨⟨by decide +kernel, by decide +kernel⟩, List.mem_of_getElem? (i := 832) (by decide +kernel), List.mem_of_getElem? (i := 854) (by decide +kernel), List.mem_of_getElem? (i := 855) (by decide +kernel)⟩
theorem lw_p22 : lw_okq (⟨"DonkeyVerdictsModel", "copies", "(II)V"⟩, 30) := ⟨⟨by decide +kernel, by decide +kernel⟩, List.mem_of_getElem? (i := 832) (by decide +kernel), List.mem_of_getElem? (i := 861) (by decide +kernel), List.mem_of_getElem? (i := 862) (by decide +kernel)⟩
theorem lw_p23 : lw_okq (⟨"DonkeyVerdictsModel", "reads", "()Z"⟩, 30) := ⟨⟨by decide +kernel, by decide +kernel⟩, List.mem_of_getElem? (i := 832) (by decide +kernel), List.mem_of_getElem? (i := 973) (by decide +kernel), List.mem_of_getElem? (i := 974) (by decide +kernel)⟩
theorem lw_p24 : lw_okq (⟨"DonkeyVerdictsModel", "byteNow", "()I"⟩, 30) := ⟨⟨by decide +kernel, by decide +kernel⟩, List.mem_of_getElem? (i := 832) (by decide +kernel), List.mem_of_getElem? (i := 977) (by decide +kernel), List.mem_of_getElem? (i := 978) (by decide +kernel)⟩
theorem lw_p25 : lw_okq (⟨"DonkeyVerdictsModel", "item", "(IZ)Z"⟩, 30) := ⟨⟨by decide +kernel, by decide +kernel⟩, List.mem_of_getElem? (i := 832) (by decide +kernel), List.mem_of_getElem? (i := 981) (by decide +kernel), List.mem_of_getElem? (i := 982) (by decide +kernel)⟩
theorem lw_p26 : lw_okq (⟨"DonkeyVerdictsModel", "number", "(II)I"⟩, 30) := ⟨⟨by decide +kernel, by decide +kernel⟩, List.mem_of_getElem? (i := 832) (by decide +kernel), List.mem_of_getElem? (i := 985) (by decide +kernel), List.mem_of_getElem? (i := 986) (by decide +kernel)⟩
theorem lw_p27 : lw_okq (⟨"DonkeyVerdictsModel", "wayItem", "()V"⟩, 30) := ⟨⟨by decide +kernel, by decide +kernel⟩, List.mem_of_getElem? (i := 832) (by decide +kernel), List.mem_of_getElem? (i := 991) (by decide +kernel), List.mem_of_getElem? (i := 992) (by decide +kernel)⟩
theorem lw_p28 : lw_okq (⟨"DonkeyVerdictsModel", "more", "(II)I"⟩, 30) := ⟨⟨by decide +kernel, by decide +kernel⟩, List.mem_of_getElem? (i := 832) (by decide +kernel), List.mem_of_getElem? (i := 995) (by decide +kernel), List.mem_of_getElem? (i := 996) (by decide +kernel)⟩
theorem lw_p29 : lw_okq (⟨"DonkeyVerdictsModel", "doorItem", "()V"⟩, 30) := ⟨⟨by decide +kernel, by decide +kernel⟩, List.mem_of_getElem? (i := 832) (by decide +kernel), List.mem_of_getElem? (i := 999) (by decide +kernel), List.mem_of_getElem? (i := 1000) (by decide +kernel)⟩
theorem lw_p30 : lw_okq (⟨"DonkeyVerdictsModel", "beastItem", "()V"⟩, 30) := ⟨⟨by decide +kernel, by decide +kernel⟩, List.mem_of_getElem? (i := 832) (by decide +kernel), List.mem_of_getElem? (i := 1003) (by decide +kernel), List.mem_of_getElem? (i := 1004) (by decide +kernel)⟩
theorem lw_p31 : lw_okq (⟨"DonkeyVerdictsModel", "isPlace", "(I)Z"⟩, 30) := ⟨⟨by decide +kernel, by decide +kernel⟩, List.mem_of_getElem? (i := 832) (by decide +kernel), List.mem_of_getElem? (i := 1015) (by decide +kernel), List.mem_of_getElem? (i := 1016) (by decide +kernel)⟩
def lw_privs_2 : List (MethodName × Nat) := [(⟨"DonkeyVerdicts$Foresight", "act", "(I)V"⟩, 2), (⟨"DonkeyVerdictsModel", "clears", "()V"⟩, 30), (⟨"DonkeyVerdictsModel", "leads", "(III)V"⟩, 30), (⟨"DonkeyVerdictsModel", "opens", "(II)V"⟩, 30), (⟨"DonkeyVerdictsModel", "comes", "(III)V"⟩, 30), (⟨"DonkeyVerdictsModel", "settles", "()V"⟩, 30), (⟨"DonkeyVerdictsModel", "copies", "(II)V"⟩, 30), (⟨"DonkeyVerdictsModel", "reads", "()Z"⟩, 30), (⟨"DonkeyVerdictsModel", "byteNow", "()I"⟩, 30), (⟨"DonkeyVerdictsModel", "item", "(IZ)Z"⟩, 30), (⟨"DonkeyVerdictsModel", "number", "(II)I"⟩, 30), (⟨"DonkeyVerdictsModel", "wayItem", "()V"⟩, 30), (⟨"DonkeyVerdictsModel", "more", "(II)I"⟩, 30), (⟨"DonkeyVerdictsModel", "doorItem", "()V"⟩, 30), (⟨"DonkeyVerdictsModel", "beastItem", "()V"⟩, 30), (⟨"DonkeyVerdictsModel", "isPlace", "(I)Z"⟩, 30)]
theorem lw_r2 : ∀ q ∈ lw_privs_2, lw_okq q := List.forall_mem_cons.mpr ⟨lw_p16, List.forall_mem_cons.mpr ⟨lw_p17, List.forall_mem_cons.mpr ⟨lw_p18, List.forall_mem_cons.mpr ⟨lw_p19, List.forall_mem_cons.mpr ⟨lw_p20, List.forall_mem_cons.mpr ⟨lw_p21, List.forall_mem_cons.mpr ⟨lw_p22, List.forall_mem_cons.mpr ⟨lw_p23, List.forall_mem_cons.mpr ⟨lw_p24, List.forall_mem_cons.mpr ⟨lw_p25, List.forall_mem_cons.mpr ⟨lw_p26, List.forall_mem_cons.mpr ⟨lw_p27, List.forall_mem_cons.mpr ⟨lw_p28, List.forall_mem_cons.mpr ⟨lw_p29, List.forall_mem_cons.mpr ⟨lw_p30, List.forall_mem_cons.mpr ⟨lw_p31, fun _ h => absurd h List.not_mem_nil⟩⟩⟩⟩⟩⟩⟩⟩⟩⟩⟩⟩⟩⟩⟩⟩
theorem lw_p32 : lw_okq (⟨"DonkeyVerdictsModel", "standing", "(II)I"⟩, 30) := ⟨⟨by decide +kernel, by decide +kernel⟩, List.mem_of_getElem? (i := 832) (by decide +kernel), List.mem_of_getElem? (i := 1020) (by decide +kernel), List.mem_of_getElem? (i := 1021) (by decide +kernel)⟩
theorem lw_p33 : lw_okq (⟨"DonkeyVerdictsModel", "isDoor", "(I)Z"⟩, 30) := ⟨⟨by decide +kernel, by decide +kernel⟩, List.mem_of_getElem? (i := 832) (by decide +kernel), List.mem_of_getElem? (i := 1032) (by decide +kernel), List.mem_of_getElem? (i := 1033) (by decide +kernel)⟩
theorem lw_p34 : lw_okq (⟨"DonkeyVerdictsModel", "isBeast", "(I)Z"⟩, 30) := ⟨⟨by decide +kernel, by decide +kernel⟩, List.mem_of_getElem? (i := 832) (by decide +kernel), List.mem_of_getElem? (i := 1040) (by decide +kernel), List.mem_of_getElem? (i := 1041) (by decide +kernel)⟩
theorem lw_p35 : lw_okq (⟨"DonkeyVerdictsModel", "isOut", "(I)Z"⟩, 30) := ⟨⟨by decide +kernel, by decide +kernel⟩, List.mem_of_getElem? (i := 832) (by decide +kernel), List.mem_of_getElem? (i := 1049) (by decide +kernel), List.mem_of_getElem? (i := 1050) (by decide +kernel)⟩
theorem lw_p36 : lw_okq (⟨"DonkeyVerdictsModel", "signBy", "(III)I"⟩, 30) := ⟨⟨by decide +kernel, by decide +kernel⟩, List.mem_of_getElem? (i := 832) (by decide +kernel), List.mem_of_getElem? (i := 1053) (by decide +kernel), List.mem_of_getElem? (i := 1054) (by decide +kernel)⟩
theorem lw_p37 : lw_okq (⟨"DonkeyVerdictsModel", "canSend", "(III)Z"⟩, 30) := ⟨⟨by decide +kernel, by decide +kernel⟩, List.mem_of_getElem? (i := 832) (by decide +kernel), List.mem_of_getElem? (i := 1064) (by decide +kernel), List.mem_of_getElem? (i := 1065) (by decide +kernel)⟩
theorem lw_p38 : lw_okq (⟨"DonkeyVerdictsModel", "known", "()V"⟩, 30) := ⟨⟨by decide +kernel, by decide +kernel⟩, List.mem_of_getElem? (i := 832) (by decide +kernel), List.mem_of_getElem? (i := 1068) (by decide +kernel), List.mem_of_getElem? (i := 1069) (by decide +kernel)⟩
theorem lw_p39 : lw_okq (⟨"DonkeyVerdictsModel", "sends", "(IIII)V"⟩, 30) := ⟨⟨by decide +kernel, by decide +kernel⟩, List.mem_of_getElem? (i := 832) (by decide +kernel), List.mem_of_getElem? (i := 1072) (by decide +kernel), List.mem_of_getElem? (i := 1073) (by decide +kernel)⟩
theorem lw_p40 : lw_okq (⟨"DonkeyVerdictsModel", "hour", "(II)V"⟩, 30) := ⟨⟨by decide +kernel, by decide +kernel⟩, List.mem_of_getElem? (i := 832) (by decide +kernel), List.mem_of_getElem? (i := 1081) (by decide +kernel), List.mem_of_getElem? (i := 1082) (by decide +kernel)⟩
theorem lw_p41 : lw_okq (⟨"DonkeyVerdictsModel", "goesOn", "(II)V"⟩, 30) := ⟨⟨by decide +kernel, by decide +kernel⟩, List.mem_of_getElem? (i := 832) (by decide +kernel), List.mem_of_getElem? (i := 1085) (by decide +kernel), List.mem_of_getElem? (i := 1086) (by decide +kernel)⟩
theorem lw_p42 : lw_okq (⟨"DonkeyVerdictsModel", "goal", "(II)I"⟩, 30) := ⟨⟨by decide +kernel, by decide +kernel⟩, List.mem_of_getElem? (i := 832) (by decide +kernel), List.mem_of_getElem? (i := 1089) (by decide +kernel), List.mem_of_getElem? (i := 1090) (by decide +kernel)⟩
theorem lw_p43 : lw_okq (⟨"DonkeyVerdictsModel", "settlesAt", "(II)V"⟩, 30) := ⟨⟨by decide +kernel, by decide +kernel⟩, List.mem_of_getElem? (i := 832) (by decide +kernel), List.mem_of_getElem? (i := 1093) (by decide +kernel), List.mem_of_getElem? (i := 1094) (by decide +kernel)⟩
theorem lw_p44 : lw_okq (⟨"DonkeyVerdictsModel", "nextOn", "(II)I"⟩, 30) := ⟨⟨by decide +kernel, by decide +kernel⟩, List.mem_of_getElem? (i := 832) (by decide +kernel), List.mem_of_getElem? (i := 1097) (by decide +kernel), List.mem_of_getElem? (i := 1098) (by decide +kernel)⟩
theorem lw_p45 : lw_okq (⟨"DonkeyVerdictsModel", "arrivesIn", "(II)V"⟩, 30) := ⟨⟨by decide +kernel, by decide +kernel⟩, List.mem_of_getElem? (i := 832) (by decide +kernel), List.mem_of_getElem? (i := 1101) (by decide +kernel), List.mem_of_getElem? (i := 1102) (by decide +kernel)⟩
theorem lw_p46 : lw_okq (⟨"DonkeyVerdictsModel", "read", "(II)I"⟩, 30) := ⟨⟨by decide +kernel, by decide +kernel⟩, List.mem_of_getElem? (i := 832) (by decide +kernel), List.mem_of_getElem? (i := 1112) (by decide +kernel), List.mem_of_getElem? (i := 1113) (by decide +kernel)⟩
theorem lw_p47 : lw_okq (⟨"DonkeyVerdictsModel", "goesHome", "(II)V"⟩, 30) := ⟨⟨by decide +kernel, by decide +kernel⟩, List.mem_of_getElem? (i := 832) (by decide +kernel), List.mem_of_getElem? (i := 1116) (by decide +kernel), List.mem_of_getElem? (i := 1117) (by decide +kernel)⟩
def lw_privs_3 : List (MethodName × Nat) := [(⟨"DonkeyVerdictsModel", "standing", "(II)I"⟩, 30), (⟨"DonkeyVerdictsModel", "isDoor", "(I)Z"⟩, 30), (⟨"DonkeyVerdictsModel", "isBeast", "(I)Z"⟩, 30), (⟨"DonkeyVerdictsModel", "isOut", "(I)Z"⟩, 30), (⟨"DonkeyVerdictsModel", "signBy", "(III)I"⟩, 30), (⟨"DonkeyVerdictsModel", "canSend", "(III)Z"⟩, 30), (⟨"DonkeyVerdictsModel", "known", "()V"⟩, 30), (⟨"DonkeyVerdictsModel", "sends", "(IIII)V"⟩, 30), (⟨"DonkeyVerdictsModel", "hour", "(II)V"⟩, 30), (⟨"DonkeyVerdictsModel", "goesOn", "(II)V"⟩, 30), (⟨"DonkeyVerdictsModel", "goal", "(II)I"⟩, 30), (⟨"DonkeyVerdictsModel", "settlesAt", "(II)V"⟩, 30), (⟨"DonkeyVerdictsModel", "nextOn", "(II)I"⟩, 30), (⟨"DonkeyVerdictsModel", "arrivesIn", "(II)V"⟩, 30), (⟨"DonkeyVerdictsModel", "read", "(II)I"⟩, 30), (⟨"DonkeyVerdictsModel", "goesHome", "(II)V"⟩, 30)]
theorem lw_r3 : ∀ q ∈ lw_privs_3, lw_okq q := List.forall_mem_cons.mpr ⟨lw_p32, List.forall_mem_cons.mpr ⟨lw_p33, List.forall_mem_cons.mpr ⟨lw_p34, List.forall_mem_cons.mpr ⟨lw_p35, List.forall_mem_cons.mpr ⟨lw_p36, List.forall_mem_cons.mpr ⟨lw_p37, List.forall_mem_cons.mpr ⟨lw_p38, List.forall_mem_cons.mpr ⟨lw_p39, List.forall_mem_cons.mpr ⟨lw_p40, List.forall_mem_cons.mpr ⟨lw_p41, List.forall_mem_cons.mpr ⟨lw_p42, List.forall_mem_cons.mpr ⟨lw_p43, List.forall_mem_cons.mpr ⟨lw_p44, List.forall_mem_cons.mpr ⟨lw_p45, List.forall_mem_cons.mpr ⟨lw_p46, List.forall_mem_cons.mpr ⟨lw_p47, fun _ h => absurd h List.not_mem_nil⟩⟩⟩⟩⟩⟩⟩⟩⟩⟩⟩⟩⟩⟩⟩⟩
theorem lw_p48 : lw_okq (⟨"DonkeyVerdictsModel", "standsBehind", "(I)I"⟩, 30) := ⟨⟨by decide +kernel, by decide +kernel⟩, List.mem_of_getElem? (i := 832) (by decide +kernel), List.mem_of_getElem? (i := 1133) (by decide +kernel), List.mem_of_getElem? (i := 1134) (by decide +kernel)⟩
theorem lw_p49 : lw_okq (⟨"DonkeyVerdictsModel", "readThen", "(I)I"⟩, 30) := ⟨⟨by decide +kernel, by decide +kernel⟩, List.mem_of_getElem? (i := 832) (by decide +kernel), List.mem_of_getElem? (i := 1141) (by decide +kernel), List.mem_of_getElem? (i := 1142) (by decide +kernel)⟩
theorem lw_p50 : lw_okq (⟨"DonkeyVerdictsModel", "readSent", "(III)I"⟩, 30) := ⟨⟨by decide +kernel, by decide +kernel⟩, List.mem_of_getElem? (i := 832) (by decide +kernel), List.mem_of_getElem? (i := 1149) (by decide +kernel), List.mem_of_getElem? (i := 1150) (by decide +kernel)⟩
theorem lw_p51 : lw_okq (⟨"DonkeyVerdictsModel", "dealsSum", "(I)I"⟩, 30) := ⟨⟨by decide +kernel, by decide +kernel⟩, List.mem_of_getElem? (i := 832) (by decide +kernel), List.mem_of_getElem? (i := 1166) (by decide +kernel), List.mem_of_getElem? (i := 1167) (by decide +kernel)⟩
theorem lw_p52 : lw_okq (⟨"DonkeyVerdictsModel", "does", "(II)V"⟩, 30) := ⟨⟨by decide +kernel, by decide +kernel⟩, List.mem_of_getElem? (i := 832) (by decide +kernel), List.mem_of_getElem? (i := 1205) (by decide +kernel), List.mem_of_getElem? (i := 1206) (by decide +kernel)⟩
theorem lw_p53 : lw_okq (⟨"DonkeyVerdictsModel", "allWays", "()I"⟩, 30) := ⟨⟨by decide +kernel, by decide +kernel⟩, List.mem_of_getElem? (i := 832) (by decide +kernel), List.mem_of_getElem? (i := 1221) (by decide +kernel), List.mem_of_getElem? (i := 1222) (by decide +kernel)⟩
theorem lw_p54 : lw_okq (⟨"DonkeyVerdictsModel", "many", "(I)I"⟩, 30) := ⟨⟨by decide +kernel, by decide +kernel⟩, List.mem_of_getElem? (i := 832) (by decide +kernel), List.mem_of_getElem? (i := 1226) (by decide +kernel), List.mem_of_getElem? (i := 1227) (by decide +kernel)⟩
theorem lw_p55 : lw_okq (⟨"DonkeyVerdictsModel", "allCarrots", "()I"⟩, 30) := ⟨⟨by decide +kernel, by decide +kernel⟩, List.mem_of_getElem? (i := 832) (by decide +kernel), List.mem_of_getElem? (i := 1230) (by decide +kernel), List.mem_of_getElem? (i := 1231) (by decide +kernel)⟩
def lw_privs_4 : List (MethodName × Nat) := [(⟨"DonkeyVerdictsModel", "standsBehind", "(I)I"⟩, 30), (⟨"DonkeyVerdictsModel", "readThen", "(I)I"⟩, 30), (⟨"DonkeyVerdictsModel", "readSent", "(III)I"⟩, 30), (⟨"DonkeyVerdictsModel", "dealsSum", "(I)I"⟩, 30), (⟨"DonkeyVerdictsModel", "does", "(II)V"⟩, 30), (⟨"DonkeyVerdictsModel", "allWays", "()I"⟩, 30), (⟨"DonkeyVerdictsModel", "many", "(I)I"⟩, 30), (⟨"DonkeyVerdictsModel", "allCarrots", "()I"⟩, 30)]
theorem lw_r4 : ∀ q ∈ lw_privs_4, lw_okq q := List.forall_mem_cons.mpr ⟨lw_p48, List.forall_mem_cons.mpr ⟨lw_p49, List.forall_mem_cons.mpr ⟨lw_p50, List.forall_mem_cons.mpr ⟨lw_p51, List.forall_mem_cons.mpr ⟨lw_p52, List.forall_mem_cons.mpr ⟨lw_p53, List.forall_mem_cons.mpr ⟨lw_p54, List.forall_mem_cons.mpr ⟨lw_p55, fun _ h => absurd h List.not_mem_nil⟩⟩⟩⟩⟩⟩⟩⟩
def lw_privs : List (MethodName × Nat) := lw_privs_1 ++ (lw_privs_2 ++ (lw_privs_3 ++ (lw_privs_4)))
def lw_tbl : List Cond := k2_sels lw_privs ++ tables_1
theorem lw_privs_ok : ∀ q ∈ lw_privs, lw_okq q := by
  show ∀ q ∈ lw_privs_1 ++ (lw_privs_2 ++ (lw_privs_3 ++ (lw_privs_4))), lw_okq q
  exact List.forall_mem_append.mpr ⟨lw_r1, List.forall_mem_append.mpr ⟨lw_r2, List.forall_mem_append.mpr ⟨lw_r3, lw_r4⟩⟩⟩
end
section
/-! ===== BEGIN words of one list among another's, by their places ===== -/
theorem goodIn_r {big : List Cond} (ws : List Cond) (ps : List Nat) (hp : ws = ps.filterMap (fun i => big[i]?)) (h : ws.all goodWord = true) : GoodIn big ws := by
  intro w hw
  have h1 := List.all_eq_true.mp h w hw
  rw [hp] at hw
  obtain ⟨i, -, hi⟩ := List.mem_filterMap.mp hw
  have hm : w ∈ big := by first | exact List.mem_of_getElem? hi | exact List.getElem?_mem hi
  exact ⟨hm, good_of_word h1⟩
theorem goodIn_app {big a b : List Cond} (ha : GoodIn big a) (hb : GoodIn big b) : GoodIn big (a ++ b) := fun w h => (List.mem_append.mp h).elim (ha w) (hb w)
theorem goodIn_ca {big a b : List Cond} {c : Cond} (ha : GoodIn big (c :: a)) (hb : GoodIn big b) : GoodIn big (c :: (a ++ b)) := fun w h => (List.mem_cons.mp h).elim (fun e => ha w (List.mem_cons.mpr (Or.inl e))) (fun h => (List.mem_append.mp h).elim (fun h => ha w (List.mem_cons.mpr (Or.inr h))) (hb w))
theorem goodIn_sub {big ws : List Cond} (hm : ∀ w ∈ ws, w ∈ big) (h : ws.all goodWord = true) : GoodIn big ws := fun w hw => ⟨hm w hw, good_of_word (List.all_eq_true.mp h w hw)⟩
/-! ===== END ===== -/

/-! ===== BEGIN printed: names, fields, word lists, decode rows ===== -/
def RX0 : String := "DonkeyVerdicts$Balking"
def TX0 : u_T := fun k => match k with
  | _ => ("DonkeyVerdicts$Balking", "levels", "[LDonkeyVerdicts$Herd;", true)
def tyX0 : Nat → FieldType := fun k => match k with
  | _ => .array (.object "DonkeyVerdicts$Herd")
abbrev wsX00 : List Cond := u_ws RX0 TX0 1
theorem nmX0 : ∀ a, a < 1 → ∀ b, b < 1 → a ≠ b → (TX0 a).2.1 ≠ (TX0 b).2.1 := by decide +kernel
theorem tyX0_ok : ∀ k, k < 1 → parseFieldDescriptor (TX0 k).2.2.1 = some (tyX0 k) := by decide +kernel
abbrev cX0_init : ByteArray := prog_2_method_1_code
def yX0_init : MethodName := ⟨RX0, "<init>", "(LDonkeyVerdicts$Court;)V"⟩
abbrev cX0_weightOf : ByteArray := prog_2_method_2_code
def yX0_weightOf : MethodName := ⟨RX0, "weightOf", "(LDonkeyVerdicts$Herd;III)I"⟩
abbrev cX0_weigh : ByteArray := prog_2_method_3_code
def yX0_weigh : MethodName := ⟨RX0, "weigh", "(III)I"⟩
abbrev cX0_power : ByteArray := prog_2_method_4_code
def yX0_power : MethodName := ⟨RX0, "power", "(I)I"⟩
abbrev cX0_commonDivisor : ByteArray := prog_2_method_5_code
def yX0_commonDivisor : MethodName := ⟨RX0, "commonDivisor", "(II)I"⟩
def RX1 : String := "DonkeyVerdicts$Court"
def TX1 : u_T := fun k => match k with
  | 0 => ("DonkeyVerdicts$Court", "lengths", "[I", true)
  | 1 => ("DonkeyVerdicts$Court", "distances", "[I", true)
  | 2 => ("DonkeyVerdicts$Court", "hops", "[I", true)
  | 3 => ("DonkeyVerdicts$Court", "doorKinds", "[I", true)
  | 4 => ("DonkeyVerdicts$Court", "doorPlaces", "[I", true)
  | 5 => ("DonkeyVerdicts$Court", "kinds", "[I", true)
  | 6 => ("DonkeyVerdicts$Court", "paces", "[I", true)
  | 7 => ("DonkeyVerdicts$Court", "moods", "[I", true)
  | 8 => ("DonkeyVerdicts$Court", "carrotsLaid", "[I", true)
  | 9 => ("DonkeyVerdicts$Court", "mares", "[I", true)
  | 10 => ("DonkeyVerdicts$Court", "places", "I", false)
  | 11 => ("DonkeyVerdicts$Court", "doors", "I", false)
  | _ => ("DonkeyVerdicts$Court", "beasts", "I", false)
def tyX1 : Nat → FieldType := fun k => match k with
  | 0 => .array .int
  | 1 => .array .int
  | 2 => .array .int
  | 3 => .array .int
  | 4 => .array .int
  | 5 => .array .int
  | 6 => .array .int
  | 7 => .array .int
  | 8 => .array .int
  | 9 => .array .int
  | 10 => .int
  | 11 => .int
  | _ => .int
abbrev wsX10 : List Cond := u_ws RX1 TX1 13
theorem nmX1 : ∀ a, a < 13 → ∀ b, b < 13 → a ≠ b → (TX1 a).2.1 ≠ (TX1 b).2.1 := by decide +kernel
theorem tyX1_ok : ∀ k, k < 13 → parseFieldDescriptor (TX1 k).2.2.1 = some (tyX1 k) := by decide +kernel
abbrev cX1_init : ByteArray := prog_3_method_1_code
def yX1_init : MethodName := ⟨RX1, "<init>", "()V"⟩
abbrev cX1_clear : ByteArray := prog_3_method_2_code
def yX1_clear : MethodName := ⟨RX1, "clear", "()V"⟩
abbrev cX1_takePlaces : ByteArray := prog_3_method_3_code
def yX1_takePlaces : MethodName := ⟨RX1, "takePlaces", "(I)Z"⟩
abbrev cX1_takeWay : ByteArray := prog_3_method_4_code
def yX1_takeWay : MethodName := ⟨RX1, "takeWay", "(III)Z"⟩
abbrev cX1_takeDoor : ByteArray := prog_3_method_5_code
def yX1_takeDoor : MethodName := ⟨RX1, "takeDoor", "(II)Z"⟩
abbrev cX1_takeBeast : ByteArray := prog_3_method_6_code
def yX1_takeBeast : MethodName := ⟨RX1, "takeBeast", "(III)Z"⟩
abbrev cX1_takeCarrots : ByteArray := prog_3_method_7_code
def yX1_takeCarrots : MethodName := ⟨RX1, "takeCarrots", "(II)Z"⟩
abbrev cX1_takeMare : ByteArray := prog_3_method_8_code
def yX1_takeMare : MethodName := ⟨RX1, "takeMare", "(I)Z"⟩
abbrev cX1_measure : ByteArray := prog_3_method_9_code
def yX1_measure : MethodName := ⟨RX1, "measure", "()V"⟩
abbrev cX1_lowestHop : ByteArray := prog_3_method_10_code
def yX1_lowestHop : MethodName := ⟨RX1, "lowestHop", "(II)I"⟩
abbrev cX1_pair : ByteArray := prog_3_method_11_code
def yX1_pair : MethodName := ⟨RX1, "pair", "(II)I"⟩
abbrev cX1_distance : ByteArray := prog_3_method_12_code
def yX1_distance : MethodName := ⟨RX1, "distance", "(II)I"⟩
abbrev cX1_lengthOf : ByteArray := prog_3_method_13_code
def yX1_lengthOf : MethodName := ⟨RX1, "lengthOf", "(II)I"⟩
abbrev cX1_isReached : ByteArray := prog_3_method_14_code
def yX1_isReached : MethodName := ⟨RX1, "isReached", "(II)Z"⟩
abbrev cX1_hop : ByteArray := prog_3_method_15_code
def yX1_hop : MethodName := ⟨RX1, "hop", "(II)I"⟩
abbrev cX1_ways : ByteArray := prog_3_method_16_code
def yX1_ways : MethodName := ⟨RX1, "ways", "()I"⟩
abbrev cX1_places : ByteArray := prog_3_method_17_code
def yX1_places : MethodName := ⟨RX1, "places", "()I"⟩
abbrev cX1_doors : ByteArray := prog_3_method_18_code
def yX1_doors : MethodName := ⟨RX1, "doors", "()I"⟩
abbrev cX1_beasts : ByteArray := prog_3_method_19_code
def yX1_beasts : MethodName := ⟨RX1, "beasts", "()I"⟩
abbrev cX1_hasPlace : ByteArray := prog_3_method_20_code
def yX1_hasPlace : MethodName := ⟨RX1, "hasPlace", "(I)Z"⟩
abbrev cX1_hasDoor : ByteArray := prog_3_method_21_code
def yX1_hasDoor : MethodName := ⟨RX1, "hasDoor", "(I)Z"⟩
abbrev cX1_hasBeast : ByteArray := prog_3_method_22_code
def yX1_hasBeast : MethodName := ⟨RX1, "hasBeast", "(I)Z"⟩
abbrev cX1_hasMare : ByteArray := prog_3_method_23_code
def yX1_hasMare : MethodName := ⟨RX1, "hasMare", "(I)Z"⟩
abbrev cX1_doorKind : ByteArray := prog_3_method_24_code
def yX1_doorKind : MethodName := ⟨RX1, "doorKind", "(I)I"⟩
abbrev cX1_doorPlace : ByteArray := prog_3_method_25_code
def yX1_doorPlace : MethodName := ⟨RX1, "doorPlace", "(I)I"⟩
abbrev cX1_kind : ByteArray := prog_3_method_26_code
def yX1_kind : MethodName := ⟨RX1, "kind", "(I)I"⟩
abbrev cX1_pace : ByteArray := prog_3_method_27_code
def yX1_pace : MethodName := ⟨RX1, "pace", "(I)I"⟩
abbrev cX1_firstMood : ByteArray := prog_3_method_28_code
def yX1_firstMood : MethodName := ⟨RX1, "firstMood", "(I)I"⟩
abbrev cX1_firstCarrots : ByteArray := prog_3_method_29_code
def yX1_firstCarrots : MethodName := ⟨RX1, "firstCarrots", "(I)I"⟩
def RX2 : String := "DonkeyVerdicts$Dealer"
def TX2 : u_T := fun k => match k with
  | 0 => ("DonkeyVerdicts$Dealer", "court", "LDonkeyVerdicts$Court;", true)
  | 1 => ("DonkeyVerdicts$Dealer", "trial", "LDonkeyVerdicts$Herd;", true)
  | 2 => ("DonkeyVerdicts$Dealer", "hand", "[I", true)
  | _ => ("DonkeyVerdicts$Dealer", "best", "[I", true)
def tyX2 : Nat → FieldType := fun k => match k with
  | 0 => .object "DonkeyVerdicts$Court"
  | 1 => .object "DonkeyVerdicts$Herd"
  | 2 => .array .int
  | _ => .array .int
abbrev wsX20 : List Cond := u_ws RX2 TX2 4
theorem nmX2 : ∀ a, a < 4 → ∀ b, b < 4 → a ≠ b → (TX2 a).2.1 ≠ (TX2 b).2.1 := by decide +kernel
theorem tyX2_ok : ∀ k, k < 4 → parseFieldDescriptor (TX2 k).2.2.1 = some (tyX2 k) := by decide +kernel
abbrev cX2_init : ByteArray := prog_4_method_1_code
def yX2_init : MethodName := ⟨RX2, "<init>", "(LDonkeyVerdicts$Court;)V"⟩
abbrev cX2_fewestHours : ByteArray := prog_4_method_2_code
def yX2_fewestHours : MethodName := ⟨RX2, "fewestHours", "(LDonkeyVerdicts$Herd;I)I"⟩
abbrev cX2_beastAt : ByteArray := prog_4_method_3_code
def yX2_beastAt : MethodName := ⟨RX2, "beastAt", "(I)I"⟩
abbrev cX2_pick : ByteArray := prog_4_method_4_code
def yX2_pick : MethodName := ⟨RX2, "pick", "(I)V"⟩
abbrev cX2_sendHand : ByteArray := prog_4_method_5_code
def yX2_sendHand : MethodName := ⟨RX2, "sendHand", "(LDonkeyVerdicts$Herd;I)Z"⟩
abbrev cX2_awaitHand : ByteArray := prog_4_method_6_code
def yX2_awaitHand : MethodName := ⟨RX2, "awaitHand", "(I)I"⟩
abbrev cX2_going : ByteArray := prog_4_method_7_code
def yX2_going : MethodName := ⟨RX2, "going", "()I"⟩
def RX3 : String := "DonkeyVerdicts$Foresight"
def TX3 : u_T := fun k => match k with
  | 0 => ("DonkeyVerdicts$Foresight", "court", "LDonkeyVerdicts$Court;", true)
  | _ => ("DonkeyVerdicts$Foresight", "trial", "LDonkeyVerdicts$Herd;", true)
def tyX3 : Nat → FieldType := fun k => match k with
  | 0 => .object "DonkeyVerdicts$Court"
  | _ => .object "DonkeyVerdicts$Herd"
abbrev wsX30 : List Cond := u_ws RX3 TX3 2
theorem nmX3 : ∀ a, a < 2 → ∀ b, b < 2 → a ≠ b → (TX3 a).2.1 ≠ (TX3 b).2.1 := by decide +kernel
theorem tyX3_ok : ∀ k, k < 2 → parseFieldDescriptor (TX3 k).2.2.1 = some (tyX3 k) := by decide +kernel
abbrev cX3_init : ByteArray := prog_5_method_1_code
def yX3_init : MethodName := ⟨RX3, "<init>", "(LDonkeyVerdicts$Court;)V"⟩
abbrev cX3_hoursTill : ByteArray := prog_5_method_2_code
def yX3_hoursTill : MethodName := ⟨RX3, "hoursTill", "(LDonkeyVerdicts$Herd;I)I"⟩
abbrev cX3_readOf : ByteArray := prog_5_method_3_code
def yX3_readOf : MethodName := ⟨RX3, "readOf", "(LDonkeyVerdicts$Herd;I)I"⟩
abbrev cX3_awaitBeast : ByteArray := prog_5_method_4_code
def yX3_awaitBeast : MethodName := ⟨RX3, "awaitBeast", "(I)I"⟩
abbrev cX3_trySending : ByteArray := prog_5_method_5_code
def yX3_trySending : MethodName := ⟨RX3, "trySending", "(LDonkeyVerdicts$Herd;III)Z"⟩
abbrev cX3_rightBeasts : ByteArray := prog_5_method_6_code
def yX3_rightBeasts : MethodName := ⟨RX3, "rightBeasts", "(LDonkeyVerdicts$Herd;II)I"⟩
abbrev cX3_soonestBeast : ByteArray := prog_5_method_7_code
def yX3_soonestBeast : MethodName := ⟨RX3, "soonestBeast", "(LDonkeyVerdicts$Herd;II)I"⟩
abbrev cX3_verdictsReadAs : ByteArray := prog_5_method_8_code
def yX3_verdictsReadAs : MethodName := ⟨RX3, "verdictsReadAs", "(LDonkeyVerdicts$Herd;III)I"⟩
abbrev cX3_luringPlace : ByteArray := prog_5_method_9_code
def yX3_luringPlace : MethodName := ⟨RX3, "luringPlace", "(LDonkeyVerdicts$Herd;I)I"⟩
abbrev cX3_hoursTillMeeting : ByteArray := prog_5_method_10_code
def yX3_hoursTillMeeting : MethodName := ⟨RX3, "hoursTillMeeting", "(LDonkeyVerdicts$Herd;II)I"⟩
abbrev cX3_afterYear : ByteArray := prog_5_method_11_code
def yX3_afterYear : MethodName := ⟨RX3, "afterYear", "(LDonkeyVerdicts$Herd;II)LDonkeyVerdicts$Herd;"⟩
abbrev cX3_drawOf : ByteArray := prog_5_method_12_code
def yX3_drawOf : MethodName := ⟨RX3, "drawOf", "(II)I"⟩
abbrev cX3_act : ByteArray := prog_5_method_13_code
def yX3_act : MethodName := ⟨RX3, "act", "(I)V"⟩
abbrev cX3_wrap : ByteArray := prog_5_method_14_code
def yX3_wrap : MethodName := ⟨RX3, "wrap", "(II)I"⟩
def RX4 : String := "DonkeyVerdicts$Herd"
def TX4 : u_T := fun k => match k with
  | 0 => ("DonkeyVerdicts$Herd", "court", "LDonkeyVerdicts$Court;", true)
  | _ => ("DonkeyVerdicts$Herd", "cells", "[I", true)
def tyX4 : Nat → FieldType := fun k => match k with
  | 0 => .object "DonkeyVerdicts$Court"
  | _ => .array .int
abbrev wsX40 : List Cond := u_ws RX4 TX4 2
theorem nmX4 : ∀ a, a < 2 → ∀ b, b < 2 → a ≠ b → (TX4 a).2.1 ≠ (TX4 b).2.1 := by decide +kernel
theorem tyX4_ok : ∀ k, k < 2 → parseFieldDescriptor (TX4 k).2.2.1 = some (tyX4 k) := by decide +kernel
abbrev cX4_init : ByteArray := prog_6_method_1_code
def yX4_init : MethodName := ⟨RX4, "<init>", "(LDonkeyVerdicts$Court;)V"⟩
abbrev cX4_copy : ByteArray := prog_6_method_2_code
def yX4_copy : MethodName := ⟨RX4, "copy", "(LDonkeyVerdicts$Herd;)V"⟩
abbrev cX4_get : ByteArray := prog_6_method_3_code
def yX4_get : MethodName := ⟨RX4, "get", "(II)I"⟩
abbrev cX4_set : ByteArray := prog_6_method_4_code
def yX4_set : MethodName := ⟨RX4, "set", "(III)V"⟩
abbrev cX4_carrotsIn : ByteArray := prog_6_method_5_code
def yX4_carrotsIn : MethodName := ⟨RX4, "carrotsIn", "(I)I"⟩
abbrev cX4_putCarrots : ByteArray := prog_6_method_6_code
def yX4_putCarrots : MethodName := ⟨RX4, "putCarrots", "(II)V"⟩
abbrev cX4_hours : ByteArray := prog_6_method_7_code
def yX4_hours : MethodName := ⟨RX4, "hours", "()I"⟩
abbrev cX4_gather : ByteArray := prog_6_method_8_code
def yX4_gather : MethodName := ⟨RX4, "gather", "()V"⟩
abbrev cX4_is : ByteArray := prog_6_method_9_code
def yX4_is : MethodName := ⟨RX4, "is", "(II)Z"⟩
abbrev cX4_carries : ByteArray := prog_6_method_10_code
def yX4_carries : MethodName := ⟨RX4, "carries", "(I)Z"⟩
abbrev cX4_isUnderWay : ByteArray := prog_6_method_11_code
def yX4_isUnderWay : MethodName := ⟨RX4, "isUnderWay", "(I)Z"⟩
abbrev cX4_isIn : ByteArray := prog_6_method_12_code
def yX4_isIn : MethodName := ⟨RX4, "isIn", "(II)Z"⟩
abbrev cX4_canBeSent : ByteArray := prog_6_method_13_code
def yX4_canBeSent : MethodName := ⟨RX4, "canBeSent", "(II)Z"⟩
abbrev cX4_dispatch : ByteArray := prog_6_method_14_code
def yX4_dispatch : MethodName := ⟨RX4, "dispatch", "(III)V"⟩
abbrev cX4_callHome : ByteArray := prog_6_method_15_code
def yX4_callHome : MethodName := ⟨RX4, "callHome", "(I)V"⟩
abbrev cX4_goOn : ByteArray := prog_6_method_16_code
def yX4_goOn : MethodName := ⟨RX4, "goOn", "(I)V"⟩
abbrev cX4_move : ByteArray := prog_6_method_17_code
def yX4_move : MethodName := ⟨RX4, "move", "(I)V"⟩
abbrev cX4_arrive : ByteArray := prog_6_method_18_code
def yX4_arrive : MethodName := ⟨RX4, "arrive", "(III)V"⟩
abbrev cX4_end : ByteArray := prog_6_method_19_code
def yX4_end : MethodName := ⟨RX4, "end", "(I)V"⟩
abbrev cX4_signOf : ByteArray := prog_6_method_20_code
def yX4_signOf : MethodName := ⟨RX4, "signOf", "(II)I"⟩
abbrev cX4_readOf : ByteArray := prog_6_method_21_code
def yX4_readOf : MethodName := ⟨RX4, "readOf", "(I)I"⟩
abbrev cX4_readOf_ : ByteArray := prog_6_method_22_code
def yX4_readOf_ : MethodName := ⟨RX4, "readOf", "(II)I"⟩
abbrev cX4_verdictsOfSign : ByteArray := prog_6_method_23_code
def yX4_verdictsOfSign : MethodName := ⟨RX4, "verdictsOfSign", "(II)I"⟩
abbrev cX4_placeAhead : ByteArray := prog_6_method_24_code
def yX4_placeAhead : MethodName := ⟨RX4, "placeAhead", "(II)I"⟩
abbrev cX4_beastsIn : ByteArray := prog_6_method_25_code
def yX4_beastsIn : MethodName := ⟨RX4, "beastsIn", "(I)I"⟩
abbrev cX4_amount : ByteArray := prog_6_method_26_code
def yX4_amount : MethodName := ⟨RX4, "amount", "(I)I"⟩
abbrev cX4_carrotsInAll : ByteArray := prog_6_method_27_code
def yX4_carrotsInAll : MethodName := ⟨RX4, "carrotsInAll", "()I"⟩
abbrev cX4_readInSum : ByteArray := prog_6_method_28_code
def yX4_readInSum : MethodName := ⟨RX4, "readInSum", "()I"⟩
def RX5 : String := "DonkeyVerdicts$Letters"
def TX5 : u_T := fun k => match k with
  | 0 => ("DonkeyVerdicts$Letters", "signs", "[C", true)
  | _ => ("DonkeyVerdicts$Letters", "length", "I", false)
def tyX5 : Nat → FieldType := fun k => match k with
  | 0 => .array .char
  | _ => .int
abbrev wsX50 : List Cond := u_ws RX5 TX5 2
theorem nmX5 : ∀ a, a < 2 → ∀ b, b < 2 → a ≠ b → (TX5 a).2.1 ≠ (TX5 b).2.1 := by decide +kernel
theorem tyX5_ok : ∀ k, k < 2 → parseFieldDescriptor (TX5 k).2.2.1 = some (tyX5 k) := by decide +kernel
abbrev cX5_init : ByteArray := prog_7_method_1_code
def yX5_init : MethodName := ⟨RX5, "<init>", "()V"⟩
abbrev cX5_add : ByteArray := prog_7_method_2_code
def yX5_add : MethodName := ⟨RX5, "add", "(C)Z"⟩
abbrev cX5_at : ByteArray := prog_7_method_3_code
def yX5_at : MethodName := ⟨RX5, "at", "(I)C"⟩
abbrev cX5_length : ByteArray := prog_7_method_4_code
def yX5_length : MethodName := ⟨RX5, "length", "()I"⟩
abbrev cX5_clear : ByteArray := prog_7_method_5_code
def yX5_clear : MethodName := ⟨RX5, "clear", "()V"⟩
def RX6 : String := "DonkeyVerdicts$Rows"
def TX6 : u_T := fun k => match k with
  | _ => ("", "", "", false)
def tyX6 : Nat → FieldType := fun k => match k with
  | _ => .int
abbrev wsX60 : List Cond := u_ws RX6 TX6 0
theorem nmX6 : ∀ a, a < 0 → ∀ b, b < 0 → a ≠ b → (TX6 a).2.1 ≠ (TX6 b).2.1 := by decide +kernel
theorem tyX6_ok : ∀ k, k < 0 → parseFieldDescriptor (TX6 k).2.2.1 = some (tyX6 k) := by decide +kernel
abbrev cX6_at : ByteArray := prog_8_method_2_code
def yX6_at : MethodName := ⟨RX6, "at", "([II)I"⟩
abbrev cX6_put : ByteArray := prog_8_method_3_code
def yX6_put : MethodName := ⟨RX6, "put", "([III)V"⟩
abbrev cX6_clear : ByteArray := prog_8_method_4_code
def yX6_clear : MethodName := ⟨RX6, "clear", "([I)V"⟩
def RX7 : String := "DonkeyVerdicts$Scribe"
def TX7 : u_T := fun k => match k with
  | 0 => ("DonkeyVerdicts$Scribe", "numbers", "[I", true)
  | 1 => ("DonkeyVerdicts$Scribe", "amount", "I", false)
  | _ => ("DonkeyVerdicts$Scribe", "behind", "I", false)
def tyX7 : Nat → FieldType := fun k => match k with
  | 0 => .array .int
  | 1 => .int
  | _ => .int
abbrev wsX70 : List Cond := u_ws RX7 TX7 3
theorem nmX7 : ∀ a, a < 3 → ∀ b, b < 3 → a ≠ b → (TX7 a).2.1 ≠ (TX7 b).2.1 := by decide +kernel
theorem tyX7_ok : ∀ k, k < 3 → parseFieldDescriptor (TX7 k).2.2.1 = some (tyX7 k) := by decide +kernel
abbrev cX7_init : ByteArray := prog_9_method_1_code
def yX7_init : MethodName := ⟨RX7, "<init>", "()V"⟩
abbrev cX7_firstFault : ByteArray := prog_9_method_2_code
def yX7_firstFault : MethodName := ⟨RX7, "firstFault", "(LDonkeyVerdicts$Letters;LDonkeyVerdicts$Court;)I"⟩
abbrev cX7_split : ByteArray := prog_9_method_3_code
def yX7_split : MethodName := ⟨RX7, "split", "(LDonkeyVerdicts$Letters;I)Z"⟩
abbrev cX7_take : ByteArray := prog_9_method_4_code
def yX7_take : MethodName := ⟨RX7, "take", "(CLDonkeyVerdicts$Court;)Z"⟩
def RX8 : String := "DonkeyVerdicts$Shelf"
def TX8 : u_T := fun k => match k with
  | 0 => ("DonkeyVerdicts$Shelf", "herds", "[LDonkeyVerdicts$Herd;", true)
  | 1 => ("DonkeyVerdicts$Shelf", "top", "I", false)
  | _ => ("DonkeyVerdicts$Shelf", "size", "I", false)
def tyX8 : Nat → FieldType := fun k => match k with
  | 0 => .array (.object "DonkeyVerdicts$Herd")
  | 1 => .int
  | _ => .int
abbrev wsX80 : List Cond := u_ws RX8 TX8 3
theorem nmX8 : ∀ a, a < 3 → ∀ b, b < 3 → a ≠ b → (TX8 a).2.1 ≠ (TX8 b).2.1 := by decide +kernel
theorem tyX8_ok : ∀ k, k < 3 → parseFieldDescriptor (TX8 k).2.2.1 = some (tyX8 k) := by decide +kernel
abbrev cX8_init : ByteArray := prog_10_method_1_code
def yX8_init : MethodName := ⟨RX8, "<init>", "(LDonkeyVerdicts$Court;I)V"⟩
abbrev cX8_size : ByteArray := prog_10_method_2_code
def yX8_size : MethodName := ⟨RX8, "size", "()I"⟩
abbrev cX8_clear : ByteArray := prog_10_method_3_code
def yX8_clear : MethodName := ⟨RX8, "clear", "()V"⟩
abbrev cX8_push : ByteArray := prog_10_method_4_code
def yX8_push : MethodName := ⟨RX8, "push", "(LDonkeyVerdicts$Herd;)V"⟩
abbrev cX8_pop : ByteArray := prog_10_method_5_code
def yX8_pop : MethodName := ⟨RX8, "pop", "(LDonkeyVerdicts$Herd;)Z"⟩
def RX9 : String := "DonkeyVerdicts"
def TX9 : u_T := fun k => match k with
  | 0 => ("DonkeyVerdicts", "text", "LDonkeyVerdicts$Letters;", true)
  | 1 => ("DonkeyVerdicts", "scribe", "LDonkeyVerdicts$Scribe;", true)
  | 2 => ("DonkeyVerdicts", "court", "LDonkeyVerdicts$Court;", true)
  | 3 => ("DonkeyVerdicts", "draft", "LDonkeyVerdicts$Court;", true)
  | 4 => ("DonkeyVerdicts", "now", "LDonkeyVerdicts$Herd;", true)
  | 5 => ("DonkeyVerdicts", "past", "LDonkeyVerdicts$Shelf;", true)
  | 6 => ("DonkeyVerdicts", "kept", "LDonkeyVerdicts$Shelf;", true)
  | 7 => ("DonkeyVerdicts", "foresight", "LDonkeyVerdicts$Foresight;", true)
  | 8 => ("DonkeyVerdicts", "dealer", "LDonkeyVerdicts$Dealer;", true)
  | _ => ("DonkeyVerdicts", "balking", "LDonkeyVerdicts$Balking;", true)
def tyX9 : Nat → FieldType := fun k => match k with
  | 0 => .object "DonkeyVerdicts$Letters"
  | 1 => .object "DonkeyVerdicts$Scribe"
  | 2 => .object "DonkeyVerdicts$Court"
  | 3 => .object "DonkeyVerdicts$Court"
  | 4 => .object "DonkeyVerdicts$Herd"
  | 5 => .object "DonkeyVerdicts$Shelf"
  | 6 => .object "DonkeyVerdicts$Shelf"
  | 7 => .object "DonkeyVerdicts$Foresight"
  | 8 => .object "DonkeyVerdicts$Dealer"
  | _ => .object "DonkeyVerdicts$Balking"
abbrev wsX90 : List Cond := u_ws RX9 TX9 10
theorem nmX9 : ∀ a, a < 10 → ∀ b, b < 10 → a ≠ b → (TX9 a).2.1 ≠ (TX9 b).2.1 := by decide +kernel
theorem tyX9_ok : ∀ k, k < 10 → parseFieldDescriptor (TX9 k).2.2.1 = some (tyX9 k) := by decide +kernel
abbrev cX9_init : ByteArray := prog_1_method_1_code
def yX9_init : MethodName := ⟨RX9, "<init>", "()V"⟩
abbrev cX9_write : ByteArray := prog_1_method_2_code
def yX9_write : MethodName := ⟨RX9, "write", "(I)I"⟩
abbrev cX9_wipe : ByteArray := prog_1_method_3_code
def yX9_wipe : MethodName := ⟨RX9, "wipe", "()I"⟩
abbrev cX9_fault : ByteArray := prog_1_method_4_code
def yX9_fault : MethodName := ⟨RX9, "fault", "()I"⟩
abbrev cX9_lay : ByteArray := prog_1_method_5_code
def yX9_lay : MethodName := ⟨RX9, "lay", "()I"⟩
abbrev cX9_place : ByteArray := prog_1_method_6_code
def yX9_place : MethodName := ⟨RX9, "place", "(II)I"⟩
abbrev cX9_way : ByteArray := prog_1_method_7_code
def yX9_way : MethodName := ⟨RX9, "way", "(II)I"⟩
abbrev cX9_door : ByteArray := prog_1_method_8_code
def yX9_door : MethodName := ⟨RX9, "door", "(II)I"⟩
abbrev cX9_beast : ByteArray := prog_1_method_9_code
def yX9_beast : MethodName := ⟨RX9, "beast", "(II)I"⟩
abbrev cX9_sign : ByteArray := prog_1_method_10_code
def yX9_sign : MethodName := ⟨RX9, "sign", "(II)I"⟩
abbrev cX9_send : ByteArray := prog_1_method_11_code
def yX9_send : MethodName := ⟨RX9, "send", "(III)I"⟩
abbrev cX9_pass : ByteArray := prog_1_method_12_code
def yX9_pass : MethodName := ⟨RX9, "pass", "(I)I"⟩
abbrev cX9_home : ByteArray := prog_1_method_13_code
def yX9_home : MethodName := ⟨RX9, "home", "(I)I"⟩
abbrev cX9_carrots : ByteArray := prog_1_method_14_code
def yX9_carrots : MethodName := ⟨RX9, "carrots", "(II)I"⟩
abbrev cX9_undo : ByteArray := prog_1_method_15_code
def yX9_undo : MethodName := ⟨RX9, "undo", "()I"⟩
abbrev cX9_arrives : ByteArray := prog_1_method_16_code
def yX9_arrives : MethodName := ⟨RX9, "arrives", "(I)I"⟩
abbrev cX9_reading : ByteArray := prog_1_method_17_code
def yX9_reading : MethodName := ⟨RX9, "reading", "(I)I"⟩
abbrev cX9_right : ByteArray := prog_1_method_18_code
def yX9_right : MethodName := ⟨RX9, "right", "(II)I"⟩
abbrev cX9_soonest : ByteArray := prog_1_method_19_code
def yX9_soonest : MethodName := ⟨RX9, "soonest", "(II)I"⟩
abbrev cX9_tell : ByteArray := prog_1_method_20_code
def yX9_tell : MethodName := ⟨RX9, "tell", "(III)I"⟩
abbrev cX9_deal : ByteArray := prog_1_method_21_code
def yX9_deal : MethodName := ⟨RX9, "deal", "(II)I"⟩
abbrev cX9_lure : ByteArray := prog_1_method_22_code
def yX9_lure : MethodName := ⟨RX9, "lure", "(I)I"⟩
abbrev cX9_next : ByteArray := prog_1_method_23_code
def yX9_next : MethodName := ⟨RX9, "next", "(II)I"⟩
abbrev cX9_meet : ByteArray := prog_1_method_24_code
def yX9_meet : MethodName := ⟨RX9, "meet", "(II)I"⟩
abbrev cX9_told : ByteArray := prog_1_method_25_code
def yX9_told : MethodName := ⟨RX9, "told", "(II)I"⟩
abbrev cX9_who : ByteArray := prog_1_method_26_code
def yX9_who : MethodName := ⟨RX9, "who", "(III)I"⟩
abbrev cX9_balks : ByteArray := prog_1_method_27_code
def yX9_balks : MethodName := ⟨RX9, "balks", "(IIII)I"⟩
abbrev cX9_year : ByteArray := prog_1_method_28_code
def yX9_year : MethodName := ⟨RX9, "year", "(III)I"⟩
abbrev cX9_keep : ByteArray := prog_1_method_29_code
def yX9_keep : MethodName := ⟨RX9, "keep", "()I"⟩
abbrev cX9_back : ByteArray := prog_1_method_30_code
def yX9_back : MethodName := ⟨RX9, "back", "()I"⟩
abbrev cX9_count : ByteArray := prog_1_method_31_code
def yX9_count : MethodName := ⟨RX9, "count", "(I)I"⟩
abbrev cX9_isVerdict : ByteArray := prog_1_method_32_code
def yX9_isVerdict : MethodName := ⟨RX9, "isVerdict", "(I)Z"⟩
abbrev cX9_lowestBit : ByteArray := prog_1_method_33_code
def yX9_lowestBit : MethodName := ⟨RX9, "lowestBit", "(I)I"⟩
abbrev cX9_open : ByteArray := prog_1_method_34_code
def yX9_open : MethodName := ⟨RX9, "open", "()V"⟩
def RX10 : String := "DonkeyVerdictsModel"
def TX10 : u_T := fun k => match k with
  | 0 => ("DonkeyVerdictsModel", "places", "I", false)
  | 1 => ("DonkeyVerdictsModel", "ways", "[I", true)
  | 2 => ("DonkeyVerdictsModel", "far", "[I", true)
  | 3 => ("DonkeyVerdictsModel", "mares", "I", false)
  | 4 => ("DonkeyVerdictsModel", "doors", "I", false)
  | 5 => ("DonkeyVerdictsModel", "doorKind", "[I", true)
  | 6 => ("DonkeyVerdictsModel", "doorPlace", "[I", true)
  | 7 => ("DonkeyVerdictsModel", "beasts", "I", false)
  | 8 => ("DonkeyVerdictsModel", "sort", "[I", true)
  | 9 => ("DonkeyVerdictsModel", "pace", "[I", true)
  | 10 => ("DonkeyVerdictsModel", "newPlaces", "I", false)
  | 11 => ("DonkeyVerdictsModel", "newWays", "[I", true)
  | 12 => ("DonkeyVerdictsModel", "newMares", "I", false)
  | 13 => ("DonkeyVerdictsModel", "newDoors", "I", false)
  | 14 => ("DonkeyVerdictsModel", "newDoorKind", "[I", true)
  | 15 => ("DonkeyVerdictsModel", "newDoorPlace", "[I", true)
  | 16 => ("DonkeyVerdictsModel", "newBeasts", "I", false)
  | 17 => ("DonkeyVerdictsModel", "newSort", "[I", true)
  | 18 => ("DonkeyVerdictsModel", "newPace", "[I", true)
  | 19 => ("DonkeyVerdictsModel", "slot", "[I", true)
  | 20 => ("DonkeyVerdictsModel", "acts", "I", false)
  | 21 => ("DonkeyVerdictsModel", "keeps", "I", false)
  | 22 => ("DonkeyVerdictsModel", "length", "I", false)
  | 23 => ("DonkeyVerdictsModel", "text", "[B", true)
  | 24 => ("DonkeyVerdictsModel", "at", "I", false)
  | 25 => ("DonkeyVerdictsModel", "begin", "I", false)
  | 26 => ("DonkeyVerdictsModel", "isWrong", "Z", false)
  | 27 => ("DonkeyVerdictsModel", "stoodAt", "[I", true)
  | 28 => ("DonkeyVerdictsModel", "dealt", "[I", true)
  | _ => ("DonkeyVerdictsModel", "best", "[I", true)
def tyX10 : Nat → FieldType := fun k => match k with
  | 0 => .int
  | 1 => .array .int
  | 2 => .array .int
  | 3 => .int
  | 4 => .int
  | 5 => .array .int
  | 6 => .array .int
  | 7 => .int
  | 8 => .array .int
  | 9 => .array .int
  | 10 => .int
  | 11 => .array .int
  | 12 => .int
  | 13 => .int
  | 14 => .array .int
  | 15 => .array .int
  | 16 => .int
  | 17 => .array .int
  | 18 => .array .int
  | 19 => .array .int
  | 20 => .int
  | 21 => .int
  | 22 => .int
  | 23 => .array .byte
  | 24 => .int
  | 25 => .int
  | 26 => .boolean
  | 27 => .array .int
  | 28 => .array .int
  | _ => .array .int
abbrev wsX100 : List Cond := u_ws RX10 TX10 30
theorem nmX10 : ∀ a, a < 30 → ∀ b, b < 30 → a ≠ b → (TX10 a).2.1 ≠ (TX10 b).2.1 := by decide +kernel
theorem tyX10_ok : ∀ k, k < 30 → parseFieldDescriptor (TX10 k).2.2.1 = some (tyX10 k) := by decide +kernel
abbrev cX10_init : ByteArray := prog_12_method_1_code
def yX10_init : MethodName := ⟨RX10, "<init>", "()V"⟩
abbrev cX10_in : ByteArray := prog_12_method_2_code
def yX10_in : MethodName := ⟨RX10, "in", "(JJJ)Z"⟩
abbrev cX10_has : ByteArray := prog_12_method_3_code
def yX10_has : MethodName := ⟨RX10, "has", "(II)Z"⟩
abbrev cX10_smaller : ByteArray := prog_12_method_4_code
def yX10_smaller : MethodName := ⟨RX10, "smaller", "(II)I"⟩
abbrev cX10_larger : ByteArray := prog_12_method_5_code
def yX10_larger : MethodName := ⟨RX10, "larger", "(II)I"⟩
abbrev cX10_clears : ByteArray := prog_12_method_6_code
def yX10_clears : MethodName := ⟨RX10, "clears", "()V"⟩
abbrev cX10_leads : ByteArray := prog_12_method_7_code
def yX10_leads : MethodName := ⟨RX10, "leads", "(III)V"⟩
abbrev cX10_opens : ByteArray := prog_12_method_8_code
def yX10_opens : MethodName := ⟨RX10, "opens", "(II)V"⟩
abbrev cX10_comes : ByteArray := prog_12_method_9_code
def yX10_comes : MethodName := ⟨RX10, "comes", "(III)V"⟩
abbrev cX10_settles : ByteArray := prog_12_method_10_code
def yX10_settles : MethodName := ⟨RX10, "settles", "()V"⟩
abbrev cX10_copies : ByteArray := prog_12_method_11_code
def yX10_copies : MethodName := ⟨RX10, "copies", "(II)V"⟩
abbrev cX10_isPlace : ByteArray := prog_12_method_12_code
def yX10_isPlace : MethodName := ⟨RX10, "isPlace", "(I)Z"⟩
abbrev cX10_isDoor : ByteArray := prog_12_method_13_code
def yX10_isDoor : MethodName := ⟨RX10, "isDoor", "(I)Z"⟩
abbrev cX10_isBeast : ByteArray := prog_12_method_14_code
def yX10_isBeast : MethodName := ⟨RX10, "isBeast", "(I)Z"⟩
abbrev cX10_write : ByteArray := prog_12_method_15_code
def yX10_write : MethodName := ⟨RX10, "write", "(I)I"⟩
abbrev cX10_wipe : ByteArray := prog_12_method_16_code
def yX10_wipe : MethodName := ⟨RX10, "wipe", "()I"⟩
abbrev cX10_byteNow : ByteArray := prog_12_method_17_code
def yX10_byteNow : MethodName := ⟨RX10, "byteNow", "()I"⟩
abbrev cX10_number : ByteArray := prog_12_method_18_code
def yX10_number : MethodName := ⟨RX10, "number", "(II)I"⟩
abbrev cX10_more : ByteArray := prog_12_method_19_code
def yX10_more : MethodName := ⟨RX10, "more", "(II)I"⟩
abbrev cX10_wayItem : ByteArray := prog_12_method_20_code
def yX10_wayItem : MethodName := ⟨RX10, "wayItem", "()V"⟩
abbrev cX10_doorItem : ByteArray := prog_12_method_21_code
def yX10_doorItem : MethodName := ⟨RX10, "doorItem", "()V"⟩
abbrev cX10_beastItem : ByteArray := prog_12_method_22_code
def yX10_beastItem : MethodName := ⟨RX10, "beastItem", "()V"⟩
abbrev cX10_item : ByteArray := prog_12_method_23_code
def yX10_item : MethodName := ⟨RX10, "item", "(IZ)Z"⟩
abbrev cX10_reads : ByteArray := prog_12_method_24_code
def yX10_reads : MethodName := ⟨RX10, "reads", "()Z"⟩
abbrev cX10_fault : ByteArray := prog_12_method_25_code
def yX10_fault : MethodName := ⟨RX10, "fault", "()I"⟩
abbrev cX10_lay : ByteArray := prog_12_method_26_code
def yX10_lay : MethodName := ⟨RX10, "lay", "()I"⟩
abbrev cX10_standing : ByteArray := prog_12_method_27_code
def yX10_standing : MethodName := ⟨RX10, "standing", "(II)I"⟩
abbrev cX10_place : ByteArray := prog_12_method_28_code
def yX10_place : MethodName := ⟨RX10, "place", "(II)I"⟩
abbrev cX10_way : ByteArray := prog_12_method_29_code
def yX10_way : MethodName := ⟨RX10, "way", "(II)I"⟩
abbrev cX10_door : ByteArray := prog_12_method_30_code
def yX10_door : MethodName := ⟨RX10, "door", "(II)I"⟩
abbrev cX10_beast : ByteArray := prog_12_method_31_code
def yX10_beast : MethodName := ⟨RX10, "beast", "(II)I"⟩
abbrev cX10_signBy : ByteArray := prog_12_method_32_code
def yX10_signBy : MethodName := ⟨RX10, "signBy", "(III)I"⟩
abbrev cX10_read : ByteArray := prog_12_method_33_code
def yX10_read : MethodName := ⟨RX10, "read", "(II)I"⟩
abbrev cX10_isOut : ByteArray := prog_12_method_34_code
def yX10_isOut : MethodName := ⟨RX10, "isOut", "(I)Z"⟩
abbrev cX10_sign : ByteArray := prog_12_method_35_code
def yX10_sign : MethodName := ⟨RX10, "sign", "(II)I"⟩
abbrev cX10_known : ByteArray := prog_12_method_36_code
def yX10_known : MethodName := ⟨RX10, "known", "()V"⟩
abbrev cX10_canSend : ByteArray := prog_12_method_37_code
def yX10_canSend : MethodName := ⟨RX10, "canSend", "(III)Z"⟩
abbrev cX10_sends : ByteArray := prog_12_method_38_code
def yX10_sends : MethodName := ⟨RX10, "sends", "(IIII)V"⟩
abbrev cX10_goal : ByteArray := prog_12_method_39_code
def yX10_goal : MethodName := ⟨RX10, "goal", "(II)I"⟩
abbrev cX10_nextOn : ByteArray := prog_12_method_40_code
def yX10_nextOn : MethodName := ⟨RX10, "nextOn", "(II)I"⟩
abbrev cX10_settlesAt : ByteArray := prog_12_method_41_code
def yX10_settlesAt : MethodName := ⟨RX10, "settlesAt", "(II)V"⟩
abbrev cX10_arrivesIn : ByteArray := prog_12_method_42_code
def yX10_arrivesIn : MethodName := ⟨RX10, "arrivesIn", "(II)V"⟩
abbrev cX10_goesOn : ByteArray := prog_12_method_43_code
def yX10_goesOn : MethodName := ⟨RX10, "goesOn", "(II)V"⟩
abbrev cX10_hour : ByteArray := prog_12_method_44_code
def yX10_hour : MethodName := ⟨RX10, "hour", "(II)V"⟩
abbrev cX10_send : ByteArray := prog_12_method_45_code
def yX10_send : MethodName := ⟨RX10, "send", "(III)I"⟩
abbrev cX10_pass : ByteArray := prog_12_method_46_code
def yX10_pass : MethodName := ⟨RX10, "pass", "(I)I"⟩
abbrev cX10_goesHome : ByteArray := prog_12_method_47_code
def yX10_goesHome : MethodName := ⟨RX10, "goesHome", "(II)V"⟩
abbrev cX10_home : ByteArray := prog_12_method_48_code
def yX10_home : MethodName := ⟨RX10, "home", "(I)I"⟩
abbrev cX10_carrots : ByteArray := prog_12_method_49_code
def yX10_carrots : MethodName := ⟨RX10, "carrots", "(II)I"⟩
abbrev cX10_undo : ByteArray := prog_12_method_50_code
def yX10_undo : MethodName := ⟨RX10, "undo", "()I"⟩
abbrev cX10_standsBehind : ByteArray := prog_12_method_51_code
def yX10_standsBehind : MethodName := ⟨RX10, "standsBehind", "(I)I"⟩
abbrev cX10_arrives : ByteArray := prog_12_method_52_code
def yX10_arrives : MethodName := ⟨RX10, "arrives", "(I)I"⟩
abbrev cX10_readThen : ByteArray := prog_12_method_53_code
def yX10_readThen : MethodName := ⟨RX10, "readThen", "(I)I"⟩
abbrev cX10_reading : ByteArray := prog_12_method_54_code
def yX10_reading : MethodName := ⟨RX10, "reading", "(I)I"⟩
abbrev cX10_readSent : ByteArray := prog_12_method_55_code
def yX10_readSent : MethodName := ⟨RX10, "readSent", "(III)I"⟩
abbrev cX10_right : ByteArray := prog_12_method_56_code
def yX10_right : MethodName := ⟨RX10, "right", "(II)I"⟩
abbrev cX10_soonest : ByteArray := prog_12_method_57_code
def yX10_soonest : MethodName := ⟨RX10, "soonest", "(II)I"⟩
abbrev cX10_tell : ByteArray := prog_12_method_58_code
def yX10_tell : MethodName := ⟨RX10, "tell", "(III)I"⟩
abbrev cX10_dealsSum : ByteArray := prog_12_method_59_code
def yX10_dealsSum : MethodName := ⟨RX10, "dealsSum", "(I)I"⟩
abbrev cX10_deal : ByteArray := prog_12_method_60_code
def yX10_deal : MethodName := ⟨RX10, "deal", "(II)I"⟩
abbrev cX10_lure : ByteArray := prog_12_method_61_code
def yX10_lure : MethodName := ⟨RX10, "lure", "(I)I"⟩
abbrev cX10_next : ByteArray := prog_12_method_62_code
def yX10_next : MethodName := ⟨RX10, "next", "(II)I"⟩
abbrev cX10_meet : ByteArray := prog_12_method_63_code
def yX10_meet : MethodName := ⟨RX10, "meet", "(II)I"⟩
abbrev cX10_told : ByteArray := prog_12_method_64_code
def yX10_told : MethodName := ⟨RX10, "told", "(II)I"⟩
abbrev cX10_who : ByteArray := prog_12_method_65_code
def yX10_who : MethodName := ⟨RX10, "who", "(III)I"⟩
abbrev cX10_balks : ByteArray := prog_12_method_66_code
def yX10_balks : MethodName := ⟨RX10, "balks", "(IIII)I"⟩
abbrev cX10_does : ByteArray := prog_12_method_67_code
def yX10_does : MethodName := ⟨RX10, "does", "(II)V"⟩
abbrev cX10_year : ByteArray := prog_12_method_68_code
def yX10_year : MethodName := ⟨RX10, "year", "(III)I"⟩
abbrev cX10_keep : ByteArray := prog_12_method_69_code
def yX10_keep : MethodName := ⟨RX10, "keep", "()I"⟩
abbrev cX10_back : ByteArray := prog_12_method_70_code
def yX10_back : MethodName := ⟨RX10, "back", "()I"⟩
abbrev cX10_many : ByteArray := prog_12_method_71_code
def yX10_many : MethodName := ⟨RX10, "many", "(I)I"⟩
abbrev cX10_allWays : ByteArray := prog_12_method_72_code
def yX10_allWays : MethodName := ⟨RX10, "allWays", "()I"⟩
abbrev cX10_allCarrots : ByteArray := prog_12_method_73_code
def yX10_allCarrots : MethodName := ⟨RX10, "allCarrots", "()I"⟩
abbrev cX10_count : ByteArray := prog_12_method_74_code
def yX10_count : MethodName := ⟨RX10, "count", "(I)I"⟩
def RJ6 : String := "java/lang/Integer"
def TJ6 : u_T := fun k => match k with
  | _ => ("", "", "", false)
def tyJ6 : Nat → FieldType := fun k => match k with
  | _ => .int
abbrev wsJ60 : List Cond := u_ws RJ6 TJ6 0
theorem nmJ6 : ∀ a, a < 0 → ∀ b, b < 0 → a ≠ b → (TJ6 a).2.1 ≠ (TJ6 b).2.1 := by decide +kernel
theorem tyJ6_ok : ∀ k, k < 0 → parseFieldDescriptor (TJ6 k).2.2.1 = some (tyJ6 k) := by decide +kernel
abbrev cJ6_bitCount_0f7a4 : ByteArray := prog_13_method_49_code
def yJ6_bitCount_0f7a4 : MethodName := ⟨RJ6, "bitCount", "(I)I"⟩
def RJ9 : String := "java/lang/Math"
def TJ9 : u_T := fun k => match k with
  | _ => ("", "", "", false)
def tyJ9 : Nat → FieldType := fun k => match k with
  | _ => .int
abbrev wsJ90 : List Cond := u_ws RJ9 TJ9 0
theorem nmJ9 : ∀ a, a < 0 → ∀ b, b < 0 → a ≠ b → (TJ9 a).2.1 ≠ (TJ9 b).2.1 := by decide +kernel
theorem tyJ9_ok : ∀ k, k < 0 → parseFieldDescriptor (TJ9 k).2.2.1 = some (tyJ9 k) := by decide +kernel
abbrev cJ9_max_7cf53 : ByteArray := prog_14_method_65_code
def yJ9_max_7cf53 : MethodName := ⟨RJ9, "max", "(II)I"⟩
abbrev cJ9_min_7cf53 : ByteArray := prog_14_method_69_code
def yJ9_min_7cf53 : MethodName := ⟨RJ9, "min", "(II)I"⟩
def RJ0 : String := "java/lang/String"
def TJ0 : u_T := fun k => match k with
  | _ => ("", "", "", false)
def tyJ0 : Nat → FieldType := fun k => match k with
  | _ => .int
abbrev wsJ00 : List Cond := u_ws RJ0 TJ0 0
theorem nmJ0 : ∀ a, a < 0 → ∀ b, b < 0 → a ≠ b → (TJ0 a).2.1 ≠ (TJ0 b).2.1 := by decide +kernel
theorem tyJ0_ok : ∀ k, k < 0 → parseFieldDescriptor (TJ0 k).2.2.1 = some (tyJ0 k) := by decide +kernel
abbrev cJ0_length_8abf5 : ByteArray := prog_15_method_54_code
def yJ0_length_8abf5 : MethodName := ⟨RJ0, "length", "()I"⟩
abbrev cJ0_charAt_5068e : ByteArray := prog_15_method_56_code
def yJ0_charAt_5068e : MethodName := ⟨RJ0, "charAt", "(I)C"⟩
abbrev cJ0_coder_7d493 : ByteArray := prog_15_method_152_code
def yJ0_coder_7d493 : MethodName := ⟨RJ0, "coder", "()B"⟩
abbrev cJ0_isLatin1_aae02 : ByteArray := prog_15_method_154_code
def yJ0_isLatin1_aae02 : MethodName := ⟨RJ0, "isLatin1", "()Z"⟩
abbrev cJ0_checkIndex_df160 : ByteArray := prog_15_method_155_code
def yJ0_checkIndex_df160 : MethodName := ⟨RJ0, "checkIndex", "(II)V"⟩
def RJ1 : String := "java/lang/StringLatin1"
def TJ1 : u_T := fun k => match k with
  | _ => ("", "", "", false)
def tyJ1 : Nat → FieldType := fun k => match k with
  | _ => .int
abbrev wsJ10 : List Cond := u_ws RJ1 TJ1 0
theorem nmJ1 : ∀ a, a < 0 → ∀ b, b < 0 → a ≠ b → (TJ1 a).2.1 ≠ (TJ1 b).2.1 := by decide +kernel
theorem tyJ1_ok : ∀ k, k < 0 → parseFieldDescriptor (TJ1 k).2.2.1 = some (tyJ1 k) := by decide +kernel
abbrev cJ1_charAt_3b067 : ByteArray := prog_16_method_2_code
def yJ1_charAt_3b067 : MethodName := ⟨RJ1, "charAt", "([BI)C"⟩
def RJ2 : String := "java/lang/StringUTF16"
def TJ2 : u_T := fun k => match k with
  | _ => ("", "", "", false)
def tyJ2 : Nat → FieldType := fun k => match k with
  | _ => .int
abbrev wsJ20 : List Cond := u_ws RJ2 TJ2 0
theorem nmJ2 : ∀ a, a < 0 → ∀ b, b < 0 → a ≠ b → (TJ2 a).2.1 ≠ (TJ2 b).2.1 := by decide +kernel
theorem tyJ2_ok : ∀ k, k < 0 → parseFieldDescriptor (TJ2 k).2.2.1 = some (tyJ2 k) := by decide +kernel
abbrev cJ2_getChar_3b067 : ByteArray := prog_17_method_5_code
def yJ2_getChar_3b067 : MethodName := ⟨RJ2, "getChar", "([BI)C"⟩
abbrev cJ2_length_9d52b : ByteArray := prog_17_method_6_code
def yJ2_length_9d52b : MethodName := ⟨RJ2, "length", "([B)I"⟩
abbrev cJ2_charAt_3b067 : ByteArray := prog_17_method_83_code
def yJ2_charAt_3b067 : MethodName := ⟨RJ2, "charAt", "([BI)C"⟩
abbrev cJ2_checkIndex_2214a : ByteArray := prog_17_method_91_code
def yJ2_checkIndex_2214a : MethodName := ⟨RJ2, "checkIndex", "(I[B)V"⟩
def RJ10 : String := "java/lang/System"
def TJ10 : u_T := fun k => match k with
  | _ => ("", "", "", false)
def tyJ10 : Nat → FieldType := fun k => match k with
  | _ => .int
abbrev wsJ100 : List Cond := u_ws RJ10 TJ10 0
theorem nmJ10 : ∀ a, a < 0 → ∀ b, b < 0 → a ≠ b → (TJ10 a).2.1 ≠ (TJ10 b).2.1 := by decide +kernel
theorem tyJ10_ok : ∀ k, k < 0 → parseFieldDescriptor (TJ10 k).2.2.1 = some (tyJ10 k) := by decide +kernel
def RJ3 : String := "jdk/internal/util/Preconditions"
def TJ3 : u_T := fun k => match k with
  | _ => ("", "", "", false)
def tyJ3 : Nat → FieldType := fun k => match k with
  | _ => .int
abbrev wsJ30 : List Cond := u_ws RJ3 TJ3 0
theorem nmJ3 : ∀ a, a < 0 → ∀ b, b < 0 → a ≠ b → (TJ3 a).2.1 ≠ (TJ3 b).2.1 := by decide +kernel
theorem tyJ3_ok : ∀ k, k < 0 → parseFieldDescriptor (TJ3 k).2.2.1 = some (tyJ3 k) := by decide +kernel
abbrev cJ3_checkIndex_8e157 : ByteArray := prog_19_method_11_code
def yJ3_checkIndex_8e157 : MethodName := ⟨RJ3, "checkIndex", "(IILjava/util/function/BiFunction;)I"⟩
def RL : String := "DonkeyVerdictsLaw"
abbrev cL_law : ByteArray := code
def yL_law : MethodName := ⟨RL, "law", "([I)Z"⟩
abbrev vwCl : List vw_C := [(RX0, TX0, 1), (RX1, TX1, 13), (RX2, TX2, 4), (RX3, TX3, 2), (RX4, TX4, 2), (RX5, TX5, 2), (RX7, TX7, 3), (RX8, TX8, 3), (RX9, TX9, 10), (RX10, TX10, 30)]
/-- the words that any method may carry -/
def tbg : List Cond := lw_tbl.filter goodWord
theorem tbg_good {w : Cond} (h : w ∈ tbg) : (w.onTables && w.keeps) = true ∨ ∃ ty, w = .arrayClass ty := good_of_word (List.mem_filter.mp h).2
theorem tbg_mem (i : Nat) {w : Cond} (h : lw_tbl[i]? = some w) (g : goodWord w = true) : w ∈ tbg := List.mem_filter.mpr ⟨List.mem_of_getElem? h, g⟩
set_option maxRecDepth 20000 in
theorem in0X0 : ∀ w ∈ wsX00, w ∈ lw_tbl := by decide +kernel
set_option maxRecDepth 20000 in
theorem gdX0 : wsX00.all goodWord = true := by decide +kernel
set_option maxRecDepth 20000 in
theorem inX0 : ∀ w ∈ wsX00, w ∈ tbg := fun w h => List.mem_filter.mpr ⟨in0X0 w h, List.all_eq_true.mp gdX0 w h⟩
set_option maxRecDepth 20000 in
theorem in0X1 : ∀ w ∈ wsX10, w ∈ lw_tbl := by decide +kernel
set_option maxRecDepth 20000 in
theorem gdX1 : wsX10.all goodWord = true := by decide +kernel
set_option maxRecDepth 20000 in
theorem inX1 : ∀ w ∈ wsX10, w ∈ tbg := fun w h => List.mem_filter.mpr ⟨in0X1 w h, List.all_eq_true.mp gdX1 w h⟩
set_option maxRecDepth 20000 in
theorem in0X2 : ∀ w ∈ wsX20, w ∈ lw_tbl := by decide +kernel
set_option maxRecDepth 20000 in
theorem gdX2 : wsX20.all goodWord = true := by decide +kernel
set_option maxRecDepth 20000 in
theorem inX2 : ∀ w ∈ wsX20, w ∈ tbg := fun w h => List.mem_filter.mpr ⟨in0X2 w h, List.all_eq_true.mp gdX2 w h⟩
set_option maxRecDepth 20000 in
theorem in0X3 : ∀ w ∈ wsX30, w ∈ lw_tbl := by decide +kernel
set_option maxRecDepth 20000 in
theorem gdX3 : wsX30.all goodWord = true := by decide +kernel
set_option maxRecDepth 20000 in
theorem inX3 : ∀ w ∈ wsX30, w ∈ tbg := fun w h => List.mem_filter.mpr ⟨in0X3 w h, List.all_eq_true.mp gdX3 w h⟩
set_option maxRecDepth 20000 in
theorem in0X4 : ∀ w ∈ wsX40, w ∈ lw_tbl := by decide +kernel
set_option maxRecDepth 20000 in
theorem gdX4 : wsX40.all goodWord = true := by decide +kernel
set_option maxRecDepth 20000 in
theorem inX4 : ∀ w ∈ wsX40, w ∈ tbg := fun w h => List.mem_filter.mpr ⟨in0X4 w h, List.all_eq_true.mp gdX4 w h⟩
set_option maxRecDepth 20000 in
theorem in0X5 : ∀ w ∈ wsX50, w ∈ lw_tbl := by decide +kernel
set_option maxRecDepth 20000 in
theorem gdX5 : wsX50.all goodWord = true := by decide +kernel
set_option maxRecDepth 20000 in
theorem inX5 : ∀ w ∈ wsX50, w ∈ tbg := fun w h => List.mem_filter.mpr ⟨in0X5 w h, List.all_eq_true.mp gdX5 w h⟩
set_option maxRecDepth 20000 in
theorem in0X6 : ∀ w ∈ wsX60, w ∈ lw_tbl := by decide +kernel
set_option maxRecDepth 20000 in
theorem gdX6 : wsX60.all goodWord = true := by decide +kernel
set_option maxRecDepth 20000 in
theorem inX6 : ∀ w ∈ wsX60, w ∈ tbg := fun w h => List.mem_filter.mpr ⟨in0X6 w h, List.all_eq_true.mp gdX6 w h⟩
set_option maxRecDepth 20000 in
theorem in0X7 : ∀ w ∈ wsX70, w ∈ lw_tbl := by decide +kernel
set_option maxRecDepth 20000 in
theorem gdX7 : wsX70.all goodWord = true := by decide +kernel
set_option maxRecDepth 20000 in
theorem inX7 : ∀ w ∈ wsX70, w ∈ tbg := fun w h => List.mem_filter.mpr ⟨in0X7 w h, List.all_eq_true.mp gdX7 w h⟩
set_option maxRecDepth 20000 in
theorem in0X8 : ∀ w ∈ wsX80, w ∈ lw_tbl := by decide +kernel
set_option maxRecDepth 20000 in
theorem gdX8 : wsX80.all goodWord = true := by decide +kernel
set_option maxRecDepth 20000 in
theorem inX8 : ∀ w ∈ wsX80, w ∈ tbg := fun w h => List.mem_filter.mpr ⟨in0X8 w h, List.all_eq_true.mp gdX8 w h⟩
set_option maxRecDepth 20000 in
theorem in0X9 : ∀ w ∈ wsX90, w ∈ lw_tbl := by decide +kernel
set_option maxRecDepth 20000 in
theorem gdX9 : wsX90.all goodWord = true := by decide +kernel
set_option maxRecDepth 20000 in
theorem inX9 : ∀ w ∈ wsX90, w ∈ tbg := fun w h => List.mem_filter.mpr ⟨in0X9 w h, List.all_eq_true.mp gdX9 w h⟩
set_option maxRecDepth 20000 in
theorem in0X10 : ∀ w ∈ wsX100, w ∈ lw_tbl := by decide +kernel
set_option maxRecDepth 20000 in
theorem gdX10 : wsX100.all goodWord = true := by decide +kernel
set_option maxRecDepth 20000 in
theorem inX10 : ∀ w ∈ wsX100, w ∈ tbg := fun w h => List.mem_filter.mpr ⟨in0X10 w h, List.all_eq_true.mp gdX10 w h⟩
end
section
/-! MEMORY: a system of cells with a fixed shape; its state is one number for each cell and place -/
abbrev Mem : Type := Nat → Nat → Int32
abbrev Res : Type := Option (Int32 × Mem)
/-- the machine's part of a walk -/
abbrev jC : Type := Program × Launch × Env × Room × State × MethodId × Array Value × List Frame × Method × Code
/-- the method's part: bytes, locals, class, what it returns, its room -/
abbrev jM : Type := ByteArray × Nat × String × Option FieldType × Room
/-- the system: classes, address of a cell, classes of arrays, how many cells, kind of each, lengths, fields that refer, rows that refer -/
abbrev jS : Type := va_G × (Nat → Nat) × (Nat → ClassId) × Nat × (Nat → Nat) × (Nat → Nat) × (Nat → Nat → Option Nat) × (Nat → Nat → Nat)
abbrev gD (G : jS) : va_G := G.1
abbrev gad (G : jS) : Nat → Nat := G.2.1
abbrev gcA (G : jS) : Nat → ClassId := G.2.2.1
abbrev gN (G : jS) : Nat := G.2.2.2.1
abbrev gty (G : jS) : Nat → Nat := G.2.2.2.2.1
abbrev gln (G : jS) : Nat → Nat := G.2.2.2.2.2.1
abbrev grf (G : jS) : Nat → Nat → Option Nat := G.2.2.2.2.2.2.1
abbrev grt (G : jS) : Nat → Nat → Nat := G.2.2.2.2.2.2.2
def ncl (c : Nat) : Nat := match vwCl[c]? with
  | some q => q.2.2
  | none => 0
def fdV (G : jS) (M : Mem) (k j : Nat) : Value := match grf G k j with
  | some t => .ref (gad G t)
  | none => .int (M k j)
def cellOf (G : jS) (M : Mem) (k : Nat) : va_E :=
  if gty G k < 20 then .inr (gty G k, (List.range (ncl (gty G k))).map (fdV G M k))
  else .inl (gcA G (gty G k), gln G k, if gty G k = 23 then .inr (.inr (.inr (.inr (fun i => some (gad G (grt G k i)))))) else .inl (M k))
def wld (G : jS) (M : Mem) : va_W := (List.range (gN G)).map (fun k => (gad G k, cellOf G M k))
def tyL (G : jS) : List (ClassId × FieldType) := [(gcA G 20, .int), (gcA G 21, .byte), (gcA G 22, .char), (gcA G 23, .object "DonkeyVerdicts$Herd")]
def jA (G : jS) : Nat → Prop := fun q => ∃ k, k < gN G ∧ q = gad G k
def jInj (G : jS) : Prop := ∀ i j, i < gN G → j < gN G → gad G i = gad G j → i = j
def up2 (M : Mem) (k j : Nat) (v : Int32) : Mem := fun a => if a = k then (fun b => if b = j then v else M a b) else M a
def upR (M : Mem) (k : Nat) (f : Nat → Int32) : Mem := fun a => if a = k then f else M a
theorem up2_eq (M : Mem) (k j : Nat) (v : Int32) : up2 M k j v = upR M k (upd (M k) j v) := by
  funext a b
  by_cases h : a = k
  · subst h; simp [up2, upR, upd]
  · simp [up2, upR, h]
theorem wld_get {G : jS} {M : Mem} {k : Nat} (h : k < gN G) : (wld G M)[k]? = some (gad G k, cellOf G M k) := by
  simp [wld, h]
theorem cell_same {G : jS} {M M' : Mem} {k : Nat} (h : M' k = M k) : cellOf G M' k = cellOf G M k := by
  have e : fdV G M' k = fdV G M k := by funext j; simp [fdV, h]
  simp [cellOf, h, e]
theorem wld_set {G : jS} {M M' : Mem} {k : Nat} (h : k < gN G) (hM : ∀ a, a ≠ k → M' a = M a) {x : va_E} (hx : x = cellOf G M' k) : (wld G M).set k (gad G k, x) = wld G M' := by
  subst hx
  apply List.ext_getElem?
  intro i
  by_cases hi : i < gN G
  · by_cases e : i = k
    · subst e
      rw [List.getElem?_set_self (by simp [wld]; exact h), wld_get h]
    · rw [List.getElem?_set_ne (Ne.symm e), wld_get hi, wld_get hi, cell_same (hM i e)]
  · rw [List.getElem?_eq_none (by simp [wld]; omega), List.getElem?_eq_none (by simp [wld]; omega)]
theorem wld_D {G : jS} (hi : jInj G) (M : Mem) : va_D (jA G) (wld G M) := by
  have key : ∀ (k : Nat) (q : Nat × va_E), (wld G M)[k]? = some q → k < gN G ∧ q.1 = gad G k := by
    intro k q hq
    have hl : k < gN G := by
      have := (List.getElem?_eq_some_iff.mp hq).1
      simpa [wld] using this
    rw [wld_get hl] at hq
    exact ⟨hl, by cases hq; rfl⟩
  refine ⟨fun i j p q h1 h2 h3 => ?_, fun k q h => ?_⟩
  · obtain ⟨a1, a2⟩ := key i p h1
    obtain ⟨b1, b2⟩ := key j q h2
    exact hi i j a1 b1 (by rw [← a2, ← b2]; exact h3)
  · obtain ⟨a1, a2⟩ := key k q h
    exact ⟨k, a1, a2⟩
theorem cell_obj {G : jS} {M : Mem} {k c : Nat} (h : gty G k = c) (hc : c < 20) : cellOf G M k = .inr (c, (List.range (ncl c)).map (fdV G M k)) := by
  subst h; simp [cellOf, hc]
theorem cell_arr {G : jS} {M : Mem} {k t n : Nat} (h : gty G k = t) (hn : gln G k = n) (ht : t = 20 ∨ t = 21 ∨ t = 22) : cellOf G M k = .inl (gcA G t, n, .inl (M k)) := by
  subst h; subst hn
  have h1 : ¬ gty G k < 20 := by omega
  have h2 : ¬ gty G k = 23 := by omega
  simp [cellOf, h1, h2]
theorem cell_ref {G : jS} {M : Mem} {k n : Nat} (h : gty G k = 23) (hn : gln G k = n) : cellOf G M k = .inl (gcA G 23, n, .inr (.inr (.inr (.inr (fun i => some (gad G (grt G k i))))))) := by
  subst hn
  simp [cellOf, h]
/-- what a method's end says -/
def rvO (ret : Option FieldType) (G : jS) (r : Int32) : Option Value := match ret with
  | none => none
  | some (.object _) => some (.ref (gad G r.toNatClampNeg))
  | some _ => some (.int r)
def jQ (G : jS) (ret : Option FieldType) (r : Int32) (M' : Mem) : Array Value → State → Outcome → State → Prop := fun _ st oc t =>
  (oc = .returned (rvO ret G r) ∧ va_P (gD G) vwCl (wld G M') t.heap) ∧ va_F (jA G) st t
abbrev jW (X : jC) (G : jS) (ret : Option FieldType) (H : Heap) (locs : List Loc) (r : Int32) (M' : Mem) (g : JFrame) : Prop :=
  W X.1 X.2.1 X.2.2.1 X.2.2.2.1 X.2.2.2.2.1 X.2.2.2.2.2.1 X.2.2.2.2.2.2.1 X.2.2.2.2.2.2.2.1 X.2.2.2.2.2.2.2.2.1 X.2.2.2.2.2.2.2.2.2 H locs 0 0 (MQ X.2.2.2.2.2.2.2.1 (jQ G ret r M') X.2.2.2.2.2.2.1 X.2.2.2.2.1 0 0 (jA G)) g
abbrev jst (X : jC) : State := X.2.2.2.2.1
abbrev jarg (X : jC) : Array Value := X.2.2.2.2.2.2.1
abbrev jroom (X : jC) : Room := X.2.2.2.1
abbrev jid (X : jC) : MethodId := X.2.2.2.2.2.1
/-- at pc, with these locals, this stack, this memory: if the pure program o answers, so does the machine -/
def J (X : jC) (μ : jM) (G : jS) (pc : Nat) (lv : List (Nat × Value)) (st : List Value) (M : Mem) (o : Res) : Prop :=
  ∀ (H : Heap) (locs : List Loc) (ls : Array Slot), lv_has ls μ.2.1 lv → va_P (gD G) vwCl (wld G M) H → va_S (jA G) (jst X).heap H locs → ∀ (r : Int32) (M' : Mem), o = some (r, M') → jW X G μ.2.2.2.1 H locs r M' (F0 (jid X) pc ls st)
def jOk (X : jC) (μ : jM) (G : jS) : Prop :=
  X.1.tables.exec = Jvm.exec ∧ X.2.2.2.2.2.2.2.2.2.code = μ.1 ∧ X.2.2.2.2.2.2.2.2.2.maxLocals = μ.2.1 ∧ (jst X).vm.findClass μ.2.2.1 = some (jid X).cls ∧ (∀ w ∈ tbg, w.before (jarg X) (jst X) = true) ∧ X.2.2.2.2.2.2.2.2.1.locks = false ∧ X.2.2.2.2.2.2.2.2.1.sig.returnType = μ.2.2.2.1 ∧ va_K (gD G) vwCl (tyL G) (jst X) ∧ jInj G ∧ jroom X = μ.2.2.2.2
section JR
variable {X : jC} {μ : jM} {G : jS} {pc : Nat} {lv : List (Nat × Value)} {st : List Value} {M : Mem} {o : Res}
theorem j_none : J X μ G pc lv st M none := fun _ _ _ _ _ _ _ _ h => by cases h
theorem j_sub (is : List Nat) {lv' : List (Nat × Value)} (hs : lv_pick lv is = lv') (kk : J X μ G pc lv' st M o) : J X μ G pc lv st M o :=
  fun H locs ls hl hP hS r M' ho => kk H locs ls (lv_sub hl is hs) hP hS r M' ho
theorem j_iconst (hX : jOk X μ G) {n : Int} {v : Int32} (hd : decode μ.1 pc = .ok (.iconst n, 1)) (hv : Int32.ofInt n = v) (kk : J X μ G (pc + 1) lv (.int v :: st) M o) : J X μ G pc lv st M o :=
  fun H locs ls hl hP hS r M' ho => lv_iconst hX.1 hX.2.1 hd hv (kk H locs ls hl hP hS r M' ho)
theorem j_bipush (hX : jOk X μ G) {n : Int} {v : Int32} (hd : decode μ.1 pc = .ok (.bipush n, 2)) (hv : (Int8.ofInt n).toInt32 = v) (kk : J X μ G (pc + 2) lv (.int v :: st) M o) : J X μ G pc lv st M o :=
  fun H locs ls hl hP hS r M' ho => lv_bipush hX.1 hX.2.1 hd hv (kk H locs ls hl hP hS r M' ho)
theorem j_sipush (hX : jOk X μ G) {n : Int} {v : Int32} (hd : decode μ.1 pc = .ok (.sipush n, 3)) (hv : (Int16.ofInt n).toInt32 = v) (kk : J X μ G (pc + 3) lv (.int v :: st) M o) : J X μ G pc lv st M o :=
  fun H locs ls hl hP hS r M' ho => lv_sipush hX.1 hX.2.1 hd hv (kk H locs ls hl hP hS r M' ho)
theorem j_lconst (hX : jOk X μ G) {n : Fin 2} {v : Int64} (hd : decode μ.1 pc = .ok (.lconst n, 1)) (hv : Int64.ofInt (n : Nat) = v) (kk : J X μ G (pc + 1) lv (.long v :: st) M o) : J X μ G pc lv st M o :=
  fun H locs ls hl hP hS r M' ho => lv_lconst hX.1 hX.2.1 hd hv (kk H locs ls hl hP hS r M' ho)
theorem j_ldc2 (hX : jOk X μ G) {idx : Nat} {v : Int64} (hw : Cond.constantLong μ.2.2.1 idx v ∈ tbg) (hd : decode μ.1 pc = .ok (.ldc2_w idx, 3)) (kk : J X μ G (pc + 3) lv (.long v :: st) M o) : J X μ G pc lv st M o :=
  fun H locs ls hl hP hS r M' ho => lv_ldc2 hX.1 hX.2.1 hX.2.2.2.1 (hX.2.2.2.2.1 _ hw) hd (kk H locs ls hl hP hS r M' ho)
theorem j_ldc (hX : jOk X μ G) {idx : Nat} {v : Int32} (hw : Cond.constant μ.2.2.1 idx v ∈ tbg) (hd : decode μ.1 pc = .ok (.ldc idx, 2)) (kk : J X μ G (pc + 2) lv (.int v :: st) M o) : J X μ G pc lv st M o :=
  fun H locs ls hl hP hS r M' ho => lv_ldc hX.1 hX.2.1 hX.2.2.2.1 (hX.2.2.2.2.1 _ hw) hd (kk H locs ls hl hP hS r M' ho)
theorem j_iload_n (hX : jOk X μ G) {k : Fin 4} (q : Nat) {i : Nat} {x : Int32} (hd : decode μ.1 pc = .ok (.iload_n k, 1)) (hi : (k : Nat) = i) (hq : lv[q]? = some (i, .int x)) (kk : J X μ G (pc + 1) lv (.int x :: st) M o) : J X μ G pc lv st M o :=
  fun H locs ls hl hP hS r M' ho => lv_iload_n hX.1 hX.2.1 hd hi (lv_at hl q hq) (kk H locs ls hl hP hS r M' ho)
theorem j_iload (hX : jOk X μ G) (q : Nat) {i : Nat} {x : Int32} (hd : decode μ.1 pc = .ok (.iload i, 2)) (hq : lv[q]? = some (i, .int x)) (kk : J X μ G (pc + 2) lv (.int x :: st) M o) : J X μ G pc lv st M o :=
  fun H locs ls hl hP hS r M' ho => lv_iload hX.1 hX.2.1 hd (lv_at hl q hq) (kk H locs ls hl hP hS r M' ho)
theorem j_lload_n (hX : jOk X μ G) {k : Fin 4} (q : Nat) {i : Nat} {x : Int64} (hd : decode μ.1 pc = .ok (.lload_n k, 1)) (hi : (k : Nat) = i) (hq : lv[q]? = some (i, .long x)) (kk : J X μ G (pc + 1) lv (.long x :: st) M o) : J X μ G pc lv st M o :=
  fun H locs ls hl hP hS r M' ho => lv_lload_n hX.1 hX.2.1 hd hi (lv_at hl q hq) (kk H locs ls hl hP hS r M' ho)
theorem j_lload (hX : jOk X μ G) (q : Nat) {i : Nat} {x : Int64} (hd : decode μ.1 pc = .ok (.lload i, 2)) (hq : lv[q]? = some (i, .long x)) (kk : J X μ G (pc + 2) lv (.long x :: st) M o) : J X μ G pc lv st M o :=
  fun H locs ls hl hP hS r M' ho => lv_lload hX.1 hX.2.1 hd (lv_at hl q hq) (kk H locs ls hl hP hS r M' ho)
theorem j_aload_n (hX : jOk X μ G) {k : Fin 4} (q : Nat) {i : Nat} {x : Nat} (hd : decode μ.1 pc = .ok (.aload_n k, 1)) (hi : (k : Nat) = i) (hq : lv[q]? = some (i, .ref x)) (kk : J X μ G (pc + 1) lv (.ref x :: st) M o) : J X μ G pc lv st M o :=
  fun H locs ls hl hP hS r M' ho => lv_aload_n hX.1 hX.2.1 hd hi (lv_at hl q hq) (kk H locs ls hl hP hS r M' ho)
theorem j_istore_n (hX : jOk X μ G) {k : Fin 4} {i : Nat} {x : Int32} {lv' : List (Nat × Value)} (hd : decode μ.1 pc = .ok (.istore_n k, 1)) (hi : (k : Nat) = i) (hn : i < μ.2.1) (hl' : (i, Value.int x) :: lv.filter (fun q => !(q.1 == i) && !(q.1 + 1 == i && q.2.category == 2)) = lv') (kk : J X μ G (pc + 1) lv' st M o) : J X μ G pc lv (.int x :: st) M o :=
  fun H locs ls hl hP hS r M' ho => lv_istore_n hX.1 hX.2.1 hd hi hl hn hl' (fun ls' h' => kk H locs ls' h' hP hS r M' ho)
theorem j_istore (hX : jOk X μ G) {i : Nat} {x : Int32} {lv' : List (Nat × Value)} (hd : decode μ.1 pc = .ok (.istore i, 2)) (hn : i < μ.2.1) (hl' : (i, Value.int x) :: lv.filter (fun q => !(q.1 == i) && !(q.1 + 1 == i && q.2.category == 2)) = lv') (kk : J X μ G (pc + 2) lv' st M o) : J X μ G pc lv (.int x :: st) M o :=
  fun H locs ls hl hP hS r M' ho => lv_istore hX.1 hX.2.1 hd hl hn hl' (fun ls' h' => kk H locs ls' h' hP hS r M' ho)
theorem j_lstore_n (hX : jOk X μ G) {k : Fin 4} {i : Nat} {x : Int64} {lv' : List (Nat × Value)} (hd : decode μ.1 pc = .ok (.lstore_n k, 1)) (hi : (k : Nat) = i) (hn : i + 1 < μ.2.1) (hl' : (i, Value.long x) :: lv.filter (fun q => !(q.1 == i) && (!(q.1 == i + 1) && !(q.1 + 1 == i && q.2.category == 2))) = lv') (kk : J X μ G (pc + 1) lv' st M o) : J X μ G pc lv (.long x :: st) M o :=
  fun H locs ls hl hP hS r M' ho => lv_lstore_n hX.1 hX.2.1 hd hi hl hn hl' (fun ls' h' => kk H locs ls' h' hP hS r M' ho)
theorem j_lstore (hX : jOk X μ G) {i : Nat} {x : Int64} {lv' : List (Nat × Value)} (hd : decode μ.1 pc = .ok (.lstore i, 2)) (hn : i + 1 < μ.2.1) (hl' : (i, Value.long x) :: lv.filter (fun q => !(q.1 == i) && (!(q.1 == i + 1) && !(q.1 + 1 == i && q.2.category == 2))) = lv') (kk : J X μ G (pc + 2) lv' st M o) : J X μ G pc lv (.long x :: st) M o :=
  fun H locs ls hl hP hS r M' ho => lv_lstore hX.1 hX.2.1 hd hl hn hl' (fun ls' h' => kk H locs ls' h' hP hS r M' ho)
theorem j_iinc (hX : jOk X μ G) (k : Nat) {i : Nat} {n : Int} {x v : Int32} {lv' : List (Nat × Value)} (hd : decode μ.1 pc = .ok (.iinc i n, 3)) (hk : lv[k]? = some (i, .int x)) (hv : x + Int32.ofInt n = v) (hn : i < μ.2.1) (hl' : (i, Value.int v) :: lv.filter (fun q => !(q.1 == i) && !(q.1 + 1 == i && q.2.category == 2)) = lv') (kk : J X μ G (pc + 3) lv' st M o) : J X μ G pc lv st M o :=
  fun H locs ls hl hP hS r M' ho => lv_iinc hX.1 hX.2.1 hd hl hk hv hn hl' (fun ls' h' => kk H locs ls' h' hP hS r M' ho)
theorem j_iadd (hX : jOk X μ G) {x y : Int32} (hd : decode μ.1 pc = .ok (.iadd, 1)) (kk : J X μ G (pc + 1) lv (.int (x + y) :: st) M o) : J X μ G pc lv (.int y :: .int x :: st) M o :=
  fun H locs ls hl hP hS r M' ho => lv_iadd hX.1 hX.2.1 hd (kk H locs ls hl hP hS r M' ho)
theorem j_isub (hX : jOk X μ G) {x y : Int32} (hd : decode μ.1 pc = .ok (.isub, 1)) (kk : J X μ G (pc + 1) lv (.int (x - y) :: st) M o) : J X μ G pc lv (.int y :: .int x :: st) M o :=
  fun H locs ls hl hP hS r M' ho => lv_isub hX.1 hX.2.1 hd (kk H locs ls hl hP hS r M' ho)
theorem j_imul (hX : jOk X μ G) {x y : Int32} (hd : decode μ.1 pc = .ok (.imul, 1)) (kk : J X μ G (pc + 1) lv (.int (x * y) :: st) M o) : J X μ G pc lv (.int y :: .int x :: st) M o :=
  fun H locs ls hl hP hS r M' ho => lv_imul hX.1 hX.2.1 hd (kk H locs ls hl hP hS r M' ho)
theorem j_iand (hX : jOk X μ G) {x y : Int32} (hd : decode μ.1 pc = .ok (.iand, 1)) (kk : J X μ G (pc + 1) lv (.int (x &&& y) :: st) M o) : J X μ G pc lv (.int y :: .int x :: st) M o :=
  fun H locs ls hl hP hS r M' ho => lv_iand hX.1 hX.2.1 hd (kk H locs ls hl hP hS r M' ho)
theorem j_ior (hX : jOk X μ G) {x y : Int32} (hd : decode μ.1 pc = .ok (.ior, 1)) (kk : J X μ G (pc + 1) lv (.int (x ||| y) :: st) M o) : J X μ G pc lv (.int y :: .int x :: st) M o :=
  fun H locs ls hl hP hS r M' ho => lv_ior hX.1 hX.2.1 hd (kk H locs ls hl hP hS r M' ho)
theorem j_ishl (hX : jOk X μ G) {x y : Int32} (hd : decode μ.1 pc = .ok (.ishl, 1)) (kk : J X μ G (pc + 1) lv (.int (x <<< (y &&& 31)) :: st) M o) : J X μ G pc lv (.int y :: .int x :: st) M o :=
  fun H locs ls hl hP hS r M' ho => lv_ishl hX.1 hX.2.1 hd (kk H locs ls hl hP hS r M' ho)
theorem j_ishr (hX : jOk X μ G) {x y : Int32} (hd : decode μ.1 pc = .ok (.ishr, 1)) (kk : J X μ G (pc + 1) lv (.int (x >>> (y &&& 31)) :: st) M o) : J X μ G pc lv (.int y :: .int x :: st) M o :=
  fun H locs ls hl hP hS r M' ho => lv_ishr hX.1 hX.2.1 hd (kk H locs ls hl hP hS r M' ho)
def irm (x y : Int32) : Int32 := x - x / y * y
def lrm (x y : Int64) : Int64 := x - x / y * y
theorem j_idiv (hX : jOk X μ G) {x y : Int32} (hd : decode μ.1 pc = .ok (.idiv, 1)) (kk : J X μ G (pc + 1) lv (.int (x / y) :: st) M o) : J X μ G pc lv (.int y :: .int x :: st) M (if y = 0 then none else o) := by
  intro H locs ls hl hP hS r M' ho
  by_cases hy : y = 0
  · rw [if_pos hy] at ho; cases ho
  · rw [if_neg hy] at ho; exact lv_idiv hX.1 hX.2.1 hd hy (kk H locs ls hl hP hS r M' ho)
theorem j_irem (hX : jOk X μ G) {x y : Int32} (hd : decode μ.1 pc = .ok (.irem, 1)) (kk : J X μ G (pc + 1) lv (.int (irm x y) :: st) M o) : J X μ G pc lv (.int y :: .int x :: st) M (if y = 0 then none else o) := by
  intro H locs ls hl hP hS r M' ho
  by_cases hy : y = 0
  · rw [if_pos hy] at ho; cases ho
  · rw [if_neg hy] at ho; exact lv_irem hX.1 hX.2.1 hd hy (kk H locs ls hl hP hS r M' ho)
/-- by a number that is not 0 -/
theorem j_idivC (hX : jOk X μ G) {x y : Int32} (hd : decode μ.1 pc = .ok (.idiv, 1)) (hy : ¬ y = 0) (kk : J X μ G (pc + 1) lv (.int (x / y) :: st) M o) : J X μ G pc lv (.int y :: .int x :: st) M o :=
  fun H locs ls hl hP hS r M' ho => lv_idiv hX.1 hX.2.1 hd hy (kk H locs ls hl hP hS r M' ho)
theorem j_iremC (hX : jOk X μ G) {x y : Int32} (hd : decode μ.1 pc = .ok (.irem, 1)) (hy : ¬ y = 0) (kk : J X μ G (pc + 1) lv (.int (irm x y) :: st) M o) : J X μ G pc lv (.int y :: .int x :: st) M o :=
  fun H locs ls hl hP hS r M' ho => lv_irem hX.1 hX.2.1 hd hy (kk H locs ls hl hP hS r M' ho)
theorem j_lremC (hX : jOk X μ G) {x y : Int64} (hd : decode μ.1 pc = .ok (.lrem, 1)) (hy : ¬ y = 0) (kk : J X μ G (pc + 1) lv (.long (lrm x y) :: st) M o) : J X μ G pc lv (.long y :: .long x :: st) M o :=
  fun H locs ls hl hP hS r M' ho => lv_lrem hX.1 hX.2.1 hd hy (kk H locs ls hl hP hS r M' ho)
theorem j_ladd (hX : jOk X μ G) {x y : Int64} (hd : decode μ.1 pc = .ok (.ladd, 1)) (kk : J X μ G (pc + 1) lv (.long (x + y) :: st) M o) : J X μ G pc lv (.long y :: .long x :: st) M o :=
  fun H locs ls hl hP hS r M' ho => lv_ladd hX.1 hX.2.1 hd (kk H locs ls hl hP hS r M' ho)
theorem j_lmul (hX : jOk X μ G) {x y : Int64} (hd : decode μ.1 pc = .ok (.lmul, 1)) (kk : J X μ G (pc + 1) lv (.long (x * y) :: st) M o) : J X μ G pc lv (.long y :: .long x :: st) M o :=
  fun H locs ls hl hP hS r M' ho => lv_lmul hX.1 hX.2.1 hd (kk H locs ls hl hP hS r M' ho)
theorem j_lcmp (hX : jOk X μ G) {x y : Int64} (hd : decode μ.1 pc = .ok (.lcmp, 1)) (kk : J X μ G (pc + 1) lv (.int (lg_cmp x y) :: st) M o) : J X μ G pc lv (.long y :: .long x :: st) M o :=
  fun H locs ls hl hP hS r M' ho => W.lcmp hX.1 hX.2.1 hd (kk H locs ls hl hP hS r M' ho)
theorem j_i2l (hX : jOk X μ G) {x : Int32} (hd : decode μ.1 pc = .ok (.i2l, 1)) (kk : J X μ G (pc + 1) lv (.long x.toInt64 :: st) M o) : J X μ G pc lv (.int x :: st) M o :=
  fun H locs ls hl hP hS r M' ho => lv_i2l hX.1 hX.2.1 hd rfl (kk H locs ls hl hP hS r M' ho)
theorem j_l2i (hX : jOk X μ G) {x : Int64} (hd : decode μ.1 pc = .ok (.l2i, 1)) (kk : J X μ G (pc + 1) lv (.int x.toInt32 :: st) M o) : J X μ G pc lv (.long x :: st) M o :=
  fun H locs ls hl hP hS r M' ho => lv_l2i hX.1 hX.2.1 hd rfl (kk H locs ls hl hP hS r M' ho)
theorem j_i2b (hX : jOk X μ G) {x : Int32} (hd : decode μ.1 pc = .ok (.i2b, 1)) (kk : J X μ G (pc + 1) lv (.int x.toInt8.toInt32 :: st) M o) : J X μ G pc lv (.int x :: st) M o :=
  fun H locs ls hl hP hS r M' ho => lv_i2b hX.1 hX.2.1 hd rfl (kk H locs ls hl hP hS r M' ho)
theorem j_i2c (hX : jOk X μ G) {x : Int32} (hd : decode μ.1 pc = .ok (.i2c, 1)) (kk : J X μ G (pc + 1) lv (.int (x.toUInt32 % 65536).toInt32 :: st) M o) : J X μ G pc lv (.int x :: st) M o :=
  fun H locs ls hl hP hS r M' ho => lv_i2c hX.1 hX.2.1 hd rfl (kk H locs ls hl hP hS r M' ho)
theorem j_dup (hX : jOk X μ G) {v : Value} (hd : decode μ.1 pc = .ok (.dup, 1)) (hv : v.category = 1) (kk : J X μ G (pc + 1) lv (v :: v :: st) M o) : J X μ G pc lv (v :: st) M o :=
  fun H locs ls hl hP hS r M' ho => lv_dup hX.1 hX.2.1 hd hv (kk H locs ls hl hP hS r M' ho)
theorem j_pop (hX : jOk X μ G) {v : Value} (hd : decode μ.1 pc = .ok (.pop, 1)) (hv : v.category = 1) (kk : J X μ G (pc + 1) lv st M o) : J X μ G pc lv (v :: st) M o :=
  fun H locs ls hl hP hS r M' ho => lv_pop hX.1 hX.2.1 hd hv (kk H locs ls hl hP hS r M' ho)
theorem j_dup2 (hX : jOk X μ G) {v w : Value} (hd : decode μ.1 pc = .ok (.dup2, 1)) (hv : v.category = 1) (hw : w.category = 1) (kk : J X μ G (pc + 1) lv (v :: w :: v :: w :: st) M o) : J X μ G pc lv (v :: w :: st) M o :=
  fun H locs ls hl hP hS r M' ho => lv_dup2_11 hX.1 hX.2.1 hd hv hw (kk H locs ls hl hP hS r M' ho)
theorem j_goto (hX : jOk X μ G) {off : Int} (tgt : Nat) (hd : decode μ.1 pc = .ok (.goto off, 3)) (ht : (pc : Int) + off = (tgt : Int)) (kk : J X μ G tgt lv st M o) : J X μ G pc lv st M o :=
  fun H locs ls hl hP hS r M' ho => lv_goto hX.1 hX.2.1 hd ht (kk H locs ls hl hP hS r M' ho)
theorem j_ifnonnull (hX : jOk X μ G) {off : Int} {x : Nat} (tgt : Nat) (hd : decode μ.1 pc = .ok (.ifnonnull off, 3)) (ht : (pc : Int) + off = (tgt : Int)) (kk : J X μ G tgt lv st M o) : J X μ G pc lv (.ref x :: st) M o :=
  fun H locs ls hl hP hS r M' ho => lv_ifnonnull hX.1 hX.2.1 hd ht (kk H locs ls hl hP hS r M' ho)
theorem j_ifnull (hX : jOk X μ G) {off : Int} {x : Nat} (hd : decode μ.1 pc = .ok (.ifnull off, 3)) (kk : J X μ G (pc + 3) lv st M o) : J X μ G pc lv (.ref x :: st) M o :=
  fun H locs ls hl hP hS r M' ho => lv_ifnull hX.1 hX.2.1 hd (kk H locs ls hl hP hS r M' ho)
end JR
section JB
variable {X : jC} {μ : jM} {G : jS} {pc : Nat} {lv : List (Nat × Value)} {st : List Value} {M : Mem} {o1 o2 : Res}
theorem j_icmp_eq (hX : jOk X μ G) {x y : Int32} {off : Int} (tgt : Nat) (hd : decode μ.1 pc = .ok (.if_icmp .eq off, 3)) (ht : (pc : Int) + off = (tgt : Int)) (k1 : J X μ G tgt lv st M o1) (k2 : J X μ G (pc + 3) lv st M o2) : J X μ G pc lv (.int y :: .int x :: st) M (if x = y then o1 else o2) :=
  fun H locs ls hl hP hS r M' ho => lv_icmp_eq hX.1 hX.2.1 hd ht (fun hc => k1 H locs ls hl hP hS r M' (by rw [if_pos hc] at ho; exact ho)) (fun hc => k2 H locs ls hl hP hS r M' (by rw [if_neg hc] at ho; exact ho))
theorem j_if_eq (hX : jOk X μ G) {x : Int32} {off : Int} (tgt : Nat) (hd : decode μ.1 pc = .ok (.ifCond .eq off, 3)) (ht : (pc : Int) + off = (tgt : Int)) (k1 : J X μ G tgt lv st M o1) (k2 : J X μ G (pc + 3) lv st M o2) : J X μ G pc lv (.int x :: st) M (if x = 0 then o1 else o2) :=
  fun H locs ls hl hP hS r M' ho => lv_if_eq hX.1 hX.2.1 hd ht (fun hc => k1 H locs ls hl hP hS r M' (by rw [if_pos hc] at ho; exact ho)) (fun hc => k2 H locs ls hl hP hS r M' (by rw [if_neg hc] at ho; exact ho))
theorem j_icmp_ne (hX : jOk X μ G) {x y : Int32} {off : Int} (tgt : Nat) (hd : decode μ.1 pc = .ok (.if_icmp .ne off, 3)) (ht : (pc : Int) + off = (tgt : Int)) (k1 : J X μ G tgt lv st M o1) (k2 : J X μ G (pc + 3) lv st M o2) : J X μ G pc lv (.int y :: .int x :: st) M (if x = y then o2 else o1) :=
  fun H locs ls hl hP hS r M' ho => lv_icmp_ne hX.1 hX.2.1 hd ht (fun hc => k1 H locs ls hl hP hS r M' (by rw [if_neg hc] at ho; exact ho)) (fun hc => k2 H locs ls hl hP hS r M' (by rw [if_pos hc] at ho; exact ho))
theorem j_if_ne (hX : jOk X μ G) {x : Int32} {off : Int} (tgt : Nat) (hd : decode μ.1 pc = .ok (.ifCond .ne off, 3)) (ht : (pc : Int) + off = (tgt : Int)) (k1 : J X μ G tgt lv st M o1) (k2 : J X μ G (pc + 3) lv st M o2) : J X μ G pc lv (.int x :: st) M (if x = 0 then o2 else o1) :=
  fun H locs ls hl hP hS r M' ho => lv_if_ne hX.1 hX.2.1 hd ht (fun hc => k1 H locs ls hl hP hS r M' (by rw [if_neg hc] at ho; exact ho)) (fun hc => k2 H locs ls hl hP hS r M' (by rw [if_pos hc] at ho; exact ho))
theorem j_icmp_lt (hX : jOk X μ G) {x y : Int32} {off : Int} (tgt : Nat) (hd : decode μ.1 pc = .ok (.if_icmp .lt off, 3)) (ht : (pc : Int) + off = (tgt : Int)) (k1 : J X μ G tgt lv st M o1) (k2 : J X μ G (pc + 3) lv st M o2) : J X μ G pc lv (.int y :: .int x :: st) M (if x < y then o1 else o2) :=
  fun H locs ls hl hP hS r M' ho => lv_icmp_lt hX.1 hX.2.1 hd ht (fun hc => k1 H locs ls hl hP hS r M' (by rw [if_pos hc] at ho; exact ho)) (fun hc => k2 H locs ls hl hP hS r M' (by rw [if_neg hc] at ho; exact ho))
theorem j_if_lt (hX : jOk X μ G) {x : Int32} {off : Int} (tgt : Nat) (hd : decode μ.1 pc = .ok (.ifCond .lt off, 3)) (ht : (pc : Int) + off = (tgt : Int)) (k1 : J X μ G tgt lv st M o1) (k2 : J X μ G (pc + 3) lv st M o2) : J X μ G pc lv (.int x :: st) M (if x < 0 then o1 else o2) :=
  fun H locs ls hl hP hS r M' ho => lv_if_lt hX.1 hX.2.1 hd ht (fun hc => k1 H locs ls hl hP hS r M' (by rw [if_pos hc] at ho; exact ho)) (fun hc => k2 H locs ls hl hP hS r M' (by rw [if_neg hc] at ho; exact ho))
theorem j_icmp_ge (hX : jOk X μ G) {x y : Int32} {off : Int} (tgt : Nat) (hd : decode μ.1 pc = .ok (.if_icmp .ge off, 3)) (ht : (pc : Int) + off = (tgt : Int)) (k1 : J X μ G tgt lv st M o1) (k2 : J X μ G (pc + 3) lv st M o2) : J X μ G pc lv (.int y :: .int x :: st) M (if y ≤ x then o1 else o2) :=
  fun H locs ls hl hP hS r M' ho => lv_icmp_ge hX.1 hX.2.1 hd ht (fun hc => k1 H locs ls hl hP hS r M' (by rw [if_pos hc] at ho; exact ho)) (fun hc => k2 H locs ls hl hP hS r M' (by rw [if_neg hc] at ho; exact ho))
theorem j_if_ge (hX : jOk X μ G) {x : Int32} {off : Int} (tgt : Nat) (hd : decode μ.1 pc = .ok (.ifCond .ge off, 3)) (ht : (pc : Int) + off = (tgt : Int)) (k1 : J X μ G tgt lv st M o1) (k2 : J X μ G (pc + 3) lv st M o2) : J X μ G pc lv (.int x :: st) M (if 0 ≤ x then o1 else o2) :=
  fun H locs ls hl hP hS r M' ho => lv_if_ge hX.1 hX.2.1 hd ht (fun hc => k1 H locs ls hl hP hS r M' (by rw [if_pos hc] at ho; exact ho)) (fun hc => k2 H locs ls hl hP hS r M' (by rw [if_neg hc] at ho; exact ho))
theorem j_icmp_gt (hX : jOk X μ G) {x y : Int32} {off : Int} (tgt : Nat) (hd : decode μ.1 pc = .ok (.if_icmp .gt off, 3)) (ht : (pc : Int) + off = (tgt : Int)) (k1 : J X μ G tgt lv st M o1) (k2 : J X μ G (pc + 3) lv st M o2) : J X μ G pc lv (.int y :: .int x :: st) M (if y < x then o1 else o2) :=
  fun H locs ls hl hP hS r M' ho => lv_icmp_gt hX.1 hX.2.1 hd ht (fun hc => k1 H locs ls hl hP hS r M' (by rw [if_pos hc] at ho; exact ho)) (fun hc => k2 H locs ls hl hP hS r M' (by rw [if_neg hc] at ho; exact ho))
theorem j_if_gt (hX : jOk X μ G) {x : Int32} {off : Int} (tgt : Nat) (hd : decode μ.1 pc = .ok (.ifCond .gt off, 3)) (ht : (pc : Int) + off = (tgt : Int)) (k1 : J X μ G tgt lv st M o1) (k2 : J X μ G (pc + 3) lv st M o2) : J X μ G pc lv (.int x :: st) M (if 0 < x then o1 else o2) :=
  fun H locs ls hl hP hS r M' ho => lv_if_gt hX.1 hX.2.1 hd ht (fun hc => k1 H locs ls hl hP hS r M' (by rw [if_pos hc] at ho; exact ho)) (fun hc => k2 H locs ls hl hP hS r M' (by rw [if_neg hc] at ho; exact ho))
theorem j_icmp_le (hX : jOk X μ G) {x y : Int32} {off : Int} (tgt : Nat) (hd : decode μ.1 pc = .ok (.if_icmp .le off, 3)) (ht : (pc : Int) + off = (tgt : Int)) (k1 : J X μ G tgt lv st M o1) (k2 : J X μ G (pc + 3) lv st M o2) : J X μ G pc lv (.int y :: .int x :: st) M (if x ≤ y then o1 else o2) :=
  fun H locs ls hl hP hS r M' ho => lv_icmp_le hX.1 hX.2.1 hd ht (fun hc => k1 H locs ls hl hP hS r M' (by rw [if_pos hc] at ho; exact ho)) (fun hc => k2 H locs ls hl hP hS r M' (by rw [if_neg hc] at ho; exact ho))
theorem j_if_le (hX : jOk X μ G) {x : Int32} {off : Int} (tgt : Nat) (hd : decode μ.1 pc = .ok (.ifCond .le off, 3)) (ht : (pc : Int) + off = (tgt : Int)) (k1 : J X μ G tgt lv st M o1) (k2 : J X μ G (pc + 3) lv st M o2) : J X μ G pc lv (.int x :: st) M (if x ≤ 0 then o1 else o2) :=
  fun H locs ls hl hP hS r M' ho => lv_if_le hX.1 hX.2.1 hd ht (fun hc => k1 H locs ls hl hP hS r M' (by rw [if_pos hc] at ho; exact ho)) (fun hc => k2 H locs ls hl hP hS r M' (by rw [if_neg hc] at ho; exact ho))
end JB
end
section
/-! rows on the memory, calls, ends -/
def ld (M : Mem) (k n : Nat) (i : Int32) (K : Int32 → Res) : Res := if 0 ≤ i.toInt ∧ i.toInt < n then K (M k i.toNatClampNeg) else none
def sto (M : Mem) (k n : Nat) (i v : Int32) (K : Mem → Res) : Res := if 0 ≤ i.toInt ∧ i.toInt < n then K (up2 M k i.toNatClampNeg v) else none
def ldr (n : Nat) (i : Int32) (K : Nat → Res) : Res := if 0 ≤ i.toInt ∧ i.toInt < n then K i.toNatClampNeg else none
def fpt (M : Mem) (k j : Nat) (v : Int32) (K : Mem → Res) : Res := K (up2 M k j v)
/-- a truth value is stored -/
def fpz (M : Mem) (k j : Nat) (v : Int32) (K : Mem → Res) : Res := if v = 0 ∨ v = 1 then K (up2 M k j v) else none
def cpy (M : Mem) (k k' n : Nat) (K : Mem → Res) : Res := K (upR M k' (va_cpy (M k) (M k') 0 0 n))
def bI (f : Res) (K : Int32 → Mem → Res) : Res := match f with
  | none => none
  | some q => K q.1 q.2
def bV (f : Res) (K : Mem → Res) : Res := match f with
  | none => none
  | some q => K q.2
def imin (x y : Int32) : Int32 := if y < x then y else x
def imax (x y : Int32) : Int32 := if x < y then y else x
/-- returned by a method of truth values -/
def rtz (v : Int32) (M : Mem) : Res := if v = 0 ∨ v = 1 then some (v, M) else none
/-- returned by a method of letters -/
def rtc (v : Int32) (M : Mem) : Res := if 0 ≤ v.toInt ∧ v.toInt < 65536 then some (v, M) else none
section JM
variable {X : jC} {μ : jM} {G : jS} {pc : Nat} {lv : List (Nat × Value)} {st : List Value} {M : Mem} {o : Res}
theorem fd_get {G : jS} {M : Mem} {k c j N : Nat} (hN : ncl c = N) (hj : j < N) : ((List.range (ncl c)).map (fdV G M k))[j]? = some (fdV G M k j) := by
  rw [hN]; simp [hj]
/-- a field that refers -/
theorem j_getR (hX : jOk X μ G) {k t ci j idx N : Nat} {C : String} {T : u_T} (hk : k < gN G) (hty : gty G k = ci) (hc : vwCl[ci]? = some (C, T, N)) (hc20 : ci < 20) (hin : ∀ w ∈ u_ws C T N, w ∈ tbg) (hj : j < N) (hrf : grf G k j = some t) (hlink : Cond.fieldLink μ.2.2.1 idx (T j).1 (T j).2.1 (T j).2.2.1 ∈ tbg) (hd : decode μ.1 pc = .ok (.getfield idx, 3)) (kk : J X μ G (pc + 3) lv (.ref (gad G t) :: st) M o) : J X μ G pc lv (.ref (gad G k) :: st) M o := by
  intro H locs ls hl hP hS r M' ho
  have hN : ncl ci = N := by simp [ncl, hc]
  refine va_get hX.1 hX.2.1 hX.2.2.2.2.1 hin hX.2.2.2.1 hX.2.2.2.2.2.2.2.1 hP k (by rw [wld_get hk, cell_obj hty hc20]) hc j hj (hX.2.2.2.2.1 _ hlink) (fun _ h => h) (v := .ref (gad G t)) ?_ hd (kk H locs ls hl hP hS r M' ho)
  rw [fd_get hN hj]; simp [fdV, hrf]
theorem j_getI (hX : jOk X μ G) {k ci j idx N : Nat} {C : String} {T : u_T} (hk : k < gN G) (hty : gty G k = ci) (hc : vwCl[ci]? = some (C, T, N)) (hc20 : ci < 20) (hin : ∀ w ∈ u_ws C T N, w ∈ tbg) (hj : j < N) (hrf : grf G k j = none) (hlink : Cond.fieldLink μ.2.2.1 idx (T j).1 (T j).2.1 (T j).2.2.1 ∈ tbg) (hd : decode μ.1 pc = .ok (.getfield idx, 3)) (kk : J X μ G (pc + 3) lv (.int (M k j) :: st) M o) : J X μ G pc lv (.ref (gad G k) :: st) M o := by
  intro H locs ls hl hP hS r M' ho
  have hN : ncl ci = N := by simp [ncl, hc]
  refine va_get hX.1 hX.2.1 hX.2.2.2.2.1 hin hX.2.2.2.1 hX.2.2.2.2.2.2.2.1 hP k (by rw [wld_get hk, cell_obj hty hc20]) hc j hj (hX.2.2.2.2.1 _ hlink) (fun _ h => h) (v := .int (M k j)) ?_ hd (kk H locs ls hl hP hS r M' ho)
  rw [fd_get hN hj]; simp [fdV, hrf]
theorem fd_set {G : jS} {M : Mem} {k j N : Nat} (hj : j < N) (hrf : grf G k j = none) (v : Int32) : ((List.range N).map (fdV G M k)).set j (.int v) = (List.range N).map (fdV G (up2 M k j v) k) := by
  apply List.ext_getElem?
  intro i
  by_cases hi : i < N
  · by_cases e : i = j
    · subst e
      rw [List.getElem?_set_self (by simp; exact hi)]
      simp [hi, fdV, hrf, up2]
    · rw [List.getElem?_set_ne (Ne.symm e)]
      simp [hi, fdV, up2, e]
  · rw [List.getElem?_eq_none (by simp; omega), List.getElem?_eq_none (by simp; omega)]
theorem up2_ne {M : Mem} {k j a : Nat} {v : Int32} (h : a ≠ k) : up2 M k j v a = M a := by simp [up2, h]
theorem j_putX (hX : jOk X μ G) {k ci j idx N : Nat} {C : String} {T : u_T} {v : Int32} {ty : FieldType} (hk : k < gN G) (hty : gty G k = ci) (hc : vwCl[ci]? = some (C, T, N)) (hc20 : ci < 20) (hin : ∀ w ∈ u_ws C T N, w ∈ tbg) (ty0 : Nat → FieldType) (htys : ∀ k, k < N → parseFieldDescriptor (T k).2.2.1 = some (ty0 k)) (hnm : ∀ a, a < N → ∀ b, b < N → a ≠ b → (T a).2.1 ≠ (T b).2.1) (hj : j < N) (hrf : grf G k j = none) (hlink : Cond.fieldLink μ.2.2.1 idx (T j).1 (T j).2.1 (T j).2.2.1 ∈ tbg) (hfin : (T j).2.2.2 = false) (hdc : parseFieldDescriptor (T j).2.2.1 = some ty) (hn : narrow ty (.int v) = .int v) (hfit : fits ty (.int v) = true) (hd : decode μ.1 pc = .ok (.putfield idx, 3)) (kk : J X μ G (pc + 3) lv st (up2 M k j v) o) : J X μ G pc lv (.int v :: .ref (gad G k) :: st) M o := by
  intro H locs ls hl hP hS r M' ho
  have hN : ncl ci = N := by simp [ncl, hc]
  refine va_put hX.1 hX.2.1 hX.2.2.2.2.1 hin ty0 htys hnm hX.2.2.2.1 hX.2.2.2.2.2.2.2.1 hP (wld_D hX.2.2.2.2.2.2.2.2.1 M) hS k (by rw [wld_get hk, cell_obj hty hc20]) hc j hj (hX.2.2.2.2.1 _ hlink) (fun _ h => h) hfin hdc hn hfit (by simp [hN, hj]) hd (fun H1 locs1 hP1 _ hS1 => ?_)
  rw [wld_set (M' := up2 M k j v) hk (fun a h => up2_ne h) (by rw [cell_obj hty hc20, hN, fd_set hj hrf])] at hP1
  exact kk H1 locs1 ls hl hP1 hS1 r M' ho
theorem j_putI (hX : jOk X μ G) {k ci j idx N : Nat} {C : String} {T : u_T} {v : Int32} {K : Mem → Res} (hk : k < gN G) (hty : gty G k = ci) (hc : vwCl[ci]? = some (C, T, N)) (hc20 : ci < 20) (hin : ∀ w ∈ u_ws C T N, w ∈ tbg) (ty0 : Nat → FieldType) (htys : ∀ k, k < N → parseFieldDescriptor (T k).2.2.1 = some (ty0 k)) (hnm : ∀ a, a < N → ∀ b, b < N → a ≠ b → (T a).2.1 ≠ (T b).2.1) (hj : j < N) (hrf : grf G k j = none) (hlink : Cond.fieldLink μ.2.2.1 idx (T j).1 (T j).2.1 (T j).2.2.1 ∈ tbg) (hfin : (T j).2.2.2 = false) (hdc : parseFieldDescriptor (T j).2.2.1 = some .int) (hd : decode μ.1 pc = .ok (.putfield idx, 3)) (kk : ∀ M1 : Mem, J X μ G (pc + 3) lv st M1 (K M1)) : J X μ G pc lv (.int v :: .ref (gad G k) :: st) M (fpt M k j v K) :=
  j_putX hX hk hty hc hc20 hin ty0 htys hnm hj hrf hlink hfin hdc (vp_nar_int v) rfl hd (kk (up2 M k j v))
theorem nar_z {v : Int32} (h : v = 0 ∨ v = 1) : narrow .boolean (.int v) = .int v ∧ fits .boolean (.int v) = true := by
  rcases h with rfl | rfl <;> exact ⟨rfl, rfl⟩
theorem j_putZ (hX : jOk X μ G) {k ci j idx N : Nat} {C : String} {T : u_T} {v : Int32} {K : Mem → Res} (hk : k < gN G) (hty : gty G k = ci) (hc : vwCl[ci]? = some (C, T, N)) (hc20 : ci < 20) (hin : ∀ w ∈ u_ws C T N, w ∈ tbg) (ty0 : Nat → FieldType) (htys : ∀ k, k < N → parseFieldDescriptor (T k).2.2.1 = some (ty0 k)) (hnm : ∀ a, a < N → ∀ b, b < N → a ≠ b → (T a).2.1 ≠ (T b).2.1) (hj : j < N) (hrf : grf G k j = none) (hlink : Cond.fieldLink μ.2.2.1 idx (T j).1 (T j).2.1 (T j).2.2.1 ∈ tbg) (hfin : (T j).2.2.2 = false) (hdc : parseFieldDescriptor (T j).2.2.1 = some .boolean) (hd : decode μ.1 pc = .ok (.putfield idx, 3)) (kk : ∀ M1 : Mem, J X μ G (pc + 3) lv st M1 (K M1)) : J X μ G pc lv (.int v :: .ref (gad G k) :: st) M (fpz M k j v K) := by
  by_cases h : v = 0 ∨ v = 1
  · rw [show fpz M k j v K = K (up2 M k j v) from if_pos h]
    exact j_putX hX hk hty hc hc20 hin ty0 htys hnm hj hrf hlink hfin hdc (nar_z h).1 (nar_z h).2 hd (kk (up2 M k j v))
  · rw [show fpz M k j v K = none from if_neg h]
    exact j_none
theorem in_of {i : Int32} {n : Nat} (h : 0 ≤ i.toInt ∧ i.toInt < n) : vp_in i n := vp_in_iff.mpr h
theorem j_iald (hX : jOk X μ G) {k n : Nat} {i : Int32} {K : Int32 → Res} (hk : k < gN G) (hty : gty G k = 20) (hn : gln G k = n) (hd : decode μ.1 pc = .ok (.iaload, 1)) (kk : ∀ v : Int32, J X μ G (pc + 1) lv (.int v :: st) M (K v)) : J X μ G pc lv (.int i :: .ref (gad G k) :: st) M (ld M k n i K) := by
  intro H locs ls hl hP hS r M' ho
  by_cases h : 0 ≤ i.toInt ∧ i.toInt < n
  · rw [show ld M k n i K = K (M k i.toNatClampNeg) from if_pos h] at ho
    exact va_iald hX.1 hX.2.1 hX.2.2.2.2.2.2.2.1 hP k 0 (by rw [wld_get hk, cell_arr hty hn (Or.inl rfl)]) rfl (in_of h) hd (kk _ H locs ls hl hP hS r M' ho)
  · rw [show ld M k n i K = none from if_neg h] at ho; cases ho
theorem j_bald (hX : jOk X μ G) {k n : Nat} {i : Int32} {K : Int32 → Res} (hk : k < gN G) (hty : gty G k = 21) (hn : gln G k = n) (hd : decode μ.1 pc = .ok (.baload, 1)) (kk : ∀ v : Int32, J X μ G (pc + 1) lv (.int v :: st) M (K v)) : J X μ G pc lv (.int i :: .ref (gad G k) :: st) M (ld M k n i K) := by
  intro H locs ls hl hP hS r M' ho
  by_cases h : 0 ≤ i.toInt ∧ i.toInt < n
  · rw [show ld M k n i K = K (M k i.toNatClampNeg) from if_pos h] at ho
    exact va_bald hX.1 hX.2.1 hX.2.2.2.2.2.2.2.1 hP k 1 (by rw [wld_get hk, cell_arr hty hn (Or.inr (Or.inl rfl))]) rfl (in_of h) hd (kk _ H locs ls hl hP hS r M' ho)
  · rw [show ld M k n i K = none from if_neg h] at ho; cases ho
theorem j_cald (hX : jOk X μ G) {k n : Nat} {i : Int32} {K : Int32 → Res} (hk : k < gN G) (hty : gty G k = 22) (hn : gln G k = n) (hd : decode μ.1 pc = .ok (.caload, 1)) (kk : ∀ v : Int32, J X μ G (pc + 1) lv (.int v :: st) M (K v)) : J X μ G pc lv (.int i :: .ref (gad G k) :: st) M (ld M k n i K) := by
  intro H locs ls hl hP hS r M' ho
  by_cases h : 0 ≤ i.toInt ∧ i.toInt < n
  · rw [show ld M k n i K = K (M k i.toNatClampNeg) from if_pos h] at ho
    exact va_cald hX.1 hX.2.1 hX.2.2.2.2.2.2.2.1 hP k 2 (by rw [wld_get hk, cell_arr hty hn (Or.inr (Or.inr rfl))]) rfl (in_of h) hd (kk _ H locs ls hl hP hS r M' ho)
  · rw [show ld M k n i K = none from if_neg h] at ho; cases ho
theorem j_aald (hX : jOk X μ G) {k n : Nat} {i : Int32} {K : Nat → Res} (hk : k < gN G) (hty : gty G k = 23) (hn : gln G k = n) (hd : decode μ.1 pc = .ok (.aaload, 1)) (kk : ∀ q : Nat, q < n → J X μ G (pc + 1) lv (.ref (gad G (grt G k q)) :: st) M (K q)) : J X μ G pc lv (.int i :: .ref (gad G k) :: st) M (ldr n i K) := by
  intro H locs ls hl hP hS r M' ho
  by_cases h : 0 ≤ i.toInt ∧ i.toInt < n
  · rw [show ldr n i K = K i.toNatClampNeg from if_pos h] at ho
    have hlt : i.toNatClampNeg < n := Nat.not_le.mp fun q => (in_of h) (Or.inr q)
    exact va_aldq (f := fun i => some (gad G (grt G k i))) hX.1 hX.2.1 hX.2.2.2.2.2.2.2.1 hP k 3 (by rw [wld_get hk, cell_ref hty hn]) rfl (in_of h) hd (kk _ hlt H locs ls hl hP hS r M' ho)
  · rw [show ldr n i K = none from if_neg h] at ho; cases ho
theorem j_alen (hX : jOk X μ G) {k n t : Nat} {v : Int32} (hk : k < gN G) (hty : gty G k = t) (ht : t = 20 ∨ t = 21 ∨ t = 22) (hn : gln G k = n) (hv : Int32.ofNat n = v) (hd : decode μ.1 pc = .ok (.arraylength, 1)) (kk : J X μ G (pc + 1) lv (.int v :: st) M o) : J X μ G pc lv (.ref (gad G k) :: st) M o := by
  intro H locs ls hl hP hS r M' ho
  have hg : (wld G M)[k]? = some (gad G k, .inl (gcA G t, n, .inl (M k))) := by rw [wld_get hk, cell_arr hty hn ht]
  rcases ht with rfl | rfl | rfl
  · exact va_alen hX.1 hX.2.1 hX.2.2.2.2.2.2.2.1 hP k 0 hg rfl hv hd (kk H locs ls hl hP hS r M' ho)
  · exact va_alen hX.1 hX.2.1 hX.2.2.2.2.2.2.2.1 hP k 1 hg rfl hv hd (kk H locs ls hl hP hS r M' ho)
  · exact va_alen hX.1 hX.2.1 hX.2.2.2.2.2.2.2.1 hP k 2 hg rfl hv hd (kk H locs ls hl hP hS r M' ho)
theorem j_alenR (hX : jOk X μ G) {k n : Nat} {v : Int32} (hk : k < gN G) (hty : gty G k = 23) (hn : gln G k = n) (hv : Int32.ofNat n = v) (hd : decode μ.1 pc = .ok (.arraylength, 1)) (kk : J X μ G (pc + 1) lv (.int v :: st) M o) : J X μ G pc lv (.ref (gad G k) :: st) M o := by
  intro H locs ls hl hP hS r M' ho
  exact va_alen hX.1 hX.2.1 hX.2.2.2.2.2.2.2.1 hP k 3 (by rw [wld_get hk, cell_ref hty hn]) rfl hv hd (kk H locs ls hl hP hS r M' ho)
theorem ja_set {G : jS} {M : Mem} {k t n : Nat} (hk : k < gN G) (hty : gty G k = t) (hn : gln G k = n) (ht : t = 20 ∨ t = 21 ∨ t = 22) (f : Nat → Int32) : (wld G M).set k (gad G k, .inl (gcA G t, n, .inl f)) = wld G (upR M k f) :=
  wld_set hk (fun a h => by simp [upR, h]) (by rw [cell_arr hty hn ht]; simp [upR])
theorem j_iast (hX : jOk X μ G) {k n : Nat} {i v : Int32} {K : Mem → Res} (hk : k < gN G) (hty : gty G k = 20) (hn : gln G k = n) (hd : decode μ.1 pc = .ok (.iastore, 1)) (kk : ∀ M1 : Mem, J X μ G (pc + 1) lv st M1 (K M1)) : J X μ G pc lv (.int v :: .int i :: .ref (gad G k) :: st) M (sto M k n i v K) := by
  intro H locs ls hl hP hS r M' ho
  by_cases h : 0 ≤ i.toInt ∧ i.toInt < n
  · rw [show sto M k n i v K = K (up2 M k i.toNatClampNeg v) from if_pos h] at ho
    refine va_iast hX.1 hX.2.1 hX.2.2.2.2.2.2.2.1 hP (wld_D hX.2.2.2.2.2.2.2.2.1 M) hS k 0 (by rw [wld_get hk, cell_arr hty hn (Or.inl rfl)]) rfl (in_of h) hd (fun H1 locs1 hP1 _ hS1 => ?_)
    rw [ja_set hk hty hn (Or.inl rfl), ← up2_eq] at hP1
    exact kk _ H1 locs1 ls hl hP1 hS1 r M' ho
  · rw [show sto M k n i v K = none from if_neg h] at ho; cases ho
theorem j_bast (hX : jOk X μ G) {k n : Nat} {i v : Int32} {K : Mem → Res} (hk : k < gN G) (hty : gty G k = 21) (hn : gln G k = n) (hd : decode μ.1 pc = .ok (.bastore, 1)) (kk : ∀ M1 : Mem, J X μ G (pc + 1) lv st M1 (K M1)) : J X μ G pc lv (.int v :: .int i :: .ref (gad G k) :: st) M (sto M k n i (vp_nar .byte v) K) := by
  intro H locs ls hl hP hS r M' ho
  by_cases h : 0 ≤ i.toInt ∧ i.toInt < n
  · rw [show sto M k n i (vp_nar .byte v) K = K (up2 M k i.toNatClampNeg (vp_nar .byte v)) from if_pos h] at ho
    refine va_bast hX.1 hX.2.1 hX.2.2.2.2.2.2.2.1 hP (wld_D hX.2.2.2.2.2.2.2.2.1 M) hS k 1 (by rw [wld_get hk, cell_arr hty hn (Or.inr (Or.inl rfl))]) rfl (in_of h) hd (fun H1 locs1 hP1 _ hS1 => ?_)
    rw [ja_set hk hty hn (Or.inr (Or.inl rfl)), ← up2_eq] at hP1
    exact kk _ H1 locs1 ls hl hP1 hS1 r M' ho
  · rw [show sto M k n i (vp_nar .byte v) K = none from if_neg h] at ho; cases ho
theorem j_cast (hX : jOk X μ G) {k n : Nat} {i v : Int32} {K : Mem → Res} (hk : k < gN G) (hty : gty G k = 22) (hn : gln G k = n) (hd : decode μ.1 pc = .ok (.castore, 1)) (kk : ∀ M1 : Mem, J X μ G (pc + 1) lv st M1 (K M1)) : J X μ G pc lv (.int v :: .int i :: .ref (gad G k) :: st) M (sto M k n i (vp_nar .char v) K) := by
  intro H locs ls hl hP hS r M' ho
  by_cases h : 0 ≤ i.toInt ∧ i.toInt < n
  · rw [show sto M k n i (vp_nar .char v) K = K (up2 M k i.toNatClampNeg (vp_nar .char v)) from if_pos h] at ho
    refine va_cast hX.1 hX.2.1 hX.2.2.2.2.2.2.2.1 hP (wld_D hX.2.2.2.2.2.2.2.2.1 M) hS k 2 (by rw [wld_get hk, cell_arr hty hn (Or.inr (Or.inr rfl))]) rfl (in_of h) hd (fun H1 locs1 hP1 _ hS1 => ?_)
    rw [ja_set hk hty hn (Or.inr (Or.inr rfl)), ← up2_eq] at hP1
    exact kk _ H1 locs1 ls hl hP1 hS1 r M' ho
  · rw [show sto M k n i (vp_nar .char v) K = none from if_neg h] at ho; cases ho
/-- System.arraycopy of two whole rows of numbers -/
theorem j_copy (hX : jOk X μ G) {k k' n idx : Nat} {v : Int32} {K : Mem → Res} (hk : k < gN G) (hk' : k' < gN G) (hty : gty G k = 20) (hty' : gty G k' = 20) (hn : gln G k = n) (hn' : gln G k' = n) (hv : Int32.ofNat n = v) (hsm : n < 2 ^ 31) (h1 : Cond.methodLink μ.2.2.1 idx arraycopyName ∈ tbg) (h2 : Cond.native arraycopyName ∈ tbg) (h3 : Cond.static arraycopyName ∈ tbg) (h4 : Cond.initialized "java/lang/System" ∈ tbg) (hf : 1 ≤ μ.2.2.2.2.frames) (hlo : (st.map fun v => v.category).sum + (nativeFrameWords "java/lang/System" "arraycopy" 5 + 11) ≤ μ.2.2.2.2.locals) (hd : decode μ.1 pc = .ok (.invokestatic idx, 3)) (kk : ∀ M1 : Mem, J X μ G (pc + 3) lv st M1 (K M1)) : J X μ G pc lv (.int v :: .int 0 :: .ref (gad G k') :: .int 0 :: .ref (gad G k) :: st) M (cpy M k k' n K) := by
  intro H locs ls hl hP hS r M' ho
  subst hv
  have hcl : (Int32.ofNat n).toNatClampNeg = n := nI_clamp hsm
  have hz : (0 : Int32).toNatClampNeg = 0 := sb_cl0
  refine va_copyi hX.1 hX.2.1 (hX.2.2.1.trans hl.1.symm) hX.2.2.2.1 (hX.2.2.2.2.1 _ h1) (hX.2.2.2.2.1 _ h2) (hX.2.2.2.2.1 _ h3) (hX.2.2.2.2.1 _ h4) hX.2.2.2.2.2.2.2.1 hP (wld_D hX.2.2.2.2.2.2.2.2.1 M) hS k k' 0 0 (ty := .int) (by rw [wld_get hk, cell_arr hty hn (Or.inl rfl)]) (by rw [wld_get hk', cell_arr hty' hn' (Or.inl rfl)]) rfl rfl rfl (by decide) (by decide) (nI_pos hsm) (by rw [hcl, hz]; omega) (by rw [hcl, hz]; omega) (fun i _ => rfl) (by rw [show X.2.2.2.1 = μ.2.2.2.2 from hX.2.2.2.2.2.2.2.2.2]; exact hf) (by rw [show X.2.2.2.1 = μ.2.2.2.2 from hX.2.2.2.2.2.2.2.2.2]; exact hlo) hd (fun H1 locs1 hP1 _ hS1 => ?_)
  rw [ja_set hk' hty' hn' (Or.inl rfl), hcl, hz] at hP1
  exact kk _ H1 locs1 ls hl hP1 hS1 r M' ho
theorem j_min (hX : jOk X μ G) {idx : Nat} {x y : Int32} (h1 : Cond.methodLink μ.2.2.1 idx Lib.Math.min.name ∈ tbg) (h2 : Cond.static Lib.Math.min.name ∈ tbg) (h3 : Cond.initialized "java/lang/Math" ∈ tbg) (h4 : Cond.code Lib.Math.min.name Lib.Math.min.code 2 (some .int) ∈ tbg) (hf : 1 ≤ μ.2.2.2.2.frames) (hlo : (st.map fun v => v.category).sum + 13 ≤ μ.2.2.2.2.locals) (hd : decode μ.1 pc = .ok (.invokestatic idx, 3)) (kk : J X μ G (pc + 3) lv (.int (imin x y) :: st) M o) : J X μ G pc lv (.int y :: .int x :: st) M o :=
  fun H locs ls hl hP hS r M' ho => va_mmin hX.1 hX.2.1 (hX.2.2.1.trans hl.1.symm) hX.2.2.2.1 (hX.2.2.2.2.1 _ h1) (hX.2.2.2.2.1 _ h2) (hX.2.2.2.2.1 _ h3) (hX.2.2.2.2.1 _ h4) (by rw [show X.2.2.2.1 = μ.2.2.2.2 from hX.2.2.2.2.2.2.2.2.2]; exact hf) (by rw [show X.2.2.2.1 = μ.2.2.2.2 from hX.2.2.2.2.2.2.2.2.2]; exact hlo) (Nat.zero_le _) (Nat.zero_le _) hd (kk H locs ls hl hP hS r M' ho)
theorem j_max (hX : jOk X μ G) {idx : Nat} {x y : Int32} (h1 : Cond.methodLink μ.2.2.1 idx Lib.Math.max.name ∈ tbg) (h2 : Cond.static Lib.Math.max.name ∈ tbg) (h3 : Cond.initialized "java/lang/Math" ∈ tbg) (h4 : Cond.code Lib.Math.max.name Lib.Math.max.code 2 (some .int) ∈ tbg) (hf : 1 ≤ μ.2.2.2.2.frames) (hlo : (st.map fun v => v.category).sum + 13 ≤ μ.2.2.2.2.locals) (hd : decode μ.1 pc = .ok (.invokestatic idx, 3)) (kk : J X μ G (pc + 3) lv (.int (imax x y) :: st) M o) : J X μ G pc lv (.int y :: .int x :: st) M o :=
  fun H locs ls hl hP hS r M' ho => va_mmax hX.1 hX.2.1 (hX.2.2.1.trans hl.1.symm) hX.2.2.2.1 (hX.2.2.2.2.1 _ h1) (hX.2.2.2.2.1 _ h2) (hX.2.2.2.2.1 _ h3) (hX.2.2.2.2.1 _ h4) (by rw [show X.2.2.2.1 = μ.2.2.2.2 from hX.2.2.2.2.2.2.2.2.2]; exact hf) (by rw [show X.2.2.2.1 = μ.2.2.2.2 from hX.2.2.2.2.2.2.2.2.2]; exact hlo) (Nat.zero_le _) (Nat.zero_le _) hd (kk H locs ls hl hP hS r M' ho)
/-- ends -/
theorem j_iret (hX : jOk X μ G) {v : Int32} (hr : μ.2.2.2.1 = some .int) (hd : decode μ.1 pc = .ok (.ireturn, 1)) : J X μ G pc lv [.int v] M (some (v, M)) := by
  intro H locs ls hl hP hS r M' ho
  cases ho
  exact W.iret hX.1 hX.2.1 (hX.2.2.2.2.2.2.1.trans hr) (fun t ht _ => ⟨⟨by rw [hr]; rfl, by rw [ht]; exact hP⟩, hS.F ht⟩) hS.2.2 hd hX.2.2.2.2.2.1
theorem j_vret (hX : jOk X μ G) (hr : μ.2.2.2.1 = none) (hd : decode μ.1 pc = .ok (.return_, 1)) : J X μ G pc lv [] M (some (0, M)) := by
  intro H locs ls hl hP hS r M' ho
  cases ho
  exact W.vret hX.1 hX.2.1 (hX.2.2.2.2.2.2.1.trans hr) (fun t ht _ => ⟨⟨by rw [hr]; rfl, by rw [ht]; exact hP⟩, hS.F ht⟩) hS.2.2 hd hX.2.2.2.2.2.1
theorem j_zret (hX : jOk X μ G) {v : Int32} (hr : μ.2.2.2.1 = some .boolean) (hd : decode μ.1 pc = .ok (.ireturn, 1)) : J X μ G pc lv [.int v] M (rtz v M) := by
  intro H locs ls hl hP hS r M' ho
  by_cases h : v = 0 ∨ v = 1
  · rw [show rtz v M = some (v, M) from if_pos h] at ho
    cases ho
    exact W.zret hX.1 hX.2.1 (hX.2.2.2.2.2.2.1.trans hr) (nar_z h).1 (fun t ht _ => ⟨⟨by rw [hr]; rfl, by rw [ht]; exact hP⟩, hS.F ht⟩) hS.2.2 hd hX.2.2.2.2.2.1
  · rw [show rtz v M = none from if_neg h] at ho; cases ho
theorem j_cret (hX : jOk X μ G) {v : Int32} (hr : μ.2.2.2.1 = some .char) (hd : decode μ.1 pc = .ok (.ireturn, 1)) : J X μ G pc lv [.int v] M (rtc v M) := by
  intro H locs ls hl hP hS r M' ho
  by_cases h : 0 ≤ v.toInt ∧ v.toInt < 65536
  · rw [show rtc v M = some (v, M) from if_pos h] at ho
    cases ho
    obtain ⟨j, hj, rfl⟩ := vp_in_of (vp_in_iff.mpr (show 0 ≤ v.toInt ∧ v.toInt < ((65536 : Nat) : Int) from h)) (by decide)
    exact W.zret hX.1 hX.2.1 (hX.2.2.2.2.2.2.1.trans hr) (pk_charN hj).1 (fun t ht _ => ⟨⟨by rw [hr]; rfl, by rw [ht]; exact hP⟩, hS.F ht⟩) hS.2.2 hd hX.2.2.2.2.2.1
  · rw [show rtc v M = none from if_neg h] at ho; cases ho
theorem j_aret (hX : jOk X μ G) {k : Nat} {C : String} (hsm : k < 2 ^ 31) (hr : μ.2.2.2.1 = some (.object C)) (hd : decode μ.1 pc = .ok (.areturn, 1)) : J X μ G pc lv [.ref (gad G k)] M (some (nI k, M)) := by
  intro H locs ls hl hP hS r M' ho
  cases ho
  exact W.aret hX.1 hX.2.1 (hX.2.2.2.2.2.2.1.trans hr) (Or.inl ⟨C, rfl⟩) (Or.inr ⟨_, rfl⟩) (fun t ht _ => ⟨⟨by rw [hr]; simp [rvO, nI_clamp hsm], by rw [ht]; exact hP⟩, hS.F ht⟩) hS.2.2 hd hX.2.2.2.2.2.1
end JM
end
section
/-! calls, entries -/
/-- a method's contract over the memory: it does what the pure program o says -/
def jMet (l : Launch) (G : jS) (y : MethodName) (cc : ByteArray) (nL : Nat) (ret : Option FieldType) (rm : Room) (avs : List Value) (M : Mem) (o : Res) : Prop :=
  ∀ (r : Int32) (M' : Mem), o = some (r, M') → Met l y (Cond.code y cc nL ret :: tbg) rm (va_Pc avs (fun U => va_P (gD G) vwCl (wld G M) U.heap ∧ va_K (gD G) vwCl (tyL G) U)) (jQ G ret r M') 0 0 (jA G)
theorem j_entry {l : Launch} {G : jS} {y : MethodName} {cc : ByteArray} {nL : Nat} {ret : Option FieldType} {rm : Room} {avs : List Value} {M : Mem} {o : Res} (hinj : jInj G) (hy : plainName y.cls = true) (hlen : (lg_sl avs).length ≤ nL) {lv : List (Nat × Value)} (hlv : lv_args 0 avs = lv)
    (body : ∀ X : jC, X.2.1 = l → jOk X (cc, nL, y.cls, ret, rm) G → J X (cc, nL, y.cls, ret, rm) G 0 lv [] M o) : jMet l G y cc nL ret rm avs M o := by
  intro r M' ho
  subst hlv
  refine Met.ofW (cc := cc) (maxL := nL) (ret := ret) hy rfl ?_
  intro p e s m args below meth c s₁ B hml hv
  obtain ⟨rfl, hP, hK⟩ := hv
  have hts := atoms_spec (ws := Cond.code y cc nL ret :: tbg) B.pre
  have hown : s.vm.findClass y.cls = some m.cls := findClass_of_methodNamed B.named
  have hOk : jOk (p, l, e, rm, s, m, avs.toArray, below, meth, c) (cc, nL, y.cls, ret, rm) G :=
    ⟨B.exec, B.bytes, hml, hown, fun w hw => hts w (List.mem_cons_of_mem _ hw), B.notSynchronized, B.returns, hK, hinj, rfl⟩
  rw [lg_entry_eq]
  exact body _ rfl hOk s.heap [] _ (lv_entry avs hlen) hP va_S.rf r M' ho
/-- what the tables say of a method that is called on an object -/
def jYv (y : MethodName) (cc : ByteArray) (nL : Nat) (ret : Option FieldType) (n : Nat) : Prop :=
  Cond.instanceMethod y ∈ tbg ∧ Cond.selects y.cls y y ∈ tbg ∧ Cond.initialized y.cls ∈ tbg ∧ Cond.code y cc nL ret ∈ tbg ∧ (y.cls ≠ "java/lang/invoke/MethodHandle" ∧ y.cls ≠ "java/lang/invoke/VarHandle" ∧ (parseMethodDescriptor y.desc).map (fun d => d.parameters.length) = some n)
def jYs (y : MethodName) (cc : ByteArray) (nL : Nat) (ret : Option FieldType) (n : Nat) : Prop :=
  Cond.static y ∈ tbg ∧ Cond.initialized y.cls ∈ tbg ∧ Cond.code y cc nL ret ∈ tbg ∧ (y.cls ≠ "java/lang/invoke/MethodHandle" ∧ y.cls ≠ "java/lang/invoke/VarHandle" ∧ (parseMethodDescriptor y.desc).map (fun d => d.parameters.length) = some n)
theorem gi_v {own : String} {idx nL n : Nat} {y : MethodName} {cc : ByteArray} {ret : Option FieldType} (hY : jYv y cc nL ret n) (hl : Cond.methodLink own idx y ∈ tbg) : GoodIn tbg (wsV own idx y.cls y (Cond.code y cc nL ret :: tbg)) := by
  intro w hw
  have hm : w ∈ tbg := by
    simp only [wsV, List.cons_append, List.nil_append, List.mem_cons] at hw
    rcases hw with rfl | rfl | rfl | rfl | rfl | h
    · exact hl
    · exact hY.1
    · exact hY.2.1
    · exact hY.2.2.1
    · exact hY.2.2.2.1
    · exact h
  exact ⟨hm, tbg_good hm⟩
theorem gi_s {own : String} {idx nL n : Nat} {y : MethodName} {cc : ByteArray} {ret : Option FieldType} (hY : jYs y cc nL ret n) (hl : Cond.methodLink own idx y ∈ tbg) : GoodIn tbg (va_wsS own idx y (Cond.code y cc nL ret :: tbg)) := by
  intro w hw
  have hm : w ∈ tbg := by
    simp only [va_wsS, List.cons_append, List.nil_append, List.mem_cons] at hw
    rcases hw with rfl | rfl | rfl | rfl | h
    · exact hl
    · exact hY.1
    · exact hY.2.1
    · exact hY.2.2.1
    · exact h
  exact ⟨hm, tbg_good hm⟩
theorem pc_blind (G : jS) (avs : List Value) (M : Mem) : FrameBlind (va_Pc avs (fun U => va_P (gD G) vwCl (wld G M) U.heap ∧ va_K (gD G) vwCl (tyL G) U)) := by
  intro a U g mk q
  obtain ⟨q0, qP, qK⟩ := q
  exact ⟨q0, qP, va_K.moved (u := U) (U := U.calling g mk a) (Vm.Alike.refl U.vm) qK⟩
section JK
variable {X : jC} {μ : jM} {G : jS} {pc : Nat} {lv : List (Nat × Value)} {st : List Value} {M : Mem}
theorem j_behind {μ : jM} {ret' : Option FieldType} {f : Res} {K : Int32 → Mem → Res} {stk : List Value} {a : Array Value}
    (hrun : ∀ (r : Int32) (M1 : Mem), f = some (r, M1) → ∀ (H : Heap) (locs : List Loc) (ls : Array Slot), lv_has ls μ.2.1 lv → va_P (gD G) vwCl (wld G M) H → va_Run X.1 X.2.1 X.2.2.1 X.2.2.2.1 X.2.2.2.2.1 X.2.2.2.2.2.1 X.2.2.2.2.2.2.1 X.2.2.2.2.2.2.2.1 X.2.2.2.2.2.2.2.2.1 X.2.2.2.2.2.2.2.2.2 H locs 0 0 0 0 (F0 (jid X) pc ls stk) st (jQ G ret' r M1 a) (jA G))
    (kk : ∀ (r : Int32) (M1 : Mem), f = some (r, M1) → J X μ G (pc + 3) lv ((rvO ret' G r).toList ++ st) M1 (K r M1)) : J X μ G pc lv stk M (bI f K) := by
  intro H locs ls hl hP hS r' M'' ho
  cases hf : f with
  | none => rw [hf] at ho; cases ho
  | some q =>
    obtain ⟨r, M1⟩ := q
    rw [hf] at ho
    intro T hT X0
    obtain ⟨v, st₀, t, T', L, h0, X', hL, e1, e2, ⟨⟨hv, hPt⟩, hF⟩, go⟩ := hrun r M1 hf H locs ls hl hP T hT X0
    cases hv
    rw [va_F, h0] at hF
    obtain ⟨t2, a1, b1⟩ := kk r M1 hf T'.heap (locs ++ L) ls hl (by rw [e1]; exact hPt)
      ⟨Nat.le_trans hS.1 (by rw [e1]; exact hF.1), fun q h1 h2 => by rw [e1, hF.2 q (Nat.lt_of_lt_of_le h1 hS.1) h2]; exact hS.2.1 q h1 h2, fun q hq => by
        rcases List.mem_append.mp hq with h | h
        · exact hS.2.2 q h
        · exact hL q h⟩ r' M'' ho T' rfl X'
    exact ⟨t2, go t2 a1, b1⟩
theorem j_callV0 (hX : jOk X μ G) {y : MethodName} {cc' : ByteArray} {nL' n idx k ci N : Nat} {ret' : Option FieldType} {rm' : Room} {T : u_T} {As : List Value} {f : Res} {K : Int32 → Mem → Res} (hM : jMet X.2.1 G y cc' nL' ret' rm' (.ref (gad G k) :: As) M f) (hY : jYv y cc' nL' ret' n) (hl : Cond.methodLink μ.2.2.1 idx y ∈ tbg) (hk : k < gN G) (hty : gty G k = ci) (hc : vwCl[ci]? = some (y.cls, T, N)) (hc20 : ci < 20) (hn : As.length = n) (hz : rm'.cells = 0 ∧ rm'.slots = 0) (hR : rm'.frames + 1 ≤ μ.2.2.2.2.frames ∧ 8 + (nL' + 11) + rm'.locals ≤ μ.2.2.2.2.locals) (hst : (st.map fun v => v.category).sum ≤ 8) (hd : decode μ.1 pc = .ok (.invokevirtual idx, 3))
    (kk : ∀ (r : Int32) (M1 : Mem), f = some (r, M1) → J X μ G (pc + 3) lv ((rvO ret' G r).toList ++ st) M1 (K r M1)) : J X μ G pc lv (As.reverse ++ .ref (gad G k) :: st) M (bI f K) := by
  refine j_behind (ret' := ret') (a := (Value.ref (gad G k) :: As).toArray) (fun r M1 hf H locs ls hl' hP => ?_) kk
  have hR' : rm'.frames + 1 ≤ X.2.2.2.1.frames ∧ 8 + (nL' + 11) + rm'.locals ≤ X.2.2.2.1.locals := by rw [show X.2.2.2.1 = μ.2.2.2.2 from hX.2.2.2.2.2.2.2.2.2]; exact hR
  exact va_runV ⟨hX.1, hX.2.1, hX.2.2.1, hX.2.2.2.1, hX.2.2.2.2.1⟩ (hM r M1 hf) (cwV n hX.2.2.2.2.1 (gi_v hY hl) rfl hz.1 hz.2 ⟨rfl, hY.2.2.2.2⟩ hR') ⟨pc_blind G _ M, va_recv hX.2.2.2.2.2.2.2.1 hP hc (by rw [wld_get hk, cell_obj hty hc20]), fun U hU hW => ⟨rfl, by rw [hU]; exact hP, va_K.moved hW.alike hX.2.2.2.2.2.2.2.1⟩⟩ rfl hn hl'.1 rfl (lv_room hst) hd ⟨Nat.zero_le _, Nat.zero_le _⟩
theorem j_callS0 (hX : jOk X μ G) {y : MethodName} {cc' : ByteArray} {nL' n idx : Nat} {ret' : Option FieldType} {rm' : Room} {As : List Value} {f : Res} {K : Int32 → Mem → Res} (hM : jMet X.2.1 G y cc' nL' ret' rm' As M f) (hY : jYs y cc' nL' ret' n) (hl : Cond.methodLink μ.2.2.1 idx y ∈ tbg) (hn : As.length = n) (hz : rm'.cells = 0 ∧ rm'.slots = 0) (hR : rm'.frames + 1 ≤ μ.2.2.2.2.frames ∧ 8 + (nL' + 11) + rm'.locals ≤ μ.2.2.2.2.locals) (hst : (st.map fun v => v.category).sum ≤ 8) (hd : decode μ.1 pc = .ok (.invokestatic idx, 3))
    (kk : ∀ (r : Int32) (M1 : Mem), f = some (r, M1) → J X μ G (pc + 3) lv ((rvO ret' G r).toList ++ st) M1 (K r M1)) : J X μ G pc lv (As.reverse ++ st) M (bI f K) := by
  refine j_behind (ret' := ret') (a := As.toArray) (fun r M1 hf H locs ls hl' hP => ?_) kk
  have hR' : rm'.frames + 1 ≤ X.2.2.2.1.frames ∧ 8 + (nL' + 11) + rm'.locals ≤ X.2.2.2.1.locals := by rw [show X.2.2.2.1 = μ.2.2.2.2 from hX.2.2.2.2.2.2.2.2.2]; exact hR
  exact va_runS ⟨hX.1, hX.2.1, hX.2.2.1, hX.2.2.2.1, hX.2.2.2.2.1⟩ (hM r M1 hf) (va_cwS n hX.2.2.2.2.1 (gi_s hY hl) rfl hz.1 hz.2 hY.2.2.2 hR') ⟨pc_blind G _ M, fun U hU hW => ⟨rfl, by rw [hU]; exact hP, va_K.moved hW.alike hX.2.2.2.2.2.2.2.1⟩⟩ rfl hn hl'.1 rfl (lv_room hst) hd ⟨Nat.zero_le _, Nat.zero_le _⟩
theorem j_callV (hX : jOk X μ G) {y : MethodName} {cc' : ByteArray} {nL' n idx k ci N : Nat} {ret' : Option FieldType} {rm' : Room} {T : u_T} (As : List Value) {stk : List Value} {f : Res} {K : Int32 → Mem → Res} (hM : jMet X.2.1 G y cc' nL' ret' rm' (.ref (gad G k) :: As) M f) (hY : jYv y cc' nL' ret' n) (hl : Cond.methodLink μ.2.2.1 idx y ∈ tbg) (hk : k < gN G) (hty : gty G k = ci) (hc : vwCl[ci]? = some (y.cls, T, N)) (hc20 : ci < 20) (hn : As.length = n) (hz : rm'.cells = 0 ∧ rm'.slots = 0) (hR : rm'.frames + 1 ≤ μ.2.2.2.2.frames ∧ 8 + (nL' + 11) + rm'.locals ≤ μ.2.2.2.2.locals) (hst : (st.map fun v => v.category).sum ≤ 8) (hd : decode μ.1 pc = .ok (.invokevirtual idx, 3)) (hrv : ∀ r, rvO ret' G r = some (.int r)) (hstk : As.reverse ++ .ref (gad G k) :: st = stk)
    (kk : ∀ (r : Int32) (M1 : Mem), J X μ G (pc + 3) lv (.int r :: st) M1 (K r M1)) : J X μ G pc lv stk M (bI f K) := by
  subst hstk
  exact j_callV0 hX hM hY hl hk hty hc hc20 hn hz hR hst hd (fun r M1 _ => by rw [hrv r]; exact kk r M1)
theorem bV_eq (f : Res) (K : Mem → Res) : bV f K = bI f (fun _ M1 => K M1) := by cases f <;> rfl
theorem j_callVv (hX : jOk X μ G) {y : MethodName} {cc' : ByteArray} {nL' n idx k ci N : Nat} {rm' : Room} {T : u_T} (As : List Value) {stk : List Value} {f : Res} {K : Mem → Res} (hM : jMet X.2.1 G y cc' nL' none rm' (.ref (gad G k) :: As) M f) (hY : jYv y cc' nL' none n) (hl : Cond.methodLink μ.2.2.1 idx y ∈ tbg) (hk : k < gN G) (hty : gty G k = ci) (hc : vwCl[ci]? = some (y.cls, T, N)) (hc20 : ci < 20) (hn : As.length = n) (hz : rm'.cells = 0 ∧ rm'.slots = 0) (hR : rm'.frames + 1 ≤ μ.2.2.2.2.frames ∧ 8 + (nL' + 11) + rm'.locals ≤ μ.2.2.2.2.locals) (hst : (st.map fun v => v.category).sum ≤ 8) (hd : decode μ.1 pc = .ok (.invokevirtual idx, 3)) (hstk : As.reverse ++ .ref (gad G k) :: st = stk)
    (kk : ∀ (M1 : Mem), J X μ G (pc + 3) lv st M1 (K M1)) : J X μ G pc lv stk M (bV f K) := by
  subst hstk
  rw [bV_eq]
  exact j_callV0 hX hM hY hl hk hty hc hc20 hn hz hR hst hd (fun r M1 _ => kk M1)
theorem j_callS (hX : jOk X μ G) {y : MethodName} {cc' : ByteArray} {nL' n idx : Nat} {ret' : Option FieldType} {rm' : Room} (As : List Value) {stk : List Value} {f : Res} {K : Int32 → Mem → Res} (hM : jMet X.2.1 G y cc' nL' ret' rm' As M f) (hY : jYs y cc' nL' ret' n) (hl : Cond.methodLink μ.2.2.1 idx y ∈ tbg) (hn : As.length = n) (hz : rm'.cells = 0 ∧ rm'.slots = 0) (hR : rm'.frames + 1 ≤ μ.2.2.2.2.frames ∧ 8 + (nL' + 11) + rm'.locals ≤ μ.2.2.2.2.locals) (hst : (st.map fun v => v.category).sum ≤ 8) (hd : decode μ.1 pc = .ok (.invokestatic idx, 3)) (hrv : ∀ r, rvO ret' G r = some (.int r)) (hstk : As.reverse ++ st = stk)
    (kk : ∀ (r : Int32) (M1 : Mem), J X μ G (pc + 3) lv (.int r :: st) M1 (K r M1)) : J X μ G pc lv stk M (bI f K) := by
  subst hstk
  exact j_callS0 hX hM hY hl hn hz hR hst hd (fun r M1 _ => by rw [hrv r]; exact kk r M1)
theorem j_callSv (hX : jOk X μ G) {y : MethodName} {cc' : ByteArray} {nL' n idx : Nat} {rm' : Room} (As : List Value) {stk : List Value} {f : Res} {K : Mem → Res} (hM : jMet X.2.1 G y cc' nL' none rm' As M f) (hY : jYs y cc' nL' none n) (hl : Cond.methodLink μ.2.2.1 idx y ∈ tbg) (hn : As.length = n) (hz : rm'.cells = 0 ∧ rm'.slots = 0) (hR : rm'.frames + 1 ≤ μ.2.2.2.2.frames ∧ 8 + (nL' + 11) + rm'.locals ≤ μ.2.2.2.2.locals) (hst : (st.map fun v => v.category).sum ≤ 8) (hd : decode μ.1 pc = .ok (.invokestatic idx, 3)) (hstk : As.reverse ++ st = stk)
    (kk : ∀ (M1 : Mem), J X μ G (pc + 3) lv st M1 (K M1)) : J X μ G pc lv stk M (bV f K) := by
  subst hstk
  rw [bV_eq]
  exact j_callS0 hX hM hY hl hn hz hR hst hd (fun r M1 _ => kk M1)
/-- switches: x by a list of numbers -/
theorem j_tableOut (hX : jOk X μ G) {dflt lo hi : Int} {offs : Array Int} {len : Nat} {x : Int32} {o : Res} (tgt : Nat) (hd : decode μ.1 pc = .ok (.tableswitch dflt lo hi offs, len)) (h : x.toInt < lo ∨ hi < x.toInt) (ht : (pc : Int) + dflt = (tgt : Int)) (kk : J X μ G tgt lv st M o) : J X μ G pc lv (.int x :: st) M o :=
  fun H locs ls hl hP hS r M' ho => lv_tableOut hX.1 hX.2.1 hd h ht (kk H locs ls hl hP hS r M' ho)
theorem j_tableIn (hX : jOk X μ G) {dflt lo hi : Int} {offs : Array Int} {len : Nat} {x : Int32} {off : Int} {o : Res} (tgt : Nat) (hd : decode μ.1 pc = .ok (.tableswitch dflt lo hi offs, len)) (h1 : ¬ x.toInt < lo) (h2 : ¬ hi < x.toInt) (ho : offs[(x.toInt - lo).toNat]? = some off) (ht : (pc : Int) + off = (tgt : Int)) (kk : J X μ G tgt lv st M o) : J X μ G pc lv (.int x :: st) M o :=
  fun H locs ls hl hP hS r M' ho' => lv_tableIn hX.1 hX.2.1 hd h1 h2 ho ht (kk H locs ls hl hP hS r M' ho')
theorem j_lookup (hX : jOk X μ G) {dflt : Int} {ps : Array (Int × Int)} {len : Nat} {x : Int32} {off : Int} {o : Res} (tgt : Nat) (hd : decode μ.1 pc = .ok (.lookupswitch dflt ps, len)) (hp : (ps.toList.zip (ps.toList.drop 1)).all (fun (a, next) => a.1 < next.1) = true) (ho : Op.lookupswitch.offset ps.toList dflt x.toInt = off) (ht : (pc : Int) + off = (tgt : Int)) (kk : J X μ G tgt lv st M o) : J X μ G pc lv (.int x :: st) M o :=
  fun H locs ls hl hP hS r M' ho' => lv_lookup hX.1 hX.2.1 hd hp ho ht (kk H locs ls hl hP hS r M' ho')
theorem j_if {x : Int32} {c : Prop} [Decidable c] {stk : List Value} {o1 o2 : Res} (h1 : c → J X μ G pc lv stk M o1) (h2 : ¬ c → J X μ G pc lv stk M o2) : J X μ G pc lv stk M (if c then o1 else o2) := by
  by_cases h : c
  · rw [if_pos h]; exact h1 h
  · rw [if_neg h]; exact h2 h
end JK
end
