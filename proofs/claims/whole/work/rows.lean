section
-- ===== PART A: goes FIRST, ahead of the names: the tables' words, and 'selects' of the private methods out of them =====
/-- a private method of a class that the tables say can be made, by its rows of tables_1 -/
def lw_okq (q : MethodName × Nat) : Prop := (q.1.cls ≠ "java/lang/invoke/MethodHandle" ∧ q.1.cls ≠ "java/lang/invoke/VarHandle") ∧ Cond.instantiable q.1.cls q.2 ∈ tables_1 ∧ Cond.privateMethod q.1 ∈ tables_1 ∧ Cond.instanceMethod q.1 ∈ tables_1
theorem lw_p0 : lw_okq (⟨"DonkeyVerdicts", "open", "()V"⟩, 10) := ⟨⟨by decide +kernel, by decide +kernel⟩, List.mem_of_getElem? (i := 20) (by decide +kernel), List.mem_of_getElem? (i := 238) (by decide +kernel), List.mem_of_getElem? (i := 239) (by decide +kernel)⟩
theorem lw_p1 : lw_okq (⟨"DonkeyVerdicts$Scribe", "split", "(LDonkeyVerdicts$Letters;I)Z"⟩, 3) := ⟨⟨by decide +kernel, by decide +kernel⟩, List.mem_of_getElem? (i := 42) (by decide +kernel), List.mem_of_getElem? (i := 261) (by decide +kernel), List.mem_of_getElem? (i := 262) (by decide +kernel)⟩
theorem lw_p2 : lw_okq (⟨"DonkeyVerdicts$Scribe", "take", "(CLDonkeyVerdicts$Court;)Z"⟩, 3) := ⟨⟨by decide +kernel, by decide +kernel⟩, List.mem_of_getElem? (i := 42) (by decide +kernel), List.mem_of_getElem? (i := 268) (by decide +kernel), List.mem_of_getElem? (i := 269) (by decide +kernel)⟩
theorem lw_p3 : lw_okq (⟨"DonkeyVerdicts$Court", "distance", "(II)I"⟩, 13) := ⟨⟨by decide +kernel, by decide +kernel⟩, List.mem_of_getElem? (i := 59) (by decide +kernel), List.mem_of_getElem? (i := 316) (by decide +kernel), List.mem_of_getElem? (i := 317) (by decide +kernel)⟩
theorem lw_p4 : lw_okq (⟨"DonkeyVerdicts$Court", "lowestHop", "(II)I"⟩, 13) := ⟨⟨by decide +kernel, by decide +kernel⟩, List.mem_of_getElem? (i := 59) (by decide +kernel), List.mem_of_getElem? (i := 323) (by decide +kernel), List.mem_of_getElem? (i := 324) (by decide +kernel)⟩
theorem lw_p5 : lw_okq (⟨"DonkeyVerdicts$Herd", "set", "(III)V"⟩, 2) := ⟨⟨by decide +kernel, by decide +kernel⟩, List.mem_of_getElem? (i := 105) (by decide +kernel), List.mem_of_getElem? (i := 340) (by decide +kernel), List.mem_of_getElem? (i := 341) (by decide +kernel)⟩
theorem lw_p6 : lw_okq (⟨"DonkeyVerdicts$Herd", "move", "(I)V"⟩, 2) := ⟨⟨by decide +kernel, by decide +kernel⟩, List.mem_of_getElem? (i := 105) (by decide +kernel), List.mem_of_getElem? (i := 548) (by decide +kernel), List.mem_of_getElem? (i := 549) (by decide +kernel)⟩
theorem lw_p7 : lw_okq (⟨"DonkeyVerdicts$Herd", "end", "(I)V"⟩, 2) := ⟨⟨by decide +kernel, by decide +kernel⟩, List.mem_of_getElem? (i := 105) (by decide +kernel), List.mem_of_getElem? (i := 552) (by decide +kernel), List.mem_of_getElem? (i := 553) (by decide +kernel)⟩
theorem lw_p8 : lw_okq (⟨"DonkeyVerdicts$Herd", "arrive", "(III)V"⟩, 2) := ⟨⟨by decide +kernel, by decide +kernel⟩, List.mem_of_getElem? (i := 105) (by decide +kernel), List.mem_of_getElem? (i := 562) (by decide +kernel), List.mem_of_getElem? (i := 563) (by decide +kernel)⟩
theorem lw_p9 : lw_okq (⟨"DonkeyVerdicts$Foresight", "awaitBeast", "(I)I"⟩, 2) := ⟨⟨by decide +kernel, by decide +kernel⟩, List.mem_of_getElem? (i := 137) (by decide +kernel), List.mem_of_getElem? (i := 618) (by decide +kernel), List.mem_of_getElem? (i := 619) (by decide +kernel)⟩
theorem lw_p10 : lw_okq (⟨"DonkeyVerdicts$Foresight", "trySending", "(LDonkeyVerdicts$Herd;III)Z"⟩, 2) := ⟨⟨by decide +kernel, by decide +kernel⟩, List.mem_of_getElem? (i := 137) (by decide +kernel), List.mem_of_getElem? (i := 642) (by decide +kernel), List.mem_of_getElem? (i := 643) (by decide +kernel)⟩
theorem lw_p11 : lw_okq (⟨"DonkeyVerdicts$Dealer", "pick", "(I)V"⟩, 4) := ⟨⟨by decide +kernel, by decide +kernel⟩, List.mem_of_getElem? (i := 152) (by decide +kernel), List.mem_of_getElem? (i := 678) (by decide +kernel), List.mem_of_getElem? (i := 679) (by decide +kernel)⟩
theorem lw_p12 : lw_okq (⟨"DonkeyVerdicts$Dealer", "sendHand", "(LDonkeyVerdicts$Herd;I)Z"⟩, 4) := ⟨⟨by decide +kernel, by decide +kernel⟩, List.mem_of_getElem? (i := 152) (by decide +kernel), List.mem_of_getElem? (i := 683) (by decide +kernel), List.mem_of_getElem? (i := 684) (by decide +kernel)⟩
theorem lw_p13 : lw_okq (⟨"DonkeyVerdicts$Dealer", "awaitHand", "(I)I"⟩, 4) := ⟨⟨by decide +kernel, by decide +kernel⟩, List.mem_of_getElem? (i := 152) (by decide +kernel), List.mem_of_getElem? (i := 692) (by decide +kernel), List.mem_of_getElem? (i := 693) (by decide +kernel)⟩
theorem lw_p14 : lw_okq (⟨"DonkeyVerdicts$Dealer", "going", "()I"⟩, 4) := ⟨⟨by decide +kernel, by decide +kernel⟩, List.mem_of_getElem? (i := 152) (by decide +kernel), List.mem_of_getElem? (i := 696) (by decide +kernel), List.mem_of_getElem? (i := 697) (by decide +kernel)⟩
theorem lw_p15 : lw_okq (⟨"DonkeyVerdicts$Balking", "weigh", "(III)I"⟩, 1) := ⟨⟨by decide +kernel, by decide +kernel⟩, List.mem_of_getElem? (i := 173) (by decide +kernel), List.mem_of_getElem? (i := 765) (by decide +kernel), List.mem_of_getElem? (i := 766) (by decide +kernel)⟩
def lw_privs_1 : List (MethodName × Nat) := [(⟨"DonkeyVerdicts", "open", "()V"⟩, 10), (⟨"DonkeyVerdicts$Scribe", "split", "(LDonkeyVerdicts$Letters;I)Z"⟩, 3), (⟨"DonkeyVerdicts$Scribe", "take", "(CLDonkeyVerdicts$Court;)Z"⟩, 3), (⟨"DonkeyVerdicts$Court", "distance", "(II)I"⟩, 13), (⟨"DonkeyVerdicts$Court", "lowestHop", "(II)I"⟩, 13), (⟨"DonkeyVerdicts$Herd", "set", "(III)V"⟩, 2), (⟨"DonkeyVerdicts$Herd", "move", "(I)V"⟩, 2), (⟨"DonkeyVerdicts$Herd", "end", "(I)V"⟩, 2), (⟨"DonkeyVerdicts$Herd", "arrive", "(III)V"⟩, 2), (⟨"DonkeyVerdicts$Foresight", "awaitBeast", "(I)I"⟩, 2), (⟨"DonkeyVerdicts$Foresight", "trySending", "(LDonkeyVerdicts$Herd;III)Z"⟩, 2), (⟨"DonkeyVerdicts$Dealer", "pick", "(I)V"⟩, 4), (⟨"DonkeyVerdicts$Dealer", "sendHand", "(LDonkeyVerdicts$Herd;I)Z"⟩, 4), (⟨"DonkeyVerdicts$Dealer", "awaitHand", "(I)I"⟩, 4), (⟨"DonkeyVerdicts$Dealer", "going", "()I"⟩, 4), (⟨"DonkeyVerdicts$Balking", "weigh", "(III)I"⟩, 1)]
theorem lw_r1 : ∀ q ∈ lw_privs_1, lw_okq q := List.forall_mem_cons.mpr ⟨lw_p0, List.forall_mem_cons.mpr ⟨lw_p1, List.forall_mem_cons.mpr ⟨lw_p2, List.forall_mem_cons.mpr ⟨lw_p3, List.forall_mem_cons.mpr ⟨lw_p4, List.forall_mem_cons.mpr ⟨lw_p5, List.forall_mem_cons.mpr ⟨lw_p6, List.forall_mem_cons.mpr ⟨lw_p7, List.forall_mem_cons.mpr ⟨lw_p8, List.forall_mem_cons.mpr ⟨lw_p9, List.forall_mem_cons.mpr ⟨lw_p10, List.forall_mem_cons.mpr ⟨lw_p11, List.forall_mem_cons.mpr ⟨lw_p12, List.forall_mem_cons.mpr ⟨lw_p13, List.forall_mem_cons.mpr ⟨lw_p14, List.forall_mem_cons.mpr ⟨lw_p15, fun _ h => absurd h List.not_mem_nil⟩⟩⟩⟩⟩⟩⟩⟩⟩⟩⟩⟩⟩⟩⟩⟩
theorem lw_p16 : lw_okq (⟨"DonkeyVerdicts$Foresight", "act", "(I)V"⟩, 2) := ⟨⟨by decide +kernel, by decide +kernel⟩, List.mem_of_getElem? (i := 137) (by decide +kernel), List.mem_of_getElem? (i := 793) (by decide +kernel), List.mem_of_getElem? (i := 794) (by decide +kernel)⟩
theorem lw_p17 : lw_okq (⟨"DonkeyVerdictsModel", "clears", "()V"⟩, 30) := ⟨⟨by decide +kernel, by decide +kernel⟩, List.mem_of_getElem? (i := 832) (by decide +kernel), List.mem_of_getElem? (i := 838) (by decide +kernel), List.mem_of_getElem? (i := 839) (by decide +kernel)⟩
theorem lw_p18 : lw_okq (⟨"DonkeyVerdictsModel", "leads", "(III)V"⟩, 30) := ⟨⟨by decide +kernel, by decide +kernel⟩, List.mem_of_getElem? (i := 832) (by decide +kernel), List.mem_of_getElem? (i := 842) (by decide +kernel), List.mem_of_getElem? (i := 843) (by decide +kernel)⟩
theorem lw_p19 : lw_okq (⟨"DonkeyVerdictsModel", "opens", "(II)V"⟩, 30) := ⟨⟨by decide +kernel, by decide +kernel⟩, List.mem_of_getElem? (i := 832) (by decide +kernel), List.mem_of_getElem? (i := 846) (by decide +kernel), List.mem_of_getElem? (i := 847) (by decide +kernel)⟩
theorem lw_p20 : lw_okq (⟨"DonkeyVerdictsModel", "comes", "(III)V"⟩, 30) := ⟨⟨by decide +kernel, by decide +kernel⟩, List.mem_of_getElem? (i := 832) (by decide +kernel), List.mem_of_getElem? (i := 850) (by decide +kernel), List.mem_of_getElem? (i := 851) (by decide +kernel)⟩
theorem lw_p21 : lw_okq (⟨"DonkeyVerdictsModel", "settles", "()V"⟩, 30) := ⟨⟨by decide +kernel, by decide +kernel⟩, List.mem_of_getElem? (i := 832) (by decide +kernel), List.mem_of_getElem? (i := 854) (by decide +kernel), List.mem_of_getElem? (i := 855) (by decide +kernel)⟩
theorem lw_p22 : lw_okq (⟨"DonkeyVerdictsModel", "copies", "(II)V"⟩, 30) := ⟨⟨by decide +kernel, by decide +kernel⟩, List.mem_of_getElem? (i := 832) (by decide +kernel), List.mem_of_getElem? (i := 861) (by decide +kernel), List.mem_of_getElem? (i := 862) (by decide +kernel)⟩
theorem lw_p23 : lw_okq (⟨"DonkeyVerdictsModel", "reads", "()Z"⟩, 30) := ⟨⟨by decide +kernel, by decide +kernel⟩, List.mem_of_getElem? (i := 832) (by decide +kernel), List.mem_of_getElem? (i := 973) (by decide +kernel), List.mem_of_getElem? (i := 974) (by decide +kernel)⟩
theorem lw_p24 : lw_okq (⟨"DonkeyVerdictsModel", "byteNow", "()I"⟩, 30) := ⟨⟨by decide +kernel, by decide +kernel⟩, List.mem_of_getElem? (i := 832) (by decide +kernel), List.mem_of_getElem? (i := 977) (by decide +kernel), List.mem_of_getElem? (i := 978) (by decide +kernel)⟩
theorem lw_p25 : lw_okq (⟨"DonkeyVerdictsModel", "item", "(IZ)Z"⟩, 30) := ⟨⟨by decide +kernel, by decide +kernel⟩, List.mem_of_getElem? (i := 832) (by decide +kernel), List.mem_of_getElem? (i := 981) (by decide +kernel), List.mem_of_getElem? (i := 982) (by decide +kernel)⟩
theorem lw_p26 : lw_okq (⟨"DonkeyVerdictsModel", "number", "(II)I"⟩, 30) := ⟨⟨by decide +kernel, by decide +kernel⟩, List.mem_of_getElem? (i := 832) (by decide +kernel), List.mem_of_getElem? (i := 985) (by decide +kernel), List.mem_of_getElem? (i := 986) (by decide +kernel)⟩
theorem lw_p27 : lw_okq (⟨"DonkeyVerdictsModel", "wayItem", "()V"⟩, 30) := ⟨⟨by decide +kernel, by decide +kernel⟩, List.mem_of_getElem? (i := 832) (by decide +kernel), List.mem_of_getElem? (i := 991) (by decide +kernel), List.mem_of_getElem? (i := 992) (by decide +kernel)⟩
theorem lw_p28 : lw_okq (⟨"DonkeyVerdictsModel", "more", "(II)I"⟩, 30) := ⟨⟨by decide +kernel, by decide +kernel⟩, List.mem_of_getElem? (i := 832) (by decide +kernel), List.mem_of_getElem? (i := 995) (by decide +kernel), List.mem_of_getElem? (i := 996) (by decide +kernel)⟩
theorem lw_p29 : lw_okq (⟨"DonkeyVerdictsModel", "doorItem", "()V"⟩, 30) := ⟨⟨by decide +kernel, by decide +kernel⟩, List.mem_of_getElem? (i := 832) (by decide +kernel), List.mem_of_getElem? (i := 999) (by decide +kernel), List.mem_of_getElem? (i := 1000) (by decide +kernel)⟩
theorem lw_p30 : lw_okq (⟨"DonkeyVerdictsModel", "beastItem", "()V"⟩, 30) := ⟨⟨by decide +kernel, by decide +kernel⟩, List.mem_of_getElem? (i := 832) (by decide +kernel), List.mem_of_getElem? (i := 1003) (by decide +kernel), List.mem_of_getElem? (i := 1004) (by decide +kernel)⟩
theorem lw_p31 : lw_okq (⟨"DonkeyVerdictsModel", "isPlace", "(I)Z"⟩, 30) := ⟨⟨by decide +kernel, by decide +kernel⟩, List.mem_of_getElem? (i := 832) (by decide +kernel), List.mem_of_getElem? (i := 1015) (by decide +kernel), List.mem_of_getElem? (i := 1016) (by decide +kernel)⟩
def lw_privs_2 : List (MethodName × Nat) := [(⟨"DonkeyVerdicts$Foresight", "act", "(I)V"⟩, 2), (⟨"DonkeyVerdictsModel", "clears", "()V"⟩, 30), (⟨"DonkeyVerdictsModel", "leads", "(III)V"⟩, 30), (⟨"DonkeyVerdictsModel", "opens", "(II)V"⟩, 30), (⟨"DonkeyVerdictsModel", "comes", "(III)V"⟩, 30), (⟨"DonkeyVerdictsModel", "settles", "()V"⟩, 30), (⟨"DonkeyVerdictsModel", "copies", "(II)V"⟩, 30), (⟨"DonkeyVerdictsModel", "reads", "()Z"⟩, 30), (⟨"DonkeyVerdictsModel", "byteNow", "()I"⟩, 30), (⟨"DonkeyVerdictsModel", "item", "(IZ)Z"⟩, 30), (⟨"DonkeyVerdictsModel", "number", "(II)I"⟩, 30), (⟨"DonkeyVerdictsModel", "wayItem", "()V"⟩, 30), (⟨"DonkeyVerdictsModel", "more", "(II)I"⟩, 30), (⟨"DonkeyVerdictsModel", "doorItem", "()V"⟩, 30), (⟨"DonkeyVerdictsModel", "beastItem", "()V"⟩, 30), (⟨"DonkeyVerdictsModel", "isPlace", "(I)Z"⟩, 30)]
theorem lw_r2 : ∀ q ∈ lw_privs_2, lw_okq q := List.forall_mem_cons.mpr ⟨lw_p16, List.forall_mem_cons.mpr ⟨lw_p17, List.forall_mem_cons.mpr ⟨lw_p18, List.forall_mem_cons.mpr ⟨lw_p19, List.forall_mem_cons.mpr ⟨lw_p20, List.forall_mem_cons.mpr ⟨lw_p21, List.forall_mem_cons.mpr ⟨lw_p22, List.forall_mem_cons.mpr ⟨lw_p23, List.forall_mem_cons.mpr ⟨lw_p24, List.forall_mem_cons.mpr ⟨lw_p25, List.forall_mem_cons.mpr ⟨lw_p26, List.forall_mem_cons.mpr ⟨lw_p27, List.forall_mem_cons.mpr ⟨lw_p28, List.forall_mem_cons.mpr ⟨lw_p29, List.forall_mem_cons.mpr ⟨lw_p30, List.forall_mem_cons.mpr ⟨lw_p31, fun _ h => absurd h List.not_mem_nil⟩⟩⟩⟩⟩⟩⟩⟩⟩⟩⟩⟩⟩⟩⟩⟩
theorem lw_p32 : lw_okq (⟨"DonkeyVerdictsModel", "standing", "(II)I"⟩, 30) := ⟨⟨by decide +kernel, by decide +kernel⟩, List.mem_of_getElem? (i := 832) (by decide +kernel), List.mem_of_getElem? (i := 1020) (by decide +kernel), List.mem_of_getElem? (i := 1021) (by decide +kernel)⟩
theorem lw_p33 : lw_okq (⟨"DonkeyVerdictsModel", "isDoor", "(I)Z"⟩, 30) := ⟨⟨by decide +kernel, by decide +kernel⟩, List.mem_of_getElem? (i := 832) (by decide +kernel), List.mem_of_getElem? (i := 1032) (by decide +kernel), List.mem_of_getElem? (i := 1033) (by decide +kernel)⟩
theorem lw_p34 : lw_okq (⟨"DonkeyVerdictsModel", "isBeast", "(I)Z"⟩, 30) := ⟨⟨by decide +kernel, by decide +kernel⟩, List.mem_of_getElem? (i := 832) (by decide +kernel), List.mem_of_getElem? (i := 1040) (by decide +kernel), List.mem_of_getElem? (i := 1041) (by decide +kernel)⟩
theorem lw_p35 : lw_okq (⟨"DonkeyVerdictsModel", "isOut", "(I)Z"⟩, 30) := ⟨⟨by decide +kernel, by decide +kernel⟩, List.mem_of_getElem? (i := 832) (by decide +kernel), List.mem_of_getElem? (i := 1049) (by decide +kernel), List.mem_of_getElem? (i := 1050) (by decide +kernel)⟩
theorem lw_p36 : lw_okq (⟨"DonkeyVerdictsModel", "signBy", "(III)I"⟩, 30) := ⟨⟨by decide +kernel, by decide +kernel⟩, List.mem_of_getElem? (i := 832) (by decide +kernel), List.mem_of_getElem? (i := 1053) (by decide +kernel), List.mem_of_getElem? (i := 1054) (by decide +kernel)⟩
theorem lw_p37 : lw_okq (⟨"DonkeyVerdictsModel", "canSend", "(III)Z"⟩, 30) := ⟨⟨by decide +kernel, by decide +kernel⟩, List.mem_of_getElem? (i := 832) (by decide +kernel), List.mem_of_getElem? (i := 1064) (by decide +kernel), List.mem_of_getElem? (i := 1065) (by decide +kernel)⟩
theorem lw_p38 : lw_okq (⟨"DonkeyVerdictsModel", "known", "()V"⟩, 30) := ⟨⟨by decide +kernel, by decide +kernel⟩, List.mem_of_getElem? (i := 832) (by decide +kernel), List.mem_of_getElem? (i := 1068) (by decide +kernel), List.mem_of_getElem? (i := 1069) (by decide +kernel)⟩
theorem lw_p39 : lw_okq (⟨"DonkeyVerdictsModel", "sends", "(IIII)V"⟩, 30) := ⟨⟨by decide +kernel, by decide +kernel⟩, List.mem_of_getElem? (i := 832) (by decide +kernel), List.mem_of_getElem? (i := 1072) (by decide +kernel), List.mem_of_getElem? (i := 1073) (by decide +kernel)⟩
theorem lw_p40 : lw_okq (⟨"DonkeyVerdictsModel", "hour", "(II)V"⟩, 30) := ⟨⟨by decide +kernel, by decide +kernel⟩, List.mem_of_getElem? (i := 832) (by decide +kernel), List.mem_of_getElem? (i := 1081) (by decide +kernel), List.mem_of_getElem? (i := 1082) (by decide +kernel)⟩
theorem lw_p41 : lw_okq (⟨"DonkeyVerdictsModel", "goesOn", "(II)V"⟩, 30) := ⟨⟨by decide +kernel, by decide +kernel⟩, List.mem_of_getElem? (i := 832) (by decide +kernel), List.mem_of_getElem? (i := 1085) (by decide +kernel), List.mem_of_getElem? (i := 1086) (by decide +kernel)⟩
theorem lw_p42 : lw_okq (⟨"DonkeyVerdictsModel", "goal", "(II)I"⟩, 30) := ⟨⟨by decide +kernel, by decide +kernel⟩, List.mem_of_getElem? (i := 832) (by decide +kernel), List.mem_of_getElem? (i := 1089) (by decide +kernel), List.mem_of_getElem? (i := 1090) (by decide +kernel)⟩
theorem lw_p43 : lw_okq (⟨"DonkeyVerdictsModel", "settlesAt", "(II)V"⟩, 30) := ⟨⟨by decide +kernel, by decide +kernel⟩, List.mem_of_getElem? (i := 832) (by decide +kernel), List.mem_of_getElem? (i := 1093) (by decide +kernel), List.mem_of_getElem? (i := 1094) (by decide +kernel)⟩
theorem lw_p44 : lw_okq (⟨"DonkeyVerdictsModel", "nextOn", "(II)I"⟩, 30) := ⟨⟨by decide +kernel, by decide +kernel⟩, List.mem_of_getElem? (i := 832) (by decide +kernel), List.mem_of_getElem? (i := 1097) (by decide +kernel), List.mem_of_getElem? (i := 1098) (by decide +kernel)⟩
theorem lw_p45 : lw_okq (⟨"DonkeyVerdictsModel", "arrivesIn", "(II)V"⟩, 30) := ⟨⟨by decide +kernel, by decide +kernel⟩, List.mem_of_getElem? (i := 832) (by decide +kernel), List.mem_of_getElem? (i := 1101) (by decide +kernel), List.mem_of_getElem? (i := 1102) (by decide +kernel)⟩
theorem lw_p46 : lw_okq (⟨"DonkeyVerdictsModel", "read", "(II)I"⟩, 30) := ⟨⟨by decide +kernel, by decide +kernel⟩, List.mem_of_getElem? (i := 832) (by decide +kernel), List.mem_of_getElem? (i := 1112) (by decide +kernel), List.mem_of_getElem? (i := 1113) (by decide +kernel)⟩
theorem lw_p47 : lw_okq (⟨"DonkeyVerdictsModel", "goesHome", "(II)V"⟩, 30) := ⟨⟨by decide +kernel, by decide +kernel⟩, List.mem_of_getElem? (i := 832) (by decide +kernel), List.mem_of_getElem? (i := 1116) (by decide +kernel), List.mem_of_getElem? (i := 1117) (by decide +kernel)⟩
def lw_privs_3 : List (MethodName × Nat) := [(⟨"DonkeyVerdictsModel", "standing", "(II)I"⟩, 30), (⟨"DonkeyVerdictsModel", "isDoor", "(I)Z"⟩, 30), (⟨"DonkeyVerdictsModel", "isBeast", "(I)Z"⟩, 30), (⟨"DonkeyVerdictsModel", "isOut", "(I)Z"⟩, 30), (⟨"DonkeyVerdictsModel", "signBy", "(III)I"⟩, 30), (⟨"DonkeyVerdictsModel", "canSend", "(III)Z"⟩, 30), (⟨"DonkeyVerdictsModel", "known", "()V"⟩, 30), (⟨"DonkeyVerdictsModel", "sends", "(IIII)V"⟩, 30), (⟨"DonkeyVerdictsModel", "hour", "(II)V"⟩, 30), (⟨"DonkeyVerdictsModel", "goesOn", "(II)V"⟩, 30), (⟨"DonkeyVerdictsModel", "goal", "(II)I"⟩, 30), (⟨"DonkeyVerdictsModel", "settlesAt", "(II)V"⟩, 30), (⟨"DonkeyVerdictsModel", "nextOn", "(II)I"⟩, 30), (⟨"DonkeyVerdictsModel", "arrivesIn", "(II)V"⟩, 30), (⟨"DonkeyVerdictsModel", "read", "(II)I"⟩, 30), (⟨"DonkeyVerdictsModel", "goesHome", "(II)V"⟩, 30)]
theorem lw_r3 : ∀ q ∈ lw_privs_3, lw_okq q := List.forall_mem_cons.mpr ⟨lw_p32, List.forall_mem_cons.mpr ⟨lw_p33, List.forall_mem_cons.mpr ⟨lw_p34, List.forall_mem_cons.mpr ⟨lw_p35, List.forall_mem_cons.mpr ⟨lw_p36, List.forall_mem_cons.mpr ⟨lw_p37, List.forall_mem_cons.mpr ⟨lw_p38, List.forall_mem_cons.mpr ⟨lw_p39, List.forall_mem_cons.mpr ⟨lw_p40, List.forall_mem_cons.mpr ⟨lw_p41, List.forall_mem_cons.mpr ⟨lw_p42, List.forall_mem_cons.mpr ⟨lw_p43, List.forall_mem_cons.mpr ⟨lw_p44, List.forall_mem_cons.mpr ⟨lw_p45, List.forall_mem_cons.mpr ⟨lw_p46, List.forall_mem_cons.mpr ⟨lw_p47, fun _ h => absurd h List.not_mem_nil⟩⟩⟩⟩⟩⟩⟩⟩⟩⟩⟩⟩⟩⟩⟩⟩
theorem lw_p48 : lw_okq (⟨"DonkeyVerdictsModel", "standsBehind", "(I)I"⟩, 30) := ⟨⟨by decide +kernel, by decide +kernel⟩, List.mem_of_getElem? (i := 832) (by decide +kernel), List.mem_of_getElem? (i := 1133) (by decide +kernel), List.mem_of_getElem? (i := 1134) (by decide +kernel)⟩
theorem lw_p49 : lw_okq (⟨"DonkeyVerdictsModel", "readThen", "(I)I"⟩, 30) := ⟨⟨by decide +kernel, by decide +kernel⟩, List.mem_of_getElem? (i := 832) (by decide +kernel), List.mem_of_getElem? (i := 1141) (by decide +kernel), List.mem_of_getElem? (i := 1142) (by decide +kernel)⟩
theorem lw_p50 : lw_okq (⟨"DonkeyVerdictsModel", "readSent", "(III)I"⟩, 30) := ⟨⟨by decide +kernel, by decide +kernel⟩, List.mem_of_getElem? (i := 832) (by decide +kernel), List.mem_of_getElem? (i := 1149) (by decide +kernel), List.mem_of_getElem? (i := 1150) (by decide +kernel)⟩
theorem lw_p51 : lw_okq (⟨"DonkeyVerdictsModel", "dealsSum", "(I)I"⟩, 30) := ⟨⟨by decide +kernel, by decide +kernel⟩, List.mem_of_getElem? (i := 832) (by decide +kernel), List.mem_of_getElem? (i := 1166) (by decide +kernel), List.mem_of_getElem? (i := 1167) (by decide +kernel)⟩
theorem lw_p52 : lw_okq (⟨"DonkeyVerdictsModel", "does", "(II)V"⟩, 30) := ⟨⟨by decide +kernel, by decide +kernel⟩, List.mem_of_getElem? (i := 832) (by decide +kernel), List.mem_of_getElem? (i := 1205) (by decide +kernel), List.mem_of_getElem? (i := 1206) (by decide +kernel)⟩
theorem lw_p53 : lw_okq (⟨"DonkeyVerdictsModel", "allWays", "()I"⟩, 30) := ⟨⟨by decide +kernel, by decide +kernel⟩, List.mem_of_getElem? (i := 832) (by decide +kernel), List.mem_of_getElem? (i := 1221) (by decide +kernel), List.mem_of_getElem? (i := 1222) (by decide +kernel)⟩
theorem lw_p54 : lw_okq (⟨"DonkeyVerdictsModel", "many", "(I)I"⟩, 30) := ⟨⟨by decide +kernel, by decide +kernel⟩, List.mem_of_getElem? (i := 832) (by decide +kernel), List.mem_of_getElem? (i := 1226) (by decide +kernel), List.mem_of_getElem? (i := 1227) (by decide +kernel)⟩
theorem lw_p55 : lw_okq (⟨"DonkeyVerdictsModel", "allCarrots", "()I"⟩, 30) := ⟨⟨by decide +kernel, by decide +kernel⟩, List.mem_of_getElem? (i := 832) (by decide +kernel), List.mem_of_getElem? (i := 1230) (by decide +kernel), List.mem_of_getElem? (i := 1231) (by decide +kernel)⟩
def lw_privs_4 : List (MethodName × Nat) := [(⟨"DonkeyVerdictsModel", "standsBehind", "(I)I"⟩, 30), (⟨"DonkeyVerdictsModel", "readThen", "(I)I"⟩, 30), (⟨"DonkeyVerdictsModel", "readSent", "(III)I"⟩, 30), (⟨"DonkeyVerdictsModel", "dealsSum", "(I)I"⟩, 30), (⟨"DonkeyVerdictsModel", "does", "(II)V"⟩, 30), (⟨"DonkeyVerdictsModel", "allWays", "()I"⟩, 30), (⟨"DonkeyVerdictsModel", "many", "(I)I"⟩, 30), (⟨"DonkeyVerdictsModel", "allCarrots", "()I"⟩, 30)]
theorem lw_r4 : ∀ q ∈ lw_privs_4, lw_okq q := List.forall_mem_cons.mpr ⟨lw_p48, List.forall_mem_cons.mpr ⟨lw_p49, List.forall_mem_cons.mpr ⟨lw_p50, List.forall_mem_cons.mpr ⟨lw_p51, List.forall_mem_cons.mpr ⟨lw_p52, List.forall_mem_cons.mpr ⟨lw_p53, List.forall_mem_cons.mpr ⟨lw_p54, List.forall_mem_cons.mpr ⟨lw_p55, fun _ h => absurd h List.not_mem_nil⟩⟩⟩⟩⟩⟩⟩⟩
def lw_privs : List (MethodName × Nat) := lw_privs_1 ++ (lw_privs_2 ++ (lw_privs_3 ++ (lw_privs_4)))
def lw_tbl : List Cond := k2_sels lw_privs ++ tables_1
theorem lw_privs_ok : ∀ q ∈ lw_privs, lw_okq q := by
  show ∀ q ∈ lw_privs_1 ++ (lw_privs_2 ++ (lw_privs_3 ++ (lw_privs_4))), lw_okq q
  exact List.forall_mem_append.mpr ⟨lw_r1, List.forall_mem_append.mpr ⟨lw_r2, List.forall_mem_append.mpr ⟨lw_r3, lw_r4⟩⟩⟩
end
section
/-! ===== BEGIN words of one list among another's, by their places ===== -/
theorem goodIn_r {big : List Cond} (ws : List Cond) (ps : List Nat) (hp : ws = ps.filterMap (fun i => big[i]?)) (h : ws.all goodWord = true) : GoodIn big ws := by
  intro w hw
  have h1 := List.all_eq_true.mp h w hw
  rw [hp] at hw
  obtain ⟨i, -, hi⟩ := List.mem_filterMap.mp hw
  have hm : w ∈ big := by first | exact List.mem_of_getElem? hi | exact List.getElem?_mem hi
  exact ⟨hm, good_of_word h1⟩
theorem goodIn_app {big a b : List Cond} (ha : GoodIn big a) (hb : GoodIn big b) : GoodIn big (a ++ b) := fun w h => (List.mem_append.mp h).elim (ha w) (hb w)
theorem goodIn_ca {big a b : List Cond} {c : Cond} (ha : GoodIn big (c :: a)) (hb : GoodIn big b) : GoodIn big (c :: (a ++ b)) := fun w h => (List.mem_cons.mp h).elim (fun e => ha w (List.mem_cons.mpr (Or.inl e))) (fun h => (List.mem_append.mp h).elim (fun h => ha w (List.mem_cons.mpr (Or.inr h))) (hb w))
theorem goodIn_sub {big ws : List Cond} (hm : ∀ w ∈ ws, w ∈ big) (h : ws.all goodWord = true) : GoodIn big ws := fun w hw => ⟨hm w hw, good_of_word (List.all_eq_true.mp h w hw)⟩
/-! ===== END ===== -/

/-! ===== BEGIN printed: names, fields, word lists, decode rows ===== -/
def RX0 : String := "DonkeyVerdicts$Balking"
def TX0 : u_T := fun k => match k with
  | _ => ("DonkeyVerdicts$Balking", "levels", "[LDonkeyVerdicts$Herd;", true)
def tyX0 : Nat → FieldType := fun k => match k with
  | _ => .array (.object "DonkeyVerdicts$Herd")
abbrev wsX00 : List Cond := u_ws RX0 TX0 1
theorem nmX0 : ∀ a, a < 1 → ∀ b, b < 1 → a ≠ b → (TX0 a).2.1 ≠ (TX0 b).2.1 := by decide +kernel
theorem tyX0_ok : ∀ k, k < 1 → parseFieldDescriptor (TX0 k).2.2.1 = some (tyX0 k) := by decide +kernel
abbrev cX0_init : ByteArray := prog_2_method_1_code
def yX0_init : MethodName := ⟨RX0, "<init>", "(LDonkeyVerdicts$Court;)V"⟩
abbrev cX0_weightOf : ByteArray := prog_2_method_2_code
def yX0_weightOf : MethodName := ⟨RX0, "weightOf", "(LDonkeyVerdicts$Herd;III)I"⟩
abbrev cX0_weigh : ByteArray := prog_2_method_3_code
def yX0_weigh : MethodName := ⟨RX0, "weigh", "(III)I"⟩
abbrev cX0_power : ByteArray := prog_2_method_4_code
def yX0_power : MethodName := ⟨RX0, "power", "(I)I"⟩
abbrev cX0_commonDivisor : ByteArray := prog_2_method_5_code
def yX0_commonDivisor : MethodName := ⟨RX0, "commonDivisor", "(II)I"⟩
def RX1 : String := "DonkeyVerdicts$Court"
def TX1 : u_T := fun k => match k with
  | 0 => ("DonkeyVerdicts$Court", "lengths", "[I", true)
  | 1 => ("DonkeyVerdicts$Court", "distances", "[I", true)
  | 2 => ("DonkeyVerdicts$Court", "hops", "[I", true)
  | 3 => ("DonkeyVerdicts$Court", "doorKinds", "[I", true)
  | 4 => ("DonkeyVerdicts$Court", "doorPlaces", "[I", true)
  | 5 => ("DonkeyVerdicts$Court", "kinds", "[I", true)
  | 6 => ("DonkeyVerdicts$Court", "paces", "[I", true)
  | 7 => ("DonkeyVerdicts$Court", "moods", "[I", true)
  | 8 => ("DonkeyVerdicts$Court", "carrotsLaid", "[I", true)
  | 9 => ("DonkeyVerdicts$Court", "mares", "[I", true)
  | 10 => ("DonkeyVerdicts$Court", "places", "I", false)
  | 11 => ("DonkeyVerdicts$Court", "doors", "I", false)
  | _ => ("DonkeyVerdicts$Court", "beasts", "I", false)
def tyX1 : Nat → FieldType := fun k => match k with
  | 0 => .array .int
  | 1 => .array .int
  | 2 => .array .int
  | 3 => .array .int
  | 4 => .array .int
  | 5 => .array .int
  | 6 => .array .int
  | 7 => .array .int
  | 8 => .array .int
  | 9 => .array .int
  | 10 => .int
  | 11 => .int
  | _ => .int
abbrev wsX10 : List Cond := u_ws RX1 TX1 13
theorem nmX1 : ∀ a, a < 13 → ∀ b, b < 13 → a ≠ b → (TX1 a).2.1 ≠ (TX1 b).2.1 := by decide +kernel
theorem tyX1_ok : ∀ k, k < 13 → parseFieldDescriptor (TX1 k).2.2.1 = some (tyX1 k) := by decide +kernel
abbrev cX1_init : ByteArray := prog_3_method_1_code
def yX1_init : MethodName := ⟨RX1, "<init>", "()V"⟩
abbrev cX1_clear : ByteArray := prog_3_method_2_code
def yX1_clear : MethodName := ⟨RX1, "clear", "()V"⟩
abbrev cX1_takePlaces : ByteArray := prog_3_method_3_code
def yX1_takePlaces : MethodName := ⟨RX1, "takePlaces", "(I)Z"⟩
abbrev cX1_takeWay : ByteArray := prog_3_method_4_code
def yX1_takeWay : MethodName := ⟨RX1, "takeWay", "(III)Z"⟩
abbrev cX1_takeDoor : ByteArray := prog_3_method_5_code
def yX1_takeDoor : MethodName := ⟨RX1, "takeDoor", "(II)Z"⟩
abbrev cX1_takeBeast : ByteArray := prog_3_method_6_code
def yX1_takeBeast : MethodName := ⟨RX1, "takeBeast", "(III)Z"⟩
abbrev cX1_takeCarrots : ByteArray := prog_3_method_7_code
def yX1_takeCarrots : MethodName := ⟨RX1, "takeCarrots", "(II)Z"⟩
abbrev cX1_takeMare : ByteArray := prog_3_method_8_code
def yX1_takeMare : MethodName := ⟨RX1, "takeMare", "(I)Z"⟩
abbrev cX1_measure : ByteArray := prog_3_method_9_code
def yX1_measure : MethodName := ⟨RX1, "measure", "()V"⟩
abbrev cX1_lowestHop : ByteArray := prog_3_method_10_code
def yX1_lowestHop : MethodName := ⟨RX1, "lowestHop", "(II)I"⟩
abbrev cX1_pair : ByteArray := prog_3_method_11_code
def yX1_pair : MethodName := ⟨RX1, "pair", "(II)I"⟩
abbrev cX1_distance : ByteArray := prog_3_method_12_code
def yX1_distance : MethodName := ⟨RX1, "distance", "(II)I"⟩
abbrev cX1_lengthOf : ByteArray := prog_3_method_13_code
def yX1_lengthOf : MethodName := ⟨RX1, "lengthOf", "(II)I"⟩
abbrev cX1_isReached : ByteArray := prog_3_method_14_code
def yX1_isReached : MethodName := ⟨RX1, "isReached", "(II)Z"⟩
abbrev cX1_hop : ByteArray := prog_3_method_15_code
def yX1_hop : MethodName := ⟨RX1, "hop", "(II)I"⟩
abbrev cX1_ways : ByteArray := prog_3_method_16_code
def yX1_ways : MethodName := ⟨RX1, "ways", "()I"⟩
abbrev cX1_places : ByteArray := prog_3_method_17_code
def yX1_places : MethodName := ⟨RX1, "places", "()I"⟩
abbrev cX1_doors : ByteArray := prog_3_method_18_code
def yX1_doors : MethodName := ⟨RX1, "doors", "()I"⟩
abbrev cX1_beasts : ByteArray := prog_3_method_19_code
def yX1_beasts : MethodName := ⟨RX1, "beasts", "()I"⟩
abbrev cX1_hasPlace : ByteArray := prog_3_method_20_code
def yX1_hasPlace : MethodName := ⟨RX1, "hasPlace", "(I)Z"⟩
abbrev cX1_hasDoor : ByteArray := prog_3_method_21_code
def yX1_hasDoor : MethodName := ⟨RX1, "hasDoor", "(I)Z"⟩
abbrev cX1_hasBeast : ByteArray := prog_3_method_22_code
def yX1_hasBeast : MethodName := ⟨RX1, "hasBeast", "(I)Z"⟩
abbrev cX1_hasMare : ByteArray := prog_3_method_23_code
def yX1_hasMare : MethodName := ⟨RX1, "hasMare", "(I)Z"⟩
abbrev cX1_doorKind : ByteArray := prog_3_method_24_code
def yX1_doorKind : MethodName := ⟨RX1, "doorKind", "(I)I"⟩
abbrev cX1_doorPlace : ByteArray := prog_3_method_25_code
def yX1_doorPlace : MethodName := ⟨RX1, "doorPlace", "(I)I"⟩
abbrev cX1_kind : ByteArray := prog_3_method_26_code
def yX1_kind : MethodName := ⟨RX1, "kind", "(I)I"⟩
abbrev cX1_pace : ByteArray := prog_3_method_27_code
def yX1_pace : MethodName := ⟨RX1, "pace", "(I)I"⟩
abbrev cX1_firstMood : ByteArray := prog_3_method_28_code
def yX1_firstMood : MethodName := ⟨RX1, "firstMood", "(I)I"⟩
abbrev cX1_firstCarrots : ByteArray := prog_3_method_29_code
def yX1_firstCarrots : MethodName := ⟨RX1, "firstCarrots", "(I)I"⟩
def RX2 : String := "DonkeyVerdicts$Dealer"
def TX2 : u_T := fun k => match k with
  | 0 => ("DonkeyVerdicts$Dealer", "court", "LDonkeyVerdicts$Court;", true)
  | 1 => ("DonkeyVerdicts$Dealer", "trial", "LDonkeyVerdicts$Herd;", true)
  | 2 => ("DonkeyVerdicts$Dealer", "hand", "[I", true)
  | _ => ("DonkeyVerdicts$Dealer", "best", "[I", true)
def tyX2 : Nat → FieldType := fun k => match k with
  | 0 => .object "DonkeyVerdicts$Court"
  | 1 => .object "DonkeyVerdicts$Herd"
  | 2 => .array .int
  | _ => .array .int
abbrev wsX20 : List Cond := u_ws RX2 TX2 4
theorem nmX2 : ∀ a, a < 4 → ∀ b, b < 4 → a ≠ b → (TX2 a).2.1 ≠ (TX2 b).2.1 := by decide +kernel
theorem tyX2_ok : ∀ k, k < 4 → parseFieldDescriptor (TX2 k).2.2.1 = some (tyX2 k) := by decide +kernel
abbrev cX2_init : ByteArray := prog_4_method_1_code
def yX2_init : MethodName := ⟨RX2, "<init>", "(LDonkeyVerdicts$Court;)V"⟩
abbrev cX2_fewestHours : ByteArray := prog_4_method_2_code
def yX2_fewestHours : MethodName := ⟨RX2, "fewestHours", "(LDonkeyVerdicts$Herd;I)I"⟩
abbrev cX2_beastAt : ByteArray := prog_4_method_3_code
def yX2_beastAt : MethodName := ⟨RX2, "beastAt", "(I)I"⟩
abbrev cX2_pick : ByteArray := prog_4_method_4_code
def yX2_pick : MethodName := ⟨RX2, "pick", "(I)V"⟩
abbrev cX2_sendHand : ByteArray := prog_4_method_5_code
def yX2_sendHand : MethodName := ⟨RX2, "sendHand", "(LDonkeyVerdicts$Herd;I)Z"⟩
abbrev cX2_awaitHand : ByteArray := prog_4_method_6_code
def yX2_awaitHand : MethodName := ⟨RX2, "awaitHand", "(I)I"⟩
abbrev cX2_going : ByteArray := prog_4_method_7_code
def yX2_going : MethodName := ⟨RX2, "going", "()I"⟩
def RX3 : String := "DonkeyVerdicts$Foresight"
def TX3 : u_T := fun k => match k with
  | 0 => ("DonkeyVerdicts$Foresight", "court", "LDonkeyVerdicts$Court;", true)
  | _ => ("DonkeyVerdicts$Foresight", "trial", "LDonkeyVerdicts$Herd;", true)
def tyX3 : Nat → FieldType := fun k => match k with
  | 0 => .object "DonkeyVerdicts$Court"
  | _ => .object "DonkeyVerdicts$Herd"
abbrev wsX30 : List Cond := u_ws RX3 TX3 2
theorem nmX3 : ∀ a, a < 2 → ∀ b, b < 2 → a ≠ b → (TX3 a).2.1 ≠ (TX3 b).2.1 := by decide +kernel
theorem tyX3_ok : ∀ k, k < 2 → parseFieldDescriptor (TX3 k).2.2.1 = some (tyX3 k) := by decide +kernel
abbrev cX3_init : ByteArray := prog_5_method_1_code
def yX3_init : MethodName := ⟨RX3, "<init>", "(LDonkeyVerdicts$Court;)V"⟩
abbrev cX3_hoursTill : ByteArray := prog_5_method_2_code
def yX3_hoursTill : MethodName := ⟨RX3, "hoursTill", "(LDonkeyVerdicts$Herd;I)I"⟩
abbrev cX3_readOf : ByteArray := prog_5_method_3_code
def yX3_readOf : MethodName := ⟨RX3, "readOf", "(LDonkeyVerdicts$Herd;I)I"⟩
abbrev cX3_awaitBeast : ByteArray := prog_5_method_4_code
def yX3_awaitBeast : MethodName := ⟨RX3, "awaitBeast", "(I)I"⟩
abbrev cX3_trySending : ByteArray := prog_5_method_5_code
def yX3_trySending : MethodName := ⟨RX3, "trySending", "(LDonkeyVerdicts$Herd;III)Z"⟩
abbrev cX3_rightBeasts : ByteArray := prog_5_method_6_code
def yX3_rightBeasts : MethodName := ⟨RX3, "rightBeasts", "(LDonkeyVerdicts$Herd;II)I"⟩
abbrev cX3_soonestBeast : ByteArray := prog_5_method_7_code
def yX3_soonestBeast : MethodName := ⟨RX3, "soonestBeast", "(LDonkeyVerdicts$Herd;II)I"⟩
abbrev cX3_verdictsReadAs : ByteArray := prog_5_method_8_code
def yX3_verdictsReadAs : MethodName := ⟨RX3, "verdictsReadAs", "(LDonkeyVerdicts$Herd;III)I"⟩
abbrev cX3_luringPlace : ByteArray := prog_5_method_9_code
def yX3_luringPlace : MethodName := ⟨RX3, "luringPlace", "(LDonkeyVerdicts$Herd;I)I"⟩
abbrev cX3_hoursTillMeeting : ByteArray := prog_5_method_10_code
def yX3_hoursTillMeeting : MethodName := ⟨RX3, "hoursTillMeeting", "(LDonkeyVerdicts$Herd;II)I"⟩
abbrev cX3_afterYear : ByteArray := prog_5_method_11_code
def yX3_afterYear : MethodName := ⟨RX3, "afterYear", "(LDonkeyVerdicts$Herd;II)LDonkeyVerdicts$Herd;"⟩
abbrev cX3_drawOf : ByteArray := prog_5_method_12_code
def yX3_drawOf : MethodName := ⟨RX3, "drawOf", "(II)I"⟩
abbrev cX3_act : ByteArray := prog_5_method_13_code
def yX3_act : MethodName := ⟨RX3, "act", "(I)V"⟩
abbrev cX3_wrap : ByteArray := prog_5_method_14_code
def yX3_wrap : MethodName := ⟨RX3, "wrap", "(II)I"⟩
def RX4 : String := "DonkeyVerdicts$Herd"
def TX4 : u_T := fun k => match k with
  | 0 => ("DonkeyVerdicts$Herd", "court", "LDonkeyVerdicts$Court;", true)
  | _ => ("DonkeyVerdicts$Herd", "cells", "[I", true)
def tyX4 : Nat → FieldType := fun k => match k with
  | 0 => .object "DonkeyVerdicts$Court"
  | _ => .array .int
abbrev wsX40 : List Cond := u_ws RX4 TX4 2
theorem nmX4 : ∀ a, a < 2 → ∀ b, b < 2 → a ≠ b → (TX4 a).2.1 ≠ (TX4 b).2.1 := by decide +kernel
theorem tyX4_ok : ∀ k, k < 2 → parseFieldDescriptor (TX4 k).2.2.1 = some (tyX4 k) := by decide +kernel
abbrev cX4_init : ByteArray := prog_6_method_1_code
def yX4_init : MethodName := ⟨RX4, "<init>", "(LDonkeyVerdicts$Court;)V"⟩
abbrev cX4_copy : ByteArray := prog_6_method_2_code
def yX4_copy : MethodName := ⟨RX4, "copy", "(LDonkeyVerdicts$Herd;)V"⟩
abbrev cX4_get : ByteArray := prog_6_method_3_code
def yX4_get : MethodName := ⟨RX4, "get", "(II)I"⟩
abbrev cX4_set : ByteArray := prog_6_method_4_code
def yX4_set : MethodName := ⟨RX4, "set", "(III)V"⟩
abbrev cX4_carrotsIn : ByteArray := prog_6_method_5_code
def yX4_carrotsIn : MethodName := ⟨RX4, "carrotsIn", "(I)I"⟩
abbrev cX4_putCarrots : ByteArray := prog_6_method_6_code
def yX4_putCarrots : MethodName := ⟨RX4, "putCarrots", "(II)V"⟩
abbrev cX4_hours : ByteArray := prog_6_method_7_code
def yX4_hours : MethodName := ⟨RX4, "hours", "()I"⟩
abbrev cX4_gather : ByteArray := prog_6_method_8_code
def yX4_gather : MethodName := ⟨RX4, "gather", "()V"⟩
abbrev cX4_is : ByteArray := prog_6_method_9_code
def yX4_is : MethodName := ⟨RX4, "is", "(II)Z"⟩
abbrev cX4_carries : ByteArray := prog_6_method_10_code
def yX4_carries : MethodName := ⟨RX4, "carries", "(I)Z"⟩
abbrev cX4_isUnderWay : ByteArray := prog_6_method_11_code
def yX4_isUnderWay : MethodName := ⟨RX4, "isUnderWay", "(I)Z"⟩
abbrev cX4_isIn : ByteArray := prog_6_method_12_code
def yX4_isIn : MethodName := ⟨RX4, "isIn", "(II)Z"⟩
abbrev cX4_canBeSent : ByteArray := prog_6_method_13_code
def yX4_canBeSent : MethodName := ⟨RX4, "canBeSent", "(II)Z"⟩
abbrev cX4_dispatch : ByteArray := prog_6_method_14_code
def yX4_dispatch : MethodName := ⟨RX4, "dispatch", "(III)V"⟩
abbrev cX4_callHome : ByteArray := prog_6_method_15_code
def yX4_callHome : MethodName := ⟨RX4, "callHome", "(I)V"⟩
abbrev cX4_goOn : ByteArray := prog_6_method_16_code
def yX4_goOn : MethodName := ⟨RX4, "goOn", "(I)V"⟩
abbrev cX4_move : ByteArray := prog_6_method_17_code
def yX4_move : MethodName := ⟨RX4, "move", "(I)V"⟩
abbrev cX4_arrive : ByteArray := prog_6_method_18_code
def yX4_arrive : MethodName := ⟨RX4, "arrive", "(III)V"⟩
abbrev cX4_end : ByteArray := prog_6_method_19_code
def yX4_end : MethodName := ⟨RX4, "end", "(I)V"⟩
abbrev cX4_signOf : ByteArray := prog_6_method_20_code
def yX4_signOf : MethodName := ⟨RX4, "signOf", "(II)I"⟩
abbrev cX4_readOf : ByteArray := prog_6_method_21_code
def yX4_readOf : MethodName := ⟨RX4, "readOf", "(I)I"⟩
abbrev cX4_readOf_ : ByteArray := prog_6_method_22_code
def yX4_readOf_ : MethodName := ⟨RX4, "readOf", "(II)I"⟩
abbrev cX4_verdictsOfSign : ByteArray := prog_6_method_23_code
def yX4_verdictsOfSign : MethodName := ⟨RX4, "verdictsOfSign", "(II)I"⟩
abbrev cX4_placeAhead : ByteArray := prog_6_method_24_code
def yX4_placeAhead : MethodName := ⟨RX4, "placeAhead", "(II)I"⟩
abbrev cX4_beastsIn : ByteArray := prog_6_method_25_code
def yX4_beastsIn : MethodName := ⟨RX4, "beastsIn", "(I)I"⟩
abbrev cX4_amount : ByteArray := prog_6_method_26_code
def yX4_amount : MethodName := ⟨RX4, "amount", "(I)I"⟩
abbrev cX4_carrotsInAll : ByteArray := prog_6_method_27_code
def yX4_carrotsInAll : MethodName := ⟨RX4, "carrotsInAll", "()I"⟩
abbrev cX4_readInSum : ByteArray := prog_6_method_28_code
def yX4_readInSum : MethodName := ⟨RX4, "readInSum", "()I"⟩
def RX5 : String := "DonkeyVerdicts$Letters"
def TX5 : u_T := fun k => match k with
  | 0 => ("DonkeyVerdicts$Letters", "signs", "[C", true)
  | _ => ("DonkeyVerdicts$Letters", "length", "I", false)
def tyX5 : Nat → FieldType := fun k => match k with
  | 0 => .array .char
  | _ => .int
abbrev wsX50 : List Cond := u_ws RX5 TX5 2
theorem nmX5 : ∀ a, a < 2 → ∀ b, b < 2 → a ≠ b → (TX5 a).2.1 ≠ (TX5 b).2.1 := by decide +kernel
theorem tyX5_ok : ∀ k, k < 2 → parseFieldDescriptor (TX5 k).2.2.1 = some (tyX5 k) := by decide +kernel
abbrev cX5_init : ByteArray := prog_7_method_1_code
def yX5_init : MethodName := ⟨RX5, "<init>", "()V"⟩
abbrev cX5_add : ByteArray := prog_7_method_2_code
def yX5_add : MethodName := ⟨RX5, "add", "(C)Z"⟩
abbrev cX5_at : ByteArray := prog_7_method_3_code
def yX5_at : MethodName := ⟨RX5, "at", "(I)C"⟩
abbrev cX5_length : ByteArray := prog_7_method_4_code
def yX5_length : MethodName := ⟨RX5, "length", "()I"⟩
abbrev cX5_clear : ByteArray := prog_7_method_5_code
def yX5_clear : MethodName := ⟨RX5, "clear", "()V"⟩
def RX6 : String := "DonkeyVerdicts$Rows"
def TX6 : u_T := fun k => match k with
  | _ => ("", "", "", false)
def tyX6 : Nat → FieldType := fun k => match k with
  | _ => .int
abbrev wsX60 : List Cond := u_ws RX6 TX6 0
theorem nmX6 : ∀ a, a < 0 → ∀ b, b < 0 → a ≠ b → (TX6 a).2.1 ≠ (TX6 b).2.1 := by decide +kernel
theorem tyX6_ok : ∀ k, k < 0 → parseFieldDescriptor (TX6 k).2.2.1 = some (tyX6 k) := by decide +kernel
abbrev cX6_at : ByteArray := prog_8_method_2_code
def yX6_at : MethodName := ⟨RX6, "at", "([II)I"⟩
abbrev cX6_put : ByteArray := prog_8_method_3_code
def yX6_put : MethodName := ⟨RX6, "put", "([III)V"⟩
abbrev cX6_clear : ByteArray := prog_8_method_4_code
def yX6_clear : MethodName := ⟨RX6, "clear", "([I)V"⟩
def RX7 : String := "DonkeyVerdicts$Scribe"
def TX7 : u_T := fun k => match k with
  | 0 => ("DonkeyVerdicts$Scribe", "numbers", "[I", true)
  | 1 => ("DonkeyVerdicts$Scribe", "amount", "I", false)
  | _ => ("DonkeyVerdicts$Scribe", "behind", "I", false)
def tyX7 : Nat → FieldType := fun k => match k with
  | 0 => .array .int
  | 1 => .int
  | _ => .int
abbrev wsX70 : List Cond := u_ws RX7 TX7 3
theorem nmX7 : ∀ a, a < 3 → ∀ b, b < 3 → a ≠ b → (TX7 a).2.1 ≠ (TX7 b).2.1 := by decide +kernel
theorem tyX7_ok : ∀ k, k < 3 → parseFieldDescriptor (TX7 k).2.2.1 = some (tyX7 k) := by decide +kernel
abbrev cX7_init : ByteArray := prog_9_method_1_code
def yX7_init : MethodName := ⟨RX7, "<init>", "()V"⟩
abbrev cX7_firstFault : ByteArray := prog_9_method_2_code
def yX7_firstFault : MethodName := ⟨RX7, "firstFault", "(LDonkeyVerdicts$Letters;LDonkeyVerdicts$Court;)I"⟩
abbrev cX7_split : ByteArray := prog_9_method_3_code
def yX7_split : MethodName := ⟨RX7, "split", "(LDonkeyVerdicts$Letters;I)Z"⟩
abbrev cX7_take : ByteArray := prog_9_method_4_code
def yX7_take : MethodName := ⟨RX7, "take", "(CLDonkeyVerdicts$Court;)Z"⟩
def RX8 : String := "DonkeyVerdicts$Shelf"
def TX8 : u_T := fun k => match k with
  | 0 => ("DonkeyVerdicts$Shelf", "herds", "[LDonkeyVerdicts$Herd;", true)
  | 1 => ("DonkeyVerdicts$Shelf", "top", "I", false)
  | _ => ("DonkeyVerdicts$Shelf", "size", "I", false)
def tyX8 : Nat → FieldType := fun k => match k with
  | 0 => .array (.object "DonkeyVerdicts$Herd")
  | 1 => .int
  | _ => .int
abbrev wsX80 : List Cond := u_ws RX8 TX8 3
theorem nmX8 : ∀ a, a < 3 → ∀ b, b < 3 → a ≠ b → (TX8 a).2.1 ≠ (TX8 b).2.1 := by decide +kernel
theorem tyX8_ok : ∀ k, k < 3 → parseFieldDescriptor (TX8 k).2.2.1 = some (tyX8 k) := by decide +kernel
abbrev cX8_init : ByteArray := prog_10_method_1_code
def yX8_init : MethodName := ⟨RX8, "<init>", "(LDonkeyVerdicts$Court;I)V"⟩
abbrev cX8_size : ByteArray := prog_10_method_2_code
def yX8_size : MethodName := ⟨RX8, "size", "()I"⟩
abbrev cX8_clear : ByteArray := prog_10_method_3_code
def yX8_clear : MethodName := ⟨RX8, "clear", "()V"⟩
abbrev cX8_push : ByteArray := prog_10_method_4_code
def yX8_push : MethodName := ⟨RX8, "push", "(LDonkeyVerdicts$Herd;)V"⟩
abbrev cX8_pop : ByteArray := prog_10_method_5_code
def yX8_pop : MethodName := ⟨RX8, "pop", "(LDonkeyVerdicts$Herd;)Z"⟩
def RX9 : String := "DonkeyVerdicts"
def TX9 : u_T := fun k => match k with
  | 0 => ("DonkeyVerdicts", "text", "LDonkeyVerdicts$Letters;", true)
  | 1 => ("DonkeyVerdicts", "scribe", "LDonkeyVerdicts$Scribe;", true)
  | 2 => ("DonkeyVerdicts", "court", "LDonkeyVerdicts$Court;", true)
  | 3 => ("DonkeyVerdicts", "draft", "LDonkeyVerdicts$Court;", true)
  | 4 => ("DonkeyVerdicts", "now", "LDonkeyVerdicts$Herd;", true)
  | 5 => ("DonkeyVerdicts", "past", "LDonkeyVerdicts$Shelf;", true)
  | 6 => ("DonkeyVerdicts", "kept", "LDonkeyVerdicts$Shelf;", true)
  | 7 => ("DonkeyVerdicts", "foresight", "LDonkeyVerdicts$Foresight;", true)
  | 8 => ("DonkeyVerdicts", "dealer", "LDonkeyVerdicts$Dealer;", true)
  | _ => ("DonkeyVerdicts", "balking", "LDonkeyVerdicts$Balking;", true)
def tyX9 : Nat → FieldType := fun k => match k with
  | 0 => .object "DonkeyVerdicts$Letters"
  | 1 => .object "DonkeyVerdicts$Scribe"
  | 2 => .object "DonkeyVerdicts$Court"
  | 3 => .object "DonkeyVerdicts$Court"
  | 4 => .object "DonkeyVerdicts$Herd"
  | 5 => .object "DonkeyVerdicts$Shelf"
  | 6 => .object "DonkeyVerdicts$Shelf"
  | 7 => .object "DonkeyVerdicts$Foresight"
  | 8 => .object "DonkeyVerdicts$Dealer"
  | _ => .object "DonkeyVerdicts$Balking"
abbrev wsX90 : List Cond := u_ws RX9 TX9 10
theorem nmX9 : ∀ a, a < 10 → ∀ b, b < 10 → a ≠ b → (TX9 a).2.1 ≠ (TX9 b).2.1 := by decide +kernel
theorem tyX9_ok : ∀ k, k < 10 → parseFieldDescriptor (TX9 k).2.2.1 = some (tyX9 k) := by decide +kernel
abbrev cX9_init : ByteArray := prog_1_method_1_code
def yX9_init : MethodName := ⟨RX9, "<init>", "()V"⟩
abbrev cX9_write : ByteArray := prog_1_method_2_code
def yX9_write : MethodName := ⟨RX9, "write", "(I)I"⟩
abbrev cX9_wipe : ByteArray := prog_1_method_3_code
def yX9_wipe : MethodName := ⟨RX9, "wipe", "()I"⟩
abbrev cX9_fault : ByteArray := prog_1_method_4_code
def yX9_fault : MethodName := ⟨RX9, "fault", "()I"⟩
abbrev cX9_lay : ByteArray := prog_1_method_5_code
def yX9_lay : MethodName := ⟨RX9, "lay", "()I"⟩
abbrev cX9_place : ByteArray := prog_1_method_6_code
def yX9_place : MethodName := ⟨RX9, "place", "(II)I"⟩
abbrev cX9_way : ByteArray := prog_1_method_7_code
def yX9_way : MethodName := ⟨RX9, "way", "(II)I"⟩
abbrev cX9_door : ByteArray := prog_1_method_8_code
def yX9_door : MethodName := ⟨RX9, "door", "(II)I"⟩
abbrev cX9_beast : ByteArray := prog_1_method_9_code
def yX9_beast : MethodName := ⟨RX9, "beast", "(II)I"⟩
abbrev cX9_sign : ByteArray := prog_1_method_10_code
def yX9_sign : MethodName := ⟨RX9, "sign", "(II)I"⟩
abbrev cX9_send : ByteArray := prog_1_method_11_code
def yX9_send : MethodName := ⟨RX9, "send", "(III)I"⟩
abbrev cX9_pass : ByteArray := prog_1_method_12_code
def yX9_pass : MethodName := ⟨RX9, "pass", "(I)I"⟩
abbrev cX9_home : ByteArray := prog_1_method_13_code
def yX9_home : MethodName := ⟨RX9, "home", "(I)I"⟩
abbrev cX9_carrots : ByteArray := prog_1_method_14_code
def yX9_carrots : MethodName := ⟨RX9, "carrots", "(II)I"⟩
abbrev cX9_undo : ByteArray := prog_1_method_15_code
def yX9_undo : MethodName := ⟨RX9, "undo", "()I"⟩
abbrev cX9_arrives : ByteArray := prog_1_method_16_code
def yX9_arrives : MethodName := ⟨RX9, "arrives", "(I)I"⟩
abbrev cX9_reading : ByteArray := prog_1_method_17_code
def yX9_reading : MethodName := ⟨RX9, "reading", "(I)I"⟩
abbrev cX9_right : ByteArray := prog_1_method_18_code
def yX9_right : MethodName := ⟨RX9, "right", "(II)I"⟩
abbrev cX9_soonest : ByteArray := prog_1_method_19_code
def yX9_soonest : MethodName := ⟨RX9, "soonest", "(II)I"⟩
abbrev cX9_tell : ByteArray := prog_1_method_20_code
def yX9_tell : MethodName := ⟨RX9, "tell", "(III)I"⟩
abbrev cX9_deal : ByteArray := prog_1_method_21_code
def yX9_deal : MethodName := ⟨RX9, "deal", "(II)I"⟩
abbrev cX9_lure : ByteArray := prog_1_method_22_code
def yX9_lure : MethodName := ⟨RX9, "lure", "(I)I"⟩
abbrev cX9_next : ByteArray := prog_1_method_23_code
def yX9_next : MethodName := ⟨RX9, "next", "(II)I"⟩
abbrev cX9_meet : ByteArray := prog_1_method_24_code
def yX9_meet : MethodName := ⟨RX9, "meet", "(II)I"⟩
abbrev cX9_told : ByteArray := prog_1_method_25_code
def yX9_told : MethodName := ⟨RX9, "told", "(II)I"⟩
abbrev cX9_who : ByteArray := prog_1_method_26_code
def yX9_who : MethodName := ⟨RX9, "who", "(III)I"⟩
abbrev cX9_balks : ByteArray := prog_1_method_27_code
def yX9_balks : MethodName := ⟨RX9, "balks", "(IIII)I"⟩
abbrev cX9_year : ByteArray := prog_1_method_28_code
def yX9_year : MethodName := ⟨RX9, "year", "(III)I"⟩
abbrev cX9_keep : ByteArray := prog_1_method_29_code
def yX9_keep : MethodName := ⟨RX9, "keep", "()I"⟩
abbrev cX9_back : ByteArray := prog_1_method_30_code
def yX9_back : MethodName := ⟨RX9, "back", "()I"⟩
abbrev cX9_count : ByteArray := prog_1_method_31_code
def yX9_count : MethodName := ⟨RX9, "count", "(I)I"⟩
abbrev cX9_isVerdict : ByteArray := prog_1_method_32_code
def yX9_isVerdict : MethodName := ⟨RX9, "isVerdict", "(I)Z"⟩
abbrev cX9_lowestBit : ByteArray := prog_1_method_33_code
def yX9_lowestBit : MethodName := ⟨RX9, "lowestBit", "(I)I"⟩
abbrev cX9_open : ByteArray := prog_1_method_34_code
def yX9_open : MethodName := ⟨RX9, "open", "()V"⟩
def RX10 : String := "DonkeyVerdictsModel"
def TX10 : u_T := fun k => match k with
  | 0 => ("DonkeyVerdictsModel", "places", "I", false)
  | 1 => ("DonkeyVerdictsModel", "ways", "[I", true)
  | 2 => ("DonkeyVerdictsModel", "far", "[I", true)
  | 3 => ("DonkeyVerdictsModel", "mares", "I", false)
  | 4 => ("DonkeyVerdictsModel", "doors", "I", false)
  | 5 => ("DonkeyVerdictsModel", "doorKind", "[I", true)
  | 6 => ("DonkeyVerdictsModel", "doorPlace", "[I", true)
  | 7 => ("DonkeyVerdictsModel", "beasts", "I", false)
  | 8 => ("DonkeyVerdictsModel", "sort", "[I", true)
  | 9 => ("DonkeyVerdictsModel", "pace", "[I", true)
  | 10 => ("DonkeyVerdictsModel", "newPlaces", "I", false)
  | 11 => ("DonkeyVerdictsModel", "newWays", "[I", true)
  | 12 => ("DonkeyVerdictsModel", "newMares", "I", false)
  | 13 => ("DonkeyVerdictsModel", "newDoors", "I", false)
  | 14 => ("DonkeyVerdictsModel", "newDoorKind", "[I", true)
  | 15 => ("DonkeyVerdictsModel", "newDoorPlace", "[I", true)
  | 16 => ("DonkeyVerdictsModel", "newBeasts", "I", false)
  | 17 => ("DonkeyVerdictsModel", "newSort", "[I", true)
  | 18 => ("DonkeyVerdictsModel", "newPace", "[I", true)
  | 19 => ("DonkeyVerdictsModel", "slot", "[I", true)
  | 20 => ("DonkeyVerdictsModel", "acts", "I", false)
  | 21 => ("DonkeyVerdictsModel", "keeps", "I", false)
  | 22 => ("DonkeyVerdictsModel", "length", "I", false)
  | 23 => ("DonkeyVerdictsModel", "text", "[B", true)
  | 24 => ("DonkeyVerdictsModel", "at", "I", false)
  | 25 => ("DonkeyVerdictsModel", "begin", "I", false)
  | 26 => ("DonkeyVerdictsModel", "isWrong", "Z", false)
  | 27 => ("DonkeyVerdictsModel", "stoodAt", "[I", true)
  | 28 => ("DonkeyVerdictsModel", "dealt", "[I", true)
  | _ => ("DonkeyVerdictsModel", "best", "[I", true)
def tyX10 : Nat → FieldType := fun k => match k with
  | 0 => .int
  | 1 => .array .int
  | 2 => .array .int
  | 3 => .int
  | 4 => .int
  | 5 => .array .int
  | 6 => .array .int
  | 7 => .int
  | 8 => .array .int
  | 9 => .array .int
  | 10 => .int
  | 11 => .array .int
  | 12 => .int
  | 13 => .int
  | 14 => .array .int
  | 15 => .array .int
  | 16 => .int
  | 17 => .array .int
  | 18 => .array .int
  | 19 => .array .int
  | 20 => .int
  | 21 => .int
  | 22 => .int
  | 23 => .array .byte
  | 24 => .int
  | 25 => .int
  | 26 => .boolean
  | 27 => .array .int
  | 28 => .array .int
  | _ => .array .int
abbrev wsX100 : List Cond := u_ws RX10 TX10 30
theorem nmX10 : ∀ a, a < 30 → ∀ b, b < 30 → a ≠ b → (TX10 a).2.1 ≠ (TX10 b).2.1 := by decide +kernel
theorem tyX10_ok : ∀ k, k < 30 → parseFieldDescriptor (TX10 k).2.2.1 = some (tyX10 k) := by decide +kernel
abbrev cX10_init : ByteArray := prog_12_method_1_code
def yX10_init : MethodName := ⟨RX10, "<init>", "()V"⟩
abbrev cX10_in : ByteArray := prog_12_method_2_code
def yX10_in : MethodName := ⟨RX10, "in", "(JJJ)Z"⟩
abbrev cX10_has : ByteArray := prog_12_method_3_code
def yX10_has : MethodName := ⟨RX10, "has", "(II)Z"⟩
abbrev cX10_smaller : ByteArray := prog_12_method_4_code
def yX10_smaller : MethodName := ⟨RX10, "smaller", "(II)I"⟩
abbrev cX10_larger : ByteArray := prog_12_method_5_code
def yX10_larger : MethodName := ⟨RX10, "larger", "(II)I"⟩
abbrev cX10_clears : ByteArray := prog_12_method_6_code
def yX10_clears : MethodName := ⟨RX10, "clears", "()V"⟩
abbrev cX10_leads : ByteArray := prog_12_method_7_code
def yX10_leads : MethodName := ⟨RX10, "leads", "(III)V"⟩
abbrev cX10_opens : ByteArray := prog_12_method_8_code
def yX10_opens : MethodName := ⟨RX10, "opens", "(II)V"⟩
abbrev cX10_comes : ByteArray := prog_12_method_9_code
def yX10_comes : MethodName := ⟨RX10, "comes", "(III)V"⟩
abbrev cX10_settles : ByteArray := prog_12_method_10_code
def yX10_settles : MethodName := ⟨RX10, "settles", "()V"⟩
abbrev cX10_copies : ByteArray := prog_12_method_11_code
def yX10_copies : MethodName := ⟨RX10, "copies", "(II)V"⟩
abbrev cX10_isPlace : ByteArray := prog_12_method_12_code
def yX10_isPlace : MethodName := ⟨RX10, "isPlace", "(I)Z"⟩
abbrev cX10_isDoor : ByteArray := prog_12_method_13_code
def yX10_isDoor : MethodName := ⟨RX10, "isDoor", "(I)Z"⟩
abbrev cX10_isBeast : ByteArray := prog_12_method_14_code
def yX10_isBeast : MethodName := ⟨RX10, "isBeast", "(I)Z"⟩
abbrev cX10_write : ByteArray := prog_12_method_15_code
def yX10_write : MethodName := ⟨RX10, "write", "(I)I"⟩
abbrev cX10_wipe : ByteArray := prog_12_method_16_code
def yX10_wipe : MethodName := ⟨RX10, "wipe", "()I"⟩
abbrev cX10_byteNow : ByteArray := prog_12_method_17_code
def yX10_byteNow : MethodName := ⟨RX10, "byteNow", "()I"⟩
abbrev cX10_number : ByteArray := prog_12_method_18_code
def yX10_number : MethodName := ⟨RX10, "number", "(II)I"⟩
abbrev cX10_more : ByteArray := prog_12_method_19_code
def yX10_more : MethodName := ⟨RX10, "more", "(II)I"⟩
abbrev cX10_wayItem : ByteArray := prog_12_method_20_code
def yX10_wayItem : MethodName := ⟨RX10, "wayItem", "()V"⟩
abbrev cX10_doorItem : ByteArray := prog_12_method_21_code
def yX10_doorItem : MethodName := ⟨RX10, "doorItem", "()V"⟩
abbrev cX10_beastItem : ByteArray := prog_12_method_22_code
def yX10_beastItem : MethodName := ⟨RX10, "beastItem", "()V"⟩
abbrev cX10_item : ByteArray := prog_12_method_23_code
def yX10_item : MethodName := ⟨RX10, "item", "(IZ)Z"⟩
abbrev cX10_reads : ByteArray := prog_12_method_24_code
def yX10_reads : MethodName := ⟨RX10, "reads", "()Z"⟩
abbrev cX10_fault : ByteArray := prog_12_method_25_code
def yX10_fault : MethodName := ⟨RX10, "fault", "()I"⟩
abbrev cX10_lay : ByteArray := prog_12_method_26_code
def yX10_lay : MethodName := ⟨RX10, "lay", "()I"⟩
abbrev cX10_standing : ByteArray := prog_12_method_27_code
def yX10_standing : MethodName := ⟨RX10, "standing", "(II)I"⟩
abbrev cX10_place : ByteArray := prog_12_method_28_code
def yX10_place : MethodName := ⟨RX10, "place", "(II)I"⟩
abbrev cX10_way : ByteArray := prog_12_method_29_code
def yX10_way : MethodName := ⟨RX10, "way", "(II)I"⟩
abbrev cX10_door : ByteArray := prog_12_method_30_code
def yX10_door : MethodName := ⟨RX10, "door", "(II)I"⟩
abbrev cX10_beast : ByteArray := prog_12_method_31_code
def yX10_beast : MethodName := ⟨RX10, "beast", "(II)I"⟩
abbrev cX10_signBy : ByteArray := prog_12_method_32_code
def yX10_signBy : MethodName := ⟨RX10, "signBy", "(III)I"⟩
abbrev cX10_read : ByteArray := prog_12_method_33_code
def yX10_read : MethodName := ⟨RX10, "read", "(II)I"⟩
abbrev cX10_isOut : ByteArray := prog_12_method_34_code
def yX10_isOut : MethodName := ⟨RX10, "isOut", "(I)Z"⟩
abbrev cX10_sign : ByteArray := prog_12_method_35_code
def yX10_sign : MethodName := ⟨RX10, "sign", "(II)I"⟩
abbrev cX10_known : ByteArray := prog_12_method_36_code
def yX10_known : MethodName := ⟨RX10, "known", "()V"⟩
abbrev cX10_canSend : ByteArray := prog_12_method_37_code
def yX10_canSend : MethodName := ⟨RX10, "canSend", "(III)Z"⟩
abbrev cX10_sends : ByteArray := prog_12_method_38_code
def yX10_sends : MethodName := ⟨RX10, "sends", "(IIII)V"⟩
abbrev cX10_goal : ByteArray := prog_12_method_39_code
def yX10_goal : MethodName := ⟨RX10, "goal", "(II)I"⟩
abbrev cX10_nextOn : ByteArray := prog_12_method_40_code
def yX10_nextOn : MethodName := ⟨RX10, "nextOn", "(II)I"⟩
abbrev cX10_settlesAt : ByteArray := prog_12_method_41_code
def yX10_settlesAt : MethodName := ⟨RX10, "settlesAt", "(II)V"⟩
abbrev cX10_arrivesIn : ByteArray := prog_12_method_42_code
def yX10_arrivesIn : MethodName := ⟨RX10, "arrivesIn", "(II)V"⟩
abbrev cX10_goesOn : ByteArray := prog_12_method_43_code
def yX10_goesOn : MethodName := ⟨RX10, "goesOn", "(II)V"⟩
abbrev cX10_hour : ByteArray := prog_12_method_44_code
def yX10_hour : MethodName := ⟨RX10, "hour", "(II)V"⟩
abbrev cX10_send : ByteArray := prog_12_method_45_code
def yX10_send : MethodName := ⟨RX10, "send", "(III)I"⟩
abbrev cX10_pass : ByteArray := prog_12_method_46_code
def yX10_pass : MethodName := ⟨RX10, "pass", "(I)I"⟩
abbrev cX10_goesHome : ByteArray := prog_12_method_47_code
def yX10_goesHome : MethodName := ⟨RX10, "goesHome", "(II)V"⟩
abbrev cX10_home : ByteArray := prog_12_method_48_code
def yX10_home : MethodName := ⟨RX10, "home", "(I)I"⟩
abbrev cX10_carrots : ByteArray := prog_12_method_49_code
def yX10_carrots : MethodName := ⟨RX10, "carrots", "(II)I"⟩
abbrev cX10_undo : ByteArray := prog_12_method_50_code
def yX10_undo : MethodName := ⟨RX10, "undo", "()I"⟩
abbrev cX10_standsBehind : ByteArray := prog_12_method_51_code
def yX10_standsBehind : MethodName := ⟨RX10, "standsBehind", "(I)I"⟩
abbrev cX10_arrives : ByteArray := prog_12_method_52_code
def yX10_arrives : MethodName := ⟨RX10, "arrives", "(I)I"⟩
abbrev cX10_readThen : ByteArray := prog_12_method_53_code
def yX10_readThen : MethodName := ⟨RX10, "readThen", "(I)I"⟩
abbrev cX10_reading : ByteArray := prog_12_method_54_code
def yX10_reading : MethodName := ⟨RX10, "reading", "(I)I"⟩
abbrev cX10_readSent : ByteArray := prog_12_method_55_code
def yX10_readSent : MethodName := ⟨RX10, "readSent", "(III)I"⟩
abbrev cX10_right : ByteArray := prog_12_method_56_code
def yX10_right : MethodName := ⟨RX10, "right", "(II)I"⟩
abbrev cX10_soonest : ByteArray := prog_12_method_57_code
def yX10_soonest : MethodName := ⟨RX10, "soonest", "(II)I"⟩
abbrev cX10_tell : ByteArray := prog_12_method_58_code
def yX10_tell : MethodName := ⟨RX10, "tell", "(III)I"⟩
abbrev cX10_dealsSum : ByteArray := prog_12_method_59_code
def yX10_dealsSum : MethodName := ⟨RX10, "dealsSum", "(I)I"⟩
abbrev cX10_deal : ByteArray := prog_12_method_60_code
def yX10_deal : MethodName := ⟨RX10, "deal", "(II)I"⟩
abbrev cX10_lure : ByteArray := prog_12_method_61_code
def yX10_lure : MethodName := ⟨RX10, "lure", "(I)I"⟩
abbrev cX10_next : ByteArray := prog_12_method_62_code
def yX10_next : MethodName := ⟨RX10, "next", "(II)I"⟩
abbrev cX10_meet : ByteArray := prog_12_method_63_code
def yX10_meet : MethodName := ⟨RX10, "meet", "(II)I"⟩
abbrev cX10_told : ByteArray := prog_12_method_64_code
def yX10_told : MethodName := ⟨RX10, "told", "(II)I"⟩
abbrev cX10_who : ByteArray := prog_12_method_65_code
def yX10_who : MethodName := ⟨RX10, "who", "(III)I"⟩
abbrev cX10_balks : ByteArray := prog_12_method_66_code
def yX10_balks : MethodName := ⟨RX10, "balks", "(IIII)I"⟩
abbrev cX10_does : ByteArray := prog_12_method_67_code
def yX10_does : MethodName := ⟨RX10, "does", "(II)V"⟩
abbrev cX10_year : ByteArray := prog_12_method_68_code
def yX10_year : MethodName := ⟨RX10, "year", "(III)I"⟩
abbrev cX10_keep : ByteArray := prog_12_method_69_code
def yX10_keep : MethodName := ⟨RX10, "keep", "()I"⟩
abbrev cX10_back : ByteArray := prog_12_method_70_code
def yX10_back : MethodName := ⟨RX10, "back", "()I"⟩
abbrev cX10_many : ByteArray := prog_12_method_71_code
def yX10_many : MethodName := ⟨RX10, "many", "(I)I"⟩
abbrev cX10_allWays : ByteArray := prog_12_method_72_code
def yX10_allWays : MethodName := ⟨RX10, "allWays", "()I"⟩
abbrev cX10_allCarrots : ByteArray := prog_12_method_73_code
def yX10_allCarrots : MethodName := ⟨RX10, "allCarrots", "()I"⟩
abbrev cX10_count : ByteArray := prog_12_method_74_code
def yX10_count : MethodName := ⟨RX10, "count", "(I)I"⟩
def RJ6 : String := "java/lang/Integer"
def TJ6 : u_T := fun k => match k with
  | _ => ("", "", "", false)
def tyJ6 : Nat → FieldType := fun k => match k with
  | _ => .int
abbrev wsJ60 : List Cond := u_ws RJ6 TJ6 0
theorem nmJ6 : ∀ a, a < 0 → ∀ b, b < 0 → a ≠ b → (TJ6 a).2.1 ≠ (TJ6 b).2.1 := by decide +kernel
theorem tyJ6_ok : ∀ k, k < 0 → parseFieldDescriptor (TJ6 k).2.2.1 = some (tyJ6 k) := by decide +kernel
abbrev cJ6_bitCount_0f7a4 : ByteArray := prog_13_method_49_code
def yJ6_bitCount_0f7a4 : MethodName := ⟨RJ6, "bitCount", "(I)I"⟩
def RJ9 : String := "java/lang/Math"
def TJ9 : u_T := fun k => match k with
  | _ => ("", "", "", false)
def tyJ9 : Nat → FieldType := fun k => match k with
  | _ => .int
abbrev wsJ90 : List Cond := u_ws RJ9 TJ9 0
theorem nmJ9 : ∀ a, a < 0 → ∀ b, b < 0 → a ≠ b → (TJ9 a).2.1 ≠ (TJ9 b).2.1 := by decide +kernel
theorem tyJ9_ok : ∀ k, k < 0 → parseFieldDescriptor (TJ9 k).2.2.1 = some (tyJ9 k) := by decide +kernel
abbrev cJ9_max_7cf53 : ByteArray := prog_14_method_65_code
def yJ9_max_7cf53 : MethodName := ⟨RJ9, "max", "(II)I"⟩
abbrev cJ9_min_7cf53 : ByteArray := prog_14_method_69_code
def yJ9_min_7cf53 : MethodName := ⟨RJ9, "min", "(II)I"⟩
def RJ0 : String := "java/lang/String"
def TJ0 : u_T := fun k => match k with
  | _ => ("", "", "", false)
def tyJ0 : Nat → FieldType := fun k => match k with
  | _ => .int
abbrev wsJ00 : List Cond := u_ws RJ0 TJ0 0
theorem nmJ0 : ∀ a, a < 0 → ∀ b, b < 0 → a ≠ b → (TJ0 a).2.1 ≠ (TJ0 b).2.1 := by decide +kernel
theorem tyJ0_ok : ∀ k, k < 0 → parseFieldDescriptor (TJ0 k).2.2.1 = some (tyJ0 k) := by decide +kernel
abbrev cJ0_length_8abf5 : ByteArray := prog_15_method_54_code
def yJ0_length_8abf5 : MethodName := ⟨RJ0, "length", "()I"⟩
abbrev cJ0_charAt_5068e : ByteArray := prog_15_method_56_code
def yJ0_charAt_5068e : MethodName := ⟨RJ0, "charAt", "(I)C"⟩
abbrev cJ0_coder_7d493 : ByteArray := prog_15_method_152_code
def yJ0_coder_7d493 : MethodName := ⟨RJ0, "coder", "()B"⟩
abbrev cJ0_isLatin1_aae02 : ByteArray := prog_15_method_154_code
def yJ0_isLatin1_aae02 : MethodName := ⟨RJ0, "isLatin1", "()Z"⟩
abbrev cJ0_checkIndex_df160 : ByteArray := prog_15_method_155_code
def yJ0_checkIndex_df160 : MethodName := ⟨RJ0, "checkIndex", "(II)V"⟩
def RJ1 : String := "java/lang/StringLatin1"
def TJ1 : u_T := fun k => match k with
  | _ => ("", "", "", false)
def tyJ1 : Nat → FieldType := fun k => match k with
  | _ => .int
abbrev wsJ10 : List Cond := u_ws RJ1 TJ1 0
theorem nmJ1 : ∀ a, a < 0 → ∀ b, b < 0 → a ≠ b → (TJ1 a).2.1 ≠ (TJ1 b).2.1 := by decide +kernel
theorem tyJ1_ok : ∀ k, k < 0 → parseFieldDescriptor (TJ1 k).2.2.1 = some (tyJ1 k) := by decide +kernel
abbrev cJ1_charAt_3b067 : ByteArray := prog_16_method_2_code
def yJ1_charAt_3b067 : MethodName := ⟨RJ1, "charAt", "([BI)C"⟩
def RJ2 : String := "java/lang/StringUTF16"
def TJ2 : u_T := fun k => match k with
  | _ => ("", "", "", false)
def tyJ2 : Nat → FieldType := fun k => match k with
  | _ => .int
abbrev wsJ20 : List Cond := u_ws RJ2 TJ2 0
theorem nmJ2 : ∀ a, a < 0 → ∀ b, b < 0 → a ≠ b → (TJ2 a).2.1 ≠ (TJ2 b).2.1 := by decide +kernel
theorem tyJ2_ok : ∀ k, k < 0 → parseFieldDescriptor (TJ2 k).2.2.1 = some (tyJ2 k) := by decide +kernel
abbrev cJ2_getChar_3b067 : ByteArray := prog_17_method_5_code
def yJ2_getChar_3b067 : MethodName := ⟨RJ2, "getChar", "([BI)C"⟩
abbrev cJ2_length_9d52b : ByteArray := prog_17_method_6_code
def yJ2_length_9d52b : MethodName := ⟨RJ2, "length", "([B)I"⟩
abbrev cJ2_charAt_3b067 : ByteArray := prog_17_method_83_code
def yJ2_charAt_3b067 : MethodName := ⟨RJ2, "charAt", "([BI)C"⟩
abbrev cJ2_checkIndex_2214a : ByteArray := prog_17_method_91_code
def yJ2_checkIndex_2214a : MethodName := ⟨RJ2, "checkIndex", "(I[B)V"⟩
def RJ10 : String := "java/lang/System"
def TJ10 : u_T := fun k => match k with
  | _ => ("", "", "", false)
def tyJ10 : Nat → FieldType := fun k => match k with
  | _ => .int
abbrev wsJ100 : List Cond := u_ws RJ10 TJ10 0
theorem nmJ10 : ∀ a, a < 0 → ∀ b, b < 0 → a ≠ b → (TJ10 a).2.1 ≠ (TJ10 b).2.1 := by decide +kernel
theorem tyJ10_ok : ∀ k, k < 0 → parseFieldDescriptor (TJ10 k).2.2.1 = some (tyJ10 k) := by decide +kernel
def RJ3 : String := "jdk/internal/util/Preconditions"
def TJ3 : u_T := fun k => match k with
  | _ => ("", "", "", false)
def tyJ3 : Nat → FieldType := fun k => match k with
  | _ => .int
abbrev wsJ30 : List Cond := u_ws RJ3 TJ3 0
theorem nmJ3 : ∀ a, a < 0 → ∀ b, b < 0 → a ≠ b → (TJ3 a).2.1 ≠ (TJ3 b).2.1 := by decide +kernel
theorem tyJ3_ok : ∀ k, k < 0 → parseFieldDescriptor (TJ3 k).2.2.1 = some (tyJ3 k) := by decide +kernel
abbrev cJ3_checkIndex_8e157 : ByteArray := prog_19_method_11_code
def yJ3_checkIndex_8e157 : MethodName := ⟨RJ3, "checkIndex", "(IILjava/util/function/BiFunction;)I"⟩
def RL : String := "DonkeyVerdictsLaw"
abbrev cL_law : ByteArray := code
def yL_law : MethodName := ⟨RL, "law", "([I)Z"⟩
abbrev vwCl : List vw_C := [(RX0, TX0, 1), (RX1, TX1, 13), (RX2, TX2, 4), (RX3, TX3, 2), (RX4, TX4, 2), (RX5, TX5, 2), (RX7, TX7, 3), (RX8, TX8, 3), (RX9, TX9, 10), (RX10, TX10, 30)]
/-- the words that any method may carry -/
def tbg : List Cond := lw_tbl.filter goodWord
theorem tbg_good {w : Cond} (h : w ∈ tbg) : (w.onTables && w.keeps) = true ∨ ∃ ty, w = .arrayClass ty := good_of_word (List.mem_filter.mp h).2
theorem tbg_mem (i : Nat) {w : Cond} (h : lw_tbl[i]? = some w) (g : goodWord w = true) : w ∈ tbg := List.mem_filter.mpr ⟨List.mem_of_getElem? h, g⟩
set_option maxRecDepth 20000 in
theorem in0X0 : ∀ w ∈ wsX00, w ∈ lw_tbl := by decide +kernel
set_option maxRecDepth 20000 in
theorem gdX0 : wsX00.all goodWord = true := by decide +kernel
set_option maxRecDepth 20000 in
theorem inX0 : ∀ w ∈ wsX00, w ∈ tbg := fun w h => List.mem_filter.mpr ⟨in0X0 w h, List.all_eq_true.mp gdX0 w h⟩
set_option maxRecDepth 20000 in
theorem in0X1 : ∀ w ∈ wsX10, w ∈ lw_tbl := by decide +kernel
set_option maxRecDepth 20000 in
theorem gdX1 : wsX10.all goodWord = true := by decide +kernel
set_option maxRecDepth 20000 in
theorem inX1 : ∀ w ∈ wsX10, w ∈ tbg := fun w h => List.mem_filter.mpr ⟨in0X1 w h, List.all_eq_true.mp gdX1 w h⟩
set_option maxRecDepth 20000 in
theorem in0X2 : ∀ w ∈ wsX20, w ∈ lw_tbl := by decide +kernel
set_option maxRecDepth 20000 in
theorem gdX2 : wsX20.all goodWord = true := by decide +kernel
set_option maxRecDepth 20000 in
theorem inX2 : ∀ w ∈ wsX20, w ∈ tbg := fun w h => List.mem_filter.mpr ⟨in0X2 w h, List.all_eq_true.mp gdX2 w h⟩
set_option maxRecDepth 20000 in
theorem in0X3 : ∀ w ∈ wsX30, w ∈ lw_tbl := by decide +kernel
set_option maxRecDepth 20000 in
theorem gdX3 : wsX30.all goodWord = true := by decide +kernel
set_option maxRecDepth 20000 in
theorem inX3 : ∀ w ∈ wsX30, w ∈ tbg := fun w h => List.mem_filter.mpr ⟨in0X3 w h, List.all_eq_true.mp gdX3 w h⟩
set_option maxRecDepth 20000 in
theorem in0X4 : ∀ w ∈ wsX40, w ∈ lw_tbl := by decide +kernel
set_option maxRecDepth 20000 in
theorem gdX4 : wsX40.all goodWord = true := by decide +kernel
set_option maxRecDepth 20000 in
theorem inX4 : ∀ w ∈ wsX40, w ∈ tbg := fun w h => List.mem_filter.mpr ⟨in0X4 w h, List.all_eq_true.mp gdX4 w h⟩
set_option maxRecDepth 20000 in
theorem in0X5 : ∀ w ∈ wsX50, w ∈ lw_tbl := by decide +kernel
set_option maxRecDepth 20000 in
theorem gdX5 : wsX50.all goodWord = true := by decide +kernel
set_option maxRecDepth 20000 in
theorem inX5 : ∀ w ∈ wsX50, w ∈ tbg := fun w h => List.mem_filter.mpr ⟨in0X5 w h, List.all_eq_true.mp gdX5 w h⟩
set_option maxRecDepth 20000 in
theorem in0X6 : ∀ w ∈ wsX60, w ∈ lw_tbl := by decide +kernel
set_option maxRecDepth 20000 in
theorem gdX6 : wsX60.all goodWord = true := by decide +kernel
set_option maxRecDepth 20000 in
theorem inX6 : ∀ w ∈ wsX60, w ∈ tbg := fun w h => List.mem_filter.mpr ⟨in0X6 w h, List.all_eq_true.mp gdX6 w h⟩
set_option maxRecDepth 20000 in
theorem in0X7 : ∀ w ∈ wsX70, w ∈ lw_tbl := by decide +kernel
set_option maxRecDepth 20000 in
theorem gdX7 : wsX70.all goodWord = true := by decide +kernel
set_option maxRecDepth 20000 in
theorem inX7 : ∀ w ∈ wsX70, w ∈ tbg := fun w h => List.mem_filter.mpr ⟨in0X7 w h, List.all_eq_true.mp gdX7 w h⟩
set_option maxRecDepth 20000 in
theorem in0X8 : ∀ w ∈ wsX80, w ∈ lw_tbl := by decide +kernel
set_option maxRecDepth 20000 in
theorem gdX8 : wsX80.all goodWord = true := by decide +kernel
set_option maxRecDepth 20000 in
theorem inX8 : ∀ w ∈ wsX80, w ∈ tbg := fun w h => List.mem_filter.mpr ⟨in0X8 w h, List.all_eq_true.mp gdX8 w h⟩
set_option maxRecDepth 20000 in
theorem in0X9 : ∀ w ∈ wsX90, w ∈ lw_tbl := by decide +kernel
set_option maxRecDepth 20000 in
theorem gdX9 : wsX90.all goodWord = true := by decide +kernel
set_option maxRecDepth 20000 in
theorem inX9 : ∀ w ∈ wsX90, w ∈ tbg := fun w h => List.mem_filter.mpr ⟨in0X9 w h, List.all_eq_true.mp gdX9 w h⟩
set_option maxRecDepth 20000 in
theorem in0X10 : ∀ w ∈ wsX100, w ∈ lw_tbl := by decide +kernel
set_option maxRecDepth 20000 in
theorem gdX10 : wsX100.all goodWord = true := by decide +kernel
set_option maxRecDepth 20000 in
theorem inX10 : ∀ w ∈ wsX100, w ∈ tbg := fun w h => List.mem_filter.mpr ⟨in0X10 w h, List.all_eq_true.mp gdX10 w h⟩
end
section
/-! MEMORY: a system of cells with a fixed shape; its state is one number for each cell and place -/
abbrev Mem : Type := Nat → Nat → Int32
abbrev Res : Type := Option (Int32 × Mem)
/-- the machine's part of a walk -/
abbrev jC : Type := Program × Launch × Env × Room × State × MethodId × Array Value × List Frame × Method × Code
/-- the method's part: bytes, locals, class, what it returns, its room -/
abbrev jM : Type := ByteArray × Nat × String × Option FieldType × Room
/-- the system: classes, address of a cell, classes of arrays, how many cells, kind of each, lengths, fields that refer, rows that refer -/
abbrev jS : Type := va_G × (Nat → Nat) × (Nat → ClassId) × Nat × (Nat → Nat) × (Nat → Nat) × (Nat → Nat → Option Nat) × (Nat → Nat → Nat)
abbrev gD (G : jS) : va_G := G.1
abbrev gad (G : jS) : Nat → Nat := G.2.1
abbrev gcA (G : jS) : Nat → ClassId := G.2.2.1
abbrev gN (G : jS) : Nat := G.2.2.2.1
abbrev gty (G : jS) : Nat → Nat := G.2.2.2.2.1
abbrev gln (G : jS) : Nat → Nat := G.2.2.2.2.2.1
abbrev grf (G : jS) : Nat → Nat → Option Nat := G.2.2.2.2.2.2.1
abbrev grt (G : jS) : Nat → Nat → Nat := G.2.2.2.2.2.2.2
def ncl (c : Nat) : Nat := match vwCl[c]? with
  | some q => q.2.2
  | none => 0
def fdV (G : jS) (M : Mem) (k j : Nat) : Value := match grf G k j with
  | some t => .ref (gad G t)
  | none => .int (M k j)
def cellOf (G : jS) (M : Mem) (k : Nat) : va_E :=
  if gty G k < 20 then .inr (gty G k, (List.range (ncl (gty G k))).map (fdV G M k))
  else .inl (gcA G (gty G k), gln G k, if gty G k = 23 then .inr (.inr (.inr (.inr (fun i => some (gad G (grt G k i)))))) else .inl (M k))
def wld (G : jS) (M : Mem) : va_W := (List.range (gN G)).map (fun k => (gad G k, cellOf G M k))
def tyL (G : jS) : List (ClassId × FieldType) := [(gcA G 20, .int), (gcA G 21, .byte), (gcA G 22, .char), (gcA G 23, .object "DonkeyVerdicts$Herd")]
def jA (G : jS) : Nat → Prop := fun q => ∃ k, k < gN G ∧ q = gad G k
def jInj (G : jS) : Prop := ∀ i j, i < gN G → j < gN G → gad G i = gad G j → i = j
def up2 (M : Mem) (k j : Nat) (v : Int32) : Mem := fun a => if a = k then (fun b => if b = j then v else M a b) else M a
def upR (M : Mem) (k : Nat) (f : Nat → Int32) : Mem := fun a => if a = k then f else M a
theorem up2_eq (M : Mem) (k j : Nat) (v : Int32) : up2 M k j v = upR M k (upd (M k) j v) := by
  funext a b
  by_cases h : a = k
  · subst h; simp [up2, upR, upd]
  · simp [up2, upR, h]
theorem wld_get {G : jS} {M : Mem} {k : Nat} (h : k < gN G) : (wld G M)[k]? = some (gad G k, cellOf G M k) := by
  simp [wld, h]
theorem cell_same {G : jS} {M M' : Mem} {k : Nat} (h : M' k = M k) : cellOf G M' k = cellOf G M k := by
  have e : fdV G M' k = fdV G M k := by funext j; simp [fdV, h]
  simp [cellOf, h, e]
theorem wld_set {G : jS} {M M' : Mem} {k : Nat} (h : k < gN G) (hM : ∀ a, a ≠ k → M' a = M a) {x : va_E} (hx : x = cellOf G M' k) : (wld G M).set k (gad G k, x) = wld G M' := by
  subst hx
  apply List.ext_getElem?
  intro i
  by_cases hi : i < gN G
  · by_cases e : i = k
    · subst e
      rw [List.getElem?_set_self (by simp [wld]; exact h), wld_get h]
    · rw [List.getElem?_set_ne (Ne.symm e), wld_get hi, wld_get hi, cell_same (hM i e)]
  · rw [List.getElem?_eq_none (by simp [wld]; omega), List.getElem?_eq_none (by simp [wld]; omega)]
theorem wld_D {G : jS} (hi : jInj G) (M : Mem) : va_D (jA G) (wld G M) := by
  have key : ∀ (k : Nat) (q : Nat × va_E), (wld G M)[k]? = some q → k < gN G ∧ q.1 = gad G k := by
    intro k q hq
    have hl : k < gN G := by
      have := (List.getElem?_eq_some_iff.mp hq).1
      simpa [wld] using this
    rw [wld_get hl] at hq
    exact ⟨hl, by cases hq; rfl⟩
  refine ⟨fun i j p q h1 h2 h3 => ?_, fun k q h => ?_⟩
  · obtain ⟨a1, a2⟩ := key i p h1
    obtain ⟨b1, b2⟩ := key j q h2
    exact hi i j a1 b1 (by rw [← a2, ← b2]; exact h3)
  · obtain ⟨a1, a2⟩ := key k q h
    exact ⟨k, a1, a2⟩
theorem cell_obj {G : jS} {M : Mem} {k c : Nat} (h : gty G k = c) (hc : c < 20) : cellOf G M k = .inr (c, (List.range (ncl c)).map (fdV G M k)) := by
  subst h; simp [cellOf, hc]
theorem cell_arr {G : jS} {M : Mem} {k t n : Nat} (h : gty G k = t) (hn : gln G k = n) (ht : t = 20 ∨ t = 21 ∨ t = 22) : cellOf G M k = .inl (gcA G t, n, .inl (M k)) := by
  subst h; subst hn
  have h1 : ¬ gty G k < 20 := by omega
  have h2 : ¬ gty G k = 23 := by omega
  simp [cellOf, h1, h2]
theorem cell_ref {G : jS} {M : Mem} {k n : Nat} (h : gty G k = 23) (hn : gln G k = n) : cellOf G M k = .inl (gcA G 23, n, .inr (.inr (.inr (.inr (fun i => some (gad G (grt G k i))))))) := by
  subst hn
  simp [cellOf, h]
/-- what a method's end says -/
def rvO (ret : Option FieldType) (G : jS) (r : Int32) : Option Value := match ret with
  | none => none
  | some (.object _) => some (.ref (gad G r.toNatClampNeg))
  | some _ => some (.int r)
def jQ (G : jS) (ret : Option FieldType) (r : Int32) (M' : Mem) : Array Value → State → Outcome → State → Prop := fun _ st oc t =>
  (oc = .returned (rvO ret G r) ∧ va_P (gD G) vwCl (wld G M') t.heap) ∧ va_F (jA G) st t
abbrev jW (X : jC) (G : jS) (ret : Option FieldType) (H : Heap) (locs : List Loc) (r : Int32) (M' : Mem) (g : JFrame) : Prop :=
  W X.1 X.2.1 X.2.2.1 X.2.2.2.1 X.2.2.2.2.1 X.2.2.2.2.2.1 X.2.2.2.2.2.2.1 X.2.2.2.2.2.2.2.1 X.2.2.2.2.2.2.2.2.1 X.2.2.2.2.2.2.2.2.2 H locs 0 0 (MQ X.2.2.2.2.2.2.2.1 (jQ G ret r M') X.2.2.2.2.2.2.1 X.2.2.2.2.1 0 0 (jA G)) g
abbrev jst (X : jC) : State := X.2.2.2.2.1
abbrev jarg (X : jC) : Array Value := X.2.2.2.2.2.2.1
abbrev jroom (X : jC) : Room := X.2.2.2.1
abbrev jid (X : jC) : MethodId := X.2.2.2.2.2.1
/-- at pc, with these locals, this stack, this memory: if the pure program o answers, so does the machine -/
def J (X : jC) (μ : jM) (G : jS) (pc : Nat) (lv : List (Nat × Value)) (st : List Value) (M : Mem) (o : Res) : Prop :=
  ∀ (H : Heap) (locs : List Loc) (ls : Array Slot), lv_has ls μ.2.1 lv → va_P (gD G) vwCl (wld G M) H → va_S (jA G) (jst X).heap H locs → ∀ (r : Int32) (M' : Mem), o = some (r, M') → jW X G μ.2.2.2.1 H locs r M' (F0 (jid X) pc ls st)
def jOk (X : jC) (μ : jM) (G : jS) : Prop :=
  X.1.tables.exec = Jvm.exec ∧ X.2.2.2.2.2.2.2.2.2.code = μ.1 ∧ X.2.2.2.2.2.2.2.2.2.maxLocals = μ.2.1 ∧ (jst X).vm.findClass μ.2.2.1 = some (jid X).cls ∧ (∀ w ∈ tbg, w.before (jarg X) (jst X) = true) ∧ X.2.2.2.2.2.2.2.2.1.locks = false ∧ X.2.2.2.2.2.2.2.2.1.sig.returnType = μ.2.2.2.1 ∧ va_K (gD G) vwCl (tyL G) (jst X) ∧ jInj G ∧ jroom X = μ.2.2.2.2
section JR
variable {X : jC} {μ : jM} {G : jS} {pc : Nat} {lv : List (Nat × Value)} {st : List Value} {M : Mem} {o : Res}
theorem j_none : J X μ G pc lv st M none := fun _ _ _ _ _ _ _ _ h => by cases h
theorem j_sub (is : List Nat) {lv' : List (Nat × Value)} (hs : lv_pick lv is = lv') (kk : J X μ G pc lv' st M o) : J X μ G pc lv st M o :=
  fun H locs ls hl hP hS r M' ho => kk H locs ls (lv_sub hl is hs) hP hS r M' ho
theorem j_iconst (hX : jOk X μ G) {n : Int} {v : Int32} (hd : decode μ.1 pc = .ok (.iconst n, 1)) (hv : Int32.ofInt n = v) (kk : J X μ G (pc + 1) lv (.int v :: st) M o) : J X μ G pc lv st M o :=
  fun H locs ls hl hP hS r M' ho => lv_iconst hX.1 hX.2.1 hd hv (kk H locs ls hl hP hS r M' ho)
theorem j_bipush (hX : jOk X μ G) {n : Int} {v : Int32} (hd : decode μ.1 pc = .ok (.bipush n, 2)) (hv : (Int8.ofInt n).toInt32 = v) (kk : J X μ G (pc + 2) lv (.int v :: st) M o) : J X μ G pc lv st M o :=
  fun H locs ls hl hP hS r M' ho => lv_bipush hX.1 hX.2.1 hd hv (kk H locs ls hl hP hS r M' ho)
theorem j_sipush (hX : jOk X μ G) {n : Int} {v : Int32} (hd : decode μ.1 pc = .ok (.sipush n, 3)) (hv : (Int16.ofInt n).toInt32 = v) (kk : J X μ G (pc + 3) lv (.int v :: st) M o) : J X μ G pc lv st M o :=
  fun H locs ls hl hP hS r M' ho => lv_sipush hX.1 hX.2.1 hd hv (kk H locs ls hl hP hS r M' ho)
theorem j_lconst (hX : jOk X μ G) {n : Fin 2} {v : Int64} (hd : decode μ.1 pc = .ok (.lconst n, 1)) (hv : Int64.ofInt (n : Nat) = v) (kk : J X μ G (pc + 1) lv (.long v :: st) M o) : J X μ G pc lv st M o :=
  fun H locs ls hl hP hS r M' ho => lv_lconst hX.1 hX.2.1 hd hv (kk H locs ls hl hP hS r M' ho)
theorem j_ldc2 (hX : jOk X μ G) {idx : Nat} {v : Int64} (hw : Cond.constantLong μ.2.2.1 idx v ∈ tbg) (hd : decode μ.1 pc = .ok (.ldc2_w idx, 3)) (kk : J X μ G (pc + 3) lv (.long v :: st) M o) : J X μ G pc lv st M o :=
  fun H locs ls hl hP hS r M' ho => lv_ldc2 hX.1 hX.2.1 hX.2.2.2.1 (hX.2.2.2.2.1 _ hw) hd (kk H locs ls hl hP hS r M' ho)
theorem j_ldc (hX : jOk X μ G) {idx : Nat} {v : Int32} (hw : Cond.constant μ.2.2.1 idx v ∈ tbg) (hd : decode μ.1 pc = .ok (.ldc idx, 2)) (kk : J X μ G (pc + 2) lv (.int v :: st) M o) : J X μ G pc lv st M o :=
  fun H locs ls hl hP hS r M' ho => lv_ldc hX.1 hX.2.1 hX.2.2.2.1 (hX.2.2.2.2.1 _ hw) hd (kk H locs ls hl hP hS r M' ho)
theorem j_iload_n (hX : jOk X μ G) {k : Fin 4} (q : Nat) {i : Nat} {x : Int32} (hd : decode μ.1 pc = .ok (.iload_n k, 1)) (hi : (k : Nat) = i) (hq : lv[q]? = some (i, .int x)) (kk : J X μ G (pc + 1) lv (.int x :: st) M o) : J X μ G pc lv st M o :=
  fun H locs ls hl hP hS r M' ho => lv_iload_n hX.1 hX.2.1 hd hi (lv_at hl q hq) (kk H locs ls hl hP hS r M' ho)
theorem j_iload (hX : jOk X μ G) (q : Nat) {i : Nat} {x : Int32} (hd : decode μ.1 pc = .ok (.iload i, 2)) (hq : lv[q]? = some (i, .int x)) (kk : J X μ G (pc + 2) lv (.int x :: st) M o) : J X μ G pc lv st M o :=
  fun H locs ls hl hP hS r M' ho => lv_iload hX.1 hX.2.1 hd (lv_at hl q hq) (kk H locs ls hl hP hS r M' ho)
theorem j_lload_n (hX : jOk X μ G) {k : Fin 4} (q : Nat) {i : Nat} {x : Int64} (hd : decode μ.1 pc = .ok (.lload_n k, 1)) (hi : (k : Nat) = i) (hq : lv[q]? = some (i, .long x)) (kk : J X μ G (pc + 1) lv (.long x :: st) M o) : J X μ G pc lv st M o :=
  fun H locs ls hl hP hS r M' ho => lv_lload_n hX.1 hX.2.1 hd hi (lv_at hl q hq) (kk H locs ls hl hP hS r M' ho)
theorem j_lload (hX : jOk X μ G) (q : Nat) {i : Nat} {x : Int64} (hd : decode μ.1 pc = .ok (.lload i, 2)) (hq : lv[q]? = some (i, .long x)) (kk : J X μ G (pc + 2) lv (.long x :: st) M o) : J X μ G pc lv st M o :=
  fun H locs ls hl hP hS r M' ho => lv_lload hX.1 hX.2.1 hd (lv_at hl q hq) (kk H locs ls hl hP hS r M' ho)
theorem j_aload_n (hX : jOk X μ G) {k : Fin 4} (q : Nat) {i : Nat} {x : Nat} (hd : decode μ.1 pc = .ok (.aload_n k, 1)) (hi : (k : Nat) = i) (hq : lv[q]? = some (i, .ref x)) (kk : J X μ G (pc + 1) lv (.ref x :: st) M o) : J X μ G pc lv st M o :=
  fun H locs ls hl hP hS r M' ho => lv_aload_n hX.1 hX.2.1 hd hi (lv_at hl q hq) (kk H locs ls hl hP hS r M' ho)
theorem j_istore_n (hX : jOk X μ G) {k : Fin 4} {i : Nat} {x : Int32} {lv' : List (Nat × Value)} (hd : decode μ.1 pc = .ok (.istore_n k, 1)) (hi : (k : Nat) = i) (hn : i < μ.2.1) (hl' : (i, Value.int x) :: lv.filter (fun q => !(q.1 == i) && !(q.1 + 1 == i && q.2.category == 2)) = lv') (kk : J X μ G (pc + 1) lv' st M o) : J X μ G pc lv (.int x :: st) M o :=
  fun H locs ls hl hP hS r M' ho => lv_istore_n hX.1 hX.2.1 hd hi hl hn hl' (fun ls' h' => kk H locs ls' h' hP hS r M' ho)
theorem j_istore (hX : jOk X μ G) {i : Nat} {x : Int32} {lv' : List (Nat × Value)} (hd : decode μ.1 pc = .ok (.istore i, 2)) (hn : i < μ.2.1) (hl' : (i, Value.int x) :: lv.filter (fun q => !(q.1 == i) && !(q.1 + 1 == i && q.2.category == 2)) = lv') (kk : J X μ G (pc + 2) lv' st M o) : J X μ G pc lv (.int x :: st) M o :=
  fun H locs ls hl hP hS r M' ho => lv_istore hX.1 hX.2.1 hd hl hn hl' (fun ls' h' => kk H locs ls' h' hP hS r M' ho)
theorem j_lstore_n (hX : jOk X μ G) {k : Fin 4} {i : Nat} {x : Int64} {lv' : List (Nat × Value)} (hd : decode μ.1 pc = .ok (.lstore_n k, 1)) (hi : (k : Nat) = i) (hn : i + 1 < μ.2.1) (hl' : (i, Value.long x) :: lv.filter (fun q => !(q.1 == i) && (!(q.1 == i + 1) && !(q.1 + 1 == i && q.2.category == 2))) = lv') (kk : J X μ G (pc + 1) lv' st M o) : J X μ G pc lv (.long x :: st) M o :=
  fun H locs ls hl hP hS r M' ho => lv_lstore_n hX.1 hX.2.1 hd hi hl hn hl' (fun ls' h' => kk H locs ls' h' hP hS r M' ho)
theorem j_lstore (hX : jOk X μ G) {i : Nat} {x : Int64} {lv' : List (Nat × Value)} (hd : decode μ.1 pc = .ok (.lstore i, 2)) (hn : i + 1 < μ.2.1) (hl' : (i, Value.long x) :: lv.filter (fun q => !(q.1 == i) && (!(q.1 == i + 1) && !(q.1 + 1 == i && q.2.category == 2))) = lv') (kk : J X μ G (pc + 2) lv' st M o) : J X μ G pc lv (.long x :: st) M o :=
  fun H locs ls hl hP hS r M' ho => lv_lstore hX.1 hX.2.1 hd hl hn hl' (fun ls' h' => kk H locs ls' h' hP hS r M' ho)
theorem j_iinc (hX : jOk X μ G) (k : Nat) {i : Nat} {n : Int} {x v : Int32} {lv' : List (Nat × Value)} (hd : decode μ.1 pc = .ok (.iinc i n, 3)) (hk : lv[k]? = some (i, .int x)) (hv : x + Int32.ofInt n = v) (hn : i < μ.2.1) (hl' : (i, Value.int v) :: lv.filter (fun q => !(q.1 == i) && !(q.1 + 1 == i && q.2.category == 2)) = lv') (kk : J X μ G (pc + 3) lv' st M o) : J X μ G pc lv st M o :=
  fun H locs ls hl hP hS r M' ho => lv_iinc hX.1 hX.2.1 hd hl hk hv hn hl' (fun ls' h' => kk H locs ls' h' hP hS r M' ho)
theorem j_iadd (hX : jOk X μ G) {x y : Int32} (hd : decode μ.1 pc = .ok (.iadd, 1)) (kk : J X μ G (pc + 1) lv (.int (x + y) :: st) M o) : J X μ G pc lv (.int y :: .int x :: st) M o :=
  fun H locs ls hl hP hS r M' ho => lv_iadd hX.1 hX.2.1 hd (kk H locs ls hl hP hS r M' ho)
theorem j_isub (hX : jOk X μ G) {x y : Int32} (hd : decode μ.1 pc = .ok (.isub, 1)) (kk : J X μ G (pc + 1) lv (.int (x - y) :: st) M o) : J X μ G pc lv (.int y :: .int x :: st) M o :=
  fun H locs ls hl hP hS r M' ho => lv_isub hX.1 hX.2.1 hd (kk H locs ls hl hP hS r M' ho)
theorem j_imul (hX : jOk X μ G) {x y : Int32} (hd : decode μ.1 pc = .ok (.imul, 1)) (kk : J X μ G (pc + 1) lv (.int (x * y) :: st) M o) : J X μ G pc lv (.int y :: .int x :: st) M o :=
  fun H locs ls hl hP hS r M' ho => lv_imul hX.1 hX.2.1 hd (kk H locs ls hl hP hS r M' ho)
theorem j_iand (hX : jOk X μ G) {x y : Int32} (hd : decode μ.1 pc = .ok (.iand, 1)) (kk : J X μ G (pc + 1) lv (.int (x &&& y) :: st) M o) : J X μ G pc lv (.int y :: .int x :: st) M o :=
  fun H locs ls hl hP hS r M' ho => lv_iand hX.1 hX.2.1 hd (kk H locs ls hl hP hS r M' ho)
theorem j_ior (hX : jOk X μ G) {x y : Int32} (hd : decode μ.1 pc = .ok (.ior, 1)) (kk : J X μ G (pc + 1) lv (.int (x ||| y) :: st) M o) : J X μ G pc lv (.int y :: .int x :: st) M o :=
  fun H locs ls hl hP hS r M' ho => lv_ior hX.1 hX.2.1 hd (kk H locs ls hl hP hS r M' ho)
theorem j_ishl (hX : jOk X μ G) {x y : Int32} (hd : decode μ.1 pc = .ok (.ishl, 1)) (kk : J X μ G (pc + 1) lv (.int (x <<< (y &&& 31)) :: st) M o) : J X μ G pc lv (.int y :: .int x :: st) M o :=
  fun H locs ls hl hP hS r M' ho => lv_ishl hX.1 hX.2.1 hd (kk H locs ls hl hP hS r M' ho)
theorem j_ishr (hX : jOk X μ G) {x y : Int32} (hd : decode μ.1 pc = .ok (.ishr, 1)) (kk : J X μ G (pc + 1) lv (.int (x >>> (y &&& 31)) :: st) M o) : J X μ G pc lv (.int y :: .int x :: st) M o :=
  fun H locs ls hl hP hS r M' ho => lv_ishr hX.1 hX.2.1 hd (kk H locs ls hl hP hS r M' ho)
def irm (x y : Int32) : Int32 := x - x / y * y
def lrm (x y : Int64) : Int64 := x - x / y * y
theorem j_idiv (hX : jOk X μ G) {x y : Int32} (hd : decode μ.1 pc = .ok (.idiv, 1)) (kk : J X μ G (pc + 1) lv (.int (x / y) :: st) M o) : J X μ G pc lv (.int y :: .int x :: st) M (if y = 0 then none else o) := by
  intro H locs ls hl hP hS r M' ho
  by_cases hy : y = 0
  · rw [if_pos hy] at ho; cases ho
  · rw [if_neg hy] at ho; exact lv_idiv hX.1 hX.2.1 hd hy (kk H locs ls hl hP hS r M' ho)
theorem j_irem (hX : jOk X μ G) {x y : Int32} (hd : decode μ.1 pc = .ok (.irem, 1)) (kk : J X μ G (pc + 1) lv (.int (irm x y) :: st) M o) : J X μ G pc lv (.int y :: .int x :: st) M (if y = 0 then none else o) := by
  intro H locs ls hl hP hS r M' ho
  by_cases hy : y = 0
  · rw [if_pos hy] at ho; cases ho
  · rw [if_neg hy] at ho; exact lv_irem hX.1 hX.2.1 hd hy (kk H locs ls hl hP hS r M' ho)
/-- by a number that is not 0 -/
theorem j_idivC (hX : jOk X μ G) {x y : Int32} (hd : decode μ.1 pc = .ok (.idiv, 1)) (hy : ¬ y = 0) (kk : J X μ G (pc + 1) lv (.int (x / y) :: st) M o) : J X μ G pc lv (.int y :: .int x :: st) M o :=
  fun H locs ls hl hP hS r M' ho => lv_idiv hX.1 hX.2.1 hd hy (kk H locs ls hl hP hS r M' ho)
theorem j_iremC (hX : jOk X μ G) {x y : Int32} (hd : decode μ.1 pc = .ok (.irem, 1)) (hy : ¬ y = 0) (kk : J X μ G (pc + 1) lv (.int (irm x y) :: st) M o) : J X μ G pc lv (.int y :: .int x :: st) M o :=
  fun H locs ls hl hP hS r M' ho => lv_irem hX.1 hX.2.1 hd hy (kk H locs ls hl hP hS r M' ho)
theorem j_lremC (hX : jOk X μ G) {x y : Int64} (hd : decode μ.1 pc = .ok (.lrem, 1)) (hy : ¬ y = 0) (kk : J X μ G (pc + 1) lv (.long (lrm x y) :: st) M o) : J X μ G pc lv (.long y :: .long x :: st) M o :=
  fun H locs ls hl hP hS r M' ho => lv_lrem hX.1 hX.2.1 hd hy (kk H locs ls hl hP hS r M' ho)
theorem j_ladd (hX : jOk X μ G) {x y : Int64} (hd : decode μ.1 pc = .ok (.ladd, 1)) (kk : J X μ G (pc + 1) lv (.long (x + y) :: st) M o) : J X μ G pc lv (.long y :: .long x :: st) M o :=
  fun H locs ls hl hP hS r M' ho => lv_ladd hX.1 hX.2.1 hd (kk H locs ls hl hP hS r M' ho)
theorem j_lmul (hX : jOk X μ G) {x y : Int64} (hd : decode μ.1 pc = .ok (.lmul, 1)) (kk : J X μ G (pc + 1) lv (.long (x * y) :: st) M o) : J X μ G pc lv (.long y :: .long x :: st) M o :=
  fun H locs ls hl hP hS r M' ho => lv_lmul hX.1 hX.2.1 hd (kk H locs ls hl hP hS r M' ho)
theorem j_lcmp (hX : jOk X μ G) {x y : Int64} (hd : decode μ.1 pc = .ok (.lcmp, 1)) (kk : J X μ G (pc + 1) lv (.int (lg_cmp x y) :: st) M o) : J X μ G pc lv (.long y :: .long x :: st) M o :=
  fun H locs ls hl hP hS r M' ho => W.lcmp hX.1 hX.2.1 hd (kk H locs ls hl hP hS r M' ho)
theorem j_i2l (hX : jOk X μ G) {x : Int32} (hd : decode μ.1 pc = .ok (.i2l, 1)) (kk : J X μ G (pc + 1) lv (.long x.toInt64 :: st) M o) : J X μ G pc lv (.int x :: st) M o :=
  fun H locs ls hl hP hS r M' ho => lv_i2l hX.1 hX.2.1 hd rfl (kk H locs ls hl hP hS r M' ho)
theorem j_l2i (hX : jOk X μ G) {x : Int64} (hd : decode μ.1 pc = .ok (.l2i, 1)) (kk : J X μ G (pc + 1) lv (.int x.toInt32 :: st) M o) : J X μ G pc lv (.long x :: st) M o :=
  fun H locs ls hl hP hS r M' ho => lv_l2i hX.1 hX.2.1 hd rfl (kk H locs ls hl hP hS r M' ho)
theorem j_i2b (hX : jOk X μ G) {x : Int32} (hd : decode μ.1 pc = .ok (.i2b, 1)) (kk : J X μ G (pc + 1) lv (.int x.toInt8.toInt32 :: st) M o) : J X μ G pc lv (.int x :: st) M o :=
  fun H locs ls hl hP hS r M' ho => lv_i2b hX.1 hX.2.1 hd rfl (kk H locs ls hl hP hS r M' ho)
theorem j_i2c (hX : jOk X μ G) {x : Int32} (hd : decode μ.1 pc = .ok (.i2c, 1)) (kk : J X μ G (pc + 1) lv (.int (x.toUInt32 % 65536).toInt32 :: st) M o) : J X μ G pc lv (.int x :: st) M o :=
  fun H locs ls hl hP hS r M' ho => lv_i2c hX.1 hX.2.1 hd rfl (kk H locs ls hl hP hS r M' ho)
theorem j_dup (hX : jOk X μ G) {v : Value} (hd : decode μ.1 pc = .ok (.dup, 1)) (hv : v.category = 1) (kk : J X μ G (pc + 1) lv (v :: v :: st) M o) : J X μ G pc lv (v :: st) M o :=
  fun H locs ls hl hP hS r M' ho => lv_dup hX.1 hX.2.1 hd hv (kk H locs ls hl hP hS r M' ho)
theorem j_pop (hX : jOk X μ G) {v : Value} (hd : decode μ.1 pc = .ok (.pop, 1)) (hv : v.category = 1) (kk : J X μ G (pc + 1) lv st M o) : J X μ G pc lv (v :: st) M o :=
  fun H locs ls hl hP hS r M' ho => lv_pop hX.1 hX.2.1 hd hv (kk H locs ls hl hP hS r M' ho)
theorem j_dup2 (hX : jOk X μ G) {v w : Value} (hd : decode μ.1 pc = .ok (.dup2, 1)) (hv : v.category = 1) (hw : w.category = 1) (kk : J X μ G (pc + 1) lv (v :: w :: v :: w :: st) M o) : J X μ G pc lv (v :: w :: st) M o :=
  fun H locs ls hl hP hS r M' ho => lv_dup2_11 hX.1 hX.2.1 hd hv hw (kk H locs ls hl hP hS r M' ho)
theorem j_goto (hX : jOk X μ G) {off : Int} (tgt : Nat) (hd : decode μ.1 pc = .ok (.goto off, 3)) (ht : (pc : Int) + off = (tgt : Int)) (kk : J X μ G tgt lv st M o) : J X μ G pc lv st M o :=
  fun H locs ls hl hP hS r M' ho => lv_goto hX.1 hX.2.1 hd ht (kk H locs ls hl hP hS r M' ho)
theorem j_ifnonnull (hX : jOk X μ G) {off : Int} {x : Nat} (tgt : Nat) (hd : decode μ.1 pc = .ok (.ifnonnull off, 3)) (ht : (pc : Int) + off = (tgt : Int)) (kk : J X μ G tgt lv st M o) : J X μ G pc lv (.ref x :: st) M o :=
  fun H locs ls hl hP hS r M' ho => lv_ifnonnull hX.1 hX.2.1 hd ht (kk H locs ls hl hP hS r M' ho)
theorem j_ifnull (hX : jOk X μ G) {off : Int} {x : Nat} (hd : decode μ.1 pc = .ok (.ifnull off, 3)) (kk : J X μ G (pc + 3) lv st M o) : J X μ G pc lv (.ref x :: st) M o :=
  fun H locs ls hl hP hS r M' ho => lv_ifnull hX.1 hX.2.1 hd (kk H locs ls hl hP hS r M' ho)
end JR
section JB
variable {X : jC} {μ : jM} {G : jS} {pc : Nat} {lv : List (Nat × Value)} {st : List Value} {M : Mem} {o1 o2 : Res}
theorem j_icmp_eq (hX : jOk X μ G) {x y : Int32} {off : Int} (tgt : Nat) (hd : decode μ.1 pc = .ok (.if_icmp .eq off, 3)) (ht : (pc : Int) + off = (tgt : Int)) (k1 : J X μ G tgt lv st M o1) (k2 : J X μ G (pc + 3) lv st M o2) : J X μ G pc lv (.int y :: .int x :: st) M (if x = y then o1 else o2) :=
  fun H locs ls hl hP hS r M' ho => lv_icmp_eq hX.1 hX.2.1 hd ht (fun hc => k1 H locs ls hl hP hS r M' (by rw [if_pos hc] at ho; exact ho)) (fun hc => k2 H locs ls hl hP hS r M' (by rw [if_neg hc] at ho; exact ho))
theorem j_if_eq (hX : jOk X μ G) {x : Int32} {off : Int} (tgt : Nat) (hd : decode μ.1 pc = .ok (.ifCond .eq off, 3)) (ht : (pc : Int) + off = (tgt : Int)) (k1 : J X μ G tgt lv st M o1) (k2 : J X μ G (pc + 3) lv st M o2) : J X μ G pc lv (.int x :: st) M (if x = 0 then o1 else o2) :=
  fun H locs ls hl hP hS r M' ho => lv_if_eq hX.1 hX.2.1 hd ht (fun hc => k1 H locs ls hl hP hS r M' (by rw [if_pos hc] at ho; exact ho)) (fun hc => k2 H locs ls hl hP hS r M' (by rw [if_neg hc] at ho; exact ho))
theorem j_icmp_ne (hX : jOk X μ G) {x y : Int32} {off : Int} (tgt : Nat) (hd : decode μ.1 pc = .ok (.if_icmp .ne off, 3)) (ht : (pc : Int) + off = (tgt : Int)) (k1 : J X μ G tgt lv st M o1) (k2 : J X μ G (pc + 3) lv st M o2) : J X μ G pc lv (.int y :: .int x :: st) M (if x = y then o2 else o1) :=
  fun H locs ls hl hP hS r M' ho => lv_icmp_ne hX.1 hX.2.1 hd ht (fun hc => k1 H locs ls hl hP hS r M' (by rw [if_neg hc] at ho; exact ho)) (fun hc => k2 H locs ls hl hP hS r M' (by rw [if_pos hc] at ho; exact ho))
theorem j_if_ne (hX : jOk X μ G) {x : Int32} {off : Int} (tgt : Nat) (hd : decode μ.1 pc = .ok (.ifCond .ne off, 3)) (ht : (pc : Int) + off = (tgt : Int)) (k1 : J X μ G tgt lv st M o1) (k2 : J X μ G (pc + 3) lv st M o2) : J X μ G pc lv (.int x :: st) M (if x = 0 then o2 else o1) :=
  fun H locs ls hl hP hS r M' ho => lv_if_ne hX.1 hX.2.1 hd ht (fun hc => k1 H locs ls hl hP hS r M' (by rw [if_neg hc] at ho; exact ho)) (fun hc => k2 H locs ls hl hP hS r M' (by rw [if_pos hc] at ho; exact ho))
theorem j_icmp_lt (hX : jOk X μ G) {x y : Int32} {off : Int} (tgt : Nat) (hd : decode μ.1 pc = .ok (.if_icmp .lt off, 3)) (ht : (pc : Int) + off = (tgt : Int)) (k1 : J X μ G tgt lv st M o1) (k2 : J X μ G (pc + 3) lv st M o2) : J X μ G pc lv (.int y :: .int x :: st) M (if x < y then o1 else o2) :=
  fun H locs ls hl hP hS r M' ho => lv_icmp_lt hX.1 hX.2.1 hd ht (fun hc => k1 H locs ls hl hP hS r M' (by rw [if_pos hc] at ho; exact ho)) (fun hc => k2 H locs ls hl hP hS r M' (by rw [if_neg hc] at ho; exact ho))
theorem j_if_lt (hX : jOk X μ G) {x : Int32} {off : Int} (tgt : Nat) (hd : decode μ.1 pc = .ok (.ifCond .lt off, 3)) (ht : (pc : Int) + off = (tgt : Int)) (k1 : J X μ G tgt lv st M o1) (k2 : J X μ G (pc + 3) lv st M o2) : J X μ G pc lv (.int x :: st) M (if x < 0 then o1 else o2) :=
  fun H locs ls hl hP hS r M' ho => lv_if_lt hX.1 hX.2.1 hd ht (fun hc => k1 H locs ls hl hP hS r M' (by rw [if_pos hc] at ho; exact ho)) (fun hc => k2 H locs ls hl hP hS r M' (by rw [if_neg hc] at ho; exact ho))
theorem j_icmp_ge (hX : jOk X μ G) {x y : Int32} {off : Int} (tgt : Nat) (hd : decode μ.1 pc = .ok (.if_icmp .ge off, 3)) (ht : (pc : Int) + off = (tgt : Int)) (k1 : J X μ G tgt lv st M o1) (k2 : J X μ G (pc + 3) lv st M o2) : J X μ G pc lv (.int y :: .int x :: st) M (if y ≤ x then o1 else o2) :=
  fun H locs ls hl hP hS r M' ho => lv_icmp_ge hX.1 hX.2.1 hd ht (fun hc => k1 H locs ls hl hP hS r M' (by rw [if_pos hc] at ho; exact ho)) (fun hc => k2 H locs ls hl hP hS r M' (by rw [if_neg hc] at ho; exact ho))
theorem j_if_ge (hX : jOk X μ G) {x : Int32} {off : Int} (tgt : Nat) (hd : decode μ.1 pc = .ok (.ifCond .ge off, 3)) (ht : (pc : Int) + off = (tgt : Int)) (k1 : J X μ G tgt lv st M o1) (k2 : J X μ G (pc + 3) lv st M o2) : J X μ G pc lv (.int x :: st) M (if 0 ≤ x then o1 else o2) :=
  fun H locs ls hl hP hS r M' ho => lv_if_ge hX.1 hX.2.1 hd ht (fun hc => k1 H locs ls hl hP hS r M' (by rw [if_pos hc] at ho; exact ho)) (fun hc => k2 H locs ls hl hP hS r M' (by rw [if_neg hc] at ho; exact ho))
theorem j_icmp_gt (hX : jOk X μ G) {x y : Int32} {off : Int} (tgt : Nat) (hd : decode μ.1 pc = .ok (.if_icmp .gt off, 3)) (ht : (pc : Int) + off = (tgt : Int)) (k1 : J X μ G tgt lv st M o1) (k2 : J X μ G (pc + 3) lv st M o2) : J X μ G pc lv (.int y :: .int x :: st) M (if y < x then o1 else o2) :=
  fun H locs ls hl hP hS r M' ho => lv_icmp_gt hX.1 hX.2.1 hd ht (fun hc => k1 H locs ls hl hP hS r M' (by rw [if_pos hc] at ho; exact ho)) (fun hc => k2 H locs ls hl hP hS r M' (by rw [if_neg hc] at ho; exact ho))
theorem j_if_gt (hX : jOk X μ G) {x : Int32} {off : Int} (tgt : Nat) (hd : decode μ.1 pc = .ok (.ifCond .gt off, 3)) (ht : (pc : Int) + off = (tgt : Int)) (k1 : J X μ G tgt lv st M o1) (k2 : J X μ G (pc + 3) lv st M o2) : J X μ G pc lv (.int x :: st) M (if 0 < x then o1 else o2) :=
  fun H locs ls hl hP hS r M' ho => lv_if_gt hX.1 hX.2.1 hd ht (fun hc => k1 H locs ls hl hP hS r M' (by rw [if_pos hc] at ho; exact ho)) (fun hc => k2 H locs ls hl hP hS r M' (by rw [if_neg hc] at ho; exact ho))
theorem j_icmp_le (hX : jOk X μ G) {x y : Int32} {off : Int} (tgt : Nat) (hd : decode μ.1 pc = .ok (.if_icmp .le off, 3)) (ht : (pc : Int) + off = (tgt : Int)) (k1 : J X μ G tgt lv st M o1) (k2 : J X μ G (pc + 3) lv st M o2) : J X μ G pc lv (.int y :: .int x :: st) M (if x ≤ y then o1 else o2) :=
  fun H locs ls hl hP hS r M' ho => lv_icmp_le hX.1 hX.2.1 hd ht (fun hc => k1 H locs ls hl hP hS r M' (by rw [if_pos hc] at ho; exact ho)) (fun hc => k2 H locs ls hl hP hS r M' (by rw [if_neg hc] at ho; exact ho))
theorem j_if_le (hX : jOk X μ G) {x : Int32} {off : Int} (tgt : Nat) (hd : decode μ.1 pc = .ok (.ifCond .le off, 3)) (ht : (pc : Int) + off = (tgt : Int)) (k1 : J X μ G tgt lv st M o1) (k2 : J X μ G (pc + 3) lv st M o2) : J X μ G pc lv (.int x :: st) M (if x ≤ 0 then o1 else o2) :=
  fun H locs ls hl hP hS r M' ho => lv_if_le hX.1 hX.2.1 hd ht (fun hc => k1 H locs ls hl hP hS r M' (by rw [if_pos hc] at ho; exact ho)) (fun hc => k2 H locs ls hl hP hS r M' (by rw [if_neg hc] at ho; exact ho))
end JB
end
section
/-! rows on the memory, calls, ends -/
def ld (M : Mem) (k n : Nat) (i : Int32) (K : Int32 → Res) : Res := if 0 ≤ i.toInt ∧ i.toInt < n then K (M k i.toNatClampNeg) else none
def sto (M : Mem) (k n : Nat) (i v : Int32) (K : Mem → Res) : Res := if 0 ≤ i.toInt ∧ i.toInt < n then K (up2 M k i.toNatClampNeg v) else none
def ldr (n : Nat) (i : Int32) (K : Nat → Res) : Res := if 0 ≤ i.toInt ∧ i.toInt < n then K i.toNatClampNeg else none
def fpt (M : Mem) (k j : Nat) (v : Int32) (K : Mem → Res) : Res := K (up2 M k j v)
/-- a truth value is stored -/
def fpz (M : Mem) (k j : Nat) (v : Int32) (K : Mem → Res) : Res := if v = 0 ∨ v = 1 then K (up2 M k j v) else none
def cpy (M : Mem) (k k' n : Nat) (K : Mem → Res) : Res := K (upR M k' (va_cpy (M k) (M k') 0 0 n))
def bI (f : Res) (K : Int32 → Mem → Res) : Res := match f with
  | none => none
  | some q => K q.1 q.2
def bV (f : Res) (K : Mem → Res) : Res := match f with
  | none => none
  | some q => K q.2
def imin (x y : Int32) : Int32 := if y < x then y else x
def imax (x y : Int32) : Int32 := if x < y then y else x
/-- returned by a method of truth values -/
def rtz (v : Int32) (M : Mem) : Res := if v = 0 ∨ v = 1 then some (v, M) else none
/-- returned by a method of letters -/
def rtc (v : Int32) (M : Mem) : Res := if 0 ≤ v.toInt ∧ v.toInt < 65536 then some (v, M) else none
section JM
variable {X : jC} {μ : jM} {G : jS} {pc : Nat} {lv : List (Nat × Value)} {st : List Value} {M : Mem} {o : Res}
theorem fd_get {G : jS} {M : Mem} {k c j N : Nat} (hN : ncl c = N) (hj : j < N) : ((List.range (ncl c)).map (fdV G M k))[j]? = some (fdV G M k j) := by
  rw [hN]; simp [hj]
/-- a field that refers -/
theorem j_getR (hX : jOk X μ G) {k t ci j idx N : Nat} {C : String} {T : u_T} (hk : k < gN G) (hty : gty G k = ci) (hc : vwCl[ci]? = some (C, T, N)) (hc20 : ci < 20) (hin : ∀ w ∈ u_ws C T N, w ∈ tbg) (hj : j < N) (hrf : grf G k j = some t) (hlink : Cond.fieldLink μ.2.2.1 idx (T j).1 (T j).2.1 (T j).2.2.1 ∈ tbg) (hd : decode μ.1 pc = .ok (.getfield idx, 3)) (kk : J X μ G (pc + 3) lv (.ref (gad G t) :: st) M o) : J X μ G pc lv (.ref (gad G k) :: st) M o := by
  intro H locs ls hl hP hS r M' ho
  have hN : ncl ci = N := by simp [ncl, hc]
  refine va_get hX.1 hX.2.1 hX.2.2.2.2.1 hin hX.2.2.2.1 hX.2.2.2.2.2.2.2.1 hP k (by rw [wld_get hk, cell_obj hty hc20]) hc j hj (hX.2.2.2.2.1 _ hlink) (fun _ h => h) (v := .ref (gad G t)) ?_ hd (kk H locs ls hl hP hS r M' ho)
  rw [fd_get hN hj]; simp [fdV, hrf]
theorem j_getI (hX : jOk X μ G) {k ci j idx N : Nat} {C : String} {T : u_T} (hk : k < gN G) (hty : gty G k = ci) (hc : vwCl[ci]? = some (C, T, N)) (hc20 : ci < 20) (hin : ∀ w ∈ u_ws C T N, w ∈ tbg) (hj : j < N) (hrf : grf G k j = none) (hlink : Cond.fieldLink μ.2.2.1 idx (T j).1 (T j).2.1 (T j).2.2.1 ∈ tbg) (hd : decode μ.1 pc = .ok (.getfield idx, 3)) (kk : J X μ G (pc + 3) lv (.int (M k j) :: st) M o) : J X μ G pc lv (.ref (gad G k) :: st) M o := by
  intro H locs ls hl hP hS r M' ho
  have hN : ncl ci = N := by simp [ncl, hc]
  refine va_get hX.1 hX.2.1 hX.2.2.2.2.1 hin hX.2.2.2.1 hX.2.2.2.2.2.2.2.1 hP k (by rw [wld_get hk, cell_obj hty hc20]) hc j hj (hX.2.2.2.2.1 _ hlink) (fun _ h => h) (v := .int (M k j)) ?_ hd (kk H locs ls hl hP hS r M' ho)
  rw [fd_get hN hj]; simp [fdV, hrf]
theorem fd_set {G : jS} {M : Mem} {k j N : Nat} (hj : j < N) (hrf : grf G k j = none) (v : Int32) : ((List.range N).map (fdV G M k)).set j (.int v) = (List.range N).map (fdV G (up2 M k j v) k) := by
  apply List.ext_getElem?
  intro i
  by_cases hi : i < N
  · by_cases e : i = j
    · subst e
      rw [List.getElem?_set_self (by simp; exact hi)]
      simp [hi, fdV, hrf, up2]
    · rw [List.getElem?_set_ne (Ne.symm e)]
      simp [hi, fdV, up2, e]
  · rw [List.getElem?_eq_none (by simp; omega), List.getElem?_eq_none (by simp; omega)]
theorem up2_ne {M : Mem} {k j a : Nat} {v : Int32} (h : a ≠ k) : up2 M k j v a = M a := by simp [up2, h]
theorem j_putX (hX : jOk X μ G) {k ci j idx N : Nat} {C : String} {T : u_T} {v : Int32} {ty : FieldType} (hk : k < gN G) (hty : gty G k = ci) (hc : vwCl[ci]? = some (C, T, N)) (hc20 : ci < 20) (hin : ∀ w ∈ u_ws C T N, w ∈ tbg) (ty0 : Nat → FieldType) (htys : ∀ k, k < N → parseFieldDescriptor (T k).2.2.1 = some (ty0 k)) (hnm : ∀ a, a < N → ∀ b, b < N → a ≠ b → (T a).2.1 ≠ (T b).2.1) (hj : j < N) (hrf : grf G k j = none) (hlink : Cond.fieldLink μ.2.2.1 idx (T j).1 (T j).2.1 (T j).2.2.1 ∈ tbg) (hfin : (T j).2.2.2 = false) (hdc : parseFieldDescriptor (T j).2.2.1 = some ty) (hn : narrow ty (.int v) = .int v) (hfit : fits ty (.int v) = true) (hd : decode μ.1 pc = .ok (.putfield idx, 3)) (kk : J X μ G (pc + 3) lv st (up2 M k j v) o) : J X μ G pc lv (.int v :: .ref (gad G k) :: st) M o := by
  intro H locs ls hl hP hS r M' ho
  have hN : ncl ci = N := by simp [ncl, hc]
  refine va_put hX.1 hX.2.1 hX.2.2.2.2.1 hin ty0 htys hnm hX.2.2.2.1 hX.2.2.2.2.2.2.2.1 hP (wld_D hX.2.2.2.2.2.2.2.2.1 M) hS k (by rw [wld_get hk, cell_obj hty hc20]) hc j hj (hX.2.2.2.2.1 _ hlink) (fun _ h => h) hfin hdc hn hfit (by simp [hN, hj]) hd (fun H1 locs1 hP1 _ hS1 => ?_)
  rw [wld_set (M' := up2 M k j v) hk (fun a h => up2_ne h) (by rw [cell_obj hty hc20, hN, fd_set hj hrf])] at hP1
  exact kk H1 locs1 ls hl hP1 hS1 r M' ho
theorem j_putI (hX : jOk X μ G) {k ci j idx N : Nat} {C : String} {T : u_T} {v : Int32} {K : Mem → Res} (hk : k < gN G) (hty : gty G k = ci) (hc : vwCl[ci]? = some (C, T, N)) (hc20 : ci < 20) (hin : ∀ w ∈ u_ws C T N, w ∈ tbg) (ty0 : Nat → FieldType) (htys : ∀ k, k < N → parseFieldDescriptor (T k).2.2.1 = some (ty0 k)) (hnm : ∀ a, a < N → ∀ b, b < N → a ≠ b → (T a).2.1 ≠ (T b).2.1) (hj : j < N) (hrf : grf G k j = none) (hlink : Cond.fieldLink μ.2.2.1 idx (T j).1 (T j).2.1 (T j).2.2.1 ∈ tbg) (hfin : (T j).2.2.2 = false) (hdc : parseFieldDescriptor (T j).2.2.1 = some .int) (hd : decode μ.1 pc = .ok (.putfield idx, 3)) (kk : ∀ M1 : Mem, J X μ G (pc + 3) lv st M1 (K M1)) : J X μ G pc lv (.int v :: .ref (gad G k) :: st) M (fpt M k j v K) :=
  j_putX hX hk hty hc hc20 hin ty0 htys hnm hj hrf hlink hfin hdc (vp_nar_int v) rfl hd (kk (up2 M k j v))
theorem nar_z {v : Int32} (h : v = 0 ∨ v = 1) : narrow .boolean (.int v) = .int v ∧ fits .boolean (.int v) = true := by
  rcases h with rfl | rfl <;> exact ⟨rfl, rfl⟩
theorem j_putZ (hX : jOk X μ G) {k ci j idx N : Nat} {C : String} {T : u_T} {v : Int32} {K : Mem → Res} (hk : k < gN G) (hty : gty G k = ci) (hc : vwCl[ci]? = some (C, T, N)) (hc20 : ci < 20) (hin : ∀ w ∈ u_ws C T N, w ∈ tbg) (ty0 : Nat → FieldType) (htys : ∀ k, k < N → parseFieldDescriptor (T k).2.2.1 = some (ty0 k)) (hnm : ∀ a, a < N → ∀ b, b < N → a ≠ b → (T a).2.1 ≠ (T b).2.1) (hj : j < N) (hrf : grf G k j = none) (hlink : Cond.fieldLink μ.2.2.1 idx (T j).1 (T j).2.1 (T j).2.2.1 ∈ tbg) (hfin : (T j).2.2.2 = false) (hdc : parseFieldDescriptor (T j).2.2.1 = some .boolean) (hd : decode μ.1 pc = .ok (.putfield idx, 3)) (kk : ∀ M1 : Mem, J X μ G (pc + 3) lv st M1 (K M1)) : J X μ G pc lv (.int v :: .ref (gad G k) :: st) M (fpz M k j v K) := by
  by_cases h : v = 0 ∨ v = 1
  · rw [show fpz M k j v K = K (up2 M k j v) from if_pos h]
    exact j_putX hX hk hty hc hc20 hin ty0 htys hnm hj hrf hlink hfin hdc (nar_z h).1 (nar_z h).2 hd (kk (up2 M k j v))
  · rw [show fpz M k j v K = none from if_neg h]
    exact j_none
theorem in_of {i : Int32} {n : Nat} (h : 0 ≤ i.toInt ∧ i.toInt < n) : vp_in i n := vp_in_iff.mpr h
theorem j_iald (hX : jOk X μ G) {k n : Nat} {i : Int32} {K : Int32 → Res} (hk : k < gN G) (hty : gty G k = 20) (hn : gln G k = n) (hd : decode μ.1 pc = .ok (.iaload, 1)) (kk : ∀ v : Int32, J X μ G (pc + 1) lv (.int v :: st) M (K v)) : J X μ G pc lv (.int i :: .ref (gad G k) :: st) M (ld M k n i K) := by
  intro H locs ls hl hP hS r M' ho
  by_cases h : 0 ≤ i.toInt ∧ i.toInt < n
  · rw [show ld M k n i K = K (M k i.toNatClampNeg) from if_pos h] at ho
    exact va_iald hX.1 hX.2.1 hX.2.2.2.2.2.2.2.1 hP k 0 (by rw [wld_get hk, cell_arr hty hn (Or.inl rfl)]) rfl (in_of h) hd (kk _ H locs ls hl hP hS r M' ho)
  · rw [show ld M k n i K = none from if_neg h] at ho; cases ho
theorem j_bald (hX : jOk X μ G) {k n : Nat} {i : Int32} {K : Int32 → Res} (hk : k < gN G) (hty : gty G k = 21) (hn : gln G k = n) (hd : decode μ.1 pc = .ok (.baload, 1)) (kk : ∀ v : Int32, J X μ G (pc + 1) lv (.int v :: st) M (K v)) : J X μ G pc lv (.int i :: .ref (gad G k) :: st) M (ld M k n i K) := by
  intro H locs ls hl hP hS r M' ho
  by_cases h : 0 ≤ i.toInt ∧ i.toInt < n
  · rw [show ld M k n i K = K (M k i.toNatClampNeg) from if_pos h] at ho
    exact va_bald hX.1 hX.2.1 hX.2.2.2.2.2.2.2.1 hP k 1 (by rw [wld_get hk, cell_arr hty hn (Or.inr (Or.inl rfl))]) rfl (in_of h) hd (kk _ H locs ls hl hP hS r M' ho)
  · rw [show ld M k n i K = none from if_neg h] at ho; cases ho
theorem j_cald (hX : jOk X μ G) {k n : Nat} {i : Int32} {K : Int32 → Res} (hk : k < gN G) (hty : gty G k = 22) (hn : gln G k = n) (hd : decode μ.1 pc = .ok (.caload, 1)) (kk : ∀ v : Int32, J X μ G (pc + 1) lv (.int v :: st) M (K v)) : J X μ G pc lv (.int i :: .ref (gad G k) :: st) M (ld M k n i K) := by
  intro H locs ls hl hP hS r M' ho
  by_cases h : 0 ≤ i.toInt ∧ i.toInt < n
  · rw [show ld M k n i K = K (M k i.toNatClampNeg) from if_pos h] at ho
    exact va_cald hX.1 hX.2.1 hX.2.2.2.2.2.2.2.1 hP k 2 (by rw [wld_get hk, cell_arr hty hn (Or.inr (Or.inr rfl))]) rfl (in_of h) hd (kk _ H locs ls hl hP hS r M' ho)
  · rw [show ld M k n i K = none from if_neg h] at ho; cases ho
theorem j_aald (hX : jOk X μ G) {k n : Nat} {i : Int32} {K : Nat → Res} (hk : k < gN G) (hty : gty G k = 23) (hn : gln G k = n) (hd : decode μ.1 pc = .ok (.aaload, 1)) (kk : ∀ q : Nat, q < n → J X μ G (pc + 1) lv (.ref (gad G (grt G k q)) :: st) M (K q)) : J X μ G pc lv (.int i :: .ref (gad G k) :: st) M (ldr n i K) := by
  intro H locs ls hl hP hS r M' ho
  by_cases h : 0 ≤ i.toInt ∧ i.toInt < n
  · rw [show ldr n i K = K i.toNatClampNeg from if_pos h] at ho
    have hlt : i.toNatClampNeg < n := Nat.not_le.mp fun q => (in_of h) (Or.inr q)
    exact va_aldq (f := fun i => some (gad G (grt G k i))) hX.1 hX.2.1 hX.2.2.2.2.2.2.2.1 hP k 3 (by rw [wld_get hk, cell_ref hty hn]) rfl (in_of h) hd (kk _ hlt H locs ls hl hP hS r M' ho)
  · rw [show ldr n i K = none from if_neg h] at ho; cases ho
theorem j_alen (hX : jOk X μ G) {k n t : Nat} {v : Int32} (hk : k < gN G) (hty : gty G k = t) (ht : t = 20 ∨ t = 21 ∨ t = 22) (hn : gln G k = n) (hv : Int32.ofNat n = v) (hd : decode μ.1 pc = .ok (.arraylength, 1)) (kk : J X μ G (pc + 1) lv (.int v :: st) M o) : J X μ G pc lv (.ref (gad G k) :: st) M o := by
  intro H locs ls hl hP hS r M' ho
  have hg : (wld G M)[k]? = some (gad G k, .inl (gcA G t, n, .inl (M k))) := by rw [wld_get hk, cell_arr hty hn ht]
  rcases ht with rfl | rfl | rfl
  · exact va_alen hX.1 hX.2.1 hX.2.2.2.2.2.2.2.1 hP k 0 hg rfl hv hd (kk H locs ls hl hP hS r M' ho)
  · exact va_alen hX.1 hX.2.1 hX.2.2.2.2.2.2.2.1 hP k 1 hg rfl hv hd (kk H locs ls hl hP hS r M' ho)
  · exact va_alen hX.1 hX.2.1 hX.2.2.2.2.2.2.2.1 hP k 2 hg rfl hv hd (kk H locs ls hl hP hS r M' ho)
theorem j_alenR (hX : jOk X μ G) {k n : Nat} {v : Int32} (hk : k < gN G) (hty : gty G k = 23) (hn : gln G k = n) (hv : Int32.ofNat n = v) (hd : decode μ.1 pc = .ok (.arraylength, 1)) (kk : J X μ G (pc + 1) lv (.int v :: st) M o) : J X μ G pc lv (.ref (gad G k) :: st) M o := by
  intro H locs ls hl hP hS r M' ho
  exact va_alen hX.1 hX.2.1 hX.2.2.2.2.2.2.2.1 hP k 3 (by rw [wld_get hk, cell_ref hty hn]) rfl hv hd (kk H locs ls hl hP hS r M' ho)
theorem ja_set {G : jS} {M : Mem} {k t n : Nat} (hk : k < gN G) (hty : gty G k = t) (hn : gln G k = n) (ht : t = 20 ∨ t = 21 ∨ t = 22) (f : Nat → Int32) : (wld G M).set k (gad G k, .inl (gcA G t, n, .inl f)) = wld G (upR M k f) :=
  wld_set hk (fun a h => by simp [upR, h]) (by rw [cell_arr hty hn ht]; simp [upR])
theorem j_iast (hX : jOk X μ G) {k n : Nat} {i v : Int32} {K : Mem → Res} (hk : k < gN G) (hty : gty G k = 20) (hn : gln G k = n) (hd : decode μ.1 pc = .ok (.iastore, 1)) (kk : ∀ M1 : Mem, J X μ G (pc + 1) lv st M1 (K M1)) : J X μ G pc lv (.int v :: .int i :: .ref (gad G k) :: st) M (sto M k n i v K) := by
  intro H locs ls hl hP hS r M' ho
  by_cases h : 0 ≤ i.toInt ∧ i.toInt < n
  · rw [show sto M k n i v K = K (up2 M k i.toNatClampNeg v) from if_pos h] at ho
    refine va_iast hX.1 hX.2.1 hX.2.2.2.2.2.2.2.1 hP (wld_D hX.2.2.2.2.2.2.2.2.1 M) hS k 0 (by rw [wld_get hk, cell_arr hty hn (Or.inl rfl)]) rfl (in_of h) hd (fun H1 locs1 hP1 _ hS1 => ?_)
    rw [ja_set hk hty hn (Or.inl rfl), ← up2_eq] at hP1
    exact kk _ H1 locs1 ls hl hP1 hS1 r M' ho
  · rw [show sto M k n i v K = none from if_neg h] at ho; cases ho
theorem j_bast (hX : jOk X μ G) {k n : Nat} {i v : Int32} {K : Mem → Res} (hk : k < gN G) (hty : gty G k = 21) (hn : gln G k = n) (hd : decode μ.1 pc = .ok (.bastore, 1)) (kk : ∀ M1 : Mem, J X μ G (pc + 1) lv st M1 (K M1)) : J X μ G pc lv (.int v :: .int i :: .ref (gad G k) :: st) M (sto M k n i (vp_nar .byte v) K) := by
  intro H locs ls hl hP hS r M' ho
  by_cases h : 0 ≤ i.toInt ∧ i.toInt < n
  · rw [show sto M k n i (vp_nar .byte v) K = K (up2 M k i.toNatClampNeg (vp_nar .byte v)) from if_pos h] at ho
    refine va_bast hX.1 hX.2.1 hX.2.2.2.2.2.2.2.1 hP (wld_D hX.2.2.2.2.2.2.2.2.1 M) hS k 1 (by rw [wld_get hk, cell_arr hty hn (Or.inr (Or.inl rfl))]) rfl (in_of h) hd (fun H1 locs1 hP1 _ hS1 => ?_)
    rw [ja_set hk hty hn (Or.inr (Or.inl rfl)), ← up2_eq] at hP1
    exact kk _ H1 locs1 ls hl hP1 hS1 r M' ho
  · rw [show sto M k n i (vp_nar .byte v) K = none from if_neg h] at ho; cases ho
theorem j_cast (hX : jOk X μ G) {k n : Nat} {i v : Int32} {K : Mem → Res} (hk : k < gN G) (hty : gty G k = 22) (hn : gln G k = n) (hd : decode μ.1 pc = .ok (.castore, 1)) (kk : ∀ M1 : Mem, J X μ G (pc + 1) lv st M1 (K M1)) : J X μ G pc lv (.int v :: .int i :: .ref (gad G k) :: st) M (sto M k n i (vp_nar .char v) K) := by
  intro H locs ls hl hP hS r M' ho
  by_cases h : 0 ≤ i.toInt ∧ i.toInt < n
  · rw [show sto M k n i (vp_nar .char v) K = K (up2 M k i.toNatClampNeg (vp_nar .char v)) from if_pos h] at ho
    refine va_cast hX.1 hX.2.1 hX.2.2.2.2.2.2.2.1 hP (wld_D hX.2.2.2.2.2.2.2.2.1 M) hS k 2 (by rw [wld_get hk, cell_arr hty hn (Or.inr (Or.inr rfl))]) rfl (in_of h) hd (fun H1 locs1 hP1 _ hS1 => ?_)
    rw [ja_set hk hty hn (Or.inr (Or.inr rfl)), ← up2_eq] at hP1
    exact kk _ H1 locs1 ls hl hP1 hS1 r M' ho
  · rw [show sto M k n i (vp_nar .char v) K = none from if_neg h] at ho; cases ho
/-- System.arraycopy of two whole rows of numbers -/
theorem j_copy (hX : jOk X μ G) {k k' n idx : Nat} {v : Int32} {K : Mem → Res} (hk : k < gN G) (hk' : k' < gN G) (hty : gty G k = 20) (hty' : gty G k' = 20) (hn : gln G k = n) (hn' : gln G k' = n) (hv : Int32.ofNat n = v) (hsm : n < 2 ^ 31) (h1 : Cond.methodLink μ.2.2.1 idx arraycopyName ∈ tbg) (h2 : Cond.native arraycopyName ∈ tbg) (h3 : Cond.static arraycopyName ∈ tbg) (h4 : Cond.initialized "java/lang/System" ∈ tbg) (hf : 1 ≤ μ.2.2.2.2.frames) (hlo : (st.map fun v => v.category).sum + (nativeFrameWords "java/lang/System" "arraycopy" 5 + 11) ≤ μ.2.2.2.2.locals) (hd : decode μ.1 pc = .ok (.invokestatic idx, 3)) (kk : ∀ M1 : Mem, J X μ G (pc + 3) lv st M1 (K M1)) : J X μ G pc lv (.int v :: .int 0 :: .ref (gad G k') :: .int 0 :: .ref (gad G k) :: st) M (cpy M k k' n K) := by
  intro H locs ls hl hP hS r M' ho
  subst hv
  have hcl : (Int32.ofNat n).toNatClampNeg = n := nI_clamp hsm
  have hz : (0 : Int32).toNatClampNeg = 0 := sb_cl0
  refine va_copyi hX.1 hX.2.1 (hX.2.2.1.trans hl.1.symm) hX.2.2.2.1 (hX.2.2.2.2.1 _ h1) (hX.2.2.2.2.1 _ h2) (hX.2.2.2.2.1 _ h3) (hX.2.2.2.2.1 _ h4) hX.2.2.2.2.2.2.2.1 hP (wld_D hX.2.2.2.2.2.2.2.2.1 M) hS k k' 0 0 (ty := .int) (by rw [wld_get hk, cell_arr hty hn (Or.inl rfl)]) (by rw [wld_get hk', cell_arr hty' hn' (Or.inl rfl)]) rfl rfl rfl (by decide) (by decide) (nI_pos hsm) (by rw [hcl, hz]; omega) (by rw [hcl, hz]; omega) (fun i _ => rfl) (by rw [show X.2.2.2.1 = μ.2.2.2.2 from hX.2.2.2.2.2.2.2.2.2]; exact hf) (by rw [show X.2.2.2.1 = μ.2.2.2.2 from hX.2.2.2.2.2.2.2.2.2]; exact hlo) hd (fun H1 locs1 hP1 _ hS1 => ?_)
  rw [ja_set hk' hty' hn' (Or.inl rfl), hcl, hz] at hP1
  exact kk _ H1 locs1 ls hl hP1 hS1 r M' ho
theorem j_min (hX : jOk X μ G) {idx : Nat} {x y : Int32} (h1 : Cond.methodLink μ.2.2.1 idx Lib.Math.min.name ∈ tbg) (h2 : Cond.static Lib.Math.min.name ∈ tbg) (h3 : Cond.initialized "java/lang/Math" ∈ tbg) (h4 : Cond.code Lib.Math.min.name Lib.Math.min.code 2 (some .int) ∈ tbg) (hf : 1 ≤ μ.2.2.2.2.frames) (hlo : (st.map fun v => v.category).sum + 13 ≤ μ.2.2.2.2.locals) (hd : decode μ.1 pc = .ok (.invokestatic idx, 3)) (kk : J X μ G (pc + 3) lv (.int (imin x y) :: st) M o) : J X μ G pc lv (.int y :: .int x :: st) M o :=
  fun H locs ls hl hP hS r M' ho => va_mmin hX.1 hX.2.1 (hX.2.2.1.trans hl.1.symm) hX.2.2.2.1 (hX.2.2.2.2.1 _ h1) (hX.2.2.2.2.1 _ h2) (hX.2.2.2.2.1 _ h3) (hX.2.2.2.2.1 _ h4) (by rw [show X.2.2.2.1 = μ.2.2.2.2 from hX.2.2.2.2.2.2.2.2.2]; exact hf) (by rw [show X.2.2.2.1 = μ.2.2.2.2 from hX.2.2.2.2.2.2.2.2.2]; exact hlo) (Nat.zero_le _) (Nat.zero_le _) hd (kk H locs ls hl hP hS r M' ho)
theorem j_max (hX : jOk X μ G) {idx : Nat} {x y : Int32} (h1 : Cond.methodLink μ.2.2.1 idx Lib.Math.max.name ∈ tbg) (h2 : Cond.static Lib.Math.max.name ∈ tbg) (h3 : Cond.initialized "java/lang/Math" ∈ tbg) (h4 : Cond.code Lib.Math.max.name Lib.Math.max.code 2 (some .int) ∈ tbg) (hf : 1 ≤ μ.2.2.2.2.frames) (hlo : (st.map fun v => v.category).sum + 13 ≤ μ.2.2.2.2.locals) (hd : decode μ.1 pc = .ok (.invokestatic idx, 3)) (kk : J X μ G (pc + 3) lv (.int (imax x y) :: st) M o) : J X μ G pc lv (.int y :: .int x :: st) M o :=
  fun H locs ls hl hP hS r M' ho => va_mmax hX.1 hX.2.1 (hX.2.2.1.trans hl.1.symm) hX.2.2.2.1 (hX.2.2.2.2.1 _ h1) (hX.2.2.2.2.1 _ h2) (hX.2.2.2.2.1 _ h3) (hX.2.2.2.2.1 _ h4) (by rw [show X.2.2.2.1 = μ.2.2.2.2 from hX.2.2.2.2.2.2.2.2.2]; exact hf) (by rw [show X.2.2.2.1 = μ.2.2.2.2 from hX.2.2.2.2.2.2.2.2.2]; exact hlo) (Nat.zero_le _) (Nat.zero_le _) hd (kk H locs ls hl hP hS r M' ho)
/-- ends -/
theorem j_iret (hX : jOk X μ G) {v : Int32} (hr : μ.2.2.2.1 = some .int) (hd : decode μ.1 pc = .ok (.ireturn, 1)) : J X μ G pc lv [.int v] M (some (v, M)) := by
  intro H locs ls hl hP hS r M' ho
  cases ho
  exact W.iret hX.1 hX.2.1 (hX.2.2.2.2.2.2.1.trans hr) (fun t ht _ => ⟨⟨by rw [hr]; rfl, by rw [ht]; exact hP⟩, hS.F ht⟩) hS.2.2 hd hX.2.2.2.2.2.1
theorem j_vret (hX : jOk X μ G) (hr : μ.2.2.2.1 = none) (hd : decode μ.1 pc = .ok (.return_, 1)) : J X μ G pc lv [] M (some (0, M)) := by
  intro H locs ls hl hP hS r M' ho
  cases ho
  exact W.vret hX.1 hX.2.1 (hX.2.2.2.2.2.2.1.trans hr) (fun t ht _ => ⟨⟨by rw [hr]; rfl, by rw [ht]; exact hP⟩, hS.F ht⟩) hS.2.2 hd hX.2.2.2.2.2.1
theorem j_zret (hX : jOk X μ G) {v : Int32} (hr : μ.2.2.2.1 = some .boolean) (hd : decode μ.1 pc = .ok (.ireturn, 1)) : J X μ G pc lv [.int v] M (rtz v M) := by
  intro H locs ls hl hP hS r M' ho
  by_cases h : v = 0 ∨ v = 1
  · rw [show rtz v M = some (v, M) from if_pos h] at ho
    cases ho
    exact W.zret hX.1 hX.2.1 (hX.2.2.2.2.2.2.1.trans hr) (nar_z h).1 (fun t ht _ => ⟨⟨by rw [hr]; rfl, by rw [ht]; exact hP⟩, hS.F ht⟩) hS.2.2 hd hX.2.2.2.2.2.1
  · rw [show rtz v M = none from if_neg h] at ho; cases ho
theorem j_cret (hX : jOk X μ G) {v : Int32} (hr : μ.2.2.2.1 = some .char) (hd : decode μ.1 pc = .ok (.ireturn, 1)) : J X μ G pc lv [.int v] M (rtc v M) := by
  intro H locs ls hl hP hS r M' ho
  by_cases h : 0 ≤ v.toInt ∧ v.toInt < 65536
  · rw [show rtc v M = some (v, M) from if_pos h] at ho
    cases ho
    obtain ⟨j, hj, rfl⟩ := vp_in_of (vp_in_iff.mpr (show 0 ≤ v.toInt ∧ v.toInt < ((65536 : Nat) : Int) from h)) (by decide)
    exact W.zret hX.1 hX.2.1 (hX.2.2.2.2.2.2.1.trans hr) (pk_charN hj).1 (fun t ht _ => ⟨⟨by rw [hr]; rfl, by rw [ht]; exact hP⟩, hS.F ht⟩) hS.2.2 hd hX.2.2.2.2.2.1
  · rw [show rtc v M = none from if_neg h] at ho; cases ho
theorem j_aret (hX : jOk X μ G) {k : Nat} {C : String} (hsm : k < 2 ^ 31) (hr : μ.2.2.2.1 = some (.object C)) (hd : decode μ.1 pc = .ok (.areturn, 1)) : J X μ G pc lv [.ref (gad G k)] M (some (nI k, M)) := by
  intro H locs ls hl hP hS r M' ho
  cases ho
  exact W.aret hX.1 hX.2.1 (hX.2.2.2.2.2.2.1.trans hr) (Or.inl ⟨C, rfl⟩) (Or.inr ⟨_, rfl⟩) (fun t ht _ => ⟨⟨by rw [hr]; simp [rvO, nI_clamp hsm], by rw [ht]; exact hP⟩, hS.F ht⟩) hS.2.2 hd hX.2.2.2.2.2.1
end JM
end
section
/-! calls, entries -/
/-- a method's contract over the memory: it does what the pure program o says -/
def jMet (l : Launch) (G : jS) (y : MethodName) (cc : ByteArray) (nL : Nat) (ret : Option FieldType) (rm : Room) (avs : List Value) (M : Mem) (o : Res) : Prop :=
  ∀ (r : Int32) (M' : Mem), o = some (r, M') → Met l y (Cond.code y cc nL ret :: tbg) rm (va_Pc avs (fun U => va_P (gD G) vwCl (wld G M) U.heap ∧ va_K (gD G) vwCl (tyL G) U)) (jQ G ret r M') 0 0 (jA G)
theorem j_entry {l : Launch} {G : jS} {y : MethodName} {cc : ByteArray} {nL : Nat} {ret : Option FieldType} {rm : Room} {avs : List Value} {M : Mem} {o : Res} (hinj : jInj G) (hy : plainName y.cls = true) (hlen : (lg_sl avs).length ≤ nL) {lv : List (Nat × Value)} (hlv : lv_args 0 avs = lv)
    (body : ∀ X : jC, X.2.1 = l → jOk X (cc, nL, y.cls, ret, rm) G → J X (cc, nL, y.cls, ret, rm) G 0 lv [] M o) : jMet l G y cc nL ret rm avs M o := by
  intro r M' ho
  subst hlv
  refine Met.ofW (cc := cc) (maxL := nL) (ret := ret) hy rfl ?_
  intro p e s m args below meth c s₁ B hml hv
  obtain ⟨rfl, hP, hK⟩ := hv
  have hts := atoms_spec (ws := Cond.code y cc nL ret :: tbg) B.pre
  have hown : s.vm.findClass y.cls = some m.cls := findClass_of_methodNamed B.named
  have hOk : jOk (p, l, e, rm, s, m, avs.toArray, below, meth, c) (cc, nL, y.cls, ret, rm) G :=
    ⟨B.exec, B.bytes, hml, hown, fun w hw => hts w (List.mem_cons_of_mem _ hw), B.notSynchronized, B.returns, hK, hinj, rfl⟩
  rw [lg_entry_eq]
  exact body _ rfl hOk s.heap [] _ (lv_entry avs hlen) hP va_S.rf r M' ho
/-- what the tables say of a method that is called on an object -/
def jYv (y : MethodName) (cc : ByteArray) (nL : Nat) (ret : Option FieldType) (n : Nat) : Prop :=
  Cond.instanceMethod y ∈ tbg ∧ Cond.selects y.cls y y ∈ tbg ∧ Cond.initialized y.cls ∈ tbg ∧ Cond.code y cc nL ret ∈ tbg ∧ (y.cls ≠ "java/lang/invoke/MethodHandle" ∧ y.cls ≠ "java/lang/invoke/VarHandle" ∧ (parseMethodDescriptor y.desc).map (fun d => d.parameters.length) = some n)
def jYs (y : MethodName) (cc : ByteArray) (nL : Nat) (ret : Option FieldType) (n : Nat) : Prop :=
  Cond.static y ∈ tbg ∧ Cond.initialized y.cls ∈ tbg ∧ Cond.code y cc nL ret ∈ tbg ∧ (y.cls ≠ "java/lang/invoke/MethodHandle" ∧ y.cls ≠ "java/lang/invoke/VarHandle" ∧ (parseMethodDescriptor y.desc).map (fun d => d.parameters.length) = some n)
theorem gi_v {own : String} {idx nL n : Nat} {y : MethodName} {cc : ByteArray} {ret : Option FieldType} (hY : jYv y cc nL ret n) (hl : Cond.methodLink own idx y ∈ tbg) : GoodIn tbg (wsV own idx y.cls y (Cond.code y cc nL ret :: tbg)) := by
  intro w hw
  have hm : w ∈ tbg := by
    simp only [wsV, List.cons_append, List.nil_append, List.mem_cons] at hw
    rcases hw with rfl | rfl | rfl | rfl | rfl | h
    · exact hl
    · exact hY.1
    · exact hY.2.1
    · exact hY.2.2.1
    · exact hY.2.2.2.1
    · exact h
  exact ⟨hm, tbg_good hm⟩
theorem gi_s {own : String} {idx nL n : Nat} {y : MethodName} {cc : ByteArray} {ret : Option FieldType} (hY : jYs y cc nL ret n) (hl : Cond.methodLink own idx y ∈ tbg) : GoodIn tbg (va_wsS own idx y (Cond.code y cc nL ret :: tbg)) := by
  intro w hw
  have hm : w ∈ tbg := by
    simp only [va_wsS, List.cons_append, List.nil_append, List.mem_cons] at hw
    rcases hw with rfl | rfl | rfl | rfl | h
    · exact hl
    · exact hY.1
    · exact hY.2.1
    · exact hY.2.2.1
    · exact h
  exact ⟨hm, tbg_good hm⟩
theorem pc_blind (G : jS) (avs : List Value) (M : Mem) : FrameBlind (va_Pc avs (fun U => va_P (gD G) vwCl (wld G M) U.heap ∧ va_K (gD G) vwCl (tyL G) U)) := by
  intro a U g mk q
  obtain ⟨q0, qP, qK⟩ := q
  exact ⟨q0, qP, va_K.moved (u := U) (U := U.calling g mk a) (Vm.Alike.refl U.vm) qK⟩
section JK
variable {X : jC} {μ : jM} {G : jS} {pc : Nat} {lv : List (Nat × Value)} {st : List Value} {M : Mem}
theorem j_behind {μ : jM} {ret' : Option FieldType} {f : Res} {K : Int32 → Mem → Res} {stk : List Value} {a : Array Value}
    (hrun : ∀ (r : Int32) (M1 : Mem), f = some (r, M1) → ∀ (H : Heap) (locs : List Loc) (ls : Array Slot), lv_has ls μ.2.1 lv → va_P (gD G) vwCl (wld G M) H → va_Run X.1 X.2.1 X.2.2.1 X.2.2.2.1 X.2.2.2.2.1 X.2.2.2.2.2.1 X.2.2.2.2.2.2.1 X.2.2.2.2.2.2.2.1 X.2.2.2.2.2.2.2.2.1 X.2.2.2.2.2.2.2.2.2 H locs 0 0 0 0 (F0 (jid X) pc ls stk) st (jQ G ret' r M1 a) (jA G))
    (kk : ∀ (r : Int32) (M1 : Mem), f = some (r, M1) → J X μ G (pc + 3) lv ((rvO ret' G r).toList ++ st) M1 (K r M1)) : J X μ G pc lv stk M (bI f K) := by
  intro H locs ls hl hP hS r' M'' ho
  cases hf : f with
  | none => rw [hf] at ho; cases ho
  | some q =>
    obtain ⟨r, M1⟩ := q
    rw [hf] at ho
    intro T hT X0
    obtain ⟨v, st₀, t, T', L, h0, X', hL, e1, e2, ⟨⟨hv, hPt⟩, hF⟩, go⟩ := hrun r M1 hf H locs ls hl hP T hT X0
    cases hv
    rw [va_F, h0] at hF
    obtain ⟨t2, a1, b1⟩ := kk r M1 hf T'.heap (locs ++ L) ls hl (by rw [e1]; exact hPt)
      ⟨Nat.le_trans hS.1 (by rw [e1]; exact hF.1), fun q h1 h2 => by rw [e1, hF.2 q (Nat.lt_of_lt_of_le h1 hS.1) h2]; exact hS.2.1 q h1 h2, fun q hq => by
        rcases List.mem_append.mp hq with h | h
        · exact hS.2.2 q h
        · exact hL q h⟩ r' M'' ho T' rfl X'
    exact ⟨t2, go t2 a1, b1⟩
theorem j_callV0 (hX : jOk X μ G) {y : MethodName} {cc' : ByteArray} {nL' n idx k ci N : Nat} {ret' : Option FieldType} {rm' : Room} {T : u_T} {As : List Value} {f : Res} {K : Int32 → Mem → Res} (hM : jMet X.2.1 G y cc' nL' ret' rm' (.ref (gad G k) :: As) M f) (hY : jYv y cc' nL' ret' n) (hl : Cond.methodLink μ.2.2.1 idx y ∈ tbg) (hk : k < gN G) (hty : gty G k = ci) (hc : vwCl[ci]? = some (y.cls, T, N)) (hc20 : ci < 20) (hn : As.length = n) (hz : rm'.cells = 0 ∧ rm'.slots = 0) (hR : rm'.frames + 1 ≤ μ.2.2.2.2.frames ∧ 8 + (nL' + 11) + rm'.locals ≤ μ.2.2.2.2.locals) (hst : (st.map fun v => v.category).sum ≤ 8) (hd : decode μ.1 pc = .ok (.invokevirtual idx, 3))
    (kk : ∀ (r : Int32) (M1 : Mem), f = some (r, M1) → J X μ G (pc + 3) lv ((rvO ret' G r).toList ++ st) M1 (K r M1)) : J X μ G pc lv (As.reverse ++ .ref (gad G k) :: st) M (bI f K) := by
  refine j_behind (ret' := ret') (a := (Value.ref (gad G k) :: As).toArray) (fun r M1 hf H locs ls hl' hP => ?_) kk
  have hR' : rm'.frames + 1 ≤ X.2.2.2.1.frames ∧ 8 + (nL' + 11) + rm'.locals ≤ X.2.2.2.1.locals := by rw [show X.2.2.2.1 = μ.2.2.2.2 from hX.2.2.2.2.2.2.2.2.2]; exact hR
  exact va_runV ⟨hX.1, hX.2.1, hX.2.2.1, hX.2.2.2.1, hX.2.2.2.2.1⟩ (hM r M1 hf) (cwV n hX.2.2.2.2.1 (gi_v hY hl) rfl hz.1 hz.2 ⟨rfl, hY.2.2.2.2⟩ hR') ⟨pc_blind G _ M, va_recv hX.2.2.2.2.2.2.2.1 hP hc (by rw [wld_get hk, cell_obj hty hc20]), fun U hU hW => ⟨rfl, by rw [hU]; exact hP, va_K.moved hW.alike hX.2.2.2.2.2.2.2.1⟩⟩ rfl hn hl'.1 rfl (lv_room hst) hd ⟨Nat.zero_le _, Nat.zero_le _⟩
theorem j_callS0 (hX : jOk X μ G) {y : MethodName} {cc' : ByteArray} {nL' n idx : Nat} {ret' : Option FieldType} {rm' : Room} {As : List Value} {f : Res} {K : Int32 → Mem → Res} (hM : jMet X.2.1 G y cc' nL' ret' rm' As M f) (hY : jYs y cc' nL' ret' n) (hl : Cond.methodLink μ.2.2.1 idx y ∈ tbg) (hn : As.length = n) (hz : rm'.cells = 0 ∧ rm'.slots = 0) (hR : rm'.frames + 1 ≤ μ.2.2.2.2.frames ∧ 8 + (nL' + 11) + rm'.locals ≤ μ.2.2.2.2.locals) (hst : (st.map fun v => v.category).sum ≤ 8) (hd : decode μ.1 pc = .ok (.invokestatic idx, 3))
    (kk : ∀ (r : Int32) (M1 : Mem), f = some (r, M1) → J X μ G (pc + 3) lv ((rvO ret' G r).toList ++ st) M1 (K r M1)) : J X μ G pc lv (As.reverse ++ st) M (bI f K) := by
  refine j_behind (ret' := ret') (a := As.toArray) (fun r M1 hf H locs ls hl' hP => ?_) kk
  have hR' : rm'.frames + 1 ≤ X.2.2.2.1.frames ∧ 8 + (nL' + 11) + rm'.locals ≤ X.2.2.2.1.locals := by rw [show X.2.2.2.1 = μ.2.2.2.2 from hX.2.2.2.2.2.2.2.2.2]; exact hR
  exact va_runS ⟨hX.1, hX.2.1, hX.2.2.1, hX.2.2.2.1, hX.2.2.2.2.1⟩ (hM r M1 hf) (va_cwS n hX.2.2.2.2.1 (gi_s hY hl) rfl hz.1 hz.2 hY.2.2.2 hR') ⟨pc_blind G _ M, fun U hU hW => ⟨rfl, by rw [hU]; exact hP, va_K.moved hW.alike hX.2.2.2.2.2.2.2.1⟩⟩ rfl hn hl'.1 rfl (lv_room hst) hd ⟨Nat.zero_le _, Nat.zero_le _⟩
theorem j_callV (hX : jOk X μ G) {y : MethodName} {cc' : ByteArray} {nL' n idx k ci N : Nat} {ret' : Option FieldType} {rm' : Room} {T : u_T} (As : List Value) {stk : List Value} {f : Res} {K : Int32 → Mem → Res} (hM : jMet X.2.1 G y cc' nL' ret' rm' (.ref (gad G k) :: As) M f) (hY : jYv y cc' nL' ret' n) (hl : Cond.methodLink μ.2.2.1 idx y ∈ tbg) (hk : k < gN G) (hty : gty G k = ci) (hc : vwCl[ci]? = some (y.cls, T, N)) (hc20 : ci < 20) (hn : As.length = n) (hz : rm'.cells = 0 ∧ rm'.slots = 0) (hR : rm'.frames + 1 ≤ μ.2.2.2.2.frames ∧ 8 + (nL' + 11) + rm'.locals ≤ μ.2.2.2.2.locals) (hst : (st.map fun v => v.category).sum ≤ 8) (hd : decode μ.1 pc = .ok (.invokevirtual idx, 3)) (hrv : ∀ r, rvO ret' G r = some (.int r)) (hstk : As.reverse ++ .ref (gad G k) :: st = stk)
    (kk : ∀ (r : Int32) (M1 : Mem), J X μ G (pc + 3) lv (.int r :: st) M1 (K r M1)) : J X μ G pc lv stk M (bI f K) := by
  subst hstk
  exact j_callV0 hX hM hY hl hk hty hc hc20 hn hz hR hst hd (fun r M1 _ => by rw [hrv r]; exact kk r M1)
theorem bV_eq (f : Res) (K : Mem → Res) : bV f K = bI f (fun _ M1 => K M1) := by cases f <;> rfl
theorem j_callVv (hX : jOk X μ G) {y : MethodName} {cc' : ByteArray} {nL' n idx k ci N : Nat} {rm' : Room} {T : u_T} (As : List Value) {stk : List Value} {f : Res} {K : Mem → Res} (hM : jMet X.2.1 G y cc' nL' none rm' (.ref (gad G k) :: As) M f) (hY : jYv y cc' nL' none n) (hl : Cond.methodLink μ.2.2.1 idx y ∈ tbg) (hk : k < gN G) (hty : gty G k = ci) (hc : vwCl[ci]? = some (y.cls, T, N)) (hc20 : ci < 20) (hn : As.length = n) (hz : rm'.cells = 0 ∧ rm'.slots = 0) (hR : rm'.frames + 1 ≤ μ.2.2.2.2.frames ∧ 8 + (nL' + 11) + rm'.locals ≤ μ.2.2.2.2.locals) (hst : (st.map fun v => v.category).sum ≤ 8) (hd : decode μ.1 pc = .ok (.invokevirtual idx, 3)) (hstk : As.reverse ++ .ref (gad G k) :: st = stk)
    (kk : ∀ (M1 : Mem), J X μ G (pc + 3) lv st M1 (K M1)) : J X μ G pc lv stk M (bV f K) := by
  subst hstk
  rw [bV_eq]
  exact j_callV0 hX hM hY hl hk hty hc hc20 hn hz hR hst hd (fun r M1 _ => kk M1)
theorem j_callS (hX : jOk X μ G) {y : MethodName} {cc' : ByteArray} {nL' n idx : Nat} {ret' : Option FieldType} {rm' : Room} (As : List Value) {stk : List Value} {f : Res} {K : Int32 → Mem → Res} (hM : jMet X.2.1 G y cc' nL' ret' rm' As M f) (hY : jYs y cc' nL' ret' n) (hl : Cond.methodLink μ.2.2.1 idx y ∈ tbg) (hn : As.length = n) (hz : rm'.cells = 0 ∧ rm'.slots = 0) (hR : rm'.frames + 1 ≤ μ.2.2.2.2.frames ∧ 8 + (nL' + 11) + rm'.locals ≤ μ.2.2.2.2.locals) (hst : (st.map fun v => v.category).sum ≤ 8) (hd : decode μ.1 pc = .ok (.invokestatic idx, 3)) (hrv : ∀ r, rvO ret' G r = some (.int r)) (hstk : As.reverse ++ st = stk)
    (kk : ∀ (r : Int32) (M1 : Mem), J X μ G (pc + 3) lv (.int r :: st) M1 (K r M1)) : J X μ G pc lv stk M (bI f K) := by
  subst hstk
  exact j_callS0 hX hM hY hl hn hz hR hst hd (fun r M1 _ => by rw [hrv r]; exact kk r M1)
theorem j_callSv (hX : jOk X μ G) {y : MethodName} {cc' : ByteArray} {nL' n idx : Nat} {rm' : Room} (As : List Value) {stk : List Value} {f : Res} {K : Mem → Res} (hM : jMet X.2.1 G y cc' nL' none rm' As M f) (hY : jYs y cc' nL' none n) (hl : Cond.methodLink μ.2.2.1 idx y ∈ tbg) (hn : As.length = n) (hz : rm'.cells = 0 ∧ rm'.slots = 0) (hR : rm'.frames + 1 ≤ μ.2.2.2.2.frames ∧ 8 + (nL' + 11) + rm'.locals ≤ μ.2.2.2.2.locals) (hst : (st.map fun v => v.category).sum ≤ 8) (hd : decode μ.1 pc = .ok (.invokestatic idx, 3)) (hstk : As.reverse ++ st = stk)
    (kk : ∀ (M1 : Mem), J X μ G (pc + 3) lv st M1 (K M1)) : J X μ G pc lv stk M (bV f K) := by
  subst hstk
  rw [bV_eq]
  exact j_callS0 hX hM hY hl hn hz hR hst hd (fun r M1 _ => kk M1)
/-- an answer that is a cell: the k-th -/
def bR (f : Res) (k : Nat) (K : Mem → Res) : Res := match f with
  | none => none
  | some q => if q.1 = nI k then K q.2 else none
theorem bR_eq (f : Res) (k : Nat) (K : Mem → Res) : bR f k K = bI f (fun r M1 => if r = nI k then K M1 else none) := by cases f <;> rfl
theorem j_callVr (hX : jOk X μ G) {y : MethodName} {cc' : ByteArray} {nL' n idx k ci N k' : Nat} {C' : String} {rm' : Room} {T : u_T} (As : List Value) {stk : List Value} {f : Res} {K : Mem → Res} (hM : jMet X.2.1 G y cc' nL' (some (.object C')) rm' (.ref (gad G k) :: As) M f) (hY : jYv y cc' nL' (some (.object C')) n) (hl : Cond.methodLink μ.2.2.1 idx y ∈ tbg) (hk : k < gN G) (hty : gty G k = ci) (hc : vwCl[ci]? = some (y.cls, T, N)) (hc20 : ci < 20) (hn : As.length = n) (hz : rm'.cells = 0 ∧ rm'.slots = 0) (hR : rm'.frames + 1 ≤ μ.2.2.2.2.frames ∧ 8 + (nL' + 11) + rm'.locals ≤ μ.2.2.2.2.locals) (hst : (st.map fun v => v.category).sum ≤ 8) (hd : decode μ.1 pc = .ok (.invokevirtual idx, 3)) (hsm : k' < 2 ^ 31) (hstk : As.reverse ++ .ref (gad G k) :: st = stk)
    (kk : ∀ (M1 : Mem), J X μ G (pc + 3) lv (.ref (gad G k') :: st) M1 (K M1)) : J X μ G pc lv stk M (bR f k' K) := by
  subst hstk
  rw [bR_eq]
  refine j_callV0 hX hM hY hl hk hty hc hc20 hn hz hR hst hd (fun r M1 _ => ?_)
  by_cases h : r = nI k'
  · rw [if_pos h]
    subst h
    have e : rvO (some (.object C')) G (nI k') = some (.ref (gad G k')) := by simp [rvO, nI_clamp hsm]
    rw [e]
    exact kk M1
  · rw [if_neg h]
    exact j_none
def ius (x y : Int32) : Int32 := (x.toUInt32 >>> (y.toUInt32 &&& Int32.toUInt32 31)).toInt32
theorem j_iushr (hX : jOk X μ G) {x y : Int32} {o : Res} (hd : decode μ.1 pc = .ok (.iushr, 1)) (kk : J X μ G (pc + 1) lv (.int (ius x y) :: st) M o) : J X μ G pc lv (.int y :: .int x :: st) M o :=
  fun H locs ls hl hP hS r M' ho => lv_iushr hX.1 hX.2.1 hd rfl (kk H locs ls hl hP hS r M' ho)
theorem j_ldcw (hX : jOk X μ G) {idx : Nat} {v : Int32} {o : Res} (hw : Cond.constant μ.2.2.1 idx v ∈ tbg) (hd : decode μ.1 pc = .ok (.ldc_w idx, 3)) (kk : J X μ G (pc + 3) lv (.int v :: st) M o) : J X μ G pc lv st M o :=
  fun H locs ls hl hP hS r M' ho => lv_ldcw hX.1 hX.2.1 hX.2.2.2.1 (hX.2.2.2.2.1 _ hw) hd (kk H locs ls hl hP hS r M' ho)
/-- switches: x by a list of numbers -/
theorem j_tableOut (hX : jOk X μ G) {dflt lo hi : Int} {offs : Array Int} {len : Nat} {x : Int32} {o : Res} (tgt : Nat) (hd : decode μ.1 pc = .ok (.tableswitch dflt lo hi offs, len)) (h : x.toInt < lo ∨ hi < x.toInt) (ht : (pc : Int) + dflt = (tgt : Int)) (kk : J X μ G tgt lv st M o) : J X μ G pc lv (.int x :: st) M o :=
  fun H locs ls hl hP hS r M' ho => lv_tableOut hX.1 hX.2.1 hd h ht (kk H locs ls hl hP hS r M' ho)
theorem j_tableIn (hX : jOk X μ G) {dflt lo hi : Int} {offs : Array Int} {len : Nat} {x : Int32} {off : Int} {o : Res} (tgt : Nat) (hd : decode μ.1 pc = .ok (.tableswitch dflt lo hi offs, len)) (h1 : ¬ x.toInt < lo) (h2 : ¬ hi < x.toInt) (ho : offs[(x.toInt - lo).toNat]? = some off) (ht : (pc : Int) + off = (tgt : Int)) (kk : J X μ G tgt lv st M o) : J X μ G pc lv (.int x :: st) M o :=
  fun H locs ls hl hP hS r M' ho' => lv_tableIn hX.1 hX.2.1 hd h1 h2 ho ht (kk H locs ls hl hP hS r M' ho')
theorem j_lookup (hX : jOk X μ G) {dflt : Int} {ps : Array (Int × Int)} {len : Nat} {x : Int32} {off : Int} {o : Res} (tgt : Nat) (hd : decode μ.1 pc = .ok (.lookupswitch dflt ps, len)) (hp : (ps.toList.zip (ps.toList.drop 1)).all (fun (a, next) => a.1 < next.1) = true) (ho : Op.lookupswitch.offset ps.toList dflt x.toInt = off) (ht : (pc : Int) + off = (tgt : Int)) (kk : J X μ G tgt lv st M o) : J X μ G pc lv (.int x :: st) M o :=
  fun H locs ls hl hP hS r M' ho' => lv_lookup hX.1 hX.2.1 hd hp ho ht (kk H locs ls hl hP hS r M' ho')
theorem j_if {x : Int32} {c : Prop} [Decidable c] {stk : List Value} {o1 o2 : Res} (h1 : c → J X μ G pc lv stk M o1) (h2 : ¬ c → J X μ G pc lv stk M o2) : J X μ G pc lv stk M (if c then o1 else o2) := by
  by_cases h : c
  · rw [if_pos h]; exact h1 h
  · rw [if_neg h]; exact h2 h
end JK
end
section
/-! the shapes of the class (81 cells) and of the reference (17 cells) -/
abbrev jE : Type := va_G × (Nat → Nat) × (Nat → ClassId)
def tX (k : Nat) : Nat := [8, 5, 22, 6, 20, 1, 20, 20, 20, 20, 20, 20, 20, 20, 20, 20, 1, 20, 20, 20, 20, 20, 20, 20, 20, 20, 20, 4, 20, 7, 23, 4, 20, 4, 20, 4, 20, 4, 20, 4, 20, 4, 20, 4, 20, 4, 20, 7, 23, 4, 20, 4, 20, 3, 4, 20, 2, 20, 20, 4, 20, 0, 23, 4, 20, 4, 20, 4, 20, 4, 20, 4, 20, 4, 20, 4, 20, 4, 20, 4, 20].getD k 99
def lX (k : Nat) : Nat := [0, 0, 200, 0, 3, 0, 64, 64, 64, 4, 4, 5, 5, 5, 8, 8, 0, 64, 64, 64, 4, 4, 5, 5, 5, 8, 8, 0, 64, 0, 8, 0, 64, 0, 64, 0, 64, 0, 64, 0, 64, 0, 64, 0, 64, 0, 64, 0, 2, 0, 64, 0, 64, 0, 0, 64, 0, 4, 4, 0, 64, 0, 9, 0, 64, 0, 64, 0, 64, 0, 64, 0, 64, 0, 64, 0, 64, 0, 64, 0, 64].getD k 0
def rfX (k j : Nat) : Option Nat := match tX k with
  | 0 => some 62
  | 1 => if j < 10 then some (k + 1 + j) else none
  | 2 => some ([5, 59, 57, 58].getD j 0)
  | 3 => some ([5, 54].getD j 0)
  | 4 => if j = 0 then some 5 else some (k + 1)
  | 5 => if j = 0 then some 2 else none
  | 6 => if j = 0 then some 4 else none
  | 7 => if j = 0 then some (k + 1) else none
  | 8 => some ([1, 3, 5, 16, 27, 29, 47, 53, 56, 61].getD j 0)
  | _ => none
def rtX (a q : Nat) : Nat := a + 1 + 2 * q
def gX (E : jE) : jS := (E.1, E.2.1, E.2.2, 81, tX, lX, rfX, rtX)
def tM (k : Nat) : Nat := [9, 20, 20, 20, 20, 20, 20, 20, 20, 20, 20, 20, 20, 21, 20, 20, 20].getD k 99
def lM (k : Nat) : Nat := [0, 64, 64, 4, 4, 5, 5, 64, 4, 4, 5, 5, 768, 200, 5, 4, 4].getD k 0
def rfM (k j : Nat) : Option Nat := if k = 0 then (match j with
  | 1 => some 1
  | 2 => some 2
  | 5 => some 3
  | 6 => some 4
  | 8 => some 5
  | 9 => some 6
  | 11 => some 7
  | 14 => some 8
  | 15 => some 9
  | 17 => some 10
  | 18 => some 11
  | 19 => some 12
  | 23 => some 13
  | 27 => some 14
  | 28 => some 15
  | 29 => some 16
  | _ => none) else none
def gM (E : jE) : jS := (E.1, E.2.1, E.2.2, 17, tM, lM, rfM, fun _ _ => 0)
theorem jb {a b : Nat} (h : Nat.ble (a + 1) b = true) : a < b := Nat.le_of_ble_eq_true h
theorem tX_lt {k t : Nat} (h : tX k = t) (ht : t < 99) : k < 81 := by
  rcases Nat.lt_or_ge k 81 with q | q
  · exact q
  · have : tX k = 99 := by
      unfold tX
      rw [List.getD_eq_getElem?_getD, List.getElem?_eq_none (by simpa using q)]; rfl
    omega
theorem hh0 : ∀ k, k < 81 → tX k = 4 → tX (k + 1) = 20 ∧ lX (k + 1) = 64 ∧ k + 1 < 81 := by decide
theorem hh {k : Nat} (h : tX k = 4) : k < 81 ∧ tX (k + 1) = 20 ∧ lX (k + 1) = 64 ∧ k + 1 < 81 := ⟨tX_lt h (by decide), hh0 k (tX_lt h (by decide)) h⟩
theorem hc0 : ∀ k, k < 81 → tX k = 1 → ∀ j, j < 10 → tX (k + 1 + j) = 20 ∧ k + 1 + j < 81 ∧ lX (k + 1 + j) = [64, 64, 64, 4, 4, 5, 5, 5, 8, 8].getD j 0 := by decide
theorem hc {k : Nat} (h : tX k = 1) : k < 81 := tX_lt h (by decide)
theorem hcj {k j : Nat} (h : tX k = 1) (hj : j < 10) : tX (k + 1 + j) = 20 ∧ k + 1 + j < 81 ∧ lX (k + 1 + j) = [64, 64, 64, 4, 4, 5, 5, 5, 8, 8].getD j 0 := hc0 k (hc h) h j hj
theorem hs0 : ∀ k, k < 81 → tX k = 7 → tX (k + 1) = 23 ∧ k + 1 < 81 := by decide
theorem hs {k : Nat} (h : tX k = 7) : k < 81 ∧ tX (k + 1) = 23 ∧ k + 1 < 81 := ⟨tX_lt h (by decide), hs0 k (tX_lt h (by decide)) h⟩
theorem he0 : ∀ a, a < 81 → tX a = 23 → ∀ q, q < 9 → q < lX a → tX (a + 1 + 2 * q) = 4 := by decide
theorem hl9 : ∀ a, a < 81 → tX a = 23 → lX a ≤ 9 := by decide
theorem he {a q : Nat} (h : tX a = 23) (hq : q < lX a) : tX (a + 1 + 2 * q) = 4 := he0 a (tX_lt h (by decide)) h q (Nat.lt_of_lt_of_le hq (hl9 a (tX_lt h (by decide)) h)) hq
theorem hi {k : Nat} (h : tX k = 20) : k < 81 := tX_lt h (by decide)
theorem rf_h0 {k : Nat} (h : tX k = 4) : rfX k 0 = some 5 := by simp [rfX, h]
theorem rf_h1 {k : Nat} (h : tX k = 4) : rfX k 1 = some (k + 1) := by simp [rfX, h]
theorem rf_c {k j : Nat} (h : tX k = 1) (hj : j < 10) : rfX k j = some (k + 1 + j) := by simp [rfX, h, hj]
theorem rf_cn {k j : Nat} (h : tX k = 1) (hj : 10 ≤ j) : rfX k j = none := by simp [rfX, h]; omega
theorem rf_s0 {k : Nat} (h : tX k = 7) : rfX k 0 = some (k + 1) := by simp [rfX, h]
theorem rf_sn {k j : Nat} (h : tX k = 7) (hj : 0 < j) : rfX k j = none := by simp [rfX, h]; omega
theorem sw_out {x : Int32} {lo hi : Int} (h : ∀ c : Int, lo ≤ c → c ≤ hi → ¬ x = Int32.ofInt c) : x.toInt < lo ∨ hi < x.toInt := by
  rcases Int.lt_or_le x.toInt lo with q | q
  · exact Or.inl q
  · rcases Int.lt_or_le hi x.toInt with r | r
    · exact Or.inr r
    · exact absurd (Int32.ofInt_toInt x).symm (h x.toInt q r)
theorem sw_ne {x : Int32} {c : Int} (h : ¬ x = Int32.ofInt c) : ¬ c = x.toInt := fun e => h (by rw [e]; exact (Int32.ofInt_toInt x).symm)
end
section
/-! words of the tables, constants -/
theorem tbg_in {l : List Cond} {w : Cond} (h : w ∈ l) (hl : ∀ w ∈ l, w ∈ lw_tbl) (g : goodWord w = true) : w ∈ tbg := List.mem_filter.mpr ⟨hl w h, g⟩
theorem tq_1 : ∀ w ∈ tables_1_1, w ∈ lw_tbl := fun w h => List.mem_append_right _ (show w ∈ tables_1 from List.mem_append_left _ h)
theorem tq_2 : ∀ w ∈ tables_1_2, w ∈ lw_tbl := fun w h => List.mem_append_right _ (show w ∈ tables_1 from List.mem_append_right _ (List.mem_append_left _ h))
theorem tq_3 : ∀ w ∈ tables_1_3, w ∈ lw_tbl := fun w h => List.mem_append_right _ (show w ∈ tables_1 from List.mem_append_right _ (List.mem_append_right _ (List.mem_append_left _ h)))
theorem tq_4 : ∀ w ∈ tables_1_4, w ∈ lw_tbl := fun w h => List.mem_append_right _ (show w ∈ tables_1 from List.mem_append_right _ (List.mem_append_right _ (List.mem_append_right _ (List.mem_append_left _ h))))
theorem tq_5 : ∀ w ∈ tables_1_5, w ∈ lw_tbl := fun w h => List.mem_append_right _ (show w ∈ tables_1 from List.mem_append_right _ (List.mem_append_right _ (List.mem_append_right _ (List.mem_append_right _ (List.mem_append_left _ h)))))
theorem tq_6 : ∀ w ∈ tables_1_6, w ∈ lw_tbl := fun w h => List.mem_append_right _ (show w ∈ tables_1 from List.mem_append_right _ (List.mem_append_right _ (List.mem_append_right _ (List.mem_append_right _ (List.mem_append_right _ (h))))))
theorem tp_1 : ∀ w ∈ k2_sels lw_privs_1, w ∈ lw_tbl := fun w h => List.mem_append_left _ (by unfold k2_sels at h ⊢; rw [show lw_privs = lw_privs_1 ++ (lw_privs_2 ++ (lw_privs_3 ++ lw_privs_4)) from rfl]; simp only [List.map_append]; exact List.mem_append_left _ h)
theorem tp_2 : ∀ w ∈ k2_sels lw_privs_2, w ∈ lw_tbl := fun w h => List.mem_append_left _ (by unfold k2_sels at h ⊢; rw [show lw_privs = lw_privs_1 ++ (lw_privs_2 ++ (lw_privs_3 ++ lw_privs_4)) from rfl]; simp only [List.map_append]; exact List.mem_append_right _ (List.mem_append_left _ h))
theorem tp_3 : ∀ w ∈ k2_sels lw_privs_3, w ∈ lw_tbl := fun w h => List.mem_append_left _ (by unfold k2_sels at h ⊢; rw [show lw_privs = lw_privs_1 ++ (lw_privs_2 ++ (lw_privs_3 ++ lw_privs_4)) from rfl]; simp only [List.map_append]; exact List.mem_append_right _ (List.mem_append_right _ (List.mem_append_left _ h)))
theorem tp_4 : ∀ w ∈ k2_sels lw_privs_4, w ∈ lw_tbl := fun w h => List.mem_append_left _ (by unfold k2_sels at h ⊢; rw [show lw_privs = lw_privs_1 ++ (lw_privs_2 ++ (lw_privs_3 ++ lw_privs_4)) from rfl]; simp only [List.map_append]; exact List.mem_append_right _ (List.mem_append_right _ (List.mem_append_right _ (h))))
theorem tw_0 : Cond.selects yX9_open.cls yX9_open yX9_open ∈ tbg := tbg_in (List.mem_of_getElem? (l := k2_sels lw_privs_1) (i := 0) rfl) tp_1 rfl
theorem tw_1 : Cond.selects yX7_split.cls yX7_split yX7_split ∈ tbg := tbg_in (List.mem_of_getElem? (l := k2_sels lw_privs_1) (i := 1) rfl) tp_1 rfl
theorem tw_2 : Cond.selects yX7_take.cls yX7_take yX7_take ∈ tbg := tbg_in (List.mem_of_getElem? (l := k2_sels lw_privs_1) (i := 2) rfl) tp_1 rfl
theorem tw_3 : Cond.selects yX1_distance.cls yX1_distance yX1_distance ∈ tbg := tbg_in (List.mem_of_getElem? (l := k2_sels lw_privs_1) (i := 3) rfl) tp_1 rfl
theorem tw_4 : Cond.selects yX1_lowestHop.cls yX1_lowestHop yX1_lowestHop ∈ tbg := tbg_in (List.mem_of_getElem? (l := k2_sels lw_privs_1) (i := 4) rfl) tp_1 rfl
theorem tw_5 : Cond.selects yX4_set.cls yX4_set yX4_set ∈ tbg := tbg_in (List.mem_of_getElem? (l := k2_sels lw_privs_1) (i := 5) rfl) tp_1 rfl
theorem tw_6 : Cond.selects yX4_move.cls yX4_move yX4_move ∈ tbg := tbg_in (List.mem_of_getElem? (l := k2_sels lw_privs_1) (i := 6) rfl) tp_1 rfl
theorem tw_7 : Cond.selects yX4_end.cls yX4_end yX4_end ∈ tbg := tbg_in (List.mem_of_getElem? (l := k2_sels lw_privs_1) (i := 7) rfl) tp_1 rfl
theorem tw_8 : Cond.selects yX4_arrive.cls yX4_arrive yX4_arrive ∈ tbg := tbg_in (List.mem_of_getElem? (l := k2_sels lw_privs_1) (i := 8) rfl) tp_1 rfl
theorem tw_9 : Cond.selects yX3_awaitBeast.cls yX3_awaitBeast yX3_awaitBeast ∈ tbg := tbg_in (List.mem_of_getElem? (l := k2_sels lw_privs_1) (i := 9) rfl) tp_1 rfl
theorem tw_10 : Cond.selects yX3_trySending.cls yX3_trySending yX3_trySending ∈ tbg := tbg_in (List.mem_of_getElem? (l := k2_sels lw_privs_1) (i := 10) rfl) tp_1 rfl
theorem tw_11 : Cond.selects yX2_pick.cls yX2_pick yX2_pick ∈ tbg := tbg_in (List.mem_of_getElem? (l := k2_sels lw_privs_1) (i := 11) rfl) tp_1 rfl
theorem tw_12 : Cond.selects yX2_sendHand.cls yX2_sendHand yX2_sendHand ∈ tbg := tbg_in (List.mem_of_getElem? (l := k2_sels lw_privs_1) (i := 12) rfl) tp_1 rfl
theorem tw_13 : Cond.selects yX2_awaitHand.cls yX2_awaitHand yX2_awaitHand ∈ tbg := tbg_in (List.mem_of_getElem? (l := k2_sels lw_privs_1) (i := 13) rfl) tp_1 rfl
theorem tw_14 : Cond.selects yX2_going.cls yX2_going yX2_going ∈ tbg := tbg_in (List.mem_of_getElem? (l := k2_sels lw_privs_1) (i := 14) rfl) tp_1 rfl
theorem tw_15 : Cond.selects yX0_weigh.cls yX0_weigh yX0_weigh ∈ tbg := tbg_in (List.mem_of_getElem? (l := k2_sels lw_privs_1) (i := 15) rfl) tp_1 rfl
theorem tw_16 : Cond.selects yX3_act.cls yX3_act yX3_act ∈ tbg := tbg_in (List.mem_of_getElem? (l := k2_sels lw_privs_2) (i := 0) rfl) tp_2 rfl
theorem tw_17 : Cond.selects yX10_clears.cls yX10_clears yX10_clears ∈ tbg := tbg_in (List.mem_of_getElem? (l := k2_sels lw_privs_2) (i := 1) rfl) tp_2 rfl
theorem tw_18 : Cond.selects yX10_leads.cls yX10_leads yX10_leads ∈ tbg := tbg_in (List.mem_of_getElem? (l := k2_sels lw_privs_2) (i := 2) rfl) tp_2 rfl
theorem tw_19 : Cond.selects yX10_opens.cls yX10_opens yX10_opens ∈ tbg := tbg_in (List.mem_of_getElem? (l := k2_sels lw_privs_2) (i := 3) rfl) tp_2 rfl
theorem tw_20 : Cond.selects yX10_comes.cls yX10_comes yX10_comes ∈ tbg := tbg_in (List.mem_of_getElem? (l := k2_sels lw_privs_2) (i := 4) rfl) tp_2 rfl
theorem tw_21 : Cond.selects yX10_settles.cls yX10_settles yX10_settles ∈ tbg := tbg_in (List.mem_of_getElem? (l := k2_sels lw_privs_2) (i := 5) rfl) tp_2 rfl
theorem tw_22 : Cond.selects yX10_copies.cls yX10_copies yX10_copies ∈ tbg := tbg_in (List.mem_of_getElem? (l := k2_sels lw_privs_2) (i := 6) rfl) tp_2 rfl
theorem tw_23 : Cond.selects yX10_reads.cls yX10_reads yX10_reads ∈ tbg := tbg_in (List.mem_of_getElem? (l := k2_sels lw_privs_2) (i := 7) rfl) tp_2 rfl
theorem tw_24 : Cond.selects yX10_byteNow.cls yX10_byteNow yX10_byteNow ∈ tbg := tbg_in (List.mem_of_getElem? (l := k2_sels lw_privs_2) (i := 8) rfl) tp_2 rfl
theorem tw_25 : Cond.selects yX10_item.cls yX10_item yX10_item ∈ tbg := tbg_in (List.mem_of_getElem? (l := k2_sels lw_privs_2) (i := 9) rfl) tp_2 rfl
theorem tw_26 : Cond.selects yX10_number.cls yX10_number yX10_number ∈ tbg := tbg_in (List.mem_of_getElem? (l := k2_sels lw_privs_2) (i := 10) rfl) tp_2 rfl
theorem tw_27 : Cond.selects yX10_wayItem.cls yX10_wayItem yX10_wayItem ∈ tbg := tbg_in (List.mem_of_getElem? (l := k2_sels lw_privs_2) (i := 11) rfl) tp_2 rfl
theorem tw_28 : Cond.selects yX10_more.cls yX10_more yX10_more ∈ tbg := tbg_in (List.mem_of_getElem? (l := k2_sels lw_privs_2) (i := 12) rfl) tp_2 rfl
theorem tw_29 : Cond.selects yX10_doorItem.cls yX10_doorItem yX10_doorItem ∈ tbg := tbg_in (List.mem_of_getElem? (l := k2_sels lw_privs_2) (i := 13) rfl) tp_2 rfl
theorem tw_30 : Cond.selects yX10_beastItem.cls yX10_beastItem yX10_beastItem ∈ tbg := tbg_in (List.mem_of_getElem? (l := k2_sels lw_privs_2) (i := 14) rfl) tp_2 rfl
theorem tw_31 : Cond.selects yX10_isPlace.cls yX10_isPlace yX10_isPlace ∈ tbg := tbg_in (List.mem_of_getElem? (l := k2_sels lw_privs_2) (i := 15) rfl) tp_2 rfl
theorem tw_32 : Cond.selects yX10_standing.cls yX10_standing yX10_standing ∈ tbg := tbg_in (List.mem_of_getElem? (l := k2_sels lw_privs_3) (i := 0) rfl) tp_3 rfl
theorem tw_33 : Cond.selects yX10_isDoor.cls yX10_isDoor yX10_isDoor ∈ tbg := tbg_in (List.mem_of_getElem? (l := k2_sels lw_privs_3) (i := 1) rfl) tp_3 rfl
theorem tw_34 : Cond.selects yX10_isBeast.cls yX10_isBeast yX10_isBeast ∈ tbg := tbg_in (List.mem_of_getElem? (l := k2_sels lw_privs_3) (i := 2) rfl) tp_3 rfl
theorem tw_35 : Cond.selects yX10_isOut.cls yX10_isOut yX10_isOut ∈ tbg := tbg_in (List.mem_of_getElem? (l := k2_sels lw_privs_3) (i := 3) rfl) tp_3 rfl
theorem tw_36 : Cond.selects yX10_signBy.cls yX10_signBy yX10_signBy ∈ tbg := tbg_in (List.mem_of_getElem? (l := k2_sels lw_privs_3) (i := 4) rfl) tp_3 rfl
theorem tw_37 : Cond.selects yX10_canSend.cls yX10_canSend yX10_canSend ∈ tbg := tbg_in (List.mem_of_getElem? (l := k2_sels lw_privs_3) (i := 5) rfl) tp_3 rfl
theorem tw_38 : Cond.selects yX10_known.cls yX10_known yX10_known ∈ tbg := tbg_in (List.mem_of_getElem? (l := k2_sels lw_privs_3) (i := 6) rfl) tp_3 rfl
theorem tw_39 : Cond.selects yX10_sends.cls yX10_sends yX10_sends ∈ tbg := tbg_in (List.mem_of_getElem? (l := k2_sels lw_privs_3) (i := 7) rfl) tp_3 rfl
theorem tw_40 : Cond.selects yX10_hour.cls yX10_hour yX10_hour ∈ tbg := tbg_in (List.mem_of_getElem? (l := k2_sels lw_privs_3) (i := 8) rfl) tp_3 rfl
theorem tw_41 : Cond.selects yX10_goesOn.cls yX10_goesOn yX10_goesOn ∈ tbg := tbg_in (List.mem_of_getElem? (l := k2_sels lw_privs_3) (i := 9) rfl) tp_3 rfl
theorem tw_42 : Cond.selects yX10_goal.cls yX10_goal yX10_goal ∈ tbg := tbg_in (List.mem_of_getElem? (l := k2_sels lw_privs_3) (i := 10) rfl) tp_3 rfl
theorem tw_43 : Cond.selects yX10_settlesAt.cls yX10_settlesAt yX10_settlesAt ∈ tbg := tbg_in (List.mem_of_getElem? (l := k2_sels lw_privs_3) (i := 11) rfl) tp_3 rfl
theorem tw_44 : Cond.selects yX10_nextOn.cls yX10_nextOn yX10_nextOn ∈ tbg := tbg_in (List.mem_of_getElem? (l := k2_sels lw_privs_3) (i := 12) rfl) tp_3 rfl
theorem tw_45 : Cond.selects yX10_arrivesIn.cls yX10_arrivesIn yX10_arrivesIn ∈ tbg := tbg_in (List.mem_of_getElem? (l := k2_sels lw_privs_3) (i := 13) rfl) tp_3 rfl
theorem tw_46 : Cond.selects yX10_read.cls yX10_read yX10_read ∈ tbg := tbg_in (List.mem_of_getElem? (l := k2_sels lw_privs_3) (i := 14) rfl) tp_3 rfl
theorem tw_47 : Cond.selects yX10_goesHome.cls yX10_goesHome yX10_goesHome ∈ tbg := tbg_in (List.mem_of_getElem? (l := k2_sels lw_privs_3) (i := 15) rfl) tp_3 rfl
theorem tw_48 : Cond.selects yX10_standsBehind.cls yX10_standsBehind yX10_standsBehind ∈ tbg := tbg_in (List.mem_of_getElem? (l := k2_sels lw_privs_4) (i := 0) rfl) tp_4 rfl
theorem tw_49 : Cond.selects yX10_readThen.cls yX10_readThen yX10_readThen ∈ tbg := tbg_in (List.mem_of_getElem? (l := k2_sels lw_privs_4) (i := 1) rfl) tp_4 rfl
theorem tw_50 : Cond.selects yX10_readSent.cls yX10_readSent yX10_readSent ∈ tbg := tbg_in (List.mem_of_getElem? (l := k2_sels lw_privs_4) (i := 2) rfl) tp_4 rfl
theorem tw_51 : Cond.selects yX10_dealsSum.cls yX10_dealsSum yX10_dealsSum ∈ tbg := tbg_in (List.mem_of_getElem? (l := k2_sels lw_privs_4) (i := 3) rfl) tp_4 rfl
theorem tw_52 : Cond.selects yX10_does.cls yX10_does yX10_does ∈ tbg := tbg_in (List.mem_of_getElem? (l := k2_sels lw_privs_4) (i := 4) rfl) tp_4 rfl
theorem tw_53 : Cond.selects yX10_allWays.cls yX10_allWays yX10_allWays ∈ tbg := tbg_in (List.mem_of_getElem? (l := k2_sels lw_privs_4) (i := 5) rfl) tp_4 rfl
theorem tw_54 : Cond.selects yX10_many.cls yX10_many yX10_many ∈ tbg := tbg_in (List.mem_of_getElem? (l := k2_sels lw_privs_4) (i := 6) rfl) tp_4 rfl
theorem tw_55 : Cond.selects yX10_allCarrots.cls yX10_allCarrots yX10_allCarrots ∈ tbg := tbg_in (List.mem_of_getElem? (l := k2_sels lw_privs_4) (i := 7) rfl) tp_4 rfl
theorem tw_57 : Cond.initialized "DonkeyVerdicts" ∈ tbg := tbg_in (List.mem_of_getElem? (l := tables_1_1) (i := 1) rfl) tq_1 rfl
theorem tw_58 : Cond.initialized "DonkeyVerdicts$Letters" ∈ tbg := tbg_in (List.mem_of_getElem? (l := tables_1_1) (i := 2) rfl) tq_1 rfl
theorem tw_59 : Cond.initialized "DonkeyVerdicts$Scribe" ∈ tbg := tbg_in (List.mem_of_getElem? (l := tables_1_1) (i := 3) rfl) tq_1 rfl
theorem tw_60 : Cond.initialized "DonkeyVerdicts$Court" ∈ tbg := tbg_in (List.mem_of_getElem? (l := tables_1_1) (i := 4) rfl) tq_1 rfl
theorem tw_61 : Cond.initialized "DonkeyVerdicts$Herd" ∈ tbg := tbg_in (List.mem_of_getElem? (l := tables_1_1) (i := 5) rfl) tq_1 rfl
theorem tw_62 : Cond.initialized "DonkeyVerdicts$Shelf" ∈ tbg := tbg_in (List.mem_of_getElem? (l := tables_1_1) (i := 6) rfl) tq_1 rfl
theorem tw_63 : Cond.initialized "DonkeyVerdicts$Foresight" ∈ tbg := tbg_in (List.mem_of_getElem? (l := tables_1_1) (i := 7) rfl) tq_1 rfl
theorem tw_64 : Cond.initialized "DonkeyVerdicts$Dealer" ∈ tbg := tbg_in (List.mem_of_getElem? (l := tables_1_1) (i := 8) rfl) tq_1 rfl
theorem tw_65 : Cond.initialized "DonkeyVerdicts$Balking" ∈ tbg := tbg_in (List.mem_of_getElem? (l := tables_1_1) (i := 9) rfl) tq_1 rfl
theorem tw_70 : Cond.initialized "DonkeyVerdicts$Rows" ∈ tbg := tbg_in (List.mem_of_getElem? (l := tables_1_1) (i := 14) rfl) tq_1 rfl
theorem tw_71 : Cond.initialized "java/lang/Math" ∈ tbg := tbg_in (List.mem_of_getElem? (l := tables_1_1) (i := 15) rfl) tq_1 rfl
theorem tw_72 : Cond.initialized "DonkeyVerdictsModel" ∈ tbg := tbg_in (List.mem_of_getElem? (l := tables_1_1) (i := 16) rfl) tq_1 rfl
theorem tw_73 : Cond.initialized "java/lang/System" ∈ tbg := tbg_in (List.mem_of_getElem? (l := tables_1_1) (i := 17) rfl) tq_1 rfl
theorem tw_74 : Cond.initialized "java/lang/Integer" ∈ tbg := tbg_in (List.mem_of_getElem? (l := tables_1_1) (i := 18) rfl) tq_1 rfl
theorem tw_89 : Cond.fieldLink "DonkeyVerdicts$Letters" 9 "DonkeyVerdicts$Letters" "signs" "[C" ∈ tbg := tbg_in (List.mem_of_getElem? (l := tables_1_1) (i := 33) rfl) tq_1 rfl
theorem tw_90 : Cond.fieldLink "DonkeyVerdicts$Letters" 15 "DonkeyVerdicts$Letters" "length" "I" ∈ tbg := tbg_in (List.mem_of_getElem? (l := tables_1_1) (i := 34) rfl) tq_1 rfl
theorem tw_103 : Cond.fieldLink "DonkeyVerdicts$Scribe" 11 "DonkeyVerdicts$Scribe" "numbers" "[I" ∈ tbg := tbg_in (List.mem_of_getElem? (l := tables_1_1) (i := 47) rfl) tq_1 rfl
theorem tw_104 : Cond.fieldLink "DonkeyVerdicts$Scribe" 15 "DonkeyVerdicts$Scribe" "amount" "I" ∈ tbg := tbg_in (List.mem_of_getElem? (l := tables_1_1) (i := 48) rfl) tq_1 rfl
theorem tw_105 : Cond.fieldLink "DonkeyVerdicts$Scribe" 19 "DonkeyVerdicts$Scribe" "behind" "I" ∈ tbg := tbg_in (List.mem_of_getElem? (l := tables_1_1) (i := 49) rfl) tq_1 rfl
theorem tw_120 : Cond.fieldLink "DonkeyVerdicts$Court" 9 "DonkeyVerdicts$Court" "lengths" "[I" ∈ tbg := tbg_in (List.mem_of_getElem? (l := tables_1_1) (i := 64) rfl) tq_1 rfl
theorem tw_121 : Cond.fieldLink "DonkeyVerdicts$Court" 15 "DonkeyVerdicts$Court" "distances" "[I" ∈ tbg := tbg_in (List.mem_of_getElem? (l := tables_1_1) (i := 65) rfl) tq_1 rfl
theorem tw_122 : Cond.fieldLink "DonkeyVerdicts$Court" 18 "DonkeyVerdicts$Court" "hops" "[I" ∈ tbg := tbg_in (List.mem_of_getElem? (l := tables_1_1) (i := 66) rfl) tq_1 rfl
theorem tw_123 : Cond.fieldLink "DonkeyVerdicts$Court" 21 "DonkeyVerdicts$Court" "doorKinds" "[I" ∈ tbg := tbg_in (List.mem_of_getElem? (l := tables_1_1) (i := 67) rfl) tq_1 rfl
theorem tw_124 : Cond.fieldLink "DonkeyVerdicts$Court" 24 "DonkeyVerdicts$Court" "doorPlaces" "[I" ∈ tbg := tbg_in (List.mem_of_getElem? (l := tables_1_1) (i := 68) rfl) tq_1 rfl
theorem tw_125 : Cond.fieldLink "DonkeyVerdicts$Court" 27 "DonkeyVerdicts$Court" "kinds" "[I" ∈ tbg := tbg_in (List.mem_of_getElem? (l := tables_1_1) (i := 69) rfl) tq_1 rfl
theorem tw_126 : Cond.fieldLink "DonkeyVerdicts$Court" 30 "DonkeyVerdicts$Court" "paces" "[I" ∈ tbg := tbg_in (List.mem_of_getElem? (l := tables_1_1) (i := 70) rfl) tq_1 rfl
theorem tw_127 : Cond.fieldLink "DonkeyVerdicts$Court" 33 "DonkeyVerdicts$Court" "moods" "[I" ∈ tbg := tbg_in (List.mem_of_getElem? (l := tables_1_1) (i := 71) rfl) tq_1 rfl
theorem tw_128 : Cond.fieldLink "DonkeyVerdicts$Court" 36 "DonkeyVerdicts$Court" "carrotsLaid" "[I" ∈ tbg := tbg_in (List.mem_of_getElem? (l := tables_1_1) (i := 72) rfl) tq_1 rfl
theorem tw_129 : Cond.fieldLink "DonkeyVerdicts$Court" 39 "DonkeyVerdicts$Court" "mares" "[I" ∈ tbg := tbg_in (List.mem_of_getElem? (l := tables_1_1) (i := 73) rfl) tq_1 rfl
theorem tw_130 : Cond.fieldLink "DonkeyVerdicts$Court" 42 "DonkeyVerdicts$Court" "places" "I" ∈ tbg := tbg_in (List.mem_of_getElem? (l := tables_1_1) (i := 74) rfl) tq_1 rfl
theorem tw_131 : Cond.fieldLink "DonkeyVerdicts$Court" 46 "DonkeyVerdicts$Court" "doors" "I" ∈ tbg := tbg_in (List.mem_of_getElem? (l := tables_1_1) (i := 75) rfl) tq_1 rfl
theorem tw_132 : Cond.fieldLink "DonkeyVerdicts$Court" 49 "DonkeyVerdicts$Court" "beasts" "I" ∈ tbg := tbg_in (List.mem_of_getElem? (l := tables_1_1) (i := 76) rfl) tq_1 rfl
theorem tw_166 : Cond.fieldLink "DonkeyVerdicts$Herd" 15 "DonkeyVerdicts$Herd" "court" "LDonkeyVerdicts$Court;" ∈ tbg := tbg_in (List.mem_of_getElem? (l := tables_1_1) (i := 110) rfl) tq_1 rfl
theorem tw_167 : Cond.fieldLink "DonkeyVerdicts$Herd" 11 "DonkeyVerdicts$Herd" "cells" "[I" ∈ tbg := tbg_in (List.mem_of_getElem? (l := tables_1_1) (i := 111) rfl) tq_1 rfl
theorem tw_182 : Cond.fieldLink "DonkeyVerdicts$Shelf" 18 "DonkeyVerdicts$Shelf" "herds" "[LDonkeyVerdicts$Herd;" ∈ tbg := tbg_in (List.mem_of_getElem? (l := tables_1_1) (i := 126) rfl) tq_1 rfl
theorem tw_183 : Cond.fieldLink "DonkeyVerdicts$Shelf" 7 "DonkeyVerdicts$Shelf" "top" "I" ∈ tbg := tbg_in (List.mem_of_getElem? (l := tables_1_1) (i := 127) rfl) tq_1 rfl
theorem tw_184 : Cond.fieldLink "DonkeyVerdicts$Shelf" 13 "DonkeyVerdicts$Shelf" "size" "I" ∈ tbg := tbg_in (List.mem_of_getElem? (l := tables_1_1) (i := 128) rfl) tq_1 rfl
theorem tw_200 : Cond.fieldLink "DonkeyVerdicts$Foresight" 9 "DonkeyVerdicts$Foresight" "court" "LDonkeyVerdicts$Court;" ∈ tbg := tbg_in (List.mem_of_getElem? (l := tables_1_1) (i := 144) rfl) tq_1 rfl
theorem tw_201 : Cond.fieldLink "DonkeyVerdicts$Foresight" 20 "DonkeyVerdicts$Foresight" "trial" "LDonkeyVerdicts$Herd;" ∈ tbg := tbg_in (List.mem_of_getElem? (l := tables_1_1) (i := 145) rfl) tq_1 rfl
theorem tw_215 : Cond.fieldLink "DonkeyVerdicts$Dealer" 18 "DonkeyVerdicts$Dealer" "court" "LDonkeyVerdicts$Court;" ∈ tbg := tbg_in (List.mem_of_getElem? (l := tables_1_1) (i := 159) rfl) tq_1 rfl
theorem tw_216 : Cond.fieldLink "DonkeyVerdicts$Dealer" 27 "DonkeyVerdicts$Dealer" "trial" "LDonkeyVerdicts$Herd;" ∈ tbg := tbg_in (List.mem_of_getElem? (l := tables_1_1) (i := 160) rfl) tq_1 rfl
theorem tw_217 : Cond.fieldLink "DonkeyVerdicts$Dealer" 9 "DonkeyVerdicts$Dealer" "hand" "[I" ∈ tbg := tbg_in (List.mem_of_getElem? (l := tables_1_1) (i := 161) rfl) tq_1 rfl
theorem tw_218 : Cond.fieldLink "DonkeyVerdicts$Dealer" 15 "DonkeyVerdicts$Dealer" "best" "[I" ∈ tbg := tbg_in (List.mem_of_getElem? (l := tables_1_1) (i := 162) rfl) tq_1 rfl
theorem tw_236 : Cond.fieldLink "DonkeyVerdicts$Balking" 11 "DonkeyVerdicts$Balking" "levels" "[LDonkeyVerdicts$Herd;" ∈ tbg := tbg_in (List.mem_of_getElem? (l := tables_1_1) (i := 180) rfl) tq_1 rfl
theorem tw_289 : Cond.methodLink "DonkeyVerdicts" 87 yX5_add ∈ tbg := tbg_in (List.mem_of_getElem? (l := tables_1_1) (i := 233) rfl) tq_1 rfl
theorem tw_290 : Cond.instanceMethod yX5_add ∈ tbg := tbg_in (List.mem_of_getElem? (l := tables_1_1) (i := 234) rfl) tq_1 rfl
theorem tw_291 : Cond.selects yX5_add.cls yX5_add yX5_add ∈ tbg := tbg_in (List.mem_of_getElem? (l := tables_1_1) (i := 235) rfl) tq_1 rfl
theorem tw_292 : Cond.code yX5_add cX5_add 2 (some .boolean) ∈ tbg := tbg_in (List.mem_of_getElem? (l := tables_1_1) (i := 236) rfl) tq_1 rfl
theorem tw_293 : Cond.methodLink "DonkeyVerdicts" 91 yX9_open ∈ tbg := tbg_in (List.mem_of_getElem? (l := tables_1_1) (i := 237) rfl) tq_1 rfl
theorem tw_295 : Cond.instanceMethod yX9_open ∈ tbg := tbg_in (List.mem_of_getElem? (l := tables_1_1) (i := 239) rfl) tq_1 rfl
theorem tw_296 : Cond.code yX9_open cX9_open 1 none ∈ tbg := tbg_in (List.mem_of_getElem? (l := tables_1_2) (i := 0) rfl) tq_2 rfl
theorem tw_297 : Cond.methodLink "DonkeyVerdicts" 98 yX7_firstFault ∈ tbg := tbg_in (List.mem_of_getElem? (l := tables_1_2) (i := 1) rfl) tq_2 rfl
theorem tw_298 : Cond.instanceMethod yX7_firstFault ∈ tbg := tbg_in (List.mem_of_getElem? (l := tables_1_2) (i := 2) rfl) tq_2 rfl
theorem tw_299 : Cond.selects yX7_firstFault.cls yX7_firstFault yX7_firstFault ∈ tbg := tbg_in (List.mem_of_getElem? (l := tables_1_2) (i := 3) rfl) tq_2 rfl
theorem tw_300 : Cond.code yX7_firstFault cX7_firstFault 7 (some .int) ∈ tbg := tbg_in (List.mem_of_getElem? (l := tables_1_2) (i := 4) rfl) tq_2 rfl
theorem tw_301 : Cond.methodLink "DonkeyVerdicts$Scribe" 22 yX1_clear ∈ tbg := tbg_in (List.mem_of_getElem? (l := tables_1_2) (i := 5) rfl) tq_2 rfl
theorem tw_302 : Cond.instanceMethod yX1_clear ∈ tbg := tbg_in (List.mem_of_getElem? (l := tables_1_2) (i := 6) rfl) tq_2 rfl
theorem tw_303 : Cond.selects yX1_clear.cls yX1_clear yX1_clear ∈ tbg := tbg_in (List.mem_of_getElem? (l := tables_1_2) (i := 7) rfl) tq_2 rfl
theorem tw_304 : Cond.code yX1_clear cX1_clear 1 none ∈ tbg := tbg_in (List.mem_of_getElem? (l := tables_1_2) (i := 8) rfl) tq_2 rfl
theorem tw_305 : Cond.methodLink "DonkeyVerdicts$Court" 52 yX6_clear ∈ tbg := tbg_in (List.mem_of_getElem? (l := tables_1_2) (i := 9) rfl) tq_2 rfl
theorem tw_306 : Cond.static yX6_clear ∈ tbg := tbg_in (List.mem_of_getElem? (l := tables_1_2) (i := 10) rfl) tq_2 rfl
theorem tw_307 : Cond.code yX6_clear cX6_clear 2 none ∈ tbg := tbg_in (List.mem_of_getElem? (l := tables_1_2) (i := 11) rfl) tq_2 rfl
theorem tw_308 : Cond.methodLink "DonkeyVerdicts$Scribe" 27 yX5_length ∈ tbg := tbg_in (List.mem_of_getElem? (l := tables_1_2) (i := 12) rfl) tq_2 rfl
theorem tw_309 : Cond.instanceMethod yX5_length ∈ tbg := tbg_in (List.mem_of_getElem? (l := tables_1_2) (i := 13) rfl) tq_2 rfl
theorem tw_310 : Cond.selects yX5_length.cls yX5_length yX5_length ∈ tbg := tbg_in (List.mem_of_getElem? (l := tables_1_2) (i := 14) rfl) tq_2 rfl
theorem tw_311 : Cond.code yX5_length cX5_length 1 (some .int) ∈ tbg := tbg_in (List.mem_of_getElem? (l := tables_1_2) (i := 15) rfl) tq_2 rfl
theorem tw_312 : Cond.methodLink "DonkeyVerdicts$Scribe" 33 yX5_at ∈ tbg := tbg_in (List.mem_of_getElem? (l := tables_1_2) (i := 16) rfl) tq_2 rfl
theorem tw_313 : Cond.instanceMethod yX5_at ∈ tbg := tbg_in (List.mem_of_getElem? (l := tables_1_2) (i := 17) rfl) tq_2 rfl
theorem tw_314 : Cond.selects yX5_at.cls yX5_at yX5_at ∈ tbg := tbg_in (List.mem_of_getElem? (l := tables_1_2) (i := 18) rfl) tq_2 rfl
theorem tw_315 : Cond.code yX5_at cX5_at 2 (some .char) ∈ tbg := tbg_in (List.mem_of_getElem? (l := tables_1_2) (i := 19) rfl) tq_2 rfl
theorem tw_316 : Cond.methodLink "DonkeyVerdicts$Scribe" 37 yX7_split ∈ tbg := tbg_in (List.mem_of_getElem? (l := tables_1_2) (i := 20) rfl) tq_2 rfl
theorem tw_318 : Cond.instanceMethod yX7_split ∈ tbg := tbg_in (List.mem_of_getElem? (l := tables_1_2) (i := 22) rfl) tq_2 rfl
theorem tw_319 : Cond.code yX7_split cX7_split 7 (some .boolean) ∈ tbg := tbg_in (List.mem_of_getElem? (l := tables_1_2) (i := 23) rfl) tq_2 rfl
theorem tw_320 : Cond.methodLink "DonkeyVerdicts$Scribe" 45 yX6_put ∈ tbg := tbg_in (List.mem_of_getElem? (l := tables_1_2) (i := 24) rfl) tq_2 rfl
theorem tw_321 : Cond.static yX6_put ∈ tbg := tbg_in (List.mem_of_getElem? (l := tables_1_2) (i := 25) rfl) tq_2 rfl
theorem tw_322 : Cond.code yX6_put cX6_put 3 none ∈ tbg := tbg_in (List.mem_of_getElem? (l := tables_1_2) (i := 26) rfl) tq_2 rfl
theorem tw_323 : Cond.methodLink "DonkeyVerdicts$Scribe" 41 yX7_take ∈ tbg := tbg_in (List.mem_of_getElem? (l := tables_1_2) (i := 27) rfl) tq_2 rfl
theorem tw_325 : Cond.instanceMethod yX7_take ∈ tbg := tbg_in (List.mem_of_getElem? (l := tables_1_2) (i := 29) rfl) tq_2 rfl
theorem tw_326 : Cond.code yX7_take cX7_take 6 (some .boolean) ∈ tbg := tbg_in (List.mem_of_getElem? (l := tables_1_2) (i := 30) rfl) tq_2 rfl
theorem tw_327 : Cond.methodLink "DonkeyVerdicts$Scribe" 51 yX6_at ∈ tbg := tbg_in (List.mem_of_getElem? (l := tables_1_2) (i := 31) rfl) tq_2 rfl
theorem tw_328 : Cond.static yX6_at ∈ tbg := tbg_in (List.mem_of_getElem? (l := tables_1_2) (i := 32) rfl) tq_2 rfl
theorem tw_329 : Cond.code yX6_at cX6_at 2 (some .int) ∈ tbg := tbg_in (List.mem_of_getElem? (l := tables_1_2) (i := 33) rfl) tq_2 rfl
theorem tw_330 : Cond.methodLink "DonkeyVerdicts$Scribe" 54 yX1_takePlaces ∈ tbg := tbg_in (List.mem_of_getElem? (l := tables_1_2) (i := 34) rfl) tq_2 rfl
theorem tw_331 : Cond.instanceMethod yX1_takePlaces ∈ tbg := tbg_in (List.mem_of_getElem? (l := tables_1_2) (i := 35) rfl) tq_2 rfl
theorem tw_332 : Cond.selects yX1_takePlaces.cls yX1_takePlaces yX1_takePlaces ∈ tbg := tbg_in (List.mem_of_getElem? (l := tables_1_2) (i := 36) rfl) tq_2 rfl
theorem tw_333 : Cond.code yX1_takePlaces cX1_takePlaces 2 (some .boolean) ∈ tbg := tbg_in (List.mem_of_getElem? (l := tables_1_2) (i := 37) rfl) tq_2 rfl
theorem tw_334 : Cond.methodLink "DonkeyVerdicts$Scribe" 58 yX1_takeWay ∈ tbg := tbg_in (List.mem_of_getElem? (l := tables_1_2) (i := 38) rfl) tq_2 rfl
theorem tw_335 : Cond.instanceMethod yX1_takeWay ∈ tbg := tbg_in (List.mem_of_getElem? (l := tables_1_2) (i := 39) rfl) tq_2 rfl
theorem tw_336 : Cond.selects yX1_takeWay.cls yX1_takeWay yX1_takeWay ∈ tbg := tbg_in (List.mem_of_getElem? (l := tables_1_2) (i := 40) rfl) tq_2 rfl
theorem tw_337 : Cond.code yX1_takeWay cX1_takeWay 4 (some .boolean) ∈ tbg := tbg_in (List.mem_of_getElem? (l := tables_1_2) (i := 41) rfl) tq_2 rfl
theorem tw_338 : Cond.methodLink "DonkeyVerdicts$Court" 58 yX1_hasPlace ∈ tbg := tbg_in (List.mem_of_getElem? (l := tables_1_2) (i := 42) rfl) tq_2 rfl
theorem tw_339 : Cond.instanceMethod yX1_hasPlace ∈ tbg := tbg_in (List.mem_of_getElem? (l := tables_1_2) (i := 43) rfl) tq_2 rfl
theorem tw_340 : Cond.selects yX1_hasPlace.cls yX1_hasPlace yX1_hasPlace ∈ tbg := tbg_in (List.mem_of_getElem? (l := tables_1_2) (i := 44) rfl) tq_2 rfl
theorem tw_341 : Cond.code yX1_hasPlace cX1_hasPlace 2 (some .boolean) ∈ tbg := tbg_in (List.mem_of_getElem? (l := tables_1_2) (i := 45) rfl) tq_2 rfl
theorem tw_342 : Cond.methodLink "DonkeyVerdicts$Court" 62 yX1_pair ∈ tbg := tbg_in (List.mem_of_getElem? (l := tables_1_2) (i := 46) rfl) tq_2 rfl
theorem tw_343 : Cond.static yX1_pair ∈ tbg := tbg_in (List.mem_of_getElem? (l := tables_1_2) (i := 47) rfl) tq_2 rfl
theorem tw_344 : Cond.code yX1_pair cX1_pair 2 (some .int) ∈ tbg := tbg_in (List.mem_of_getElem? (l := tables_1_2) (i := 48) rfl) tq_2 rfl
theorem tw_345 : Cond.methodLink "DonkeyVerdicts$Court" 66 yX6_put ∈ tbg := tbg_in (List.mem_of_getElem? (l := tables_1_2) (i := 49) rfl) tq_2 rfl
theorem tw_346 : Cond.methodLink "DonkeyVerdicts$Scribe" 62 yX1_takeDoor ∈ tbg := tbg_in (List.mem_of_getElem? (l := tables_1_2) (i := 50) rfl) tq_2 rfl
theorem tw_347 : Cond.instanceMethod yX1_takeDoor ∈ tbg := tbg_in (List.mem_of_getElem? (l := tables_1_2) (i := 51) rfl) tq_2 rfl
theorem tw_348 : Cond.selects yX1_takeDoor.cls yX1_takeDoor yX1_takeDoor ∈ tbg := tbg_in (List.mem_of_getElem? (l := tables_1_2) (i := 52) rfl) tq_2 rfl
theorem tw_349 : Cond.code yX1_takeDoor cX1_takeDoor 3 (some .boolean) ∈ tbg := tbg_in (List.mem_of_getElem? (l := tables_1_2) (i := 53) rfl) tq_2 rfl
theorem tw_350 : Cond.methodLink "DonkeyVerdicts$Scribe" 66 yX1_takeBeast ∈ tbg := tbg_in (List.mem_of_getElem? (l := tables_1_2) (i := 54) rfl) tq_2 rfl
theorem tw_351 : Cond.instanceMethod yX1_takeBeast ∈ tbg := tbg_in (List.mem_of_getElem? (l := tables_1_2) (i := 55) rfl) tq_2 rfl
theorem tw_352 : Cond.selects yX1_takeBeast.cls yX1_takeBeast yX1_takeBeast ∈ tbg := tbg_in (List.mem_of_getElem? (l := tables_1_2) (i := 56) rfl) tq_2 rfl
theorem tw_353 : Cond.code yX1_takeBeast cX1_takeBeast 4 (some .boolean) ∈ tbg := tbg_in (List.mem_of_getElem? (l := tables_1_2) (i := 57) rfl) tq_2 rfl
theorem tw_354 : Cond.methodLink "DonkeyVerdicts$Scribe" 69 yX1_takeCarrots ∈ tbg := tbg_in (List.mem_of_getElem? (l := tables_1_2) (i := 58) rfl) tq_2 rfl
theorem tw_355 : Cond.instanceMethod yX1_takeCarrots ∈ tbg := tbg_in (List.mem_of_getElem? (l := tables_1_2) (i := 59) rfl) tq_2 rfl
theorem tw_356 : Cond.selects yX1_takeCarrots.cls yX1_takeCarrots yX1_takeCarrots ∈ tbg := tbg_in (List.mem_of_getElem? (l := tables_1_2) (i := 60) rfl) tq_2 rfl
theorem tw_357 : Cond.code yX1_takeCarrots cX1_takeCarrots 3 (some .boolean) ∈ tbg := tbg_in (List.mem_of_getElem? (l := tables_1_2) (i := 61) rfl) tq_2 rfl
theorem tw_358 : Cond.methodLink "DonkeyVerdicts$Scribe" 72 yX1_takeMare ∈ tbg := tbg_in (List.mem_of_getElem? (l := tables_1_2) (i := 62) rfl) tq_2 rfl
theorem tw_359 : Cond.instanceMethod yX1_takeMare ∈ tbg := tbg_in (List.mem_of_getElem? (l := tables_1_2) (i := 63) rfl) tq_2 rfl
theorem tw_360 : Cond.selects yX1_takeMare.cls yX1_takeMare yX1_takeMare ∈ tbg := tbg_in (List.mem_of_getElem? (l := tables_1_2) (i := 64) rfl) tq_2 rfl
theorem tw_361 : Cond.code yX1_takeMare cX1_takeMare 2 (some .boolean) ∈ tbg := tbg_in (List.mem_of_getElem? (l := tables_1_2) (i := 65) rfl) tq_2 rfl
theorem tw_362 : Cond.methodLink "DonkeyVerdicts" 270 yX1_measure ∈ tbg := tbg_in (List.mem_of_getElem? (l := tables_1_2) (i := 66) rfl) tq_2 rfl
theorem tw_363 : Cond.instanceMethod yX1_measure ∈ tbg := tbg_in (List.mem_of_getElem? (l := tables_1_2) (i := 67) rfl) tq_2 rfl
theorem tw_364 : Cond.selects yX1_measure.cls yX1_measure yX1_measure ∈ tbg := tbg_in (List.mem_of_getElem? (l := tables_1_2) (i := 68) rfl) tq_2 rfl
theorem tw_365 : Cond.code yX1_measure cX1_measure 5 none ∈ tbg := tbg_in (List.mem_of_getElem? (l := tables_1_2) (i := 69) rfl) tq_2 rfl
theorem tw_366 : Cond.methodLink "DonkeyVerdicts$Court" 70 yX1_lengthOf ∈ tbg := tbg_in (List.mem_of_getElem? (l := tables_1_2) (i := 70) rfl) tq_2 rfl
theorem tw_367 : Cond.instanceMethod yX1_lengthOf ∈ tbg := tbg_in (List.mem_of_getElem? (l := tables_1_2) (i := 71) rfl) tq_2 rfl
theorem tw_368 : Cond.selects yX1_lengthOf.cls yX1_lengthOf yX1_lengthOf ∈ tbg := tbg_in (List.mem_of_getElem? (l := tables_1_2) (i := 72) rfl) tq_2 rfl
theorem tw_369 : Cond.code yX1_lengthOf cX1_lengthOf 3 (some .int) ∈ tbg := tbg_in (List.mem_of_getElem? (l := tables_1_2) (i := 73) rfl) tq_2 rfl
theorem tw_370 : Cond.methodLink "DonkeyVerdicts$Court" 84 yX6_at ∈ tbg := tbg_in (List.mem_of_getElem? (l := tables_1_2) (i := 74) rfl) tq_2 rfl
theorem tw_371 : Cond.methodLink "DonkeyVerdicts$Court" 73 yX1_distance ∈ tbg := tbg_in (List.mem_of_getElem? (l := tables_1_2) (i := 75) rfl) tq_2 rfl
theorem tw_373 : Cond.instanceMethod yX1_distance ∈ tbg := tbg_in (List.mem_of_getElem? (l := tables_1_2) (i := 77) rfl) tq_2 rfl
theorem tw_374 : Cond.code yX1_distance cX1_distance 3 (some .int) ∈ tbg := tbg_in (List.mem_of_getElem? (l := tables_1_2) (i := 78) rfl) tq_2 rfl
theorem tw_375 : Cond.methodLink "DonkeyVerdicts$Court" 76 Lib.Math.min.name ∈ tbg := tbg_in (List.mem_of_getElem? (l := tables_1_2) (i := 79) rfl) tq_2 rfl
theorem tw_376 : Cond.static Lib.Math.min.name ∈ tbg := tbg_in (List.mem_of_getElem? (l := tables_1_2) (i := 80) rfl) tq_2 rfl
theorem tw_377 : Cond.code Lib.Math.min.name Lib.Math.min.code 2 (some .int) ∈ tbg := tbg_in (List.mem_of_getElem? (l := tables_1_2) (i := 81) rfl) tq_2 rfl
theorem tw_378 : Cond.methodLink "DonkeyVerdicts$Court" 81 yX1_lowestHop ∈ tbg := tbg_in (List.mem_of_getElem? (l := tables_1_2) (i := 82) rfl) tq_2 rfl
theorem tw_380 : Cond.instanceMethod yX1_lowestHop ∈ tbg := tbg_in (List.mem_of_getElem? (l := tables_1_2) (i := 84) rfl) tq_2 rfl
theorem tw_381 : Cond.code yX1_lowestHop cX1_lowestHop 5 (some .int) ∈ tbg := tbg_in (List.mem_of_getElem? (l := tables_1_2) (i := 85) rfl) tq_2 rfl
theorem tw_382 : Cond.methodLink "DonkeyVerdicts" 273 yX4_gather ∈ tbg := tbg_in (List.mem_of_getElem? (l := tables_1_2) (i := 86) rfl) tq_2 rfl
theorem tw_383 : Cond.instanceMethod yX4_gather ∈ tbg := tbg_in (List.mem_of_getElem? (l := tables_1_2) (i := 87) rfl) tq_2 rfl
theorem tw_384 : Cond.selects yX4_gather.cls yX4_gather yX4_gather ∈ tbg := tbg_in (List.mem_of_getElem? (l := tables_1_2) (i := 88) rfl) tq_2 rfl
theorem tw_385 : Cond.code yX4_gather cX4_gather 2 none ∈ tbg := tbg_in (List.mem_of_getElem? (l := tables_1_2) (i := 89) rfl) tq_2 rfl
theorem tw_386 : Cond.methodLink "DonkeyVerdicts$Herd" 35 yX6_clear ∈ tbg := tbg_in (List.mem_of_getElem? (l := tables_1_2) (i := 90) rfl) tq_2 rfl
theorem tw_387 : Cond.methodLink "DonkeyVerdicts$Herd" 39 yX1_beasts ∈ tbg := tbg_in (List.mem_of_getElem? (l := tables_1_2) (i := 91) rfl) tq_2 rfl
theorem tw_388 : Cond.instanceMethod yX1_beasts ∈ tbg := tbg_in (List.mem_of_getElem? (l := tables_1_2) (i := 92) rfl) tq_2 rfl
theorem tw_389 : Cond.selects yX1_beasts.cls yX1_beasts yX1_beasts ∈ tbg := tbg_in (List.mem_of_getElem? (l := tables_1_2) (i := 93) rfl) tq_2 rfl
theorem tw_390 : Cond.code yX1_beasts cX1_beasts 1 (some .int) ∈ tbg := tbg_in (List.mem_of_getElem? (l := tables_1_2) (i := 94) rfl) tq_2 rfl
theorem tw_391 : Cond.methodLink "DonkeyVerdicts$Herd" 45 yX1_firstMood ∈ tbg := tbg_in (List.mem_of_getElem? (l := tables_1_2) (i := 95) rfl) tq_2 rfl
theorem tw_392 : Cond.instanceMethod yX1_firstMood ∈ tbg := tbg_in (List.mem_of_getElem? (l := tables_1_2) (i := 96) rfl) tq_2 rfl
theorem tw_393 : Cond.selects yX1_firstMood.cls yX1_firstMood yX1_firstMood ∈ tbg := tbg_in (List.mem_of_getElem? (l := tables_1_2) (i := 97) rfl) tq_2 rfl
theorem tw_394 : Cond.code yX1_firstMood cX1_firstMood 2 (some .int) ∈ tbg := tbg_in (List.mem_of_getElem? (l := tables_1_2) (i := 98) rfl) tq_2 rfl
theorem tw_395 : Cond.methodLink "DonkeyVerdicts$Herd" 49 yX4_set ∈ tbg := tbg_in (List.mem_of_getElem? (l := tables_1_2) (i := 99) rfl) tq_2 rfl
theorem tw_397 : Cond.instanceMethod yX4_set ∈ tbg := tbg_in (List.mem_of_getElem? (l := tables_1_2) (i := 101) rfl) tq_2 rfl
theorem tw_398 : Cond.code yX4_set cX4_set 5 none ∈ tbg := tbg_in (List.mem_of_getElem? (l := tables_1_2) (i := 102) rfl) tq_2 rfl
theorem tw_399 : Cond.methodLink "DonkeyVerdicts$Herd" 53 yX1_places ∈ tbg := tbg_in (List.mem_of_getElem? (l := tables_1_2) (i := 103) rfl) tq_2 rfl
theorem tw_400 : Cond.instanceMethod yX1_places ∈ tbg := tbg_in (List.mem_of_getElem? (l := tables_1_2) (i := 104) rfl) tq_2 rfl
theorem tw_401 : Cond.selects yX1_places.cls yX1_places yX1_places ∈ tbg := tbg_in (List.mem_of_getElem? (l := tables_1_2) (i := 105) rfl) tq_2 rfl
theorem tw_402 : Cond.code yX1_places cX1_places 1 (some .int) ∈ tbg := tbg_in (List.mem_of_getElem? (l := tables_1_2) (i := 106) rfl) tq_2 rfl
theorem tw_403 : Cond.methodLink "DonkeyVerdicts$Herd" 56 yX1_firstCarrots ∈ tbg := tbg_in (List.mem_of_getElem? (l := tables_1_2) (i := 107) rfl) tq_2 rfl
theorem tw_404 : Cond.instanceMethod yX1_firstCarrots ∈ tbg := tbg_in (List.mem_of_getElem? (l := tables_1_2) (i := 108) rfl) tq_2 rfl
theorem tw_405 : Cond.selects yX1_firstCarrots.cls yX1_firstCarrots yX1_firstCarrots ∈ tbg := tbg_in (List.mem_of_getElem? (l := tables_1_2) (i := 109) rfl) tq_2 rfl
theorem tw_406 : Cond.code yX1_firstCarrots cX1_firstCarrots 2 (some .int) ∈ tbg := tbg_in (List.mem_of_getElem? (l := tables_1_2) (i := 110) rfl) tq_2 rfl
theorem tw_407 : Cond.methodLink "DonkeyVerdicts$Herd" 59 yX4_putCarrots ∈ tbg := tbg_in (List.mem_of_getElem? (l := tables_1_2) (i := 111) rfl) tq_2 rfl
theorem tw_408 : Cond.instanceMethod yX4_putCarrots ∈ tbg := tbg_in (List.mem_of_getElem? (l := tables_1_2) (i := 112) rfl) tq_2 rfl
theorem tw_409 : Cond.selects yX4_putCarrots.cls yX4_putCarrots yX4_putCarrots ∈ tbg := tbg_in (List.mem_of_getElem? (l := tables_1_2) (i := 113) rfl) tq_2 rfl
theorem tw_410 : Cond.code yX4_putCarrots cX4_putCarrots 3 none ∈ tbg := tbg_in (List.mem_of_getElem? (l := tables_1_2) (i := 114) rfl) tq_2 rfl
theorem tw_411 : Cond.methodLink "DonkeyVerdicts$Herd" 31 yX6_put ∈ tbg := tbg_in (List.mem_of_getElem? (l := tables_1_2) (i := 115) rfl) tq_2 rfl
theorem tw_412 : Cond.methodLink "DonkeyVerdicts" 260 yX8_clear ∈ tbg := tbg_in (List.mem_of_getElem? (l := tables_1_2) (i := 116) rfl) tq_2 rfl
theorem tw_413 : Cond.instanceMethod yX8_clear ∈ tbg := tbg_in (List.mem_of_getElem? (l := tables_1_2) (i := 117) rfl) tq_2 rfl
theorem tw_414 : Cond.selects yX8_clear.cls yX8_clear yX8_clear ∈ tbg := tbg_in (List.mem_of_getElem? (l := tables_1_2) (i := 118) rfl) tq_2 rfl
theorem tw_415 : Cond.code yX8_clear cX8_clear 1 none ∈ tbg := tbg_in (List.mem_of_getElem? (l := tables_1_2) (i := 119) rfl) tq_2 rfl
theorem tw_416 : Cond.methodLink "DonkeyVerdicts" 94 yX5_clear ∈ tbg := tbg_in (List.mem_of_getElem? (l := tables_1_2) (i := 120) rfl) tq_2 rfl
theorem tw_417 : Cond.instanceMethod yX5_clear ∈ tbg := tbg_in (List.mem_of_getElem? (l := tables_1_2) (i := 121) rfl) tq_2 rfl
theorem tw_418 : Cond.selects yX5_clear.cls yX5_clear yX5_clear ∈ tbg := tbg_in (List.mem_of_getElem? (l := tables_1_2) (i := 122) rfl) tq_2 rfl
theorem tw_419 : Cond.code yX5_clear cX5_clear 1 none ∈ tbg := tbg_in (List.mem_of_getElem? (l := tables_1_2) (i := 123) rfl) tq_2 rfl
theorem tw_420 : Cond.fieldLink "DonkeyVerdicts" 10 "DonkeyVerdicts" "text" "LDonkeyVerdicts$Letters;" ∈ tbg := tbg_in (List.mem_of_getElem? (l := tables_1_2) (i := 124) rfl) tq_2 rfl
theorem tw_421 : Cond.fieldLink "DonkeyVerdicts" 19 "DonkeyVerdicts" "scribe" "LDonkeyVerdicts$Scribe;" ∈ tbg := tbg_in (List.mem_of_getElem? (l := tables_1_2) (i := 125) rfl) tq_2 rfl
theorem tw_422 : Cond.fieldLink "DonkeyVerdicts" 26 "DonkeyVerdicts" "court" "LDonkeyVerdicts$Court;" ∈ tbg := tbg_in (List.mem_of_getElem? (l := tables_1_2) (i := 126) rfl) tq_2 rfl
theorem tw_423 : Cond.fieldLink "DonkeyVerdicts" 30 "DonkeyVerdicts" "draft" "LDonkeyVerdicts$Court;" ∈ tbg := tbg_in (List.mem_of_getElem? (l := tables_1_2) (i := 127) rfl) tq_2 rfl
theorem tw_424 : Cond.fieldLink "DonkeyVerdicts" 38 "DonkeyVerdicts" "now" "LDonkeyVerdicts$Herd;" ∈ tbg := tbg_in (List.mem_of_getElem? (l := tables_1_2) (i := 128) rfl) tq_2 rfl
theorem tw_425 : Cond.fieldLink "DonkeyVerdicts" 47 "DonkeyVerdicts" "past" "LDonkeyVerdicts$Shelf;" ∈ tbg := tbg_in (List.mem_of_getElem? (l := tables_1_2) (i := 129) rfl) tq_2 rfl
theorem tw_426 : Cond.fieldLink "DonkeyVerdicts" 51 "DonkeyVerdicts" "kept" "LDonkeyVerdicts$Shelf;" ∈ tbg := tbg_in (List.mem_of_getElem? (l := tables_1_2) (i := 130) rfl) tq_2 rfl
theorem tw_427 : Cond.fieldLink "DonkeyVerdicts" 57 "DonkeyVerdicts" "foresight" "LDonkeyVerdicts$Foresight;" ∈ tbg := tbg_in (List.mem_of_getElem? (l := tables_1_2) (i := 131) rfl) tq_2 rfl
theorem tw_428 : Cond.fieldLink "DonkeyVerdicts" 64 "DonkeyVerdicts" "dealer" "LDonkeyVerdicts$Dealer;" ∈ tbg := tbg_in (List.mem_of_getElem? (l := tables_1_2) (i := 132) rfl) tq_2 rfl
theorem tw_429 : Cond.fieldLink "DonkeyVerdicts" 71 "DonkeyVerdicts" "balking" "LDonkeyVerdicts$Balking;" ∈ tbg := tbg_in (List.mem_of_getElem? (l := tables_1_2) (i := 133) rfl) tq_2 rfl
theorem tw_453 : Cond.instanceMethod yX9_write ∈ tbg := tbg_in (List.mem_of_getElem? (l := tables_1_2) (i := 157) rfl) tq_2 rfl
theorem tw_454 : Cond.selects yX9_write.cls yX9_write yX9_write ∈ tbg := tbg_in (List.mem_of_getElem? (l := tables_1_2) (i := 158) rfl) tq_2 rfl
theorem tw_455 : Cond.code yX9_write cX9_write 2 (some .int) ∈ tbg := tbg_in (List.mem_of_getElem? (l := tables_1_2) (i := 159) rfl) tq_2 rfl
theorem tw_456 : Cond.methodLink "DonkeyVerdicts" 97 yX5_length ∈ tbg := tbg_in (List.mem_of_getElem? (l := tables_1_2) (i := 160) rfl) tq_2 rfl
theorem tw_458 : Cond.instanceMethod yX9_wipe ∈ tbg := tbg_in (List.mem_of_getElem? (l := tables_1_2) (i := 162) rfl) tq_2 rfl
theorem tw_459 : Cond.selects yX9_wipe.cls yX9_wipe yX9_wipe ∈ tbg := tbg_in (List.mem_of_getElem? (l := tables_1_2) (i := 163) rfl) tq_2 rfl
theorem tw_460 : Cond.code yX9_wipe cX9_wipe 2 (some .int) ∈ tbg := tbg_in (List.mem_of_getElem? (l := tables_1_2) (i := 164) rfl) tq_2 rfl
theorem tw_462 : Cond.instanceMethod yX9_fault ∈ tbg := tbg_in (List.mem_of_getElem? (l := tables_1_2) (i := 166) rfl) tq_2 rfl
theorem tw_463 : Cond.selects yX9_fault.cls yX9_fault yX9_fault ∈ tbg := tbg_in (List.mem_of_getElem? (l := tables_1_2) (i := 167) rfl) tq_2 rfl
theorem tw_464 : Cond.code yX9_fault cX9_fault 1 (some .int) ∈ tbg := tbg_in (List.mem_of_getElem? (l := tables_1_2) (i := 168) rfl) tq_2 rfl
theorem tw_466 : Cond.instanceMethod yX9_lay ∈ tbg := tbg_in (List.mem_of_getElem? (l := tables_1_2) (i := 170) rfl) tq_2 rfl
theorem tw_467 : Cond.selects yX9_lay.cls yX9_lay yX9_lay ∈ tbg := tbg_in (List.mem_of_getElem? (l := tables_1_2) (i := 171) rfl) tq_2 rfl
theorem tw_468 : Cond.code yX9_lay cX9_lay 1 (some .int) ∈ tbg := tbg_in (List.mem_of_getElem? (l := tables_1_2) (i := 172) rfl) tq_2 rfl
theorem tw_469 : Cond.methodLink "DonkeyVerdicts" 102 yX1_doors ∈ tbg := tbg_in (List.mem_of_getElem? (l := tables_1_2) (i := 173) rfl) tq_2 rfl
theorem tw_470 : Cond.instanceMethod yX1_doors ∈ tbg := tbg_in (List.mem_of_getElem? (l := tables_1_2) (i := 174) rfl) tq_2 rfl
theorem tw_471 : Cond.selects yX1_doors.cls yX1_doors yX1_doors ∈ tbg := tbg_in (List.mem_of_getElem? (l := tables_1_2) (i := 175) rfl) tq_2 rfl
theorem tw_472 : Cond.code yX1_doors cX1_doors 1 (some .int) ∈ tbg := tbg_in (List.mem_of_getElem? (l := tables_1_2) (i := 176) rfl) tq_2 rfl
theorem tw_473 : Cond.methodLink "DonkeyVerdicts" 105 yX1_beasts ∈ tbg := tbg_in (List.mem_of_getElem? (l := tables_1_2) (i := 177) rfl) tq_2 rfl
theorem tw_475 : Cond.instanceMethod yX9_place ∈ tbg := tbg_in (List.mem_of_getElem? (l := tables_1_2) (i := 179) rfl) tq_2 rfl
theorem tw_476 : Cond.selects yX9_place.cls yX9_place yX9_place ∈ tbg := tbg_in (List.mem_of_getElem? (l := tables_1_2) (i := 180) rfl) tq_2 rfl
theorem tw_477 : Cond.code yX9_place cX9_place 3 (some .int) ∈ tbg := tbg_in (List.mem_of_getElem? (l := tables_1_2) (i := 181) rfl) tq_2 rfl
theorem tw_478 : Cond.methodLink "DonkeyVerdicts" 108 yX1_hasPlace ∈ tbg := tbg_in (List.mem_of_getElem? (l := tables_1_2) (i := 182) rfl) tq_2 rfl
theorem tw_479 : Cond.methodLink "DonkeyVerdicts" 112 yX4_carrotsIn ∈ tbg := tbg_in (List.mem_of_getElem? (l := tables_1_2) (i := 183) rfl) tq_2 rfl
theorem tw_480 : Cond.instanceMethod yX4_carrotsIn ∈ tbg := tbg_in (List.mem_of_getElem? (l := tables_1_2) (i := 184) rfl) tq_2 rfl
theorem tw_481 : Cond.selects yX4_carrotsIn.cls yX4_carrotsIn yX4_carrotsIn ∈ tbg := tbg_in (List.mem_of_getElem? (l := tables_1_2) (i := 185) rfl) tq_2 rfl
theorem tw_482 : Cond.code yX4_carrotsIn cX4_carrotsIn 2 (some .int) ∈ tbg := tbg_in (List.mem_of_getElem? (l := tables_1_2) (i := 186) rfl) tq_2 rfl
theorem tw_483 : Cond.methodLink "DonkeyVerdicts$Herd" 25 yX6_at ∈ tbg := tbg_in (List.mem_of_getElem? (l := tables_1_2) (i := 187) rfl) tq_2 rfl
theorem tw_484 : Cond.methodLink "DonkeyVerdicts" 116 yX1_hasMare ∈ tbg := tbg_in (List.mem_of_getElem? (l := tables_1_2) (i := 188) rfl) tq_2 rfl
theorem tw_485 : Cond.instanceMethod yX1_hasMare ∈ tbg := tbg_in (List.mem_of_getElem? (l := tables_1_2) (i := 189) rfl) tq_2 rfl
theorem tw_486 : Cond.selects yX1_hasMare.cls yX1_hasMare yX1_hasMare ∈ tbg := tbg_in (List.mem_of_getElem? (l := tables_1_2) (i := 190) rfl) tq_2 rfl
theorem tw_487 : Cond.code yX1_hasMare cX1_hasMare 2 (some .boolean) ∈ tbg := tbg_in (List.mem_of_getElem? (l := tables_1_2) (i := 191) rfl) tq_2 rfl
theorem tw_488 : Cond.methodLink "DonkeyVerdicts" 119 yX4_beastsIn ∈ tbg := tbg_in (List.mem_of_getElem? (l := tables_1_2) (i := 192) rfl) tq_2 rfl
theorem tw_489 : Cond.instanceMethod yX4_beastsIn ∈ tbg := tbg_in (List.mem_of_getElem? (l := tables_1_2) (i := 193) rfl) tq_2 rfl
theorem tw_490 : Cond.selects yX4_beastsIn.cls yX4_beastsIn yX4_beastsIn ∈ tbg := tbg_in (List.mem_of_getElem? (l := tables_1_2) (i := 194) rfl) tq_2 rfl
theorem tw_491 : Cond.code yX4_beastsIn cX4_beastsIn 4 (some .int) ∈ tbg := tbg_in (List.mem_of_getElem? (l := tables_1_2) (i := 195) rfl) tq_2 rfl
theorem tw_492 : Cond.methodLink "DonkeyVerdicts$Herd" 129 yX4_isIn ∈ tbg := tbg_in (List.mem_of_getElem? (l := tables_1_2) (i := 196) rfl) tq_2 rfl
theorem tw_493 : Cond.instanceMethod yX4_isIn ∈ tbg := tbg_in (List.mem_of_getElem? (l := tables_1_2) (i := 197) rfl) tq_2 rfl
theorem tw_494 : Cond.selects yX4_isIn.cls yX4_isIn yX4_isIn ∈ tbg := tbg_in (List.mem_of_getElem? (l := tables_1_2) (i := 198) rfl) tq_2 rfl
theorem tw_495 : Cond.code yX4_isIn cX4_isIn 3 (some .boolean) ∈ tbg := tbg_in (List.mem_of_getElem? (l := tables_1_2) (i := 199) rfl) tq_2 rfl
theorem tw_496 : Cond.methodLink "DonkeyVerdicts$Herd" 63 yX4_get ∈ tbg := tbg_in (List.mem_of_getElem? (l := tables_1_2) (i := 200) rfl) tq_2 rfl
theorem tw_497 : Cond.instanceMethod yX4_get ∈ tbg := tbg_in (List.mem_of_getElem? (l := tables_1_2) (i := 201) rfl) tq_2 rfl
theorem tw_498 : Cond.selects yX4_get.cls yX4_get yX4_get ∈ tbg := tbg_in (List.mem_of_getElem? (l := tables_1_2) (i := 202) rfl) tq_2 rfl
theorem tw_499 : Cond.code yX4_get cX4_get 4 (some .int) ∈ tbg := tbg_in (List.mem_of_getElem? (l := tables_1_2) (i := 203) rfl) tq_2 rfl
theorem tw_501 : Cond.instanceMethod yX9_way ∈ tbg := tbg_in (List.mem_of_getElem? (l := tables_1_2) (i := 205) rfl) tq_2 rfl
theorem tw_502 : Cond.selects yX9_way.cls yX9_way yX9_way ∈ tbg := tbg_in (List.mem_of_getElem? (l := tables_1_2) (i := 206) rfl) tq_2 rfl
theorem tw_503 : Cond.code yX9_way cX9_way 4 (some .int) ∈ tbg := tbg_in (List.mem_of_getElem? (l := tables_1_2) (i := 207) rfl) tq_2 rfl
theorem tw_504 : Cond.methodLink "DonkeyVerdicts" 122 yX1_lengthOf ∈ tbg := tbg_in (List.mem_of_getElem? (l := tables_1_2) (i := 208) rfl) tq_2 rfl
theorem tw_506 : Cond.instanceMethod yX9_door ∈ tbg := tbg_in (List.mem_of_getElem? (l := tables_1_2) (i := 210) rfl) tq_2 rfl
theorem tw_507 : Cond.selects yX9_door.cls yX9_door yX9_door ∈ tbg := tbg_in (List.mem_of_getElem? (l := tables_1_2) (i := 211) rfl) tq_2 rfl
theorem tw_508 : Cond.code yX9_door cX9_door 3 (some .int) ∈ tbg := tbg_in (List.mem_of_getElem? (l := tables_1_2) (i := 212) rfl) tq_2 rfl
theorem tw_509 : Cond.methodLink "DonkeyVerdicts" 126 yX1_hasDoor ∈ tbg := tbg_in (List.mem_of_getElem? (l := tables_1_2) (i := 213) rfl) tq_2 rfl
theorem tw_510 : Cond.instanceMethod yX1_hasDoor ∈ tbg := tbg_in (List.mem_of_getElem? (l := tables_1_2) (i := 214) rfl) tq_2 rfl
theorem tw_511 : Cond.selects yX1_hasDoor.cls yX1_hasDoor yX1_hasDoor ∈ tbg := tbg_in (List.mem_of_getElem? (l := tables_1_2) (i := 215) rfl) tq_2 rfl
theorem tw_512 : Cond.code yX1_hasDoor cX1_hasDoor 2 (some .boolean) ∈ tbg := tbg_in (List.mem_of_getElem? (l := tables_1_2) (i := 216) rfl) tq_2 rfl
theorem tw_513 : Cond.methodLink "DonkeyVerdicts" 129 yX1_doorKind ∈ tbg := tbg_in (List.mem_of_getElem? (l := tables_1_2) (i := 217) rfl) tq_2 rfl
theorem tw_514 : Cond.instanceMethod yX1_doorKind ∈ tbg := tbg_in (List.mem_of_getElem? (l := tables_1_2) (i := 218) rfl) tq_2 rfl
theorem tw_515 : Cond.selects yX1_doorKind.cls yX1_doorKind yX1_doorKind ∈ tbg := tbg_in (List.mem_of_getElem? (l := tables_1_2) (i := 219) rfl) tq_2 rfl
theorem tw_516 : Cond.code yX1_doorKind cX1_doorKind 2 (some .int) ∈ tbg := tbg_in (List.mem_of_getElem? (l := tables_1_2) (i := 220) rfl) tq_2 rfl
theorem tw_517 : Cond.methodLink "DonkeyVerdicts" 132 yX1_doorPlace ∈ tbg := tbg_in (List.mem_of_getElem? (l := tables_1_2) (i := 221) rfl) tq_2 rfl
theorem tw_518 : Cond.instanceMethod yX1_doorPlace ∈ tbg := tbg_in (List.mem_of_getElem? (l := tables_1_2) (i := 222) rfl) tq_2 rfl
theorem tw_519 : Cond.selects yX1_doorPlace.cls yX1_doorPlace yX1_doorPlace ∈ tbg := tbg_in (List.mem_of_getElem? (l := tables_1_2) (i := 223) rfl) tq_2 rfl
theorem tw_520 : Cond.code yX1_doorPlace cX1_doorPlace 2 (some .int) ∈ tbg := tbg_in (List.mem_of_getElem? (l := tables_1_2) (i := 224) rfl) tq_2 rfl
theorem tw_522 : Cond.instanceMethod yX9_beast ∈ tbg := tbg_in (List.mem_of_getElem? (l := tables_1_2) (i := 226) rfl) tq_2 rfl
theorem tw_523 : Cond.selects yX9_beast.cls yX9_beast yX9_beast ∈ tbg := tbg_in (List.mem_of_getElem? (l := tables_1_2) (i := 227) rfl) tq_2 rfl
theorem tw_524 : Cond.code yX9_beast cX9_beast 3 (some .int) ∈ tbg := tbg_in (List.mem_of_getElem? (l := tables_1_2) (i := 228) rfl) tq_2 rfl
theorem tw_525 : Cond.methodLink "DonkeyVerdicts" 135 yX1_hasBeast ∈ tbg := tbg_in (List.mem_of_getElem? (l := tables_1_2) (i := 229) rfl) tq_2 rfl
theorem tw_526 : Cond.instanceMethod yX1_hasBeast ∈ tbg := tbg_in (List.mem_of_getElem? (l := tables_1_2) (i := 230) rfl) tq_2 rfl
theorem tw_527 : Cond.selects yX1_hasBeast.cls yX1_hasBeast yX1_hasBeast ∈ tbg := tbg_in (List.mem_of_getElem? (l := tables_1_2) (i := 231) rfl) tq_2 rfl
theorem tw_528 : Cond.code yX1_hasBeast cX1_hasBeast 2 (some .boolean) ∈ tbg := tbg_in (List.mem_of_getElem? (l := tables_1_2) (i := 232) rfl) tq_2 rfl
theorem tw_529 : Cond.methodLink "DonkeyVerdicts" 138 yX1_kind ∈ tbg := tbg_in (List.mem_of_getElem? (l := tables_1_2) (i := 233) rfl) tq_2 rfl
theorem tw_530 : Cond.instanceMethod yX1_kind ∈ tbg := tbg_in (List.mem_of_getElem? (l := tables_1_2) (i := 234) rfl) tq_2 rfl
theorem tw_531 : Cond.selects yX1_kind.cls yX1_kind yX1_kind ∈ tbg := tbg_in (List.mem_of_getElem? (l := tables_1_2) (i := 235) rfl) tq_2 rfl
theorem tw_532 : Cond.code yX1_kind cX1_kind 2 (some .int) ∈ tbg := tbg_in (List.mem_of_getElem? (l := tables_1_2) (i := 236) rfl) tq_2 rfl
theorem tw_533 : Cond.methodLink "DonkeyVerdicts" 141 yX1_pace ∈ tbg := tbg_in (List.mem_of_getElem? (l := tables_1_2) (i := 237) rfl) tq_2 rfl
theorem tw_534 : Cond.instanceMethod yX1_pace ∈ tbg := tbg_in (List.mem_of_getElem? (l := tables_1_2) (i := 238) rfl) tq_2 rfl
theorem tw_535 : Cond.selects yX1_pace.cls yX1_pace yX1_pace ∈ tbg := tbg_in (List.mem_of_getElem? (l := tables_1_2) (i := 239) rfl) tq_2 rfl
theorem tw_536 : Cond.code yX1_pace cX1_pace 2 (some .int) ∈ tbg := tbg_in (List.mem_of_getElem? (l := tables_1_3) (i := 0) rfl) tq_3 rfl
theorem tw_537 : Cond.methodLink "DonkeyVerdicts" 144 yX4_get ∈ tbg := tbg_in (List.mem_of_getElem? (l := tables_1_3) (i := 1) rfl) tq_3 rfl
theorem tw_539 : Cond.instanceMethod yX9_sign ∈ tbg := tbg_in (List.mem_of_getElem? (l := tables_1_3) (i := 3) rfl) tq_3 rfl
theorem tw_540 : Cond.selects yX9_sign.cls yX9_sign yX9_sign ∈ tbg := tbg_in (List.mem_of_getElem? (l := tables_1_3) (i := 4) rfl) tq_3 rfl
theorem tw_541 : Cond.code yX9_sign cX9_sign 3 (some .int) ∈ tbg := tbg_in (List.mem_of_getElem? (l := tables_1_3) (i := 5) rfl) tq_3 rfl
theorem tw_542 : Cond.methodLink "DonkeyVerdicts" 147 yX4_carries ∈ tbg := tbg_in (List.mem_of_getElem? (l := tables_1_3) (i := 6) rfl) tq_3 rfl
theorem tw_543 : Cond.instanceMethod yX4_carries ∈ tbg := tbg_in (List.mem_of_getElem? (l := tables_1_3) (i := 7) rfl) tq_3 rfl
theorem tw_544 : Cond.selects yX4_carries.cls yX4_carries yX4_carries ∈ tbg := tbg_in (List.mem_of_getElem? (l := tables_1_3) (i := 8) rfl) tq_3 rfl
theorem tw_545 : Cond.code yX4_carries cX4_carries 2 (some .boolean) ∈ tbg := tbg_in (List.mem_of_getElem? (l := tables_1_3) (i := 9) rfl) tq_3 rfl
theorem tw_546 : Cond.methodLink "DonkeyVerdicts$Herd" 67 yX4_is ∈ tbg := tbg_in (List.mem_of_getElem? (l := tables_1_3) (i := 10) rfl) tq_3 rfl
theorem tw_547 : Cond.instanceMethod yX4_is ∈ tbg := tbg_in (List.mem_of_getElem? (l := tables_1_3) (i := 11) rfl) tq_3 rfl
theorem tw_548 : Cond.selects yX4_is.cls yX4_is yX4_is ∈ tbg := tbg_in (List.mem_of_getElem? (l := tables_1_3) (i := 12) rfl) tq_3 rfl
theorem tw_549 : Cond.code yX4_is cX4_is 3 (some .boolean) ∈ tbg := tbg_in (List.mem_of_getElem? (l := tables_1_3) (i := 13) rfl) tq_3 rfl
theorem tw_550 : Cond.methodLink "DonkeyVerdicts" 150 yX4_signOf ∈ tbg := tbg_in (List.mem_of_getElem? (l := tables_1_3) (i := 14) rfl) tq_3 rfl
theorem tw_551 : Cond.instanceMethod yX4_signOf ∈ tbg := tbg_in (List.mem_of_getElem? (l := tables_1_3) (i := 15) rfl) tq_3 rfl
theorem tw_552 : Cond.selects yX4_signOf.cls yX4_signOf yX4_signOf ∈ tbg := tbg_in (List.mem_of_getElem? (l := tables_1_3) (i := 16) rfl) tq_3 rfl
theorem tw_553 : Cond.code yX4_signOf cX4_signOf 5 (some .int) ∈ tbg := tbg_in (List.mem_of_getElem? (l := tables_1_3) (i := 17) rfl) tq_3 rfl
theorem tw_554 : Cond.methodLink "DonkeyVerdicts$Herd" 103 yX1_kind ∈ tbg := tbg_in (List.mem_of_getElem? (l := tables_1_3) (i := 18) rfl) tq_3 rfl
theorem tw_555 : Cond.methodLink "DonkeyVerdicts$Herd" 112 Lib.Math.min.name ∈ tbg := tbg_in (List.mem_of_getElem? (l := tables_1_3) (i := 19) rfl) tq_3 rfl
theorem tw_556 : Cond.methodLink "DonkeyVerdicts$Herd" 117 Lib.Math.max.name ∈ tbg := tbg_in (List.mem_of_getElem? (l := tables_1_3) (i := 20) rfl) tq_3 rfl
theorem tw_557 : Cond.static Lib.Math.max.name ∈ tbg := tbg_in (List.mem_of_getElem? (l := tables_1_3) (i := 21) rfl) tq_3 rfl
theorem tw_558 : Cond.code Lib.Math.max.name Lib.Math.max.code 2 (some .int) ∈ tbg := tbg_in (List.mem_of_getElem? (l := tables_1_3) (i := 22) rfl) tq_3 rfl
theorem tw_560 : Cond.instanceMethod yX9_send ∈ tbg := tbg_in (List.mem_of_getElem? (l := tables_1_3) (i := 24) rfl) tq_3 rfl
theorem tw_561 : Cond.selects yX9_send.cls yX9_send yX9_send ∈ tbg := tbg_in (List.mem_of_getElem? (l := tables_1_3) (i := 25) rfl) tq_3 rfl
theorem tw_562 : Cond.code yX9_send cX9_send 4 (some .int) ∈ tbg := tbg_in (List.mem_of_getElem? (l := tables_1_3) (i := 26) rfl) tq_3 rfl
theorem tw_563 : Cond.methodLink "DonkeyVerdicts" 153 yX9_isVerdict ∈ tbg := tbg_in (List.mem_of_getElem? (l := tables_1_3) (i := 27) rfl) tq_3 rfl
theorem tw_564 : Cond.static yX9_isVerdict ∈ tbg := tbg_in (List.mem_of_getElem? (l := tables_1_3) (i := 28) rfl) tq_3 rfl
theorem tw_565 : Cond.code yX9_isVerdict cX9_isVerdict 1 (some .boolean) ∈ tbg := tbg_in (List.mem_of_getElem? (l := tables_1_3) (i := 29) rfl) tq_3 rfl
theorem tw_566 : Cond.methodLink "DonkeyVerdicts" 156 yX4_canBeSent ∈ tbg := tbg_in (List.mem_of_getElem? (l := tables_1_3) (i := 30) rfl) tq_3 rfl
theorem tw_567 : Cond.instanceMethod yX4_canBeSent ∈ tbg := tbg_in (List.mem_of_getElem? (l := tables_1_3) (i := 31) rfl) tq_3 rfl
theorem tw_568 : Cond.selects yX4_canBeSent.cls yX4_canBeSent yX4_canBeSent ∈ tbg := tbg_in (List.mem_of_getElem? (l := tables_1_3) (i := 32) rfl) tq_3 rfl
theorem tw_569 : Cond.code yX4_canBeSent cX4_canBeSent 3 (some .boolean) ∈ tbg := tbg_in (List.mem_of_getElem? (l := tables_1_3) (i := 33) rfl) tq_3 rfl
theorem tw_570 : Cond.methodLink "DonkeyVerdicts$Herd" 71 yX1_doorPlace ∈ tbg := tbg_in (List.mem_of_getElem? (l := tables_1_3) (i := 34) rfl) tq_3 rfl
theorem tw_571 : Cond.methodLink "DonkeyVerdicts$Herd" 74 yX1_isReached ∈ tbg := tbg_in (List.mem_of_getElem? (l := tables_1_3) (i := 35) rfl) tq_3 rfl
theorem tw_572 : Cond.instanceMethod yX1_isReached ∈ tbg := tbg_in (List.mem_of_getElem? (l := tables_1_3) (i := 36) rfl) tq_3 rfl
theorem tw_573 : Cond.selects yX1_isReached.cls yX1_isReached yX1_isReached ∈ tbg := tbg_in (List.mem_of_getElem? (l := tables_1_3) (i := 37) rfl) tq_3 rfl
theorem tw_574 : Cond.code yX1_isReached cX1_isReached 3 (some .boolean) ∈ tbg := tbg_in (List.mem_of_getElem? (l := tables_1_3) (i := 38) rfl) tq_3 rfl
theorem tw_575 : Cond.methodLink "DonkeyVerdicts" 160 yX8_push ∈ tbg := tbg_in (List.mem_of_getElem? (l := tables_1_3) (i := 39) rfl) tq_3 rfl
theorem tw_576 : Cond.instanceMethod yX8_push ∈ tbg := tbg_in (List.mem_of_getElem? (l := tables_1_3) (i := 40) rfl) tq_3 rfl
theorem tw_577 : Cond.selects yX8_push.cls yX8_push yX8_push ∈ tbg := tbg_in (List.mem_of_getElem? (l := tables_1_3) (i := 41) rfl) tq_3 rfl
theorem tw_578 : Cond.code yX8_push cX8_push 2 none ∈ tbg := tbg_in (List.mem_of_getElem? (l := tables_1_3) (i := 42) rfl) tq_3 rfl
theorem tw_579 : Cond.methodLink "DonkeyVerdicts$Shelf" 25 Lib.Math.min.name ∈ tbg := tbg_in (List.mem_of_getElem? (l := tables_1_3) (i := 43) rfl) tq_3 rfl
theorem tw_580 : Cond.methodLink "DonkeyVerdicts$Shelf" 31 yX4_copy ∈ tbg := tbg_in (List.mem_of_getElem? (l := tables_1_3) (i := 44) rfl) tq_3 rfl
theorem tw_581 : Cond.instanceMethod yX4_copy ∈ tbg := tbg_in (List.mem_of_getElem? (l := tables_1_3) (i := 45) rfl) tq_3 rfl
theorem tw_582 : Cond.selects yX4_copy.cls yX4_copy yX4_copy ∈ tbg := tbg_in (List.mem_of_getElem? (l := tables_1_3) (i := 46) rfl) tq_3 rfl
theorem tw_583 : Cond.code yX4_copy cX4_copy 2 none ∈ tbg := tbg_in (List.mem_of_getElem? (l := tables_1_3) (i := 47) rfl) tq_3 rfl
theorem tw_584 : Cond.methodLink "DonkeyVerdicts$Herd" 19 arraycopyName ∈ tbg := tbg_in (List.mem_of_getElem? (l := tables_1_3) (i := 48) rfl) tq_3 rfl
theorem tw_585 : Cond.static arraycopyName ∈ tbg := tbg_in (List.mem_of_getElem? (l := tables_1_3) (i := 49) rfl) tq_3 rfl
theorem tw_586 : Cond.native arraycopyName ∈ tbg := tbg_in (List.mem_of_getElem? (l := tables_1_3) (i := 50) rfl) tq_3 rfl
theorem tw_587 : Cond.methodLink "DonkeyVerdicts" 164 yX4_dispatch ∈ tbg := tbg_in (List.mem_of_getElem? (l := tables_1_3) (i := 51) rfl) tq_3 rfl
theorem tw_588 : Cond.instanceMethod yX4_dispatch ∈ tbg := tbg_in (List.mem_of_getElem? (l := tables_1_3) (i := 52) rfl) tq_3 rfl
theorem tw_589 : Cond.selects yX4_dispatch.cls yX4_dispatch yX4_dispatch ∈ tbg := tbg_in (List.mem_of_getElem? (l := tables_1_3) (i := 53) rfl) tq_3 rfl
theorem tw_590 : Cond.code yX4_dispatch cX4_dispatch 5 none ∈ tbg := tbg_in (List.mem_of_getElem? (l := tables_1_3) (i := 54) rfl) tq_3 rfl
theorem tw_592 : Cond.instanceMethod yX9_pass ∈ tbg := tbg_in (List.mem_of_getElem? (l := tables_1_3) (i := 56) rfl) tq_3 rfl
theorem tw_593 : Cond.selects yX9_pass.cls yX9_pass yX9_pass ∈ tbg := tbg_in (List.mem_of_getElem? (l := tables_1_3) (i := 57) rfl) tq_3 rfl
theorem tw_594 : Cond.code yX9_pass cX9_pass 3 (some .int) ∈ tbg := tbg_in (List.mem_of_getElem? (l := tables_1_3) (i := 58) rfl) tq_3 rfl
theorem tw_595 : Cond.methodLink "DonkeyVerdicts" 168 yX4_goOn ∈ tbg := tbg_in (List.mem_of_getElem? (l := tables_1_3) (i := 59) rfl) tq_3 rfl
theorem tw_596 : Cond.instanceMethod yX4_goOn ∈ tbg := tbg_in (List.mem_of_getElem? (l := tables_1_3) (i := 60) rfl) tq_3 rfl
theorem tw_597 : Cond.selects yX4_goOn.cls yX4_goOn yX4_goOn ∈ tbg := tbg_in (List.mem_of_getElem? (l := tables_1_3) (i := 61) rfl) tq_3 rfl
theorem tw_598 : Cond.code yX4_goOn cX4_goOn 3 none ∈ tbg := tbg_in (List.mem_of_getElem? (l := tables_1_3) (i := 62) rfl) tq_3 rfl
theorem tw_599 : Cond.methodLink "DonkeyVerdicts$Herd" 77 yX4_isUnderWay ∈ tbg := tbg_in (List.mem_of_getElem? (l := tables_1_3) (i := 63) rfl) tq_3 rfl
theorem tw_600 : Cond.instanceMethod yX4_isUnderWay ∈ tbg := tbg_in (List.mem_of_getElem? (l := tables_1_3) (i := 64) rfl) tq_3 rfl
theorem tw_601 : Cond.selects yX4_isUnderWay.cls yX4_isUnderWay yX4_isUnderWay ∈ tbg := tbg_in (List.mem_of_getElem? (l := tables_1_3) (i := 65) rfl) tq_3 rfl
theorem tw_602 : Cond.code yX4_isUnderWay cX4_isUnderWay 2 (some .boolean) ∈ tbg := tbg_in (List.mem_of_getElem? (l := tables_1_3) (i := 66) rfl) tq_3 rfl
theorem tw_603 : Cond.methodLink "DonkeyVerdicts$Herd" 81 yX4_move ∈ tbg := tbg_in (List.mem_of_getElem? (l := tables_1_3) (i := 67) rfl) tq_3 rfl
theorem tw_605 : Cond.instanceMethod yX4_move ∈ tbg := tbg_in (List.mem_of_getElem? (l := tables_1_3) (i := 69) rfl) tq_3 rfl
theorem tw_606 : Cond.code yX4_move cX4_move 6 none ∈ tbg := tbg_in (List.mem_of_getElem? (l := tables_1_3) (i := 70) rfl) tq_3 rfl
theorem tw_607 : Cond.methodLink "DonkeyVerdicts$Herd" 88 yX4_end ∈ tbg := tbg_in (List.mem_of_getElem? (l := tables_1_3) (i := 71) rfl) tq_3 rfl
theorem tw_609 : Cond.instanceMethod yX4_end ∈ tbg := tbg_in (List.mem_of_getElem? (l := tables_1_3) (i := 73) rfl) tq_3 rfl
theorem tw_610 : Cond.code yX4_end cX4_end 2 none ∈ tbg := tbg_in (List.mem_of_getElem? (l := tables_1_3) (i := 74) rfl) tq_3 rfl
theorem tw_611 : Cond.methodLink "DonkeyVerdicts$Herd" 91 yX1_hop ∈ tbg := tbg_in (List.mem_of_getElem? (l := tables_1_3) (i := 75) rfl) tq_3 rfl
theorem tw_612 : Cond.instanceMethod yX1_hop ∈ tbg := tbg_in (List.mem_of_getElem? (l := tables_1_3) (i := 76) rfl) tq_3 rfl
theorem tw_613 : Cond.selects yX1_hop.cls yX1_hop yX1_hop ∈ tbg := tbg_in (List.mem_of_getElem? (l := tables_1_3) (i := 77) rfl) tq_3 rfl
theorem tw_614 : Cond.code yX1_hop cX1_hop 3 (some .int) ∈ tbg := tbg_in (List.mem_of_getElem? (l := tables_1_3) (i := 78) rfl) tq_3 rfl
theorem tw_615 : Cond.methodLink "DonkeyVerdicts$Herd" 94 yX1_lengthOf ∈ tbg := tbg_in (List.mem_of_getElem? (l := tables_1_3) (i := 79) rfl) tq_3 rfl
theorem tw_616 : Cond.methodLink "DonkeyVerdicts$Herd" 97 yX1_pace ∈ tbg := tbg_in (List.mem_of_getElem? (l := tables_1_3) (i := 80) rfl) tq_3 rfl
theorem tw_617 : Cond.methodLink "DonkeyVerdicts$Herd" 100 yX4_arrive ∈ tbg := tbg_in (List.mem_of_getElem? (l := tables_1_3) (i := 81) rfl) tq_3 rfl
theorem tw_619 : Cond.instanceMethod yX4_arrive ∈ tbg := tbg_in (List.mem_of_getElem? (l := tables_1_3) (i := 83) rfl) tq_3 rfl
theorem tw_620 : Cond.code yX4_arrive cX4_arrive 6 none ∈ tbg := tbg_in (List.mem_of_getElem? (l := tables_1_3) (i := 84) rfl) tq_3 rfl
theorem tw_621 : Cond.methodLink "DonkeyVerdicts$Herd" 106 yX4_carrotsIn ∈ tbg := tbg_in (List.mem_of_getElem? (l := tables_1_3) (i := 85) rfl) tq_3 rfl
theorem tw_622 : Cond.methodLink "DonkeyVerdicts$Herd" 109 yX1_hasMare ∈ tbg := tbg_in (List.mem_of_getElem? (l := tables_1_3) (i := 86) rfl) tq_3 rfl
theorem tw_623 : Cond.methodLink "DonkeyVerdicts$Herd" 85 yX4_hours ∈ tbg := tbg_in (List.mem_of_getElem? (l := tables_1_3) (i := 87) rfl) tq_3 rfl
theorem tw_624 : Cond.instanceMethod yX4_hours ∈ tbg := tbg_in (List.mem_of_getElem? (l := tables_1_3) (i := 88) rfl) tq_3 rfl
theorem tw_625 : Cond.selects yX4_hours.cls yX4_hours yX4_hours ∈ tbg := tbg_in (List.mem_of_getElem? (l := tables_1_3) (i := 89) rfl) tq_3 rfl
theorem tw_626 : Cond.code yX4_hours cX4_hours 1 (some .int) ∈ tbg := tbg_in (List.mem_of_getElem? (l := tables_1_3) (i := 90) rfl) tq_3 rfl
theorem tw_627 : Cond.methodLink "DonkeyVerdicts" 172 yX4_hours ∈ tbg := tbg_in (List.mem_of_getElem? (l := tables_1_3) (i := 91) rfl) tq_3 rfl
theorem tw_629 : Cond.instanceMethod yX9_home ∈ tbg := tbg_in (List.mem_of_getElem? (l := tables_1_3) (i := 93) rfl) tq_3 rfl
theorem tw_630 : Cond.selects yX9_home.cls yX9_home yX9_home ∈ tbg := tbg_in (List.mem_of_getElem? (l := tables_1_3) (i := 94) rfl) tq_3 rfl
theorem tw_631 : Cond.code yX9_home cX9_home 3 (some .int) ∈ tbg := tbg_in (List.mem_of_getElem? (l := tables_1_3) (i := 95) rfl) tq_3 rfl
theorem tw_632 : Cond.methodLink "DonkeyVerdicts" 175 yX4_is ∈ tbg := tbg_in (List.mem_of_getElem? (l := tables_1_3) (i := 96) rfl) tq_3 rfl
theorem tw_633 : Cond.methodLink "DonkeyVerdicts" 178 yX4_readOf ∈ tbg := tbg_in (List.mem_of_getElem? (l := tables_1_3) (i := 97) rfl) tq_3 rfl
theorem tw_634 : Cond.instanceMethod yX4_readOf ∈ tbg := tbg_in (List.mem_of_getElem? (l := tables_1_3) (i := 98) rfl) tq_3 rfl
theorem tw_635 : Cond.selects yX4_readOf.cls yX4_readOf yX4_readOf ∈ tbg := tbg_in (List.mem_of_getElem? (l := tables_1_3) (i := 99) rfl) tq_3 rfl
theorem tw_636 : Cond.code yX4_readOf cX4_readOf 2 (some .int) ∈ tbg := tbg_in (List.mem_of_getElem? (l := tables_1_3) (i := 100) rfl) tq_3 rfl
theorem tw_637 : Cond.methodLink "DonkeyVerdicts$Herd" 120 yX4_readOf_ ∈ tbg := tbg_in (List.mem_of_getElem? (l := tables_1_3) (i := 101) rfl) tq_3 rfl
theorem tw_638 : Cond.instanceMethod yX4_readOf_ ∈ tbg := tbg_in (List.mem_of_getElem? (l := tables_1_3) (i := 102) rfl) tq_3 rfl
theorem tw_639 : Cond.selects yX4_readOf_.cls yX4_readOf_ yX4_readOf_ ∈ tbg := tbg_in (List.mem_of_getElem? (l := tables_1_3) (i := 103) rfl) tq_3 rfl
theorem tw_640 : Cond.code yX4_readOf_ cX4_readOf_ 4 (some .int) ∈ tbg := tbg_in (List.mem_of_getElem? (l := tables_1_3) (i := 104) rfl) tq_3 rfl
theorem tw_641 : Cond.methodLink "DonkeyVerdicts$Herd" 123 yX4_signOf ∈ tbg := tbg_in (List.mem_of_getElem? (l := tables_1_3) (i := 105) rfl) tq_3 rfl
theorem tw_642 : Cond.methodLink "DonkeyVerdicts$Herd" 126 yX1_doorKind ∈ tbg := tbg_in (List.mem_of_getElem? (l := tables_1_3) (i := 106) rfl) tq_3 rfl
theorem tw_643 : Cond.methodLink "DonkeyVerdicts" 181 yX4_callHome ∈ tbg := tbg_in (List.mem_of_getElem? (l := tables_1_3) (i := 107) rfl) tq_3 rfl
theorem tw_644 : Cond.instanceMethod yX4_callHome ∈ tbg := tbg_in (List.mem_of_getElem? (l := tables_1_3) (i := 108) rfl) tq_3 rfl
theorem tw_645 : Cond.selects yX4_callHome.cls yX4_callHome yX4_callHome ∈ tbg := tbg_in (List.mem_of_getElem? (l := tables_1_3) (i := 109) rfl) tq_3 rfl
theorem tw_646 : Cond.code yX4_callHome cX4_callHome 2 none ∈ tbg := tbg_in (List.mem_of_getElem? (l := tables_1_3) (i := 110) rfl) tq_3 rfl
theorem tw_648 : Cond.instanceMethod yX9_carrots ∈ tbg := tbg_in (List.mem_of_getElem? (l := tables_1_3) (i := 112) rfl) tq_3 rfl
theorem tw_649 : Cond.selects yX9_carrots.cls yX9_carrots yX9_carrots ∈ tbg := tbg_in (List.mem_of_getElem? (l := tables_1_3) (i := 113) rfl) tq_3 rfl
theorem tw_650 : Cond.code yX9_carrots cX9_carrots 4 (some .int) ∈ tbg := tbg_in (List.mem_of_getElem? (l := tables_1_3) (i := 114) rfl) tq_3 rfl
theorem tw_651 : Cond.methodLink "DonkeyVerdicts" 184 yX4_putCarrots ∈ tbg := tbg_in (List.mem_of_getElem? (l := tables_1_3) (i := 115) rfl) tq_3 rfl
theorem tw_653 : Cond.instanceMethod yX9_undo ∈ tbg := tbg_in (List.mem_of_getElem? (l := tables_1_3) (i := 117) rfl) tq_3 rfl
theorem tw_654 : Cond.selects yX9_undo.cls yX9_undo yX9_undo ∈ tbg := tbg_in (List.mem_of_getElem? (l := tables_1_3) (i := 118) rfl) tq_3 rfl
theorem tw_655 : Cond.code yX9_undo cX9_undo 1 (some .int) ∈ tbg := tbg_in (List.mem_of_getElem? (l := tables_1_3) (i := 119) rfl) tq_3 rfl
theorem tw_656 : Cond.methodLink "DonkeyVerdicts" 188 yX8_pop ∈ tbg := tbg_in (List.mem_of_getElem? (l := tables_1_3) (i := 120) rfl) tq_3 rfl
theorem tw_657 : Cond.instanceMethod yX8_pop ∈ tbg := tbg_in (List.mem_of_getElem? (l := tables_1_3) (i := 121) rfl) tq_3 rfl
theorem tw_658 : Cond.selects yX8_pop.cls yX8_pop yX8_pop ∈ tbg := tbg_in (List.mem_of_getElem? (l := tables_1_3) (i := 122) rfl) tq_3 rfl
theorem tw_659 : Cond.code yX8_pop cX8_pop 2 (some .boolean) ∈ tbg := tbg_in (List.mem_of_getElem? (l := tables_1_3) (i := 123) rfl) tq_3 rfl
theorem tw_660 : Cond.methodLink "DonkeyVerdicts" 192 yX8_size ∈ tbg := tbg_in (List.mem_of_getElem? (l := tables_1_3) (i := 124) rfl) tq_3 rfl
theorem tw_661 : Cond.instanceMethod yX8_size ∈ tbg := tbg_in (List.mem_of_getElem? (l := tables_1_3) (i := 125) rfl) tq_3 rfl
theorem tw_662 : Cond.selects yX8_size.cls yX8_size yX8_size ∈ tbg := tbg_in (List.mem_of_getElem? (l := tables_1_3) (i := 126) rfl) tq_3 rfl
theorem tw_663 : Cond.code yX8_size cX8_size 1 (some .int) ∈ tbg := tbg_in (List.mem_of_getElem? (l := tables_1_3) (i := 127) rfl) tq_3 rfl
theorem tw_665 : Cond.instanceMethod yX9_arrives ∈ tbg := tbg_in (List.mem_of_getElem? (l := tables_1_3) (i := 129) rfl) tq_3 rfl
theorem tw_666 : Cond.selects yX9_arrives.cls yX9_arrives yX9_arrives ∈ tbg := tbg_in (List.mem_of_getElem? (l := tables_1_3) (i := 130) rfl) tq_3 rfl
theorem tw_667 : Cond.code yX9_arrives cX9_arrives 2 (some .int) ∈ tbg := tbg_in (List.mem_of_getElem? (l := tables_1_3) (i := 131) rfl) tq_3 rfl
theorem tw_668 : Cond.methodLink "DonkeyVerdicts" 195 yX3_hoursTill ∈ tbg := tbg_in (List.mem_of_getElem? (l := tables_1_3) (i := 132) rfl) tq_3 rfl
theorem tw_669 : Cond.instanceMethod yX3_hoursTill ∈ tbg := tbg_in (List.mem_of_getElem? (l := tables_1_3) (i := 133) rfl) tq_3 rfl
theorem tw_670 : Cond.selects yX3_hoursTill.cls yX3_hoursTill yX3_hoursTill ∈ tbg := tbg_in (List.mem_of_getElem? (l := tables_1_3) (i := 134) rfl) tq_3 rfl
theorem tw_671 : Cond.code yX3_hoursTill cX3_hoursTill 3 (some .int) ∈ tbg := tbg_in (List.mem_of_getElem? (l := tables_1_3) (i := 135) rfl) tq_3 rfl
theorem tw_672 : Cond.methodLink "DonkeyVerdicts$Foresight" 24 yX4_copy ∈ tbg := tbg_in (List.mem_of_getElem? (l := tables_1_3) (i := 136) rfl) tq_3 rfl
theorem tw_673 : Cond.methodLink "DonkeyVerdicts$Foresight" 28 yX3_awaitBeast ∈ tbg := tbg_in (List.mem_of_getElem? (l := tables_1_3) (i := 137) rfl) tq_3 rfl
theorem tw_675 : Cond.instanceMethod yX3_awaitBeast ∈ tbg := tbg_in (List.mem_of_getElem? (l := tables_1_3) (i := 139) rfl) tq_3 rfl
theorem tw_676 : Cond.code yX3_awaitBeast cX3_awaitBeast 3 (some .int) ∈ tbg := tbg_in (List.mem_of_getElem? (l := tables_1_3) (i := 140) rfl) tq_3 rfl
theorem tw_677 : Cond.methodLink "DonkeyVerdicts$Foresight" 35 yX4_is ∈ tbg := tbg_in (List.mem_of_getElem? (l := tables_1_3) (i := 141) rfl) tq_3 rfl
theorem tw_678 : Cond.methodLink "DonkeyVerdicts$Foresight" 39 yX4_goOn ∈ tbg := tbg_in (List.mem_of_getElem? (l := tables_1_3) (i := 142) rfl) tq_3 rfl
theorem tw_680 : Cond.instanceMethod yX9_reading ∈ tbg := tbg_in (List.mem_of_getElem? (l := tables_1_3) (i := 144) rfl) tq_3 rfl
theorem tw_681 : Cond.selects yX9_reading.cls yX9_reading yX9_reading ∈ tbg := tbg_in (List.mem_of_getElem? (l := tables_1_3) (i := 145) rfl) tq_3 rfl
theorem tw_682 : Cond.code yX9_reading cX9_reading 2 (some .int) ∈ tbg := tbg_in (List.mem_of_getElem? (l := tables_1_3) (i := 146) rfl) tq_3 rfl
theorem tw_683 : Cond.methodLink "DonkeyVerdicts" 199 yX3_readOf ∈ tbg := tbg_in (List.mem_of_getElem? (l := tables_1_3) (i := 147) rfl) tq_3 rfl
theorem tw_684 : Cond.instanceMethod yX3_readOf ∈ tbg := tbg_in (List.mem_of_getElem? (l := tables_1_3) (i := 148) rfl) tq_3 rfl
theorem tw_685 : Cond.selects yX3_readOf.cls yX3_readOf yX3_readOf ∈ tbg := tbg_in (List.mem_of_getElem? (l := tables_1_3) (i := 149) rfl) tq_3 rfl
theorem tw_686 : Cond.code yX3_readOf cX3_readOf 3 (some .int) ∈ tbg := tbg_in (List.mem_of_getElem? (l := tables_1_3) (i := 150) rfl) tq_3 rfl
theorem tw_687 : Cond.methodLink "DonkeyVerdicts$Foresight" 32 yX4_readOf ∈ tbg := tbg_in (List.mem_of_getElem? (l := tables_1_3) (i := 151) rfl) tq_3 rfl
theorem tw_689 : Cond.instanceMethod yX9_right ∈ tbg := tbg_in (List.mem_of_getElem? (l := tables_1_3) (i := 153) rfl) tq_3 rfl
theorem tw_690 : Cond.selects yX9_right.cls yX9_right yX9_right ∈ tbg := tbg_in (List.mem_of_getElem? (l := tables_1_3) (i := 154) rfl) tq_3 rfl
theorem tw_691 : Cond.code yX9_right cX9_right 3 (some .int) ∈ tbg := tbg_in (List.mem_of_getElem? (l := tables_1_3) (i := 155) rfl) tq_3 rfl
theorem tw_692 : Cond.methodLink "DonkeyVerdicts" 201 yX3_rightBeasts ∈ tbg := tbg_in (List.mem_of_getElem? (l := tables_1_3) (i := 156) rfl) tq_3 rfl
theorem tw_693 : Cond.instanceMethod yX3_rightBeasts ∈ tbg := tbg_in (List.mem_of_getElem? (l := tables_1_3) (i := 157) rfl) tq_3 rfl
theorem tw_694 : Cond.selects yX3_rightBeasts.cls yX3_rightBeasts yX3_rightBeasts ∈ tbg := tbg_in (List.mem_of_getElem? (l := tables_1_3) (i := 158) rfl) tq_3 rfl
theorem tw_695 : Cond.code yX3_rightBeasts cX3_rightBeasts 6 (some .int) ∈ tbg := tbg_in (List.mem_of_getElem? (l := tables_1_3) (i := 159) rfl) tq_3 rfl
theorem tw_696 : Cond.methodLink "DonkeyVerdicts$Foresight" 50 yX1_beasts ∈ tbg := tbg_in (List.mem_of_getElem? (l := tables_1_3) (i := 160) rfl) tq_3 rfl
theorem tw_697 : Cond.methodLink "DonkeyVerdicts$Foresight" 56 yX3_trySending ∈ tbg := tbg_in (List.mem_of_getElem? (l := tables_1_3) (i := 161) rfl) tq_3 rfl
theorem tw_699 : Cond.instanceMethod yX3_trySending ∈ tbg := tbg_in (List.mem_of_getElem? (l := tables_1_3) (i := 163) rfl) tq_3 rfl
theorem tw_700 : Cond.code yX3_trySending cX3_trySending 5 (some .boolean) ∈ tbg := tbg_in (List.mem_of_getElem? (l := tables_1_3) (i := 164) rfl) tq_3 rfl
theorem tw_701 : Cond.methodLink "DonkeyVerdicts$Foresight" 43 yX4_canBeSent ∈ tbg := tbg_in (List.mem_of_getElem? (l := tables_1_3) (i := 165) rfl) tq_3 rfl
theorem tw_702 : Cond.methodLink "DonkeyVerdicts$Foresight" 46 yX4_dispatch ∈ tbg := tbg_in (List.mem_of_getElem? (l := tables_1_3) (i := 166) rfl) tq_3 rfl
theorem tw_704 : Cond.instanceMethod yX9_soonest ∈ tbg := tbg_in (List.mem_of_getElem? (l := tables_1_3) (i := 168) rfl) tq_3 rfl
theorem tw_705 : Cond.selects yX9_soonest.cls yX9_soonest yX9_soonest ∈ tbg := tbg_in (List.mem_of_getElem? (l := tables_1_3) (i := 169) rfl) tq_3 rfl
theorem tw_706 : Cond.code yX9_soonest cX9_soonest 3 (some .int) ∈ tbg := tbg_in (List.mem_of_getElem? (l := tables_1_3) (i := 170) rfl) tq_3 rfl
theorem tw_707 : Cond.methodLink "DonkeyVerdicts" 205 yX3_soonestBeast ∈ tbg := tbg_in (List.mem_of_getElem? (l := tables_1_3) (i := 171) rfl) tq_3 rfl
theorem tw_708 : Cond.instanceMethod yX3_soonestBeast ∈ tbg := tbg_in (List.mem_of_getElem? (l := tables_1_3) (i := 172) rfl) tq_3 rfl
theorem tw_709 : Cond.selects yX3_soonestBeast.cls yX3_soonestBeast yX3_soonestBeast ∈ tbg := tbg_in (List.mem_of_getElem? (l := tables_1_3) (i := 173) rfl) tq_3 rfl
theorem tw_710 : Cond.code yX3_soonestBeast cX3_soonestBeast 8 (some .int) ∈ tbg := tbg_in (List.mem_of_getElem? (l := tables_1_3) (i := 174) rfl) tq_3 rfl
theorem tw_712 : Cond.instanceMethod yX9_tell ∈ tbg := tbg_in (List.mem_of_getElem? (l := tables_1_3) (i := 176) rfl) tq_3 rfl
theorem tw_713 : Cond.selects yX9_tell.cls yX9_tell yX9_tell ∈ tbg := tbg_in (List.mem_of_getElem? (l := tables_1_3) (i := 177) rfl) tq_3 rfl
theorem tw_714 : Cond.code yX9_tell cX9_tell 4 (some .int) ∈ tbg := tbg_in (List.mem_of_getElem? (l := tables_1_3) (i := 178) rfl) tq_3 rfl
theorem tw_715 : Cond.methodLink "DonkeyVerdicts" 208 yX3_verdictsReadAs ∈ tbg := tbg_in (List.mem_of_getElem? (l := tables_1_3) (i := 179) rfl) tq_3 rfl
theorem tw_716 : Cond.instanceMethod yX3_verdictsReadAs ∈ tbg := tbg_in (List.mem_of_getElem? (l := tables_1_3) (i := 180) rfl) tq_3 rfl
theorem tw_717 : Cond.selects yX3_verdictsReadAs.cls yX3_verdictsReadAs yX3_verdictsReadAs ∈ tbg := tbg_in (List.mem_of_getElem? (l := tables_1_3) (i := 181) rfl) tq_3 rfl
theorem tw_718 : Cond.code yX3_verdictsReadAs cX3_verdictsReadAs 7 (some .int) ∈ tbg := tbg_in (List.mem_of_getElem? (l := tables_1_3) (i := 182) rfl) tq_3 rfl
theorem tw_719 : Cond.methodLink "DonkeyVerdicts$Foresight" 60 yX4_readOf_ ∈ tbg := tbg_in (List.mem_of_getElem? (l := tables_1_3) (i := 183) rfl) tq_3 rfl
theorem tw_720 : Cond.methodLink "DonkeyVerdicts" 212 yX9_lowestBit ∈ tbg := tbg_in (List.mem_of_getElem? (l := tables_1_3) (i := 184) rfl) tq_3 rfl
theorem tw_721 : Cond.static yX9_lowestBit ∈ tbg := tbg_in (List.mem_of_getElem? (l := tables_1_3) (i := 185) rfl) tq_3 rfl
theorem tw_722 : Cond.code yX9_lowestBit cX9_lowestBit 2 (some .int) ∈ tbg := tbg_in (List.mem_of_getElem? (l := tables_1_3) (i := 186) rfl) tq_3 rfl
theorem tw_724 : Cond.instanceMethod yX9_deal ∈ tbg := tbg_in (List.mem_of_getElem? (l := tables_1_3) (i := 188) rfl) tq_3 rfl
theorem tw_725 : Cond.selects yX9_deal.cls yX9_deal yX9_deal ∈ tbg := tbg_in (List.mem_of_getElem? (l := tables_1_3) (i := 189) rfl) tq_3 rfl
theorem tw_726 : Cond.code yX9_deal cX9_deal 4 (some .int) ∈ tbg := tbg_in (List.mem_of_getElem? (l := tables_1_3) (i := 190) rfl) tq_3 rfl
theorem tw_727 : Cond.methodLink "DonkeyVerdicts" 215 yX2_fewestHours ∈ tbg := tbg_in (List.mem_of_getElem? (l := tables_1_3) (i := 191) rfl) tq_3 rfl
theorem tw_728 : Cond.instanceMethod yX2_fewestHours ∈ tbg := tbg_in (List.mem_of_getElem? (l := tables_1_3) (i := 192) rfl) tq_3 rfl
theorem tw_729 : Cond.selects yX2_fewestHours.cls yX2_fewestHours yX2_fewestHours ∈ tbg := tbg_in (List.mem_of_getElem? (l := tables_1_3) (i := 193) rfl) tq_3 rfl
theorem tw_730 : Cond.code yX2_fewestHours cX2_fewestHours 7 (some .int) ∈ tbg := tbg_in (List.mem_of_getElem? (l := tables_1_3) (i := 194) rfl) tq_3 rfl
theorem tw_731 : Cond.methodLink "DonkeyVerdicts$Dealer" 31 yX1_doors ∈ tbg := tbg_in (List.mem_of_getElem? (l := tables_1_3) (i := 195) rfl) tq_3 rfl
theorem tw_732 : Cond.methodLink "DonkeyVerdicts$Dealer" 37 yX1_beasts ∈ tbg := tbg_in (List.mem_of_getElem? (l := tables_1_3) (i := 196) rfl) tq_3 rfl
theorem tw_733 : Cond.methodLink "DonkeyVerdicts$Dealer" 40 yX2_pick ∈ tbg := tbg_in (List.mem_of_getElem? (l := tables_1_3) (i := 197) rfl) tq_3 rfl
theorem tw_735 : Cond.instanceMethod yX2_pick ∈ tbg := tbg_in (List.mem_of_getElem? (l := tables_1_3) (i := 199) rfl) tq_3 rfl
theorem tw_736 : Cond.code yX2_pick cX2_pick 5 none ∈ tbg := tbg_in (List.mem_of_getElem? (l := tables_1_3) (i := 200) rfl) tq_3 rfl
theorem tw_737 : Cond.methodLink "DonkeyVerdicts$Dealer" 64 yX6_put ∈ tbg := tbg_in (List.mem_of_getElem? (l := tables_1_3) (i := 201) rfl) tq_3 rfl
theorem tw_738 : Cond.methodLink "DonkeyVerdicts$Dealer" 44 yX2_sendHand ∈ tbg := tbg_in (List.mem_of_getElem? (l := tables_1_3) (i := 202) rfl) tq_3 rfl
theorem tw_740 : Cond.instanceMethod yX2_sendHand ∈ tbg := tbg_in (List.mem_of_getElem? (l := tables_1_3) (i := 204) rfl) tq_3 rfl
theorem tw_741 : Cond.code yX2_sendHand cX2_sendHand 5 (some .boolean) ∈ tbg := tbg_in (List.mem_of_getElem? (l := tables_1_3) (i := 205) rfl) tq_3 rfl
theorem tw_742 : Cond.methodLink "DonkeyVerdicts$Dealer" 68 yX4_copy ∈ tbg := tbg_in (List.mem_of_getElem? (l := tables_1_3) (i := 206) rfl) tq_3 rfl
theorem tw_743 : Cond.methodLink "DonkeyVerdicts$Dealer" 58 yX6_at ∈ tbg := tbg_in (List.mem_of_getElem? (l := tables_1_3) (i := 207) rfl) tq_3 rfl
theorem tw_744 : Cond.methodLink "DonkeyVerdicts$Dealer" 72 yX4_canBeSent ∈ tbg := tbg_in (List.mem_of_getElem? (l := tables_1_3) (i := 208) rfl) tq_3 rfl
theorem tw_745 : Cond.methodLink "DonkeyVerdicts$Dealer" 76 yX4_dispatch ∈ tbg := tbg_in (List.mem_of_getElem? (l := tables_1_3) (i := 209) rfl) tq_3 rfl
theorem tw_746 : Cond.methodLink "DonkeyVerdicts$Dealer" 80 yX4_readOf ∈ tbg := tbg_in (List.mem_of_getElem? (l := tables_1_3) (i := 210) rfl) tq_3 rfl
theorem tw_747 : Cond.methodLink "DonkeyVerdicts$Dealer" 48 yX2_awaitHand ∈ tbg := tbg_in (List.mem_of_getElem? (l := tables_1_3) (i := 211) rfl) tq_3 rfl
theorem tw_749 : Cond.instanceMethod yX2_awaitHand ∈ tbg := tbg_in (List.mem_of_getElem? (l := tables_1_3) (i := 213) rfl) tq_3 rfl
theorem tw_750 : Cond.code yX2_awaitHand cX2_awaitHand 5 (some .int) ∈ tbg := tbg_in (List.mem_of_getElem? (l := tables_1_3) (i := 214) rfl) tq_3 rfl
theorem tw_751 : Cond.methodLink "DonkeyVerdicts$Dealer" 83 yX2_going ∈ tbg := tbg_in (List.mem_of_getElem? (l := tables_1_3) (i := 215) rfl) tq_3 rfl
theorem tw_753 : Cond.instanceMethod yX2_going ∈ tbg := tbg_in (List.mem_of_getElem? (l := tables_1_3) (i := 217) rfl) tq_3 rfl
theorem tw_754 : Cond.code yX2_going cX2_going 3 (some .int) ∈ tbg := tbg_in (List.mem_of_getElem? (l := tables_1_3) (i := 218) rfl) tq_3 rfl
theorem tw_755 : Cond.methodLink "DonkeyVerdicts$Dealer" 89 yX4_is ∈ tbg := tbg_in (List.mem_of_getElem? (l := tables_1_3) (i := 219) rfl) tq_3 rfl
theorem tw_756 : Cond.methodLink "DonkeyVerdicts$Dealer" 86 yX4_goOn ∈ tbg := tbg_in (List.mem_of_getElem? (l := tables_1_3) (i := 220) rfl) tq_3 rfl
theorem tw_757 : Cond.methodLink "DonkeyVerdicts$Dealer" 52 arraycopyName ∈ tbg := tbg_in (List.mem_of_getElem? (l := tables_1_3) (i := 221) rfl) tq_3 rfl
theorem tw_758 : Cond.methodLink "DonkeyVerdicts" 218 yX2_beastAt ∈ tbg := tbg_in (List.mem_of_getElem? (l := tables_1_3) (i := 222) rfl) tq_3 rfl
theorem tw_759 : Cond.instanceMethod yX2_beastAt ∈ tbg := tbg_in (List.mem_of_getElem? (l := tables_1_3) (i := 223) rfl) tq_3 rfl
theorem tw_760 : Cond.selects yX2_beastAt.cls yX2_beastAt yX2_beastAt ∈ tbg := tbg_in (List.mem_of_getElem? (l := tables_1_3) (i := 224) rfl) tq_3 rfl
theorem tw_761 : Cond.code yX2_beastAt cX2_beastAt 2 (some .int) ∈ tbg := tbg_in (List.mem_of_getElem? (l := tables_1_3) (i := 225) rfl) tq_3 rfl
theorem tw_763 : Cond.instanceMethod yX9_lure ∈ tbg := tbg_in (List.mem_of_getElem? (l := tables_1_3) (i := 227) rfl) tq_3 rfl
theorem tw_764 : Cond.selects yX9_lure.cls yX9_lure yX9_lure ∈ tbg := tbg_in (List.mem_of_getElem? (l := tables_1_3) (i := 228) rfl) tq_3 rfl
theorem tw_765 : Cond.code yX9_lure cX9_lure 2 (some .int) ∈ tbg := tbg_in (List.mem_of_getElem? (l := tables_1_3) (i := 229) rfl) tq_3 rfl
theorem tw_766 : Cond.methodLink "DonkeyVerdicts" 221 yX3_luringPlace ∈ tbg := tbg_in (List.mem_of_getElem? (l := tables_1_3) (i := 230) rfl) tq_3 rfl
theorem tw_767 : Cond.instanceMethod yX3_luringPlace ∈ tbg := tbg_in (List.mem_of_getElem? (l := tables_1_3) (i := 231) rfl) tq_3 rfl
theorem tw_768 : Cond.selects yX3_luringPlace.cls yX3_luringPlace yX3_luringPlace ∈ tbg := tbg_in (List.mem_of_getElem? (l := tables_1_3) (i := 232) rfl) tq_3 rfl
theorem tw_769 : Cond.code yX3_luringPlace cX3_luringPlace 6 (some .int) ∈ tbg := tbg_in (List.mem_of_getElem? (l := tables_1_3) (i := 233) rfl) tq_3 rfl
theorem tw_770 : Cond.methodLink "DonkeyVerdicts$Foresight" 63 yX1_places ∈ tbg := tbg_in (List.mem_of_getElem? (l := tables_1_3) (i := 234) rfl) tq_3 rfl
theorem tw_771 : Cond.methodLink "DonkeyVerdicts$Foresight" 66 yX4_carrotsIn ∈ tbg := tbg_in (List.mem_of_getElem? (l := tables_1_3) (i := 235) rfl) tq_3 rfl
theorem tw_772 : Cond.methodLink "DonkeyVerdicts$Foresight" 69 Lib.Math.min.name ∈ tbg := tbg_in (List.mem_of_getElem? (l := tables_1_3) (i := 236) rfl) tq_3 rfl
theorem tw_773 : Cond.methodLink "DonkeyVerdicts$Foresight" 74 yX4_putCarrots ∈ tbg := tbg_in (List.mem_of_getElem? (l := tables_1_3) (i := 237) rfl) tq_3 rfl
theorem tw_775 : Cond.instanceMethod yX9_next ∈ tbg := tbg_in (List.mem_of_getElem? (l := tables_1_3) (i := 239) rfl) tq_3 rfl
theorem tw_776 : Cond.selects yX9_next.cls yX9_next yX9_next ∈ tbg := tbg_in (List.mem_of_getElem? (l := tables_1_4) (i := 0) rfl) tq_4 rfl
theorem tw_777 : Cond.code yX9_next cX9_next 3 (some .int) ∈ tbg := tbg_in (List.mem_of_getElem? (l := tables_1_4) (i := 1) rfl) tq_4 rfl
theorem tw_778 : Cond.methodLink "DonkeyVerdicts" 224 yX4_isUnderWay ∈ tbg := tbg_in (List.mem_of_getElem? (l := tables_1_4) (i := 2) rfl) tq_4 rfl
theorem tw_779 : Cond.methodLink "DonkeyVerdicts" 227 yX4_placeAhead ∈ tbg := tbg_in (List.mem_of_getElem? (l := tables_1_4) (i := 3) rfl) tq_4 rfl
theorem tw_780 : Cond.instanceMethod yX4_placeAhead ∈ tbg := tbg_in (List.mem_of_getElem? (l := tables_1_4) (i := 4) rfl) tq_4 rfl
theorem tw_781 : Cond.selects yX4_placeAhead.cls yX4_placeAhead yX4_placeAhead ∈ tbg := tbg_in (List.mem_of_getElem? (l := tables_1_4) (i := 5) rfl) tq_4 rfl
theorem tw_782 : Cond.code yX4_placeAhead cX4_placeAhead 6 (some .int) ∈ tbg := tbg_in (List.mem_of_getElem? (l := tables_1_4) (i := 6) rfl) tq_4 rfl
theorem tw_784 : Cond.instanceMethod yX9_meet ∈ tbg := tbg_in (List.mem_of_getElem? (l := tables_1_4) (i := 8) rfl) tq_4 rfl
theorem tw_785 : Cond.selects yX9_meet.cls yX9_meet yX9_meet ∈ tbg := tbg_in (List.mem_of_getElem? (l := tables_1_4) (i := 9) rfl) tq_4 rfl
theorem tw_786 : Cond.code yX9_meet cX9_meet 3 (some .int) ∈ tbg := tbg_in (List.mem_of_getElem? (l := tables_1_4) (i := 10) rfl) tq_4 rfl
theorem tw_787 : Cond.methodLink "DonkeyVerdicts" 230 yX3_hoursTillMeeting ∈ tbg := tbg_in (List.mem_of_getElem? (l := tables_1_4) (i := 11) rfl) tq_4 rfl
theorem tw_788 : Cond.instanceMethod yX3_hoursTillMeeting ∈ tbg := tbg_in (List.mem_of_getElem? (l := tables_1_4) (i := 12) rfl) tq_4 rfl
theorem tw_789 : Cond.selects yX3_hoursTillMeeting.cls yX3_hoursTillMeeting yX3_hoursTillMeeting ∈ tbg := tbg_in (List.mem_of_getElem? (l := tables_1_4) (i := 13) rfl) tq_4 rfl
theorem tw_790 : Cond.code yX3_hoursTillMeeting cX3_hoursTillMeeting 6 (some .int) ∈ tbg := tbg_in (List.mem_of_getElem? (l := tables_1_4) (i := 14) rfl) tq_4 rfl
theorem tw_791 : Cond.methodLink "DonkeyVerdicts$Foresight" 78 yX4_get ∈ tbg := tbg_in (List.mem_of_getElem? (l := tables_1_4) (i := 15) rfl) tq_4 rfl
theorem tw_792 : Cond.methodLink "DonkeyVerdicts$Foresight" 81 yX4_isIn ∈ tbg := tbg_in (List.mem_of_getElem? (l := tables_1_4) (i := 16) rfl) tq_4 rfl
theorem tw_794 : Cond.instanceMethod yX9_told ∈ tbg := tbg_in (List.mem_of_getElem? (l := tables_1_4) (i := 18) rfl) tq_4 rfl
theorem tw_795 : Cond.selects yX9_told.cls yX9_told yX9_told ∈ tbg := tbg_in (List.mem_of_getElem? (l := tables_1_4) (i := 19) rfl) tq_4 rfl
theorem tw_796 : Cond.code yX9_told cX9_told 3 (some .int) ∈ tbg := tbg_in (List.mem_of_getElem? (l := tables_1_4) (i := 20) rfl) tq_4 rfl
theorem tw_797 : Cond.methodLink "DonkeyVerdicts" 233 yX4_verdictsOfSign ∈ tbg := tbg_in (List.mem_of_getElem? (l := tables_1_4) (i := 21) rfl) tq_4 rfl
theorem tw_798 : Cond.instanceMethod yX4_verdictsOfSign ∈ tbg := tbg_in (List.mem_of_getElem? (l := tables_1_4) (i := 22) rfl) tq_4 rfl
theorem tw_799 : Cond.selects yX4_verdictsOfSign.cls yX4_verdictsOfSign yX4_verdictsOfSign ∈ tbg := tbg_in (List.mem_of_getElem? (l := tables_1_4) (i := 23) rfl) tq_4 rfl
theorem tw_800 : Cond.code yX4_verdictsOfSign cX4_verdictsOfSign 5 (some .int) ∈ tbg := tbg_in (List.mem_of_getElem? (l := tables_1_4) (i := 24) rfl) tq_4 rfl
theorem tw_802 : Cond.instanceMethod yX9_who ∈ tbg := tbg_in (List.mem_of_getElem? (l := tables_1_4) (i := 26) rfl) tq_4 rfl
theorem tw_803 : Cond.selects yX9_who.cls yX9_who yX9_who ∈ tbg := tbg_in (List.mem_of_getElem? (l := tables_1_4) (i := 27) rfl) tq_4 rfl
theorem tw_804 : Cond.code yX9_who cX9_who 8 (some .int) ∈ tbg := tbg_in (List.mem_of_getElem? (l := tables_1_4) (i := 28) rfl) tq_4 rfl
theorem tw_805 : Cond.methodLink "DonkeyVerdicts" 236 yJ6_bitCount_0f7a4 ∈ tbg := tbg_in (List.mem_of_getElem? (l := tables_1_4) (i := 29) rfl) tq_4 rfl
theorem tw_806 : Cond.static yJ6_bitCount_0f7a4 ∈ tbg := tbg_in (List.mem_of_getElem? (l := tables_1_4) (i := 30) rfl) tq_4 rfl
theorem tw_807 : Cond.code yJ6_bitCount_0f7a4 cJ6_bitCount_0f7a4 1 (some .int) ∈ tbg := tbg_in (List.mem_of_getElem? (l := tables_1_4) (i := 31) rfl) tq_4 rfl
theorem tw_808 : Cond.constant "java/lang/Integer" 265 (1431655765 : Int32) ∈ tbg := tbg_in (List.mem_of_getElem? (l := tables_1_4) (i := 32) rfl) tq_4 rfl
theorem tw_809 : Cond.constant "java/lang/Integer" 266 (858993459 : Int32) ∈ tbg := tbg_in (List.mem_of_getElem? (l := tables_1_4) (i := 33) rfl) tq_4 rfl
theorem tw_810 : Cond.constant "java/lang/Integer" 267 (252645135 : Int32) ∈ tbg := tbg_in (List.mem_of_getElem? (l := tables_1_4) (i := 34) rfl) tq_4 rfl
theorem tw_812 : Cond.instanceMethod yX9_balks ∈ tbg := tbg_in (List.mem_of_getElem? (l := tables_1_4) (i := 36) rfl) tq_4 rfl
theorem tw_813 : Cond.selects yX9_balks.cls yX9_balks yX9_balks ∈ tbg := tbg_in (List.mem_of_getElem? (l := tables_1_4) (i := 37) rfl) tq_4 rfl
theorem tw_814 : Cond.code yX9_balks cX9_balks 8 (some .int) ∈ tbg := tbg_in (List.mem_of_getElem? (l := tables_1_4) (i := 38) rfl) tq_4 rfl
theorem tw_815 : Cond.methodLink "DonkeyVerdicts" 241 yX0_weightOf ∈ tbg := tbg_in (List.mem_of_getElem? (l := tables_1_4) (i := 39) rfl) tq_4 rfl
theorem tw_816 : Cond.instanceMethod yX0_weightOf ∈ tbg := tbg_in (List.mem_of_getElem? (l := tables_1_4) (i := 40) rfl) tq_4 rfl
theorem tw_817 : Cond.selects yX0_weightOf.cls yX0_weightOf yX0_weightOf ∈ tbg := tbg_in (List.mem_of_getElem? (l := tables_1_4) (i := 41) rfl) tq_4 rfl
theorem tw_818 : Cond.code yX0_weightOf cX0_weightOf 5 (some .int) ∈ tbg := tbg_in (List.mem_of_getElem? (l := tables_1_4) (i := 42) rfl) tq_4 rfl
theorem tw_819 : Cond.methodLink "DonkeyVerdicts$Balking" 20 yX4_copy ∈ tbg := tbg_in (List.mem_of_getElem? (l := tables_1_4) (i := 43) rfl) tq_4 rfl
theorem tw_820 : Cond.methodLink "DonkeyVerdicts$Balking" 24 yX0_weigh ∈ tbg := tbg_in (List.mem_of_getElem? (l := tables_1_4) (i := 44) rfl) tq_4 rfl
theorem tw_822 : Cond.instanceMethod yX0_weigh ∈ tbg := tbg_in (List.mem_of_getElem? (l := tables_1_4) (i := 46) rfl) tq_4 rfl
theorem tw_823 : Cond.code yX0_weigh cX0_weigh 6 (some .int) ∈ tbg := tbg_in (List.mem_of_getElem? (l := tables_1_4) (i := 47) rfl) tq_4 rfl
theorem tw_824 : Cond.methodLink "DonkeyVerdicts$Balking" 28 yX4_carries ∈ tbg := tbg_in (List.mem_of_getElem? (l := tables_1_4) (i := 48) rfl) tq_4 rfl
theorem tw_825 : Cond.methodLink "DonkeyVerdicts$Balking" 32 yX4_is ∈ tbg := tbg_in (List.mem_of_getElem? (l := tables_1_4) (i := 49) rfl) tq_4 rfl
theorem tw_826 : Cond.methodLink "DonkeyVerdicts$Balking" 36 yX0_power ∈ tbg := tbg_in (List.mem_of_getElem? (l := tables_1_4) (i := 50) rfl) tq_4 rfl
theorem tw_827 : Cond.static yX0_power ∈ tbg := tbg_in (List.mem_of_getElem? (l := tables_1_4) (i := 51) rfl) tq_4 rfl
theorem tw_828 : Cond.code yX0_power cX0_power 3 (some .int) ∈ tbg := tbg_in (List.mem_of_getElem? (l := tables_1_4) (i := 52) rfl) tq_4 rfl
theorem tw_829 : Cond.methodLink "DonkeyVerdicts$Balking" 40 yX4_goOn ∈ tbg := tbg_in (List.mem_of_getElem? (l := tables_1_4) (i := 53) rfl) tq_4 rfl
theorem tw_830 : Cond.methodLink "DonkeyVerdicts" 244 yX0_power ∈ tbg := tbg_in (List.mem_of_getElem? (l := tables_1_4) (i := 54) rfl) tq_4 rfl
theorem tw_831 : Cond.methodLink "DonkeyVerdicts" 247 yX0_commonDivisor ∈ tbg := tbg_in (List.mem_of_getElem? (l := tables_1_4) (i := 55) rfl) tq_4 rfl
theorem tw_832 : Cond.static yX0_commonDivisor ∈ tbg := tbg_in (List.mem_of_getElem? (l := tables_1_4) (i := 56) rfl) tq_4 rfl
theorem tw_833 : Cond.code yX0_commonDivisor cX0_commonDivisor 6 (some .int) ∈ tbg := tbg_in (List.mem_of_getElem? (l := tables_1_4) (i := 57) rfl) tq_4 rfl
theorem tw_835 : Cond.instanceMethod yX9_year ∈ tbg := tbg_in (List.mem_of_getElem? (l := tables_1_4) (i := 59) rfl) tq_4 rfl
theorem tw_836 : Cond.selects yX9_year.cls yX9_year yX9_year ∈ tbg := tbg_in (List.mem_of_getElem? (l := tables_1_4) (i := 60) rfl) tq_4 rfl
theorem tw_837 : Cond.code yX9_year cX9_year 4 (some .int) ∈ tbg := tbg_in (List.mem_of_getElem? (l := tables_1_4) (i := 61) rfl) tq_4 rfl
theorem tw_838 : Cond.methodLink "DonkeyVerdicts" 250 yX3_afterYear ∈ tbg := tbg_in (List.mem_of_getElem? (l := tables_1_4) (i := 62) rfl) tq_4 rfl
theorem tw_839 : Cond.instanceMethod yX3_afterYear ∈ tbg := tbg_in (List.mem_of_getElem? (l := tables_1_4) (i := 63) rfl) tq_4 rfl
theorem tw_840 : Cond.selects yX3_afterYear.cls yX3_afterYear yX3_afterYear ∈ tbg := tbg_in (List.mem_of_getElem? (l := tables_1_4) (i := 64) rfl) tq_4 rfl
theorem tw_841 : Cond.code yX3_afterYear cX3_afterYear 5 (some (.object "DonkeyVerdicts$Herd")) ∈ tbg := tbg_in (List.mem_of_getElem? (l := tables_1_4) (i := 65) rfl) tq_4 rfl
theorem tw_842 : Cond.methodLink "DonkeyVerdicts$Foresight" 84 yX3_drawOf ∈ tbg := tbg_in (List.mem_of_getElem? (l := tables_1_4) (i := 66) rfl) tq_4 rfl
theorem tw_843 : Cond.static yX3_drawOf ∈ tbg := tbg_in (List.mem_of_getElem? (l := tables_1_4) (i := 67) rfl) tq_4 rfl
theorem tw_844 : Cond.code yX3_drawOf cX3_drawOf 4 (some .int) ∈ tbg := tbg_in (List.mem_of_getElem? (l := tables_1_4) (i := 68) rfl) tq_4 rfl
theorem tw_845 : Cond.constantLong "DonkeyVerdicts$Foresight" 90 (7919 : Int64) ∈ tbg := tbg_in (List.mem_of_getElem? (l := tables_1_4) (i := 69) rfl) tq_4 rfl
theorem tw_846 : Cond.constantLong "DonkeyVerdicts$Foresight" 92 (6151 : Int64) ∈ tbg := tbg_in (List.mem_of_getElem? (l := tables_1_4) (i := 70) rfl) tq_4 rfl
theorem tw_847 : Cond.constantLong "DonkeyVerdicts$Foresight" 94 (65521 : Int64) ∈ tbg := tbg_in (List.mem_of_getElem? (l := tables_1_4) (i := 71) rfl) tq_4 rfl
theorem tw_848 : Cond.methodLink "DonkeyVerdicts$Foresight" 87 yX3_act ∈ tbg := tbg_in (List.mem_of_getElem? (l := tables_1_4) (i := 72) rfl) tq_4 rfl
theorem tw_850 : Cond.instanceMethod yX3_act ∈ tbg := tbg_in (List.mem_of_getElem? (l := tables_1_4) (i := 74) rfl) tq_4 rfl
theorem tw_851 : Cond.code yX3_act cX3_act 5 none ∈ tbg := tbg_in (List.mem_of_getElem? (l := tables_1_4) (i := 75) rfl) tq_4 rfl
theorem tw_852 : Cond.methodLink "DonkeyVerdicts$Foresight" 96 yX3_wrap ∈ tbg := tbg_in (List.mem_of_getElem? (l := tables_1_4) (i := 76) rfl) tq_4 rfl
theorem tw_853 : Cond.static yX3_wrap ∈ tbg := tbg_in (List.mem_of_getElem? (l := tables_1_4) (i := 77) rfl) tq_4 rfl
theorem tw_854 : Cond.code yX3_wrap cX3_wrap 2 (some .int) ∈ tbg := tbg_in (List.mem_of_getElem? (l := tables_1_4) (i := 78) rfl) tq_4 rfl
theorem tw_855 : Cond.methodLink "DonkeyVerdicts$Foresight" 99 yX1_doors ∈ tbg := tbg_in (List.mem_of_getElem? (l := tables_1_4) (i := 79) rfl) tq_4 rfl
theorem tw_856 : Cond.methodLink "DonkeyVerdicts$Foresight" 102 yX4_callHome ∈ tbg := tbg_in (List.mem_of_getElem? (l := tables_1_4) (i := 80) rfl) tq_4 rfl
theorem tw_857 : Cond.methodLink "DonkeyVerdicts" 254 yX4_amount ∈ tbg := tbg_in (List.mem_of_getElem? (l := tables_1_4) (i := 81) rfl) tq_4 rfl
theorem tw_858 : Cond.instanceMethod yX4_amount ∈ tbg := tbg_in (List.mem_of_getElem? (l := tables_1_4) (i := 82) rfl) tq_4 rfl
theorem tw_859 : Cond.selects yX4_amount.cls yX4_amount yX4_amount ∈ tbg := tbg_in (List.mem_of_getElem? (l := tables_1_4) (i := 83) rfl) tq_4 rfl
theorem tw_860 : Cond.code yX4_amount cX4_amount 4 (some .int) ∈ tbg := tbg_in (List.mem_of_getElem? (l := tables_1_4) (i := 84) rfl) tq_4 rfl
theorem tw_861 : Cond.methodLink "DonkeyVerdicts" 257 yX4_readInSum ∈ tbg := tbg_in (List.mem_of_getElem? (l := tables_1_4) (i := 85) rfl) tq_4 rfl
theorem tw_862 : Cond.instanceMethod yX4_readInSum ∈ tbg := tbg_in (List.mem_of_getElem? (l := tables_1_4) (i := 86) rfl) tq_4 rfl
theorem tw_863 : Cond.selects yX4_readInSum.cls yX4_readInSum yX4_readInSum ∈ tbg := tbg_in (List.mem_of_getElem? (l := tables_1_4) (i := 87) rfl) tq_4 rfl
theorem tw_864 : Cond.code yX4_readInSum cX4_readInSum 3 (some .int) ∈ tbg := tbg_in (List.mem_of_getElem? (l := tables_1_4) (i := 88) rfl) tq_4 rfl
theorem tw_865 : Cond.methodLink "DonkeyVerdicts$Herd" 132 yX4_readOf ∈ tbg := tbg_in (List.mem_of_getElem? (l := tables_1_4) (i := 89) rfl) tq_4 rfl
theorem tw_867 : Cond.instanceMethod yX9_keep ∈ tbg := tbg_in (List.mem_of_getElem? (l := tables_1_4) (i := 91) rfl) tq_4 rfl
theorem tw_868 : Cond.selects yX9_keep.cls yX9_keep yX9_keep ∈ tbg := tbg_in (List.mem_of_getElem? (l := tables_1_4) (i := 92) rfl) tq_4 rfl
theorem tw_869 : Cond.code yX9_keep cX9_keep 1 (some .int) ∈ tbg := tbg_in (List.mem_of_getElem? (l := tables_1_4) (i := 93) rfl) tq_4 rfl
theorem tw_871 : Cond.instanceMethod yX9_back ∈ tbg := tbg_in (List.mem_of_getElem? (l := tables_1_4) (i := 95) rfl) tq_4 rfl
theorem tw_872 : Cond.selects yX9_back.cls yX9_back yX9_back ∈ tbg := tbg_in (List.mem_of_getElem? (l := tables_1_4) (i := 96) rfl) tq_4 rfl
theorem tw_873 : Cond.code yX9_back cX9_back 1 (some .int) ∈ tbg := tbg_in (List.mem_of_getElem? (l := tables_1_4) (i := 97) rfl) tq_4 rfl
theorem tw_875 : Cond.instanceMethod yX9_count ∈ tbg := tbg_in (List.mem_of_getElem? (l := tables_1_4) (i := 99) rfl) tq_4 rfl
theorem tw_876 : Cond.selects yX9_count.cls yX9_count yX9_count ∈ tbg := tbg_in (List.mem_of_getElem? (l := tables_1_4) (i := 100) rfl) tq_4 rfl
theorem tw_877 : Cond.code yX9_count cX9_count 2 (some .int) ∈ tbg := tbg_in (List.mem_of_getElem? (l := tables_1_4) (i := 101) rfl) tq_4 rfl
theorem tw_878 : Cond.methodLink "DonkeyVerdicts" 261 yX1_places ∈ tbg := tbg_in (List.mem_of_getElem? (l := tables_1_4) (i := 102) rfl) tq_4 rfl
theorem tw_879 : Cond.methodLink "DonkeyVerdicts" 264 yX1_ways ∈ tbg := tbg_in (List.mem_of_getElem? (l := tables_1_4) (i := 103) rfl) tq_4 rfl
theorem tw_880 : Cond.instanceMethod yX1_ways ∈ tbg := tbg_in (List.mem_of_getElem? (l := tables_1_4) (i := 104) rfl) tq_4 rfl
theorem tw_881 : Cond.selects yX1_ways.cls yX1_ways yX1_ways ∈ tbg := tbg_in (List.mem_of_getElem? (l := tables_1_4) (i := 105) rfl) tq_4 rfl
theorem tw_882 : Cond.code yX1_ways cX1_ways 4 (some .int) ∈ tbg := tbg_in (List.mem_of_getElem? (l := tables_1_4) (i := 106) rfl) tq_4 rfl
theorem tw_883 : Cond.methodLink "DonkeyVerdicts" 267 yX4_carrotsInAll ∈ tbg := tbg_in (List.mem_of_getElem? (l := tables_1_4) (i := 107) rfl) tq_4 rfl
theorem tw_884 : Cond.instanceMethod yX4_carrotsInAll ∈ tbg := tbg_in (List.mem_of_getElem? (l := tables_1_4) (i := 108) rfl) tq_4 rfl
theorem tw_885 : Cond.selects yX4_carrotsInAll.cls yX4_carrotsInAll yX4_carrotsInAll ∈ tbg := tbg_in (List.mem_of_getElem? (l := tables_1_4) (i := 109) rfl) tq_4 rfl
theorem tw_886 : Cond.code yX4_carrotsInAll cX4_carrotsInAll 3 (some .int) ∈ tbg := tbg_in (List.mem_of_getElem? (l := tables_1_4) (i := 110) rfl) tq_4 rfl
theorem tw_893 : Cond.methodLink "DonkeyVerdictsModel" 59 yX10_clears ∈ tbg := tbg_in (List.mem_of_getElem? (l := tables_1_4) (i := 117) rfl) tq_4 rfl
theorem tw_895 : Cond.instanceMethod yX10_clears ∈ tbg := tbg_in (List.mem_of_getElem? (l := tables_1_4) (i := 119) rfl) tq_4 rfl
theorem tw_896 : Cond.code yX10_clears cX10_clears 2 none ∈ tbg := tbg_in (List.mem_of_getElem? (l := tables_1_4) (i := 120) rfl) tq_4 rfl
theorem tw_897 : Cond.methodLink "DonkeyVerdictsModel" 66 yX10_leads ∈ tbg := tbg_in (List.mem_of_getElem? (l := tables_1_4) (i := 121) rfl) tq_4 rfl
theorem tw_899 : Cond.instanceMethod yX10_leads ∈ tbg := tbg_in (List.mem_of_getElem? (l := tables_1_4) (i := 123) rfl) tq_4 rfl
theorem tw_900 : Cond.code yX10_leads cX10_leads 4 none ∈ tbg := tbg_in (List.mem_of_getElem? (l := tables_1_4) (i := 124) rfl) tq_4 rfl
theorem tw_901 : Cond.methodLink "DonkeyVerdictsModel" 70 yX10_opens ∈ tbg := tbg_in (List.mem_of_getElem? (l := tables_1_4) (i := 125) rfl) tq_4 rfl
theorem tw_903 : Cond.instanceMethod yX10_opens ∈ tbg := tbg_in (List.mem_of_getElem? (l := tables_1_4) (i := 127) rfl) tq_4 rfl
theorem tw_904 : Cond.code yX10_opens cX10_opens 3 none ∈ tbg := tbg_in (List.mem_of_getElem? (l := tables_1_4) (i := 128) rfl) tq_4 rfl
theorem tw_905 : Cond.methodLink "DonkeyVerdictsModel" 74 yX10_comes ∈ tbg := tbg_in (List.mem_of_getElem? (l := tables_1_4) (i := 129) rfl) tq_4 rfl
theorem tw_907 : Cond.instanceMethod yX10_comes ∈ tbg := tbg_in (List.mem_of_getElem? (l := tables_1_4) (i := 131) rfl) tq_4 rfl
theorem tw_908 : Cond.code yX10_comes cX10_comes 4 none ∈ tbg := tbg_in (List.mem_of_getElem? (l := tables_1_4) (i := 132) rfl) tq_4 rfl
theorem tw_909 : Cond.methodLink "DonkeyVerdictsModel" 80 yX10_settles ∈ tbg := tbg_in (List.mem_of_getElem? (l := tables_1_4) (i := 133) rfl) tq_4 rfl
theorem tw_911 : Cond.instanceMethod yX10_settles ∈ tbg := tbg_in (List.mem_of_getElem? (l := tables_1_4) (i := 135) rfl) tq_4 rfl
theorem tw_912 : Cond.code yX10_settles cX10_settles 3 none ∈ tbg := tbg_in (List.mem_of_getElem? (l := tables_1_4) (i := 136) rfl) tq_4 rfl
theorem tw_913 : Cond.methodLink "DonkeyVerdictsModel" 101 yX10_smaller ∈ tbg := tbg_in (List.mem_of_getElem? (l := tables_1_4) (i := 137) rfl) tq_4 rfl
theorem tw_914 : Cond.static yX10_smaller ∈ tbg := tbg_in (List.mem_of_getElem? (l := tables_1_4) (i := 138) rfl) tq_4 rfl
theorem tw_915 : Cond.code yX10_smaller cX10_smaller 2 (some .int) ∈ tbg := tbg_in (List.mem_of_getElem? (l := tables_1_4) (i := 139) rfl) tq_4 rfl
theorem tw_916 : Cond.methodLink "DonkeyVerdictsModel" 105 yX10_copies ∈ tbg := tbg_in (List.mem_of_getElem? (l := tables_1_4) (i := 140) rfl) tq_4 rfl
theorem tw_918 : Cond.instanceMethod yX10_copies ∈ tbg := tbg_in (List.mem_of_getElem? (l := tables_1_4) (i := 142) rfl) tq_4 rfl
theorem tw_919 : Cond.code yX10_copies cX10_copies 4 none ∈ tbg := tbg_in (List.mem_of_getElem? (l := tables_1_4) (i := 143) rfl) tq_4 rfl
theorem tw_920 : Cond.fieldLink "DonkeyVerdictsModel" 89 "DonkeyVerdictsModel" "places" "I" ∈ tbg := tbg_in (List.mem_of_getElem? (l := tables_1_4) (i := 144) rfl) tq_4 rfl
theorem tw_921 : Cond.fieldLink "DonkeyVerdictsModel" 7 "DonkeyVerdictsModel" "ways" "[I" ∈ tbg := tbg_in (List.mem_of_getElem? (l := tables_1_4) (i := 145) rfl) tq_4 rfl
theorem tw_922 : Cond.fieldLink "DonkeyVerdictsModel" 13 "DonkeyVerdictsModel" "far" "[I" ∈ tbg := tbg_in (List.mem_of_getElem? (l := tables_1_4) (i := 146) rfl) tq_4 rfl
theorem tw_923 : Cond.fieldLink "DonkeyVerdictsModel" 92 "DonkeyVerdictsModel" "mares" "I" ∈ tbg := tbg_in (List.mem_of_getElem? (l := tables_1_4) (i := 147) rfl) tq_4 rfl
theorem tw_924 : Cond.fieldLink "DonkeyVerdictsModel" 95 "DonkeyVerdictsModel" "doors" "I" ∈ tbg := tbg_in (List.mem_of_getElem? (l := tables_1_4) (i := 148) rfl) tq_4 rfl
theorem tw_925 : Cond.fieldLink "DonkeyVerdictsModel" 16 "DonkeyVerdictsModel" "doorKind" "[I" ∈ tbg := tbg_in (List.mem_of_getElem? (l := tables_1_4) (i := 149) rfl) tq_4 rfl
theorem tw_926 : Cond.fieldLink "DonkeyVerdictsModel" 19 "DonkeyVerdictsModel" "doorPlace" "[I" ∈ tbg := tbg_in (List.mem_of_getElem? (l := tables_1_4) (i := 150) rfl) tq_4 rfl
theorem tw_927 : Cond.fieldLink "DonkeyVerdictsModel" 98 "DonkeyVerdictsModel" "beasts" "I" ∈ tbg := tbg_in (List.mem_of_getElem? (l := tables_1_4) (i := 151) rfl) tq_4 rfl
theorem tw_928 : Cond.fieldLink "DonkeyVerdictsModel" 22 "DonkeyVerdictsModel" "sort" "[I" ∈ tbg := tbg_in (List.mem_of_getElem? (l := tables_1_4) (i := 152) rfl) tq_4 rfl
theorem tw_929 : Cond.fieldLink "DonkeyVerdictsModel" 25 "DonkeyVerdictsModel" "pace" "[I" ∈ tbg := tbg_in (List.mem_of_getElem? (l := tables_1_4) (i := 153) rfl) tq_4 rfl
theorem tw_930 : Cond.fieldLink "DonkeyVerdictsModel" 62 "DonkeyVerdictsModel" "newPlaces" "I" ∈ tbg := tbg_in (List.mem_of_getElem? (l := tables_1_4) (i := 154) rfl) tq_4 rfl
theorem tw_931 : Cond.fieldLink "DonkeyVerdictsModel" 28 "DonkeyVerdictsModel" "newWays" "[I" ∈ tbg := tbg_in (List.mem_of_getElem? (l := tables_1_4) (i := 155) rfl) tq_4 rfl
theorem tw_932 : Cond.fieldLink "DonkeyVerdictsModel" 77 "DonkeyVerdictsModel" "newMares" "I" ∈ tbg := tbg_in (List.mem_of_getElem? (l := tables_1_4) (i := 156) rfl) tq_4 rfl
theorem tw_933 : Cond.fieldLink "DonkeyVerdictsModel" 83 "DonkeyVerdictsModel" "newDoors" "I" ∈ tbg := tbg_in (List.mem_of_getElem? (l := tables_1_4) (i := 157) rfl) tq_4 rfl
theorem tw_934 : Cond.fieldLink "DonkeyVerdictsModel" 31 "DonkeyVerdictsModel" "newDoorKind" "[I" ∈ tbg := tbg_in (List.mem_of_getElem? (l := tables_1_4) (i := 158) rfl) tq_4 rfl
theorem tw_935 : Cond.fieldLink "DonkeyVerdictsModel" 34 "DonkeyVerdictsModel" "newDoorPlace" "[I" ∈ tbg := tbg_in (List.mem_of_getElem? (l := tables_1_4) (i := 159) rfl) tq_4 rfl
theorem tw_936 : Cond.fieldLink "DonkeyVerdictsModel" 86 "DonkeyVerdictsModel" "newBeasts" "I" ∈ tbg := tbg_in (List.mem_of_getElem? (l := tables_1_4) (i := 160) rfl) tq_4 rfl
theorem tw_937 : Cond.fieldLink "DonkeyVerdictsModel" 37 "DonkeyVerdictsModel" "newSort" "[I" ∈ tbg := tbg_in (List.mem_of_getElem? (l := tables_1_4) (i := 161) rfl) tq_4 rfl
theorem tw_938 : Cond.fieldLink "DonkeyVerdictsModel" 40 "DonkeyVerdictsModel" "newPace" "[I" ∈ tbg := tbg_in (List.mem_of_getElem? (l := tables_1_4) (i := 162) rfl) tq_4 rfl
theorem tw_939 : Cond.fieldLink "DonkeyVerdictsModel" 43 "DonkeyVerdictsModel" "slot" "[I" ∈ tbg := tbg_in (List.mem_of_getElem? (l := tables_1_4) (i := 163) rfl) tq_4 rfl
theorem tw_940 : Cond.fieldLink "DonkeyVerdictsModel" 160 "DonkeyVerdictsModel" "acts" "I" ∈ tbg := tbg_in (List.mem_of_getElem? (l := tables_1_4) (i := 164) rfl) tq_4 rfl
theorem tw_941 : Cond.fieldLink "DonkeyVerdictsModel" 163 "DonkeyVerdictsModel" "keeps" "I" ∈ tbg := tbg_in (List.mem_of_getElem? (l := tables_1_4) (i := 165) rfl) tq_4 rfl
theorem tw_942 : Cond.fieldLink "DonkeyVerdictsModel" 116 "DonkeyVerdictsModel" "length" "I" ∈ tbg := tbg_in (List.mem_of_getElem? (l := tables_1_4) (i := 166) rfl) tq_4 rfl
theorem tw_943 : Cond.fieldLink "DonkeyVerdictsModel" 46 "DonkeyVerdictsModel" "text" "[B" ∈ tbg := tbg_in (List.mem_of_getElem? (l := tables_1_4) (i := 167) rfl) tq_4 rfl
theorem tw_944 : Cond.fieldLink "DonkeyVerdictsModel" 119 "DonkeyVerdictsModel" "at" "I" ∈ tbg := tbg_in (List.mem_of_getElem? (l := tables_1_4) (i := 168) rfl) tq_4 rfl
theorem tw_945 : Cond.fieldLink "DonkeyVerdictsModel" 149 "DonkeyVerdictsModel" "begin" "I" ∈ tbg := tbg_in (List.mem_of_getElem? (l := tables_1_4) (i := 169) rfl) tq_4 rfl
theorem tw_946 : Cond.fieldLink "DonkeyVerdictsModel" 130 "DonkeyVerdictsModel" "isWrong" "Z" ∈ tbg := tbg_in (List.mem_of_getElem? (l := tables_1_4) (i := 170) rfl) tq_4 rfl
theorem tw_947 : Cond.fieldLink "DonkeyVerdictsModel" 50 "DonkeyVerdictsModel" "stoodAt" "[I" ∈ tbg := tbg_in (List.mem_of_getElem? (l := tables_1_4) (i := 171) rfl) tq_4 rfl
theorem tw_948 : Cond.fieldLink "DonkeyVerdictsModel" 53 "DonkeyVerdictsModel" "dealt" "[I" ∈ tbg := tbg_in (List.mem_of_getElem? (l := tables_1_4) (i := 172) rfl) tq_4 rfl
theorem tw_949 : Cond.fieldLink "DonkeyVerdictsModel" 56 "DonkeyVerdictsModel" "best" "[I" ∈ tbg := tbg_in (List.mem_of_getElem? (l := tables_1_4) (i := 173) rfl) tq_4 rfl
theorem tw_1012 : Cond.instanceMethod yX10_write ∈ tbg := tbg_in (List.mem_of_getElem? (l := tables_1_4) (i := 236) rfl) tq_4 rfl
theorem tw_1013 : Cond.selects yX10_write.cls yX10_write yX10_write ∈ tbg := tbg_in (List.mem_of_getElem? (l := tables_1_4) (i := 237) rfl) tq_4 rfl
theorem tw_1014 : Cond.code yX10_write cX10_write 2 (some .int) ∈ tbg := tbg_in (List.mem_of_getElem? (l := tables_1_4) (i := 238) rfl) tq_4 rfl
theorem tw_1015 : Cond.constantLong "DonkeyVerdictsModel" 112 (32 : Int64) ∈ tbg := tbg_in (List.mem_of_getElem? (l := tables_1_4) (i := 239) rfl) tq_4 rfl
theorem tw_1016 : Cond.constantLong "DonkeyVerdictsModel" 114 (126 : Int64) ∈ tbg := tbg_in (List.mem_of_getElem? (l := tables_1_5) (i := 0) rfl) tq_5 rfl
theorem tw_1017 : Cond.methodLink "DonkeyVerdictsModel" 108 yX10_in ∈ tbg := tbg_in (List.mem_of_getElem? (l := tables_1_5) (i := 1) rfl) tq_5 rfl
theorem tw_1018 : Cond.static yX10_in ∈ tbg := tbg_in (List.mem_of_getElem? (l := tables_1_5) (i := 2) rfl) tq_5 rfl
theorem tw_1019 : Cond.code yX10_in cX10_in 6 (some .boolean) ∈ tbg := tbg_in (List.mem_of_getElem? (l := tables_1_5) (i := 3) rfl) tq_5 rfl
theorem tw_1021 : Cond.instanceMethod yX10_wipe ∈ tbg := tbg_in (List.mem_of_getElem? (l := tables_1_5) (i := 5) rfl) tq_5 rfl
theorem tw_1022 : Cond.selects yX10_wipe.cls yX10_wipe yX10_wipe ∈ tbg := tbg_in (List.mem_of_getElem? (l := tables_1_5) (i := 6) rfl) tq_5 rfl
theorem tw_1023 : Cond.code yX10_wipe cX10_wipe 2 (some .int) ∈ tbg := tbg_in (List.mem_of_getElem? (l := tables_1_5) (i := 7) rfl) tq_5 rfl
theorem tw_1025 : Cond.instanceMethod yX10_fault ∈ tbg := tbg_in (List.mem_of_getElem? (l := tables_1_5) (i := 9) rfl) tq_5 rfl
theorem tw_1026 : Cond.selects yX10_fault.cls yX10_fault yX10_fault ∈ tbg := tbg_in (List.mem_of_getElem? (l := tables_1_5) (i := 10) rfl) tq_5 rfl
theorem tw_1027 : Cond.code yX10_fault cX10_fault 1 (some .int) ∈ tbg := tbg_in (List.mem_of_getElem? (l := tables_1_5) (i := 11) rfl) tq_5 rfl
theorem tw_1028 : Cond.methodLink "DonkeyVerdictsModel" 156 yX10_reads ∈ tbg := tbg_in (List.mem_of_getElem? (l := tables_1_5) (i := 12) rfl) tq_5 rfl
theorem tw_1030 : Cond.instanceMethod yX10_reads ∈ tbg := tbg_in (List.mem_of_getElem? (l := tables_1_5) (i := 14) rfl) tq_5 rfl
theorem tw_1031 : Cond.code yX10_reads cX10_reads 3 (some .boolean) ∈ tbg := tbg_in (List.mem_of_getElem? (l := tables_1_5) (i := 15) rfl) tq_5 rfl
theorem tw_1032 : Cond.methodLink "DonkeyVerdictsModel" 122 yX10_byteNow ∈ tbg := tbg_in (List.mem_of_getElem? (l := tables_1_5) (i := 16) rfl) tq_5 rfl
theorem tw_1034 : Cond.instanceMethod yX10_byteNow ∈ tbg := tbg_in (List.mem_of_getElem? (l := tables_1_5) (i := 18) rfl) tq_5 rfl
theorem tw_1035 : Cond.code yX10_byteNow cX10_byteNow 1 (some .int) ∈ tbg := tbg_in (List.mem_of_getElem? (l := tables_1_5) (i := 19) rfl) tq_5 rfl
theorem tw_1036 : Cond.methodLink "DonkeyVerdictsModel" 152 yX10_item ∈ tbg := tbg_in (List.mem_of_getElem? (l := tables_1_5) (i := 20) rfl) tq_5 rfl
theorem tw_1038 : Cond.instanceMethod yX10_item ∈ tbg := tbg_in (List.mem_of_getElem? (l := tables_1_5) (i := 22) rfl) tq_5 rfl
theorem tw_1039 : Cond.code yX10_item cX10_item 5 (some .boolean) ∈ tbg := tbg_in (List.mem_of_getElem? (l := tables_1_5) (i := 23) rfl) tq_5 rfl
theorem tw_1040 : Cond.methodLink "DonkeyVerdictsModel" 134 yX10_number ∈ tbg := tbg_in (List.mem_of_getElem? (l := tables_1_5) (i := 24) rfl) tq_5 rfl
theorem tw_1042 : Cond.instanceMethod yX10_number ∈ tbg := tbg_in (List.mem_of_getElem? (l := tables_1_5) (i := 26) rfl) tq_5 rfl
theorem tw_1043 : Cond.code yX10_number cX10_number 5 (some .int) ∈ tbg := tbg_in (List.mem_of_getElem? (l := tables_1_5) (i := 27) rfl) tq_5 rfl
theorem tw_1044 : Cond.constantLong "DonkeyVerdictsModel" 126 (48 : Int64) ∈ tbg := tbg_in (List.mem_of_getElem? (l := tables_1_5) (i := 28) rfl) tq_5 rfl
theorem tw_1045 : Cond.constantLong "DonkeyVerdictsModel" 128 (57 : Int64) ∈ tbg := tbg_in (List.mem_of_getElem? (l := tables_1_5) (i := 29) rfl) tq_5 rfl
theorem tw_1046 : Cond.methodLink "DonkeyVerdictsModel" 140 yX10_wayItem ∈ tbg := tbg_in (List.mem_of_getElem? (l := tables_1_5) (i := 30) rfl) tq_5 rfl
theorem tw_1048 : Cond.instanceMethod yX10_wayItem ∈ tbg := tbg_in (List.mem_of_getElem? (l := tables_1_5) (i := 32) rfl) tq_5 rfl
theorem tw_1049 : Cond.code yX10_wayItem cX10_wayItem 4 none ∈ tbg := tbg_in (List.mem_of_getElem? (l := tables_1_5) (i := 33) rfl) tq_5 rfl
theorem tw_1050 : Cond.methodLink "DonkeyVerdictsModel" 137 yX10_more ∈ tbg := tbg_in (List.mem_of_getElem? (l := tables_1_5) (i := 34) rfl) tq_5 rfl
theorem tw_1052 : Cond.instanceMethod yX10_more ∈ tbg := tbg_in (List.mem_of_getElem? (l := tables_1_5) (i := 36) rfl) tq_5 rfl
theorem tw_1053 : Cond.code yX10_more cX10_more 3 (some .int) ∈ tbg := tbg_in (List.mem_of_getElem? (l := tables_1_5) (i := 37) rfl) tq_5 rfl
theorem tw_1054 : Cond.methodLink "DonkeyVerdictsModel" 143 yX10_doorItem ∈ tbg := tbg_in (List.mem_of_getElem? (l := tables_1_5) (i := 38) rfl) tq_5 rfl
theorem tw_1056 : Cond.instanceMethod yX10_doorItem ∈ tbg := tbg_in (List.mem_of_getElem? (l := tables_1_5) (i := 40) rfl) tq_5 rfl
theorem tw_1057 : Cond.code yX10_doorItem cX10_doorItem 3 none ∈ tbg := tbg_in (List.mem_of_getElem? (l := tables_1_5) (i := 41) rfl) tq_5 rfl
theorem tw_1058 : Cond.methodLink "DonkeyVerdictsModel" 146 yX10_beastItem ∈ tbg := tbg_in (List.mem_of_getElem? (l := tables_1_5) (i := 42) rfl) tq_5 rfl
theorem tw_1060 : Cond.instanceMethod yX10_beastItem ∈ tbg := tbg_in (List.mem_of_getElem? (l := tables_1_5) (i := 44) rfl) tq_5 rfl
theorem tw_1061 : Cond.code yX10_beastItem cX10_beastItem 4 none ∈ tbg := tbg_in (List.mem_of_getElem? (l := tables_1_5) (i := 45) rfl) tq_5 rfl
theorem tw_1063 : Cond.instanceMethod yX10_lay ∈ tbg := tbg_in (List.mem_of_getElem? (l := tables_1_5) (i := 47) rfl) tq_5 rfl
theorem tw_1064 : Cond.selects yX10_lay.cls yX10_lay yX10_lay ∈ tbg := tbg_in (List.mem_of_getElem? (l := tables_1_5) (i := 48) rfl) tq_5 rfl
theorem tw_1065 : Cond.code yX10_lay cX10_lay 1 (some .int) ∈ tbg := tbg_in (List.mem_of_getElem? (l := tables_1_5) (i := 49) rfl) tq_5 rfl
theorem tw_1067 : Cond.instanceMethod yX10_place ∈ tbg := tbg_in (List.mem_of_getElem? (l := tables_1_5) (i := 51) rfl) tq_5 rfl
theorem tw_1068 : Cond.selects yX10_place.cls yX10_place yX10_place ∈ tbg := tbg_in (List.mem_of_getElem? (l := tables_1_5) (i := 52) rfl) tq_5 rfl
theorem tw_1069 : Cond.code yX10_place cX10_place 3 (some .int) ∈ tbg := tbg_in (List.mem_of_getElem? (l := tables_1_5) (i := 53) rfl) tq_5 rfl
theorem tw_1070 : Cond.methodLink "DonkeyVerdictsModel" 166 yX10_isPlace ∈ tbg := tbg_in (List.mem_of_getElem? (l := tables_1_5) (i := 54) rfl) tq_5 rfl
theorem tw_1072 : Cond.instanceMethod yX10_isPlace ∈ tbg := tbg_in (List.mem_of_getElem? (l := tables_1_5) (i := 56) rfl) tq_5 rfl
theorem tw_1073 : Cond.code yX10_isPlace cX10_isPlace 2 (some .boolean) ∈ tbg := tbg_in (List.mem_of_getElem? (l := tables_1_5) (i := 57) rfl) tq_5 rfl
theorem tw_1074 : Cond.constantLong "DonkeyVerdictsModel" 170 (2 : Int64) ∈ tbg := tbg_in (List.mem_of_getElem? (l := tables_1_5) (i := 58) rfl) tq_5 rfl
theorem tw_1075 : Cond.methodLink "DonkeyVerdictsModel" 172 yX10_standing ∈ tbg := tbg_in (List.mem_of_getElem? (l := tables_1_5) (i := 59) rfl) tq_5 rfl
theorem tw_1077 : Cond.instanceMethod yX10_standing ∈ tbg := tbg_in (List.mem_of_getElem? (l := tables_1_5) (i := 61) rfl) tq_5 rfl
theorem tw_1078 : Cond.code yX10_standing cX10_standing 5 (some .int) ∈ tbg := tbg_in (List.mem_of_getElem? (l := tables_1_5) (i := 62) rfl) tq_5 rfl
theorem tw_1080 : Cond.instanceMethod yX10_way ∈ tbg := tbg_in (List.mem_of_getElem? (l := tables_1_5) (i := 64) rfl) tq_5 rfl
theorem tw_1081 : Cond.selects yX10_way.cls yX10_way yX10_way ∈ tbg := tbg_in (List.mem_of_getElem? (l := tables_1_5) (i := 65) rfl) tq_5 rfl
theorem tw_1082 : Cond.code yX10_way cX10_way 3 (some .int) ∈ tbg := tbg_in (List.mem_of_getElem? (l := tables_1_5) (i := 66) rfl) tq_5 rfl
theorem tw_1084 : Cond.instanceMethod yX10_door ∈ tbg := tbg_in (List.mem_of_getElem? (l := tables_1_5) (i := 68) rfl) tq_5 rfl
theorem tw_1085 : Cond.selects yX10_door.cls yX10_door yX10_door ∈ tbg := tbg_in (List.mem_of_getElem? (l := tables_1_5) (i := 69) rfl) tq_5 rfl
theorem tw_1086 : Cond.code yX10_door cX10_door 3 (some .int) ∈ tbg := tbg_in (List.mem_of_getElem? (l := tables_1_5) (i := 70) rfl) tq_5 rfl
theorem tw_1087 : Cond.methodLink "DonkeyVerdictsModel" 175 yX10_isDoor ∈ tbg := tbg_in (List.mem_of_getElem? (l := tables_1_5) (i := 71) rfl) tq_5 rfl
theorem tw_1089 : Cond.instanceMethod yX10_isDoor ∈ tbg := tbg_in (List.mem_of_getElem? (l := tables_1_5) (i := 73) rfl) tq_5 rfl
theorem tw_1090 : Cond.code yX10_isDoor cX10_isDoor 2 (some .boolean) ∈ tbg := tbg_in (List.mem_of_getElem? (l := tables_1_5) (i := 74) rfl) tq_5 rfl
theorem tw_1092 : Cond.instanceMethod yX10_beast ∈ tbg := tbg_in (List.mem_of_getElem? (l := tables_1_5) (i := 76) rfl) tq_5 rfl
theorem tw_1093 : Cond.selects yX10_beast.cls yX10_beast yX10_beast ∈ tbg := tbg_in (List.mem_of_getElem? (l := tables_1_5) (i := 77) rfl) tq_5 rfl
theorem tw_1094 : Cond.code yX10_beast cX10_beast 4 (some .int) ∈ tbg := tbg_in (List.mem_of_getElem? (l := tables_1_5) (i := 78) rfl) tq_5 rfl
theorem tw_1095 : Cond.methodLink "DonkeyVerdictsModel" 178 yX10_isBeast ∈ tbg := tbg_in (List.mem_of_getElem? (l := tables_1_5) (i := 79) rfl) tq_5 rfl
theorem tw_1097 : Cond.instanceMethod yX10_isBeast ∈ tbg := tbg_in (List.mem_of_getElem? (l := tables_1_5) (i := 81) rfl) tq_5 rfl
theorem tw_1098 : Cond.code yX10_isBeast cX10_isBeast 2 (some .boolean) ∈ tbg := tbg_in (List.mem_of_getElem? (l := tables_1_5) (i := 82) rfl) tq_5 rfl
theorem tw_1099 : Cond.constantLong "DonkeyVerdictsModel" 181 (7 : Int64) ∈ tbg := tbg_in (List.mem_of_getElem? (l := tables_1_5) (i := 83) rfl) tq_5 rfl
theorem tw_1101 : Cond.instanceMethod yX10_sign ∈ tbg := tbg_in (List.mem_of_getElem? (l := tables_1_5) (i := 85) rfl) tq_5 rfl
theorem tw_1102 : Cond.selects yX10_sign.cls yX10_sign yX10_sign ∈ tbg := tbg_in (List.mem_of_getElem? (l := tables_1_5) (i := 86) rfl) tq_5 rfl
theorem tw_1103 : Cond.code yX10_sign cX10_sign 3 (some .int) ∈ tbg := tbg_in (List.mem_of_getElem? (l := tables_1_5) (i := 87) rfl) tq_5 rfl
theorem tw_1104 : Cond.methodLink "DonkeyVerdictsModel" 190 yX10_isOut ∈ tbg := tbg_in (List.mem_of_getElem? (l := tables_1_5) (i := 88) rfl) tq_5 rfl
theorem tw_1106 : Cond.instanceMethod yX10_isOut ∈ tbg := tbg_in (List.mem_of_getElem? (l := tables_1_5) (i := 90) rfl) tq_5 rfl
theorem tw_1107 : Cond.code yX10_isOut cX10_isOut 2 (some .boolean) ∈ tbg := tbg_in (List.mem_of_getElem? (l := tables_1_5) (i := 91) rfl) tq_5 rfl
theorem tw_1108 : Cond.methodLink "DonkeyVerdictsModel" 186 yX10_signBy ∈ tbg := tbg_in (List.mem_of_getElem? (l := tables_1_5) (i := 92) rfl) tq_5 rfl
theorem tw_1110 : Cond.instanceMethod yX10_signBy ∈ tbg := tbg_in (List.mem_of_getElem? (l := tables_1_5) (i := 94) rfl) tq_5 rfl
theorem tw_1111 : Cond.code yX10_signBy cX10_signBy 6 (some .int) ∈ tbg := tbg_in (List.mem_of_getElem? (l := tables_1_5) (i := 95) rfl) tq_5 rfl
theorem tw_1112 : Cond.methodLink "DonkeyVerdictsModel" 183 yX10_larger ∈ tbg := tbg_in (List.mem_of_getElem? (l := tables_1_5) (i := 96) rfl) tq_5 rfl
theorem tw_1113 : Cond.static yX10_larger ∈ tbg := tbg_in (List.mem_of_getElem? (l := tables_1_5) (i := 97) rfl) tq_5 rfl
theorem tw_1114 : Cond.code yX10_larger cX10_larger 2 (some .int) ∈ tbg := tbg_in (List.mem_of_getElem? (l := tables_1_5) (i := 98) rfl) tq_5 rfl
theorem tw_1116 : Cond.instanceMethod yX10_send ∈ tbg := tbg_in (List.mem_of_getElem? (l := tables_1_5) (i := 100) rfl) tq_5 rfl
theorem tw_1117 : Cond.selects yX10_send.cls yX10_send yX10_send ∈ tbg := tbg_in (List.mem_of_getElem? (l := tables_1_5) (i := 101) rfl) tq_5 rfl
theorem tw_1118 : Cond.code yX10_send cX10_send 4 (some .int) ∈ tbg := tbg_in (List.mem_of_getElem? (l := tables_1_5) (i := 102) rfl) tq_5 rfl
theorem tw_1119 : Cond.methodLink "DonkeyVerdictsModel" 212 yX10_canSend ∈ tbg := tbg_in (List.mem_of_getElem? (l := tables_1_5) (i := 103) rfl) tq_5 rfl
theorem tw_1121 : Cond.instanceMethod yX10_canSend ∈ tbg := tbg_in (List.mem_of_getElem? (l := tables_1_5) (i := 105) rfl) tq_5 rfl
theorem tw_1122 : Cond.code yX10_canSend cX10_canSend 4 (some .boolean) ∈ tbg := tbg_in (List.mem_of_getElem? (l := tables_1_5) (i := 106) rfl) tq_5 rfl
theorem tw_1123 : Cond.methodLink "DonkeyVerdictsModel" 216 yX10_known ∈ tbg := tbg_in (List.mem_of_getElem? (l := tables_1_5) (i := 107) rfl) tq_5 rfl
theorem tw_1125 : Cond.instanceMethod yX10_known ∈ tbg := tbg_in (List.mem_of_getElem? (l := tables_1_5) (i := 109) rfl) tq_5 rfl
theorem tw_1126 : Cond.code yX10_known cX10_known 2 none ∈ tbg := tbg_in (List.mem_of_getElem? (l := tables_1_5) (i := 110) rfl) tq_5 rfl
theorem tw_1127 : Cond.methodLink "DonkeyVerdictsModel" 219 yX10_sends ∈ tbg := tbg_in (List.mem_of_getElem? (l := tables_1_5) (i := 111) rfl) tq_5 rfl
theorem tw_1129 : Cond.instanceMethod yX10_sends ∈ tbg := tbg_in (List.mem_of_getElem? (l := tables_1_5) (i := 113) rfl) tq_5 rfl
theorem tw_1130 : Cond.code yX10_sends cX10_sends 5 none ∈ tbg := tbg_in (List.mem_of_getElem? (l := tables_1_5) (i := 114) rfl) tq_5 rfl
theorem tw_1132 : Cond.instanceMethod yX10_pass ∈ tbg := tbg_in (List.mem_of_getElem? (l := tables_1_5) (i := 116) rfl) tq_5 rfl
theorem tw_1133 : Cond.selects yX10_pass.cls yX10_pass yX10_pass ∈ tbg := tbg_in (List.mem_of_getElem? (l := tables_1_5) (i := 117) rfl) tq_5 rfl
theorem tw_1134 : Cond.code yX10_pass cX10_pass 3 (some .int) ∈ tbg := tbg_in (List.mem_of_getElem? (l := tables_1_5) (i := 118) rfl) tq_5 rfl
theorem tw_1135 : Cond.constantLong "DonkeyVerdictsModel" 223 (24 : Int64) ∈ tbg := tbg_in (List.mem_of_getElem? (l := tables_1_5) (i := 119) rfl) tq_5 rfl
theorem tw_1136 : Cond.methodLink "DonkeyVerdictsModel" 225 yX10_hour ∈ tbg := tbg_in (List.mem_of_getElem? (l := tables_1_5) (i := 120) rfl) tq_5 rfl
theorem tw_1138 : Cond.instanceMethod yX10_hour ∈ tbg := tbg_in (List.mem_of_getElem? (l := tables_1_5) (i := 122) rfl) tq_5 rfl
theorem tw_1139 : Cond.code yX10_hour cX10_hour 4 none ∈ tbg := tbg_in (List.mem_of_getElem? (l := tables_1_5) (i := 123) rfl) tq_5 rfl
theorem tw_1140 : Cond.methodLink "DonkeyVerdictsModel" 209 yX10_goesOn ∈ tbg := tbg_in (List.mem_of_getElem? (l := tables_1_5) (i := 124) rfl) tq_5 rfl
theorem tw_1142 : Cond.instanceMethod yX10_goesOn ∈ tbg := tbg_in (List.mem_of_getElem? (l := tables_1_5) (i := 126) rfl) tq_5 rfl
theorem tw_1143 : Cond.code yX10_goesOn cX10_goesOn 5 none ∈ tbg := tbg_in (List.mem_of_getElem? (l := tables_1_5) (i := 127) rfl) tq_5 rfl
theorem tw_1144 : Cond.methodLink "DonkeyVerdictsModel" 197 yX10_goal ∈ tbg := tbg_in (List.mem_of_getElem? (l := tables_1_5) (i := 128) rfl) tq_5 rfl
theorem tw_1146 : Cond.instanceMethod yX10_goal ∈ tbg := tbg_in (List.mem_of_getElem? (l := tables_1_5) (i := 130) rfl) tq_5 rfl
theorem tw_1147 : Cond.code yX10_goal cX10_goal 3 (some .int) ∈ tbg := tbg_in (List.mem_of_getElem? (l := tables_1_5) (i := 131) rfl) tq_5 rfl
theorem tw_1148 : Cond.methodLink "DonkeyVerdictsModel" 200 yX10_settlesAt ∈ tbg := tbg_in (List.mem_of_getElem? (l := tables_1_5) (i := 132) rfl) tq_5 rfl
theorem tw_1150 : Cond.instanceMethod yX10_settlesAt ∈ tbg := tbg_in (List.mem_of_getElem? (l := tables_1_5) (i := 134) rfl) tq_5 rfl
theorem tw_1151 : Cond.code yX10_settlesAt cX10_settlesAt 3 none ∈ tbg := tbg_in (List.mem_of_getElem? (l := tables_1_5) (i := 135) rfl) tq_5 rfl
theorem tw_1152 : Cond.methodLink "DonkeyVerdictsModel" 203 yX10_nextOn ∈ tbg := tbg_in (List.mem_of_getElem? (l := tables_1_5) (i := 136) rfl) tq_5 rfl
theorem tw_1154 : Cond.instanceMethod yX10_nextOn ∈ tbg := tbg_in (List.mem_of_getElem? (l := tables_1_5) (i := 138) rfl) tq_5 rfl
theorem tw_1155 : Cond.code yX10_nextOn cX10_nextOn 4 (some .int) ∈ tbg := tbg_in (List.mem_of_getElem? (l := tables_1_5) (i := 139) rfl) tq_5 rfl
theorem tw_1156 : Cond.methodLink "DonkeyVerdictsModel" 206 yX10_arrivesIn ∈ tbg := tbg_in (List.mem_of_getElem? (l := tables_1_5) (i := 140) rfl) tq_5 rfl
theorem tw_1158 : Cond.instanceMethod yX10_arrivesIn ∈ tbg := tbg_in (List.mem_of_getElem? (l := tables_1_5) (i := 142) rfl) tq_5 rfl
theorem tw_1159 : Cond.code yX10_arrivesIn cX10_arrivesIn 5 none ∈ tbg := tbg_in (List.mem_of_getElem? (l := tables_1_5) (i := 143) rfl) tq_5 rfl
theorem tw_1160 : Cond.methodLink "DonkeyVerdictsModel" 193 yX10_has ∈ tbg := tbg_in (List.mem_of_getElem? (l := tables_1_5) (i := 144) rfl) tq_5 rfl
theorem tw_1161 : Cond.static yX10_has ∈ tbg := tbg_in (List.mem_of_getElem? (l := tables_1_5) (i := 145) rfl) tq_5 rfl
theorem tw_1162 : Cond.code yX10_has cX10_has 2 (some .boolean) ∈ tbg := tbg_in (List.mem_of_getElem? (l := tables_1_5) (i := 146) rfl) tq_5 rfl
theorem tw_1164 : Cond.instanceMethod yX10_home ∈ tbg := tbg_in (List.mem_of_getElem? (l := tables_1_5) (i := 148) rfl) tq_5 rfl
theorem tw_1165 : Cond.selects yX10_home.cls yX10_home yX10_home ∈ tbg := tbg_in (List.mem_of_getElem? (l := tables_1_5) (i := 149) rfl) tq_5 rfl
theorem tw_1166 : Cond.code yX10_home cX10_home 3 (some .int) ∈ tbg := tbg_in (List.mem_of_getElem? (l := tables_1_5) (i := 150) rfl) tq_5 rfl
theorem tw_1167 : Cond.methodLink "DonkeyVerdictsModel" 228 yX10_read ∈ tbg := tbg_in (List.mem_of_getElem? (l := tables_1_5) (i := 151) rfl) tq_5 rfl
theorem tw_1169 : Cond.instanceMethod yX10_read ∈ tbg := tbg_in (List.mem_of_getElem? (l := tables_1_5) (i := 153) rfl) tq_5 rfl
theorem tw_1170 : Cond.code yX10_read cX10_read 5 (some .int) ∈ tbg := tbg_in (List.mem_of_getElem? (l := tables_1_5) (i := 154) rfl) tq_5 rfl
theorem tw_1171 : Cond.methodLink "DonkeyVerdictsModel" 231 yX10_goesHome ∈ tbg := tbg_in (List.mem_of_getElem? (l := tables_1_5) (i := 155) rfl) tq_5 rfl
theorem tw_1173 : Cond.instanceMethod yX10_goesHome ∈ tbg := tbg_in (List.mem_of_getElem? (l := tables_1_5) (i := 157) rfl) tq_5 rfl
theorem tw_1174 : Cond.code yX10_goesHome cX10_goesHome 3 none ∈ tbg := tbg_in (List.mem_of_getElem? (l := tables_1_5) (i := 158) rfl) tq_5 rfl
theorem tw_1176 : Cond.instanceMethod yX10_carrots ∈ tbg := tbg_in (List.mem_of_getElem? (l := tables_1_5) (i := 160) rfl) tq_5 rfl
theorem tw_1177 : Cond.selects yX10_carrots.cls yX10_carrots yX10_carrots ∈ tbg := tbg_in (List.mem_of_getElem? (l := tables_1_5) (i := 161) rfl) tq_5 rfl
theorem tw_1178 : Cond.code yX10_carrots cX10_carrots 4 (some .int) ∈ tbg := tbg_in (List.mem_of_getElem? (l := tables_1_5) (i := 162) rfl) tq_5 rfl
theorem tw_1179 : Cond.constantLong "DonkeyVerdictsModel" 234 (9 : Int64) ∈ tbg := tbg_in (List.mem_of_getElem? (l := tables_1_5) (i := 163) rfl) tq_5 rfl
theorem tw_1181 : Cond.instanceMethod yX10_undo ∈ tbg := tbg_in (List.mem_of_getElem? (l := tables_1_5) (i := 165) rfl) tq_5 rfl
theorem tw_1182 : Cond.selects yX10_undo.cls yX10_undo yX10_undo ∈ tbg := tbg_in (List.mem_of_getElem? (l := tables_1_5) (i := 166) rfl) tq_5 rfl
theorem tw_1183 : Cond.code yX10_undo cX10_undo 1 (some .int) ∈ tbg := tbg_in (List.mem_of_getElem? (l := tables_1_5) (i := 167) rfl) tq_5 rfl
theorem tw_1185 : Cond.instanceMethod yX10_arrives ∈ tbg := tbg_in (List.mem_of_getElem? (l := tables_1_5) (i := 169) rfl) tq_5 rfl
theorem tw_1186 : Cond.selects yX10_arrives.cls yX10_arrives yX10_arrives ∈ tbg := tbg_in (List.mem_of_getElem? (l := tables_1_5) (i := 170) rfl) tq_5 rfl
theorem tw_1187 : Cond.code yX10_arrives cX10_arrives 2 (some .int) ∈ tbg := tbg_in (List.mem_of_getElem? (l := tables_1_5) (i := 171) rfl) tq_5 rfl
theorem tw_1188 : Cond.methodLink "DonkeyVerdictsModel" 236 yX10_standsBehind ∈ tbg := tbg_in (List.mem_of_getElem? (l := tables_1_5) (i := 172) rfl) tq_5 rfl
theorem tw_1190 : Cond.instanceMethod yX10_standsBehind ∈ tbg := tbg_in (List.mem_of_getElem? (l := tables_1_5) (i := 174) rfl) tq_5 rfl
theorem tw_1191 : Cond.code yX10_standsBehind cX10_standsBehind 3 (some .int) ∈ tbg := tbg_in (List.mem_of_getElem? (l := tables_1_5) (i := 175) rfl) tq_5 rfl
theorem tw_1193 : Cond.instanceMethod yX10_reading ∈ tbg := tbg_in (List.mem_of_getElem? (l := tables_1_5) (i := 177) rfl) tq_5 rfl
theorem tw_1194 : Cond.selects yX10_reading.cls yX10_reading yX10_reading ∈ tbg := tbg_in (List.mem_of_getElem? (l := tables_1_5) (i := 178) rfl) tq_5 rfl
theorem tw_1195 : Cond.code yX10_reading cX10_reading 2 (some .int) ∈ tbg := tbg_in (List.mem_of_getElem? (l := tables_1_5) (i := 179) rfl) tq_5 rfl
theorem tw_1196 : Cond.methodLink "DonkeyVerdictsModel" 240 yX10_readThen ∈ tbg := tbg_in (List.mem_of_getElem? (l := tables_1_5) (i := 180) rfl) tq_5 rfl
theorem tw_1198 : Cond.instanceMethod yX10_readThen ∈ tbg := tbg_in (List.mem_of_getElem? (l := tables_1_5) (i := 182) rfl) tq_5 rfl
theorem tw_1199 : Cond.code yX10_readThen cX10_readThen 2 (some .int) ∈ tbg := tbg_in (List.mem_of_getElem? (l := tables_1_5) (i := 183) rfl) tq_5 rfl
theorem tw_1201 : Cond.instanceMethod yX10_right ∈ tbg := tbg_in (List.mem_of_getElem? (l := tables_1_5) (i := 185) rfl) tq_5 rfl
theorem tw_1202 : Cond.selects yX10_right.cls yX10_right yX10_right ∈ tbg := tbg_in (List.mem_of_getElem? (l := tables_1_5) (i := 186) rfl) tq_5 rfl
theorem tw_1203 : Cond.code yX10_right cX10_right 5 (some .int) ∈ tbg := tbg_in (List.mem_of_getElem? (l := tables_1_5) (i := 187) rfl) tq_5 rfl
theorem tw_1204 : Cond.methodLink "DonkeyVerdictsModel" 243 yX10_readSent ∈ tbg := tbg_in (List.mem_of_getElem? (l := tables_1_5) (i := 188) rfl) tq_5 rfl
theorem tw_1206 : Cond.instanceMethod yX10_readSent ∈ tbg := tbg_in (List.mem_of_getElem? (l := tables_1_5) (i := 190) rfl) tq_5 rfl
theorem tw_1207 : Cond.code yX10_readSent cX10_readSent 4 (some .int) ∈ tbg := tbg_in (List.mem_of_getElem? (l := tables_1_5) (i := 191) rfl) tq_5 rfl
theorem tw_1209 : Cond.instanceMethod yX10_soonest ∈ tbg := tbg_in (List.mem_of_getElem? (l := tables_1_5) (i := 193) rfl) tq_5 rfl
theorem tw_1210 : Cond.selects yX10_soonest.cls yX10_soonest yX10_soonest ∈ tbg := tbg_in (List.mem_of_getElem? (l := tables_1_5) (i := 194) rfl) tq_5 rfl
theorem tw_1211 : Cond.code yX10_soonest cX10_soonest 7 (some .int) ∈ tbg := tbg_in (List.mem_of_getElem? (l := tables_1_5) (i := 195) rfl) tq_5 rfl
theorem tw_1213 : Cond.instanceMethod yX10_tell ∈ tbg := tbg_in (List.mem_of_getElem? (l := tables_1_5) (i := 197) rfl) tq_5 rfl
theorem tw_1214 : Cond.selects yX10_tell.cls yX10_tell yX10_tell ∈ tbg := tbg_in (List.mem_of_getElem? (l := tables_1_5) (i := 198) rfl) tq_5 rfl
theorem tw_1215 : Cond.code yX10_tell cX10_tell 5 (some .int) ∈ tbg := tbg_in (List.mem_of_getElem? (l := tables_1_5) (i := 199) rfl) tq_5 rfl
theorem tw_1217 : Cond.instanceMethod yX10_deal ∈ tbg := tbg_in (List.mem_of_getElem? (l := tables_1_5) (i := 201) rfl) tq_5 rfl
theorem tw_1218 : Cond.selects yX10_deal.cls yX10_deal yX10_deal ∈ tbg := tbg_in (List.mem_of_getElem? (l := tables_1_5) (i := 202) rfl) tq_5 rfl
theorem tw_1219 : Cond.code yX10_deal cX10_deal 9 (some .int) ∈ tbg := tbg_in (List.mem_of_getElem? (l := tables_1_5) (i := 203) rfl) tq_5 rfl
theorem tw_1220 : Cond.constantLong "DonkeyVerdictsModel" 246 (-1 : Int64) ∈ tbg := tbg_in (List.mem_of_getElem? (l := tables_1_5) (i := 204) rfl) tq_5 rfl
theorem tw_1221 : Cond.methodLink "DonkeyVerdictsModel" 248 yX10_dealsSum ∈ tbg := tbg_in (List.mem_of_getElem? (l := tables_1_5) (i := 205) rfl) tq_5 rfl
theorem tw_1223 : Cond.instanceMethod yX10_dealsSum ∈ tbg := tbg_in (List.mem_of_getElem? (l := tables_1_5) (i := 207) rfl) tq_5 rfl
theorem tw_1224 : Cond.code yX10_dealsSum cX10_dealsSum 4 (some .int) ∈ tbg := tbg_in (List.mem_of_getElem? (l := tables_1_5) (i := 208) rfl) tq_5 rfl
theorem tw_1226 : Cond.instanceMethod yX10_lure ∈ tbg := tbg_in (List.mem_of_getElem? (l := tables_1_5) (i := 210) rfl) tq_5 rfl
theorem tw_1227 : Cond.selects yX10_lure.cls yX10_lure yX10_lure ∈ tbg := tbg_in (List.mem_of_getElem? (l := tables_1_5) (i := 211) rfl) tq_5 rfl
theorem tw_1228 : Cond.code yX10_lure cX10_lure 7 (some .int) ∈ tbg := tbg_in (List.mem_of_getElem? (l := tables_1_5) (i := 212) rfl) tq_5 rfl
theorem tw_1230 : Cond.instanceMethod yX10_next ∈ tbg := tbg_in (List.mem_of_getElem? (l := tables_1_5) (i := 214) rfl) tq_5 rfl
theorem tw_1231 : Cond.selects yX10_next.cls yX10_next yX10_next ∈ tbg := tbg_in (List.mem_of_getElem? (l := tables_1_5) (i := 215) rfl) tq_5 rfl
theorem tw_1232 : Cond.code yX10_next cX10_next 6 (some .int) ∈ tbg := tbg_in (List.mem_of_getElem? (l := tables_1_5) (i := 216) rfl) tq_5 rfl
theorem tw_1234 : Cond.instanceMethod yX10_meet ∈ tbg := tbg_in (List.mem_of_getElem? (l := tables_1_5) (i := 218) rfl) tq_5 rfl
theorem tw_1235 : Cond.selects yX10_meet.cls yX10_meet yX10_meet ∈ tbg := tbg_in (List.mem_of_getElem? (l := tables_1_5) (i := 219) rfl) tq_5 rfl
theorem tw_1236 : Cond.code yX10_meet cX10_meet 4 (some .int) ∈ tbg := tbg_in (List.mem_of_getElem? (l := tables_1_5) (i := 220) rfl) tq_5 rfl
theorem tw_1238 : Cond.instanceMethod yX10_told ∈ tbg := tbg_in (List.mem_of_getElem? (l := tables_1_5) (i := 222) rfl) tq_5 rfl
theorem tw_1239 : Cond.selects yX10_told.cls yX10_told yX10_told ∈ tbg := tbg_in (List.mem_of_getElem? (l := tables_1_5) (i := 223) rfl) tq_5 rfl
theorem tw_1240 : Cond.code yX10_told cX10_told 5 (some .int) ∈ tbg := tbg_in (List.mem_of_getElem? (l := tables_1_5) (i := 224) rfl) tq_5 rfl
theorem tw_1242 : Cond.instanceMethod yX10_who ∈ tbg := tbg_in (List.mem_of_getElem? (l := tables_1_5) (i := 226) rfl) tq_5 rfl
theorem tw_1243 : Cond.selects yX10_who.cls yX10_who yX10_who ∈ tbg := tbg_in (List.mem_of_getElem? (l := tables_1_5) (i := 227) rfl) tq_5 rfl
theorem tw_1244 : Cond.code yX10_who cX10_who 9 (some .int) ∈ tbg := tbg_in (List.mem_of_getElem? (l := tables_1_5) (i := 228) rfl) tq_5 rfl
theorem tw_1246 : Cond.instanceMethod yX10_balks ∈ tbg := tbg_in (List.mem_of_getElem? (l := tables_1_5) (i := 230) rfl) tq_5 rfl
theorem tw_1247 : Cond.selects yX10_balks.cls yX10_balks yX10_balks ∈ tbg := tbg_in (List.mem_of_getElem? (l := tables_1_5) (i := 231) rfl) tq_5 rfl
theorem tw_1248 : Cond.code yX10_balks cX10_balks 10 (some .int) ∈ tbg := tbg_in (List.mem_of_getElem? (l := tables_1_5) (i := 232) rfl) tq_5 rfl
theorem tw_1249 : Cond.constantLong "DonkeyVerdictsModel" 251 (8 : Int64) ∈ tbg := tbg_in (List.mem_of_getElem? (l := tables_1_5) (i := 233) rfl) tq_5 rfl
theorem tw_1250 : Cond.constantLong "DonkeyVerdictsModel" 253 (10 : Int64) ∈ tbg := tbg_in (List.mem_of_getElem? (l := tables_1_5) (i := 234) rfl) tq_5 rfl
theorem tw_1252 : Cond.instanceMethod yX10_year ∈ tbg := tbg_in (List.mem_of_getElem? (l := tables_1_5) (i := 236) rfl) tq_5 rfl
theorem tw_1253 : Cond.selects yX10_year.cls yX10_year yX10_year ∈ tbg := tbg_in (List.mem_of_getElem? (l := tables_1_5) (i := 237) rfl) tq_5 rfl
theorem tw_1254 : Cond.code yX10_year cX10_year 8 (some .int) ∈ tbg := tbg_in (List.mem_of_getElem? (l := tables_1_5) (i := 238) rfl) tq_5 rfl
theorem tw_1255 : Cond.constantLong "DonkeyVerdictsModel" 255 (9999 : Int64) ∈ tbg := tbg_in (List.mem_of_getElem? (l := tables_1_5) (i := 239) rfl) tq_5 rfl
theorem tw_1256 : Cond.constantLong "DonkeyVerdictsModel" 257 (60 : Int64) ∈ tbg := tbg_in (List.mem_of_getElem? (l := tables_1_6) (i := 0) rfl) tq_6 rfl
theorem tw_1257 : Cond.constantLong "DonkeyVerdictsModel" 259 (7919 : Int64) ∈ tbg := tbg_in (List.mem_of_getElem? (l := tables_1_6) (i := 1) rfl) tq_6 rfl
theorem tw_1258 : Cond.constantLong "DonkeyVerdictsModel" 261 (6151 : Int64) ∈ tbg := tbg_in (List.mem_of_getElem? (l := tables_1_6) (i := 2) rfl) tq_6 rfl
theorem tw_1259 : Cond.constantLong "DonkeyVerdictsModel" 263 (65521 : Int64) ∈ tbg := tbg_in (List.mem_of_getElem? (l := tables_1_6) (i := 3) rfl) tq_6 rfl
theorem tw_1260 : Cond.methodLink "DonkeyVerdictsModel" 265 yX10_does ∈ tbg := tbg_in (List.mem_of_getElem? (l := tables_1_6) (i := 4) rfl) tq_6 rfl
theorem tw_1262 : Cond.instanceMethod yX10_does ∈ tbg := tbg_in (List.mem_of_getElem? (l := tables_1_6) (i := 6) rfl) tq_6 rfl
theorem tw_1263 : Cond.code yX10_does cX10_does 6 none ∈ tbg := tbg_in (List.mem_of_getElem? (l := tables_1_6) (i := 7) rfl) tq_6 rfl
theorem tw_1265 : Cond.instanceMethod yX10_keep ∈ tbg := tbg_in (List.mem_of_getElem? (l := tables_1_6) (i := 9) rfl) tq_6 rfl
theorem tw_1266 : Cond.selects yX10_keep.cls yX10_keep yX10_keep ∈ tbg := tbg_in (List.mem_of_getElem? (l := tables_1_6) (i := 10) rfl) tq_6 rfl
theorem tw_1267 : Cond.code yX10_keep cX10_keep 1 (some .int) ∈ tbg := tbg_in (List.mem_of_getElem? (l := tables_1_6) (i := 11) rfl) tq_6 rfl
theorem tw_1269 : Cond.instanceMethod yX10_back ∈ tbg := tbg_in (List.mem_of_getElem? (l := tables_1_6) (i := 13) rfl) tq_6 rfl
theorem tw_1270 : Cond.selects yX10_back.cls yX10_back yX10_back ∈ tbg := tbg_in (List.mem_of_getElem? (l := tables_1_6) (i := 14) rfl) tq_6 rfl
theorem tw_1271 : Cond.code yX10_back cX10_back 1 (some .int) ∈ tbg := tbg_in (List.mem_of_getElem? (l := tables_1_6) (i := 15) rfl) tq_6 rfl
theorem tw_1273 : Cond.instanceMethod yX10_count ∈ tbg := tbg_in (List.mem_of_getElem? (l := tables_1_6) (i := 17) rfl) tq_6 rfl
theorem tw_1274 : Cond.selects yX10_count.cls yX10_count yX10_count ∈ tbg := tbg_in (List.mem_of_getElem? (l := tables_1_6) (i := 18) rfl) tq_6 rfl
theorem tw_1275 : Cond.code yX10_count cX10_count 2 (some .int) ∈ tbg := tbg_in (List.mem_of_getElem? (l := tables_1_6) (i := 19) rfl) tq_6 rfl
theorem tw_1276 : Cond.methodLink "DonkeyVerdictsModel" 268 yX10_allWays ∈ tbg := tbg_in (List.mem_of_getElem? (l := tables_1_6) (i := 20) rfl) tq_6 rfl
theorem tw_1278 : Cond.instanceMethod yX10_allWays ∈ tbg := tbg_in (List.mem_of_getElem? (l := tables_1_6) (i := 22) rfl) tq_6 rfl
theorem tw_1279 : Cond.code yX10_allWays cX10_allWays 3 (some .int) ∈ tbg := tbg_in (List.mem_of_getElem? (l := tables_1_6) (i := 23) rfl) tq_6 rfl
theorem tw_1280 : Cond.constantLong "DonkeyVerdictsModel" 271 (5 : Int64) ∈ tbg := tbg_in (List.mem_of_getElem? (l := tables_1_6) (i := 24) rfl) tq_6 rfl
theorem tw_1281 : Cond.methodLink "DonkeyVerdictsModel" 273 yX10_many ∈ tbg := tbg_in (List.mem_of_getElem? (l := tables_1_6) (i := 25) rfl) tq_6 rfl
theorem tw_1283 : Cond.instanceMethod yX10_many ∈ tbg := tbg_in (List.mem_of_getElem? (l := tables_1_6) (i := 27) rfl) tq_6 rfl
theorem tw_1284 : Cond.code yX10_many cX10_many 4 (some .int) ∈ tbg := tbg_in (List.mem_of_getElem? (l := tables_1_6) (i := 28) rfl) tq_6 rfl
theorem tw_1285 : Cond.methodLink "DonkeyVerdictsModel" 276 yX10_allCarrots ∈ tbg := tbg_in (List.mem_of_getElem? (l := tables_1_6) (i := 29) rfl) tq_6 rfl
theorem tw_1287 : Cond.instanceMethod yX10_allCarrots ∈ tbg := tbg_in (List.mem_of_getElem? (l := tables_1_6) (i := 31) rfl) tq_6 rfl
theorem tw_1288 : Cond.code yX10_allCarrots cX10_allCarrots 3 (some .int) ∈ tbg := tbg_in (List.mem_of_getElem? (l := tables_1_6) (i := 32) rfl) tq_6 rfl
theorem cb_m4 : (Int8.ofInt (-4)).toInt32 = (-4 : Int32) := by decide
theorem cb_m3 : (Int8.ofInt (-3)).toInt32 = (-3 : Int32) := by decide
theorem cb_m2 : (Int8.ofInt (-2)).toInt32 = (-2 : Int32) := by decide
theorem cb_6 : (Int8.ofInt (6)).toInt32 = (6 : Int32) := by decide
theorem cb_7 : (Int8.ofInt (7)).toInt32 = (7 : Int32) := by decide
theorem cb_8 : (Int8.ofInt (8)).toInt32 = (8 : Int32) := by decide
theorem cb_9 : (Int8.ofInt (9)).toInt32 = (9 : Int32) := by decide
theorem cb_10 : (Int8.ofInt (10)).toInt32 = (10 : Int32) := by decide
theorem cb_11 : (Int8.ofInt (11)).toInt32 = (11 : Int32) := by decide
theorem cb_12 : (Int8.ofInt (12)).toInt32 = (12 : Int32) := by decide
theorem cb_15 : (Int8.ofInt (15)).toInt32 = (15 : Int32) := by decide
theorem cb_16 : (Int8.ofInt (16)).toInt32 = (16 : Int32) := by decide
theorem cb_20 : (Int8.ofInt (20)).toInt32 = (20 : Int32) := by decide
theorem cb_24 : (Int8.ofInt (24)).toInt32 = (24 : Int32) := by decide
theorem cb_25 : (Int8.ofInt (25)).toInt32 = (25 : Int32) := by decide
theorem cb_30 : (Int8.ofInt (30)).toInt32 = (30 : Int32) := by decide
theorem cb_32 : (Int8.ofInt (32)).toInt32 = (32 : Int32) := by decide
theorem cb_35 : (Int8.ofInt (35)).toInt32 = (35 : Int32) := by decide
theorem cb_40 : (Int8.ofInt (40)).toInt32 = (40 : Int32) := by decide
theorem cb_44 : (Int8.ofInt (44)).toInt32 = (44 : Int32) := by decide
theorem cb_45 : (Int8.ofInt (45)).toInt32 = (45 : Int32) := by decide
theorem cb_48 : (Int8.ofInt (48)).toInt32 = (48 : Int32) := by decide
theorem cb_50 : (Int8.ofInt (50)).toInt32 = (50 : Int32) := by decide
theorem cb_55 : (Int8.ofInt (55)).toInt32 = (55 : Int32) := by decide
theorem cb_57 : (Int8.ofInt (57)).toInt32 = (57 : Int32) := by decide
theorem cb_59 : (Int8.ofInt (59)).toInt32 = (59 : Int32) := by decide
theorem cb_60 : (Int8.ofInt (60)).toInt32 = (60 : Int32) := by decide
theorem cb_63 : (Int8.ofInt (63)).toInt32 = (63 : Int32) := by decide
theorem cb_64 : (Int8.ofInt (64)).toInt32 = (64 : Int32) := by decide
theorem cb_98 : (Int8.ofInt (98)).toInt32 = (98 : Int32) := by decide
theorem cb_99 : (Int8.ofInt (99)).toInt32 = (99 : Int32) := by decide
theorem cb_100 : (Int8.ofInt (100)).toInt32 = (100 : Int32) := by decide
theorem cb_109 : (Int8.ofInt (109)).toInt32 = (109 : Int32) := by decide
theorem cb_110 : (Int8.ofInt (110)).toInt32 = (110 : Int32) := by decide
theorem cb_119 : (Int8.ofInt (119)).toInt32 = (119 : Int32) := by decide
theorem cb_126 : (Int8.ofInt (126)).toInt32 = (126 : Int32) := by decide
theorem ci_m1 : Int32.ofInt (-1) = (-1 : Int32) := by decide
theorem ci_0 : Int32.ofInt (0) = (0 : Int32) := by decide
theorem ci_1 : Int32.ofInt (1) = (1 : Int32) := by decide
theorem ci_2 : Int32.ofInt (2) = (2 : Int32) := by decide
theorem ci_3 : Int32.ofInt (3) = (3 : Int32) := by decide
theorem ci_4 : Int32.ofInt (4) = (4 : Int32) := by decide
theorem ci_5 : Int32.ofInt (5) = (5 : Int32) := by decide
theorem cs_200 : (Int16.ofInt (200)).toInt32 = (200 : Int32) := by decide
theorem cs_512 : (Int16.ofInt (512)).toInt32 = (512 : Int32) := by decide
theorem cs_704 : (Int16.ofInt (704)).toInt32 = (704 : Int32) := by decide
theorem cs_709 : (Int16.ofInt (709)).toInt32 = (709 : Int32) := by decide
theorem cs_714 : (Int16.ofInt (714)).toInt32 = (714 : Int32) := by decide
theorem cs_729 : (Int16.ofInt (729)).toInt32 = (729 : Int32) := by decide
theorem cs_744 : (Int16.ofInt (744)).toInt32 = (744 : Int32) := by decide
theorem cs_759 : (Int16.ofInt (759)).toInt32 = (759 : Int32) := by decide
theorem cs_1000 : (Int16.ofInt (1000)).toInt32 = (1000 : Int32) := by decide
theorem cs_9999 : (Int16.ofInt (9999)).toInt32 = (9999 : Int32) := by decide
end
section
theorem dX6_at_0 : decode cX6_at 0 = .ok (.iload_n 1, 1) := by decide +kernel
theorem dX6_at_1 : decode cX6_at 1 = .ok (.ifCond .lt 15, 3) := by decide +kernel
theorem dX6_at_4 : decode cX6_at 4 = .ok (.iload_n 1, 1) := by decide +kernel
theorem dX6_at_5 : decode cX6_at 5 = .ok (.aload_n 0, 1) := by decide +kernel
theorem dX6_at_6 : decode cX6_at 6 = .ok (.arraylength, 1) := by decide +kernel
theorem dX6_at_7 : decode cX6_at 7 = .ok (.if_icmp .ge 9, 3) := by decide +kernel
theorem dX6_at_10 : decode cX6_at 10 = .ok (.aload_n 0, 1) := by decide +kernel
theorem dX6_at_11 : decode cX6_at 11 = .ok (.iload_n 1, 1) := by decide +kernel
theorem dX6_at_12 : decode cX6_at 12 = .ok (.iaload, 1) := by decide +kernel
theorem dX6_at_13 : decode cX6_at 13 = .ok (.goto 4, 3) := by decide +kernel
theorem dX6_at_16 : decode cX6_at 16 = .ok (.iconst 0, 1) := by decide +kernel
theorem dX6_at_17 : decode cX6_at 17 = .ok (.ireturn, 1) := by decide +kernel
theorem dX6_put_0 : decode cX6_put 0 = .ok (.iload_n 1, 1) := by decide +kernel
theorem dX6_put_1 : decode cX6_put 1 = .ok (.ifCond .lt 13, 3) := by decide +kernel
theorem dX6_put_4 : decode cX6_put 4 = .ok (.iload_n 1, 1) := by decide +kernel
theorem dX6_put_5 : decode cX6_put 5 = .ok (.aload_n 0, 1) := by decide +kernel
theorem dX6_put_6 : decode cX6_put 6 = .ok (.arraylength, 1) := by decide +kernel
theorem dX6_put_7 : decode cX6_put 7 = .ok (.if_icmp .ge 7, 3) := by decide +kernel
theorem dX6_put_10 : decode cX6_put 10 = .ok (.aload_n 0, 1) := by decide +kernel
theorem dX6_put_11 : decode cX6_put 11 = .ok (.iload_n 1, 1) := by decide +kernel
theorem dX6_put_12 : decode cX6_put 12 = .ok (.iload_n 2, 1) := by decide +kernel
theorem dX6_put_13 : decode cX6_put 13 = .ok (.iastore, 1) := by decide +kernel
theorem dX6_put_14 : decode cX6_put 14 = .ok (.return_, 1) := by decide +kernel
theorem dX6_clear_0 : decode cX6_clear 0 = .ok (.iconst 0, 1) := by decide +kernel
theorem dX6_clear_1 : decode cX6_clear 1 = .ok (.istore_n 1, 1) := by decide +kernel
theorem dX6_clear_2 : decode cX6_clear 2 = .ok (.iload_n 1, 1) := by decide +kernel
theorem dX6_clear_3 : decode cX6_clear 3 = .ok (.aload_n 0, 1) := by decide +kernel
theorem dX6_clear_4 : decode cX6_clear 4 = .ok (.arraylength, 1) := by decide +kernel
theorem dX6_clear_5 : decode cX6_clear 5 = .ok (.if_icmp .ge 13, 3) := by decide +kernel
theorem dX6_clear_8 : decode cX6_clear 8 = .ok (.aload_n 0, 1) := by decide +kernel
theorem dX6_clear_9 : decode cX6_clear 9 = .ok (.iload_n 1, 1) := by decide +kernel
theorem dX6_clear_10 : decode cX6_clear 10 = .ok (.iconst 0, 1) := by decide +kernel
theorem dX6_clear_11 : decode cX6_clear 11 = .ok (.iastore, 1) := by decide +kernel
theorem dX6_clear_12 : decode cX6_clear 12 = .ok (.iinc 1 1, 3) := by decide +kernel
theorem dX6_clear_15 : decode cX6_clear 15 = .ok (.goto (-13), 3) := by decide +kernel
theorem dX6_clear_18 : decode cX6_clear 18 = .ok (.return_, 1) := by decide +kernel
theorem qX6_at : jYs yX6_at cX6_at 2 (some .int) 2 := ⟨tw_328, tw_70, tw_329, ⟨by decide +kernel, by decide +kernel, by decide +kernel⟩⟩
abbrev rX6_at : Room := { frames := 0, cells := 0, slots := 0, locals := 0 }
def uX6_at : jM := (cX6_at, 2, RX6, (some .int), rX6_at)
def pX6_at (fu : Nat) (k0 n0 : Nat) (x1 : Int32) (M : Mem) : Res :=
  if x1 < 0 then (
    some ((0 : Int32), M))
  else
  if (Int32.ofNat n0) ≤ x1 then (
    some ((0 : Int32), M))
  else
  ld M k0 n0 x1 fun v1 =>
  some (v1, M)
set_option maxRecDepth 100000 in
theorem wX6_at {E : jE} {X : jC} (hX : jOk X uX6_at (gX E)) (fu : Nat) (k0 n0 : Nat) (hk0 : tX k0 = 20) (hn0 : lX k0 = n0) (x1 : Int32) (M : Mem) : J X uX6_at (gX E) 0 [(0, .ref (gad (gX E) k0)), (1, .int x1)] [] M (pX6_at fu k0 n0 x1 M) := by
  unfold pX6_at
  refine j_iload_n (pc := 0) hX 1 dX6_at_0 rfl rfl ?_
  refine j_if_lt (pc := 1) hX 16 dX6_at_1 (by decide) ?_ ?_
  · refine j_iconst (pc := 16) (v := (0 : Int32)) hX dX6_at_16 ci_0 ?_
    exact j_iret (pc := 17) hX rfl dX6_at_17
  · refine j_iload_n (pc := 4) hX 1 dX6_at_4 rfl rfl ?_
    refine j_aload_n (pc := 5) hX 0 dX6_at_5 rfl rfl ?_
    refine j_alen (pc := 6) (v := (Int32.ofNat n0)) hX (hi hk0) hk0 (Or.inl rfl) hn0 rfl dX6_at_6 ?_
    refine j_icmp_ge (pc := 7) hX 16 dX6_at_7 (by decide) ?_ ?_
    · refine j_iconst (pc := 16) (v := (0 : Int32)) hX dX6_at_16 ci_0 ?_
      exact j_iret (pc := 17) hX rfl dX6_at_17
    · refine j_aload_n (pc := 10) hX 0 dX6_at_10 rfl rfl ?_
      refine j_iload_n (pc := 11) hX 1 dX6_at_11 rfl rfl ?_
      refine j_iald (pc := 12) hX (hi hk0) hk0 hn0 dX6_at_12 (fun v1 => ?_)
      refine j_goto (pc := 13) hX 17 dX6_at_13 (by decide) ?_
      exact j_iret (pc := 17) hX rfl dX6_at_17
theorem mX6_at (l : Launch) (E : jE) (hI : jInj (gX E)) (fu : Nat) (k0 n0 : Nat) (hk0 : tX k0 = 20) (hn0 : lX k0 = n0) (x1 : Int32) (M : Mem) : jMet l (gX E) yX6_at cX6_at 2 (some .int) rX6_at [.ref (gad (gX E) k0), .int x1] M (pX6_at fu k0 n0 x1 M) :=
  j_entry hI (by decide +kernel) (Nat.le_of_ble_eq_true rfl) rfl (fun X _ hX => wX6_at hX fu k0 n0 hk0 hn0 x1 M)
theorem qX6_put : jYs yX6_put cX6_put 3 none 3 := ⟨tw_321, tw_70, tw_322, ⟨by decide +kernel, by decide +kernel, by decide +kernel⟩⟩
abbrev rX6_put : Room := { frames := 0, cells := 0, slots := 0, locals := 0 }
def uX6_put : jM := (cX6_put, 3, RX6, none, rX6_put)
def pX6_put (fu : Nat) (k0 n0 : Nat) (x1 : Int32) (x2 : Int32) (M : Mem) : Res :=
  if x1 < 0 then (
    some (0, M))
  else
  if (Int32.ofNat n0) ≤ x1 then (
    some (0, M))
  else
  sto M k0 n0 x1 x2 fun M1 =>
  some (0, M1)
set_option maxRecDepth 100000 in
theorem wX6_put {E : jE} {X : jC} (hX : jOk X uX6_put (gX E)) (fu : Nat) (k0 n0 : Nat) (hk0 : tX k0 = 20) (hn0 : lX k0 = n0) (x1 : Int32) (x2 : Int32) (M : Mem) : J X uX6_put (gX E) 0 [(0, .ref (gad (gX E) k0)), (1, .int x1), (2, .int x2)] [] M (pX6_put fu k0 n0 x1 x2 M) := by
  unfold pX6_put
  refine j_iload_n (pc := 0) hX 1 dX6_put_0 rfl rfl ?_
  refine j_if_lt (pc := 1) hX 14 dX6_put_1 (by decide) ?_ ?_
  · exact j_vret (pc := 14) hX rfl dX6_put_14
  · refine j_iload_n (pc := 4) hX 1 dX6_put_4 rfl rfl ?_
    refine j_aload_n (pc := 5) hX 0 dX6_put_5 rfl rfl ?_
    refine j_alen (pc := 6) (v := (Int32.ofNat n0)) hX (hi hk0) hk0 (Or.inl rfl) hn0 rfl dX6_put_6 ?_
    refine j_icmp_ge (pc := 7) hX 14 dX6_put_7 (by decide) ?_ ?_
    · exact j_vret (pc := 14) hX rfl dX6_put_14
    · refine j_aload_n (pc := 10) hX 0 dX6_put_10 rfl rfl ?_
      refine j_iload_n (pc := 11) hX 1 dX6_put_11 rfl rfl ?_
      refine j_iload_n (pc := 12) hX 2 dX6_put_12 rfl rfl ?_
      refine j_iast (pc := 13) hX (hi hk0) hk0 hn0 dX6_put_13 (fun M1 => ?_)
      exact j_vret (pc := 14) hX rfl dX6_put_14
theorem mX6_put (l : Launch) (E : jE) (hI : jInj (gX E)) (fu : Nat) (k0 n0 : Nat) (hk0 : tX k0 = 20) (hn0 : lX k0 = n0) (x1 : Int32) (x2 : Int32) (M : Mem) : jMet l (gX E) yX6_put cX6_put 3 none rX6_put [.ref (gad (gX E) k0), .int x1, .int x2] M (pX6_put fu k0 n0 x1 x2 M) :=
  j_entry hI (by decide +kernel) (Nat.le_of_ble_eq_true rfl) rfl (fun X _ hX => wX6_put hX fu k0 n0 hk0 hn0 x1 x2 M)
theorem qX6_clear : jYs yX6_clear cX6_clear 2 none 1 := ⟨tw_306, tw_70, tw_307, ⟨by decide +kernel, by decide +kernel, by decide +kernel⟩⟩
abbrev rX6_clear : Room := { frames := 0, cells := 0, slots := 0, locals := 0 }
def uX6_clear : jM := (cX6_clear, 2, RX6, none, rX6_clear)
def pX6_clear_2b (fu : Nat) (k0 n0 : Nat) (x1 : Int32) (M : Mem) (c2 : Int32 → Mem → Res) : Res :=
  if (Int32.ofNat n0) ≤ x1 then (
    some (0, M))
  else
  sto M k0 n0 x1 (0 : Int32) fun M1 =>
  c2 (x1 + (1 : Int32)) M1
set_option maxRecDepth 100000 in
theorem wX6_clear_2b {E : jE} {X : jC} (hX : jOk X uX6_clear (gX E)) (fu : Nat) (k0 n0 : Nat) (hk0 : tX k0 = 20) (hn0 : lX k0 = n0) (x1 : Int32) (M : Mem) (c2 : Int32 → Mem → Res) (hc2 : ∀ (x1 : Int32) (M : Mem), J X uX6_clear (gX E) 2 [(0, .ref (gad (gX E) k0)), (1, .int x1)] [] M (c2 x1 M)) : J X uX6_clear (gX E) 2 [(0, .ref (gad (gX E) k0)), (1, .int x1)] [] M (pX6_clear_2b fu k0 n0 x1 M c2) := by
  unfold pX6_clear_2b
  refine j_iload_n (pc := 2) hX 1 dX6_clear_2 rfl rfl ?_
  refine j_aload_n (pc := 3) hX 0 dX6_clear_3 rfl rfl ?_
  refine j_alen (pc := 4) (v := (Int32.ofNat n0)) hX (hi hk0) hk0 (Or.inl rfl) hn0 rfl dX6_clear_4 ?_
  refine j_icmp_ge (pc := 5) hX 18 dX6_clear_5 (by decide) ?_ ?_
  · exact j_vret (pc := 18) hX rfl dX6_clear_18
  · refine j_aload_n (pc := 8) hX 0 dX6_clear_8 rfl rfl ?_
    refine j_iload_n (pc := 9) hX 1 dX6_clear_9 rfl rfl ?_
    refine j_iconst (pc := 10) (v := (0 : Int32)) hX dX6_clear_10 ci_0 ?_
    refine j_iast (pc := 11) hX (hi hk0) hk0 hn0 dX6_clear_11 (fun M1 => ?_)
    refine j_iinc (pc := 12) (v := (x1 + (1 : Int32))) (lv' := [(1, .int (x1 + (1 : Int32))), (0, .ref (gad (gX E) k0))]) hX 1 dX6_clear_12 rfl (by rw [ci_1]) (jb rfl) rfl ?_
    refine j_goto (pc := 15) hX 2 dX6_clear_15 (by decide) ?_
    exact j_sub [1, 0] rfl (hc2 (x1 + (1 : Int32)) M1)
def pX6_clear_2 (fu : Nat) (k0 n0 : Nat)  : Nat → Int32 → Mem → Res
  | 0, _, _ => none
  | n + 1, x1, M => pX6_clear_2b fu k0 n0 x1 M (pX6_clear_2 fu k0 n0  n)
theorem wX6_clear_2 {E : jE} {X : jC} (hX : jOk X uX6_clear (gX E)) (fu : Nat) (k0 n0 : Nat) (hk0 : tX k0 = 20) (hn0 : lX k0 = n0)   : ∀ (n : Nat) (x1 : Int32) (M : Mem), J X uX6_clear (gX E) 2 [(0, .ref (gad (gX E) k0)), (1, .int x1)] [] M (pX6_clear_2 fu k0 n0  n x1 M) := by
  intro n
  induction n with
  | zero => intro x1 M; exact j_none
  | succ n ih => intro x1 M; exact wX6_clear_2b hX fu k0 n0 hk0 hn0 x1 M (pX6_clear_2 fu k0 n0  n) ih
def pX6_clear (fu : Nat) (k0 n0 : Nat)  (M : Mem) : Res :=
  pX6_clear_2 fu k0 n0
    fu (0 : Int32) M
set_option maxRecDepth 100000 in
theorem wX6_clear {E : jE} {X : jC} (hX : jOk X uX6_clear (gX E)) (fu : Nat) (k0 n0 : Nat) (hk0 : tX k0 = 20) (hn0 : lX k0 = n0)  (M : Mem) : J X uX6_clear (gX E) 0 [(0, .ref (gad (gX E) k0))] [] M (pX6_clear fu k0 n0  M) := by
  unfold pX6_clear
  refine j_iconst (pc := 0) (v := (0 : Int32)) hX dX6_clear_0 ci_0 ?_
  refine j_istore_n (pc := 1) (lv' := [(1, .int (0 : Int32)), (0, .ref (gad (gX E) k0))]) hX dX6_clear_1 rfl (jb rfl) rfl ?_
  refine j_sub [1, 0] rfl (wX6_clear_2 hX fu k0 n0 hk0 hn0   fu (0 : Int32) M)
theorem mX6_clear (l : Launch) (E : jE) (hI : jInj (gX E)) (fu : Nat) (k0 n0 : Nat) (hk0 : tX k0 = 20) (hn0 : lX k0 = n0)  (M : Mem) : jMet l (gX E) yX6_clear cX6_clear 2 none rX6_clear [.ref (gad (gX E) k0)] M (pX6_clear fu k0 n0  M) :=
  j_entry hI (by decide +kernel) (Nat.le_of_ble_eq_true rfl) rfl (fun X _ hX => wX6_clear hX fu k0 n0 hk0 hn0  M)
end
