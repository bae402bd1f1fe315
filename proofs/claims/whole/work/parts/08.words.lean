/-! words of the tables, constants -/
theorem tbg_in {l : List Cond} {w : Cond} (h : w ∈ l) (hl : ∀ w ∈ l, w ∈ lw_tbl) (g : goodWord w = true) : w ∈ tbg := List.mem_filter.mpr ⟨hl w h, g⟩
theorem tq_1 : ∀ w ∈ tables_1_1, w ∈ lw_tbl := fun w h => List.mem_append_right _ (show w ∈ tables_1 from List.mem_append_left _ h)
theorem tq_2 : ∀ w ∈ tables_1_2, w ∈ lw_tbl := fun w h => List.mem_append_right _ (show w ∈ tables_1 from List.mem_append_right _ (List.mem_append_left _ h))
theorem tq_3 : ∀ w ∈ tables_1_3, w ∈ lw_tbl := fun w h => List.mem_append_right _ (show w ∈ tables_1 from List.mem_append_right _ (List.mem_append_right _ (List.mem_append_left _ h)))
theorem tq_4 : ∀ w ∈ tables_1_4, w ∈ lw_tbl := fun w h => List.mem_append_right _ (show w ∈ tables_1 from List.mem_append_right _ (List.mem_append_right _ (List.mem_append_right _ (List.mem_append_left _ h))))
theorem tq_5 : ∀ w ∈ tables_1_5, w ∈ lw_tbl := fun w h => List.mem_append_right _ (show w ∈ tables_1 from List.mem_append_right _ (List.mem_append_right _ (List.mem_append_right _ (List.mem_append_right _ (List.mem_append_left _ h)))))
theorem tq_6 : ∀ w ∈ tables_1_6, w ∈ lw_tbl := fun w h => List.mem_append_right _ (show w ∈ tables_1 from List.mem_append_right _ (List.mem_append_right _ (List.mem_append_right _ (List.mem_append_right _ (List.mem_append_right _ (h))))))
theorem tp_1 : ∀ w ∈ k2_sels lw_privs_1, w ∈ lw_tbl := fun w h => List.mem_append_left _ (by unfold k2_sels at h ⊢; rw [show lw_privs = lw_privs_1 ++ (lw_privs_2 ++ (lw_privs_3 ++ lw_privs_4)) from rfl]; simp only [List.map_append]; exact List.mem_append_left _ h)
theorem tp_2 : ∀ w ∈ k2_sels lw_privs_2, w ∈ lw_tbl := fun w h => List.mem_append_left _ (by unfold k2_sels at h ⊢; rw [show lw_privs = lw_privs_1 ++ (lw_privs_2 ++ (lw_privs_3 ++ lw_privs_4)) from rfl]; simp only [List.map_append]; exact List.mem_append_right _ (List.mem_append_left _ h))
theorem tp_3 : ∀ w ∈ k2_sels lw_privs_3, w ∈ lw_tbl := fun w h => List.mem_append_left _ (by unfold k2_sels at h ⊢; rw [show lw_privs = lw_privs_1 ++ (lw_privs_2 ++ (lw_privs_3 ++ lw_privs_4)) from rfl]; simp only [List.map_append]; exact List.mem_append_right _ (List.mem_append_right _ (List.mem_append_left _ h)))
theorem tp_4 : ∀ w ∈ k2_sels lw_privs_4, w ∈ lw_tbl := fun w h => List.mem_append_left _ (by unfold k2_sels at h ⊢; rw [show lw_privs = lw_privs_1 ++ (lw_privs_2 ++ (lw_privs_3 ++ lw_privs_4)) from rfl]; simp only [List.map_append]; exact List.mem_append_right _ (List.mem_append_right _ (List.mem_append_right _ (h))))
theorem tw_0 : Cond.selects yX9_open.cls yX9_open yX9_open ∈ tbg := tbg_in (List.mem_of_getElem? (l := k2_sels lw_privs_1) (i := 0) rfl) tp_1 rfl
theorem tw_1 : Cond.selects yX7_split.cls yX7_split yX7_split ∈ tbg := tbg_in (List.mem_of_getElem? (l := k2_sels lw_privs_1) (i := 1) rfl) tp_1 rfl
theorem tw_2 : Cond.selects yX7_take.cls yX7_take yX7_take ∈ tbg := tbg_in (List.mem_of_getElem? (l := k2_sels lw_privs_1) (i := 2) rfl) tp_1 rfl
theorem tw_3 : Cond.selects yX1_distance.cls yX1_distance yX1_distance ∈ tbg := tbg_in (List.mem_of_getElem? (l := k2_sels lw_privs_1) (i := 3) rfl) tp_1 rfl
theorem tw_4 : Cond.selects yX1_lowestHop.cls yX1_lowestHop yX1_lowestHop ∈ tbg := tbg_in (List.mem_of_getElem? (l := k2_sels lw_privs_1) (i := 4) rfl) tp_1 rfl
theorem tw_5 : Cond.selects yX4_set.cls yX4_set yX4_set ∈ tbg := tbg_in (List.mem_of_getElem? (l := k2_sels lw_privs_1) (i := 5) rfl) tp_1 rfl
theorem tw_6 : Cond.selects yX4_move.cls yX4_move yX4_move ∈ tbg := tbg_in (List.mem_of_getElem? (l := k2_sels lw_privs_1) (i := 6) rfl) tp_1 rfl
theorem tw_7 : Cond.selects yX4_end.cls yX4_end yX4_end ∈ tbg := tbg_in (List.mem_of_getElem? (l := k2_sels lw_privs_1) (i := 7) rfl) tp_1 rfl
theorem tw_8 : Cond.selects yX4_arrive.cls yX4_arrive yX4_arrive ∈ tbg := tbg_in (List.mem_of_getElem? (l := k2_sels lw_privs_1) (i := 8) rfl) tp_1 rfl
theorem tw_9 : Cond.selects yX3_awaitBeast.cls yX3_awaitBeast yX3_awaitBeast ∈ tbg := tbg_in (List.mem_of_getElem? (l := k2_sels lw_privs_1) (i := 9) rfl) tp_1 rfl
theorem tw_10 : Cond.selects yX3_trySending.cls yX3_trySending yX3_trySending ∈ tbg := tbg_in (List.mem_of_getElem? (l := k2_sels lw_privs_1) (i := 10) rfl) tp_1 rfl
theorem tw_11 : Cond.selects yX2_pick.cls yX2_pick yX2_pick ∈ tbg := tbg_in (List.mem_of_getElem? (l := k2_sels lw_privs_1) (i := 11) rfl) tp_1 rfl
theorem tw_12 : Cond.selects yX2_sendHand.cls yX2_sendHand yX2_sendHand ∈ tbg := tbg_in (List.mem_of_getElem? (l := k2_sels lw_privs_1) (i := 12) rfl) tp_1 rfl
theorem tw_13 : Cond.selects yX2_awaitHand.cls yX2_awaitHand yX2_awaitHand ∈ tbg := tbg_in (List.mem_of_getElem? (l := k2_sels lw_privs_1) (i := 13) rfl) tp_1 rfl
theorem tw_14 : Cond.selects yX2_going.cls yX2_going yX2_going ∈ tbg := tbg_in (List.mem_of_getElem? (l := k2_sels lw_privs_1) (i := 14) rfl) tp_1 rfl
theorem tw_15 : Cond.selects yX0_weigh.cls yX0_weigh yX0_weigh ∈ tbg := tbg_in (List.mem_of_getElem? (l := k2_sels lw_privs_1) (i := 15) rfl) tp_1 rfl
theorem tw_16 : Cond.selects yX3_act.cls yX3_act yX3_act ∈ tbg := tbg_in (List.mem_of_getElem? (l := k2_sels lw_privs_2) (i := 0) rfl) tp_2 rfl
theorem tw_17 : Cond.selects yX10_clears.cls yX10_clears yX10_clears ∈ tbg := tbg_in (List.mem_of_getElem? (l := k2_sels lw_privs_2) (i := 1) rfl) tp_2 rfl
theorem tw_18 : Cond.selects yX10_leads.cls yX10_leads yX10_leads ∈ tbg := tbg_in (List.mem_of_getElem? (l := k2_sels lw_privs_2) (i := 2) rfl) tp_2 rfl
theorem tw_19 : Cond.selects yX10_opens.cls yX10_opens yX10_opens ∈ tbg := tbg_in (List.mem_of_getElem? (l := k2_sels lw_privs_2) (i := 3) rfl) tp_2 rfl
theorem tw_20 : Cond.selects yX10_comes.cls yX10_comes yX10_comes ∈ tbg := tbg_in (List.mem_of_getElem? (l := k2_sels lw_privs_2) (i := 4) rfl) tp_2 rfl
theorem tw_21 : Cond.selects yX10_settles.cls yX10_settles yX10_settles ∈ tbg := tbg_in (List.mem_of_getElem? (l := k2_sels lw_privs_2) (i := 5) rfl) tp_2 rfl
theorem tw_22 : Cond.selects yX10_copies.cls yX10_copies yX10_copies ∈ tbg := tbg_in (List.mem_of_getElem? (l := k2_sels lw_privs_2) (i := 6) rfl) tp_2 rfl
theorem tw_23 : Cond.selects yX10_reads.cls yX10_reads yX10_reads ∈ tbg := tbg_in (List.mem_of_getElem? (l := k2_sels lw_privs_2) (i := 7) rfl) tp_2 rfl
theorem tw_24 : Cond.selects yX10_byteNow.cls yX10_byteNow yX10_byteNow ∈ tbg := tbg_in (List.mem_of_getElem? (l := k2_sels lw_privs_2) (i := 8) rfl) tp_2 rfl
theorem tw_25 : Cond.selects yX10_item.cls yX10_item yX10_item ∈ tbg := tbg_in (List.mem_of_getElem? (l := k2_sels lw_privs_2) (i := 9) rfl) tp_2 rfl
theorem tw_26 : Cond.selects yX10_number.cls yX10_number yX10_number ∈ tbg := tbg_in (List.mem_of_getElem? (l := k2_sels lw_privs_2) (i := 10) rfl) tp_2 rfl
theorem tw_27 : Cond.selects yX10_wayItem.cls yX10_wayItem yX10_wayItem ∈ tbg := tbg_in (List.mem_of_getElem? (l := k2_sels lw_privs_2) (i := 11) rfl) tp_2 rfl
theorem tw_28 : Cond.selects yX10_more.cls yX10_more yX10_more ∈ tbg := tbg_in (List.mem_of_getElem? (l := k2_sels lw_privs_2) (i := 12) rfl) tp_2 rfl
theorem tw_29 : Cond.selects yX10_doorItem.cls yX10_doorItem yX10_doorItem ∈ tbg := tbg_in (List.mem_of_getElem? (l := k2_sels lw_privs_2) (i := 13) rfl) tp_2 rfl
theorem tw_30 : Cond.selects yX10_beastItem.cls yX10_beastItem yX10_beastItem ∈ tbg := tbg_in (List.mem_of_getElem? (l := k2_sels lw_privs_2) (i := 14) rfl) tp_2 rfl
theorem tw_31 : Cond.selects yX10_isPlace.cls yX10_isPlace yX10_isPlace ∈ tbg := tbg_in (List.mem_of_getElem? (l := k2_sels lw_privs_2) (i := 15) rfl) tp_2 rfl
theorem tw_32 : Cond.selects yX10_standing.cls yX10_standing yX10_standing ∈ tbg := tbg_in (List.mem_of_getElem? (l := k2_sels lw_privs_3) (i := 0) rfl) tp_3 rfl
theorem tw_33 : Cond.selects yX10_isDoor.cls yX10_isDoor yX10_isDoor ∈ tbg := tbg_in (List.mem_of_getElem? (l := k2_sels lw_privs_3) (i := 1) rfl) tp_3 rfl
theorem tw_34 : Cond.selects yX10_isBeast.cls yX10_isBeast yX10_isBeast ∈ tbg := tbg_in (List.mem_of_getElem? (l := k2_sels lw_privs_3) (i := 2) rfl) tp_3 rfl
theorem tw_35 : Cond.selects yX10_isOut.cls yX10_isOut yX10_isOut ∈ tbg := tbg_in (List.mem_of_getElem? (l := k2_sels lw_privs_3) (i := 3) rfl) tp_3 rfl
theorem tw_36 : Cond.selects yX10_signBy.cls yX10_signBy yX10_signBy ∈ tbg := tbg_in (List.mem_of_getElem? (l := k2_sels lw_privs_3) (i := 4) rfl) tp_3 rfl
theorem tw_37 : Cond.selects yX10_canSend.cls yX10_canSend yX10_canSend ∈ tbg := tbg_in (List.mem_of_getElem? (l := k2_sels lw_privs_3) (i := 5) rfl) tp_3 rfl
theorem tw_38 : Cond.selects yX10_known.cls yX10_known yX10_known ∈ tbg := tbg_in (List.mem_of_getElem? (l := k2_sels lw_privs_3) (i := 6) rfl) tp_3 rfl
theorem tw_39 : Cond.selects yX10_sends.cls yX10_sends yX10_sends ∈ tbg := tbg_in (List.mem_of_getElem? (l := k2_sels lw_privs_3) (i := 7) rfl) tp_3 rfl
theorem tw_40 : Cond.selects yX10_hour.cls yX10_hour yX10_hour ∈ tbg := tbg_in (List.mem_of_getElem? (l := k2_sels lw_privs_3) (i := 8) rfl) tp_3 rfl
theorem tw_41 : Cond.selects yX10_goesOn.cls yX10_goesOn yX10_goesOn ∈ tbg := tbg_in (List.mem_of_getElem? (l := k2_sels lw_privs_3) (i := 9) rfl) tp_3 rfl
theorem tw_42 : Cond.selects yX10_goal.cls yX10_goal yX10_goal ∈ tbg := tbg_in (List.mem_of_getElem? (l := k2_sels lw_privs_3) (i := 10) rfl) tp_3 rfl
theorem tw_43 : Cond.selects yX10_settlesAt.cls yX10_settlesAt yX10_settlesAt ∈ tbg := tbg_in (List.mem_of_getElem? (l := k2_sels lw_privs_3) (i := 11) rfl) tp_3 rfl
theorem tw_44 : Cond.selects yX10_nextOn.cls yX10_nextOn yX10_nextOn ∈ tbg := tbg_in (List.mem_of_getElem? (l := k2_sels lw_privs_3) (i := 12) rfl) tp_3 rfl
theorem tw_45 : Cond.selects yX10_arrivesIn.cls yX10_arrivesIn yX10_arrivesIn ∈ tbg := tbg_in (List.mem_of_getElem? (l := k2_sels lw_privs_3) (i := 13) rfl) tp_3 rfl
theorem tw_46 : Cond.selects yX10_read.cls yX10_read yX10_read ∈ tbg := tbg_in (List.mem_of_getElem? (l := k2_sels lw_privs_3) (i := 14) rfl) tp_3 rfl
theorem tw_47 : Cond.selects yX10_goesHome.cls yX10_goesHome yX10_goesHome ∈ tbg := tbg_in (List.mem_of_getElem? (l := k2_sels lw_privs_3) (i := 15) rfl) tp_3 rfl
theorem tw_48 : Cond.selects yX10_standsBehind.cls yX10_standsBehind yX10_standsBehind ∈ tbg := tbg_in (List.mem_of_getElem? (l := k2_sels lw_privs_4) (i := 0) rfl) tp_4 rfl
theorem tw_49 : Cond.selects yX10_readThen.cls yX10_readThen yX10_readThen ∈ tbg := tbg_in (List.mem_of_getElem? (l := k2_sels lw_privs_4) (i := 1) rfl) tp_4 rfl
theorem tw_50 : Cond.selects yX10_readSent.cls yX10_readSent yX10_readSent ∈ tbg := tbg_in (List.mem_of_getElem? (l := k2_sels lw_privs_4) (i := 2) rfl) tp_4 rfl
theorem tw_51 : Cond.selects yX10_dealsSum.cls yX10_dealsSum yX10_dealsSum ∈ tbg := tbg_in (List.mem_of_getElem? (l := k2_sels lw_privs_4) (i := 3) rfl) tp_4 rfl
theorem tw_52 : Cond.selects yX10_does.cls yX10_does yX10_does ∈ tbg := tbg_in (List.mem_of_getElem? (l := k2_sels lw_privs_4) (i := 4) rfl) tp_4 rfl
theorem tw_53 : Cond.selects yX10_allWays.cls yX10_allWays yX10_allWays ∈ tbg := tbg_in (List.mem_of_getElem? (l := k2_sels lw_privs_4) (i := 5) rfl) tp_4 rfl
theorem tw_54 : Cond.selects yX10_many.cls yX10_many yX10_many ∈ tbg := tbg_in (List.mem_of_getElem? (l := k2_sels lw_privs_4) (i := 6) rfl) tp_4 rfl
theorem tw_55 : Cond.selects yX10_allCarrots.cls yX10_allCarrots yX10_allCarrots ∈ tbg := tbg_in (List.mem_of_getElem? (l := k2_sels lw_privs_4) (i := 7) rfl) tp_4 rfl
theorem tw_57 : Cond.initialized "DonkeyVerdicts" ∈ tbg := tbg_in (List.mem_of_getElem? (l := tables_1_1) (i := 1) rfl) tq_1 rfl
theorem tw_58 : Cond.initialized "DonkeyVerdicts$Letters" ∈ tbg := tbg_in (List.mem_of_getElem? (l := tables_1_1) (i := 2) rfl) tq_1 rfl
theorem tw_59 : Cond.initialized "DonkeyVerdicts$Scribe" ∈ tbg := tbg_in (List.mem_of_getElem? (l := tables_1_1) (i := 3) rfl) tq_1 rfl
theorem tw_60 : Cond.initialized "DonkeyVerdicts$Court" ∈ tbg := tbg_in (List.mem_of_getElem? (l := tables_1_1) (i := 4) rfl) tq_1 rfl
theorem tw_61 : Cond.initialized "DonkeyVerdicts$Herd" ∈ tbg := tbg_in (List.mem_of_getElem? (l := tables_1_1) (i := 5) rfl) tq_1 rfl
theorem tw_62 : Cond.initialized "DonkeyVerdicts$Shelf" ∈ tbg := tbg_in (List.mem_of_getElem? (l := tables_1_1) (i := 6) rfl) tq_1 rfl
theorem tw_63 : Cond.initialized "DonkeyVerdicts$Foresight" ∈ tbg := tbg_in (List.mem_of_getElem? (l := tables_1_1) (i := 7) rfl) tq_1 rfl
theorem tw_64 : Cond.initialized "DonkeyVerdicts$Dealer" ∈ tbg := tbg_in (List.mem_of_getElem? (l := tables_1_1) (i := 8) rfl) tq_1 rfl
theorem tw_65 : Cond.initialized "DonkeyVerdicts$Balking" ∈ tbg := tbg_in (List.mem_of_getElem? (l := tables_1_1) (i := 9) rfl) tq_1 rfl
theorem tw_70 : Cond.initialized "DonkeyVerdicts$Rows" ∈ tbg := tbg_in (List.mem_of_getElem? (l := tables_1_1) (i := 14) rfl) tq_1 rfl
theorem tw_71 : Cond.initialized "java/lang/Math" ∈ tbg := tbg_in (List.mem_of_getElem? (l := tables_1_1) (i := 15) rfl) tq_1 rfl
theorem tw_72 : Cond.initialized "DonkeyVerdictsModel" ∈ tbg := tbg_in (List.mem_of_getElem? (l := tables_1_1) (i := 16) rfl) tq_1 rfl
theorem tw_73 : Cond.initialized "java/lang/System" ∈ tbg := tbg_in (List.mem_of_getElem? (l := tables_1_1) (i := 17) rfl) tq_1 rfl
theorem tw_74 : Cond.initialized "java/lang/Integer" ∈ tbg := tbg_in (List.mem_of_getElem? (l := tables_1_1) (i := 18) rfl) tq_1 rfl
theorem tw_89 : Cond.fieldLink "DonkeyVerdicts$Letters" 9 "DonkeyVerdicts$Letters" "signs" "[C" ∈ tbg := tbg_in (List.mem_of_getElem? (l := tables_1_1) (i := 33) rfl) tq_1 rfl
theorem tw_90 : Cond.fieldLink "DonkeyVerdicts$Letters" 15 "DonkeyVerdicts$Letters" "length" "I" ∈ tbg := tbg_in (List.mem_of_getElem? (l := tables_1_1) (i := 34) rfl) tq_1 rfl
theorem tw_103 : Cond.fieldLink "DonkeyVerdicts$Scribe" 11 "DonkeyVerdicts$Scribe" "numbers" "[I" ∈ tbg := tbg_in (List.mem_of_getElem? (l := tables_1_1) (i := 47) rfl) tq_1 rfl
theorem tw_104 : Cond.fieldLink "DonkeyVerdicts$Scribe" 15 "DonkeyVerdicts$Scribe" "amount" "I" ∈ tbg := tbg_in (List.mem_of_getElem? (l := tables_1_1) (i := 48) rfl) tq_1 rfl
theorem tw_105 : Cond.fieldLink "DonkeyVerdicts$Scribe" 19 "DonkeyVerdicts$Scribe" "behind" "I" ∈ tbg := tbg_in (List.mem_of_getElem? (l := tables_1_1) (i := 49) rfl) tq_1 rfl
theorem tw_120 : Cond.fieldLink "DonkeyVerdicts$Court" 9 "DonkeyVerdicts$Court" "lengths" "[I" ∈ tbg := tbg_in (List.mem_of_getElem? (l := tables_1_1) (i := 64) rfl) tq_1 rfl
theorem tw_121 : Cond.fieldLink "DonkeyVerdicts$Court" 15 "DonkeyVerdicts$Court" "distances" "[I" ∈ tbg := tbg_in (List.mem_of_getElem? (l := tables_1_1) (i := 65) rfl) tq_1 rfl
theorem tw_122 : Cond.fieldLink "DonkeyVerdicts$Court" 18 "DonkeyVerdicts$Court" "hops" "[I" ∈ tbg := tbg_in (List.mem_of_getElem? (l := tables_1_1) (i := 66) rfl) tq_1 rfl
theorem tw_123 : Cond.fieldLink "DonkeyVerdicts$Court" 21 "DonkeyVerdicts$Court" "doorKinds" "[I" ∈ tbg := tbg_in (List.mem_of_getElem? (l := tables_1_1) (i := 67) rfl) tq_1 rfl
theorem tw_124 : Cond.fieldLink "DonkeyVerdicts$Court" 24 "DonkeyVerdicts$Court" "doorPlaces" "[I" ∈ tbg := tbg_in (List.mem_of_getElem? (l := tables_1_1) (i := 68) rfl) tq_1 rfl
theorem tw_125 : Cond.fieldLink "DonkeyVerdicts$Court" 27 "DonkeyVerdicts$Court" "kinds" "[I" ∈ tbg := tbg_in (List.mem_of_getElem? (l := tables_1_1) (i := 69) rfl) tq_1 rfl
theorem tw_126 : Cond.fieldLink "DonkeyVerdicts$Court" 30 "DonkeyVerdicts$Court" "paces" "[I" ∈ tbg := tbg_in (List.mem_of_getElem? (l := tables_1_1) (i := 70) rfl) tq_1 rfl
theorem tw_127 : Cond.fieldLink "DonkeyVerdicts$Court" 33 "DonkeyVerdicts$Court" "moods" "[I" ∈ tbg := tbg_in (List.mem_of_getElem? (l := tables_1_1) (i := 71) rfl) tq_1 rfl
theorem tw_128 : Cond.fieldLink "DonkeyVerdicts$Court" 36 "DonkeyVerdicts$Court" "carrotsLaid" "[I" ∈ tbg := tbg_in (List.mem_of_getElem? (l := tables_1_1) (i := 72) rfl) tq_1 rfl
theorem tw_129 : Cond.fieldLink "DonkeyVerdicts$Court" 39 "DonkeyVerdicts$Court" "mares" "[I" ∈ tbg := tbg_in (List.mem_of_getElem? (l := tables_1_1) (i := 73) rfl) tq_1 rfl
theorem tw_130 : Cond.fieldLink "DonkeyVerdicts$Court" 42 "DonkeyVerdicts$Court" "places" "I" ∈ tbg := tbg_in (List.mem_of_getElem? (l := tables_1_1) (i := 74) rfl) tq_1 rfl
theorem tw_131 : Cond.fieldLink "DonkeyVerdicts$Court" 46 "DonkeyVerdicts$Court" "doors" "I" ∈ tbg := tbg_in (List.mem_of_getElem? (l := tables_1_1) (i := 75) rfl) tq_1 rfl
theorem tw_132 : Cond.fieldLink "DonkeyVerdicts$Court" 49 "DonkeyVerdicts$Court" "beasts" "I" ∈ tbg := tbg_in (List.mem_of_getElem? (l := tables_1_1) (i := 76) rfl) tq_1 rfl
theorem tw_166 : Cond.fieldLink "DonkeyVerdicts$Herd" 15 "DonkeyVerdicts$Herd" "court" "LDonkeyVerdicts$Court;" ∈ tbg := tbg_in (List.mem_of_getElem? (l := tables_1_1) (i := 110) rfl) tq_1 rfl
theorem tw_167 : Cond.fieldLink "DonkeyVerdicts$Herd" 11 "DonkeyVerdicts$Herd" "cells" "[I" ∈ tbg := tbg_in (List.mem_of_getElem? (l := tables_1_1) (i := 111) rfl) tq_1 rfl
theorem tw_182 : Cond.fieldLink "DonkeyVerdicts$Shelf" 18 "DonkeyVerdicts$Shelf" "herds" "[LDonkeyVerdicts$Herd;" ∈ tbg := tbg_in (List.mem_of_getElem? (l := tables_1_1) (i := 126) rfl) tq_1 rfl
theorem tw_183 : Cond.fieldLink "DonkeyVerdicts$Shelf" 7 "DonkeyVerdicts$Shelf" "top" "I" ∈ tbg := tbg_in (List.mem_of_getElem? (l := tables_1_1) (i := 127) rfl) tq_1 rfl
theorem tw_184 : Cond.fieldLink "DonkeyVerdicts$Shelf" 13 "DonkeyVerdicts$Shelf" "size" "I" ∈ tbg := tbg_in (List.mem_of_getElem? (l := tables_1_1) (i := 128) rfl) tq_1 rfl
theorem tw_200 : Cond.fieldLink "DonkeyVerdicts$Foresight" 9 "DonkeyVerdicts$Foresight" "court" "LDonkeyVerdicts$Court;" ∈ tbg := tbg_in (List.mem_of_getElem? (l := tables_1_1) (i := 144) rfl) tq_1 rfl
theorem tw_201 : Cond.fieldLink "DonkeyVerdicts$Foresight" 20 "DonkeyVerdicts$Foresight" "trial" "LDonkeyVerdicts$Herd;" ∈ tbg := tbg_in (List.mem_of_getElem? (l := tables_1_1) (i := 145) rfl) tq_1 rfl
theorem tw_215 : Cond.fieldLink "DonkeyVerdicts$Dealer" 18 "DonkeyVerdicts$Dealer" "court" "LDonkeyVerdicts$Court;" ∈ tbg := tbg_in (List.mem_of_getElem? (l := tables_1_1) (i := 159) rfl) tq_1 rfl
theorem tw_216 : Cond.fieldLink "DonkeyVerdicts$Dealer" 27 "DonkeyVerdicts$Dealer" "trial" "LDonkeyVerdicts$Herd;" ∈ tbg := tbg_in (List.mem_of_getElem? (l := tables_1_1) (i := 160) rfl) tq_1 rfl
theorem tw_217 : Cond.fieldLink "DonkeyVerdicts$Dealer" 9 "DonkeyVerdicts$Dealer" "hand" "[I" ∈ tbg := tbg_in (List.mem_of_getElem? (l := tables_1_1) (i := 161) rfl) tq_1 rfl
theorem tw_218 : Cond.fieldLink "DonkeyVerdicts$Dealer" 15 "DonkeyVerdicts$Dealer" "best" "[I" ∈ tbg := tbg_in (List.mem_of_getElem? (l := tables_1_1) (i := 162) rfl) tq_1 rfl
theorem tw_236 : Cond.fieldLink "DonkeyVerdicts$Balking" 11 "DonkeyVerdicts$Balking" "levels" "[LDonkeyVerdicts$Herd;" ∈ tbg := tbg_in (List.mem_of_getElem? (l := tables_1_1) (i := 180) rfl) tq_1 rfl
theorem tw_289 : Cond.methodLink "DonkeyVerdicts" 87 yX5_add ∈ tbg := tbg_in (List.mem_of_getElem? (l := tables_1_1) (i := 233) rfl) tq_1 rfl
theorem tw_290 : Cond.instanceMethod yX5_add ∈ tbg := tbg_in (List.mem_of_getElem? (l := tables_1_1) (i := 234) rfl) tq_1 rfl
theorem tw_291 : Cond.selects yX5_add.cls yX5_add yX5_add ∈ tbg := tbg_in (List.mem_of_getElem? (l := tables_1_1) (i := 235) rfl) tq_1 rfl
theorem tw_292 : Cond.code yX5_add cX5_add 2 (some .boolean) ∈ tbg := tbg_in (List.mem_of_getElem? (l := tables_1_1) (i := 236) rfl) tq_1 rfl
theorem tw_293 : Cond.methodLink "DonkeyVerdicts" 91 yX9_open ∈ tbg := tbg_in (List.mem_of_getElem? (l := tables_1_1) (i := 237) rfl) tq_1 rfl
theorem tw_295 : Cond.instanceMethod yX9_open ∈ tbg := tbg_in (List.mem_of_getElem? (l := tables_1_1) (i := 239) rfl) tq_1 rfl
theorem tw_296 : Cond.code yX9_open cX9_open 1 none ∈ tbg := tbg_in (List.mem_of_getElem? (l := tables_1_2) (i := 0) rfl) tq_2 rfl
theorem tw_297 : Cond.methodLink "DonkeyVerdicts" 98 yX7_firstFault ∈ tbg := tbg_in (List.mem_of_getElem? (l := tables_1_2) (i := 1) rfl) tq_2 rfl
theorem tw_298 : Cond.instanceMethod yX7_firstFault ∈ tbg := tbg_in (List.mem_of_getElem? (l := tables_1_2) (i := 2) rfl) tq_2 rfl
theorem tw_299 : Cond.selects yX7_firstFault.cls yX7_firstFault yX7_firstFault ∈ tbg := tbg_in (List.mem_of_getElem? (l := tables_1_2) (i := 3) rfl) tq_2 rfl
theorem tw_300 : Cond.code yX7_firstFault cX7_firstFault 7 (some .int) ∈ tbg := tbg_in (List.mem_of_getElem? (l := tables_1_2) (i := 4) rfl) tq_2 rfl
theorem tw_301 : Cond.methodLink "DonkeyVerdicts$Scribe" 22 yX1_clear ∈ tbg := tbg_in (List.mem_of_getElem? (l := tables_1_2) (i := 5) rfl) tq_2 rfl
theorem tw_302 : Cond.instanceMethod yX1_clear ∈ tbg := tbg_in (List.mem_of_getElem? (l := tables_1_2) (i := 6) rfl) tq_2 rfl
theorem tw_303 : Cond.selects yX1_clear.cls yX1_clear yX1_clear ∈ tbg := tbg_in (List.mem_of_getElem? (l := tables_1_2) (i := 7) rfl) tq_2 rfl
theorem tw_304 : Cond.code yX1_clear cX1_clear 1 none ∈ tbg := tbg_in (List.mem_of_getElem? (l := tables_1_2) (i := 8) rfl) tq_2 rfl
theorem tw_305 : Cond.methodLink "DonkeyVerdicts$Court" 52 yX6_clear ∈ tbg := tbg_in (List.mem_of_getElem? (l := tables_1_2) (i := 9) rfl) tq_2 rfl
theorem tw_306 : Cond.static yX6_clear ∈ tbg := tbg_in (List.mem_of_getElem? (l := tables_1_2) (i := 10) rfl) tq_2 rfl
theorem tw_307 : Cond.code yX6_clear cX6_clear 2 none ∈ tbg := tbg_in (List.mem_of_getElem? (l := tables_1_2) (i := 11) rfl) tq_2 rfl
theorem tw_308 : Cond.methodLink "DonkeyVerdicts$Scribe" 27 yX5_length ∈ tbg := tbg_in (List.mem_of_getElem? (l := tables_1_2) (i := 12) rfl) tq_2 rfl
theorem tw_309 : Cond.instanceMethod yX5_length ∈ tbg := tbg_in (List.mem_of_getElem? (l := tables_1_2) (i := 13) rfl) tq_2 rfl
theorem tw_310 : Cond.selects yX5_length.cls yX5_length yX5_length ∈ tbg := tbg_in (List.mem_of_getElem? (l := tables_1_2) (i := 14) rfl) tq_2 rfl
theorem tw_311 : Cond.code yX5_length cX5_length 1 (some .int) ∈ tbg := tbg_in (List.mem_of_getElem? (l := tables_1_2) (i := 15) rfl) tq_2 rfl
theorem tw_312 : Cond.methodLink "DonkeyVerdicts$Scribe" 33 yX5_at ∈ tbg := tbg_in (List.mem_of_getElem? (l := tables_1_2) (i := 16) rfl) tq_2 rfl
theorem tw_313 : Cond.instanceMethod yX5_at ∈ tbg := tbg_in (List.mem_of_getElem? (l := tables_1_2) (i := 17) rfl) tq_2 rfl
theorem tw_314 : Cond.selects yX5_at.cls yX5_at yX5_at ∈ tbg := tbg_in (List.mem_of_getElem? (l := tables_1_2) (i := 18) rfl) tq_2 rfl
theorem tw_315 : Cond.code yX5_at cX5_at 2 (some .char) ∈ tbg := tbg_in (List.mem_of_getElem? (l := tables_1_2) (i := 19) rfl) tq_2 rfl
theorem tw_316 : Cond.methodLink "DonkeyVerdicts$Scribe" 37 yX7_split ∈ tbg := tbg_in (List.mem_of_getElem? (l := tables_1_2) (i := 20) rfl) tq_2 rfl
theorem tw_318 : Cond.instanceMethod yX7_split ∈ tbg := tbg_in (List.mem_of_getElem? (l := tables_1_2) (i := 22) rfl) tq_2 rfl
theorem tw_319 : Cond.code yX7_split cX7_split 7 (some .boolean) ∈ tbg := tbg_in (List.mem_of_getElem? (l := tables_1_2) (i := 23) rfl) tq_2 rfl
theorem tw_320 : Cond.methodLink "DonkeyVerdicts$Scribe" 45 yX6_put ∈ tbg := tbg_in (List.mem_of_getElem? (l := tables_1_2) (i := 24) rfl) tq_2 rfl
theorem tw_321 : Cond.static yX6_put ∈ tbg := tbg_in (List.mem_of_getElem? (l := tables_1_2) (i := 25) rfl) tq_2 rfl
theorem tw_322 : Cond.code yX6_put cX6_put 3 none ∈ tbg := tbg_in (List.mem_of_getElem? (l := tables_1_2) (i := 26) rfl) tq_2 rfl
theorem tw_323 : Cond.methodLink "DonkeyVerdicts$Scribe" 41 yX7_take ∈ tbg := tbg_in (List.mem_of_getElem? (l := tables_1_2) (i := 27) rfl) tq_2 rfl
theorem tw_325 : Cond.instanceMethod yX7_take ∈ tbg := tbg_in (List.mem_of_getElem? (l := tables_1_2) (i := 29) rfl) tq_2 rfl
theorem tw_326 : Cond.code yX7_take cX7_take 6 (some .boolean) ∈ tbg := tbg_in (List.mem_of_getElem? (l := tables_1_2) (i := 30) rfl) tq_2 rfl
theorem tw_327 : Cond.methodLink "DonkeyVerdicts$Scribe" 51 yX6_at ∈ tbg := tbg_in (List.mem_of_getElem? (l := tables_1_2) (i := 31) rfl) tq_2 rfl
theorem tw_328 : Cond.static yX6_at ∈ tbg := tbg_in (List.mem_of_getElem? (l := tables_1_2) (i := 32) rfl) tq_2 rfl
theorem tw_329 : Cond.code yX6_at cX6_at 2 (some .int) ∈ tbg := tbg_in (List.mem_of_getElem? (l := tables_1_2) (i := 33) rfl) tq_2 rfl
theorem tw_330 : Cond.methodLink "DonkeyVerdicts$Scribe" 54 yX1_takePlaces ∈ tbg := tbg_in (List.mem_of_getElem? (l := tables_1_2) (i := 34) rfl) tq_2 rfl
theorem tw_331 : Cond.instanceMethod yX1_takePlaces ∈ tbg := tbg_in (List.mem_of_getElem? (l := tables_1_2) (i := 35) rfl) tq_2 rfl
theorem tw_332 : Cond.selects yX1_takePlaces.cls yX1_takePlaces yX1_takePlaces ∈ tbg := tbg_in (List.mem_of_getElem? (l := tables_1_2) (i := 36) rfl) tq_2 rfl
theorem tw_333 : Cond.code yX1_takePlaces cX1_takePlaces 2 (some .boolean) ∈ tbg := tbg_in (List.mem_of_getElem? (l := tables_1_2) (i := 37) rfl) tq_2 rfl
theorem tw_334 : Cond.methodLink "DonkeyVerdicts$Scribe" 58 yX1_takeWay ∈ tbg := tbg_in (List.mem_of_getElem? (l := tables_1_2) (i := 38) rfl) tq_2 rfl
theorem tw_335 : Cond.instanceMethod yX1_takeWay ∈ tbg := tbg_in (List.mem_of_getElem? (l := tables_1_2) (i := 39) rfl) tq_2 rfl
theorem tw_336 : Cond.selects yX1_takeWay.cls yX1_takeWay yX1_takeWay ∈ tbg := tbg_in (List.mem_of_getElem? (l := tables_1_2) (i := 40) rfl) tq_2 rfl
theorem tw_337 : Cond.code yX1_takeWay cX1_takeWay 4 (some .boolean) ∈ tbg := tbg_in (List.mem_of_getElem? (l := tables_1_2) (i := 41) rfl) tq_2 rfl
theorem tw_338 : Cond.methodLink "DonkeyVerdicts$Court" 58 yX1_hasPlace ∈ tbg := tbg_in (List.mem_of_getElem? (l := tables_1_2) (i := 42) rfl) tq_2 rfl
theorem tw_339 : Cond.instanceMethod yX1_hasPlace ∈ tbg := tbg_in (List.mem_of_getElem? (l := tables_1_2) (i := 43) rfl) tq_2 rfl
theorem tw_340 : Cond.selects yX1_hasPlace.cls yX1_hasPlace yX1_hasPlace ∈ tbg := tbg_in (List.mem_of_getElem? (l := tables_1_2) (i := 44) rfl) tq_2 rfl
theorem tw_341 : Cond.code yX1_hasPlace cX1_hasPlace 2 (some .boolean) ∈ tbg := tbg_in (List.mem_of_getElem? (l := tables_1_2) (i := 45) rfl) tq_2 rfl
theorem tw_342 : Cond.methodLink "DonkeyVerdicts$Court" 62 yX1_pair ∈ tbg := tbg_in (List.mem_of_getElem? (l := tables_1_2) (i := 46) rfl) tq_2 rfl
theorem tw_343 : Cond.static yX1_pair ∈ tbg := tbg_in (List.mem_of_getElem? (l := tables_1_2) (i := 47) rfl) tq_2 rfl
theorem tw_344 : Cond.code yX1_pair cX1_pair 2 (some .int) ∈ tbg := tbg_in (List.mem_of_getElem? (l := tables_1_2) (i := 48) rfl) tq_2 rfl
theorem tw_345 : Cond.methodLink "DonkeyVerdicts$Court" 66 yX6_put ∈ tbg := tbg_in (List.mem_of_getElem? (l := tables_1_2) (i := 49) rfl) tq_2 rfl
theorem tw_346 : Cond.methodLink "DonkeyVerdicts$Scribe" 62 yX1_takeDoor ∈ tbg := tbg_in (List.mem_of_getElem? (l := tables_1_2) (i := 50) rfl) tq_2 rfl
theorem tw_347 : Cond.instanceMethod yX1_takeDoor ∈ tbg := tbg_in (List.mem_of_getElem? (l := tables_1_2) (i := 51) rfl) tq_2 rfl
theorem tw_348 : Cond.selects yX1_takeDoor.cls yX1_takeDoor yX1_takeDoor ∈ tbg := tbg_in (List.mem_of_getElem? (l := tables_1_2) (i := 52) rfl) tq_2 rfl
theorem tw_349 : Cond.code yX1_takeDoor cX1_takeDoor 3 (some .boolean) ∈ tbg := tbg_in (List.mem_of_getElem? (l := tables_1_2) (i := 53) rfl) tq_2 rfl
theorem tw_350 : Cond.methodLink "DonkeyVerdicts$Scribe" 66 yX1_takeBeast ∈ tbg := tbg_in (List.mem_of_getElem? (l := tables_1_2) (i := 54) rfl) tq_2 rfl
theorem tw_351 : Cond.instanceMethod yX1_takeBeast ∈ tbg := tbg_in (List.mem_of_getElem? (l := tables_1_2) (i := 55) rfl) tq_2 rfl
theorem tw_352 : Cond.selects yX1_takeBeast.cls yX1_takeBeast yX1_takeBeast ∈ tbg := tbg_in (List.mem_of_getElem? (l := tables_1_2) (i := 56) rfl) tq_2 rfl
theorem tw_353 : Cond.code yX1_takeBeast cX1_takeBeast 4 (some .boolean) ∈ tbg := tbg_in (List.mem_of_getElem? (l := tables_1_2) (i := 57) rfl) tq_2 rfl
theorem tw_354 : Cond.methodLink "DonkeyVerdicts$Scribe" 69 yX1_takeCarrots ∈ tbg := tbg_in (List.mem_of_getElem? (l := tables_1_2) (i := 58) rfl) tq_2 rfl
theorem tw_355 : Cond.instanceMethod yX1_takeCarrots ∈ tbg := tbg_in (List.mem_of_getElem? (l := tables_1_2) (i := 59) rfl) tq_2 rfl
theorem tw_356 : Cond.selects yX1_takeCarrots.cls yX1_takeCarrots yX1_takeCarrots ∈ tbg := tbg_in (List.mem_of_getElem? (l := tables_1_2) (i := 60) rfl) tq_2 rfl
theorem tw_357 : Cond.code yX1_takeCarrots cX1_takeCarrots 3 (some .boolean) ∈ tbg := tbg_in (List.mem_of_getElem? (l := tables_1_2) (i := 61) rfl) tq_2 rfl
theorem tw_358 : Cond.methodLink "DonkeyVerdicts$Scribe" 72 yX1_takeMare ∈ tbg := tbg_in (List.mem_of_getElem? (l := tables_1_2) (i := 62) rfl) tq_2 rfl
theorem tw_359 : Cond.instanceMethod yX1_takeMare ∈ tbg := tbg_in (List.mem_of_getElem? (l := tables_1_2) (i := 63) rfl) tq_2 rfl
theorem tw_360 : Cond.selects yX1_takeMare.cls yX1_takeMare yX1_takeMare ∈ tbg := tbg_in (List.mem_of_getElem? (l := tables_1_2) (i := 64) rfl) tq_2 rfl
theorem tw_361 : Cond.code yX1_takeMare cX1_takeMare 2 (some .boolean) ∈ tbg := tbg_in (List.mem_of_getElem? (l := tables_1_2) (i := 65) rfl) tq_2 rfl
theorem tw_362 : Cond.methodLink "DonkeyVerdicts" 270 yX1_measure ∈ tbg := tbg_in (List.mem_of_getElem? (l := tables_1_2) (i := 66) rfl) tq_2 rfl
theorem tw_363 : Cond.instanceMethod yX1_measure ∈ tbg := tbg_in (List.mem_of_getElem? (l := tables_1_2) (i := 67) rfl) tq_2 rfl
theorem tw_364 : Cond.selects yX1_measure.cls yX1_measure yX1_measure ∈ tbg := tbg_in (List.mem_of_getElem? (l := tables_1_2) (i := 68) rfl) tq_2 rfl
theorem tw_365 : Cond.code yX1_measure cX1_measure 5 none ∈ tbg := tbg_in (List.mem_of_getElem? (l := tables_1_2) (i := 69) rfl) tq_2 rfl
theorem tw_366 : Cond.methodLink "DonkeyVerdicts$Court" 70 yX1_lengthOf ∈ tbg := tbg_in (List.mem_of_getElem? (l := tables_1_2) (i := 70) rfl) tq_2 rfl
theorem tw_367 : Cond.instanceMethod yX1_lengthOf ∈ tbg := tbg_in (List.mem_of_getElem? (l := tables_1_2) (i := 71) rfl) tq_2 rfl
theorem tw_368 : Cond.selects yX1_lengthOf.cls yX1_lengthOf yX1_lengthOf ∈ tbg := tbg_in (List.mem_of_getElem? (l := tables_1_2) (i := 72) rfl) tq_2 rfl
theorem tw_369 : Cond.code yX1_lengthOf cX1_lengthOf 3 (some .int) ∈ tbg := tbg_in (List.mem_of_getElem? (l := tables_1_2) (i := 73) rfl) tq_2 rfl
theorem tw_370 : Cond.methodLink "DonkeyVerdicts$Court" 84 yX6_at ∈ tbg := tbg_in (List.mem_of_getElem? (l := tables_1_2) (i := 74) rfl) tq_2 rfl
theorem tw_371 : Cond.methodLink "DonkeyVerdicts$Court" 73 yX1_distance ∈ tbg := tbg_in (List.mem_of_getElem? (l := tables_1_2) (i := 75) rfl) tq_2 rfl
theorem tw_373 : Cond.instanceMethod yX1_distance ∈ tbg := tbg_in (List.mem_of_getElem? (l := tables_1_2) (i := 77) rfl) tq_2 rfl
theorem tw_374 : Cond.code yX1_distance cX1_distance 3 (some .int) ∈ tbg := tbg_in (List.mem_of_getElem? (l := tables_1_2) (i := 78) rfl) tq_2 rfl
theorem tw_375 : Cond.methodLink "DonkeyVerdicts$Court" 76 Lib.Math.min.name ∈ tbg := tbg_in (List.mem_of_getElem? (l := tables_1_2) (i := 79) rfl) tq_2 rfl
theorem tw_376 : Cond.static Lib.Math.min.name ∈ tbg := tbg_in (List.mem_of_getElem? (l := tables_1_2) (i := 80) rfl) tq_2 rfl
theorem tw_377 : Cond.code Lib.Math.min.name Lib.Math.min.code 2 (some .int) ∈ tbg := tbg_in (List.mem_of_getElem? (l := tables_1_2) (i := 81) rfl) tq_2 rfl
theorem tw_378 : Cond.methodLink "DonkeyVerdicts$Court" 81 yX1_lowestHop ∈ tbg := tbg_in (List.mem_of_getElem? (l := tables_1_2) (i := 82) rfl) tq_2 rfl
theorem tw_380 : Cond.instanceMethod yX1_lowestHop ∈ tbg := tbg_in (List.mem_of_getElem? (l := tables_1_2) (i := 84) rfl) tq_2 rfl
theorem tw_381 : Cond.code yX1_lowestHop cX1_lowestHop 5 (some .int) ∈ tbg := tbg_in (List.mem_of_getElem? (l := tables_1_2) (i := 85) rfl) tq_2 rfl
theorem tw_382 : Cond.methodLink "DonkeyVerdicts" 273 yX4_gather ∈ tbg := tbg_in (List.mem_of_getElem? (l := tables_1_2) (i := 86) rfl) tq_2 rfl
theorem tw_383 : Cond.instanceMethod yX4_gather ∈ tbg := tbg_in (List.mem_of_getElem? (l := tables_1_2) (i := 87) rfl) tq_2 rfl
theorem tw_384 : Cond.selects yX4_gather.cls yX4_gather yX4_gather ∈ tbg := tbg_in (List.mem_of_getElem? (l := tables_1_2) (i := 88) rfl) tq_2 rfl
theorem tw_385 : Cond.code yX4_gather cX4_gather 2 none ∈ tbg := tbg_in (List.mem_of_getElem? (l := tables_1_2) (i := 89) rfl) tq_2 rfl
theorem tw_386 : Cond.methodLink "DonkeyVerdicts$Herd" 35 yX6_clear ∈ tbg := tbg_in (List.mem_of_getElem? (l := tables_1_2) (i := 90) rfl) tq_2 rfl
theorem tw_387 : Cond.methodLink "DonkeyVerdicts$Herd" 39 yX1_beasts ∈ tbg := tbg_in (List.mem_of_getElem? (l := tables_1_2) (i := 91) rfl) tq_2 rfl
theorem tw_388 : Cond.instanceMethod yX1_beasts ∈ tbg := tbg_in (List.mem_of_getElem? (l := tables_1_2) (i := 92) rfl) tq_2 rfl
theorem tw_389 : Cond.selects yX1_beasts.cls yX1_beasts yX1_beasts ∈ tbg := tbg_in (List.mem_of_getElem? (l := tables_1_2) (i := 93) rfl) tq_2 rfl
theorem tw_390 : Cond.code yX1_beasts cX1_beasts 1 (some .int) ∈ tbg := tbg_in (List.mem_of_getElem? (l := tables_1_2) (i := 94) rfl) tq_2 rfl
theorem tw_391 : Cond.methodLink "DonkeyVerdicts$Herd" 45 yX1_firstMood ∈ tbg := tbg_in (List.mem_of_getElem? (l := tables_1_2) (i := 95) rfl) tq_2 rfl
theorem tw_392 : Cond.instanceMethod yX1_firstMood ∈ tbg := tbg_in (List.mem_of_getElem? (l := tables_1_2) (i := 96) rfl) tq_2 rfl
theorem tw_393 : Cond.selects yX1_firstMood.cls yX1_firstMood yX1_firstMood ∈ tbg := tbg_in (List.mem_of_getElem? (l := tables_1_2) (i := 97) rfl) tq_2 rfl
theorem tw_394 : Cond.code yX1_firstMood cX1_firstMood 2 (some .int) ∈ tbg := tbg_in (List.mem_of_getElem? (l := tables_1_2) (i := 98) rfl) tq_2 rfl
theorem tw_395 : Cond.methodLink "DonkeyVerdicts$Herd" 49 yX4_set ∈ tbg := tbg_in (List.mem_of_getElem? (l := tables_1_2) (i := 99) rfl) tq_2 rfl
theorem tw_397 : Cond.instanceMethod yX4_set ∈ tbg := tbg_in (List.mem_of_getElem? (l := tables_1_2) (i := 101) rfl) tq_2 rfl
theorem tw_398 : Cond.code yX4_set cX4_set 5 none ∈ tbg := tbg_in (List.mem_of_getElem? (l := tables_1_2) (i := 102) rfl) tq_2 rfl
theorem tw_399 : Cond.methodLink "DonkeyVerdicts$Herd" 53 yX1_places ∈ tbg := tbg_in (List.mem_of_getElem? (l := tables_1_2) (i := 103) rfl) tq_2 rfl
theorem tw_400 : Cond.instanceMethod yX1_places ∈ tbg := tbg_in (List.mem_of_getElem? (l := tables_1_2) (i := 104) rfl) tq_2 rfl
theorem tw_401 : Cond.selects yX1_places.cls yX1_places yX1_places ∈ tbg := tbg_in (List.mem_of_getElem? (l := tables_1_2) (i := 105) rfl) tq_2 rfl
theorem tw_402 : Cond.code yX1_places cX1_places 1 (some .int) ∈ tbg := tbg_in (List.mem_of_getElem? (l := tables_1_2) (i := 106) rfl) tq_2 rfl
theorem tw_403 : Cond.methodLink "DonkeyVerdicts$Herd" 56 yX1_firstCarrots ∈ tbg := tbg_in (List.mem_of_getElem? (l := tables_1_2) (i := 107) rfl) tq_2 rfl
theorem tw_404 : Cond.instanceMethod yX1_firstCarrots ∈ tbg := tbg_in (List.mem_of_getElem? (l := tables_1_2) (i := 108) rfl) tq_2 rfl
theorem tw_405 : Cond.selects yX1_firstCarrots.cls yX1_firstCarrots yX1_firstCarrots ∈ tbg := tbg_in (List.mem_of_getElem? (l := tables_1_2) (i := 109) rfl) tq_2 rfl
theorem tw_406 : Cond.code yX1_firstCarrots cX1_firstCarrots 2 (some .int) ∈ tbg := tbg_in (List.mem_of_getElem? (l := tables_1_2) (i := 110) rfl) tq_2 rfl
theorem tw_407 : Cond.methodLink "DonkeyVerdicts$Herd" 59 yX4_putCarrots ∈ tbg := tbg_in (List.mem_of_getElem? (l := tables_1_2) (i := 111) rfl) tq_2 rfl
theorem tw_408 : Cond.instanceMethod yX4_putCarrots ∈ tbg := tbg_in (List.mem_of_getElem? (l := tables_1_2) (i := 112) rfl) tq_2 rfl
theorem tw_409 : Cond.selects yX4_putCarrots.cls yX4_putCarrots yX4_putCarrots ∈ tbg := tbg_in (List.mem_of_getElem? (l := tables_1_2) (i := 113) rfl) tq_2 rfl
theorem tw_410 : Cond.code yX4_putCarrots cX4_putCarrots 3 none ∈ tbg := tbg_in (List.mem_of_getElem? (l := tables_1_2) (i := 114) rfl) tq_2 rfl
theorem tw_411 : Cond.methodLink "DonkeyVerdicts$Herd" 31 yX6_put ∈ tbg := tbg_in (List.mem_of_getElem? (l := tables_1_2) (i := 115) rfl) tq_2 rfl
theorem tw_412 : Cond.methodLink "DonkeyVerdicts" 260 yX8_clear ∈ tbg := tbg_in (List.mem_of_getElem? (l := tables_1_2) (i := 116) rfl) tq_2 rfl
theorem tw_413 : Cond.instanceMethod yX8_clear ∈ tbg := tbg_in (List.mem_of_getElem? (l := tables_1_2) (i := 117) rfl) tq_2 rfl
theorem tw_414 : Cond.selects yX8_clear.cls yX8_clear yX8_clear ∈ tbg := tbg_in (List.mem_of_getElem? (l := tables_1_2) (i := 118) rfl) tq_2 rfl
theorem tw_415 : Cond.code yX8_clear cX8_clear 1 none ∈ tbg := tbg_in (List.mem_of_getElem? (l := tables_1_2) (i := 119) rfl) tq_2 rfl
theorem tw_416 : Cond.methodLink "DonkeyVerdicts" 94 yX5_clear ∈ tbg := tbg_in (List.mem_of_getElem? (l := tables_1_2) (i := 120) rfl) tq_2 rfl
theorem tw_417 : Cond.instanceMethod yX5_clear ∈ tbg := tbg_in (List.mem_of_getElem? (l := tables_1_2) (i := 121) rfl) tq_2 rfl
theorem tw_418 : Cond.selects yX5_clear.cls yX5_clear yX5_clear ∈ tbg := tbg_in (List.mem_of_getElem? (l := tables_1_2) (i := 122) rfl) tq_2 rfl
theorem tw_419 : Cond.code yX5_clear cX5_clear 1 none ∈ tbg := tbg_in (List.mem_of_getElem? (l := tables_1_2) (i := 123) rfl) tq_2 rfl
theorem tw_420 : Cond.fieldLink "DonkeyVerdicts" 10 "DonkeyVerdicts" "text" "LDonkeyVerdicts$Letters;" ∈ tbg := tbg_in (List.mem_of_getElem? (l := tables_1_2) (i := 124) rfl) tq_2 rfl
theorem tw_421 : Cond.fieldLink "DonkeyVerdicts" 19 "DonkeyVerdicts" "scribe" "LDonkeyVerdicts$Scribe;" ∈ tbg := tbg_in (List.mem_of_getElem? (l := tables_1_2) (i := 125) rfl) tq_2 rfl
theorem tw_422 : Cond.fieldLink "DonkeyVerdicts" 26 "DonkeyVerdicts" "court" "LDonkeyVerdicts$Court;" ∈ tbg := tbg_in (List.mem_of_getElem? (l := tables_1_2) (i := 126) rfl) tq_2 rfl
theorem tw_423 : Cond.fieldLink "DonkeyVerdicts" 30 "DonkeyVerdicts" "draft" "LDonkeyVerdicts$Court;" ∈ tbg := tbg_in (List.mem_of_getElem? (l := tables_1_2) (i := 127) rfl) tq_2 rfl
theorem tw_424 : Cond.fieldLink "DonkeyVerdicts" 38 "DonkeyVerdicts" "now" "LDonkeyVerdicts$Herd;" ∈ tbg := tbg_in (List.mem_of_getElem? (l := tables_1_2) (i := 128) rfl) tq_2 rfl
theorem tw_425 : Cond.fieldLink "DonkeyVerdicts" 47 "DonkeyVerdicts" "past" "LDonkeyVerdicts$Shelf;" ∈ tbg := tbg_in (List.mem_of_getElem? (l := tables_1_2) (i := 129) rfl) tq_2 rfl
theorem tw_426 : Cond.fieldLink "DonkeyVerdicts" 51 "DonkeyVerdicts" "kept" "LDonkeyVerdicts$Shelf;" ∈ tbg := tbg_in (List.mem_of_getElem? (l := tables_1_2) (i := 130) rfl) tq_2 rfl
theorem tw_427 : Cond.fieldLink "DonkeyVerdicts" 57 "DonkeyVerdicts" "foresight" "LDonkeyVerdicts$Foresight;" ∈ tbg := tbg_in (List.mem_of_getElem? (l := tables_1_2) (i := 131) rfl) tq_2 rfl
theorem tw_428 : Cond.fieldLink "DonkeyVerdicts" 64 "DonkeyVerdicts" "dealer" "LDonkeyVerdicts$Dealer;" ∈ tbg := tbg_in (List.mem_of_getElem? (l := tables_1_2) (i := 132) rfl) tq_2 rfl
theorem tw_429 : Cond.fieldLink "DonkeyVerdicts" 71 "DonkeyVerdicts" "balking" "LDonkeyVerdicts$Balking;" ∈ tbg := tbg_in (List.mem_of_getElem? (l := tables_1_2) (i := 133) rfl) tq_2 rfl
theorem tw_453 : Cond.instanceMethod yX9_write ∈ tbg := tbg_in (List.mem_of_getElem? (l := tables_1_2) (i := 157) rfl) tq_2 rfl
theorem tw_454 : Cond.selects yX9_write.cls yX9_write yX9_write ∈ tbg := tbg_in (List.mem_of_getElem? (l := tables_1_2) (i := 158) rfl) tq_2 rfl
theorem tw_455 : Cond.code yX9_write cX9_write 2 (some .int) ∈ tbg := tbg_in (List.mem_of_getElem? (l := tables_1_2) (i := 159) rfl) tq_2 rfl
theorem tw_456 : Cond.methodLink "DonkeyVerdicts" 97 yX5_length ∈ tbg := tbg_in (List.mem_of_getElem? (l := tables_1_2) (i := 160) rfl) tq_2 rfl
theorem tw_458 : Cond.instanceMethod yX9_wipe ∈ tbg := tbg_in (List.mem_of_getElem? (l := tables_1_2) (i := 162) rfl) tq_2 rfl
theorem tw_459 : Cond.selects yX9_wipe.cls yX9_wipe yX9_wipe ∈ tbg := tbg_in (List.mem_of_getElem? (l := tables_1_2) (i := 163) rfl) tq_2 rfl
theorem tw_460 : Cond.code yX9_wipe cX9_wipe 2 (some .int) ∈ tbg := tbg_in (List.mem_of_getElem? (l := tables_1_2) (i := 164) rfl) tq_2 rfl
theorem tw_462 : Cond.instanceMethod yX9_fault ∈ tbg := tbg_in (List.mem_of_getElem? (l := tables_1_2) (i := 166) rfl) tq_2 rfl
theorem tw_463 : Cond.selects yX9_fault.cls yX9_fault yX9_fault ∈ tbg := tbg_in (List.mem_of_getElem? (l := tables_1_2) (i := 167) rfl) tq_2 rfl
theorem tw_464 : Cond.code yX9_fault cX9_fault 1 (some .int) ∈ tbg := tbg_in (List.mem_of_getElem? (l := tables_1_2) (i := 168) rfl) tq_2 rfl
theorem tw_466 : Cond.instanceMethod yX9_lay ∈ tbg := tbg_in (List.mem_of_getElem? (l := tables_1_2) (i := 170) rfl) tq_2 rfl
theorem tw_467 : Cond.selects yX9_lay.cls yX9_lay yX9_lay ∈ tbg := tbg_in (List.mem_of_getElem? (l := tables_1_2) (i := 171) rfl) tq_2 rfl
theorem tw_468 : Cond.code yX9_lay cX9_lay 1 (some .int) ∈ tbg := tbg_in (List.mem_of_getElem? (l := tables_1_2) (i := 172) rfl) tq_2 rfl
theorem tw_469 : Cond.methodLink "DonkeyVerdicts" 102 yX1_doors ∈ tbg := tbg_in (List.mem_of_getElem? (l := tables_1_2) (i := 173) rfl) tq_2 rfl
theorem tw_470 : Cond.instanceMethod yX1_doors ∈ tbg := tbg_in (List.mem_of_getElem? (l := tables_1_2) (i := 174) rfl) tq_2 rfl
theorem tw_471 : Cond.selects yX1_doors.cls yX1_doors yX1_doors ∈ tbg := tbg_in (List.mem_of_getElem? (l := tables_1_2) (i := 175) rfl) tq_2 rfl
theorem tw_472 : Cond.code yX1_doors cX1_doors 1 (some .int) ∈ tbg := tbg_in (List.mem_of_getElem? (l := tables_1_2) (i := 176) rfl) tq_2 rfl
theorem tw_473 : Cond.methodLink "DonkeyVerdicts" 105 yX1_beasts ∈ tbg := tbg_in (List.mem_of_getElem? (l := tables_1_2) (i := 177) rfl) tq_2 rfl
theorem tw_475 : Cond.instanceMethod yX9_place ∈ tbg := tbg_in (List.mem_of_getElem? (l := tables_1_2) (i := 179) rfl) tq_2 rfl
theorem tw_476 : Cond.selects yX9_place.cls yX9_place yX9_place ∈ tbg := tbg_in (List.mem_of_getElem? (l := tables_1_2) (i := 180) rfl) tq_2 rfl
theorem tw_477 : Cond.code yX9_place cX9_place 3 (some .int) ∈ tbg := tbg_in (List.mem_of_getElem? (l := tables_1_2) (i := 181) rfl) tq_2 rfl
theorem tw_478 : Cond.methodLink "DonkeyVerdicts" 108 yX1_hasPlace ∈ tbg := tbg_in (List.mem_of_getElem? (l := tables_1_2) (i := 182) rfl) tq_2 rfl
theorem tw_479 : Cond.methodLink "DonkeyVerdicts" 112 yX4_carrotsIn ∈ tbg := tbg_in (List.mem_of_getElem? (l := tables_1_2) (i := 183) rfl) tq_2 rfl
theorem tw_480 : Cond.instanceMethod yX4_carrotsIn ∈ tbg := tbg_in (List.mem_of_getElem? (l := tables_1_2) (i := 184) rfl) tq_2 rfl
theorem tw_481 : Cond.selects yX4_carrotsIn.cls yX4_carrotsIn yX4_carrotsIn ∈ tbg := tbg_in (List.mem_of_getElem? (l := tables_1_2) (i := 185) rfl) tq_2 rfl
theorem tw_482 : Cond.code yX4_carrotsIn cX4_carrotsIn 2 (some .int) ∈ tbg := tbg_in (List.mem_of_getElem? (l := tables_1_2) (i := 186) rfl) tq_2 rfl
theorem tw_483 : Cond.methodLink "DonkeyVerdicts$Herd" 25 yX6_at ∈ tbg := tbg_in (List.mem_of_getElem? (l := tables_1_2) (i := 187) rfl) tq_2 rfl
theorem tw_484 : Cond.methodLink "DonkeyVerdicts" 116 yX1_hasMare ∈ tbg := tbg_in (List.mem_of_getElem? (l := tables_1_2) (i := 188) rfl) tq_2 rfl
theorem tw_485 : Cond.instanceMethod yX1_hasMare ∈ tbg := tbg_in (List.mem_of_getElem? (l := tables_1_2) (i := 189) rfl) tq_2 rfl
theorem tw_486 : Cond.selects yX1_hasMare.cls yX1_hasMare yX1_hasMare ∈ tbg := tbg_in (List.mem_of_getElem? (l := tables_1_2) (i := 190) rfl) tq_2 rfl
theorem tw_487 : Cond.code yX1_hasMare cX1_hasMare 2 (some .boolean) ∈ tbg := tbg_in (List.mem_of_getElem? (l := tables_1_2) (i := 191) rfl) tq_2 rfl
theorem tw_488 : Cond.methodLink "DonkeyVerdicts" 119 yX4_beastsIn ∈ tbg := tbg_in (List.mem_of_getElem? (l := tables_1_2) (i := 192) rfl) tq_2 rfl
theorem tw_489 : Cond.instanceMethod yX4_beastsIn ∈ tbg := tbg_in (List.mem_of_getElem? (l := tables_1_2) (i := 193) rfl) tq_2 rfl
theorem tw_490 : Cond.selects yX4_beastsIn.cls yX4_beastsIn yX4_beastsIn ∈ tbg := tbg_in (List.mem_of_getElem? (l := tables_1_2) (i := 194) rfl) tq_2 rfl
theorem tw_491 : Cond.code yX4_beastsIn cX4_beastsIn 4 (some .int) ∈ tbg := tbg_in (List.mem_of_getElem? (l := tables_1_2) (i := 195) rfl) tq_2 rfl
theorem tw_492 : Cond.methodLink "DonkeyVerdicts$Herd" 129 yX4_isIn ∈ tbg := tbg_in (List.mem_of_getElem? (l := tables_1_2) (i := 196) rfl) tq_2 rfl
theorem tw_493 : Cond.instanceMethod yX4_isIn ∈ tbg := tbg_in (List.mem_of_getElem? (l := tables_1_2) (i := 197) rfl) tq_2 rfl
theorem tw_494 : Cond.selects yX4_isIn.cls yX4_isIn yX4_isIn ∈ tbg := tbg_in (List.mem_of_getElem? (l := tables_1_2) (i := 198) rfl) tq_2 rfl
theorem tw_495 : Cond.code yX4_isIn cX4_isIn 3 (some .boolean) ∈ tbg := tbg_in (List.mem_of_getElem? (l := tables_1_2) (i := 199) rfl) tq_2 rfl
theorem tw_496 : Cond.methodLink "DonkeyVerdicts$Herd" 63 yX4_get ∈ tbg := tbg_in (List.mem_of_getElem? (l := tables_1_2) (i := 200) rfl) tq_2 rfl
theorem tw_497 : Cond.instanceMethod yX4_get ∈ tbg := tbg_in (List.mem_of_getElem? (l := tables_1_2) (i := 201) rfl) tq_2 rfl
theorem tw_498 : Cond.selects yX4_get.cls yX4_get yX4_get ∈ tbg := tbg_in (List.mem_of_getElem? (l := tables_1_2) (i := 202) rfl) tq_2 rfl
theorem tw_499 : Cond.code yX4_get cX4_get 4 (some .int) ∈ tbg := tbg_in (List.mem_of_getElem? (l := tables_1_2) (i := 203) rfl) tq_2 rfl
theorem tw_501 : Cond.instanceMethod yX9_way ∈ tbg := tbg_in (List.mem_of_getElem? (l := tables_1_2) (i := 205) rfl) tq_2 rfl
theorem tw_502 : Cond.selects yX9_way.cls yX9_way yX9_way ∈ tbg := tbg_in (List.mem_of_getElem? (l := tables_1_2) (i := 206) rfl) tq_2 rfl
theorem tw_503 : Cond.code yX9_way cX9_way 4 (some .int) ∈ tbg := tbg_in (List.mem_of_getElem? (l := tables_1_2) (i := 207) rfl) tq_2 rfl
theorem tw_504 : Cond.methodLink "DonkeyVerdicts" 122 yX1_lengthOf ∈ tbg := tbg_in (List.mem_of_getElem? (l := tables_1_2) (i := 208) rfl) tq_2 rfl
theorem tw_506 : Cond.instanceMethod yX9_door ∈ tbg := tbg_in (List.mem_of_getElem? (l := tables_1_2) (i := 210) rfl) tq_2 rfl
theorem tw_507 : Cond.selects yX9_door.cls yX9_door yX9_door ∈ tbg := tbg_in (List.mem_of_getElem? (l := tables_1_2) (i := 211) rfl) tq_2 rfl
theorem tw_508 : Cond.code yX9_door cX9_door 3 (some .int) ∈ tbg := tbg_in (List.mem_of_getElem? (l := tables_1_2) (i := 212) rfl) tq_2 rfl
theorem tw_509 : Cond.methodLink "DonkeyVerdicts" 126 yX1_hasDoor ∈ tbg := tbg_in (List.mem_of_getElem? (l := tables_1_2) (i := 213) rfl) tq_2 rfl
theorem tw_510 : Cond.instanceMethod yX1_hasDoor ∈ tbg := tbg_in (List.mem_of_getElem? (l := tables_1_2) (i := 214) rfl) tq_2 rfl
theorem tw_511 : Cond.selects yX1_hasDoor.cls yX1_hasDoor yX1_hasDoor ∈ tbg := tbg_in (List.mem_of_getElem? (l := tables_1_2) (i := 215) rfl) tq_2 rfl
theorem tw_512 : Cond.code yX1_hasDoor cX1_hasDoor 2 (some .boolean) ∈ tbg := tbg_in (List.mem_of_getElem? (l := tables_1_2) (i := 216) rfl) tq_2 rfl
theorem tw_513 : Cond.methodLink "DonkeyVerdicts" 129 yX1_doorKind ∈ tbg := tbg_in (List.mem_of_getElem? (l := tables_1_2) (i := 217) rfl) tq_2 rfl
theorem tw_514 : Cond.instanceMethod yX1_doorKind ∈ tbg := tbg_in (List.mem_of_getElem? (l := tables_1_2) (i := 218) rfl) tq_2 rfl
theorem tw_515 : Cond.selects yX1_doorKind.cls yX1_doorKind yX1_doorKind ∈ tbg := tbg_in (List.mem_of_getElem? (l := tables_1_2) (i := 219) rfl) tq_2 rfl
theorem tw_516 : Cond.code yX1_doorKind cX1_doorKind 2 (some .int) ∈ tbg := tbg_in (List.mem_of_getElem? (l := tables_1_2) (i := 220) rfl) tq_2 rfl
theorem tw_517 : Cond.methodLink "DonkeyVerdicts" 132 yX1_doorPlace ∈ tbg := tbg_in (List.mem_of_getElem? (l := tables_1_2) (i := 221) rfl) tq_2 rfl
theorem tw_518 : Cond.instanceMethod yX1_doorPlace ∈ tbg := tbg_in (List.mem_of_getElem? (l := tables_1_2) (i := 222) rfl) tq_2 rfl
theorem tw_519 : Cond.selects yX1_doorPlace.cls yX1_doorPlace yX1_doorPlace ∈ tbg := tbg_in (List.mem_of_getElem? (l := tables_1_2) (i := 223) rfl) tq_2 rfl
theorem tw_520 : Cond.code yX1_doorPlace cX1_doorPlace 2 (some .int) ∈ tbg := tbg_in (List.mem_of_getElem? (l := tables_1_2) (i := 224) rfl) tq_2 rfl
theorem tw_522 : Cond.instanceMethod yX9_beast ∈ tbg := tbg_in (List.mem_of_getElem? (l := tables_1_2) (i := 226) rfl) tq_2 rfl
theorem tw_523 : Cond.selects yX9_beast.cls yX9_beast yX9_beast ∈ tbg := tbg_in (List.mem_of_getElem? (l := tables_1_2) (i := 227) rfl) tq_2 rfl
theorem tw_524 : Cond.code yX9_beast cX9_beast 3 (some .int) ∈ tbg := tbg_in (List.mem_of_getElem? (l := tables_1_2) (i := 228) rfl) tq_2 rfl
theorem tw_525 : Cond.methodLink "DonkeyVerdicts" 135 yX1_hasBeast ∈ tbg := tbg_in (List.mem_of_getElem? (l := tables_1_2) (i := 229) rfl) tq_2 rfl
theorem tw_526 : Cond.instanceMethod yX1_hasBeast ∈ tbg := tbg_in (List.mem_of_getElem? (l := tables_1_2) (i := 230) rfl) tq_2 rfl
theorem tw_527 : Cond.selects yX1_hasBeast.cls yX1_hasBeast yX1_hasBeast ∈ tbg := tbg_in (List.mem_of_getElem? (l := tables_1_2) (i := 231) rfl) tq_2 rfl
theorem tw_528 : Cond.code yX1_hasBeast cX1_hasBeast 2 (some .boolean) ∈ tbg := tbg_in (List.mem_of_getElem? (l := tables_1_2) (i := 232) rfl) tq_2 rfl
theorem tw_529 : Cond.methodLink "DonkeyVerdicts" 138 yX1_kind ∈ tbg := tbg_in (List.mem_of_getElem? (l := tables_1_2) (i := 233) rfl) tq_2 rfl
theorem tw_530 : Cond.instanceMethod yX1_kind ∈ tbg := tbg_in (List.mem_of_getElem? (l := tables_1_2) (i := 234) rfl) tq_2 rfl
theorem tw_531 : Cond.selects yX1_kind.cls yX1_kind yX1_kind ∈ tbg := tbg_in (List.mem_of_getElem? (l := tables_1_2) (i := 235) rfl) tq_2 rfl
theorem tw_532 : Cond.code yX1_kind cX1_kind 2 (some .int) ∈ tbg := tbg_in (List.mem_of_getElem? (l := tables_1_2) (i := 236) rfl) tq_2 rfl
theorem tw_533 : Cond.methodLink "DonkeyVerdicts" 141 yX1_pace ∈ tbg := tbg_in (List.mem_of_getElem? (l := tables_1_2) (i := 237) rfl) tq_2 rfl
theorem tw_534 : Cond.instanceMethod yX1_pace ∈ tbg := tbg_in (List.mem_of_getElem? (l := tables_1_2) (i := 238) rfl) tq_2 rfl
theorem tw_535 : Cond.selects yX1_pace.cls yX1_pace yX1_pace ∈ tbg := tbg_in (List.mem_of_getElem? (l := tables_1_2) (i := 239) rfl) tq_2 rfl
theorem tw_536 : Cond.code yX1_pace cX1_pace 2 (some .int) ∈ tbg := tbg_in (List.mem_of_getElem? (l := tables_1_3) (i := 0) rfl) tq_3 rfl
theorem tw_537 : Cond.methodLink "DonkeyVerdicts" 144 yX4_get ∈ tbg := tbg_in (List.mem_of_getElem? (l := tables_1_3) (i := 1) rfl) tq_3 rfl
theorem tw_539 : Cond.instanceMethod yX9_sign ∈ tbg := tbg_in (List.mem_of_getElem? (l := tables_1_3) (i := 3) rfl) tq_3 rfl
theorem tw_540 : Cond.selects yX9_sign.cls yX9_sign yX9_sign ∈ tbg := tbg_in (List.mem_of_getElem? (l := tables_1_3) (i := 4) rfl) tq_3 rfl
theorem tw_541 : Cond.code yX9_sign cX9_sign 3 (some .int) ∈ tbg := tbg_in (List.mem_of_getElem? (l := tables_1_3) (i := 5) rfl) tq_3 rfl
theorem tw_542 : Cond.methodLink "DonkeyVerdicts" 147 yX4_carries ∈ tbg := tbg_in (List.mem_of_getElem? (l := tables_1_3) (i := 6) rfl) tq_3 rfl
theorem tw_543 : Cond.instanceMethod yX4_carries ∈ tbg := tbg_in (List.mem_of_getElem? (l := tables_1_3) (i := 7) rfl) tq_3 rfl
theorem tw_544 : Cond.selects yX4_carries.cls yX4_carries yX4_carries ∈ tbg := tbg_in (List.mem_of_getElem? (l := tables_1_3) (i := 8) rfl) tq_3 rfl
theorem tw_545 : Cond.code yX4_carries cX4_carries 2 (some .boolean) ∈ tbg := tbg_in (List.mem_of_getElem? (l := tables_1_3) (i := 9) rfl) tq_3 rfl
theorem tw_546 : Cond.methodLink "DonkeyVerdicts$Herd" 67 yX4_is ∈ tbg := tbg_in (List.mem_of_getElem? (l := tables_1_3) (i := 10) rfl) tq_3 rfl
theorem tw_547 : Cond.instanceMethod yX4_is ∈ tbg := tbg_in (List.mem_of_getElem? (l := tables_1_3) (i := 11) rfl) tq_3 rfl
theorem tw_548 : Cond.selects yX4_is.cls yX4_is yX4_is ∈ tbg := tbg_in (List.mem_of_getElem? (l := tables_1_3) (i := 12) rfl) tq_3 rfl
theorem tw_549 : Cond.code yX4_is cX4_is 3 (some .boolean) ∈ tbg := tbg_in (List.mem_of_getElem? (l := tables_1_3) (i := 13) rfl) tq_3 rfl
theorem tw_550 : Cond.methodLink "DonkeyVerdicts" 150 yX4_signOf ∈ tbg := tbg_in (List.mem_of_getElem? (l := tables_1_3) (i := 14) rfl) tq_3 rfl
theorem tw_551 : Cond.instanceMethod yX4_signOf ∈ tbg := tbg_in (List.mem_of_getElem? (l := tables_1_3) (i := 15) rfl) tq_3 rfl
theorem tw_552 : Cond.selects yX4_signOf.cls yX4_signOf yX4_signOf ∈ tbg := tbg_in (List.mem_of_getElem? (l := tables_1_3) (i := 16) rfl) tq_3 rfl
theorem tw_553 : Cond.code yX4_signOf cX4_signOf 5 (some .int) ∈ tbg := tbg_in (List.mem_of_getElem? (l := tables_1_3) (i := 17) rfl) tq_3 rfl
theorem tw_554 : Cond.methodLink "DonkeyVerdicts$Herd" 103 yX1_kind ∈ tbg := tbg_in (List.mem_of_getElem? (l := tables_1_3) (i := 18) rfl) tq_3 rfl
theorem tw_555 : Cond.methodLink "DonkeyVerdicts$Herd" 112 Lib.Math.min.name ∈ tbg := tbg_in (List.mem_of_getElem? (l := tables_1_3) (i := 19) rfl) tq_3 rfl
theorem tw_556 : Cond.methodLink "DonkeyVerdicts$Herd" 117 Lib.Math.max.name ∈ tbg := tbg_in (List.mem_of_getElem? (l := tables_1_3) (i := 20) rfl) tq_3 rfl
theorem tw_557 : Cond.static Lib.Math.max.name ∈ tbg := tbg_in (List.mem_of_getElem? (l := tables_1_3) (i := 21) rfl) tq_3 rfl
theorem tw_558 : Cond.code Lib.Math.max.name Lib.Math.max.code 2 (some .int) ∈ tbg := tbg_in (List.mem_of_getElem? (l := tables_1_3) (i := 22) rfl) tq_3 rfl
theorem tw_560 : Cond.instanceMethod yX9_send ∈ tbg := tbg_in (List.mem_of_getElem? (l := tables_1_3) (i := 24) rfl) tq_3 rfl
theorem tw_561 : Cond.selects yX9_send.cls yX9_send yX9_send ∈ tbg := tbg_in (List.mem_of_getElem? (l := tables_1_3) (i := 25) rfl) tq_3 rfl
theorem tw_562 : Cond.code yX9_send cX9_send 4 (some .int) ∈ tbg := tbg_in (List.mem_of_getElem? (l := tables_1_3) (i := 26) rfl) tq_3 rfl
theorem tw_563 : Cond.methodLink "DonkeyVerdicts" 153 yX9_isVerdict ∈ tbg := tbg_in (List.mem_of_getElem? (l := tables_1_3) (i := 27) rfl) tq_3 rfl
theorem tw_564 : Cond.static yX9_isVerdict ∈ tbg := tbg_in (List.mem_of_getElem? (l := tables_1_3) (i := 28) rfl) tq_3 rfl
theorem tw_565 : Cond.code yX9_isVerdict cX9_isVerdict 1 (some .boolean) ∈ tbg := tbg_in (List.mem_of_getElem? (l := tables_1_3) (i := 29) rfl) tq_3 rfl
theorem tw_566 : Cond.methodLink "DonkeyVerdicts" 156 yX4_canBeSent ∈ tbg := tbg_in (List.mem_of_getElem? (l := tables_1_3) (i := 30) rfl) tq_3 rfl
theorem tw_567 : Cond.instanceMethod yX4_canBeSent ∈ tbg := tbg_in (List.mem_of_getElem? (l := tables_1_3) (i := 31) rfl) tq_3 rfl
theorem tw_568 : Cond.selects yX4_canBeSent.cls yX4_canBeSent yX4_canBeSent ∈ tbg := tbg_in (List.mem_of_getElem? (l := tables_1_3) (i := 32) rfl) tq_3 rfl
theorem tw_569 : Cond.code yX4_canBeSent cX4_canBeSent 3 (some .boolean) ∈ tbg := tbg_in (List.mem_of_getElem? (l := tables_1_3) (i := 33) rfl) tq_3 rfl
theorem tw_570 : Cond.methodLink "DonkeyVerdicts$Herd" 71 yX1_doorPlace ∈ tbg := tbg_in (List.mem_of_getElem? (l := tables_1_3) (i := 34) rfl) tq_3 rfl
theorem tw_571 : Cond.methodLink "DonkeyVerdicts$Herd" 74 yX1_isReached ∈ tbg := tbg_in (List.mem_of_getElem? (l := tables_1_3) (i := 35) rfl) tq_3 rfl
theorem tw_572 : Cond.instanceMethod yX1_isReached ∈ tbg := tbg_in (List.mem_of_getElem? (l := tables_1_3) (i := 36) rfl) tq_3 rfl
theorem tw_573 : Cond.selects yX1_isReached.cls yX1_isReached yX1_isReached ∈ tbg := tbg_in (List.mem_of_getElem? (l := tables_1_3) (i := 37) rfl) tq_3 rfl
theorem tw_574 : Cond.code yX1_isReached cX1_isReached 3 (some .boolean) ∈ tbg := tbg_in (List.mem_of_getElem? (l := tables_1_3) (i := 38) rfl) tq_3 rfl
theorem tw_575 : Cond.methodLink "DonkeyVerdicts" 160 yX8_push ∈ tbg := tbg_in (List.mem_of_getElem? (l := tables_1_3) (i := 39) rfl) tq_3 rfl
theorem tw_576 : Cond.instanceMethod yX8_push ∈ tbg := tbg_in (List.mem_of_getElem? (l := tables_1_3) (i := 40) rfl) tq_3 rfl
theorem tw_577 : Cond.selects yX8_push.cls yX8_push yX8_push ∈ tbg := tbg_in (List.mem_of_getElem? (l := tables_1_3) (i := 41) rfl) tq_3 rfl
theorem tw_578 : Cond.code yX8_push cX8_push 2 none ∈ tbg := tbg_in (List.mem_of_getElem? (l := tables_1_3) (i := 42) rfl) tq_3 rfl
theorem tw_579 : Cond.methodLink "DonkeyVerdicts$Shelf" 25 Lib.Math.min.name ∈ tbg := tbg_in (List.mem_of_getElem? (l := tables_1_3) (i := 43) rfl) tq_3 rfl
theorem tw_580 : Cond.methodLink "DonkeyVerdicts$Shelf" 31 yX4_copy ∈ tbg := tbg_in (List.mem_of_getElem? (l := tables_1_3) (i := 44) rfl) tq_3 rfl
theorem tw_581 : Cond.instanceMethod yX4_copy ∈ tbg := tbg_in (List.mem_of_getElem? (l := tables_1_3) (i := 45) rfl) tq_3 rfl
theorem tw_582 : Cond.selects yX4_copy.cls yX4_copy yX4_copy ∈ tbg := tbg_in (List.mem_of_getElem? (l := tables_1_3) (i := 46) rfl) tq_3 rfl
theorem tw_583 : Cond.code yX4_copy cX4_copy 2 none ∈ tbg := tbg_in (List.mem_of_getElem? (l := tables_1_3) (i := 47) rfl) tq_3 rfl
theorem tw_584 : Cond.methodLink "DonkeyVerdicts$Herd" 19 arraycopyName ∈ tbg := tbg_in (List.mem_of_getElem? (l := tables_1_3) (i := 48) rfl) tq_3 rfl
theorem tw_585 : Cond.static arraycopyName ∈ tbg := tbg_in (List.mem_of_getElem? (l := tables_1_3) (i := 49) rfl) tq_3 rfl
theorem tw_586 : Cond.native arraycopyName ∈ tbg := tbg_in (List.mem_of_getElem? (l := tables_1_3) (i := 50) rfl) tq_3 rfl
theorem tw_587 : Cond.methodLink "DonkeyVerdicts" 164 yX4_dispatch ∈ tbg := tbg_in (List.mem_of_getElem? (l := tables_1_3) (i := 51) rfl) tq_3 rfl
theorem tw_588 : Cond.instanceMethod yX4_dispatch ∈ tbg := tbg_in (List.mem_of_getElem? (l := tables_1_3) (i := 52) rfl) tq_3 rfl
theorem tw_589 : Cond.selects yX4_dispatch.cls yX4_dispatch yX4_dispatch ∈ tbg := tbg_in (List.mem_of_getElem? (l := tables_1_3) (i := 53) rfl) tq_3 rfl
theorem tw_590 : Cond.code yX4_dispatch cX4_dispatch 5 none ∈ tbg := tbg_in (List.mem_of_getElem? (l := tables_1_3) (i := 54) rfl) tq_3 rfl
theorem tw_592 : Cond.instanceMethod yX9_pass ∈ tbg := tbg_in (List.mem_of_getElem? (l := tables_1_3) (i := 56) rfl) tq_3 rfl
theorem tw_593 : Cond.selects yX9_pass.cls yX9_pass yX9_pass ∈ tbg := tbg_in (List.mem_of_getElem? (l := tables_1_3) (i := 57) rfl) tq_3 rfl
theorem tw_594 : Cond.code yX9_pass cX9_pass 3 (some .int) ∈ tbg := tbg_in (List.mem_of_getElem? (l := tables_1_3) (i := 58) rfl) tq_3 rfl
theorem tw_595 : Cond.methodLink "DonkeyVerdicts" 168 yX4_goOn ∈ tbg := tbg_in (List.mem_of_getElem? (l := tables_1_3) (i := 59) rfl) tq_3 rfl
theorem tw_596 : Cond.instanceMethod yX4_goOn ∈ tbg := tbg_in (List.mem_of_getElem? (l := tables_1_3) (i := 60) rfl) tq_3 rfl
theorem tw_597 : Cond.selects yX4_goOn.cls yX4_goOn yX4_goOn ∈ tbg := tbg_in (List.mem_of_getElem? (l := tables_1_3) (i := 61) rfl) tq_3 rfl
theorem tw_598 : Cond.code yX4_goOn cX4_goOn 3 none ∈ tbg := tbg_in (List.mem_of_getElem? (l := tables_1_3) (i := 62) rfl) tq_3 rfl
theorem tw_599 : Cond.methodLink "DonkeyVerdicts$Herd" 77 yX4_isUnderWay ∈ tbg := tbg_in (List.mem_of_getElem? (l := tables_1_3) (i := 63) rfl) tq_3 rfl
theorem tw_600 : Cond.instanceMethod yX4_isUnderWay ∈ tbg := tbg_in (List.mem_of_getElem? (l := tables_1_3) (i := 64) rfl) tq_3 rfl
theorem tw_601 : Cond.selects yX4_isUnderWay.cls yX4_isUnderWay yX4_isUnderWay ∈ tbg := tbg_in (List.mem_of_getElem? (l := tables_1_3) (i := 65) rfl) tq_3 rfl
theorem tw_602 : Cond.code yX4_isUnderWay cX4_isUnderWay 2 (some .boolean) ∈ tbg := tbg_in (List.mem_of_getElem? (l := tables_1_3) (i := 66) rfl) tq_3 rfl
theorem tw_603 : Cond.methodLink "DonkeyVerdicts$Herd" 81 yX4_move ∈ tbg := tbg_in (List.mem_of_getElem? (l := tables_1_3) (i := 67) rfl) tq_3 rfl
theorem tw_605 : Cond.instanceMethod yX4_move ∈ tbg := tbg_in (List.mem_of_getElem? (l := tables_1_3) (i := 69) rfl) tq_3 rfl
theorem tw_606 : Cond.code yX4_move cX4_move 6 none ∈ tbg := tbg_in (List.mem_of_getElem? (l := tables_1_3) (i := 70) rfl) tq_3 rfl
theorem tw_607 : Cond.methodLink "DonkeyVerdicts$Herd" 88 yX4_end ∈ tbg := tbg_in (List.mem_of_getElem? (l := tables_1_3) (i := 71) rfl) tq_3 rfl
theorem tw_609 : Cond.instanceMethod yX4_end ∈ tbg := tbg_in (List.mem_of_getElem? (l := tables_1_3) (i := 73) rfl) tq_3 rfl
theorem tw_610 : Cond.code yX4_end cX4_end 2 none ∈ tbg := tbg_in (List.mem_of_getElem? (l := tables_1_3) (i := 74) rfl) tq_3 rfl
theorem tw_611 : Cond.methodLink "DonkeyVerdicts$Herd" 91 yX1_hop ∈ tbg := tbg_in (List.mem_of_getElem? (l := tables_1_3) (i := 75) rfl) tq_3 rfl
theorem tw_612 : Cond.instanceMethod yX1_hop ∈ tbg := tbg_in (List.mem_of_getElem? (l := tables_1_3) (i := 76) rfl) tq_3 rfl
theorem tw_613 : Cond.selects yX1_hop.cls yX1_hop yX1_hop ∈ tbg := tbg_in (List.mem_of_getElem? (l := tables_1_3) (i := 77) rfl) tq_3 rfl
theorem tw_614 : Cond.code yX1_hop cX1_hop 3 (some .int) ∈ tbg := tbg_in (List.mem_of_getElem? (l := tables_1_3) (i := 78) rfl) tq_3 rfl
theorem tw_615 : Cond.methodLink "DonkeyVerdicts$Herd" 94 yX1_lengthOf ∈ tbg := tbg_in (List.mem_of_getElem? (l := tables_1_3) (i := 79) rfl) tq_3 rfl
theorem tw_616 : Cond.methodLink "DonkeyVerdicts$Herd" 97 yX1_pace ∈ tbg := tbg_in (List.mem_of_getElem? (l := tables_1_3) (i := 80) rfl) tq_3 rfl
theorem tw_617 : Cond.methodLink "DonkeyVerdicts$Herd" 100 yX4_arrive ∈ tbg := tbg_in (List.mem_of_getElem? (l := tables_1_3) (i := 81) rfl) tq_3 rfl
theorem tw_619 : Cond.instanceMethod yX4_arrive ∈ tbg := tbg_in (List.mem_of_getElem? (l := tables_1_3) (i := 83) rfl) tq_3 rfl
theorem tw_620 : Cond.code yX4_arrive cX4_arrive 6 none ∈ tbg := tbg_in (List.mem_of_getElem? (l := tables_1_3) (i := 84) rfl) tq_3 rfl
theorem tw_621 : Cond.methodLink "DonkeyVerdicts$Herd" 106 yX4_carrotsIn ∈ tbg := tbg_in (List.mem_of_getElem? (l := tables_1_3) (i := 85) rfl) tq_3 rfl
theorem tw_622 : Cond.methodLink "DonkeyVerdicts$Herd" 109 yX1_hasMare ∈ tbg := tbg_in (List.mem_of_getElem? (l := tables_1_3) (i := 86) rfl) tq_3 rfl
theorem tw_623 : Cond.methodLink "DonkeyVerdicts$Herd" 85 yX4_hours ∈ tbg := tbg_in (List.mem_of_getElem? (l := tables_1_3) (i := 87) rfl) tq_3 rfl
theorem tw_624 : Cond.instanceMethod yX4_hours ∈ tbg := tbg_in (List.mem_of_getElem? (l := tables_1_3) (i := 88) rfl) tq_3 rfl
theorem tw_625 : Cond.selects yX4_hours.cls yX4_hours yX4_hours ∈ tbg := tbg_in (List.mem_of_getElem? (l := tables_1_3) (i := 89) rfl) tq_3 rfl
theorem tw_626 : Cond.code yX4_hours cX4_hours 1 (some .int) ∈ tbg := tbg_in (List.mem_of_getElem? (l := tables_1_3) (i := 90) rfl) tq_3 rfl
theorem tw_627 : Cond.methodLink "DonkeyVerdicts" 172 yX4_hours ∈ tbg := tbg_in (List.mem_of_getElem? (l := tables_1_3) (i := 91) rfl) tq_3 rfl
theorem tw_629 : Cond.instanceMethod yX9_home ∈ tbg := tbg_in (List.mem_of_getElem? (l := tables_1_3) (i := 93) rfl) tq_3 rfl
theorem tw_630 : Cond.selects yX9_home.cls yX9_home yX9_home ∈ tbg := tbg_in (List.mem_of_getElem? (l := tables_1_3) (i := 94) rfl) tq_3 rfl
theorem tw_631 : Cond.code yX9_home cX9_home 3 (some .int) ∈ tbg := tbg_in (List.mem_of_getElem? (l := tables_1_3) (i := 95) rfl) tq_3 rfl
theorem tw_632 : Cond.methodLink "DonkeyVerdicts" 175 yX4_is ∈ tbg := tbg_in (List.mem_of_getElem? (l := tables_1_3) (i := 96) rfl) tq_3 rfl
theorem tw_633 : Cond.methodLink "DonkeyVerdicts" 178 yX4_readOf ∈ tbg := tbg_in (List.mem_of_getElem? (l := tables_1_3) (i := 97) rfl) tq_3 rfl
theorem tw_634 : Cond.instanceMethod yX4_readOf ∈ tbg := tbg_in (List.mem_of_getElem? (l := tables_1_3) (i := 98) rfl) tq_3 rfl
theorem tw_635 : Cond.selects yX4_readOf.cls yX4_readOf yX4_readOf ∈ tbg := tbg_in (List.mem_of_getElem? (l := tables_1_3) (i := 99) rfl) tq_3 rfl
theorem tw_636 : Cond.code yX4_readOf cX4_readOf 2 (some .int) ∈ tbg := tbg_in (List.mem_of_getElem? (l := tables_1_3) (i := 100) rfl) tq_3 rfl
theorem tw_637 : Cond.methodLink "DonkeyVerdicts$Herd" 120 yX4_readOf_ ∈ tbg := tbg_in (List.mem_of_getElem? (l := tables_1_3) (i := 101) rfl) tq_3 rfl
theorem tw_638 : Cond.instanceMethod yX4_readOf_ ∈ tbg := tbg_in (List.mem_of_getElem? (l := tables_1_3) (i := 102) rfl) tq_3 rfl
theorem tw_639 : Cond.selects yX4_readOf_.cls yX4_readOf_ yX4_readOf_ ∈ tbg := tbg_in (List.mem_of_getElem? (l := tables_1_3) (i := 103) rfl) tq_3 rfl
theorem tw_640 : Cond.code yX4_readOf_ cX4_readOf_ 4 (some .int) ∈ tbg := tbg_in (List.mem_of_getElem? (l := tables_1_3) (i := 104) rfl) tq_3 rfl
theorem tw_641 : Cond.methodLink "DonkeyVerdicts$Herd" 123 yX4_signOf ∈ tbg := tbg_in (List.mem_of_getElem? (l := tables_1_3) (i := 105) rfl) tq_3 rfl
theorem tw_642 : Cond.methodLink "DonkeyVerdicts$Herd" 126 yX1_doorKind ∈ tbg := tbg_in (List.mem_of_getElem? (l := tables_1_3) (i := 106) rfl) tq_3 rfl
theorem tw_643 : Cond.methodLink "DonkeyVerdicts" 181 yX4_callHome ∈ tbg := tbg_in (List.mem_of_getElem? (l := tables_1_3) (i := 107) rfl) tq_3 rfl
theorem tw_644 : Cond.instanceMethod yX4_callHome ∈ tbg := tbg_in (List.mem_of_getElem? (l := tables_1_3) (i := 108) rfl) tq_3 rfl
theorem tw_645 : Cond.selects yX4_callHome.cls yX4_callHome yX4_callHome ∈ tbg := tbg_in (List.mem_of_getElem? (l := tables_1_3) (i := 109) rfl) tq_3 rfl
theorem tw_646 : Cond.code yX4_callHome cX4_callHome 2 none ∈ tbg := tbg_in (List.mem_of_getElem? (l := tables_1_3) (i := 110) rfl) tq_3 rfl
theorem tw_648 : Cond.instanceMethod yX9_carrots ∈ tbg := tbg_in (List.mem_of_getElem? (l := tables_1_3) (i := 112) rfl) tq_3 rfl
theorem tw_649 : Cond.selects yX9_carrots.cls yX9_carrots yX9_carrots ∈ tbg := tbg_in (List.mem_of_getElem? (l := tables_1_3) (i := 113) rfl) tq_3 rfl
theorem tw_650 : Cond.code yX9_carrots cX9_carrots 4 (some .int) ∈ tbg := tbg_in (List.mem_of_getElem? (l := tables_1_3) (i := 114) rfl) tq_3 rfl
theorem tw_651 : Cond.methodLink "DonkeyVerdicts" 184 yX4_putCarrots ∈ tbg := tbg_in (List.mem_of_getElem? (l := tables_1_3) (i := 115) rfl) tq_3 rfl
theorem tw_653 : Cond.instanceMethod yX9_undo ∈ tbg := tbg_in (List.mem_of_getElem? (l := tables_1_3) (i := 117) rfl) tq_3 rfl
theorem tw_654 : Cond.selects yX9_undo.cls yX9_undo yX9_undo ∈ tbg := tbg_in (List.mem_of_getElem? (l := tables_1_3) (i := 118) rfl) tq_3 rfl
theorem tw_655 : Cond.code yX9_undo cX9_undo 1 (some .int) ∈ tbg := tbg_in (List.mem_of_getElem? (l := tables_1_3) (i := 119) rfl) tq_3 rfl
theorem tw_656 : Cond.methodLink "DonkeyVerdicts" 188 yX8_pop ∈ tbg := tbg_in (List.mem_of_getElem? (l := tables_1_3) (i := 120) rfl) tq_3 rfl
theorem tw_657 : Cond.instanceMethod yX8_pop ∈ tbg := tbg_in (List.mem_of_getElem? (l := tables_1_3) (i := 121) rfl) tq_3 rfl
theorem tw_658 : Cond.selects yX8_pop.cls yX8_pop yX8_pop ∈ tbg := tbg_in (List.mem_of_getElem? (l := tables_1_3) (i := 122) rfl) tq_3 rfl
theorem tw_659 : Cond.code yX8_pop cX8_pop 2 (some .boolean) ∈ tbg := tbg_in (List.mem_of_getElem? (l := tables_1_3) (i := 123) rfl) tq_3 rfl
theorem tw_660 : Cond.methodLink "DonkeyVerdicts" 192 yX8_size ∈ tbg := tbg_in (List.mem_of_getElem? (l := tables_1_3) (i := 124) rfl) tq_3 rfl
theorem tw_661 : Cond.instanceMethod yX8_size ∈ tbg := tbg_in (List.mem_of_getElem? (l := tables_1_3) (i := 125) rfl) tq_3 rfl
theorem tw_662 : Cond.selects yX8_size.cls yX8_size yX8_size ∈ tbg := tbg_in (List.mem_of_getElem? (l := tables_1_3) (i := 126) rfl) tq_3 rfl
theorem tw_663 : Cond.code yX8_size cX8_size 1 (some .int) ∈ tbg := tbg_in (List.mem_of_getElem? (l := tables_1_3) (i := 127) rfl) tq_3 rfl
theorem tw_665 : Cond.instanceMethod yX9_arrives ∈ tbg := tbg_in (List.mem_of_getElem? (l := tables_1_3) (i := 129) rfl) tq_3 rfl
theorem tw_666 : Cond.selects yX9_arrives.cls yX9_arrives yX9_arrives ∈ tbg := tbg_in (List.mem_of_getElem? (l := tables_1_3) (i := 130) rfl) tq_3 rfl
theorem tw_667 : Cond.code yX9_arrives cX9_arrives 2 (some .int) ∈ tbg := tbg_in (List.mem_of_getElem? (l := tables_1_3) (i := 131) rfl) tq_3 rfl
theorem tw_668 : Cond.methodLink "DonkeyVerdicts" 195 yX3_hoursTill ∈ tbg := tbg_in (List.mem_of_getElem? (l := tables_1_3) (i := 132) rfl) tq_3 rfl
theorem tw_669 : Cond.instanceMethod yX3_hoursTill ∈ tbg := tbg_in (List.mem_of_getElem? (l := tables_1_3) (i := 133) rfl) tq_3 rfl
theorem tw_670 : Cond.selects yX3_hoursTill.cls yX3_hoursTill yX3_hoursTill ∈ tbg := tbg_in (List.mem_of_getElem? (l := tables_1_3) (i := 134) rfl) tq_3 rfl
theorem tw_671 : Cond.code yX3_hoursTill cX3_hoursTill 3 (some .int) ∈ tbg := tbg_in (List.mem_of_getElem? (l := tables_1_3) (i := 135) rfl) tq_3 rfl
theorem tw_672 : Cond.methodLink "DonkeyVerdicts$Foresight" 24 yX4_copy ∈ tbg := tbg_in (List.mem_of_getElem? (l := tables_1_3) (i := 136) rfl) tq_3 rfl
theorem tw_673 : Cond.methodLink "DonkeyVerdicts$Foresight" 28 yX3_awaitBeast ∈ tbg := tbg_in (List.mem_of_getElem? (l := tables_1_3) (i := 137) rfl) tq_3 rfl
theorem tw_675 : Cond.instanceMethod yX3_awaitBeast ∈ tbg := tbg_in (List.mem_of_getElem? (l := tables_1_3) (i := 139) rfl) tq_3 rfl
theorem tw_676 : Cond.code yX3_awaitBeast cX3_awaitBeast 3 (some .int) ∈ tbg := tbg_in (List.mem_of_getElem? (l := tables_1_3) (i := 140) rfl) tq_3 rfl
theorem tw_677 : Cond.methodLink "DonkeyVerdicts$Foresight" 35 yX4_is ∈ tbg := tbg_in (List.mem_of_getElem? (l := tables_1_3) (i := 141) rfl) tq_3 rfl
theorem tw_678 : Cond.methodLink "DonkeyVerdicts$Foresight" 39 yX4_goOn ∈ tbg := tbg_in (List.mem_of_getElem? (l := tables_1_3) (i := 142) rfl) tq_3 rfl
theorem tw_680 : Cond.instanceMethod yX9_reading ∈ tbg := tbg_in (List.mem_of_getElem? (l := tables_1_3) (i := 144) rfl) tq_3 rfl
theorem tw_681 : Cond.selects yX9_reading.cls yX9_reading yX9_reading ∈ tbg := tbg_in (List.mem_of_getElem? (l := tables_1_3) (i := 145) rfl) tq_3 rfl
theorem tw_682 : Cond.code yX9_reading cX9_reading 2 (some .int) ∈ tbg := tbg_in (List.mem_of_getElem? (l := tables_1_3) (i := 146) rfl) tq_3 rfl
theorem tw_683 : Cond.methodLink "DonkeyVerdicts" 199 yX3_readOf ∈ tbg := tbg_in (List.mem_of_getElem? (l := tables_1_3) (i := 147) rfl) tq_3 rfl
theorem tw_684 : Cond.instanceMethod yX3_readOf ∈ tbg := tbg_in (List.mem_of_getElem? (l := tables_1_3) (i := 148) rfl) tq_3 rfl
theorem tw_685 : Cond.selects yX3_readOf.cls yX3_readOf yX3_readOf ∈ tbg := tbg_in (List.mem_of_getElem? (l := tables_1_3) (i := 149) rfl) tq_3 rfl
theorem tw_686 : Cond.code yX3_readOf cX3_readOf 3 (some .int) ∈ tbg := tbg_in (List.mem_of_getElem? (l := tables_1_3) (i := 150) rfl) tq_3 rfl
theorem tw_687 : Cond.methodLink "DonkeyVerdicts$Foresight" 32 yX4_readOf ∈ tbg := tbg_in (List.mem_of_getElem? (l := tables_1_3) (i := 151) rfl) tq_3 rfl
theorem tw_689 : Cond.instanceMethod yX9_right ∈ tbg := tbg_in (List.mem_of_getElem? (l := tables_1_3) (i := 153) rfl) tq_3 rfl
theorem tw_690 : Cond.selects yX9_right.cls yX9_right yX9_right ∈ tbg := tbg_in (List.mem_of_getElem? (l := tables_1_3) (i := 154) rfl) tq_3 rfl
theorem tw_691 : Cond.code yX9_right cX9_right 3 (some .int) ∈ tbg := tbg_in (List.mem_of_getElem? (l := tables_1_3) (i := 155) rfl) tq_3 rfl
theorem tw_692 : Cond.methodLink "DonkeyVerdicts" 201 yX3_rightBeasts ∈ tbg := tbg_in (List.mem_of_getElem? (l := tables_1_3) (i := 156) rfl) tq_3 rfl
theorem tw_693 : Cond.instanceMethod yX3_rightBeasts ∈ tbg := tbg_in (List.mem_of_getElem? (l := tables_1_3) (i := 157) rfl) tq_3 rfl
theorem tw_694 : Cond.selects yX3_rightBeasts.cls yX3_rightBeasts yX3_rightBeasts ∈ tbg := tbg_in (List.mem_of_getElem? (l := tables_1_3) (i := 158) rfl) tq_3 rfl
theorem tw_695 : Cond.code yX3_rightBeasts cX3_rightBeasts 6 (some .int) ∈ tbg := tbg_in (List.mem_of_getElem? (l := tables_1_3) (i := 159) rfl) tq_3 rfl
theorem tw_696 : Cond.methodLink "DonkeyVerdicts$Foresight" 50 yX1_beasts ∈ tbg := tbg_in (List.mem_of_getElem? (l := tables_1_3) (i := 160) rfl) tq_3 rfl
theorem tw_697 : Cond.methodLink "DonkeyVerdicts$Foresight" 56 yX3_trySending ∈ tbg := tbg_in (List.mem_of_getElem? (l := tables_1_3) (i := 161) rfl) tq_3 rfl
theorem tw_699 : Cond.instanceMethod yX3_trySending ∈ tbg := tbg_in (List.mem_of_getElem? (l := tables_1_3) (i := 163) rfl) tq_3 rfl
theorem tw_700 : Cond.code yX3_trySending cX3_trySending 5 (some .boolean) ∈ tbg := tbg_in (List.mem_of_getElem? (l := tables_1_3) (i := 164) rfl) tq_3 rfl
theorem tw_701 : Cond.methodLink "DonkeyVerdicts$Foresight" 43 yX4_canBeSent ∈ tbg := tbg_in (List.mem_of_getElem? (l := tables_1_3) (i := 165) rfl) tq_3 rfl
theorem tw_702 : Cond.methodLink "DonkeyVerdicts$Foresight" 46 yX4_dispatch ∈ tbg := tbg_in (List.mem_of_getElem? (l := tables_1_3) (i := 166) rfl) tq_3 rfl
theorem tw_704 : Cond.instanceMethod yX9_soonest ∈ tbg := tbg_in (List.mem_of_getElem? (l := tables_1_3) (i := 168) rfl) tq_3 rfl
theorem tw_705 : Cond.selects yX9_soonest.cls yX9_soonest yX9_soonest ∈ tbg := tbg_in (List.mem_of_getElem? (l := tables_1_3) (i := 169) rfl) tq_3 rfl
theorem tw_706 : Cond.code yX9_soonest cX9_soonest 3 (some .int) ∈ tbg := tbg_in (List.mem_of_getElem? (l := tables_1_3) (i := 170) rfl) tq_3 rfl
theorem tw_707 : Cond.methodLink "DonkeyVerdicts" 205 yX3_soonestBeast ∈ tbg := tbg_in (List.mem_of_getElem? (l := tables_1_3) (i := 171) rfl) tq_3 rfl
theorem tw_708 : Cond.instanceMethod yX3_soonestBeast ∈ tbg := tbg_in (List.mem_of_getElem? (l := tables_1_3) (i := 172) rfl) tq_3 rfl
theorem tw_709 : Cond.selects yX3_soonestBeast.cls yX3_soonestBeast yX3_soonestBeast ∈ tbg := tbg_in (List.mem_of_getElem? (l := tables_1_3) (i := 173) rfl) tq_3 rfl
theorem tw_710 : Cond.code yX3_soonestBeast cX3_soonestBeast 8 (some .int) ∈ tbg := tbg_in (List.mem_of_getElem? (l := tables_1_3) (i := 174) rfl) tq_3 rfl
theorem tw_712 : Cond.instanceMethod yX9_tell ∈ tbg := tbg_in (List.mem_of_getElem? (l := tables_1_3) (i := 176) rfl) tq_3 rfl
theorem tw_713 : Cond.selects yX9_tell.cls yX9_tell yX9_tell ∈ tbg := tbg_in (List.mem_of_getElem? (l := tables_1_3) (i := 177) rfl) tq_3 rfl
theorem tw_714 : Cond.code yX9_tell cX9_tell 4 (some .int) ∈ tbg := tbg_in (List.mem_of_getElem? (l := tables_1_3) (i := 178) rfl) tq_3 rfl
theorem tw_715 : Cond.methodLink "DonkeyVerdicts" 208 yX3_verdictsReadAs ∈ tbg := tbg_in (List.mem_of_getElem? (l := tables_1_3) (i := 179) rfl) tq_3 rfl
theorem tw_716 : Cond.instanceMethod yX3_verdictsReadAs ∈ tbg := tbg_in (List.mem_of_getElem? (l := tables_1_3) (i := 180) rfl) tq_3 rfl
theorem tw_717 : Cond.selects yX3_verdictsReadAs.cls yX3_verdictsReadAs yX3_verdictsReadAs ∈ tbg := tbg_in (List.mem_of_getElem? (l := tables_1_3) (i := 181) rfl) tq_3 rfl
theorem tw_718 : Cond.code yX3_verdictsReadAs cX3_verdictsReadAs 7 (some .int) ∈ tbg := tbg_in (List.mem_of_getElem? (l := tables_1_3) (i := 182) rfl) tq_3 rfl
theorem tw_719 : Cond.methodLink "DonkeyVerdicts$Foresight" 60 yX4_readOf_ ∈ tbg := tbg_in (List.mem_of_getElem? (l := tables_1_3) (i := 183) rfl) tq_3 rfl
theorem tw_720 : Cond.methodLink "DonkeyVerdicts" 212 yX9_lowestBit ∈ tbg := tbg_in (List.mem_of_getElem? (l := tables_1_3) (i := 184) rfl) tq_3 rfl
theorem tw_721 : Cond.static yX9_lowestBit ∈ tbg := tbg_in (List.mem_of_getElem? (l := tables_1_3) (i := 185) rfl) tq_3 rfl
theorem tw_722 : Cond.code yX9_lowestBit cX9_lowestBit 2 (some .int) ∈ tbg := tbg_in (List.mem_of_getElem? (l := tables_1_3) (i := 186) rfl) tq_3 rfl
theorem tw_724 : Cond.instanceMethod yX9_deal ∈ tbg := tbg_in (List.mem_of_getElem? (l := tables_1_3) (i := 188) rfl) tq_3 rfl
theorem tw_725 : Cond.selects yX9_deal.cls yX9_deal yX9_deal ∈ tbg := tbg_in (List.mem_of_getElem? (l := tables_1_3) (i := 189) rfl) tq_3 rfl
theorem tw_726 : Cond.code yX9_deal cX9_deal 4 (some .int) ∈ tbg := tbg_in (List.mem_of_getElem? (l := tables_1_3) (i := 190) rfl) tq_3 rfl
theorem tw_727 : Cond.methodLink "DonkeyVerdicts" 215 yX2_fewestHours ∈ tbg := tbg_in (List.mem_of_getElem? (l := tables_1_3) (i := 191) rfl) tq_3 rfl
theorem tw_728 : Cond.instanceMethod yX2_fewestHours ∈ tbg := tbg_in (List.mem_of_getElem? (l := tables_1_3) (i := 192) rfl) tq_3 rfl
theorem tw_729 : Cond.selects yX2_fewestHours.cls yX2_fewestHours yX2_fewestHours ∈ tbg := tbg_in (List.mem_of_getElem? (l := tables_1_3) (i := 193) rfl) tq_3 rfl
theorem tw_730 : Cond.code yX2_fewestHours cX2_fewestHours 7 (some .int) ∈ tbg := tbg_in (List.mem_of_getElem? (l := tables_1_3) (i := 194) rfl) tq_3 rfl
theorem tw_731 : Cond.methodLink "DonkeyVerdicts$Dealer" 31 yX1_doors ∈ tbg := tbg_in (List.mem_of_getElem? (l := tables_1_3) (i := 195) rfl) tq_3 rfl
theorem tw_732 : Cond.methodLink "DonkeyVerdicts$Dealer" 37 yX1_beasts ∈ tbg := tbg_in (List.mem_of_getElem? (l := tables_1_3) (i := 196) rfl) tq_3 rfl
theorem tw_733 : Cond.methodLink "DonkeyVerdicts$Dealer" 40 yX2_pick ∈ tbg := tbg_in (List.mem_of_getElem? (l := tables_1_3) (i := 197) rfl) tq_3 rfl
theorem tw_735 : Cond.instanceMethod yX2_pick ∈ tbg := tbg_in (List.mem_of_getElem? (l := tables_1_3) (i := 199) rfl) tq_3 rfl
theorem tw_736 : Cond.code yX2_pick cX2_pick 5 none ∈ tbg := tbg_in (List.mem_of_getElem? (l := tables_1_3) (i := 200) rfl) tq_3 rfl
theorem tw_737 : Cond.methodLink "DonkeyVerdicts$Dealer" 64 yX6_put ∈ tbg := tbg_in (List.mem_of_getElem? (l := tables_1_3) (i := 201) rfl) tq_3 rfl
theorem tw_738 : Cond.methodLink "DonkeyVerdicts$Dealer" 44 yX2_sendHand ∈ tbg := tbg_in (List.mem_of_getElem? (l := tables_1_3) (i := 202) rfl) tq_3 rfl
theorem tw_740 : Cond.instanceMethod yX2_sendHand ∈ tbg := tbg_in (List.mem_of_getElem? (l := tables_1_3) (i := 204) rfl) tq_3 rfl
theorem tw_741 : Cond.code yX2_sendHand cX2_sendHand 5 (some .boolean) ∈ tbg := tbg_in (List.mem_of_getElem? (l := tables_1_3) (i := 205) rfl) tq_3 rfl
theorem tw_742 : Cond.methodLink "DonkeyVerdicts$Dealer" 68 yX4_copy ∈ tbg := tbg_in (List.mem_of_getElem? (l := tables_1_3) (i := 206) rfl) tq_3 rfl
theorem tw_743 : Cond.methodLink "DonkeyVerdicts$Dealer" 58 yX6_at ∈ tbg := tbg_in (List.mem_of_getElem? (l := tables_1_3) (i := 207) rfl) tq_3 rfl
theorem tw_744 : Cond.methodLink "DonkeyVerdicts$Dealer" 72 yX4_canBeSent ∈ tbg := tbg_in (List.mem_of_getElem? (l := tables_1_3) (i := 208) rfl) tq_3 rfl
theorem tw_745 : Cond.methodLink "DonkeyVerdicts$Dealer" 76 yX4_dispatch ∈ tbg := tbg_in (List.mem_of_getElem? (l := tables_1_3) (i := 209) rfl) tq_3 rfl
theorem tw_746 : Cond.methodLink "DonkeyVerdicts$Dealer" 80 yX4_readOf ∈ tbg := tbg_in (List.mem_of_getElem? (l := tables_1_3) (i := 210) rfl) tq_3 rfl
theorem tw_747 : Cond.methodLink "DonkeyVerdicts$Dealer" 48 yX2_awaitHand ∈ tbg := tbg_in (List.mem_of_getElem? (l := tables_1_3) (i := 211) rfl) tq_3 rfl
theorem tw_749 : Cond.instanceMethod yX2_awaitHand ∈ tbg := tbg_in (List.mem_of_getElem? (l := tables_1_3) (i := 213) rfl) tq_3 rfl
theorem tw_750 : Cond.code yX2_awaitHand cX2_awaitHand 5 (some .int) ∈ tbg := tbg_in (List.mem_of_getElem? (l := tables_1_3) (i := 214) rfl) tq_3 rfl
theorem tw_751 : Cond.methodLink "DonkeyVerdicts$Dealer" 83 yX2_going ∈ tbg := tbg_in (List.mem_of_getElem? (l := tables_1_3) (i := 215) rfl) tq_3 rfl
theorem tw_753 : Cond.instanceMethod yX2_going ∈ tbg := tbg_in (List.mem_of_getElem? (l := tables_1_3) (i := 217) rfl) tq_3 rfl
theorem tw_754 : Cond.code yX2_going cX2_going 3 (some .int) ∈ tbg := tbg_in (List.mem_of_getElem? (l := tables_1_3) (i := 218) rfl) tq_3 rfl
theorem tw_755 : Cond.methodLink "DonkeyVerdicts$Dealer" 89 yX4_is ∈ tbg := tbg_in (List.mem_of_getElem? (l := tables_1_3) (i := 219) rfl) tq_3 rfl
theorem tw_756 : Cond.methodLink "DonkeyVerdicts$Dealer" 86 yX4_goOn ∈ tbg := tbg_in (List.mem_of_getElem? (l := tables_1_3) (i := 220) rfl) tq_3 rfl
theorem tw_757 : Cond.methodLink "DonkeyVerdicts$Dealer" 52 arraycopyName ∈ tbg := tbg_in (List.mem_of_getElem? (l := tables_1_3) (i := 221) rfl) tq_3 rfl
theorem tw_758 : Cond.methodLink "DonkeyVerdicts" 218 yX2_beastAt ∈ tbg := tbg_in (List.mem_of_getElem? (l := tables_1_3) (i := 222) rfl) tq_3 rfl
theorem tw_759 : Cond.instanceMethod yX2_beastAt ∈ tbg := tbg_in (List.mem_of_getElem? (l := tables_1_3) (i := 223) rfl) tq_3 rfl
theorem tw_760 : Cond.selects yX2_beastAt.cls yX2_beastAt yX2_beastAt ∈ tbg := tbg_in (List.mem_of_getElem? (l := tables_1_3) (i := 224) rfl) tq_3 rfl
theorem tw_761 : Cond.code yX2_beastAt cX2_beastAt 2 (some .int) ∈ tbg := tbg_in (List.mem_of_getElem? (l := tables_1_3) (i := 225) rfl) tq_3 rfl
theorem tw_763 : Cond.instanceMethod yX9_lure ∈ tbg := tbg_in (List.mem_of_getElem? (l := tables_1_3) (i := 227) rfl) tq_3 rfl
theorem tw_764 : Cond.selects yX9_lure.cls yX9_lure yX9_lure ∈ tbg := tbg_in (List.mem_of_getElem? (l := tables_1_3) (i := 228) rfl) tq_3 rfl
theorem tw_765 : Cond.code yX9_lure cX9_lure 2 (some .int) ∈ tbg := tbg_in (List.mem_of_getElem? (l := tables_1_3) (i := 229) rfl) tq_3 rfl
theorem tw_766 : Cond.methodLink "DonkeyVerdicts" 221 yX3_luringPlace ∈ tbg := tbg_in (List.mem_of_getElem? (l := tables_1_3) (i := 230) rfl) tq_3 rfl
theorem tw_767 : Cond.instanceMethod yX3_luringPlace ∈ tbg := tbg_in (List.mem_of_getElem? (l := tables_1_3) (i := 231) rfl) tq_3 rfl
theorem tw_768 : Cond.selects yX3_luringPlace.cls yX3_luringPlace yX3_luringPlace ∈ tbg := tbg_in (List.mem_of_getElem? (l := tables_1_3) (i := 232) rfl) tq_3 rfl
theorem tw_769 : Cond.code yX3_luringPlace cX3_luringPlace 6 (some .int) ∈ tbg := tbg_in (List.mem_of_getElem? (l := tables_1_3) (i := 233) rfl) tq_3 rfl
theorem tw_770 : Cond.methodLink "DonkeyVerdicts$Foresight" 63 yX1_places ∈ tbg := tbg_in (List.mem_of_getElem? (l := tables_1_3) (i := 234) rfl) tq_3 rfl
theorem tw_771 : Cond.methodLink "DonkeyVerdicts$Foresight" 66 yX4_carrotsIn ∈ tbg := tbg_in (List.mem_of_getElem? (l := tables_1_3) (i := 235) rfl) tq_3 rfl
theorem tw_772 : Cond.methodLink "DonkeyVerdicts$Foresight" 69 Lib.Math.min.name ∈ tbg := tbg_in (List.mem_of_getElem? (l := tables_1_3) (i := 236) rfl) tq_3 rfl
theorem tw_773 : Cond.methodLink "DonkeyVerdicts$Foresight" 74 yX4_putCarrots ∈ tbg := tbg_in (List.mem_of_getElem? (l := tables_1_3) (i := 237) rfl) tq_3 rfl
theorem tw_775 : Cond.instanceMethod yX9_next ∈ tbg := tbg_in (List.mem_of_getElem? (l := tables_1_3) (i := 239) rfl) tq_3 rfl
theorem tw_776 : Cond.selects yX9_next.cls yX9_next yX9_next ∈ tbg := tbg_in (List.mem_of_getElem? (l := tables_1_4) (i := 0) rfl) tq_4 rfl
theorem tw_777 : Cond.code yX9_next cX9_next 3 (some .int) ∈ tbg := tbg_in (List.mem_of_getElem? (l := tables_1_4) (i := 1) rfl) tq_4 rfl
theorem tw_778 : Cond.methodLink "DonkeyVerdicts" 224 yX4_isUnderWay ∈ tbg := tbg_in (List.mem_of_getElem? (l := tables_1_4) (i := 2) rfl) tq_4 rfl
theorem tw_779 : Cond.methodLink "DonkeyVerdicts" 227 yX4_placeAhead ∈ tbg := tbg_in (List.mem_of_getElem? (l := tables_1_4) (i := 3) rfl) tq_4 rfl
theorem tw_780 : Cond.instanceMethod yX4_placeAhead ∈ tbg := tbg_in (List.mem_of_getElem? (l := tables_1_4) (i := 4) rfl) tq_4 rfl
theorem tw_781 : Cond.selects yX4_placeAhead.cls yX4_placeAhead yX4_placeAhead ∈ tbg := tbg_in (List.mem_of_getElem? (l := tables_1_4) (i := 5) rfl) tq_4 rfl
theorem tw_782 : Cond.code yX4_placeAhead cX4_placeAhead 6 (some .int) ∈ tbg := tbg_in (List.mem_of_getElem? (l := tables_1_4) (i := 6) rfl) tq_4 rfl
theorem tw_784 : Cond.instanceMethod yX9_meet ∈ tbg := tbg_in (List.mem_of_getElem? (l := tables_1_4) (i := 8) rfl) tq_4 rfl
theorem tw_785 : Cond.selects yX9_meet.cls yX9_meet yX9_meet ∈ tbg := tbg_in (List.mem_of_getElem? (l := tables_1_4) (i := 9) rfl) tq_4 rfl
theorem tw_786 : Cond.code yX9_meet cX9_meet 3 (some .int) ∈ tbg := tbg_in (List.mem_of_getElem? (l := tables_1_4) (i := 10) rfl) tq_4 rfl
theorem tw_787 : Cond.methodLink "DonkeyVerdicts" 230 yX3_hoursTillMeeting ∈ tbg := tbg_in (List.mem_of_getElem? (l := tables_1_4) (i := 11) rfl) tq_4 rfl
theorem tw_788 : Cond.instanceMethod yX3_hoursTillMeeting ∈ tbg := tbg_in (List.mem_of_getElem? (l := tables_1_4) (i := 12) rfl) tq_4 rfl
theorem tw_789 : Cond.selects yX3_hoursTillMeeting.cls yX3_hoursTillMeeting yX3_hoursTillMeeting ∈ tbg := tbg_in (List.mem_of_getElem? (l := tables_1_4) (i := 13) rfl) tq_4 rfl
theorem tw_790 : Cond.code yX3_hoursTillMeeting cX3_hoursTillMeeting 6 (some .int) ∈ tbg := tbg_in (List.mem_of_getElem? (l := tables_1_4) (i := 14) rfl) tq_4 rfl
theorem tw_791 : Cond.methodLink "DonkeyVerdicts$Foresight" 78 yX4_get ∈ tbg := tbg_in (List.mem_of_getElem? (l := tables_1_4) (i := 15) rfl) tq_4 rfl
theorem tw_792 : Cond.methodLink "DonkeyVerdicts$Foresight" 81 yX4_isIn ∈ tbg := tbg_in (List.mem_of_getElem? (l := tables_1_4) (i := 16) rfl) tq_4 rfl
theorem tw_794 : Cond.instanceMethod yX9_told ∈ tbg := tbg_in (List.mem_of_getElem? (l := tables_1_4) (i := 18) rfl) tq_4 rfl
theorem tw_795 : Cond.selects yX9_told.cls yX9_told yX9_told ∈ tbg := tbg_in (List.mem_of_getElem? (l := tables_1_4) (i := 19) rfl) tq_4 rfl
theorem tw_796 : Cond.code yX9_told cX9_told 3 (some .int) ∈ tbg := tbg_in (List.mem_of_getElem? (l := tables_1_4) (i := 20) rfl) tq_4 rfl
theorem tw_797 : Cond.methodLink "DonkeyVerdicts" 233 yX4_verdictsOfSign ∈ tbg := tbg_in (List.mem_of_getElem? (l := tables_1_4) (i := 21) rfl) tq_4 rfl
theorem tw_798 : Cond.instanceMethod yX4_verdictsOfSign ∈ tbg := tbg_in (List.mem_of_getElem? (l := tables_1_4) (i := 22) rfl) tq_4 rfl
theorem tw_799 : Cond.selects yX4_verdictsOfSign.cls yX4_verdictsOfSign yX4_verdictsOfSign ∈ tbg := tbg_in (List.mem_of_getElem? (l := tables_1_4) (i := 23) rfl) tq_4 rfl
theorem tw_800 : Cond.code yX4_verdictsOfSign cX4_verdictsOfSign 5 (some .int) ∈ tbg := tbg_in (List.mem_of_getElem? (l := tables_1_4) (i := 24) rfl) tq_4 rfl
theorem tw_802 : Cond.instanceMethod yX9_who ∈ tbg := tbg_in (List.mem_of_getElem? (l := tables_1_4) (i := 26) rfl) tq_4 rfl
theorem tw_803 : Cond.selects yX9_who.cls yX9_who yX9_who ∈ tbg := tbg_in (List.mem_of_getElem? (l := tables_1_4) (i := 27) rfl) tq_4 rfl
theorem tw_804 : Cond.code yX9_who cX9_who 8 (some .int) ∈ tbg := tbg_in (List.mem_of_getElem? (l := tables_1_4) (i := 28) rfl) tq_4 rfl
theorem tw_805 : Cond.methodLink "DonkeyVerdicts" 236 yJ6_bitCount_0f7a4 ∈ tbg := tbg_in (List.mem_of_getElem? (l := tables_1_4) (i := 29) rfl) tq_4 rfl
theorem tw_806 : Cond.static yJ6_bitCount_0f7a4 ∈ tbg := tbg_in (List.mem_of_getElem? (l := tables_1_4) (i := 30) rfl) tq_4 rfl
theorem tw_807 : Cond.code yJ6_bitCount_0f7a4 cJ6_bitCount_0f7a4 1 (some .int) ∈ tbg := tbg_in (List.mem_of_getElem? (l := tables_1_4) (i := 31) rfl) tq_4 rfl
theorem tw_808 : Cond.constant "java/lang/Integer" 265 (1431655765 : Int32) ∈ tbg := tbg_in (List.mem_of_getElem? (l := tables_1_4) (i := 32) rfl) tq_4 rfl
theorem tw_809 : Cond.constant "java/lang/Integer" 266 (858993459 : Int32) ∈ tbg := tbg_in (List.mem_of_getElem? (l := tables_1_4) (i := 33) rfl) tq_4 rfl
theorem tw_810 : Cond.constant "java/lang/Integer" 267 (252645135 : Int32) ∈ tbg := tbg_in (List.mem_of_getElem? (l := tables_1_4) (i := 34) rfl) tq_4 rfl
theorem tw_812 : Cond.instanceMethod yX9_balks ∈ tbg := tbg_in (List.mem_of_getElem? (l := tables_1_4) (i := 36) rfl) tq_4 rfl
theorem tw_813 : Cond.selects yX9_balks.cls yX9_balks yX9_balks ∈ tbg := tbg_in (List.mem_of_getElem? (l := tables_1_4) (i := 37) rfl) tq_4 rfl
theorem tw_814 : Cond.code yX9_balks cX9_balks 8 (some .int) ∈ tbg := tbg_in (List.mem_of_getElem? (l := tables_1_4) (i := 38) rfl) tq_4 rfl
theorem tw_815 : Cond.methodLink "DonkeyVerdicts" 241 yX0_weightOf ∈ tbg := tbg_in (List.mem_of_getElem? (l := tables_1_4) (i := 39) rfl) tq_4 rfl
theorem tw_816 : Cond.instanceMethod yX0_weightOf ∈ tbg := tbg_in (List.mem_of_getElem? (l := tables_1_4) (i := 40) rfl) tq_4 rfl
theorem tw_817 : Cond.selects yX0_weightOf.cls yX0_weightOf yX0_weightOf ∈ tbg := tbg_in (List.mem_of_getElem? (l := tables_1_4) (i := 41) rfl) tq_4 rfl
theorem tw_818 : Cond.code yX0_weightOf cX0_weightOf 5 (some .int) ∈ tbg := tbg_in (List.mem_of_getElem? (l := tables_1_4) (i := 42) rfl) tq_4 rfl
theorem tw_819 : Cond.methodLink "DonkeyVerdicts$Balking" 20 yX4_copy ∈ tbg := tbg_in (List.mem_of_getElem? (l := tables_1_4) (i := 43) rfl) tq_4 rfl
theorem tw_820 : Cond.methodLink "DonkeyVerdicts$Balking" 24 yX0_weigh ∈ tbg := tbg_in (List.mem_of_getElem? (l := tables_1_4) (i := 44) rfl) tq_4 rfl
theorem tw_822 : Cond.instanceMethod yX0_weigh ∈ tbg := tbg_in (List.mem_of_getElem? (l := tables_1_4) (i := 46) rfl) tq_4 rfl
theorem tw_823 : Cond.code yX0_weigh cX0_weigh 6 (some .int) ∈ tbg := tbg_in (List.mem_of_getElem? (l := tables_1_4) (i := 47) rfl) tq_4 rfl
theorem tw_824 : Cond.methodLink "DonkeyVerdicts$Balking" 28 yX4_carries ∈ tbg := tbg_in (List.mem_of_getElem? (l := tables_1_4) (i := 48) rfl) tq_4 rfl
theorem tw_825 : Cond.methodLink "DonkeyVerdicts$Balking" 32 yX4_is ∈ tbg := tbg_in (List.mem_of_getElem? (l := tables_1_4) (i := 49) rfl) tq_4 rfl
theorem tw_826 : Cond.methodLink "DonkeyVerdicts$Balking" 36 yX0_power ∈ tbg := tbg_in (List.mem_of_getElem? (l := tables_1_4) (i := 50) rfl) tq_4 rfl
theorem tw_827 : Cond.static yX0_power ∈ tbg := tbg_in (List.mem_of_getElem? (l := tables_1_4) (i := 51) rfl) tq_4 rfl
theorem tw_828 : Cond.code yX0_power cX0_power 3 (some .int) ∈ tbg := tbg_in (List.mem_of_getElem? (l := tables_1_4) (i := 52) rfl) tq_4 rfl
theorem tw_829 : Cond.methodLink "DonkeyVerdicts$Balking" 40 yX4_goOn ∈ tbg := tbg_in (List.mem_of_getElem? (l := tables_1_4) (i := 53) rfl) tq_4 rfl
theorem tw_830 : Cond.methodLink "DonkeyVerdicts" 244 yX0_power ∈ tbg := tbg_in (List.mem_of_getElem? (l := tables_1_4) (i := 54) rfl) tq_4 rfl
theorem tw_831 : Cond.methodLink "DonkeyVerdicts" 247 yX0_commonDivisor ∈ tbg := tbg_in (List.mem_of_getElem? (l := tables_1_4) (i := 55) rfl) tq_4 rfl
theorem tw_832 : Cond.static yX0_commonDivisor ∈ tbg := tbg_in (List.mem_of_getElem? (l := tables_1_4) (i := 56) rfl) tq_4 rfl
theorem tw_833 : Cond.code yX0_commonDivisor cX0_commonDivisor 6 (some .int) ∈ tbg := tbg_in (List.mem_of_getElem? (l := tables_1_4) (i := 57) rfl) tq_4 rfl
theorem tw_835 : Cond.instanceMethod yX9_year ∈ tbg := tbg_in (List.mem_of_getElem? (l := tables_1_4) (i := 59) rfl) tq_4 rfl
theorem tw_836 : Cond.selects yX9_year.cls yX9_year yX9_year ∈ tbg := tbg_in (List.mem_of_getElem? (l := tables_1_4) (i := 60) rfl) tq_4 rfl
theorem tw_837 : Cond.code yX9_year cX9_year 4 (some .int) ∈ tbg := tbg_in (List.mem_of_getElem? (l := tables_1_4) (i := 61) rfl) tq_4 rfl
theorem tw_838 : Cond.methodLink "DonkeyVerdicts" 250 yX3_afterYear ∈ tbg := tbg_in (List.mem_of_getElem? (l := tables_1_4) (i := 62) rfl) tq_4 rfl
theorem tw_839 : Cond.instanceMethod yX3_afterYear ∈ tbg := tbg_in (List.mem_of_getElem? (l := tables_1_4) (i := 63) rfl) tq_4 rfl
theorem tw_840 : Cond.selects yX3_afterYear.cls yX3_afterYear yX3_afterYear ∈ tbg := tbg_in (List.mem_of_getElem? (l := tables_1_4) (i := 64) rfl) tq_4 rfl
theorem tw_841 : Cond.code yX3_afterYear cX3_afterYear 5 (some (.object "DonkeyVerdicts$Herd")) ∈ tbg := tbg_in (List.mem_of_getElem? (l := tables_1_4) (i := 65) rfl) tq_4 rfl
theorem tw_842 : Cond.methodLink "DonkeyVerdicts$Foresight" 84 yX3_drawOf ∈ tbg := tbg_in (List.mem_of_getElem? (l := tables_1_4) (i := 66) rfl) tq_4 rfl
theorem tw_843 : Cond.static yX3_drawOf ∈ tbg := tbg_in (List.mem_of_getElem? (l := tables_1_4) (i := 67) rfl) tq_4 rfl
theorem tw_844 : Cond.code yX3_drawOf cX3_drawOf 4 (some .int) ∈ tbg := tbg_in (List.mem_of_getElem? (l := tables_1_4) (i := 68) rfl) tq_4 rfl
theorem tw_845 : Cond.constantLong "DonkeyVerdicts$Foresight" 90 (7919 : Int64) ∈ tbg := tbg_in (List.mem_of_getElem? (l := tables_1_4) (i := 69) rfl) tq_4 rfl
theorem tw_846 : Cond.constantLong "DonkeyVerdicts$Foresight" 92 (6151 : Int64) ∈ tbg := tbg_in (List.mem_of_getElem? (l := tables_1_4) (i := 70) rfl) tq_4 rfl
theorem tw_847 : Cond.constantLong "DonkeyVerdicts$Foresight" 94 (65521 : Int64) ∈ tbg := tbg_in (List.mem_of_getElem? (l := tables_1_4) (i := 71) rfl) tq_4 rfl
theorem tw_848 : Cond.methodLink "DonkeyVerdicts$Foresight" 87 yX3_act ∈ tbg := tbg_in (List.mem_of_getElem? (l := tables_1_4) (i := 72) rfl) tq_4 rfl
theorem tw_850 : Cond.instanceMethod yX3_act ∈ tbg := tbg_in (List.mem_of_getElem? (l := tables_1_4) (i := 74) rfl) tq_4 rfl
theorem tw_851 : Cond.code yX3_act cX3_act 5 none ∈ tbg := tbg_in (List.mem_of_getElem? (l := tables_1_4) (i := 75) rfl) tq_4 rfl
theorem tw_852 : Cond.methodLink "DonkeyVerdicts$Foresight" 96 yX3_wrap ∈ tbg := tbg_in (List.mem_of_getElem? (l := tables_1_4) (i := 76) rfl) tq_4 rfl
theorem tw_853 : Cond.static yX3_wrap ∈ tbg := tbg_in (List.mem_of_getElem? (l := tables_1_4) (i := 77) rfl) tq_4 rfl
theorem tw_854 : Cond.code yX3_wrap cX3_wrap 2 (some .int) ∈ tbg := tbg_in (List.mem_of_getElem? (l := tables_1_4) (i := 78) rfl) tq_4 rfl
theorem tw_855 : Cond.methodLink "DonkeyVerdicts$Foresight" 99 yX1_doors ∈ tbg := tbg_in (List.mem_of_getElem? (l := tables_1_4) (i := 79) rfl) tq_4 rfl
theorem tw_856 : Cond.methodLink "DonkeyVerdicts$Foresight" 102 yX4_callHome ∈ tbg := tbg_in (List.mem_of_getElem? (l := tables_1_4) (i := 80) rfl) tq_4 rfl
theorem tw_857 : Cond.methodLink "DonkeyVerdicts" 254 yX4_amount ∈ tbg := tbg_in (List.mem_of_getElem? (l := tables_1_4) (i := 81) rfl) tq_4 rfl
theorem tw_858 : Cond.instanceMethod yX4_amount ∈ tbg := tbg_in (List.mem_of_getElem? (l := tables_1_4) (i := 82) rfl) tq_4 rfl
theorem tw_859 : Cond.selects yX4_amount.cls yX4_amount yX4_amount ∈ tbg := tbg_in (List.mem_of_getElem? (l := tables_1_4) (i := 83) rfl) tq_4 rfl
theorem tw_860 : Cond.code yX4_amount cX4_amount 4 (some .int) ∈ tbg := tbg_in (List.mem_of_getElem? (l := tables_1_4) (i := 84) rfl) tq_4 rfl
theorem tw_861 : Cond.methodLink "DonkeyVerdicts" 257 yX4_readInSum ∈ tbg := tbg_in (List.mem_of_getElem? (l := tables_1_4) (i := 85) rfl) tq_4 rfl
theorem tw_862 : Cond.instanceMethod yX4_readInSum ∈ tbg := tbg_in (List.mem_of_getElem? (l := tables_1_4) (i := 86) rfl) tq_4 rfl
theorem tw_863 : Cond.selects yX4_readInSum.cls yX4_readInSum yX4_readInSum ∈ tbg := tbg_in (List.mem_of_getElem? (l := tables_1_4) (i := 87) rfl) tq_4 rfl
theorem tw_864 : Cond.code yX4_readInSum cX4_readInSum 3 (some .int) ∈ tbg := tbg_in (List.mem_of_getElem? (l := tables_1_4) (i := 88) rfl) tq_4 rfl
theorem tw_865 : Cond.methodLink "DonkeyVerdicts$Herd" 132 yX4_readOf ∈ tbg := tbg_in (List.mem_of_getElem? (l := tables_1_4) (i := 89) rfl) tq_4 rfl
theorem tw_867 : Cond.instanceMethod yX9_keep ∈ tbg := tbg_in (List.mem_of_getElem? (l := tables_1_4) (i := 91) rfl) tq_4 rfl
theorem tw_868 : Cond.selects yX9_keep.cls yX9_keep yX9_keep ∈ tbg := tbg_in (List.mem_of_getElem? (l := tables_1_4) (i := 92) rfl) tq_4 rfl
theorem tw_869 : Cond.code yX9_keep cX9_keep 1 (some .int) ∈ tbg := tbg_in (List.mem_of_getElem? (l := tables_1_4) (i := 93) rfl) tq_4 rfl
theorem tw_871 : Cond.instanceMethod yX9_back ∈ tbg := tbg_in (List.mem_of_getElem? (l := tables_1_4) (i := 95) rfl) tq_4 rfl
theorem tw_872 : Cond.selects yX9_back.cls yX9_back yX9_back ∈ tbg := tbg_in (List.mem_of_getElem? (l := tables_1_4) (i := 96) rfl) tq_4 rfl
theorem tw_873 : Cond.code yX9_back cX9_back 1 (some .int) ∈ tbg := tbg_in (List.mem_of_getElem? (l := tables_1_4) (i := 97) rfl) tq_4 rfl
theorem tw_875 : Cond.instanceMethod yX9_count ∈ tbg := tbg_in (List.mem_of_getElem? (l := tables_1_4) (i := 99) rfl) tq_4 rfl
theorem tw_876 : Cond.selects yX9_count.cls yX9_count yX9_count ∈ tbg := tbg_in (List.mem_of_getElem? (l := tables_1_4) (i := 100) rfl) tq_4 rfl
theorem tw_877 : Cond.code yX9_count cX9_count 2 (some .int) ∈ tbg := tbg_in (List.mem_of_getElem? (l := tables_1_4) (i := 101) rfl) tq_4 rfl
theorem tw_878 : Cond.methodLink "DonkeyVerdicts" 261 yX1_places ∈ tbg := tbg_in (List.mem_of_getElem? (l := tables_1_4) (i := 102) rfl) tq_4 rfl
theorem tw_879 : Cond.methodLink "DonkeyVerdicts" 264 yX1_ways ∈ tbg := tbg_in (List.mem_of_getElem? (l := tables_1_4) (i := 103) rfl) tq_4 rfl
theorem tw_880 : Cond.instanceMethod yX1_ways ∈ tbg := tbg_in (List.mem_of_getElem? (l := tables_1_4) (i := 104) rfl) tq_4 rfl
theorem tw_881 : Cond.selects yX1_ways.cls yX1_ways yX1_ways ∈ tbg := tbg_in (List.mem_of_getElem? (l := tables_1_4) (i := 105) rfl) tq_4 rfl
theorem tw_882 : Cond.code yX1_ways cX1_ways 4 (some .int) ∈ tbg := tbg_in (List.mem_of_getElem? (l := tables_1_4) (i := 106) rfl) tq_4 rfl
theorem tw_883 : Cond.methodLink "DonkeyVerdicts" 267 yX4_carrotsInAll ∈ tbg := tbg_in (List.mem_of_getElem? (l := tables_1_4) (i := 107) rfl) tq_4 rfl
theorem tw_884 : Cond.instanceMethod yX4_carrotsInAll ∈ tbg := tbg_in (List.mem_of_getElem? (l := tables_1_4) (i := 108) rfl) tq_4 rfl
theorem tw_885 : Cond.selects yX4_carrotsInAll.cls yX4_carrotsInAll yX4_carrotsInAll ∈ tbg := tbg_in (List.mem_of_getElem? (l := tables_1_4) (i := 109) rfl) tq_4 rfl
theorem tw_886 : Cond.code yX4_carrotsInAll cX4_carrotsInAll 3 (some .int) ∈ tbg := tbg_in (List.mem_of_getElem? (l := tables_1_4) (i := 110) rfl) tq_4 rfl
theorem tw_893 : Cond.methodLink "DonkeyVerdictsModel" 59 yX10_clears ∈ tbg := tbg_in (List.mem_of_getElem? (l := tables_1_4) (i := 117) rfl) tq_4 rfl
theorem tw_895 : Cond.instanceMethod yX10_clears ∈ tbg := tbg_in (List.mem_of_getElem? (l := tables_1_4) (i := 119) rfl) tq_4 rfl
theorem tw_896 : Cond.code yX10_clears cX10_clears 2 none ∈ tbg := tbg_in (List.mem_of_getElem? (l := tables_1_4) (i := 120) rfl) tq_4 rfl
theorem tw_897 : Cond.methodLink "DonkeyVerdictsModel" 66 yX10_leads ∈ tbg := tbg_in (List.mem_of_getElem? (l := tables_1_4) (i := 121) rfl) tq_4 rfl
theorem tw_899 : Cond.instanceMethod yX10_leads ∈ tbg := tbg_in (List.mem_of_getElem? (l := tables_1_4) (i := 123) rfl) tq_4 rfl
theorem tw_900 : Cond.code yX10_leads cX10_leads 4 none ∈ tbg := tbg_in (List.mem_of_getElem? (l := tables_1_4) (i := 124) rfl) tq_4 rfl
theorem tw_901 : Cond.methodLink "DonkeyVerdictsModel" 70 yX10_opens ∈ tbg := tbg_in (List.mem_of_getElem? (l := tables_1_4) (i := 125) rfl) tq_4 rfl
theorem tw_903 : Cond.instanceMethod yX10_opens ∈ tbg := tbg_in (List.mem_of_getElem? (l := tables_1_4) (i := 127) rfl) tq_4 rfl
theorem tw_904 : Cond.code yX10_opens cX10_opens 3 none ∈ tbg := tbg_in (List.mem_of_getElem? (l := tables_1_4) (i := 128) rfl) tq_4 rfl
theorem tw_905 : Cond.methodLink "DonkeyVerdictsModel" 74 yX10_comes ∈ tbg := tbg_in (List.mem_of_getElem? (l := tables_1_4) (i := 129) rfl) tq_4 rfl
theorem tw_907 : Cond.instanceMethod yX10_comes ∈ tbg := tbg_in (List.mem_of_getElem? (l := tables_1_4) (i := 131) rfl) tq_4 rfl
theorem tw_908 : Cond.code yX10_comes cX10_comes 4 none ∈ tbg := tbg_in (List.mem_of_getElem? (l := tables_1_4) (i := 132) rfl) tq_4 rfl
theorem tw_909 : Cond.methodLink "DonkeyVerdictsModel" 80 yX10_settles ∈ tbg := tbg_in (List.mem_of_getElem? (l := tables_1_4) (i := 133) rfl) tq_4 rfl
theorem tw_911 : Cond.instanceMethod yX10_settles ∈ tbg := tbg_in (List.mem_of_getElem? (l := tables_1_4) (i := 135) rfl) tq_4 rfl
theorem tw_912 : Cond.code yX10_settles cX10_settles 3 none ∈ tbg := tbg_in (List.mem_of_getElem? (l := tables_1_4) (i := 136) rfl) tq_4 rfl
theorem tw_913 : Cond.methodLink "DonkeyVerdictsModel" 101 yX10_smaller ∈ tbg := tbg_in (List.mem_of_getElem? (l := tables_1_4) (i := 137) rfl) tq_4 rfl
theorem tw_914 : Cond.static yX10_smaller ∈ tbg := tbg_in (List.mem_of_getElem? (l := tables_1_4) (i := 138) rfl) tq_4 rfl
theorem tw_915 : Cond.code yX10_smaller cX10_smaller 2 (some .int) ∈ tbg := tbg_in (List.mem_of_getElem? (l := tables_1_4) (i := 139) rfl) tq_4 rfl
theorem tw_916 : Cond.methodLink "DonkeyVerdictsModel" 105 yX10_copies ∈ tbg := tbg_in (List.mem_of_getElem? (l := tables_1_4) (i := 140) rfl) tq_4 rfl
theorem tw_918 : Cond.instanceMethod yX10_copies ∈ tbg := tbg_in (List.mem_of_getElem? (l := tables_1_4) (i := 142) rfl) tq_4 rfl
theorem tw_919 : Cond.code yX10_copies cX10_copies 4 none ∈ tbg := tbg_in (List.mem_of_getElem? (l := tables_1_4) (i := 143) rfl) tq_4 rfl
theorem tw_920 : Cond.fieldLink "DonkeyVerdictsModel" 89 "DonkeyVerdictsModel" "places" "I" ∈ tbg := tbg_in (List.mem_of_getElem? (l := tables_1_4) (i := 144) rfl) tq_4 rfl
theorem tw_921 : Cond.fieldLink "DonkeyVerdictsModel" 7 "DonkeyVerdictsModel" "ways" "[I" ∈ tbg := tbg_in (List.mem_of_getElem? (l := tables_1_4) (i := 145) rfl) tq_4 rfl
theorem tw_922 : Cond.fieldLink "DonkeyVerdictsModel" 13 "DonkeyVerdictsModel" "far" "[I" ∈ tbg := tbg_in (List.mem_of_getElem? (l := tables_1_4) (i := 146) rfl) tq_4 rfl
theorem tw_923 : Cond.fieldLink "DonkeyVerdictsModel" 92 "DonkeyVerdictsModel" "mares" "I" ∈ tbg := tbg_in (List.mem_of_getElem? (l := tables_1_4) (i := 147) rfl) tq_4 rfl
theorem tw_924 : Cond.fieldLink "DonkeyVerdictsModel" 95 "DonkeyVerdictsModel" "doors" "I" ∈ tbg := tbg_in (List.mem_of_getElem? (l := tables_1_4) (i := 148) rfl) tq_4 rfl
theorem tw_925 : Cond.fieldLink "DonkeyVerdictsModel" 16 "DonkeyVerdictsModel" "doorKind" "[I" ∈ tbg := tbg_in (List.mem_of_getElem? (l := tables_1_4) (i := 149) rfl) tq_4 rfl
theorem tw_926 : Cond.fieldLink "DonkeyVerdictsModel" 19 "DonkeyVerdictsModel" "doorPlace" "[I" ∈ tbg := tbg_in (List.mem_of_getElem? (l := tables_1_4) (i := 150) rfl) tq_4 rfl
theorem tw_927 : Cond.fieldLink "DonkeyVerdictsModel" 98 "DonkeyVerdictsModel" "beasts" "I" ∈ tbg := tbg_in (List.mem_of_getElem? (l := tables_1_4) (i := 151) rfl) tq_4 rfl
theorem tw_928 : Cond.fieldLink "DonkeyVerdictsModel" 22 "DonkeyVerdictsModel" "sort" "[I" ∈ tbg := tbg_in (List.mem_of_getElem? (l := tables_1_4) (i := 152) rfl) tq_4 rfl
theorem tw_929 : Cond.fieldLink "DonkeyVerdictsModel" 25 "DonkeyVerdictsModel" "pace" "[I" ∈ tbg := tbg_in (List.mem_of_getElem? (l := tables_1_4) (i := 153) rfl) tq_4 rfl
theorem tw_930 : Cond.fieldLink "DonkeyVerdictsModel" 62 "DonkeyVerdictsModel" "newPlaces" "I" ∈ tbg := tbg_in (List.mem_of_getElem? (l := tables_1_4) (i := 154) rfl) tq_4 rfl
theorem tw_931 : Cond.fieldLink "DonkeyVerdictsModel" 28 "DonkeyVerdictsModel" "newWays" "[I" ∈ tbg := tbg_in (List.mem_of_getElem? (l := tables_1_4) (i := 155) rfl) tq_4 rfl
theorem tw_932 : Cond.fieldLink "DonkeyVerdictsModel" 77 "DonkeyVerdictsModel" "newMares" "I" ∈ tbg := tbg_in (List.mem_of_getElem? (l := tables_1_4) (i := 156) rfl) tq_4 rfl
theorem tw_933 : Cond.fieldLink "DonkeyVerdictsModel" 83 "DonkeyVerdictsModel" "newDoors" "I" ∈ tbg := tbg_in (List.mem_of_getElem? (l := tables_1_4) (i := 157) rfl) tq_4 rfl
theorem tw_934 : Cond.fieldLink "DonkeyVerdictsModel" 31 "DonkeyVerdictsModel" "newDoorKind" "[I" ∈ tbg := tbg_in (List.mem_of_getElem? (l := tables_1_4) (i := 158) rfl) tq_4 rfl
theorem tw_935 : Cond.fieldLink "DonkeyVerdictsModel" 34 "DonkeyVerdictsModel" "newDoorPlace" "[I" ∈ tbg := tbg_in (List.mem_of_getElem? (l := tables_1_4) (i := 159) rfl) tq_4 rfl
theorem tw_936 : Cond.fieldLink "DonkeyVerdictsModel" 86 "DonkeyVerdictsModel" "newBeasts" "I" ∈ tbg := tbg_in (List.mem_of_getElem? (l := tables_1_4) (i := 160) rfl) tq_4 rfl
theorem tw_937 : Cond.fieldLink "DonkeyVerdictsModel" 37 "DonkeyVerdictsModel" "newSort" "[I" ∈ tbg := tbg_in (List.mem_of_getElem? (l := tables_1_4) (i := 161) rfl) tq_4 rfl
theorem tw_938 : Cond.fieldLink "DonkeyVerdictsModel" 40 "DonkeyVerdictsModel" "newPace" "[I" ∈ tbg := tbg_in (List.mem_of_getElem? (l := tables_1_4) (i := 162) rfl) tq_4 rfl
theorem tw_939 : Cond.fieldLink "DonkeyVerdictsModel" 43 "DonkeyVerdictsModel" "slot" "[I" ∈ tbg := tbg_in (List.mem_of_getElem? (l := tables_1_4) (i := 163) rfl) tq_4 rfl
theorem tw_940 : Cond.fieldLink "DonkeyVerdictsModel" 160 "DonkeyVerdictsModel" "acts" "I" ∈ tbg := tbg_in (List.mem_of_getElem? (l := tables_1_4) (i := 164) rfl) tq_4 rfl
theorem tw_941 : Cond.fieldLink "DonkeyVerdictsModel" 163 "DonkeyVerdictsModel" "keeps" "I" ∈ tbg := tbg_in (List.mem_of_getElem? (l := tables_1_4) (i := 165) rfl) tq_4 rfl
theorem tw_942 : Cond.fieldLink "DonkeyVerdictsModel" 116 "DonkeyVerdictsModel" "length" "I" ∈ tbg := tbg_in (List.mem_of_getElem? (l := tables_1_4) (i := 166) rfl) tq_4 rfl
theorem tw_943 : Cond.fieldLink "DonkeyVerdictsModel" 46 "DonkeyVerdictsModel" "text" "[B" ∈ tbg := tbg_in (List.mem_of_getElem? (l := tables_1_4) (i := 167) rfl) tq_4 rfl
theorem tw_944 : Cond.fieldLink "DonkeyVerdictsModel" 119 "DonkeyVerdictsModel" "at" "I" ∈ tbg := tbg_in (List.mem_of_getElem? (l := tables_1_4) (i := 168) rfl) tq_4 rfl
theorem tw_945 : Cond.fieldLink "DonkeyVerdictsModel" 149 "DonkeyVerdictsModel" "begin" "I" ∈ tbg := tbg_in (List.mem_of_getElem? (l := tables_1_4) (i := 169) rfl) tq_4 rfl
theorem tw_946 : Cond.fieldLink "DonkeyVerdictsModel" 130 "DonkeyVerdictsModel" "isWrong" "Z" ∈ tbg := tbg_in (List.mem_of_getElem? (l := tables_1_4) (i := 170) rfl) tq_4 rfl
theorem tw_947 : Cond.fieldLink "DonkeyVerdictsModel" 50 "DonkeyVerdictsModel" "stoodAt" "[I" ∈ tbg := tbg_in (List.mem_of_getElem? (l := tables_1_4) (i := 171) rfl) tq_4 rfl
theorem tw_948 : Cond.fieldLink "DonkeyVerdictsModel" 53 "DonkeyVerdictsModel" "dealt" "[I" ∈ tbg := tbg_in (List.mem_of_getElem? (l := tables_1_4) (i := 172) rfl) tq_4 rfl
theorem tw_949 : Cond.fieldLink "DonkeyVerdictsModel" 56 "DonkeyVerdictsModel" "best" "[I" ∈ tbg := tbg_in (List.mem_of_getElem? (l := tables_1_4) (i := 173) rfl) tq_4 rfl
theorem tw_1012 : Cond.instanceMethod yX10_write ∈ tbg := tbg_in (List.mem_of_getElem? (l := tables_1_4) (i := 236) rfl) tq_4 rfl
theorem tw_1013 : Cond.selects yX10_write.cls yX10_write yX10_write ∈ tbg := tbg_in (List.mem_of_getElem? (l := tables_1_4) (i := 237) rfl) tq_4 rfl
theorem tw_1014 : Cond.code yX10_write cX10_write 2 (some .int) ∈ tbg := tbg_in (List.mem_of_getElem? (l := tables_1_4) (i := 238) rfl) tq_4 rfl
theorem tw_1015 : Cond.constantLong "DonkeyVerdictsModel" 112 (32 : Int64) ∈ tbg := tbg_in (List.mem_of_getElem? (l := tables_1_4) (i := 239) rfl) tq_4 rfl
theorem tw_1016 : Cond.constantLong "DonkeyVerdictsModel" 114 (126 : Int64) ∈ tbg := tbg_in (List.mem_of_getElem? (l := tables_1_5) (i := 0) rfl) tq_5 rfl
theorem tw_1017 : Cond.methodLink "DonkeyVerdictsModel" 108 yX10_in ∈ tbg := tbg_in (List.mem_of_getElem? (l := tables_1_5) (i := 1) rfl) tq_5 rfl
theorem tw_1018 : Cond.static yX10_in ∈ tbg := tbg_in (List.mem_of_getElem? (l := tables_1_5) (i := 2) rfl) tq_5 rfl
theorem tw_1019 : Cond.code yX10_in cX10_in 6 (some .boolean) ∈ tbg := tbg_in (List.mem_of_getElem? (l := tables_1_5) (i := 3) rfl) tq_5 rfl
theorem tw_1021 : Cond.instanceMethod yX10_wipe ∈ tbg := tbg_in (List.mem_of_getElem? (l := tables_1_5) (i := 5) rfl) tq_5 rfl
theorem tw_1022 : Cond.selects yX10_wipe.cls yX10_wipe yX10_wipe ∈ tbg := tbg_in (List.mem_of_getElem? (l := tables_1_5) (i := 6) rfl) tq_5 rfl
theorem tw_1023 : Cond.code yX10_wipe cX10_wipe 2 (some .int) ∈ tbg := tbg_in (List.mem_of_getElem? (l := tables_1_5) (i := 7) rfl) tq_5 rfl
theorem tw_1025 : Cond.instanceMethod yX10_fault ∈ tbg := tbg_in (List.mem_of_getElem? (l := tables_1_5) (i := 9) rfl) tq_5 rfl
theorem tw_1026 : Cond.selects yX10_fault.cls yX10_fault yX10_fault ∈ tbg := tbg_in (List.mem_of_getElem? (l := tables_1_5) (i := 10) rfl) tq_5 rfl
theorem tw_1027 : Cond.code yX10_fault cX10_fault 1 (some .int) ∈ tbg := tbg_in (List.mem_of_getElem? (l := tables_1_5) (i := 11) rfl) tq_5 rfl
theorem tw_1028 : Cond.methodLink "DonkeyVerdictsModel" 156 yX10_reads ∈ tbg := tbg_in (List.mem_of_getElem? (l := tables_1_5) (i := 12) rfl) tq_5 rfl
theorem tw_1030 : Cond.instanceMethod yX10_reads ∈ tbg := tbg_in (List.mem_of_getElem? (l := tables_1_5) (i := 14) rfl) tq_5 rfl
theorem tw_1031 : Cond.code yX10_reads cX10_reads 3 (some .boolean) ∈ tbg := tbg_in (List.mem_of_getElem? (l := tables_1_5) (i := 15) rfl) tq_5 rfl
theorem tw_1032 : Cond.methodLink "DonkeyVerdictsModel" 122 yX10_byteNow ∈ tbg := tbg_in (List.mem_of_getElem? (l := tables_1_5) (i := 16) rfl) tq_5 rfl
theorem tw_1034 : Cond.instanceMethod yX10_byteNow ∈ tbg := tbg_in (List.mem_of_getElem? (l := tables_1_5) (i := 18) rfl) tq_5 rfl
theorem tw_1035 : Cond.code yX10_byteNow cX10_byteNow 1 (some .int) ∈ tbg := tbg_in (List.mem_of_getElem? (l := tables_1_5) (i := 19) rfl) tq_5 rfl
theorem tw_1036 : Cond.methodLink "DonkeyVerdictsModel" 152 yX10_item ∈ tbg := tbg_in (List.mem_of_getElem? (l := tables_1_5) (i := 20) rfl) tq_5 rfl
theorem tw_1038 : Cond.instanceMethod yX10_item ∈ tbg := tbg_in (List.mem_of_getElem? (l := tables_1_5) (i := 22) rfl) tq_5 rfl
theorem tw_1039 : Cond.code yX10_item cX10_item 5 (some .boolean) ∈ tbg := tbg_in (List.mem_of_getElem? (l := tables_1_5) (i := 23) rfl) tq_5 rfl
theorem tw_1040 : Cond.methodLink "DonkeyVerdictsModel" 134 yX10_number ∈ tbg := tbg_in (List.mem_of_getElem? (l := tables_1_5) (i := 24) rfl) tq_5 rfl
theorem tw_1042 : Cond.instanceMethod yX10_number ∈ tbg := tbg_in (List.mem_of_getElem? (l := tables_1_5) (i := 26) rfl) tq_5 rfl
theorem tw_1043 : Cond.code yX10_number cX10_number 5 (some .int) ∈ tbg := tbg_in (List.mem_of_getElem? (l := tables_1_5) (i := 27) rfl) tq_5 rfl
theorem tw_1044 : Cond.constantLong "DonkeyVerdictsModel" 126 (48 : Int64) ∈ tbg := tbg_in (List.mem_of_getElem? (l := tables_1_5) (i := 28) rfl) tq_5 rfl
theorem tw_1045 : Cond.constantLong "DonkeyVerdictsModel" 128 (57 : Int64) ∈ tbg := tbg_in (List.mem_of_getElem? (l := tables_1_5) (i := 29) rfl) tq_5 rfl
theorem tw_1046 : Cond.methodLink "DonkeyVerdictsModel" 140 yX10_wayItem ∈ tbg := tbg_in (List.mem_of_getElem? (l := tables_1_5) (i := 30) rfl) tq_5 rfl
theorem tw_1048 : Cond.instanceMethod yX10_wayItem ∈ tbg := tbg_in (List.mem_of_getElem? (l := tables_1_5) (i := 32) rfl) tq_5 rfl
theorem tw_1049 : Cond.code yX10_wayItem cX10_wayItem 4 none ∈ tbg := tbg_in (List.mem_of_getElem? (l := tables_1_5) (i := 33) rfl) tq_5 rfl
theorem tw_1050 : Cond.methodLink "DonkeyVerdictsModel" 137 yX10_more ∈ tbg := tbg_in (List.mem_of_getElem? (l := tables_1_5) (i := 34) rfl) tq_5 rfl
theorem tw_1052 : Cond.instanceMethod yX10_more ∈ tbg := tbg_in (List.mem_of_getElem? (l := tables_1_5) (i := 36) rfl) tq_5 rfl
theorem tw_1053 : Cond.code yX10_more cX10_more 3 (some .int) ∈ tbg := tbg_in (List.mem_of_getElem? (l := tables_1_5) (i := 37) rfl) tq_5 rfl
theorem tw_1054 : Cond.methodLink "DonkeyVerdictsModel" 143 yX10_doorItem ∈ tbg := tbg_in (List.mem_of_getElem? (l := tables_1_5) (i := 38) rfl) tq_5 rfl
theorem tw_1056 : Cond.instanceMethod yX10_doorItem ∈ tbg := tbg_in (List.mem_of_getElem? (l := tables_1_5) (i := 40) rfl) tq_5 rfl
theorem tw_1057 : Cond.code yX10_doorItem cX10_doorItem 3 none ∈ tbg := tbg_in (List.mem_of_getElem? (l := tables_1_5) (i := 41) rfl) tq_5 rfl
theorem tw_1058 : Cond.methodLink "DonkeyVerdictsModel" 146 yX10_beastItem ∈ tbg := tbg_in (List.mem_of_getElem? (l := tables_1_5) (i := 42) rfl) tq_5 rfl
theorem tw_1060 : Cond.instanceMethod yX10_beastItem ∈ tbg := tbg_in (List.mem_of_getElem? (l := tables_1_5) (i := 44) rfl) tq_5 rfl
theorem tw_1061 : Cond.code yX10_beastItem cX10_beastItem 4 none ∈ tbg := tbg_in (List.mem_of_getElem? (l := tables_1_5) (i := 45) rfl) tq_5 rfl
theorem tw_1063 : Cond.instanceMethod yX10_lay ∈ tbg := tbg_in (List.mem_of_getElem? (l := tables_1_5) (i := 47) rfl) tq_5 rfl
theorem tw_1064 : Cond.selects yX10_lay.cls yX10_lay yX10_lay ∈ tbg := tbg_in (List.mem_of_getElem? (l := tables_1_5) (i := 48) rfl) tq_5 rfl
theorem tw_1065 : Cond.code yX10_lay cX10_lay 1 (some .int) ∈ tbg := tbg_in (List.mem_of_getElem? (l := tables_1_5) (i := 49) rfl) tq_5 rfl
theorem tw_1067 : Cond.instanceMethod yX10_place ∈ tbg := tbg_in (List.mem_of_getElem? (l := tables_1_5) (i := 51) rfl) tq_5 rfl
theorem tw_1068 : Cond.selects yX10_place.cls yX10_place yX10_place ∈ tbg := tbg_in (List.mem_of_getElem? (l := tables_1_5) (i := 52) rfl) tq_5 rfl
theorem tw_1069 : Cond.code yX10_place cX10_place 3 (some .int) ∈ tbg := tbg_in (List.mem_of_getElem? (l := tables_1_5) (i := 53) rfl) tq_5 rfl
theorem tw_1070 : Cond.methodLink "DonkeyVerdictsModel" 166 yX10_isPlace ∈ tbg := tbg_in (List.mem_of_getElem? (l := tables_1_5) (i := 54) rfl) tq_5 rfl
theorem tw_1072 : Cond.instanceMethod yX10_isPlace ∈ tbg := tbg_in (List.mem_of_getElem? (l := tables_1_5) (i := 56) rfl) tq_5 rfl
theorem tw_1073 : Cond.code yX10_isPlace cX10_isPlace 2 (some .boolean) ∈ tbg := tbg_in (List.mem_of_getElem? (l := tables_1_5) (i := 57) rfl) tq_5 rfl
theorem tw_1074 : Cond.constantLong "DonkeyVerdictsModel" 170 (2 : Int64) ∈ tbg := tbg_in (List.mem_of_getElem? (l := tables_1_5) (i := 58) rfl) tq_5 rfl
theorem tw_1075 : Cond.methodLink "DonkeyVerdictsModel" 172 yX10_standing ∈ tbg := tbg_in (List.mem_of_getElem? (l := tables_1_5) (i := 59) rfl) tq_5 rfl
theorem tw_1077 : Cond.instanceMethod yX10_standing ∈ tbg := tbg_in (List.mem_of_getElem? (l := tables_1_5) (i := 61) rfl) tq_5 rfl
theorem tw_1078 : Cond.code yX10_standing cX10_standing 5 (some .int) ∈ tbg := tbg_in (List.mem_of_getElem? (l := tables_1_5) (i := 62) rfl) tq_5 rfl
theorem tw_1080 : Cond.instanceMethod yX10_way ∈ tbg := tbg_in (List.mem_of_getElem? (l := tables_1_5) (i := 64) rfl) tq_5 rfl
theorem tw_1081 : Cond.selects yX10_way.cls yX10_way yX10_way ∈ tbg := tbg_in (List.mem_of_getElem? (l := tables_1_5) (i := 65) rfl) tq_5 rfl
theorem tw_1082 : Cond.code yX10_way cX10_way 3 (some .int) ∈ tbg := tbg_in (List.mem_of_getElem? (l := tables_1_5) (i := 66) rfl) tq_5 rfl
theorem tw_1084 : Cond.instanceMethod yX10_door ∈ tbg := tbg_in (List.mem_of_getElem? (l := tables_1_5) (i := 68) rfl) tq_5 rfl
theorem tw_1085 : Cond.selects yX10_door.cls yX10_door yX10_door ∈ tbg := tbg_in (List.mem_of_getElem? (l := tables_1_5) (i := 69) rfl) tq_5 rfl
theorem tw_1086 : Cond.code yX10_door cX10_door 3 (some .int) ∈ tbg := tbg_in (List.mem_of_getElem? (l := tables_1_5) (i := 70) rfl) tq_5 rfl
theorem tw_1087 : Cond.methodLink "DonkeyVerdictsModel" 175 yX10_isDoor ∈ tbg := tbg_in (List.mem_of_getElem? (l := tables_1_5) (i := 71) rfl) tq_5 rfl
theorem tw_1089 : Cond.instanceMethod yX10_isDoor ∈ tbg := tbg_in (List.mem_of_getElem? (l := tables_1_5) (i := 73) rfl) tq_5 rfl
theorem tw_1090 : Cond.code yX10_isDoor cX10_isDoor 2 (some .boolean) ∈ tbg := tbg_in (List.mem_of_getElem? (l := tables_1_5) (i := 74) rfl) tq_5 rfl
theorem tw_1092 : Cond.instanceMethod yX10_beast ∈ tbg := tbg_in (List.mem_of_getElem? (l := tables_1_5) (i := 76) rfl) tq_5 rfl
theorem tw_1093 : Cond.selects yX10_beast.cls yX10_beast yX10_beast ∈ tbg := tbg_in (List.mem_of_getElem? (l := tables_1_5) (i := 77) rfl) tq_5 rfl
theorem tw_1094 : Cond.code yX10_beast cX10_beast 4 (some .int) ∈ tbg := tbg_in (List.mem_of_getElem? (l := tables_1_5) (i := 78) rfl) tq_5 rfl
theorem tw_1095 : Cond.methodLink "DonkeyVerdictsModel" 178 yX10_isBeast ∈ tbg := tbg_in (List.mem_of_getElem? (l := tables_1_5) (i := 79) rfl) tq_5 rfl
theorem tw_1097 : Cond.instanceMethod yX10_isBeast ∈ tbg := tbg_in (List.mem_of_getElem? (l := tables_1_5) (i := 81) rfl) tq_5 rfl
theorem tw_1098 : Cond.code yX10_isBeast cX10_isBeast 2 (some .boolean) ∈ tbg := tbg_in (List.mem_of_getElem? (l := tables_1_5) (i := 82) rfl) tq_5 rfl
theorem tw_1099 : Cond.constantLong "DonkeyVerdictsModel" 181 (7 : Int64) ∈ tbg := tbg_in (List.mem_of_getElem? (l := tables_1_5) (i := 83) rfl) tq_5 rfl
theorem tw_1101 : Cond.instanceMethod yX10_sign ∈ tbg := tbg_in (List.mem_of_getElem? (l := tables_1_5) (i := 85) rfl) tq_5 rfl
theorem tw_1102 : Cond.selects yX10_sign.cls yX10_sign yX10_sign ∈ tbg := tbg_in (List.mem_of_getElem? (l := tables_1_5) (i := 86) rfl) tq_5 rfl
theorem tw_1103 : Cond.code yX10_sign cX10_sign 3 (some .int) ∈ tbg := tbg_in (List.mem_of_getElem? (l := tables_1_5) (i := 87) rfl) tq_5 rfl
theorem tw_1104 : Cond.methodLink "DonkeyVerdictsModel" 190 yX10_isOut ∈ tbg := tbg_in (List.mem_of_getElem? (l := tables_1_5) (i := 88) rfl) tq_5 rfl
theorem tw_1106 : Cond.instanceMethod yX10_isOut ∈ tbg := tbg_in (List.mem_of_getElem? (l := tables_1_5) (i := 90) rfl) tq_5 rfl
theorem tw_1107 : Cond.code yX10_isOut cX10_isOut 2 (some .boolean) ∈ tbg := tbg_in (List.mem_of_getElem? (l := tables_1_5) (i := 91) rfl) tq_5 rfl
theorem tw_1108 : Cond.methodLink "DonkeyVerdictsModel" 186 yX10_signBy ∈ tbg := tbg_in (List.mem_of_getElem? (l := tables_1_5) (i := 92) rfl) tq_5 rfl
theorem tw_1110 : Cond.instanceMethod yX10_signBy ∈ tbg := tbg_in (List.mem_of_getElem? (l := tables_1_5) (i := 94) rfl) tq_5 rfl
theorem tw_1111 : Cond.code yX10_signBy cX10_signBy 6 (some .int) ∈ tbg := tbg_in (List.mem_of_getElem? (l := tables_1_5) (i := 95) rfl) tq_5 rfl
theorem tw_1112 : Cond.methodLink "DonkeyVerdictsModel" 183 yX10_larger ∈ tbg := tbg_in (List.mem_of_getElem? (l := tables_1_5) (i := 96) rfl) tq_5 rfl
theorem tw_1113 : Cond.static yX10_larger ∈ tbg := tbg_in (List.mem_of_getElem? (l := tables_1_5) (i := 97) rfl) tq_5 rfl
theorem tw_1114 : Cond.code yX10_larger cX10_larger 2 (some .int) ∈ tbg := tbg_in (List.mem_of_getElem? (l := tables_1_5) (i := 98) rfl) tq_5 rfl
theorem tw_1116 : Cond.instanceMethod yX10_send ∈ tbg := tbg_in (List.mem_of_getElem? (l := tables_1_5) (i := 100) rfl) tq_5 rfl
theorem tw_1117 : Cond.selects yX10_send.cls yX10_send yX10_send ∈ tbg := tbg_in (List.mem_of_getElem? (l := tables_1_5) (i := 101) rfl) tq_5 rfl
theorem tw_1118 : Cond.code yX10_send cX10_send 4 (some .int) ∈ tbg := tbg_in (List.mem_of_getElem? (l := tables_1_5) (i := 102) rfl) tq_5 rfl
theorem tw_1119 : Cond.methodLink "DonkeyVerdictsModel" 212 yX10_canSend ∈ tbg := tbg_in (List.mem_of_getElem? (l := tables_1_5) (i := 103) rfl) tq_5 rfl
theorem tw_1121 : Cond.instanceMethod yX10_canSend ∈ tbg := tbg_in (List.mem_of_getElem? (l := tables_1_5) (i := 105) rfl) tq_5 rfl
theorem tw_1122 : Cond.code yX10_canSend cX10_canSend 4 (some .boolean) ∈ tbg := tbg_in (List.mem_of_getElem? (l := tables_1_5) (i := 106) rfl) tq_5 rfl
theorem tw_1123 : Cond.methodLink "DonkeyVerdictsModel" 216 yX10_known ∈ tbg := tbg_in (List.mem_of_getElem? (l := tables_1_5) (i := 107) rfl) tq_5 rfl
theorem tw_1125 : Cond.instanceMethod yX10_known ∈ tbg := tbg_in (List.mem_of_getElem? (l := tables_1_5) (i := 109) rfl) tq_5 rfl
theorem tw_1126 : Cond.code yX10_known cX10_known 2 none ∈ tbg := tbg_in (List.mem_of_getElem? (l := tables_1_5) (i := 110) rfl) tq_5 rfl
theorem tw_1127 : Cond.methodLink "DonkeyVerdictsModel" 219 yX10_sends ∈ tbg := tbg_in (List.mem_of_getElem? (l := tables_1_5) (i := 111) rfl) tq_5 rfl
theorem tw_1129 : Cond.instanceMethod yX10_sends ∈ tbg := tbg_in (List.mem_of_getElem? (l := tables_1_5) (i := 113) rfl) tq_5 rfl
theorem tw_1130 : Cond.code yX10_sends cX10_sends 5 none ∈ tbg := tbg_in (List.mem_of_getElem? (l := tables_1_5) (i := 114) rfl) tq_5 rfl
theorem tw_1132 : Cond.instanceMethod yX10_pass ∈ tbg := tbg_in (List.mem_of_getElem? (l := tables_1_5) (i := 116) rfl) tq_5 rfl
theorem tw_1133 : Cond.selects yX10_pass.cls yX10_pass yX10_pass ∈ tbg := tbg_in (List.mem_of_getElem? (l := tables_1_5) (i := 117) rfl) tq_5 rfl
theorem tw_1134 : Cond.code yX10_pass cX10_pass 3 (some .int) ∈ tbg := tbg_in (List.mem_of_getElem? (l := tables_1_5) (i := 118) rfl) tq_5 rfl
theorem tw_1135 : Cond.constantLong "DonkeyVerdictsModel" 223 (24 : Int64) ∈ tbg := tbg_in (List.mem_of_getElem? (l := tables_1_5) (i := 119) rfl) tq_5 rfl
theorem tw_1136 : Cond.methodLink "DonkeyVerdictsModel" 225 yX10_hour ∈ tbg := tbg_in (List.mem_of_getElem? (l := tables_1_5) (i := 120) rfl) tq_5 rfl
theorem tw_1138 : Cond.instanceMethod yX10_hour ∈ tbg := tbg_in (List.mem_of_getElem? (l := tables_1_5) (i := 122) rfl) tq_5 rfl
theorem tw_1139 : Cond.code yX10_hour cX10_hour 4 none ∈ tbg := tbg_in (List.mem_of_getElem? (l := tables_1_5) (i := 123) rfl) tq_5 rfl
theorem tw_1140 : Cond.methodLink "DonkeyVerdictsModel" 209 yX10_goesOn ∈ tbg := tbg_in (List.mem_of_getElem? (l := tables_1_5) (i := 124) rfl) tq_5 rfl
theorem tw_1142 : Cond.instanceMethod yX10_goesOn ∈ tbg := tbg_in (List.mem_of_getElem? (l := tables_1_5) (i := 126) rfl) tq_5 rfl
theorem tw_1143 : Cond.code yX10_goesOn cX10_goesOn 5 none ∈ tbg := tbg_in (List.mem_of_getElem? (l := tables_1_5) (i := 127) rfl) tq_5 rfl
theorem tw_1144 : Cond.methodLink "DonkeyVerdictsModel" 197 yX10_goal ∈ tbg := tbg_in (List.mem_of_getElem? (l := tables_1_5) (i := 128) rfl) tq_5 rfl
theorem tw_1146 : Cond.instanceMethod yX10_goal ∈ tbg := tbg_in (List.mem_of_getElem? (l := tables_1_5) (i := 130) rfl) tq_5 rfl
theorem tw_1147 : Cond.code yX10_goal cX10_goal 3 (some .int) ∈ tbg := tbg_in (List.mem_of_getElem? (l := tables_1_5) (i := 131) rfl) tq_5 rfl
theorem tw_1148 : Cond.methodLink "DonkeyVerdictsModel" 200 yX10_settlesAt ∈ tbg := tbg_in (List.mem_of_getElem? (l := tables_1_5) (i := 132) rfl) tq_5 rfl
theorem tw_1150 : Cond.instanceMethod yX10_settlesAt ∈ tbg := tbg_in (List.mem_of_getElem? (l := tables_1_5) (i := 134) rfl) tq_5 rfl
theorem tw_1151 : Cond.code yX10_settlesAt cX10_settlesAt 3 none ∈ tbg := tbg_in (List.mem_of_getElem? (l := tables_1_5) (i := 135) rfl) tq_5 rfl
theorem tw_1152 : Cond.methodLink "DonkeyVerdictsModel" 203 yX10_nextOn ∈ tbg := tbg_in (List.mem_of_getElem? (l := tables_1_5) (i := 136) rfl) tq_5 rfl
theorem tw_1154 : Cond.instanceMethod yX10_nextOn ∈ tbg := tbg_in (List.mem_of_getElem? (l := tables_1_5) (i := 138) rfl) tq_5 rfl
theorem tw_1155 : Cond.code yX10_nextOn cX10_nextOn 4 (some .int) ∈ tbg := tbg_in (List.mem_of_getElem? (l := tables_1_5) (i := 139) rfl) tq_5 rfl
theorem tw_1156 : Cond.methodLink "DonkeyVerdictsModel" 206 yX10_arrivesIn ∈ tbg := tbg_in (List.mem_of_getElem? (l := tables_1_5) (i := 140) rfl) tq_5 rfl
theorem tw_1158 : Cond.instanceMethod yX10_arrivesIn ∈ tbg := tbg_in (List.mem_of_getElem? (l := tables_1_5) (i := 142) rfl) tq_5 rfl
theorem tw_1159 : Cond.code yX10_arrivesIn cX10_arrivesIn 5 none ∈ tbg := tbg_in (List.mem_of_getElem? (l := tables_1_5) (i := 143) rfl) tq_5 rfl
theorem tw_1160 : Cond.methodLink "DonkeyVerdictsModel" 193 yX10_has ∈ tbg := tbg_in (List.mem_of_getElem? (l := tables_1_5) (i := 144) rfl) tq_5 rfl
theorem tw_1161 : Cond.static yX10_has ∈ tbg := tbg_in (List.mem_of_getElem? (l := tables_1_5) (i := 145) rfl) tq_5 rfl
theorem tw_1162 : Cond.code yX10_has cX10_has 2 (some .boolean) ∈ tbg := tbg_in (List.mem_of_getElem? (l := tables_1_5) (i := 146) rfl) tq_5 rfl
theorem tw_1164 : Cond.instanceMethod yX10_home ∈ tbg := tbg_in (List.mem_of_getElem? (l := tables_1_5) (i := 148) rfl) tq_5 rfl
theorem tw_1165 : Cond.selects yX10_home.cls yX10_home yX10_home ∈ tbg := tbg_in (List.mem_of_getElem? (l := tables_1_5) (i := 149) rfl) tq_5 rfl
theorem tw_1166 : Cond.code yX10_home cX10_home 3 (some .int) ∈ tbg := tbg_in (List.mem_of_getElem? (l := tables_1_5) (i := 150) rfl) tq_5 rfl
theorem tw_1167 : Cond.methodLink "DonkeyVerdictsModel" 228 yX10_read ∈ tbg := tbg_in (List.mem_of_getElem? (l := tables_1_5) (i := 151) rfl) tq_5 rfl
theorem tw_1169 : Cond.instanceMethod yX10_read ∈ tbg := tbg_in (List.mem_of_getElem? (l := tables_1_5) (i := 153) rfl) tq_5 rfl
theorem tw_1170 : Cond.code yX10_read cX10_read 5 (some .int) ∈ tbg := tbg_in (List.mem_of_getElem? (l := tables_1_5) (i := 154) rfl) tq_5 rfl
theorem tw_1171 : Cond.methodLink "DonkeyVerdictsModel" 231 yX10_goesHome ∈ tbg := tbg_in (List.mem_of_getElem? (l := tables_1_5) (i := 155) rfl) tq_5 rfl
theorem tw_1173 : Cond.instanceMethod yX10_goesHome ∈ tbg := tbg_in (List.mem_of_getElem? (l := tables_1_5) (i := 157) rfl) tq_5 rfl
theorem tw_1174 : Cond.code yX10_goesHome cX10_goesHome 3 none ∈ tbg := tbg_in (List.mem_of_getElem? (l := tables_1_5) (i := 158) rfl) tq_5 rfl
theorem tw_1176 : Cond.instanceMethod yX10_carrots ∈ tbg := tbg_in (List.mem_of_getElem? (l := tables_1_5) (i := 160) rfl) tq_5 rfl
theorem tw_1177 : Cond.selects yX10_carrots.cls yX10_carrots yX10_carrots ∈ tbg := tbg_in (List.mem_of_getElem? (l := tables_1_5) (i := 161) rfl) tq_5 rfl
theorem tw_1178 : Cond.code yX10_carrots cX10_carrots 4 (some .int) ∈ tbg := tbg_in (List.mem_of_getElem? (l := tables_1_5) (i := 162) rfl) tq_5 rfl
theorem tw_1179 : Cond.constantLong "DonkeyVerdictsModel" 234 (9 : Int64) ∈ tbg := tbg_in (List.mem_of_getElem? (l := tables_1_5) (i := 163) rfl) tq_5 rfl
theorem tw_1181 : Cond.instanceMethod yX10_undo ∈ tbg := tbg_in (List.mem_of_getElem? (l := tables_1_5) (i := 165) rfl) tq_5 rfl
theorem tw_1182 : Cond.selects yX10_undo.cls yX10_undo yX10_undo ∈ tbg := tbg_in (List.mem_of_getElem? (l := tables_1_5) (i := 166) rfl) tq_5 rfl
theorem tw_1183 : Cond.code yX10_undo cX10_undo 1 (some .int) ∈ tbg := tbg_in (List.mem_of_getElem? (l := tables_1_5) (i := 167) rfl) tq_5 rfl
theorem tw_1185 : Cond.instanceMethod yX10_arrives ∈ tbg := tbg_in (List.mem_of_getElem? (l := tables_1_5) (i := 169) rfl) tq_5 rfl
theorem tw_1186 : Cond.selects yX10_arrives.cls yX10_arrives yX10_arrives ∈ tbg := tbg_in (List.mem_of_getElem? (l := tables_1_5) (i := 170) rfl) tq_5 rfl
theorem tw_1187 : Cond.code yX10_arrives cX10_arrives 2 (some .int) ∈ tbg := tbg_in (List.mem_of_getElem? (l := tables_1_5) (i := 171) rfl) tq_5 rfl
theorem tw_1188 : Cond.methodLink "DonkeyVerdictsModel" 236 yX10_standsBehind ∈ tbg := tbg_in (List.mem_of_getElem? (l := tables_1_5) (i := 172) rfl) tq_5 rfl
theorem tw_1190 : Cond.instanceMethod yX10_standsBehind ∈ tbg := tbg_in (List.mem_of_getElem? (l := tables_1_5) (i := 174) rfl) tq_5 rfl
theorem tw_1191 : Cond.code yX10_standsBehind cX10_standsBehind 3 (some .int) ∈ tbg := tbg_in (List.mem_of_getElem? (l := tables_1_5) (i := 175) rfl) tq_5 rfl
theorem tw_1193 : Cond.instanceMethod yX10_reading ∈ tbg := tbg_in (List.mem_of_getElem? (l := tables_1_5) (i := 177) rfl) tq_5 rfl
theorem tw_1194 : Cond.selects yX10_reading.cls yX10_reading yX10_reading ∈ tbg := tbg_in (List.mem_of_getElem? (l := tables_1_5) (i := 178) rfl) tq_5 rfl
theorem tw_1195 : Cond.code yX10_reading cX10_reading 2 (some .int) ∈ tbg := tbg_in (List.mem_of_getElem? (l := tables_1_5) (i := 179) rfl) tq_5 rfl
theorem tw_1196 : Cond.methodLink "DonkeyVerdictsModel" 240 yX10_readThen ∈ tbg := tbg_in (List.mem_of_getElem? (l := tables_1_5) (i := 180) rfl) tq_5 rfl
theorem tw_1198 : Cond.instanceMethod yX10_readThen ∈ tbg := tbg_in (List.mem_of_getElem? (l := tables_1_5) (i := 182) rfl) tq_5 rfl
theorem tw_1199 : Cond.code yX10_readThen cX10_readThen 2 (some .int) ∈ tbg := tbg_in (List.mem_of_getElem? (l := tables_1_5) (i := 183) rfl) tq_5 rfl
theorem tw_1201 : Cond.instanceMethod yX10_right ∈ tbg := tbg_in (List.mem_of_getElem? (l := tables_1_5) (i := 185) rfl) tq_5 rfl
theorem tw_1202 : Cond.selects yX10_right.cls yX10_right yX10_right ∈ tbg := tbg_in (List.mem_of_getElem? (l := tables_1_5) (i := 186) rfl) tq_5 rfl
theorem tw_1203 : Cond.code yX10_right cX10_right 5 (some .int) ∈ tbg := tbg_in (List.mem_of_getElem? (l := tables_1_5) (i := 187) rfl) tq_5 rfl
theorem tw_1204 : Cond.methodLink "DonkeyVerdictsModel" 243 yX10_readSent ∈ tbg := tbg_in (List.mem_of_getElem? (l := tables_1_5) (i := 188) rfl) tq_5 rfl
theorem tw_1206 : Cond.instanceMethod yX10_readSent ∈ tbg := tbg_in (List.mem_of_getElem? (l := tables_1_5) (i := 190) rfl) tq_5 rfl
theorem tw_1207 : Cond.code yX10_readSent cX10_readSent 4 (some .int) ∈ tbg := tbg_in (List.mem_of_getElem? (l := tables_1_5) (i := 191) rfl) tq_5 rfl
theorem tw_1209 : Cond.instanceMethod yX10_soonest ∈ tbg := tbg_in (List.mem_of_getElem? (l := tables_1_5) (i := 193) rfl) tq_5 rfl
theorem tw_1210 : Cond.selects yX10_soonest.cls yX10_soonest yX10_soonest ∈ tbg := tbg_in (List.mem_of_getElem? (l := tables_1_5) (i := 194) rfl) tq_5 rfl
theorem tw_1211 : Cond.code yX10_soonest cX10_soonest 7 (some .int) ∈ tbg := tbg_in (List.mem_of_getElem? (l := tables_1_5) (i := 195) rfl) tq_5 rfl
theorem tw_1213 : Cond.instanceMethod yX10_tell ∈ tbg := tbg_in (List.mem_of_getElem? (l := tables_1_5) (i := 197) rfl) tq_5 rfl
theorem tw_1214 : Cond.selects yX10_tell.cls yX10_tell yX10_tell ∈ tbg := tbg_in (List.mem_of_getElem? (l := tables_1_5) (i := 198) rfl) tq_5 rfl
theorem tw_1215 : Cond.code yX10_tell cX10_tell 5 (some .int) ∈ tbg := tbg_in (List.mem_of_getElem? (l := tables_1_5) (i := 199) rfl) tq_5 rfl
theorem tw_1217 : Cond.instanceMethod yX10_deal ∈ tbg := tbg_in (List.mem_of_getElem? (l := tables_1_5) (i := 201) rfl) tq_5 rfl
theorem tw_1218 : Cond.selects yX10_deal.cls yX10_deal yX10_deal ∈ tbg := tbg_in (List.mem_of_getElem? (l := tables_1_5) (i := 202) rfl) tq_5 rfl
theorem tw_1219 : Cond.code yX10_deal cX10_deal 9 (some .int) ∈ tbg := tbg_in (List.mem_of_getElem? (l := tables_1_5) (i := 203) rfl) tq_5 rfl
theorem tw_1220 : Cond.constantLong "DonkeyVerdictsModel" 246 (-1 : Int64) ∈ tbg := tbg_in (List.mem_of_getElem? (l := tables_1_5) (i := 204) rfl) tq_5 rfl
theorem tw_1221 : Cond.methodLink "DonkeyVerdictsModel" 248 yX10_dealsSum ∈ tbg := tbg_in (List.mem_of_getElem? (l := tables_1_5) (i := 205) rfl) tq_5 rfl
theorem tw_1223 : Cond.instanceMethod yX10_dealsSum ∈ tbg := tbg_in (List.mem_of_getElem? (l := tables_1_5) (i := 207) rfl) tq_5 rfl
theorem tw_1224 : Cond.code yX10_dealsSum cX10_dealsSum 4 (some .int) ∈ tbg := tbg_in (List.mem_of_getElem? (l := tables_1_5) (i := 208) rfl) tq_5 rfl
theorem tw_1226 : Cond.instanceMethod yX10_lure ∈ tbg := tbg_in (List.mem_of_getElem? (l := tables_1_5) (i := 210) rfl) tq_5 rfl
theorem tw_1227 : Cond.selects yX10_lure.cls yX10_lure yX10_lure ∈ tbg := tbg_in (List.mem_of_getElem? (l := tables_1_5) (i := 211) rfl) tq_5 rfl
theorem tw_1228 : Cond.code yX10_lure cX10_lure 7 (some .int) ∈ tbg := tbg_in (List.mem_of_getElem? (l := tables_1_5) (i := 212) rfl) tq_5 rfl
theorem tw_1230 : Cond.instanceMethod yX10_next ∈ tbg := tbg_in (List.mem_of_getElem? (l := tables_1_5) (i := 214) rfl) tq_5 rfl
theorem tw_1231 : Cond.selects yX10_next.cls yX10_next yX10_next ∈ tbg := tbg_in (List.mem_of_getElem? (l := tables_1_5) (i := 215) rfl) tq_5 rfl
theorem tw_1232 : Cond.code yX10_next cX10_next 6 (some .int) ∈ tbg := tbg_in (List.mem_of_getElem? (l := tables_1_5) (i := 216) rfl) tq_5 rfl
theorem tw_1234 : Cond.instanceMethod yX10_meet ∈ tbg := tbg_in (List.mem_of_getElem? (l := tables_1_5) (i := 218) rfl) tq_5 rfl
theorem tw_1235 : Cond.selects yX10_meet.cls yX10_meet yX10_meet ∈ tbg := tbg_in (List.mem_of_getElem? (l := tables_1_5) (i := 219) rfl) tq_5 rfl
theorem tw_1236 : Cond.code yX10_meet cX10_meet 4 (some .int) ∈ tbg := tbg_in (List.mem_of_getElem? (l := tables_1_5) (i := 220) rfl) tq_5 rfl
theorem tw_1238 : Cond.instanceMethod yX10_told ∈ tbg := tbg_in (List.mem_of_getElem? (l := tables_1_5) (i := 222) rfl) tq_5 rfl
theorem tw_1239 : Cond.selects yX10_told.cls yX10_told yX10_told ∈ tbg := tbg_in (List.mem_of_getElem? (l := tables_1_5) (i := 223) rfl) tq_5 rfl
theorem tw_1240 : Cond.code yX10_told cX10_told 5 (some .int) ∈ tbg := tbg_in (List.mem_of_getElem? (l := tables_1_5) (i := 224) rfl) tq_5 rfl
theorem tw_1242 : Cond.instanceMethod yX10_who ∈ tbg := tbg_in (List.mem_of_getElem? (l := tables_1_5) (i := 226) rfl) tq_5 rfl
theorem tw_1243 : Cond.selects yX10_who.cls yX10_who yX10_who ∈ tbg := tbg_in (List.mem_of_getElem? (l := tables_1_5) (i := 227) rfl) tq_5 rfl
theorem tw_1244 : Cond.code yX10_who cX10_who 9 (some .int) ∈ tbg := tbg_in (List.mem_of_getElem? (l := tables_1_5) (i := 228) rfl) tq_5 rfl
theorem tw_1246 : Cond.instanceMethod yX10_balks ∈ tbg := tbg_in (List.mem_of_getElem? (l := tables_1_5) (i := 230) rfl) tq_5 rfl
theorem tw_1247 : Cond.selects yX10_balks.cls yX10_balks yX10_balks ∈ tbg := tbg_in (List.mem_of_getElem? (l := tables_1_5) (i := 231) rfl) tq_5 rfl
theorem tw_1248 : Cond.code yX10_balks cX10_balks 10 (some .int) ∈ tbg := tbg_in (List.mem_of_getElem? (l := tables_1_5) (i := 232) rfl) tq_5 rfl
theorem tw_1249 : Cond.constantLong "DonkeyVerdictsModel" 251 (8 : Int64) ∈ tbg := tbg_in (List.mem_of_getElem? (l := tables_1_5) (i := 233) rfl) tq_5 rfl
theorem tw_1250 : Cond.constantLong "DonkeyVerdictsModel" 253 (10 : Int64) ∈ tbg := tbg_in (List.mem_of_getElem? (l := tables_1_5) (i := 234) rfl) tq_5 rfl
theorem tw_1252 : Cond.instanceMethod yX10_year ∈ tbg := tbg_in (List.mem_of_getElem? (l := tables_1_5) (i := 236) rfl) tq_5 rfl
theorem tw_1253 : Cond.selects yX10_year.cls yX10_year yX10_year ∈ tbg := tbg_in (List.mem_of_getElem? (l := tables_1_5) (i := 237) rfl) tq_5 rfl
theorem tw_1254 : Cond.code yX10_year cX10_year 8 (some .int) ∈ tbg := tbg_in (List.mem_of_getElem? (l := tables_1_5) (i := 238) rfl) tq_5 rfl
theorem tw_1255 : Cond.constantLong "DonkeyVerdictsModel" 255 (9999 : Int64) ∈ tbg := tbg_in (List.mem_of_getElem? (l := tables_1_5) (i := 239) rfl) tq_5 rfl
theorem tw_1256 : Cond.constantLong "DonkeyVerdictsModel" 257 (60 : Int64) ∈ tbg := tbg_in (List.mem_of_getElem? (l := tables_1_6) (i := 0) rfl) tq_6 rfl
theorem tw_1257 : Cond.constantLong "DonkeyVerdictsModel" 259 (7919 : Int64) ∈ tbg := tbg_in (List.mem_of_getElem? (l := tables_1_6) (i := 1) rfl) tq_6 rfl
theorem tw_1258 : Cond.constantLong "DonkeyVerdictsModel" 261 (6151 : Int64) ∈ tbg := tbg_in (List.mem_of_getElem? (l := tables_1_6) (i := 2) rfl) tq_6 rfl
theorem tw_1259 : Cond.constantLong "DonkeyVerdictsModel" 263 (65521 : Int64) ∈ tbg := tbg_in (List.mem_of_getElem? (l := tables_1_6) (i := 3) rfl) tq_6 rfl
theorem tw_1260 : Cond.methodLink "DonkeyVerdictsModel" 265 yX10_does ∈ tbg := tbg_in (List.mem_of_getElem? (l := tables_1_6) (i := 4) rfl) tq_6 rfl
theorem tw_1262 : Cond.instanceMethod yX10_does ∈ tbg := tbg_in (List.mem_of_getElem? (l := tables_1_6) (i := 6) rfl) tq_6 rfl
theorem tw_1263 : Cond.code yX10_does cX10_does 6 none ∈ tbg := tbg_in (List.mem_of_getElem? (l := tables_1_6) (i := 7) rfl) tq_6 rfl
theorem tw_1265 : Cond.instanceMethod yX10_keep ∈ tbg := tbg_in (List.mem_of_getElem? (l := tables_1_6) (i := 9) rfl) tq_6 rfl
theorem tw_1266 : Cond.selects yX10_keep.cls yX10_keep yX10_keep ∈ tbg := tbg_in (List.mem_of_getElem? (l := tables_1_6) (i := 10) rfl) tq_6 rfl
theorem tw_1267 : Cond.code yX10_keep cX10_keep 1 (some .int) ∈ tbg := tbg_in (List.mem_of_getElem? (l := tables_1_6) (i := 11) rfl) tq_6 rfl
theorem tw_1269 : Cond.instanceMethod yX10_back ∈ tbg := tbg_in (List.mem_of_getElem? (l := tables_1_6) (i := 13) rfl) tq_6 rfl
theorem tw_1270 : Cond.selects yX10_back.cls yX10_back yX10_back ∈ tbg := tbg_in (List.mem_of_getElem? (l := tables_1_6) (i := 14) rfl) tq_6 rfl
theorem tw_1271 : Cond.code yX10_back cX10_back 1 (some .int) ∈ tbg := tbg_in (List.mem_of_getElem? (l := tables_1_6) (i := 15) rfl) tq_6 rfl
theorem tw_1273 : Cond.instanceMethod yX10_count ∈ tbg := tbg_in (List.mem_of_getElem? (l := tables_1_6) (i := 17) rfl) tq_6 rfl
theorem tw_1274 : Cond.selects yX10_count.cls yX10_count yX10_count ∈ tbg := tbg_in (List.mem_of_getElem? (l := tables_1_6) (i := 18) rfl) tq_6 rfl
theorem tw_1275 : Cond.code yX10_count cX10_count 2 (some .int) ∈ tbg := tbg_in (List.mem_of_getElem? (l := tables_1_6) (i := 19) rfl) tq_6 rfl
theorem tw_1276 : Cond.methodLink "DonkeyVerdictsModel" 268 yX10_allWays ∈ tbg := tbg_in (List.mem_of_getElem? (l := tables_1_6) (i := 20) rfl) tq_6 rfl
theorem tw_1278 : Cond.instanceMethod yX10_allWays ∈ tbg := tbg_in (List.mem_of_getElem? (l := tables_1_6) (i := 22) rfl) tq_6 rfl
theorem tw_1279 : Cond.code yX10_allWays cX10_allWays 3 (some .int) ∈ tbg := tbg_in (List.mem_of_getElem? (l := tables_1_6) (i := 23) rfl) tq_6 rfl
theorem tw_1280 : Cond.constantLong "DonkeyVerdictsModel" 271 (5 : Int64) ∈ tbg := tbg_in (List.mem_of_getElem? (l := tables_1_6) (i := 24) rfl) tq_6 rfl
theorem tw_1281 : Cond.methodLink "DonkeyVerdictsModel" 273 yX10_many ∈ tbg := tbg_in (List.mem_of_getElem? (l := tables_1_6) (i := 25) rfl) tq_6 rfl
theorem tw_1283 : Cond.instanceMethod yX10_many ∈ tbg := tbg_in (List.mem_of_getElem? (l := tables_1_6) (i := 27) rfl) tq_6 rfl
theorem tw_1284 : Cond.code yX10_many cX10_many 4 (some .int) ∈ tbg := tbg_in (List.mem_of_getElem? (l := tables_1_6) (i := 28) rfl) tq_6 rfl
theorem tw_1285 : Cond.methodLink "DonkeyVerdictsModel" 276 yX10_allCarrots ∈ tbg := tbg_in (List.mem_of_getElem? (l := tables_1_6) (i := 29) rfl) tq_6 rfl
theorem tw_1287 : Cond.instanceMethod yX10_allCarrots ∈ tbg := tbg_in (List.mem_of_getElem? (l := tables_1_6) (i := 31) rfl) tq_6 rfl
theorem tw_1288 : Cond.code yX10_allCarrots cX10_allCarrots 3 (some .int) ∈ tbg := tbg_in (List.mem_of_getElem? (l := tables_1_6) (i := 32) rfl) tq_6 rfl
theorem cb_m4 : (Int8.ofInt (-4)).toInt32 = (-4 : Int32) := by decide
theorem cb_m3 : (Int8.ofInt (-3)).toInt32 = (-3 : Int32) := by decide
theorem cb_m2 : (Int8.ofInt (-2)).toInt32 = (-2 : Int32) := by decide
theorem cb_6 : (Int8.ofInt (6)).toInt32 = (6 : Int32) := by decide
theorem cb_7 : (Int8.ofInt (7)).toInt32 = (7 : Int32) := by decide
theorem cb_8 : (Int8.ofInt (8)).toInt32 = (8 : Int32) := by decide
theorem cb_9 : (Int8.ofInt (9)).toInt32 = (9 : Int32) := by decide
theorem cb_10 : (Int8.ofInt (10)).toInt32 = (10 : Int32) := by decide
theorem cb_11 : (Int8.ofInt (11)).toInt32 = (11 : Int32) := by decide
theorem cb_12 : (Int8.ofInt (12)).toInt32 = (12 : Int32) := by decide
theorem cb_15 : (Int8.ofInt (15)).toInt32 = (15 : Int32) := by decide
theorem cb_16 : (Int8.ofInt (16)).toInt32 = (16 : Int32) := by decide
theorem cb_20 : (Int8.ofInt (20)).toInt32 = (20 : Int32) := by decide
theorem cb_24 : (Int8.ofInt (24)).toInt32 = (24 : Int32) := by decide
theorem cb_25 : (Int8.ofInt (25)).toInt32 = (25 : Int32) := by decide
theorem cb_30 : (Int8.ofInt (30)).toInt32 = (30 : Int32) := by decide
theorem cb_32 : (Int8.ofInt (32)).toInt32 = (32 : Int32) := by decide
theorem cb_35 : (Int8.ofInt (35)).toInt32 = (35 : Int32) := by decide
theorem cb_40 : (Int8.ofInt (40)).toInt32 = (40 : Int32) := by decide
theorem cb_44 : (Int8.ofInt (44)).toInt32 = (44 : Int32) := by decide
theorem cb_45 : (Int8.ofInt (45)).toInt32 = (45 : Int32) := by decide
theorem cb_48 : (Int8.ofInt (48)).toInt32 = (48 : Int32) := by decide
theorem cb_50 : (Int8.ofInt (50)).toInt32 = (50 : Int32) := by decide
theorem cb_55 : (Int8.ofInt (55)).toInt32 = (55 : Int32) := by decide
theorem cb_57 : (Int8.ofInt (57)).toInt32 = (57 : Int32) := by decide
theorem cb_59 : (Int8.ofInt (59)).toInt32 = (59 : Int32) := by decide
theorem cb_60 : (Int8.ofInt (60)).toInt32 = (60 : Int32) := by decide
theorem cb_63 : (Int8.ofInt (63)).toInt32 = (63 : Int32) := by decide
theorem cb_64 : (Int8.ofInt (64)).toInt32 = (64 : Int32) := by decide
theorem cb_98 : (Int8.ofInt (98)).toInt32 = (98 : Int32) := by decide
theorem cb_99 : (Int8.ofInt (99)).toInt32 = (99 : Int32) := by decide
theorem cb_100 : (Int8.ofInt (100)).toInt32 = (100 : Int32) := by decide
theorem cb_109 : (Int8.ofInt (109)).toInt32 = (109 : Int32) := by decide
theorem cb_110 : (Int8.ofInt (110)).toInt32 = (110 : Int32) := by decide
theorem cb_119 : (Int8.ofInt (119)).toInt32 = (119 : Int32) := by decide
theorem cb_126 : (Int8.ofInt (126)).toInt32 = (126 : Int32) := by decide
theorem ci_m1 : Int32.ofInt (-1) = (-1 : Int32) := by decide
theorem ci_0 : Int32.ofInt (0) = (0 : Int32) := by decide
theorem ci_1 : Int32.ofInt (1) = (1 : Int32) := by decide
theorem ci_2 : Int32.ofInt (2) = (2 : Int32) := by decide
theorem ci_3 : Int32.ofInt (3) = (3 : Int32) := by decide
theorem ci_4 : Int32.ofInt (4) = (4 : Int32) := by decide
theorem ci_5 : Int32.ofInt (5) = (5 : Int32) := by decide
theorem cs_200 : (Int16.ofInt (200)).toInt32 = (200 : Int32) := by decide
theorem cs_512 : (Int16.ofInt (512)).toInt32 = (512 : Int32) := by decide
theorem cs_704 : (Int16.ofInt (704)).toInt32 = (704 : Int32) := by decide
theorem cs_709 : (Int16.ofInt (709)).toInt32 = (709 : Int32) := by decide
theorem cs_714 : (Int16.ofInt (714)).toInt32 = (714 : Int32) := by decide
theorem cs_729 : (Int16.ofInt (729)).toInt32 = (729 : Int32) := by decide
theorem cs_744 : (Int16.ofInt (744)).toInt32 = (744 : Int32) := by decide
theorem cs_759 : (Int16.ofInt (759)).toInt32 = (759 : Int32) := by decide
theorem cs_1000 : (Int16.ofInt (1000)).toInt32 = (1000 : Int32) := by decide
theorem cs_9999 : (Int16.ofInt (9999)).toInt32 = (9999 : Int32) := by decide
