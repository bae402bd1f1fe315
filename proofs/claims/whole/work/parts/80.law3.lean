/-! THE LAW: cases 20 to 29 -/
theorem dL_law_718 : decode cL_law 718 = .ok (.aload_n 1, 1) := by decide +kernel
theorem dL_law_719 : decode cL_law 719 = .ok (.aload_n 0, 1) := by decide +kernel
theorem dL_law_720 : decode cL_law 720 = .ok (.iload_n 3, 1) := by decide +kernel
theorem dL_law_721 : decode cL_law 721 = .ok (.iconst 1, 1) := by decide +kernel
theorem dL_law_722 : decode cL_law 722 = .ok (.iadd, 1) := by decide +kernel
theorem dL_law_723 : decode cL_law 723 = .ok (.iaload, 1) := by decide +kernel
theorem dL_law_724 : decode cL_law 724 = .ok (.invokevirtual 97, 3) := by decide +kernel
theorem dL_law_727 : decode cL_law 727 = .ok (.aload_n 2, 1) := by decide +kernel
theorem dL_law_728 : decode cL_law 728 = .ok (.aload_n 0, 1) := by decide +kernel
theorem dL_law_729 : decode cL_law 729 = .ok (.iload_n 3, 1) := by decide +kernel
theorem dL_law_730 : decode cL_law 730 = .ok (.iconst 1, 1) := by decide +kernel
theorem dL_law_731 : decode cL_law 731 = .ok (.iadd, 1) := by decide +kernel
theorem dL_law_732 : decode cL_law 732 = .ok (.iaload, 1) := by decide +kernel
theorem dL_law_733 : decode cL_law 733 = .ok (.invokevirtual 100, 3) := by decide +kernel
theorem dL_law_736 : decode cL_law 736 = .ok (.if_icmp .eq 292, 3) := by decide +kernel
set_option maxHeartbeats 4000000 in
set_option maxRecDepth 100000 in
theorem lc_20 {p : Program} {l : Launch} {e : Env} {s : State} {m : MethodId} {below : List Frame} {meth : Method} {c : Code} {cells slots : Nat} {Q : State → Prop} {b L : Nat} {xs : Nat → Int32} {EX EM : jE} {A B : Mem} {H : Heap} {locs : List Loc} {ls : Array Slot} {i : Nat} (C : lwX p s m c b L xs EX EM) (hcs : cells ≤ room_1.cells ∧ slots ≤ room_1.slots) (hi : i + 5 ≤ L) (hrel : REL A B) (hl : lv_has ls 4 [(3, .int (nI i)), (2, .ref (gad (gM EM) 0)), (1, .ref (gad (gX EX) 0)), (0, .ref b)]) (hS : lwS s EX EM A B H locs) (kk : ∀ (A1 B1 : Mem) (H1 : Heap) (locs1 : List Loc), REL A1 B1 → lwS s EX EM A1 B1 H1 locs1 → W p l e room_1 s m #[Value.ref b] below meth c H1 locs1 cells slots Q (F0 m 1028 ls [])) : W p l e room_1 s m #[Value.ref b] below meth c H locs cells slots Q (F0 m 718 ls []) := by
  obtain ⟨r, A1, B1, e1, e2, hrel1⟩ := a_lure (fu := 1001) hrel (by decide) ((xs (nI i + nI 1).toNatClampNeg))
  have hx := C.1.1
  have hb := C.1.2.1
  refine lv_aload_n hx hb dL_law_718 rfl (lv_at hl 2 rfl) ?_
  refine lv_aload_n hx hb dL_law_719 rfl (lv_at hl 3 rfl) ?_
  refine lv_iload_n hx hb dL_law_720 rfl (lv_at hl 0 rfl) ?_
  refine lv_iconst (v := nI 1) hx hb dL_law_721 (by decide) ?_
  refine lv_iadd hx hb dL_law_722 ?_
  refine lw_arg (k := 1) C hS (by omega) dL_law_723 ?_
  refine lw_callX C [.int (xs (nI i + nI 1).toNatClampNeg)] (mX9_lure l EX C.2.2.2.1.1 1001 ((xs (nI i + nI 1).toNatClampNeg)) _) e1 qX9_lure tw_762 rfl rfl ⟨rfl, rfl⟩ ⟨(Nat.le_of_ble_eq_true rfl), (Nat.le_of_ble_eq_true rfl)⟩ (Nat.le_of_ble_eq_true rfl) hl.1 dL_law_724 hS hcs rfl (fun H locs hS => ?_)
  refine lv_aload_n hx hb dL_law_727 rfl (lv_at hl 1 rfl) ?_
  refine lv_aload_n hx hb dL_law_728 rfl (lv_at hl 3 rfl) ?_
  refine lv_iload_n hx hb dL_law_729 rfl (lv_at hl 0 rfl) ?_
  refine lv_iconst (v := nI 1) hx hb dL_law_730 (by decide) ?_
  refine lv_iadd hx hb dL_law_731 ?_
  refine lw_arg (k := 1) C hS (by omega) dL_law_732 ?_
  refine lw_callM C [.int (xs (nI i + nI 1).toNatClampNeg)] (mX10_lure l EM C.2.2.2.1.2 1001 ((xs (nI i + nI 1).toNatClampNeg)) _) e2 qX10_lure tw_1225 rfl rfl ⟨rfl, rfl⟩ ⟨(Nat.le_of_ble_eq_true rfl), (Nat.le_of_ble_eq_true rfl)⟩ (Nat.le_of_ble_eq_true rfl) hl.1 dL_law_733 hS hcs rfl (fun H locs hS => ?_)
  exact lv_icmp_eq (tgt := 1028) hx hb dL_law_736 (by decide) (fun _ => kk _ _ H locs hrel1 hS) (fun c_1 => absurd rfl c_1)
theorem dL_law_741 : decode cL_law 741 = .ok (.aload_n 1, 1) := by decide +kernel
theorem dL_law_742 : decode cL_law 742 = .ok (.aload_n 0, 1) := by decide +kernel
theorem dL_law_743 : decode cL_law 743 = .ok (.iload_n 3, 1) := by decide +kernel
theorem dL_law_744 : decode cL_law 744 = .ok (.iconst 1, 1) := by decide +kernel
theorem dL_law_745 : decode cL_law 745 = .ok (.iadd, 1) := by decide +kernel
theorem dL_law_746 : decode cL_law 746 = .ok (.iaload, 1) := by decide +kernel
theorem dL_law_747 : decode cL_law 747 = .ok (.aload_n 0, 1) := by decide +kernel
theorem dL_law_748 : decode cL_law 748 = .ok (.iload_n 3, 1) := by decide +kernel
theorem dL_law_749 : decode cL_law 749 = .ok (.iconst 2, 1) := by decide +kernel
theorem dL_law_750 : decode cL_law 750 = .ok (.iadd, 1) := by decide +kernel
theorem dL_law_751 : decode cL_law 751 = .ok (.iaload, 1) := by decide +kernel
theorem dL_law_752 : decode cL_law 752 = .ok (.invokevirtual 101, 3) := by decide +kernel
theorem dL_law_755 : decode cL_law 755 = .ok (.aload_n 2, 1) := by decide +kernel
theorem dL_law_756 : decode cL_law 756 = .ok (.aload_n 0, 1) := by decide +kernel
theorem dL_law_757 : decode cL_law 757 = .ok (.iload_n 3, 1) := by decide +kernel
theorem dL_law_758 : decode cL_law 758 = .ok (.iconst 1, 1) := by decide +kernel
theorem dL_law_759 : decode cL_law 759 = .ok (.iadd, 1) := by decide +kernel
theorem dL_law_760 : decode cL_law 760 = .ok (.iaload, 1) := by decide +kernel
theorem dL_law_761 : decode cL_law 761 = .ok (.aload_n 0, 1) := by decide +kernel
theorem dL_law_762 : decode cL_law 762 = .ok (.iload_n 3, 1) := by decide +kernel
theorem dL_law_763 : decode cL_law 763 = .ok (.iconst 2, 1) := by decide +kernel
theorem dL_law_764 : decode cL_law 764 = .ok (.iadd, 1) := by decide +kernel
theorem dL_law_765 : decode cL_law 765 = .ok (.iaload, 1) := by decide +kernel
theorem dL_law_766 : decode cL_law 766 = .ok (.invokevirtual 104, 3) := by decide +kernel
theorem dL_law_769 : decode cL_law 769 = .ok (.if_icmp .eq 259, 3) := by decide +kernel
set_option maxHeartbeats 4000000 in
set_option maxRecDepth 100000 in
theorem lc_21 {p : Program} {l : Launch} {e : Env} {s : State} {m : MethodId} {below : List Frame} {meth : Method} {c : Code} {cells slots : Nat} {Q : State → Prop} {b L : Nat} {xs : Nat → Int32} {EX EM : jE} {A B : Mem} {H : Heap} {locs : List Loc} {ls : Array Slot} {i : Nat} (C : lwX p s m c b L xs EX EM) (hcs : cells ≤ room_1.cells ∧ slots ≤ room_1.slots) (hi : i + 5 ≤ L) (hrel : REL A B) (hl : lv_has ls 4 [(3, .int (nI i)), (2, .ref (gad (gM EM) 0)), (1, .ref (gad (gX EX) 0)), (0, .ref b)]) (hS : lwS s EX EM A B H locs) (kk : ∀ (A1 B1 : Mem) (H1 : Heap) (locs1 : List Loc), REL A1 B1 → lwS s EX EM A1 B1 H1 locs1 → W p l e room_1 s m #[Value.ref b] below meth c H1 locs1 cells slots Q (F0 m 1028 ls [])) : W p l e room_1 s m #[Value.ref b] below meth c H locs cells slots Q (F0 m 741 ls []) := by
  obtain ⟨r, A1, B1, e1, e2, hrel1⟩ := a_next (fu := 1001) hrel (by decide) ((xs (nI i + nI 1).toNatClampNeg)) ((xs (nI i + nI 2).toNatClampNeg))
  have hx := C.1.1
  have hb := C.1.2.1
  refine lv_aload_n hx hb dL_law_741 rfl (lv_at hl 2 rfl) ?_
  refine lv_aload_n hx hb dL_law_742 rfl (lv_at hl 3 rfl) ?_
  refine lv_iload_n hx hb dL_law_743 rfl (lv_at hl 0 rfl) ?_
  refine lv_iconst (v := nI 1) hx hb dL_law_744 (by decide) ?_
  refine lv_iadd hx hb dL_law_745 ?_
  refine lw_arg (k := 1) C hS (by omega) dL_law_746 ?_
  refine lv_aload_n hx hb dL_law_747 rfl (lv_at hl 3 rfl) ?_
  refine lv_iload_n hx hb dL_law_748 rfl (lv_at hl 0 rfl) ?_
  refine lv_iconst (v := nI 2) hx hb dL_law_749 (by decide) ?_
  refine lv_iadd hx hb dL_law_750 ?_
  refine lw_arg (k := 2) C hS (by omega) dL_law_751 ?_
  refine lw_callX C [.int (xs (nI i + nI 1).toNatClampNeg), .int (xs (nI i + nI 2).toNatClampNeg)] (mX9_next l EX C.2.2.2.1.1 1001 ((xs (nI i + nI 1).toNatClampNeg)) ((xs (nI i + nI 2).toNatClampNeg)) _) e1 qX9_next tw_774 rfl rfl ⟨rfl, rfl⟩ ⟨(Nat.le_of_ble_eq_true rfl), (Nat.le_of_ble_eq_true rfl)⟩ (Nat.le_of_ble_eq_true rfl) hl.1 dL_law_752 hS hcs rfl (fun H locs hS => ?_)
  refine lv_aload_n hx hb dL_law_755 rfl (lv_at hl 1 rfl) ?_
  refine lv_aload_n hx hb dL_law_756 rfl (lv_at hl 3 rfl) ?_
  refine lv_iload_n hx hb dL_law_757 rfl (lv_at hl 0 rfl) ?_
  refine lv_iconst (v := nI 1) hx hb dL_law_758 (by decide) ?_
  refine lv_iadd hx hb dL_law_759 ?_
  refine lw_arg (k := 1) C hS (by omega) dL_law_760 ?_
  refine lv_aload_n hx hb dL_law_761 rfl (lv_at hl 3 rfl) ?_
  refine lv_iload_n hx hb dL_law_762 rfl (lv_at hl 0 rfl) ?_
  refine lv_iconst (v := nI 2) hx hb dL_law_763 (by decide) ?_
  refine lv_iadd hx hb dL_law_764 ?_
  refine lw_arg (k := 2) C hS (by omega) dL_law_765 ?_
  refine lw_callM C [.int (xs (nI i + nI 1).toNatClampNeg), .int (xs (nI i + nI 2).toNatClampNeg)] (mX10_next l EM C.2.2.2.1.2 1001 ((xs (nI i + nI 1).toNatClampNeg)) ((xs (nI i + nI 2).toNatClampNeg)) _) e2 qX10_next tw_1229 rfl rfl ⟨rfl, rfl⟩ ⟨(Nat.le_of_ble_eq_true rfl), (Nat.le_of_ble_eq_true rfl)⟩ (Nat.le_of_ble_eq_true rfl) hl.1 dL_law_766 hS hcs rfl (fun H locs hS => ?_)
  exact lv_icmp_eq (tgt := 1028) hx hb dL_law_769 (by decide) (fun _ => kk _ _ H locs hrel1 hS) (fun c_1 => absurd rfl c_1)
theorem dL_law_774 : decode cL_law 774 = .ok (.aload_n 1, 1) := by decide +kernel
theorem dL_law_775 : decode cL_law 775 = .ok (.aload_n 0, 1) := by decide +kernel
theorem dL_law_776 : decode cL_law 776 = .ok (.iload_n 3, 1) := by decide +kernel
theorem dL_law_777 : decode cL_law 777 = .ok (.iconst 1, 1) := by decide +kernel
theorem dL_law_778 : decode cL_law 778 = .ok (.iadd, 1) := by decide +kernel
theorem dL_law_779 : decode cL_law 779 = .ok (.iaload, 1) := by decide +kernel
theorem dL_law_780 : decode cL_law 780 = .ok (.aload_n 0, 1) := by decide +kernel
theorem dL_law_781 : decode cL_law 781 = .ok (.iload_n 3, 1) := by decide +kernel
theorem dL_law_782 : decode cL_law 782 = .ok (.iconst 2, 1) := by decide +kernel
theorem dL_law_783 : decode cL_law 783 = .ok (.iadd, 1) := by decide +kernel
theorem dL_law_784 : decode cL_law 784 = .ok (.iaload, 1) := by decide +kernel
theorem dL_law_785 : decode cL_law 785 = .ok (.invokevirtual 105, 3) := by decide +kernel
theorem dL_law_788 : decode cL_law 788 = .ok (.aload_n 2, 1) := by decide +kernel
theorem dL_law_789 : decode cL_law 789 = .ok (.aload_n 0, 1) := by decide +kernel
theorem dL_law_790 : decode cL_law 790 = .ok (.iload_n 3, 1) := by decide +kernel
theorem dL_law_791 : decode cL_law 791 = .ok (.iconst 1, 1) := by decide +kernel
theorem dL_law_792 : decode cL_law 792 = .ok (.iadd, 1) := by decide +kernel
theorem dL_law_793 : decode cL_law 793 = .ok (.iaload, 1) := by decide +kernel
theorem dL_law_794 : decode cL_law 794 = .ok (.aload_n 0, 1) := by decide +kernel
theorem dL_law_795 : decode cL_law 795 = .ok (.iload_n 3, 1) := by decide +kernel
theorem dL_law_796 : decode cL_law 796 = .ok (.iconst 2, 1) := by decide +kernel
theorem dL_law_797 : decode cL_law 797 = .ok (.iadd, 1) := by decide +kernel
theorem dL_law_798 : decode cL_law 798 = .ok (.iaload, 1) := by decide +kernel
theorem dL_law_799 : decode cL_law 799 = .ok (.invokevirtual 108, 3) := by decide +kernel
theorem dL_law_802 : decode cL_law 802 = .ok (.if_icmp .eq 226, 3) := by decide +kernel
set_option maxHeartbeats 4000000 in
set_option maxRecDepth 100000 in
theorem lc_22 {p : Program} {l : Launch} {e : Env} {s : State} {m : MethodId} {below : List Frame} {meth : Method} {c : Code} {cells slots : Nat} {Q : State → Prop} {b L : Nat} {xs : Nat → Int32} {EX EM : jE} {A B : Mem} {H : Heap} {locs : List Loc} {ls : Array Slot} {i : Nat} (C : lwX p s m c b L xs EX EM) (hcs : cells ≤ room_1.cells ∧ slots ≤ room_1.slots) (hi : i + 5 ≤ L) (hrel : REL A B) (hl : lv_has ls 4 [(3, .int (nI i)), (2, .ref (gad (gM EM) 0)), (1, .ref (gad (gX EX) 0)), (0, .ref b)]) (hS : lwS s EX EM A B H locs) (kk : ∀ (A1 B1 : Mem) (H1 : Heap) (locs1 : List Loc), REL A1 B1 → lwS s EX EM A1 B1 H1 locs1 → W p l e room_1 s m #[Value.ref b] below meth c H1 locs1 cells slots Q (F0 m 1028 ls [])) : W p l e room_1 s m #[Value.ref b] below meth c H locs cells slots Q (F0 m 774 ls []) := by
  obtain ⟨r, A1, B1, e1, e2, hrel1⟩ := a_meet (fu := 1001) hrel (by decide) ((xs (nI i + nI 1).toNatClampNeg)) ((xs (nI i + nI 2).toNatClampNeg))
  have hx := C.1.1
  have hb := C.1.2.1
  refine lv_aload_n hx hb dL_law_774 rfl (lv_at hl 2 rfl) ?_
  refine lv_aload_n hx hb dL_law_775 rfl (lv_at hl 3 rfl) ?_
  refine lv_iload_n hx hb dL_law_776 rfl (lv_at hl 0 rfl) ?_
  refine lv_iconst (v := nI 1) hx hb dL_law_777 (by decide) ?_
  refine lv_iadd hx hb dL_law_778 ?_
  refine lw_arg (k := 1) C hS (by omega) dL_law_779 ?_
  refine lv_aload_n hx hb dL_law_780 rfl (lv_at hl 3 rfl) ?_
  refine lv_iload_n hx hb dL_law_781 rfl (lv_at hl 0 rfl) ?_
  refine lv_iconst (v := nI 2) hx hb dL_law_782 (by decide) ?_
  refine lv_iadd hx hb dL_law_783 ?_
  refine lw_arg (k := 2) C hS (by omega) dL_law_784 ?_
  refine lw_callX C [.int (xs (nI i + nI 1).toNatClampNeg), .int (xs (nI i + nI 2).toNatClampNeg)] (mX9_meet l EX C.2.2.2.1.1 1001 ((xs (nI i + nI 1).toNatClampNeg)) ((xs (nI i + nI 2).toNatClampNeg)) _) e1 qX9_meet tw_783 rfl rfl ⟨rfl, rfl⟩ ⟨(Nat.le_of_ble_eq_true rfl), (Nat.le_of_ble_eq_true rfl)⟩ (Nat.le_of_ble_eq_true rfl) hl.1 dL_law_785 hS hcs rfl (fun H locs hS => ?_)
  refine lv_aload_n hx hb dL_law_788 rfl (lv_at hl 1 rfl) ?_
  refine lv_aload_n hx hb dL_law_789 rfl (lv_at hl 3 rfl) ?_
  refine lv_iload_n hx hb dL_law_790 rfl (lv_at hl 0 rfl) ?_
  refine lv_iconst (v := nI 1) hx hb dL_law_791 (by decide) ?_
  refine lv_iadd hx hb dL_law_792 ?_
  refine lw_arg (k := 1) C hS (by omega) dL_law_793 ?_
  refine lv_aload_n hx hb dL_law_794 rfl (lv_at hl 3 rfl) ?_
  refine lv_iload_n hx hb dL_law_795 rfl (lv_at hl 0 rfl) ?_
  refine lv_iconst (v := nI 2) hx hb dL_law_796 (by decide) ?_
  refine lv_iadd hx hb dL_law_797 ?_
  refine lw_arg (k := 2) C hS (by omega) dL_law_798 ?_
  refine lw_callM C [.int (xs (nI i + nI 1).toNatClampNeg), .int (xs (nI i + nI 2).toNatClampNeg)] (mX10_meet l EM C.2.2.2.1.2 1001 ((xs (nI i + nI 1).toNatClampNeg)) ((xs (nI i + nI 2).toNatClampNeg)) _) e2 qX10_meet tw_1233 rfl rfl ⟨rfl, rfl⟩ ⟨(Nat.le_of_ble_eq_true rfl), (Nat.le_of_ble_eq_true rfl)⟩ (Nat.le_of_ble_eq_true rfl) hl.1 dL_law_799 hS hcs rfl (fun H locs hS => ?_)
  exact lv_icmp_eq (tgt := 1028) hx hb dL_law_802 (by decide) (fun _ => kk _ _ H locs hrel1 hS) (fun c_1 => absurd rfl c_1)
theorem dL_law_807 : decode cL_law 807 = .ok (.aload_n 1, 1) := by decide +kernel
theorem dL_law_808 : decode cL_law 808 = .ok (.aload_n 0, 1) := by decide +kernel
theorem dL_law_809 : decode cL_law 809 = .ok (.iload_n 3, 1) := by decide +kernel
theorem dL_law_810 : decode cL_law 810 = .ok (.iconst 1, 1) := by decide +kernel
theorem dL_law_811 : decode cL_law 811 = .ok (.iadd, 1) := by decide +kernel
theorem dL_law_812 : decode cL_law 812 = .ok (.iaload, 1) := by decide +kernel
theorem dL_law_813 : decode cL_law 813 = .ok (.aload_n 0, 1) := by decide +kernel
theorem dL_law_814 : decode cL_law 814 = .ok (.iload_n 3, 1) := by decide +kernel
theorem dL_law_815 : decode cL_law 815 = .ok (.iconst 2, 1) := by decide +kernel
theorem dL_law_816 : decode cL_law 816 = .ok (.iadd, 1) := by decide +kernel
theorem dL_law_817 : decode cL_law 817 = .ok (.iaload, 1) := by decide +kernel
theorem dL_law_818 : decode cL_law 818 = .ok (.invokevirtual 109, 3) := by decide +kernel
theorem dL_law_821 : decode cL_law 821 = .ok (.aload_n 2, 1) := by decide +kernel
theorem dL_law_822 : decode cL_law 822 = .ok (.aload_n 0, 1) := by decide +kernel
theorem dL_law_823 : decode cL_law 823 = .ok (.iload_n 3, 1) := by decide +kernel
theorem dL_law_824 : decode cL_law 824 = .ok (.iconst 1, 1) := by decide +kernel
theorem dL_law_825 : decode cL_law 825 = .ok (.iadd, 1) := by decide +kernel
theorem dL_law_826 : decode cL_law 826 = .ok (.iaload, 1) := by decide +kernel
theorem dL_law_827 : decode cL_law 827 = .ok (.aload_n 0, 1) := by decide +kernel
theorem dL_law_828 : decode cL_law 828 = .ok (.iload_n 3, 1) := by decide +kernel
theorem dL_law_829 : decode cL_law 829 = .ok (.iconst 2, 1) := by decide +kernel
theorem dL_law_830 : decode cL_law 830 = .ok (.iadd, 1) := by decide +kernel
theorem dL_law_831 : decode cL_law 831 = .ok (.iaload, 1) := by decide +kernel
theorem dL_law_832 : decode cL_law 832 = .ok (.invokevirtual 112, 3) := by decide +kernel
theorem dL_law_835 : decode cL_law 835 = .ok (.if_icmp .eq 193, 3) := by decide +kernel
set_option maxHeartbeats 4000000 in
set_option maxRecDepth 100000 in
theorem lc_23 {p : Program} {l : Launch} {e : Env} {s : State} {m : MethodId} {below : List Frame} {meth : Method} {c : Code} {cells slots : Nat} {Q : State → Prop} {b L : Nat} {xs : Nat → Int32} {EX EM : jE} {A B : Mem} {H : Heap} {locs : List Loc} {ls : Array Slot} {i : Nat} (C : lwX p s m c b L xs EX EM) (hcs : cells ≤ room_1.cells ∧ slots ≤ room_1.slots) (hi : i + 5 ≤ L) (hrel : REL A B) (hl : lv_has ls 4 [(3, .int (nI i)), (2, .ref (gad (gM EM) 0)), (1, .ref (gad (gX EX) 0)), (0, .ref b)]) (hS : lwS s EX EM A B H locs) (kk : ∀ (A1 B1 : Mem) (H1 : Heap) (locs1 : List Loc), REL A1 B1 → lwS s EX EM A1 B1 H1 locs1 → W p l e room_1 s m #[Value.ref b] below meth c H1 locs1 cells slots Q (F0 m 1028 ls [])) : W p l e room_1 s m #[Value.ref b] below meth c H locs cells slots Q (F0 m 807 ls []) := by
  obtain ⟨r, A1, B1, e1, e2, hrel1⟩ := a_told (fu := 1001) hrel (by decide) ((xs (nI i + nI 1).toNatClampNeg)) ((xs (nI i + nI 2).toNatClampNeg))
  have hx := C.1.1
  have hb := C.1.2.1
  refine lv_aload_n hx hb dL_law_807 rfl (lv_at hl 2 rfl) ?_
  refine lv_aload_n hx hb dL_law_808 rfl (lv_at hl 3 rfl) ?_
  refine lv_iload_n hx hb dL_law_809 rfl (lv_at hl 0 rfl) ?_
  refine lv_iconst (v := nI 1) hx hb dL_law_810 (by decide) ?_
  refine lv_iadd hx hb dL_law_811 ?_
  refine lw_arg (k := 1) C hS (by omega) dL_law_812 ?_
  refine lv_aload_n hx hb dL_law_813 rfl (lv_at hl 3 rfl) ?_
  refine lv_iload_n hx hb dL_law_814 rfl (lv_at hl 0 rfl) ?_
  refine lv_iconst (v := nI 2) hx hb dL_law_815 (by decide) ?_
  refine lv_iadd hx hb dL_law_816 ?_
  refine lw_arg (k := 2) C hS (by omega) dL_law_817 ?_
  refine lw_callX C [.int (xs (nI i + nI 1).toNatClampNeg), .int (xs (nI i + nI 2).toNatClampNeg)] (mX9_told l EX C.2.2.2.1.1 1001 ((xs (nI i + nI 1).toNatClampNeg)) ((xs (nI i + nI 2).toNatClampNeg)) _) e1 qX9_told tw_793 rfl rfl ⟨rfl, rfl⟩ ⟨(Nat.le_of_ble_eq_true rfl), (Nat.le_of_ble_eq_true rfl)⟩ (Nat.le_of_ble_eq_true rfl) hl.1 dL_law_818 hS hcs rfl (fun H locs hS => ?_)
  refine lv_aload_n hx hb dL_law_821 rfl (lv_at hl 1 rfl) ?_
  refine lv_aload_n hx hb dL_law_822 rfl (lv_at hl 3 rfl) ?_
  refine lv_iload_n hx hb dL_law_823 rfl (lv_at hl 0 rfl) ?_
  refine lv_iconst (v := nI 1) hx hb dL_law_824 (by decide) ?_
  refine lv_iadd hx hb dL_law_825 ?_
  refine lw_arg (k := 1) C hS (by omega) dL_law_826 ?_
  refine lv_aload_n hx hb dL_law_827 rfl (lv_at hl 3 rfl) ?_
  refine lv_iload_n hx hb dL_law_828 rfl (lv_at hl 0 rfl) ?_
  refine lv_iconst (v := nI 2) hx hb dL_law_829 (by decide) ?_
  refine lv_iadd hx hb dL_law_830 ?_
  refine lw_arg (k := 2) C hS (by omega) dL_law_831 ?_
  refine lw_callM C [.int (xs (nI i + nI 1).toNatClampNeg), .int (xs (nI i + nI 2).toNatClampNeg)] (mX10_told l EM C.2.2.2.1.2 1001 ((xs (nI i + nI 1).toNatClampNeg)) ((xs (nI i + nI 2).toNatClampNeg)) _) e2 qX10_told tw_1237 rfl rfl ⟨rfl, rfl⟩ ⟨(Nat.le_of_ble_eq_true rfl), (Nat.le_of_ble_eq_true rfl)⟩ (Nat.le_of_ble_eq_true rfl) hl.1 dL_law_832 hS hcs rfl (fun H locs hS => ?_)
  exact lv_icmp_eq (tgt := 1028) hx hb dL_law_835 (by decide) (fun _ => kk _ _ H locs hrel1 hS) (fun c_1 => absurd rfl c_1)
theorem dL_law_840 : decode cL_law 840 = .ok (.aload_n 1, 1) := by decide +kernel
theorem dL_law_841 : decode cL_law 841 = .ok (.aload_n 0, 1) := by decide +kernel
theorem dL_law_842 : decode cL_law 842 = .ok (.iload_n 3, 1) := by decide +kernel
theorem dL_law_843 : decode cL_law 843 = .ok (.iconst 1, 1) := by decide +kernel
theorem dL_law_844 : decode cL_law 844 = .ok (.iadd, 1) := by decide +kernel
theorem dL_law_845 : decode cL_law 845 = .ok (.iaload, 1) := by decide +kernel
theorem dL_law_846 : decode cL_law 846 = .ok (.aload_n 0, 1) := by decide +kernel
theorem dL_law_847 : decode cL_law 847 = .ok (.iload_n 3, 1) := by decide +kernel
theorem dL_law_848 : decode cL_law 848 = .ok (.iconst 2, 1) := by decide +kernel
theorem dL_law_849 : decode cL_law 849 = .ok (.iadd, 1) := by decide +kernel
theorem dL_law_850 : decode cL_law 850 = .ok (.iaload, 1) := by decide +kernel
theorem dL_law_851 : decode cL_law 851 = .ok (.aload_n 0, 1) := by decide +kernel
theorem dL_law_852 : decode cL_law 852 = .ok (.iload_n 3, 1) := by decide +kernel
theorem dL_law_853 : decode cL_law 853 = .ok (.iconst 3, 1) := by decide +kernel
theorem dL_law_854 : decode cL_law 854 = .ok (.iadd, 1) := by decide +kernel
theorem dL_law_855 : decode cL_law 855 = .ok (.iaload, 1) := by decide +kernel
theorem dL_law_856 : decode cL_law 856 = .ok (.invokevirtual 113, 3) := by decide +kernel
theorem dL_law_859 : decode cL_law 859 = .ok (.aload_n 2, 1) := by decide +kernel
theorem dL_law_860 : decode cL_law 860 = .ok (.aload_n 0, 1) := by decide +kernel
theorem dL_law_861 : decode cL_law 861 = .ok (.iload_n 3, 1) := by decide +kernel
theorem dL_law_862 : decode cL_law 862 = .ok (.iconst 1, 1) := by decide +kernel
theorem dL_law_863 : decode cL_law 863 = .ok (.iadd, 1) := by decide +kernel
theorem dL_law_864 : decode cL_law 864 = .ok (.iaload, 1) := by decide +kernel
theorem dL_law_865 : decode cL_law 865 = .ok (.aload_n 0, 1) := by decide +kernel
theorem dL_law_866 : decode cL_law 866 = .ok (.iload_n 3, 1) := by decide +kernel
theorem dL_law_867 : decode cL_law 867 = .ok (.iconst 2, 1) := by decide +kernel
theorem dL_law_868 : decode cL_law 868 = .ok (.iadd, 1) := by decide +kernel
theorem dL_law_869 : decode cL_law 869 = .ok (.iaload, 1) := by decide +kernel
theorem dL_law_870 : decode cL_law 870 = .ok (.aload_n 0, 1) := by decide +kernel
theorem dL_law_871 : decode cL_law 871 = .ok (.iload_n 3, 1) := by decide +kernel
theorem dL_law_872 : decode cL_law 872 = .ok (.iconst 3, 1) := by decide +kernel
theorem dL_law_873 : decode cL_law 873 = .ok (.iadd, 1) := by decide +kernel
theorem dL_law_874 : decode cL_law 874 = .ok (.iaload, 1) := by decide +kernel
theorem dL_law_875 : decode cL_law 875 = .ok (.invokevirtual 116, 3) := by decide +kernel
theorem dL_law_878 : decode cL_law 878 = .ok (.if_icmp .eq 150, 3) := by decide +kernel
set_option maxHeartbeats 4000000 in
set_option maxRecDepth 100000 in
theorem lc_24 {p : Program} {l : Launch} {e : Env} {s : State} {m : MethodId} {below : List Frame} {meth : Method} {c : Code} {cells slots : Nat} {Q : State → Prop} {b L : Nat} {xs : Nat → Int32} {EX EM : jE} {A B : Mem} {H : Heap} {locs : List Loc} {ls : Array Slot} {i : Nat} (C : lwX p s m c b L xs EX EM) (hcs : cells ≤ room_1.cells ∧ slots ≤ room_1.slots) (hi : i + 5 ≤ L) (hrel : REL A B) (hl : lv_has ls 4 [(3, .int (nI i)), (2, .ref (gad (gM EM) 0)), (1, .ref (gad (gX EX) 0)), (0, .ref b)]) (hS : lwS s EX EM A B H locs) (kk : ∀ (A1 B1 : Mem) (H1 : Heap) (locs1 : List Loc), REL A1 B1 → lwS s EX EM A1 B1 H1 locs1 → W p l e room_1 s m #[Value.ref b] below meth c H1 locs1 cells slots Q (F0 m 1028 ls [])) : W p l e room_1 s m #[Value.ref b] below meth c H locs cells slots Q (F0 m 840 ls []) := by
  obtain ⟨r, A1, B1, e1, e2, hrel1⟩ := a_who (fu := 1001) hrel (by decide) ((xs (nI i + nI 1).toNatClampNeg)) ((xs (nI i + nI 2).toNatClampNeg)) ((xs (nI i + nI 3).toNatClampNeg))
  have hx := C.1.1
  have hb := C.1.2.1
  refine lv_aload_n hx hb dL_law_840 rfl (lv_at hl 2 rfl) ?_
  refine lv_aload_n hx hb dL_law_841 rfl (lv_at hl 3 rfl) ?_
  refine lv_iload_n hx hb dL_law_842 rfl (lv_at hl 0 rfl) ?_
  refine lv_iconst (v := nI 1) hx hb dL_law_843 (by decide) ?_
  refine lv_iadd hx hb dL_law_844 ?_
  refine lw_arg (k := 1) C hS (by omega) dL_law_845 ?_
  refine lv_aload_n hx hb dL_law_846 rfl (lv_at hl 3 rfl) ?_
  refine lv_iload_n hx hb dL_law_847 rfl (lv_at hl 0 rfl) ?_
  refine lv_iconst (v := nI 2) hx hb dL_law_848 (by decide) ?_
  refine lv_iadd hx hb dL_law_849 ?_
  refine lw_arg (k := 2) C hS (by omega) dL_law_850 ?_
  refine lv_aload_n hx hb dL_law_851 rfl (lv_at hl 3 rfl) ?_
  refine lv_iload_n hx hb dL_law_852 rfl (lv_at hl 0 rfl) ?_
  refine lv_iconst (v := nI 3) hx hb dL_law_853 (by decide) ?_
  refine lv_iadd hx hb dL_law_854 ?_
  refine lw_arg (k := 3) C hS (by omega) dL_law_855 ?_
  refine lw_callX C [.int (xs (nI i + nI 1).toNatClampNeg), .int (xs (nI i + nI 2).toNatClampNeg), .int (xs (nI i + nI 3).toNatClampNeg)] (mX9_who l EX C.2.2.2.1.1 1001 ((xs (nI i + nI 1).toNatClampNeg)) ((xs (nI i + nI 2).toNatClampNeg)) ((xs (nI i + nI 3).toNatClampNeg)) _) e1 qX9_who tw_801 rfl rfl ⟨rfl, rfl⟩ ⟨(Nat.le_of_ble_eq_true rfl), (Nat.le_of_ble_eq_true rfl)⟩ (Nat.le_of_ble_eq_true rfl) hl.1 dL_law_856 hS hcs rfl (fun H locs hS => ?_)
  refine lv_aload_n hx hb dL_law_859 rfl (lv_at hl 1 rfl) ?_
  refine lv_aload_n hx hb dL_law_860 rfl (lv_at hl 3 rfl) ?_
  refine lv_iload_n hx hb dL_law_861 rfl (lv_at hl 0 rfl) ?_
  refine lv_iconst (v := nI 1) hx hb dL_law_862 (by decide) ?_
  refine lv_iadd hx hb dL_law_863 ?_
  refine lw_arg (k := 1) C hS (by omega) dL_law_864 ?_
  refine lv_aload_n hx hb dL_law_865 rfl (lv_at hl 3 rfl) ?_
  refine lv_iload_n hx hb dL_law_866 rfl (lv_at hl 0 rfl) ?_
  refine lv_iconst (v := nI 2) hx hb dL_law_867 (by decide) ?_
  refine lv_iadd hx hb dL_law_868 ?_
  refine lw_arg (k := 2) C hS (by omega) dL_law_869 ?_
  refine lv_aload_n hx hb dL_law_870 rfl (lv_at hl 3 rfl) ?_
  refine lv_iload_n hx hb dL_law_871 rfl (lv_at hl 0 rfl) ?_
  refine lv_iconst (v := nI 3) hx hb dL_law_872 (by decide) ?_
  refine lv_iadd hx hb dL_law_873 ?_
  refine lw_arg (k := 3) C hS (by omega) dL_law_874 ?_
  refine lw_callM C [.int (xs (nI i + nI 1).toNatClampNeg), .int (xs (nI i + nI 2).toNatClampNeg), .int (xs (nI i + nI 3).toNatClampNeg)] (mX10_who l EM C.2.2.2.1.2 1001 ((xs (nI i + nI 1).toNatClampNeg)) ((xs (nI i + nI 2).toNatClampNeg)) ((xs (nI i + nI 3).toNatClampNeg)) _) e2 qX10_who tw_1241 rfl rfl ⟨rfl, rfl⟩ ⟨(Nat.le_of_ble_eq_true rfl), (Nat.le_of_ble_eq_true rfl)⟩ (Nat.le_of_ble_eq_true rfl) hl.1 dL_law_875 hS hcs rfl (fun H locs hS => ?_)
  exact lv_icmp_eq (tgt := 1028) hx hb dL_law_878 (by decide) (fun _ => kk _ _ H locs hrel1 hS) (fun c_1 => absurd rfl c_1)
theorem dL_law_883 : decode cL_law 883 = .ok (.aload_n 1, 1) := by decide +kernel
theorem dL_law_884 : decode cL_law 884 = .ok (.aload_n 0, 1) := by decide +kernel
theorem dL_law_885 : decode cL_law 885 = .ok (.iload_n 3, 1) := by decide +kernel
theorem dL_law_886 : decode cL_law 886 = .ok (.iconst 1, 1) := by decide +kernel
theorem dL_law_887 : decode cL_law 887 = .ok (.iadd, 1) := by decide +kernel
theorem dL_law_888 : decode cL_law 888 = .ok (.iaload, 1) := by decide +kernel
theorem dL_law_889 : decode cL_law 889 = .ok (.aload_n 0, 1) := by decide +kernel
theorem dL_law_890 : decode cL_law 890 = .ok (.iload_n 3, 1) := by decide +kernel
theorem dL_law_891 : decode cL_law 891 = .ok (.iconst 2, 1) := by decide +kernel
theorem dL_law_892 : decode cL_law 892 = .ok (.iadd, 1) := by decide +kernel
theorem dL_law_893 : decode cL_law 893 = .ok (.iaload, 1) := by decide +kernel
theorem dL_law_894 : decode cL_law 894 = .ok (.aload_n 0, 1) := by decide +kernel
theorem dL_law_895 : decode cL_law 895 = .ok (.iload_n 3, 1) := by decide +kernel
theorem dL_law_896 : decode cL_law 896 = .ok (.iconst 3, 1) := by decide +kernel
theorem dL_law_897 : decode cL_law 897 = .ok (.iadd, 1) := by decide +kernel
theorem dL_law_898 : decode cL_law 898 = .ok (.iaload, 1) := by decide +kernel
theorem dL_law_899 : decode cL_law 899 = .ok (.aload_n 0, 1) := by decide +kernel
theorem dL_law_900 : decode cL_law 900 = .ok (.iload_n 3, 1) := by decide +kernel
theorem dL_law_901 : decode cL_law 901 = .ok (.iconst 4, 1) := by decide +kernel
theorem dL_law_902 : decode cL_law 902 = .ok (.iadd, 1) := by decide +kernel
theorem dL_law_903 : decode cL_law 903 = .ok (.iaload, 1) := by decide +kernel
theorem dL_law_904 : decode cL_law 904 = .ok (.invokevirtual 117, 3) := by decide +kernel
theorem dL_law_907 : decode cL_law 907 = .ok (.aload_n 2, 1) := by decide +kernel
theorem dL_law_908 : decode cL_law 908 = .ok (.aload_n 0, 1) := by decide +kernel
theorem dL_law_909 : decode cL_law 909 = .ok (.iload_n 3, 1) := by decide +kernel
theorem dL_law_910 : decode cL_law 910 = .ok (.iconst 1, 1) := by decide +kernel
theorem dL_law_911 : decode cL_law 911 = .ok (.iadd, 1) := by decide +kernel
theorem dL_law_912 : decode cL_law 912 = .ok (.iaload, 1) := by decide +kernel
theorem dL_law_913 : decode cL_law 913 = .ok (.aload_n 0, 1) := by decide +kernel
theorem dL_law_914 : decode cL_law 914 = .ok (.iload_n 3, 1) := by decide +kernel
theorem dL_law_915 : decode cL_law 915 = .ok (.iconst 2, 1) := by decide +kernel
theorem dL_law_916 : decode cL_law 916 = .ok (.iadd, 1) := by decide +kernel
theorem dL_law_917 : decode cL_law 917 = .ok (.iaload, 1) := by decide +kernel
theorem dL_law_918 : decode cL_law 918 = .ok (.aload_n 0, 1) := by decide +kernel
theorem dL_law_919 : decode cL_law 919 = .ok (.iload_n 3, 1) := by decide +kernel
theorem dL_law_920 : decode cL_law 920 = .ok (.iconst 3, 1) := by decide +kernel
theorem dL_law_921 : decode cL_law 921 = .ok (.iadd, 1) := by decide +kernel
theorem dL_law_922 : decode cL_law 922 = .ok (.iaload, 1) := by decide +kernel
theorem dL_law_923 : decode cL_law 923 = .ok (.aload_n 0, 1) := by decide +kernel
theorem dL_law_924 : decode cL_law 924 = .ok (.iload_n 3, 1) := by decide +kernel
theorem dL_law_925 : decode cL_law 925 = .ok (.iconst 4, 1) := by decide +kernel
theorem dL_law_926 : decode cL_law 926 = .ok (.iadd, 1) := by decide +kernel
theorem dL_law_927 : decode cL_law 927 = .ok (.iaload, 1) := by decide +kernel
theorem dL_law_928 : decode cL_law 928 = .ok (.invokevirtual 121, 3) := by decide +kernel
theorem dL_law_931 : decode cL_law 931 = .ok (.if_icmp .eq 97, 3) := by decide +kernel
set_option maxHeartbeats 4000000 in
set_option maxRecDepth 100000 in
theorem lc_25 {p : Program} {l : Launch} {e : Env} {s : State} {m : MethodId} {below : List Frame} {meth : Method} {c : Code} {cells slots : Nat} {Q : State → Prop} {b L : Nat} {xs : Nat → Int32} {EX EM : jE} {A B : Mem} {H : Heap} {locs : List Loc} {ls : Array Slot} {i : Nat} (C : lwX p s m c b L xs EX EM) (hcs : cells ≤ room_1.cells ∧ slots ≤ room_1.slots) (hi : i + 5 ≤ L) (hrel : REL A B) (hl : lv_has ls 4 [(3, .int (nI i)), (2, .ref (gad (gM EM) 0)), (1, .ref (gad (gX EX) 0)), (0, .ref b)]) (hS : lwS s EX EM A B H locs) (kk : ∀ (A1 B1 : Mem) (H1 : Heap) (locs1 : List Loc), REL A1 B1 → lwS s EX EM A1 B1 H1 locs1 → W p l e room_1 s m #[Value.ref b] below meth c H1 locs1 cells slots Q (F0 m 1028 ls [])) : W p l e room_1 s m #[Value.ref b] below meth c H locs cells slots Q (F0 m 883 ls []) := by
  obtain ⟨r, A1, B1, e1, e2, hrel1⟩ := a_balks (fu := 1001) hrel (by decide) ((xs (nI i + nI 1).toNatClampNeg)) ((xs (nI i + nI 2).toNatClampNeg)) ((xs (nI i + nI 3).toNatClampNeg)) ((xs (nI i + nI 4).toNatClampNeg))
  have hx := C.1.1
  have hb := C.1.2.1
  refine lv_aload_n hx hb dL_law_883 rfl (lv_at hl 2 rfl) ?_
  refine lv_aload_n hx hb dL_law_884 rfl (lv_at hl 3 rfl) ?_
  refine lv_iload_n hx hb dL_law_885 rfl (lv_at hl 0 rfl) ?_
  refine lv_iconst (v := nI 1) hx hb dL_law_886 (by decide) ?_
  refine lv_iadd hx hb dL_law_887 ?_
  refine lw_arg (k := 1) C hS (by omega) dL_law_888 ?_
  refine lv_aload_n hx hb dL_law_889 rfl (lv_at hl 3 rfl) ?_
  refine lv_iload_n hx hb dL_law_890 rfl (lv_at hl 0 rfl) ?_
  refine lv_iconst (v := nI 2) hx hb dL_law_891 (by decide) ?_
  refine lv_iadd hx hb dL_law_892 ?_
  refine lw_arg (k := 2) C hS (by omega) dL_law_893 ?_
  refine lv_aload_n hx hb dL_law_894 rfl (lv_at hl 3 rfl) ?_
  refine lv_iload_n hx hb dL_law_895 rfl (lv_at hl 0 rfl) ?_
  refine lv_iconst (v := nI 3) hx hb dL_law_896 (by decide) ?_
  refine lv_iadd hx hb dL_law_897 ?_
  refine lw_arg (k := 3) C hS (by omega) dL_law_898 ?_
  refine lv_aload_n hx hb dL_law_899 rfl (lv_at hl 3 rfl) ?_
  refine lv_iload_n hx hb dL_law_900 rfl (lv_at hl 0 rfl) ?_
  refine lv_iconst (v := nI 4) hx hb dL_law_901 (by decide) ?_
  refine lv_iadd hx hb dL_law_902 ?_
  refine lw_arg (k := 4) C hS (by omega) dL_law_903 ?_
  refine lw_callX C [.int (xs (nI i + nI 1).toNatClampNeg), .int (xs (nI i + nI 2).toNatClampNeg), .int (xs (nI i + nI 3).toNatClampNeg), .int (xs (nI i + nI 4).toNatClampNeg)] (mX9_balks l EX C.2.2.2.1.1 1001 ((xs (nI i + nI 1).toNatClampNeg)) ((xs (nI i + nI 2).toNatClampNeg)) ((xs (nI i + nI 3).toNatClampNeg)) ((xs (nI i + nI 4).toNatClampNeg)) _) e1 qX9_balks tw_811 rfl rfl ⟨rfl, rfl⟩ ⟨(Nat.le_of_ble_eq_true rfl), (Nat.le_of_ble_eq_true rfl)⟩ (Nat.le_of_ble_eq_true rfl) hl.1 dL_law_904 hS hcs rfl (fun H locs hS => ?_)
  refine lv_aload_n hx hb dL_law_907 rfl (lv_at hl 1 rfl) ?_
  refine lv_aload_n hx hb dL_law_908 rfl (lv_at hl 3 rfl) ?_
  refine lv_iload_n hx hb dL_law_909 rfl (lv_at hl 0 rfl) ?_
  refine lv_iconst (v := nI 1) hx hb dL_law_910 (by decide) ?_
  refine lv_iadd hx hb dL_law_911 ?_
  refine lw_arg (k := 1) C hS (by omega) dL_law_912 ?_
  refine lv_aload_n hx hb dL_law_913 rfl (lv_at hl 3 rfl) ?_
  refine lv_iload_n hx hb dL_law_914 rfl (lv_at hl 0 rfl) ?_
  refine lv_iconst (v := nI 2) hx hb dL_law_915 (by decide) ?_
  refine lv_iadd hx hb dL_law_916 ?_
  refine lw_arg (k := 2) C hS (by omega) dL_law_917 ?_
  refine lv_aload_n hx hb dL_law_918 rfl (lv_at hl 3 rfl) ?_
  refine lv_iload_n hx hb dL_law_919 rfl (lv_at hl 0 rfl) ?_
  refine lv_iconst (v := nI 3) hx hb dL_law_920 (by decide) ?_
  refine lv_iadd hx hb dL_law_921 ?_
  refine lw_arg (k := 3) C hS (by omega) dL_law_922 ?_
  refine lv_aload_n hx hb dL_law_923 rfl (lv_at hl 3 rfl) ?_
  refine lv_iload_n hx hb dL_law_924 rfl (lv_at hl 0 rfl) ?_
  refine lv_iconst (v := nI 4) hx hb dL_law_925 (by decide) ?_
  refine lv_iadd hx hb dL_law_926 ?_
  refine lw_arg (k := 4) C hS (by omega) dL_law_927 ?_
  refine lw_callM C [.int (xs (nI i + nI 1).toNatClampNeg), .int (xs (nI i + nI 2).toNatClampNeg), .int (xs (nI i + nI 3).toNatClampNeg), .int (xs (nI i + nI 4).toNatClampNeg)] (mX10_balks l EM C.2.2.2.1.2 1001 ((xs (nI i + nI 1).toNatClampNeg)) ((xs (nI i + nI 2).toNatClampNeg)) ((xs (nI i + nI 3).toNatClampNeg)) ((xs (nI i + nI 4).toNatClampNeg)) _) e2 qX10_balks tw_1245 rfl rfl ⟨rfl, rfl⟩ ⟨(Nat.le_of_ble_eq_true rfl), (Nat.le_of_ble_eq_true rfl)⟩ (Nat.le_of_ble_eq_true rfl) hl.1 dL_law_928 hS hcs rfl (fun H locs hS => ?_)
  exact lv_icmp_eq (tgt := 1028) hx hb dL_law_931 (by decide) (fun _ => kk _ _ H locs hrel1 hS) (fun c_1 => absurd rfl c_1)
theorem dL_law_936 : decode cL_law 936 = .ok (.aload_n 1, 1) := by decide +kernel
theorem dL_law_937 : decode cL_law 937 = .ok (.aload_n 0, 1) := by decide +kernel
theorem dL_law_938 : decode cL_law 938 = .ok (.iload_n 3, 1) := by decide +kernel
theorem dL_law_939 : decode cL_law 939 = .ok (.iconst 1, 1) := by decide +kernel
theorem dL_law_940 : decode cL_law 940 = .ok (.iadd, 1) := by decide +kernel
theorem dL_law_941 : decode cL_law 941 = .ok (.iaload, 1) := by decide +kernel
theorem dL_law_942 : decode cL_law 942 = .ok (.aload_n 0, 1) := by decide +kernel
theorem dL_law_943 : decode cL_law 943 = .ok (.iload_n 3, 1) := by decide +kernel
theorem dL_law_944 : decode cL_law 944 = .ok (.iconst 2, 1) := by decide +kernel
theorem dL_law_945 : decode cL_law 945 = .ok (.iadd, 1) := by decide +kernel
theorem dL_law_946 : decode cL_law 946 = .ok (.iaload, 1) := by decide +kernel
theorem dL_law_947 : decode cL_law 947 = .ok (.aload_n 0, 1) := by decide +kernel
theorem dL_law_948 : decode cL_law 948 = .ok (.iload_n 3, 1) := by decide +kernel
theorem dL_law_949 : decode cL_law 949 = .ok (.iconst 3, 1) := by decide +kernel
theorem dL_law_950 : decode cL_law 950 = .ok (.iadd, 1) := by decide +kernel
theorem dL_law_951 : decode cL_law 951 = .ok (.iaload, 1) := by decide +kernel
theorem dL_law_952 : decode cL_law 952 = .ok (.invokevirtual 122, 3) := by decide +kernel
theorem dL_law_955 : decode cL_law 955 = .ok (.aload_n 2, 1) := by decide +kernel
theorem dL_law_956 : decode cL_law 956 = .ok (.aload_n 0, 1) := by decide +kernel
theorem dL_law_957 : decode cL_law 957 = .ok (.iload_n 3, 1) := by decide +kernel
theorem dL_law_958 : decode cL_law 958 = .ok (.iconst 1, 1) := by decide +kernel
theorem dL_law_959 : decode cL_law 959 = .ok (.iadd, 1) := by decide +kernel
theorem dL_law_960 : decode cL_law 960 = .ok (.iaload, 1) := by decide +kernel
theorem dL_law_961 : decode cL_law 961 = .ok (.aload_n 0, 1) := by decide +kernel
theorem dL_law_962 : decode cL_law 962 = .ok (.iload_n 3, 1) := by decide +kernel
theorem dL_law_963 : decode cL_law 963 = .ok (.iconst 2, 1) := by decide +kernel
theorem dL_law_964 : decode cL_law 964 = .ok (.iadd, 1) := by decide +kernel
theorem dL_law_965 : decode cL_law 965 = .ok (.iaload, 1) := by decide +kernel
theorem dL_law_966 : decode cL_law 966 = .ok (.aload_n 0, 1) := by decide +kernel
theorem dL_law_967 : decode cL_law 967 = .ok (.iload_n 3, 1) := by decide +kernel
theorem dL_law_968 : decode cL_law 968 = .ok (.iconst 3, 1) := by decide +kernel
theorem dL_law_969 : decode cL_law 969 = .ok (.iadd, 1) := by decide +kernel
theorem dL_law_970 : decode cL_law 970 = .ok (.iaload, 1) := by decide +kernel
theorem dL_law_971 : decode cL_law 971 = .ok (.invokevirtual 125, 3) := by decide +kernel
theorem dL_law_974 : decode cL_law 974 = .ok (.if_icmp .eq 54, 3) := by decide +kernel
set_option maxHeartbeats 4000000 in
set_option maxRecDepth 100000 in
theorem lc_26 {p : Program} {l : Launch} {e : Env} {s : State} {m : MethodId} {below : List Frame} {meth : Method} {c : Code} {cells slots : Nat} {Q : State → Prop} {b L : Nat} {xs : Nat → Int32} {EX EM : jE} {A B : Mem} {H : Heap} {locs : List Loc} {ls : Array Slot} {i : Nat} (C : lwX p s m c b L xs EX EM) (hcs : cells ≤ room_1.cells ∧ slots ≤ room_1.slots) (hi : i + 5 ≤ L) (hrel : REL A B) (hl : lv_has ls 4 [(3, .int (nI i)), (2, .ref (gad (gM EM) 0)), (1, .ref (gad (gX EX) 0)), (0, .ref b)]) (hS : lwS s EX EM A B H locs) (kk : ∀ (A1 B1 : Mem) (H1 : Heap) (locs1 : List Loc), REL A1 B1 → lwS s EX EM A1 B1 H1 locs1 → W p l e room_1 s m #[Value.ref b] below meth c H1 locs1 cells slots Q (F0 m 1028 ls [])) : W p l e room_1 s m #[Value.ref b] below meth c H locs cells slots Q (F0 m 936 ls []) := by
  obtain ⟨r, A1, B1, e1, e2, hrel1⟩ := a_year (fu := 1001) hrel (by decide) ((xs (nI i + nI 1).toNatClampNeg)) ((xs (nI i + nI 2).toNatClampNeg)) ((xs (nI i + nI 3).toNatClampNeg))
  have hx := C.1.1
  have hb := C.1.2.1
  refine lv_aload_n hx hb dL_law_936 rfl (lv_at hl 2 rfl) ?_
  refine lv_aload_n hx hb dL_law_937 rfl (lv_at hl 3 rfl) ?_
  refine lv_iload_n hx hb dL_law_938 rfl (lv_at hl 0 rfl) ?_
  refine lv_iconst (v := nI 1) hx hb dL_law_939 (by decide) ?_
  refine lv_iadd hx hb dL_law_940 ?_
  refine lw_arg (k := 1) C hS (by omega) dL_law_941 ?_
  refine lv_aload_n hx hb dL_law_942 rfl (lv_at hl 3 rfl) ?_
  refine lv_iload_n hx hb dL_law_943 rfl (lv_at hl 0 rfl) ?_
  refine lv_iconst (v := nI 2) hx hb dL_law_944 (by decide) ?_
  refine lv_iadd hx hb dL_law_945 ?_
  refine lw_arg (k := 2) C hS (by omega) dL_law_946 ?_
  refine lv_aload_n hx hb dL_law_947 rfl (lv_at hl 3 rfl) ?_
  refine lv_iload_n hx hb dL_law_948 rfl (lv_at hl 0 rfl) ?_
  refine lv_iconst (v := nI 3) hx hb dL_law_949 (by decide) ?_
  refine lv_iadd hx hb dL_law_950 ?_
  refine lw_arg (k := 3) C hS (by omega) dL_law_951 ?_
  refine lw_callX C [.int (xs (nI i + nI 1).toNatClampNeg), .int (xs (nI i + nI 2).toNatClampNeg), .int (xs (nI i + nI 3).toNatClampNeg)] (mX9_year l EX C.2.2.2.1.1 1001 ((xs (nI i + nI 1).toNatClampNeg)) ((xs (nI i + nI 2).toNatClampNeg)) ((xs (nI i + nI 3).toNatClampNeg)) _) e1 qX9_year tw_834 rfl rfl ⟨rfl, rfl⟩ ⟨(Nat.le_of_ble_eq_true rfl), (Nat.le_of_ble_eq_true rfl)⟩ (Nat.le_of_ble_eq_true rfl) hl.1 dL_law_952 hS hcs rfl (fun H locs hS => ?_)
  refine lv_aload_n hx hb dL_law_955 rfl (lv_at hl 1 rfl) ?_
  refine lv_aload_n hx hb dL_law_956 rfl (lv_at hl 3 rfl) ?_
  refine lv_iload_n hx hb dL_law_957 rfl (lv_at hl 0 rfl) ?_
  refine lv_iconst (v := nI 1) hx hb dL_law_958 (by decide) ?_
  refine lv_iadd hx hb dL_law_959 ?_
  refine lw_arg (k := 1) C hS (by omega) dL_law_960 ?_
  refine lv_aload_n hx hb dL_law_961 rfl (lv_at hl 3 rfl) ?_
  refine lv_iload_n hx hb dL_law_962 rfl (lv_at hl 0 rfl) ?_
  refine lv_iconst (v := nI 2) hx hb dL_law_963 (by decide) ?_
  refine lv_iadd hx hb dL_law_964 ?_
  refine lw_arg (k := 2) C hS (by omega) dL_law_965 ?_
  refine lv_aload_n hx hb dL_law_966 rfl (lv_at hl 3 rfl) ?_
  refine lv_iload_n hx hb dL_law_967 rfl (lv_at hl 0 rfl) ?_
  refine lv_iconst (v := nI 3) hx hb dL_law_968 (by decide) ?_
  refine lv_iadd hx hb dL_law_969 ?_
  refine lw_arg (k := 3) C hS (by omega) dL_law_970 ?_
  refine lw_callM C [.int (xs (nI i + nI 1).toNatClampNeg), .int (xs (nI i + nI 2).toNatClampNeg), .int (xs (nI i + nI 3).toNatClampNeg)] (mX10_year l EM C.2.2.2.1.2 1001 ((xs (nI i + nI 1).toNatClampNeg)) ((xs (nI i + nI 2).toNatClampNeg)) ((xs (nI i + nI 3).toNatClampNeg)) _) e2 qX10_year tw_1251 rfl rfl ⟨rfl, rfl⟩ ⟨(Nat.le_of_ble_eq_true rfl), (Nat.le_of_ble_eq_true rfl)⟩ (Nat.le_of_ble_eq_true rfl) hl.1 dL_law_971 hS hcs rfl (fun H locs hS => ?_)
  exact lv_icmp_eq (tgt := 1028) hx hb dL_law_974 (by decide) (fun _ => kk _ _ H locs hrel1 hS) (fun c_1 => absurd rfl c_1)
theorem dL_law_979 : decode cL_law 979 = .ok (.aload_n 1, 1) := by decide +kernel
theorem dL_law_980 : decode cL_law 980 = .ok (.invokevirtual 126, 3) := by decide +kernel
theorem dL_law_983 : decode cL_law 983 = .ok (.aload_n 2, 1) := by decide +kernel
theorem dL_law_984 : decode cL_law 984 = .ok (.invokevirtual 129, 3) := by decide +kernel
theorem dL_law_987 : decode cL_law 987 = .ok (.if_icmp .eq 41, 3) := by decide +kernel
set_option maxHeartbeats 4000000 in
set_option maxRecDepth 100000 in
theorem lc_27 {p : Program} {l : Launch} {e : Env} {s : State} {m : MethodId} {below : List Frame} {meth : Method} {c : Code} {cells slots : Nat} {Q : State → Prop} {b L : Nat} {xs : Nat → Int32} {EX EM : jE} {A B : Mem} {H : Heap} {locs : List Loc} {ls : Array Slot} {i : Nat} (C : lwX p s m c b L xs EX EM) (hcs : cells ≤ room_1.cells ∧ slots ≤ room_1.slots) (hi : i + 5 ≤ L) (hrel : REL A B) (hl : lv_has ls 4 [(3, .int (nI i)), (2, .ref (gad (gM EM) 0)), (1, .ref (gad (gX EX) 0)), (0, .ref b)]) (hS : lwS s EX EM A B H locs) (kk : ∀ (A1 B1 : Mem) (H1 : Heap) (locs1 : List Loc), REL A1 B1 → lwS s EX EM A1 B1 H1 locs1 → W p l e room_1 s m #[Value.ref b] below meth c H1 locs1 cells slots Q (F0 m 1028 ls [])) : W p l e room_1 s m #[Value.ref b] below meth c H locs cells slots Q (F0 m 979 ls []) := by
  obtain ⟨r, A1, B1, e1, e2, hrel1⟩ := a_keep (fu := 1001) hrel (by decide) 
  have hx := C.1.1
  have hb := C.1.2.1
  refine lv_aload_n hx hb dL_law_979 rfl (lv_at hl 2 rfl) ?_
  refine lw_callX C [] (mX9_keep l EX C.2.2.2.1.1 1001  _) e1 qX9_keep tw_866 rfl rfl ⟨rfl, rfl⟩ ⟨(Nat.le_of_ble_eq_true rfl), (Nat.le_of_ble_eq_true rfl)⟩ (Nat.le_of_ble_eq_true rfl) hl.1 dL_law_980 hS hcs rfl (fun H locs hS => ?_)
  refine lv_aload_n hx hb dL_law_983 rfl (lv_at hl 1 rfl) ?_
  refine lw_callM C [] (mX10_keep l EM C.2.2.2.1.2 1001  _) e2 qX10_keep tw_1264 rfl rfl ⟨rfl, rfl⟩ ⟨(Nat.le_of_ble_eq_true rfl), (Nat.le_of_ble_eq_true rfl)⟩ (Nat.le_of_ble_eq_true rfl) hl.1 dL_law_984 hS hcs rfl (fun H locs hS => ?_)
  exact lv_icmp_eq (tgt := 1028) hx hb dL_law_987 (by decide) (fun _ => kk _ _ H locs hrel1 hS) (fun c_1 => absurd rfl c_1)
theorem dL_law_992 : decode cL_law 992 = .ok (.aload_n 1, 1) := by decide +kernel
theorem dL_law_993 : decode cL_law 993 = .ok (.invokevirtual 130, 3) := by decide +kernel
theorem dL_law_996 : decode cL_law 996 = .ok (.aload_n 2, 1) := by decide +kernel
theorem dL_law_997 : decode cL_law 997 = .ok (.invokevirtual 133, 3) := by decide +kernel
theorem dL_law_1000 : decode cL_law 1000 = .ok (.if_icmp .eq 28, 3) := by decide +kernel
set_option maxHeartbeats 4000000 in
set_option maxRecDepth 100000 in
theorem lc_28 {p : Program} {l : Launch} {e : Env} {s : State} {m : MethodId} {below : List Frame} {meth : Method} {c : Code} {cells slots : Nat} {Q : State → Prop} {b L : Nat} {xs : Nat → Int32} {EX EM : jE} {A B : Mem} {H : Heap} {locs : List Loc} {ls : Array Slot} {i : Nat} (C : lwX p s m c b L xs EX EM) (hcs : cells ≤ room_1.cells ∧ slots ≤ room_1.slots) (hi : i + 5 ≤ L) (hrel : REL A B) (hl : lv_has ls 4 [(3, .int (nI i)), (2, .ref (gad (gM EM) 0)), (1, .ref (gad (gX EX) 0)), (0, .ref b)]) (hS : lwS s EX EM A B H locs) (kk : ∀ (A1 B1 : Mem) (H1 : Heap) (locs1 : List Loc), REL A1 B1 → lwS s EX EM A1 B1 H1 locs1 → W p l e room_1 s m #[Value.ref b] below meth c H1 locs1 cells slots Q (F0 m 1028 ls [])) : W p l e room_1 s m #[Value.ref b] below meth c H locs cells slots Q (F0 m 992 ls []) := by
  obtain ⟨r, A1, B1, e1, e2, hrel1⟩ := a_back (fu := 1001) hrel (by decide) 
  have hx := C.1.1
  have hb := C.1.2.1
  refine lv_aload_n hx hb dL_law_992 rfl (lv_at hl 2 rfl) ?_
  refine lw_callX C [] (mX9_back l EX C.2.2.2.1.1 1001  _) e1 qX9_back tw_870 rfl rfl ⟨rfl, rfl⟩ ⟨(Nat.le_of_ble_eq_true rfl), (Nat.le_of_ble_eq_true rfl)⟩ (Nat.le_of_ble_eq_true rfl) hl.1 dL_law_993 hS hcs rfl (fun H locs hS => ?_)
  refine lv_aload_n hx hb dL_law_996 rfl (lv_at hl 1 rfl) ?_
  refine lw_callM C [] (mX10_back l EM C.2.2.2.1.2 1001  _) e2 qX10_back tw_1268 rfl rfl ⟨rfl, rfl⟩ ⟨(Nat.le_of_ble_eq_true rfl), (Nat.le_of_ble_eq_true rfl)⟩ (Nat.le_of_ble_eq_true rfl) hl.1 dL_law_997 hS hcs rfl (fun H locs hS => ?_)
  exact lv_icmp_eq (tgt := 1028) hx hb dL_law_1000 (by decide) (fun _ => kk _ _ H locs hrel1 hS) (fun c_1 => absurd rfl c_1)
theorem dL_law_1005 : decode cL_law 1005 = .ok (.aload_n 1, 1) := by decide +kernel
theorem dL_law_1006 : decode cL_law 1006 = .ok (.aload_n 0, 1) := by decide +kernel
theorem dL_law_1007 : decode cL_law 1007 = .ok (.iload_n 3, 1) := by decide +kernel
theorem dL_law_1008 : decode cL_law 1008 = .ok (.iconst 1, 1) := by decide +kernel
theorem dL_law_1009 : decode cL_law 1009 = .ok (.iadd, 1) := by decide +kernel
theorem dL_law_1010 : decode cL_law 1010 = .ok (.iaload, 1) := by decide +kernel
theorem dL_law_1011 : decode cL_law 1011 = .ok (.invokevirtual 134, 3) := by decide +kernel
theorem dL_law_1014 : decode cL_law 1014 = .ok (.aload_n 2, 1) := by decide +kernel
theorem dL_law_1015 : decode cL_law 1015 = .ok (.aload_n 0, 1) := by decide +kernel
theorem dL_law_1016 : decode cL_law 1016 = .ok (.iload_n 3, 1) := by decide +kernel
theorem dL_law_1017 : decode cL_law 1017 = .ok (.iconst 1, 1) := by decide +kernel
theorem dL_law_1018 : decode cL_law 1018 = .ok (.iadd, 1) := by decide +kernel
theorem dL_law_1019 : decode cL_law 1019 = .ok (.iaload, 1) := by decide +kernel
theorem dL_law_1020 : decode cL_law 1020 = .ok (.invokevirtual 137, 3) := by decide +kernel
theorem dL_law_1023 : decode cL_law 1023 = .ok (.if_icmp .eq 5, 3) := by decide +kernel
set_option maxHeartbeats 4000000 in
set_option maxRecDepth 100000 in
theorem lc_29 {p : Program} {l : Launch} {e : Env} {s : State} {m : MethodId} {below : List Frame} {meth : Method} {c : Code} {cells slots : Nat} {Q : State → Prop} {b L : Nat} {xs : Nat → Int32} {EX EM : jE} {A B : Mem} {H : Heap} {locs : List Loc} {ls : Array Slot} {i : Nat} (C : lwX p s m c b L xs EX EM) (hcs : cells ≤ room_1.cells ∧ slots ≤ room_1.slots) (hi : i + 5 ≤ L) (hrel : REL A B) (hl : lv_has ls 4 [(3, .int (nI i)), (2, .ref (gad (gM EM) 0)), (1, .ref (gad (gX EX) 0)), (0, .ref b)]) (hS : lwS s EX EM A B H locs) (kk : ∀ (A1 B1 : Mem) (H1 : Heap) (locs1 : List Loc), REL A1 B1 → lwS s EX EM A1 B1 H1 locs1 → W p l e room_1 s m #[Value.ref b] below meth c H1 locs1 cells slots Q (F0 m 1028 ls [])) : W p l e room_1 s m #[Value.ref b] below meth c H locs cells slots Q (F0 m 1005 ls []) := by
  obtain ⟨r, A1, B1, e1, e2, hrel1⟩ := a_count (fu := 1001) hrel (by decide) ((xs (nI i + nI 1).toNatClampNeg))
  have hx := C.1.1
  have hb := C.1.2.1
  refine lv_aload_n hx hb dL_law_1005 rfl (lv_at hl 2 rfl) ?_
  refine lv_aload_n hx hb dL_law_1006 rfl (lv_at hl 3 rfl) ?_
  refine lv_iload_n hx hb dL_law_1007 rfl (lv_at hl 0 rfl) ?_
  refine lv_iconst (v := nI 1) hx hb dL_law_1008 (by decide) ?_
  refine lv_iadd hx hb dL_law_1009 ?_
  refine lw_arg (k := 1) C hS (by omega) dL_law_1010 ?_
  refine lw_callX C [.int (xs (nI i + nI 1).toNatClampNeg)] (mX9_count l EX C.2.2.2.1.1 1001 ((xs (nI i + nI 1).toNatClampNeg)) _) e1 qX9_count tw_874 rfl rfl ⟨rfl, rfl⟩ ⟨(Nat.le_of_ble_eq_true rfl), (Nat.le_of_ble_eq_true rfl)⟩ (Nat.le_of_ble_eq_true rfl) hl.1 dL_law_1011 hS hcs rfl (fun H locs hS => ?_)
  refine lv_aload_n hx hb dL_law_1014 rfl (lv_at hl 1 rfl) ?_
  refine lv_aload_n hx hb dL_law_1015 rfl (lv_at hl 3 rfl) ?_
  refine lv_iload_n hx hb dL_law_1016 rfl (lv_at hl 0 rfl) ?_
  refine lv_iconst (v := nI 1) hx hb dL_law_1017 (by decide) ?_
  refine lv_iadd hx hb dL_law_1018 ?_
  refine lw_arg (k := 1) C hS (by omega) dL_law_1019 ?_
  refine lw_callM C [.int (xs (nI i + nI 1).toNatClampNeg)] (mX10_count l EM C.2.2.2.1.2 1001 ((xs (nI i + nI 1).toNatClampNeg)) _) e2 qX10_count tw_1272 rfl rfl ⟨rfl, rfl⟩ ⟨(Nat.le_of_ble_eq_true rfl), (Nat.le_of_ble_eq_true rfl)⟩ (Nat.le_of_ble_eq_true rfl) hl.1 dL_law_1020 hS hcs rfl (fun H locs hS => ?_)
  exact lv_icmp_eq (tgt := 1028) hx hb dL_law_1023 (by decide) (fun _ => kk _ _ H locs hrel1 hS) (fun c_1 => absurd rfl c_1)
