set_option maxHeartbeats 4000000 in
set_option maxRecDepth 100000 in
theorem xL_17 {C : zC} {D : va_G} {cyI cyB : ClassId} {b L k n : Nat} {xs : Nat → Int32} {aS : Nat → Nat} {aT : Nat → Nat} {aH : Nat → Nat} {aM : Nat → Nat} {aO : Nat → Nat} {kp : Value} {K : va_W} (x3 : Int32) (sI : Nat → Int32) (sR : Nat → Nat → Int32) (tI : Nat → Int32) (tR : Nat → Nat → Int32) (hI : Nat → Int32) (hR : Nat → Nat → Int32) (mI : Nat → Int32) (mR : Nat → Nat → Int32) (oI : Nat → Int32) (oR : Nat → Nat → Int32) (F : zF C D room_1 cL_law 4 wsL_law RL ret cyI cyB) (hX : va_X b L xs C.2.1.1 C.2.1.1.heap ∧ b < C.2.1.1.heap.size ∧ ¬ C.2.2.2.2 b ∧ L ≤ 2048) (hkn : k ≤ room_1.cells ∧ n ≤ room_1.slots) {kont : (Nat → Int32) → (Nat → Nat → Int32) → (Nat → Int32) → (Nat → Nat → Int32) → (Nat → Int32) → (Nat → Nat → Int32) → (Nat → Int32) → (Nat → Nat → Int32) → (Nat → Int32) → (Nat → Nat → Int32) → Prop} (hkont : ∀ (sI : Nat → Int32) (sR : Nat → Nat → Int32) (tI : Nat → Int32) (tR : Nat → Nat → Int32) (hI : Nat → Int32) (hR : Nat → Nat → Int32) (mI : Nat → Int32) (mR : Nat → Nat → Int32) (oI : Nat → Int32) (oR : Nat → Nat → Int32), kont sI sR tI tR hI hR mI mR oI oR → zX C D 4 k n (wSt aH aM aT aS kp cyI sI sR ++ wTe aT cyB tI tR ++ wHo aH cyI hI hR ++ wMi aH aM cyI mI mR ++ wMo aO cyI oI oR ++ K) 1102 [(0, .ref b), (1, .ref (aS 0)), (2, .ref (aO 0)), (3, .int x3)] []) (hw : pL_17 L xs x3 sI sR tI tR hI hR mI mR oI oR kont) : zX C D 4 k n (wSt aH aM aT aS kp cyI sI sR ++ wTe aT cyB tI tR ++ wHo aH cyI hI hR ++ wMi aH aM cyI mI mR ++ wMo aO cyI oI oR ++ K) 715 [(0, .ref b), (1, .ref (aS 0)), (2, .ref (aO 0)), (3, .int x3)] [] := by
  refine z_aload_n F dL_law_715 716 rfl 1 rfl ?_
  refine z_segVi (As := []) (st := []) F dL_law_716 719 rfl (mX5_keys C.1.2.1 D cyI cyB aS aT aH aM kp sI sR tI tR hI hR mI mR hw) y_X5_keys rfl gL_law_X5_keys rfl (ci := 5) (rq := 0) rfl rfl (by decide +kernel) hkn (Nat.le_of_ble_eq_true rfl) [] (wMo aO cyI oI oR ++ K) (by simp only [List.append_assoc, List.nil_append, List.append_nil]) (fun _ => rfl) (fun u => (wSt aH aM aT aS kp cyI sI sR ++ wTe aT cyB tI tR ++ wHo aH cyI hI hR ++ wMi aH aM cyI u.1 u.2 ++ wMo aO cyI oI oR ++ K)) (fun u => (by simp only [List.append_assoc, List.nil_append, List.append_nil])) (fun r1 u hp => ?_)
  obtain ⟨mI_1, mR_1⟩ := u
  replace hw := hp
  clear hp
  refine z_aload_n F dL_law_719 720 rfl 2 rfl ?_
  refine z_segVi (As := []) (st := [.int r1]) F dL_law_720 723 rfl (mX6_keys C.1.2.1 D cyI cyB aO oI oR hw) y_X6_keys rfl gL_law_X6_keys rfl (ci := 6) (rq := 0) rfl rfl (by decide +kernel) hkn (Nat.le_of_ble_eq_true rfl) (wSt aH aM aT aS kp cyI sI sR ++ wTe aT cyB tI tR ++ wHo aH cyI hI hR ++ wMi aH aM cyI mI_1 mR_1) K (by simp only [List.append_assoc, List.nil_append, List.append_nil]) (fun _ => rfl) (fun u => (wSt aH aM aT aS kp cyI sI sR ++ wTe aT cyB tI tR ++ wHo aH cyI hI hR ++ wMi aH aM cyI mI_1 mR_1 ++ wMo aO cyI u.1 u.2 ++ K)) (fun u => (by simp only [List.append_assoc, List.nil_append, List.append_nil])) (fun r2 u hp => ?_)
  obtain ⟨oI_1, oR_1⟩ := u
  replace hw := hp
  clear hp
  obtain ⟨hwt, hwf⟩ := hw
  refine z_icmpeq F dL_law_723 1102 rfl 726 rfl (fun c1 => ?_) (fun c1 => ?_)
  · have hw := hwt c1; clear hwt hwf
    exact hkont sI sR tI tR hI hR mI_1 mR_1 oI_1 oR_1 hw
  · have hw := hwf c1; clear hwt hwf
    refine z_iconst F dL_law_726 727 rfl zki_0 ?_
    exact hw.elim
set_option maxHeartbeats 4000000 in
set_option maxRecDepth 100000 in
theorem xL_18 {C : zC} {D : va_G} {cyI cyB : ClassId} {b L k n : Nat} {xs : Nat → Int32} {aS : Nat → Nat} {aT : Nat → Nat} {aH : Nat → Nat} {aM : Nat → Nat} {aO : Nat → Nat} {kp : Value} {K : va_W} (x3 : Int32) (sI : Nat → Int32) (sR : Nat → Nat → Int32) (tI : Nat → Int32) (tR : Nat → Nat → Int32) (hI : Nat → Int32) (hR : Nat → Nat → Int32) (mI : Nat → Int32) (mR : Nat → Nat → Int32) (oI : Nat → Int32) (oR : Nat → Nat → Int32) (F : zF C D room_1 cL_law 4 wsL_law RL ret cyI cyB) (hX : va_X b L xs C.2.1.1 C.2.1.1.heap ∧ b < C.2.1.1.heap.size ∧ ¬ C.2.2.2.2 b ∧ L ≤ 2048) (hkn : k ≤ room_1.cells ∧ n ≤ room_1.slots) {kont : (Nat → Int32) → (Nat → Nat → Int32) → (Nat → Int32) → (Nat → Nat → Int32) → (Nat → Int32) → (Nat → Nat → Int32) → (Nat → Int32) → (Nat → Nat → Int32) → (Nat → Int32) → (Nat → Nat → Int32) → Prop} (hkont : ∀ (sI : Nat → Int32) (sR : Nat → Nat → Int32) (tI : Nat → Int32) (tR : Nat → Nat → Int32) (hI : Nat → Int32) (hR : Nat → Nat → Int32) (mI : Nat → Int32) (mR : Nat → Nat → Int32) (oI : Nat → Int32) (oR : Nat → Nat → Int32), kont sI sR tI tR hI hR mI mR oI oR → zX C D 4 k n (wSt aH aM aT aS kp cyI sI sR ++ wTe aT cyB tI tR ++ wHo aH cyI hI hR ++ wMi aH aM cyI mI mR ++ wMo aO cyI oI oR ++ K) 1102 [(0, .ref b), (1, .ref (aS 0)), (2, .ref (aO 0)), (3, .int x3)] []) (hw : pL_18 L xs x3 sI sR tI tR hI hR mI mR oI oR kont) : zX C D 4 k n (wSt aH aM aT aS kp cyI sI sR ++ wTe aT cyB tI tR ++ wHo aH cyI hI hR ++ wMi aH aM cyI mI mR ++ wMo aO cyI oI oR ++ K) 728 [(0, .ref b), (1, .ref (aS 0)), (2, .ref (aO 0)), (3, .int x3)] [] := by
  refine z_aload_n F dL_law_728 729 rfl 1 rfl ?_
  refine z_aload_n F dL_law_729 730 rfl 0 rfl ?_
  refine z_iload_n F dL_law_730 731 rfl 3 rfl ?_
  refine z_iconst F dL_law_731 732 rfl zki_1 ?_
  refine z_iadd F dL_law_732 733 rfl ?_
  obtain ⟨j1, ej1, hj1, hw⟩ := hw
  refine z_sld F hX dL_law_733 734 rfl j1 ej1 hj1 ?_
  refine z_aload_n F dL_law_734 735 rfl 0 rfl ?_
  refine z_iload_n F dL_law_735 736 rfl 3 rfl ?_
  refine z_iconst F dL_law_736 737 rfl zki_2 ?_
  refine z_iadd F dL_law_737 738 rfl ?_
  obtain ⟨j2, ej2, hj2, hw⟩ := hw
  refine z_sld F hX dL_law_738 739 rfl j2 ej2 hj2 ?_
  refine z_aload_n F dL_law_739 740 rfl 0 rfl ?_
  refine z_iload_n F dL_law_740 741 rfl 3 rfl ?_
  refine z_iconst F dL_law_741 742 rfl zki_3 ?_
  refine z_iadd F dL_law_742 743 rfl ?_
  obtain ⟨j3, ej3, hj3, hw⟩ := hw
  refine z_sld F hX dL_law_743 744 rfl j3 ej3 hj3 ?_
  refine z_segVi (As := [.int (xs j1), .int (xs j2), .int (xs j3)]) (st := []) F dL_law_744 747 rfl (mX5_monday C.1.2.1 D cyI cyB aS aT aH aM kp (xs j1) (xs j2) (xs j3) sI sR tI tR hI hR mI mR hw) y_X5_monday rfl gL_law_X5_monday rfl (ci := 5) (rq := 0) rfl rfl (by decide +kernel) hkn (Nat.le_of_ble_eq_true rfl) [] (wMo aO cyI oI oR ++ K) (by simp only [List.append_assoc, List.nil_append, List.append_nil]) (fun _ => rfl) (fun u => (wSt aH aM aT aS kp cyI u.1 u.2.1 ++ wTe aT cyB tI tR ++ wHo aH cyI hI hR ++ wMi aH aM cyI u.2.2.1 u.2.2.2 ++ wMo aO cyI oI oR ++ K)) (fun u => (by simp only [List.append_assoc, List.nil_append, List.append_nil])) (fun r1 u hp => ?_)
  obtain ⟨sI_1, sR_1, mI_1, mR_1⟩ := u
  replace hw := hp
  clear hp
  refine z_aload_n F dL_law_747 748 rfl 2 rfl ?_
  refine z_aload_n F dL_law_748 749 rfl 0 rfl ?_
  refine z_iload_n F dL_law_749 750 rfl 3 rfl ?_
  refine z_iconst F dL_law_750 751 rfl zki_1 ?_
  refine z_iadd F dL_law_751 752 rfl ?_
  refine z_sld F hX dL_law_752 753 rfl j1 ej1 hj1 ?_
  refine z_aload_n F dL_law_753 754 rfl 0 rfl ?_
  refine z_iload_n F dL_law_754 755 rfl 3 rfl ?_
  refine z_iconst F dL_law_755 756 rfl zki_2 ?_
  refine z_iadd F dL_law_756 757 rfl ?_
  refine z_sld F hX dL_law_757 758 rfl j2 ej2 hj2 ?_
  refine z_aload_n F dL_law_758 759 rfl 0 rfl ?_
  refine z_iload_n F dL_law_759 760 rfl 3 rfl ?_
  refine z_iconst F dL_law_760 761 rfl zki_3 ?_
  refine z_iadd F dL_law_761 762 rfl ?_
  refine z_sld F hX dL_law_762 763 rfl j3 ej3 hj3 ?_
  refine z_segVi (As := [.int (xs j1), .int (xs j2), .int (xs j3)]) (st := [.int r1]) F dL_law_763 766 rfl (mX6_monday C.1.2.1 D cyI cyB aO (xs j1) (xs j2) (xs j3) oI oR hw) y_X6_monday rfl gL_law_X6_monday rfl (ci := 6) (rq := 0) rfl rfl (by decide +kernel) hkn (Nat.le_of_ble_eq_true rfl) (wSt aH aM aT aS kp cyI sI_1 sR_1 ++ wTe aT cyB tI tR ++ wHo aH cyI hI hR ++ wMi aH aM cyI mI_1 mR_1) K (by simp only [List.append_assoc, List.nil_append, List.append_nil]) (fun _ => rfl) (fun u => (wSt aH aM aT aS kp cyI sI_1 sR_1 ++ wTe aT cyB tI tR ++ wHo aH cyI hI hR ++ wMi aH aM cyI mI_1 mR_1 ++ wMo aO cyI u.1 u.2 ++ K)) (fun u => (by simp only [List.append_assoc, List.nil_append, List.append_nil])) (fun r2 u hp => ?_)
  obtain ⟨oI_1, oR_1⟩ := u
  replace hw := hp
  clear hp
  obtain ⟨hwt, hwf⟩ := hw
  refine z_icmpeq F dL_law_766 1102 rfl 769 rfl (fun c1 => ?_) (fun c1 => ?_)
  · have hw := hwt c1; clear hwt hwf
    exact hkont sI_1 sR_1 tI tR hI hR mI_1 mR_1 oI_1 oR_1 hw
  · have hw := hwf c1; clear hwt hwf
    refine z_iconst F dL_law_769 770 rfl zki_0 ?_
    exact hw.elim
set_option maxHeartbeats 4000000 in
set_option maxRecDepth 100000 in
theorem xL_19 {C : zC} {D : va_G} {cyI cyB : ClassId} {b L k n : Nat} {xs : Nat → Int32} {aS : Nat → Nat} {aT : Nat → Nat} {aH : Nat → Nat} {aM : Nat → Nat} {aO : Nat → Nat} {kp : Value} {K : va_W} (x3 : Int32) (sI : Nat → Int32) (sR : Nat → Nat → Int32) (tI : Nat → Int32) (tR : Nat → Nat → Int32) (hI : Nat → Int32) (hR : Nat → Nat → Int32) (mI : Nat → Int32) (mR : Nat → Nat → Int32) (oI : Nat → Int32) (oR : Nat → Nat → Int32) (F : zF C D room_1 cL_law 4 wsL_law RL ret cyI cyB) (hX : va_X b L xs C.2.1.1 C.2.1.1.heap ∧ b < C.2.1.1.heap.size ∧ ¬ C.2.2.2.2 b ∧ L ≤ 2048) (hkn : k ≤ room_1.cells ∧ n ≤ room_1.slots) {kont : (Nat → Int32) → (Nat → Nat → Int32) → (Nat → Int32) → (Nat → Nat → Int32) → (Nat → Int32) → (Nat → Nat → Int32) → (Nat → Int32) → (Nat → Nat → Int32) → (Nat → Int32) → (Nat → Nat → Int32) → Prop} (hkont : ∀ (sI : Nat → Int32) (sR : Nat → Nat → Int32) (tI : Nat → Int32) (tR : Nat → Nat → Int32) (hI : Nat → Int32) (hR : Nat → Nat → Int32) (mI : Nat → Int32) (mR : Nat → Nat → Int32) (oI : Nat → Int32) (oR : Nat → Nat → Int32), kont sI sR tI tR hI hR mI mR oI oR → zX C D 4 k n (wSt aH aM aT aS kp cyI sI sR ++ wTe aT cyB tI tR ++ wHo aH cyI hI hR ++ wMi aH aM cyI mI mR ++ wMo aO cyI oI oR ++ K) 1102 [(0, .ref b), (1, .ref (aS 0)), (2, .ref (aO 0)), (3, .int x3)] []) (hw : pL_19 L xs x3 sI sR tI tR hI hR mI mR oI oR kont) : zX C D 4 k n (wSt aH aM aT aS kp cyI sI sR ++ wTe aT cyB tI tR ++ wHo aH cyI hI hR ++ wMi aH aM cyI mI mR ++ wMo aO cyI oI oR ++ K) 771 [(0, .ref b), (1, .ref (aS 0)), (2, .ref (aO 0)), (3, .int x3)] [] := by
  refine z_aload_n F dL_law_771 772 rfl 1 rfl ?_
  refine z_aload_n F dL_law_772 773 rfl 0 rfl ?_
  refine z_iload_n F dL_law_773 774 rfl 3 rfl ?_
  refine z_iconst F dL_law_774 775 rfl zki_1 ?_
  refine z_iadd F dL_law_775 776 rfl ?_
  obtain ⟨j1, ej1, hj1, hw⟩ := hw
  refine z_sld F hX dL_law_776 777 rfl j1 ej1 hj1 ?_
  refine z_aload_n F dL_law_777 778 rfl 0 rfl ?_
  refine z_iload_n F dL_law_778 779 rfl 3 rfl ?_
  refine z_iconst F dL_law_779 780 rfl zki_2 ?_
  refine z_iadd F dL_law_780 781 rfl ?_
  obtain ⟨j2, ej2, hj2, hw⟩ := hw
  refine z_sld F hX dL_law_781 782 rfl j2 ej2 hj2 ?_
  refine z_aload_n F dL_law_782 783 rfl 0 rfl ?_
  refine z_iload_n F dL_law_783 784 rfl 3 rfl ?_
  refine z_iconst F dL_law_784 785 rfl zki_3 ?_
  refine z_iadd F dL_law_785 786 rfl ?_
  obtain ⟨j3, ej3, hj3, hw⟩ := hw
  refine z_sld F hX dL_law_786 787 rfl j3 ej3 hj3 ?_
  refine z_segVi (As := [.int (xs j1), .int (xs j2), .int (xs j3)]) (st := []) F dL_law_787 790 rfl (mX5_mend C.1.2.1 D cyI cyB aS aT aH aM kp (xs j1) (xs j2) (xs j3) sI sR tI tR hI hR mI mR hw) y_X5_mend rfl gL_law_X5_mend rfl (ci := 5) (rq := 0) rfl rfl (by decide +kernel) hkn (Nat.le_of_ble_eq_true rfl) [] (wMo aO cyI oI oR ++ K) (by simp only [List.append_assoc, List.nil_append, List.append_nil]) (fun _ => rfl) (fun u => (wSt aH aM aT aS kp cyI u.1 u.2.1 ++ wTe aT cyB tI tR ++ wHo aH cyI hI hR ++ wMi aH aM cyI u.2.2.1 u.2.2.2 ++ wMo aO cyI oI oR ++ K)) (fun u => (by simp only [List.append_assoc, List.nil_append, List.append_nil])) (fun r1 u hp => ?_)
  obtain ⟨sI_1, sR_1, mI_1, mR_1⟩ := u
  replace hw := hp
  clear hp
  refine z_aload_n F dL_law_790 791 rfl 2 rfl ?_
  refine z_aload_n F dL_law_791 792 rfl 0 rfl ?_
  refine z_iload_n F dL_law_792 793 rfl 3 rfl ?_
  refine z_iconst F dL_law_793 794 rfl zki_1 ?_
  refine z_iadd F dL_law_794 795 rfl ?_
  refine z_sld F hX dL_law_795 796 rfl j1 ej1 hj1 ?_
  refine z_aload_n F dL_law_796 797 rfl 0 rfl ?_
  refine z_iload_n F dL_law_797 798 rfl 3 rfl ?_
  refine z_iconst F dL_law_798 799 rfl zki_2 ?_
  refine z_iadd F dL_law_799 800 rfl ?_
  refine z_sld F hX dL_law_800 801 rfl j2 ej2 hj2 ?_
  refine z_aload_n F dL_law_801 802 rfl 0 rfl ?_
  refine z_iload_n F dL_law_802 803 rfl 3 rfl ?_
  refine z_iconst F dL_law_803 804 rfl zki_3 ?_
  refine z_iadd F dL_law_804 805 rfl ?_
  refine z_sld F hX dL_law_805 806 rfl j3 ej3 hj3 ?_
  refine z_segVi (As := [.int (xs j1), .int (xs j2), .int (xs j3)]) (st := [.int r1]) F dL_law_806 809 rfl (mX6_mend C.1.2.1 D cyI cyB aO (xs j1) (xs j2) (xs j3) oI oR hw) y_X6_mend rfl gL_law_X6_mend rfl (ci := 6) (rq := 0) rfl rfl (by decide +kernel) hkn (Nat.le_of_ble_eq_true rfl) (wSt aH aM aT aS kp cyI sI_1 sR_1 ++ wTe aT cyB tI tR ++ wHo aH cyI hI hR ++ wMi aH aM cyI mI_1 mR_1) K (by simp only [List.append_assoc, List.nil_append, List.append_nil]) (fun _ => rfl) (fun u => (wSt aH aM aT aS kp cyI sI_1 sR_1 ++ wTe aT cyB tI tR ++ wHo aH cyI hI hR ++ wMi aH aM cyI mI_1 mR_1 ++ wMo aO cyI u.1 u.2 ++ K)) (fun u => (by simp only [List.append_assoc, List.nil_append, List.append_nil])) (fun r2 u hp => ?_)
  obtain ⟨oI_1, oR_1⟩ := u
  replace hw := hp
  clear hp
  obtain ⟨hwt, hwf⟩ := hw
  refine z_icmpeq F dL_law_809 1102 rfl 812 rfl (fun c1 => ?_) (fun c1 => ?_)
  · have hw := hwt c1; clear hwt hwf
    exact hkont sI_1 sR_1 tI tR hI hR mI_1 mR_1 oI_1 oR_1 hw
  · have hw := hwf c1; clear hwt hwf
    refine z_iconst F dL_law_812 813 rfl zki_0 ?_
    exact hw.elim
set_option maxHeartbeats 4000000 in
set_option maxRecDepth 100000 in
theorem xL_20 {C : zC} {D : va_G} {cyI cyB : ClassId} {b L k n : Nat} {xs : Nat → Int32} {aS : Nat → Nat} {aT : Nat → Nat} {aH : Nat → Nat} {aM : Nat → Nat} {aO : Nat → Nat} {kp : Value} {K : va_W} (x3 : Int32) (sI : Nat → Int32) (sR : Nat → Nat → Int32) (tI : Nat → Int32) (tR : Nat → Nat → Int32) (hI : Nat → Int32) (hR : Nat → Nat → Int32) (mI : Nat → Int32) (mR : Nat → Nat → Int32) (oI : Nat → Int32) (oR : Nat → Nat → Int32) (F : zF C D room_1 cL_law 4 wsL_law RL ret cyI cyB) (hX : va_X b L xs C.2.1.1 C.2.1.1.heap ∧ b < C.2.1.1.heap.size ∧ ¬ C.2.2.2.2 b ∧ L ≤ 2048) (hkn : k ≤ room_1.cells ∧ n ≤ room_1.slots) {kont : (Nat → Int32) → (Nat → Nat → Int32) → (Nat → Int32) → (Nat → Nat → Int32) → (Nat → Int32) → (Nat → Nat → Int32) → (Nat → Int32) → (Nat → Nat → Int32) → (Nat → Int32) → (Nat → Nat → Int32) → Prop} (hkont : ∀ (sI : Nat → Int32) (sR : Nat → Nat → Int32) (tI : Nat → Int32) (tR : Nat → Nat → Int32) (hI : Nat → Int32) (hR : Nat → Nat → Int32) (mI : Nat → Int32) (mR : Nat → Nat → Int32) (oI : Nat → Int32) (oR : Nat → Nat → Int32), kont sI sR tI tR hI hR mI mR oI oR → zX C D 4 k n (wSt aH aM aT aS kp cyI sI sR ++ wTe aT cyB tI tR ++ wHo aH cyI hI hR ++ wMi aH aM cyI mI mR ++ wMo aO cyI oI oR ++ K) 1102 [(0, .ref b), (1, .ref (aS 0)), (2, .ref (aO 0)), (3, .int x3)] []) (hw : pL_20 L xs x3 sI sR tI tR hI hR mI mR oI oR kont) : zX C D 4 k n (wSt aH aM aT aS kp cyI sI sR ++ wTe aT cyB tI tR ++ wHo aH cyI hI hR ++ wMi aH aM cyI mI mR ++ wMo aO cyI oI oR ++ K) 814 [(0, .ref b), (1, .ref (aS 0)), (2, .ref (aO 0)), (3, .int x3)] [] := by
  refine z_aload_n F dL_law_814 815 rfl 1 rfl ?_
  refine z_aload_n F dL_law_815 816 rfl 0 rfl ?_
  refine z_iload_n F dL_law_816 817 rfl 3 rfl ?_
  refine z_iconst F dL_law_817 818 rfl zki_1 ?_
  refine z_iadd F dL_law_818 819 rfl ?_
  obtain ⟨j1, ej1, hj1, hw⟩ := hw
  refine z_sld F hX dL_law_819 820 rfl j1 ej1 hj1 ?_
  refine z_segVi (As := [.int (xs j1)]) (st := []) F dL_law_820 823 rfl (mX5_walls C.1.2.1 D cyI cyB aS aT aH aM kp (xs j1) sI sR tI tR hI hR mI mR hw) y_X5_walls rfl gL_law_X5_walls rfl (ci := 5) (rq := 0) rfl rfl (by decide +kernel) hkn (Nat.le_of_ble_eq_true rfl) [] (wMo aO cyI oI oR ++ K) (by simp only [List.append_assoc, List.nil_append, List.append_nil]) (fun _ => rfl) (fun u => (wSt aH aM aT aS kp cyI u.1 u.2.1 ++ wTe aT cyB tI tR ++ wHo aH cyI hI hR ++ wMi aH aM cyI u.2.2.1 u.2.2.2 ++ wMo aO cyI oI oR ++ K)) (fun u => (by simp only [List.append_assoc, List.nil_append, List.append_nil])) (fun r1 u hp => ?_)
  obtain ⟨sI_1, sR_1, mI_1, mR_1⟩ := u
  replace hw := hp
  clear hp
  refine z_aload_n F dL_law_823 824 rfl 2 rfl ?_
  refine z_aload_n F dL_law_824 825 rfl 0 rfl ?_
  refine z_iload_n F dL_law_825 826 rfl 3 rfl ?_
  refine z_iconst F dL_law_826 827 rfl zki_1 ?_
  refine z_iadd F dL_law_827 828 rfl ?_
  refine z_sld F hX dL_law_828 829 rfl j1 ej1 hj1 ?_
  refine z_segVi (As := [.int (xs j1)]) (st := [.int r1]) F dL_law_829 832 rfl (mX6_walls C.1.2.1 D cyI cyB aO (xs j1) oI oR hw) y_X6_walls rfl gL_law_X6_walls rfl (ci := 6) (rq := 0) rfl rfl (by decide +kernel) hkn (Nat.le_of_ble_eq_true rfl) (wSt aH aM aT aS kp cyI sI_1 sR_1 ++ wTe aT cyB tI tR ++ wHo aH cyI hI hR ++ wMi aH aM cyI mI_1 mR_1) K (by simp only [List.append_assoc, List.nil_append, List.append_nil]) (fun _ => rfl) (fun u => (wSt aH aM aT aS kp cyI sI_1 sR_1 ++ wTe aT cyB tI tR ++ wHo aH cyI hI hR ++ wMi aH aM cyI mI_1 mR_1 ++ wMo aO cyI u.1 u.2 ++ K)) (fun u => (by simp only [List.append_assoc, List.nil_append, List.append_nil])) (fun r2 u hp => ?_)
  obtain ⟨oI_1, oR_1⟩ := u
  replace hw := hp
  clear hp
  obtain ⟨hwt, hwf⟩ := hw
  refine z_icmpeq F dL_law_832 1102 rfl 835 rfl (fun c1 => ?_) (fun c1 => ?_)
  · have hw := hwt c1; clear hwt hwf
    exact hkont sI_1 sR_1 tI tR hI hR mI_1 mR_1 oI_1 oR_1 hw
  · have hw := hwf c1; clear hwt hwf
    refine z_iconst F dL_law_835 836 rfl zki_0 ?_
    exact hw.elim
set_option maxHeartbeats 4000000 in
set_option maxRecDepth 100000 in
theorem xL_21 {C : zC} {D : va_G} {cyI cyB : ClassId} {b L k n : Nat} {xs : Nat → Int32} {aS : Nat → Nat} {aT : Nat → Nat} {aH : Nat → Nat} {aM : Nat → Nat} {aO : Nat → Nat} {kp : Value} {K : va_W} (x3 : Int32) (sI : Nat → Int32) (sR : Nat → Nat → Int32) (tI : Nat → Int32) (tR : Nat → Nat → Int32) (hI : Nat → Int32) (hR : Nat → Nat → Int32) (mI : Nat → Int32) (mR : Nat → Nat → Int32) (oI : Nat → Int32) (oR : Nat → Nat → Int32) (F : zF C D room_1 cL_law 4 wsL_law RL ret cyI cyB) (hX : va_X b L xs C.2.1.1 C.2.1.1.heap ∧ b < C.2.1.1.heap.size ∧ ¬ C.2.2.2.2 b ∧ L ≤ 2048) (hkn : k ≤ room_1.cells ∧ n ≤ room_1.slots) {kont : (Nat → Int32) → (Nat → Nat → Int32) → (Nat → Int32) → (Nat → Nat → Int32) → (Nat → Int32) → (Nat → Nat → Int32) → (Nat → Int32) → (Nat → Nat → Int32) → (Nat → Int32) → (Nat → Nat → Int32) → Prop} (hkont : ∀ (sI : Nat → Int32) (sR : Nat → Nat → Int32) (tI : Nat → Int32) (tR : Nat → Nat → Int32) (hI : Nat → Int32) (hR : Nat → Nat → Int32) (mI : Nat → Int32) (mR : Nat → Nat → Int32) (oI : Nat → Int32) (oR : Nat → Nat → Int32), kont sI sR tI tR hI hR mI mR oI oR → zX C D 4 k n (wSt aH aM aT aS kp cyI sI sR ++ wTe aT cyB tI tR ++ wHo aH cyI hI hR ++ wMi aH aM cyI mI mR ++ wMo aO cyI oI oR ++ K) 1102 [(0, .ref b), (1, .ref (aS 0)), (2, .ref (aO 0)), (3, .int x3)] []) (hw : pL_21 L xs x3 sI sR tI tR hI hR mI mR oI oR kont) : zX C D 4 k n (wSt aH aM aT aS kp cyI sI sR ++ wTe aT cyB tI tR ++ wHo aH cyI hI hR ++ wMi aH aM cyI mI mR ++ wMo aO cyI oI oR ++ K) 837 [(0, .ref b), (1, .ref (aS 0)), (2, .ref (aO 0)), (3, .int x3)] [] := by
  refine z_aload_n F dL_law_837 838 rfl 1 rfl ?_
  refine z_aload_n F dL_law_838 839 rfl 0 rfl ?_
  refine z_iload_n F dL_law_839 840 rfl 3 rfl ?_
  refine z_iconst F dL_law_840 841 rfl zki_1 ?_
  refine z_iadd F dL_law_841 842 rfl ?_
  obtain ⟨j1, ej1, hj1, hw⟩ := hw
  refine z_sld F hX dL_law_842 843 rfl j1 ej1 hj1 ?_
  refine z_segVi (As := [.int (xs j1)]) (st := []) F dL_law_843 846 rfl (mX5_bank C.1.2.1 D cyI cyB aS aT aH aM kp (xs j1) sI sR tI tR hI hR mI mR hw) y_X5_bank rfl gL_law_X5_bank rfl (ci := 5) (rq := 0) rfl rfl (by decide +kernel) hkn (Nat.le_of_ble_eq_true rfl) [] (wMo aO cyI oI oR ++ K) (by simp only [List.append_assoc, List.nil_append, List.append_nil]) (fun _ => rfl) (fun u => (wSt aH aM aT aS kp cyI u.1 u.2.1 ++ wTe aT cyB tI tR ++ wHo aH cyI hI hR ++ wMi aH aM cyI u.2.2.1 u.2.2.2 ++ wMo aO cyI oI oR ++ K)) (fun u => (by simp only [List.append_assoc, List.nil_append, List.append_nil])) (fun r1 u hp => ?_)
  obtain ⟨sI_1, sR_1, mI_1, mR_1⟩ := u
  replace hw := hp
  clear hp
  refine z_aload_n F dL_law_846 847 rfl 2 rfl ?_
  refine z_aload_n F dL_law_847 848 rfl 0 rfl ?_
  refine z_iload_n F dL_law_848 849 rfl 3 rfl ?_
  refine z_iconst F dL_law_849 850 rfl zki_1 ?_
  refine z_iadd F dL_law_850 851 rfl ?_
  refine z_sld F hX dL_law_851 852 rfl j1 ej1 hj1 ?_
  refine z_segVi (As := [.int (xs j1)]) (st := [.int r1]) F dL_law_852 855 rfl (mX6_bank C.1.2.1 D cyI cyB aO (xs j1) oI oR hw) y_X6_bank rfl gL_law_X6_bank rfl (ci := 6) (rq := 0) rfl rfl (by decide +kernel) hkn (Nat.le_of_ble_eq_true rfl) (wSt aH aM aT aS kp cyI sI_1 sR_1 ++ wTe aT cyB tI tR ++ wHo aH cyI hI hR ++ wMi aH aM cyI mI_1 mR_1) K (by simp only [List.append_assoc, List.nil_append, List.append_nil]) (fun _ => rfl) (fun u => (wSt aH aM aT aS kp cyI sI_1 sR_1 ++ wTe aT cyB tI tR ++ wHo aH cyI hI hR ++ wMi aH aM cyI mI_1 mR_1 ++ wMo aO cyI u.1 u.2 ++ K)) (fun u => (by simp only [List.append_assoc, List.nil_append, List.append_nil])) (fun r2 u hp => ?_)
  obtain ⟨oI_1, oR_1⟩ := u
  replace hw := hp
  clear hp
  obtain ⟨hwt, hwf⟩ := hw
  refine z_icmpeq F dL_law_855 1102 rfl 858 rfl (fun c1 => ?_) (fun c1 => ?_)
  · have hw := hwt c1; clear hwt hwf
    exact hkont sI_1 sR_1 tI tR hI hR mI_1 mR_1 oI_1 oR_1 hw
  · have hw := hwf c1; clear hwt hwf
    refine z_iconst F dL_law_858 859 rfl zki_0 ?_
    exact hw.elim
set_option maxHeartbeats 4000000 in
set_option maxRecDepth 100000 in
theorem xL_22 {C : zC} {D : va_G} {cyI cyB : ClassId} {b L k n : Nat} {xs : Nat → Int32} {aS : Nat → Nat} {aT : Nat → Nat} {aH : Nat → Nat} {aM : Nat → Nat} {aO : Nat → Nat} {kp : Value} {K : va_W} (x3 : Int32) (sI : Nat → Int32) (sR : Nat → Nat → Int32) (tI : Nat → Int32) (tR : Nat → Nat → Int32) (hI : Nat → Int32) (hR : Nat → Nat → Int32) (mI : Nat → Int32) (mR : Nat → Nat → Int32) (oI : Nat → Int32) (oR : Nat → Nat → Int32) (F : zF C D room_1 cL_law 4 wsL_law RL ret cyI cyB) (hX : va_X b L xs C.2.1.1 C.2.1.1.heap ∧ b < C.2.1.1.heap.size ∧ ¬ C.2.2.2.2 b ∧ L ≤ 2048) (hkn : k ≤ room_1.cells ∧ n ≤ room_1.slots) {kont : (Nat → Int32) → (Nat → Nat → Int32) → (Nat → Int32) → (Nat → Nat → Int32) → (Nat → Int32) → (Nat → Nat → Int32) → (Nat → Int32) → (Nat → Nat → Int32) → (Nat → Int32) → (Nat → Nat → Int32) → Prop} (hkont : ∀ (sI : Nat → Int32) (sR : Nat → Nat → Int32) (tI : Nat → Int32) (tR : Nat → Nat → Int32) (hI : Nat → Int32) (hR : Nat → Nat → Int32) (mI : Nat → Int32) (mR : Nat → Nat → Int32) (oI : Nat → Int32) (oR : Nat → Nat → Int32), kont sI sR tI tR hI hR mI mR oI oR → zX C D 4 k n (wSt aH aM aT aS kp cyI sI sR ++ wTe aT cyB tI tR ++ wHo aH cyI hI hR ++ wMi aH aM cyI mI mR ++ wMo aO cyI oI oR ++ K) 1102 [(0, .ref b), (1, .ref (aS 0)), (2, .ref (aO 0)), (3, .int x3)] []) (hw : pL_22 L xs x3 sI sR tI tR hI hR mI mR oI oR kont) : zX C D 4 k n (wSt aH aM aT aS kp cyI sI sR ++ wTe aT cyB tI tR ++ wHo aH cyI hI hR ++ wMi aH aM cyI mI mR ++ wMo aO cyI oI oR ++ K) 860 [(0, .ref b), (1, .ref (aS 0)), (2, .ref (aO 0)), (3, .int x3)] [] := by
  refine z_aload_n F dL_law_860 861 rfl 1 rfl ?_
  refine z_aload_n F dL_law_861 862 rfl 0 rfl ?_
  refine z_iload_n F dL_law_862 863 rfl 3 rfl ?_
  refine z_iconst F dL_law_863 864 rfl zki_1 ?_
  refine z_iadd F dL_law_864 865 rfl ?_
  obtain ⟨j1, ej1, hj1, hw⟩ := hw
  refine z_sld F hX dL_law_865 866 rfl j1 ej1 hj1 ?_
  refine z_aload_n F dL_law_866 867 rfl 0 rfl ?_
  refine z_iload_n F dL_law_867 868 rfl 3 rfl ?_
  refine z_iconst F dL_law_868 869 rfl zki_2 ?_
  refine z_iadd F dL_law_869 870 rfl ?_
  obtain ⟨j2, ej2, hj2, hw⟩ := hw
  refine z_sld F hX dL_law_870 871 rfl j2 ej2 hj2 ?_
  refine z_aload_n F dL_law_871 872 rfl 0 rfl ?_
  refine z_iload_n F dL_law_872 873 rfl 3 rfl ?_
  refine z_iconst F dL_law_873 874 rfl zki_3 ?_
  refine z_iadd F dL_law_874 875 rfl ?_
  obtain ⟨j3, ej3, hj3, hw⟩ := hw
  refine z_sld F hX dL_law_875 876 rfl j3 ej3 hj3 ?_
  refine z_segVi (As := [.int (xs j1), .int (xs j2), .int (xs j3)]) (st := []) F dL_law_876 879 rfl (mX5_giving C.1.2.1 D cyI cyB aS aT aH aM kp (xs j1) (xs j2) (xs j3) sI sR tI tR hI hR mI mR hw) y_X5_giving rfl gL_law_X5_giving rfl (ci := 5) (rq := 0) rfl rfl (by decide +kernel) hkn (Nat.le_of_ble_eq_true rfl) [] (wMo aO cyI oI oR ++ K) (by simp only [List.append_assoc, List.nil_append, List.append_nil]) (fun _ => rfl) (fun u => (wSt aH aM aT aS kp cyI u.1 u.2.1 ++ wTe aT cyB tI tR ++ wHo aH cyI hI hR ++ wMi aH aM cyI u.2.2.1 u.2.2.2 ++ wMo aO cyI oI oR ++ K)) (fun u => (by simp only [List.append_assoc, List.nil_append, List.append_nil])) (fun r1 u hp => ?_)
  obtain ⟨sI_1, sR_1, mI_1, mR_1⟩ := u
  replace hw := hp
  clear hp
  refine z_aload_n F dL_law_879 880 rfl 2 rfl ?_
  refine z_aload_n F dL_law_880 881 rfl 0 rfl ?_
  refine z_iload_n F dL_law_881 882 rfl 3 rfl ?_
  refine z_iconst F dL_law_882 883 rfl zki_1 ?_
  refine z_iadd F dL_law_883 884 rfl ?_
  refine z_sld F hX dL_law_884 885 rfl j1 ej1 hj1 ?_
  refine z_aload_n F dL_law_885 886 rfl 0 rfl ?_
  refine z_iload_n F dL_law_886 887 rfl 3 rfl ?_
  refine z_iconst F dL_law_887 888 rfl zki_2 ?_
  refine z_iadd F dL_law_888 889 rfl ?_
  refine z_sld F hX dL_law_889 890 rfl j2 ej2 hj2 ?_
  refine z_aload_n F dL_law_890 891 rfl 0 rfl ?_
  refine z_iload_n F dL_law_891 892 rfl 3 rfl ?_
  refine z_iconst F dL_law_892 893 rfl zki_3 ?_
  refine z_iadd F dL_law_893 894 rfl ?_
  refine z_sld F hX dL_law_894 895 rfl j3 ej3 hj3 ?_
  refine z_segVi (As := [.int (xs j1), .int (xs j2), .int (xs j3)]) (st := [.int r1]) F dL_law_895 898 rfl (mX6_giving C.1.2.1 D cyI cyB aO (xs j1) (xs j2) (xs j3) oI oR hw) y_X6_giving rfl gL_law_X6_giving rfl (ci := 6) (rq := 0) rfl rfl (by decide +kernel) hkn (Nat.le_of_ble_eq_true rfl) (wSt aH aM aT aS kp cyI sI_1 sR_1 ++ wTe aT cyB tI tR ++ wHo aH cyI hI hR ++ wMi aH aM cyI mI_1 mR_1) K (by simp only [List.append_assoc, List.nil_append, List.append_nil]) (fun _ => rfl) (fun u => (wSt aH aM aT aS kp cyI sI_1 sR_1 ++ wTe aT cyB tI tR ++ wHo aH cyI hI hR ++ wMi aH aM cyI mI_1 mR_1 ++ wMo aO cyI u.1 u.2 ++ K)) (fun u => (by simp only [List.append_assoc, List.nil_append, List.append_nil])) (fun r2 u hp => ?_)
  obtain ⟨oI_1, oR_1⟩ := u
  replace hw := hp
  clear hp
  obtain ⟨hwt, hwf⟩ := hw
  refine z_icmpeq F dL_law_898 1102 rfl 901 rfl (fun c1 => ?_) (fun c1 => ?_)
  · have hw := hwt c1; clear hwt hwf
    exact hkont sI_1 sR_1 tI tR hI hR mI_1 mR_1 oI_1 oR_1 hw
  · have hw := hwf c1; clear hwt hwf
    refine z_iconst F dL_law_901 902 rfl zki_0 ?_
    exact hw.elim
set_option maxHeartbeats 4000000 in
set_option maxRecDepth 100000 in
theorem xL_23 {C : zC} {D : va_G} {cyI cyB : ClassId} {b L k n : Nat} {xs : Nat → Int32} {aS : Nat → Nat} {aT : Nat → Nat} {aH : Nat → Nat} {aM : Nat → Nat} {aO : Nat → Nat} {kp : Value} {K : va_W} (x3 : Int32) (sI : Nat → Int32) (sR : Nat → Nat → Int32) (tI : Nat → Int32) (tR : Nat → Nat → Int32) (hI : Nat → Int32) (hR : Nat → Nat → Int32) (mI : Nat → Int32) (mR : Nat → Nat → Int32) (oI : Nat → Int32) (oR : Nat → Nat → Int32) (F : zF C D room_1 cL_law 4 wsL_law RL ret cyI cyB) (hX : va_X b L xs C.2.1.1 C.2.1.1.heap ∧ b < C.2.1.1.heap.size ∧ ¬ C.2.2.2.2 b ∧ L ≤ 2048) (hkn : k ≤ room_1.cells ∧ n ≤ room_1.slots) {kont : (Nat → Int32) → (Nat → Nat → Int32) → (Nat → Int32) → (Nat → Nat → Int32) → (Nat → Int32) → (Nat → Nat → Int32) → (Nat → Int32) → (Nat → Nat → Int32) → (Nat → Int32) → (Nat → Nat → Int32) → Prop} (hkont : ∀ (sI : Nat → Int32) (sR : Nat → Nat → Int32) (tI : Nat → Int32) (tR : Nat → Nat → Int32) (hI : Nat → Int32) (hR : Nat → Nat → Int32) (mI : Nat → Int32) (mR : Nat → Nat → Int32) (oI : Nat → Int32) (oR : Nat → Nat → Int32), kont sI sR tI tR hI hR mI mR oI oR → zX C D 4 k n (wSt aH aM aT aS kp cyI sI sR ++ wTe aT cyB tI tR ++ wHo aH cyI hI hR ++ wMi aH aM cyI mI mR ++ wMo aO cyI oI oR ++ K) 1102 [(0, .ref b), (1, .ref (aS 0)), (2, .ref (aO 0)), (3, .int x3)] []) (hw : pL_23 L xs x3 sI sR tI tR hI hR mI mR oI oR kont) : zX C D 4 k n (wSt aH aM aT aS kp cyI sI sR ++ wTe aT cyB tI tR ++ wHo aH cyI hI hR ++ wMi aH aM cyI mI mR ++ wMo aO cyI oI oR ++ K) 903 [(0, .ref b), (1, .ref (aS 0)), (2, .ref (aO 0)), (3, .int x3)] [] := by
  refine z_aload_n F dL_law_903 904 rfl 1 rfl ?_
  refine z_aload_n F dL_law_904 905 rfl 0 rfl ?_
  refine z_iload_n F dL_law_905 906 rfl 3 rfl ?_
  refine z_iconst F dL_law_906 907 rfl zki_1 ?_
  refine z_iadd F dL_law_907 908 rfl ?_
  obtain ⟨j1, ej1, hj1, hw⟩ := hw
  refine z_sld F hX dL_law_908 909 rfl j1 ej1 hj1 ?_
  refine z_aload_n F dL_law_909 910 rfl 0 rfl ?_
  refine z_iload_n F dL_law_910 911 rfl 3 rfl ?_
  refine z_iconst F dL_law_911 912 rfl zki_2 ?_
  refine z_iadd F dL_law_912 913 rfl ?_
  obtain ⟨j2, ej2, hj2, hw⟩ := hw
  refine z_sld F hX dL_law_913 914 rfl j2 ej2 hj2 ?_
  refine z_segVi (As := [.int (xs j1), .int (xs j2)]) (st := []) F dL_law_914 917 rfl (mX5_finest C.1.2.1 D cyI cyB aS aT aH aM kp (xs j1) (xs j2) sI sR tI tR hI hR mI mR hw) y_X5_finest rfl gL_law_X5_finest rfl (ci := 5) (rq := 0) rfl rfl (by decide +kernel) hkn (Nat.le_of_ble_eq_true rfl) [] (wMo aO cyI oI oR ++ K) (by simp only [List.append_assoc, List.nil_append, List.append_nil]) (fun _ => rfl) (fun u => (wSt aH aM aT aS kp cyI u.1 u.2.1 ++ wTe aT cyB tI tR ++ wHo aH cyI hI hR ++ wMi aH aM cyI u.2.2.1 u.2.2.2 ++ wMo aO cyI oI oR ++ K)) (fun u => (by simp only [List.append_assoc, List.nil_append, List.append_nil])) (fun r1 u hp => ?_)
  obtain ⟨sI_1, sR_1, mI_1, mR_1⟩ := u
  replace hw := hp
  clear hp
  refine z_aload_n F dL_law_917 918 rfl 2 rfl ?_
  refine z_aload_n F dL_law_918 919 rfl 0 rfl ?_
  refine z_iload_n F dL_law_919 920 rfl 3 rfl ?_
  refine z_iconst F dL_law_920 921 rfl zki_1 ?_
  refine z_iadd F dL_law_921 922 rfl ?_
  refine z_sld F hX dL_law_922 923 rfl j1 ej1 hj1 ?_
  refine z_aload_n F dL_law_923 924 rfl 0 rfl ?_
  refine z_iload_n F dL_law_924 925 rfl 3 rfl ?_
  refine z_iconst F dL_law_925 926 rfl zki_2 ?_
  refine z_iadd F dL_law_926 927 rfl ?_
  refine z_sld F hX dL_law_927 928 rfl j2 ej2 hj2 ?_
  refine z_segVi (As := [.int (xs j1), .int (xs j2)]) (st := [.int r1]) F dL_law_928 931 rfl (mX6_finest C.1.2.1 D cyI cyB aO (xs j1) (xs j2) oI oR hw) y_X6_finest rfl gL_law_X6_finest rfl (ci := 6) (rq := 0) rfl rfl (by decide +kernel) hkn (Nat.le_of_ble_eq_true rfl) (wSt aH aM aT aS kp cyI sI_1 sR_1 ++ wTe aT cyB tI tR ++ wHo aH cyI hI hR ++ wMi aH aM cyI mI_1 mR_1) K (by simp only [List.append_assoc, List.nil_append, List.append_nil]) (fun _ => rfl) (fun u => (wSt aH aM aT aS kp cyI sI_1 sR_1 ++ wTe aT cyB tI tR ++ wHo aH cyI hI hR ++ wMi aH aM cyI mI_1 mR_1 ++ wMo aO cyI u.1 u.2 ++ K)) (fun u => (by simp only [List.append_assoc, List.nil_append, List.append_nil])) (fun r2 u hp => ?_)
  obtain ⟨oI_1, oR_1⟩ := u
  replace hw := hp
  clear hp
  obtain ⟨hwt, hwf⟩ := hw
  refine z_icmpeq F dL_law_931 1102 rfl 934 rfl (fun c1 => ?_) (fun c1 => ?_)
  · have hw := hwt c1; clear hwt hwf
    exact hkont sI_1 sR_1 tI tR hI hR mI_1 mR_1 oI_1 oR_1 hw
  · have hw := hwf c1; clear hwt hwf
    refine z_iconst F dL_law_934 935 rfl zki_0 ?_
    exact hw.elim
set_option maxHeartbeats 4000000 in
set_option maxRecDepth 100000 in
theorem xL_24 {C : zC} {D : va_G} {cyI cyB : ClassId} {b L k n : Nat} {xs : Nat → Int32} {aS : Nat → Nat} {aT : Nat → Nat} {aH : Nat → Nat} {aM : Nat → Nat} {aO : Nat → Nat} {kp : Value} {K : va_W} (x3 : Int32) (sI : Nat → Int32) (sR : Nat → Nat → Int32) (tI : Nat → Int32) (tR : Nat → Nat → Int32) (hI : Nat → Int32) (hR : Nat → Nat → Int32) (mI : Nat → Int32) (mR : Nat → Nat → Int32) (oI : Nat → Int32) (oR : Nat → Nat → Int32) (F : zF C D room_1 cL_law 4 wsL_law RL ret cyI cyB) (hX : va_X b L xs C.2.1.1 C.2.1.1.heap ∧ b < C.2.1.1.heap.size ∧ ¬ C.2.2.2.2 b ∧ L ≤ 2048) (hkn : k ≤ room_1.cells ∧ n ≤ room_1.slots) {kont : (Nat → Int32) → (Nat → Nat → Int32) → (Nat → Int32) → (Nat → Nat → Int32) → (Nat → Int32) → (Nat → Nat → Int32) → (Nat → Int32) → (Nat → Nat → Int32) → (Nat → Int32) → (Nat → Nat → Int32) → Prop} (hkont : ∀ (sI : Nat → Int32) (sR : Nat → Nat → Int32) (tI : Nat → Int32) (tR : Nat → Nat → Int32) (hI : Nat → Int32) (hR : Nat → Nat → Int32) (mI : Nat → Int32) (mR : Nat → Nat → Int32) (oI : Nat → Int32) (oR : Nat → Nat → Int32), kont sI sR tI tR hI hR mI mR oI oR → zX C D 4 k n (wSt aH aM aT aS kp cyI sI sR ++ wTe aT cyB tI tR ++ wHo aH cyI hI hR ++ wMi aH aM cyI mI mR ++ wMo aO cyI oI oR ++ K) 1102 [(0, .ref b), (1, .ref (aS 0)), (2, .ref (aO 0)), (3, .int x3)] []) (hw : pL_24 L xs x3 sI sR tI tR hI hR mI mR oI oR kont) : zX C D 4 k n (wSt aH aM aT aS kp cyI sI sR ++ wTe aT cyB tI tR ++ wHo aH cyI hI hR ++ wMi aH aM cyI mI mR ++ wMo aO cyI oI oR ++ K) 936 [(0, .ref b), (1, .ref (aS 0)), (2, .ref (aO 0)), (3, .int x3)] [] := by
  refine z_aload_n F dL_law_936 937 rfl 1 rfl ?_
  refine z_segVl (As := []) (st := []) F dL_law_937 940 rfl (mX5_loses C.1.2.1 D cyI cyB aS aT aH aM kp sI sR tI tR hI hR mI mR hw) y_X5_loses rfl gL_law_X5_loses rfl (ci := 5) (rq := 0) rfl rfl (by decide +kernel) hkn (Nat.le_of_ble_eq_true rfl) [] (wMo aO cyI oI oR ++ K) (by simp only [List.append_assoc, List.nil_append, List.append_nil]) (fun _ => rfl) (fun u => (wSt aH aM aT aS kp cyI sI sR ++ wTe aT cyB tI tR ++ wHo aH cyI hI hR ++ wMi aH aM cyI u.1 u.2 ++ wMo aO cyI oI oR ++ K)) (fun u => (by simp only [List.append_assoc, List.nil_append, List.append_nil])) (fun r1 u hp => ?_)
  obtain ⟨mI_1, mR_1⟩ := u
  replace hw := hp
  clear hp
  refine z_aload_n F dL_law_940 941 rfl 2 rfl ?_
  refine z_segVl (As := []) (st := [.long r1]) F dL_law_941 944 rfl (mX6_loses C.1.2.1 D cyI cyB aO oI oR hw) y_X6_loses rfl gL_law_X6_loses rfl (ci := 6) (rq := 0) rfl rfl (by decide +kernel) hkn (Nat.le_of_ble_eq_true rfl) (wSt aH aM aT aS kp cyI sI sR ++ wTe aT cyB tI tR ++ wHo aH cyI hI hR ++ wMi aH aM cyI mI_1 mR_1) K (by simp only [List.append_assoc, List.nil_append, List.append_nil]) (fun _ => rfl) (fun u => (wSt aH aM aT aS kp cyI sI sR ++ wTe aT cyB tI tR ++ wHo aH cyI hI hR ++ wMi aH aM cyI mI_1 mR_1 ++ wMo aO cyI u.1 u.2 ++ K)) (fun u => (by simp only [List.append_assoc, List.nil_append, List.append_nil])) (fun r2 u hp => ?_)
  obtain ⟨oI_1, oR_1⟩ := u
  replace hw := hp
  clear hp
  refine z_lcmp F dL_law_944 945 rfl ?_
  obtain ⟨hwt, hwf⟩ := hw
  refine z_ifeq F dL_law_945 1102 rfl 948 rfl (fun c1 => ?_) (fun c1 => ?_)
  · have hw := hwt c1; clear hwt hwf
    exact hkont sI sR tI tR hI hR mI_1 mR_1 oI_1 oR_1 hw
  · have hw := hwf c1; clear hwt hwf
    refine z_iconst F dL_law_948 949 rfl zki_0 ?_
    exact hw.elim
set_option maxHeartbeats 4000000 in
set_option maxRecDepth 100000 in
theorem xL_25 {C : zC} {D : va_G} {cyI cyB : ClassId} {b L k n : Nat} {xs : Nat → Int32} {aS : Nat → Nat} {aT : Nat → Nat} {aH : Nat → Nat} {aM : Nat → Nat} {aO : Nat → Nat} {kp : Value} {K : va_W} (x3 : Int32) (sI : Nat → Int32) (sR : Nat → Nat → Int32) (tI : Nat → Int32) (tR : Nat → Nat → Int32) (hI : Nat → Int32) (hR : Nat → Nat → Int32) (mI : Nat → Int32) (mR : Nat → Nat → Int32) (oI : Nat → Int32) (oR : Nat → Nat → Int32) (F : zF C D room_1 cL_law 4 wsL_law RL ret cyI cyB) (hX : va_X b L xs C.2.1.1 C.2.1.1.heap ∧ b < C.2.1.1.heap.size ∧ ¬ C.2.2.2.2 b ∧ L ≤ 2048) (hkn : k ≤ room_1.cells ∧ n ≤ room_1.slots) {kont : (Nat → Int32) → (Nat → Nat → Int32) → (Nat → Int32) → (Nat → Nat → Int32) → (Nat → Int32) → (Nat → Nat → Int32) → (Nat → Int32) → (Nat → Nat → Int32) → (Nat → Int32) → (Nat → Nat → Int32) → Prop} (hkont : ∀ (sI : Nat → Int32) (sR : Nat → Nat → Int32) (tI : Nat → Int32) (tR : Nat → Nat → Int32) (hI : Nat → Int32) (hR : Nat → Nat → Int32) (mI : Nat → Int32) (mR : Nat → Nat → Int32) (oI : Nat → Int32) (oR : Nat → Nat → Int32), kont sI sR tI tR hI hR mI mR oI oR → zX C D 4 k n (wSt aH aM aT aS kp cyI sI sR ++ wTe aT cyB tI tR ++ wHo aH cyI hI hR ++ wMi aH aM cyI mI mR ++ wMo aO cyI oI oR ++ K) 1102 [(0, .ref b), (1, .ref (aS 0)), (2, .ref (aO 0)), (3, .int x3)] []) (hw : pL_25 L xs x3 sI sR tI tR hI hR mI mR oI oR kont) : zX C D 4 k n (wSt aH aM aT aS kp cyI sI sR ++ wTe aT cyB tI tR ++ wHo aH cyI hI hR ++ wMi aH aM cyI mI mR ++ wMo aO cyI oI oR ++ K) 950 [(0, .ref b), (1, .ref (aS 0)), (2, .ref (aO 0)), (3, .int x3)] [] := by
  refine z_aload_n F dL_law_950 951 rfl 1 rfl ?_
  refine z_segVl (As := []) (st := []) F dL_law_951 954 rfl (mX5_carries C.1.2.1 D cyI cyB aS aT aH aM kp sI sR tI tR hI hR mI mR hw) y_X5_carries rfl gL_law_X5_carries rfl (ci := 5) (rq := 0) rfl rfl (by decide +kernel) hkn (Nat.le_of_ble_eq_true rfl) [] (wMo aO cyI oI oR ++ K) (by simp only [List.append_assoc, List.nil_append, List.append_nil]) (fun _ => rfl) (fun u => (wSt aH aM aT aS kp cyI sI sR ++ wTe aT cyB tI tR ++ wHo aH cyI hI hR ++ wMi aH aM cyI u.1 u.2 ++ wMo aO cyI oI oR ++ K)) (fun u => (by simp only [List.append_assoc, List.nil_append, List.append_nil])) (fun r1 u hp => ?_)
  obtain ⟨mI_1, mR_1⟩ := u
  replace hw := hp
  clear hp
  refine z_aload_n F dL_law_954 955 rfl 2 rfl ?_
  refine z_segVl (As := []) (st := [.long r1]) F dL_law_955 958 rfl (mX6_carries C.1.2.1 D cyI cyB aO oI oR hw) y_X6_carries rfl gL_law_X6_carries rfl (ci := 6) (rq := 0) rfl rfl (by decide +kernel) hkn (Nat.le_of_ble_eq_true rfl) (wSt aH aM aT aS kp cyI sI sR ++ wTe aT cyB tI tR ++ wHo aH cyI hI hR ++ wMi aH aM cyI mI_1 mR_1) K (by simp only [List.append_assoc, List.nil_append, List.append_nil]) (fun _ => rfl) (fun u => (wSt aH aM aT aS kp cyI sI sR ++ wTe aT cyB tI tR ++ wHo aH cyI hI hR ++ wMi aH aM cyI mI_1 mR_1 ++ wMo aO cyI u.1 u.2 ++ K)) (fun u => (by simp only [List.append_assoc, List.nil_append, List.append_nil])) (fun r2 u hp => ?_)
  obtain ⟨oI_1, oR_1⟩ := u
  replace hw := hp
  clear hp
  refine z_lcmp F dL_law_958 959 rfl ?_
  obtain ⟨hwt, hwf⟩ := hw
  refine z_ifeq F dL_law_959 1102 rfl 962 rfl (fun c1 => ?_) (fun c1 => ?_)
  · have hw := hwt c1; clear hwt hwf
    exact hkont sI sR tI tR hI hR mI_1 mR_1 oI_1 oR_1 hw
  · have hw := hwf c1; clear hwt hwf
    refine z_iconst F dL_law_962 963 rfl zki_0 ?_
    exact hw.elim
set_option maxHeartbeats 4000000 in
set_option maxRecDepth 100000 in
theorem xL_26 {C : zC} {D : va_G} {cyI cyB : ClassId} {b L k n : Nat} {xs : Nat → Int32} {aS : Nat → Nat} {aT : Nat → Nat} {aH : Nat → Nat} {aM : Nat → Nat} {aO : Nat → Nat} {kp : Value} {K : va_W} (x3 : Int32) (sI : Nat → Int32) (sR : Nat → Nat → Int32) (tI : Nat → Int32) (tR : Nat → Nat → Int32) (hI : Nat → Int32) (hR : Nat → Nat → Int32) (mI : Nat → Int32) (mR : Nat → Nat → Int32) (oI : Nat → Int32) (oR : Nat → Nat → Int32) (F : zF C D room_1 cL_law 4 wsL_law RL ret cyI cyB) (hX : va_X b L xs C.2.1.1 C.2.1.1.heap ∧ b < C.2.1.1.heap.size ∧ ¬ C.2.2.2.2 b ∧ L ≤ 2048) (hkn : k ≤ room_1.cells ∧ n ≤ room_1.slots) {kont : (Nat → Int32) → (Nat → Nat → Int32) → (Nat → Int32) → (Nat → Nat → Int32) → (Nat → Int32) → (Nat → Nat → Int32) → (Nat → Int32) → (Nat → Nat → Int32) → (Nat → Int32) → (Nat → Nat → Int32) → Prop} (hkont : ∀ (sI : Nat → Int32) (sR : Nat → Nat → Int32) (tI : Nat → Int32) (tR : Nat → Nat → Int32) (hI : Nat → Int32) (hR : Nat → Nat → Int32) (mI : Nat → Int32) (mR : Nat → Nat → Int32) (oI : Nat → Int32) (oR : Nat → Nat → Int32), kont sI sR tI tR hI hR mI mR oI oR → zX C D 4 k n (wSt aH aM aT aS kp cyI sI sR ++ wTe aT cyB tI tR ++ wHo aH cyI hI hR ++ wMi aH aM cyI mI mR ++ wMo aO cyI oI oR ++ K) 1102 [(0, .ref b), (1, .ref (aS 0)), (2, .ref (aO 0)), (3, .int x3)] []) (hw : pL_26 L xs x3 sI sR tI tR hI hR mI mR oI oR kont) : zX C D 4 k n (wSt aH aM aT aS kp cyI sI sR ++ wTe aT cyB tI tR ++ wHo aH cyI hI hR ++ wMi aH aM cyI mI mR ++ wMo aO cyI oI oR ++ K) 964 [(0, .ref b), (1, .ref (aS 0)), (2, .ref (aO 0)), (3, .int x3)] [] := by
  refine z_aload_n F dL_law_964 965 rfl 1 rfl ?_
  refine z_aload_n F dL_law_965 966 rfl 0 rfl ?_
  refine z_iload_n F dL_law_966 967 rfl 3 rfl ?_
  refine z_iconst F dL_law_967 968 rfl zki_1 ?_
  refine z_iadd F dL_law_968 969 rfl ?_
  obtain ⟨j1, ej1, hj1, hw⟩ := hw
  refine z_sld F hX dL_law_969 970 rfl j1 ej1 hj1 ?_
  refine z_aload_n F dL_law_970 971 rfl 0 rfl ?_
  refine z_iload_n F dL_law_971 972 rfl 3 rfl ?_
  refine z_iconst F dL_law_972 973 rfl zki_2 ?_
  refine z_iadd F dL_law_973 974 rfl ?_
  obtain ⟨j2, ej2, hj2, hw⟩ := hw
  refine z_sld F hX dL_law_974 975 rfl j2 ej2 hj2 ?_
  refine z_aload_n F dL_law_975 976 rfl 0 rfl ?_
  refine z_iload_n F dL_law_976 977 rfl 3 rfl ?_
  refine z_iconst F dL_law_977 978 rfl zki_3 ?_
  refine z_iadd F dL_law_978 979 rfl ?_
  obtain ⟨j3, ej3, hj3, hw⟩ := hw
  refine z_sld F hX dL_law_979 980 rfl j3 ej3 hj3 ?_
  refine z_segVi (As := [.int (xs j1), .int (xs j2), .int (xs j3)]) (st := []) F dL_law_980 983 rfl (mX5_run C.1.2.1 D cyI cyB aS aT aH aM kp (xs j1) (xs j2) (xs j3) sI sR tI tR hI hR mI mR hw) y_X5_run rfl gL_law_X5_run rfl (ci := 5) (rq := 0) rfl rfl (by decide +kernel) hkn (Nat.le_of_ble_eq_true rfl) [] (wMo aO cyI oI oR ++ K) (by simp only [List.append_assoc, List.nil_append, List.append_nil]) (fun _ => rfl) (fun u => (wSt aH aM aT aS kp cyI u.1 u.2.1 ++ wTe aT cyB tI tR ++ wHo aH cyI hI hR ++ wMi aH aM cyI u.2.2.1 u.2.2.2 ++ wMo aO cyI oI oR ++ K)) (fun u => (by simp only [List.append_assoc, List.nil_append, List.append_nil])) (fun r1 u hp => ?_)
  obtain ⟨sI_1, sR_1, mI_1, mR_1⟩ := u
  replace hw := hp
  clear hp
  refine z_aload_n F dL_law_983 984 rfl 2 rfl ?_
  refine z_aload_n F dL_law_984 985 rfl 0 rfl ?_
  refine z_iload_n F dL_law_985 986 rfl 3 rfl ?_
  refine z_iconst F dL_law_986 987 rfl zki_1 ?_
  refine z_iadd F dL_law_987 988 rfl ?_
  refine z_sld F hX dL_law_988 989 rfl j1 ej1 hj1 ?_
  refine z_aload_n F dL_law_989 990 rfl 0 rfl ?_
  refine z_iload_n F dL_law_990 991 rfl 3 rfl ?_
  refine z_iconst F dL_law_991 992 rfl zki_2 ?_
  refine z_iadd F dL_law_992 993 rfl ?_
  refine z_sld F hX dL_law_993 994 rfl j2 ej2 hj2 ?_
  refine z_aload_n F dL_law_994 995 rfl 0 rfl ?_
  refine z_iload_n F dL_law_995 996 rfl 3 rfl ?_
  refine z_iconst F dL_law_996 997 rfl zki_3 ?_
  refine z_iadd F dL_law_997 998 rfl ?_
  refine z_sld F hX dL_law_998 999 rfl j3 ej3 hj3 ?_
  refine z_segVi (As := [.int (xs j1), .int (xs j2), .int (xs j3)]) (st := [.int r1]) F dL_law_999 1002 rfl (mX6_run C.1.2.1 D cyI cyB aO (xs j1) (xs j2) (xs j3) oI oR hw) y_X6_run rfl gL_law_X6_run rfl (ci := 6) (rq := 0) rfl rfl (by decide +kernel) hkn (Nat.le_of_ble_eq_true rfl) (wSt aH aM aT aS kp cyI sI_1 sR_1 ++ wTe aT cyB tI tR ++ wHo aH cyI hI hR ++ wMi aH aM cyI mI_1 mR_1) K (by simp only [List.append_assoc, List.nil_append, List.append_nil]) (fun _ => rfl) (fun u => (wSt aH aM aT aS kp cyI sI_1 sR_1 ++ wTe aT cyB tI tR ++ wHo aH cyI hI hR ++ wMi aH aM cyI mI_1 mR_1 ++ wMo aO cyI u.1 u.2 ++ K)) (fun u => (by simp only [List.append_assoc, List.nil_append, List.append_nil])) (fun r2 u hp => ?_)
  obtain ⟨oI_1, oR_1⟩ := u
  replace hw := hp
  clear hp
  obtain ⟨hwt, hwf⟩ := hw
  refine z_icmpeq F dL_law_1002 1102 rfl 1005 rfl (fun c1 => ?_) (fun c1 => ?_)
  · have hw := hwt c1; clear hwt hwf
    exact hkont sI_1 sR_1 tI tR hI hR mI_1 mR_1 oI_1 oR_1 hw
  · have hw := hwf c1; clear hwt hwf
    refine z_iconst F dL_law_1005 1006 rfl zki_0 ?_
    exact hw.elim
set_option maxHeartbeats 4000000 in
set_option maxRecDepth 100000 in
theorem xL_27 {C : zC} {D : va_G} {cyI cyB : ClassId} {b L k n : Nat} {xs : Nat → Int32} {aS : Nat → Nat} {aT : Nat → Nat} {aH : Nat → Nat} {aM : Nat → Nat} {aO : Nat → Nat} {kp : Value} {K : va_W} (x3 : Int32) (sI : Nat → Int32) (sR : Nat → Nat → Int32) (tI : Nat → Int32) (tR : Nat → Nat → Int32) (hI : Nat → Int32) (hR : Nat → Nat → Int32) (mI : Nat → Int32) (mR : Nat → Nat → Int32) (oI : Nat → Int32) (oR : Nat → Nat → Int32) (F : zF C D room_1 cL_law 4 wsL_law RL ret cyI cyB) (hX : va_X b L xs C.2.1.1 C.2.1.1.heap ∧ b < C.2.1.1.heap.size ∧ ¬ C.2.2.2.2 b ∧ L ≤ 2048) (hkn : k ≤ room_1.cells ∧ n ≤ room_1.slots) {kont : (Nat → Int32) → (Nat → Nat → Int32) → (Nat → Int32) → (Nat → Nat → Int32) → (Nat → Int32) → (Nat → Nat → Int32) → (Nat → Int32) → (Nat → Nat → Int32) → (Nat → Int32) → (Nat → Nat → Int32) → Prop} (hkont : ∀ (sI : Nat → Int32) (sR : Nat → Nat → Int32) (tI : Nat → Int32) (tR : Nat → Nat → Int32) (hI : Nat → Int32) (hR : Nat → Nat → Int32) (mI : Nat → Int32) (mR : Nat → Nat → Int32) (oI : Nat → Int32) (oR : Nat → Nat → Int32), kont sI sR tI tR hI hR mI mR oI oR → zX C D 4 k n (wSt aH aM aT aS kp cyI sI sR ++ wTe aT cyB tI tR ++ wHo aH cyI hI hR ++ wMi aH aM cyI mI mR ++ wMo aO cyI oI oR ++ K) 1102 [(0, .ref b), (1, .ref (aS 0)), (2, .ref (aO 0)), (3, .int x3)] []) (hw : pL_27 L xs x3 sI sR tI tR hI hR mI mR oI oR kont) : zX C D 4 k n (wSt aH aM aT aS kp cyI sI sR ++ wTe aT cyB tI tR ++ wHo aH cyI hI hR ++ wMi aH aM cyI mI mR ++ wMo aO cyI oI oR ++ K) 1007 [(0, .ref b), (1, .ref (aS 0)), (2, .ref (aO 0)), (3, .int x3)] [] := by
  refine z_aload_n F dL_law_1007 1008 rfl 1 rfl ?_
  refine z_aload_n F dL_law_1008 1009 rfl 0 rfl ?_
  refine z_iload_n F dL_law_1009 1010 rfl 3 rfl ?_
  refine z_iconst F dL_law_1010 1011 rfl zki_1 ?_
  refine z_iadd F dL_law_1011 1012 rfl ?_
  obtain ⟨j1, ej1, hj1, hw⟩ := hw
  refine z_sld F hX dL_law_1012 1013 rfl j1 ej1 hj1 ?_
  refine z_segVi (As := [.int (xs j1)]) (st := []) F dL_law_1013 1016 rfl (mX5_put C.1.2.1 D cyI cyB aS aT aH aM kp (xs j1) sI sR tI tR hI hR mI mR hw) y_X5_put rfl gL_law_X5_put rfl (ci := 5) (rq := 0) rfl rfl (by decide +kernel) hkn (Nat.le_of_ble_eq_true rfl) [] (wMo aO cyI oI oR ++ K) (by simp only [List.append_assoc, List.nil_append, List.append_nil]) (fun _ => rfl) (fun u => (wSt aH aM aT aS kp cyI u.1 u.2 ++ wTe aT cyB tI tR ++ wHo aH cyI hI hR ++ wMi aH aM cyI mI mR ++ wMo aO cyI oI oR ++ K)) (fun u => (by simp only [List.append_assoc, List.nil_append, List.append_nil])) (fun r1 u hp => ?_)
  obtain ⟨sI_1, sR_1⟩ := u
  replace hw := hp
  clear hp
  refine z_aload_n F dL_law_1016 1017 rfl 2 rfl ?_
  refine z_aload_n F dL_law_1017 1018 rfl 0 rfl ?_
  refine z_iload_n F dL_law_1018 1019 rfl 3 rfl ?_
  refine z_iconst F dL_law_1019 1020 rfl zki_1 ?_
  refine z_iadd F dL_law_1020 1021 rfl ?_
  refine z_sld F hX dL_law_1021 1022 rfl j1 ej1 hj1 ?_
  refine z_segVi (As := [.int (xs j1)]) (st := [.int r1]) F dL_law_1022 1025 rfl (mX6_put C.1.2.1 D cyI cyB aO (xs j1) oI oR hw) y_X6_put rfl gL_law_X6_put rfl (ci := 6) (rq := 0) rfl rfl (by decide +kernel) hkn (Nat.le_of_ble_eq_true rfl) (wSt aH aM aT aS kp cyI sI_1 sR_1 ++ wTe aT cyB tI tR ++ wHo aH cyI hI hR ++ wMi aH aM cyI mI mR) K (by simp only [List.append_assoc, List.nil_append, List.append_nil]) (fun _ => rfl) (fun u => (wSt aH aM aT aS kp cyI sI_1 sR_1 ++ wTe aT cyB tI tR ++ wHo aH cyI hI hR ++ wMi aH aM cyI mI mR ++ wMo aO cyI u.1 u.2 ++ K)) (fun u => (by simp only [List.append_assoc, List.nil_append, List.append_nil])) (fun r2 u hp => ?_)
  obtain ⟨oI_1, oR_1⟩ := u
  replace hw := hp
  clear hp
  obtain ⟨hwt, hwf⟩ := hw
  refine z_icmpeq F dL_law_1025 1102 rfl 1028 rfl (fun c1 => ?_) (fun c1 => ?_)
  · have hw := hwt c1; clear hwt hwf
    exact hkont sI_1 sR_1 tI tR hI hR mI mR oI_1 oR_1 hw
  · have hw := hwf c1; clear hwt hwf
    refine z_iconst F dL_law_1028 1029 rfl zki_0 ?_
    exact hw.elim
set_option maxHeartbeats 4000000 in
set_option maxRecDepth 100000 in
theorem xL_28 {C : zC} {D : va_G} {cyI cyB : ClassId} {b L k n : Nat} {xs : Nat → Int32} {aS : Nat → Nat} {aT : Nat → Nat} {aH : Nat → Nat} {aM : Nat → Nat} {aO : Nat → Nat} {kp : Value} {K : va_W} (x3 : Int32) (sI : Nat → Int32) (sR : Nat → Nat → Int32) (tI : Nat → Int32) (tR : Nat → Nat → Int32) (hI : Nat → Int32) (hR : Nat → Nat → Int32) (mI : Nat → Int32) (mR : Nat → Nat → Int32) (oI : Nat → Int32) (oR : Nat → Nat → Int32) (F : zF C D room_1 cL_law 4 wsL_law RL ret cyI cyB) (hX : va_X b L xs C.2.1.1 C.2.1.1.heap ∧ b < C.2.1.1.heap.size ∧ ¬ C.2.2.2.2 b ∧ L ≤ 2048) (hkn : k ≤ room_1.cells ∧ n ≤ room_1.slots) {kont : (Nat → Int32) → (Nat → Nat → Int32) → (Nat → Int32) → (Nat → Nat → Int32) → (Nat → Int32) → (Nat → Nat → Int32) → (Nat → Int32) → (Nat → Nat → Int32) → (Nat → Int32) → (Nat → Nat → Int32) → Prop} (hkont : ∀ (sI : Nat → Int32) (sR : Nat → Nat → Int32) (tI : Nat → Int32) (tR : Nat → Nat → Int32) (hI : Nat → Int32) (hR : Nat → Nat → Int32) (mI : Nat → Int32) (mR : Nat → Nat → Int32) (oI : Nat → Int32) (oR : Nat → Nat → Int32), kont sI sR tI tR hI hR mI mR oI oR → zX C D 4 k n (wSt aH aM aT aS kp cyI sI sR ++ wTe aT cyB tI tR ++ wHo aH cyI hI hR ++ wMi aH aM cyI mI mR ++ wMo aO cyI oI oR ++ K) 1102 [(0, .ref b), (1, .ref (aS 0)), (2, .ref (aO 0)), (3, .int x3)] []) (hw : pL_28 L xs x3 sI sR tI tR hI hR mI mR oI oR kont) : zX C D 4 k n (wSt aH aM aT aS kp cyI sI sR ++ wTe aT cyB tI tR ++ wHo aH cyI hI hR ++ wMi aH aM cyI mI mR ++ wMo aO cyI oI oR ++ K) 1030 [(0, .ref b), (1, .ref (aS 0)), (2, .ref (aO 0)), (3, .int x3)] [] := by
  refine z_aload_n F dL_law_1030 1031 rfl 1 rfl ?_
  refine z_aload_n F dL_law_1031 1032 rfl 0 rfl ?_
  refine z_iload_n F dL_law_1032 1033 rfl 3 rfl ?_
  refine z_iconst F dL_law_1033 1034 rfl zki_1 ?_
  refine z_iadd F dL_law_1034 1035 rfl ?_
  obtain ⟨j1, ej1, hj1, hw⟩ := hw
  refine z_sld F hX dL_law_1035 1036 rfl j1 ej1 hj1 ?_
  refine z_segVi (As := [.int (xs j1)]) (st := []) F dL_law_1036 1039 rfl (mX5_judge C.1.2.1 D cyI cyB aS aT aH aM kp (xs j1) sI sR tI tR hI hR mI mR hw) y_X5_judge rfl gL_law_X5_judge rfl (ci := 5) (rq := 0) rfl rfl (by decide +kernel) hkn (Nat.le_of_ble_eq_true rfl) [] (wMo aO cyI oI oR ++ K) (by simp only [List.append_assoc, List.nil_append, List.append_nil]) (fun _ => rfl) (fun u => (wSt aH aM aT aS kp cyI u.1 u.2.1 ++ wTe aT cyB tI tR ++ wHo aH cyI hI hR ++ wMi aH aM cyI u.2.2.1 u.2.2.2 ++ wMo aO cyI oI oR ++ K)) (fun u => (by simp only [List.append_assoc, List.nil_append, List.append_nil])) (fun r1 u hp => ?_)
  obtain ⟨sI_1, sR_1, mI_1, mR_1⟩ := u
  replace hw := hp
  clear hp
  refine z_aload_n F dL_law_1039 1040 rfl 2 rfl ?_
  refine z_aload_n F dL_law_1040 1041 rfl 0 rfl ?_
  refine z_iload_n F dL_law_1041 1042 rfl 3 rfl ?_
  refine z_iconst F dL_law_1042 1043 rfl zki_1 ?_
  refine z_iadd F dL_law_1043 1044 rfl ?_
  refine z_sld F hX dL_law_1044 1045 rfl j1 ej1 hj1 ?_
  refine z_segVi (As := [.int (xs j1)]) (st := [.int r1]) F dL_law_1045 1048 rfl (mX6_judge C.1.2.1 D cyI cyB aO (xs j1) oI oR hw) y_X6_judge rfl gL_law_X6_judge rfl (ci := 6) (rq := 0) rfl rfl (by decide +kernel) hkn (Nat.le_of_ble_eq_true rfl) (wSt aH aM aT aS kp cyI sI_1 sR_1 ++ wTe aT cyB tI tR ++ wHo aH cyI hI hR ++ wMi aH aM cyI mI_1 mR_1) K (by simp only [List.append_assoc, List.nil_append, List.append_nil]) (fun _ => rfl) (fun u => (wSt aH aM aT aS kp cyI sI_1 sR_1 ++ wTe aT cyB tI tR ++ wHo aH cyI hI hR ++ wMi aH aM cyI mI_1 mR_1 ++ wMo aO cyI u.1 u.2 ++ K)) (fun u => (by simp only [List.append_assoc, List.nil_append, List.append_nil])) (fun r2 u hp => ?_)
  obtain ⟨oI_1, oR_1⟩ := u
  replace hw := hp
  clear hp
  obtain ⟨hwt, hwf⟩ := hw
  refine z_icmpeq F dL_law_1048 1102 rfl 1051 rfl (fun c1 => ?_) (fun c1 => ?_)
  · have hw := hwt c1; clear hwt hwf
    exact hkont sI_1 sR_1 tI tR hI hR mI_1 mR_1 oI_1 oR_1 hw
  · have hw := hwf c1; clear hwt hwf
    refine z_iconst F dL_law_1051 1052 rfl zki_0 ?_
    exact hw.elim
set_option maxHeartbeats 4000000 in
set_option maxRecDepth 100000 in
theorem xL_29S {C : zC} {D : va_G} {cyI cyB : ClassId} {b L k n : Nat} {xs : Nat → Int32} {aS : Nat → Nat} {aT : Nat → Nat} {aH : Nat → Nat} {aM : Nat → Nat} {aK : Nat → Nat} {aO : Nat → Nat} (x3 : Int32) (sI : Nat → Int32) (sR : Nat → Nat → Int32) (tI : Nat → Int32) (tR : Nat → Nat → Int32) (hI : Nat → Int32) (hR : Nat → Nat → Int32) (gI : Nat → Int32) (gR : Nat → Nat → Int32) (mI : Nat → Int32) (mR : Nat → Nat → Int32) (oI : Nat → Int32) (oR : Nat → Nat → Int32) (F : zF C D room_1 cL_law 4 wsL_law RL ret cyI cyB) (hX : va_X b L xs C.2.1.1 C.2.1.1.heap ∧ b < C.2.1.1.heap.size ∧ ¬ C.2.2.2.2 b ∧ L ≤ 2048) (hkn : k ≤ room_1.cells ∧ n ≤ room_1.slots) {kont : (Nat → Int32) → (Nat → Nat → Int32) → (Nat → Int32) → (Nat → Nat → Int32) → (Nat → Int32) → (Nat → Nat → Int32) → (Nat → Int32) → (Nat → Nat → Int32) → (Nat → Int32) → (Nat → Nat → Int32) → (Nat → Int32) → (Nat → Nat → Int32) → Prop} (hkont : ∀ (sI : Nat → Int32) (sR : Nat → Nat → Int32) (tI : Nat → Int32) (tR : Nat → Nat → Int32) (hI : Nat → Int32) (hR : Nat → Nat → Int32) (gI : Nat → Int32) (gR : Nat → Nat → Int32) (mI : Nat → Int32) (mR : Nat → Nat → Int32) (oI : Nat → Int32) (oR : Nat → Nat → Int32), kont sI sR tI tR hI hR gI gR mI mR oI oR → zX C D 4 k n (wSt aH aM aT aS (.ref (aK 0)) cyI sI sR ++ wTe aT cyB tI tR ++ wHo aH cyI hI hR ++ wHo aK cyI gI gR ++ wMi aH aM cyI mI mR ++ wMo aO cyI oI oR) 1102 [(0, .ref b), (1, .ref (aS 0)), (2, .ref (aO 0)), (3, .int x3)] []) (hw : pL_29S L xs x3 sI sR tI tR hI hR gI gR mI mR oI oR kont) : zX C D 4 k n (wSt aH aM aT aS (.ref (aK 0)) cyI sI sR ++ wTe aT cyB tI tR ++ wHo aH cyI hI hR ++ wHo aK cyI gI gR ++ wMi aH aM cyI mI mR ++ wMo aO cyI oI oR) 1053 [(0, .ref b), (1, .ref (aS 0)), (2, .ref (aO 0)), (3, .int x3)] [] := by
  refine z_aload_n F dL_law_1053 1054 rfl 1 rfl ?_
  refine z_segVi (As := []) (st := []) F dL_law_1054 1057 rfl (mX5_image_S C.1.2.1 D cyI cyB aS aT aH aK aM sI sR tI tR hI hR gI gR mI mR hw) y_X5_image_S rfl gL_law_X5_image rfl (ci := 5) (rq := 0) rfl rfl (by decide +kernel) hkn (Nat.le_of_ble_eq_true rfl) [] (wMo aO cyI oI oR) (by simp only [List.append_assoc, List.nil_append, List.append_nil]) (fun _ => rfl) (fun u => (wSt aH aM aT aS (.ref (aK 0)) cyI sI sR ++ wTe aT cyB tI tR ++ wHo aH cyI hI hR ++ wHo aK cyI u.1 u.2 ++ wMi aH aM cyI mI mR ++ wMo aO cyI oI oR)) (fun u => (by simp only [List.append_assoc, List.nil_append, List.append_nil])) (fun r1 u hp => ?_)
  obtain ⟨gI_1, gR_1⟩ := u
  replace hw := hp
  clear hp
  refine z_aload_n F dL_law_1057 1058 rfl 2 rfl ?_
  refine z_segVi (As := []) (st := [.int r1]) F dL_law_1058 1061 rfl (mX6_image C.1.2.1 D cyI cyB aO oI oR hw) y_X6_image rfl gL_law_X6_image rfl (ci := 6) (rq := 0) rfl rfl (by decide +kernel) hkn (Nat.le_of_ble_eq_true rfl) (wSt aH aM aT aS (.ref (aK 0)) cyI sI sR ++ wTe aT cyB tI tR ++ wHo aH cyI hI hR ++ wHo aK cyI gI_1 gR_1 ++ wMi aH aM cyI mI mR) [] (by simp only [List.append_assoc, List.nil_append, List.append_nil]) (fun _ => rfl) (fun u => (wSt aH aM aT aS (.ref (aK 0)) cyI sI sR ++ wTe aT cyB tI tR ++ wHo aH cyI hI hR ++ wHo aK cyI gI_1 gR_1 ++ wMi aH aM cyI mI mR ++ wMo aO cyI u.1 u.2)) (fun u => (by simp only [List.append_assoc, List.nil_append, List.append_nil])) (fun r2 u hp => ?_)
  obtain ⟨oI_1, oR_1⟩ := u
  replace hw := hp
  clear hp
  obtain ⟨hwt, hwf⟩ := hw
  refine z_icmpeq F dL_law_1061 1102 rfl 1064 rfl (fun c1 => ?_) (fun c1 => ?_)
  · have hw := hwt c1; clear hwt hwf
    exact hkont sI sR tI tR hI hR gI_1 gR_1 mI mR oI_1 oR_1 hw
  · have hw := hwf c1; clear hwt hwf
    refine z_iconst F dL_law_1064 1065 rfl zki_0 ?_
    exact hw.elim
set_option maxHeartbeats 4000000 in
set_option maxRecDepth 100000 in
theorem xL_30S {C : zC} {D : va_G} {cyI cyB : ClassId} {b L k n : Nat} {xs : Nat → Int32} {aS : Nat → Nat} {aT : Nat → Nat} {aH : Nat → Nat} {aM : Nat → Nat} {aK : Nat → Nat} {aO : Nat → Nat} (x3 : Int32) (sI : Nat → Int32) (sR : Nat → Nat → Int32) (tI : Nat → Int32) (tR : Nat → Nat → Int32) (hI : Nat → Int32) (hR : Nat → Nat → Int32) (gI : Nat → Int32) (gR : Nat → Nat → Int32) (mI : Nat → Int32) (mR : Nat → Nat → Int32) (oI : Nat → Int32) (oR : Nat → Nat → Int32) (F : zF C D room_1 cL_law 4 wsL_law RL ret cyI cyB) (hX : va_X b L xs C.2.1.1 C.2.1.1.heap ∧ b < C.2.1.1.heap.size ∧ ¬ C.2.2.2.2 b ∧ L ≤ 2048) (hkn : k ≤ room_1.cells ∧ n ≤ room_1.slots) {kont : (Nat → Int32) → (Nat → Nat → Int32) → (Nat → Int32) → (Nat → Nat → Int32) → (Nat → Int32) → (Nat → Nat → Int32) → (Nat → Int32) → (Nat → Nat → Int32) → (Nat → Int32) → (Nat → Nat → Int32) → (Nat → Int32) → (Nat → Nat → Int32) → Prop} (hkont : ∀ (sI : Nat → Int32) (sR : Nat → Nat → Int32) (tI : Nat → Int32) (tR : Nat → Nat → Int32) (hI : Nat → Int32) (hR : Nat → Nat → Int32) (gI : Nat → Int32) (gR : Nat → Nat → Int32) (mI : Nat → Int32) (mR : Nat → Nat → Int32) (oI : Nat → Int32) (oR : Nat → Nat → Int32), kont sI sR tI tR hI hR gI gR mI mR oI oR → zX C D 4 k n (wSt aH aM aT aS (.ref (aK 0)) cyI sI sR ++ wTe aT cyB tI tR ++ wHo aH cyI hI hR ++ wHo aK cyI gI gR ++ wMi aH aM cyI mI mR ++ wMo aO cyI oI oR) 1102 [(0, .ref b), (1, .ref (aS 0)), (2, .ref (aO 0)), (3, .int x3)] []) (hw : pL_30S L xs x3 sI sR tI tR hI hR gI gR mI mR oI oR kont) : zX C D 4 k n (wSt aH aM aT aS (.ref (aK 0)) cyI sI sR ++ wTe aT cyB tI tR ++ wHo aH cyI hI hR ++ wHo aK cyI gI gR ++ wMi aH aM cyI mI mR ++ wMo aO cyI oI oR) 1066 [(0, .ref b), (1, .ref (aS 0)), (2, .ref (aO 0)), (3, .int x3)] [] := by
  refine z_aload_n F dL_law_1066 1067 rfl 1 rfl ?_
  refine z_segVi (As := []) (st := []) F dL_law_1067 1070 rfl (mX5_restore_S C.1.2.1 D cyI cyB aS aT aH aK aM sI sR tI tR hI hR gI gR mI mR hw) y_X5_restore_S rfl gL_law_X5_restore rfl (ci := 5) (rq := 0) rfl rfl (by decide +kernel) hkn (Nat.le_of_ble_eq_true rfl) [] (wMo aO cyI oI oR) (by simp only [List.append_assoc, List.nil_append, List.append_nil]) (fun _ => rfl) (fun u => (wSt aH aM aT aS (.ref (aK 0)) cyI sI sR ++ wTe aT cyB tI tR ++ wHo aH cyI u.1 u.2 ++ wHo aK cyI gI gR ++ wMi aH aM cyI mI mR ++ wMo aO cyI oI oR)) (fun u => (by simp only [List.append_assoc, List.nil_append, List.append_nil])) (fun r1 u hp => ?_)
  obtain ⟨hI_1, hR_1⟩ := u
  replace hw := hp
  clear hp
  refine z_aload_n F dL_law_1070 1071 rfl 2 rfl ?_
  refine z_segVi (As := []) (st := [.int r1]) F dL_law_1071 1074 rfl (mX6_restore C.1.2.1 D cyI cyB aO oI oR hw) y_X6_restore rfl gL_law_X6_restore rfl (ci := 6) (rq := 0) rfl rfl (by decide +kernel) hkn (Nat.le_of_ble_eq_true rfl) (wSt aH aM aT aS (.ref (aK 0)) cyI sI sR ++ wTe aT cyB tI tR ++ wHo aH cyI hI_1 hR_1 ++ wHo aK cyI gI gR ++ wMi aH aM cyI mI mR) [] (by simp only [List.append_assoc, List.nil_append, List.append_nil]) (fun _ => rfl) (fun u => (wSt aH aM aT aS (.ref (aK 0)) cyI sI sR ++ wTe aT cyB tI tR ++ wHo aH cyI hI_1 hR_1 ++ wHo aK cyI gI gR ++ wMi aH aM cyI mI mR ++ wMo aO cyI u.1 u.2)) (fun u => (by simp only [List.append_assoc, List.nil_append, List.append_nil])) (fun r2 u hp => ?_)
  obtain ⟨oI_1, oR_1⟩ := u
  replace hw := hp
  clear hp
  obtain ⟨hwt, hwf⟩ := hw
  refine z_icmpeq F dL_law_1074 1102 rfl 1077 rfl (fun c1 => ?_) (fun c1 => ?_)
  · have hw := hwt c1; clear hwt hwf
    exact hkont sI sR tI tR hI_1 hR_1 gI gR mI mR oI_1 oR_1 hw
  · have hw := hwf c1; clear hwt hwf
    refine z_iconst F dL_law_1077 1078 rfl zki_0 ?_
    exact hw.elim
set_option maxHeartbeats 4000000 in
set_option maxRecDepth 100000 in
theorem xL_30N {C : zC} {D : va_G} {cyI cyB : ClassId} {b L k n : Nat} {xs : Nat → Int32} {aS : Nat → Nat} {aT : Nat → Nat} {aH : Nat → Nat} {aM : Nat → Nat} {aO : Nat → Nat} {K : va_W} (x3 : Int32) (sI : Nat → Int32) (sR : Nat → Nat → Int32) (tI : Nat → Int32) (tR : Nat → Nat → Int32) (hI : Nat → Int32) (hR : Nat → Nat → Int32) (mI : Nat → Int32) (mR : Nat → Nat → Int32) (oI : Nat → Int32) (oR : Nat → Nat → Int32) (F : zF C D room_1 cL_law 4 wsL_law RL ret cyI cyB) (hX : va_X b L xs C.2.1.1 C.2.1.1.heap ∧ b < C.2.1.1.heap.size ∧ ¬ C.2.2.2.2 b ∧ L ≤ 2048) (hkn : k ≤ room_1.cells ∧ n ≤ room_1.slots) {kont : (Nat → Int32) → (Nat → Nat → Int32) → (Nat → Int32) → (Nat → Nat → Int32) → (Nat → Int32) → (Nat → Nat → Int32) → (Nat → Int32) → (Nat → Nat → Int32) → (Nat → Int32) → (Nat → Nat → Int32) → Prop} (hkont : ∀ (sI : Nat → Int32) (sR : Nat → Nat → Int32) (tI : Nat → Int32) (tR : Nat → Nat → Int32) (hI : Nat → Int32) (hR : Nat → Nat → Int32) (mI : Nat → Int32) (mR : Nat → Nat → Int32) (oI : Nat → Int32) (oR : Nat → Nat → Int32), kont sI sR tI tR hI hR mI mR oI oR → zX C D 4 k n (wSt aH aM aT aS .null cyI sI sR ++ wTe aT cyB tI tR ++ wHo aH cyI hI hR ++ wMi aH aM cyI mI mR ++ wMo aO cyI oI oR ++ K) 1102 [(0, .ref b), (1, .ref (aS 0)), (2, .ref (aO 0)), (3, .int x3)] []) (hw : pL_30N L xs x3 sI sR tI tR hI hR mI mR oI oR kont) : zX C D 4 k n (wSt aH aM aT aS .null cyI sI sR ++ wTe aT cyB tI tR ++ wHo aH cyI hI hR ++ wMi aH aM cyI mI mR ++ wMo aO cyI oI oR ++ K) 1066 [(0, .ref b), (1, .ref (aS 0)), (2, .ref (aO 0)), (3, .int x3)] [] := by
  refine z_aload_n F dL_law_1066 1067 rfl 1 rfl ?_
  refine z_segVi (As := []) (st := []) F dL_law_1067 1070 rfl (mX5_restore_N C.1.2.1 D cyI cyB aS aT aH aM sI sR tI tR hI hR mI mR hw) y_X5_restore_N rfl gL_law_X5_restore rfl (ci := 5) (rq := 0) rfl rfl (by decide +kernel) hkn (Nat.le_of_ble_eq_true rfl) [] (wMo aO cyI oI oR ++ K) (by simp only [List.append_assoc, List.nil_append, List.append_nil]) (fun _ => rfl) (fun u => (wSt aH aM aT aS .null cyI u.1 u.2 ++ wTe aT cyB tI tR ++ wHo aH cyI hI hR ++ wMi aH aM cyI mI mR ++ wMo aO cyI oI oR ++ K)) (fun u => (by simp only [List.append_assoc, List.nil_append, List.append_nil])) (fun r1 u hp => ?_)
  obtain ⟨sI_1, sR_1⟩ := u
  replace hw := hp
  clear hp
  refine z_aload_n F dL_law_1070 1071 rfl 2 rfl ?_
  refine z_segVi (As := []) (st := [.int r1]) F dL_law_1071 1074 rfl (mX6_restore C.1.2.1 D cyI cyB aO oI oR hw) y_X6_restore rfl gL_law_X6_restore rfl (ci := 6) (rq := 0) rfl rfl (by decide +kernel) hkn (Nat.le_of_ble_eq_true rfl) (wSt aH aM aT aS .null cyI sI_1 sR_1 ++ wTe aT cyB tI tR ++ wHo aH cyI hI hR ++ wMi aH aM cyI mI mR) K (by simp only [List.append_assoc, List.nil_append, List.append_nil]) (fun _ => rfl) (fun u => (wSt aH aM aT aS .null cyI sI_1 sR_1 ++ wTe aT cyB tI tR ++ wHo aH cyI hI hR ++ wMi aH aM cyI mI mR ++ wMo aO cyI u.1 u.2 ++ K)) (fun u => (by simp only [List.append_assoc, List.nil_append, List.append_nil])) (fun r2 u hp => ?_)
  obtain ⟨oI_1, oR_1⟩ := u
  replace hw := hp
  clear hp
  obtain ⟨hwt, hwf⟩ := hw
  refine z_icmpeq F dL_law_1074 1102 rfl 1077 rfl (fun c1 => ?_) (fun c1 => ?_)
  · have hw := hwt c1; clear hwt hwf
    exact hkont sI_1 sR_1 tI tR hI hR mI mR oI_1 oR_1 hw
  · have hw := hwf c1; clear hwt hwf
    refine z_iconst F dL_law_1077 1078 rfl zki_0 ?_
    exact hw.elim
set_option maxHeartbeats 4000000 in
set_option maxRecDepth 100000 in
theorem xL_31 {C : zC} {D : va_G} {cyI cyB : ClassId} {b L k n : Nat} {xs : Nat → Int32} {aS : Nat → Nat} {aT : Nat → Nat} {aH : Nat → Nat} {aM : Nat → Nat} {aO : Nat → Nat} {kp : Value} {K : va_W} (x3 : Int32) (sI : Nat → Int32) (sR : Nat → Nat → Int32) (tI : Nat → Int32) (tR : Nat → Nat → Int32) (hI : Nat → Int32) (hR : Nat → Nat → Int32) (mI : Nat → Int32) (mR : Nat → Nat → Int32) (oI : Nat → Int32) (oR : Nat → Nat → Int32) (F : zF C D room_1 cL_law 4 wsL_law RL ret cyI cyB) (hX : va_X b L xs C.2.1.1 C.2.1.1.heap ∧ b < C.2.1.1.heap.size ∧ ¬ C.2.2.2.2 b ∧ L ≤ 2048) (hkn : k ≤ room_1.cells ∧ n ≤ room_1.slots) {kont : (Nat → Int32) → (Nat → Nat → Int32) → (Nat → Int32) → (Nat → Nat → Int32) → (Nat → Int32) → (Nat → Nat → Int32) → (Nat → Int32) → (Nat → Nat → Int32) → (Nat → Int32) → (Nat → Nat → Int32) → Prop} (hkont : ∀ (sI : Nat → Int32) (sR : Nat → Nat → Int32) (tI : Nat → Int32) (tR : Nat → Nat → Int32) (hI : Nat → Int32) (hR : Nat → Nat → Int32) (mI : Nat → Int32) (mR : Nat → Nat → Int32) (oI : Nat → Int32) (oR : Nat → Nat → Int32), kont sI sR tI tR hI hR mI mR oI oR → zX C D 4 k n (wSt aH aM aT aS kp cyI sI sR ++ wTe aT cyB tI tR ++ wHo aH cyI hI hR ++ wMi aH aM cyI mI mR ++ wMo aO cyI oI oR ++ K) 1102 [(0, .ref b), (1, .ref (aS 0)), (2, .ref (aO 0)), (3, .int x3)] []) (hw : pL_31 L xs x3 sI sR tI tR hI hR mI mR oI oR kont) : zX C D 4 k n (wSt aH aM aT aS kp cyI sI sR ++ wTe aT cyB tI tR ++ wHo aH cyI hI hR ++ wMi aH aM cyI mI mR ++ wMo aO cyI oI oR ++ K) 1079 [(0, .ref b), (1, .ref (aS 0)), (2, .ref (aO 0)), (3, .int x3)] [] := by
  refine z_aload_n F dL_law_1079 1080 rfl 1 rfl ?_
  refine z_aload_n F dL_law_1080 1081 rfl 0 rfl ?_
  refine z_iload_n F dL_law_1081 1082 rfl 3 rfl ?_
  refine z_iconst F dL_law_1082 1083 rfl zki_1 ?_
  refine z_iadd F dL_law_1083 1084 rfl ?_
  obtain ⟨j1, ej1, hj1, hw⟩ := hw
  refine z_sld F hX dL_law_1084 1085 rfl j1 ej1 hj1 ?_
  refine z_segVi (As := [.int (xs j1)]) (st := []) F dL_law_1085 1088 rfl (mX5_count C.1.2.1 D cyI cyB aS aT aH aM kp (xs j1) sI sR tI tR hI hR mI mR hw) y_X5_count rfl gL_law_X5_count rfl (ci := 5) (rq := 0) rfl rfl (by decide +kernel) hkn (Nat.le_of_ble_eq_true rfl) [] (wMo aO cyI oI oR ++ K) (by simp only [List.append_assoc, List.nil_append, List.append_nil]) (fun _ => rfl) (fun u => (wSt aH aM aT aS kp cyI sI sR ++ wTe aT cyB tI tR ++ wHo aH cyI hI hR ++ wMi aH aM cyI mI mR ++ wMo aO cyI oI oR ++ K)) (fun u => (by simp only [List.append_assoc, List.nil_append, List.append_nil])) (fun r1 u hp => ?_)
  replace hw := hp
  clear hp
  refine z_aload_n F dL_law_1088 1089 rfl 2 rfl ?_
  refine z_aload_n F dL_law_1089 1090 rfl 0 rfl ?_
  refine z_iload_n F dL_law_1090 1091 rfl 3 rfl ?_
  refine z_iconst F dL_law_1091 1092 rfl zki_1 ?_
  refine z_iadd F dL_law_1092 1093 rfl ?_
  refine z_sld F hX dL_law_1093 1094 rfl j1 ej1 hj1 ?_
  refine z_segVi (As := [.int (xs j1)]) (st := [.int r1]) F dL_law_1094 1097 rfl (mX6_count C.1.2.1 D cyI cyB aO (xs j1) oI oR hw) y_X6_count rfl gL_law_X6_count rfl (ci := 6) (rq := 0) rfl rfl (by decide +kernel) hkn (Nat.le_of_ble_eq_true rfl) (wSt aH aM aT aS kp cyI sI sR ++ wTe aT cyB tI tR ++ wHo aH cyI hI hR ++ wMi aH aM cyI mI mR) K (by simp only [List.append_assoc, List.nil_append, List.append_nil]) (fun _ => rfl) (fun u => (wSt aH aM aT aS kp cyI sI sR ++ wTe aT cyB tI tR ++ wHo aH cyI hI hR ++ wMi aH aM cyI mI mR ++ wMo aO cyI oI oR ++ K)) (fun u => (by simp only [List.append_assoc, List.nil_append, List.append_nil])) (fun r2 u hp => ?_)
  replace hw := hp
  clear hp
  obtain ⟨hwt, hwf⟩ := hw
  refine z_icmpeq F dL_law_1097 1102 rfl 1100 rfl (fun c1 => ?_) (fun c1 => ?_)
  · have hw := hwt c1; clear hwt hwf
    exact hkont sI sR tI tR hI hR mI mR oI oR hw
  · have hw := hwf c1; clear hwt hwf
    refine z_iconst F dL_law_1100 1101 rfl zki_0 ?_
    exact hw.elim
