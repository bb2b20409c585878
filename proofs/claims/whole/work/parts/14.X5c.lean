theorem iX5_bank_5 : ∀ w ∈ wsX50, w ∈ wsX5_bank := fun w h => List.mem_cons_of_mem _ (List.mem_append_left _ (List.mem_append_left _ (List.mem_append_left _ (List.mem_append_left _ (List.mem_append_right _ h)))))
theorem kX5_bank_21 : zL wsX5_bank RX5 21 5 1 (.object "StillRoom$Mind") true := zL5 iX5_bank_5 (by decide) (List.mem_of_getElem? (i := 1) rfl) rfl rfl
set_option maxHeartbeats 4000000 in
set_option maxRecDepth 100000 in
theorem xX5_bank_0 {C : zC} {D : va_G} {cyI cyB : ClassId} {aS : Nat → Nat} {aT : Nat → Nat} {aH : Nat → Nat} {aM : Nat → Nat} {kp : Value} (x1 : Int32) (sI : Nat → Int32) (sR : Nat → Nat → Int32) (tI : Nat → Int32) (tR : Nat → Nat → Int32) (hI : Nat → Int32) (hR : Nat → Nat → Int32) (mI : Nat → Int32) (mR : Nat → Nat → Int32) (F : zF C D { frames := 5, cells := 0, slots := 0, locals := 118 } cX5_bank 3 wsX5_bank RX5 (some .int) cyI cyB) {post : Int32 → (Nat → Int32) → (Nat → Nat → Int32) → (Nat → Int32) → (Nat → Nat → Int32) → Prop} (hRt : zRi C D cX5_bank 3 (S := ((Nat → Int32) × (Nat → Nat → Int32) × (Nat → Int32) × (Nat → Nat → Int32))) (fun u => (wSt aH aM aT aS kp cyI u.1 u.2.1 ++ wTe aT cyB tI tR ++ wHo aH cyI hI hR ++ wMi aH aM cyI u.2.2.1 u.2.2.2)) (fun r u => post r u.1 u.2.1 u.2.2.1 u.2.2.2)) (hw : pX5_bank x1 sI sR tI tR hI hR mI mR post) : zX C D 3 0 0 (wSt aH aM aT aS kp cyI sI sR ++ wTe aT cyB tI tR ++ wHo aH cyI hI hR ++ wMi aH aM cyI mI mR) 0 [(0, .ref (aS 0)), (1, .int x1)] [] := by
  refine z_iload_n F dX5_bank_0 1 rfl 1 rfl ?_
  refine z_iconst F dX5_bank_1 2 rfl zki_0 ?_
  refine z_bipush F dX5_bank_2 4 rfl zkb_8 ?_
  refine z_callSi (As := [.int x1, .int 0, .int 8]) (st := []) F dX5_bank_4 7 rfl (mX5_outside C.1.2.1 D cyI cyB x1 0 8 hw) y_X5_outside rfl gX5_bank_X5_outside ⟨Nat.le_of_ble_eq_true rfl, Nat.le_of_ble_eq_true rfl⟩ ⟨Nat.zero_le _, Nat.zero_le _⟩ (Nat.le_of_ble_eq_true rfl) [] (by decide) rfl (fun _ => rfl) (fun u => (wSt aH aM aT aS kp cyI sI sR ++ wTe aT cyB tI tR ++ wHo aH cyI hI hR ++ wMi aH aM cyI mI mR)) (fun _ => rfl) (fun r1 u hp => ?_)
  replace hw := hp
  clear hp
  refine z_istore_n (lv' := [(2, .int r1), (0, .ref (aS 0)), (1, .int x1)]) F dX5_bank_7 8 rfl (by decide) rfl ?_
  refine z_iload_n F dX5_bank_8 9 rfl 0 rfl ?_
  obtain ⟨hwt, hwf⟩ := hw
  refine z_ifeq F dX5_bank_9 18 rfl 12 rfl (fun c1 => ?_) (fun c1 => ?_)
  · have hw := hwt c1; clear hwt hwf
    refine z_aload_n F dX5_bank_18 19 rfl 1 rfl ?_
    refine z_get F dX5_bank_19 22 rfl kX5_bank_21 0 rfl rfl ?_
    refine z_segVv (As := []) (st := []) F dX5_bank_22 25 rfl (mX2_begin C.1.2.1 D cyI cyB aH aM hI hR mI mR hw) y_X2_begin rfl gX5_bank_X2_begin rfl (ci := 2) (rq := 12) rfl rfl ⟨Nat.le_of_ble_eq_true rfl, Nat.le_of_ble_eq_true rfl⟩ ⟨Nat.zero_le _, Nat.zero_le _⟩ (Nat.le_of_ble_eq_true rfl) (wSt aH aM aT aS kp cyI sI sR ++ wTe aT cyB tI tR) [] (by simp only [List.append_assoc, List.nil_append, List.append_nil]) (fun _ => rfl) (fun u => (wSt aH aM aT aS kp cyI sI sR ++ wTe aT cyB tI tR ++ wHo aH cyI hI hR ++ wMi aH aM cyI u.1 u.2)) (fun u => (by simp only [List.append_assoc, List.nil_append, List.append_nil])) (fun u hp => ?_)
    obtain ⟨mI_1, mR_1⟩ := u
    replace hw := hp
    clear hp
    refine z_aload_n F dX5_bank_25 26 rfl 1 rfl ?_
    refine z_get F dX5_bank_26 29 rfl kX5_bank_21 0 rfl rfl ?_
    refine z_iload_n F dX5_bank_29 30 rfl 2 rfl ?_
    refine z_segVv (As := [.int x1]) (st := []) F dX5_bank_30 33 rfl (mX2_chooseLeavers C.1.2.1 D cyI cyB aH aM x1 hI hR mI_1 mR_1 hw) y_X2_chooseLeavers rfl gX5_bank_X2_chooseLeavers rfl (ci := 2) (rq := 12) rfl rfl ⟨Nat.le_of_ble_eq_true rfl, Nat.le_of_ble_eq_true rfl⟩ ⟨Nat.zero_le _, Nat.zero_le _⟩ (Nat.le_of_ble_eq_true rfl) (wSt aH aM aT aS kp cyI sI sR ++ wTe aT cyB tI tR) [] (by simp only [List.append_assoc, List.nil_append, List.append_nil]) (fun _ => rfl) (fun u => (wSt aH aM aT aS kp cyI sI sR ++ wTe aT cyB tI tR ++ wHo aH cyI hI hR ++ wMi aH aM cyI u.1 u.2)) (fun u => (by simp only [List.append_assoc, List.nil_append, List.append_nil])) (fun u hp => ?_)
    obtain ⟨mI_2, mR_2⟩ := u
    replace hw := hp
    clear hp
    refine z_aload_n F dX5_bank_33 34 rfl 1 rfl ?_
    refine z_segVi (As := []) (st := []) F dX5_bank_34 37 rfl (mX5_fewestOnPaper C.1.2.1 D cyI cyB aS aT aH aM kp sI sR tI tR hI hR mI_2 mR_2 hw) y_X5_fewestOnPaper rfl gX5_bank_X5_fewestOnPaper rfl (ci := 5) (rq := 0) rfl rfl ⟨Nat.le_of_ble_eq_true rfl, Nat.le_of_ble_eq_true rfl⟩ ⟨Nat.zero_le _, Nat.zero_le _⟩ (Nat.le_of_ble_eq_true rfl) [] [] (by simp only [List.append_assoc, List.nil_append, List.append_nil]) (fun _ => rfl) (fun u => (wSt aH aM aT aS kp cyI sI sR ++ wTe aT cyB tI tR ++ wHo aH cyI hI hR ++ wMi aH aM cyI u.1 u.2)) (fun u => (by simp only [List.append_assoc, List.nil_append, List.append_nil])) (fun r2 u hp => ?_)
    obtain ⟨mI_3, mR_3⟩ := u
    replace hw := hp
    clear hp
    exact hRt 37 _ r2 (sI, sR, mI_3, mR_3) dX5_bank_37 hw
  · have hw := hwf c1; clear hwt hwf
    refine z_aload_n F dX5_bank_12 13 rfl 1 rfl ?_
    refine z_iload_n F dX5_bank_13 14 rfl 0 rfl ?_
    refine z_segVi (As := [.int r1]) (st := []) F dX5_bank_14 17 rfl (mX5_refuse C.1.2.1 D cyI cyB aS aH aM aT kp r1 sI sR hw) y_X5_refuse rfl gX5_bank_X5_refuse rfl (ci := 5) (rq := 0) rfl rfl ⟨Nat.le_of_ble_eq_true rfl, Nat.le_of_ble_eq_true rfl⟩ ⟨Nat.zero_le _, Nat.zero_le _⟩ (Nat.le_of_ble_eq_true rfl) [] (wTe aT cyB tI tR ++ wHo aH cyI hI hR ++ wMi aH aM cyI mI mR) (by simp only [List.append_assoc, List.nil_append, List.append_nil]) (fun _ => rfl) (fun u => (wSt aH aM aT aS kp cyI u.1 u.2 ++ wTe aT cyB tI tR ++ wHo aH cyI hI hR ++ wMi aH aM cyI mI mR)) (fun u => (by simp only [List.append_assoc, List.nil_append, List.append_nil])) (fun r3 u hp => ?_)
    obtain ⟨sI_1, sR_1⟩ := u
    replace hw := hp
    clear hp
    exact hRt 17 _ r3 (sI_1, sR_1, mI, mR) dX5_bank_17 hw
set_option maxHeartbeats 4000000 in
set_option maxRecDepth 100000 in
theorem mX5_bank (l : Launch) (D : va_G) (cyI cyB : ClassId) (aS : Nat → Nat) (aT : Nat → Nat) (aH : Nat → Nat) (aM : Nat → Nat) (kp : Value) (x1 : Int32) (sI : Nat → Int32) (sR : Nat → Nat → Int32) (tI : Nat → Int32) (tR : Nat → Nat → Int32) (hI : Nat → Int32) (hR : Nat → Nat → Int32) (mI : Nat → Int32) (mR : Nat → Nat → Int32) {post : Int32 → (Nat → Int32) → (Nat → Nat → Int32) → (Nat → Int32) → (Nat → Nat → Int32) → Prop} (hw : pX5_bank x1 sI sR tI tR hI hR mI mR post) : zMi l yX5_bank wsX5_bank 5 118 D cyI cyB [.ref (aS 0), .int x1] (wSt aH aM aT aS kp cyI sI sR ++ wTe aT cyB tI tR ++ wHo aH cyI hI hR ++ wMi aH aM cyI mI mR) (S := ((Nat → Int32) × (Nat → Nat → Int32) × (Nat → Int32) × (Nat → Nat → Int32))) (fun u => (wSt aH aM aT aS kp cyI u.1 u.2.1 ++ wTe aT cyB tI tR ++ wHo aH cyI hI hR ++ wMi aH aM cyI u.2.2.1 u.2.2.2)) (fun r u => post r u.1 u.2.1 u.2.2.1 u.2.2.2) :=
  z_meti (cc := cX5_bank) (nL := 3) (by decide +kernel) rfl (Nat.le_of_ble_eq_true rfl) (fun C hl F hRt => xX5_bank_0 x1 sI sR tI tR hI hR mI mR F hRt hw)
theorem y_X5_bank : zY yX5_bank wsX5_bank cX5_bank 3 (some .int) 1 := ⟨⟨_, rfl⟩, by decide +kernel⟩
theorem iX5_giving_5 : ∀ w ∈ wsX50, w ∈ wsX5_giving := fun w h => List.mem_cons_of_mem _ (List.mem_append_left _ (List.mem_append_left _ (List.mem_append_left _ (List.mem_append_left _ (List.mem_append_right _ h)))))
theorem kX5_giving_12 : zL wsX5_giving RX5 12 5 0 (.object "StillRoom$House") true := zL5 iX5_giving_5 (by decide) (List.mem_of_getElem? (i := 1) rfl) rfl rfl
theorem kX5_giving_21 : zL wsX5_giving RX5 21 5 1 (.object "StillRoom$Mind") true := zL5 iX5_giving_5 (by decide) (List.mem_of_getElem? (i := 2) rfl) rfl rfl
set_option maxHeartbeats 4000000 in
set_option maxRecDepth 100000 in
theorem xX5_giving_0 {C : zC} {D : va_G} {cyI cyB : ClassId} {aS : Nat → Nat} {aT : Nat → Nat} {aH : Nat → Nat} {aM : Nat → Nat} {kp : Value} (x1 : Int32) (x2 : Int32) (x3 : Int32) (sI : Nat → Int32) (sR : Nat → Nat → Int32) (tI : Nat → Int32) (tR : Nat → Nat → Int32) (hI : Nat → Int32) (hR : Nat → Nat → Int32) (mI : Nat → Int32) (mR : Nat → Nat → Int32) (F : zF C D { frames := 4, cells := 0, slots := 0, locals := 96 } cX5_giving 7 wsX5_giving RX5 (some .int) cyI cyB) {post : Int32 → (Nat → Int32) → (Nat → Nat → Int32) → (Nat → Int32) → (Nat → Nat → Int32) → Prop} (hRt : zRi C D cX5_giving 7 (S := ((Nat → Int32) × (Nat → Nat → Int32) × (Nat → Int32) × (Nat → Nat → Int32))) (fun u => (wSt aH aM aT aS kp cyI u.1 u.2.1 ++ wTe aT cyB tI tR ++ wHo aH cyI hI hR ++ wMi aH aM cyI u.2.2.1 u.2.2.2)) (fun r u => post r u.1 u.2.1 u.2.2.1 u.2.2.2)) (hw : pX5_giving x1 x2 x3 sI sR tI tR hI hR mI mR post) : zX C D 7 0 0 (wSt aH aM aT aS kp cyI sI sR ++ wTe aT cyB tI tR ++ wHo aH cyI hI hR ++ wMi aH aM cyI mI mR) 0 [(0, .ref (aS 0)), (1, .int x1), (2, .int x2), (3, .int x3)] [] := by
  refine z_iload_n F dX5_giving_0 1 rfl 1 rfl ?_
  obtain ⟨hwt, hwf⟩ := hw
  refine z_iflt F dX5_giving_1 9 rfl 4 rfl (fun c1 => ?_) (fun c1 => ?_)
  · have hw := hwt c1; clear hwt hwf
    refine z_aload_n F dX5_giving_9 10 rfl 0 rfl ?_
    refine z_iconst F dX5_giving_10 11 rfl zki_m1 ?_
    refine z_segVi (As := [.int (-1)]) (st := []) F dX5_giving_11 14 rfl (mX5_refuse C.1.2.1 D cyI cyB aS aH aM aT kp (-1) sI sR hw) y_X5_refuse rfl gX5_giving_X5_refuse rfl (ci := 5) (rq := 0) rfl rfl ⟨Nat.le_of_ble_eq_true rfl, Nat.le_of_ble_eq_true rfl⟩ ⟨Nat.zero_le _, Nat.zero_le _⟩ (Nat.le_of_ble_eq_true rfl) [] (wTe aT cyB tI tR ++ wHo aH cyI hI hR ++ wMi aH aM cyI mI mR) (by simp only [List.append_assoc, List.nil_append, List.append_nil]) (fun _ => rfl) (fun u => (wSt aH aM aT aS kp cyI u.1 u.2 ++ wTe aT cyB tI tR ++ wHo aH cyI hI hR ++ wMi aH aM cyI mI mR)) (fun u => (by simp only [List.append_assoc, List.nil_append, List.append_nil])) (fun r1 u hp => ?_)
    obtain ⟨sI_1, sR_1⟩ := u
    replace hw := hp
    clear hp
    exact hRt 14 _ r1 (sI_1, sR_1, mI, mR) dX5_giving_14 hw
  · have hw := hwf c1; clear hwt hwf
    refine z_iload_n F dX5_giving_4 5 rfl 1 rfl ?_
    refine z_iconst F dX5_giving_5 6 rfl zki_5 ?_
    obtain ⟨hwt, hwf⟩ := hw
    refine z_icmplt F dX5_giving_6 15 rfl 9 rfl (fun c2 => ?_) (fun c2 => ?_)
    · have hw := hwt c2; clear hwt hwf
      refine z_iload_n F dX5_giving_15 16 rfl 2 rfl ?_
      obtain ⟨hwt, hwf⟩ := hw
      refine z_iflt F dX5_giving_16 24 rfl 19 rfl (fun c3 => ?_) (fun c3 => ?_)
      · have hw := hwt c3; clear hwt hwf
        refine z_aload_n F dX5_giving_24 25 rfl 0 rfl ?_
        refine z_bipush F dX5_giving_25 27 rfl zkb_m2 ?_
        refine z_segVi (As := [.int (-2)]) (st := []) F dX5_giving_27 30 rfl (mX5_refuse C.1.2.1 D cyI cyB aS aH aM aT kp (-2) sI sR hw) y_X5_refuse rfl gX5_giving_X5_refuse rfl (ci := 5) (rq := 0) rfl rfl ⟨Nat.le_of_ble_eq_true rfl, Nat.le_of_ble_eq_true rfl⟩ ⟨Nat.zero_le _, Nat.zero_le _⟩ (Nat.le_of_ble_eq_true rfl) [] (wTe aT cyB tI tR ++ wHo aH cyI hI hR ++ wMi aH aM cyI mI mR) (by simp only [List.append_assoc, List.nil_append, List.append_nil]) (fun _ => rfl) (fun u => (wSt aH aM aT aS kp cyI u.1 u.2 ++ wTe aT cyB tI tR ++ wHo aH cyI hI hR ++ wMi aH aM cyI mI mR)) (fun u => (by simp only [List.append_assoc, List.nil_append, List.append_nil])) (fun r2 u hp => ?_)
        obtain ⟨sI_2, sR_2⟩ := u
        replace hw := hp
        clear hp
        exact hRt 30 _ r2 (sI_2, sR_2, mI, mR) dX5_giving_30 hw
      · have hw := hwf c3; clear hwt hwf
        refine z_iload_n F dX5_giving_19 20 rfl 2 rfl ?_
        refine z_iconst F dX5_giving_20 21 rfl zki_2 ?_
        obtain ⟨hwt, hwf⟩ := hw
        refine z_icmple F dX5_giving_21 31 rfl 24 rfl (fun c4 => ?_) (fun c4 => ?_)
        · have hw := hwt c4; clear hwt hwf
          refine z_iload_n F dX5_giving_31 32 rfl 3 rfl ?_
          refine z_iconst F dX5_giving_32 33 rfl zki_0 ?_
          refine z_bipush F dX5_giving_33 35 rfl zkb_8 ?_
          refine z_callSi (As := [.int x3, .int 0, .int 8]) (st := []) F dX5_giving_35 38 rfl (mX5_outside C.1.2.1 D cyI cyB x3 0 8 hw) y_X5_outside rfl gX5_giving_X5_outside ⟨Nat.le_of_ble_eq_true rfl, Nat.le_of_ble_eq_true rfl⟩ ⟨Nat.zero_le _, Nat.zero_le _⟩ (Nat.le_of_ble_eq_true rfl) [] (by decide) rfl (fun _ => rfl) (fun u => (wSt aH aM aT aS kp cyI sI sR ++ wTe aT cyB tI tR ++ wHo aH cyI hI hR ++ wMi aH aM cyI mI mR)) (fun _ => rfl) (fun r3 u hp => ?_)
          replace hw := hp
          clear hp
          refine z_istore (lv' := [(4, .int r3), (0, .ref (aS 0)), (1, .int x1), (2, .int x2), (3, .int x3)]) F dX5_giving_38 40 rfl (by decide) rfl ?_
          refine z_iload F dX5_giving_40 42 rfl 0 rfl ?_
          obtain ⟨hwt, hwf⟩ := hw
          refine z_ifeq F dX5_giving_42 52 rfl 45 rfl (fun c5 => ?_) (fun c5 => ?_)
          · have hw := hwt c5; clear hwt hwf
            refine z_aload_n F dX5_giving_52 53 rfl 1 rfl ?_
            refine z_get F dX5_giving_53 56 rfl kX5_giving_12 0 rfl rfl ?_
            refine z_segVi (As := []) (st := []) F dX5_giving_56 59 rfl (mX1_inHouse C.1.2.1 D cyI cyB aH hI hR hw) y_X1_inHouse rfl gX5_giving_X1_inHouse rfl (ci := 1) (rq := 0) rfl rfl ⟨Nat.le_of_ble_eq_true rfl, Nat.le_of_ble_eq_true rfl⟩ ⟨Nat.zero_le _, Nat.zero_le _⟩ (Nat.le_of_ble_eq_true rfl) (wSt aH aM aT aS kp cyI sI sR ++ wTe aT cyB tI tR) (wMi aH aM cyI mI mR) (by simp only [List.append_assoc, List.nil_append, List.append_nil]) (fun _ => rfl) (fun u => (wSt aH aM aT aS kp cyI sI sR ++ wTe aT cyB tI tR ++ wHo aH cyI hI hR ++ wMi aH aM cyI mI mR)) (fun u => (by simp only [List.append_assoc, List.nil_append, List.append_nil])) (fun r4 u hp => ?_)
            replace hw := hp
            clear hp
            obtain ⟨hwt, hwf⟩ := hw
            refine z_ifne F dX5_giving_59 69 rfl 62 rfl (fun c6 => ?_) (fun c6 => ?_)
            · have hw := hwt c6; clear hwt hwf
              refine z_aload_n F dX5_giving_69 70 rfl 1 rfl ?_
              refine z_get F dX5_giving_70 73 rfl kX5_giving_21 0 rfl rfl ?_
              refine z_segVv (As := []) (st := []) F dX5_giving_73 76 rfl (mX2_begin C.1.2.1 D cyI cyB aH aM hI hR mI mR hw) y_X2_begin rfl gX5_giving_X2_begin rfl (ci := 2) (rq := 12) rfl rfl ⟨Nat.le_of_ble_eq_true rfl, Nat.le_of_ble_eq_true rfl⟩ ⟨Nat.zero_le _, Nat.zero_le _⟩ (Nat.le_of_ble_eq_true rfl) (wSt aH aM aT aS kp cyI sI sR ++ wTe aT cyB tI tR) [] (by simp only [List.append_assoc, List.nil_append, List.append_nil]) (fun _ => rfl) (fun u => (wSt aH aM aT aS kp cyI sI sR ++ wTe aT cyB tI tR ++ wHo aH cyI hI hR ++ wMi aH aM cyI u.1 u.2)) (fun u => (by simp only [List.append_assoc, List.nil_append, List.append_nil])) (fun u hp => ?_)
              obtain ⟨mI_1, mR_1⟩ := u
              replace hw := hp
              clear hp
              refine z_aload_n F dX5_giving_76 77 rfl 1 rfl ?_
              refine z_get F dX5_giving_77 80 rfl kX5_giving_21 0 rfl rfl ?_
              refine z_iload_n F dX5_giving_80 81 rfl 2 rfl ?_
              refine z_segVi (As := [.int x1]) (st := []) F dX5_giving_81 84 rfl (mX2_giveOut C.1.2.1 D cyI cyB aH aM x1 hI hR mI_1 mR_1 hw) y_X2_giveOut rfl gX5_giving_X2_giveOut rfl (ci := 2) (rq := 12) rfl rfl ⟨Nat.le_of_ble_eq_true rfl, Nat.le_of_ble_eq_true rfl⟩ ⟨Nat.zero_le _, Nat.zero_le _⟩ (Nat.le_of_ble_eq_true rfl) (wSt aH aM aT aS kp cyI sI sR ++ wTe aT cyB tI tR) [] (by simp only [List.append_assoc, List.nil_append, List.append_nil]) (fun _ => rfl) (fun u => (wSt aH aM aT aS kp cyI sI sR ++ wTe aT cyB tI tR ++ wHo aH cyI hI hR ++ wMi aH aM cyI u.1 u.2)) (fun u => (by simp only [List.append_assoc, List.nil_append, List.append_nil])) (fun r5 u hp => ?_)
              obtain ⟨mI_2, mR_2⟩ := u
              replace hw := hp
              clear hp
              refine z_istore (lv' := [(5, .int r5), (4, .int r3), (0, .ref (aS 0)), (1, .int x1), (2, .int x2), (3, .int x3)]) F dX5_giving_84 86 rfl (by decide) rfl ?_
              refine z_iload_n F dX5_giving_86 87 rfl 4 rfl ?_
              obtain ⟨hwt, hwf⟩ := hw
              refine z_ifne F dX5_giving_87 93 rfl 90 rfl (fun c7 => ?_) (fun c7 => ?_)
              · have hw := hwt c7; clear hwt hwf
                refine z_aload_n F dX5_giving_93 94 rfl 2 rfl ?_
                refine z_get F dX5_giving_94 97 rfl kX5_giving_21 0 rfl rfl ?_
                refine z_iload_n F dX5_giving_97 98 rfl 5 rfl ?_
                refine z_segVv (As := [.int x3]) (st := []) F dX5_giving_98 101 rfl (mX2_chooseLeavers C.1.2.1 D cyI cyB aH aM x3 hI hR mI_2 mR_2 hw) y_X2_chooseLeavers rfl gX5_giving_X2_chooseLeavers rfl (ci := 2) (rq := 12) rfl rfl ⟨Nat.le_of_ble_eq_true rfl, Nat.le_of_ble_eq_true rfl⟩ ⟨Nat.zero_le _, Nat.zero_le _⟩ (Nat.le_of_ble_eq_true rfl) (wSt aH aM aT aS kp cyI sI sR ++ wTe aT cyB tI tR) [] (by simp only [List.append_assoc, List.nil_append, List.append_nil]) (fun _ => rfl) (fun u => (wSt aH aM aT aS kp cyI sI sR ++ wTe aT cyB tI tR ++ wHo aH cyI hI hR ++ wMi aH aM cyI u.1 u.2)) (fun u => (by simp only [List.append_assoc, List.nil_append, List.append_nil])) (fun u hp => ?_)
                obtain ⟨mI_3, mR_3⟩ := u
                replace hw := hp
                clear hp
                refine z_aload_n F dX5_giving_101 102 rfl 2 rfl ?_
                refine z_get F dX5_giving_102 105 rfl kX5_giving_21 0 rfl rfl ?_
                refine z_iload_n F dX5_giving_105 106 rfl 5 rfl ?_
                refine z_segVv (As := [.int x3]) (st := []) F dX5_giving_106 109 rfl (mX2_chooseTakers C.1.2.1 D cyI cyB aH aM x3 hI hR mI_3 mR_3 hw) y_X2_chooseTakers rfl gX5_giving_X2_chooseTakers rfl (ci := 2) (rq := 12) rfl rfl ⟨Nat.le_of_ble_eq_true rfl, Nat.le_of_ble_eq_true rfl⟩ ⟨Nat.zero_le _, Nat.zero_le _⟩ (Nat.le_of_ble_eq_true rfl) (wSt aH aM aT aS kp cyI sI sR ++ wTe aT cyB tI tR) [] (by simp only [List.append_assoc, List.nil_append, List.append_nil]) (fun _ => rfl) (fun u => (wSt aH aM aT aS kp cyI sI sR ++ wTe aT cyB tI tR ++ wHo aH cyI hI hR ++ wMi aH aM cyI u.1 u.2)) (fun u => (by simp only [List.append_assoc, List.nil_append, List.append_nil])) (fun u hp => ?_)
                obtain ⟨mI_4, mR_4⟩ := u
                replace hw := hp
                clear hp
                refine z_iload_n F dX5_giving_109 110 rfl 4 rfl ?_
                refine z_iconst F dX5_giving_110 111 rfl zki_1 ?_
                obtain ⟨hwt, hwf⟩ := hw
                refine z_icmpne F dX5_giving_111 124 rfl 114 rfl (fun c8 => ?_) (fun c8 => ?_)
                · have hw := hwt c8; clear hwt hwf
                  refine z_aload_n F dX5_giving_124 125 rfl 2 rfl ?_
                  refine z_get F dX5_giving_125 128 rfl kX5_giving_21 0 rfl rfl ?_
                  refine z_segVi (As := []) (st := []) F dX5_giving_128 131 rfl (mX2_isSafe C.1.2.1 D cyI cyB aH aM hI hR mI_4 mR_4 hw) y_X2_isSafe rfl gX5_giving_X2_isSafe rfl (ci := 2) (rq := 12) rfl rfl ⟨Nat.le_of_ble_eq_true rfl, Nat.le_of_ble_eq_true rfl⟩ ⟨Nat.zero_le _, Nat.zero_le _⟩ (Nat.le_of_ble_eq_true rfl) (wSt aH aM aT aS kp cyI sI sR ++ wTe aT cyB tI tR) [] (by simp only [List.append_assoc, List.nil_append, List.append_nil]) (fun _ => rfl) (fun u => (wSt aH aM aT aS kp cyI sI sR ++ wTe aT cyB tI tR ++ wHo aH cyI hI hR ++ wMi aH aM cyI u.1 u.2)) (fun u => (by simp only [List.append_assoc, List.nil_append, List.append_nil])) (fun r0 u hp => ?_)
                  obtain ⟨mI_5, mR_5⟩ := u
                  obtain ⟨b1, rfl, hw⟩ := hp
                  refine z_istore (lv' := [(6, .int (zb b1)), (5, .int r5), (4, .int r3), (0, .ref (aS 0)), (1, .int x1), (2, .int x2), (3, .int x3)]) F dX5_giving_131 133 rfl (by decide) rfl ?_
                  refine z_iload F dX5_giving_133 135 rfl 0 rfl ?_
                  obtain ⟨hwt, hwf⟩ := hw
                  refine z_ifeqB F dX5_giving_135 142 rfl 138 rfl (fun c9 => ?_) (fun c9 => ?_)
                  · have hw := hwt c9; clear hwt hwf
                    refine z_iconst F dX5_giving_142 143 rfl zki_0 ?_
                    exact hRt 143 _ 0 (sI, sR, mI_5, mR_5) dX5_giving_143 hw
                  · have hw := hwf c9; clear hwt hwf
                    refine z_iconst F dX5_giving_138 139 rfl zki_1 ?_
                    refine z_goto F dX5_giving_139 143 rfl ?_
                    exact hRt 143 _ 1 (sI, sR, mI_5, mR_5) dX5_giving_143 hw
                · have hw := hwf c8; clear hwt hwf
                  refine z_aload_n F dX5_giving_114 115 rfl 2 rfl ?_
                  refine z_get F dX5_giving_115 118 rfl kX5_giving_21 0 rfl rfl ?_
                  refine z_segVi (As := []) (st := []) F dX5_giving_118 121 rfl (mX2_isKept C.1.2.1 D cyI cyB aH aM hI hR mI_4 mR_4 hw) y_X2_isKept rfl gX5_giving_X2_isKept rfl (ci := 2) (rq := 12) rfl rfl ⟨Nat.le_of_ble_eq_true rfl, Nat.le_of_ble_eq_true rfl⟩ ⟨Nat.zero_le _, Nat.zero_le _⟩ (Nat.le_of_ble_eq_true rfl) (wSt aH aM aT aS kp cyI sI sR ++ wTe aT cyB tI tR) [] (by simp only [List.append_assoc, List.nil_append, List.append_nil]) (fun _ => rfl) (fun u => (wSt aH aM aT aS kp cyI sI sR ++ wTe aT cyB tI tR ++ wHo aH cyI hI hR ++ wMi aH aM cyI u.1 u.2)) (fun u => (by simp only [List.append_assoc, List.nil_append, List.append_nil])) (fun r0 u hp => ?_)
                  obtain ⟨mI_6, mR_6⟩ := u
                  obtain ⟨b2, rfl, hw⟩ := hp
                  refine z_goto F dX5_giving_121 131 rfl ?_
                  refine z_istore (lv' := [(6, .int (zb b2)), (5, .int r5), (4, .int r3), (0, .ref (aS 0)), (1, .int x1), (2, .int x2), (3, .int x3)]) F dX5_giving_131 133 rfl (by decide) rfl ?_
                  refine z_iload F dX5_giving_133 135 rfl 0 rfl ?_
                  obtain ⟨hwt, hwf⟩ := hw
                  refine z_ifeqB F dX5_giving_135 142 rfl 138 rfl (fun c10 => ?_) (fun c10 => ?_)
                  · have hw := hwt c10; clear hwt hwf
                    refine z_iconst F dX5_giving_142 143 rfl zki_0 ?_
                    exact hRt 143 _ 0 (sI, sR, mI_6, mR_6) dX5_giving_143 hw
                  · have hw := hwf c10; clear hwt hwf
                    refine z_iconst F dX5_giving_138 139 rfl zki_1 ?_
                    refine z_goto F dX5_giving_139 143 rfl ?_
                    exact hRt 143 _ 1 (sI, sR, mI_6, mR_6) dX5_giving_143 hw
              · have hw := hwf c7; clear hwt hwf
                refine z_iload F dX5_giving_90 92 rfl 0 rfl ?_
                exact hRt 92 _ r5 (sI, sR, mI_2, mR_2) dX5_giving_92 hw
            · have hw := hwf c6; clear hwt hwf
              refine z_aload_n F dX5_giving_62 63 rfl 1 rfl ?_
              refine z_bipush F dX5_giving_63 65 rfl zkb_m3 ?_
              refine z_segVi (As := [.int (-3)]) (st := []) F dX5_giving_65 68 rfl (mX5_refuse C.1.2.1 D cyI cyB aS aH aM aT kp (-3) sI sR hw) y_X5_refuse rfl gX5_giving_X5_refuse rfl (ci := 5) (rq := 0) rfl rfl ⟨Nat.le_of_ble_eq_true rfl, Nat.le_of_ble_eq_true rfl⟩ ⟨Nat.zero_le _, Nat.zero_le _⟩ (Nat.le_of_ble_eq_true rfl) [] (wTe aT cyB tI tR ++ wHo aH cyI hI hR ++ wMi aH aM cyI mI mR) (by simp only [List.append_assoc, List.nil_append, List.append_nil]) (fun _ => rfl) (fun u => (wSt aH aM aT aS kp cyI u.1 u.2 ++ wTe aT cyB tI tR ++ wHo aH cyI hI hR ++ wMi aH aM cyI mI mR)) (fun u => (by simp only [List.append_assoc, List.nil_append, List.append_nil])) (fun r6 u hp => ?_)
              obtain ⟨sI_3, sR_3⟩ := u
              replace hw := hp
              clear hp
              exact hRt 68 _ r6 (sI_3, sR_3, mI, mR) dX5_giving_68 hw
          · have hw := hwf c5; clear hwt hwf
            refine z_aload_n F dX5_giving_45 46 rfl 1 rfl ?_
            refine z_iload F dX5_giving_46 48 rfl 0 rfl ?_
            refine z_segVi (As := [.int r3]) (st := []) F dX5_giving_48 51 rfl (mX5_refuse C.1.2.1 D cyI cyB aS aH aM aT kp r3 sI sR hw) y_X5_refuse rfl gX5_giving_X5_refuse rfl (ci := 5) (rq := 0) rfl rfl ⟨Nat.le_of_ble_eq_true rfl, Nat.le_of_ble_eq_true rfl⟩ ⟨Nat.zero_le _, Nat.zero_le _⟩ (Nat.le_of_ble_eq_true rfl) [] (wTe aT cyB tI tR ++ wHo aH cyI hI hR ++ wMi aH aM cyI mI mR) (by simp only [List.append_assoc, List.nil_append, List.append_nil]) (fun _ => rfl) (fun u => (wSt aH aM aT aS kp cyI u.1 u.2 ++ wTe aT cyB tI tR ++ wHo aH cyI hI hR ++ wMi aH aM cyI mI mR)) (fun u => (by simp only [List.append_assoc, List.nil_append, List.append_nil])) (fun r7 u hp => ?_)
            obtain ⟨sI_4, sR_4⟩ := u
            replace hw := hp
            clear hp
            exact hRt 51 _ r7 (sI_4, sR_4, mI, mR) dX5_giving_51 hw
        · have hw := hwf c4; clear hwt hwf
          refine z_aload_n F dX5_giving_24 25 rfl 0 rfl ?_
          refine z_bipush F dX5_giving_25 27 rfl zkb_m2 ?_
          refine z_segVi (As := [.int (-2)]) (st := []) F dX5_giving_27 30 rfl (mX5_refuse C.1.2.1 D cyI cyB aS aH aM aT kp (-2) sI sR hw) y_X5_refuse rfl gX5_giving_X5_refuse rfl (ci := 5) (rq := 0) rfl rfl ⟨Nat.le_of_ble_eq_true rfl, Nat.le_of_ble_eq_true rfl⟩ ⟨Nat.zero_le _, Nat.zero_le _⟩ (Nat.le_of_ble_eq_true rfl) [] (wTe aT cyB tI tR ++ wHo aH cyI hI hR ++ wMi aH aM cyI mI mR) (by simp only [List.append_assoc, List.nil_append, List.append_nil]) (fun _ => rfl) (fun u => (wSt aH aM aT aS kp cyI u.1 u.2 ++ wTe aT cyB tI tR ++ wHo aH cyI hI hR ++ wMi aH aM cyI mI mR)) (fun u => (by simp only [List.append_assoc, List.nil_append, List.append_nil])) (fun r8 u hp => ?_)
          obtain ⟨sI_5, sR_5⟩ := u
          replace hw := hp
          clear hp
          exact hRt 30 _ r8 (sI_5, sR_5, mI, mR) dX5_giving_30 hw
    · have hw := hwf c2; clear hwt hwf
      refine z_aload_n F dX5_giving_9 10 rfl 0 rfl ?_
      refine z_iconst F dX5_giving_10 11 rfl zki_m1 ?_
      refine z_segVi (As := [.int (-1)]) (st := []) F dX5_giving_11 14 rfl (mX5_refuse C.1.2.1 D cyI cyB aS aH aM aT kp (-1) sI sR hw) y_X5_refuse rfl gX5_giving_X5_refuse rfl (ci := 5) (rq := 0) rfl rfl ⟨Nat.le_of_ble_eq_true rfl, Nat.le_of_ble_eq_true rfl⟩ ⟨Nat.zero_le _, Nat.zero_le _⟩ (Nat.le_of_ble_eq_true rfl) [] (wTe aT cyB tI tR ++ wHo aH cyI hI hR ++ wMi aH aM cyI mI mR) (by simp only [List.append_assoc, List.nil_append, List.append_nil]) (fun _ => rfl) (fun u => (wSt aH aM aT aS kp cyI u.1 u.2 ++ wTe aT cyB tI tR ++ wHo aH cyI hI hR ++ wMi aH aM cyI mI mR)) (fun u => (by simp only [List.append_assoc, List.nil_append, List.append_nil])) (fun r9 u hp => ?_)
      obtain ⟨sI_6, sR_6⟩ := u
      replace hw := hp
      clear hp
      exact hRt 14 _ r9 (sI_6, sR_6, mI, mR) dX5_giving_14 hw
set_option maxHeartbeats 4000000 in
set_option maxRecDepth 100000 in
theorem mX5_giving (l : Launch) (D : va_G) (cyI cyB : ClassId) (aS : Nat → Nat) (aT : Nat → Nat) (aH : Nat → Nat) (aM : Nat → Nat) (kp : Value) (x1 : Int32) (x2 : Int32) (x3 : Int32) (sI : Nat → Int32) (sR : Nat → Nat → Int32) (tI : Nat → Int32) (tR : Nat → Nat → Int32) (hI : Nat → Int32) (hR : Nat → Nat → Int32) (mI : Nat → Int32) (mR : Nat → Nat → Int32) {post : Int32 → (Nat → Int32) → (Nat → Nat → Int32) → (Nat → Int32) → (Nat → Nat → Int32) → Prop} (hw : pX5_giving x1 x2 x3 sI sR tI tR hI hR mI mR post) : zMi l yX5_giving wsX5_giving 4 96 D cyI cyB [.ref (aS 0), .int x1, .int x2, .int x3] (wSt aH aM aT aS kp cyI sI sR ++ wTe aT cyB tI tR ++ wHo aH cyI hI hR ++ wMi aH aM cyI mI mR) (S := ((Nat → Int32) × (Nat → Nat → Int32) × (Nat → Int32) × (Nat → Nat → Int32))) (fun u => (wSt aH aM aT aS kp cyI u.1 u.2.1 ++ wTe aT cyB tI tR ++ wHo aH cyI hI hR ++ wMi aH aM cyI u.2.2.1 u.2.2.2)) (fun r u => post r u.1 u.2.1 u.2.2.1 u.2.2.2) :=
  z_meti (cc := cX5_giving) (nL := 7) (by decide +kernel) rfl (Nat.le_of_ble_eq_true rfl) (fun C hl F hRt => xX5_giving_0 x1 x2 x3 sI sR tI tR hI hR mI mR F hRt hw)
theorem y_X5_giving : zY yX5_giving wsX5_giving cX5_giving 7 (some .int) 3 := ⟨⟨_, rfl⟩, by decide +kernel⟩
theorem iX5_finestKind_5 : ∀ w ∈ wsX50, w ∈ wsX5_finestKind := fun w h => List.mem_cons_of_mem _ (List.mem_append_left _ (List.mem_append_left _ (List.mem_append_left _ (List.mem_append_left _ (List.mem_append_right _ h)))))
theorem kX5_finestKind_21 : zL wsX5_finestKind RX5 21 5 1 (.object "StillRoom$Mind") true := zL5 iX5_finestKind_5 (by decide) (List.mem_of_getElem? (i := 1) rfl) rfl rfl
set_option maxHeartbeats 4000000 in
set_option maxRecDepth 100000 in
theorem xX5_finestKind_8 {C : zC} {D : va_G} {cyI cyB : ClassId} {aS : Nat → Nat} {aT : Nat → Nat} {aH : Nat → Nat} {aM : Nat → Nat} {kp : Value} (sI : Nat → Int32) (sR : Nat → Nat → Int32) (tI : Nat → Int32) (tR : Nat → Nat → Int32) (hI : Nat → Int32) (hR : Nat → Nat → Int32) (F : zF C D { frames := 4, cells := 0, slots := 0, locals := 96 } cX5_finestKind 5 wsX5_finestKind RX5 (some .int) cyI cyB) {post : Int32 → (Nat → Int32) → (Nat → Nat → Int32) → Prop} (hRt : zRi C D cX5_finestKind 5 (S := ((Nat → Int32) × (Nat → Nat → Int32))) (fun u => (wSt aH aM aT aS kp cyI sI sR ++ wTe aT cyB tI tR ++ wHo aH cyI hI hR ++ wMi aH aM cyI u.1 u.2)) (fun r u => post r u.1 u.2)) : ∀ (n : Nat) (x1 : Int32) (x2 : Int32) (x3 : Int32) (mI : Nat → Int32) (mR : Nat → Nat → Int32), bX5_finestKind_8 sI sR tI tR hI hR post  n x1 x2 x3 mI mR → zX C D 5 0 0 (wSt aH aM aT aS kp cyI sI sR ++ wTe aT cyB tI tR ++ wHo aH cyI hI hR ++ wMi aH aM cyI mI mR) 8 [(0, .ref (aS 0)), (1, .int x1), (2, .int x2), (3, .int x3)] [] := by
  intro n
  induction n with
  | zero => intro _ _ _ _ _ hw; exact hw.elim
  | succ n ih =>
    intro x1 x2 x3 mI mR hw
    refine z_iload_n F dX5_finestKind_8 9 rfl 3 rfl ?_
    refine z_iconst F dX5_finestKind_9 10 rfl zki_5 ?_
    obtain ⟨hwt, hwf⟩ := hw
    refine z_icmpge F dX5_finestKind_10 50 rfl 13 rfl (fun c1 => ?_) (fun c1 => ?_)
    · have hw := hwt c1; clear hwt hwf
      refine z_iload_n F dX5_finestKind_50 51 rfl 1 rfl ?_
      exact hRt 51 _ x1 (mI, mR) dX5_finestKind_51 hw
    · have hw := hwf c1; clear hwt hwf
      refine z_aload_n F dX5_finestKind_13 14 rfl 0 rfl ?_
      refine z_get F dX5_finestKind_14 17 rfl kX5_finestKind_21 0 rfl rfl ?_
      refine z_iload_n F dX5_finestKind_17 18 rfl 3 rfl ?_
      refine z_segVi (As := [.int x3]) (st := []) F dX5_finestKind_18 21 rfl (mX2_giveOut C.1.2.1 D cyI cyB aH aM x3 hI hR mI mR hw) y_X2_giveOut rfl gX5_finestKind_X2_giveOut rfl (ci := 2) (rq := 12) rfl rfl ⟨Nat.le_of_ble_eq_true rfl, Nat.le_of_ble_eq_true rfl⟩ ⟨Nat.zero_le _, Nat.zero_le _⟩ (Nat.le_of_ble_eq_true rfl) (wSt aH aM aT aS kp cyI sI sR ++ wTe aT cyB tI tR) [] (by simp only [List.append_assoc, List.nil_append, List.append_nil]) (fun _ => rfl) (fun u => (wSt aH aM aT aS kp cyI sI sR ++ wTe aT cyB tI tR ++ wHo aH cyI hI hR ++ wMi aH aM cyI u.1 u.2)) (fun u => (by simp only [List.append_assoc, List.nil_append, List.append_nil])) (fun r1 u hp => ?_)
      obtain ⟨mI_1, mR_1⟩ := u
      replace hw := hp
      clear hp
      refine z_istore (lv' := [(4, .int r1), (0, .ref (aS 0)), (1, .int x1), (2, .int x2), (3, .int x3)]) F dX5_finestKind_21 23 rfl (by decide) rfl ?_
      refine z_iload F dX5_finestKind_23 25 rfl 0 rfl ?_
      refine z_iload_n F dX5_finestKind_25 26 rfl 3 rfl ?_
      obtain ⟨hwt, hwf⟩ := hw
      refine z_icmpge F dX5_finestKind_26 44 rfl 29 rfl (fun c2 => ?_) (fun c2 => ?_)
      · have hw := hwt c2; clear hwt hwf
        refine z_iinc F dX5_finestKind_44 47 rfl 4 rfl (by decide) zki_1 (fun v1 => [(3, .int v1), (4, .int r1), (0, .ref (aS 0)), (1, .int x1), (2, .int x2)]) (fun _ => rfl) (fun v1 ev1 => ?_)
        replace hw := hw v1 ev1
        refine z_goto F dX5_finestKind_47 8 rfl ?_
        refine z_lv (lv' := [(0, .ref (aS 0)), (1, .int x1), (2, .int x2), (3, .int v1)]) [2, 3, 4, 0] rfl ?_
        exact ih x1 x2 v1 mI_1 mR_1 hw
      · have hw := hwf c2; clear hwt hwf
        refine z_aload_n F dX5_finestKind_29 30 rfl 1 rfl ?_
        refine z_get F dX5_finestKind_30 33 rfl kX5_finestKind_21 0 rfl rfl ?_
        refine z_segVi (As := []) (st := []) F dX5_finestKind_33 36 rfl (mX2_holds C.1.2.1 D cyI cyB aH aM hI hR mI_1 mR_1 hw) y_X2_holds rfl gX5_finestKind_X2_holds rfl (ci := 2) (rq := 12) rfl rfl ⟨Nat.le_of_ble_eq_true rfl, Nat.le_of_ble_eq_true rfl⟩ ⟨Nat.zero_le _, Nat.zero_le _⟩ (Nat.le_of_ble_eq_true rfl) (wSt aH aM aT aS kp cyI sI sR ++ wTe aT cyB tI tR) [] (by simp only [List.append_assoc, List.nil_append, List.append_nil]) (fun _ => rfl) (fun u => (wSt aH aM aT aS kp cyI sI sR ++ wTe aT cyB tI tR ++ wHo aH cyI hI hR ++ wMi aH aM cyI u.1 u.2)) (fun u => (by simp only [List.append_assoc, List.nil_append, List.append_nil])) (fun r0 u hp => ?_)
        obtain ⟨mI_2, mR_2⟩ := u
        obtain ⟨b1, rfl, hw⟩ := hp
        obtain ⟨hwt, hwf⟩ := hw
        refine z_ifeqB F dX5_finestKind_36 44 rfl 39 rfl (fun c3 => ?_) (fun c3 => ?_)
        · have hw := hwt c3; clear hwt hwf
          refine z_iinc F dX5_finestKind_44 47 rfl 4 rfl (by decide) zki_1 (fun v2 => [(3, .int v2), (4, .int r1), (0, .ref (aS 0)), (1, .int x1), (2, .int x2)]) (fun _ => rfl) (fun v2 ev2 => ?_)
          replace hw := hw v2 ev2
          refine z_goto F dX5_finestKind_47 8 rfl ?_
          refine z_lv (lv' := [(0, .ref (aS 0)), (1, .int x1), (2, .int x2), (3, .int v2)]) [2, 3, 4, 0] rfl ?_
          exact ih x1 x2 v2 mI_2 mR_2 hw
        · have hw := hwf c3; clear hwt hwf
          refine z_iload_n F dX5_finestKind_39 40 rfl 4 rfl ?_
          refine z_istore_n (lv' := [(1, .int x3), (4, .int r1), (0, .ref (aS 0)), (2, .int x2), (3, .int x3)]) F dX5_finestKind_40 41 rfl (by decide) rfl ?_
          refine z_iload F dX5_finestKind_41 43 rfl 1 rfl ?_
          refine z_istore_n (lv' := [(2, .int r1), (1, .int x3), (4, .int r1), (0, .ref (aS 0)), (3, .int x3)]) F dX5_finestKind_43 44 rfl (by decide) rfl ?_
          refine z_iinc F dX5_finestKind_44 47 rfl 4 rfl (by decide) zki_1 (fun v3 => [(3, .int v3), (2, .int r1), (1, .int x3), (4, .int r1), (0, .ref (aS 0))]) (fun _ => rfl) (fun v3 ev3 => ?_)
          replace hw := hw v3 ev3
          refine z_goto F dX5_finestKind_47 8 rfl ?_
          refine z_lv (lv' := [(0, .ref (aS 0)), (1, .int x3), (2, .int r1), (3, .int v3)]) [4, 2, 1, 0] rfl ?_
          exact ih x3 r1 v3 mI_2 mR_2 hw
set_option maxHeartbeats 4000000 in
set_option maxRecDepth 100000 in
theorem xX5_finestKind_0 {C : zC} {D : va_G} {cyI cyB : ClassId} {aS : Nat → Nat} {aT : Nat → Nat} {aH : Nat → Nat} {aM : Nat → Nat} {kp : Value} (sI : Nat → Int32) (sR : Nat → Nat → Int32) (tI : Nat → Int32) (tR : Nat → Nat → Int32) (hI : Nat → Int32) (hR : Nat → Nat → Int32) (mI : Nat → Int32) (mR : Nat → Nat → Int32) (F : zF C D { frames := 4, cells := 0, slots := 0, locals := 96 } cX5_finestKind 5 wsX5_finestKind RX5 (some .int) cyI cyB) {post : Int32 → (Nat → Int32) → (Nat → Nat → Int32) → Prop} (hRt : zRi C D cX5_finestKind 5 (S := ((Nat → Int32) × (Nat → Nat → Int32))) (fun u => (wSt aH aM aT aS kp cyI sI sR ++ wTe aT cyB tI tR ++ wHo aH cyI hI hR ++ wMi aH aM cyI u.1 u.2)) (fun r u => post r u.1 u.2)) (hw : pX5_finestKind sI sR tI tR hI hR mI mR post) : zX C D 5 0 0 (wSt aH aM aT aS kp cyI sI sR ++ wTe aT cyB tI tR ++ wHo aH cyI hI hR ++ wMi aH aM cyI mI mR) 0 [(0, .ref (aS 0))] [] := by
  refine z_bipush F dX5_finestKind_0 2 rfl zkb_m9 ?_
  refine z_istore_n (lv' := [(1, .int (-9)), (0, .ref (aS 0))]) F dX5_finestKind_2 3 rfl (by decide) rfl ?_
  refine z_bipush F dX5_finestKind_3 5 rfl zkb_99 ?_
  refine z_istore_n (lv' := [(2, .int 99), (1, .int (-9)), (0, .ref (aS 0))]) F dX5_finestKind_5 6 rfl (by decide) rfl ?_
  refine z_iconst F dX5_finestKind_6 7 rfl zki_0 ?_
  refine z_istore_n (lv' := [(3, .int 0), (2, .int 99), (1, .int (-9)), (0, .ref (aS 0))]) F dX5_finestKind_7 8 rfl (by decide) rfl ?_
  obtain ⟨n1, hw⟩ := hw
  refine z_lv (lv' := [(0, .ref (aS 0)), (1, .int (-9)), (2, .int 99), (3, .int 0)]) [3, 2, 1, 0] rfl ?_
  refine xX5_finestKind_8 sI sR tI tR hI hR F hRt n1 (-9) 99 0 mI mR hw
set_option maxHeartbeats 4000000 in
set_option maxRecDepth 100000 in
theorem mX5_finestKind (l : Launch) (D : va_G) (cyI cyB : ClassId) (aS : Nat → Nat) (aT : Nat → Nat) (aH : Nat → Nat) (aM : Nat → Nat) (kp : Value) (sI : Nat → Int32) (sR : Nat → Nat → Int32) (tI : Nat → Int32) (tR : Nat → Nat → Int32) (hI : Nat → Int32) (hR : Nat → Nat → Int32) (mI : Nat → Int32) (mR : Nat → Nat → Int32) {post : Int32 → (Nat → Int32) → (Nat → Nat → Int32) → Prop} (hw : pX5_finestKind sI sR tI tR hI hR mI mR post) : zMi l yX5_finestKind wsX5_finestKind 4 96 D cyI cyB [.ref (aS 0)] (wSt aH aM aT aS kp cyI sI sR ++ wTe aT cyB tI tR ++ wHo aH cyI hI hR ++ wMi aH aM cyI mI mR) (S := ((Nat → Int32) × (Nat → Nat → Int32))) (fun u => (wSt aH aM aT aS kp cyI sI sR ++ wTe aT cyB tI tR ++ wHo aH cyI hI hR ++ wMi aH aM cyI u.1 u.2)) (fun r u => post r u.1 u.2) :=
  z_meti (cc := cX5_finestKind) (nL := 5) (by decide +kernel) rfl (Nat.le_of_ble_eq_true rfl) (fun C hl F hRt => xX5_finestKind_0 sI sR tI tR hI hR mI mR F hRt hw)
theorem y_X5_finestKind : zY yX5_finestKind wsX5_finestKind cX5_finestKind 5 (some .int) 0 := ⟨⟨_, rfl⟩, by decide +kernel⟩
theorem iX5_finest_5 : ∀ w ∈ wsX50, w ∈ wsX5_finest := fun w h => List.mem_cons_of_mem _ (List.mem_append_left _ (List.mem_append_left _ (List.mem_append_left _ (List.mem_append_left _ (List.mem_append_right _ h)))))
theorem kX5_finest_12 : zL wsX5_finest RX5 12 5 0 (.object "StillRoom$House") true := zL5 iX5_finest_5 (by decide) (List.mem_of_getElem? (i := 1) rfl) rfl rfl
theorem kX5_finest_21 : zL wsX5_finest RX5 21 5 1 (.object "StillRoom$Mind") true := zL5 iX5_finest_5 (by decide) (List.mem_of_getElem? (i := 2) rfl) rfl rfl
set_option maxHeartbeats 4000000 in
set_option maxRecDepth 100000 in
theorem xX5_finest_0 {C : zC} {D : va_G} {cyI cyB : ClassId} {aS : Nat → Nat} {aT : Nat → Nat} {aH : Nat → Nat} {aM : Nat → Nat} {kp : Value} (x1 : Int32) (x2 : Int32) (sI : Nat → Int32) (sR : Nat → Nat → Int32) (tI : Nat → Int32) (tR : Nat → Nat → Int32) (hI : Nat → Int32) (hR : Nat → Nat → Int32) (mI : Nat → Int32) (mR : Nat → Nat → Int32) (F : zF C D { frames := 5, cells := 0, slots := 0, locals := 120 } cX5_finest 4 wsX5_finest RX5 (some .int) cyI cyB) {post : Int32 → (Nat → Int32) → (Nat → Nat → Int32) → (Nat → Int32) → (Nat → Nat → Int32) → Prop} (hRt : zRi C D cX5_finest 4 (S := ((Nat → Int32) × (Nat → Nat → Int32) × (Nat → Int32) × (Nat → Nat → Int32))) (fun u => (wSt aH aM aT aS kp cyI u.1 u.2.1 ++ wTe aT cyB tI tR ++ wHo aH cyI hI hR ++ wMi aH aM cyI u.2.2.1 u.2.2.2)) (fun r u => post r u.1 u.2.1 u.2.2.1 u.2.2.2)) (hw : pX5_finest x1 x2 sI sR tI tR hI hR mI mR post) : zX C D 4 0 0 (wSt aH aM aT aS kp cyI sI sR ++ wTe aT cyB tI tR ++ wHo aH cyI hI hR ++ wMi aH aM cyI mI mR) 0 [(0, .ref (aS 0)), (1, .int x1), (2, .int x2)] [] := by
  refine z_iload_n F dX5_finest_0 1 rfl 1 rfl ?_
  refine z_iload_n F dX5_finest_1 2 rfl 2 rfl ?_
  refine z_callSi (As := [.int x1, .int x2]) (st := []) F dX5_finest_2 5 rfl (mX5_outsideHands C.1.2.1 D cyI cyB x1 x2 hw) y_X5_outsideHands rfl gX5_finest_X5_outsideHands ⟨Nat.le_of_ble_eq_true rfl, Nat.le_of_ble_eq_true rfl⟩ ⟨Nat.zero_le _, Nat.zero_le _⟩ (Nat.le_of_ble_eq_true rfl) [] (by decide) rfl (fun _ => rfl) (fun u => (wSt aH aM aT aS kp cyI sI sR ++ wTe aT cyB tI tR ++ wHo aH cyI hI hR ++ wMi aH aM cyI mI mR)) (fun _ => rfl) (fun r1 u hp => ?_)
  replace hw := hp
  clear hp
  refine z_istore_n (lv' := [(3, .int r1), (0, .ref (aS 0)), (1, .int x1), (2, .int x2)]) F dX5_finest_5 6 rfl (by decide) rfl ?_
  refine z_iload_n F dX5_finest_6 7 rfl 0 rfl ?_
  obtain ⟨hwt, hwf⟩ := hw
  refine z_ifeq F dX5_finest_7 16 rfl 10 rfl (fun c1 => ?_) (fun c1 => ?_)
  · have hw := hwt c1; clear hwt hwf
    refine z_aload_n F dX5_finest_16 17 rfl 1 rfl ?_
    refine z_get F dX5_finest_17 20 rfl kX5_finest_12 0 rfl rfl ?_
    refine z_segVi (As := []) (st := []) F dX5_finest_20 23 rfl (mX1_inHouse C.1.2.1 D cyI cyB aH hI hR hw) y_X1_inHouse rfl gX5_finest_X1_inHouse rfl (ci := 1) (rq := 0) rfl rfl ⟨Nat.le_of_ble_eq_true rfl, Nat.le_of_ble_eq_true rfl⟩ ⟨Nat.zero_le _, Nat.zero_le _⟩ (Nat.le_of_ble_eq_true rfl) (wSt aH aM aT aS kp cyI sI sR ++ wTe aT cyB tI tR) (wMi aH aM cyI mI mR) (by simp only [List.append_assoc, List.nil_append, List.append_nil]) (fun _ => rfl) (fun u => (wSt aH aM aT aS kp cyI sI sR ++ wTe aT cyB tI tR ++ wHo aH cyI hI hR ++ wMi aH aM cyI mI mR)) (fun u => (by simp only [List.append_assoc, List.nil_append, List.append_nil])) (fun r2 u hp => ?_)
    replace hw := hp
    clear hp
    obtain ⟨hwt, hwf⟩ := hw
    refine z_ifne F dX5_finest_23 33 rfl 26 rfl (fun c2 => ?_) (fun c2 => ?_)
    · have hw := hwt c2; clear hwt hwf
      refine z_aload_n F dX5_finest_33 34 rfl 1 rfl ?_
      refine z_get F dX5_finest_34 37 rfl kX5_finest_21 0 rfl rfl ?_
      refine z_segVv (As := []) (st := []) F dX5_finest_37 40 rfl (mX2_begin C.1.2.1 D cyI cyB aH aM hI hR mI mR hw) y_X2_begin rfl gX5_finest_X2_begin rfl (ci := 2) (rq := 12) rfl rfl ⟨Nat.le_of_ble_eq_true rfl, Nat.le_of_ble_eq_true rfl⟩ ⟨Nat.zero_le _, Nat.zero_le _⟩ (Nat.le_of_ble_eq_true rfl) (wSt aH aM aT aS kp cyI sI sR ++ wTe aT cyB tI tR) [] (by simp only [List.append_assoc, List.nil_append, List.append_nil]) (fun _ => rfl) (fun u => (wSt aH aM aT aS kp cyI sI sR ++ wTe aT cyB tI tR ++ wHo aH cyI hI hR ++ wMi aH aM cyI u.1 u.2)) (fun u => (by simp only [List.append_assoc, List.nil_append, List.append_nil])) (fun u hp => ?_)
      obtain ⟨mI_1, mR_1⟩ := u
      replace hw := hp
      clear hp
      refine z_aload_n F dX5_finest_40 41 rfl 1 rfl ?_
      refine z_get F dX5_finest_41 44 rfl kX5_finest_21 0 rfl rfl ?_
      refine z_iload_n F dX5_finest_44 45 rfl 2 rfl ?_
      refine z_segVv (As := [.int x1]) (st := []) F dX5_finest_45 48 rfl (mX2_chooseLeavers C.1.2.1 D cyI cyB aH aM x1 hI hR mI_1 mR_1 hw) y_X2_chooseLeavers rfl gX5_finest_X2_chooseLeavers rfl (ci := 2) (rq := 12) rfl rfl ⟨Nat.le_of_ble_eq_true rfl, Nat.le_of_ble_eq_true rfl⟩ ⟨Nat.zero_le _, Nat.zero_le _⟩ (Nat.le_of_ble_eq_true rfl) (wSt aH aM aT aS kp cyI sI sR ++ wTe aT cyB tI tR) [] (by simp only [List.append_assoc, List.nil_append, List.append_nil]) (fun _ => rfl) (fun u => (wSt aH aM aT aS kp cyI sI sR ++ wTe aT cyB tI tR ++ wHo aH cyI hI hR ++ wMi aH aM cyI u.1 u.2)) (fun u => (by simp only [List.append_assoc, List.nil_append, List.append_nil])) (fun u hp => ?_)
      obtain ⟨mI_2, mR_2⟩ := u
      replace hw := hp
      clear hp
      refine z_aload_n F dX5_finest_48 49 rfl 1 rfl ?_
      refine z_get F dX5_finest_49 52 rfl kX5_finest_21 0 rfl rfl ?_
      refine z_iload_n F dX5_finest_52 53 rfl 3 rfl ?_
      refine z_segVv (As := [.int x2]) (st := []) F dX5_finest_53 56 rfl (mX2_chooseTakers C.1.2.1 D cyI cyB aH aM x2 hI hR mI_2 mR_2 hw) y_X2_chooseTakers rfl gX5_finest_X2_chooseTakers rfl (ci := 2) (rq := 12) rfl rfl ⟨Nat.le_of_ble_eq_true rfl, Nat.le_of_ble_eq_true rfl⟩ ⟨Nat.zero_le _, Nat.zero_le _⟩ (Nat.le_of_ble_eq_true rfl) (wSt aH aM aT aS kp cyI sI sR ++ wTe aT cyB tI tR) [] (by simp only [List.append_assoc, List.nil_append, List.append_nil]) (fun _ => rfl) (fun u => (wSt aH aM aT aS kp cyI sI sR ++ wTe aT cyB tI tR ++ wHo aH cyI hI hR ++ wMi aH aM cyI u.1 u.2)) (fun u => (by simp only [List.append_assoc, List.nil_append, List.append_nil])) (fun u hp => ?_)
      obtain ⟨mI_3, mR_3⟩ := u
      replace hw := hp
      clear hp
      refine z_aload_n F dX5_finest_56 57 rfl 1 rfl ?_
      refine z_segVi (As := []) (st := []) F dX5_finest_57 60 rfl (mX5_finestKind C.1.2.1 D cyI cyB aS aT aH aM kp sI sR tI tR hI hR mI_3 mR_3 hw) y_X5_finestKind rfl gX5_finest_X5_finestKind rfl (ci := 5) (rq := 0) rfl rfl ⟨Nat.le_of_ble_eq_true rfl, Nat.le_of_ble_eq_true rfl⟩ ⟨Nat.zero_le _, Nat.zero_le _⟩ (Nat.le_of_ble_eq_true rfl) [] [] (by simp only [List.append_assoc, List.nil_append, List.append_nil]) (fun _ => rfl) (fun u => (wSt aH aM aT aS kp cyI sI sR ++ wTe aT cyB tI tR ++ wHo aH cyI hI hR ++ wMi aH aM cyI u.1 u.2)) (fun u => (by simp only [List.append_assoc, List.nil_append, List.append_nil])) (fun r3 u hp => ?_)
      obtain ⟨mI_4, mR_4⟩ := u
      replace hw := hp
      clear hp
      exact hRt 60 _ r3 (sI, sR, mI_4, mR_4) dX5_finest_60 hw
    · have hw := hwf c2; clear hwt hwf
      refine z_aload_n F dX5_finest_26 27 rfl 1 rfl ?_
      refine z_bipush F dX5_finest_27 29 rfl zkb_m3 ?_
      refine z_segVi (As := [.int (-3)]) (st := []) F dX5_finest_29 32 rfl (mX5_refuse C.1.2.1 D cyI cyB aS aH aM aT kp (-3) sI sR hw) y_X5_refuse rfl gX5_finest_X5_refuse rfl (ci := 5) (rq := 0) rfl rfl ⟨Nat.le_of_ble_eq_true rfl, Nat.le_of_ble_eq_true rfl⟩ ⟨Nat.zero_le _, Nat.zero_le _⟩ (Nat.le_of_ble_eq_true rfl) [] (wTe aT cyB tI tR ++ wHo aH cyI hI hR ++ wMi aH aM cyI mI mR) (by simp only [List.append_assoc, List.nil_append, List.append_nil]) (fun _ => rfl) (fun u => (wSt aH aM aT aS kp cyI u.1 u.2 ++ wTe aT cyB tI tR ++ wHo aH cyI hI hR ++ wMi aH aM cyI mI mR)) (fun u => (by simp only [List.append_assoc, List.nil_append, List.append_nil])) (fun r4 u hp => ?_)
      obtain ⟨sI_1, sR_1⟩ := u
      replace hw := hp
      clear hp
      exact hRt 32 _ r4 (sI_1, sR_1, mI, mR) dX5_finest_32 hw
  · have hw := hwf c1; clear hwt hwf
    refine z_aload_n F dX5_finest_10 11 rfl 1 rfl ?_
    refine z_iload_n F dX5_finest_11 12 rfl 0 rfl ?_
    refine z_segVi (As := [.int r1]) (st := []) F dX5_finest_12 15 rfl (mX5_refuse C.1.2.1 D cyI cyB aS aH aM aT kp r1 sI sR hw) y_X5_refuse rfl gX5_finest_X5_refuse rfl (ci := 5) (rq := 0) rfl rfl ⟨Nat.le_of_ble_eq_true rfl, Nat.le_of_ble_eq_true rfl⟩ ⟨Nat.zero_le _, Nat.zero_le _⟩ (Nat.le_of_ble_eq_true rfl) [] (wTe aT cyB tI tR ++ wHo aH cyI hI hR ++ wMi aH aM cyI mI mR) (by simp only [List.append_assoc, List.nil_append, List.append_nil]) (fun _ => rfl) (fun u => (wSt aH aM aT aS kp cyI u.1 u.2 ++ wTe aT cyB tI tR ++ wHo aH cyI hI hR ++ wMi aH aM cyI mI mR)) (fun u => (by simp only [List.append_assoc, List.nil_append, List.append_nil])) (fun r5 u hp => ?_)
    obtain ⟨sI_2, sR_2⟩ := u
    replace hw := hp
    clear hp
    exact hRt 15 _ r5 (sI_2, sR_2, mI, mR) dX5_finest_15 hw
set_option maxHeartbeats 4000000 in
set_option maxRecDepth 100000 in
theorem mX5_finest (l : Launch) (D : va_G) (cyI cyB : ClassId) (aS : Nat → Nat) (aT : Nat → Nat) (aH : Nat → Nat) (aM : Nat → Nat) (kp : Value) (x1 : Int32) (x2 : Int32) (sI : Nat → Int32) (sR : Nat → Nat → Int32) (tI : Nat → Int32) (tR : Nat → Nat → Int32) (hI : Nat → Int32) (hR : Nat → Nat → Int32) (mI : Nat → Int32) (mR : Nat → Nat → Int32) {post : Int32 → (Nat → Int32) → (Nat → Nat → Int32) → (Nat → Int32) → (Nat → Nat → Int32) → Prop} (hw : pX5_finest x1 x2 sI sR tI tR hI hR mI mR post) : zMi l yX5_finest wsX5_finest 5 120 D cyI cyB [.ref (aS 0), .int x1, .int x2] (wSt aH aM aT aS kp cyI sI sR ++ wTe aT cyB tI tR ++ wHo aH cyI hI hR ++ wMi aH aM cyI mI mR) (S := ((Nat → Int32) × (Nat → Nat → Int32) × (Nat → Int32) × (Nat → Nat → Int32))) (fun u => (wSt aH aM aT aS kp cyI u.1 u.2.1 ++ wTe aT cyB tI tR ++ wHo aH cyI hI hR ++ wMi aH aM cyI u.2.2.1 u.2.2.2)) (fun r u => post r u.1 u.2.1 u.2.2.1 u.2.2.2) :=
  z_meti (cc := cX5_finest) (nL := 4) (by decide +kernel) rfl (Nat.le_of_ble_eq_true rfl) (fun C hl F hRt => xX5_finest_0 x1 x2 sI sR tI tR hI hR mI mR F hRt hw)
theorem y_X5_finest : zY yX5_finest wsX5_finest cX5_finest 4 (some .int) 2 := ⟨⟨_, rfl⟩, by decide +kernel⟩
theorem iX5_likely_1 : ∀ w ∈ wsX10, w ∈ wsX5_likely := fun w h => List.mem_cons_of_mem _ (List.mem_append_left _ (List.mem_append_left _ (List.mem_append_right _ h)))
theorem iX5_likely_5 : ∀ w ∈ wsX50, w ∈ wsX5_likely := fun w h => List.mem_cons_of_mem _ (List.mem_append_left _ (List.mem_append_left _ (List.mem_append_left _ (List.mem_append_right _ h))))
theorem kX5_likely_12 : zL wsX5_likely RX5 12 5 0 (.object "StillRoom$House") true := zL5 iX5_likely_5 (by decide) (List.mem_of_getElem? (i := 1) rfl) rfl rfl
theorem kX5_likely_21 : zL wsX5_likely RX5 21 5 1 (.object "StillRoom$Mind") true := zL5 iX5_likely_5 (by decide) (List.mem_of_getElem? (i := 3) rfl) rfl rfl
theorem kX5_likely_79 : zL wsX5_likely RX5 79 1 6 .int false := zL1 iX5_likely_1 (by decide) (List.mem_of_getElem? (i := 2) rfl) rfl rfl
set_option maxHeartbeats 4000000 in
set_option maxRecDepth 100000 in
theorem xX5_likely_5 {C : zC} {D : va_G} {cyI cyB : ClassId} {aS : Nat → Nat} {aT : Nat → Nat} {aH : Nat → Nat} {aM : Nat → Nat} {kp : Value} (x1 : Int32) (sI : Nat → Int32) (sR : Nat → Nat → Int32) (tI : Nat → Int32) (tR : Nat → Nat → Int32) (hI : Nat → Int32) (hR : Nat → Nat → Int32) (mI : Nat → Int32) (mR : Nat → Nat → Int32) (F : zF C D { frames := 2, cells := 0, slots := 0, locals := 50 } cX5_likely 5 wsX5_likely RX5 (some .long) cyI cyB) {post : Int64 → Prop} (hRt : zRl C D cX5_likely 5 (S := (Unit)) (fun u => (wSt aH aM aT aS kp cyI sI sR ++ wTe aT cyB tI tR ++ wHo aH cyI hI hR ++ wMi aH aM cyI mI mR)) (fun r u => post r )) : ∀ (n : Nat) (y2 : Int64) (x4 : Int32), bX5_likely_5 x1 sI sR tI tR hI hR mI mR post  n y2 x4 → zX C D 5 0 0 (wSt aH aM aT aS kp cyI sI sR ++ wTe aT cyB tI tR ++ wHo aH cyI hI hR ++ wMi aH aM cyI mI mR) 5 [(0, .ref (aS 0)), (1, .int x1), (2, .long y2), (4, .int x4)] [] := by
  intro n
  induction n with
  | zero => intro _ _ hw; exact hw.elim
  | succ n ih =>
    intro y2 x4 hw
    refine z_iload F dX5_likely_5 7 rfl 3 rfl ?_
    refine z_iconst F dX5_likely_7 8 rfl zki_1 ?_
    refine z_aload_n F dX5_likely_8 9 rfl 0 rfl ?_
    refine z_get F dX5_likely_9 12 rfl kX5_likely_12 0 rfl rfl ?_
    refine z_get F dX5_likely_12 15 rfl kX5_likely_79 6 rfl rfl ?_
    refine z_ishl F dX5_likely_15 16 rfl ?_
    obtain ⟨hwt, hwf⟩ := hw
    refine z_icmpge F dX5_likely_16 62 rfl 19 rfl (fun c1 => ?_) (fun c1 => ?_)
    · have hw := hwt c1; clear hwt hwf
      refine z_lload_n F dX5_likely_62 63 rfl 2 rfl ?_
      exact hRt 63 _ y2 () dX5_likely_63 hw
    · have hw := hwf c1; clear hwt hwf
      refine z_aload_n F dX5_likely_19 20 rfl 0 rfl ?_
      refine z_get F dX5_likely_20 23 rfl kX5_likely_21 0 rfl rfl ?_
      refine z_iload F dX5_likely_23 25 rfl 3 rfl ?_
      refine z_segVi (As := [.int x4]) (st := []) F dX5_likely_25 28 rfl (mX2_areHere C.1.2.1 D cyI cyB aH aM x4 hI hR mI mR hw) y_X2_areHere rfl gX5_likely_X2_areHere rfl (ci := 2) (rq := 12) rfl rfl ⟨Nat.le_of_ble_eq_true rfl, Nat.le_of_ble_eq_true rfl⟩ ⟨Nat.zero_le _, Nat.zero_le _⟩ (Nat.le_of_ble_eq_true rfl) (wSt aH aM aT aS kp cyI sI sR ++ wTe aT cyB tI tR) [] (by simp only [List.append_assoc, List.nil_append, List.append_nil]) (fun _ => rfl) (fun u => (wSt aH aM aT aS kp cyI sI sR ++ wTe aT cyB tI tR ++ wHo aH cyI hI hR ++ wMi aH aM cyI mI mR)) (fun u => (by simp only [List.append_assoc, List.nil_append, List.append_nil])) (fun r0 u hp => ?_)
      obtain ⟨b1, rfl, hw⟩ := hp
      obtain ⟨hwt, hwf⟩ := hw
      refine z_ifeqB F dX5_likely_28 56 rfl 31 rfl (fun c2 => ?_) (fun c2 => ?_)
      · have hw := hwt c2; clear hwt hwf
        refine z_iinc F dX5_likely_56 59 rfl 3 rfl (by decide) zki_1 (fun v1 => [(4, .int v1), (0, .ref (aS 0)), (1, .int x1), (2, .long y2)]) (fun _ => rfl) (fun v1 ev1 => ?_)
        replace hw := hw v1 ev1
        refine z_goto F dX5_likely_59 5 rfl ?_
        refine z_lv (lv' := [(0, .ref (aS 0)), (1, .int x1), (2, .long y2), (4, .int v1)]) [1, 2, 3, 0] rfl ?_
        exact ih y2 v1 hw
      · have hw := hwf c2; clear hwt hwf
        refine z_aload_n F dX5_likely_31 32 rfl 0 rfl ?_
        refine z_get F dX5_likely_32 35 rfl kX5_likely_21 0 rfl rfl ?_
        refine z_iload_n F dX5_likely_35 36 rfl 1 rfl ?_
        refine z_iload F dX5_likely_36 38 rfl 3 rfl ?_
        refine z_segVi (As := [.int x1, .int x4]) (st := []) F dX5_likely_38 41 rfl (mX2_happens C.1.2.1 D cyI cyB aH aM x1 x4 hI hR mI mR hw) y_X2_happens rfl gX5_likely_X2_happens rfl (ci := 2) (rq := 12) rfl rfl ⟨Nat.le_of_ble_eq_true rfl, Nat.le_of_ble_eq_true rfl⟩ ⟨Nat.zero_le _, Nat.zero_le _⟩ (Nat.le_of_ble_eq_true rfl) (wSt aH aM aT aS kp cyI sI sR ++ wTe aT cyB tI tR) [] (by simp only [List.append_assoc, List.nil_append, List.append_nil]) (fun _ => rfl) (fun u => (wSt aH aM aT aS kp cyI sI sR ++ wTe aT cyB tI tR ++ wHo aH cyI hI hR ++ wMi aH aM cyI mI mR)) (fun u => (by simp only [List.append_assoc, List.nil_append, List.append_nil])) (fun r0 u hp => ?_)
        obtain ⟨b2, rfl, hw⟩ := hp
        obtain ⟨hwt, hwf⟩ := hw
        refine z_ifeqB F dX5_likely_41 56 rfl 44 rfl (fun c3 => ?_) (fun c3 => ?_)
        · have hw := hwt c3; clear hwt hwf
          refine z_iinc F dX5_likely_56 59 rfl 3 rfl (by decide) zki_1 (fun v2 => [(4, .int v2), (0, .ref (aS 0)), (1, .int x1), (2, .long y2)]) (fun _ => rfl) (fun v2 ev2 => ?_)
          replace hw := hw v2 ev2
          refine z_goto F dX5_likely_59 5 rfl ?_
          refine z_lv (lv' := [(0, .ref (aS 0)), (1, .int x1), (2, .long y2), (4, .int v2)]) [1, 2, 3, 0] rfl ?_
          exact ih y2 v2 hw
        · have hw := hwf c3; clear hwt hwf
          refine z_lload_n F dX5_likely_44 45 rfl 2 rfl ?_
          refine z_aload_n F dX5_likely_45 46 rfl 0 rfl ?_
          refine z_get F dX5_likely_46 49 rfl kX5_likely_12 0 rfl rfl ?_
          refine z_iload F dX5_likely_49 51 rfl 3 rfl ?_
          refine z_segVl (As := [.int x4]) (st := [.long y2]) F dX5_likely_51 54 rfl (mX1_weightOf C.1.2.1 D cyI cyB aH x4 hI hR hw) y_X1_weightOf rfl gX5_likely_X1_weightOf rfl (ci := 1) (rq := 0) rfl rfl ⟨Nat.le_of_ble_eq_true rfl, Nat.le_of_ble_eq_true rfl⟩ ⟨Nat.zero_le _, Nat.zero_le _⟩ (Nat.le_of_ble_eq_true rfl) (wSt aH aM aT aS kp cyI sI sR ++ wTe aT cyB tI tR) (wMi aH aM cyI mI mR) (by simp only [List.append_assoc, List.nil_append, List.append_nil]) (fun _ => rfl) (fun u => (wSt aH aM aT aS kp cyI sI sR ++ wTe aT cyB tI tR ++ wHo aH cyI hI hR ++ wMi aH aM cyI mI mR)) (fun u => (by simp only [List.append_assoc, List.nil_append, List.append_nil])) (fun r1 u hp => ?_)
          replace hw := hp
          clear hp
          refine z_ladd F dX5_likely_54 55 rfl ?_
          refine z_topl (fun u2 eu2 => ?_)
          replace hw := hw u2 eu2
          refine z_lstore_n (lv' := [(2, .long u2), (0, .ref (aS 0)), (1, .int x1), (4, .int x4)]) F dX5_likely_55 56 rfl (by decide) rfl ?_
          refine z_iinc F dX5_likely_56 59 rfl 3 rfl (by decide) zki_1 (fun v3 => [(4, .int v3), (2, .long u2), (0, .ref (aS 0)), (1, .int x1)]) (fun _ => rfl) (fun v3 ev3 => ?_)
          replace hw := hw v3 ev3
          refine z_goto F dX5_likely_59 5 rfl ?_
          refine z_lv (lv' := [(0, .ref (aS 0)), (1, .int x1), (2, .long u2), (4, .int v3)]) [2, 3, 1, 0] rfl ?_
          exact ih u2 v3 hw
set_option maxHeartbeats 4000000 in
set_option maxRecDepth 100000 in
theorem xX5_likely_0 {C : zC} {D : va_G} {cyI cyB : ClassId} {aS : Nat → Nat} {aT : Nat → Nat} {aH : Nat → Nat} {aM : Nat → Nat} {kp : Value} (x1 : Int32) (sI : Nat → Int32) (sR : Nat → Nat → Int32) (tI : Nat → Int32) (tR : Nat → Nat → Int32) (hI : Nat → Int32) (hR : Nat → Nat → Int32) (mI : Nat → Int32) (mR : Nat → Nat → Int32) (F : zF C D { frames := 2, cells := 0, slots := 0, locals := 50 } cX5_likely 5 wsX5_likely RX5 (some .long) cyI cyB) {post : Int64 → Prop} (hRt : zRl C D cX5_likely 5 (S := (Unit)) (fun u => (wSt aH aM aT aS kp cyI sI sR ++ wTe aT cyB tI tR ++ wHo aH cyI hI hR ++ wMi aH aM cyI mI mR)) (fun r u => post r )) (hw : pX5_likely x1 sI sR tI tR hI hR mI mR post) : zX C D 5 0 0 (wSt aH aM aT aS kp cyI sI sR ++ wTe aT cyB tI tR ++ wHo aH cyI hI hR ++ wMi aH aM cyI mI mR) 0 [(0, .ref (aS 0)), (1, .int x1)] [] := by
  refine z_lconst (v := 0) F dX5_likely_0 1 rfl rfl ?_
  refine z_topl (fun u1 eu1 => ?_)
  replace hw := hw u1 eu1
  refine z_lstore_n (lv' := [(2, .long u1), (0, .ref (aS 0)), (1, .int x1)]) F dX5_likely_1 2 rfl (by decide) rfl ?_
  refine z_iconst F dX5_likely_2 3 rfl zki_0 ?_
  refine z_istore (lv' := [(4, .int 0), (2, .long u1), (0, .ref (aS 0)), (1, .int x1)]) F dX5_likely_3 5 rfl (by decide) rfl ?_
  obtain ⟨n1, hw⟩ := hw
  refine z_lv (lv' := [(0, .ref (aS 0)), (1, .int x1), (2, .long u1), (4, .int 0)]) [2, 3, 1, 0] rfl ?_
  refine xX5_likely_5 x1 sI sR tI tR hI hR mI mR F hRt n1 u1 0 hw
set_option maxHeartbeats 4000000 in
set_option maxRecDepth 100000 in
theorem mX5_likely (l : Launch) (D : va_G) (cyI cyB : ClassId) (aS : Nat → Nat) (aT : Nat → Nat) (aH : Nat → Nat) (aM : Nat → Nat) (kp : Value) (x1 : Int32) (sI : Nat → Int32) (sR : Nat → Nat → Int32) (tI : Nat → Int32) (tR : Nat → Nat → Int32) (hI : Nat → Int32) (hR : Nat → Nat → Int32) (mI : Nat → Int32) (mR : Nat → Nat → Int32) {post : Int64 → Prop} (hw : pX5_likely x1 sI sR tI tR hI hR mI mR post) : zMl l yX5_likely wsX5_likely 2 50 D cyI cyB [.ref (aS 0), .int x1] (wSt aH aM aT aS kp cyI sI sR ++ wTe aT cyB tI tR ++ wHo aH cyI hI hR ++ wMi aH aM cyI mI mR) (S := (Unit)) (fun u => (wSt aH aM aT aS kp cyI sI sR ++ wTe aT cyB tI tR ++ wHo aH cyI hI hR ++ wMi aH aM cyI mI mR)) (fun r u => post r ) :=
  z_metl (cc := cX5_likely) (nL := 5) (by decide +kernel) rfl (Nat.le_of_ble_eq_true rfl) (fun C hl F hRt => xX5_likely_0 x1 sI sR tI tR hI hR mI mR F hRt hw)
theorem y_X5_likely : zY yX5_likely wsX5_likely cX5_likely 5 (some .long) 1 := ⟨⟨_, rfl⟩, by decide +kernel⟩
theorem iX5_loses_5 : ∀ w ∈ wsX50, w ∈ wsX5_loses := fun w h => List.mem_cons_of_mem _ (List.mem_append_left _ (List.mem_append_left _ (List.mem_append_left _ (List.mem_append_right _ h))))
theorem kX5_loses_21 : zL wsX5_loses RX5 21 5 1 (.object "StillRoom$Mind") true := zL5 iX5_loses_5 (by decide) (List.mem_of_getElem? (i := 1) rfl) rfl rfl
set_option maxHeartbeats 4000000 in
set_option maxRecDepth 100000 in
theorem xX5_loses_0 {C : zC} {D : va_G} {cyI cyB : ClassId} {aS : Nat → Nat} {aT : Nat → Nat} {aH : Nat → Nat} {aM : Nat → Nat} {kp : Value} (sI : Nat → Int32) (sR : Nat → Nat → Int32) (tI : Nat → Int32) (tR : Nat → Nat → Int32) (hI : Nat → Int32) (hR : Nat → Nat → Int32) (mI : Nat → Int32) (mR : Nat → Nat → Int32) (F : zF C D { frames := 3, cells := 0, slots := 0, locals := 74 } cX5_loses 1 wsX5_loses RX5 (some .long) cyI cyB) {post : Int64 → (Nat → Int32) → (Nat → Nat → Int32) → Prop} (hRt : zRl C D cX5_loses 1 (S := ((Nat → Int32) × (Nat → Nat → Int32))) (fun u => (wSt aH aM aT aS kp cyI sI sR ++ wTe aT cyB tI tR ++ wHo aH cyI hI hR ++ wMi aH aM cyI u.1 u.2)) (fun r u => post r u.1 u.2)) (hw : pX5_loses sI sR tI tR hI hR mI mR post) : zX C D 1 0 0 (wSt aH aM aT aS kp cyI sI sR ++ wTe aT cyB tI tR ++ wHo aH cyI hI hR ++ wMi aH aM cyI mI mR) 0 [(0, .ref (aS 0))] [] := by
  refine z_aload_n F dX5_loses_0 1 rfl 0 rfl ?_
  refine z_get F dX5_loses_1 4 rfl kX5_loses_21 0 rfl rfl ?_
  refine z_segVv (As := []) (st := []) F dX5_loses_4 7 rfl (mX2_begin C.1.2.1 D cyI cyB aH aM hI hR mI mR hw) y_X2_begin rfl gX5_loses_X2_begin rfl (ci := 2) (rq := 12) rfl rfl ⟨Nat.le_of_ble_eq_true rfl, Nat.le_of_ble_eq_true rfl⟩ ⟨Nat.zero_le _, Nat.zero_le _⟩ (Nat.le_of_ble_eq_true rfl) (wSt aH aM aT aS kp cyI sI sR ++ wTe aT cyB tI tR) [] (by simp only [List.append_assoc, List.nil_append, List.append_nil]) (fun _ => rfl) (fun u => (wSt aH aM aT aS kp cyI sI sR ++ wTe aT cyB tI tR ++ wHo aH cyI hI hR ++ wMi aH aM cyI u.1 u.2)) (fun u => (by simp only [List.append_assoc, List.nil_append, List.append_nil])) (fun u hp => ?_)
  obtain ⟨mI_1, mR_1⟩ := u
  replace hw := hp
  clear hp
  refine z_aload_n F dX5_loses_7 8 rfl 0 rfl ?_
  refine z_iconst F dX5_loses_8 9 rfl zki_0 ?_
  refine z_segVl (As := [.int 0]) (st := []) F dX5_loses_9 12 rfl (mX5_likely C.1.2.1 D cyI cyB aS aT aH aM kp 0 sI sR tI tR hI hR mI_1 mR_1 hw) y_X5_likely rfl gX5_loses_X5_likely rfl (ci := 5) (rq := 0) rfl rfl ⟨Nat.le_of_ble_eq_true rfl, Nat.le_of_ble_eq_true rfl⟩ ⟨Nat.zero_le _, Nat.zero_le _⟩ (Nat.le_of_ble_eq_true rfl) [] [] (by simp only [List.append_assoc, List.nil_append, List.append_nil]) (fun _ => rfl) (fun u => (wSt aH aM aT aS kp cyI sI sR ++ wTe aT cyB tI tR ++ wHo aH cyI hI hR ++ wMi aH aM cyI mI_1 mR_1)) (fun u => (by simp only [List.append_assoc, List.nil_append, List.append_nil])) (fun r1 u hp => ?_)
  replace hw := hp
  clear hp
  exact hRt 12 _ r1 (mI_1, mR_1) dX5_loses_12 hw
set_option maxHeartbeats 4000000 in
set_option maxRecDepth 100000 in
theorem mX5_loses (l : Launch) (D : va_G) (cyI cyB : ClassId) (aS : Nat → Nat) (aT : Nat → Nat) (aH : Nat → Nat) (aM : Nat → Nat) (kp : Value) (sI : Nat → Int32) (sR : Nat → Nat → Int32) (tI : Nat → Int32) (tR : Nat → Nat → Int32) (hI : Nat → Int32) (hR : Nat → Nat → Int32) (mI : Nat → Int32) (mR : Nat → Nat → Int32) {post : Int64 → (Nat → Int32) → (Nat → Nat → Int32) → Prop} (hw : pX5_loses sI sR tI tR hI hR mI mR post) : zMl l yX5_loses wsX5_loses 3 74 D cyI cyB [.ref (aS 0)] (wSt aH aM aT aS kp cyI sI sR ++ wTe aT cyB tI tR ++ wHo aH cyI hI hR ++ wMi aH aM cyI mI mR) (S := ((Nat → Int32) × (Nat → Nat → Int32))) (fun u => (wSt aH aM aT aS kp cyI sI sR ++ wTe aT cyB tI tR ++ wHo aH cyI hI hR ++ wMi aH aM cyI u.1 u.2)) (fun r u => post r u.1 u.2) :=
  z_metl (cc := cX5_loses) (nL := 1) (by decide +kernel) rfl (Nat.le_of_ble_eq_true rfl) (fun C hl F hRt => xX5_loses_0 sI sR tI tR hI hR mI mR F hRt hw)
theorem y_X5_loses : zY yX5_loses wsX5_loses cX5_loses 1 (some .long) 0 := ⟨⟨_, rfl⟩, by decide +kernel⟩
theorem iX5_carries_5 : ∀ w ∈ wsX50, w ∈ wsX5_carries := fun w h => List.mem_cons_of_mem _ (List.mem_append_left _ (List.mem_append_left _ (List.mem_append_left _ (List.mem_append_right _ h))))
theorem kX5_carries_21 : zL wsX5_carries RX5 21 5 1 (.object "StillRoom$Mind") true := zL5 iX5_carries_5 (by decide) (List.mem_of_getElem? (i := 1) rfl) rfl rfl
set_option maxHeartbeats 4000000 in
set_option maxRecDepth 100000 in
theorem xX5_carries_0 {C : zC} {D : va_G} {cyI cyB : ClassId} {aS : Nat → Nat} {aT : Nat → Nat} {aH : Nat → Nat} {aM : Nat → Nat} {kp : Value} (sI : Nat → Int32) (sR : Nat → Nat → Int32) (tI : Nat → Int32) (tR : Nat → Nat → Int32) (hI : Nat → Int32) (hR : Nat → Nat → Int32) (mI : Nat → Int32) (mR : Nat → Nat → Int32) (F : zF C D { frames := 3, cells := 0, slots := 0, locals := 74 } cX5_carries 1 wsX5_carries RX5 (some .long) cyI cyB) {post : Int64 → (Nat → Int32) → (Nat → Nat → Int32) → Prop} (hRt : zRl C D cX5_carries 1 (S := ((Nat → Int32) × (Nat → Nat → Int32))) (fun u => (wSt aH aM aT aS kp cyI sI sR ++ wTe aT cyB tI tR ++ wHo aH cyI hI hR ++ wMi aH aM cyI u.1 u.2)) (fun r u => post r u.1 u.2)) (hw : pX5_carries sI sR tI tR hI hR mI mR post) : zX C D 1 0 0 (wSt aH aM aT aS kp cyI sI sR ++ wTe aT cyB tI tR ++ wHo aH cyI hI hR ++ wMi aH aM cyI mI mR) 0 [(0, .ref (aS 0))] [] := by
  refine z_aload_n F dX5_carries_0 1 rfl 0 rfl ?_
  refine z_get F dX5_carries_1 4 rfl kX5_carries_21 0 rfl rfl ?_
  refine z_segVv (As := []) (st := []) F dX5_carries_4 7 rfl (mX2_begin C.1.2.1 D cyI cyB aH aM hI hR mI mR hw) y_X2_begin rfl gX5_carries_X2_begin rfl (ci := 2) (rq := 12) rfl rfl ⟨Nat.le_of_ble_eq_true rfl, Nat.le_of_ble_eq_true rfl⟩ ⟨Nat.zero_le _, Nat.zero_le _⟩ (Nat.le_of_ble_eq_true rfl) (wSt aH aM aT aS kp cyI sI sR ++ wTe aT cyB tI tR) [] (by simp only [List.append_assoc, List.nil_append, List.append_nil]) (fun _ => rfl) (fun u => (wSt aH aM aT aS kp cyI sI sR ++ wTe aT cyB tI tR ++ wHo aH cyI hI hR ++ wMi aH aM cyI u.1 u.2)) (fun u => (by simp only [List.append_assoc, List.nil_append, List.append_nil])) (fun u hp => ?_)
  obtain ⟨mI_1, mR_1⟩ := u
  replace hw := hp
  clear hp
  refine z_aload_n F dX5_carries_7 8 rfl 0 rfl ?_
  refine z_iconst F dX5_carries_8 9 rfl zki_1 ?_
  refine z_segVl (As := [.int 1]) (st := []) F dX5_carries_9 12 rfl (mX5_likely C.1.2.1 D cyI cyB aS aT aH aM kp 1 sI sR tI tR hI hR mI_1 mR_1 hw) y_X5_likely rfl gX5_carries_X5_likely rfl (ci := 5) (rq := 0) rfl rfl ⟨Nat.le_of_ble_eq_true rfl, Nat.le_of_ble_eq_true rfl⟩ ⟨Nat.zero_le _, Nat.zero_le _⟩ (Nat.le_of_ble_eq_true rfl) [] [] (by simp only [List.append_assoc, List.nil_append, List.append_nil]) (fun _ => rfl) (fun u => (wSt aH aM aT aS kp cyI sI sR ++ wTe aT cyB tI tR ++ wHo aH cyI hI hR ++ wMi aH aM cyI mI_1 mR_1)) (fun u => (by simp only [List.append_assoc, List.nil_append, List.append_nil])) (fun r1 u hp => ?_)
  replace hw := hp
  clear hp
  exact hRt 12 _ r1 (mI_1, mR_1) dX5_carries_12 hw
set_option maxHeartbeats 4000000 in
set_option maxRecDepth 100000 in
theorem mX5_carries (l : Launch) (D : va_G) (cyI cyB : ClassId) (aS : Nat → Nat) (aT : Nat → Nat) (aH : Nat → Nat) (aM : Nat → Nat) (kp : Value) (sI : Nat → Int32) (sR : Nat → Nat → Int32) (tI : Nat → Int32) (tR : Nat → Nat → Int32) (hI : Nat → Int32) (hR : Nat → Nat → Int32) (mI : Nat → Int32) (mR : Nat → Nat → Int32) {post : Int64 → (Nat → Int32) → (Nat → Nat → Int32) → Prop} (hw : pX5_carries sI sR tI tR hI hR mI mR post) : zMl l yX5_carries wsX5_carries 3 74 D cyI cyB [.ref (aS 0)] (wSt aH aM aT aS kp cyI sI sR ++ wTe aT cyB tI tR ++ wHo aH cyI hI hR ++ wMi aH aM cyI mI mR) (S := ((Nat → Int32) × (Nat → Nat → Int32))) (fun u => (wSt aH aM aT aS kp cyI sI sR ++ wTe aT cyB tI tR ++ wHo aH cyI hI hR ++ wMi aH aM cyI u.1 u.2)) (fun r u => post r u.1 u.2) :=
  z_metl (cc := cX5_carries) (nL := 1) (by decide +kernel) rfl (Nat.le_of_ble_eq_true rfl) (fun C hl F hRt => xX5_carries_0 sI sR tI tR hI hR mI mR F hRt hw)
theorem y_X5_carries : zY yX5_carries wsX5_carries cX5_carries 1 (some .long) 0 := ⟨⟨_, rfl⟩, by decide +kernel⟩
theorem iX5_runYears_1 : ∀ w ∈ wsX10, w ∈ wsX5_runYears := fun w h => List.mem_cons_of_mem _ (List.mem_append_left _ (List.mem_append_left _ (List.mem_append_right _ h)))
theorem iX5_runYears_5 : ∀ w ∈ wsX50, w ∈ wsX5_runYears := fun w h => List.mem_cons_of_mem _ (List.mem_append_left _ (List.mem_append_left _ (List.mem_append_left _ (List.mem_append_right _ h))))
theorem kX5_runYears_12 : zL wsX5_runYears RX5 12 5 0 (.object "StillRoom$House") true := zL5 iX5_runYears_5 (by decide) (List.mem_of_getElem? (i := 1) rfl) rfl rfl
theorem kX5_runYears_21 : zL wsX5_runYears RX5 21 5 1 (.object "StillRoom$Mind") true := zL5 iX5_runYears_5 (by decide) (List.mem_of_getElem? (i := 3) rfl) rfl rfl
theorem kX5_runYears_79 : zL wsX5_runYears RX5 79 1 6 .int false := zL1 iX5_runYears_1 (by decide) (List.mem_of_getElem? (i := 2) rfl) rfl rfl
theorem kX5_runYears_98 : zL wsX5_runYears RX5 98 1 1 (.array .int) true := zL1 iX5_runYears_1 (by decide) (List.mem_of_getElem? (i := 7) rfl) rfl rfl
set_option maxHeartbeats 4000000 in
set_option maxRecDepth 100000 in
theorem xX5_runYears_18 {C : zC} {D : va_G} {cyI cyB : ClassId} {aS : Nat → Nat} {aT : Nat → Nat} {aH : Nat → Nat} {aM : Nat → Nat} {kp : Value} (x1 : Int32) (x3 : Int32) (x6 : Int32) (sI : Nat → Int32) (sR : Nat → Nat → Int32) (tI : Nat → Int32) (tR : Nat → Nat → Int32) (hI : Nat → Int32) (hR : Nat → Nat → Int32) (F : zF C D { frames := 2, cells := 0, slots := 0, locals := 50 } cX5_runYears 8 wsX5_runYears RX5 (some .int) cyI cyB) {post : Int32 → (Nat → Int32) → (Nat → Nat → Int32) → Prop} (hRt : zRi C D cX5_runYears 8 (S := ((Nat → Int32) × (Nat → Nat → Int32))) (fun u => (wSt aH aM aT aS kp cyI sI sR ++ wTe aT cyB tI tR ++ wHo aH cyI hI hR ++ wMi aH aM cyI u.1 u.2)) (fun r u => post r u.1 u.2)) {k95 : Int32 → Int32 → (Nat → Int32) → (Nat → Nat → Int32) → Prop} (hk95 : ∀ (x4 : Int32) (x5 : Int32) (mI : Nat → Int32) (mR : Nat → Nat → Int32), k95 x4 x5 mI mR → zX C D 8 0 0 (wSt aH aM aT aS kp cyI sI sR ++ wTe aT cyB tI tR ++ wHo aH cyI hI hR ++ wMi aH aM cyI mI mR) 95 [(0, .ref (aS 0)), (1, .int x1), (3, .int x3), (4, .int x4), (5, .int x5), (6, .int x6)] []) : ∀ (n : Nat) (x4 : Int32) (x5 : Int32) (x7 : Int32) (mI : Nat → Int32) (mR : Nat → Nat → Int32), bX5_runYears_18 x1 x3 x6 sI sR tI tR hI hR post k95  n x4 x5 x7 mI mR → zX C D 8 0 0 (wSt aH aM aT aS kp cyI sI sR ++ wTe aT cyB tI tR ++ wHo aH cyI hI hR ++ wMi aH aM cyI mI mR) 18 [(0, .ref (aS 0)), (1, .int x1), (3, .int x3), (4, .int x4), (5, .int x5), (6, .int x6), (7, .int x7)] [] := by
  intro n
  induction n with
  | zero => intro _ _ _ _ _ hw; exact hw.elim
  | succ n ih =>
    intro x4 x5 x7 mI mR hw
    refine z_iload F dX5_runYears_18 20 rfl 6 rfl ?_
    refine z_aload_n F dX5_runYears_20 21 rfl 0 rfl ?_
    refine z_get F dX5_runYears_21 24 rfl kX5_runYears_12 0 rfl rfl ?_
    refine z_get F dX5_runYears_24 27 rfl kX5_runYears_79 6 rfl rfl ?_
    obtain ⟨hwt, hwf⟩ := hw
    refine z_icmpge F dX5_runYears_27 95 rfl 30 rfl (fun c2 => ?_) (fun c2 => ?_)
    · have hw := hwt c2; clear hwt hwf
      refine z_lv (lv' := [(0, .ref (aS 0)), (1, .int x1), (3, .int x3), (4, .int x4), (5, .int x5), (6, .int x6)]) [0, 1, 2, 3, 4, 5] rfl ?_
      exact hk95 x4 x5 mI mR hw
    · have hw := hwf c2; clear hwt hwf
      refine z_aload_n F dX5_runYears_30 31 rfl 0 rfl ?_
      refine z_get F dX5_runYears_31 34 rfl kX5_runYears_21 0 rfl rfl ?_
      refine z_iload F dX5_runYears_34 36 rfl 6 rfl ?_
      refine z_segVi (As := [.int x7]) (st := []) F dX5_runYears_36 39 rfl (mX2_isHere C.1.2.1 D cyI cyB aH aM x7 hI hR mI mR hw) y_X2_isHere rfl gX5_runYears_X2_isHere rfl (ci := 2) (rq := 12) rfl rfl ⟨Nat.le_of_ble_eq_true rfl, Nat.le_of_ble_eq_true rfl⟩ ⟨Nat.zero_le _, Nat.zero_le _⟩ (Nat.le_of_ble_eq_true rfl) (wSt aH aM aT aS kp cyI sI sR ++ wTe aT cyB tI tR) [] (by simp only [List.append_assoc, List.nil_append, List.append_nil]) (fun _ => rfl) (fun u => (wSt aH aM aT aS kp cyI sI sR ++ wTe aT cyB tI tR ++ wHo aH cyI hI hR ++ wMi aH aM cyI mI mR)) (fun u => (by simp only [List.append_assoc, List.nil_append, List.append_nil])) (fun r0 u hp => ?_)
      obtain ⟨b1, rfl, hw⟩ := hp
      obtain ⟨hwt, hwf⟩ := hw
      refine z_ifeqB F dX5_runYears_39 89 rfl 42 rfl (fun c3 => ?_) (fun c3 => ?_)
      · have hw := hwt c3; clear hwt hwf
        refine z_iinc F dX5_runYears_89 92 rfl 6 rfl (by decide) zki_1 (fun v1 => [(7, .int v1), (0, .ref (aS 0)), (1, .int x1), (3, .int x3), (4, .int x4), (5, .int x5), (6, .int x6)]) (fun _ => rfl) (fun v1 ev1 => ?_)
        replace hw := hw v1 ev1
        refine z_goto F dX5_runYears_92 18 rfl ?_
        refine z_lv (lv' := [(0, .ref (aS 0)), (1, .int x1), (3, .int x3), (4, .int x4), (5, .int x5), (6, .int x6), (7, .int v1)]) [1, 2, 3, 4, 5, 6, 0] rfl ?_
        exact ih x4 x5 v1 mI mR hw
      · have hw := hwf c3; clear hwt hwf
        refine z_iload F dX5_runYears_42 44 rfl 3 rfl ?_
        refine z_ldc F dX5_runYears_44 46 rfl (List.mem_of_getElem? (i := 4) rfl) ?_
        refine z_imul F dX5_runYears_46 47 rfl ?_
        refine z_sipush F dX5_runYears_47 50 rfl zks_12345 ?_
        refine z_iadd F dX5_runYears_50 51 rfl ?_
        refine z_topi (fun v2 ev2 => ?_)
        replace hw := hw v2 ev2
        refine z_istore (lv' := [(4, .int v2), (0, .ref (aS 0)), (1, .int x1), (3, .int x3), (5, .int x5), (6, .int x6), (7, .int x7)]) F dX5_runYears_51 53 rfl (by decide) rfl ?_
        refine z_iload F dX5_runYears_53 55 rfl 0 rfl ?_
        refine z_ldc F dX5_runYears_55 57 rfl (List.mem_of_getElem? (i := 5) rfl) ?_
        refine z_iand F dX5_runYears_57 58 rfl ?_
        refine z_ldc F dX5_runYears_58 60 rfl (List.mem_of_getElem? (i := 6) rfl) ?_
        refine z_idiv F dX5_runYears_60 61 rfl (by decide) ?_
        refine z_bipush F dX5_runYears_61 63 rfl zkb_100 ?_
        refine z_irem F dX5_runYears_63 64 rfl (by decide) ?_
        refine z_aload_n F dX5_runYears_64 65 rfl 1 rfl ?_
        refine z_get F dX5_runYears_65 68 rfl kX5_runYears_12 0 rfl rfl ?_
        refine z_get F dX5_runYears_68 71 rfl kX5_runYears_98 6 rfl rfl ?_
        refine z_iload F dX5_runYears_71 73 rfl 6 rfl ?_
        obtain ⟨j1, ej1, hj1, hw⟩ := hw
        refine z_iald F dX5_runYears_73 74 rfl 8 rfl (by decide) j1 ej1 hj1 ?_
        obtain ⟨hwt, hwf⟩ := hw
        refine z_icmpge F dX5_runYears_74 89 rfl 77 rfl (fun c4 => ?_) (fun c4 => ?_)
        · have hw := hwt c4; clear hwt hwf
          refine z_iinc F dX5_runYears_89 92 rfl 6 rfl (by decide) zki_1 (fun v3 => [(7, .int v3), (4, .int v2), (0, .ref (aS 0)), (1, .int x1), (3, .int x3), (5, .int x5), (6, .int x6)]) (fun _ => rfl) (fun v3 ev3 => ?_)
          replace hw := hw v3 ev3
          refine z_goto F dX5_runYears_92 18 rfl ?_
          refine z_lv (lv' := [(0, .ref (aS 0)), (1, .int x1), (3, .int x3), (4, .int v2), (5, .int x5), (6, .int x6), (7, .int v3)]) [2, 3, 4, 1, 5, 6, 0] rfl ?_
          exact ih v2 x5 v3 mI mR hw
        · have hw := hwf c4; clear hwt hwf
          refine z_aload_n F dX5_runYears_77 78 rfl 1 rfl ?_
          refine z_get F dX5_runYears_78 81 rfl kX5_runYears_21 0 rfl rfl ?_
          refine z_iload F dX5_runYears_81 83 rfl 6 rfl ?_
          refine z_segVv (As := [.int x7]) (st := []) F dX5_runYears_83 86 rfl (mX2_leave C.1.2.1 D cyI cyB aH aM x7 hI hR mI mR hw) y_X2_leave rfl gX5_runYears_X2_leave rfl (ci := 2) (rq := 12) rfl rfl ⟨Nat.le_of_ble_eq_true rfl, Nat.le_of_ble_eq_true rfl⟩ ⟨Nat.zero_le _, Nat.zero_le _⟩ (Nat.le_of_ble_eq_true rfl) (wSt aH aM aT aS kp cyI sI sR ++ wTe aT cyB tI tR) [] (by simp only [List.append_assoc, List.nil_append, List.append_nil]) (fun _ => rfl) (fun u => (wSt aH aM aT aS kp cyI sI sR ++ wTe aT cyB tI tR ++ wHo aH cyI hI hR ++ wMi aH aM cyI u.1 u.2)) (fun u => (by simp only [List.append_assoc, List.nil_append, List.append_nil])) (fun u hp => ?_)
          obtain ⟨mI_1, mR_1⟩ := u
          replace hw := hp
          clear hp
          refine z_iinc F dX5_runYears_86 89 rfl 4 rfl (by decide) zki_1 (fun v4 => [(5, .int v4), (4, .int v2), (0, .ref (aS 0)), (1, .int x1), (3, .int x3), (6, .int x6), (7, .int x7)]) (fun _ => rfl) (fun v4 ev4 => ?_)
          replace hw := hw v4 ev4
          refine z_iinc F dX5_runYears_89 92 rfl 6 rfl (by decide) zki_1 (fun v5 => [(7, .int v5), (5, .int v4), (4, .int v2), (0, .ref (aS 0)), (1, .int x1), (3, .int x3), (6, .int x6)]) (fun _ => rfl) (fun v5 ev5 => ?_)
          replace hw := hw v5 ev5
          refine z_goto F dX5_runYears_92 18 rfl ?_
          refine z_lv (lv' := [(0, .ref (aS 0)), (1, .int x1), (3, .int x3), (4, .int v2), (5, .int v4), (6, .int x6), (7, .int v5)]) [3, 4, 5, 2, 1, 6, 0] rfl ?_
          exact ih v2 v4 v5 mI_1 mR_1 hw
set_option maxHeartbeats 4000000 in
set_option maxRecDepth 100000 in
theorem xX5_runYears_9 {C : zC} {D : va_G} {cyI cyB : ClassId} {aS : Nat → Nat} {aT : Nat → Nat} {aH : Nat → Nat} {aM : Nat → Nat} {kp : Value} (x1 : Int32) (x3 : Int32) (sI : Nat → Int32) (sR : Nat → Nat → Int32) (tI : Nat → Int32) (tR : Nat → Nat → Int32) (hI : Nat → Int32) (hR : Nat → Nat → Int32) (F : zF C D { frames := 2, cells := 0, slots := 0, locals := 50 } cX5_runYears 8 wsX5_runYears RX5 (some .int) cyI cyB) {post : Int32 → (Nat → Int32) → (Nat → Nat → Int32) → Prop} (hRt : zRi C D cX5_runYears 8 (S := ((Nat → Int32) × (Nat → Nat → Int32))) (fun u => (wSt aH aM aT aS kp cyI sI sR ++ wTe aT cyB tI tR ++ wHo aH cyI hI hR ++ wMi aH aM cyI u.1 u.2)) (fun r u => post r u.1 u.2)) {k121 : Int32 → (Nat → Int32) → (Nat → Nat → Int32) → Prop} (hk121 : ∀ (x5 : Int32) (mI : Nat → Int32) (mR : Nat → Nat → Int32), k121 x5 mI mR → zX C D 8 0 0 (wSt aH aM aT aS kp cyI sI sR ++ wTe aT cyB tI tR ++ wHo aH cyI hI hR ++ wMi aH aM cyI mI mR) 121 [(3, .int x3), (5, .int x5)] []) : ∀ (n : Nat) (x4 : Int32) (x5 : Int32) (x6 : Int32) (mI : Nat → Int32) (mR : Nat → Nat → Int32), bX5_runYears_9 x1 x3 sI sR tI tR hI hR post k121  n x4 x5 x6 mI mR → zX C D 8 0 0 (wSt aH aM aT aS kp cyI sI sR ++ wTe aT cyB tI tR ++ wHo aH cyI hI hR ++ wMi aH aM cyI mI mR) 9 [(0, .ref (aS 0)), (1, .int x1), (3, .int x3), (4, .int x4), (5, .int x5), (6, .int x6)] [] := by
  intro n
  induction n with
  | zero => intro _ _ _ _ _ hw; exact hw.elim
  | succ n ih =>
    intro x4 x5 x6 mI mR hw
    refine z_iload F dX5_runYears_9 11 rfl 5 rfl ?_
    refine z_iload_n F dX5_runYears_11 12 rfl 1 rfl ?_
    obtain ⟨hwt, hwf⟩ := hw
    refine z_icmpgt F dX5_runYears_12 121 rfl 15 rfl (fun c1 => ?_) (fun c1 => ?_)
    · have hw := hwt c1; clear hwt hwf
      refine z_lv (lv' := [(3, .int x3), (5, .int x5)]) [2, 4] rfl ?_
      exact hk121 x5 mI mR hw
    · have hw := hwf c1; clear hwt hwf
      refine z_iconst F dX5_runYears_15 16 rfl zki_0 ?_
      refine z_istore (lv' := [(7, .int 0), (0, .ref (aS 0)), (1, .int x1), (3, .int x3), (4, .int x4), (5, .int x5), (6, .int x6)]) F dX5_runYears_16 18 rfl (by decide) rfl ?_
      obtain ⟨n1, hw⟩ := hw
      refine z_lv (lv' := [(0, .ref (aS 0)), (1, .int x1), (3, .int x3), (4, .int x4), (5, .int x5), (6, .int x6), (7, .int 0)]) [1, 2, 3, 4, 5, 6, 0] rfl ?_
      refine xX5_runYears_18 x1 x3 x6 sI sR tI tR hI hR F hRt (fun w1 w2 mI_1 mR_1 hw => ?_) n1 x4 x5 0 mI mR hw
      refine z_iload_n F dX5_runYears_95 96 rfl 2 rfl ?_
      refine z_iconst F dX5_runYears_96 97 rfl zki_2 ?_
      obtain ⟨hwt, hwf⟩ := hw
      refine z_icmpeq F dX5_runYears_97 115 rfl 100 rfl (fun c2 => ?_) (fun c2 => ?_)
      · have hw := hwt c2; clear hwt hwf
        refine z_iinc F dX5_runYears_115 118 rfl 5 rfl (by decide) zki_1 (fun v1 => [(6, .int v1), (0, .ref (aS 0)), (1, .int x1), (3, .int x3), (4, .int w1), (5, .int w2)]) (fun _ => rfl) (fun v1 ev1 => ?_)
        replace hw := hw v1 ev1
        refine z_goto F dX5_runYears_118 9 rfl ?_
        refine z_lv (lv' := [(0, .ref (aS 0)), (1, .int x1), (3, .int x3), (4, .int w1), (5, .int w2), (6, .int v1)]) [1, 2, 3, 4, 5, 0] rfl ?_
        exact ih w1 w2 v1 mI_1 mR_1 hw
      · have hw := hwf c2; clear hwt hwf
        refine z_aload_n F dX5_runYears_100 101 rfl 0 rfl ?_
        refine z_get F dX5_runYears_101 104 rfl kX5_runYears_21 0 rfl rfl ?_
        refine z_iload_n F dX5_runYears_104 105 rfl 2 rfl ?_
        refine z_iconst F dX5_runYears_105 106 rfl zki_0 ?_
        refine z_segVi (As := [.int x3, .int 0]) (st := []) F dX5_runYears_106 109 rfl (mX2_happens C.1.2.1 D cyI cyB aH aM x3 0 hI hR mI_1 mR_1 hw) y_X2_happens rfl gX5_runYears_X2_happens rfl (ci := 2) (rq := 12) rfl rfl ⟨Nat.le_of_ble_eq_true rfl, Nat.le_of_ble_eq_true rfl⟩ ⟨Nat.zero_le _, Nat.zero_le _⟩ (Nat.le_of_ble_eq_true rfl) (wSt aH aM aT aS kp cyI sI sR ++ wTe aT cyB tI tR) [] (by simp only [List.append_assoc, List.nil_append, List.append_nil]) (fun _ => rfl) (fun u => (wSt aH aM aT aS kp cyI sI sR ++ wTe aT cyB tI tR ++ wHo aH cyI hI hR ++ wMi aH aM cyI mI_1 mR_1)) (fun u => (by simp only [List.append_assoc, List.nil_append, List.append_nil])) (fun r0 u hp => ?_)
        obtain ⟨b1, rfl, hw⟩ := hp
        obtain ⟨hwt, hwf⟩ := hw
        refine z_ifeqB F dX5_runYears_109 115 rfl 112 rfl (fun c3 => ?_) (fun c3 => ?_)
        · have hw := hwt c3; clear hwt hwf
          refine z_iinc F dX5_runYears_115 118 rfl 5 rfl (by decide) zki_1 (fun v2 => [(6, .int v2), (0, .ref (aS 0)), (1, .int x1), (3, .int x3), (4, .int w1), (5, .int w2)]) (fun _ => rfl) (fun v2 ev2 => ?_)
          replace hw := hw v2 ev2
          refine z_goto F dX5_runYears_118 9 rfl ?_
          refine z_lv (lv' := [(0, .ref (aS 0)), (1, .int x1), (3, .int x3), (4, .int w1), (5, .int w2), (6, .int v2)]) [1, 2, 3, 4, 5, 0] rfl ?_
          exact ih w1 w2 v2 mI_1 mR_1 hw
        · have hw := hwf c3; clear hwt hwf
          refine z_iload F dX5_runYears_112 114 rfl 5 rfl ?_
          exact hRt 114 _ x6 (mI_1, mR_1) dX5_runYears_114 hw
set_option maxHeartbeats 4000000 in
set_option maxRecDepth 100000 in
theorem xX5_runYears_0 {C : zC} {D : va_G} {cyI cyB : ClassId} {aS : Nat → Nat} {aT : Nat → Nat} {aH : Nat → Nat} {aM : Nat → Nat} {kp : Value} (x1 : Int32) (x2 : Int32) (x3 : Int32) (sI : Nat → Int32) (sR : Nat → Nat → Int32) (tI : Nat → Int32) (tR : Nat → Nat → Int32) (hI : Nat → Int32) (hR : Nat → Nat → Int32) (mI : Nat → Int32) (mR : Nat → Nat → Int32) (F : zF C D { frames := 2, cells := 0, slots := 0, locals := 50 } cX5_runYears 8 wsX5_runYears RX5 (some .int) cyI cyB) {post : Int32 → (Nat → Int32) → (Nat → Nat → Int32) → Prop} (hRt : zRi C D cX5_runYears 8 (S := ((Nat → Int32) × (Nat → Nat → Int32))) (fun u => (wSt aH aM aT aS kp cyI sI sR ++ wTe aT cyB tI tR ++ wHo aH cyI hI hR ++ wMi aH aM cyI u.1 u.2)) (fun r u => post r u.1 u.2)) (hw : pX5_runYears x1 x2 x3 sI sR tI tR hI hR mI mR post) : zX C D 8 0 0 (wSt aH aM aT aS kp cyI sI sR ++ wTe aT cyB tI tR ++ wHo aH cyI hI hR ++ wMi aH aM cyI mI mR) 0 [(0, .ref (aS 0)), (1, .int x1), (2, .int x2), (3, .int x3)] [] := by
  refine z_iload_n F dX5_runYears_0 1 rfl 2 rfl ?_
  refine z_istore (lv' := [(4, .int x2), (0, .ref (aS 0)), (1, .int x1), (2, .int x2), (3, .int x3)]) F dX5_runYears_1 3 rfl (by decide) rfl ?_
  refine z_iconst F dX5_runYears_3 4 rfl zki_0 ?_
  refine z_istore (lv' := [(5, .int 0), (4, .int x2), (0, .ref (aS 0)), (1, .int x1), (2, .int x2), (3, .int x3)]) F dX5_runYears_4 6 rfl (by decide) rfl ?_
  refine z_iconst F dX5_runYears_6 7 rfl zki_1 ?_
  refine z_istore (lv' := [(6, .int 1), (5, .int 0), (4, .int x2), (0, .ref (aS 0)), (1, .int x1), (2, .int x2), (3, .int x3)]) F dX5_runYears_7 9 rfl (by decide) rfl ?_
  obtain ⟨n1, hw⟩ := hw
  refine z_lv (lv' := [(0, .ref (aS 0)), (1, .int x1), (3, .int x3), (4, .int x2), (5, .int 0), (6, .int 1)]) [3, 4, 6, 2, 1, 0] rfl ?_
  refine xX5_runYears_9 x1 x3 sI sR tI tR hI hR F hRt (fun w1 mI_1 mR_1 hw => ?_) n1 x2 0 1 mI mR hw
  refine z_iload_n F dX5_runYears_121 122 rfl 0 rfl ?_
  refine z_iconst F dX5_runYears_122 123 rfl zki_2 ?_
  obtain ⟨hwt, hwf⟩ := hw
  refine z_icmpne F dX5_runYears_123 131 rfl 126 rfl (fun c1 => ?_) (fun c1 => ?_)
  · have hw := hwt c1; clear hwt hwf
    refine z_bipush F dX5_runYears_131 133 rfl zkb_m9 ?_
    exact hRt 133 _ (-9) (mI_1, mR_1) dX5_runYears_133 hw
  · have hw := hwf c1; clear hwt hwf
    refine z_iload F dX5_runYears_126 128 rfl 1 rfl ?_
    refine z_goto F dX5_runYears_128 133 rfl ?_
    exact hRt 133 _ w1 (mI_1, mR_1) dX5_runYears_133 hw
set_option maxHeartbeats 4000000 in
set_option maxRecDepth 100000 in
theorem mX5_runYears (l : Launch) (D : va_G) (cyI cyB : ClassId) (aS : Nat → Nat) (aT : Nat → Nat) (aH : Nat → Nat) (aM : Nat → Nat) (kp : Value) (x1 : Int32) (x2 : Int32) (x3 : Int32) (sI : Nat → Int32) (sR : Nat → Nat → Int32) (tI : Nat → Int32) (tR : Nat → Nat → Int32) (hI : Nat → Int32) (hR : Nat → Nat → Int32) (mI : Nat → Int32) (mR : Nat → Nat → Int32) {post : Int32 → (Nat → Int32) → (Nat → Nat → Int32) → Prop} (hw : pX5_runYears x1 x2 x3 sI sR tI tR hI hR mI mR post) : zMi l yX5_runYears wsX5_runYears 2 50 D cyI cyB [.ref (aS 0), .int x1, .int x2, .int x3] (wSt aH aM aT aS kp cyI sI sR ++ wTe aT cyB tI tR ++ wHo aH cyI hI hR ++ wMi aH aM cyI mI mR) (S := ((Nat → Int32) × (Nat → Nat → Int32))) (fun u => (wSt aH aM aT aS kp cyI sI sR ++ wTe aT cyB tI tR ++ wHo aH cyI hI hR ++ wMi aH aM cyI u.1 u.2)) (fun r u => post r u.1 u.2) :=
  z_meti (cc := cX5_runYears) (nL := 8) (by decide +kernel) rfl (Nat.le_of_ble_eq_true rfl) (fun C hl F hRt => xX5_runYears_0 x1 x2 x3 sI sR tI tR hI hR mI mR F hRt hw)
theorem y_X5_runYears : zY yX5_runYears wsX5_runYears cX5_runYears 8 (some .int) 3 := ⟨⟨_, rfl⟩, by decide +kernel⟩
theorem iX5_run_5 : ∀ w ∈ wsX50, w ∈ wsX5_run := fun w h => List.mem_cons_of_mem _ (List.mem_append_left _ (List.mem_append_left _ (List.mem_append_left _ (List.mem_append_right _ h))))
theorem kX5_run_21 : zL wsX5_run RX5 21 5 1 (.object "StillRoom$Mind") true := zL5 iX5_run_5 (by decide) (List.mem_of_getElem? (i := 1) rfl) rfl rfl
set_option maxHeartbeats 4000000 in
set_option maxRecDepth 100000 in
theorem xX5_run_0 {C : zC} {D : va_G} {cyI cyB : ClassId} {aS : Nat → Nat} {aT : Nat → Nat} {aH : Nat → Nat} {aM : Nat → Nat} {kp : Value} (x1 : Int32) (x2 : Int32) (x3 : Int32) (sI : Nat → Int32) (sR : Nat → Nat → Int32) (tI : Nat → Int32) (tR : Nat → Nat → Int32) (hI : Nat → Int32) (hR : Nat → Nat → Int32) (mI : Nat → Int32) (mR : Nat → Nat → Int32) (F : zF C D { frames := 3, cells := 0, slots := 0, locals := 77 } cX5_run 5 wsX5_run RX5 (some .int) cyI cyB) {post : Int32 → (Nat → Int32) → (Nat → Nat → Int32) → (Nat → Int32) → (Nat → Nat → Int32) → Prop} (hRt : zRi C D cX5_run 5 (S := ((Nat → Int32) × (Nat → Nat → Int32) × (Nat → Int32) × (Nat → Nat → Int32))) (fun u => (wSt aH aM aT aS kp cyI u.1 u.2.1 ++ wTe aT cyB tI tR ++ wHo aH cyI hI hR ++ wMi aH aM cyI u.2.2.1 u.2.2.2)) (fun r u => post r u.1 u.2.1 u.2.2.1 u.2.2.2)) (hw : pX5_run x1 x2 x3 sI sR tI tR hI hR mI mR post) : zX C D 5 0 0 (wSt aH aM aT aS kp cyI sI sR ++ wTe aT cyB tI tR ++ wHo aH cyI hI hR ++ wMi aH aM cyI mI mR) 0 [(0, .ref (aS 0)), (1, .int x1), (2, .int x2), (3, .int x3)] [] := by
  refine z_iload_n F dX5_run_0 1 rfl 3 rfl ?_
  obtain ⟨hwt, hwf⟩ := hw
  refine z_iflt F dX5_run_1 9 rfl 4 rfl (fun c1 => ?_) (fun c1 => ?_)
  · have hw := hwt c1; clear hwt hwf
    refine z_aload_n F dX5_run_9 10 rfl 0 rfl ?_
    refine z_bipush F dX5_run_10 12 rfl zkb_m2 ?_
    refine z_segVi (As := [.int (-2)]) (st := []) F dX5_run_12 15 rfl (mX5_refuse C.1.2.1 D cyI cyB aS aH aM aT kp (-2) sI sR hw) y_X5_refuse rfl gX5_run_X5_refuse rfl (ci := 5) (rq := 0) rfl rfl ⟨Nat.le_of_ble_eq_true rfl, Nat.le_of_ble_eq_true rfl⟩ ⟨Nat.zero_le _, Nat.zero_le _⟩ (Nat.le_of_ble_eq_true rfl) [] (wTe aT cyB tI tR ++ wHo aH cyI hI hR ++ wMi aH aM cyI mI mR) (by simp only [List.append_assoc, List.nil_append, List.append_nil]) (fun _ => rfl) (fun u => (wSt aH aM aT aS kp cyI u.1 u.2 ++ wTe aT cyB tI tR ++ wHo aH cyI hI hR ++ wMi aH aM cyI mI mR)) (fun u => (by simp only [List.append_assoc, List.nil_append, List.append_nil])) (fun r1 u hp => ?_)
    obtain ⟨sI_1, sR_1⟩ := u
    replace hw := hp
    clear hp
    exact hRt 15 _ r1 (sI_1, sR_1, mI, mR) dX5_run_15 hw
  · have hw := hwf c1; clear hwt hwf
    refine z_iload_n F dX5_run_4 5 rfl 3 rfl ?_
    refine z_iconst F dX5_run_5 6 rfl zki_2 ?_
    obtain ⟨hwt, hwf⟩ := hw
    refine z_icmple F dX5_run_6 16 rfl 9 rfl (fun c2 => ?_) (fun c2 => ?_)
    · have hw := hwt c2; clear hwt hwf
      refine z_iload_n F dX5_run_16 17 rfl 1 rfl ?_
      refine z_iconst F dX5_run_17 18 rfl zki_1 ?_
      refine z_bipush F dX5_run_18 20 rfl zkb_50 ?_
      refine z_callSi (As := [.int x1, .int 1, .int 50]) (st := []) F dX5_run_20 23 rfl (mX5_outside C.1.2.1 D cyI cyB x1 1 50 hw) y_X5_outside rfl gX5_run_X5_outside ⟨Nat.le_of_ble_eq_true rfl, Nat.le_of_ble_eq_true rfl⟩ ⟨Nat.zero_le _, Nat.zero_le _⟩ (Nat.le_of_ble_eq_true rfl) [] (by decide) rfl (fun _ => rfl) (fun u => (wSt aH aM aT aS kp cyI sI sR ++ wTe aT cyB tI tR ++ wHo aH cyI hI hR ++ wMi aH aM cyI mI mR)) (fun _ => rfl) (fun r2 u hp => ?_)
      replace hw := hp
      clear hp
      refine z_istore (lv' := [(4, .int r2), (0, .ref (aS 0)), (1, .int x1), (2, .int x2), (3, .int x3)]) F dX5_run_23 25 rfl (by decide) rfl ?_
      refine z_iload F dX5_run_25 27 rfl 0 rfl ?_
      obtain ⟨hwt, hwf⟩ := hw
      refine z_ifeq F dX5_run_27 37 rfl 30 rfl (fun c3 => ?_) (fun c3 => ?_)
      · have hw := hwt c3; clear hwt hwf
        refine z_aload_n F dX5_run_37 38 rfl 1 rfl ?_
        refine z_get F dX5_run_38 41 rfl kX5_run_21 0 rfl rfl ?_
        refine z_segVv (As := []) (st := []) F dX5_run_41 44 rfl (mX2_begin C.1.2.1 D cyI cyB aH aM hI hR mI mR hw) y_X2_begin rfl gX5_run_X2_begin rfl (ci := 2) (rq := 12) rfl rfl ⟨Nat.le_of_ble_eq_true rfl, Nat.le_of_ble_eq_true rfl⟩ ⟨Nat.zero_le _, Nat.zero_le _⟩ (Nat.le_of_ble_eq_true rfl) (wSt aH aM aT aS kp cyI sI sR ++ wTe aT cyB tI tR) [] (by simp only [List.append_assoc, List.nil_append, List.append_nil]) (fun _ => rfl) (fun u => (wSt aH aM aT aS kp cyI sI sR ++ wTe aT cyB tI tR ++ wHo aH cyI hI hR ++ wMi aH aM cyI u.1 u.2)) (fun u => (by simp only [List.append_assoc, List.nil_append, List.append_nil])) (fun u hp => ?_)
        obtain ⟨mI_1, mR_1⟩ := u
        replace hw := hp
        clear hp
        refine z_aload_n F dX5_run_44 45 rfl 1 rfl ?_
        refine z_iload_n F dX5_run_45 46 rfl 2 rfl ?_
        refine z_iload_n F dX5_run_46 47 rfl 3 rfl ?_
        refine z_iload_n F dX5_run_47 48 rfl 4 rfl ?_
        refine z_segVi (As := [.int x1, .int x2, .int x3]) (st := []) F dX5_run_48 51 rfl (mX5_runYears C.1.2.1 D cyI cyB aS aT aH aM kp x1 x2 x3 sI sR tI tR hI hR mI_1 mR_1 hw) y_X5_runYears rfl gX5_run_X5_runYears rfl (ci := 5) (rq := 0) rfl rfl ⟨Nat.le_of_ble_eq_true rfl, Nat.le_of_ble_eq_true rfl⟩ ⟨Nat.zero_le _, Nat.zero_le _⟩ (Nat.le_of_ble_eq_true rfl) [] [] (by simp only [List.append_assoc, List.nil_append, List.append_nil]) (fun _ => rfl) (fun u => (wSt aH aM aT aS kp cyI sI sR ++ wTe aT cyB tI tR ++ wHo aH cyI hI hR ++ wMi aH aM cyI u.1 u.2)) (fun u => (by simp only [List.append_assoc, List.nil_append, List.append_nil])) (fun r3 u hp => ?_)
        obtain ⟨mI_2, mR_2⟩ := u
        replace hw := hp
        clear hp
        exact hRt 51 _ r3 (sI, sR, mI_2, mR_2) dX5_run_51 hw
      · have hw := hwf c3; clear hwt hwf
        refine z_aload_n F dX5_run_30 31 rfl 1 rfl ?_
        refine z_iload F dX5_run_31 33 rfl 0 rfl ?_
        refine z_segVi (As := [.int r2]) (st := []) F dX5_run_33 36 rfl (mX5_refuse C.1.2.1 D cyI cyB aS aH aM aT kp r2 sI sR hw) y_X5_refuse rfl gX5_run_X5_refuse rfl (ci := 5) (rq := 0) rfl rfl ⟨Nat.le_of_ble_eq_true rfl, Nat.le_of_ble_eq_true rfl⟩ ⟨Nat.zero_le _, Nat.zero_le _⟩ (Nat.le_of_ble_eq_true rfl) [] (wTe aT cyB tI tR ++ wHo aH cyI hI hR ++ wMi aH aM cyI mI mR) (by simp only [List.append_assoc, List.nil_append, List.append_nil]) (fun _ => rfl) (fun u => (wSt aH aM aT aS kp cyI u.1 u.2 ++ wTe aT cyB tI tR ++ wHo aH cyI hI hR ++ wMi aH aM cyI mI mR)) (fun u => (by simp only [List.append_assoc, List.nil_append, List.append_nil])) (fun r4 u hp => ?_)
        obtain ⟨sI_2, sR_2⟩ := u
        replace hw := hp
        clear hp
        exact hRt 36 _ r4 (sI_2, sR_2, mI, mR) dX5_run_36 hw
    · have hw := hwf c2; clear hwt hwf
      refine z_aload_n F dX5_run_9 10 rfl 0 rfl ?_
      refine z_bipush F dX5_run_10 12 rfl zkb_m2 ?_
      refine z_segVi (As := [.int (-2)]) (st := []) F dX5_run_12 15 rfl (mX5_refuse C.1.2.1 D cyI cyB aS aH aM aT kp (-2) sI sR hw) y_X5_refuse rfl gX5_run_X5_refuse rfl (ci := 5) (rq := 0) rfl rfl ⟨Nat.le_of_ble_eq_true rfl, Nat.le_of_ble_eq_true rfl⟩ ⟨Nat.zero_le _, Nat.zero_le _⟩ (Nat.le_of_ble_eq_true rfl) [] (wTe aT cyB tI tR ++ wHo aH cyI hI hR ++ wMi aH aM cyI mI mR) (by simp only [List.append_assoc, List.nil_append, List.append_nil]) (fun _ => rfl) (fun u => (wSt aH aM aT aS kp cyI u.1 u.2 ++ wTe aT cyB tI tR ++ wHo aH cyI hI hR ++ wMi aH aM cyI mI mR)) (fun u => (by simp only [List.append_assoc, List.nil_append, List.append_nil])) (fun r5 u hp => ?_)
      obtain ⟨sI_3, sR_3⟩ := u
      replace hw := hp
      clear hp
      exact hRt 15 _ r5 (sI_3, sR_3, mI, mR) dX5_run_15 hw
set_option maxHeartbeats 4000000 in
set_option maxRecDepth 100000 in
theorem mX5_run (l : Launch) (D : va_G) (cyI cyB : ClassId) (aS : Nat → Nat) (aT : Nat → Nat) (aH : Nat → Nat) (aM : Nat → Nat) (kp : Value) (x1 : Int32) (x2 : Int32) (x3 : Int32) (sI : Nat → Int32) (sR : Nat → Nat → Int32) (tI : Nat → Int32) (tR : Nat → Nat → Int32) (hI : Nat → Int32) (hR : Nat → Nat → Int32) (mI : Nat → Int32) (mR : Nat → Nat → Int32) {post : Int32 → (Nat → Int32) → (Nat → Nat → Int32) → (Nat → Int32) → (Nat → Nat → Int32) → Prop} (hw : pX5_run x1 x2 x3 sI sR tI tR hI hR mI mR post) : zMi l yX5_run wsX5_run 3 77 D cyI cyB [.ref (aS 0), .int x1, .int x2, .int x3] (wSt aH aM aT aS kp cyI sI sR ++ wTe aT cyB tI tR ++ wHo aH cyI hI hR ++ wMi aH aM cyI mI mR) (S := ((Nat → Int32) × (Nat → Nat → Int32) × (Nat → Int32) × (Nat → Nat → Int32))) (fun u => (wSt aH aM aT aS kp cyI u.1 u.2.1 ++ wTe aT cyB tI tR ++ wHo aH cyI hI hR ++ wMi aH aM cyI u.2.2.1 u.2.2.2)) (fun r u => post r u.1 u.2.1 u.2.2.1 u.2.2.2) :=
  z_meti (cc := cX5_run) (nL := 5) (by decide +kernel) rfl (Nat.le_of_ble_eq_true rfl) (fun C hl F hRt => xX5_run_0 x1 x2 x3 sI sR tI tR hI hR mI mR F hRt hw)
theorem y_X5_run : zY yX5_run wsX5_run cX5_run 5 (some .int) 3 := ⟨⟨_, rfl⟩, by decide +kernel⟩
theorem iX5_put_5 : ∀ w ∈ wsX50, w ∈ wsX5_put := fun w h => List.mem_cons_of_mem _ (List.mem_append_right _ h)
theorem kX5_put_32 : zL wsX5_put RX5 32 5 3 (.array .int) true := zL5 iX5_put_5 (by decide) (List.mem_of_getElem? (i := 2) rfl) rfl rfl
theorem kX5_put_42 : zL wsX5_put RX5 42 5 6 .int false := zL5 iX5_put_5 (by decide) (List.mem_of_getElem? (i := 1) rfl) rfl rfl
set_option maxHeartbeats 4000000 in
set_option maxRecDepth 100000 in
theorem xX5_put_0 {C : zC} {D : va_G} {cyI cyB : ClassId} {aS : Nat → Nat} {aT : Nat → Nat} {aH : Nat → Nat} {aM : Nat → Nat} {kp : Value} (x1 : Int32) (sI : Nat → Int32) (sR : Nat → Nat → Int32) (tI : Nat → Int32) (tR : Nat → Nat → Int32) (hI : Nat → Int32) (hR : Nat → Nat → Int32) (mI : Nat → Int32) (mR : Nat → Nat → Int32) (F : zF C D { frames := 1, cells := 0, slots := 0, locals := 22 } cX5_put 2 wsX5_put RX5 (some .int) cyI cyB) {post : Int32 → (Nat → Int32) → (Nat → Nat → Int32) → Prop} (hRt : zRi C D cX5_put 2 (S := ((Nat → Int32) × (Nat → Nat → Int32))) (fun u => (wSt aH aM aT aS kp cyI u.1 u.2 ++ wTe aT cyB tI tR ++ wHo aH cyI hI hR ++ wMi aH aM cyI mI mR)) (fun r u => post r u.1 u.2)) (hw : pX5_put x1 sI sR tI tR hI hR mI mR post) : zX C D 2 0 0 (wSt aH aM aT aS kp cyI sI sR ++ wTe aT cyB tI tR ++ wHo aH cyI hI hR ++ wMi aH aM cyI mI mR) 0 [(0, .ref (aS 0)), (1, .int x1)] [] := by
  refine z_iload_n F dX5_put_0 1 rfl 1 rfl ?_
  obtain ⟨hwt, hwf⟩ := hw
  refine z_ifge F dX5_put_1 11 rfl 4 rfl (fun c1 => ?_) (fun c1 => ?_)
  · have hw := hwt c1; clear hwt hwf
    refine z_iload_n F dX5_put_11 12 rfl 1 rfl ?_
    refine z_bipush F dX5_put_12 14 rfl zkb_8 ?_
    obtain ⟨hwt, hwf⟩ := hw
    refine z_icmpge F dX5_put_14 26 rfl 17 rfl (fun c2 => ?_) (fun c2 => ?_)
    · have hw := hwt c2; clear hwt hwf
      refine z_aload_n F dX5_put_26 27 rfl 0 rfl ?_
      refine z_bipush F dX5_put_27 29 rfl zkb_m6 ?_
      refine z_segVi (As := [.int (-6)]) (st := []) F dX5_put_29 32 rfl (mX5_refuse C.1.2.1 D cyI cyB aS aH aM aT kp (-6) sI sR hw) y_X5_refuse rfl gX5_put_X5_refuse rfl (ci := 5) (rq := 0) rfl rfl ⟨Nat.le_of_ble_eq_true rfl, Nat.le_of_ble_eq_true rfl⟩ ⟨Nat.zero_le _, Nat.zero_le _⟩ (Nat.le_of_ble_eq_true rfl) [] (wTe aT cyB tI tR ++ wHo aH cyI hI hR ++ wMi aH aM cyI mI mR) (by simp only [List.append_assoc, List.nil_append, List.append_nil]) (fun _ => rfl) (fun u => (wSt aH aM aT aS kp cyI u.1 u.2 ++ wTe aT cyB tI tR ++ wHo aH cyI hI hR ++ wMi aH aM cyI mI mR)) (fun u => (by simp only [List.append_assoc, List.nil_append, List.append_nil])) (fun r1 u hp => ?_)
      obtain ⟨sI_1, sR_1⟩ := u
      replace hw := hp
      clear hp
      exact hRt 32 _ r1 (sI_1, sR_1) dX5_put_32 hw
    · have hw := hwf c2; clear hwt hwf
      refine z_aload_n F dX5_put_17 18 rfl 0 rfl ?_
      refine z_get F dX5_put_18 21 rfl kX5_put_42 0 rfl rfl ?_
      refine z_bipush F dX5_put_21 23 rfl zkb_8 ?_
      obtain ⟨hwt, hwf⟩ := hw
      refine z_icmplt F dX5_put_23 33 rfl 26 rfl (fun c3 => ?_) (fun c3 => ?_)
      · have hw := hwt c3; clear hwt hwf
        refine z_aload_n F dX5_put_33 34 rfl 0 rfl ?_
        refine z_get F dX5_put_34 37 rfl kX5_put_32 0 rfl rfl ?_
        refine z_aload_n F dX5_put_37 38 rfl 0 rfl ?_
        refine z_get F dX5_put_38 41 rfl kX5_put_42 0 rfl rfl ?_
        refine z_iload_n F dX5_put_41 42 rfl 1 rfl ?_
        obtain ⟨j1, ej1, hj1, hw⟩ := hw
        refine z_iast F dX5_put_42 43 rfl 1 rfl (by decide) j1 ej1 hj1 (wSt aH aM aT aS kp cyI sI (va_up sR 0 (upd (sR 0) j1 x1)) ++ wTe aT cyB tI tR ++ wHo aH cyI hI hR ++ wMi aH aM cyI mI mR) rfl ?_
        refine z_aload_n F dX5_put_43 44 rfl 0 rfl ?_
        refine z_dup F dX5_put_44 45 rfl rfl ?_
        refine z_get F dX5_put_45 48 rfl kX5_put_42 0 rfl rfl ?_
        refine z_iconst F dX5_put_48 49 rfl zki_1 ?_
        refine z_iadd F dX5_put_49 50 rfl ?_
        refine z_topi (fun v1 ev1 => ?_)
        replace hw := hw v1 ev1
        refine z_put F dX5_put_50 53 rfl kX5_put_42 0 rfl rfl rfl (Nat.le_of_ble_eq_true rfl) (wSt aH aM aT aS kp cyI (va_up sI 0 v1) (va_up sR 0 (upd (sR 0) j1 x1)) ++ wTe aT cyB tI tR ++ wHo aH cyI hI hR ++ wMi aH aM cyI mI mR) rfl ?_
        refine z_aload_n F dX5_put_53 54 rfl 0 rfl ?_
        refine z_get F dX5_put_54 57 rfl kX5_put_42 0 rfl rfl ?_
        exact hRt 57 _ v1 ((va_up sI 0 v1), (va_up sR 0 (upd (sR 0) j1 x1))) dX5_put_57 hw
      · have hw := hwf c3; clear hwt hwf
        refine z_aload_n F dX5_put_26 27 rfl 0 rfl ?_
        refine z_bipush F dX5_put_27 29 rfl zkb_m6 ?_
        refine z_segVi (As := [.int (-6)]) (st := []) F dX5_put_29 32 rfl (mX5_refuse C.1.2.1 D cyI cyB aS aH aM aT kp (-6) sI sR hw) y_X5_refuse rfl gX5_put_X5_refuse rfl (ci := 5) (rq := 0) rfl rfl ⟨Nat.le_of_ble_eq_true rfl, Nat.le_of_ble_eq_true rfl⟩ ⟨Nat.zero_le _, Nat.zero_le _⟩ (Nat.le_of_ble_eq_true rfl) [] (wTe aT cyB tI tR ++ wHo aH cyI hI hR ++ wMi aH aM cyI mI mR) (by simp only [List.append_assoc, List.nil_append, List.append_nil]) (fun _ => rfl) (fun u => (wSt aH aM aT aS kp cyI u.1 u.2 ++ wTe aT cyB tI tR ++ wHo aH cyI hI hR ++ wMi aH aM cyI mI mR)) (fun u => (by simp only [List.append_assoc, List.nil_append, List.append_nil])) (fun r2 u hp => ?_)
        obtain ⟨sI_2, sR_2⟩ := u
        replace hw := hp
        clear hp
        exact hRt 32 _ r2 (sI_2, sR_2) dX5_put_32 hw
  · have hw := hwf c1; clear hwt hwf
    refine z_aload_n F dX5_put_4 5 rfl 0 rfl ?_
    refine z_bipush F dX5_put_5 7 rfl zkb_m4 ?_
    refine z_segVi (As := [.int (-4)]) (st := []) F dX5_put_7 10 rfl (mX5_refuse C.1.2.1 D cyI cyB aS aH aM aT kp (-4) sI sR hw) y_X5_refuse rfl gX5_put_X5_refuse rfl (ci := 5) (rq := 0) rfl rfl ⟨Nat.le_of_ble_eq_true rfl, Nat.le_of_ble_eq_true rfl⟩ ⟨Nat.zero_le _, Nat.zero_le _⟩ (Nat.le_of_ble_eq_true rfl) [] (wTe aT cyB tI tR ++ wHo aH cyI hI hR ++ wMi aH aM cyI mI mR) (by simp only [List.append_assoc, List.nil_append, List.append_nil]) (fun _ => rfl) (fun u => (wSt aH aM aT aS kp cyI u.1 u.2 ++ wTe aT cyB tI tR ++ wHo aH cyI hI hR ++ wMi aH aM cyI mI mR)) (fun u => (by simp only [List.append_assoc, List.nil_append, List.append_nil])) (fun r3 u hp => ?_)
    obtain ⟨sI_3, sR_3⟩ := u
    replace hw := hp
    clear hp
    exact hRt 10 _ r3 (sI_3, sR_3) dX5_put_10 hw
set_option maxHeartbeats 4000000 in
set_option maxRecDepth 100000 in
theorem mX5_put (l : Launch) (D : va_G) (cyI cyB : ClassId) (aS : Nat → Nat) (aT : Nat → Nat) (aH : Nat → Nat) (aM : Nat → Nat) (kp : Value) (x1 : Int32) (sI : Nat → Int32) (sR : Nat → Nat → Int32) (tI : Nat → Int32) (tR : Nat → Nat → Int32) (hI : Nat → Int32) (hR : Nat → Nat → Int32) (mI : Nat → Int32) (mR : Nat → Nat → Int32) {post : Int32 → (Nat → Int32) → (Nat → Nat → Int32) → Prop} (hw : pX5_put x1 sI sR tI tR hI hR mI mR post) : zMi l yX5_put wsX5_put 1 22 D cyI cyB [.ref (aS 0), .int x1] (wSt aH aM aT aS kp cyI sI sR ++ wTe aT cyB tI tR ++ wHo aH cyI hI hR ++ wMi aH aM cyI mI mR) (S := ((Nat → Int32) × (Nat → Nat → Int32))) (fun u => (wSt aH aM aT aS kp cyI u.1 u.2 ++ wTe aT cyB tI tR ++ wHo aH cyI hI hR ++ wMi aH aM cyI mI mR)) (fun r u => post r u.1 u.2) :=
  z_meti (cc := cX5_put) (nL := 2) (by decide +kernel) rfl (Nat.le_of_ble_eq_true rfl) (fun C hl F hRt => xX5_put_0 x1 sI sR tI tR hI hR mI mR F hRt hw)
theorem y_X5_put : zY yX5_put wsX5_put cX5_put 2 (some .int) 1 := ⟨⟨_, rfl⟩, by decide +kernel⟩
theorem iX5_placeInRow_5 : ∀ w ∈ wsX50, w ∈ wsX5_placeInRow := fun w h => List.mem_cons_of_mem _ (List.mem_append_left _ (List.mem_append_left _ (List.mem_append_left _ (List.mem_append_right _ h))))
theorem kX5_placeInRow_21 : zL wsX5_placeInRow RX5 21 5 1 (.object "StillRoom$Mind") true := zL5 iX5_placeInRow_5 (by decide) (List.mem_of_getElem? (i := 2) rfl) rfl rfl
theorem kX5_placeInRow_32 : zL wsX5_placeInRow RX5 32 5 3 (.array .int) true := zL5 iX5_placeInRow_5 (by decide) (List.mem_of_getElem? (i := 3) rfl) rfl rfl
theorem kX5_placeInRow_42 : zL wsX5_placeInRow RX5 42 5 6 .int false := zL5 iX5_placeInRow_5 (by decide) (List.mem_of_getElem? (i := 1) rfl) rfl rfl
set_option maxHeartbeats 4000000 in
set_option maxRecDepth 100000 in
theorem xX5_placeInRow_2 {C : zC} {D : va_G} {cyI cyB : ClassId} {aS : Nat → Nat} {aT : Nat → Nat} {aH : Nat → Nat} {aM : Nat → Nat} {kp : Value} (x1 : Int32) (sI : Nat → Int32) (sR : Nat → Nat → Int32) (tI : Nat → Int32) (tR : Nat → Nat → Int32) (hI : Nat → Int32) (hR : Nat → Nat → Int32) (F : zF C D { frames := 2, cells := 0, slots := 0, locals := 50 } cX5_placeInRow 3 wsX5_placeInRow RX5 (some .int) cyI cyB) {post : Int32 → (Nat → Int32) → (Nat → Nat → Int32) → Prop} (hRt : zRi C D cX5_placeInRow 3 (S := ((Nat → Int32) × (Nat → Nat → Int32))) (fun u => (wSt aH aM aT aS kp cyI sI sR ++ wTe aT cyB tI tR ++ wHo aH cyI hI hR ++ wMi aH aM cyI u.1 u.2)) (fun r u => post r u.1 u.2)) {k26 : Int32 → (Nat → Int32) → (Nat → Nat → Int32) → Prop} (hk26 : ∀ (x2 : Int32) (mI : Nat → Int32) (mR : Nat → Nat → Int32), k26 x2 mI mR → zX C D 3 0 0 (wSt aH aM aT aS kp cyI sI sR ++ wTe aT cyB tI tR ++ wHo aH cyI hI hR ++ wMi aH aM cyI mI mR) 26 [(1, .int x1), (2, .int x2)] []) : ∀ (n : Nat) (x2 : Int32) (mI : Nat → Int32) (mR : Nat → Nat → Int32), bX5_placeInRow_2 x1 sI sR tI tR hI hR post k26  n x2 mI mR → zX C D 3 0 0 (wSt aH aM aT aS kp cyI sI sR ++ wTe aT cyB tI tR ++ wHo aH cyI hI hR ++ wMi aH aM cyI mI mR) 2 [(0, .ref (aS 0)), (1, .int x1), (2, .int x2)] [] := by
  intro n
  induction n with
  | zero => intro _ _ _ hw; exact hw.elim
  | succ n ih =>
    intro x2 mI mR hw
    refine z_iload_n F dX5_placeInRow_2 3 rfl 2 rfl ?_
    refine z_aload_n F dX5_placeInRow_3 4 rfl 0 rfl ?_
    refine z_get F dX5_placeInRow_4 7 rfl kX5_placeInRow_42 0 rfl rfl ?_
    obtain ⟨hwt, hwf⟩ := hw
    refine z_icmpge F dX5_placeInRow_7 76 rfl 10 rfl (fun c1 => ?_) (fun c1 => ?_)
    · have hw := hwt c1; clear hwt hwf
      refine z_bipush F dX5_placeInRow_76 78 rfl zkb_m9 ?_
      exact hRt 78 _ (-9) (mI, mR) dX5_placeInRow_78 hw
    · have hw := hwf c1; clear hwt hwf
      refine z_aload_n F dX5_placeInRow_10 11 rfl 0 rfl ?_
      refine z_get F dX5_placeInRow_11 14 rfl kX5_placeInRow_21 0 rfl rfl ?_
      refine z_aload_n F dX5_placeInRow_14 15 rfl 0 rfl ?_
      refine z_get F dX5_placeInRow_15 18 rfl kX5_placeInRow_32 0 rfl rfl ?_
      refine z_iload_n F dX5_placeInRow_18 19 rfl 2 rfl ?_
      obtain ⟨j1, ej1, hj1, hw⟩ := hw
      refine z_iald F dX5_placeInRow_19 20 rfl 1 rfl (by decide) j1 ej1 hj1 ?_
      refine z_segVi (As := [.int ((sR 0) j1)]) (st := []) F dX5_placeInRow_20 23 rfl (mX2_isHere C.1.2.1 D cyI cyB aH aM ((sR 0) j1) hI hR mI mR hw) y_X2_isHere rfl gX5_placeInRow_X2_isHere rfl (ci := 2) (rq := 12) rfl rfl ⟨Nat.le_of_ble_eq_true rfl, Nat.le_of_ble_eq_true rfl⟩ ⟨Nat.zero_le _, Nat.zero_le _⟩ (Nat.le_of_ble_eq_true rfl) (wSt aH aM aT aS kp cyI sI sR ++ wTe aT cyB tI tR) [] (by simp only [List.append_assoc, List.nil_append, List.append_nil]) (fun _ => rfl) (fun u => (wSt aH aM aT aS kp cyI sI sR ++ wTe aT cyB tI tR ++ wHo aH cyI hI hR ++ wMi aH aM cyI mI mR)) (fun u => (by simp only [List.append_assoc, List.nil_append, List.append_nil])) (fun r0 u hp => ?_)
      obtain ⟨b1, rfl, hw⟩ := hp
      obtain ⟨hwt, hwf⟩ := hw
      refine z_ifneB F dX5_placeInRow_23 38 rfl 26 rfl (fun c2 => ?_) (fun c2 => ?_)
      · have hw := hwt c2; clear hwt hwf
        refine z_aload_n F dX5_placeInRow_38 39 rfl 0 rfl ?_
        refine z_get F dX5_placeInRow_39 42 rfl kX5_placeInRow_21 0 rfl rfl ?_
        refine z_aload_n F dX5_placeInRow_42 43 rfl 0 rfl ?_
        refine z_get F dX5_placeInRow_43 46 rfl kX5_placeInRow_32 0 rfl rfl ?_
        refine z_iload_n F dX5_placeInRow_46 47 rfl 2 rfl ?_
        refine z_iald F dX5_placeInRow_47 48 rfl 1 rfl (by decide) j1 ej1 hj1 ?_
        refine z_segVv (As := [.int ((sR 0) j1)]) (st := []) F dX5_placeInRow_48 51 rfl (mX2_leave C.1.2.1 D cyI cyB aH aM ((sR 0) j1) hI hR mI mR hw) y_X2_leave rfl gX5_placeInRow_X2_leave rfl (ci := 2) (rq := 12) rfl rfl ⟨Nat.le_of_ble_eq_true rfl, Nat.le_of_ble_eq_true rfl⟩ ⟨Nat.zero_le _, Nat.zero_le _⟩ (Nat.le_of_ble_eq_true rfl) (wSt aH aM aT aS kp cyI sI sR ++ wTe aT cyB tI tR) [] (by simp only [List.append_assoc, List.nil_append, List.append_nil]) (fun _ => rfl) (fun u => (wSt aH aM aT aS kp cyI sI sR ++ wTe aT cyB tI tR ++ wHo aH cyI hI hR ++ wMi aH aM cyI u.1 u.2)) (fun u => (by simp only [List.append_assoc, List.nil_append, List.append_nil])) (fun u hp => ?_)
        obtain ⟨mI_1, mR_1⟩ := u
        replace hw := hp
        clear hp
        refine z_iload_n F dX5_placeInRow_51 52 rfl 1 rfl ?_
        refine z_iconst F dX5_placeInRow_52 53 rfl zki_2 ?_
        obtain ⟨hwt, hwf⟩ := hw
        refine z_icmpeq F dX5_placeInRow_53 70 rfl 56 rfl (fun c3 => ?_) (fun c3 => ?_)
        · have hw := hwt c3; clear hwt hwf
          refine z_iinc F dX5_placeInRow_70 73 rfl 2 rfl (by decide) zki_1 (fun v1 => [(2, .int v1), (0, .ref (aS 0)), (1, .int x1)]) (fun _ => rfl) (fun v1 ev1 => ?_)
          replace hw := hw v1 ev1
          refine z_goto F dX5_placeInRow_73 2 rfl ?_
          refine z_lv (lv' := [(0, .ref (aS 0)), (1, .int x1), (2, .int v1)]) [1, 2, 0] rfl ?_
          exact ih v1 mI_1 mR_1 hw
        · have hw := hwf c3; clear hwt hwf
          refine z_aload_n F dX5_placeInRow_56 57 rfl 0 rfl ?_
          refine z_get F dX5_placeInRow_57 60 rfl kX5_placeInRow_21 0 rfl rfl ?_
          refine z_iload_n F dX5_placeInRow_60 61 rfl 1 rfl ?_
          refine z_iconst F dX5_placeInRow_61 62 rfl zki_0 ?_
          refine z_segVi (As := [.int x1, .int 0]) (st := []) F dX5_placeInRow_62 65 rfl (mX2_happens C.1.2.1 D cyI cyB aH aM x1 0 hI hR mI_1 mR_1 hw) y_X2_happens rfl gX5_placeInRow_X2_happens rfl (ci := 2) (rq := 12) rfl rfl ⟨Nat.le_of_ble_eq_true rfl, Nat.le_of_ble_eq_true rfl⟩ ⟨Nat.zero_le _, Nat.zero_le _⟩ (Nat.le_of_ble_eq_true rfl) (wSt aH aM aT aS kp cyI sI sR ++ wTe aT cyB tI tR) [] (by simp only [List.append_assoc, List.nil_append, List.append_nil]) (fun _ => rfl) (fun u => (wSt aH aM aT aS kp cyI sI sR ++ wTe aT cyB tI tR ++ wHo aH cyI hI hR ++ wMi aH aM cyI mI_1 mR_1)) (fun u => (by simp only [List.append_assoc, List.nil_append, List.append_nil])) (fun r0 u hp => ?_)
          obtain ⟨b2, rfl, hw⟩ := hp
          obtain ⟨hwt, hwf⟩ := hw
          refine z_ifeqB F dX5_placeInRow_65 70 rfl 68 rfl (fun c4 => ?_) (fun c4 => ?_)
          · have hw := hwt c4; clear hwt hwf
            refine z_iinc F dX5_placeInRow_70 73 rfl 2 rfl (by decide) zki_1 (fun v2 => [(2, .int v2), (0, .ref (aS 0)), (1, .int x1)]) (fun _ => rfl) (fun v2 ev2 => ?_)
            replace hw := hw v2 ev2
            refine z_goto F dX5_placeInRow_73 2 rfl ?_
            refine z_lv (lv' := [(0, .ref (aS 0)), (1, .int x1), (2, .int v2)]) [1, 2, 0] rfl ?_
            exact ih v2 mI_1 mR_1 hw
          · have hw := hwf c4; clear hwt hwf
            refine z_iload_n F dX5_placeInRow_68 69 rfl 2 rfl ?_
            exact hRt 69 _ x2 (mI_1, mR_1) dX5_placeInRow_69 hw
      · have hw := hwf c2; clear hwt hwf
        refine z_lv (lv' := [(1, .int x1), (2, .int x2)]) [1, 2] rfl ?_
        exact hk26 x2 mI mR hw
set_option maxHeartbeats 4000000 in
set_option maxRecDepth 100000 in
theorem xX5_placeInRow_0 {C : zC} {D : va_G} {cyI cyB : ClassId} {aS : Nat → Nat} {aT : Nat → Nat} {aH : Nat → Nat} {aM : Nat → Nat} {kp : Value} (x1 : Int32) (sI : Nat → Int32) (sR : Nat → Nat → Int32) (tI : Nat → Int32) (tR : Nat → Nat → Int32) (hI : Nat → Int32) (hR : Nat → Nat → Int32) (mI : Nat → Int32) (mR : Nat → Nat → Int32) (F : zF C D { frames := 2, cells := 0, slots := 0, locals := 50 } cX5_placeInRow 3 wsX5_placeInRow RX5 (some .int) cyI cyB) {post : Int32 → (Nat → Int32) → (Nat → Nat → Int32) → Prop} (hRt : zRi C D cX5_placeInRow 3 (S := ((Nat → Int32) × (Nat → Nat → Int32))) (fun u => (wSt aH aM aT aS kp cyI sI sR ++ wTe aT cyB tI tR ++ wHo aH cyI hI hR ++ wMi aH aM cyI u.1 u.2)) (fun r u => post r u.1 u.2)) (hw : pX5_placeInRow x1 sI sR tI tR hI hR mI mR post) : zX C D 3 0 0 (wSt aH aM aT aS kp cyI sI sR ++ wTe aT cyB tI tR ++ wHo aH cyI hI hR ++ wMi aH aM cyI mI mR) 0 [(0, .ref (aS 0)), (1, .int x1)] [] := by
  refine z_iconst F dX5_placeInRow_0 1 rfl zki_0 ?_
  refine z_istore_n (lv' := [(2, .int 0), (0, .ref (aS 0)), (1, .int x1)]) F dX5_placeInRow_1 2 rfl (by decide) rfl ?_
  obtain ⟨n1, hw⟩ := hw
  refine z_lv (lv' := [(0, .ref (aS 0)), (1, .int x1), (2, .int 0)]) [1, 2, 0] rfl ?_
  refine xX5_placeInRow_2 x1 sI sR tI tR hI hR F hRt (fun w1 mI_1 mR_1 hw => ?_) n1 0 mI mR hw
  refine z_iload_n F dX5_placeInRow_26 27 rfl 0 rfl ?_
  refine z_iconst F dX5_placeInRow_27 28 rfl zki_2 ?_
  obtain ⟨hwt, hwf⟩ := hw
  refine z_icmpne F dX5_placeInRow_28 35 rfl 31 rfl (fun c1 => ?_) (fun c1 => ?_)
  · have hw := hwt c1; clear hwt hwf
    refine z_bipush F dX5_placeInRow_35 37 rfl zkb_m9 ?_
    exact hRt 37 _ (-9) (mI_1, mR_1) dX5_placeInRow_37 hw
  · have hw := hwf c1; clear hwt hwf
    refine z_iload_n F dX5_placeInRow_31 32 rfl 1 rfl ?_
    refine z_goto F dX5_placeInRow_32 37 rfl ?_
    exact hRt 37 _ w1 (mI_1, mR_1) dX5_placeInRow_37 hw
set_option maxHeartbeats 4000000 in
set_option maxRecDepth 100000 in
theorem mX5_placeInRow (l : Launch) (D : va_G) (cyI cyB : ClassId) (aS : Nat → Nat) (aT : Nat → Nat) (aH : Nat → Nat) (aM : Nat → Nat) (kp : Value) (x1 : Int32) (sI : Nat → Int32) (sR : Nat → Nat → Int32) (tI : Nat → Int32) (tR : Nat → Nat → Int32) (hI : Nat → Int32) (hR : Nat → Nat → Int32) (mI : Nat → Int32) (mR : Nat → Nat → Int32) {post : Int32 → (Nat → Int32) → (Nat → Nat → Int32) → Prop} (hw : pX5_placeInRow x1 sI sR tI tR hI hR mI mR post) : zMi l yX5_placeInRow wsX5_placeInRow 2 50 D cyI cyB [.ref (aS 0), .int x1] (wSt aH aM aT aS kp cyI sI sR ++ wTe aT cyB tI tR ++ wHo aH cyI hI hR ++ wMi aH aM cyI mI mR) (S := ((Nat → Int32) × (Nat → Nat → Int32))) (fun u => (wSt aH aM aT aS kp cyI sI sR ++ wTe aT cyB tI tR ++ wHo aH cyI hI hR ++ wMi aH aM cyI u.1 u.2)) (fun r u => post r u.1 u.2) :=
  z_meti (cc := cX5_placeInRow) (nL := 3) (by decide +kernel) rfl (Nat.le_of_ble_eq_true rfl) (fun C hl F hRt => xX5_placeInRow_0 x1 sI sR tI tR hI hR mI mR F hRt hw)
theorem y_X5_placeInRow : zY yX5_placeInRow wsX5_placeInRow cX5_placeInRow 3 (some .int) 1 := ⟨⟨_, rfl⟩, by decide +kernel⟩
theorem iX5_judge_5 : ∀ w ∈ wsX50, w ∈ wsX5_judge := fun w h => List.mem_cons_of_mem _ (List.mem_append_left _ (List.mem_append_left _ (List.mem_append_left _ (List.mem_append_right _ h))))
theorem kX5_judge_21 : zL wsX5_judge RX5 21 5 1 (.object "StillRoom$Mind") true := zL5 iX5_judge_5 (by decide) (List.mem_of_getElem? (i := 1) rfl) rfl rfl
theorem kX5_judge_42 : zL wsX5_judge RX5 42 5 6 .int false := zL5 iX5_judge_5 (by decide) (List.mem_of_getElem? (i := 2) rfl) rfl rfl
set_option maxHeartbeats 4000000 in
set_option maxRecDepth 100000 in
theorem xX5_judge_0 {C : zC} {D : va_G} {cyI cyB : ClassId} {aS : Nat → Nat} {aT : Nat → Nat} {aH : Nat → Nat} {aM : Nat → Nat} {kp : Value} (x1 : Int32) (sI : Nat → Int32) (sR : Nat → Nat → Int32) (tI : Nat → Int32) (tR : Nat → Nat → Int32) (hI : Nat → Int32) (hR : Nat → Nat → Int32) (mI : Nat → Int32) (mR : Nat → Nat → Int32) (F : zF C D { frames := 3, cells := 0, slots := 0, locals := 72 } cX5_judge 3 wsX5_judge RX5 (some .int) cyI cyB) {post : Int32 → (Nat → Int32) → (Nat → Nat → Int32) → (Nat → Int32) → (Nat → Nat → Int32) → Prop} (hRt : zRi C D cX5_judge 3 (S := ((Nat → Int32) × (Nat → Nat → Int32) × (Nat → Int32) × (Nat → Nat → Int32))) (fun u => (wSt aH aM aT aS kp cyI u.1 u.2.1 ++ wTe aT cyB tI tR ++ wHo aH cyI hI hR ++ wMi aH aM cyI u.2.2.1 u.2.2.2)) (fun r u => post r u.1 u.2.1 u.2.2.1 u.2.2.2)) (hw : pX5_judge x1 sI sR tI tR hI hR mI mR post) : zX C D 3 0 0 (wSt aH aM aT aS kp cyI sI sR ++ wTe aT cyB tI tR ++ wHo aH cyI hI hR ++ wMi aH aM cyI mI mR) 0 [(0, .ref (aS 0)), (1, .int x1)] [] := by
  refine z_iload_n F dX5_judge_0 1 rfl 1 rfl ?_
  obtain ⟨hwt, hwf⟩ := hw
  refine z_iflt F dX5_judge_1 9 rfl 4 rfl (fun c1 => ?_) (fun c1 => ?_)
  · have hw := hwt c1; clear hwt hwf
    refine z_aload_n F dX5_judge_9 10 rfl 0 rfl ?_
    refine z_bipush F dX5_judge_10 12 rfl zkb_m2 ?_
    refine z_segVi (As := [.int (-2)]) (st := []) F dX5_judge_12 15 rfl (mX5_refuse C.1.2.1 D cyI cyB aS aH aM aT kp (-2) sI sR hw) y_X5_refuse rfl gX5_judge_X5_refuse rfl (ci := 5) (rq := 0) rfl rfl ⟨Nat.le_of_ble_eq_true rfl, Nat.le_of_ble_eq_true rfl⟩ ⟨Nat.zero_le _, Nat.zero_le _⟩ (Nat.le_of_ble_eq_true rfl) [] (wTe aT cyB tI tR ++ wHo aH cyI hI hR ++ wMi aH aM cyI mI mR) (by simp only [List.append_assoc, List.nil_append, List.append_nil]) (fun _ => rfl) (fun u => (wSt aH aM aT aS kp cyI u.1 u.2 ++ wTe aT cyB tI tR ++ wHo aH cyI hI hR ++ wMi aH aM cyI mI mR)) (fun u => (by simp only [List.append_assoc, List.nil_append, List.append_nil])) (fun r1 u hp => ?_)
    obtain ⟨sI_1, sR_1⟩ := u
    replace hw := hp
    clear hp
    exact hRt 15 _ r1 (sI_1, sR_1, mI, mR) dX5_judge_15 hw
  · have hw := hwf c1; clear hwt hwf
    refine z_iload_n F dX5_judge_4 5 rfl 1 rfl ?_
    refine z_iconst F dX5_judge_5 6 rfl zki_2 ?_
    obtain ⟨hwt, hwf⟩ := hw
    refine z_icmple F dX5_judge_6 16 rfl 9 rfl (fun c2 => ?_) (fun c2 => ?_)
    · have hw := hwt c2; clear hwt hwf
      refine z_aload_n F dX5_judge_16 17 rfl 0 rfl ?_
      refine z_get F dX5_judge_17 20 rfl kX5_judge_21 0 rfl rfl ?_
      refine z_segVv (As := []) (st := []) F dX5_judge_20 23 rfl (mX2_begin C.1.2.1 D cyI cyB aH aM hI hR mI mR hw) y_X2_begin rfl gX5_judge_X2_begin rfl (ci := 2) (rq := 12) rfl rfl ⟨Nat.le_of_ble_eq_true rfl, Nat.le_of_ble_eq_true rfl⟩ ⟨Nat.zero_le _, Nat.zero_le _⟩ (Nat.le_of_ble_eq_true rfl) (wSt aH aM aT aS kp cyI sI sR ++ wTe aT cyB tI tR) [] (by simp only [List.append_assoc, List.nil_append, List.append_nil]) (fun _ => rfl) (fun u => (wSt aH aM aT aS kp cyI sI sR ++ wTe aT cyB tI tR ++ wHo aH cyI hI hR ++ wMi aH aM cyI u.1 u.2)) (fun u => (by simp only [List.append_assoc, List.nil_append, List.append_nil])) (fun u hp => ?_)
      obtain ⟨mI_1, mR_1⟩ := u
      replace hw := hp
      clear hp
      refine z_aload_n F dX5_judge_23 24 rfl 0 rfl ?_
      refine z_iload_n F dX5_judge_24 25 rfl 1 rfl ?_
      refine z_segVi (As := [.int x1]) (st := []) F dX5_judge_25 28 rfl (mX5_placeInRow C.1.2.1 D cyI cyB aS aT aH aM kp x1 sI sR tI tR hI hR mI_1 mR_1 hw) y_X5_placeInRow rfl gX5_judge_X5_placeInRow rfl (ci := 5) (rq := 0) rfl rfl ⟨Nat.le_of_ble_eq_true rfl, Nat.le_of_ble_eq_true rfl⟩ ⟨Nat.zero_le _, Nat.zero_le _⟩ (Nat.le_of_ble_eq_true rfl) [] [] (by simp only [List.append_assoc, List.nil_append, List.append_nil]) (fun _ => rfl) (fun u => (wSt aH aM aT aS kp cyI sI sR ++ wTe aT cyB tI tR ++ wHo aH cyI hI hR ++ wMi aH aM cyI u.1 u.2)) (fun u => (by simp only [List.append_assoc, List.nil_append, List.append_nil])) (fun r2 u hp => ?_)
      obtain ⟨mI_2, mR_2⟩ := u
      replace hw := hp
      clear hp
      refine z_istore_n (lv' := [(2, .int r2), (0, .ref (aS 0)), (1, .int x1)]) F dX5_judge_28 29 rfl (by decide) rfl ?_
      refine z_aload_n F dX5_judge_29 30 rfl 1 rfl ?_
      refine z_iconst F dX5_judge_30 31 rfl zki_0 ?_
      refine z_put F dX5_judge_31 34 rfl kX5_judge_42 0 rfl rfl rfl (Nat.le_of_ble_eq_true rfl) (wSt aH aM aT aS kp cyI (va_up sI 0 0) sR ++ wTe aT cyB tI tR ++ wHo aH cyI hI hR ++ wMi aH aM cyI mI_2 mR_2) rfl ?_
      refine z_iload_n F dX5_judge_34 35 rfl 0 rfl ?_
      exact hRt 35 _ r2 ((va_up sI 0 0), sR, mI_2, mR_2) dX5_judge_35 hw
    · have hw := hwf c2; clear hwt hwf
      refine z_aload_n F dX5_judge_9 10 rfl 0 rfl ?_
      refine z_bipush F dX5_judge_10 12 rfl zkb_m2 ?_
      refine z_segVi (As := [.int (-2)]) (st := []) F dX5_judge_12 15 rfl (mX5_refuse C.1.2.1 D cyI cyB aS aH aM aT kp (-2) sI sR hw) y_X5_refuse rfl gX5_judge_X5_refuse rfl (ci := 5) (rq := 0) rfl rfl ⟨Nat.le_of_ble_eq_true rfl, Nat.le_of_ble_eq_true rfl⟩ ⟨Nat.zero_le _, Nat.zero_le _⟩ (Nat.le_of_ble_eq_true rfl) [] (wTe aT cyB tI tR ++ wHo aH cyI hI hR ++ wMi aH aM cyI mI mR) (by simp only [List.append_assoc, List.nil_append, List.append_nil]) (fun _ => rfl) (fun u => (wSt aH aM aT aS kp cyI u.1 u.2 ++ wTe aT cyB tI tR ++ wHo aH cyI hI hR ++ wMi aH aM cyI mI mR)) (fun u => (by simp only [List.append_assoc, List.nil_append, List.append_nil])) (fun r3 u hp => ?_)
      obtain ⟨sI_2, sR_2⟩ := u
      replace hw := hp
      clear hp
      exact hRt 15 _ r3 (sI_2, sR_2, mI, mR) dX5_judge_15 hw
set_option maxHeartbeats 4000000 in
set_option maxRecDepth 100000 in
theorem mX5_judge (l : Launch) (D : va_G) (cyI cyB : ClassId) (aS : Nat → Nat) (aT : Nat → Nat) (aH : Nat → Nat) (aM : Nat → Nat) (kp : Value) (x1 : Int32) (sI : Nat → Int32) (sR : Nat → Nat → Int32) (tI : Nat → Int32) (tR : Nat → Nat → Int32) (hI : Nat → Int32) (hR : Nat → Nat → Int32) (mI : Nat → Int32) (mR : Nat → Nat → Int32) {post : Int32 → (Nat → Int32) → (Nat → Nat → Int32) → (Nat → Int32) → (Nat → Nat → Int32) → Prop} (hw : pX5_judge x1 sI sR tI tR hI hR mI mR post) : zMi l yX5_judge wsX5_judge 3 72 D cyI cyB [.ref (aS 0), .int x1] (wSt aH aM aT aS kp cyI sI sR ++ wTe aT cyB tI tR ++ wHo aH cyI hI hR ++ wMi aH aM cyI mI mR) (S := ((Nat → Int32) × (Nat → Nat → Int32) × (Nat → Int32) × (Nat → Nat → Int32))) (fun u => (wSt aH aM aT aS kp cyI u.1 u.2.1 ++ wTe aT cyB tI tR ++ wHo aH cyI hI hR ++ wMi aH aM cyI u.2.2.1 u.2.2.2)) (fun r u => post r u.1 u.2.1 u.2.2.1 u.2.2.2) :=
  z_meti (cc := cX5_judge) (nL := 3) (by decide +kernel) rfl (Nat.le_of_ble_eq_true rfl) (fun C hl F hRt => xX5_judge_0 x1 sI sR tI tR hI hR mI mR F hRt hw)
theorem y_X5_judge : zY yX5_judge wsX5_judge cX5_judge 3 (some .int) 1 := ⟨⟨_, rfl⟩, by decide +kernel⟩
theorem iX5_count_1 : ∀ w ∈ wsX10, w ∈ wsX5_count := fun w h => List.mem_cons_of_mem _ (List.mem_append_left _ (List.mem_append_left _ (List.mem_append_right _ h)))
theorem iX5_count_3 : ∀ w ∈ wsX30, w ∈ wsX5_count := fun w h => List.mem_cons_of_mem _ (List.mem_append_left _ (List.mem_append_right _ h))
theorem iX5_count_4 : ∀ w ∈ wsX40, w ∈ wsX5_count := fun w h => List.mem_cons_of_mem _ (List.mem_append_right _ h)
theorem iX5_count_5 : ∀ w ∈ wsX50, w ∈ wsX5_count := fun w h => List.mem_cons_of_mem _ (List.mem_append_left _ (List.mem_append_left _ (List.mem_append_left _ (List.mem_append_right _ h))))
theorem kX5_count_12 : zL wsX5_count RX5 12 5 0 (.object "StillRoom$House") true := zL5 iX5_count_5 (by decide) (List.mem_of_getElem? (i := 1) rfl) rfl rfl
theorem kX5_count_28 : zL wsX5_count RX5 28 5 2 (.object "StillRoom$Text") true := zL5 iX5_count_5 (by decide) (List.mem_of_getElem? (i := 9) rfl) rfl rfl
theorem kX5_count_36 : zL wsX5_count RX5 36 5 4 (.array .int) true := zL5 iX5_count_5 (by decide) (List.mem_of_getElem? (i := 12) rfl) rfl rfl
theorem kX5_count_42 : zL wsX5_count RX5 42 5 6 .int false := zL5 iX5_count_5 (by decide) (List.mem_of_getElem? (i := 11) rfl) rfl rfl
theorem kX5_count_53 : zL wsX5_count RX5 53 4 1 .int false := zL4 iX5_count_4 (by decide) (List.mem_of_getElem? (i := 10) rfl) rfl rfl
theorem kX5_count_68 : zL wsX5_count RX5 68 1 5 .int false := zL1 iX5_count_1 (by decide) (List.mem_of_getElem? (i := 2) rfl) rfl rfl
theorem kX5_count_79 : zL wsX5_count RX5 79 1 6 .int false := zL1 iX5_count_1 (by decide) (List.mem_of_getElem? (i := 3) rfl) rfl rfl
theorem kX5_count_101 : zL wsX5_count RX5 101 1 7 .int false := zL1 iX5_count_1 (by decide) (List.mem_of_getElem? (i := 4) rfl) rfl rfl
theorem kX5_count_108 : zL wsX5_count RX5 108 1 2 (.object "StillRoom$Pairs") true := zL1 iX5_count_1 (by decide) (List.mem_of_getElem? (i := 5) rfl) rfl rfl
theorem kX5_count_125 : zL wsX5_count RX5 125 3 2 .int false := zL3 iX5_count_3 (by decide) (List.mem_of_getElem? (i := 6) rfl) rfl rfl
theorem kX5_count_128 : zL wsX5_count RX5 128 1 3 (.object "StillRoom$Pairs") true := zL1 iX5_count_1 (by decide) (List.mem_of_getElem? (i := 7) rfl) rfl rfl
theorem kX5_count_134 : zL wsX5_count RX5 134 1 4 (.object "StillRoom$Pairs") true := zL1 iX5_count_1 (by decide) (List.mem_of_getElem? (i := 8) rfl) rfl rfl
set_option maxHeartbeats 4000000 in
set_option maxRecDepth 100000 in
theorem xX5_count_0 {C : zC} {D : va_G} {cyI cyB : ClassId} {aS : Nat → Nat} {aT : Nat → Nat} {aH : Nat → Nat} {aM : Nat → Nat} {kp : Value} (x1 : Int32) (sI : Nat → Int32) (sR : Nat → Nat → Int32) (tI : Nat → Int32) (tR : Nat → Nat → Int32) (hI : Nat → Int32) (hR : Nat → Nat → Int32) (mI : Nat → Int32) (mR : Nat → Nat → Int32) (F : zF C D { frames := 2, cells := 0, slots := 0, locals := 42 } cX5_count 2 wsX5_count RX5 (some .int) cyI cyB) {post : Int32 → Prop} (hRt : zRi C D cX5_count 2 (S := (Unit)) (fun u => (wSt aH aM aT aS kp cyI sI sR ++ wTe aT cyB tI tR ++ wHo aH cyI hI hR ++ wMi aH aM cyI mI mR)) (fun r u => post r )) (hw : pX5_count x1 sI sR tI tR hI hR mI mR post) : zX C D 2 0 0 (wSt aH aM aT aS kp cyI sI sR ++ wTe aT cyB tI tR ++ wHo aH cyI hI hR ++ wMi aH aM cyI mI mR) 0 [(0, .ref (aS 0)), (1, .int x1)] [] := by
  refine z_iload_n F dX5_count_0 1 rfl 1 rfl ?_
  obtain ⟨hs0, hs1, hs2, hs3, hs4, hs5, hs6, hs7, hs8, hwd⟩ := hw
  by_cases cs0 : x1 = 0
  · have hw := hs0 cs0; clear hs0 hs1 hs2 hs3 hs4 hs5 hs6 hs7 hs8 hwd
    refine z_tab (off := 51) F dX5_count_1 52 (by rw [cs0]; decide +kernel) (by rw [cs0]; decide +kernel) (by rw [cs0]; decide +kernel) rfl ?_
    refine z_aload_n F dX5_count_52 53 rfl 0 rfl ?_
    refine z_get F dX5_count_53 56 rfl kX5_count_12 0 rfl rfl ?_
    refine z_get F dX5_count_56 59 rfl kX5_count_68 6 rfl rfl ?_
    exact hRt 59 _ (hI 0) () dX5_count_59 hw
  by_cases cs1 : x1 = 1
  · have hw := hs1 cs1; clear hs0 hs1 hs2 hs3 hs4 hs5 hs6 hs7 hs8 hwd
    refine z_tab (off := 59) F dX5_count_1 60 (by rw [cs1]; decide +kernel) (by rw [cs1]; decide +kernel) (by rw [cs1]; decide +kernel) rfl ?_
    refine z_aload_n F dX5_count_60 61 rfl 0 rfl ?_
    refine z_get F dX5_count_61 64 rfl kX5_count_12 0 rfl rfl ?_
    refine z_get F dX5_count_64 67 rfl kX5_count_79 6 rfl rfl ?_
    exact hRt 67 _ (hI 1) () dX5_count_67 hw
  by_cases cs2 : x1 = 2
  · have hw := hs2 cs2; clear hs0 hs1 hs2 hs3 hs4 hs5 hs6 hs7 hs8 hwd
    refine z_tab (off := 67) F dX5_count_1 68 (by rw [cs2]; decide +kernel) (by rw [cs2]; decide +kernel) (by rw [cs2]; decide +kernel) rfl ?_
    refine z_aload_n F dX5_count_68 69 rfl 0 rfl ?_
    refine z_get F dX5_count_69 72 rfl kX5_count_12 0 rfl rfl ?_
    refine z_get F dX5_count_72 75 rfl kX5_count_101 6 rfl rfl ?_
    exact hRt 75 _ (hI 2) () dX5_count_75 hw
  by_cases cs3 : x1 = 3
  · have hw := hs3 cs3; clear hs0 hs1 hs2 hs3 hs4 hs5 hs6 hs7 hs8 hwd
    refine z_tab (off := 75) F dX5_count_1 76 (by rw [cs3]; decide +kernel) (by rw [cs3]; decide +kernel) (by rw [cs3]; decide +kernel) rfl ?_
    refine z_aload_n F dX5_count_76 77 rfl 0 rfl ?_
    refine z_get F dX5_count_77 80 rfl kX5_count_12 0 rfl rfl ?_
    refine z_get F dX5_count_80 83 rfl kX5_count_108 6 rfl rfl ?_
    refine z_get F dX5_count_83 86 rfl kX5_count_125 9 rfl rfl ?_
    exact hRt 86 _ (hI 4) () dX5_count_86 hw
  by_cases cs4 : x1 = 4
  · have hw := hs4 cs4; clear hs0 hs1 hs2 hs3 hs4 hs5 hs6 hs7 hs8 hwd
    refine z_tab (off := 86) F dX5_count_1 87 (by rw [cs4]; decide +kernel) (by rw [cs4]; decide +kernel) (by rw [cs4]; decide +kernel) rfl ?_
    refine z_aload_n F dX5_count_87 88 rfl 0 rfl ?_
    refine z_get F dX5_count_88 91 rfl kX5_count_12 0 rfl rfl ?_
    refine z_get F dX5_count_91 94 rfl kX5_count_128 6 rfl rfl ?_
    refine z_get F dX5_count_94 97 rfl kX5_count_125 12 rfl rfl ?_
    exact hRt 97 _ (hI 5) () dX5_count_97 hw
  by_cases cs5 : x1 = 5
  · have hw := hs5 cs5; clear hs0 hs1 hs2 hs3 hs4 hs5 hs6 hs7 hs8 hwd
    refine z_tab (off := 97) F dX5_count_1 98 (by rw [cs5]; decide +kernel) (by rw [cs5]; decide +kernel) (by rw [cs5]; decide +kernel) rfl ?_
    refine z_aload_n F dX5_count_98 99 rfl 0 rfl ?_
    refine z_get F dX5_count_99 102 rfl kX5_count_12 0 rfl rfl ?_
    refine z_get F dX5_count_102 105 rfl kX5_count_134 6 rfl rfl ?_
    refine z_get F dX5_count_105 108 rfl kX5_count_125 15 rfl rfl ?_
    exact hRt 108 _ (hI 6) () dX5_count_108 hw
  by_cases cs6 : x1 = 6
  · have hw := hs6 cs6; clear hs0 hs1 hs2 hs3 hs4 hs5 hs6 hs7 hs8 hwd
    refine z_tab (off := 108) F dX5_count_1 109 (by rw [cs6]; decide +kernel) (by rw [cs6]; decide +kernel) (by rw [cs6]; decide +kernel) rfl ?_
    refine z_aload_n F dX5_count_109 110 rfl 0 rfl ?_
    refine z_get F dX5_count_110 113 rfl kX5_count_12 0 rfl rfl ?_
    refine z_segVi (As := []) (st := []) F dX5_count_113 116 rfl (mX1_toldInAll C.1.2.1 D cyI cyB aH hI hR hw) y_X1_toldInAll rfl gX5_count_X1_toldInAll rfl (ci := 1) (rq := 0) rfl rfl ⟨Nat.le_of_ble_eq_true rfl, Nat.le_of_ble_eq_true rfl⟩ ⟨Nat.zero_le _, Nat.zero_le _⟩ (Nat.le_of_ble_eq_true rfl) (wSt aH aM aT aS kp cyI sI sR ++ wTe aT cyB tI tR) (wMi aH aM cyI mI mR) (by simp only [List.append_assoc, List.nil_append, List.append_nil]) (fun _ => rfl) (fun u => (wSt aH aM aT aS kp cyI sI sR ++ wTe aT cyB tI tR ++ wHo aH cyI hI hR ++ wMi aH aM cyI mI mR)) (fun u => (by simp only [List.append_assoc, List.nil_append, List.append_nil])) (fun r1 u hp => ?_)
    replace hw := hp
    clear hp
    exact hRt 116 _ r1 () dX5_count_116 hw
  by_cases cs7 : x1 = 7
  · have hw := hs7 cs7; clear hs0 hs1 hs2 hs3 hs4 hs5 hs6 hs7 hs8 hwd
    refine z_tab (off := 116) F dX5_count_1 117 (by rw [cs7]; decide +kernel) (by rw [cs7]; decide +kernel) (by rw [cs7]; decide +kernel) rfl ?_
    refine z_aload_n F dX5_count_117 118 rfl 0 rfl ?_
    refine z_get F dX5_count_118 121 rfl kX5_count_28 0 rfl rfl ?_
    refine z_get F dX5_count_121 124 rfl kX5_count_53 4 rfl rfl ?_
    exact hRt 124 _ (tI 0) () dX5_count_124 hw
  by_cases cs8 : x1 = 8
  · have hw := hs8 cs8; clear hs0 hs1 hs2 hs3 hs4 hs5 hs6 hs7 hs8 hwd
    refine z_tab (off := 124) F dX5_count_1 125 (by rw [cs8]; decide +kernel) (by rw [cs8]; decide +kernel) (by rw [cs8]; decide +kernel) rfl ?_
    refine z_aload_n F dX5_count_125 126 rfl 0 rfl ?_
    refine z_get F dX5_count_126 129 rfl kX5_count_42 0 rfl rfl ?_
    exact hRt 129 _ (sI 0) () dX5_count_129 hw
  have hw := hwd cs0 cs1 cs2 cs3 cs4 cs5 cs6 cs7 cs8; clear hs0 hs1 hs2 hs3 hs4 hs5 hs6 hs7 hs8 hwd
  refine z_tabD F dX5_count_1 130 (z_out9 cs0 cs1 cs2 cs3 cs4 cs5 cs6 cs7 cs8) rfl ?_
  refine z_iload_n F dX5_count_130 131 rfl 1 rfl ?_
  refine z_bipush F dX5_count_131 133 rfl zkb_11 ?_
  obtain ⟨hwt, hwf⟩ := hw
  refine z_icmplt F dX5_count_133 154 rfl 136 rfl (fun c1 => ?_) (fun c1 => ?_)
  · have hw := hwt c1; clear hwt hwf
    refine z_bipush F dX5_count_154 156 rfl zkb_m9 ?_
    exact hRt 156 _ (-9) () dX5_count_156 hw
  · have hw := hwf c1; clear hwt hwf
    refine z_iload_n F dX5_count_136 137 rfl 1 rfl ?_
    refine z_bipush F dX5_count_137 139 rfl zkb_16 ?_
    obtain ⟨hwt, hwf⟩ := hw
    refine z_icmpgt F dX5_count_139 154 rfl 142 rfl (fun c2 => ?_) (fun c2 => ?_)
    · have hw := hwt c2; clear hwt hwf
      refine z_bipush F dX5_count_154 156 rfl zkb_m9 ?_
      exact hRt 156 _ (-9) () dX5_count_156 hw
    · have hw := hwf c2; clear hwt hwf
      refine z_aload_n F dX5_count_142 143 rfl 0 rfl ?_
      refine z_get F dX5_count_143 146 rfl kX5_count_36 0 rfl rfl ?_
      refine z_iload_n F dX5_count_146 147 rfl 1 rfl ?_
      refine z_bipush F dX5_count_147 149 rfl zkb_10 ?_
      refine z_isub F dX5_count_149 150 rfl ?_
      obtain ⟨j1, ej1, hj1, hw⟩ := hw
      refine z_iald F dX5_count_150 151 rfl 2 rfl (by decide) j1 ej1 hj1 ?_
      refine z_goto F dX5_count_151 156 rfl ?_
      exact hRt 156 _ ((sR 1) j1) () dX5_count_156 hw
set_option maxHeartbeats 4000000 in
set_option maxRecDepth 100000 in
theorem mX5_count (l : Launch) (D : va_G) (cyI cyB : ClassId) (aS : Nat → Nat) (aT : Nat → Nat) (aH : Nat → Nat) (aM : Nat → Nat) (kp : Value) (x1 : Int32) (sI : Nat → Int32) (sR : Nat → Nat → Int32) (tI : Nat → Int32) (tR : Nat → Nat → Int32) (hI : Nat → Int32) (hR : Nat → Nat → Int32) (mI : Nat → Int32) (mR : Nat → Nat → Int32) {post : Int32 → Prop} (hw : pX5_count x1 sI sR tI tR hI hR mI mR post) : zMi l yX5_count wsX5_count 2 42 D cyI cyB [.ref (aS 0), .int x1] (wSt aH aM aT aS kp cyI sI sR ++ wTe aT cyB tI tR ++ wHo aH cyI hI hR ++ wMi aH aM cyI mI mR) (S := (Unit)) (fun u => (wSt aH aM aT aS kp cyI sI sR ++ wTe aT cyB tI tR ++ wHo aH cyI hI hR ++ wMi aH aM cyI mI mR)) (fun r u => post r ) :=
  z_meti (cc := cX5_count) (nL := 2) (by decide +kernel) rfl (Nat.le_of_ble_eq_true rfl) (fun C hl F hRt => xX5_count_0 x1 sI sR tI tR hI hR mI mR F hRt hw)
theorem y_X5_count : zY yX5_count wsX5_count cX5_count 2 (some .int) 1 := ⟨⟨_, rfl⟩, by decide +kernel⟩
