theorem iX6_comesHand_6 : ∀ w ∈ wsX60, w ∈ wsX6_comesHand := fun w h => List.mem_cons_of_mem _ (List.mem_append_right _ h)
theorem kX6_comesHand_13 : zL wsX6_comesHand RX6 13 6 1 (.array .int) true := zL6 iX6_comesHand_6 (by decide) (List.mem_of_getElem? (i := 1) rfl) rfl rfl
theorem kX6_comesHand_16 : zL wsX6_comesHand RX6 16 6 2 (.array .int) true := zL6 iX6_comesHand_6 (by decide) (List.mem_of_getElem? (i := 3) rfl) rfl rfl
theorem kX6_comesHand_19 : zL wsX6_comesHand RX6 19 6 3 (.array .int) true := zL6 iX6_comesHand_6 (by decide) (List.mem_of_getElem? (i := 4) rfl) rfl rfl
theorem kX6_comesHand_72 : zL wsX6_comesHand RX6 72 6 11 .int false := zL6 iX6_comesHand_6 (by decide) (List.mem_of_getElem? (i := 2) rfl) rfl rfl
set_option maxHeartbeats 4000000 in
set_option maxRecDepth 100000 in
theorem xX6_comesHand_0 {C : zC} {D : va_G} {cyI cyB : ClassId} {aO : Nat → Nat} (x1 : Int32) (oI : Nat → Int32) (oR : Nat → Nat → Int32) (F : zF C D { frames := 0, cells := 0, slots := 0, locals := 0 } cX6_comesHand 2 wsX6_comesHand RX6 (some .int) cyI cyB) {post : Int32 → (Nat → Int32) → (Nat → Nat → Int32) → Prop} (hRt : zRi C D cX6_comesHand 2 (S := ((Nat → Int32) × (Nat → Nat → Int32))) (fun u => (wMo aO cyI u.1 u.2)) (fun r u => post r u.1 u.2)) (hw : pX6_comesHand x1 oI oR post) : zX C D 2 0 0 (wMo aO cyI oI oR) 0 [(0, .ref (aO 0)), (1, .int x1)] [] := by
  refine z_aload_n F dX6_comesHand_0 1 rfl 0 rfl ?_
  refine z_get F dX6_comesHand_1 4 rfl kX6_comesHand_13 0 rfl rfl ?_
  refine z_aload_n F dX6_comesHand_4 5 rfl 0 rfl ?_
  refine z_get F dX6_comesHand_5 8 rfl kX6_comesHand_72 0 rfl rfl ?_
  refine z_iload_n F dX6_comesHand_8 9 rfl 1 rfl ?_
  obtain ⟨j1, ej1, hj1, hw⟩ := hw
  refine z_iast F dX6_comesHand_9 10 rfl 2 rfl (by decide) j1 ej1 hj1 (wMo aO cyI oI (va_up oR 1 (upd (oR 1) j1 x1))) rfl ?_
  refine z_aload_n F dX6_comesHand_10 11 rfl 0 rfl ?_
  refine z_get F dX6_comesHand_11 14 rfl kX6_comesHand_16 0 rfl rfl ?_
  refine z_aload_n F dX6_comesHand_14 15 rfl 0 rfl ?_
  refine z_get F dX6_comesHand_15 18 rfl kX6_comesHand_72 0 rfl rfl ?_
  refine z_iconst F dX6_comesHand_18 19 rfl zki_5 ?_
  refine z_iast F dX6_comesHand_19 20 rfl 3 rfl (by decide) j1 ej1 hj1 (wMo aO cyI oI (va_up (va_up oR 1 (upd (oR 1) j1 x1)) 2 (upd (oR 2) j1 5))) rfl ?_
  refine z_aload_n F dX6_comesHand_20 21 rfl 0 rfl ?_
  refine z_get F dX6_comesHand_21 24 rfl kX6_comesHand_19 0 rfl rfl ?_
  refine z_aload_n F dX6_comesHand_24 25 rfl 0 rfl ?_
  refine z_get F dX6_comesHand_25 28 rfl kX6_comesHand_72 0 rfl rfl ?_
  refine z_iconst F dX6_comesHand_28 29 rfl zki_0 ?_
  refine z_iast F dX6_comesHand_29 30 rfl 4 rfl (by decide) j1 ej1 hj1 (wMo aO cyI oI (va_up (va_up (va_up oR 1 (upd (oR 1) j1 x1)) 2 (upd (oR 2) j1 5)) 3 (upd (oR 3) j1 0))) rfl ?_
  refine z_aload_n F dX6_comesHand_30 31 rfl 0 rfl ?_
  refine z_dup F dX6_comesHand_31 32 rfl rfl ?_
  refine z_get F dX6_comesHand_32 35 rfl kX6_comesHand_72 0 rfl rfl ?_
  refine z_iconst F dX6_comesHand_35 36 rfl zki_1 ?_
  refine z_iadd F dX6_comesHand_36 37 rfl ?_
  refine z_topi (fun v1 ev1 => ?_)
  replace hw := hw v1 ev1
  refine z_put F dX6_comesHand_37 40 rfl kX6_comesHand_72 0 rfl rfl rfl (Nat.le_of_ble_eq_true rfl) (wMo aO cyI (va_up oI 11 v1) (va_up (va_up (va_up oR 1 (upd (oR 1) j1 x1)) 2 (upd (oR 2) j1 5)) 3 (upd (oR 3) j1 0))) rfl ?_
  refine z_aload_n F dX6_comesHand_40 41 rfl 0 rfl ?_
  refine z_get F dX6_comesHand_41 44 rfl kX6_comesHand_72 0 rfl rfl ?_
  refine z_iconst F dX6_comesHand_44 45 rfl zki_1 ?_
  refine z_isub F dX6_comesHand_45 46 rfl ?_
  exact hRt 46 _ (v1 - 1) ((va_up oI 11 v1), (va_up (va_up (va_up oR 1 (upd (oR 1) j1 x1)) 2 (upd (oR 2) j1 5)) 3 (upd (oR 3) j1 0))) dX6_comesHand_46 hw
set_option maxHeartbeats 4000000 in
set_option maxRecDepth 100000 in
theorem mX6_comesHand (l : Launch) (D : va_G) (cyI cyB : ClassId) (aO : Nat → Nat) (x1 : Int32) (oI : Nat → Int32) (oR : Nat → Nat → Int32) {post : Int32 → (Nat → Int32) → (Nat → Nat → Int32) → Prop} (hw : pX6_comesHand x1 oI oR post) : zMi l yX6_comesHand wsX6_comesHand 0 0 D cyI cyB [.ref (aO 0), .int x1] (wMo aO cyI oI oR) (S := ((Nat → Int32) × (Nat → Nat → Int32))) (fun u => (wMo aO cyI u.1 u.2)) (fun r u => post r u.1 u.2) :=
  z_meti (cc := cX6_comesHand) (nL := 2) (by decide +kernel) rfl (Nat.le_of_ble_eq_true rfl) (fun C hl F hRt => xX6_comesHand_0 x1 oI oR F hRt hw)
theorem y_X6_comesHand : zY yX6_comesHand wsX6_comesHand cX6_comesHand 2 (some .int) 1 := ⟨⟨_, rfl⟩, by decide +kernel⟩
theorem iX6_hand_6 : ∀ w ∈ wsX60, w ∈ wsX6_hand := fun w h => List.mem_cons_of_mem _ (List.mem_append_right _ h)
theorem kX6_hand_72 : zL wsX6_hand RX6 72 6 11 .int false := zL6 iX6_hand_6 (by decide) (List.mem_of_getElem? (i := 1) rfl) rfl rfl
set_option maxHeartbeats 4000000 in
set_option maxRecDepth 100000 in
theorem xX6_hand_0 {C : zC} {D : va_G} {cyI cyB : ClassId} {aO : Nat → Nat} (x1 : Int32) (oI : Nat → Int32) (oR : Nat → Nat → Int32) (F : zF C D { frames := 2, cells := 0, slots := 0, locals := 41 } cX6_hand 2 wsX6_hand RX6 (some .int) cyI cyB) {post : Int32 → (Nat → Int32) → (Nat → Nat → Int32) → Prop} (hRt : zRi C D cX6_hand 2 (S := ((Nat → Int32) × (Nat → Nat → Int32))) (fun u => (wMo aO cyI u.1 u.2)) (fun r u => post r u.1 u.2)) (hw : pX6_hand x1 oI oR post) : zX C D 2 0 0 (wMo aO cyI oI oR) 0 [(0, .ref (aO 0)), (1, .int x1)] [] := by
  refine z_aload_n F dX6_hand_0 1 rfl 0 rfl ?_
  refine z_iload_n F dX6_hand_1 2 rfl 1 rfl ?_
  refine z_segVi (As := [.int x1]) (st := []) F dX6_hand_2 5 rfl (mX6_isSet C.1.2.1 D cyI cyB aO x1 oI oR hw) y_X6_isSet rfl gX6_hand_X6_isSet rfl (ci := 6) (rq := 0) rfl rfl ⟨Nat.le_of_ble_eq_true rfl, Nat.le_of_ble_eq_true rfl⟩ ⟨Nat.zero_le _, Nat.zero_le _⟩ (Nat.le_of_ble_eq_true rfl) [] [] (by simp only [List.append_assoc, List.nil_append, List.append_nil]) (fun _ => rfl) (fun u => (wMo aO cyI oI oR)) (fun u => (by simp only [List.append_assoc, List.nil_append, List.append_nil])) (fun r0 u hp => ?_)
  obtain ⟨b1, rfl, hw⟩ := hp
  obtain ⟨hwt, hwf⟩ := hw
  refine z_ifneB F dX6_hand_5 14 rfl 8 rfl (fun c1 => ?_) (fun c1 => ?_)
  · have hw := hwt c1; clear hwt hwf
    refine z_aload_n F dX6_hand_14 15 rfl 0 rfl ?_
    refine z_get F dX6_hand_15 18 rfl kX6_hand_72 0 rfl rfl ?_
    refine z_bipush F dX6_hand_18 20 rfl zkb_8 ?_
    obtain ⟨hwt, hwf⟩ := hw
    refine z_icmpne F dX6_hand_20 30 rfl 23 rfl (fun c2 => ?_) (fun c2 => ?_)
    · have hw := hwt c2; clear hwt hwf
      refine z_aload_n F dX6_hand_30 31 rfl 0 rfl ?_
      refine z_iload_n F dX6_hand_31 32 rfl 1 rfl ?_
      refine z_segVi (As := [.int x1]) (st := []) F dX6_hand_32 35 rfl (mX6_comesHand C.1.2.1 D cyI cyB aO x1 oI oR hw) y_X6_comesHand rfl gX6_hand_X6_comesHand rfl (ci := 6) (rq := 0) rfl rfl ⟨Nat.le_of_ble_eq_true rfl, Nat.le_of_ble_eq_true rfl⟩ ⟨Nat.zero_le _, Nat.zero_le _⟩ (Nat.le_of_ble_eq_true rfl) [] [] (by simp only [List.append_assoc, List.nil_append, List.append_nil]) (fun _ => rfl) (fun u => (wMo aO cyI u.1 u.2)) (fun u => (by simp only [List.append_assoc, List.nil_append, List.append_nil])) (fun r1 u hp => ?_)
      obtain ⟨oI_1, oR_1⟩ := u
      replace hw := hp
      clear hp
      exact hRt 35 _ r1 (oI_1, oR_1) dX6_hand_35 hw
    · have hw := hwf c2; clear hwt hwf
      refine z_aload_n F dX6_hand_23 24 rfl 0 rfl ?_
      refine z_bipush F dX6_hand_24 26 rfl zkb_m6 ?_
      refine z_segVi (As := [.int (-6)]) (st := []) F dX6_hand_26 29 rfl (mX6_no C.1.2.1 D cyI cyB aO (-6) oI oR hw) y_X6_no rfl gX6_hand_X6_no rfl (ci := 6) (rq := 0) rfl rfl ⟨Nat.le_of_ble_eq_true rfl, Nat.le_of_ble_eq_true rfl⟩ ⟨Nat.zero_le _, Nat.zero_le _⟩ (Nat.le_of_ble_eq_true rfl) [] [] (by simp only [List.append_assoc, List.nil_append, List.append_nil]) (fun _ => rfl) (fun u => (wMo aO cyI u.1 u.2)) (fun u => (by simp only [List.append_assoc, List.nil_append, List.append_nil])) (fun r2 u hp => ?_)
      obtain ⟨oI_2, oR_2⟩ := u
      replace hw := hp
      clear hp
      exact hRt 29 _ r2 (oI_2, oR_2) dX6_hand_29 hw
  · have hw := hwf c1; clear hwt hwf
    refine z_aload_n F dX6_hand_8 9 rfl 0 rfl ?_
    refine z_iconst F dX6_hand_9 10 rfl zki_m1 ?_
    refine z_segVi (As := [.int (-1)]) (st := []) F dX6_hand_10 13 rfl (mX6_no C.1.2.1 D cyI cyB aO (-1) oI oR hw) y_X6_no rfl gX6_hand_X6_no rfl (ci := 6) (rq := 0) rfl rfl ⟨Nat.le_of_ble_eq_true rfl, Nat.le_of_ble_eq_true rfl⟩ ⟨Nat.zero_le _, Nat.zero_le _⟩ (Nat.le_of_ble_eq_true rfl) [] [] (by simp only [List.append_assoc, List.nil_append, List.append_nil]) (fun _ => rfl) (fun u => (wMo aO cyI u.1 u.2)) (fun u => (by simp only [List.append_assoc, List.nil_append, List.append_nil])) (fun r3 u hp => ?_)
    obtain ⟨oI_3, oR_3⟩ := u
    replace hw := hp
    clear hp
    exact hRt 13 _ r3 (oI_3, oR_3) dX6_hand_13 hw
set_option maxHeartbeats 4000000 in
set_option maxRecDepth 100000 in
theorem mX6_hand (l : Launch) (D : va_G) (cyI cyB : ClassId) (aO : Nat → Nat) (x1 : Int32) (oI : Nat → Int32) (oR : Nat → Nat → Int32) {post : Int32 → (Nat → Int32) → (Nat → Nat → Int32) → Prop} (hw : pX6_hand x1 oI oR post) : zMi l yX6_hand wsX6_hand 2 41 D cyI cyB [.ref (aO 0), .int x1] (wMo aO cyI oI oR) (S := ((Nat → Int32) × (Nat → Nat → Int32))) (fun u => (wMo aO cyI u.1 u.2)) (fun r u => post r u.1 u.2) :=
  z_meti (cc := cX6_hand) (nL := 2) (by decide +kernel) rfl (Nat.le_of_ble_eq_true rfl) (fun C hl F hRt => xX6_hand_0 x1 oI oR F hRt hw)
theorem y_X6_hand : zY yX6_hand wsX6_hand cX6_hand 2 (some .int) 1 := ⟨⟨_, rfl⟩, by decide +kernel⟩
theorem iX6_tell_6 : ∀ w ∈ wsX60, w ∈ wsX6_tell := fun w h => List.mem_cons_of_mem _ (List.mem_append_right _ h)
theorem kX6_tell_13 : zL wsX6_tell RX6 13 6 1 (.array .int) true := zL6 iX6_tell_6 (by decide) (List.mem_of_getElem? (i := 1) rfl) rfl rfl
set_option maxHeartbeats 4000000 in
set_option maxRecDepth 100000 in
theorem xX6_tell_41 {C : zC} {D : va_G} {cyI cyB : ClassId} {aO : Nat → Nat} (x1 : Int32) (x2 : Int32) (x3 : Int32) (s0 : Int32) (oI : Nat → Int32) (oR : Nat → Nat → Int32) (F : zF C D { frames := 1, cells := 0, slots := 0, locals := 21 } cX6_tell 4 wsX6_tell RX6 (some .int) cyI cyB) {post : Int32 → (Nat → Int32) → (Nat → Nat → Int32) → Prop} (hRt : zRi C D cX6_tell 4 (S := ((Nat → Int32) × (Nat → Nat → Int32))) (fun u => (wMo aO cyI u.1 u.2)) (fun r u => post r u.1 u.2)) (hw : bX6_tell_41 x1 x2 x3 s0 oI oR post ) : zX C D 4 0 0 (wMo aO cyI oI oR) 41 [(0, .ref (aO 0)), (1, .int x1), (2, .int x2), (3, .int x3)] [.int s0] := by
  refine z_iload_n F dX6_tell_41 42 rfl 3 rfl ?_
  obtain ⟨hwt, hwf⟩ := hw
  refine z_icmpne F dX6_tell_42 47 rfl 45 rfl (fun c4 => ?_) (fun c4 => ?_)
  · have hw := hwt c4; clear hwt hwf
    refine z_aload_n F dX6_tell_47 48 rfl 0 rfl ?_
    refine z_get F dX6_tell_48 51 rfl kX6_tell_13 0 rfl rfl ?_
    refine z_iload_n F dX6_tell_51 52 rfl 1 rfl ?_
    refine z_dup2 F dX6_tell_52 53 rfl rfl rfl ?_
    obtain ⟨j2, ej2, hj2, hw⟩ := hw
    refine z_iald F dX6_tell_53 54 rfl 2 rfl (by decide) j2 ej2 hj2 ?_
    refine z_iconst F dX6_tell_54 55 rfl zki_1 ?_
    refine z_iload_n F dX6_tell_55 56 rfl 2 rfl ?_
    refine z_ishl F dX6_tell_56 57 rfl ?_
    refine z_ixor F dX6_tell_57 58 rfl ?_
    refine z_topi (fun v1 ev1 => ?_)
    replace hw := hw v1 ev1
    refine z_iast F dX6_tell_58 59 rfl 2 rfl (by decide) j2 ej2 hj2 (wMo aO cyI oI (va_up oR 1 (upd (oR 1) j2 v1))) rfl ?_
    refine z_iconst F dX6_tell_59 60 rfl zki_1 ?_
    exact hRt 60 _ 1 (oI, (va_up oR 1 (upd (oR 1) j2 v1))) dX6_tell_60 hw
  · have hw := hwf c4; clear hwt hwf
    refine z_iconst F dX6_tell_45 46 rfl zki_0 ?_
    exact hRt 46 _ 0 (oI, oR) dX6_tell_46 hw
set_option maxHeartbeats 4000000 in
set_option maxRecDepth 100000 in
theorem xX6_tell_0 {C : zC} {D : va_G} {cyI cyB : ClassId} {aO : Nat → Nat} (x1 : Int32) (x2 : Int32) (z3 : Bool) (oI : Nat → Int32) (oR : Nat → Nat → Int32) (F : zF C D { frames := 1, cells := 0, slots := 0, locals := 21 } cX6_tell 4 wsX6_tell RX6 (some .int) cyI cyB) {post : Int32 → (Nat → Int32) → (Nat → Nat → Int32) → Prop} (hRt : zRi C D cX6_tell 4 (S := ((Nat → Int32) × (Nat → Nat → Int32))) (fun u => (wMo aO cyI u.1 u.2)) (fun r u => post r u.1 u.2)) (hw : pX6_tell x1 x2 z3 oI oR post) : zX C D 4 0 0 (wMo aO cyI oI oR) 0 [(0, .ref (aO 0)), (1, .int x1), (2, .int x2), (3, .int (zb z3))] [] := by
  refine z_aload_n F dX6_tell_0 1 rfl 0 rfl ?_
  refine z_iload_n F dX6_tell_1 2 rfl 1 rfl ?_
  refine z_segVi (As := [.int x1]) (st := []) F dX6_tell_2 5 rfl (mX6_isHand C.1.2.1 D cyI cyB aO x1 oI oR hw) y_X6_isHand rfl gX6_tell_X6_isHand rfl (ci := 6) (rq := 0) rfl rfl ⟨Nat.le_of_ble_eq_true rfl, Nat.le_of_ble_eq_true rfl⟩ ⟨Nat.zero_le _, Nat.zero_le _⟩ (Nat.le_of_ble_eq_true rfl) [] [] (by simp only [List.append_assoc, List.nil_append, List.append_nil]) (fun _ => rfl) (fun u => (wMo aO cyI oI oR)) (fun u => (by simp only [List.append_assoc, List.nil_append, List.append_nil])) (fun r0 u hp => ?_)
  obtain ⟨b1, rfl, hw⟩ := hp
  obtain ⟨hwt, hwf⟩ := hw
  refine z_ifeqB F dX6_tell_5 16 rfl 8 rfl (fun c1 => ?_) (fun c1 => ?_)
  · have hw := hwt c1; clear hwt hwf
    refine z_aload_n F dX6_tell_16 17 rfl 0 rfl ?_
    refine z_iconst F dX6_tell_17 18 rfl zki_m1 ?_
    refine z_segVi (As := [.int (-1)]) (st := []) F dX6_tell_18 21 rfl (mX6_no C.1.2.1 D cyI cyB aO (-1) oI oR hw) y_X6_no rfl gX6_tell_X6_no rfl (ci := 6) (rq := 0) rfl rfl ⟨Nat.le_of_ble_eq_true rfl, Nat.le_of_ble_eq_true rfl⟩ ⟨Nat.zero_le _, Nat.zero_le _⟩ (Nat.le_of_ble_eq_true rfl) [] [] (by simp only [List.append_assoc, List.nil_append, List.append_nil]) (fun _ => rfl) (fun u => (wMo aO cyI u.1 u.2)) (fun u => (by simp only [List.append_assoc, List.nil_append, List.append_nil])) (fun r1 u hp => ?_)
    obtain ⟨oI_1, oR_1⟩ := u
    replace hw := hp
    clear hp
    exact hRt 21 _ r1 (oI_1, oR_1) dX6_tell_21 hw
  · have hw := hwf c1; clear hwt hwf
    refine z_aload_n F dX6_tell_8 9 rfl 0 rfl ?_
    refine z_iload_n F dX6_tell_9 10 rfl 2 rfl ?_
    refine z_segVi (As := [.int x2]) (st := []) F dX6_tell_10 13 rfl (mX6_isStep C.1.2.1 D cyI cyB aO x2 oI oR hw) y_X6_isStep rfl gX6_tell_X6_isStep rfl (ci := 6) (rq := 0) rfl rfl ⟨Nat.le_of_ble_eq_true rfl, Nat.le_of_ble_eq_true rfl⟩ ⟨Nat.zero_le _, Nat.zero_le _⟩ (Nat.le_of_ble_eq_true rfl) [] [] (by simp only [List.append_assoc, List.nil_append, List.append_nil]) (fun _ => rfl) (fun u => (wMo aO cyI oI oR)) (fun u => (by simp only [List.append_assoc, List.nil_append, List.append_nil])) (fun r0 u hp => ?_)
    obtain ⟨b2, rfl, hw⟩ := hp
    obtain ⟨hwt, hwf⟩ := hw
    refine z_ifneB F dX6_tell_13 22 rfl 16 rfl (fun c2 => ?_) (fun c2 => ?_)
    · have hw := hwt c2; clear hwt hwf
      refine z_aload_n F dX6_tell_22 23 rfl 0 rfl ?_
      refine z_get F dX6_tell_23 26 rfl kX6_tell_13 0 rfl rfl ?_
      refine z_iload_n F dX6_tell_26 27 rfl 1 rfl ?_
      obtain ⟨j1, ej1, hj1, hw⟩ := hw
      refine z_iald F dX6_tell_27 28 rfl 2 rfl (by decide) j1 ej1 hj1 ?_
      refine z_iload_n F dX6_tell_28 29 rfl 2 rfl ?_
      refine z_ishr F dX6_tell_29 30 rfl ?_
      refine z_iconst F dX6_tell_30 31 rfl zki_1 ?_
      refine z_iand F dX6_tell_31 32 rfl ?_
      refine z_iconst F dX6_tell_32 33 rfl zki_1 ?_
      obtain ⟨hwt, hwf⟩ := hw
      refine z_icmpne F dX6_tell_33 40 rfl 36 rfl (fun c3 => ?_) (fun c3 => ?_)
      · have hw := hwt c3; clear hwt hwf
        refine z_iconst F dX6_tell_40 41 rfl zki_0 ?_
        exact xX6_tell_41 x1 x2 (zb z3) 0 oI oR F hRt hw
      · have hw := hwf c3; clear hwt hwf
        refine z_iconst F dX6_tell_36 37 rfl zki_1 ?_
        refine z_goto F dX6_tell_37 41 rfl ?_
        exact xX6_tell_41 x1 x2 (zb z3) 1 oI oR F hRt hw
    · have hw := hwf c2; clear hwt hwf
      refine z_aload_n F dX6_tell_16 17 rfl 0 rfl ?_
      refine z_iconst F dX6_tell_17 18 rfl zki_m1 ?_
      refine z_segVi (As := [.int (-1)]) (st := []) F dX6_tell_18 21 rfl (mX6_no C.1.2.1 D cyI cyB aO (-1) oI oR hw) y_X6_no rfl gX6_tell_X6_no rfl (ci := 6) (rq := 0) rfl rfl ⟨Nat.le_of_ble_eq_true rfl, Nat.le_of_ble_eq_true rfl⟩ ⟨Nat.zero_le _, Nat.zero_le _⟩ (Nat.le_of_ble_eq_true rfl) [] [] (by simp only [List.append_assoc, List.nil_append, List.append_nil]) (fun _ => rfl) (fun u => (wMo aO cyI u.1 u.2)) (fun u => (by simp only [List.append_assoc, List.nil_append, List.append_nil])) (fun r2 u hp => ?_)
      obtain ⟨oI_2, oR_2⟩ := u
      replace hw := hp
      clear hp
      exact hRt 21 _ r2 (oI_2, oR_2) dX6_tell_21 hw
set_option maxHeartbeats 4000000 in
set_option maxRecDepth 100000 in
theorem mX6_tell (l : Launch) (D : va_G) (cyI cyB : ClassId) (aO : Nat → Nat) (x1 : Int32) (x2 : Int32) (z3 : Bool) (oI : Nat → Int32) (oR : Nat → Nat → Int32) {post : Int32 → (Nat → Int32) → (Nat → Nat → Int32) → Prop} (hw : pX6_tell x1 x2 z3 oI oR post) : zMi l yX6_tell wsX6_tell 1 21 D cyI cyB [.ref (aO 0), .int x1, .int x2, .int (zb z3)] (wMo aO cyI oI oR) (S := ((Nat → Int32) × (Nat → Nat → Int32))) (fun u => (wMo aO cyI u.1 u.2)) (fun r u => post r u.1 u.2) :=
  z_meti (cc := cX6_tell) (nL := 4) (by decide +kernel) rfl (Nat.le_of_ble_eq_true rfl) (fun C hl F hRt => xX6_tell_0 x1 x2 z3 oI oR F hRt hw)
theorem y_X6_tell : zY yX6_tell wsX6_tell cX6_tell 4 (some .int) 3 := ⟨⟨_, rfl⟩, by decide +kernel⟩
theorem iX6_chance_6 : ∀ w ∈ wsX60, w ∈ wsX6_chance := fun w h => List.mem_cons_of_mem _ (List.mem_append_right _ h)
theorem kX6_chance_16 : zL wsX6_chance RX6 16 6 2 (.array .int) true := zL6 iX6_chance_6 (by decide) (List.mem_of_getElem? (i := 1) rfl) rfl rfl
set_option maxHeartbeats 4000000 in
set_option maxRecDepth 100000 in
theorem xX6_chance_0 {C : zC} {D : va_G} {cyI cyB : ClassId} {aO : Nat → Nat} (x1 : Int32) (x2 : Int32) (oI : Nat → Int32) (oR : Nat → Nat → Int32) (F : zF C D { frames := 1, cells := 0, slots := 0, locals := 22 } cX6_chance 5 wsX6_chance RX6 (some .int) cyI cyB) {post : Int32 → (Nat → Int32) → (Nat → Nat → Int32) → Prop} (hRt : zRi C D cX6_chance 5 (S := ((Nat → Int32) × (Nat → Nat → Int32))) (fun u => (wMo aO cyI u.1 u.2)) (fun r u => post r u.1 u.2)) (hw : pX6_chance x1 x2 oI oR post) : zX C D 5 0 0 (wMo aO cyI oI oR) 0 [(0, .ref (aO 0)), (1, .int x1), (2, .int x2)] [] := by
  refine z_aload_n F dX6_chance_0 1 rfl 0 rfl ?_
  refine z_iload_n F dX6_chance_1 2 rfl 1 rfl ?_
  refine z_segVi (As := [.int x1]) (st := []) F dX6_chance_2 5 rfl (mX6_isHand C.1.2.1 D cyI cyB aO x1 oI oR hw) y_X6_isHand rfl gX6_chance_X6_isHand rfl (ci := 6) (rq := 0) rfl rfl ⟨Nat.le_of_ble_eq_true rfl, Nat.le_of_ble_eq_true rfl⟩ ⟨Nat.zero_le _, Nat.zero_le _⟩ (Nat.le_of_ble_eq_true rfl) [] [] (by simp only [List.append_assoc, List.nil_append, List.append_nil]) (fun _ => rfl) (fun u => (wMo aO cyI oI oR)) (fun u => (by simp only [List.append_assoc, List.nil_append, List.append_nil])) (fun r0 u hp => ?_)
  obtain ⟨b1, rfl, hw⟩ := hp
  obtain ⟨hwt, hwf⟩ := hw
  refine z_ifneB F dX6_chance_5 14 rfl 8 rfl (fun c1 => ?_) (fun c1 => ?_)
  · have hw := hwt c1; clear hwt hwf
    refine z_iload_n F dX6_chance_14 15 rfl 2 rfl ?_
    refine z_iconst F dX6_chance_15 16 rfl zki_0 ?_
    refine z_bipush F dX6_chance_16 18 rfl zkb_100 ?_
    refine z_callSi (As := [.int x2, .int 0, .int 100]) (st := []) F dX6_chance_18 21 rfl (mX6_bound C.1.2.1 D cyI cyB x2 0 100 hw) y_X6_bound rfl gX6_chance_X6_bound ⟨Nat.le_of_ble_eq_true rfl, Nat.le_of_ble_eq_true rfl⟩ ⟨Nat.zero_le _, Nat.zero_le _⟩ (Nat.le_of_ble_eq_true rfl) [] (by decide) rfl (fun _ => rfl) (fun u => (wMo aO cyI oI oR)) (fun _ => rfl) (fun r1 u hp => ?_)
    replace hw := hp
    clear hp
    refine z_istore_n (lv' := [(3, .int r1), (0, .ref (aO 0)), (1, .int x1), (2, .int x2)]) F dX6_chance_21 22 rfl (by decide) rfl ?_
    refine z_iload_n F dX6_chance_22 23 rfl 0 rfl ?_
    obtain ⟨hwt, hwf⟩ := hw
    refine z_ifeq F dX6_chance_23 32 rfl 26 rfl (fun c2 => ?_) (fun c2 => ?_)
    · have hw := hwt c2; clear hwt hwf
      refine z_aload_n F dX6_chance_32 33 rfl 1 rfl ?_
      refine z_get F dX6_chance_33 36 rfl kX6_chance_16 0 rfl rfl ?_
      refine z_iload_n F dX6_chance_36 37 rfl 2 rfl ?_
      obtain ⟨j1, ej1, hj1, hw⟩ := hw
      refine z_iald F dX6_chance_37 38 rfl 3 rfl (by decide) j1 ej1 hj1 ?_
      refine z_topi (fun v1 ev1 => ?_)
      replace hw := hw v1 ev1
      refine z_istore (lv' := [(4, .int v1), (3, .int r1), (0, .ref (aO 0)), (1, .int x1), (2, .int x2)]) F dX6_chance_38 40 rfl (by decide) rfl ?_
      refine z_aload_n F dX6_chance_40 41 rfl 2 rfl ?_
      refine z_get F dX6_chance_41 44 rfl kX6_chance_16 0 rfl rfl ?_
      refine z_iload_n F dX6_chance_44 45 rfl 3 rfl ?_
      refine z_iload_n F dX6_chance_45 46 rfl 4 rfl ?_
      refine z_iast F dX6_chance_46 47 rfl 3 rfl (by decide) j1 ej1 hj1 (wMo aO cyI oI (va_up oR 2 (upd (oR 2) j1 x2))) rfl ?_
      refine z_iload F dX6_chance_47 49 rfl 0 rfl ?_
      exact hRt 49 _ v1 (oI, (va_up oR 2 (upd (oR 2) j1 x2))) dX6_chance_49 hw
    · have hw := hwf c2; clear hwt hwf
      refine z_aload_n F dX6_chance_26 27 rfl 1 rfl ?_
      refine z_iload_n F dX6_chance_27 28 rfl 0 rfl ?_
      refine z_segVi (As := [.int r1]) (st := []) F dX6_chance_28 31 rfl (mX6_no C.1.2.1 D cyI cyB aO r1 oI oR hw) y_X6_no rfl gX6_chance_X6_no rfl (ci := 6) (rq := 0) rfl rfl ⟨Nat.le_of_ble_eq_true rfl, Nat.le_of_ble_eq_true rfl⟩ ⟨Nat.zero_le _, Nat.zero_le _⟩ (Nat.le_of_ble_eq_true rfl) [] [] (by simp only [List.append_assoc, List.nil_append, List.append_nil]) (fun _ => rfl) (fun u => (wMo aO cyI u.1 u.2)) (fun u => (by simp only [List.append_assoc, List.nil_append, List.append_nil])) (fun r2 u hp => ?_)
      obtain ⟨oI_1, oR_1⟩ := u
      replace hw := hp
      clear hp
      exact hRt 31 _ r2 (oI_1, oR_1) dX6_chance_31 hw
  · have hw := hwf c1; clear hwt hwf
    refine z_aload_n F dX6_chance_8 9 rfl 0 rfl ?_
    refine z_iconst F dX6_chance_9 10 rfl zki_m1 ?_
    refine z_segVi (As := [.int (-1)]) (st := []) F dX6_chance_10 13 rfl (mX6_no C.1.2.1 D cyI cyB aO (-1) oI oR hw) y_X6_no rfl gX6_chance_X6_no rfl (ci := 6) (rq := 0) rfl rfl ⟨Nat.le_of_ble_eq_true rfl, Nat.le_of_ble_eq_true rfl⟩ ⟨Nat.zero_le _, Nat.zero_le _⟩ (Nat.le_of_ble_eq_true rfl) [] [] (by simp only [List.append_assoc, List.nil_append, List.append_nil]) (fun _ => rfl) (fun u => (wMo aO cyI u.1 u.2)) (fun u => (by simp only [List.append_assoc, List.nil_append, List.append_nil])) (fun r3 u hp => ?_)
    obtain ⟨oI_2, oR_2⟩ := u
    replace hw := hp
    clear hp
    exact hRt 13 _ r3 (oI_2, oR_2) dX6_chance_13 hw
set_option maxHeartbeats 4000000 in
set_option maxRecDepth 100000 in
theorem mX6_chance (l : Launch) (D : va_G) (cyI cyB : ClassId) (aO : Nat → Nat) (x1 : Int32) (x2 : Int32) (oI : Nat → Int32) (oR : Nat → Nat → Int32) {post : Int32 → (Nat → Int32) → (Nat → Nat → Int32) → Prop} (hw : pX6_chance x1 x2 oI oR post) : zMi l yX6_chance wsX6_chance 1 22 D cyI cyB [.ref (aO 0), .int x1, .int x2] (wMo aO cyI oI oR) (S := ((Nat → Int32) × (Nat → Nat → Int32))) (fun u => (wMo aO cyI u.1 u.2)) (fun r u => post r u.1 u.2) :=
  z_meti (cc := cX6_chance) (nL := 5) (by decide +kernel) rfl (Nat.le_of_ble_eq_true rfl) (fun C hl F hRt => xX6_chance_0 x1 x2 oI oR F hRt hw)
theorem y_X6_chance : zY yX6_chance wsX6_chance cX6_chance 5 (some .int) 2 := ⟨⟨_, rfl⟩, by decide +kernel⟩
theorem iX6_over_6 : ∀ w ∈ wsX60, w ∈ wsX6_over := fun w h => List.mem_cons_of_mem _ (List.mem_append_right _ h)
theorem kX6_over_19 : zL wsX6_over RX6 19 6 3 (.array .int) true := zL6 iX6_over_6 (by decide) (List.mem_of_getElem? (i := 1) rfl) rfl rfl
set_option maxHeartbeats 4000000 in
set_option maxRecDepth 100000 in
theorem xX6_over_29 {C : zC} {D : va_G} {cyI cyB : ClassId} {aO : Nat → Nat} (x1 : Int32) (x2 : Int32) (s0 : Int32) (oI : Nat → Int32) (oR : Nat → Nat → Int32) (F : zF C D { frames := 1, cells := 0, slots := 0, locals := 21 } cX6_over 3 wsX6_over RX6 (some .int) cyI cyB) {post : Int32 → (Nat → Int32) → (Nat → Nat → Int32) → Prop} (hRt : zRi C D cX6_over 3 (S := ((Nat → Int32) × (Nat → Nat → Int32))) (fun u => (wMo aO cyI u.1 u.2)) (fun r u => post r u.1 u.2)) (hw : bX6_over_29 x1 x2 s0 oI oR post ) : zX C D 3 0 0 (wMo aO cyI oI oR) 29 [(0, .ref (aO 0)), (1, .int x1), (2, .int x2)] [.int s0] := by
  refine z_iload_n F dX6_over_29 30 rfl 2 rfl ?_
  obtain ⟨hwt, hwf⟩ := hw
  refine z_icmpne F dX6_over_30 35 rfl 33 rfl (fun c3 => ?_) (fun c3 => ?_)
  · have hw := hwt c3; clear hwt hwf
    refine z_aload_n F dX6_over_35 36 rfl 0 rfl ?_
    refine z_get F dX6_over_36 39 rfl kX6_over_19 0 rfl rfl ?_
    refine z_iload_n F dX6_over_39 40 rfl 1 rfl ?_
    refine z_iload_n F dX6_over_40 41 rfl 2 rfl ?_
    obtain ⟨hwt, hwf⟩ := hw
    refine z_ifeq F dX6_over_41 48 rfl 44 rfl (fun c4 => ?_) (fun c4 => ?_)
    · have hw := hwt c4; clear hwt hwf
      refine z_iconst F dX6_over_48 49 rfl zki_0 ?_
      obtain ⟨j2, ej2, hj2, hw⟩ := hw
      refine z_iast F dX6_over_49 50 rfl 4 rfl (by decide) j2 ej2 hj2 (wMo aO cyI oI (va_up oR 3 (upd (oR 3) j2 0))) rfl ?_
      refine z_iconst F dX6_over_50 51 rfl zki_1 ?_
      exact hRt 51 _ 1 (oI, (va_up oR 3 (upd (oR 3) j2 0))) dX6_over_51 hw
    · have hw := hwf c4; clear hwt hwf
      refine z_iconst F dX6_over_44 45 rfl zki_1 ?_
      refine z_goto F dX6_over_45 49 rfl ?_
      obtain ⟨j3, ej3, hj3, hw⟩ := hw
      refine z_iast F dX6_over_49 50 rfl 4 rfl (by decide) j3 ej3 hj3 (wMo aO cyI oI (va_up oR 3 (upd (oR 3) j3 1))) rfl ?_
      refine z_iconst F dX6_over_50 51 rfl zki_1 ?_
      exact hRt 51 _ 1 (oI, (va_up oR 3 (upd (oR 3) j3 1))) dX6_over_51 hw
  · have hw := hwf c3; clear hwt hwf
    refine z_iconst F dX6_over_33 34 rfl zki_0 ?_
    exact hRt 34 _ 0 (oI, oR) dX6_over_34 hw
set_option maxHeartbeats 4000000 in
set_option maxRecDepth 100000 in
theorem xX6_over_0 {C : zC} {D : va_G} {cyI cyB : ClassId} {aO : Nat → Nat} (x1 : Int32) (z2 : Bool) (oI : Nat → Int32) (oR : Nat → Nat → Int32) (F : zF C D { frames := 1, cells := 0, slots := 0, locals := 21 } cX6_over 3 wsX6_over RX6 (some .int) cyI cyB) {post : Int32 → (Nat → Int32) → (Nat → Nat → Int32) → Prop} (hRt : zRi C D cX6_over 3 (S := ((Nat → Int32) × (Nat → Nat → Int32))) (fun u => (wMo aO cyI u.1 u.2)) (fun r u => post r u.1 u.2)) (hw : pX6_over x1 z2 oI oR post) : zX C D 3 0 0 (wMo aO cyI oI oR) 0 [(0, .ref (aO 0)), (1, .int x1), (2, .int (zb z2))] [] := by
  refine z_aload_n F dX6_over_0 1 rfl 0 rfl ?_
  refine z_iload_n F dX6_over_1 2 rfl 1 rfl ?_
  refine z_segVi (As := [.int x1]) (st := []) F dX6_over_2 5 rfl (mX6_isHand C.1.2.1 D cyI cyB aO x1 oI oR hw) y_X6_isHand rfl gX6_over_X6_isHand rfl (ci := 6) (rq := 0) rfl rfl ⟨Nat.le_of_ble_eq_true rfl, Nat.le_of_ble_eq_true rfl⟩ ⟨Nat.zero_le _, Nat.zero_le _⟩ (Nat.le_of_ble_eq_true rfl) [] [] (by simp only [List.append_assoc, List.nil_append, List.append_nil]) (fun _ => rfl) (fun u => (wMo aO cyI oI oR)) (fun u => (by simp only [List.append_assoc, List.nil_append, List.append_nil])) (fun r0 u hp => ?_)
  obtain ⟨b1, rfl, hw⟩ := hp
  obtain ⟨hwt, hwf⟩ := hw
  refine z_ifneB F dX6_over_5 14 rfl 8 rfl (fun c1 => ?_) (fun c1 => ?_)
  · have hw := hwt c1; clear hwt hwf
    refine z_aload_n F dX6_over_14 15 rfl 0 rfl ?_
    refine z_get F dX6_over_15 18 rfl kX6_over_19 0 rfl rfl ?_
    refine z_iload_n F dX6_over_18 19 rfl 1 rfl ?_
    obtain ⟨j1, ej1, hj1, hw⟩ := hw
    refine z_iald F dX6_over_19 20 rfl 4 rfl (by decide) j1 ej1 hj1 ?_
    refine z_iconst F dX6_over_20 21 rfl zki_1 ?_
    obtain ⟨hwt, hwf⟩ := hw
    refine z_icmpne F dX6_over_21 28 rfl 24 rfl (fun c2 => ?_) (fun c2 => ?_)
    · have hw := hwt c2; clear hwt hwf
      refine z_iconst F dX6_over_28 29 rfl zki_0 ?_
      exact xX6_over_29 x1 (zb z2) 0 oI oR F hRt hw
    · have hw := hwf c2; clear hwt hwf
      refine z_iconst F dX6_over_24 25 rfl zki_1 ?_
      refine z_goto F dX6_over_25 29 rfl ?_
      exact xX6_over_29 x1 (zb z2) 1 oI oR F hRt hw
  · have hw := hwf c1; clear hwt hwf
    refine z_aload_n F dX6_over_8 9 rfl 0 rfl ?_
    refine z_iconst F dX6_over_9 10 rfl zki_m1 ?_
    refine z_segVi (As := [.int (-1)]) (st := []) F dX6_over_10 13 rfl (mX6_no C.1.2.1 D cyI cyB aO (-1) oI oR hw) y_X6_no rfl gX6_over_X6_no rfl (ci := 6) (rq := 0) rfl rfl ⟨Nat.le_of_ble_eq_true rfl, Nat.le_of_ble_eq_true rfl⟩ ⟨Nat.zero_le _, Nat.zero_le _⟩ (Nat.le_of_ble_eq_true rfl) [] [] (by simp only [List.append_assoc, List.nil_append, List.append_nil]) (fun _ => rfl) (fun u => (wMo aO cyI u.1 u.2)) (fun u => (by simp only [List.append_assoc, List.nil_append, List.append_nil])) (fun r1 u hp => ?_)
    obtain ⟨oI_1, oR_1⟩ := u
    replace hw := hp
    clear hp
    exact hRt 13 _ r1 (oI_1, oR_1) dX6_over_13 hw
set_option maxHeartbeats 4000000 in
set_option maxRecDepth 100000 in
theorem mX6_over (l : Launch) (D : va_G) (cyI cyB : ClassId) (aO : Nat → Nat) (x1 : Int32) (z2 : Bool) (oI : Nat → Int32) (oR : Nat → Nat → Int32) {post : Int32 → (Nat → Int32) → (Nat → Nat → Int32) → Prop} (hw : pX6_over x1 z2 oI oR post) : zMi l yX6_over wsX6_over 1 21 D cyI cyB [.ref (aO 0), .int x1, .int (zb z2)] (wMo aO cyI oI oR) (S := ((Nat → Int32) × (Nat → Nat → Int32))) (fun u => (wMo aO cyI u.1 u.2)) (fun r u => post r u.1 u.2) :=
  z_meti (cc := cX6_over) (nL := 3) (by decide +kernel) rfl (Nat.le_of_ble_eq_true rfl) (fun C hl F hRt => xX6_over_0 x1 z2 oI oR F hRt hw)
theorem y_X6_over : zY yX6_over wsX6_over cX6_over 3 (some .int) 2 := ⟨⟨_, rfl⟩, by decide +kernel⟩
theorem iX6_comesSight_6 : ∀ w ∈ wsX60, w ∈ wsX6_comesSight := fun w h => List.mem_cons_of_mem _ (List.mem_append_right _ h)
theorem kX6_comesSight_22 : zL wsX6_comesSight RX6 22 6 4 (.array .int) true := zL6 iX6_comesSight_6 (by decide) (List.mem_of_getElem? (i := 1) rfl) rfl rfl
theorem kX6_comesSight_25 : zL wsX6_comesSight RX6 25 6 5 (.array .int) true := zL6 iX6_comesSight_6 (by decide) (List.mem_of_getElem? (i := 3) rfl) rfl rfl
theorem kX6_comesSight_102 : zL wsX6_comesSight RX6 102 6 12 .int false := zL6 iX6_comesSight_6 (by decide) (List.mem_of_getElem? (i := 2) rfl) rfl rfl
set_option maxHeartbeats 4000000 in
set_option maxRecDepth 100000 in
theorem xX6_comesSight_0 {C : zC} {D : va_G} {cyI cyB : ClassId} {aO : Nat → Nat} (x1 : Int32) (x2 : Int32) (oI : Nat → Int32) (oR : Nat → Nat → Int32) (F : zF C D { frames := 0, cells := 0, slots := 0, locals := 0 } cX6_comesSight 3 wsX6_comesSight RX6 (some .int) cyI cyB) {post : Int32 → (Nat → Int32) → (Nat → Nat → Int32) → Prop} (hRt : zRi C D cX6_comesSight 3 (S := ((Nat → Int32) × (Nat → Nat → Int32))) (fun u => (wMo aO cyI u.1 u.2)) (fun r u => post r u.1 u.2)) (hw : pX6_comesSight x1 x2 oI oR post) : zX C D 3 0 0 (wMo aO cyI oI oR) 0 [(0, .ref (aO 0)), (1, .int x1), (2, .int x2)] [] := by
  refine z_aload_n F dX6_comesSight_0 1 rfl 0 rfl ?_
  refine z_get F dX6_comesSight_1 4 rfl kX6_comesSight_22 0 rfl rfl ?_
  refine z_aload_n F dX6_comesSight_4 5 rfl 0 rfl ?_
  refine z_get F dX6_comesSight_5 8 rfl kX6_comesSight_102 0 rfl rfl ?_
  refine z_iload_n F dX6_comesSight_8 9 rfl 1 rfl ?_
  obtain ⟨j1, ej1, hj1, hw⟩ := hw
  refine z_iast F dX6_comesSight_9 10 rfl 5 rfl (by decide) j1 ej1 hj1 (wMo aO cyI oI (va_up oR 4 (upd (oR 4) j1 x1))) rfl ?_
  refine z_aload_n F dX6_comesSight_10 11 rfl 0 rfl ?_
  refine z_get F dX6_comesSight_11 14 rfl kX6_comesSight_25 0 rfl rfl ?_
  refine z_aload_n F dX6_comesSight_14 15 rfl 0 rfl ?_
  refine z_get F dX6_comesSight_15 18 rfl kX6_comesSight_102 0 rfl rfl ?_
  refine z_iload_n F dX6_comesSight_18 19 rfl 2 rfl ?_
  refine z_iast F dX6_comesSight_19 20 rfl 6 rfl (by decide) j1 ej1 hj1 (wMo aO cyI oI (va_up (va_up oR 4 (upd (oR 4) j1 x1)) 5 (upd (oR 5) j1 x2))) rfl ?_
  refine z_aload_n F dX6_comesSight_20 21 rfl 0 rfl ?_
  refine z_dup F dX6_comesSight_21 22 rfl rfl ?_
  refine z_get F dX6_comesSight_22 25 rfl kX6_comesSight_102 0 rfl rfl ?_
  refine z_iconst F dX6_comesSight_25 26 rfl zki_1 ?_
  refine z_iadd F dX6_comesSight_26 27 rfl ?_
  refine z_topi (fun v1 ev1 => ?_)
  replace hw := hw v1 ev1
  refine z_put F dX6_comesSight_27 30 rfl kX6_comesSight_102 0 rfl rfl rfl (Nat.le_of_ble_eq_true rfl) (wMo aO cyI (va_up oI 12 v1) (va_up (va_up oR 4 (upd (oR 4) j1 x1)) 5 (upd (oR 5) j1 x2))) rfl ?_
  refine z_aload_n F dX6_comesSight_30 31 rfl 0 rfl ?_
  refine z_get F dX6_comesSight_31 34 rfl kX6_comesSight_102 0 rfl rfl ?_
  refine z_iconst F dX6_comesSight_34 35 rfl zki_1 ?_
  refine z_isub F dX6_comesSight_35 36 rfl ?_
  exact hRt 36 _ (v1 - 1) ((va_up oI 12 v1), (va_up (va_up oR 4 (upd (oR 4) j1 x1)) 5 (upd (oR 5) j1 x2))) dX6_comesSight_36 hw
set_option maxHeartbeats 4000000 in
set_option maxRecDepth 100000 in
theorem mX6_comesSight (l : Launch) (D : va_G) (cyI cyB : ClassId) (aO : Nat → Nat) (x1 : Int32) (x2 : Int32) (oI : Nat → Int32) (oR : Nat → Nat → Int32) {post : Int32 → (Nat → Int32) → (Nat → Nat → Int32) → Prop} (hw : pX6_comesSight x1 x2 oI oR post) : zMi l yX6_comesSight wsX6_comesSight 0 0 D cyI cyB [.ref (aO 0), .int x1, .int x2] (wMo aO cyI oI oR) (S := ((Nat → Int32) × (Nat → Nat → Int32))) (fun u => (wMo aO cyI u.1 u.2)) (fun r u => post r u.1 u.2) :=
  z_meti (cc := cX6_comesSight) (nL := 3) (by decide +kernel) rfl (Nat.le_of_ble_eq_true rfl) (fun C hl F hRt => xX6_comesSight_0 x1 x2 oI oR F hRt hw)
theorem y_X6_comesSight : zY yX6_comesSight wsX6_comesSight cX6_comesSight 3 (some .int) 2 := ⟨⟨_, rfl⟩, by decide +kernel⟩
theorem iX6_sight_6 : ∀ w ∈ wsX60, w ∈ wsX6_sight := fun w h => List.mem_cons_of_mem _ (List.mem_append_right _ h)
theorem kX6_sight_102 : zL wsX6_sight RX6 102 6 12 .int false := zL6 iX6_sight_6 (by decide) (List.mem_of_getElem? (i := 1) rfl) rfl rfl
set_option maxHeartbeats 4000000 in
set_option maxRecDepth 100000 in
theorem xX6_sight_0 {C : zC} {D : va_G} {cyI cyB : ClassId} {aO : Nat → Nat} (x1 : Int32) (x2 : Int32) (oI : Nat → Int32) (oR : Nat → Nat → Int32) (F : zF C D { frames := 2, cells := 0, slots := 0, locals := 43 } cX6_sight 3 wsX6_sight RX6 (some .int) cyI cyB) {post : Int32 → (Nat → Int32) → (Nat → Nat → Int32) → Prop} (hRt : zRi C D cX6_sight 3 (S := ((Nat → Int32) × (Nat → Nat → Int32))) (fun u => (wMo aO cyI u.1 u.2)) (fun r u => post r u.1 u.2)) (hw : pX6_sight x1 x2 oI oR post) : zX C D 3 0 0 (wMo aO cyI oI oR) 0 [(0, .ref (aO 0)), (1, .int x1), (2, .int x2)] [] := by
  refine z_aload_n F dX6_sight_0 1 rfl 0 rfl ?_
  refine z_iload_n F dX6_sight_1 2 rfl 1 rfl ?_
  refine z_iload_n F dX6_sight_2 3 rfl 2 rfl ?_
  refine z_segVi (As := [.int x1, .int x2]) (st := []) F dX6_sight_3 6 rfl (mX6_areTwo C.1.2.1 D cyI cyB aO x1 x2 oI oR hw) y_X6_areTwo rfl gX6_sight_X6_areTwo rfl (ci := 6) (rq := 0) rfl rfl ⟨Nat.le_of_ble_eq_true rfl, Nat.le_of_ble_eq_true rfl⟩ ⟨Nat.zero_le _, Nat.zero_le _⟩ (Nat.le_of_ble_eq_true rfl) [] [] (by simp only [List.append_assoc, List.nil_append, List.append_nil]) (fun _ => rfl) (fun u => (wMo aO cyI oI oR)) (fun u => (by simp only [List.append_assoc, List.nil_append, List.append_nil])) (fun r0 u hp => ?_)
  obtain ⟨b1, rfl, hw⟩ := hp
  obtain ⟨hwt, hwf⟩ := hw
  refine z_ifneB F dX6_sight_6 15 rfl 9 rfl (fun c1 => ?_) (fun c1 => ?_)
  · have hw := hwt c1; clear hwt hwf
    refine z_aload_n F dX6_sight_15 16 rfl 0 rfl ?_
    refine z_iload_n F dX6_sight_16 17 rfl 1 rfl ?_
    refine z_iload_n F dX6_sight_17 18 rfl 2 rfl ?_
    refine z_segVi (As := [.int x1, .int x2]) (st := []) F dX6_sight_18 21 rfl (mX6_hasSight C.1.2.1 D cyI cyB aO x1 x2 oI oR hw) y_X6_hasSight rfl gX6_sight_X6_hasSight rfl (ci := 6) (rq := 0) rfl rfl ⟨Nat.le_of_ble_eq_true rfl, Nat.le_of_ble_eq_true rfl⟩ ⟨Nat.zero_le _, Nat.zero_le _⟩ (Nat.le_of_ble_eq_true rfl) [] [] (by simp only [List.append_assoc, List.nil_append, List.append_nil]) (fun _ => rfl) (fun u => (wMo aO cyI oI oR)) (fun u => (by simp only [List.append_assoc, List.nil_append, List.append_nil])) (fun r0 u hp => ?_)
    obtain ⟨b2, rfl, hw⟩ := hp
    obtain ⟨hwt, hwf⟩ := hw
    refine z_ifeqB F dX6_sight_21 31 rfl 24 rfl (fun c2 => ?_) (fun c2 => ?_)
    · have hw := hwt c2; clear hwt hwf
      refine z_aload_n F dX6_sight_31 32 rfl 0 rfl ?_
      refine z_get F dX6_sight_32 35 rfl kX6_sight_102 0 rfl rfl ?_
      refine z_bipush F dX6_sight_35 37 rfl zkb_12 ?_
      obtain ⟨hwt, hwf⟩ := hw
      refine z_icmpne F dX6_sight_37 47 rfl 40 rfl (fun c3 => ?_) (fun c3 => ?_)
      · have hw := hwt c3; clear hwt hwf
        refine z_aload_n F dX6_sight_47 48 rfl 0 rfl ?_
        refine z_iload_n F dX6_sight_48 49 rfl 1 rfl ?_
        refine z_iload_n F dX6_sight_49 50 rfl 2 rfl ?_
        refine z_segVi (As := [.int x1, .int x2]) (st := []) F dX6_sight_50 53 rfl (mX6_comesSight C.1.2.1 D cyI cyB aO x1 x2 oI oR hw) y_X6_comesSight rfl gX6_sight_X6_comesSight rfl (ci := 6) (rq := 0) rfl rfl ⟨Nat.le_of_ble_eq_true rfl, Nat.le_of_ble_eq_true rfl⟩ ⟨Nat.zero_le _, Nat.zero_le _⟩ (Nat.le_of_ble_eq_true rfl) [] [] (by simp only [List.append_assoc, List.nil_append, List.append_nil]) (fun _ => rfl) (fun u => (wMo aO cyI u.1 u.2)) (fun u => (by simp only [List.append_assoc, List.nil_append, List.append_nil])) (fun r1 u hp => ?_)
        obtain ⟨oI_1, oR_1⟩ := u
        replace hw := hp
        clear hp
        exact hRt 53 _ r1 (oI_1, oR_1) dX6_sight_53 hw
      · have hw := hwf c3; clear hwt hwf
        refine z_aload_n F dX6_sight_40 41 rfl 0 rfl ?_
        refine z_bipush F dX6_sight_41 43 rfl zkb_m6 ?_
        refine z_segVi (As := [.int (-6)]) (st := []) F dX6_sight_43 46 rfl (mX6_no C.1.2.1 D cyI cyB aO (-6) oI oR hw) y_X6_no rfl gX6_sight_X6_no rfl (ci := 6) (rq := 0) rfl rfl ⟨Nat.le_of_ble_eq_true rfl, Nat.le_of_ble_eq_true rfl⟩ ⟨Nat.zero_le _, Nat.zero_le _⟩ (Nat.le_of_ble_eq_true rfl) [] [] (by simp only [List.append_assoc, List.nil_append, List.append_nil]) (fun _ => rfl) (fun u => (wMo aO cyI u.1 u.2)) (fun u => (by simp only [List.append_assoc, List.nil_append, List.append_nil])) (fun r2 u hp => ?_)
        obtain ⟨oI_2, oR_2⟩ := u
        replace hw := hp
        clear hp
        exact hRt 46 _ r2 (oI_2, oR_2) dX6_sight_46 hw
    · have hw := hwf c2; clear hwt hwf
      refine z_aload_n F dX6_sight_24 25 rfl 0 rfl ?_
      refine z_bipush F dX6_sight_25 27 rfl zkb_m3 ?_
      refine z_segVi (As := [.int (-3)]) (st := []) F dX6_sight_27 30 rfl (mX6_no C.1.2.1 D cyI cyB aO (-3) oI oR hw) y_X6_no rfl gX6_sight_X6_no rfl (ci := 6) (rq := 0) rfl rfl ⟨Nat.le_of_ble_eq_true rfl, Nat.le_of_ble_eq_true rfl⟩ ⟨Nat.zero_le _, Nat.zero_le _⟩ (Nat.le_of_ble_eq_true rfl) [] [] (by simp only [List.append_assoc, List.nil_append, List.append_nil]) (fun _ => rfl) (fun u => (wMo aO cyI u.1 u.2)) (fun u => (by simp only [List.append_assoc, List.nil_append, List.append_nil])) (fun r3 u hp => ?_)
      obtain ⟨oI_3, oR_3⟩ := u
      replace hw := hp
      clear hp
      exact hRt 30 _ r3 (oI_3, oR_3) dX6_sight_30 hw
  · have hw := hwf c1; clear hwt hwf
    refine z_aload_n F dX6_sight_9 10 rfl 0 rfl ?_
    refine z_iconst F dX6_sight_10 11 rfl zki_m1 ?_
    refine z_segVi (As := [.int (-1)]) (st := []) F dX6_sight_11 14 rfl (mX6_no C.1.2.1 D cyI cyB aO (-1) oI oR hw) y_X6_no rfl gX6_sight_X6_no rfl (ci := 6) (rq := 0) rfl rfl ⟨Nat.le_of_ble_eq_true rfl, Nat.le_of_ble_eq_true rfl⟩ ⟨Nat.zero_le _, Nat.zero_le _⟩ (Nat.le_of_ble_eq_true rfl) [] [] (by simp only [List.append_assoc, List.nil_append, List.append_nil]) (fun _ => rfl) (fun u => (wMo aO cyI u.1 u.2)) (fun u => (by simp only [List.append_assoc, List.nil_append, List.append_nil])) (fun r4 u hp => ?_)
    obtain ⟨oI_4, oR_4⟩ := u
    replace hw := hp
    clear hp
    exact hRt 14 _ r4 (oI_4, oR_4) dX6_sight_14 hw
set_option maxHeartbeats 4000000 in
set_option maxRecDepth 100000 in
theorem mX6_sight (l : Launch) (D : va_G) (cyI cyB : ClassId) (aO : Nat → Nat) (x1 : Int32) (x2 : Int32) (oI : Nat → Int32) (oR : Nat → Nat → Int32) {post : Int32 → (Nat → Int32) → (Nat → Nat → Int32) → Prop} (hw : pX6_sight x1 x2 oI oR post) : zMi l yX6_sight wsX6_sight 2 43 D cyI cyB [.ref (aO 0), .int x1, .int x2] (wMo aO cyI oI oR) (S := ((Nat → Int32) × (Nat → Nat → Int32))) (fun u => (wMo aO cyI u.1 u.2)) (fun r u => post r u.1 u.2) :=
  z_meti (cc := cX6_sight) (nL := 3) (by decide +kernel) rfl (Nat.le_of_ble_eq_true rfl) (fun C hl F hRt => xX6_sight_0 x1 x2 oI oR F hRt hw)
theorem y_X6_sight : zY yX6_sight wsX6_sight cX6_sight 3 (some .int) 2 := ⟨⟨_, rfl⟩, by decide +kernel⟩
theorem iX6_comesTie_6 : ∀ w ∈ wsX60, w ∈ wsX6_comesTie := fun w h => List.mem_cons_of_mem _ (List.mem_append_right _ h)
theorem kX6_comesTie_28 : zL wsX6_comesTie RX6 28 6 6 (.array .int) true := zL6 iX6_comesTie_6 (by decide) (List.mem_of_getElem? (i := 1) rfl) rfl rfl
theorem kX6_comesTie_31 : zL wsX6_comesTie RX6 31 6 7 (.array .int) true := zL6 iX6_comesTie_6 (by decide) (List.mem_of_getElem? (i := 3) rfl) rfl rfl
theorem kX6_comesTie_116 : zL wsX6_comesTie RX6 116 6 13 .int false := zL6 iX6_comesTie_6 (by decide) (List.mem_of_getElem? (i := 2) rfl) rfl rfl
set_option maxHeartbeats 4000000 in
set_option maxRecDepth 100000 in
theorem xX6_comesTie_0 {C : zC} {D : va_G} {cyI cyB : ClassId} {aO : Nat → Nat} (x1 : Int32) (x2 : Int32) (oI : Nat → Int32) (oR : Nat → Nat → Int32) (F : zF C D { frames := 0, cells := 0, slots := 0, locals := 0 } cX6_comesTie 3 wsX6_comesTie RX6 (some .int) cyI cyB) {post : Int32 → (Nat → Int32) → (Nat → Nat → Int32) → Prop} (hRt : zRi C D cX6_comesTie 3 (S := ((Nat → Int32) × (Nat → Nat → Int32))) (fun u => (wMo aO cyI u.1 u.2)) (fun r u => post r u.1 u.2)) (hw : pX6_comesTie x1 x2 oI oR post) : zX C D 3 0 0 (wMo aO cyI oI oR) 0 [(0, .ref (aO 0)), (1, .int x1), (2, .int x2)] [] := by
  refine z_aload_n F dX6_comesTie_0 1 rfl 0 rfl ?_
  refine z_get F dX6_comesTie_1 4 rfl kX6_comesTie_28 0 rfl rfl ?_
  refine z_aload_n F dX6_comesTie_4 5 rfl 0 rfl ?_
  refine z_get F dX6_comesTie_5 8 rfl kX6_comesTie_116 0 rfl rfl ?_
  refine z_iload_n F dX6_comesTie_8 9 rfl 1 rfl ?_
  obtain ⟨j1, ej1, hj1, hw⟩ := hw
  refine z_iast F dX6_comesTie_9 10 rfl 7 rfl (by decide) j1 ej1 hj1 (wMo aO cyI oI (va_up oR 6 (upd (oR 6) j1 x1))) rfl ?_
  refine z_aload_n F dX6_comesTie_10 11 rfl 0 rfl ?_
  refine z_get F dX6_comesTie_11 14 rfl kX6_comesTie_31 0 rfl rfl ?_
  refine z_aload_n F dX6_comesTie_14 15 rfl 0 rfl ?_
  refine z_get F dX6_comesTie_15 18 rfl kX6_comesTie_116 0 rfl rfl ?_
  refine z_iload_n F dX6_comesTie_18 19 rfl 2 rfl ?_
  refine z_iast F dX6_comesTie_19 20 rfl 8 rfl (by decide) j1 ej1 hj1 (wMo aO cyI oI (va_up (va_up oR 6 (upd (oR 6) j1 x1)) 7 (upd (oR 7) j1 x2))) rfl ?_
  refine z_aload_n F dX6_comesTie_20 21 rfl 0 rfl ?_
  refine z_dup F dX6_comesTie_21 22 rfl rfl ?_
  refine z_get F dX6_comesTie_22 25 rfl kX6_comesTie_116 0 rfl rfl ?_
  refine z_iconst F dX6_comesTie_25 26 rfl zki_1 ?_
  refine z_iadd F dX6_comesTie_26 27 rfl ?_
  refine z_topi (fun v1 ev1 => ?_)
  replace hw := hw v1 ev1
  refine z_put F dX6_comesTie_27 30 rfl kX6_comesTie_116 0 rfl rfl rfl (Nat.le_of_ble_eq_true rfl) (wMo aO cyI (va_up oI 13 v1) (va_up (va_up oR 6 (upd (oR 6) j1 x1)) 7 (upd (oR 7) j1 x2))) rfl ?_
  refine z_aload_n F dX6_comesTie_30 31 rfl 0 rfl ?_
  refine z_get F dX6_comesTie_31 34 rfl kX6_comesTie_116 0 rfl rfl ?_
  exact hRt 34 _ v1 ((va_up oI 13 v1), (va_up (va_up oR 6 (upd (oR 6) j1 x1)) 7 (upd (oR 7) j1 x2))) dX6_comesTie_34 hw
set_option maxHeartbeats 4000000 in
set_option maxRecDepth 100000 in
theorem mX6_comesTie (l : Launch) (D : va_G) (cyI cyB : ClassId) (aO : Nat → Nat) (x1 : Int32) (x2 : Int32) (oI : Nat → Int32) (oR : Nat → Nat → Int32) {post : Int32 → (Nat → Int32) → (Nat → Nat → Int32) → Prop} (hw : pX6_comesTie x1 x2 oI oR post) : zMi l yX6_comesTie wsX6_comesTie 0 0 D cyI cyB [.ref (aO 0), .int x1, .int x2] (wMo aO cyI oI oR) (S := ((Nat → Int32) × (Nat → Nat → Int32))) (fun u => (wMo aO cyI u.1 u.2)) (fun r u => post r u.1 u.2) :=
  z_meti (cc := cX6_comesTie) (nL := 3) (by decide +kernel) rfl (Nat.le_of_ble_eq_true rfl) (fun C hl F hRt => xX6_comesTie_0 x1 x2 oI oR F hRt hw)
theorem y_X6_comesTie : zY yX6_comesTie wsX6_comesTie cX6_comesTie 3 (some .int) 2 := ⟨⟨_, rfl⟩, by decide +kernel⟩
theorem iX6_tie_6 : ∀ w ∈ wsX60, w ∈ wsX6_tie := fun w h => List.mem_cons_of_mem _ (List.mem_append_right _ h)
theorem kX6_tie_116 : zL wsX6_tie RX6 116 6 13 .int false := zL6 iX6_tie_6 (by decide) (List.mem_of_getElem? (i := 1) rfl) rfl rfl
set_option maxHeartbeats 4000000 in
set_option maxRecDepth 100000 in
theorem xX6_tie_0 {C : zC} {D : va_G} {cyI cyB : ClassId} {aO : Nat → Nat} (x1 : Int32) (x2 : Int32) (oI : Nat → Int32) (oR : Nat → Nat → Int32) (F : zF C D { frames := 2, cells := 0, slots := 0, locals := 43 } cX6_tie 3 wsX6_tie RX6 (some .int) cyI cyB) {post : Int32 → (Nat → Int32) → (Nat → Nat → Int32) → Prop} (hRt : zRi C D cX6_tie 3 (S := ((Nat → Int32) × (Nat → Nat → Int32))) (fun u => (wMo aO cyI u.1 u.2)) (fun r u => post r u.1 u.2)) (hw : pX6_tie x1 x2 oI oR post) : zX C D 3 0 0 (wMo aO cyI oI oR) 0 [(0, .ref (aO 0)), (1, .int x1), (2, .int x2)] [] := by
  refine z_aload_n F dX6_tie_0 1 rfl 0 rfl ?_
  refine z_iload_n F dX6_tie_1 2 rfl 1 rfl ?_
  refine z_iload_n F dX6_tie_2 3 rfl 2 rfl ?_
  refine z_segVi (As := [.int x1, .int x2]) (st := []) F dX6_tie_3 6 rfl (mX6_areTwo C.1.2.1 D cyI cyB aO x1 x2 oI oR hw) y_X6_areTwo rfl gX6_tie_X6_areTwo rfl (ci := 6) (rq := 0) rfl rfl ⟨Nat.le_of_ble_eq_true rfl, Nat.le_of_ble_eq_true rfl⟩ ⟨Nat.zero_le _, Nat.zero_le _⟩ (Nat.le_of_ble_eq_true rfl) [] [] (by simp only [List.append_assoc, List.nil_append, List.append_nil]) (fun _ => rfl) (fun u => (wMo aO cyI oI oR)) (fun u => (by simp only [List.append_assoc, List.nil_append, List.append_nil])) (fun r0 u hp => ?_)
  obtain ⟨b1, rfl, hw⟩ := hp
  obtain ⟨hwt, hwf⟩ := hw
  refine z_ifneB F dX6_tie_6 15 rfl 9 rfl (fun c1 => ?_) (fun c1 => ?_)
  · have hw := hwt c1; clear hwt hwf
    refine z_aload_n F dX6_tie_15 16 rfl 0 rfl ?_
    refine z_get F dX6_tie_16 19 rfl kX6_tie_116 0 rfl rfl ?_
    refine z_bipush F dX6_tie_19 21 rfl zkb_12 ?_
    obtain ⟨hwt, hwf⟩ := hw
    refine z_icmpne F dX6_tie_21 31 rfl 24 rfl (fun c2 => ?_) (fun c2 => ?_)
    · have hw := hwt c2; clear hwt hwf
      refine z_aload_n F dX6_tie_31 32 rfl 0 rfl ?_
      refine z_iload_n F dX6_tie_32 33 rfl 1 rfl ?_
      refine z_iload_n F dX6_tie_33 34 rfl 2 rfl ?_
      refine z_segVi (As := [.int x1, .int x2]) (st := []) F dX6_tie_34 37 rfl (mX6_comesTie C.1.2.1 D cyI cyB aO x1 x2 oI oR hw) y_X6_comesTie rfl gX6_tie_X6_comesTie rfl (ci := 6) (rq := 0) rfl rfl ⟨Nat.le_of_ble_eq_true rfl, Nat.le_of_ble_eq_true rfl⟩ ⟨Nat.zero_le _, Nat.zero_le _⟩ (Nat.le_of_ble_eq_true rfl) [] [] (by simp only [List.append_assoc, List.nil_append, List.append_nil]) (fun _ => rfl) (fun u => (wMo aO cyI u.1 u.2)) (fun u => (by simp only [List.append_assoc, List.nil_append, List.append_nil])) (fun r1 u hp => ?_)
      obtain ⟨oI_1, oR_1⟩ := u
      replace hw := hp
      clear hp
      exact hRt 37 _ r1 (oI_1, oR_1) dX6_tie_37 hw
    · have hw := hwf c2; clear hwt hwf
      refine z_aload_n F dX6_tie_24 25 rfl 0 rfl ?_
      refine z_bipush F dX6_tie_25 27 rfl zkb_m6 ?_
      refine z_segVi (As := [.int (-6)]) (st := []) F dX6_tie_27 30 rfl (mX6_no C.1.2.1 D cyI cyB aO (-6) oI oR hw) y_X6_no rfl gX6_tie_X6_no rfl (ci := 6) (rq := 0) rfl rfl ⟨Nat.le_of_ble_eq_true rfl, Nat.le_of_ble_eq_true rfl⟩ ⟨Nat.zero_le _, Nat.zero_le _⟩ (Nat.le_of_ble_eq_true rfl) [] [] (by simp only [List.append_assoc, List.nil_append, List.append_nil]) (fun _ => rfl) (fun u => (wMo aO cyI u.1 u.2)) (fun u => (by simp only [List.append_assoc, List.nil_append, List.append_nil])) (fun r2 u hp => ?_)
      obtain ⟨oI_2, oR_2⟩ := u
      replace hw := hp
      clear hp
      exact hRt 30 _ r2 (oI_2, oR_2) dX6_tie_30 hw
  · have hw := hwf c1; clear hwt hwf
    refine z_aload_n F dX6_tie_9 10 rfl 0 rfl ?_
    refine z_iconst F dX6_tie_10 11 rfl zki_m1 ?_
    refine z_segVi (As := [.int (-1)]) (st := []) F dX6_tie_11 14 rfl (mX6_no C.1.2.1 D cyI cyB aO (-1) oI oR hw) y_X6_no rfl gX6_tie_X6_no rfl (ci := 6) (rq := 0) rfl rfl ⟨Nat.le_of_ble_eq_true rfl, Nat.le_of_ble_eq_true rfl⟩ ⟨Nat.zero_le _, Nat.zero_le _⟩ (Nat.le_of_ble_eq_true rfl) [] [] (by simp only [List.append_assoc, List.nil_append, List.append_nil]) (fun _ => rfl) (fun u => (wMo aO cyI u.1 u.2)) (fun u => (by simp only [List.append_assoc, List.nil_append, List.append_nil])) (fun r3 u hp => ?_)
    obtain ⟨oI_3, oR_3⟩ := u
    replace hw := hp
    clear hp
    exact hRt 14 _ r3 (oI_3, oR_3) dX6_tie_14 hw
set_option maxHeartbeats 4000000 in
set_option maxRecDepth 100000 in
theorem mX6_tie (l : Launch) (D : va_G) (cyI cyB : ClassId) (aO : Nat → Nat) (x1 : Int32) (x2 : Int32) (oI : Nat → Int32) (oR : Nat → Nat → Int32) {post : Int32 → (Nat → Int32) → (Nat → Nat → Int32) → Prop} (hw : pX6_tie x1 x2 oI oR post) : zMi l yX6_tie wsX6_tie 2 43 D cyI cyB [.ref (aO 0), .int x1, .int x2] (wMo aO cyI oI oR) (S := ((Nat → Int32) × (Nat → Nat → Int32))) (fun u => (wMo aO cyI u.1 u.2)) (fun r u => post r u.1 u.2) :=
  z_meti (cc := cX6_tie) (nL := 3) (by decide +kernel) rfl (Nat.le_of_ble_eq_true rfl) (fun C hl F hRt => xX6_tie_0 x1 x2 oI oR F hRt hw)
theorem y_X6_tie : zY yX6_tie wsX6_tie cX6_tie 3 (some .int) 2 := ⟨⟨_, rfl⟩, by decide +kernel⟩
theorem iX6_comesGuess_6 : ∀ w ∈ wsX60, w ∈ wsX6_comesGuess := fun w h => List.mem_cons_of_mem _ (List.mem_append_right _ h)
theorem kX6_comesGuess_34 : zL wsX6_comesGuess RX6 34 6 8 (.array .int) true := zL6 iX6_comesGuess_6 (by decide) (List.mem_of_getElem? (i := 1) rfl) rfl rfl
theorem kX6_comesGuess_37 : zL wsX6_comesGuess RX6 37 6 9 (.array .int) true := zL6 iX6_comesGuess_6 (by decide) (List.mem_of_getElem? (i := 3) rfl) rfl rfl
theorem kX6_comesGuess_86 : zL wsX6_comesGuess RX6 86 6 14 .int false := zL6 iX6_comesGuess_6 (by decide) (List.mem_of_getElem? (i := 2) rfl) rfl rfl
set_option maxHeartbeats 4000000 in
set_option maxRecDepth 100000 in
theorem xX6_comesGuess_0 {C : zC} {D : va_G} {cyI cyB : ClassId} {aO : Nat → Nat} (x1 : Int32) (x2 : Int32) (oI : Nat → Int32) (oR : Nat → Nat → Int32) (F : zF C D { frames := 0, cells := 0, slots := 0, locals := 0 } cX6_comesGuess 3 wsX6_comesGuess RX6 (some .int) cyI cyB) {post : Int32 → (Nat → Int32) → (Nat → Nat → Int32) → Prop} (hRt : zRi C D cX6_comesGuess 3 (S := ((Nat → Int32) × (Nat → Nat → Int32))) (fun u => (wMo aO cyI u.1 u.2)) (fun r u => post r u.1 u.2)) (hw : pX6_comesGuess x1 x2 oI oR post) : zX C D 3 0 0 (wMo aO cyI oI oR) 0 [(0, .ref (aO 0)), (1, .int x1), (2, .int x2)] [] := by
  refine z_aload_n F dX6_comesGuess_0 1 rfl 0 rfl ?_
  refine z_get F dX6_comesGuess_1 4 rfl kX6_comesGuess_34 0 rfl rfl ?_
  refine z_aload_n F dX6_comesGuess_4 5 rfl 0 rfl ?_
  refine z_get F dX6_comesGuess_5 8 rfl kX6_comesGuess_86 0 rfl rfl ?_
  refine z_iload_n F dX6_comesGuess_8 9 rfl 1 rfl ?_
  obtain ⟨j1, ej1, hj1, hw⟩ := hw
  refine z_iast F dX6_comesGuess_9 10 rfl 9 rfl (by decide) j1 ej1 hj1 (wMo aO cyI oI (va_up oR 8 (upd (oR 8) j1 x1))) rfl ?_
  refine z_aload_n F dX6_comesGuess_10 11 rfl 0 rfl ?_
  refine z_get F dX6_comesGuess_11 14 rfl kX6_comesGuess_37 0 rfl rfl ?_
  refine z_aload_n F dX6_comesGuess_14 15 rfl 0 rfl ?_
  refine z_get F dX6_comesGuess_15 18 rfl kX6_comesGuess_86 0 rfl rfl ?_
  refine z_iload_n F dX6_comesGuess_18 19 rfl 2 rfl ?_
  refine z_iast F dX6_comesGuess_19 20 rfl 10 rfl (by decide) j1 ej1 hj1 (wMo aO cyI oI (va_up (va_up oR 8 (upd (oR 8) j1 x1)) 9 (upd (oR 9) j1 x2))) rfl ?_
  refine z_aload_n F dX6_comesGuess_20 21 rfl 0 rfl ?_
  refine z_dup F dX6_comesGuess_21 22 rfl rfl ?_
  refine z_get F dX6_comesGuess_22 25 rfl kX6_comesGuess_86 0 rfl rfl ?_
  refine z_iconst F dX6_comesGuess_25 26 rfl zki_1 ?_
  refine z_iadd F dX6_comesGuess_26 27 rfl ?_
  refine z_topi (fun v1 ev1 => ?_)
  replace hw := hw v1 ev1
  refine z_put F dX6_comesGuess_27 30 rfl kX6_comesGuess_86 0 rfl rfl rfl (Nat.le_of_ble_eq_true rfl) (wMo aO cyI (va_up oI 14 v1) (va_up (va_up oR 8 (upd (oR 8) j1 x1)) 9 (upd (oR 9) j1 x2))) rfl ?_
  refine z_aload_n F dX6_comesGuess_30 31 rfl 0 rfl ?_
  refine z_get F dX6_comesGuess_31 34 rfl kX6_comesGuess_86 0 rfl rfl ?_
  exact hRt 34 _ v1 ((va_up oI 14 v1), (va_up (va_up oR 8 (upd (oR 8) j1 x1)) 9 (upd (oR 9) j1 x2))) dX6_comesGuess_34 hw
set_option maxHeartbeats 4000000 in
set_option maxRecDepth 100000 in
theorem mX6_comesGuess (l : Launch) (D : va_G) (cyI cyB : ClassId) (aO : Nat → Nat) (x1 : Int32) (x2 : Int32) (oI : Nat → Int32) (oR : Nat → Nat → Int32) {post : Int32 → (Nat → Int32) → (Nat → Nat → Int32) → Prop} (hw : pX6_comesGuess x1 x2 oI oR post) : zMi l yX6_comesGuess wsX6_comesGuess 0 0 D cyI cyB [.ref (aO 0), .int x1, .int x2] (wMo aO cyI oI oR) (S := ((Nat → Int32) × (Nat → Nat → Int32))) (fun u => (wMo aO cyI u.1 u.2)) (fun r u => post r u.1 u.2) :=
  z_meti (cc := cX6_comesGuess) (nL := 3) (by decide +kernel) rfl (Nat.le_of_ble_eq_true rfl) (fun C hl F hRt => xX6_comesGuess_0 x1 x2 oI oR F hRt hw)
theorem y_X6_comesGuess : zY yX6_comesGuess wsX6_comesGuess cX6_comesGuess 3 (some .int) 2 := ⟨⟨_, rfl⟩, by decide +kernel⟩
theorem iX6_guess_6 : ∀ w ∈ wsX60, w ∈ wsX6_guess := fun w h => List.mem_cons_of_mem _ (List.mem_append_right _ h)
theorem kX6_guess_86 : zL wsX6_guess RX6 86 6 14 .int false := zL6 iX6_guess_6 (by decide) (List.mem_of_getElem? (i := 1) rfl) rfl rfl
set_option maxHeartbeats 4000000 in
set_option maxRecDepth 100000 in
theorem xX6_guess_0 {C : zC} {D : va_G} {cyI cyB : ClassId} {aO : Nat → Nat} (x1 : Int32) (x2 : Int32) (oI : Nat → Int32) (oR : Nat → Nat → Int32) (F : zF C D { frames := 2, cells := 0, slots := 0, locals := 41 } cX6_guess 3 wsX6_guess RX6 (some .int) cyI cyB) {post : Int32 → (Nat → Int32) → (Nat → Nat → Int32) → Prop} (hRt : zRi C D cX6_guess 3 (S := ((Nat → Int32) × (Nat → Nat → Int32))) (fun u => (wMo aO cyI u.1 u.2)) (fun r u => post r u.1 u.2)) (hw : pX6_guess x1 x2 oI oR post) : zX C D 3 0 0 (wMo aO cyI oI oR) 0 [(0, .ref (aO 0)), (1, .int x1), (2, .int x2)] [] := by
  refine z_aload_n F dX6_guess_0 1 rfl 0 rfl ?_
  refine z_iload_n F dX6_guess_1 2 rfl 1 rfl ?_
  refine z_segVi (As := [.int x1]) (st := []) F dX6_guess_2 5 rfl (mX6_isSet C.1.2.1 D cyI cyB aO x1 oI oR hw) y_X6_isSet rfl gX6_guess_X6_isSet rfl (ci := 6) (rq := 0) rfl rfl ⟨Nat.le_of_ble_eq_true rfl, Nat.le_of_ble_eq_true rfl⟩ ⟨Nat.zero_le _, Nat.zero_le _⟩ (Nat.le_of_ble_eq_true rfl) [] [] (by simp only [List.append_assoc, List.nil_append, List.append_nil]) (fun _ => rfl) (fun u => (wMo aO cyI oI oR)) (fun u => (by simp only [List.append_assoc, List.nil_append, List.append_nil])) (fun r0 u hp => ?_)
  obtain ⟨b1, rfl, hw⟩ := hp
  obtain ⟨hwt, hwf⟩ := hw
  refine z_ifeqB F dX6_guess_5 29 rfl 8 rfl (fun c1 => ?_) (fun c1 => ?_)
  · have hw := hwt c1; clear hwt hwf
    refine z_aload_n F dX6_guess_29 30 rfl 0 rfl ?_
    refine z_iconst F dX6_guess_30 31 rfl zki_m1 ?_
    refine z_segVi (As := [.int (-1)]) (st := []) F dX6_guess_31 34 rfl (mX6_no C.1.2.1 D cyI cyB aO (-1) oI oR hw) y_X6_no rfl gX6_guess_X6_no rfl (ci := 6) (rq := 0) rfl rfl ⟨Nat.le_of_ble_eq_true rfl, Nat.le_of_ble_eq_true rfl⟩ ⟨Nat.zero_le _, Nat.zero_le _⟩ (Nat.le_of_ble_eq_true rfl) [] [] (by simp only [List.append_assoc, List.nil_append, List.append_nil]) (fun _ => rfl) (fun u => (wMo aO cyI u.1 u.2)) (fun u => (by simp only [List.append_assoc, List.nil_append, List.append_nil])) (fun r1 u hp => ?_)
    obtain ⟨oI_1, oR_1⟩ := u
    replace hw := hp
    clear hp
    exact hRt 34 _ r1 (oI_1, oR_1) dX6_guess_34 hw
  · have hw := hwf c1; clear hwt hwf
    refine z_iload_n F dX6_guess_8 9 rfl 1 rfl ?_
    obtain ⟨hwt, hwf⟩ := hw
    refine z_ifeq F dX6_guess_9 29 rfl 12 rfl (fun c2 => ?_) (fun c2 => ?_)
    · have hw := hwt c2; clear hwt hwf
      refine z_aload_n F dX6_guess_29 30 rfl 0 rfl ?_
      refine z_iconst F dX6_guess_30 31 rfl zki_m1 ?_
      refine z_segVi (As := [.int (-1)]) (st := []) F dX6_guess_31 34 rfl (mX6_no C.1.2.1 D cyI cyB aO (-1) oI oR hw) y_X6_no rfl gX6_guess_X6_no rfl (ci := 6) (rq := 0) rfl rfl ⟨Nat.le_of_ble_eq_true rfl, Nat.le_of_ble_eq_true rfl⟩ ⟨Nat.zero_le _, Nat.zero_le _⟩ (Nat.le_of_ble_eq_true rfl) [] [] (by simp only [List.append_assoc, List.nil_append, List.append_nil]) (fun _ => rfl) (fun u => (wMo aO cyI u.1 u.2)) (fun u => (by simp only [List.append_assoc, List.nil_append, List.append_nil])) (fun r2 u hp => ?_)
      obtain ⟨oI_2, oR_2⟩ := u
      replace hw := hp
      clear hp
      exact hRt 34 _ r2 (oI_2, oR_2) dX6_guess_34 hw
    · have hw := hwf c2; clear hwt hwf
      refine z_aload_n F dX6_guess_12 13 rfl 0 rfl ?_
      refine z_iload_n F dX6_guess_13 14 rfl 2 rfl ?_
      refine z_segVi (As := [.int x2]) (st := []) F dX6_guess_14 17 rfl (mX6_isStep C.1.2.1 D cyI cyB aO x2 oI oR hw) y_X6_isStep rfl gX6_guess_X6_isStep rfl (ci := 6) (rq := 0) rfl rfl ⟨Nat.le_of_ble_eq_true rfl, Nat.le_of_ble_eq_true rfl⟩ ⟨Nat.zero_le _, Nat.zero_le _⟩ (Nat.le_of_ble_eq_true rfl) [] [] (by simp only [List.append_assoc, List.nil_append, List.append_nil]) (fun _ => rfl) (fun u => (wMo aO cyI oI oR)) (fun u => (by simp only [List.append_assoc, List.nil_append, List.append_nil])) (fun r0 u hp => ?_)
      obtain ⟨b2, rfl, hw⟩ := hp
      obtain ⟨hwt, hwf⟩ := hw
      refine z_ifeqB F dX6_guess_17 29 rfl 20 rfl (fun c3 => ?_) (fun c3 => ?_)
      · have hw := hwt c3; clear hwt hwf
        refine z_aload_n F dX6_guess_29 30 rfl 0 rfl ?_
        refine z_iconst F dX6_guess_30 31 rfl zki_m1 ?_
        refine z_segVi (As := [.int (-1)]) (st := []) F dX6_guess_31 34 rfl (mX6_no C.1.2.1 D cyI cyB aO (-1) oI oR hw) y_X6_no rfl gX6_guess_X6_no rfl (ci := 6) (rq := 0) rfl rfl ⟨Nat.le_of_ble_eq_true rfl, Nat.le_of_ble_eq_true rfl⟩ ⟨Nat.zero_le _, Nat.zero_le _⟩ (Nat.le_of_ble_eq_true rfl) [] [] (by simp only [List.append_assoc, List.nil_append, List.append_nil]) (fun _ => rfl) (fun u => (wMo aO cyI u.1 u.2)) (fun u => (by simp only [List.append_assoc, List.nil_append, List.append_nil])) (fun r3 u hp => ?_)
        obtain ⟨oI_3, oR_3⟩ := u
        replace hw := hp
        clear hp
        exact hRt 34 _ r3 (oI_3, oR_3) dX6_guess_34 hw
      · have hw := hwf c3; clear hwt hwf
        refine z_iload_n F dX6_guess_20 21 rfl 1 rfl ?_
        refine z_iload_n F dX6_guess_21 22 rfl 2 rfl ?_
        refine z_ishr F dX6_guess_22 23 rfl ?_
        refine z_iconst F dX6_guess_23 24 rfl zki_1 ?_
        refine z_iand F dX6_guess_24 25 rfl ?_
        refine z_iconst F dX6_guess_25 26 rfl zki_1 ?_
        obtain ⟨hwt, hwf⟩ := hw
        refine z_icmpne F dX6_guess_26 35 rfl 29 rfl (fun c4 => ?_) (fun c4 => ?_)
        · have hw := hwt c4; clear hwt hwf
          refine z_aload_n F dX6_guess_35 36 rfl 0 rfl ?_
          refine z_get F dX6_guess_36 39 rfl kX6_guess_86 0 rfl rfl ?_
          refine z_bipush F dX6_guess_39 41 rfl zkb_12 ?_
          obtain ⟨hwt, hwf⟩ := hw
          refine z_icmpne F dX6_guess_41 51 rfl 44 rfl (fun c5 => ?_) (fun c5 => ?_)
          · have hw := hwt c5; clear hwt hwf
            refine z_aload_n F dX6_guess_51 52 rfl 0 rfl ?_
            refine z_iload_n F dX6_guess_52 53 rfl 1 rfl ?_
            refine z_iload_n F dX6_guess_53 54 rfl 2 rfl ?_
            refine z_segVi (As := [.int x1, .int x2]) (st := []) F dX6_guess_54 57 rfl (mX6_comesGuess C.1.2.1 D cyI cyB aO x1 x2 oI oR hw) y_X6_comesGuess rfl gX6_guess_X6_comesGuess rfl (ci := 6) (rq := 0) rfl rfl ⟨Nat.le_of_ble_eq_true rfl, Nat.le_of_ble_eq_true rfl⟩ ⟨Nat.zero_le _, Nat.zero_le _⟩ (Nat.le_of_ble_eq_true rfl) [] [] (by simp only [List.append_assoc, List.nil_append, List.append_nil]) (fun _ => rfl) (fun u => (wMo aO cyI u.1 u.2)) (fun u => (by simp only [List.append_assoc, List.nil_append, List.append_nil])) (fun r4 u hp => ?_)
            obtain ⟨oI_4, oR_4⟩ := u
            replace hw := hp
            clear hp
            exact hRt 57 _ r4 (oI_4, oR_4) dX6_guess_57 hw
          · have hw := hwf c5; clear hwt hwf
            refine z_aload_n F dX6_guess_44 45 rfl 0 rfl ?_
            refine z_bipush F dX6_guess_45 47 rfl zkb_m6 ?_
            refine z_segVi (As := [.int (-6)]) (st := []) F dX6_guess_47 50 rfl (mX6_no C.1.2.1 D cyI cyB aO (-6) oI oR hw) y_X6_no rfl gX6_guess_X6_no rfl (ci := 6) (rq := 0) rfl rfl ⟨Nat.le_of_ble_eq_true rfl, Nat.le_of_ble_eq_true rfl⟩ ⟨Nat.zero_le _, Nat.zero_le _⟩ (Nat.le_of_ble_eq_true rfl) [] [] (by simp only [List.append_assoc, List.nil_append, List.append_nil]) (fun _ => rfl) (fun u => (wMo aO cyI u.1 u.2)) (fun u => (by simp only [List.append_assoc, List.nil_append, List.append_nil])) (fun r5 u hp => ?_)
            obtain ⟨oI_5, oR_5⟩ := u
            replace hw := hp
            clear hp
            exact hRt 50 _ r5 (oI_5, oR_5) dX6_guess_50 hw
        · have hw := hwf c4; clear hwt hwf
          refine z_aload_n F dX6_guess_29 30 rfl 0 rfl ?_
          refine z_iconst F dX6_guess_30 31 rfl zki_m1 ?_
          refine z_segVi (As := [.int (-1)]) (st := []) F dX6_guess_31 34 rfl (mX6_no C.1.2.1 D cyI cyB aO (-1) oI oR hw) y_X6_no rfl gX6_guess_X6_no rfl (ci := 6) (rq := 0) rfl rfl ⟨Nat.le_of_ble_eq_true rfl, Nat.le_of_ble_eq_true rfl⟩ ⟨Nat.zero_le _, Nat.zero_le _⟩ (Nat.le_of_ble_eq_true rfl) [] [] (by simp only [List.append_assoc, List.nil_append, List.append_nil]) (fun _ => rfl) (fun u => (wMo aO cyI u.1 u.2)) (fun u => (by simp only [List.append_assoc, List.nil_append, List.append_nil])) (fun r6 u hp => ?_)
          obtain ⟨oI_6, oR_6⟩ := u
          replace hw := hp
          clear hp
          exact hRt 34 _ r6 (oI_6, oR_6) dX6_guess_34 hw
set_option maxHeartbeats 4000000 in
set_option maxRecDepth 100000 in
theorem mX6_guess (l : Launch) (D : va_G) (cyI cyB : ClassId) (aO : Nat → Nat) (x1 : Int32) (x2 : Int32) (oI : Nat → Int32) (oR : Nat → Nat → Int32) {post : Int32 → (Nat → Int32) → (Nat → Nat → Int32) → Prop} (hw : pX6_guess x1 x2 oI oR post) : zMi l yX6_guess wsX6_guess 2 41 D cyI cyB [.ref (aO 0), .int x1, .int x2] (wMo aO cyI oI oR) (S := ((Nat → Int32) × (Nat → Nat → Int32))) (fun u => (wMo aO cyI u.1 u.2)) (fun r u => post r u.1 u.2) :=
  z_meti (cc := cX6_guess) (nL := 3) (by decide +kernel) rfl (Nat.le_of_ble_eq_true rfl) (fun C hl F hRt => xX6_guess_0 x1 x2 oI oR F hRt hw)
theorem y_X6_guess : zY yX6_guess wsX6_guess cX6_guess 3 (some .int) 2 := ⟨⟨_, rfl⟩, by decide +kernel⟩
theorem iX6_paper_6 : ∀ w ∈ wsX60, w ∈ wsX6_paper := fun w h => List.mem_cons_of_mem _ (List.mem_append_right _ h)
theorem kX6_paper_83 : zL wsX6_paper RX6 83 6 15 .int false := zL6 iX6_paper_6 (by decide) (List.mem_of_getElem? (i := 1) rfl) rfl rfl
set_option maxHeartbeats 4000000 in
set_option maxRecDepth 100000 in
theorem xX6_paper_0 {C : zC} {D : va_G} {cyI cyB : ClassId} {aO : Nat → Nat} (x1 : Int32) (oI : Nat → Int32) (oR : Nat → Nat → Int32) (F : zF C D { frames := 2, cells := 0, slots := 0, locals := 41 } cX6_paper 3 wsX6_paper RX6 (some .int) cyI cyB) {post : Int32 → (Nat → Int32) → (Nat → Nat → Int32) → Prop} (hRt : zRi C D cX6_paper 3 (S := ((Nat → Int32) × (Nat → Nat → Int32))) (fun u => (wMo aO cyI u.1 u.2)) (fun r u => post r u.1 u.2)) (hw : pX6_paper x1 oI oR post) : zX C D 3 0 0 (wMo aO cyI oI oR) 0 [(0, .ref (aO 0)), (1, .int x1)] [] := by
  refine z_aload_n F dX6_paper_0 1 rfl 0 rfl ?_
  refine z_iload_n F dX6_paper_1 2 rfl 1 rfl ?_
  refine z_segVi (As := [.int x1]) (st := []) F dX6_paper_2 5 rfl (mX6_isSet C.1.2.1 D cyI cyB aO x1 oI oR hw) y_X6_isSet rfl gX6_paper_X6_isSet rfl (ci := 6) (rq := 0) rfl rfl ⟨Nat.le_of_ble_eq_true rfl, Nat.le_of_ble_eq_true rfl⟩ ⟨Nat.zero_le _, Nat.zero_le _⟩ (Nat.le_of_ble_eq_true rfl) [] [] (by simp only [List.append_assoc, List.nil_append, List.append_nil]) (fun _ => rfl) (fun u => (wMo aO cyI oI oR)) (fun u => (by simp only [List.append_assoc, List.nil_append, List.append_nil])) (fun r0 u hp => ?_)
  obtain ⟨b1, rfl, hw⟩ := hp
  obtain ⟨hwt, hwf⟩ := hw
  refine z_ifneB F dX6_paper_5 14 rfl 8 rfl (fun c1 => ?_) (fun c1 => ?_)
  · have hw := hwt c1; clear hwt hwf
    refine z_aload_n F dX6_paper_14 15 rfl 0 rfl ?_
    refine z_get F dX6_paper_15 18 rfl kX6_paper_83 0 rfl rfl ?_
    refine z_istore_n (lv' := [(2, .int (oI 15)), (0, .ref (aO 0)), (1, .int x1)]) F dX6_paper_18 19 rfl (by decide) rfl ?_
    refine z_aload_n F dX6_paper_19 20 rfl 1 rfl ?_
    refine z_iload_n F dX6_paper_20 21 rfl 2 rfl ?_
    refine z_put F dX6_paper_21 24 rfl kX6_paper_83 0 rfl rfl rfl (Nat.le_of_ble_eq_true rfl) (wMo aO cyI (va_up oI 15 x1) oR) rfl ?_
    refine z_iload_n F dX6_paper_24 25 rfl 0 rfl ?_
    exact hRt 25 _ (oI 15) ((va_up oI 15 x1), oR) dX6_paper_25 hw
  · have hw := hwf c1; clear hwt hwf
    refine z_aload_n F dX6_paper_8 9 rfl 0 rfl ?_
    refine z_iconst F dX6_paper_9 10 rfl zki_m1 ?_
    refine z_segVi (As := [.int (-1)]) (st := []) F dX6_paper_10 13 rfl (mX6_no C.1.2.1 D cyI cyB aO (-1) oI oR hw) y_X6_no rfl gX6_paper_X6_no rfl (ci := 6) (rq := 0) rfl rfl ⟨Nat.le_of_ble_eq_true rfl, Nat.le_of_ble_eq_true rfl⟩ ⟨Nat.zero_le _, Nat.zero_le _⟩ (Nat.le_of_ble_eq_true rfl) [] [] (by simp only [List.append_assoc, List.nil_append, List.append_nil]) (fun _ => rfl) (fun u => (wMo aO cyI u.1 u.2)) (fun u => (by simp only [List.append_assoc, List.nil_append, List.append_nil])) (fun r1 u hp => ?_)
    obtain ⟨oI_1, oR_1⟩ := u
    replace hw := hp
    clear hp
    exact hRt 13 _ r1 (oI_1, oR_1) dX6_paper_13 hw
set_option maxHeartbeats 4000000 in
set_option maxRecDepth 100000 in
theorem mX6_paper (l : Launch) (D : va_G) (cyI cyB : ClassId) (aO : Nat → Nat) (x1 : Int32) (oI : Nat → Int32) (oR : Nat → Nat → Int32) {post : Int32 → (Nat → Int32) → (Nat → Nat → Int32) → Prop} (hw : pX6_paper x1 oI oR post) : zMi l yX6_paper wsX6_paper 2 41 D cyI cyB [.ref (aO 0), .int x1] (wMo aO cyI oI oR) (S := ((Nat → Int32) × (Nat → Nat → Int32))) (fun u => (wMo aO cyI u.1 u.2)) (fun r u => post r u.1 u.2) :=
  z_meti (cc := cX6_paper) (nL := 3) (by decide +kernel) rfl (Nat.le_of_ble_eq_true rfl) (fun C hl F hRt => xX6_paper_0 x1 oI oR F hRt hw)
theorem y_X6_paper : zY yX6_paper wsX6_paper cX6_paper 3 (some .int) 1 := ⟨⟨_, rfl⟩, by decide +kernel⟩
theorem iX6_feed_6 : ∀ w ∈ wsX60, w ∈ wsX6_feed := fun w h => List.mem_cons_of_mem _ (List.mem_append_right _ h)
theorem kX6_feed_44 : zL wsX6_feed RX6 44 6 16 (.array .int) true := zL6 iX6_feed_6 (by decide) (List.mem_of_getElem? (i := 2) rfl) rfl rfl
theorem kX6_feed_125 : zL wsX6_feed RX6 125 6 17 .int false := zL6 iX6_feed_6 (by decide) (List.mem_of_getElem? (i := 1) rfl) rfl rfl
set_option maxHeartbeats 4000000 in
set_option maxRecDepth 100000 in
theorem xX6_feed_44 {C : zC} {D : va_G} {cyI cyB : ClassId} {aO : Nat → Nat} (x1 : Int32) (y2 : Int64) (F : zF C D { frames := 1, cells := 0, slots := 0, locals := 22 } cX6_feed 6 wsX6_feed RX6 (some .int) cyI cyB) {post : Int32 → (Nat → Int32) → (Nat → Nat → Int32) → Prop} (hRt : zRi C D cX6_feed 6 (S := ((Nat → Int32) × (Nat → Nat → Int32))) (fun u => (wMo aO cyI u.1 u.2)) (fun r u => post r u.1 u.2)) : ∀ (n : Nat) (x5 : Int32) (oI : Nat → Int32) (oR : Nat → Nat → Int32), bX6_feed_44 x1 y2 post  n x5 oI oR → zX C D 6 0 0 (wMo aO cyI oI oR) 44 [(0, .ref (aO 0)), (1, .int x1), (2, .long y2), (5, .int x5)] [] := by
  intro n
  induction n with
  | zero => intro _ _ _ hw; exact hw.elim
  | succ n ih =>
    intro x5 oI oR hw
    refine z_iload F dX6_feed_44 46 rfl 3 rfl ?_
    refine z_iload_n F dX6_feed_46 47 rfl 1 rfl ?_
    obtain ⟨hwt, hwf⟩ := hw
    refine z_icmpge F dX6_feed_47 87 rfl 50 rfl (fun c3 => ?_) (fun c3 => ?_)
    · have hw := hwt c3; clear hwt hwf
      refine z_aload_n F dX6_feed_87 88 rfl 0 rfl ?_
      refine z_get F dX6_feed_88 91 rfl kX6_feed_125 0 rfl rfl ?_
      exact hRt 91 _ (oI 17) (oI, oR) dX6_feed_91 hw
    · have hw := hwf c3; clear hwt hwf
      refine z_aload_n F dX6_feed_50 51 rfl 0 rfl ?_
      refine z_get F dX6_feed_51 54 rfl kX6_feed_44 0 rfl rfl ?_
      refine z_aload_n F dX6_feed_54 55 rfl 0 rfl ?_
      refine z_get F dX6_feed_55 58 rfl kX6_feed_125 0 rfl rfl ?_
      refine z_lload_n F dX6_feed_58 59 rfl 2 rfl ?_
      refine z_bipush F dX6_feed_59 61 rfl zkb_8 ?_
      refine z_iload F dX6_feed_61 63 rfl 3 rfl ?_
      refine z_imul F dX6_feed_63 64 rfl ?_
      refine z_lshr F dX6_feed_64 65 rfl ?_
      refine z_ldc2 F dX6_feed_65 68 rfl (List.mem_of_getElem? (i := 3) rfl) ?_
      refine z_land F dX6_feed_68 69 rfl ?_
      refine z_l2i F dX6_feed_69 70 rfl ?_
      refine z_topi (fun v1 ev1 => ?_)
      replace hw := hw v1 ev1
      obtain ⟨j1, ej1, hj1, hw⟩ := hw
      refine z_iast F dX6_feed_70 71 rfl 11 rfl (by decide) j1 ej1 hj1 (wMo aO cyI oI (va_up oR 16 (upd (oR 16) j1 v1))) rfl ?_
      refine z_aload_n F dX6_feed_71 72 rfl 0 rfl ?_
      refine z_dup F dX6_feed_72 73 rfl rfl ?_
      refine z_get F dX6_feed_73 76 rfl kX6_feed_125 0 rfl rfl ?_
      refine z_iconst F dX6_feed_76 77 rfl zki_1 ?_
      refine z_iadd F dX6_feed_77 78 rfl ?_
      refine z_topi (fun v2 ev2 => ?_)
      replace hw := hw v2 ev2
      refine z_put F dX6_feed_78 81 rfl kX6_feed_125 0 rfl rfl rfl (Nat.le_of_ble_eq_true rfl) (wMo aO cyI (va_up oI 17 v2) (va_up oR 16 (upd (oR 16) j1 v1))) rfl ?_
      refine z_iinc F dX6_feed_81 84 rfl 3 rfl (by decide) zki_1 (fun v3 => [(5, .int v3), (0, .ref (aO 0)), (1, .int x1), (2, .long y2)]) (fun _ => rfl) (fun v3 ev3 => ?_)
      replace hw := hw v3 ev3
      refine z_goto F dX6_feed_84 44 rfl ?_
      refine z_lv (lv' := [(0, .ref (aO 0)), (1, .int x1), (2, .long y2), (5, .int v3)]) [1, 2, 3, 0] rfl ?_
      exact ih v3 (va_up oI 17 v2) (va_up oR 16 (upd (oR 16) j1 v1)) hw
set_option maxHeartbeats 4000000 in
set_option maxRecDepth 100000 in
theorem xX6_feed_0 {C : zC} {D : va_G} {cyI cyB : ClassId} {aO : Nat → Nat} (x1 : Int32) (y2 : Int64) (oI : Nat → Int32) (oR : Nat → Nat → Int32) (F : zF C D { frames := 1, cells := 0, slots := 0, locals := 22 } cX6_feed 6 wsX6_feed RX6 (some .int) cyI cyB) {post : Int32 → (Nat → Int32) → (Nat → Nat → Int32) → Prop} (hRt : zRi C D cX6_feed 6 (S := ((Nat → Int32) × (Nat → Nat → Int32))) (fun u => (wMo aO cyI u.1 u.2)) (fun r u => post r u.1 u.2)) (hw : pX6_feed x1 y2 oI oR post) : zX C D 6 0 0 (wMo aO cyI oI oR) 0 [(0, .ref (aO 0)), (1, .int x1), (2, .long y2)] [] := by
  refine z_iload_n F dX6_feed_0 1 rfl 1 rfl ?_
  refine z_iconst F dX6_feed_1 2 rfl zki_1 ?_
  refine z_bipush F dX6_feed_2 4 rfl zkb_8 ?_
  refine z_callSi (As := [.int x1, .int 1, .int 8]) (st := []) F dX6_feed_4 7 rfl (mX6_bound C.1.2.1 D cyI cyB x1 1 8 hw) y_X6_bound rfl gX6_feed_X6_bound ⟨Nat.le_of_ble_eq_true rfl, Nat.le_of_ble_eq_true rfl⟩ ⟨Nat.zero_le _, Nat.zero_le _⟩ (Nat.le_of_ble_eq_true rfl) [] (by decide) rfl (fun _ => rfl) (fun u => (wMo aO cyI oI oR)) (fun _ => rfl) (fun r1 u hp => ?_)
  replace hw := hp
  clear hp
  refine z_istore (lv' := [(4, .int r1), (0, .ref (aO 0)), (1, .int x1), (2, .long y2)]) F dX6_feed_7 9 rfl (by decide) rfl ?_
  refine z_iload F dX6_feed_9 11 rfl 0 rfl ?_
  obtain ⟨hwt, hwf⟩ := hw
  refine z_ifne F dX6_feed_11 29 rfl 14 rfl (fun c1 => ?_) (fun c1 => ?_)
  · have hw := hwt c1; clear hwt hwf
    refine z_iload F dX6_feed_29 31 rfl 0 rfl ?_
    obtain ⟨hwt, hwf⟩ := hw
    refine z_ifeq F dX6_feed_31 41 rfl 34 rfl (fun c2 => ?_) (fun c2 => ?_)
    · have hw := hwt c2; clear hwt hwf
      refine z_iconst F dX6_feed_41 42 rfl zki_0 ?_
      refine z_istore (lv' := [(5, .int 0), (4, .int r1), (0, .ref (aO 0)), (1, .int x1), (2, .long y2)]) F dX6_feed_42 44 rfl (by decide) rfl ?_
      obtain ⟨n1, hw⟩ := hw
      refine z_lv (lv' := [(0, .ref (aO 0)), (1, .int x1), (2, .long y2), (5, .int 0)]) [2, 3, 4, 0] rfl ?_
      refine xX6_feed_44 x1 y2 F hRt n1 0 oI oR hw
    · have hw := hwf c2; clear hwt hwf
      refine z_aload_n F dX6_feed_34 35 rfl 1 rfl ?_
      refine z_iload F dX6_feed_35 37 rfl 0 rfl ?_
      refine z_segVi (As := [.int r1]) (st := []) F dX6_feed_37 40 rfl (mX6_no C.1.2.1 D cyI cyB aO r1 oI oR hw) y_X6_no rfl gX6_feed_X6_no rfl (ci := 6) (rq := 0) rfl rfl ⟨Nat.le_of_ble_eq_true rfl, Nat.le_of_ble_eq_true rfl⟩ ⟨Nat.zero_le _, Nat.zero_le _⟩ (Nat.le_of_ble_eq_true rfl) [] [] (by simp only [List.append_assoc, List.nil_append, List.append_nil]) (fun _ => rfl) (fun u => (wMo aO cyI u.1 u.2)) (fun u => (by simp only [List.append_assoc, List.nil_append, List.append_nil])) (fun r2 u hp => ?_)
      obtain ⟨oI_1, oR_1⟩ := u
      replace hw := hp
      clear hp
      exact hRt 40 _ r2 (oI_1, oR_1) dX6_feed_40 hw
  · have hw := hwf c1; clear hwt hwf
    refine z_aload_n F dX6_feed_14 15 rfl 1 rfl ?_
    refine z_get F dX6_feed_15 18 rfl kX6_feed_125 0 rfl rfl ?_
    refine z_iload_n F dX6_feed_18 19 rfl 2 rfl ?_
    refine z_iadd F dX6_feed_19 20 rfl ?_
    refine z_bipush F dX6_feed_20 22 rfl zkb_80 ?_
    obtain ⟨hwt, hwf⟩ := hw
    refine z_icmple F dX6_feed_22 29 rfl 25 rfl (fun c3 => ?_) (fun c3 => ?_)
    · have hw := hwt c3; clear hwt hwf
      refine z_iload F dX6_feed_29 31 rfl 0 rfl ?_
      obtain ⟨hwt, hwf⟩ := hw
      refine z_ifeq F dX6_feed_31 41 rfl 34 rfl (fun c4 => ?_) (fun c4 => ?_)
      · have hw := hwt c4; clear hwt hwf
        refine z_iconst F dX6_feed_41 42 rfl zki_0 ?_
        refine z_istore (lv' := [(5, .int 0), (4, .int r1), (0, .ref (aO 0)), (1, .int x1), (2, .long y2)]) F dX6_feed_42 44 rfl (by decide) rfl ?_
        obtain ⟨n2, hw⟩ := hw
        refine z_lv (lv' := [(0, .ref (aO 0)), (1, .int x1), (2, .long y2), (5, .int 0)]) [2, 3, 4, 0] rfl ?_
        refine xX6_feed_44 x1 y2 F hRt n2 0 oI oR hw
      · have hw := hwf c4; clear hwt hwf
        refine z_aload_n F dX6_feed_34 35 rfl 1 rfl ?_
        refine z_iload F dX6_feed_35 37 rfl 0 rfl ?_
        refine z_segVi (As := [.int r1]) (st := []) F dX6_feed_37 40 rfl (mX6_no C.1.2.1 D cyI cyB aO r1 oI oR hw) y_X6_no rfl gX6_feed_X6_no rfl (ci := 6) (rq := 0) rfl rfl ⟨Nat.le_of_ble_eq_true rfl, Nat.le_of_ble_eq_true rfl⟩ ⟨Nat.zero_le _, Nat.zero_le _⟩ (Nat.le_of_ble_eq_true rfl) [] [] (by simp only [List.append_assoc, List.nil_append, List.append_nil]) (fun _ => rfl) (fun u => (wMo aO cyI u.1 u.2)) (fun u => (by simp only [List.append_assoc, List.nil_append, List.append_nil])) (fun r3 u hp => ?_)
        obtain ⟨oI_2, oR_2⟩ := u
        replace hw := hp
        clear hp
        exact hRt 40 _ r3 (oI_2, oR_2) dX6_feed_40 hw
    · have hw := hwf c3; clear hwt hwf
      refine z_bipush F dX6_feed_25 27 rfl zkb_m6 ?_
      refine z_istore (lv' := [(4, .int (-6)), (0, .ref (aO 0)), (1, .int x1), (2, .long y2)]) F dX6_feed_27 29 rfl (by decide) rfl ?_
      refine z_iload F dX6_feed_29 31 rfl 0 rfl ?_
      obtain ⟨hwt, hwf⟩ := hw
      refine z_ifeq F dX6_feed_31 41 rfl 34 rfl (fun c5 => ?_) (fun c5 => ?_)
      · have hw := hwt c5; clear hwt hwf
        refine z_iconst F dX6_feed_41 42 rfl zki_0 ?_
        refine z_istore (lv' := [(5, .int 0), (4, .int (-6)), (0, .ref (aO 0)), (1, .int x1), (2, .long y2)]) F dX6_feed_42 44 rfl (by decide) rfl ?_
        obtain ⟨n3, hw⟩ := hw
        refine z_lv (lv' := [(0, .ref (aO 0)), (1, .int x1), (2, .long y2), (5, .int 0)]) [2, 3, 4, 0] rfl ?_
        refine xX6_feed_44 x1 y2 F hRt n3 0 oI oR hw
      · have hw := hwf c5; clear hwt hwf
        refine z_aload_n F dX6_feed_34 35 rfl 1 rfl ?_
        refine z_iload F dX6_feed_35 37 rfl 0 rfl ?_
        refine z_segVi (As := [.int (-6)]) (st := []) F dX6_feed_37 40 rfl (mX6_no C.1.2.1 D cyI cyB aO (-6) oI oR hw) y_X6_no rfl gX6_feed_X6_no rfl (ci := 6) (rq := 0) rfl rfl ⟨Nat.le_of_ble_eq_true rfl, Nat.le_of_ble_eq_true rfl⟩ ⟨Nat.zero_le _, Nat.zero_le _⟩ (Nat.le_of_ble_eq_true rfl) [] [] (by simp only [List.append_assoc, List.nil_append, List.append_nil]) (fun _ => rfl) (fun u => (wMo aO cyI u.1 u.2)) (fun u => (by simp only [List.append_assoc, List.nil_append, List.append_nil])) (fun r4 u hp => ?_)
        obtain ⟨oI_3, oR_3⟩ := u
        replace hw := hp
        clear hp
        exact hRt 40 _ r4 (oI_3, oR_3) dX6_feed_40 hw
set_option maxHeartbeats 4000000 in
set_option maxRecDepth 100000 in
theorem mX6_feed (l : Launch) (D : va_G) (cyI cyB : ClassId) (aO : Nat → Nat) (x1 : Int32) (y2 : Int64) (oI : Nat → Int32) (oR : Nat → Nat → Int32) {post : Int32 → (Nat → Int32) → (Nat → Nat → Int32) → Prop} (hw : pX6_feed x1 y2 oI oR post) : zMi l yX6_feed wsX6_feed 1 22 D cyI cyB [.ref (aO 0), .int x1, .long y2] (wMo aO cyI oI oR) (S := ((Nat → Int32) × (Nat → Nat → Int32))) (fun u => (wMo aO cyI u.1 u.2)) (fun r u => post r u.1 u.2) :=
  z_meti (cc := cX6_feed) (nL := 6) (by decide +kernel) rfl (Nat.le_of_ble_eq_true rfl) (fun C hl F hRt => xX6_feed_0 x1 y2 oI oR F hRt hw)
theorem y_X6_feed : zY yX6_feed wsX6_feed cX6_feed 6 (some .int) 2 := ⟨⟨_, rfl⟩, by decide +kernel⟩
theorem iX6_takes_6 : ∀ w ∈ wsX60, w ∈ wsX6_takes := fun w h => List.mem_cons_of_mem _ (List.mem_append_right _ h)
theorem kX6_takes_130 : zL wsX6_takes RX6 130 6 18 .int false := zL6 iX6_takes_6 (by decide) (List.mem_of_getElem? (i := 1) rfl) rfl rfl
set_option maxHeartbeats 4000000 in
set_option maxRecDepth 100000 in
theorem xX6_takes_0 {C : zC} {D : va_G} {cyI cyB : ClassId} {aO : Nat → Nat} (x1 : Int32) (oI : Nat → Int32) (oR : Nat → Nat → Int32) (F : zF C D { frames := 1, cells := 0, slots := 0, locals := 20 } cX6_takes 2 wsX6_takes RX6 (some .boolean) cyI cyB) {post : Bool → (Nat → Int32) → (Nat → Nat → Int32) → Prop} (hRt : zRz C D cX6_takes 2 (S := ((Nat → Int32) × (Nat → Nat → Int32))) (fun u => (wMo aO cyI u.1 u.2)) (fun r u => ∃ b : Bool, r = zb b ∧ post b u.1 u.2)) (hw : pX6_takes x1 oI oR post) : zX C D 2 0 0 (wMo aO cyI oI oR) 0 [(0, .ref (aO 0)), (1, .int x1)] [] := by
  refine z_aload_n F dX6_takes_0 1 rfl 0 rfl ?_
  refine z_segVi (As := []) (st := []) F dX6_takes_1 4 rfl (mX6_sign C.1.2.1 D cyI cyB aO oI oR hw) y_X6_sign rfl gX6_takes_X6_sign rfl (ci := 6) (rq := 0) rfl rfl ⟨Nat.le_of_ble_eq_true rfl, Nat.le_of_ble_eq_true rfl⟩ ⟨Nat.zero_le _, Nat.zero_le _⟩ (Nat.le_of_ble_eq_true rfl) [] [] (by simp only [List.append_assoc, List.nil_append, List.append_nil]) (fun _ => rfl) (fun u => (wMo aO cyI oI oR)) (fun u => (by simp only [List.append_assoc, List.nil_append, List.append_nil])) (fun r1 u hp => ?_)
  replace hw := hp
  clear hp
  refine z_iload_n F dX6_takes_4 5 rfl 1 rfl ?_
  obtain ⟨hwt, hwf⟩ := hw
  refine z_icmpeq F dX6_takes_5 10 rfl 8 rfl (fun c1 => ?_) (fun c1 => ?_)
  · have hw := hwt c1; clear hwt hwf
    refine z_aload_n F dX6_takes_10 11 rfl 0 rfl ?_
    refine z_dup F dX6_takes_11 12 rfl rfl ?_
    refine z_get F dX6_takes_12 15 rfl kX6_takes_130 0 rfl rfl ?_
    refine z_iconst F dX6_takes_15 16 rfl zki_1 ?_
    refine z_iadd F dX6_takes_16 17 rfl ?_
    refine z_topi (fun v1 ev1 => ?_)
    replace hw := hw v1 ev1
    refine z_put F dX6_takes_17 20 rfl kX6_takes_130 0 rfl rfl rfl (Nat.le_of_ble_eq_true rfl) (wMo aO cyI (va_up oI 18 v1) oR) rfl ?_
    refine z_iconst F dX6_takes_20 21 rfl zki_1 ?_
    exact hRt 21 _ true ((va_up oI 18 v1), oR) dX6_takes_21 ⟨true, rfl, hw⟩
  · have hw := hwf c1; clear hwt hwf
    refine z_iconst F dX6_takes_8 9 rfl zki_0 ?_
    exact hRt 9 _ false (oI, oR) dX6_takes_9 ⟨false, rfl, hw⟩
set_option maxHeartbeats 4000000 in
set_option maxRecDepth 100000 in
theorem mX6_takes (l : Launch) (D : va_G) (cyI cyB : ClassId) (aO : Nat → Nat) (x1 : Int32) (oI : Nat → Int32) (oR : Nat → Nat → Int32) {post : Bool → (Nat → Int32) → (Nat → Nat → Int32) → Prop} (hw : pX6_takes x1 oI oR post) : zMi l yX6_takes wsX6_takes 1 20 D cyI cyB [.ref (aO 0), .int x1] (wMo aO cyI oI oR) (S := ((Nat → Int32) × (Nat → Nat → Int32))) (fun u => (wMo aO cyI u.1 u.2)) (fun r u => ∃ b : Bool, r = zb b ∧ post b u.1 u.2) :=
  z_metz (cc := cX6_takes) (nL := 2) (by decide +kernel) rfl (Nat.le_of_ble_eq_true rfl) (fun C hl F hRt => xX6_takes_0 x1 oI oR F hRt hw)
theorem y_X6_takes : zY yX6_takes wsX6_takes cX6_takes 2 (some .boolean) 1 := ⟨⟨_, rfl⟩, by decide +kernel⟩
theorem iX6_letters_6 : ∀ w ∈ wsX60, w ∈ wsX6_letters := fun w h => List.mem_cons_of_mem _ (List.mem_append_right _ h)
theorem kX6_letters_130 : zL wsX6_letters RX6 130 6 18 .int false := zL6 iX6_letters_6 (by decide) (List.mem_of_getElem? (i := 1) rfl) rfl rfl
set_option maxHeartbeats 4000000 in
set_option maxRecDepth 100000 in
theorem xX6_letters_2 {C : zC} {D : va_G} {cyI cyB : ClassId} {aO : Nat → Nat} (F : zF C D { frames := 1, cells := 0, slots := 0, locals := 21 } cX6_letters 2 wsX6_letters RX6 (some .int) cyI cyB) {post : Int32 → (Nat → Int32) → (Nat → Nat → Int32) → Prop} (hRt : zRi C D cX6_letters 2 (S := ((Nat → Int32) × (Nat → Nat → Int32))) (fun u => (wMo aO cyI u.1 u.2)) (fun r u => post r u.1 u.2)) : ∀ (n : Nat) (x1 : Int32) (oI : Nat → Int32) (oR : Nat → Nat → Int32), bX6_letters_2 post  n x1 oI oR → zX C D 2 0 0 (wMo aO cyI oI oR) 2 [(0, .ref (aO 0)), (1, .int x1)] [] := by
  intro n
  induction n with
  | zero => intro _ _ _ hw; exact hw.elim
  | succ n ih =>
    intro x1 oI oR hw
    refine z_aload_n F dX6_letters_2 3 rfl 0 rfl ?_
    refine z_aload_n F dX6_letters_3 4 rfl 0 rfl ?_
    refine z_segVi (As := []) (st := [.ref (aO 0)]) F dX6_letters_4 7 rfl (mX6_sign C.1.2.1 D cyI cyB aO oI oR hw) y_X6_sign rfl gX6_letters_X6_sign rfl (ci := 6) (rq := 0) rfl rfl ⟨Nat.le_of_ble_eq_true rfl, Nat.le_of_ble_eq_true rfl⟩ ⟨Nat.zero_le _, Nat.zero_le _⟩ (Nat.le_of_ble_eq_true rfl) [] [] (by simp only [List.append_assoc, List.nil_append, List.append_nil]) (fun _ => rfl) (fun u => (wMo aO cyI oI oR)) (fun u => (by simp only [List.append_assoc, List.nil_append, List.append_nil])) (fun r1 u hp => ?_)
    replace hw := hp
    clear hp
    refine z_bipush F dX6_letters_7 9 rfl zkb_97 ?_
    refine z_isub F dX6_letters_9 10 rfl ?_
    refine z_segVi (As := [.int (r1 - 97)]) (st := []) F dX6_letters_10 13 rfl (mX6_isStep C.1.2.1 D cyI cyB aO (r1 - 97) oI oR hw) y_X6_isStep rfl gX6_letters_X6_isStep rfl (ci := 6) (rq := 0) rfl rfl ⟨Nat.le_of_ble_eq_true rfl, Nat.le_of_ble_eq_true rfl⟩ ⟨Nat.zero_le _, Nat.zero_le _⟩ (Nat.le_of_ble_eq_true rfl) [] [] (by simp only [List.append_assoc, List.nil_append, List.append_nil]) (fun _ => rfl) (fun u => (wMo aO cyI oI oR)) (fun u => (by simp only [List.append_assoc, List.nil_append, List.append_nil])) (fun r0 u hp => ?_)
    obtain ⟨b1, rfl, hw⟩ := hp
    obtain ⟨hwt, hwf⟩ := hw
    refine z_ifeqB F dX6_letters_13 54 rfl 16 rfl (fun c1 => ?_) (fun c1 => ?_)
    · have hw := hwt c1; clear hwt hwf
      refine z_iload_n F dX6_letters_54 55 rfl 1 rfl ?_
      exact hRt 55 _ x1 (oI, oR) dX6_letters_55 hw
    · have hw := hwf c1; clear hwt hwf
      refine z_iload_n F dX6_letters_16 17 rfl 1 rfl ?_
      refine z_iconst F dX6_letters_17 18 rfl zki_1 ?_
      refine z_aload_n F dX6_letters_18 19 rfl 0 rfl ?_
      refine z_segVi (As := []) (st := [.int 1, .int x1]) F dX6_letters_19 22 rfl (mX6_sign C.1.2.1 D cyI cyB aO oI oR hw) y_X6_sign rfl gX6_letters_X6_sign rfl (ci := 6) (rq := 0) rfl rfl ⟨Nat.le_of_ble_eq_true rfl, Nat.le_of_ble_eq_true rfl⟩ ⟨Nat.zero_le _, Nat.zero_le _⟩ (Nat.le_of_ble_eq_true rfl) [] [] (by simp only [List.append_assoc, List.nil_append, List.append_nil]) (fun _ => rfl) (fun u => (wMo aO cyI oI oR)) (fun u => (by simp only [List.append_assoc, List.nil_append, List.append_nil])) (fun r2 u hp => ?_)
      replace hw := hp
      clear hp
      refine z_bipush F dX6_letters_22 24 rfl zkb_97 ?_
      refine z_isub F dX6_letters_24 25 rfl ?_
      refine z_ishl F dX6_letters_25 26 rfl ?_
      obtain ⟨hwt, hwf⟩ := hw
      refine z_icmpge F dX6_letters_26 54 rfl 29 rfl (fun c2 => ?_) (fun c2 => ?_)
      · have hw := hwt c2; clear hwt hwf
        refine z_iload_n F dX6_letters_54 55 rfl 1 rfl ?_
        exact hRt 55 _ x1 (oI, oR) dX6_letters_55 hw
      · have hw := hwf c2; clear hwt hwf
        refine z_iload_n F dX6_letters_29 30 rfl 1 rfl ?_
        refine z_iconst F dX6_letters_30 31 rfl zki_1 ?_
        refine z_aload_n F dX6_letters_31 32 rfl 0 rfl ?_
        refine z_segVi (As := []) (st := [.int 1, .int x1]) F dX6_letters_32 35 rfl (mX6_sign C.1.2.1 D cyI cyB aO oI oR hw) y_X6_sign rfl gX6_letters_X6_sign rfl (ci := 6) (rq := 0) rfl rfl ⟨Nat.le_of_ble_eq_true rfl, Nat.le_of_ble_eq_true rfl⟩ ⟨Nat.zero_le _, Nat.zero_le _⟩ (Nat.le_of_ble_eq_true rfl) [] [] (by simp only [List.append_assoc, List.nil_append, List.append_nil]) (fun _ => rfl) (fun u => (wMo aO cyI oI oR)) (fun u => (by simp only [List.append_assoc, List.nil_append, List.append_nil])) (fun r3 u hp => ?_)
        replace hw := hp
        clear hp
        refine z_bipush F dX6_letters_35 37 rfl zkb_97 ?_
        refine z_isub F dX6_letters_37 38 rfl ?_
        refine z_ishl F dX6_letters_38 39 rfl ?_
        refine z_ior F dX6_letters_39 40 rfl ?_
        refine z_topi (fun v1 ev1 => ?_)
        replace hw := hw v1 ev1
        refine z_istore_n (lv' := [(1, .int v1), (0, .ref (aO 0))]) F dX6_letters_40 41 rfl (by decide) rfl ?_
        refine z_aload_n F dX6_letters_41 42 rfl 1 rfl ?_
        refine z_dup F dX6_letters_42 43 rfl rfl ?_
        refine z_get F dX6_letters_43 46 rfl kX6_letters_130 0 rfl rfl ?_
        refine z_iconst F dX6_letters_46 47 rfl zki_1 ?_
        refine z_iadd F dX6_letters_47 48 rfl ?_
        refine z_topi (fun v2 ev2 => ?_)
        replace hw := hw v2 ev2
        refine z_put F dX6_letters_48 51 rfl kX6_letters_130 0 rfl rfl rfl (Nat.le_of_ble_eq_true rfl) (wMo aO cyI (va_up oI 18 v2) oR) rfl ?_
        refine z_goto F dX6_letters_51 2 rfl ?_
        refine z_lv (lv' := [(0, .ref (aO 0)), (1, .int v1)]) [1, 0] rfl ?_
        exact ih v1 (va_up oI 18 v2) oR hw
set_option maxHeartbeats 4000000 in
set_option maxRecDepth 100000 in
theorem xX6_letters_0 {C : zC} {D : va_G} {cyI cyB : ClassId} {aO : Nat → Nat} (oI : Nat → Int32) (oR : Nat → Nat → Int32) (F : zF C D { frames := 1, cells := 0, slots := 0, locals := 21 } cX6_letters 2 wsX6_letters RX6 (some .int) cyI cyB) {post : Int32 → (Nat → Int32) → (Nat → Nat → Int32) → Prop} (hRt : zRi C D cX6_letters 2 (S := ((Nat → Int32) × (Nat → Nat → Int32))) (fun u => (wMo aO cyI u.1 u.2)) (fun r u => post r u.1 u.2)) (hw : pX6_letters oI oR post) : zX C D 2 0 0 (wMo aO cyI oI oR) 0 [(0, .ref (aO 0))] [] := by
  refine z_iconst F dX6_letters_0 1 rfl zki_0 ?_
  refine z_istore_n (lv' := [(1, .int 0), (0, .ref (aO 0))]) F dX6_letters_1 2 rfl (by decide) rfl ?_
  obtain ⟨n1, hw⟩ := hw
  refine z_lv (lv' := [(0, .ref (aO 0)), (1, .int 0)]) [1, 0] rfl ?_
  refine xX6_letters_2 F hRt n1 0 oI oR hw
set_option maxHeartbeats 4000000 in
set_option maxRecDepth 100000 in
theorem mX6_letters (l : Launch) (D : va_G) (cyI cyB : ClassId) (aO : Nat → Nat) (oI : Nat → Int32) (oR : Nat → Nat → Int32) {post : Int32 → (Nat → Int32) → (Nat → Nat → Int32) → Prop} (hw : pX6_letters oI oR post) : zMi l yX6_letters wsX6_letters 1 21 D cyI cyB [.ref (aO 0)] (wMo aO cyI oI oR) (S := ((Nat → Int32) × (Nat → Nat → Int32))) (fun u => (wMo aO cyI u.1 u.2)) (fun r u => post r u.1 u.2) :=
  z_meti (cc := cX6_letters) (nL := 2) (by decide +kernel) rfl (Nat.le_of_ble_eq_true rfl) (fun C hl F hRt => xX6_letters_0 oI oR F hRt hw)
theorem y_X6_letters : zY yX6_letters wsX6_letters cX6_letters 2 (some .int) 0 := ⟨⟨_, rfl⟩, by decide +kernel⟩
theorem iX6_readsTwo_6 : ∀ w ∈ wsX60, w ∈ wsX6_readsTwo := fun w h => List.mem_cons_of_mem _ (List.mem_append_right _ h)
theorem kX6_readsTwo_130 : zL wsX6_readsTwo RX6 130 6 18 .int false := zL6 iX6_readsTwo_6 (by decide) (List.mem_of_getElem? (i := 1) rfl) rfl rfl
set_option maxHeartbeats 4000000 in
set_option maxRecDepth 100000 in
theorem xX6_readsTwo_92 {C : zC} {D : va_G} {cyI cyB : ClassId} {aO : Nat → Nat} (x1 : Int32) (x3 : Int32) (x4 : Int32) (oI : Nat → Int32) (oR : Nat → Nat → Int32) (F : zF C D { frames := 2, cells := 0, slots := 0, locals := 41 } cX6_readsTwo 5 wsX6_readsTwo RX6 (some .boolean) cyI cyB) {post : Bool → (Nat → Int32) → (Nat → Nat → Int32) → Prop} (hRt : zRz C D cX6_readsTwo 5 (S := ((Nat → Int32) × (Nat → Nat → Int32))) (fun u => (wMo aO cyI u.1 u.2)) (fun r u => ∃ b : Bool, r = zb b ∧ post b u.1 u.2)) (hw : bX6_readsTwo_92 x1 x3 x4 oI oR post ) : zX C D 5 0 0 (wMo aO cyI oI oR) 92 [(0, .ref (aO 0)), (1, .int x1), (3, .int x3), (4, .int x4)] [] := by
  refine z_aload_n F dX6_readsTwo_92 93 rfl 0 rfl ?_
  refine z_bipush F dX6_readsTwo_93 95 rfl zkb_59 ?_
  refine z_segVi (As := [.int 59]) (st := []) F dX6_readsTwo_95 98 rfl (mX6_takes C.1.2.1 D cyI cyB aO 59 oI oR hw) y_X6_takes rfl gX6_readsTwo_X6_takes rfl (ci := 6) (rq := 0) rfl rfl ⟨Nat.le_of_ble_eq_true rfl, Nat.le_of_ble_eq_true rfl⟩ ⟨Nat.zero_le _, Nat.zero_le _⟩ (Nat.le_of_ble_eq_true rfl) [] [] (by simp only [List.append_assoc, List.nil_append, List.append_nil]) (fun _ => rfl) (fun u => (wMo aO cyI u.1 u.2)) (fun u => (by simp only [List.append_assoc, List.nil_append, List.append_nil])) (fun r0 u hp => ?_)
  obtain ⟨oI_1, oR_1⟩ := u
  obtain ⟨b3, rfl, hw⟩ := hp
  obtain ⟨hwt, hwf⟩ := hw
  refine z_ifneB F dX6_readsTwo_98 103 rfl 101 rfl (fun c5 => ?_) (fun c5 => ?_)
  · have hw := hwt c5; clear hwt hwf
    refine z_iload_n F dX6_readsTwo_103 104 rfl 1 rfl ?_
    obtain ⟨hwt, hwf⟩ := hw
    refine z_ifeq F dX6_readsTwo_104 118 rfl 107 rfl (fun c6 => ?_) (fun c6 => ?_)
    · have hw := hwt c6; clear hwt hwf
      refine z_aload_n F dX6_readsTwo_118 119 rfl 0 rfl ?_
      refine z_iload_n F dX6_readsTwo_119 120 rfl 2 rfl ?_
      refine z_iload F dX6_readsTwo_120 122 rfl 3 rfl ?_
      refine z_segVi (As := [.int x3, .int x4]) (st := []) F dX6_readsTwo_122 125 rfl (mX6_comesTie C.1.2.1 D cyI cyB aO x3 x4 oI_1 oR_1 hw) y_X6_comesTie rfl gX6_readsTwo_X6_comesTie rfl (ci := 6) (rq := 0) rfl rfl ⟨Nat.le_of_ble_eq_true rfl, Nat.le_of_ble_eq_true rfl⟩ ⟨Nat.zero_le _, Nat.zero_le _⟩ (Nat.le_of_ble_eq_true rfl) [] [] (by simp only [List.append_assoc, List.nil_append, List.append_nil]) (fun _ => rfl) (fun u => (wMo aO cyI u.1 u.2)) (fun u => (by simp only [List.append_assoc, List.nil_append, List.append_nil])) (fun r3 u hp => ?_)
      obtain ⟨oI_2, oR_2⟩ := u
      replace hw := hp
      clear hp
      refine z_pop F dX6_readsTwo_125 126 rfl rfl ?_
      refine z_iconst F dX6_readsTwo_126 127 rfl zki_1 ?_
      exact hRt 127 _ true (oI_2, oR_2) dX6_readsTwo_127 ⟨true, rfl, hw⟩
    · have hw := hwf c6; clear hwt hwf
      refine z_aload_n F dX6_readsTwo_107 108 rfl 0 rfl ?_
      refine z_iload_n F dX6_readsTwo_108 109 rfl 2 rfl ?_
      refine z_iload F dX6_readsTwo_109 111 rfl 3 rfl ?_
      refine z_segVi (As := [.int x3, .int x4]) (st := []) F dX6_readsTwo_111 114 rfl (mX6_comesSight C.1.2.1 D cyI cyB aO x3 x4 oI_1 oR_1 hw) y_X6_comesSight rfl gX6_readsTwo_X6_comesSight rfl (ci := 6) (rq := 0) rfl rfl ⟨Nat.le_of_ble_eq_true rfl, Nat.le_of_ble_eq_true rfl⟩ ⟨Nat.zero_le _, Nat.zero_le _⟩ (Nat.le_of_ble_eq_true rfl) [] [] (by simp only [List.append_assoc, List.nil_append, List.append_nil]) (fun _ => rfl) (fun u => (wMo aO cyI u.1 u.2)) (fun u => (by simp only [List.append_assoc, List.nil_append, List.append_nil])) (fun r4 u hp => ?_)
      obtain ⟨oI_3, oR_3⟩ := u
      replace hw := hp
      clear hp
      refine z_pop F dX6_readsTwo_114 115 rfl rfl ?_
      refine z_goto F dX6_readsTwo_115 126 rfl ?_
      refine z_iconst F dX6_readsTwo_126 127 rfl zki_1 ?_
      exact hRt 127 _ true (oI_3, oR_3) dX6_readsTwo_127 ⟨true, rfl, hw⟩
  · have hw := hwf c5; clear hwt hwf
    refine z_iconst F dX6_readsTwo_101 102 rfl zki_0 ?_
    exact hRt 102 _ false (oI_1, oR_1) dX6_readsTwo_102 ⟨false, rfl, hw⟩
set_option maxHeartbeats 4000000 in
set_option maxRecDepth 100000 in
theorem xX6_readsTwo_0 {C : zC} {D : va_G} {cyI cyB : ClassId} {aO : Nat → Nat} (z1 : Bool) (oI : Nat → Int32) (oR : Nat → Nat → Int32) (F : zF C D { frames := 2, cells := 0, slots := 0, locals := 41 } cX6_readsTwo 5 wsX6_readsTwo RX6 (some .boolean) cyI cyB) {post : Bool → (Nat → Int32) → (Nat → Nat → Int32) → Prop} (hRt : zRz C D cX6_readsTwo 5 (S := ((Nat → Int32) × (Nat → Nat → Int32))) (fun u => (wMo aO cyI u.1 u.2)) (fun r u => ∃ b : Bool, r = zb b ∧ post b u.1 u.2)) (hw : pX6_readsTwo z1 oI oR post) : zX C D 5 0 0 (wMo aO cyI oI oR) 0 [(0, .ref (aO 0)), (1, .int (zb z1))] [] := by
  refine z_aload_n F dX6_readsTwo_0 1 rfl 0 rfl ?_
  refine z_get F dX6_readsTwo_1 4 rfl kX6_readsTwo_130 0 rfl rfl ?_
  refine z_iconst F dX6_readsTwo_4 5 rfl zki_1 ?_
  refine z_isub F dX6_readsTwo_5 6 rfl ?_
  refine z_topi (fun v1 ev1 => ?_)
  replace hw := hw v1 ev1
  refine z_istore_n (lv' := [(2, .int v1), (0, .ref (aO 0)), (1, .int (zb z1))]) F dX6_readsTwo_6 7 rfl (by decide) rfl ?_
  refine z_aload_n F dX6_readsTwo_7 8 rfl 1 rfl ?_
  refine z_segVi (As := []) (st := []) F dX6_readsTwo_8 11 rfl (mX6_sign C.1.2.1 D cyI cyB aO oI oR hw) y_X6_sign rfl gX6_readsTwo_X6_sign rfl (ci := 6) (rq := 0) rfl rfl ⟨Nat.le_of_ble_eq_true rfl, Nat.le_of_ble_eq_true rfl⟩ ⟨Nat.zero_le _, Nat.zero_le _⟩ (Nat.le_of_ble_eq_true rfl) [] [] (by simp only [List.append_assoc, List.nil_append, List.append_nil]) (fun _ => rfl) (fun u => (wMo aO cyI oI oR)) (fun u => (by simp only [List.append_assoc, List.nil_append, List.append_nil])) (fun r1 u hp => ?_)
  replace hw := hp
  clear hp
  refine z_bipush F dX6_readsTwo_11 13 rfl zkb_48 ?_
  refine z_isub F dX6_readsTwo_13 14 rfl ?_
  refine z_topi (fun v2 ev2 => ?_)
  replace hw := hw v2 ev2
  refine z_istore_n (lv' := [(3, .int v2), (2, .int v1), (0, .ref (aO 0)), (1, .int (zb z1))]) F dX6_readsTwo_14 15 rfl (by decide) rfl ?_
  refine z_aload_n F dX6_readsTwo_15 16 rfl 2 rfl ?_
  refine z_iload_n F dX6_readsTwo_16 17 rfl 0 rfl ?_
  refine z_segVi (As := [.int v2]) (st := []) F dX6_readsTwo_17 20 rfl (mX6_isHand C.1.2.1 D cyI cyB aO v2 oI oR hw) y_X6_isHand rfl gX6_readsTwo_X6_isHand rfl (ci := 6) (rq := 0) rfl rfl ⟨Nat.le_of_ble_eq_true rfl, Nat.le_of_ble_eq_true rfl⟩ ⟨Nat.zero_le _, Nat.zero_le _⟩ (Nat.le_of_ble_eq_true rfl) [] [] (by simp only [List.append_assoc, List.nil_append, List.append_nil]) (fun _ => rfl) (fun u => (wMo aO cyI oI oR)) (fun u => (by simp only [List.append_assoc, List.nil_append, List.append_nil])) (fun r0 u hp => ?_)
  obtain ⟨b1, rfl, hw⟩ := hp
  obtain ⟨hwt, hwf⟩ := hw
  refine z_ifneB F dX6_readsTwo_20 25 rfl 23 rfl (fun c1 => ?_) (fun c1 => ?_)
  · have hw := hwt c1; clear hwt hwf
    refine z_aload_n F dX6_readsTwo_25 26 rfl 2 rfl ?_
    refine z_dup F dX6_readsTwo_26 27 rfl rfl ?_
    refine z_get F dX6_readsTwo_27 30 rfl kX6_readsTwo_130 0 rfl rfl ?_
    refine z_iconst F dX6_readsTwo_30 31 rfl zki_1 ?_
    refine z_iadd F dX6_readsTwo_31 32 rfl ?_
    refine z_topi (fun v3 ev3 => ?_)
    replace hw := hw v3 ev3
    refine z_put F dX6_readsTwo_32 35 rfl kX6_readsTwo_130 0 rfl rfl rfl (Nat.le_of_ble_eq_true rfl) (wMo aO cyI (va_up oI 18 v3) oR) rfl ?_
    refine z_aload_n F dX6_readsTwo_35 36 rfl 2 rfl ?_
    refine z_segVi (As := []) (st := []) F dX6_readsTwo_36 39 rfl (mX6_sign C.1.2.1 D cyI cyB aO (va_up oI 18 v3) oR hw) y_X6_sign rfl gX6_readsTwo_X6_sign rfl (ci := 6) (rq := 0) rfl rfl ⟨Nat.le_of_ble_eq_true rfl, Nat.le_of_ble_eq_true rfl⟩ ⟨Nat.zero_le _, Nat.zero_le _⟩ (Nat.le_of_ble_eq_true rfl) [] [] (by simp only [List.append_assoc, List.nil_append, List.append_nil]) (fun _ => rfl) (fun u => (wMo aO cyI (va_up oI 18 v3) oR)) (fun u => (by simp only [List.append_assoc, List.nil_append, List.append_nil])) (fun r2 u hp => ?_)
    replace hw := hp
    clear hp
    refine z_bipush F dX6_readsTwo_39 41 rfl zkb_48 ?_
    refine z_isub F dX6_readsTwo_41 42 rfl ?_
    refine z_topi (fun v4 ev4 => ?_)
    replace hw := hw v4 ev4
    refine z_istore (lv' := [(4, .int v4), (3, .int v2), (2, .int v1), (0, .ref (aO 0)), (1, .int (zb z1))]) F dX6_readsTwo_42 44 rfl (by decide) rfl ?_
    refine z_aload_n F dX6_readsTwo_44 45 rfl 3 rfl ?_
    refine z_iload F dX6_readsTwo_45 47 rfl 0 rfl ?_
    refine z_segVi (As := [.int v4]) (st := []) F dX6_readsTwo_47 50 rfl (mX6_isHand C.1.2.1 D cyI cyB aO v4 (va_up oI 18 v3) oR hw) y_X6_isHand rfl gX6_readsTwo_X6_isHand rfl (ci := 6) (rq := 0) rfl rfl ⟨Nat.le_of_ble_eq_true rfl, Nat.le_of_ble_eq_true rfl⟩ ⟨Nat.zero_le _, Nat.zero_le _⟩ (Nat.le_of_ble_eq_true rfl) [] [] (by simp only [List.append_assoc, List.nil_append, List.append_nil]) (fun _ => rfl) (fun u => (wMo aO cyI (va_up oI 18 v3) oR)) (fun u => (by simp only [List.append_assoc, List.nil_append, List.append_nil])) (fun r0 u hp => ?_)
    obtain ⟨b2, rfl, hw⟩ := hp
    obtain ⟨hwt, hwf⟩ := hw
    refine z_ifeqB F dX6_readsTwo_50 59 rfl 53 rfl (fun c2 => ?_) (fun c2 => ?_)
    · have hw := hwt c2; clear hwt hwf
      refine z_iconst F dX6_readsTwo_59 60 rfl zki_0 ?_
      exact hRt 60 _ false ((va_up oI 18 v3), oR) dX6_readsTwo_60 ⟨false, rfl, hw⟩
    · have hw := hwf c2; clear hwt hwf
      refine z_iload_n F dX6_readsTwo_53 54 rfl 1 rfl ?_
      refine z_iload F dX6_readsTwo_54 56 rfl 0 rfl ?_
      obtain ⟨hwt, hwf⟩ := hw
      refine z_icmpne F dX6_readsTwo_56 61 rfl 59 rfl (fun c3 => ?_) (fun c3 => ?_)
      · have hw := hwt c3; clear hwt hwf
        refine z_aload_n F dX6_readsTwo_61 62 rfl 3 rfl ?_
        refine z_dup F dX6_readsTwo_62 63 rfl rfl ?_
        refine z_get F dX6_readsTwo_63 66 rfl kX6_readsTwo_130 0 rfl rfl ?_
        refine z_iconst F dX6_readsTwo_66 67 rfl zki_1 ?_
        refine z_iadd F dX6_readsTwo_67 68 rfl ?_
        refine z_topi (fun v5 ev5 => ?_)
        replace hw := hw v5 ev5
        refine z_put F dX6_readsTwo_68 71 rfl kX6_readsTwo_130 0 rfl rfl rfl (Nat.le_of_ble_eq_true rfl) (wMo aO cyI (va_up oI 18 v5) oR) rfl ?_
        refine z_iload_n F dX6_readsTwo_71 72 rfl 4 rfl ?_
        obtain ⟨hwt, hwf⟩ := hw
        refine z_ifeqB F dX6_readsTwo_72 92 rfl 75 rfl (fun c4 => ?_) (fun c4 => ?_)
        · have hw := hwt c4; clear hwt hwf
          refine z_lv (lv' := [(0, .ref (aO 0)), (1, .int (zb z1)), (3, .int v2), (4, .int v4)]) [3, 4, 1, 0] rfl ?_
          exact xX6_readsTwo_92 (zb z1) v2 v4 (va_up oI 18 v5) oR F hRt hw
        · have hw := hwf c4; clear hwt hwf
          refine z_aload_n F dX6_readsTwo_75 76 rfl 3 rfl ?_
          refine z_iload_n F dX6_readsTwo_76 77 rfl 1 rfl ?_
          refine z_iload F dX6_readsTwo_77 79 rfl 0 rfl ?_
          refine z_segVi (As := [.int v2, .int v4]) (st := []) F dX6_readsTwo_79 82 rfl (mX6_hasSight C.1.2.1 D cyI cyB aO v2 v4 (va_up oI 18 v5) oR hw) y_X6_hasSight rfl gX6_readsTwo_X6_hasSight rfl (ci := 6) (rq := 0) rfl rfl ⟨Nat.le_of_ble_eq_true rfl, Nat.le_of_ble_eq_true rfl⟩ ⟨Nat.zero_le _, Nat.zero_le _⟩ (Nat.le_of_ble_eq_true rfl) [] [] (by simp only [List.append_assoc, List.nil_append, List.append_nil]) (fun _ => rfl) (fun u => (wMo aO cyI (va_up oI 18 v5) oR)) (fun u => (by simp only [List.append_assoc, List.nil_append, List.append_nil])) (fun r0 u hp => ?_)
          obtain ⟨b3, rfl, hw⟩ := hp
          obtain ⟨hwt, hwf⟩ := hw
          refine z_ifeqB F dX6_readsTwo_82 92 rfl 85 rfl (fun c5 => ?_) (fun c5 => ?_)
          · have hw := hwt c5; clear hwt hwf
            refine z_lv (lv' := [(0, .ref (aO 0)), (1, .int (zb z1)), (3, .int v2), (4, .int v4)]) [3, 4, 1, 0] rfl ?_
            exact xX6_readsTwo_92 (zb z1) v2 v4 (va_up oI 18 v5) oR F hRt hw
          · have hw := hwf c5; clear hwt hwf
            refine z_aload_n F dX6_readsTwo_85 86 rfl 3 rfl ?_
            refine z_iload_n F dX6_readsTwo_86 87 rfl 2 rfl ?_
            refine z_put F dX6_readsTwo_87 90 rfl kX6_readsTwo_130 0 rfl rfl rfl (Nat.le_of_ble_eq_true rfl) (wMo aO cyI (va_up oI 18 v1) oR) rfl ?_
            refine z_iconst F dX6_readsTwo_90 91 rfl zki_0 ?_
            exact hRt 91 _ false ((va_up oI 18 v1), oR) dX6_readsTwo_91 ⟨false, rfl, hw⟩
      · have hw := hwf c3; clear hwt hwf
        refine z_iconst F dX6_readsTwo_59 60 rfl zki_0 ?_
        exact hRt 60 _ false ((va_up oI 18 v3), oR) dX6_readsTwo_60 ⟨false, rfl, hw⟩
  · have hw := hwf c1; clear hwt hwf
    refine z_iconst F dX6_readsTwo_23 24 rfl zki_0 ?_
    exact hRt 24 _ false (oI, oR) dX6_readsTwo_24 ⟨false, rfl, hw⟩
set_option maxHeartbeats 4000000 in
set_option maxRecDepth 100000 in
theorem mX6_readsTwo (l : Launch) (D : va_G) (cyI cyB : ClassId) (aO : Nat → Nat) (z1 : Bool) (oI : Nat → Int32) (oR : Nat → Nat → Int32) {post : Bool → (Nat → Int32) → (Nat → Nat → Int32) → Prop} (hw : pX6_readsTwo z1 oI oR post) : zMi l yX6_readsTwo wsX6_readsTwo 2 41 D cyI cyB [.ref (aO 0), .int (zb z1)] (wMo aO cyI oI oR) (S := ((Nat → Int32) × (Nat → Nat → Int32))) (fun u => (wMo aO cyI u.1 u.2)) (fun r u => ∃ b : Bool, r = zb b ∧ post b u.1 u.2) :=
  z_metz (cc := cX6_readsTwo) (nL := 5) (by decide +kernel) rfl (Nat.le_of_ble_eq_true rfl) (fun C hl F hRt => xX6_readsTwo_0 z1 oI oR F hRt hw)
theorem y_X6_readsTwo : zY yX6_readsTwo wsX6_readsTwo cX6_readsTwo 5 (some .boolean) 1 := ⟨⟨_, rfl⟩, by decide +kernel⟩
theorem iX6_readsGuess_6 : ∀ w ∈ wsX60, w ∈ wsX6_readsGuess := fun w h => List.mem_cons_of_mem _ (List.mem_append_right _ h)
theorem kX6_readsGuess_130 : zL wsX6_readsGuess RX6 130 6 18 .int false := zL6 iX6_readsGuess_6 (by decide) (List.mem_of_getElem? (i := 1) rfl) rfl rfl
set_option maxHeartbeats 4000000 in
set_option maxRecDepth 100000 in
theorem xX6_readsGuess_0 {C : zC} {D : va_G} {cyI cyB : ClassId} {aO : Nat → Nat} (oI : Nat → Int32) (oR : Nat → Nat → Int32) (F : zF C D { frames := 2, cells := 0, slots := 0, locals := 42 } cX6_readsGuess 3 wsX6_readsGuess RX6 (some .boolean) cyI cyB) {post : Bool → (Nat → Int32) → (Nat → Nat → Int32) → Prop} (hRt : zRz C D cX6_readsGuess 3 (S := ((Nat → Int32) × (Nat → Nat → Int32))) (fun u => (wMo aO cyI u.1 u.2)) (fun r u => ∃ b : Bool, r = zb b ∧ post b u.1 u.2)) (hw : pX6_readsGuess oI oR post) : zX C D 3 0 0 (wMo aO cyI oI oR) 0 [(0, .ref (aO 0))] [] := by
  refine z_aload_n F dX6_readsGuess_0 1 rfl 0 rfl ?_
  refine z_segVi (As := []) (st := []) F dX6_readsGuess_1 4 rfl (mX6_letters C.1.2.1 D cyI cyB aO oI oR hw) y_X6_letters rfl gX6_readsGuess_X6_letters rfl (ci := 6) (rq := 0) rfl rfl ⟨Nat.le_of_ble_eq_true rfl, Nat.le_of_ble_eq_true rfl⟩ ⟨Nat.zero_le _, Nat.zero_le _⟩ (Nat.le_of_ble_eq_true rfl) [] [] (by simp only [List.append_assoc, List.nil_append, List.append_nil]) (fun _ => rfl) (fun u => (wMo aO cyI u.1 u.2)) (fun u => (by simp only [List.append_assoc, List.nil_append, List.append_nil])) (fun r1 u hp => ?_)
  obtain ⟨oI_1, oR_1⟩ := u
  replace hw := hp
  clear hp
  refine z_istore_n (lv' := [(1, .int r1), (0, .ref (aO 0))]) F dX6_readsGuess_4 5 rfl (by decide) rfl ?_
  refine z_iload_n F dX6_readsGuess_5 6 rfl 0 rfl ?_
  obtain ⟨hwt, hwf⟩ := hw
  refine z_ifeq F dX6_readsGuess_6 18 rfl 9 rfl (fun c1 => ?_) (fun c1 => ?_)
  · have hw := hwt c1; clear hwt hwf
    refine z_iconst F dX6_readsGuess_18 19 rfl zki_0 ?_
    exact hRt 19 _ false (oI_1, oR_1) dX6_readsGuess_19 ⟨false, rfl, hw⟩
  · have hw := hwf c1; clear hwt hwf
    refine z_aload_n F dX6_readsGuess_9 10 rfl 1 rfl ?_
    refine z_bipush F dX6_readsGuess_10 12 rfl zkb_62 ?_
    refine z_segVi (As := [.int 62]) (st := []) F dX6_readsGuess_12 15 rfl (mX6_takes C.1.2.1 D cyI cyB aO 62 oI_1 oR_1 hw) y_X6_takes rfl gX6_readsGuess_X6_takes rfl (ci := 6) (rq := 0) rfl rfl ⟨Nat.le_of_ble_eq_true rfl, Nat.le_of_ble_eq_true rfl⟩ ⟨Nat.zero_le _, Nat.zero_le _⟩ (Nat.le_of_ble_eq_true rfl) [] [] (by simp only [List.append_assoc, List.nil_append, List.append_nil]) (fun _ => rfl) (fun u => (wMo aO cyI u.1 u.2)) (fun u => (by simp only [List.append_assoc, List.nil_append, List.append_nil])) (fun r0 u hp => ?_)
    obtain ⟨oI_2, oR_2⟩ := u
    obtain ⟨b1, rfl, hw⟩ := hp
    obtain ⟨hwt, hwf⟩ := hw
    refine z_ifneB F dX6_readsGuess_15 20 rfl 18 rfl (fun c2 => ?_) (fun c2 => ?_)
    · have hw := hwt c2; clear hwt hwf
      refine z_aload_n F dX6_readsGuess_20 21 rfl 1 rfl ?_
      refine z_segVi (As := []) (st := []) F dX6_readsGuess_21 24 rfl (mX6_sign C.1.2.1 D cyI cyB aO oI_2 oR_2 hw) y_X6_sign rfl gX6_readsGuess_X6_sign rfl (ci := 6) (rq := 0) rfl rfl ⟨Nat.le_of_ble_eq_true rfl, Nat.le_of_ble_eq_true rfl⟩ ⟨Nat.zero_le _, Nat.zero_le _⟩ (Nat.le_of_ble_eq_true rfl) [] [] (by simp only [List.append_assoc, List.nil_append, List.append_nil]) (fun _ => rfl) (fun u => (wMo aO cyI oI_2 oR_2)) (fun u => (by simp only [List.append_assoc, List.nil_append, List.append_nil])) (fun r2 u hp => ?_)
      replace hw := hp
      clear hp
      refine z_bipush F dX6_readsGuess_24 26 rfl zkb_97 ?_
      refine z_isub F dX6_readsGuess_26 27 rfl ?_
      refine z_topi (fun v1 ev1 => ?_)
      replace hw := hw v1 ev1
      refine z_istore_n (lv' := [(2, .int v1), (1, .int r1), (0, .ref (aO 0))]) F dX6_readsGuess_27 28 rfl (by decide) rfl ?_
      refine z_aload_n F dX6_readsGuess_28 29 rfl 2 rfl ?_
      refine z_iload_n F dX6_readsGuess_29 30 rfl 0 rfl ?_
      refine z_segVi (As := [.int v1]) (st := []) F dX6_readsGuess_30 33 rfl (mX6_isStep C.1.2.1 D cyI cyB aO v1 oI_2 oR_2 hw) y_X6_isStep rfl gX6_readsGuess_X6_isStep rfl (ci := 6) (rq := 0) rfl rfl ⟨Nat.le_of_ble_eq_true rfl, Nat.le_of_ble_eq_true rfl⟩ ⟨Nat.zero_le _, Nat.zero_le _⟩ (Nat.le_of_ble_eq_true rfl) [] [] (by simp only [List.append_assoc, List.nil_append, List.append_nil]) (fun _ => rfl) (fun u => (wMo aO cyI oI_2 oR_2)) (fun u => (by simp only [List.append_assoc, List.nil_append, List.append_nil])) (fun r0 u hp => ?_)
      obtain ⟨b2, rfl, hw⟩ := hp
      obtain ⟨hwt, hwf⟩ := hw
      refine z_ifeqB F dX6_readsGuess_33 45 rfl 36 rfl (fun c3 => ?_) (fun c3 => ?_)
      · have hw := hwt c3; clear hwt hwf
        refine z_iconst F dX6_readsGuess_45 46 rfl zki_0 ?_
        exact hRt 46 _ false (oI_2, oR_2) dX6_readsGuess_46 ⟨false, rfl, hw⟩
      · have hw := hwf c3; clear hwt hwf
        refine z_iload_n F dX6_readsGuess_36 37 rfl 1 rfl ?_
        refine z_iload_n F dX6_readsGuess_37 38 rfl 0 rfl ?_
        refine z_ishr F dX6_readsGuess_38 39 rfl ?_
        refine z_iconst F dX6_readsGuess_39 40 rfl zki_1 ?_
        refine z_iand F dX6_readsGuess_40 41 rfl ?_
        refine z_iconst F dX6_readsGuess_41 42 rfl zki_1 ?_
        obtain ⟨hwt, hwf⟩ := hw
        refine z_icmpne F dX6_readsGuess_42 47 rfl 45 rfl (fun c4 => ?_) (fun c4 => ?_)
        · have hw := hwt c4; clear hwt hwf
          refine z_aload_n F dX6_readsGuess_47 48 rfl 2 rfl ?_
          refine z_dup F dX6_readsGuess_48 49 rfl rfl ?_
          refine z_get F dX6_readsGuess_49 52 rfl kX6_readsGuess_130 0 rfl rfl ?_
          refine z_iconst F dX6_readsGuess_52 53 rfl zki_1 ?_
          refine z_iadd F dX6_readsGuess_53 54 rfl ?_
          refine z_topi (fun v2 ev2 => ?_)
          replace hw := hw v2 ev2
          refine z_put F dX6_readsGuess_54 57 rfl kX6_readsGuess_130 0 rfl rfl rfl (Nat.le_of_ble_eq_true rfl) (wMo aO cyI (va_up oI_2 18 v2) oR_2) rfl ?_
          refine z_aload_n F dX6_readsGuess_57 58 rfl 2 rfl ?_
          refine z_bipush F dX6_readsGuess_58 60 rfl zkb_59 ?_
          refine z_segVi (As := [.int 59]) (st := []) F dX6_readsGuess_60 63 rfl (mX6_takes C.1.2.1 D cyI cyB aO 59 (va_up oI_2 18 v2) oR_2 hw) y_X6_takes rfl gX6_readsGuess_X6_takes rfl (ci := 6) (rq := 0) rfl rfl ⟨Nat.le_of_ble_eq_true rfl, Nat.le_of_ble_eq_true rfl⟩ ⟨Nat.zero_le _, Nat.zero_le _⟩ (Nat.le_of_ble_eq_true rfl) [] [] (by simp only [List.append_assoc, List.nil_append, List.append_nil]) (fun _ => rfl) (fun u => (wMo aO cyI u.1 u.2)) (fun u => (by simp only [List.append_assoc, List.nil_append, List.append_nil])) (fun r0 u hp => ?_)
          obtain ⟨oI_3, oR_3⟩ := u
          obtain ⟨b3, rfl, hw⟩ := hp
          obtain ⟨hwt, hwf⟩ := hw
          refine z_ifneB F dX6_readsGuess_63 68 rfl 66 rfl (fun c5 => ?_) (fun c5 => ?_)
          · have hw := hwt c5; clear hwt hwf
            refine z_aload_n F dX6_readsGuess_68 69 rfl 2 rfl ?_
            refine z_iload_n F dX6_readsGuess_69 70 rfl 1 rfl ?_
            refine z_iload_n F dX6_readsGuess_70 71 rfl 0 rfl ?_
            refine z_segVi (As := [.int r1, .int v1]) (st := []) F dX6_readsGuess_71 74 rfl (mX6_comesGuess C.1.2.1 D cyI cyB aO r1 v1 oI_3 oR_3 hw) y_X6_comesGuess rfl gX6_readsGuess_X6_comesGuess rfl (ci := 6) (rq := 0) rfl rfl ⟨Nat.le_of_ble_eq_true rfl, Nat.le_of_ble_eq_true rfl⟩ ⟨Nat.zero_le _, Nat.zero_le _⟩ (Nat.le_of_ble_eq_true rfl) [] [] (by simp only [List.append_assoc, List.nil_append, List.append_nil]) (fun _ => rfl) (fun u => (wMo aO cyI u.1 u.2)) (fun u => (by simp only [List.append_assoc, List.nil_append, List.append_nil])) (fun r3 u hp => ?_)
            obtain ⟨oI_4, oR_4⟩ := u
            replace hw := hp
            clear hp
            refine z_pop F dX6_readsGuess_74 75 rfl rfl ?_
            refine z_iconst F dX6_readsGuess_75 76 rfl zki_1 ?_
            exact hRt 76 _ true (oI_4, oR_4) dX6_readsGuess_76 ⟨true, rfl, hw⟩
          · have hw := hwf c5; clear hwt hwf
            refine z_iconst F dX6_readsGuess_66 67 rfl zki_0 ?_
            exact hRt 67 _ false (oI_3, oR_3) dX6_readsGuess_67 ⟨false, rfl, hw⟩
        · have hw := hwf c4; clear hwt hwf
          refine z_iconst F dX6_readsGuess_45 46 rfl zki_0 ?_
          exact hRt 46 _ false (oI_2, oR_2) dX6_readsGuess_46 ⟨false, rfl, hw⟩
    · have hw := hwf c2; clear hwt hwf
      refine z_iconst F dX6_readsGuess_18 19 rfl zki_0 ?_
      exact hRt 19 _ false (oI_2, oR_2) dX6_readsGuess_19 ⟨false, rfl, hw⟩
set_option maxHeartbeats 4000000 in
set_option maxRecDepth 100000 in
theorem mX6_readsGuess (l : Launch) (D : va_G) (cyI cyB : ClassId) (aO : Nat → Nat) (oI : Nat → Int32) (oR : Nat → Nat → Int32) {post : Bool → (Nat → Int32) → (Nat → Nat → Int32) → Prop} (hw : pX6_readsGuess oI oR post) : zMi l yX6_readsGuess wsX6_readsGuess 2 42 D cyI cyB [.ref (aO 0)] (wMo aO cyI oI oR) (S := ((Nat → Int32) × (Nat → Nat → Int32))) (fun u => (wMo aO cyI u.1 u.2)) (fun r u => ∃ b : Bool, r = zb b ∧ post b u.1 u.2) :=
  z_metz (cc := cX6_readsGuess) (nL := 3) (by decide +kernel) rfl (Nat.le_of_ble_eq_true rfl) (fun C hl F hRt => xX6_readsGuess_0 oI oR F hRt hw)
theorem y_X6_readsGuess : zY yX6_readsGuess wsX6_readsGuess cX6_readsGuess 3 (some .boolean) 0 := ⟨⟨_, rfl⟩, by decide +kernel⟩
theorem iX6_statement_6 : ∀ w ∈ wsX60, w ∈ wsX6_statement := fun w h => List.mem_cons_of_mem _ (List.mem_append_right _ h)
theorem kX6_statement_72 : zL wsX6_statement RX6 72 6 11 .int false := zL6 iX6_statement_6 (by decide) (List.mem_of_getElem? (i := 1) rfl) rfl rfl
theorem kX6_statement_83 : zL wsX6_statement RX6 83 6 15 .int false := zL6 iX6_statement_6 (by decide) (List.mem_of_getElem? (i := 6) rfl) rfl rfl
theorem kX6_statement_86 : zL wsX6_statement RX6 86 6 14 .int false := zL6 iX6_statement_6 (by decide) (List.mem_of_getElem? (i := 4) rfl) rfl rfl
theorem kX6_statement_102 : zL wsX6_statement RX6 102 6 12 .int false := zL6 iX6_statement_6 (by decide) (List.mem_of_getElem? (i := 2) rfl) rfl rfl
theorem kX6_statement_116 : zL wsX6_statement RX6 116 6 13 .int false := zL6 iX6_statement_6 (by decide) (List.mem_of_getElem? (i := 3) rfl) rfl rfl
theorem kX6_statement_130 : zL wsX6_statement RX6 130 6 18 .int false := zL6 iX6_statement_6 (by decide) (List.mem_of_getElem? (i := 5) rfl) rfl rfl
set_option maxHeartbeats 4000000 in
set_option maxRecDepth 100000 in
theorem xX6_statement_108 {C : zC} {D : va_G} {cyI cyB : ClassId} {aO : Nat → Nat} (x1 : Int32) (s0 : Int32) (oI : Nat → Int32) (oR : Nat → Nat → Int32) (F : zF C D { frames := 3, cells := 0, slots := 0, locals := 65 } cX6_statement 4 wsX6_statement RX6 (some .boolean) cyI cyB) {post : Bool → (Nat → Int32) → (Nat → Nat → Int32) → Prop} (hRt : zRz C D cX6_statement 4 (S := ((Nat → Int32) × (Nat → Nat → Int32))) (fun u => (wMo aO cyI u.1 u.2)) (fun r u => ∃ b : Bool, r = zb b ∧ post b u.1 u.2)) (hw : bX6_statement_108 x1 s0 oI oR post ) : zX C D 4 0 0 (wMo aO cyI oI oR) 108 [(0, .ref (aO 0)), (1, .int x1)] [.int s0] := by
  refine z_istore_n (lv' := [(2, .int s0), (0, .ref (aO 0)), (1, .int x1)]) F dX6_statement_108 109 rfl (by decide) rfl ?_
  refine z_iload_n F dX6_statement_109 110 rfl 0 rfl ?_
  obtain ⟨hwt, hwf⟩ := hw
  refine z_ifne F dX6_statement_110 115 rfl 113 rfl (fun c6 => ?_) (fun c6 => ?_)
  · have hw := hwt c6; clear hwt hwf
    refine z_aload_n F dX6_statement_115 116 rfl 1 rfl ?_
    refine z_dup F dX6_statement_116 117 rfl rfl ?_
    refine z_get F dX6_statement_117 120 rfl kX6_statement_130 0 rfl rfl ?_
    refine z_iconst F dX6_statement_120 121 rfl zki_1 ?_
    refine z_iadd F dX6_statement_121 122 rfl ?_
    refine z_topi (fun v1 ev1 => ?_)
    replace hw := hw v1 ev1
    refine z_put F dX6_statement_122 125 rfl kX6_statement_130 0 rfl rfl rfl (Nat.le_of_ble_eq_true rfl) (wMo aO cyI (va_up oI 18 v1) oR) rfl ?_
    refine z_iload_n F dX6_statement_125 126 rfl 2 rfl ?_
    refine z_bipush F dX6_statement_126 128 rfl zkb_115 ?_
    obtain ⟨hwt, hwf⟩ := hw
    refine z_icmpeq F dX6_statement_128 137 rfl 131 rfl (fun c7 => ?_) (fun c7 => ?_)
    · have hw := hwt c7; clear hwt hwf
      refine z_aload_n F dX6_statement_137 138 rfl 1 rfl ?_
      refine z_iload_n F dX6_statement_138 139 rfl 2 rfl ?_
      refine z_bipush F dX6_statement_139 141 rfl zkb_115 ?_
      obtain ⟨hwt, hwf⟩ := hw
      refine z_icmpne F dX6_statement_141 148 rfl 144 rfl (fun c8 => ?_) (fun c8 => ?_)
      · have hw := hwt c8; clear hwt hwf
        refine z_iconst F dX6_statement_148 149 rfl zki_0 ?_
        refine z_segVi (As := [.int 0]) (st := []) F dX6_statement_149 152 rfl (mX6_readsTwo C.1.2.1 D cyI cyB aO false (va_up oI 18 v1) oR hw) y_X6_readsTwo rfl gX6_statement_X6_readsTwo rfl (ci := 6) (rq := 0) rfl rfl ⟨Nat.le_of_ble_eq_true rfl, Nat.le_of_ble_eq_true rfl⟩ ⟨Nat.zero_le _, Nat.zero_le _⟩ (Nat.le_of_ble_eq_true rfl) [] [] (by simp only [List.append_assoc, List.nil_append, List.append_nil]) (fun _ => rfl) (fun u => (wMo aO cyI u.1 u.2)) (fun u => (by simp only [List.append_assoc, List.nil_append, List.append_nil])) (fun r0 u hp => ?_)
        obtain ⟨oI_1, oR_1⟩ := u
        obtain ⟨b1, rfl, hw⟩ := hp
        exact hRt 152 _ b1 (oI_1, oR_1) dX6_statement_152 ⟨b1, rfl, hw⟩
      · have hw := hwf c8; clear hwt hwf
        refine z_iconst F dX6_statement_144 145 rfl zki_1 ?_
        refine z_goto F dX6_statement_145 149 rfl ?_
        refine z_segVi (As := [.int 1]) (st := []) F dX6_statement_149 152 rfl (mX6_readsTwo C.1.2.1 D cyI cyB aO true (va_up oI 18 v1) oR hw) y_X6_readsTwo rfl gX6_statement_X6_readsTwo rfl (ci := 6) (rq := 0) rfl rfl ⟨Nat.le_of_ble_eq_true rfl, Nat.le_of_ble_eq_true rfl⟩ ⟨Nat.zero_le _, Nat.zero_le _⟩ (Nat.le_of_ble_eq_true rfl) [] [] (by simp only [List.append_assoc, List.nil_append, List.append_nil]) (fun _ => rfl) (fun u => (wMo aO cyI u.1 u.2)) (fun u => (by simp only [List.append_assoc, List.nil_append, List.append_nil])) (fun r0 u hp => ?_)
        obtain ⟨oI_2, oR_2⟩ := u
        obtain ⟨b2, rfl, hw⟩ := hp
        exact hRt 152 _ b2 (oI_2, oR_2) dX6_statement_152 ⟨b2, rfl, hw⟩
    · have hw := hwf c7; clear hwt hwf
      refine z_iload_n F dX6_statement_131 132 rfl 2 rfl ?_
      refine z_bipush F dX6_statement_132 134 rfl zkb_116 ?_
      obtain ⟨hwt, hwf⟩ := hw
      refine z_icmpne F dX6_statement_134 153 rfl 137 rfl (fun c9 => ?_) (fun c9 => ?_)
      · have hw := hwt c9; clear hwt hwf
        refine z_iload_n F dX6_statement_153 154 rfl 2 rfl ?_
        refine z_bipush F dX6_statement_154 156 rfl zkb_103 ?_
        obtain ⟨hwt, hwf⟩ := hw
        refine z_icmpne F dX6_statement_156 164 rfl 159 rfl (fun c10 => ?_) (fun c10 => ?_)
        · have hw := hwt c10; clear hwt hwf
          refine z_aload_n F dX6_statement_164 165 rfl 1 rfl ?_
          refine z_segVi (As := []) (st := []) F dX6_statement_165 168 rfl (mX6_letters C.1.2.1 D cyI cyB aO (va_up oI 18 v1) oR hw) y_X6_letters rfl gX6_statement_X6_letters rfl (ci := 6) (rq := 0) rfl rfl ⟨Nat.le_of_ble_eq_true rfl, Nat.le_of_ble_eq_true rfl⟩ ⟨Nat.zero_le _, Nat.zero_le _⟩ (Nat.le_of_ble_eq_true rfl) [] [] (by simp only [List.append_assoc, List.nil_append, List.append_nil]) (fun _ => rfl) (fun u => (wMo aO cyI u.1 u.2)) (fun u => (by simp only [List.append_assoc, List.nil_append, List.append_nil])) (fun r2 u hp => ?_)
          obtain ⟨oI_3, oR_3⟩ := u
          replace hw := hp
          clear hp
          refine z_istore_n (lv' := [(3, .int r2), (2, .int s0), (0, .ref (aO 0)), (1, .int x1)]) F dX6_statement_168 169 rfl (by decide) rfl ?_
          refine z_aload_n F dX6_statement_169 170 rfl 2 rfl ?_
          refine z_bipush F dX6_statement_170 172 rfl zkb_59 ?_
          refine z_segVi (As := [.int 59]) (st := []) F dX6_statement_172 175 rfl (mX6_takes C.1.2.1 D cyI cyB aO 59 oI_3 oR_3 hw) y_X6_takes rfl gX6_statement_X6_takes rfl (ci := 6) (rq := 0) rfl rfl ⟨Nat.le_of_ble_eq_true rfl, Nat.le_of_ble_eq_true rfl⟩ ⟨Nat.zero_le _, Nat.zero_le _⟩ (Nat.le_of_ble_eq_true rfl) [] [] (by simp only [List.append_assoc, List.nil_append, List.append_nil]) (fun _ => rfl) (fun u => (wMo aO cyI u.1 u.2)) (fun u => (by simp only [List.append_assoc, List.nil_append, List.append_nil])) (fun r0 u hp => ?_)
          obtain ⟨oI_4, oR_4⟩ := u
          obtain ⟨b3, rfl, hw⟩ := hp
          obtain ⟨hwt, hwf⟩ := hw
          refine z_ifneB F dX6_statement_175 180 rfl 178 rfl (fun c11 => ?_) (fun c11 => ?_)
          · have hw := hwt c11; clear hwt hwf
            refine z_iload_n F dX6_statement_180 181 rfl 3 rfl ?_
            refine z_bipush F dX6_statement_181 183 rfl zkb_104 ?_
            obtain ⟨hwt, hwf⟩ := hw
            refine z_icmpne F dX6_statement_183 195 rfl 186 rfl (fun c12 => ?_) (fun c12 => ?_)
            · have hw := hwt c12; clear hwt hwf
              refine z_aload_n F dX6_statement_195 196 rfl 2 rfl ?_
              refine z_iload_n F dX6_statement_196 197 rfl 0 rfl ?_
              refine z_put F dX6_statement_197 200 rfl kX6_statement_83 0 rfl rfl rfl (Nat.le_of_ble_eq_true rfl) (wMo aO cyI (va_up oI_4 15 r2) oR_4) rfl ?_
              refine z_iconst F dX6_statement_200 201 rfl zki_1 ?_
              exact hRt 201 _ true ((va_up oI_4 15 r2), oR_4) dX6_statement_201 ⟨true, rfl, hw⟩
            · have hw := hwf c12; clear hwt hwf
              refine z_aload_n F dX6_statement_186 187 rfl 2 rfl ?_
              refine z_iload_n F dX6_statement_187 188 rfl 0 rfl ?_
              refine z_segVi (As := [.int r2]) (st := []) F dX6_statement_188 191 rfl (mX6_comesHand C.1.2.1 D cyI cyB aO r2 oI_4 oR_4 hw) y_X6_comesHand rfl gX6_statement_X6_comesHand rfl (ci := 6) (rq := 0) rfl rfl ⟨Nat.le_of_ble_eq_true rfl, Nat.le_of_ble_eq_true rfl⟩ ⟨Nat.zero_le _, Nat.zero_le _⟩ (Nat.le_of_ble_eq_true rfl) [] [] (by simp only [List.append_assoc, List.nil_append, List.append_nil]) (fun _ => rfl) (fun u => (wMo aO cyI u.1 u.2)) (fun u => (by simp only [List.append_assoc, List.nil_append, List.append_nil])) (fun r3 u hp => ?_)
              obtain ⟨oI_5, oR_5⟩ := u
              replace hw := hp
              clear hp
              refine z_pop F dX6_statement_191 192 rfl rfl ?_
              refine z_goto F dX6_statement_192 200 rfl ?_
              refine z_iconst F dX6_statement_200 201 rfl zki_1 ?_
              exact hRt 201 _ true (oI_5, oR_5) dX6_statement_201 ⟨true, rfl, hw⟩
          · have hw := hwf c11; clear hwt hwf
            refine z_iconst F dX6_statement_178 179 rfl zki_0 ?_
            exact hRt 179 _ false (oI_4, oR_4) dX6_statement_179 ⟨false, rfl, hw⟩
        · have hw := hwf c10; clear hwt hwf
          refine z_aload_n F dX6_statement_159 160 rfl 1 rfl ?_
          refine z_segVi (As := []) (st := []) F dX6_statement_160 163 rfl (mX6_readsGuess C.1.2.1 D cyI cyB aO (va_up oI 18 v1) oR hw) y_X6_readsGuess rfl gX6_statement_X6_readsGuess rfl (ci := 6) (rq := 0) rfl rfl ⟨Nat.le_of_ble_eq_true rfl, Nat.le_of_ble_eq_true rfl⟩ ⟨Nat.zero_le _, Nat.zero_le _⟩ (Nat.le_of_ble_eq_true rfl) [] [] (by simp only [List.append_assoc, List.nil_append, List.append_nil]) (fun _ => rfl) (fun u => (wMo aO cyI u.1 u.2)) (fun u => (by simp only [List.append_assoc, List.nil_append, List.append_nil])) (fun r0 u hp => ?_)
          obtain ⟨oI_6, oR_6⟩ := u
          obtain ⟨b4, rfl, hw⟩ := hp
          exact hRt 163 _ b4 (oI_6, oR_6) dX6_statement_163 ⟨b4, rfl, hw⟩
      · have hw := hwf c9; clear hwt hwf
        refine z_aload_n F dX6_statement_137 138 rfl 1 rfl ?_
        refine z_iload_n F dX6_statement_138 139 rfl 2 rfl ?_
        refine z_bipush F dX6_statement_139 141 rfl zkb_115 ?_
        obtain ⟨hwt, hwf⟩ := hw
        refine z_icmpne F dX6_statement_141 148 rfl 144 rfl (fun c13 => ?_) (fun c13 => ?_)
        · have hw := hwt c13; clear hwt hwf
          refine z_iconst F dX6_statement_148 149 rfl zki_0 ?_
          refine z_segVi (As := [.int 0]) (st := []) F dX6_statement_149 152 rfl (mX6_readsTwo C.1.2.1 D cyI cyB aO false (va_up oI 18 v1) oR hw) y_X6_readsTwo rfl gX6_statement_X6_readsTwo rfl (ci := 6) (rq := 0) rfl rfl ⟨Nat.le_of_ble_eq_true rfl, Nat.le_of_ble_eq_true rfl⟩ ⟨Nat.zero_le _, Nat.zero_le _⟩ (Nat.le_of_ble_eq_true rfl) [] [] (by simp only [List.append_assoc, List.nil_append, List.append_nil]) (fun _ => rfl) (fun u => (wMo aO cyI u.1 u.2)) (fun u => (by simp only [List.append_assoc, List.nil_append, List.append_nil])) (fun r0 u hp => ?_)
          obtain ⟨oI_7, oR_7⟩ := u
          obtain ⟨b5, rfl, hw⟩ := hp
          exact hRt 152 _ b5 (oI_7, oR_7) dX6_statement_152 ⟨b5, rfl, hw⟩
        · have hw := hwf c13; clear hwt hwf
          refine z_iconst F dX6_statement_144 145 rfl zki_1 ?_
          refine z_goto F dX6_statement_145 149 rfl ?_
          refine z_segVi (As := [.int 1]) (st := []) F dX6_statement_149 152 rfl (mX6_readsTwo C.1.2.1 D cyI cyB aO true (va_up oI 18 v1) oR hw) y_X6_readsTwo rfl gX6_statement_X6_readsTwo rfl (ci := 6) (rq := 0) rfl rfl ⟨Nat.le_of_ble_eq_true rfl, Nat.le_of_ble_eq_true rfl⟩ ⟨Nat.zero_le _, Nat.zero_le _⟩ (Nat.le_of_ble_eq_true rfl) [] [] (by simp only [List.append_assoc, List.nil_append, List.append_nil]) (fun _ => rfl) (fun u => (wMo aO cyI u.1 u.2)) (fun u => (by simp only [List.append_assoc, List.nil_append, List.append_nil])) (fun r0 u hp => ?_)
          obtain ⟨oI_8, oR_8⟩ := u
          obtain ⟨b6, rfl, hw⟩ := hp
          exact hRt 152 _ b6 (oI_8, oR_8) dX6_statement_152 ⟨b6, rfl, hw⟩
  · have hw := hwf c6; clear hwt hwf
    refine z_iconst F dX6_statement_113 114 rfl zki_0 ?_
    exact hRt 114 _ false (oI, oR) dX6_statement_114 ⟨false, rfl, hw⟩
set_option maxHeartbeats 4000000 in
set_option maxRecDepth 100000 in
theorem xX6_statement_0 {C : zC} {D : va_G} {cyI cyB : ClassId} {aO : Nat → Nat} (oI : Nat → Int32) (oR : Nat → Nat → Int32) (F : zF C D { frames := 3, cells := 0, slots := 0, locals := 65 } cX6_statement 4 wsX6_statement RX6 (some .boolean) cyI cyB) {post : Bool → (Nat → Int32) → (Nat → Nat → Int32) → Prop} (hRt : zRz C D cX6_statement 4 (S := ((Nat → Int32) × (Nat → Nat → Int32))) (fun u => (wMo aO cyI u.1 u.2)) (fun r u => ∃ b : Bool, r = zb b ∧ post b u.1 u.2)) (hw : pX6_statement oI oR post) : zX C D 4 0 0 (wMo aO cyI oI oR) 0 [(0, .ref (aO 0))] [] := by
  refine z_aload_n F dX6_statement_0 1 rfl 0 rfl ?_
  refine z_segVi (As := []) (st := []) F dX6_statement_1 4 rfl (mX6_sign C.1.2.1 D cyI cyB aO oI oR hw) y_X6_sign rfl gX6_statement_X6_sign rfl (ci := 6) (rq := 0) rfl rfl ⟨Nat.le_of_ble_eq_true rfl, Nat.le_of_ble_eq_true rfl⟩ ⟨Nat.zero_le _, Nat.zero_le _⟩ (Nat.le_of_ble_eq_true rfl) [] [] (by simp only [List.append_assoc, List.nil_append, List.append_nil]) (fun _ => rfl) (fun u => (wMo aO cyI oI oR)) (fun u => (by simp only [List.append_assoc, List.nil_append, List.append_nil])) (fun r1 u hp => ?_)
  replace hw := hp
  clear hp
  refine z_istore_n (lv' := [(1, .int r1), (0, .ref (aO 0))]) F dX6_statement_4 5 rfl (by decide) rfl ?_
  refine z_iload_n F dX6_statement_5 6 rfl 0 rfl ?_
  refine z_bipush F dX6_statement_6 8 rfl zkb_104 ?_
  obtain ⟨hwt, hwf⟩ := hw
  refine z_icmpne F dX6_statement_8 28 rfl 11 rfl (fun c1 => ?_) (fun c1 => ?_)
  · have hw := hwt c1; clear hwt hwf
    refine z_iload_n F dX6_statement_28 29 rfl 0 rfl ?_
    refine z_bipush F dX6_statement_29 31 rfl zkb_115 ?_
    obtain ⟨hwt, hwf⟩ := hw
    refine z_icmpne F dX6_statement_31 51 rfl 34 rfl (fun c2 => ?_) (fun c2 => ?_)
    · have hw := hwt c2; clear hwt hwf
      refine z_iload_n F dX6_statement_51 52 rfl 0 rfl ?_
      refine z_bipush F dX6_statement_52 54 rfl zkb_116 ?_
      obtain ⟨hwt, hwf⟩ := hw
      refine z_icmpne F dX6_statement_54 74 rfl 57 rfl (fun c3 => ?_) (fun c3 => ?_)
      · have hw := hwt c3; clear hwt hwf
        refine z_iload_n F dX6_statement_74 75 rfl 0 rfl ?_
        refine z_bipush F dX6_statement_75 77 rfl zkb_103 ?_
        obtain ⟨hwt, hwf⟩ := hw
        refine z_icmpne F dX6_statement_77 97 rfl 80 rfl (fun c4 => ?_) (fun c4 => ?_)
        · have hw := hwt c4; clear hwt hwf
          refine z_iload_n F dX6_statement_97 98 rfl 0 rfl ?_
          refine z_bipush F dX6_statement_98 100 rfl zkb_112 ?_
          obtain ⟨hwt, hwf⟩ := hw
          refine z_icmpne F dX6_statement_100 107 rfl 103 rfl (fun c5 => ?_) (fun c5 => ?_)
          · have hw := hwt c5; clear hwt hwf
            refine z_iconst F dX6_statement_107 108 rfl zki_0 ?_
            refine z_lv (lv' := [(0, .ref (aO 0)), (1, .int r1)]) [1, 0] rfl ?_
            exact xX6_statement_108 r1 0 oI oR F hRt hw
          · have hw := hwf c5; clear hwt hwf
            refine z_iconst F dX6_statement_103 104 rfl zki_1 ?_
            refine z_goto F dX6_statement_104 108 rfl ?_
            refine z_lv (lv' := [(0, .ref (aO 0)), (1, .int r1)]) [1, 0] rfl ?_
            exact xX6_statement_108 r1 1 oI oR F hRt hw
        · have hw := hwf c4; clear hwt hwf
          refine z_aload_n F dX6_statement_80 81 rfl 1 rfl ?_
          refine z_get F dX6_statement_81 84 rfl kX6_statement_86 0 rfl rfl ?_
          refine z_bipush F dX6_statement_84 86 rfl zkb_12 ?_
          obtain ⟨hwt, hwf⟩ := hw
          refine z_icmpge F dX6_statement_86 93 rfl 89 rfl (fun c6 => ?_) (fun c6 => ?_)
          · have hw := hwt c6; clear hwt hwf
            refine z_iconst F dX6_statement_93 94 rfl zki_0 ?_
            refine z_goto F dX6_statement_94 108 rfl ?_
            refine z_lv (lv' := [(0, .ref (aO 0)), (1, .int r1)]) [1, 0] rfl ?_
            exact xX6_statement_108 r1 0 oI oR F hRt hw
          · have hw := hwf c6; clear hwt hwf
            refine z_iconst F dX6_statement_89 90 rfl zki_1 ?_
            refine z_goto F dX6_statement_90 108 rfl ?_
            refine z_lv (lv' := [(0, .ref (aO 0)), (1, .int r1)]) [1, 0] rfl ?_
            exact xX6_statement_108 r1 1 oI oR F hRt hw
      · have hw := hwf c3; clear hwt hwf
        refine z_aload_n F dX6_statement_57 58 rfl 1 rfl ?_
        refine z_get F dX6_statement_58 61 rfl kX6_statement_116 0 rfl rfl ?_
        refine z_bipush F dX6_statement_61 63 rfl zkb_12 ?_
        obtain ⟨hwt, hwf⟩ := hw
        refine z_icmpge F dX6_statement_63 70 rfl 66 rfl (fun c7 => ?_) (fun c7 => ?_)
        · have hw := hwt c7; clear hwt hwf
          refine z_iconst F dX6_statement_70 71 rfl zki_0 ?_
          refine z_goto F dX6_statement_71 108 rfl ?_
          refine z_lv (lv' := [(0, .ref (aO 0)), (1, .int r1)]) [1, 0] rfl ?_
          exact xX6_statement_108 r1 0 oI oR F hRt hw
        · have hw := hwf c7; clear hwt hwf
          refine z_iconst F dX6_statement_66 67 rfl zki_1 ?_
          refine z_goto F dX6_statement_67 108 rfl ?_
          refine z_lv (lv' := [(0, .ref (aO 0)), (1, .int r1)]) [1, 0] rfl ?_
          exact xX6_statement_108 r1 1 oI oR F hRt hw
    · have hw := hwf c2; clear hwt hwf
      refine z_aload_n F dX6_statement_34 35 rfl 1 rfl ?_
      refine z_get F dX6_statement_35 38 rfl kX6_statement_102 0 rfl rfl ?_
      refine z_bipush F dX6_statement_38 40 rfl zkb_12 ?_
      obtain ⟨hwt, hwf⟩ := hw
      refine z_icmpge F dX6_statement_40 47 rfl 43 rfl (fun c8 => ?_) (fun c8 => ?_)
      · have hw := hwt c8; clear hwt hwf
        refine z_iconst F dX6_statement_47 48 rfl zki_0 ?_
        refine z_goto F dX6_statement_48 108 rfl ?_
        refine z_lv (lv' := [(0, .ref (aO 0)), (1, .int r1)]) [1, 0] rfl ?_
        exact xX6_statement_108 r1 0 oI oR F hRt hw
      · have hw := hwf c8; clear hwt hwf
        refine z_iconst F dX6_statement_43 44 rfl zki_1 ?_
        refine z_goto F dX6_statement_44 108 rfl ?_
        refine z_lv (lv' := [(0, .ref (aO 0)), (1, .int r1)]) [1, 0] rfl ?_
        exact xX6_statement_108 r1 1 oI oR F hRt hw
  · have hw := hwf c1; clear hwt hwf
    refine z_aload_n F dX6_statement_11 12 rfl 1 rfl ?_
    refine z_get F dX6_statement_12 15 rfl kX6_statement_72 0 rfl rfl ?_
    refine z_bipush F dX6_statement_15 17 rfl zkb_8 ?_
    obtain ⟨hwt, hwf⟩ := hw
    refine z_icmpge F dX6_statement_17 24 rfl 20 rfl (fun c9 => ?_) (fun c9 => ?_)
    · have hw := hwt c9; clear hwt hwf
      refine z_iconst F dX6_statement_24 25 rfl zki_0 ?_
      refine z_goto F dX6_statement_25 108 rfl ?_
      refine z_lv (lv' := [(0, .ref (aO 0)), (1, .int r1)]) [1, 0] rfl ?_
      exact xX6_statement_108 r1 0 oI oR F hRt hw
    · have hw := hwf c9; clear hwt hwf
      refine z_iconst F dX6_statement_20 21 rfl zki_1 ?_
      refine z_goto F dX6_statement_21 108 rfl ?_
      refine z_lv (lv' := [(0, .ref (aO 0)), (1, .int r1)]) [1, 0] rfl ?_
      exact xX6_statement_108 r1 1 oI oR F hRt hw
set_option maxHeartbeats 4000000 in
set_option maxRecDepth 100000 in
theorem mX6_statement (l : Launch) (D : va_G) (cyI cyB : ClassId) (aO : Nat → Nat) (oI : Nat → Int32) (oR : Nat → Nat → Int32) {post : Bool → (Nat → Int32) → (Nat → Nat → Int32) → Prop} (hw : pX6_statement oI oR post) : zMi l yX6_statement wsX6_statement 3 65 D cyI cyB [.ref (aO 0)] (wMo aO cyI oI oR) (S := ((Nat → Int32) × (Nat → Nat → Int32))) (fun u => (wMo aO cyI u.1 u.2)) (fun r u => ∃ b : Bool, r = zb b ∧ post b u.1 u.2) :=
  z_metz (cc := cX6_statement) (nL := 4) (by decide +kernel) rfl (Nat.le_of_ble_eq_true rfl) (fun C hl F hRt => xX6_statement_0 oI oR F hRt hw)
theorem y_X6_statement : zY yX6_statement wsX6_statement cX6_statement 4 (some .boolean) 0 := ⟨⟨_, rfl⟩, by decide +kernel⟩
