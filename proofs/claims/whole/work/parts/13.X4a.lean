theorem iX4_take_4 : ∀ w ∈ wsX40, w ∈ wsX4_take := fun w h => List.mem_cons_of_mem _ (List.mem_append_right _ h)
theorem kX4_take_9 : zL wsX4_take RX4 9 4 0 (.array .byte) true := zL4 iX4_take_4 (by decide) (List.mem_of_getElem? (i := 2) rfl) rfl rfl
theorem kX4_take_15 : zL wsX4_take RX4 15 4 1 .int false := zL4 iX4_take_4 (by decide) (List.mem_of_getElem? (i := 1) rfl) rfl rfl
set_option maxHeartbeats 4000000 in
set_option maxRecDepth 100000 in
theorem xX4_take_3 {C : zC} {D : va_G} {cyI cyB : ClassId} {aT : Nat → Nat} (x1 : Int32) (y2 : Int64) (F : zF C D { frames := 0, cells := 0, slots := 0, locals := 0 } cX4_take 5 wsX4_take RX4 none cyI cyB) {post : (Nat → Int32) → (Nat → Nat → Int32) → Prop} (hRt : zRv C D cX4_take 5 (S := ((Nat → Int32) × (Nat → Nat → Int32))) (fun u => (wTe aT cyB u.1 u.2)) (fun u => post u.1 u.2)) : ∀ (n : Nat) (x4 : Int32) (tI : Nat → Int32) (tR : Nat → Nat → Int32), bX4_take_3 x1 y2 post  n x4 tI tR → zX C D 5 0 0 (wTe aT cyB tI tR) 3 [(0, .ref (aT 0)), (1, .int x1), (2, .long y2), (4, .int x4)] [] := by
  intro n
  induction n with
  | zero => intro _ _ _ hw; exact hw.elim
  | succ n ih =>
    intro x4 tI tR hw
    refine z_iload F dX4_take_3 5 rfl 3 rfl ?_
    refine z_iload_n F dX4_take_5 6 rfl 1 rfl ?_
    obtain ⟨hwt, hwf⟩ := hw
    refine z_icmpge F dX4_take_6 52 rfl 9 rfl (fun c1 => ?_) (fun c1 => ?_)
    · have hw := hwt c1; clear hwt hwf
      exact hRt 52 _ (tI, tR) dX4_take_52 hw
    · have hw := hwf c1; clear hwt hwf
      refine z_aload_n F dX4_take_9 10 rfl 0 rfl ?_
      refine z_get F dX4_take_10 13 rfl kX4_take_15 0 rfl rfl ?_
      refine z_bipush F dX4_take_13 15 rfl zkb_80 ?_
      obtain ⟨hwt, hwf⟩ := hw
      refine z_icmpge F dX4_take_15 52 rfl 18 rfl (fun c2 => ?_) (fun c2 => ?_)
      · have hw := hwt c2; clear hwt hwf
        exact hRt 52 _ (tI, tR) dX4_take_52 hw
      · have hw := hwf c2; clear hwt hwf
        refine z_aload_n F dX4_take_18 19 rfl 0 rfl ?_
        refine z_get F dX4_take_19 22 rfl kX4_take_9 0 rfl rfl ?_
        refine z_aload_n F dX4_take_22 23 rfl 0 rfl ?_
        refine z_get F dX4_take_23 26 rfl kX4_take_15 0 rfl rfl ?_
        refine z_lload_n F dX4_take_26 27 rfl 2 rfl ?_
        refine z_bipush F dX4_take_27 29 rfl zkb_8 ?_
        refine z_iload F dX4_take_29 31 rfl 3 rfl ?_
        refine z_imul F dX4_take_31 32 rfl ?_
        refine z_lushr F dX4_take_32 33 rfl ?_
        refine z_l2i F dX4_take_33 34 rfl ?_
        refine z_i2b F dX4_take_34 35 rfl ?_
        refine z_topi (fun v1 ev1 => ?_)
        replace hw := hw v1 ev1
        obtain ⟨j1, ej1, hj1, hw⟩ := hw
        refine z_bast F dX4_take_35 36 rfl 1 rfl (by decide) j1 ej1 hj1 (wTe aT cyB tI (va_up tR 0 (upd (tR 0) j1 (vp_nar .byte v1)))) rfl ?_
        refine z_aload_n F dX4_take_36 37 rfl 0 rfl ?_
        refine z_dup F dX4_take_37 38 rfl rfl ?_
        refine z_get F dX4_take_38 41 rfl kX4_take_15 0 rfl rfl ?_
        refine z_iconst F dX4_take_41 42 rfl zki_1 ?_
        refine z_iadd F dX4_take_42 43 rfl ?_
        refine z_topi (fun v2 ev2 => ?_)
        replace hw := hw v2 ev2
        refine z_put F dX4_take_43 46 rfl kX4_take_15 0 rfl rfl rfl (Nat.le_of_ble_eq_true rfl) (wTe aT cyB (va_up tI 0 v2) (va_up tR 0 (upd (tR 0) j1 (vp_nar .byte v1)))) rfl ?_
        refine z_iinc F dX4_take_46 49 rfl 3 rfl (by decide) zki_1 (fun v3 => [(4, .int v3), (0, .ref (aT 0)), (1, .int x1), (2, .long y2)]) (fun _ => rfl) (fun v3 ev3 => ?_)
        replace hw := hw v3 ev3
        refine z_goto F dX4_take_49 3 rfl ?_
        refine z_lv (lv' := [(0, .ref (aT 0)), (1, .int x1), (2, .long y2), (4, .int v3)]) [1, 2, 3, 0] rfl ?_
        exact ih v3 (va_up tI 0 v2) (va_up tR 0 (upd (tR 0) j1 (vp_nar .byte v1))) hw
set_option maxHeartbeats 4000000 in
set_option maxRecDepth 100000 in
theorem xX4_take_0 {C : zC} {D : va_G} {cyI cyB : ClassId} {aT : Nat → Nat} (x1 : Int32) (y2 : Int64) (tI : Nat → Int32) (tR : Nat → Nat → Int32) (F : zF C D { frames := 0, cells := 0, slots := 0, locals := 0 } cX4_take 5 wsX4_take RX4 none cyI cyB) {post : (Nat → Int32) → (Nat → Nat → Int32) → Prop} (hRt : zRv C D cX4_take 5 (S := ((Nat → Int32) × (Nat → Nat → Int32))) (fun u => (wTe aT cyB u.1 u.2)) (fun u => post u.1 u.2)) (hw : pX4_take x1 y2 tI tR post) : zX C D 5 0 0 (wTe aT cyB tI tR) 0 [(0, .ref (aT 0)), (1, .int x1), (2, .long y2)] [] := by
  refine z_iconst F dX4_take_0 1 rfl zki_0 ?_
  refine z_istore (lv' := [(4, .int 0), (0, .ref (aT 0)), (1, .int x1), (2, .long y2)]) F dX4_take_1 3 rfl (by decide) rfl ?_
  obtain ⟨n1, hw⟩ := hw
  refine z_lv (lv' := [(0, .ref (aT 0)), (1, .int x1), (2, .long y2), (4, .int 0)]) [1, 2, 3, 0] rfl ?_
  refine xX4_take_3 x1 y2 F hRt n1 0 tI tR hw
set_option maxHeartbeats 4000000 in
set_option maxRecDepth 100000 in
theorem mX4_take (l : Launch) (D : va_G) (cyI cyB : ClassId) (aT : Nat → Nat) (x1 : Int32) (y2 : Int64) (tI : Nat → Int32) (tR : Nat → Nat → Int32) {post : (Nat → Int32) → (Nat → Nat → Int32) → Prop} (hw : pX4_take x1 y2 tI tR post) : zMv l yX4_take wsX4_take 0 0 D cyI cyB [.ref (aT 0), .int x1, .long y2] (wTe aT cyB tI tR) (S := ((Nat → Int32) × (Nat → Nat → Int32))) (fun u => (wTe aT cyB u.1 u.2)) (fun u => post u.1 u.2) :=
  z_metv (cc := cX4_take) (nL := 5) (by decide +kernel) rfl (Nat.le_of_ble_eq_true rfl) (fun C hl F hRt => xX4_take_0 x1 y2 tI tR F hRt hw)
theorem y_X4_take : zY yX4_take wsX4_take cX4_take 5 none 2 := ⟨⟨_, rfl⟩, by decide +kernel⟩
theorem iX4_readSign_4 : ∀ w ∈ wsX40, w ∈ wsX4_readSign := fun w h => List.mem_cons_of_mem _ (List.mem_append_right _ h)
theorem kX4_readSign_9 : zL wsX4_readSign RX4 9 4 0 (.array .byte) true := zL4 iX4_readSign_4 (by decide) (List.mem_of_getElem? (i := 3) rfl) rfl rfl
theorem kX4_readSign_15 : zL wsX4_readSign RX4 15 4 1 .int false := zL4 iX4_readSign_4 (by decide) (List.mem_of_getElem? (i := 2) rfl) rfl rfl
theorem kX4_readSign_19 : zL wsX4_readSign RX4 19 4 2 .int false := zL4 iX4_readSign_4 (by decide) (List.mem_of_getElem? (i := 1) rfl) rfl rfl
set_option maxHeartbeats 4000000 in
set_option maxRecDepth 100000 in
theorem xX4_readSign_0 {C : zC} {D : va_G} {cyI cyB : ClassId} {aT : Nat → Nat} (x1 : Int32) (tI : Nat → Int32) (tR : Nat → Nat → Int32) (F : zF C D { frames := 0, cells := 0, slots := 0, locals := 0 } cX4_readSign 2 wsX4_readSign RX4 (some .boolean) cyI cyB) {post : Bool → (Nat → Int32) → (Nat → Nat → Int32) → Prop} (hRt : zRz C D cX4_readSign 2 (S := ((Nat → Int32) × (Nat → Nat → Int32))) (fun u => (wTe aT cyB u.1 u.2)) (fun r u => ∃ b : Bool, r = zb b ∧ post b u.1 u.2)) (hw : pX4_readSign x1 tI tR post) : zX C D 2 0 0 (wTe aT cyB tI tR) 0 [(0, .ref (aT 0)), (1, .int x1)] [] := by
  refine z_aload_n F dX4_readSign_0 1 rfl 0 rfl ?_
  refine z_get F dX4_readSign_1 4 rfl kX4_readSign_19 0 rfl rfl ?_
  refine z_aload_n F dX4_readSign_4 5 rfl 0 rfl ?_
  refine z_get F dX4_readSign_5 8 rfl kX4_readSign_15 0 rfl rfl ?_
  obtain ⟨hwt, hwf⟩ := hw
  refine z_icmpge F dX4_readSign_8 36 rfl 11 rfl (fun c1 => ?_) (fun c1 => ?_)
  · have hw := hwt c1; clear hwt hwf
    refine z_iconst F dX4_readSign_36 37 rfl zki_0 ?_
    exact hRt 37 _ false (tI, tR) dX4_readSign_37 ⟨false, rfl, hw⟩
  · have hw := hwf c1; clear hwt hwf
    refine z_aload_n F dX4_readSign_11 12 rfl 0 rfl ?_
    refine z_get F dX4_readSign_12 15 rfl kX4_readSign_9 0 rfl rfl ?_
    refine z_aload_n F dX4_readSign_15 16 rfl 0 rfl ?_
    refine z_get F dX4_readSign_16 19 rfl kX4_readSign_19 0 rfl rfl ?_
    obtain ⟨j1, ej1, hj1, hw⟩ := hw
    refine z_bald F dX4_readSign_19 20 rfl 1 rfl (by decide) j1 ej1 hj1 ?_
    refine z_iload_n F dX4_readSign_20 21 rfl 1 rfl ?_
    obtain ⟨hwt, hwf⟩ := hw
    refine z_icmpne F dX4_readSign_21 36 rfl 24 rfl (fun c2 => ?_) (fun c2 => ?_)
    · have hw := hwt c2; clear hwt hwf
      refine z_iconst F dX4_readSign_36 37 rfl zki_0 ?_
      exact hRt 37 _ false (tI, tR) dX4_readSign_37 ⟨false, rfl, hw⟩
    · have hw := hwf c2; clear hwt hwf
      refine z_aload_n F dX4_readSign_24 25 rfl 0 rfl ?_
      refine z_dup F dX4_readSign_25 26 rfl rfl ?_
      refine z_get F dX4_readSign_26 29 rfl kX4_readSign_19 0 rfl rfl ?_
      refine z_iconst F dX4_readSign_29 30 rfl zki_1 ?_
      refine z_iadd F dX4_readSign_30 31 rfl ?_
      refine z_topi (fun v1 ev1 => ?_)
      replace hw := hw v1 ev1
      refine z_put F dX4_readSign_31 34 rfl kX4_readSign_19 0 rfl rfl rfl (Nat.le_of_ble_eq_true rfl) (wTe aT cyB (va_up tI 1 v1) tR) rfl ?_
      refine z_iconst F dX4_readSign_34 35 rfl zki_1 ?_
      exact hRt 35 _ true ((va_up tI 1 v1), tR) dX4_readSign_35 ⟨true, rfl, hw⟩
set_option maxHeartbeats 4000000 in
set_option maxRecDepth 100000 in
theorem mX4_readSign (l : Launch) (D : va_G) (cyI cyB : ClassId) (aT : Nat → Nat) (x1 : Int32) (tI : Nat → Int32) (tR : Nat → Nat → Int32) {post : Bool → (Nat → Int32) → (Nat → Nat → Int32) → Prop} (hw : pX4_readSign x1 tI tR post) : zMi l yX4_readSign wsX4_readSign 0 0 D cyI cyB [.ref (aT 0), .int x1] (wTe aT cyB tI tR) (S := ((Nat → Int32) × (Nat → Nat → Int32))) (fun u => (wTe aT cyB u.1 u.2)) (fun r u => ∃ b : Bool, r = zb b ∧ post b u.1 u.2) :=
  z_metz (cc := cX4_readSign) (nL := 2) (by decide +kernel) rfl (Nat.le_of_ble_eq_true rfl) (fun C hl F hRt => xX4_readSign_0 x1 tI tR F hRt hw)
theorem y_X4_readSign : zY yX4_readSign wsX4_readSign cX4_readSign 2 (some .boolean) 1 := ⟨⟨_, rfl⟩, by decide +kernel⟩
theorem iX4_hasRoom_1 : ∀ w ∈ wsX10, w ∈ wsX4_hasRoom := fun w h => List.mem_cons_of_mem _ (List.mem_append_left _ (List.mem_append_right _ h))
theorem kX4_hasRoom_45 : zL wsX4_hasRoom RX4 45 1 6 .int false := zL1 iX4_hasRoom_1 (by decide) (List.mem_of_getElem? (i := 1) rfl) rfl rfl
theorem kX4_hasRoom_50 : zL wsX4_hasRoom RX4 50 1 2 (.object "StillRoom$Pairs") true := zL1 iX4_hasRoom_1 (by decide) (List.mem_of_getElem? (i := 2) rfl) rfl rfl
theorem kX4_hasRoom_60 : zL wsX4_hasRoom RX4 60 1 3 (.object "StillRoom$Pairs") true := zL1 iX4_hasRoom_1 (by decide) (List.mem_of_getElem? (i := 3) rfl) rfl rfl
theorem kX4_hasRoom_63 : zL wsX4_hasRoom RX4 63 1 4 (.object "StillRoom$Pairs") true := zL1 iX4_hasRoom_1 (by decide) (List.mem_of_getElem? (i := 4) rfl) rfl rfl
set_option maxHeartbeats 4000000 in
set_option maxRecDepth 100000 in
theorem xX4_hasRoom_0 {C : zC} {D : va_G} {cyI cyB : ClassId} {aH : Nat → Nat} (x1 : Int32) (hI : Nat → Int32) (hR : Nat → Nat → Int32) (F : zF C D { frames := 1, cells := 0, slots := 0, locals := 20 } cX4_hasRoom 2 wsX4_hasRoom RX4 (some .boolean) cyI cyB) {post : Bool → Prop} (hRt : zRz C D cX4_hasRoom 2 (S := (Unit)) (fun u => (wHo aH cyI hI hR)) (fun r u => ∃ b : Bool, r = zb b ∧ post b )) (hw : pX4_hasRoom x1 hI hR post) : zX C D 2 0 0 (wHo aH cyI hI hR) 0 [(0, .ref (aH 0)), (1, .int x1)] [] := by
  refine z_iload_n F dX4_hasRoom_0 1 rfl 1 rfl ?_
  obtain ⟨hs0, hs1, hs2, hs3, hwd⟩ := hw
  by_cases cs0 : x1 = 103
  · have hw := hs0 cs0; clear hs0 hs1 hs2 hs3 hwd
    refine z_look (off := 90) F dX4_hasRoom_1 91 (by decide +kernel) (by rw [cs0]; decide +kernel) rfl ?_
    refine z_aload_n F dX4_hasRoom_91 92 rfl 0 rfl ?_
    refine z_get F dX4_hasRoom_92 95 rfl kX4_hasRoom_63 0 rfl rfl ?_
    refine z_callVi (As := []) (st := []) F dX4_hasRoom_95 98 rfl (mX3_isFull C.1.2.1 D cyI cyB (fun j => aH (9 + j)) (hI 6) (hR 6) (hR 7) hw) y_X3_isFull rfl gX4_hasRoom_X3_isFull rfl (ci := 3) (rq := 0) rfl rfl ⟨Nat.le_of_ble_eq_true rfl, Nat.le_of_ble_eq_true rfl⟩ ⟨Nat.zero_le _, Nat.zero_le _⟩ (Nat.le_of_ble_eq_true rfl) [9, 10, 11] (by decide) rfl (fun _ => rfl) (fun u => (wHo aH cyI hI hR)) (fun _ => rfl) (fun r0 u hp => ?_)
    obtain ⟨b1, rfl, hw⟩ := hp
    obtain ⟨hwt, hwf⟩ := hw
    refine z_ifneB F dX4_hasRoom_98 105 rfl 101 rfl (fun c1 => ?_) (fun c1 => ?_)
    · have hw := hwt c1; clear hwt hwf
      refine z_iconst F dX4_hasRoom_105 106 rfl zki_0 ?_
      exact hRt 106 _ false () dX4_hasRoom_106 ⟨false, rfl, hw⟩
    · have hw := hwf c1; clear hwt hwf
      refine z_iconst F dX4_hasRoom_101 102 rfl zki_1 ?_
      refine z_goto F dX4_hasRoom_102 106 rfl ?_
      exact hRt 106 _ true () dX4_hasRoom_106 ⟨true, rfl, hw⟩
  by_cases cs1 : x1 = 104
  · have hw := hs1 cs1; clear hs0 hs1 hs2 hs3 hwd
    refine z_look (off := 43) F dX4_hasRoom_1 44 (by decide +kernel) (by rw [cs1]; decide +kernel) rfl ?_
    refine z_aload_n F dX4_hasRoom_44 45 rfl 0 rfl ?_
    refine z_get F dX4_hasRoom_45 48 rfl kX4_hasRoom_45 0 rfl rfl ?_
    refine z_bipush F dX4_hasRoom_48 50 rfl zkb_8 ?_
    obtain ⟨hwt, hwf⟩ := hw
    refine z_icmpge F dX4_hasRoom_50 57 rfl 53 rfl (fun c2 => ?_) (fun c2 => ?_)
    · have hw := hwt c2; clear hwt hwf
      refine z_iconst F dX4_hasRoom_57 58 rfl zki_0 ?_
      exact hRt 58 _ false () dX4_hasRoom_58 ⟨false, rfl, hw⟩
    · have hw := hwf c2; clear hwt hwf
      refine z_iconst F dX4_hasRoom_53 54 rfl zki_1 ?_
      refine z_goto F dX4_hasRoom_54 58 rfl ?_
      exact hRt 58 _ true () dX4_hasRoom_58 ⟨true, rfl, hw⟩
  by_cases cs2 : x1 = 115
  · have hw := hs2 cs2; clear hs0 hs1 hs2 hs3 hwd
    refine z_look (off := 58) F dX4_hasRoom_1 59 (by decide +kernel) (by rw [cs2]; decide +kernel) rfl ?_
    refine z_aload_n F dX4_hasRoom_59 60 rfl 0 rfl ?_
    refine z_get F dX4_hasRoom_60 63 rfl kX4_hasRoom_50 0 rfl rfl ?_
    refine z_callVi (As := []) (st := []) F dX4_hasRoom_63 66 rfl (mX3_isFull C.1.2.1 D cyI cyB (fun j => aH (3 + j)) (hI 4) (hR 2) (hR 3) hw) y_X3_isFull rfl gX4_hasRoom_X3_isFull rfl (ci := 3) (rq := 0) rfl rfl ⟨Nat.le_of_ble_eq_true rfl, Nat.le_of_ble_eq_true rfl⟩ ⟨Nat.zero_le _, Nat.zero_le _⟩ (Nat.le_of_ble_eq_true rfl) [3, 4, 5] (by decide) rfl (fun _ => rfl) (fun u => (wHo aH cyI hI hR)) (fun _ => rfl) (fun r0 u hp => ?_)
    obtain ⟨b2, rfl, hw⟩ := hp
    obtain ⟨hwt, hwf⟩ := hw
    refine z_ifneB F dX4_hasRoom_66 73 rfl 69 rfl (fun c3 => ?_) (fun c3 => ?_)
    · have hw := hwt c3; clear hwt hwf
      refine z_iconst F dX4_hasRoom_73 74 rfl zki_0 ?_
      exact hRt 74 _ false () dX4_hasRoom_74 ⟨false, rfl, hw⟩
    · have hw := hwf c3; clear hwt hwf
      refine z_iconst F dX4_hasRoom_69 70 rfl zki_1 ?_
      refine z_goto F dX4_hasRoom_70 74 rfl ?_
      exact hRt 74 _ true () dX4_hasRoom_74 ⟨true, rfl, hw⟩
  by_cases cs3 : x1 = 116
  · have hw := hs3 cs3; clear hs0 hs1 hs2 hs3 hwd
    refine z_look (off := 74) F dX4_hasRoom_1 75 (by decide +kernel) (by rw [cs3]; decide +kernel) rfl ?_
    refine z_aload_n F dX4_hasRoom_75 76 rfl 0 rfl ?_
    refine z_get F dX4_hasRoom_76 79 rfl kX4_hasRoom_60 0 rfl rfl ?_
    refine z_callVi (As := []) (st := []) F dX4_hasRoom_79 82 rfl (mX3_isFull C.1.2.1 D cyI cyB (fun j => aH (6 + j)) (hI 5) (hR 4) (hR 5) hw) y_X3_isFull rfl gX4_hasRoom_X3_isFull rfl (ci := 3) (rq := 0) rfl rfl ⟨Nat.le_of_ble_eq_true rfl, Nat.le_of_ble_eq_true rfl⟩ ⟨Nat.zero_le _, Nat.zero_le _⟩ (Nat.le_of_ble_eq_true rfl) [6, 7, 8] (by decide) rfl (fun _ => rfl) (fun u => (wHo aH cyI hI hR)) (fun _ => rfl) (fun r0 u hp => ?_)
    obtain ⟨b3, rfl, hw⟩ := hp
    obtain ⟨hwt, hwf⟩ := hw
    refine z_ifneB F dX4_hasRoom_82 89 rfl 85 rfl (fun c4 => ?_) (fun c4 => ?_)
    · have hw := hwt c4; clear hwt hwf
      refine z_iconst F dX4_hasRoom_89 90 rfl zki_0 ?_
      exact hRt 90 _ false () dX4_hasRoom_90 ⟨false, rfl, hw⟩
    · have hw := hwf c4; clear hwt hwf
      refine z_iconst F dX4_hasRoom_85 86 rfl zki_1 ?_
      refine z_goto F dX4_hasRoom_86 90 rfl ?_
      exact hRt 90 _ true () dX4_hasRoom_90 ⟨true, rfl, hw⟩
  have hw := hwd cs0 cs1 cs2 cs3; clear hs0 hs1 hs2 hs3 hwd
  refine z_look (off := 106) F dX4_hasRoom_1 107 (by decide +kernel) (z_lk4 cs0 cs1 cs2 cs3) rfl ?_
  refine z_iload_n F dX4_hasRoom_107 108 rfl 1 rfl ?_
  refine z_bipush F dX4_hasRoom_108 110 rfl zkb_112 ?_
  obtain ⟨hwt, hwf⟩ := hw
  refine z_icmpne F dX4_hasRoom_110 117 rfl 113 rfl (fun c5 => ?_) (fun c5 => ?_)
  · have hw := hwt c5; clear hwt hwf
    refine z_iconst F dX4_hasRoom_117 118 rfl zki_0 ?_
    exact hRt 118 _ false () dX4_hasRoom_118 ⟨false, rfl, hw⟩
  · have hw := hwf c5; clear hwt hwf
    refine z_iconst F dX4_hasRoom_113 114 rfl zki_1 ?_
    refine z_goto F dX4_hasRoom_114 118 rfl ?_
    exact hRt 118 _ true () dX4_hasRoom_118 ⟨true, rfl, hw⟩
set_option maxHeartbeats 4000000 in
set_option maxRecDepth 100000 in
theorem mX4_hasRoom (l : Launch) (D : va_G) (cyI cyB : ClassId) (aH : Nat → Nat) (x1 : Int32) (hI : Nat → Int32) (hR : Nat → Nat → Int32) {post : Bool → Prop} (hw : pX4_hasRoom x1 hI hR post) : zMi l yX4_hasRoom wsX4_hasRoom 1 20 D cyI cyB [.ref (aH 0), .int x1] (wHo aH cyI hI hR) (S := (Unit)) (fun u => (wHo aH cyI hI hR)) (fun r u => ∃ b : Bool, r = zb b ∧ post b ) :=
  z_metz (cc := cX4_hasRoom) (nL := 2) (by decide +kernel) rfl (Nat.le_of_ble_eq_true rfl) (fun C hl F hRt => xX4_hasRoom_0 x1 hI hR F hRt hw)
theorem y_X4_hasRoom : zY yX4_hasRoom wsX4_hasRoom cX4_hasRoom 2 (some .boolean) 2 := ⟨⟨_, rfl⟩, by decide +kernel⟩
theorem iX4_readSteps_4 : ∀ w ∈ wsX40, w ∈ wsX4_readSteps := fun w h => List.mem_cons_of_mem _ (List.mem_append_left _ (List.mem_append_right _ h))
theorem kX4_readSteps_9 : zL wsX4_readSteps RX4 9 4 0 (.array .byte) true := zL4 iX4_readSteps_4 (by decide) (List.mem_of_getElem? (i := 3) rfl) rfl rfl
theorem kX4_readSteps_15 : zL wsX4_readSteps RX4 15 4 1 .int false := zL4 iX4_readSteps_4 (by decide) (List.mem_of_getElem? (i := 2) rfl) rfl rfl
theorem kX4_readSteps_19 : zL wsX4_readSteps RX4 19 4 2 .int false := zL4 iX4_readSteps_4 (by decide) (List.mem_of_getElem? (i := 1) rfl) rfl rfl
set_option maxHeartbeats 4000000 in
set_option maxRecDepth 100000 in
theorem xX4_readSteps_4 {C : zC} {D : va_G} {cyI cyB : ClassId} {aT : Nat → Nat} {aH : Nat → Nat} (hI : Nat → Int32) (hR : Nat → Nat → Int32) (F : zF C D { frames := 1, cells := 0, slots := 0, locals := 21 } cX4_readSteps 5 wsX4_readSteps RX4 (some .int) cyI cyB) {post : Int32 → (Nat → Int32) → (Nat → Nat → Int32) → Prop} (hRt : zRi C D cX4_readSteps 5 (S := ((Nat → Int32) × (Nat → Nat → Int32))) (fun u => (wTe aT cyB u.1 u.2 ++ wHo aH cyI hI hR)) (fun r u => post r u.1 u.2)) : ∀ (n : Nat) (x2 : Int32) (x3 : Int32) (tI : Nat → Int32) (tR : Nat → Nat → Int32), bX4_readSteps_4 hI hR post  n x2 x3 tI tR → zX C D 5 0 0 (wTe aT cyB tI tR ++ wHo aH cyI hI hR) 4 [(0, .ref (aT 0)), (1, .ref (aH 0)), (2, .int x2), (3, .int x3)] [] := by
  intro n
  induction n with
  | zero => intro _ _ _ _ hw; exact hw.elim
  | succ n ih =>
    intro x2 x3 tI tR hw
    refine z_aload_n F dX4_readSteps_4 5 rfl 0 rfl ?_
    refine z_get F dX4_readSteps_5 8 rfl kX4_readSteps_19 0 rfl rfl ?_
    refine z_aload_n F dX4_readSteps_8 9 rfl 0 rfl ?_
    refine z_get F dX4_readSteps_9 12 rfl kX4_readSteps_15 0 rfl rfl ?_
    obtain ⟨hwt, hwf⟩ := hw
    refine z_icmpge F dX4_readSteps_12 71 rfl 15 rfl (fun c1 => ?_) (fun c1 => ?_)
    · have hw := hwt c1; clear hwt hwf
      refine z_iload_n F dX4_readSteps_71 72 rfl 2 rfl ?_
      exact hRt 72 _ x2 (tI, tR) dX4_readSteps_72 hw
    · have hw := hwf c1; clear hwt hwf
      refine z_aload_n F dX4_readSteps_15 16 rfl 0 rfl ?_
      refine z_get F dX4_readSteps_16 19 rfl kX4_readSteps_9 0 rfl rfl ?_
      refine z_aload_n F dX4_readSteps_19 20 rfl 0 rfl ?_
      refine z_get F dX4_readSteps_20 23 rfl kX4_readSteps_19 0 rfl rfl ?_
      obtain ⟨j1, ej1, hj1, hw⟩ := hw
      refine z_bald F dX4_readSteps_23 24 rfl 1 rfl (by decide) j1 ej1 hj1 ?_
      refine z_bipush F dX4_readSteps_24 26 rfl zkb_97 ?_
      refine z_isub F dX4_readSteps_26 27 rfl ?_
      refine z_topi (fun v1 ev1 => ?_)
      replace hw := hw v1 ev1
      refine z_istore (lv' := [(4, .int v1), (0, .ref (aT 0)), (1, .ref (aH 0)), (2, .int x2), (3, .int x3)]) F dX4_readSteps_27 29 rfl (by decide) rfl ?_
      refine z_iload F dX4_readSteps_29 31 rfl 0 rfl ?_
      refine z_iload_n F dX4_readSteps_31 32 rfl 4 rfl ?_
      obtain ⟨hwt, hwf⟩ := hw
      refine z_icmplt F dX4_readSteps_32 44 rfl 35 rfl (fun c2 => ?_) (fun c2 => ?_)
      · have hw := hwt c2; clear hwt hwf
        refine z_iload_n F dX4_readSteps_44 45 rfl 3 rfl ?_
        exact hRt 45 _ x2 (tI, tR) dX4_readSteps_45 hw
      · have hw := hwf c2; clear hwt hwf
        refine z_aload_n F dX4_readSteps_35 36 rfl 2 rfl ?_
        refine z_iload F dX4_readSteps_36 38 rfl 0 rfl ?_
        refine z_segVi (As := [.int v1]) (st := []) F dX4_readSteps_38 41 rfl (mX1_isStep C.1.2.1 D cyI cyB aH v1 hI hR hw) y_X1_isStep rfl gX4_readSteps_X1_isStep rfl (ci := 1) (rq := 0) rfl rfl ⟨Nat.le_of_ble_eq_true rfl, Nat.le_of_ble_eq_true rfl⟩ ⟨Nat.zero_le _, Nat.zero_le _⟩ (Nat.le_of_ble_eq_true rfl) (wTe aT cyB tI tR) [] (by simp only [List.append_assoc, List.nil_append, List.append_nil]) (fun _ => rfl) (fun u => (wTe aT cyB tI tR ++ wHo aH cyI hI hR)) (fun u => (by simp only [List.append_assoc, List.nil_append, List.append_nil])) (fun r0 u hp => ?_)
        obtain ⟨b1, rfl, hw⟩ := hp
        obtain ⟨hwt, hwf⟩ := hw
        refine z_ifneB F dX4_readSteps_41 46 rfl 44 rfl (fun c3 => ?_) (fun c3 => ?_)
        · have hw := hwt c3; clear hwt hwf
          refine z_iload_n F dX4_readSteps_46 47 rfl 3 rfl ?_
          refine z_iconst F dX4_readSteps_47 48 rfl zki_1 ?_
          refine z_iload F dX4_readSteps_48 50 rfl 0 rfl ?_
          refine z_ishl F dX4_readSteps_50 51 rfl ?_
          refine z_ior F dX4_readSteps_51 52 rfl ?_
          refine z_topi (fun v2 ev2 => ?_)
          replace hw := hw v2 ev2
          refine z_istore_n (lv' := [(2, .int v2), (4, .int v1), (0, .ref (aT 0)), (1, .ref (aH 0)), (3, .int x3)]) F dX4_readSteps_52 53 rfl (by decide) rfl ?_
          refine z_iload F dX4_readSteps_53 55 rfl 1 rfl ?_
          refine z_iconst F dX4_readSteps_55 56 rfl zki_1 ?_
          refine z_iadd F dX4_readSteps_56 57 rfl ?_
          refine z_topi (fun v3 ev3 => ?_)
          replace hw := hw v3 ev3
          refine z_istore_n (lv' := [(3, .int v3), (2, .int v2), (4, .int v1), (0, .ref (aT 0)), (1, .ref (aH 0))]) F dX4_readSteps_57 58 rfl (by decide) rfl ?_
          refine z_aload_n F dX4_readSteps_58 59 rfl 3 rfl ?_
          refine z_dup F dX4_readSteps_59 60 rfl rfl ?_
          refine z_get F dX4_readSteps_60 63 rfl kX4_readSteps_19 0 rfl rfl ?_
          refine z_iconst F dX4_readSteps_63 64 rfl zki_1 ?_
          refine z_iadd F dX4_readSteps_64 65 rfl ?_
          refine z_topi (fun v4 ev4 => ?_)
          replace hw := hw v4 ev4
          refine z_put F dX4_readSteps_65 68 rfl kX4_readSteps_19 0 rfl rfl rfl (Nat.le_of_ble_eq_true rfl) (wTe aT cyB (va_up tI 1 v4) tR ++ wHo aH cyI hI hR) rfl ?_
          refine z_goto F dX4_readSteps_68 4 rfl ?_
          refine z_lv (lv' := [(0, .ref (aT 0)), (1, .ref (aH 0)), (2, .int v2), (3, .int v3)]) [3, 4, 1, 0] rfl ?_
          exact ih v2 v3 (va_up tI 1 v4) tR hw
        · have hw := hwf c3; clear hwt hwf
          refine z_iload_n F dX4_readSteps_44 45 rfl 3 rfl ?_
          exact hRt 45 _ x2 (tI, tR) dX4_readSteps_45 hw
set_option maxHeartbeats 4000000 in
set_option maxRecDepth 100000 in
theorem xX4_readSteps_0 {C : zC} {D : va_G} {cyI cyB : ClassId} {aT : Nat → Nat} {aH : Nat → Nat} (tI : Nat → Int32) (tR : Nat → Nat → Int32) (hI : Nat → Int32) (hR : Nat → Nat → Int32) (F : zF C D { frames := 1, cells := 0, slots := 0, locals := 21 } cX4_readSteps 5 wsX4_readSteps RX4 (some .int) cyI cyB) {post : Int32 → (Nat → Int32) → (Nat → Nat → Int32) → Prop} (hRt : zRi C D cX4_readSteps 5 (S := ((Nat → Int32) × (Nat → Nat → Int32))) (fun u => (wTe aT cyB u.1 u.2 ++ wHo aH cyI hI hR)) (fun r u => post r u.1 u.2)) (hw : pX4_readSteps tI tR hI hR post) : zX C D 5 0 0 (wTe aT cyB tI tR ++ wHo aH cyI hI hR) 0 [(0, .ref (aT 0)), (1, .ref (aH 0))] [] := by
  refine z_iconst F dX4_readSteps_0 1 rfl zki_0 ?_
  refine z_istore_n (lv' := [(2, .int 0), (0, .ref (aT 0)), (1, .ref (aH 0))]) F dX4_readSteps_1 2 rfl (by decide) rfl ?_
  refine z_iconst F dX4_readSteps_2 3 rfl zki_0 ?_
  refine z_istore_n (lv' := [(3, .int 0), (2, .int 0), (0, .ref (aT 0)), (1, .ref (aH 0))]) F dX4_readSteps_3 4 rfl (by decide) rfl ?_
  obtain ⟨n1, hw⟩ := hw
  refine z_lv (lv' := [(0, .ref (aT 0)), (1, .ref (aH 0)), (2, .int 0), (3, .int 0)]) [2, 3, 1, 0] rfl ?_
  refine xX4_readSteps_4 hI hR F hRt n1 0 0 tI tR hw
set_option maxHeartbeats 4000000 in
set_option maxRecDepth 100000 in
theorem mX4_readSteps (l : Launch) (D : va_G) (cyI cyB : ClassId) (aT : Nat → Nat) (aH : Nat → Nat) (tI : Nat → Int32) (tR : Nat → Nat → Int32) (hI : Nat → Int32) (hR : Nat → Nat → Int32) {post : Int32 → (Nat → Int32) → (Nat → Nat → Int32) → Prop} (hw : pX4_readSteps tI tR hI hR post) : zMi l yX4_readSteps wsX4_readSteps 1 21 D cyI cyB [.ref (aT 0), .ref (aH 0)] (wTe aT cyB tI tR ++ wHo aH cyI hI hR) (S := ((Nat → Int32) × (Nat → Nat → Int32))) (fun u => (wTe aT cyB u.1 u.2 ++ wHo aH cyI hI hR)) (fun r u => post r u.1 u.2) :=
  z_meti (cc := cX4_readSteps) (nL := 5) (by decide +kernel) rfl (Nat.le_of_ble_eq_true rfl) (fun C hl F hRt => xX4_readSteps_0 tI tR hI hR F hRt hw)
theorem y_X4_readSteps : zY yX4_readSteps wsX4_readSteps cX4_readSteps 5 (some .int) 1 := ⟨⟨_, rfl⟩, by decide +kernel⟩
theorem iX4_readDigit_4 : ∀ w ∈ wsX40, w ∈ wsX4_readDigit := fun w h => List.mem_cons_of_mem _ (List.mem_append_left _ (List.mem_append_right _ h))
theorem kX4_readDigit_9 : zL wsX4_readDigit RX4 9 4 0 (.array .byte) true := zL4 iX4_readDigit_4 (by decide) (List.mem_of_getElem? (i := 3) rfl) rfl rfl
theorem kX4_readDigit_15 : zL wsX4_readDigit RX4 15 4 1 .int false := zL4 iX4_readDigit_4 (by decide) (List.mem_of_getElem? (i := 2) rfl) rfl rfl
theorem kX4_readDigit_19 : zL wsX4_readDigit RX4 19 4 2 .int false := zL4 iX4_readDigit_4 (by decide) (List.mem_of_getElem? (i := 1) rfl) rfl rfl
set_option maxHeartbeats 4000000 in
set_option maxRecDepth 100000 in
theorem xX4_readDigit_27 {C : zC} {D : va_G} {cyI cyB : ClassId} {aT : Nat → Nat} {aH : Nat → Nat} (x2 : Int32) (s0 : Int32) (tI : Nat → Int32) (tR : Nat → Nat → Int32) (hI : Nat → Int32) (hR : Nat → Nat → Int32) (F : zF C D { frames := 1, cells := 0, slots := 0, locals := 21 } cX4_readDigit 4 wsX4_readDigit RX4 (some .int) cyI cyB) {post : Int32 → (Nat → Int32) → (Nat → Nat → Int32) → Prop} (hRt : zRi C D cX4_readDigit 4 (S := ((Nat → Int32) × (Nat → Nat → Int32))) (fun u => (wTe aT cyB u.1 u.2 ++ wHo aH cyI hI hR)) (fun r u => post r u.1 u.2)) (hw : bX4_readDigit_27 x2 s0 tI tR hI hR post ) : zX C D 4 0 0 (wTe aT cyB tI tR ++ wHo aH cyI hI hR) 27 [(0, .ref (aT 0)), (1, .ref (aH 0)), (2, .int x2)] [.int s0] := by
  refine z_istore_n (lv' := [(3, .int s0), (0, .ref (aT 0)), (1, .ref (aH 0)), (2, .int x2)]) F dX4_readDigit_27 28 rfl (by decide) rfl ?_
  refine z_aload_n F dX4_readDigit_28 29 rfl 2 rfl ?_
  refine z_iload_n F dX4_readDigit_29 30 rfl 0 rfl ?_
  refine z_segVi (As := [.int s0]) (st := []) F dX4_readDigit_30 33 rfl (mX1_isHand C.1.2.1 D cyI cyB aH s0 hI hR hw) y_X1_isHand rfl gX4_readDigit_X1_isHand rfl (ci := 1) (rq := 0) rfl rfl ⟨Nat.le_of_ble_eq_true rfl, Nat.le_of_ble_eq_true rfl⟩ ⟨Nat.zero_le _, Nat.zero_le _⟩ (Nat.le_of_ble_eq_true rfl) (wTe aT cyB tI tR) [] (by simp only [List.append_assoc, List.nil_append, List.append_nil]) (fun _ => rfl) (fun u => (wTe aT cyB tI tR ++ wHo aH cyI hI hR)) (fun u => (by simp only [List.append_assoc, List.nil_append, List.append_nil])) (fun r0 u hp => ?_)
  obtain ⟨b1, rfl, hw⟩ := hp
  obtain ⟨hwt, hwf⟩ := hw
  refine z_ifeqB F dX4_readDigit_33 41 rfl 36 rfl (fun c2 => ?_) (fun c2 => ?_)
  · have hw := hwt c2; clear hwt hwf
    refine z_iconst F dX4_readDigit_41 42 rfl zki_m1 ?_
    exact hRt 42 _ (-1) (tI, tR) dX4_readDigit_42 hw
  · have hw := hwf c2; clear hwt hwf
    refine z_iload_n F dX4_readDigit_36 37 rfl 0 rfl ?_
    refine z_iload_n F dX4_readDigit_37 38 rfl 3 rfl ?_
    obtain ⟨hwt, hwf⟩ := hw
    refine z_icmpne F dX4_readDigit_38 43 rfl 41 rfl (fun c3 => ?_) (fun c3 => ?_)
    · have hw := hwt c3; clear hwt hwf
      refine z_aload_n F dX4_readDigit_43 44 rfl 1 rfl ?_
      refine z_dup F dX4_readDigit_44 45 rfl rfl ?_
      refine z_get F dX4_readDigit_45 48 rfl kX4_readDigit_19 0 rfl rfl ?_
      refine z_iconst F dX4_readDigit_48 49 rfl zki_1 ?_
      refine z_iadd F dX4_readDigit_49 50 rfl ?_
      refine z_topi (fun v1 ev1 => ?_)
      replace hw := hw v1 ev1
      refine z_put F dX4_readDigit_50 53 rfl kX4_readDigit_19 0 rfl rfl rfl (Nat.le_of_ble_eq_true rfl) (wTe aT cyB (va_up tI 1 v1) tR ++ wHo aH cyI hI hR) rfl ?_
      refine z_iload_n F dX4_readDigit_53 54 rfl 0 rfl ?_
      exact hRt 54 _ s0 ((va_up tI 1 v1), tR) dX4_readDigit_54 hw
    · have hw := hwf c3; clear hwt hwf
      refine z_iconst F dX4_readDigit_41 42 rfl zki_m1 ?_
      exact hRt 42 _ (-1) (tI, tR) dX4_readDigit_42 hw
set_option maxHeartbeats 4000000 in
set_option maxRecDepth 100000 in
theorem xX4_readDigit_0 {C : zC} {D : va_G} {cyI cyB : ClassId} {aT : Nat → Nat} {aH : Nat → Nat} (x2 : Int32) (tI : Nat → Int32) (tR : Nat → Nat → Int32) (hI : Nat → Int32) (hR : Nat → Nat → Int32) (F : zF C D { frames := 1, cells := 0, slots := 0, locals := 21 } cX4_readDigit 4 wsX4_readDigit RX4 (some .int) cyI cyB) {post : Int32 → (Nat → Int32) → (Nat → Nat → Int32) → Prop} (hRt : zRi C D cX4_readDigit 4 (S := ((Nat → Int32) × (Nat → Nat → Int32))) (fun u => (wTe aT cyB u.1 u.2 ++ wHo aH cyI hI hR)) (fun r u => post r u.1 u.2)) (hw : pX4_readDigit x2 tI tR hI hR post) : zX C D 4 0 0 (wTe aT cyB tI tR ++ wHo aH cyI hI hR) 0 [(0, .ref (aT 0)), (1, .ref (aH 0)), (2, .int x2)] [] := by
  refine z_aload_n F dX4_readDigit_0 1 rfl 0 rfl ?_
  refine z_get F dX4_readDigit_1 4 rfl kX4_readDigit_19 0 rfl rfl ?_
  refine z_aload_n F dX4_readDigit_4 5 rfl 0 rfl ?_
  refine z_get F dX4_readDigit_5 8 rfl kX4_readDigit_15 0 rfl rfl ?_
  obtain ⟨hwt, hwf⟩ := hw
  refine z_icmpge F dX4_readDigit_8 26 rfl 11 rfl (fun c1 => ?_) (fun c1 => ?_)
  · have hw := hwt c1; clear hwt hwf
    refine z_iconst F dX4_readDigit_26 27 rfl zki_m1 ?_
    exact xX4_readDigit_27 x2 (-1) tI tR hI hR F hRt hw
  · have hw := hwf c1; clear hwt hwf
    refine z_aload_n F dX4_readDigit_11 12 rfl 0 rfl ?_
    refine z_get F dX4_readDigit_12 15 rfl kX4_readDigit_9 0 rfl rfl ?_
    refine z_aload_n F dX4_readDigit_15 16 rfl 0 rfl ?_
    refine z_get F dX4_readDigit_16 19 rfl kX4_readDigit_19 0 rfl rfl ?_
    obtain ⟨j1, ej1, hj1, hw⟩ := hw
    refine z_bald F dX4_readDigit_19 20 rfl 1 rfl (by decide) j1 ej1 hj1 ?_
    refine z_bipush F dX4_readDigit_20 22 rfl zkb_48 ?_
    refine z_isub F dX4_readDigit_22 23 rfl ?_
    refine z_goto F dX4_readDigit_23 27 rfl ?_
    exact xX4_readDigit_27 x2 (((tR 0) j1) - 48) tI tR hI hR F hRt hw
set_option maxHeartbeats 4000000 in
set_option maxRecDepth 100000 in
theorem mX4_readDigit (l : Launch) (D : va_G) (cyI cyB : ClassId) (aT : Nat → Nat) (aH : Nat → Nat) (x2 : Int32) (tI : Nat → Int32) (tR : Nat → Nat → Int32) (hI : Nat → Int32) (hR : Nat → Nat → Int32) {post : Int32 → (Nat → Int32) → (Nat → Nat → Int32) → Prop} (hw : pX4_readDigit x2 tI tR hI hR post) : zMi l yX4_readDigit wsX4_readDigit 1 21 D cyI cyB [.ref (aT 0), .ref (aH 0), .int x2] (wTe aT cyB tI tR ++ wHo aH cyI hI hR) (S := ((Nat → Int32) × (Nat → Nat → Int32))) (fun u => (wTe aT cyB u.1 u.2 ++ wHo aH cyI hI hR)) (fun r u => post r u.1 u.2) :=
  z_meti (cc := cX4_readDigit) (nL := 4) (by decide +kernel) rfl (Nat.le_of_ble_eq_true rfl) (fun C hl F hRt => xX4_readDigit_0 x2 tI tR hI hR F hRt hw)
theorem y_X4_readDigit : zY yX4_readDigit wsX4_readDigit cX4_readDigit 4 (some .int) 2 := ⟨⟨_, rfl⟩, by decide +kernel⟩
set_option maxHeartbeats 4000000 in
set_option maxRecDepth 100000 in
theorem xX4_readHand_0 {C : zC} {D : va_G} {cyI cyB : ClassId} {aT : Nat → Nat} {aH : Nat → Nat} (tI : Nat → Int32) (tR : Nat → Nat → Int32) (hI : Nat → Int32) (hR : Nat → Nat → Int32) (F : zF C D { frames := 2, cells := 0, slots := 0, locals := 45 } cX4_readHand 3 wsX4_readHand RX4 (some .boolean) cyI cyB) {post : Bool → (Nat → Int32) → (Nat → Nat → Int32) → (Nat → Int32) → (Nat → Nat → Int32) → Prop} (hRt : zRz C D cX4_readHand 3 (S := ((Nat → Int32) × (Nat → Nat → Int32) × (Nat → Int32) × (Nat → Nat → Int32))) (fun u => (wTe aT cyB u.1 u.2.1 ++ wHo aH cyI u.2.2.1 u.2.2.2)) (fun r u => ∃ b : Bool, r = zb b ∧ post b u.1 u.2.1 u.2.2.1 u.2.2.2)) (hw : pX4_readHand tI tR hI hR post) : zX C D 3 0 0 (wTe aT cyB tI tR ++ wHo aH cyI hI hR) 0 [(0, .ref (aT 0)), (1, .ref (aH 0))] [] := by
  refine z_aload_n F dX4_readHand_0 1 rfl 0 rfl ?_
  refine z_aload_n F dX4_readHand_1 2 rfl 1 rfl ?_
  refine z_segVi (As := [.ref (aH 0)]) (st := []) F dX4_readHand_2 5 rfl (mX4_readSteps C.1.2.1 D cyI cyB aT aH tI tR hI hR hw) y_X4_readSteps rfl gX4_readHand_X4_readSteps rfl (ci := 4) (rq := 0) rfl rfl ⟨Nat.le_of_ble_eq_true rfl, Nat.le_of_ble_eq_true rfl⟩ ⟨Nat.zero_le _, Nat.zero_le _⟩ (Nat.le_of_ble_eq_true rfl) [] [] (by simp only [List.append_assoc, List.nil_append, List.append_nil]) (fun _ => rfl) (fun u => (wTe aT cyB u.1 u.2 ++ wHo aH cyI hI hR)) (fun u => (by simp only [List.append_assoc, List.nil_append, List.append_nil])) (fun r1 u hp => ?_)
  obtain ⟨tI_1, tR_1⟩ := u
  replace hw := hp
  clear hp
  refine z_istore_n (lv' := [(2, .int r1), (0, .ref (aT 0)), (1, .ref (aH 0))]) F dX4_readHand_5 6 rfl (by decide) rfl ?_
  refine z_aload_n F dX4_readHand_6 7 rfl 1 rfl ?_
  refine z_bipush F dX4_readHand_7 9 rfl zkb_59 ?_
  refine z_segVi (As := [.int 59]) (st := []) F dX4_readHand_9 12 rfl (mX4_readSign C.1.2.1 D cyI cyB aT 59 tI_1 tR_1 hw) y_X4_readSign rfl gX4_readHand_X4_readSign rfl (ci := 4) (rq := 0) rfl rfl ⟨Nat.le_of_ble_eq_true rfl, Nat.le_of_ble_eq_true rfl⟩ ⟨Nat.zero_le _, Nat.zero_le _⟩ (Nat.le_of_ble_eq_true rfl) [] (wHo aH cyI hI hR) (by simp only [List.append_assoc, List.nil_append, List.append_nil]) (fun _ => rfl) (fun u => (wTe aT cyB u.1 u.2 ++ wHo aH cyI hI hR)) (fun u => (by simp only [List.append_assoc, List.nil_append, List.append_nil])) (fun r0 u hp => ?_)
  obtain ⟨tI_2, tR_2⟩ := u
  obtain ⟨b1, rfl, hw⟩ := hp
  obtain ⟨hwt, hwf⟩ := hw
  refine z_ifneB F dX4_readHand_12 17 rfl 15 rfl (fun c1 => ?_) (fun c1 => ?_)
  · have hw := hwt c1; clear hwt hwf
    refine z_aload_n F dX4_readHand_17 18 rfl 2 rfl ?_
    refine z_iload_n F dX4_readHand_18 19 rfl 0 rfl ?_
    refine z_segVv (As := [.int r1]) (st := []) F dX4_readHand_19 22 rfl (mX1_addHand C.1.2.1 D cyI cyB aH r1 hI hR hw) y_X1_addHand rfl gX4_readHand_X1_addHand rfl (ci := 1) (rq := 0) rfl rfl ⟨Nat.le_of_ble_eq_true rfl, Nat.le_of_ble_eq_true rfl⟩ ⟨Nat.zero_le _, Nat.zero_le _⟩ (Nat.le_of_ble_eq_true rfl) (wTe aT cyB tI_2 tR_2) [] (by simp only [List.append_assoc, List.nil_append, List.append_nil]) (fun _ => rfl) (fun u => (wTe aT cyB tI_2 tR_2 ++ wHo aH cyI u.1 u.2)) (fun u => (by simp only [List.append_assoc, List.nil_append, List.append_nil])) (fun u hp => ?_)
    obtain ⟨hI_1, hR_1⟩ := u
    replace hw := hp
    clear hp
    refine z_iconst F dX4_readHand_22 23 rfl zki_1 ?_
    exact hRt 23 _ true (tI_2, tR_2, hI_1, hR_1) dX4_readHand_23 ⟨true, rfl, hw⟩
  · have hw := hwf c1; clear hwt hwf
    refine z_iconst F dX4_readHand_15 16 rfl zki_0 ?_
    exact hRt 16 _ false (tI_2, tR_2, hI, hR) dX4_readHand_16 ⟨false, rfl, hw⟩
set_option maxHeartbeats 4000000 in
set_option maxRecDepth 100000 in
theorem mX4_readHand (l : Launch) (D : va_G) (cyI cyB : ClassId) (aT : Nat → Nat) (aH : Nat → Nat) (tI : Nat → Int32) (tR : Nat → Nat → Int32) (hI : Nat → Int32) (hR : Nat → Nat → Int32) {post : Bool → (Nat → Int32) → (Nat → Nat → Int32) → (Nat → Int32) → (Nat → Nat → Int32) → Prop} (hw : pX4_readHand tI tR hI hR post) : zMi l yX4_readHand wsX4_readHand 2 45 D cyI cyB [.ref (aT 0), .ref (aH 0)] (wTe aT cyB tI tR ++ wHo aH cyI hI hR) (S := ((Nat → Int32) × (Nat → Nat → Int32) × (Nat → Int32) × (Nat → Nat → Int32))) (fun u => (wTe aT cyB u.1 u.2.1 ++ wHo aH cyI u.2.2.1 u.2.2.2)) (fun r u => ∃ b : Bool, r = zb b ∧ post b u.1 u.2.1 u.2.2.1 u.2.2.2) :=
  z_metz (cc := cX4_readHand) (nL := 3) (by decide +kernel) rfl (Nat.le_of_ble_eq_true rfl) (fun C hl F hRt => xX4_readHand_0 tI tR hI hR F hRt hw)
theorem y_X4_readHand : zY yX4_readHand wsX4_readHand cX4_readHand 3 (some .boolean) 1 := ⟨⟨_, rfl⟩, by decide +kernel⟩
theorem iX4_readSight_1 : ∀ w ∈ wsX10, w ∈ wsX4_readSight := fun w h => List.mem_cons_of_mem _ (List.mem_append_left _ (List.mem_append_left _ (List.mem_append_right _ h)))
theorem iX4_readSight_4 : ∀ w ∈ wsX40, w ∈ wsX4_readSight := fun w h => List.mem_cons_of_mem _ (List.mem_append_left _ (List.mem_append_right _ h))
theorem kX4_readSight_19 : zL wsX4_readSight RX4 19 4 2 .int false := zL4 iX4_readSight_4 (by decide) (List.mem_of_getElem? (i := 2) rfl) rfl rfl
theorem kX4_readSight_50 : zL wsX4_readSight RX4 50 1 2 (.object "StillRoom$Pairs") true := zL1 iX4_readSight_1 (by decide) (List.mem_of_getElem? (i := 1) rfl) rfl rfl
set_option maxHeartbeats 4000000 in
set_option maxRecDepth 100000 in
theorem xX4_readSight_21 {C : zC} {D : va_G} {cyI cyB : ClassId} {aT : Nat → Nat} {aH : Nat → Nat} (x2 : Int32) (x3 : Int32) (s0 : Int32) (tI : Nat → Int32) (tR : Nat → Nat → Int32) (hI : Nat → Int32) (hR : Nat → Nat → Int32) (F : zF C D { frames := 2, cells := 0, slots := 0, locals := 44 } cX4_readSight 5 wsX4_readSight RX4 (some .boolean) cyI cyB) {post : Bool → (Nat → Int32) → (Nat → Nat → Int32) → (Nat → Int32) → (Nat → Nat → Int32) → Prop} (hRt : zRz C D cX4_readSight 5 (S := ((Nat → Int32) × (Nat → Nat → Int32) × (Nat → Int32) × (Nat → Nat → Int32))) (fun u => (wTe aT cyB u.1 u.2.1 ++ wHo aH cyI u.2.2.1 u.2.2.2)) (fun r u => ∃ b : Bool, r = zb b ∧ post b u.1 u.2.1 u.2.2.1 u.2.2.2)) (hw : bX4_readSight_21 x2 x3 s0 tI tR hI hR post ) : zX C D 5 0 0 (wTe aT cyB tI tR ++ wHo aH cyI hI hR) 21 [(0, .ref (aT 0)), (1, .ref (aH 0)), (2, .int x2), (3, .int x3)] [.int s0] := by
  refine z_istore (lv' := [(4, .int s0), (0, .ref (aT 0)), (1, .ref (aH 0)), (2, .int x2), (3, .int x3)]) F dX4_readSight_21 23 rfl (by decide) rfl ?_
  refine z_iload F dX4_readSight_23 25 rfl 0 rfl ?_
  obtain ⟨hwt, hwf⟩ := hw
  refine z_ifge F dX4_readSight_25 30 rfl 28 rfl (fun c2 => ?_) (fun c2 => ?_)
  · have hw := hwt c2; clear hwt hwf
    refine z_aload_n F dX4_readSight_30 31 rfl 2 rfl ?_
    refine z_get F dX4_readSight_31 34 rfl kX4_readSight_50 2 rfl rfl ?_
    refine z_iload_n F dX4_readSight_34 35 rfl 4 rfl ?_
    refine z_iload F dX4_readSight_35 37 rfl 0 rfl ?_
    refine z_callVi (As := [.int x3, .int s0]) (st := []) F dX4_readSight_37 40 rfl (mX3_has C.1.2.1 D cyI cyB (fun j => aH (3 + j)) x3 s0 (hI 4) (hR 2) (hR 3) hw) y_X3_has rfl gX4_readSight_X3_has rfl (ci := 3) (rq := 0) rfl rfl ⟨Nat.le_of_ble_eq_true rfl, Nat.le_of_ble_eq_true rfl⟩ ⟨Nat.zero_le _, Nat.zero_le _⟩ (Nat.le_of_ble_eq_true rfl) [5, 6, 7] (by decide) rfl (fun _ => rfl) (fun u => (wTe aT cyB tI tR ++ wHo aH cyI hI hR)) (fun _ => rfl) (fun r0 u hp => ?_)
    obtain ⟨b1, rfl, hw⟩ := hp
    obtain ⟨hwt, hwf⟩ := hw
    refine z_ifeqB F dX4_readSight_40 50 rfl 43 rfl (fun c3 => ?_) (fun c3 => ?_)
    · have hw := hwt c3; clear hwt hwf
      refine z_aload_n F dX4_readSight_50 51 rfl 1 rfl ?_
      refine z_bipush F dX4_readSight_51 53 rfl zkb_59 ?_
      refine z_segVi (As := [.int 59]) (st := []) F dX4_readSight_53 56 rfl (mX4_readSign C.1.2.1 D cyI cyB aT 59 tI tR hw) y_X4_readSign rfl gX4_readSight_X4_readSign rfl (ci := 4) (rq := 0) rfl rfl ⟨Nat.le_of_ble_eq_true rfl, Nat.le_of_ble_eq_true rfl⟩ ⟨Nat.zero_le _, Nat.zero_le _⟩ (Nat.le_of_ble_eq_true rfl) [] (wHo aH cyI hI hR) (by simp only [List.append_assoc, List.nil_append, List.append_nil]) (fun _ => rfl) (fun u => (wTe aT cyB u.1 u.2 ++ wHo aH cyI hI hR)) (fun u => (by simp only [List.append_assoc, List.nil_append, List.append_nil])) (fun r0 u hp => ?_)
      obtain ⟨tI_3, tR_3⟩ := u
      obtain ⟨b2, rfl, hw⟩ := hp
      obtain ⟨hwt, hwf⟩ := hw
      refine z_ifneB F dX4_readSight_56 61 rfl 59 rfl (fun c4 => ?_) (fun c4 => ?_)
      · have hw := hwt c4; clear hwt hwf
        refine z_aload_n F dX4_readSight_61 62 rfl 2 rfl ?_
        refine z_get F dX4_readSight_62 65 rfl kX4_readSight_50 2 rfl rfl ?_
        refine z_iload_n F dX4_readSight_65 66 rfl 4 rfl ?_
        refine z_iload F dX4_readSight_66 68 rfl 0 rfl ?_
        refine z_callVv (As := [.int x3, .int s0]) (st := []) F dX4_readSight_68 71 rfl (mX3_add C.1.2.1 D cyI cyB (fun j => aH (3 + j)) x3 s0 (hI 4) (hR 2) (hR 3) hw) y_X3_add rfl gX4_readSight_X3_add rfl (ci := 3) (rq := 0) rfl rfl ⟨Nat.le_of_ble_eq_true rfl, Nat.le_of_ble_eq_true rfl⟩ ⟨Nat.zero_le _, Nat.zero_le _⟩ (Nat.le_of_ble_eq_true rfl) [5, 6, 7] (by decide) rfl (fun _ => rfl) (fun u => (wTe aT cyB tI_3 tR_3 ++ wHo aH cyI (va_up hI 4 u.1) (va_up (va_up hR 2 u.2.1) 3 u.2.2))) (fun _ => rfl) (fun u hp => ?_)
        obtain ⟨pn_1, pf_1, ps_1⟩ := u
        replace hw := hp
        clear hp
        refine z_iconst F dX4_readSight_71 72 rfl zki_1 ?_
        exact hRt 72 _ true (tI_3, tR_3, (va_up hI 4 pn_1), (va_up (va_up hR 2 pf_1) 3 ps_1)) dX4_readSight_72 ⟨true, rfl, hw⟩
      · have hw := hwf c4; clear hwt hwf
        refine z_iconst F dX4_readSight_59 60 rfl zki_0 ?_
        exact hRt 60 _ false (tI_3, tR_3, hI, hR) dX4_readSight_60 ⟨false, rfl, hw⟩
    · have hw := hwf c3; clear hwt hwf
      refine z_aload_n F dX4_readSight_43 44 rfl 1 rfl ?_
      refine z_iload_n F dX4_readSight_44 45 rfl 3 rfl ?_
      refine z_put F dX4_readSight_45 48 rfl kX4_readSight_19 0 rfl rfl rfl (Nat.le_of_ble_eq_true rfl) (wTe aT cyB (va_up tI 1 x2) tR ++ wHo aH cyI hI hR) rfl ?_
      refine z_iconst F dX4_readSight_48 49 rfl zki_0 ?_
      exact hRt 49 _ false ((va_up tI 1 x2), tR, hI, hR) dX4_readSight_49 ⟨false, rfl, hw⟩
  · have hw := hwf c2; clear hwt hwf
    refine z_iconst F dX4_readSight_28 29 rfl zki_0 ?_
    exact hRt 29 _ false (tI, tR, hI, hR) dX4_readSight_29 ⟨false, rfl, hw⟩
set_option maxHeartbeats 4000000 in
set_option maxRecDepth 100000 in
theorem xX4_readSight_0 {C : zC} {D : va_G} {cyI cyB : ClassId} {aT : Nat → Nat} {aH : Nat → Nat} (x2 : Int32) (tI : Nat → Int32) (tR : Nat → Nat → Int32) (hI : Nat → Int32) (hR : Nat → Nat → Int32) (F : zF C D { frames := 2, cells := 0, slots := 0, locals := 44 } cX4_readSight 5 wsX4_readSight RX4 (some .boolean) cyI cyB) {post : Bool → (Nat → Int32) → (Nat → Nat → Int32) → (Nat → Int32) → (Nat → Nat → Int32) → Prop} (hRt : zRz C D cX4_readSight 5 (S := ((Nat → Int32) × (Nat → Nat → Int32) × (Nat → Int32) × (Nat → Nat → Int32))) (fun u => (wTe aT cyB u.1 u.2.1 ++ wHo aH cyI u.2.2.1 u.2.2.2)) (fun r u => ∃ b : Bool, r = zb b ∧ post b u.1 u.2.1 u.2.2.1 u.2.2.2)) (hw : pX4_readSight x2 tI tR hI hR post) : zX C D 5 0 0 (wTe aT cyB tI tR ++ wHo aH cyI hI hR) 0 [(0, .ref (aT 0)), (1, .ref (aH 0)), (2, .int x2)] [] := by
  refine z_aload_n F dX4_readSight_0 1 rfl 0 rfl ?_
  refine z_aload_n F dX4_readSight_1 2 rfl 1 rfl ?_
  refine z_iconst F dX4_readSight_2 3 rfl zki_m1 ?_
  refine z_segVi (As := [.ref (aH 0), .int (-1)]) (st := []) F dX4_readSight_3 6 rfl (mX4_readDigit C.1.2.1 D cyI cyB aT aH (-1) tI tR hI hR hw) y_X4_readDigit rfl gX4_readSight_X4_readDigit rfl (ci := 4) (rq := 0) rfl rfl ⟨Nat.le_of_ble_eq_true rfl, Nat.le_of_ble_eq_true rfl⟩ ⟨Nat.zero_le _, Nat.zero_le _⟩ (Nat.le_of_ble_eq_true rfl) [] [] (by simp only [List.append_assoc, List.nil_append, List.append_nil]) (fun _ => rfl) (fun u => (wTe aT cyB u.1 u.2 ++ wHo aH cyI hI hR)) (fun u => (by simp only [List.append_assoc, List.nil_append, List.append_nil])) (fun r1 u hp => ?_)
  obtain ⟨tI_1, tR_1⟩ := u
  replace hw := hp
  clear hp
  refine z_istore_n (lv' := [(3, .int r1), (0, .ref (aT 0)), (1, .ref (aH 0)), (2, .int x2)]) F dX4_readSight_6 7 rfl (by decide) rfl ?_
  refine z_iload_n F dX4_readSight_7 8 rfl 0 rfl ?_
  obtain ⟨hwt, hwf⟩ := hw
  refine z_ifge F dX4_readSight_8 15 rfl 11 rfl (fun c1 => ?_) (fun c1 => ?_)
  · have hw := hwt c1; clear hwt hwf
    refine z_aload_n F dX4_readSight_15 16 rfl 1 rfl ?_
    refine z_aload_n F dX4_readSight_16 17 rfl 2 rfl ?_
    refine z_iload_n F dX4_readSight_17 18 rfl 0 rfl ?_
    refine z_segVi (As := [.ref (aH 0), .int r1]) (st := []) F dX4_readSight_18 21 rfl (mX4_readDigit C.1.2.1 D cyI cyB aT aH r1 tI_1 tR_1 hI hR hw) y_X4_readDigit rfl gX4_readSight_X4_readDigit rfl (ci := 4) (rq := 0) rfl rfl ⟨Nat.le_of_ble_eq_true rfl, Nat.le_of_ble_eq_true rfl⟩ ⟨Nat.zero_le _, Nat.zero_le _⟩ (Nat.le_of_ble_eq_true rfl) [] [] (by simp only [List.append_assoc, List.nil_append, List.append_nil]) (fun _ => rfl) (fun u => (wTe aT cyB u.1 u.2 ++ wHo aH cyI hI hR)) (fun u => (by simp only [List.append_assoc, List.nil_append, List.append_nil])) (fun r2 u hp => ?_)
    obtain ⟨tI_2, tR_2⟩ := u
    replace hw := hp
    clear hp
    refine z_lv (lv' := [(0, .ref (aT 0)), (1, .ref (aH 0)), (2, .int x2), (3, .int r1)]) [1, 2, 3, 0] rfl ?_
    exact xX4_readSight_21 x2 r1 r2 tI_2 tR_2 hI hR F hRt hw
  · have hw := hwf c1; clear hwt hwf
    refine z_iconst F dX4_readSight_11 12 rfl zki_m1 ?_
    refine z_goto F dX4_readSight_12 21 rfl ?_
    refine z_lv (lv' := [(0, .ref (aT 0)), (1, .ref (aH 0)), (2, .int x2), (3, .int r1)]) [1, 2, 3, 0] rfl ?_
    exact xX4_readSight_21 x2 r1 (-1) tI_1 tR_1 hI hR F hRt hw
set_option maxHeartbeats 4000000 in
set_option maxRecDepth 100000 in
theorem mX4_readSight (l : Launch) (D : va_G) (cyI cyB : ClassId) (aT : Nat → Nat) (aH : Nat → Nat) (x2 : Int32) (tI : Nat → Int32) (tR : Nat → Nat → Int32) (hI : Nat → Int32) (hR : Nat → Nat → Int32) {post : Bool → (Nat → Int32) → (Nat → Nat → Int32) → (Nat → Int32) → (Nat → Nat → Int32) → Prop} (hw : pX4_readSight x2 tI tR hI hR post) : zMi l yX4_readSight wsX4_readSight 2 44 D cyI cyB [.ref (aT 0), .ref (aH 0), .int x2] (wTe aT cyB tI tR ++ wHo aH cyI hI hR) (S := ((Nat → Int32) × (Nat → Nat → Int32) × (Nat → Int32) × (Nat → Nat → Int32))) (fun u => (wTe aT cyB u.1 u.2.1 ++ wHo aH cyI u.2.2.1 u.2.2.2)) (fun r u => ∃ b : Bool, r = zb b ∧ post b u.1 u.2.1 u.2.2.1 u.2.2.2) :=
  z_metz (cc := cX4_readSight) (nL := 5) (by decide +kernel) rfl (Nat.le_of_ble_eq_true rfl) (fun C hl F hRt => xX4_readSight_0 x2 tI tR hI hR F hRt hw)
theorem y_X4_readSight : zY yX4_readSight wsX4_readSight cX4_readSight 5 (some .boolean) 2 := ⟨⟨_, rfl⟩, by decide +kernel⟩
theorem iX4_readTie_1 : ∀ w ∈ wsX10, w ∈ wsX4_readTie := fun w h => List.mem_cons_of_mem _ (List.mem_append_left _ (List.mem_append_left _ (List.mem_append_right _ h)))
theorem kX4_readTie_60 : zL wsX4_readTie RX4 60 1 3 (.object "StillRoom$Pairs") true := zL1 iX4_readTie_1 (by decide) (List.mem_of_getElem? (i := 1) rfl) rfl rfl
set_option maxHeartbeats 4000000 in
set_option maxRecDepth 100000 in
theorem xX4_readTie_21 {C : zC} {D : va_G} {cyI cyB : ClassId} {aT : Nat → Nat} {aH : Nat → Nat} (x2 : Int32) (s0 : Int32) (tI : Nat → Int32) (tR : Nat → Nat → Int32) (hI : Nat → Int32) (hR : Nat → Nat → Int32) (F : zF C D { frames := 2, cells := 0, slots := 0, locals := 44 } cX4_readTie 4 wsX4_readTie RX4 (some .boolean) cyI cyB) {post : Bool → (Nat → Int32) → (Nat → Nat → Int32) → (Nat → Int32) → (Nat → Nat → Int32) → Prop} (hRt : zRz C D cX4_readTie 4 (S := ((Nat → Int32) × (Nat → Nat → Int32) × (Nat → Int32) × (Nat → Nat → Int32))) (fun u => (wTe aT cyB u.1 u.2.1 ++ wHo aH cyI u.2.2.1 u.2.2.2)) (fun r u => ∃ b : Bool, r = zb b ∧ post b u.1 u.2.1 u.2.2.1 u.2.2.2)) (hw : bX4_readTie_21 x2 s0 tI tR hI hR post ) : zX C D 4 0 0 (wTe aT cyB tI tR ++ wHo aH cyI hI hR) 21 [(0, .ref (aT 0)), (1, .ref (aH 0)), (2, .int x2)] [.int s0] := by
  refine z_istore_n (lv' := [(3, .int s0), (0, .ref (aT 0)), (1, .ref (aH 0)), (2, .int x2)]) F dX4_readTie_21 22 rfl (by decide) rfl ?_
  refine z_iload_n F dX4_readTie_22 23 rfl 0 rfl ?_
  obtain ⟨hwt, hwf⟩ := hw
  refine z_iflt F dX4_readTie_23 35 rfl 26 rfl (fun c2 => ?_) (fun c2 => ?_)
  · have hw := hwt c2; clear hwt hwf
    refine z_iconst F dX4_readTie_35 36 rfl zki_0 ?_
    exact hRt 36 _ false (tI, tR, hI, hR) dX4_readTie_36 ⟨false, rfl, hw⟩
  · have hw := hwf c2; clear hwt hwf
    refine z_aload_n F dX4_readTie_26 27 rfl 1 rfl ?_
    refine z_bipush F dX4_readTie_27 29 rfl zkb_59 ?_
    refine z_segVi (As := [.int 59]) (st := []) F dX4_readTie_29 32 rfl (mX4_readSign C.1.2.1 D cyI cyB aT 59 tI tR hw) y_X4_readSign rfl gX4_readTie_X4_readSign rfl (ci := 4) (rq := 0) rfl rfl ⟨Nat.le_of_ble_eq_true rfl, Nat.le_of_ble_eq_true rfl⟩ ⟨Nat.zero_le _, Nat.zero_le _⟩ (Nat.le_of_ble_eq_true rfl) [] (wHo aH cyI hI hR) (by simp only [List.append_assoc, List.nil_append, List.append_nil]) (fun _ => rfl) (fun u => (wTe aT cyB u.1 u.2 ++ wHo aH cyI hI hR)) (fun u => (by simp only [List.append_assoc, List.nil_append, List.append_nil])) (fun r0 u hp => ?_)
    obtain ⟨tI_3, tR_3⟩ := u
    obtain ⟨b1, rfl, hw⟩ := hp
    obtain ⟨hwt, hwf⟩ := hw
    refine z_ifneB F dX4_readTie_32 37 rfl 35 rfl (fun c3 => ?_) (fun c3 => ?_)
    · have hw := hwt c3; clear hwt hwf
      refine z_aload_n F dX4_readTie_37 38 rfl 2 rfl ?_
      refine z_get F dX4_readTie_38 41 rfl kX4_readTie_60 2 rfl rfl ?_
      refine z_iload_n F dX4_readTie_41 42 rfl 3 rfl ?_
      refine z_iload_n F dX4_readTie_42 43 rfl 0 rfl ?_
      refine z_callVv (As := [.int x2, .int s0]) (st := []) F dX4_readTie_43 46 rfl (mX3_add C.1.2.1 D cyI cyB (fun j => aH (6 + j)) x2 s0 (hI 5) (hR 4) (hR 5) hw) y_X3_add rfl gX4_readTie_X3_add rfl (ci := 3) (rq := 0) rfl rfl ⟨Nat.le_of_ble_eq_true rfl, Nat.le_of_ble_eq_true rfl⟩ ⟨Nat.zero_le _, Nat.zero_le _⟩ (Nat.le_of_ble_eq_true rfl) [8, 9, 10] (by decide) rfl (fun _ => rfl) (fun u => (wTe aT cyB tI_3 tR_3 ++ wHo aH cyI (va_up hI 5 u.1) (va_up (va_up hR 4 u.2.1) 5 u.2.2))) (fun _ => rfl) (fun u hp => ?_)
      obtain ⟨pn_1, pf_1, ps_1⟩ := u
      replace hw := hp
      clear hp
      refine z_iconst F dX4_readTie_46 47 rfl zki_1 ?_
      exact hRt 47 _ true (tI_3, tR_3, (va_up hI 5 pn_1), (va_up (va_up hR 4 pf_1) 5 ps_1)) dX4_readTie_47 ⟨true, rfl, hw⟩
    · have hw := hwf c3; clear hwt hwf
      refine z_iconst F dX4_readTie_35 36 rfl zki_0 ?_
      exact hRt 36 _ false (tI_3, tR_3, hI, hR) dX4_readTie_36 ⟨false, rfl, hw⟩
set_option maxHeartbeats 4000000 in
set_option maxRecDepth 100000 in
theorem xX4_readTie_0 {C : zC} {D : va_G} {cyI cyB : ClassId} {aT : Nat → Nat} {aH : Nat → Nat} (tI : Nat → Int32) (tR : Nat → Nat → Int32) (hI : Nat → Int32) (hR : Nat → Nat → Int32) (F : zF C D { frames := 2, cells := 0, slots := 0, locals := 44 } cX4_readTie 4 wsX4_readTie RX4 (some .boolean) cyI cyB) {post : Bool → (Nat → Int32) → (Nat → Nat → Int32) → (Nat → Int32) → (Nat → Nat → Int32) → Prop} (hRt : zRz C D cX4_readTie 4 (S := ((Nat → Int32) × (Nat → Nat → Int32) × (Nat → Int32) × (Nat → Nat → Int32))) (fun u => (wTe aT cyB u.1 u.2.1 ++ wHo aH cyI u.2.2.1 u.2.2.2)) (fun r u => ∃ b : Bool, r = zb b ∧ post b u.1 u.2.1 u.2.2.1 u.2.2.2)) (hw : pX4_readTie tI tR hI hR post) : zX C D 4 0 0 (wTe aT cyB tI tR ++ wHo aH cyI hI hR) 0 [(0, .ref (aT 0)), (1, .ref (aH 0))] [] := by
  refine z_aload_n F dX4_readTie_0 1 rfl 0 rfl ?_
  refine z_aload_n F dX4_readTie_1 2 rfl 1 rfl ?_
  refine z_iconst F dX4_readTie_2 3 rfl zki_m1 ?_
  refine z_segVi (As := [.ref (aH 0), .int (-1)]) (st := []) F dX4_readTie_3 6 rfl (mX4_readDigit C.1.2.1 D cyI cyB aT aH (-1) tI tR hI hR hw) y_X4_readDigit rfl gX4_readTie_X4_readDigit rfl (ci := 4) (rq := 0) rfl rfl ⟨Nat.le_of_ble_eq_true rfl, Nat.le_of_ble_eq_true rfl⟩ ⟨Nat.zero_le _, Nat.zero_le _⟩ (Nat.le_of_ble_eq_true rfl) [] [] (by simp only [List.append_assoc, List.nil_append, List.append_nil]) (fun _ => rfl) (fun u => (wTe aT cyB u.1 u.2 ++ wHo aH cyI hI hR)) (fun u => (by simp only [List.append_assoc, List.nil_append, List.append_nil])) (fun r1 u hp => ?_)
  obtain ⟨tI_1, tR_1⟩ := u
  replace hw := hp
  clear hp
  refine z_istore_n (lv' := [(2, .int r1), (0, .ref (aT 0)), (1, .ref (aH 0))]) F dX4_readTie_6 7 rfl (by decide) rfl ?_
  refine z_iload_n F dX4_readTie_7 8 rfl 0 rfl ?_
  obtain ⟨hwt, hwf⟩ := hw
  refine z_ifge F dX4_readTie_8 15 rfl 11 rfl (fun c1 => ?_) (fun c1 => ?_)
  · have hw := hwt c1; clear hwt hwf
    refine z_aload_n F dX4_readTie_15 16 rfl 1 rfl ?_
    refine z_aload_n F dX4_readTie_16 17 rfl 2 rfl ?_
    refine z_iload_n F dX4_readTie_17 18 rfl 0 rfl ?_
    refine z_segVi (As := [.ref (aH 0), .int r1]) (st := []) F dX4_readTie_18 21 rfl (mX4_readDigit C.1.2.1 D cyI cyB aT aH r1 tI_1 tR_1 hI hR hw) y_X4_readDigit rfl gX4_readTie_X4_readDigit rfl (ci := 4) (rq := 0) rfl rfl ⟨Nat.le_of_ble_eq_true rfl, Nat.le_of_ble_eq_true rfl⟩ ⟨Nat.zero_le _, Nat.zero_le _⟩ (Nat.le_of_ble_eq_true rfl) [] [] (by simp only [List.append_assoc, List.nil_append, List.append_nil]) (fun _ => rfl) (fun u => (wTe aT cyB u.1 u.2 ++ wHo aH cyI hI hR)) (fun u => (by simp only [List.append_assoc, List.nil_append, List.append_nil])) (fun r2 u hp => ?_)
    obtain ⟨tI_2, tR_2⟩ := u
    replace hw := hp
    clear hp
    refine z_lv (lv' := [(0, .ref (aT 0)), (1, .ref (aH 0)), (2, .int r1)]) [1, 2, 0] rfl ?_
    exact xX4_readTie_21 r1 r2 tI_2 tR_2 hI hR F hRt hw
  · have hw := hwf c1; clear hwt hwf
    refine z_iconst F dX4_readTie_11 12 rfl zki_m1 ?_
    refine z_goto F dX4_readTie_12 21 rfl ?_
    refine z_lv (lv' := [(0, .ref (aT 0)), (1, .ref (aH 0)), (2, .int r1)]) [1, 2, 0] rfl ?_
    exact xX4_readTie_21 r1 (-1) tI_1 tR_1 hI hR F hRt hw
set_option maxHeartbeats 4000000 in
set_option maxRecDepth 100000 in
theorem mX4_readTie (l : Launch) (D : va_G) (cyI cyB : ClassId) (aT : Nat → Nat) (aH : Nat → Nat) (tI : Nat → Int32) (tR : Nat → Nat → Int32) (hI : Nat → Int32) (hR : Nat → Nat → Int32) {post : Bool → (Nat → Int32) → (Nat → Nat → Int32) → (Nat → Int32) → (Nat → Nat → Int32) → Prop} (hw : pX4_readTie tI tR hI hR post) : zMi l yX4_readTie wsX4_readTie 2 44 D cyI cyB [.ref (aT 0), .ref (aH 0)] (wTe aT cyB tI tR ++ wHo aH cyI hI hR) (S := ((Nat → Int32) × (Nat → Nat → Int32) × (Nat → Int32) × (Nat → Nat → Int32))) (fun u => (wTe aT cyB u.1 u.2.1 ++ wHo aH cyI u.2.2.1 u.2.2.2)) (fun r u => ∃ b : Bool, r = zb b ∧ post b u.1 u.2.1 u.2.2.1 u.2.2.2) :=
  z_metz (cc := cX4_readTie) (nL := 4) (by decide +kernel) rfl (Nat.le_of_ble_eq_true rfl) (fun C hl F hRt => xX4_readTie_0 tI tR hI hR F hRt hw)
theorem y_X4_readTie : zY yX4_readTie wsX4_readTie cX4_readTie 4 (some .boolean) 1 := ⟨⟨_, rfl⟩, by decide +kernel⟩
theorem iX4_readGuess_1 : ∀ w ∈ wsX10, w ∈ wsX4_readGuess := fun w h => List.mem_cons_of_mem _ (List.mem_append_left _ (List.mem_append_right _ h))
theorem iX4_readGuess_4 : ∀ w ∈ wsX40, w ∈ wsX4_readGuess := fun w h => List.mem_cons_of_mem _ (List.mem_append_left _ (List.mem_append_left _ (List.mem_append_right _ h)))
theorem kX4_readGuess_9 : zL wsX4_readGuess RX4 9 4 0 (.array .byte) true := zL4 iX4_readGuess_4 (by decide) (List.mem_of_getElem? (i := 3) rfl) rfl rfl
theorem kX4_readGuess_15 : zL wsX4_readGuess RX4 15 4 1 .int false := zL4 iX4_readGuess_4 (by decide) (List.mem_of_getElem? (i := 2) rfl) rfl rfl
theorem kX4_readGuess_19 : zL wsX4_readGuess RX4 19 4 2 .int false := zL4 iX4_readGuess_4 (by decide) (List.mem_of_getElem? (i := 1) rfl) rfl rfl
theorem kX4_readGuess_63 : zL wsX4_readGuess RX4 63 1 4 (.object "StillRoom$Pairs") true := zL1 iX4_readGuess_1 (by decide) (List.mem_of_getElem? (i := 4) rfl) rfl rfl
set_option maxHeartbeats 4000000 in
set_option maxRecDepth 100000 in
theorem xX4_readGuess_48 {C : zC} {D : va_G} {cyI cyB : ClassId} {aT : Nat → Nat} {aH : Nat → Nat} (x2 : Int32) (s0 : Int32) (tI : Nat → Int32) (tR : Nat → Nat → Int32) (hI : Nat → Int32) (hR : Nat → Nat → Int32) (F : zF C D { frames := 2, cells := 0, slots := 0, locals := 45 } cX4_readGuess 4 wsX4_readGuess RX4 (some .boolean) cyI cyB) {post : Bool → (Nat → Int32) → (Nat → Nat → Int32) → (Nat → Int32) → (Nat → Nat → Int32) → Prop} (hRt : zRz C D cX4_readGuess 4 (S := ((Nat → Int32) × (Nat → Nat → Int32) × (Nat → Int32) × (Nat → Nat → Int32))) (fun u => (wTe aT cyB u.1 u.2.1 ++ wHo aH cyI u.2.2.1 u.2.2.2)) (fun r u => ∃ b : Bool, r = zb b ∧ post b u.1 u.2.1 u.2.2.1 u.2.2.2)) (hw : bX4_readGuess_48 x2 s0 tI tR hI hR post ) : zX C D 4 0 0 (wTe aT cyB tI tR ++ wHo aH cyI hI hR) 48 [(0, .ref (aT 0)), (1, .ref (aH 0)), (2, .int x2)] [.int s0] := by
  refine z_istore_n (lv' := [(3, .int s0), (0, .ref (aT 0)), (1, .ref (aH 0)), (2, .int x2)]) F dX4_readGuess_48 49 rfl (by decide) rfl ?_
  refine z_aload_n F dX4_readGuess_49 50 rfl 2 rfl ?_
  refine z_iload_n F dX4_readGuess_50 51 rfl 0 rfl ?_
  refine z_segVi (As := [.int s0]) (st := []) F dX4_readGuess_51 54 rfl (mX1_isStep C.1.2.1 D cyI cyB aH s0 hI hR hw) y_X1_isStep rfl gX4_readGuess_X1_isStep rfl (ci := 1) (rq := 0) rfl rfl ⟨Nat.le_of_ble_eq_true rfl, Nat.le_of_ble_eq_true rfl⟩ ⟨Nat.zero_le _, Nat.zero_le _⟩ (Nat.le_of_ble_eq_true rfl) (wTe aT cyB tI tR) [] (by simp only [List.append_assoc, List.nil_append, List.append_nil]) (fun _ => rfl) (fun u => (wTe aT cyB tI tR ++ wHo aH cyI hI hR)) (fun u => (by simp only [List.append_assoc, List.nil_append, List.append_nil])) (fun r0 u hp => ?_)
  obtain ⟨b2, rfl, hw⟩ := hp
  obtain ⟨hwt, hwf⟩ := hw
  refine z_ifeqB F dX4_readGuess_54 65 rfl 57 rfl (fun c4 => ?_) (fun c4 => ?_)
  · have hw := hwt c4; clear hwt hwf
    refine z_iconst F dX4_readGuess_65 66 rfl zki_0 ?_
    exact hRt 66 _ false (tI, tR, hI, hR) dX4_readGuess_66 ⟨false, rfl, hw⟩
  · have hw := hwf c4; clear hwt hwf
    refine z_iload_n F dX4_readGuess_57 58 rfl 3 rfl ?_
    refine z_iload_n F dX4_readGuess_58 59 rfl 0 rfl ?_
    refine z_callSNi (As := [.int x2, .int s0]) (st := []) F dX4_readGuess_59 62 rfl (mX5_contains C.1.2.1 D cyI cyB x2 s0 hw) y_X5_contains rfl gX4_readGuess_X5_contains_n94 F.2.2.1.2.2.2.2.1 (List.mem_of_getElem? (i := 21) rfl) (List.mem_of_getElem? (i := 20) rfl) ⟨Nat.le_of_ble_eq_true rfl, Nat.le_of_ble_eq_true rfl⟩ ⟨Nat.zero_le _, Nat.zero_le _⟩ (Nat.le_of_ble_eq_true rfl) [] (by decide) rfl (fun _ => rfl) (fun u => (wTe aT cyB tI tR ++ wHo aH cyI hI hR)) (fun _ => rfl) (fun r0 u hp => ?_)
    obtain ⟨b3, rfl, hw⟩ := hp
    obtain ⟨hwt, hwf⟩ := hw
    refine z_ifeqB F dX4_readGuess_62 67 rfl 65 rfl (fun c5 => ?_) (fun c5 => ?_)
    · have hw := hwt c5; clear hwt hwf
      refine z_aload_n F dX4_readGuess_67 68 rfl 1 rfl ?_
      refine z_dup F dX4_readGuess_68 69 rfl rfl ?_
      refine z_get F dX4_readGuess_69 72 rfl kX4_readGuess_19 0 rfl rfl ?_
      refine z_iconst F dX4_readGuess_72 73 rfl zki_1 ?_
      refine z_iadd F dX4_readGuess_73 74 rfl ?_
      refine z_topi (fun v1 ev1 => ?_)
      replace hw := hw v1 ev1
      refine z_put F dX4_readGuess_74 77 rfl kX4_readGuess_19 0 rfl rfl rfl (Nat.le_of_ble_eq_true rfl) (wTe aT cyB (va_up tI 1 v1) tR ++ wHo aH cyI hI hR) rfl ?_
      refine z_aload_n F dX4_readGuess_77 78 rfl 1 rfl ?_
      refine z_bipush F dX4_readGuess_78 80 rfl zkb_59 ?_
      refine z_segVi (As := [.int 59]) (st := []) F dX4_readGuess_80 83 rfl (mX4_readSign C.1.2.1 D cyI cyB aT 59 (va_up tI 1 v1) tR hw) y_X4_readSign rfl gX4_readGuess_X4_readSign rfl (ci := 4) (rq := 0) rfl rfl ⟨Nat.le_of_ble_eq_true rfl, Nat.le_of_ble_eq_true rfl⟩ ⟨Nat.zero_le _, Nat.zero_le _⟩ (Nat.le_of_ble_eq_true rfl) [] (wHo aH cyI hI hR) (by simp only [List.append_assoc, List.nil_append, List.append_nil]) (fun _ => rfl) (fun u => (wTe aT cyB u.1 u.2 ++ wHo aH cyI hI hR)) (fun u => (by simp only [List.append_assoc, List.nil_append, List.append_nil])) (fun r0 u hp => ?_)
      obtain ⟨tI_3, tR_3⟩ := u
      obtain ⟨b4, rfl, hw⟩ := hp
      obtain ⟨hwt, hwf⟩ := hw
      refine z_ifneB F dX4_readGuess_83 88 rfl 86 rfl (fun c6 => ?_) (fun c6 => ?_)
      · have hw := hwt c6; clear hwt hwf
        refine z_aload_n F dX4_readGuess_88 89 rfl 2 rfl ?_
        refine z_get F dX4_readGuess_89 92 rfl kX4_readGuess_63 2 rfl rfl ?_
        refine z_iload_n F dX4_readGuess_92 93 rfl 3 rfl ?_
        refine z_iload_n F dX4_readGuess_93 94 rfl 0 rfl ?_
        refine z_callVv (As := [.int x2, .int s0]) (st := []) F dX4_readGuess_94 97 rfl (mX3_add C.1.2.1 D cyI cyB (fun j => aH (9 + j)) x2 s0 (hI 6) (hR 6) (hR 7) hw) y_X3_add rfl gX4_readGuess_X3_add rfl (ci := 3) (rq := 0) rfl rfl ⟨Nat.le_of_ble_eq_true rfl, Nat.le_of_ble_eq_true rfl⟩ ⟨Nat.zero_le _, Nat.zero_le _⟩ (Nat.le_of_ble_eq_true rfl) [11, 12, 13] (by decide) rfl (fun _ => rfl) (fun u => (wTe aT cyB tI_3 tR_3 ++ wHo aH cyI (va_up hI 6 u.1) (va_up (va_up hR 6 u.2.1) 7 u.2.2))) (fun _ => rfl) (fun u hp => ?_)
        obtain ⟨pn_1, pf_1, ps_1⟩ := u
        replace hw := hp
        clear hp
        refine z_iconst F dX4_readGuess_97 98 rfl zki_1 ?_
        exact hRt 98 _ true (tI_3, tR_3, (va_up hI 6 pn_1), (va_up (va_up hR 6 pf_1) 7 ps_1)) dX4_readGuess_98 ⟨true, rfl, hw⟩
      · have hw := hwf c6; clear hwt hwf
        refine z_iconst F dX4_readGuess_86 87 rfl zki_0 ?_
        exact hRt 87 _ false (tI_3, tR_3, hI, hR) dX4_readGuess_87 ⟨false, rfl, hw⟩
    · have hw := hwf c5; clear hwt hwf
      refine z_iconst F dX4_readGuess_65 66 rfl zki_0 ?_
      exact hRt 66 _ false (tI, tR, hI, hR) dX4_readGuess_66 ⟨false, rfl, hw⟩
set_option maxHeartbeats 4000000 in
set_option maxRecDepth 100000 in
theorem xX4_readGuess_0 {C : zC} {D : va_G} {cyI cyB : ClassId} {aT : Nat → Nat} {aH : Nat → Nat} (tI : Nat → Int32) (tR : Nat → Nat → Int32) (hI : Nat → Int32) (hR : Nat → Nat → Int32) (F : zF C D { frames := 2, cells := 0, slots := 0, locals := 45 } cX4_readGuess 4 wsX4_readGuess RX4 (some .boolean) cyI cyB) {post : Bool → (Nat → Int32) → (Nat → Nat → Int32) → (Nat → Int32) → (Nat → Nat → Int32) → Prop} (hRt : zRz C D cX4_readGuess 4 (S := ((Nat → Int32) × (Nat → Nat → Int32) × (Nat → Int32) × (Nat → Nat → Int32))) (fun u => (wTe aT cyB u.1 u.2.1 ++ wHo aH cyI u.2.2.1 u.2.2.2)) (fun r u => ∃ b : Bool, r = zb b ∧ post b u.1 u.2.1 u.2.2.1 u.2.2.2)) (hw : pX4_readGuess tI tR hI hR post) : zX C D 4 0 0 (wTe aT cyB tI tR ++ wHo aH cyI hI hR) 0 [(0, .ref (aT 0)), (1, .ref (aH 0))] [] := by
  refine z_aload_n F dX4_readGuess_0 1 rfl 0 rfl ?_
  refine z_aload_n F dX4_readGuess_1 2 rfl 1 rfl ?_
  refine z_segVi (As := [.ref (aH 0)]) (st := []) F dX4_readGuess_2 5 rfl (mX4_readSteps C.1.2.1 D cyI cyB aT aH tI tR hI hR hw) y_X4_readSteps rfl gX4_readGuess_X4_readSteps rfl (ci := 4) (rq := 0) rfl rfl ⟨Nat.le_of_ble_eq_true rfl, Nat.le_of_ble_eq_true rfl⟩ ⟨Nat.zero_le _, Nat.zero_le _⟩ (Nat.le_of_ble_eq_true rfl) [] [] (by simp only [List.append_assoc, List.nil_append, List.append_nil]) (fun _ => rfl) (fun u => (wTe aT cyB u.1 u.2 ++ wHo aH cyI hI hR)) (fun u => (by simp only [List.append_assoc, List.nil_append, List.append_nil])) (fun r1 u hp => ?_)
  obtain ⟨tI_1, tR_1⟩ := u
  replace hw := hp
  clear hp
  refine z_istore_n (lv' := [(2, .int r1), (0, .ref (aT 0)), (1, .ref (aH 0))]) F dX4_readGuess_5 6 rfl (by decide) rfl ?_
  refine z_iload_n F dX4_readGuess_6 7 rfl 0 rfl ?_
  obtain ⟨hwt, hwf⟩ := hw
  refine z_ifeq F dX4_readGuess_7 19 rfl 10 rfl (fun c1 => ?_) (fun c1 => ?_)
  · have hw := hwt c1; clear hwt hwf
    refine z_iconst F dX4_readGuess_19 20 rfl zki_0 ?_
    exact hRt 20 _ false (tI_1, tR_1, hI, hR) dX4_readGuess_20 ⟨false, rfl, hw⟩
  · have hw := hwf c1; clear hwt hwf
    refine z_aload_n F dX4_readGuess_10 11 rfl 1 rfl ?_
    refine z_bipush F dX4_readGuess_11 13 rfl zkb_62 ?_
    refine z_segVi (As := [.int 62]) (st := []) F dX4_readGuess_13 16 rfl (mX4_readSign C.1.2.1 D cyI cyB aT 62 tI_1 tR_1 hw) y_X4_readSign rfl gX4_readGuess_X4_readSign rfl (ci := 4) (rq := 0) rfl rfl ⟨Nat.le_of_ble_eq_true rfl, Nat.le_of_ble_eq_true rfl⟩ ⟨Nat.zero_le _, Nat.zero_le _⟩ (Nat.le_of_ble_eq_true rfl) [] (wHo aH cyI hI hR) (by simp only [List.append_assoc, List.nil_append, List.append_nil]) (fun _ => rfl) (fun u => (wTe aT cyB u.1 u.2 ++ wHo aH cyI hI hR)) (fun u => (by simp only [List.append_assoc, List.nil_append, List.append_nil])) (fun r0 u hp => ?_)
    obtain ⟨tI_2, tR_2⟩ := u
    obtain ⟨b1, rfl, hw⟩ := hp
    obtain ⟨hwt, hwf⟩ := hw
    refine z_ifneB F dX4_readGuess_16 21 rfl 19 rfl (fun c2 => ?_) (fun c2 => ?_)
    · have hw := hwt c2; clear hwt hwf
      refine z_aload_n F dX4_readGuess_21 22 rfl 1 rfl ?_
      refine z_get F dX4_readGuess_22 25 rfl kX4_readGuess_19 0 rfl rfl ?_
      refine z_aload_n F dX4_readGuess_25 26 rfl 1 rfl ?_
      refine z_get F dX4_readGuess_26 29 rfl kX4_readGuess_15 0 rfl rfl ?_
      obtain ⟨hwt, hwf⟩ := hw
      refine z_icmpge F dX4_readGuess_29 47 rfl 32 rfl (fun c3 => ?_) (fun c3 => ?_)
      · have hw := hwt c3; clear hwt hwf
        refine z_iconst F dX4_readGuess_47 48 rfl zki_m1 ?_
        refine z_lv (lv' := [(0, .ref (aT 0)), (1, .ref (aH 0)), (2, .int r1)]) [1, 2, 0] rfl ?_
        exact xX4_readGuess_48 r1 (-1) tI_2 tR_2 hI hR F hRt hw
      · have hw := hwf c3; clear hwt hwf
        refine z_aload_n F dX4_readGuess_32 33 rfl 1 rfl ?_
        refine z_get F dX4_readGuess_33 36 rfl kX4_readGuess_9 0 rfl rfl ?_
        refine z_aload_n F dX4_readGuess_36 37 rfl 1 rfl ?_
        refine z_get F dX4_readGuess_37 40 rfl kX4_readGuess_19 0 rfl rfl ?_
        obtain ⟨j1, ej1, hj1, hw⟩ := hw
        refine z_bald F dX4_readGuess_40 41 rfl 1 rfl (by decide) j1 ej1 hj1 ?_
        refine z_bipush F dX4_readGuess_41 43 rfl zkb_97 ?_
        refine z_isub F dX4_readGuess_43 44 rfl ?_
        refine z_goto F dX4_readGuess_44 48 rfl ?_
        refine z_lv (lv' := [(0, .ref (aT 0)), (1, .ref (aH 0)), (2, .int r1)]) [1, 2, 0] rfl ?_
        exact xX4_readGuess_48 r1 (((tR_2 0) j1) - 97) tI_2 tR_2 hI hR F hRt hw
    · have hw := hwf c2; clear hwt hwf
      refine z_iconst F dX4_readGuess_19 20 rfl zki_0 ?_
      exact hRt 20 _ false (tI_2, tR_2, hI, hR) dX4_readGuess_20 ⟨false, rfl, hw⟩
set_option maxHeartbeats 4000000 in
set_option maxRecDepth 100000 in
theorem mX4_readGuess (l : Launch) (D : va_G) (cyI cyB : ClassId) (aT : Nat → Nat) (aH : Nat → Nat) (tI : Nat → Int32) (tR : Nat → Nat → Int32) (hI : Nat → Int32) (hR : Nat → Nat → Int32) {post : Bool → (Nat → Int32) → (Nat → Nat → Int32) → (Nat → Int32) → (Nat → Nat → Int32) → Prop} (hw : pX4_readGuess tI tR hI hR post) : zMi l yX4_readGuess wsX4_readGuess 2 45 D cyI cyB [.ref (aT 0), .ref (aH 0)] (wTe aT cyB tI tR ++ wHo aH cyI hI hR) (S := ((Nat → Int32) × (Nat → Nat → Int32) × (Nat → Int32) × (Nat → Nat → Int32))) (fun u => (wTe aT cyB u.1 u.2.1 ++ wHo aH cyI u.2.2.1 u.2.2.2)) (fun r u => ∃ b : Bool, r = zb b ∧ post b u.1 u.2.1 u.2.2.1 u.2.2.2) :=
  z_metz (cc := cX4_readGuess) (nL := 4) (by decide +kernel) rfl (Nat.le_of_ble_eq_true rfl) (fun C hl F hRt => xX4_readGuess_0 tI tR hI hR F hRt hw)
theorem y_X4_readGuess : zY yX4_readGuess wsX4_readGuess cX4_readGuess 4 (some .boolean) 1 := ⟨⟨_, rfl⟩, by decide +kernel⟩
theorem iX4_readPaper_1 : ∀ w ∈ wsX10, w ∈ wsX4_readPaper := fun w h => List.mem_cons_of_mem _ (List.mem_append_left _ (List.mem_append_right _ h))
theorem kX4_readPaper_97 : zL wsX4_readPaper RX4 97 1 8 .int false := zL1 iX4_readPaper_1 (by decide) (List.mem_of_getElem? (i := 1) rfl) rfl rfl
set_option maxHeartbeats 4000000 in
set_option maxRecDepth 100000 in
theorem xX4_readPaper_0 {C : zC} {D : va_G} {cyI cyB : ClassId} {aT : Nat → Nat} {aH : Nat → Nat} (tI : Nat → Int32) (tR : Nat → Nat → Int32) (hI : Nat → Int32) (hR : Nat → Nat → Int32) (F : zF C D { frames := 2, cells := 0, slots := 0, locals := 45 } cX4_readPaper 3 wsX4_readPaper RX4 (some .boolean) cyI cyB) {post : Bool → (Nat → Int32) → (Nat → Nat → Int32) → (Nat → Int32) → (Nat → Nat → Int32) → Prop} (hRt : zRz C D cX4_readPaper 3 (S := ((Nat → Int32) × (Nat → Nat → Int32) × (Nat → Int32) × (Nat → Nat → Int32))) (fun u => (wTe aT cyB u.1 u.2.1 ++ wHo aH cyI u.2.2.1 u.2.2.2)) (fun r u => ∃ b : Bool, r = zb b ∧ post b u.1 u.2.1 u.2.2.1 u.2.2.2)) (hw : pX4_readPaper tI tR hI hR post) : zX C D 3 0 0 (wTe aT cyB tI tR ++ wHo aH cyI hI hR) 0 [(0, .ref (aT 0)), (1, .ref (aH 0))] [] := by
  refine z_aload_n F dX4_readPaper_0 1 rfl 0 rfl ?_
  refine z_aload_n F dX4_readPaper_1 2 rfl 1 rfl ?_
  refine z_segVi (As := [.ref (aH 0)]) (st := []) F dX4_readPaper_2 5 rfl (mX4_readSteps C.1.2.1 D cyI cyB aT aH tI tR hI hR hw) y_X4_readSteps rfl gX4_readPaper_X4_readSteps rfl (ci := 4) (rq := 0) rfl rfl ⟨Nat.le_of_ble_eq_true rfl, Nat.le_of_ble_eq_true rfl⟩ ⟨Nat.zero_le _, Nat.zero_le _⟩ (Nat.le_of_ble_eq_true rfl) [] [] (by simp only [List.append_assoc, List.nil_append, List.append_nil]) (fun _ => rfl) (fun u => (wTe aT cyB u.1 u.2 ++ wHo aH cyI hI hR)) (fun u => (by simp only [List.append_assoc, List.nil_append, List.append_nil])) (fun r1 u hp => ?_)
  obtain ⟨tI_1, tR_1⟩ := u
  replace hw := hp
  clear hp
  refine z_istore_n (lv' := [(2, .int r1), (0, .ref (aT 0)), (1, .ref (aH 0))]) F dX4_readPaper_5 6 rfl (by decide) rfl ?_
  refine z_aload_n F dX4_readPaper_6 7 rfl 1 rfl ?_
  refine z_bipush F dX4_readPaper_7 9 rfl zkb_59 ?_
  refine z_segVi (As := [.int 59]) (st := []) F dX4_readPaper_9 12 rfl (mX4_readSign C.1.2.1 D cyI cyB aT 59 tI_1 tR_1 hw) y_X4_readSign rfl gX4_readPaper_X4_readSign rfl (ci := 4) (rq := 0) rfl rfl ⟨Nat.le_of_ble_eq_true rfl, Nat.le_of_ble_eq_true rfl⟩ ⟨Nat.zero_le _, Nat.zero_le _⟩ (Nat.le_of_ble_eq_true rfl) [] (wHo aH cyI hI hR) (by simp only [List.append_assoc, List.nil_append, List.append_nil]) (fun _ => rfl) (fun u => (wTe aT cyB u.1 u.2 ++ wHo aH cyI hI hR)) (fun u => (by simp only [List.append_assoc, List.nil_append, List.append_nil])) (fun r0 u hp => ?_)
  obtain ⟨tI_2, tR_2⟩ := u
  obtain ⟨b1, rfl, hw⟩ := hp
  obtain ⟨hwt, hwf⟩ := hw
  refine z_ifneB F dX4_readPaper_12 17 rfl 15 rfl (fun c1 => ?_) (fun c1 => ?_)
  · have hw := hwt c1; clear hwt hwf
    refine z_aload_n F dX4_readPaper_17 18 rfl 2 rfl ?_
    refine z_iload_n F dX4_readPaper_18 19 rfl 0 rfl ?_
    refine z_put F dX4_readPaper_19 22 rfl kX4_readPaper_97 2 rfl rfl rfl (Nat.le_of_ble_eq_true rfl) (wTe aT cyB tI_2 tR_2 ++ wHo aH cyI (va_up hI 3 r1) hR) rfl ?_
    refine z_iconst F dX4_readPaper_22 23 rfl zki_1 ?_
    exact hRt 23 _ true (tI_2, tR_2, (va_up hI 3 r1), hR) dX4_readPaper_23 ⟨true, rfl, hw⟩
  · have hw := hwf c1; clear hwt hwf
    refine z_iconst F dX4_readPaper_15 16 rfl zki_0 ?_
    exact hRt 16 _ false (tI_2, tR_2, hI, hR) dX4_readPaper_16 ⟨false, rfl, hw⟩
set_option maxHeartbeats 4000000 in
set_option maxRecDepth 100000 in
theorem mX4_readPaper (l : Launch) (D : va_G) (cyI cyB : ClassId) (aT : Nat → Nat) (aH : Nat → Nat) (tI : Nat → Int32) (tR : Nat → Nat → Int32) (hI : Nat → Int32) (hR : Nat → Nat → Int32) {post : Bool → (Nat → Int32) → (Nat → Nat → Int32) → (Nat → Int32) → (Nat → Nat → Int32) → Prop} (hw : pX4_readPaper tI tR hI hR post) : zMi l yX4_readPaper wsX4_readPaper 2 45 D cyI cyB [.ref (aT 0), .ref (aH 0)] (wTe aT cyB tI tR ++ wHo aH cyI hI hR) (S := ((Nat → Int32) × (Nat → Nat → Int32) × (Nat → Int32) × (Nat → Nat → Int32))) (fun u => (wTe aT cyB u.1 u.2.1 ++ wHo aH cyI u.2.2.1 u.2.2.2)) (fun r u => ∃ b : Bool, r = zb b ∧ post b u.1 u.2.1 u.2.2.1 u.2.2.2) :=
  z_metz (cc := cX4_readPaper) (nL := 3) (by decide +kernel) rfl (Nat.le_of_ble_eq_true rfl) (fun C hl F hRt => xX4_readPaper_0 tI tR hI hR F hRt hw)
theorem y_X4_readPaper : zY yX4_readPaper wsX4_readPaper cX4_readPaper 3 (some .boolean) 1 := ⟨⟨_, rfl⟩, by decide +kernel⟩
theorem iX4_readStatement_4 : ∀ w ∈ wsX40, w ∈ wsX4_readStatement := fun w h => List.mem_cons_of_mem _ (List.mem_append_left _ (List.mem_append_left _ (List.mem_append_right _ h)))
theorem kX4_readStatement_9 : zL wsX4_readStatement RX4 9 4 0 (.array .byte) true := zL4 iX4_readStatement_4 (by decide) (List.mem_of_getElem? (i := 2) rfl) rfl rfl
theorem kX4_readStatement_19 : zL wsX4_readStatement RX4 19 4 2 .int false := zL4 iX4_readStatement_4 (by decide) (List.mem_of_getElem? (i := 1) rfl) rfl rfl
set_option maxHeartbeats 4000000 in
set_option maxRecDepth 100000 in
theorem xX4_readStatement_0 {C : zC} {D : va_G} {cyI cyB : ClassId} {aT : Nat → Nat} {aH : Nat → Nat} (tI : Nat → Int32) (tR : Nat → Nat → Int32) (hI : Nat → Int32) (hR : Nat → Nat → Int32) (F : zF C D { frames := 3, cells := 0, slots := 0, locals := 68 } cX4_readStatement 4 wsX4_readStatement RX4 (some .boolean) cyI cyB) {post : Bool → (Nat → Int32) → (Nat → Nat → Int32) → (Nat → Int32) → (Nat → Nat → Int32) → Prop} (hRt : zRz C D cX4_readStatement 4 (S := ((Nat → Int32) × (Nat → Nat → Int32) × (Nat → Int32) × (Nat → Nat → Int32))) (fun u => (wTe aT cyB u.1 u.2.1 ++ wHo aH cyI u.2.2.1 u.2.2.2)) (fun r u => ∃ b : Bool, r = zb b ∧ post b u.1 u.2.1 u.2.2.1 u.2.2.2)) (hw : pX4_readStatement tI tR hI hR post) : zX C D 4 0 0 (wTe aT cyB tI tR ++ wHo aH cyI hI hR) 0 [(0, .ref (aT 0)), (1, .ref (aH 0))] [] := by
  refine z_aload_n F dX4_readStatement_0 1 rfl 0 rfl ?_
  refine z_get F dX4_readStatement_1 4 rfl kX4_readStatement_19 0 rfl rfl ?_
  refine z_istore_n (lv' := [(2, .int (tI 1)), (0, .ref (aT 0)), (1, .ref (aH 0))]) F dX4_readStatement_4 5 rfl (by decide) rfl ?_
  refine z_aload_n F dX4_readStatement_5 6 rfl 1 rfl ?_
  refine z_get F dX4_readStatement_6 9 rfl kX4_readStatement_9 0 rfl rfl ?_
  refine z_iload_n F dX4_readStatement_9 10 rfl 0 rfl ?_
  obtain ⟨j1, ej1, hj1, hw⟩ := hw
  refine z_bald F dX4_readStatement_10 11 rfl 1 rfl (by decide) j1 ej1 hj1 ?_
  refine z_topi (fun v1 ev1 => ?_)
  replace hw := hw v1 ev1
  refine z_istore_n (lv' := [(3, .int v1), (2, .int (tI 1)), (0, .ref (aT 0)), (1, .ref (aH 0))]) F dX4_readStatement_11 12 rfl (by decide) rfl ?_
  refine z_aload_n F dX4_readStatement_12 13 rfl 3 rfl ?_
  refine z_iload_n F dX4_readStatement_13 14 rfl 0 rfl ?_
  refine z_segSi (As := [.ref (aH 0), .int v1]) (st := []) F dX4_readStatement_14 17 rfl (mX4_hasRoom C.1.2.1 D cyI cyB aH v1 hI hR hw) y_X4_hasRoom rfl gX4_readStatement_X4_hasRoom ⟨Nat.le_of_ble_eq_true rfl, Nat.le_of_ble_eq_true rfl⟩ ⟨Nat.zero_le _, Nat.zero_le _⟩ (Nat.le_of_ble_eq_true rfl) (wTe aT cyB tI tR) [] (by simp only [List.append_assoc, List.nil_append, List.append_nil]) (fun _ => rfl) (fun u => (wTe aT cyB tI tR ++ wHo aH cyI hI hR)) (fun u => (by simp only [List.append_assoc, List.nil_append, List.append_nil])) (fun r0 u hp => ?_)
  obtain ⟨b1, rfl, hw⟩ := hp
  obtain ⟨hwt, hwf⟩ := hw
  refine z_ifneB F dX4_readStatement_17 22 rfl 20 rfl (fun c1 => ?_) (fun c1 => ?_)
  · have hw := hwt c1; clear hwt hwf
    refine z_aload_n F dX4_readStatement_22 23 rfl 2 rfl ?_
    refine z_dup F dX4_readStatement_23 24 rfl rfl ?_
    refine z_get F dX4_readStatement_24 27 rfl kX4_readStatement_19 0 rfl rfl ?_
    refine z_iconst F dX4_readStatement_27 28 rfl zki_1 ?_
    refine z_iadd F dX4_readStatement_28 29 rfl ?_
    refine z_topi (fun v2 ev2 => ?_)
    replace hw := hw v2 ev2
    refine z_put F dX4_readStatement_29 32 rfl kX4_readStatement_19 0 rfl rfl rfl (Nat.le_of_ble_eq_true rfl) (wTe aT cyB (va_up tI 1 v2) tR ++ wHo aH cyI hI hR) rfl ?_
    refine z_iload_n F dX4_readStatement_32 33 rfl 0 rfl ?_
    obtain ⟨hs0, hs1, hs2, hs3, hwd⟩ := hw
    by_cases cs0 : v1 = 103
    · have hw := hs0 cs0; clear hs0 hs1 hs2 hs3 hwd
      refine z_look (off := 62) F dX4_readStatement_33 95 (by decide +kernel) (by rw [cs0]; decide +kernel) rfl ?_
      refine z_aload_n F dX4_readStatement_95 96 rfl 2 rfl ?_
      refine z_aload_n F dX4_readStatement_96 97 rfl 3 rfl ?_
      refine z_segVi (As := [.ref (aH 0)]) (st := []) F dX4_readStatement_97 100 rfl (mX4_readGuess C.1.2.1 D cyI cyB aT aH (va_up tI 1 v2) tR hI hR hw) y_X4_readGuess rfl gX4_readStatement_X4_readGuess rfl (ci := 4) (rq := 0) rfl rfl ⟨Nat.le_of_ble_eq_true rfl, Nat.le_of_ble_eq_true rfl⟩ ⟨Nat.zero_le _, Nat.zero_le _⟩ (Nat.le_of_ble_eq_true rfl) [] [] (by simp only [List.append_assoc, List.nil_append, List.append_nil]) (fun _ => rfl) (fun u => (wTe aT cyB u.1 u.2.1 ++ wHo aH cyI u.2.2.1 u.2.2.2)) (fun u => (by simp only [List.append_assoc, List.nil_append, List.append_nil])) (fun r0 u hp => ?_)
      obtain ⟨tI_1, tR_1, hI_1, hR_1⟩ := u
      obtain ⟨b2, rfl, hw⟩ := hp
      exact hRt 100 _ b2 (tI_1, tR_1, hI_1, hR_1) dX4_readStatement_100 ⟨b2, rfl, hw⟩
    by_cases cs1 : v1 = 104
    · have hw := hs1 cs1; clear hs0 hs1 hs2 hs3 hwd
      refine z_look (off := 43) F dX4_readStatement_33 76 (by decide +kernel) (by rw [cs1]; decide +kernel) rfl ?_
      refine z_aload_n F dX4_readStatement_76 77 rfl 2 rfl ?_
      refine z_aload_n F dX4_readStatement_77 78 rfl 3 rfl ?_
      refine z_segVi (As := [.ref (aH 0)]) (st := []) F dX4_readStatement_78 81 rfl (mX4_readHand C.1.2.1 D cyI cyB aT aH (va_up tI 1 v2) tR hI hR hw) y_X4_readHand rfl gX4_readStatement_X4_readHand rfl (ci := 4) (rq := 0) rfl rfl ⟨Nat.le_of_ble_eq_true rfl, Nat.le_of_ble_eq_true rfl⟩ ⟨Nat.zero_le _, Nat.zero_le _⟩ (Nat.le_of_ble_eq_true rfl) [] [] (by simp only [List.append_assoc, List.nil_append, List.append_nil]) (fun _ => rfl) (fun u => (wTe aT cyB u.1 u.2.1 ++ wHo aH cyI u.2.2.1 u.2.2.2)) (fun u => (by simp only [List.append_assoc, List.nil_append, List.append_nil])) (fun r0 u hp => ?_)
      obtain ⟨tI_2, tR_2, hI_2, hR_2⟩ := u
      obtain ⟨b3, rfl, hw⟩ := hp
      exact hRt 81 _ b3 (tI_2, tR_2, hI_2, hR_2) dX4_readStatement_81 ⟨b3, rfl, hw⟩
    by_cases cs2 : v1 = 115
    · have hw := hs2 cs2; clear hs0 hs1 hs2 hs3 hwd
      refine z_look (off := 49) F dX4_readStatement_33 82 (by decide +kernel) (by rw [cs2]; decide +kernel) rfl ?_
      refine z_aload_n F dX4_readStatement_82 83 rfl 2 rfl ?_
      refine z_aload_n F dX4_readStatement_83 84 rfl 3 rfl ?_
      refine z_iload_n F dX4_readStatement_84 85 rfl 1 rfl ?_
      refine z_segVi (As := [.ref (aH 0), .int (tI 1)]) (st := []) F dX4_readStatement_85 88 rfl (mX4_readSight C.1.2.1 D cyI cyB aT aH (tI 1) (va_up tI 1 v2) tR hI hR hw) y_X4_readSight rfl gX4_readStatement_X4_readSight rfl (ci := 4) (rq := 0) rfl rfl ⟨Nat.le_of_ble_eq_true rfl, Nat.le_of_ble_eq_true rfl⟩ ⟨Nat.zero_le _, Nat.zero_le _⟩ (Nat.le_of_ble_eq_true rfl) [] [] (by simp only [List.append_assoc, List.nil_append, List.append_nil]) (fun _ => rfl) (fun u => (wTe aT cyB u.1 u.2.1 ++ wHo aH cyI u.2.2.1 u.2.2.2)) (fun u => (by simp only [List.append_assoc, List.nil_append, List.append_nil])) (fun r0 u hp => ?_)
      obtain ⟨tI_3, tR_3, hI_3, hR_3⟩ := u
      obtain ⟨b4, rfl, hw⟩ := hp
      exact hRt 88 _ b4 (tI_3, tR_3, hI_3, hR_3) dX4_readStatement_88 ⟨b4, rfl, hw⟩
    by_cases cs3 : v1 = 116
    · have hw := hs3 cs3; clear hs0 hs1 hs2 hs3 hwd
      refine z_look (off := 56) F dX4_readStatement_33 89 (by decide +kernel) (by rw [cs3]; decide +kernel) rfl ?_
      refine z_aload_n F dX4_readStatement_89 90 rfl 2 rfl ?_
      refine z_aload_n F dX4_readStatement_90 91 rfl 3 rfl ?_
      refine z_segVi (As := [.ref (aH 0)]) (st := []) F dX4_readStatement_91 94 rfl (mX4_readTie C.1.2.1 D cyI cyB aT aH (va_up tI 1 v2) tR hI hR hw) y_X4_readTie rfl gX4_readStatement_X4_readTie rfl (ci := 4) (rq := 0) rfl rfl ⟨Nat.le_of_ble_eq_true rfl, Nat.le_of_ble_eq_true rfl⟩ ⟨Nat.zero_le _, Nat.zero_le _⟩ (Nat.le_of_ble_eq_true rfl) [] [] (by simp only [List.append_assoc, List.nil_append, List.append_nil]) (fun _ => rfl) (fun u => (wTe aT cyB u.1 u.2.1 ++ wHo aH cyI u.2.2.1 u.2.2.2)) (fun u => (by simp only [List.append_assoc, List.nil_append, List.append_nil])) (fun r0 u hp => ?_)
      obtain ⟨tI_4, tR_4, hI_4, hR_4⟩ := u
      obtain ⟨b5, rfl, hw⟩ := hp
      exact hRt 94 _ b5 (tI_4, tR_4, hI_4, hR_4) dX4_readStatement_94 ⟨b5, rfl, hw⟩
    have hw := hwd cs0 cs1 cs2 cs3; clear hs0 hs1 hs2 hs3 hwd
    refine z_look (off := 68) F dX4_readStatement_33 101 (by decide +kernel) (z_lk4 cs0 cs1 cs2 cs3) rfl ?_
    refine z_aload_n F dX4_readStatement_101 102 rfl 2 rfl ?_
    refine z_aload_n F dX4_readStatement_102 103 rfl 3 rfl ?_
    refine z_segVi (As := [.ref (aH 0)]) (st := []) F dX4_readStatement_103 106 rfl (mX4_readPaper C.1.2.1 D cyI cyB aT aH (va_up tI 1 v2) tR hI hR hw) y_X4_readPaper rfl gX4_readStatement_X4_readPaper rfl (ci := 4) (rq := 0) rfl rfl ⟨Nat.le_of_ble_eq_true rfl, Nat.le_of_ble_eq_true rfl⟩ ⟨Nat.zero_le _, Nat.zero_le _⟩ (Nat.le_of_ble_eq_true rfl) [] [] (by simp only [List.append_assoc, List.nil_append, List.append_nil]) (fun _ => rfl) (fun u => (wTe aT cyB u.1 u.2.1 ++ wHo aH cyI u.2.2.1 u.2.2.2)) (fun u => (by simp only [List.append_assoc, List.nil_append, List.append_nil])) (fun r0 u hp => ?_)
    obtain ⟨tI_5, tR_5, hI_5, hR_5⟩ := u
    obtain ⟨b6, rfl, hw⟩ := hp
    exact hRt 106 _ b6 (tI_5, tR_5, hI_5, hR_5) dX4_readStatement_106 ⟨b6, rfl, hw⟩
  · have hw := hwf c1; clear hwt hwf
    refine z_iconst F dX4_readStatement_20 21 rfl zki_0 ?_
    exact hRt 21 _ false (tI, tR, hI, hR) dX4_readStatement_21 ⟨false, rfl, hw⟩
set_option maxHeartbeats 4000000 in
set_option maxRecDepth 100000 in
theorem mX4_readStatement (l : Launch) (D : va_G) (cyI cyB : ClassId) (aT : Nat → Nat) (aH : Nat → Nat) (tI : Nat → Int32) (tR : Nat → Nat → Int32) (hI : Nat → Int32) (hR : Nat → Nat → Int32) {post : Bool → (Nat → Int32) → (Nat → Nat → Int32) → (Nat → Int32) → (Nat → Nat → Int32) → Prop} (hw : pX4_readStatement tI tR hI hR post) : zMi l yX4_readStatement wsX4_readStatement 3 68 D cyI cyB [.ref (aT 0), .ref (aH 0)] (wTe aT cyB tI tR ++ wHo aH cyI hI hR) (S := ((Nat → Int32) × (Nat → Nat → Int32) × (Nat → Int32) × (Nat → Nat → Int32))) (fun u => (wTe aT cyB u.1 u.2.1 ++ wHo aH cyI u.2.2.1 u.2.2.2)) (fun r u => ∃ b : Bool, r = zb b ∧ post b u.1 u.2.1 u.2.2.1 u.2.2.2) :=
  z_metz (cc := cX4_readStatement) (nL := 4) (by decide +kernel) rfl (Nat.le_of_ble_eq_true rfl) (fun C hl F hRt => xX4_readStatement_0 tI tR hI hR F hRt hw)
theorem y_X4_readStatement : zY yX4_readStatement wsX4_readStatement cX4_readStatement 4 (some .boolean) 1 := ⟨⟨_, rfl⟩, by decide +kernel⟩
theorem iX4_readInto_4 : ∀ w ∈ wsX40, w ∈ wsX4_readInto := fun w h => List.mem_cons_of_mem _ (List.mem_append_left _ (List.mem_append_left _ (List.mem_append_right _ h)))
theorem kX4_readInto_15 : zL wsX4_readInto RX4 15 4 1 .int false := zL4 iX4_readInto_4 (by decide) (List.mem_of_getElem? (i := 2) rfl) rfl rfl
theorem kX4_readInto_19 : zL wsX4_readInto RX4 19 4 2 .int false := zL4 iX4_readInto_4 (by decide) (List.mem_of_getElem? (i := 1) rfl) rfl rfl
set_option maxHeartbeats 4000000 in
set_option maxRecDepth 100000 in
theorem xX4_readInto_7 {C : zC} {D : va_G} {cyI cyB : ClassId} {aT : Nat → Nat} {aH : Nat → Nat} (F : zF C D { frames := 4, cells := 0, slots := 0, locals := 91 } cX4_readInto 3 wsX4_readInto RX4 (some .int) cyI cyB) {post : Int32 → (Nat → Int32) → (Nat → Nat → Int32) → (Nat → Int32) → (Nat → Nat → Int32) → Prop} (hRt : zRi C D cX4_readInto 3 (S := ((Nat → Int32) × (Nat → Nat → Int32) × (Nat → Int32) × (Nat → Nat → Int32))) (fun u => (wTe aT cyB u.1 u.2.1 ++ wHo aH cyI u.2.2.1 u.2.2.2)) (fun r u => post r u.1 u.2.1 u.2.2.1 u.2.2.2)) : ∀ (n : Nat) (x2 : Int32) (tI : Nat → Int32) (tR : Nat → Nat → Int32) (hI : Nat → Int32) (hR : Nat → Nat → Int32), bX4_readInto_7 post  n x2 tI tR hI hR → zX C D 3 0 0 (wTe aT cyB tI tR ++ wHo aH cyI hI hR) 7 [(0, .ref (aT 0)), (1, .ref (aH 0)), (2, .int x2)] [] := by
  intro n
  induction n with
  | zero => intro _ _ _ _ _ hw; exact hw.elim
  | succ n ih =>
    intro x2 tI tR hI hR hw
    refine z_aload_n F dX4_readInto_7 8 rfl 0 rfl ?_
    refine z_get F dX4_readInto_8 11 rfl kX4_readInto_19 0 rfl rfl ?_
    refine z_aload_n F dX4_readInto_11 12 rfl 0 rfl ?_
    refine z_get F dX4_readInto_12 15 rfl kX4_readInto_15 0 rfl rfl ?_
    obtain ⟨hwt, hwf⟩ := hw
    refine z_icmpge F dX4_readInto_15 46 rfl 18 rfl (fun c1 => ?_) (fun c1 => ?_)
    · have hw := hwt c1; clear hwt hwf
      refine z_iload_n F dX4_readInto_46 47 rfl 2 rfl ?_
      exact hRt 47 _ x2 (tI, tR, hI, hR) dX4_readInto_47 hw
    · have hw := hwf c1; clear hwt hwf
      refine z_iload_n F dX4_readInto_18 19 rfl 2 rfl ?_
      refine z_bipush F dX4_readInto_19 21 rfl zkb_80 ?_
      obtain ⟨hwt, hwf⟩ := hw
      refine z_icmpge F dX4_readInto_21 46 rfl 24 rfl (fun c2 => ?_) (fun c2 => ?_)
      · have hw := hwt c2; clear hwt hwf
        refine z_iload_n F dX4_readInto_46 47 rfl 2 rfl ?_
        exact hRt 47 _ x2 (tI, tR, hI, hR) dX4_readInto_47 hw
      · have hw := hwf c2; clear hwt hwf
        refine z_aload_n F dX4_readInto_24 25 rfl 0 rfl ?_
        refine z_aload_n F dX4_readInto_25 26 rfl 1 rfl ?_
        refine z_segVi (As := [.ref (aH 0)]) (st := []) F dX4_readInto_26 29 rfl (mX4_readStatement C.1.2.1 D cyI cyB aT aH tI tR hI hR hw) y_X4_readStatement rfl gX4_readInto_X4_readStatement rfl (ci := 4) (rq := 0) rfl rfl ⟨Nat.le_of_ble_eq_true rfl, Nat.le_of_ble_eq_true rfl⟩ ⟨Nat.zero_le _, Nat.zero_le _⟩ (Nat.le_of_ble_eq_true rfl) [] [] (by simp only [List.append_assoc, List.nil_append, List.append_nil]) (fun _ => rfl) (fun u => (wTe aT cyB u.1 u.2.1 ++ wHo aH cyI u.2.2.1 u.2.2.2)) (fun u => (by simp only [List.append_assoc, List.nil_append, List.append_nil])) (fun r0 u hp => ?_)
        obtain ⟨tI_1, tR_1, hI_1, hR_1⟩ := u
        obtain ⟨b1, rfl, hw⟩ := hp
        obtain ⟨hwt, hwf⟩ := hw
        refine z_ifneB F dX4_readInto_29 40 rfl 32 rfl (fun c3 => ?_) (fun c3 => ?_)
        · have hw := hwt c3; clear hwt hwf
          refine z_iinc F dX4_readInto_40 43 rfl 2 rfl (by decide) zki_1 (fun v1 => [(2, .int v1), (0, .ref (aT 0)), (1, .ref (aH 0))]) (fun _ => rfl) (fun v1 ev1 => ?_)
          replace hw := hw v1 ev1
          refine z_goto F dX4_readInto_43 7 rfl ?_
          refine z_lv (lv' := [(0, .ref (aT 0)), (1, .ref (aH 0)), (2, .int v1)]) [1, 2, 0] rfl ?_
          exact ih v1 tI_1 tR_1 hI_1 hR_1 hw
        · have hw := hwf c3; clear hwt hwf
          refine z_bipush F dX4_readInto_32 34 rfl zkb_m20 ?_
          refine z_aload_n F dX4_readInto_34 35 rfl 0 rfl ?_
          refine z_get F dX4_readInto_35 38 rfl kX4_readInto_19 0 rfl rfl ?_
          refine z_isub F dX4_readInto_38 39 rfl ?_
          exact hRt 39 _ ((-20) - (tI_1 1)) (tI_1, tR_1, hI_1, hR_1) dX4_readInto_39 hw
set_option maxHeartbeats 4000000 in
set_option maxRecDepth 100000 in
theorem xX4_readInto_0 {C : zC} {D : va_G} {cyI cyB : ClassId} {aT : Nat → Nat} {aH : Nat → Nat} (tI : Nat → Int32) (tR : Nat → Nat → Int32) (hI : Nat → Int32) (hR : Nat → Nat → Int32) (F : zF C D { frames := 4, cells := 0, slots := 0, locals := 91 } cX4_readInto 3 wsX4_readInto RX4 (some .int) cyI cyB) {post : Int32 → (Nat → Int32) → (Nat → Nat → Int32) → (Nat → Int32) → (Nat → Nat → Int32) → Prop} (hRt : zRi C D cX4_readInto 3 (S := ((Nat → Int32) × (Nat → Nat → Int32) × (Nat → Int32) × (Nat → Nat → Int32))) (fun u => (wTe aT cyB u.1 u.2.1 ++ wHo aH cyI u.2.2.1 u.2.2.2)) (fun r u => post r u.1 u.2.1 u.2.2.1 u.2.2.2)) (hw : pX4_readInto tI tR hI hR post) : zX C D 3 0 0 (wTe aT cyB tI tR ++ wHo aH cyI hI hR) 0 [(0, .ref (aT 0)), (1, .ref (aH 0))] [] := by
  refine z_aload_n F dX4_readInto_0 1 rfl 0 rfl ?_
  refine z_iconst F dX4_readInto_1 2 rfl zki_0 ?_
  refine z_put F dX4_readInto_2 5 rfl kX4_readInto_19 0 rfl rfl rfl (Nat.le_of_ble_eq_true rfl) (wTe aT cyB (va_up tI 1 0) tR ++ wHo aH cyI hI hR) rfl ?_
  refine z_iconst F dX4_readInto_5 6 rfl zki_0 ?_
  refine z_istore_n (lv' := [(2, .int 0), (0, .ref (aT 0)), (1, .ref (aH 0))]) F dX4_readInto_6 7 rfl (by decide) rfl ?_
  obtain ⟨n1, hw⟩ := hw
  refine z_lv (lv' := [(0, .ref (aT 0)), (1, .ref (aH 0)), (2, .int 0)]) [1, 2, 0] rfl ?_
  refine xX4_readInto_7 F hRt n1 0 (va_up tI 1 0) tR hI hR hw
set_option maxHeartbeats 4000000 in
set_option maxRecDepth 100000 in
theorem mX4_readInto (l : Launch) (D : va_G) (cyI cyB : ClassId) (aT : Nat → Nat) (aH : Nat → Nat) (tI : Nat → Int32) (tR : Nat → Nat → Int32) (hI : Nat → Int32) (hR : Nat → Nat → Int32) {post : Int32 → (Nat → Int32) → (Nat → Nat → Int32) → (Nat → Int32) → (Nat → Nat → Int32) → Prop} (hw : pX4_readInto tI tR hI hR post) : zMi l yX4_readInto wsX4_readInto 4 91 D cyI cyB [.ref (aT 0), .ref (aH 0)] (wTe aT cyB tI tR ++ wHo aH cyI hI hR) (S := ((Nat → Int32) × (Nat → Nat → Int32) × (Nat → Int32) × (Nat → Nat → Int32))) (fun u => (wTe aT cyB u.1 u.2.1 ++ wHo aH cyI u.2.2.1 u.2.2.2)) (fun r u => post r u.1 u.2.1 u.2.2.1 u.2.2.2) :=
  z_meti (cc := cX4_readInto) (nL := 3) (by decide +kernel) rfl (Nat.le_of_ble_eq_true rfl) (fun C hl F hRt => xX4_readInto_0 tI tR hI hR F hRt hw)
theorem y_X4_readInto : zY yX4_readInto wsX4_readInto cX4_readInto 3 (some .int) 1 := ⟨⟨_, rfl⟩, by decide +kernel⟩
