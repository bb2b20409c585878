theorem iX2_setTelling_2 : ∀ w ∈ wsX20, w ∈ wsX2_setTelling := fun w h => List.mem_cons_of_mem _ (List.mem_append_right _ h)
theorem kX2_setTelling_9 : zL wsX2_setTelling RX2 9 2 1 (.array .int) true := zL2 iX2_setTelling_2 (by decide) (List.mem_of_getElem? (i := 1) rfl) rfl rfl
set_option maxHeartbeats 4000000 in
set_option maxRecDepth 100000 in
theorem xX2_setTelling_0 {C : zC} {D : va_G} {cyI cyB : ClassId} {aH : Nat → Nat} {aM : Nat → Nat} (x1 : Int32) (z2 : Bool) (hI : Nat → Int32) (hR : Nat → Nat → Int32) (mI : Nat → Int32) (mR : Nat → Nat → Int32) (F : zF C D { frames := 1, cells := 0, slots := 0, locals := 22 } cX2_setTelling 4 wsX2_setTelling RX2 none cyI cyB) {post : (Nat → Int32) → (Nat → Nat → Int32) → Prop} (hRt : zRv C D cX2_setTelling 4 (S := ((Nat → Int32) × (Nat → Nat → Int32))) (fun u => (wHo aH cyI hI hR ++ wMi aH aM cyI u.1 u.2)) (fun u => post u.1 u.2)) (hw : pX2_setTelling x1 z2 hI hR mI mR post) : zX C D 4 0 0 (wHo aH cyI hI hR ++ wMi aH aM cyI mI mR) 0 [(0, .ref (aM 0)), (1, .int x1), (2, .int (zb z2))] [] := by
  refine z_iload_n F dX2_setTelling_0 1 rfl 1 rfl ?_
  refine z_bipush F dX2_setTelling_1 3 rfl zkb_10 ?_
  refine z_idiv F dX2_setTelling_3 4 rfl (by decide) ?_
  refine z_topi (fun v1 ev1 => ?_)
  replace hw := hw v1 ev1
  refine z_istore_n (lv' := [(3, .int v1), (0, .ref (aM 0)), (1, .int x1), (2, .int (zb z2))]) F dX2_setTelling_4 5 rfl (by decide) rfl ?_
  refine z_aload_n F dX2_setTelling_5 6 rfl 1 rfl ?_
  refine z_get F dX2_setTelling_6 9 rfl kX2_setTelling_9 12 rfl rfl ?_
  refine z_iload_n F dX2_setTelling_9 10 rfl 0 rfl ?_
  refine z_aload_n F dX2_setTelling_10 11 rfl 1 rfl ?_
  refine z_get F dX2_setTelling_11 14 rfl kX2_setTelling_9 12 rfl rfl ?_
  refine z_iload_n F dX2_setTelling_14 15 rfl 0 rfl ?_
  obtain ⟨j1, ej1, hj1, hw⟩ := hw
  refine z_iald F dX2_setTelling_15 16 rfl 13 rfl (by decide) j1 ej1 hj1 ?_
  refine z_iload_n F dX2_setTelling_16 17 rfl 2 rfl ?_
  refine z_bipush F dX2_setTelling_17 19 rfl zkb_10 ?_
  refine z_irem F dX2_setTelling_19 20 rfl (by decide) ?_
  refine z_iload_n F dX2_setTelling_20 21 rfl 3 rfl ?_
  refine z_callSNi (As := [.int ((mR 0) j1), .int (x1 - x1 / 10 * 10), .int (zb z2)]) (st := [.int v1, .ref (aM 1)]) F dX2_setTelling_21 24 rfl (mX5_with C.1.2.1 D cyI cyB ((mR 0) j1) (x1 - x1 / 10 * 10) z2 hw) y_X5_with rfl gX2_setTelling_X5_with_n138 F.2.2.1.2.2.2.2.2.2.1 (List.mem_of_getElem? (i := 3) rfl) (List.mem_of_getElem? (i := 2) rfl) ⟨Nat.le_of_ble_eq_true rfl, Nat.le_of_ble_eq_true rfl⟩ ⟨Nat.zero_le _, Nat.zero_le _⟩ (Nat.le_of_ble_eq_true rfl) [] (by decide) rfl (fun _ => rfl) (fun u => (wHo aH cyI hI hR ++ wMi aH aM cyI mI mR)) (fun _ => rfl) (fun r1 u hp => ?_)
  replace hw := hp
  clear hp
  refine z_iast F dX2_setTelling_24 25 rfl 13 rfl (by decide) j1 ej1 hj1 (wHo aH cyI hI hR ++ wMi aH aM cyI mI (va_up mR 0 (upd (mR 0) j1 r1))) rfl ?_
  exact hRt 25 _ (mI, (va_up mR 0 (upd (mR 0) j1 r1))) dX2_setTelling_25 hw
set_option maxHeartbeats 4000000 in
set_option maxRecDepth 100000 in
theorem mX2_setTelling (l : Launch) (D : va_G) (cyI cyB : ClassId) (aH : Nat → Nat) (aM : Nat → Nat) (x1 : Int32) (z2 : Bool) (hI : Nat → Int32) (hR : Nat → Nat → Int32) (mI : Nat → Int32) (mR : Nat → Nat → Int32) {post : (Nat → Int32) → (Nat → Nat → Int32) → Prop} (hw : pX2_setTelling x1 z2 hI hR mI mR post) : zMv l yX2_setTelling wsX2_setTelling 1 22 D cyI cyB [.ref (aM 0), .int x1, .int (zb z2)] (wHo aH cyI hI hR ++ wMi aH aM cyI mI mR) (S := ((Nat → Int32) × (Nat → Nat → Int32))) (fun u => (wHo aH cyI hI hR ++ wMi aH aM cyI u.1 u.2)) (fun u => post u.1 u.2) :=
  z_metv (cc := cX2_setTelling) (nL := 4) (by decide +kernel) rfl (Nat.le_of_ble_eq_true rfl) (fun C hl F hRt => xX2_setTelling_0 x1 z2 hI hR mI mR F hRt hw)
theorem y_X2_setTelling : zY yX2_setTelling wsX2_setTelling cX2_setTelling 4 none 2 := ⟨⟨_, rfl⟩, by decide +kernel⟩
theorem iX2_giveOut_1 : ∀ w ∈ wsX10, w ∈ wsX2_giveOut := fun w h => List.mem_cons_of_mem _ (List.mem_append_right _ h)
theorem iX2_giveOut_2 : ∀ w ∈ wsX20, w ∈ wsX2_giveOut := fun w h => List.mem_cons_of_mem _ (List.mem_append_left _ (List.mem_append_right _ h))
theorem kX2_giveOut_9 : zL wsX2_giveOut RX2 9 2 1 (.array .int) true := zL2 iX2_giveOut_2 (by decide) (List.mem_of_getElem? (i := 4) rfl) rfl rfl
theorem kX2_giveOut_38 : zL wsX2_giveOut RX2 38 2 8 .int false := zL2 iX2_giveOut_2 (by decide) (List.mem_of_getElem? (i := 1) rfl) rfl rfl
theorem kX2_giveOut_47 : zL wsX2_giveOut RX2 47 2 0 (.object "StillRoom$House") true := zL2 iX2_giveOut_2 (by decide) (List.mem_of_getElem? (i := 2) rfl) rfl rfl
theorem kX2_giveOut_60 : zL wsX2_giveOut RX2 60 1 6 .int false := zL1 iX2_giveOut_1 (by decide) (List.mem_of_getElem? (i := 3) rfl) rfl rfl
set_option maxHeartbeats 4000000 in
set_option maxRecDepth 100000 in
theorem xX2_giveOut_16 {C : zC} {D : va_G} {cyI cyB : ClassId} {aH : Nat → Nat} {aM : Nat → Nat} (x1 : Int32) (x2 : Int32) (hI : Nat → Int32) (hR : Nat → Nat → Int32) (F : zF C D { frames := 3, cells := 0, slots := 0, locals := 71 } cX2_giveOut 6 wsX2_giveOut RX2 (some .int) cyI cyB) {post : Int32 → (Nat → Int32) → (Nat → Nat → Int32) → Prop} (hRt : zRi C D cX2_giveOut 6 (S := ((Nat → Int32) × (Nat → Nat → Int32))) (fun u => (wHo aH cyI hI hR ++ wMi aH aM cyI u.1 u.2)) (fun r u => post r u.1 u.2)) : ∀ (n : Nat) (x3 : Int32) (x4 : Int32) (x5 : Int32) (mI : Nat → Int32) (mR : Nat → Nat → Int32), bX2_giveOut_16 x1 x2 hI hR post  n x3 x4 x5 mI mR → zX C D 6 0 0 (wHo aH cyI hI hR ++ wMi aH aM cyI mI mR) 16 [(0, .ref (aM 0)), (1, .int x1), (2, .int x2), (3, .int x3), (4, .int x4), (5, .int x5)] [] := by
  intro n
  induction n with
  | zero => intro _ _ _ _ _ hw; exact hw.elim
  | succ n ih =>
    intro x3 x4 x5 mI mR hw
    refine z_iload F dX2_giveOut_16 18 rfl 5 rfl ?_
    refine z_aload_n F dX2_giveOut_18 19 rfl 0 rfl ?_
    refine z_get F dX2_giveOut_19 22 rfl kX2_giveOut_47 12 rfl rfl ?_
    refine z_get F dX2_giveOut_22 25 rfl kX2_giveOut_60 0 rfl rfl ?_
    obtain ⟨hwt, hwf⟩ := hw
    refine z_icmpge F dX2_giveOut_25 75 rfl 28 rfl (fun c1 => ?_) (fun c1 => ?_)
    · have hw := hwt c1; clear hwt hwf
      refine z_iload F dX2_giveOut_75 77 rfl 4 rfl ?_
      exact hRt 77 _ x4 (mI, mR) dX2_giveOut_77 hw
    · have hw := hwf c1; clear hwt hwf
      refine z_aload_n F dX2_giveOut_28 29 rfl 0 rfl ?_
      refine z_iload F dX2_giveOut_29 31 rfl 5 rfl ?_
      refine z_segVi (As := [.int x5]) (st := []) F dX2_giveOut_31 34 rfl (mX2_isHere C.1.2.1 D cyI cyB aH aM x5 hI hR mI mR hw) y_X2_isHere rfl gX2_giveOut_X2_isHere rfl (ci := 2) (rq := 12) rfl rfl ⟨Nat.le_of_ble_eq_true rfl, Nat.le_of_ble_eq_true rfl⟩ ⟨Nat.zero_le _, Nat.zero_le _⟩ (Nat.le_of_ble_eq_true rfl) [] [] (by simp only [List.append_assoc, List.nil_append, List.append_nil]) (fun _ => rfl) (fun u => (wHo aH cyI hI hR ++ wMi aH aM cyI mI mR)) (fun u => (by simp only [List.append_assoc, List.nil_append, List.append_nil])) (fun r0 u hp => ?_)
      obtain ⟨b1, rfl, hw⟩ := hp
      obtain ⟨hwt, hwf⟩ := hw
      refine z_ifeqB F dX2_giveOut_34 69 rfl 37 rfl (fun c2 => ?_) (fun c2 => ?_)
      · have hw := hwt c2; clear hwt hwf
        refine z_iinc F dX2_giveOut_69 72 rfl 5 rfl (by decide) zki_1 (fun v1 => [(5, .int v1), (0, .ref (aM 0)), (1, .int x1), (2, .int x2), (3, .int x3), (4, .int x4)]) (fun _ => rfl) (fun v1 ev1 => ?_)
        replace hw := hw v1 ev1
        refine z_goto F dX2_giveOut_72 16 rfl ?_
        refine z_lv (lv' := [(0, .ref (aM 0)), (1, .int x1), (2, .int x2), (3, .int x3), (4, .int x4), (5, .int v1)]) [1, 2, 3, 4, 5, 0] rfl ?_
        exact ih x3 x4 v1 mI mR hw
      · have hw := hwf c2; clear hwt hwf
        refine z_aload_n F dX2_giveOut_37 38 rfl 0 rfl ?_
        refine z_get F dX2_giveOut_38 41 rfl kX2_giveOut_9 12 rfl rfl ?_
        refine z_iload F dX2_giveOut_41 43 rfl 5 rfl ?_
        refine z_aload_n F dX2_giveOut_43 44 rfl 0 rfl ?_
        refine z_iload_n F dX2_giveOut_44 45 rfl 3 rfl ?_
        refine z_iload_n F dX2_giveOut_45 46 rfl 2 rfl ?_
        refine z_iload_n F dX2_giveOut_46 47 rfl 1 rfl ?_
        refine z_segVi (As := [.int x3, .int x2, .int x1]) (st := [.int x5, .ref (aM 1)]) F dX2_giveOut_47 50 rfl (mX2_givenTo C.1.2.1 D cyI cyB aH aM x3 x2 x1 hI hR mI mR hw) y_X2_givenTo rfl gX2_giveOut_X2_givenTo rfl (ci := 2) (rq := 12) rfl rfl ⟨Nat.le_of_ble_eq_true rfl, Nat.le_of_ble_eq_true rfl⟩ ⟨Nat.zero_le _, Nat.zero_le _⟩ (Nat.le_of_ble_eq_true rfl) [] [] (by simp only [List.append_assoc, List.nil_append, List.append_nil]) (fun _ => rfl) (fun u => (wHo aH cyI hI hR ++ wMi aH aM cyI mI mR)) (fun u => (by simp only [List.append_assoc, List.nil_append, List.append_nil])) (fun r2 u hp => ?_)
        replace hw := hp
        clear hp
        obtain ⟨j1, ej1, hj1, hw⟩ := hw
        refine z_iast F dX2_giveOut_50 51 rfl 13 rfl (by decide) j1 ej1 hj1 (wHo aH cyI hI hR ++ wMi aH aM cyI mI (va_up mR 0 (upd (mR 0) j1 r2))) rfl ?_
        refine z_iload F dX2_giveOut_51 53 rfl 4 rfl ?_
        refine z_aload_n F dX2_giveOut_53 54 rfl 0 rfl ?_
        refine z_get F dX2_giveOut_54 57 rfl kX2_giveOut_9 12 rfl rfl ?_
        refine z_iload F dX2_giveOut_57 59 rfl 5 rfl ?_
        refine z_iald F dX2_giveOut_59 60 rfl 13 rfl (by decide) j1 ej1 hj1 ?_
        refine z_callSi (As := [.int ((upd (mR 0) j1 r2) j1)]) (st := [.int x4]) F dX2_giveOut_60 63 rfl (mJ6_bitCount_0f7a4 C.1.2.1 D cyI cyB ((upd (mR 0) j1 r2) j1) hw) y_J6_bitCount_0f7a4 rfl gX2_giveOut_J6_bitCount_0f7a4 ⟨Nat.le_of_ble_eq_true rfl, Nat.le_of_ble_eq_true rfl⟩ ⟨Nat.zero_le _, Nat.zero_le _⟩ (Nat.le_of_ble_eq_true rfl) [] (by decide) rfl (fun _ => rfl) (fun u => (wHo aH cyI hI hR ++ wMi aH aM cyI mI (va_up mR 0 (upd (mR 0) j1 r2)))) (fun _ => rfl) (fun r3 u hp => ?_)
        replace hw := hp
        clear hp
        refine z_iadd F dX2_giveOut_63 64 rfl ?_
        refine z_topi (fun v2 ev2 => ?_)
        replace hw := hw v2 ev2
        refine z_istore (lv' := [(4, .int v2), (0, .ref (aM 0)), (1, .int x1), (2, .int x2), (3, .int x3), (5, .int x5)]) F dX2_giveOut_64 66 rfl (by decide) rfl ?_
        refine z_iinc F dX2_giveOut_66 69 rfl 4 rfl (by decide) zki_1 (fun v3 => [(3, .int v3), (4, .int v2), (0, .ref (aM 0)), (1, .int x1), (2, .int x2), (5, .int x5)]) (fun _ => rfl) (fun v3 ev3 => ?_)
        replace hw := hw v3 ev3
        refine z_iinc F dX2_giveOut_69 72 rfl 5 rfl (by decide) zki_1 (fun v4 => [(5, .int v4), (3, .int v3), (4, .int v2), (0, .ref (aM 0)), (1, .int x1), (2, .int x2)]) (fun _ => rfl) (fun v4 ev4 => ?_)
        replace hw := hw v4 ev4
        refine z_goto F dX2_giveOut_72 16 rfl ?_
        refine z_lv (lv' := [(0, .ref (aM 0)), (1, .int x1), (2, .int x2), (3, .int v3), (4, .int v2), (5, .int v4)]) [3, 4, 5, 1, 2, 0] rfl ?_
        exact ih v3 v2 v4 mI (va_up mR 0 (upd (mR 0) j1 r2)) hw
set_option maxHeartbeats 4000000 in
set_option maxRecDepth 100000 in
theorem xX2_giveOut_0 {C : zC} {D : va_G} {cyI cyB : ClassId} {aH : Nat → Nat} {aM : Nat → Nat} (x1 : Int32) (hI : Nat → Int32) (hR : Nat → Nat → Int32) (mI : Nat → Int32) (mR : Nat → Nat → Int32) (F : zF C D { frames := 3, cells := 0, slots := 0, locals := 71 } cX2_giveOut 6 wsX2_giveOut RX2 (some .int) cyI cyB) {post : Int32 → (Nat → Int32) → (Nat → Nat → Int32) → Prop} (hRt : zRi C D cX2_giveOut 6 (S := ((Nat → Int32) × (Nat → Nat → Int32))) (fun u => (wHo aH cyI hI hR ++ wMi aH aM cyI u.1 u.2)) (fun r u => post r u.1 u.2)) (hw : pX2_giveOut x1 hI hR mI mR post) : zX C D 6 0 0 (wHo aH cyI hI hR ++ wMi aH aM cyI mI mR) 0 [(0, .ref (aM 0)), (1, .int x1)] [] := by
  refine z_aload_n F dX2_giveOut_0 1 rfl 0 rfl ?_
  refine z_get F dX2_giveOut_1 4 rfl kX2_giveOut_38 12 rfl rfl ?_
  refine z_callSi (As := [.int (mI 1)]) (st := []) F dX2_giveOut_4 7 rfl (mJ6_bitCount_0f7a4 C.1.2.1 D cyI cyB (mI 1) hw) y_J6_bitCount_0f7a4 rfl gX2_giveOut_J6_bitCount_0f7a4 ⟨Nat.le_of_ble_eq_true rfl, Nat.le_of_ble_eq_true rfl⟩ ⟨Nat.zero_le _, Nat.zero_le _⟩ (Nat.le_of_ble_eq_true rfl) [] (by decide) rfl (fun _ => rfl) (fun u => (wHo aH cyI hI hR ++ wMi aH aM cyI mI mR)) (fun _ => rfl) (fun r1 u hp => ?_)
  replace hw := hp
  clear hp
  refine z_istore_n (lv' := [(2, .int r1), (0, .ref (aM 0)), (1, .int x1)]) F dX2_giveOut_7 8 rfl (by decide) rfl ?_
  refine z_iconst F dX2_giveOut_8 9 rfl zki_0 ?_
  refine z_istore_n (lv' := [(3, .int 0), (2, .int r1), (0, .ref (aM 0)), (1, .int x1)]) F dX2_giveOut_9 10 rfl (by decide) rfl ?_
  refine z_iconst F dX2_giveOut_10 11 rfl zki_0 ?_
  refine z_istore (lv' := [(4, .int 0), (3, .int 0), (2, .int r1), (0, .ref (aM 0)), (1, .int x1)]) F dX2_giveOut_11 13 rfl (by decide) rfl ?_
  refine z_iconst F dX2_giveOut_13 14 rfl zki_0 ?_
  refine z_istore (lv' := [(5, .int 0), (4, .int 0), (3, .int 0), (2, .int r1), (0, .ref (aM 0)), (1, .int x1)]) F dX2_giveOut_14 16 rfl (by decide) rfl ?_
  obtain ⟨n1, hw⟩ := hw
  refine z_lv (lv' := [(0, .ref (aM 0)), (1, .int x1), (2, .int r1), (3, .int 0), (4, .int 0), (5, .int 0)]) [4, 5, 3, 2, 1, 0] rfl ?_
  refine xX2_giveOut_16 x1 r1 hI hR F hRt n1 0 0 0 mI mR hw
set_option maxHeartbeats 4000000 in
set_option maxRecDepth 100000 in
theorem mX2_giveOut (l : Launch) (D : va_G) (cyI cyB : ClassId) (aH : Nat → Nat) (aM : Nat → Nat) (x1 : Int32) (hI : Nat → Int32) (hR : Nat → Nat → Int32) (mI : Nat → Int32) (mR : Nat → Nat → Int32) {post : Int32 → (Nat → Int32) → (Nat → Nat → Int32) → Prop} (hw : pX2_giveOut x1 hI hR mI mR post) : zMi l yX2_giveOut wsX2_giveOut 3 71 D cyI cyB [.ref (aM 0), .int x1] (wHo aH cyI hI hR ++ wMi aH aM cyI mI mR) (S := ((Nat → Int32) × (Nat → Nat → Int32))) (fun u => (wHo aH cyI hI hR ++ wMi aH aM cyI u.1 u.2)) (fun r u => post r u.1 u.2) :=
  z_meti (cc := cX2_giveOut) (nL := 6) (by decide +kernel) rfl (Nat.le_of_ble_eq_true rfl) (fun C hl F hRt => xX2_giveOut_0 x1 hI hR mI mR F hRt hw)
theorem y_X2_giveOut : zY yX2_giveOut wsX2_giveOut cX2_giveOut 6 (some .int) 1 := ⟨⟨_, rfl⟩, by decide +kernel⟩
