theorem iX6_mend_6 : ∀ w ∈ wsX60, w ∈ wsX6_mend := fun w h => List.mem_cons_of_mem _ (List.mem_append_right _ h)
theorem kX6_mend_56 : zL wsX6_mend RX6 56 6 23 (.array .int) true := zL6 iX6_mend_6 (by decide) (List.mem_of_getElem? (i := 1) rfl) rfl rfl
set_option maxHeartbeats 4000000 in
set_option maxRecDepth 100000 in
theorem xX6_mend_15 {C : zC} {D : va_G} {cyI cyB : ClassId} {aO : Nat → Nat} (x1 : Int32) (x2 : Int32) (x3 : Int32) (s0 : Int32) (oI : Nat → Int32) (oR : Nat → Nat → Int32) (F : zF C D { frames := 6, cells := 0, slots := 0, locals := 142 } cX6_mend 6 wsX6_mend RX6 (some .int) cyI cyB) {post : Int32 → (Nat → Int32) → (Nat → Nat → Int32) → Prop} (hRt : zRi C D cX6_mend 6 (S := ((Nat → Int32) × (Nat → Nat → Int32))) (fun u => (wMo aO cyI u.1 u.2)) (fun r u => post r u.1 u.2)) (hw : bX6_mend_15 x1 x2 x3 s0 oI oR post ) : zX C D 6 0 0 (wMo aO cyI oI oR) 15 [(0, .ref (aO 0)), (1, .int x1), (2, .int x2), (3, .int x3)] [.int s0] := by
  refine z_istore (lv' := [(4, .int s0), (0, .ref (aO 0)), (1, .int x1), (2, .int x2), (3, .int x3)]) F dX6_mend_15 17 rfl (by decide) rfl ?_
  refine z_iload F dX6_mend_17 19 rfl 0 rfl ?_
  obtain ⟨hwt, hwf⟩ := hw
  refine z_ifeq F dX6_mend_19 29 rfl 22 rfl (fun c2 => ?_) (fun c2 => ?_)
  · have hw := hwt c2; clear hwt hwf
    refine z_aload_n F dX6_mend_29 30 rfl 1 rfl ?_
    refine z_iload_n F dX6_mend_30 31 rfl 2 rfl ?_
    refine z_iload_n F dX6_mend_31 32 rfl 3 rfl ?_
    refine z_segVi (As := [.int x1, .int x2]) (st := []) F dX6_mend_32 35 rfl (mX6_findMend C.1.2.1 D cyI cyB aO x1 x2 oI oR hw) y_X6_findMend rfl gX6_mend_X6_findMend rfl (ci := 6) (rq := 0) rfl rfl ⟨Nat.le_of_ble_eq_true rfl, Nat.le_of_ble_eq_true rfl⟩ ⟨Nat.zero_le _, Nat.zero_le _⟩ (Nat.le_of_ble_eq_true rfl) [] [] (by simp only [List.append_assoc, List.nil_append, List.append_nil]) (fun _ => rfl) (fun u => (wMo aO cyI u.1 u.2)) (fun u => (by simp only [List.append_assoc, List.nil_append, List.append_nil])) (fun r2 u hp => ?_)
    obtain ⟨oI_1, oR_1⟩ := u
    replace hw := hp
    clear hp
    refine z_istore (lv' := [(5, .int r2), (4, .int s0), (0, .ref (aO 0)), (1, .int x1), (2, .int x2), (3, .int x3)]) F dX6_mend_35 37 rfl (by decide) rfl ?_
    refine z_iload_n F dX6_mend_37 38 rfl 5 rfl ?_
    refine z_iconst F dX6_mend_38 39 rfl zki_m1 ?_
    obtain ⟨hwt, hwf⟩ := hw
    refine z_icmpne F dX6_mend_39 47 rfl 42 rfl (fun c3 => ?_) (fun c3 => ?_)
    · have hw := hwt c3; clear hwt hwf
      refine z_iload_n F dX6_mend_47 48 rfl 5 rfl ?_
      refine z_iload F dX6_mend_48 50 rfl 0 rfl ?_
      obtain ⟨hwt, hwf⟩ := hw
      refine z_icmpge F dX6_mend_50 62 rfl 53 rfl (fun c4 => ?_) (fun c4 => ?_)
      · have hw := hwt c4; clear hwt hwf
        refine z_bipush F dX6_mend_62 64 rfl zkb_m9 ?_
        exact hRt 64 _ (-9) (oI_1, oR_1) dX6_mend_64 hw
      · have hw := hwf c4; clear hwt hwf
        refine z_aload_n F dX6_mend_53 54 rfl 2 rfl ?_
        refine z_get F dX6_mend_54 57 rfl kX6_mend_56 0 rfl rfl ?_
        refine z_iload_n F dX6_mend_57 58 rfl 5 rfl ?_
        obtain ⟨j1, ej1, hj1, hw⟩ := hw
        refine z_iald F dX6_mend_58 59 rfl 15 rfl (by decide) j1 ej1 hj1 ?_
        refine z_goto F dX6_mend_59 64 rfl ?_
        exact hRt 64 _ ((oR_1 23) j1) (oI_1, oR_1) dX6_mend_64 hw
    · have hw := hwf c3; clear hwt hwf
      refine z_iload F dX6_mend_42 44 rfl 0 rfl ?_
      refine z_goto F dX6_mend_44 64 rfl ?_
      exact hRt 64 _ r2 (oI_1, oR_1) dX6_mend_64 hw
  · have hw := hwf c2; clear hwt hwf
    refine z_aload_n F dX6_mend_22 23 rfl 1 rfl ?_
    refine z_iload F dX6_mend_23 25 rfl 0 rfl ?_
    refine z_segVi (As := [.int s0]) (st := []) F dX6_mend_25 28 rfl (mX6_no C.1.2.1 D cyI cyB aO s0 oI oR hw) y_X6_no rfl gX6_mend_X6_no rfl (ci := 6) (rq := 0) rfl rfl ⟨Nat.le_of_ble_eq_true rfl, Nat.le_of_ble_eq_true rfl⟩ ⟨Nat.zero_le _, Nat.zero_le _⟩ (Nat.le_of_ble_eq_true rfl) [] [] (by simp only [List.append_assoc, List.nil_append, List.append_nil]) (fun _ => rfl) (fun u => (wMo aO cyI u.1 u.2)) (fun u => (by simp only [List.append_assoc, List.nil_append, List.append_nil])) (fun r3 u hp => ?_)
    obtain ⟨oI_2, oR_2⟩ := u
    replace hw := hp
    clear hp
    exact hRt 28 _ r3 (oI_2, oR_2) dX6_mend_28 hw
set_option maxHeartbeats 4000000 in
set_option maxRecDepth 100000 in
theorem xX6_mend_0 {C : zC} {D : va_G} {cyI cyB : ClassId} {aO : Nat → Nat} (x1 : Int32) (x2 : Int32) (x3 : Int32) (oI : Nat → Int32) (oR : Nat → Nat → Int32) (F : zF C D { frames := 6, cells := 0, slots := 0, locals := 142 } cX6_mend 6 wsX6_mend RX6 (some .int) cyI cyB) {post : Int32 → (Nat → Int32) → (Nat → Nat → Int32) → Prop} (hRt : zRi C D cX6_mend 6 (S := ((Nat → Int32) × (Nat → Nat → Int32))) (fun u => (wMo aO cyI u.1 u.2)) (fun r u => post r u.1 u.2)) (hw : pX6_mend x1 x2 x3 oI oR post) : zX C D 6 0 0 (wMo aO cyI oI oR) 0 [(0, .ref (aO 0)), (1, .int x1), (2, .int x2), (3, .int x3)] [] := by
  refine z_iload_n F dX6_mend_0 1 rfl 3 rfl ?_
  refine z_iconst F dX6_mend_1 2 rfl zki_m1 ?_
  obtain ⟨hwt, hwf⟩ := hw
  refine z_icmpge F dX6_mend_2 10 rfl 5 rfl (fun c1 => ?_) (fun c1 => ?_)
  · have hw := hwt c1; clear hwt hwf
    refine z_iload_n F dX6_mend_10 11 rfl 1 rfl ?_
    refine z_iload_n F dX6_mend_11 12 rfl 2 rfl ?_
    refine z_callSi (As := [.int x1, .int x2]) (st := []) F dX6_mend_12 15 rfl (mX6_notTwo C.1.2.1 D cyI cyB x1 x2 hw) y_X6_notTwo rfl gX6_mend_X6_notTwo ⟨Nat.le_of_ble_eq_true rfl, Nat.le_of_ble_eq_true rfl⟩ ⟨Nat.zero_le _, Nat.zero_le _⟩ (Nat.le_of_ble_eq_true rfl) [] (by decide) rfl (fun _ => rfl) (fun u => (wMo aO cyI oI oR)) (fun _ => rfl) (fun r1 u hp => ?_)
    replace hw := hp
    clear hp
    exact xX6_mend_15 x1 x2 x3 r1 oI oR F hRt hw
  · have hw := hwf c1; clear hwt hwf
    refine z_bipush F dX6_mend_5 7 rfl zkb_m4 ?_
    refine z_goto F dX6_mend_7 15 rfl ?_
    exact xX6_mend_15 x1 x2 x3 (-4) oI oR F hRt hw
set_option maxHeartbeats 4000000 in
set_option maxRecDepth 100000 in
theorem mX6_mend (l : Launch) (D : va_G) (cyI cyB : ClassId) (aO : Nat → Nat) (x1 : Int32) (x2 : Int32) (x3 : Int32) (oI : Nat → Int32) (oR : Nat → Nat → Int32) {post : Int32 → (Nat → Int32) → (Nat → Nat → Int32) → Prop} (hw : pX6_mend x1 x2 x3 oI oR post) : zMi l yX6_mend wsX6_mend 6 142 D cyI cyB [.ref (aO 0), .int x1, .int x2, .int x3] (wMo aO cyI oI oR) (S := ((Nat → Int32) × (Nat → Nat → Int32))) (fun u => (wMo aO cyI u.1 u.2)) (fun r u => post r u.1 u.2) :=
  z_meti (cc := cX6_mend) (nL := 6) (by decide +kernel) rfl (Nat.le_of_ble_eq_true rfl) (fun C hl F hRt => xX6_mend_0 x1 x2 x3 oI oR F hRt hw)
theorem y_X6_mend : zY yX6_mend wsX6_mend cX6_mend 6 (some .int) 3 := ⟨⟨_, rfl⟩, by decide +kernel⟩
theorem iX6_walls_6 : ∀ w ∈ wsX60, w ∈ wsX6_walls := fun w h => List.mem_cons_of_mem _ (List.mem_append_right _ h)
theorem kX6_walls_102 : zL wsX6_walls RX6 102 6 12 .int false := zL6 iX6_walls_6 (by decide) (List.mem_of_getElem? (i := 1) rfl) rfl rfl
theorem kX6_walls_153 : zL wsX6_walls RX6 153 6 22 .int false := zL6 iX6_walls_6 (by decide) (List.mem_of_getElem? (i := 2) rfl) rfl rfl
set_option maxHeartbeats 4000000 in
set_option maxRecDepth 100000 in
theorem xX6_walls_54 {C : zC} {D : va_G} {cyI cyB : ClassId} {aO : Nat → Nat} (x1 : Int32) (x3 : Int32) (x4 : Int32) (oI : Nat → Int32) (oR : Nat → Nat → Int32) (F : zF C D { frames := 4, cells := 0, slots := 0, locals := 95 } cX6_walls 5 wsX6_walls RX6 (some .int) cyI cyB) {post : Int32 → (Nat → Int32) → (Nat → Nat → Int32) → Prop} (hRt : zRi C D cX6_walls 5 (S := ((Nat → Int32) × (Nat → Nat → Int32))) (fun u => (wMo aO cyI u.1 u.2)) (fun r u => post r u.1 u.2)) {q24 : Int32 → Int32 → (Nat → Int32) → (Nat → Nat → Int32) → Prop} (hq24 : ∀ (w3 : Int32) (w4 : Int32) (oI : Nat → Int32) (oR : Nat → Nat → Int32), q24 w3 w4 oI oR → zX C D 5 0 0 (wMo aO cyI oI oR) 24 [(0, .ref (aO 0)), (1, .int x1), (3, .int w3), (4, .int w4)] []) (hw : bX6_walls_54 x1 x3 x4 oI oR post q24 ) : zX C D 5 0 0 (wMo aO cyI oI oR) 54 [(0, .ref (aO 0)), (1, .int x1), (3, .int x3), (4, .int x4)] [] := by
  refine z_aload_n F dX6_walls_54 55 rfl 0 rfl ?_
  refine z_iload F dX6_walls_55 57 rfl 3 rfl ?_
  refine z_put F dX6_walls_57 60 rfl kX6_walls_153 0 rfl rfl rfl (Nat.le_of_ble_eq_true rfl) (wMo aO cyI (va_up oI 22 x4) oR) rfl ?_
  refine z_aload_n F dX6_walls_60 61 rfl 0 rfl ?_
  refine z_segVv (As := []) (st := []) F dX6_walls_61 64 rfl (mX6_findKnown C.1.2.1 D cyI cyB aO (va_up oI 22 x4) oR hw) y_X6_findKnown rfl gX6_walls_X6_findKnown rfl (ci := 6) (rq := 0) rfl rfl ⟨Nat.le_of_ble_eq_true rfl, Nat.le_of_ble_eq_true rfl⟩ ⟨Nat.zero_le _, Nat.zero_le _⟩ (Nat.le_of_ble_eq_true rfl) [] [] (by simp only [List.append_assoc, List.nil_append, List.append_nil]) (fun _ => rfl) (fun u => (wMo aO cyI u.1 u.2)) (fun u => (by simp only [List.append_assoc, List.nil_append, List.append_nil])) (fun u hp => ?_)
  obtain ⟨oI_1, oR_1⟩ := u
  replace hw := hp
  clear hp
  refine z_aload_n F dX6_walls_64 65 rfl 0 rfl ?_
  refine z_iload_n F dX6_walls_65 66 rfl 1 rfl ?_
  refine z_iconst F dX6_walls_66 67 rfl zki_1 ?_
  refine z_segVi (As := [.int x1, .int 1]) (st := []) F dX6_walls_67 70 rfl (mX6_holdsAgainst C.1.2.1 D cyI cyB aO x1 true oI_1 oR_1 hw) y_X6_holdsAgainst rfl gX6_walls_X6_holdsAgainst rfl (ci := 6) (rq := 0) rfl rfl ⟨Nat.le_of_ble_eq_true rfl, Nat.le_of_ble_eq_true rfl⟩ ⟨Nat.zero_le _, Nat.zero_le _⟩ (Nat.le_of_ble_eq_true rfl) [] [] (by simp only [List.append_assoc, List.nil_append, List.append_nil]) (fun _ => rfl) (fun u => (wMo aO cyI oI_1 oR_1)) (fun u => (by simp only [List.append_assoc, List.nil_append, List.append_nil])) (fun r0 u hp => ?_)
  obtain ⟨b1, rfl, hw⟩ := hp
  obtain ⟨hwt, hwf⟩ := hw
  refine z_ifeqB F dX6_walls_70 76 rfl 73 rfl (fun c4 => ?_) (fun c4 => ?_)
  · have hw := hwt c4; clear hwt hwf
    refine z_iinc F dX6_walls_76 79 rfl 3 rfl (by decide) zki_1 (fun v1 => [(4, .int v1), (0, .ref (aO 0)), (1, .int x1), (3, .int x3)]) (fun _ => rfl) (fun v1 ev1 => ?_)
    replace hw := hw v1 ev1
    refine z_goto F dX6_walls_79 24 rfl ?_
    refine z_lv (lv' := [(0, .ref (aO 0)), (1, .int x1), (3, .int x3), (4, .int v1)]) [1, 2, 3, 0] rfl ?_
    exact hq24 x3 v1 oI_1 oR_1 hw
  · have hw := hwf c4; clear hwt hwf
    refine z_iload F dX6_walls_73 75 rfl 3 rfl ?_
    refine z_istore_n (lv' := [(3, .int x4), (0, .ref (aO 0)), (1, .int x1), (4, .int x4)]) F dX6_walls_75 76 rfl (by decide) rfl ?_
    refine z_iinc F dX6_walls_76 79 rfl 3 rfl (by decide) zki_1 (fun v2 => [(4, .int v2), (3, .int x4), (0, .ref (aO 0)), (1, .int x1)]) (fun _ => rfl) (fun v2 ev2 => ?_)
    replace hw := hw v2 ev2
    refine z_goto F dX6_walls_79 24 rfl ?_
    refine z_lv (lv' := [(0, .ref (aO 0)), (1, .int x1), (3, .int x4), (4, .int v2)]) [2, 3, 1, 0] rfl ?_
    exact hq24 x4 v2 oI_1 oR_1 hw
set_option maxHeartbeats 4000000 in
set_option maxRecDepth 100000 in
theorem xX6_walls_24 {C : zC} {D : va_G} {cyI cyB : ClassId} {aO : Nat → Nat} (x1 : Int32) (F : zF C D { frames := 4, cells := 0, slots := 0, locals := 95 } cX6_walls 5 wsX6_walls RX6 (some .int) cyI cyB) {post : Int32 → (Nat → Int32) → (Nat → Nat → Int32) → Prop} (hRt : zRi C D cX6_walls 5 (S := ((Nat → Int32) × (Nat → Nat → Int32))) (fun u => (wMo aO cyI u.1 u.2)) (fun r u => post r u.1 u.2)) : ∀ (n : Nat) (x3 : Int32) (x4 : Int32) (oI : Nat → Int32) (oR : Nat → Nat → Int32), bX6_walls_24 x1 post  n x3 x4 oI oR → zX C D 5 0 0 (wMo aO cyI oI oR) 24 [(0, .ref (aO 0)), (1, .int x1), (3, .int x3), (4, .int x4)] [] := by
  intro n
  induction n with
  | zero => intro _ _ _ _ hw; exact hw.elim
  | succ n ih =>
    intro x3 x4 oI oR hw
    refine z_iload F dX6_walls_24 26 rfl 3 rfl ?_
    refine z_iconst F dX6_walls_26 27 rfl zki_1 ?_
    refine z_aload_n F dX6_walls_27 28 rfl 0 rfl ?_
    refine z_get F dX6_walls_28 31 rfl kX6_walls_102 0 rfl rfl ?_
    refine z_ishl F dX6_walls_31 32 rfl ?_
    obtain ⟨hwt, hwf⟩ := hw
    refine z_icmpge F dX6_walls_32 82 rfl 35 rfl (fun c2 => ?_) (fun c2 => ?_)
    · have hw := hwt c2; clear hwt hwf
      refine z_aload_n F dX6_walls_82 83 rfl 0 rfl ?_
      refine z_iconst F dX6_walls_83 84 rfl zki_0 ?_
      refine z_put F dX6_walls_84 87 rfl kX6_walls_153 0 rfl rfl rfl (Nat.le_of_ble_eq_true rfl) (wMo aO cyI (va_up oI 22 0) oR) rfl ?_
      refine z_iload_n F dX6_walls_87 88 rfl 2 rfl ?_
      exact hRt 88 _ x3 ((va_up oI 22 0), oR) dX6_walls_88 hw
    · have hw := hwf c2; clear hwt hwf
      refine z_iload_n F dX6_walls_35 36 rfl 2 rfl ?_
      obtain ⟨hwt, hwf⟩ := hw
      refine z_iflt F dX6_walls_36 54 rfl 39 rfl (fun c3 => ?_) (fun c3 => ?_)
      · have hw := hwt c3; clear hwt hwf
        exact xX6_walls_54 x1 x3 x4 oI oR F hRt ih hw
      · have hw := hwf c3; clear hwt hwf
        refine z_iload F dX6_walls_39 41 rfl 3 rfl ?_
        refine z_callSi (As := [.int x4]) (st := []) F dX6_walls_41 44 rfl (mX6_bits C.1.2.1 D cyI cyB x4 hw) y_X6_bits rfl gX6_walls_X6_bits ⟨Nat.le_of_ble_eq_true rfl, Nat.le_of_ble_eq_true rfl⟩ ⟨Nat.zero_le _, Nat.zero_le _⟩ (Nat.le_of_ble_eq_true rfl) [] (by decide) rfl (fun _ => rfl) (fun u => (wMo aO cyI oI oR)) (fun _ => rfl) (fun r2 u hp => ?_)
        replace hw := hp
        clear hp
        refine z_iload_n F dX6_walls_44 45 rfl 2 rfl ?_
        refine z_callSi (As := [.int x3]) (st := [.int r2]) F dX6_walls_45 48 rfl (mX6_bits C.1.2.1 D cyI cyB x3 hw) y_X6_bits rfl gX6_walls_X6_bits ⟨Nat.le_of_ble_eq_true rfl, Nat.le_of_ble_eq_true rfl⟩ ⟨Nat.zero_le _, Nat.zero_le _⟩ (Nat.le_of_ble_eq_true rfl) [] (by decide) rfl (fun _ => rfl) (fun u => (wMo aO cyI oI oR)) (fun _ => rfl) (fun r3 u hp => ?_)
        replace hw := hp
        clear hp
        obtain ⟨hwt, hwf⟩ := hw
        refine z_icmplt F dX6_walls_48 54 rfl 51 rfl (fun c4 => ?_) (fun c4 => ?_)
        · have hw := hwt c4; clear hwt hwf
          exact xX6_walls_54 x1 x3 x4 oI oR F hRt ih hw
        · have hw := hwf c4; clear hwt hwf
          refine z_goto F dX6_walls_51 76 rfl ?_
          refine z_iinc F dX6_walls_76 79 rfl 3 rfl (by decide) zki_1 (fun v1 => [(4, .int v1), (0, .ref (aO 0)), (1, .int x1), (3, .int x3)]) (fun _ => rfl) (fun v1 ev1 => ?_)
          replace hw := hw v1 ev1
          refine z_goto F dX6_walls_79 24 rfl ?_
          refine z_lv (lv' := [(0, .ref (aO 0)), (1, .int x1), (3, .int x3), (4, .int v1)]) [1, 2, 3, 0] rfl ?_
          exact ih x3 v1 oI oR hw
set_option maxHeartbeats 4000000 in
set_option maxRecDepth 100000 in
theorem xX6_walls_0 {C : zC} {D : va_G} {cyI cyB : ClassId} {aO : Nat → Nat} (x1 : Int32) (oI : Nat → Int32) (oR : Nat → Nat → Int32) (F : zF C D { frames := 4, cells := 0, slots := 0, locals := 95 } cX6_walls 5 wsX6_walls RX6 (some .int) cyI cyB) {post : Int32 → (Nat → Int32) → (Nat → Nat → Int32) → Prop} (hRt : zRi C D cX6_walls 5 (S := ((Nat → Int32) × (Nat → Nat → Int32))) (fun u => (wMo aO cyI u.1 u.2)) (fun r u => post r u.1 u.2)) (hw : pX6_walls x1 oI oR post) : zX C D 5 0 0 (wMo aO cyI oI oR) 0 [(0, .ref (aO 0)), (1, .int x1)] [] := by
  refine z_iload_n F dX6_walls_0 1 rfl 1 rfl ?_
  refine z_iconst F dX6_walls_1 2 rfl zki_0 ?_
  refine z_bipush F dX6_walls_2 4 rfl zkb_8 ?_
  refine z_callSi (As := [.int x1, .int 0, .int 8]) (st := []) F dX6_walls_4 7 rfl (mX6_bound C.1.2.1 D cyI cyB x1 0 8 hw) y_X6_bound rfl gX6_walls_X6_bound ⟨Nat.le_of_ble_eq_true rfl, Nat.le_of_ble_eq_true rfl⟩ ⟨Nat.zero_le _, Nat.zero_le _⟩ (Nat.le_of_ble_eq_true rfl) [] (by decide) rfl (fun _ => rfl) (fun u => (wMo aO cyI oI oR)) (fun _ => rfl) (fun r1 u hp => ?_)
  replace hw := hp
  clear hp
  refine z_istore_n (lv' := [(2, .int r1), (0, .ref (aO 0)), (1, .int x1)]) F dX6_walls_7 8 rfl (by decide) rfl ?_
  refine z_iload_n F dX6_walls_8 9 rfl 0 rfl ?_
  obtain ⟨hwt, hwf⟩ := hw
  refine z_ifeq F dX6_walls_9 18 rfl 12 rfl (fun c1 => ?_) (fun c1 => ?_)
  · have hw := hwt c1; clear hwt hwf
    refine z_bipush F dX6_walls_18 20 rfl zkb_m9 ?_
    refine z_istore_n (lv' := [(3, .int (-9)), (2, .int r1), (0, .ref (aO 0)), (1, .int x1)]) F dX6_walls_20 21 rfl (by decide) rfl ?_
    refine z_iconst F dX6_walls_21 22 rfl zki_0 ?_
    refine z_istore (lv' := [(4, .int 0), (3, .int (-9)), (2, .int r1), (0, .ref (aO 0)), (1, .int x1)]) F dX6_walls_22 24 rfl (by decide) rfl ?_
    obtain ⟨n1, hw⟩ := hw
    refine z_lv (lv' := [(0, .ref (aO 0)), (1, .int x1), (3, .int (-9)), (4, .int 0)]) [3, 4, 1, 0] rfl ?_
    refine xX6_walls_24 x1 F hRt n1 (-9) 0 oI oR hw
  · have hw := hwf c1; clear hwt hwf
    refine z_aload_n F dX6_walls_12 13 rfl 1 rfl ?_
    refine z_iload_n F dX6_walls_13 14 rfl 0 rfl ?_
    refine z_segVi (As := [.int r1]) (st := []) F dX6_walls_14 17 rfl (mX6_no C.1.2.1 D cyI cyB aO r1 oI oR hw) y_X6_no rfl gX6_walls_X6_no rfl (ci := 6) (rq := 0) rfl rfl ⟨Nat.le_of_ble_eq_true rfl, Nat.le_of_ble_eq_true rfl⟩ ⟨Nat.zero_le _, Nat.zero_le _⟩ (Nat.le_of_ble_eq_true rfl) [] [] (by simp only [List.append_assoc, List.nil_append, List.append_nil]) (fun _ => rfl) (fun u => (wMo aO cyI u.1 u.2)) (fun u => (by simp only [List.append_assoc, List.nil_append, List.append_nil])) (fun r2 u hp => ?_)
    obtain ⟨oI_1, oR_1⟩ := u
    replace hw := hp
    clear hp
    exact hRt 17 _ r2 (oI_1, oR_1) dX6_walls_17 hw
set_option maxHeartbeats 4000000 in
set_option maxRecDepth 100000 in
theorem mX6_walls (l : Launch) (D : va_G) (cyI cyB : ClassId) (aO : Nat → Nat) (x1 : Int32) (oI : Nat → Int32) (oR : Nat → Nat → Int32) {post : Int32 → (Nat → Int32) → (Nat → Nat → Int32) → Prop} (hw : pX6_walls x1 oI oR post) : zMi l yX6_walls wsX6_walls 4 95 D cyI cyB [.ref (aO 0), .int x1] (wMo aO cyI oI oR) (S := ((Nat → Int32) × (Nat → Nat → Int32))) (fun u => (wMo aO cyI u.1 u.2)) (fun r u => post r u.1 u.2) :=
  z_meti (cc := cX6_walls) (nL := 5) (by decide +kernel) rfl (Nat.le_of_ble_eq_true rfl) (fun C hl F hRt => xX6_walls_0 x1 oI oR F hRt hw)
theorem y_X6_walls : zY yX6_walls wsX6_walls cX6_walls 5 (some .int) 1 := ⟨⟨_, rfl⟩, by decide +kernel⟩
theorem iX6_bank_6 : ∀ w ∈ wsX60, w ∈ wsX6_bank := fun w h => List.mem_cons_of_mem _ (List.mem_append_right _ h)
theorem kX6_bank_83 : zL wsX6_bank RX6 83 6 15 .int false := zL6 iX6_bank_6 (by decide) (List.mem_of_getElem? (i := 1) rfl) rfl rfl
set_option maxHeartbeats 4000000 in
set_option maxRecDepth 100000 in
theorem xX6_bank_64 {C : zC} {D : va_G} {cyI cyB : ClassId} {aO : Nat → Nat} (x1 : Int32) (x3 : Int32) (x4 : Int32) (x5 : Int32) (oI : Nat → Int32) (oR : Nat → Nat → Int32) (F : zF C D { frames := 4, cells := 0, slots := 0, locals := 95 } cX6_bank 6 wsX6_bank RX6 (some .int) cyI cyB) {post : Int32 → (Nat → Int32) → (Nat → Nat → Int32) → Prop} (hRt : zRi C D cX6_bank 6 (S := ((Nat → Int32) × (Nat → Nat → Int32))) (fun u => (wMo aO cyI u.1 u.2)) (fun r u => post r u.1 u.2)) {q34 : Int32 → Int32 → (Nat → Int32) → (Nat → Nat → Int32) → Prop} (hq34 : ∀ (w4 : Int32) (w5 : Int32) (oI : Nat → Int32) (oR : Nat → Nat → Int32), q34 w4 w5 oI oR → zX C D 6 0 0 (wMo aO cyI oI oR) 34 [(0, .ref (aO 0)), (1, .int x1), (3, .int x3), (4, .int w4), (5, .int w5)] []) (hw : bX6_bank_64 x1 x3 x4 x5 oI oR post q34 ) : zX C D 6 0 0 (wMo aO cyI oI oR) 64 [(0, .ref (aO 0)), (1, .int x1), (3, .int x3), (4, .int x4), (5, .int x5)] [] := by
  refine z_aload_n F dX6_bank_64 65 rfl 0 rfl ?_
  refine z_iload F dX6_bank_65 67 rfl 4 rfl ?_
  refine z_put F dX6_bank_67 70 rfl kX6_bank_83 0 rfl rfl rfl (Nat.le_of_ble_eq_true rfl) (wMo aO cyI (va_up oI 15 x5) oR) rfl ?_
  refine z_aload_n F dX6_bank_70 71 rfl 0 rfl ?_
  refine z_iload_n F dX6_bank_71 72 rfl 1 rfl ?_
  refine z_iconst F dX6_bank_72 73 rfl zki_0 ?_
  refine z_segVi (As := [.int x1, .int 0]) (st := []) F dX6_bank_73 76 rfl (mX6_holdsAgainst C.1.2.1 D cyI cyB aO x1 false (va_up oI 15 x5) oR hw) y_X6_holdsAgainst rfl gX6_bank_X6_holdsAgainst rfl (ci := 6) (rq := 0) rfl rfl ⟨Nat.le_of_ble_eq_true rfl, Nat.le_of_ble_eq_true rfl⟩ ⟨Nat.zero_le _, Nat.zero_le _⟩ (Nat.le_of_ble_eq_true rfl) [] [] (by simp only [List.append_assoc, List.nil_append, List.append_nil]) (fun _ => rfl) (fun u => (wMo aO cyI (va_up oI 15 x5) oR)) (fun u => (by simp only [List.append_assoc, List.nil_append, List.append_nil])) (fun r0 u hp => ?_)
  obtain ⟨b1, rfl, hw⟩ := hp
  obtain ⟨hwt, hwf⟩ := hw
  refine z_ifeqB F dX6_bank_76 83 rfl 79 rfl (fun c4 => ?_) (fun c4 => ?_)
  · have hw := hwt c4; clear hwt hwf
    refine z_iinc F dX6_bank_83 86 rfl 4 rfl (by decide) zki_1 (fun v1 => [(5, .int v1), (0, .ref (aO 0)), (1, .int x1), (3, .int x3), (4, .int x4)]) (fun _ => rfl) (fun v1 ev1 => ?_)
    replace hw := hw v1 ev1
    refine z_goto F dX6_bank_86 34 rfl ?_
    refine z_lv (lv' := [(0, .ref (aO 0)), (1, .int x1), (3, .int x3), (4, .int x4), (5, .int v1)]) [1, 2, 3, 4, 0] rfl ?_
    exact hq34 x4 v1 (va_up oI 15 x5) oR hw
  · have hw := hwf c4; clear hwt hwf
    refine z_iload F dX6_bank_79 81 rfl 4 rfl ?_
    refine z_istore (lv' := [(4, .int x5), (0, .ref (aO 0)), (1, .int x1), (3, .int x3), (5, .int x5)]) F dX6_bank_81 83 rfl (by decide) rfl ?_
    refine z_iinc F dX6_bank_83 86 rfl 4 rfl (by decide) zki_1 (fun v2 => [(5, .int v2), (4, .int x5), (0, .ref (aO 0)), (1, .int x1), (3, .int x3)]) (fun _ => rfl) (fun v2 ev2 => ?_)
    replace hw := hw v2 ev2
    refine z_goto F dX6_bank_86 34 rfl ?_
    refine z_lv (lv' := [(0, .ref (aO 0)), (1, .int x1), (3, .int x3), (4, .int x5), (5, .int v2)]) [2, 3, 4, 1, 0] rfl ?_
    exact hq34 x5 v2 (va_up oI 15 x5) oR hw
set_option maxHeartbeats 4000000 in
set_option maxRecDepth 100000 in
theorem xX6_bank_34 {C : zC} {D : va_G} {cyI cyB : ClassId} {aO : Nat → Nat} (x1 : Int32) (x3 : Int32) (F : zF C D { frames := 4, cells := 0, slots := 0, locals := 95 } cX6_bank 6 wsX6_bank RX6 (some .int) cyI cyB) {post : Int32 → (Nat → Int32) → (Nat → Nat → Int32) → Prop} (hRt : zRi C D cX6_bank 6 (S := ((Nat → Int32) × (Nat → Nat → Int32))) (fun u => (wMo aO cyI u.1 u.2)) (fun r u => post r u.1 u.2)) : ∀ (n : Nat) (x4 : Int32) (x5 : Int32) (oI : Nat → Int32) (oR : Nat → Nat → Int32), bX6_bank_34 x1 x3 post  n x4 x5 oI oR → zX C D 6 0 0 (wMo aO cyI oI oR) 34 [(0, .ref (aO 0)), (1, .int x1), (3, .int x3), (4, .int x4), (5, .int x5)] [] := by
  intro n
  induction n with
  | zero => intro _ _ _ _ hw; exact hw.elim
  | succ n ih =>
    intro x4 x5 oI oR hw
    refine z_iload F dX6_bank_34 36 rfl 4 rfl ?_
    refine z_aload_n F dX6_bank_36 37 rfl 0 rfl ?_
    refine z_segVi (As := []) (st := [.int x5]) F dX6_bank_37 40 rfl (mX6_all C.1.2.1 D cyI cyB aO oI oR hw) y_X6_all rfl gX6_bank_X6_all rfl (ci := 6) (rq := 0) rfl rfl ⟨Nat.le_of_ble_eq_true rfl, Nat.le_of_ble_eq_true rfl⟩ ⟨Nat.zero_le _, Nat.zero_le _⟩ (Nat.le_of_ble_eq_true rfl) [] [] (by simp only [List.append_assoc, List.nil_append, List.append_nil]) (fun _ => rfl) (fun u => (wMo aO cyI oI oR)) (fun u => (by simp only [List.append_assoc, List.nil_append, List.append_nil])) (fun r2 u hp => ?_)
    replace hw := hp
    clear hp
    obtain ⟨hwt, hwf⟩ := hw
    refine z_icmpgt F dX6_bank_40 89 rfl 43 rfl (fun c2 => ?_) (fun c2 => ?_)
    · have hw := hwt c2; clear hwt hwf
      refine z_aload_n F dX6_bank_89 90 rfl 0 rfl ?_
      refine z_iload_n F dX6_bank_90 91 rfl 2 rfl ?_
      refine z_put F dX6_bank_91 94 rfl kX6_bank_83 0 rfl rfl rfl (Nat.le_of_ble_eq_true rfl) (wMo aO cyI (va_up oI 15 x3) oR) rfl ?_
      refine z_iload F dX6_bank_94 96 rfl 3 rfl ?_
      exact hRt 96 _ x4 ((va_up oI 15 x3), oR) dX6_bank_96 hw
    · have hw := hwf c2; clear hwt hwf
      refine z_iload F dX6_bank_43 45 rfl 3 rfl ?_
      obtain ⟨hwt, hwf⟩ := hw
      refine z_iflt F dX6_bank_45 64 rfl 48 rfl (fun c3 => ?_) (fun c3 => ?_)
      · have hw := hwt c3; clear hwt hwf
        exact xX6_bank_64 x1 x3 x4 x5 oI oR F hRt ih hw
      · have hw := hwf c3; clear hwt hwf
        refine z_iload F dX6_bank_48 50 rfl 4 rfl ?_
        refine z_callSi (As := [.int x5]) (st := []) F dX6_bank_50 53 rfl (mX6_bits C.1.2.1 D cyI cyB x5 hw) y_X6_bits rfl gX6_bank_X6_bits ⟨Nat.le_of_ble_eq_true rfl, Nat.le_of_ble_eq_true rfl⟩ ⟨Nat.zero_le _, Nat.zero_le _⟩ (Nat.le_of_ble_eq_true rfl) [] (by decide) rfl (fun _ => rfl) (fun u => (wMo aO cyI oI oR)) (fun _ => rfl) (fun r3 u hp => ?_)
        replace hw := hp
        clear hp
        refine z_iload F dX6_bank_53 55 rfl 3 rfl ?_
        refine z_callSi (As := [.int x4]) (st := [.int r3]) F dX6_bank_55 58 rfl (mX6_bits C.1.2.1 D cyI cyB x4 hw) y_X6_bits rfl gX6_bank_X6_bits ⟨Nat.le_of_ble_eq_true rfl, Nat.le_of_ble_eq_true rfl⟩ ⟨Nat.zero_le _, Nat.zero_le _⟩ (Nat.le_of_ble_eq_true rfl) [] (by decide) rfl (fun _ => rfl) (fun u => (wMo aO cyI oI oR)) (fun _ => rfl) (fun r4 u hp => ?_)
        replace hw := hp
        clear hp
        obtain ⟨hwt, hwf⟩ := hw
        refine z_icmplt F dX6_bank_58 64 rfl 61 rfl (fun c4 => ?_) (fun c4 => ?_)
        · have hw := hwt c4; clear hwt hwf
          exact xX6_bank_64 x1 x3 x4 x5 oI oR F hRt ih hw
        · have hw := hwf c4; clear hwt hwf
          refine z_goto F dX6_bank_61 83 rfl ?_
          refine z_iinc F dX6_bank_83 86 rfl 4 rfl (by decide) zki_1 (fun v1 => [(5, .int v1), (0, .ref (aO 0)), (1, .int x1), (3, .int x3), (4, .int x4)]) (fun _ => rfl) (fun v1 ev1 => ?_)
          replace hw := hw v1 ev1
          refine z_goto F dX6_bank_86 34 rfl ?_
          refine z_lv (lv' := [(0, .ref (aO 0)), (1, .int x1), (3, .int x3), (4, .int x4), (5, .int v1)]) [1, 2, 3, 4, 0] rfl ?_
          exact ih x4 v1 oI oR hw
set_option maxHeartbeats 4000000 in
set_option maxRecDepth 100000 in
theorem xX6_bank_0 {C : zC} {D : va_G} {cyI cyB : ClassId} {aO : Nat → Nat} (x1 : Int32) (oI : Nat → Int32) (oR : Nat → Nat → Int32) (F : zF C D { frames := 4, cells := 0, slots := 0, locals := 95 } cX6_bank 6 wsX6_bank RX6 (some .int) cyI cyB) {post : Int32 → (Nat → Int32) → (Nat → Nat → Int32) → Prop} (hRt : zRi C D cX6_bank 6 (S := ((Nat → Int32) × (Nat → Nat → Int32))) (fun u => (wMo aO cyI u.1 u.2)) (fun r u => post r u.1 u.2)) (hw : pX6_bank x1 oI oR post) : zX C D 6 0 0 (wMo aO cyI oI oR) 0 [(0, .ref (aO 0)), (1, .int x1)] [] := by
  refine z_iload_n F dX6_bank_0 1 rfl 1 rfl ?_
  refine z_iconst F dX6_bank_1 2 rfl zki_0 ?_
  refine z_bipush F dX6_bank_2 4 rfl zkb_8 ?_
  refine z_callSi (As := [.int x1, .int 0, .int 8]) (st := []) F dX6_bank_4 7 rfl (mX6_bound C.1.2.1 D cyI cyB x1 0 8 hw) y_X6_bound rfl gX6_bank_X6_bound ⟨Nat.le_of_ble_eq_true rfl, Nat.le_of_ble_eq_true rfl⟩ ⟨Nat.zero_le _, Nat.zero_le _⟩ (Nat.le_of_ble_eq_true rfl) [] (by decide) rfl (fun _ => rfl) (fun u => (wMo aO cyI oI oR)) (fun _ => rfl) (fun r1 u hp => ?_)
  replace hw := hp
  clear hp
  refine z_istore_n (lv' := [(2, .int r1), (0, .ref (aO 0)), (1, .int x1)]) F dX6_bank_7 8 rfl (by decide) rfl ?_
  refine z_iload_n F dX6_bank_8 9 rfl 0 rfl ?_
  obtain ⟨hwt, hwf⟩ := hw
  refine z_ifeq F dX6_bank_9 18 rfl 12 rfl (fun c1 => ?_) (fun c1 => ?_)
  · have hw := hwt c1; clear hwt hwf
    refine z_aload_n F dX6_bank_18 19 rfl 1 rfl ?_
    refine z_segVv (As := []) (st := []) F dX6_bank_19 22 rfl (mX6_findKnown C.1.2.1 D cyI cyB aO oI oR hw) y_X6_findKnown rfl gX6_bank_X6_findKnown rfl (ci := 6) (rq := 0) rfl rfl ⟨Nat.le_of_ble_eq_true rfl, Nat.le_of_ble_eq_true rfl⟩ ⟨Nat.zero_le _, Nat.zero_le _⟩ (Nat.le_of_ble_eq_true rfl) [] [] (by simp only [List.append_assoc, List.nil_append, List.append_nil]) (fun _ => rfl) (fun u => (wMo aO cyI u.1 u.2)) (fun u => (by simp only [List.append_assoc, List.nil_append, List.append_nil])) (fun u hp => ?_)
    obtain ⟨oI_1, oR_1⟩ := u
    replace hw := hp
    clear hp
    refine z_aload_n F dX6_bank_22 23 rfl 1 rfl ?_
    refine z_get F dX6_bank_23 26 rfl kX6_bank_83 0 rfl rfl ?_
    refine z_istore_n (lv' := [(3, .int (oI_1 15)), (2, .int r1), (0, .ref (aO 0)), (1, .int x1)]) F dX6_bank_26 27 rfl (by decide) rfl ?_
    refine z_bipush F dX6_bank_27 29 rfl zkb_m9 ?_
    refine z_istore (lv' := [(4, .int (-9)), (3, .int (oI_1 15)), (2, .int r1), (0, .ref (aO 0)), (1, .int x1)]) F dX6_bank_29 31 rfl (by decide) rfl ?_
    refine z_iconst F dX6_bank_31 32 rfl zki_0 ?_
    refine z_istore (lv' := [(5, .int 0), (4, .int (-9)), (3, .int (oI_1 15)), (2, .int r1), (0, .ref (aO 0)), (1, .int x1)]) F dX6_bank_32 34 rfl (by decide) rfl ?_
    obtain ⟨n1, hw⟩ := hw
    refine z_lv (lv' := [(0, .ref (aO 0)), (1, .int x1), (3, .int (oI_1 15)), (4, .int (-9)), (5, .int 0)]) [4, 5, 2, 1, 0] rfl ?_
    refine xX6_bank_34 x1 (oI_1 15) F hRt n1 (-9) 0 oI_1 oR_1 hw
  · have hw := hwf c1; clear hwt hwf
    refine z_aload_n F dX6_bank_12 13 rfl 1 rfl ?_
    refine z_iload_n F dX6_bank_13 14 rfl 0 rfl ?_
    refine z_segVi (As := [.int r1]) (st := []) F dX6_bank_14 17 rfl (mX6_no C.1.2.1 D cyI cyB aO r1 oI oR hw) y_X6_no rfl gX6_bank_X6_no rfl (ci := 6) (rq := 0) rfl rfl ⟨Nat.le_of_ble_eq_true rfl, Nat.le_of_ble_eq_true rfl⟩ ⟨Nat.zero_le _, Nat.zero_le _⟩ (Nat.le_of_ble_eq_true rfl) [] [] (by simp only [List.append_assoc, List.nil_append, List.append_nil]) (fun _ => rfl) (fun u => (wMo aO cyI u.1 u.2)) (fun u => (by simp only [List.append_assoc, List.nil_append, List.append_nil])) (fun r2 u hp => ?_)
    obtain ⟨oI_2, oR_2⟩ := u
    replace hw := hp
    clear hp
    exact hRt 17 _ r2 (oI_2, oR_2) dX6_bank_17 hw
set_option maxHeartbeats 4000000 in
set_option maxRecDepth 100000 in
theorem mX6_bank (l : Launch) (D : va_G) (cyI cyB : ClassId) (aO : Nat → Nat) (x1 : Int32) (oI : Nat → Int32) (oR : Nat → Nat → Int32) {post : Int32 → (Nat → Int32) → (Nat → Nat → Int32) → Prop} (hw : pX6_bank x1 oI oR post) : zMi l yX6_bank wsX6_bank 4 95 D cyI cyB [.ref (aO 0), .int x1] (wMo aO cyI oI oR) (S := ((Nat → Int32) × (Nat → Nat → Int32))) (fun u => (wMo aO cyI u.1 u.2)) (fun r u => post r u.1 u.2) :=
  z_meti (cc := cX6_bank) (nL := 6) (by decide +kernel) rfl (Nat.le_of_ble_eq_true rfl) (fun C hl F hRt => xX6_bank_0 x1 oI oR F hRt hw)
theorem y_X6_bank : zY yX6_bank wsX6_bank cX6_bank 6 (some .int) 1 := ⟨⟨_, rfl⟩, by decide +kernel⟩
theorem iX6_gives_6 : ∀ w ∈ wsX60, w ∈ wsX6_gives := fun w h => List.mem_cons_of_mem _ (List.mem_append_right _ h)
theorem kX6_gives_13 : zL wsX6_gives RX6 13 6 1 (.array .int) true := zL6 iX6_gives_6 (by decide) (List.mem_of_getElem? (i := 3) rfl) rfl rfl
theorem kX6_gives_19 : zL wsX6_gives RX6 19 6 3 (.array .int) true := zL6 iX6_gives_6 (by decide) (List.mem_of_getElem? (i := 4) rfl) rfl rfl
theorem kX6_gives_59 : zL wsX6_gives RX6 59 6 24 (.array .int) true := zL6 iX6_gives_6 (by decide) (List.mem_of_getElem? (i := 2) rfl) rfl rfl
theorem kX6_gives_72 : zL wsX6_gives RX6 72 6 11 .int false := zL6 iX6_gives_6 (by decide) (List.mem_of_getElem? (i := 1) rfl) rfl rfl
set_option maxHeartbeats 4000000 in
set_option maxRecDepth 100000 in
theorem xX6_gives_16 {C : zC} {D : va_G} {cyI cyB : ClassId} {aO : Nat → Nat} (x1 : Int32) (x2 : Int32) (F : zF C D { frames := 2, cells := 0, slots := 0, locals := 42 } cX6_gives 6 wsX6_gives RX6 (some .int) cyI cyB) {post : Int32 → (Nat → Int32) → (Nat → Nat → Int32) → Prop} (hRt : zRi C D cX6_gives 6 (S := ((Nat → Int32) × (Nat → Nat → Int32))) (fun u => (wMo aO cyI u.1 u.2)) (fun r u => post r u.1 u.2)) : ∀ (n : Nat) (x3 : Int32) (x4 : Int32) (x5 : Int32) (oI : Nat → Int32) (oR : Nat → Nat → Int32), bX6_gives_16 x1 x2 post  n x3 x4 x5 oI oR → zX C D 6 0 0 (wMo aO cyI oI oR) 16 [(0, .ref (aO 0)), (1, .int x1), (2, .int x2), (3, .int x3), (4, .int x4), (5, .int x5)] [] := by
  intro n
  induction n with
  | zero => intro _ _ _ _ _ hw; exact hw.elim
  | succ n ih =>
    intro x3 x4 x5 oI oR hw
    refine z_iload F dX6_gives_16 18 rfl 5 rfl ?_
    refine z_aload_n F dX6_gives_18 19 rfl 0 rfl ?_
    refine z_get F dX6_gives_19 22 rfl kX6_gives_72 0 rfl rfl ?_
    obtain ⟨hwt, hwf⟩ := hw
    refine z_icmpge F dX6_gives_22 91 rfl 25 rfl (fun c1 => ?_) (fun c1 => ?_)
    · have hw := hwt c1; clear hwt hwf
      refine z_iload F dX6_gives_91 93 rfl 4 rfl ?_
      exact hRt 93 _ x4 (oI, oR) dX6_gives_93 hw
    · have hw := hwf c1; clear hwt hwf
      refine z_aload_n F dX6_gives_25 26 rfl 0 rfl ?_
      refine z_get F dX6_gives_26 29 rfl kX6_gives_59 0 rfl rfl ?_
      refine z_iload F dX6_gives_29 31 rfl 5 rfl ?_
      refine z_aload_n F dX6_gives_31 32 rfl 0 rfl ?_
      refine z_get F dX6_gives_32 35 rfl kX6_gives_13 0 rfl rfl ?_
      refine z_iload F dX6_gives_35 37 rfl 5 rfl ?_
      obtain ⟨j1, ej1, hj1, hw⟩ := hw
      refine z_iald F dX6_gives_37 38 rfl 2 rfl (by decide) j1 ej1 hj1 ?_
      refine z_topi (fun v1 ev1 => ?_)
      replace hw := hw v1 ev1
      refine z_iast F dX6_gives_38 39 rfl 16 rfl (by decide) j1 ej1 hj1 (wMo aO cyI oI (va_up oR 24 (upd (oR 24) j1 v1))) rfl ?_
      refine z_aload_n F dX6_gives_39 40 rfl 0 rfl ?_
      refine z_get F dX6_gives_40 43 rfl kX6_gives_19 0 rfl rfl ?_
      refine z_iload F dX6_gives_43 45 rfl 5 rfl ?_
      refine z_iald F dX6_gives_45 46 rfl 4 rfl (by decide) j1 ej1 hj1 ?_
      refine z_iconst F dX6_gives_46 47 rfl zki_1 ?_
      obtain ⟨hwt, hwf⟩ := hw
      refine z_icmpne F dX6_gives_47 53 rfl 50 rfl (fun c2 => ?_) (fun c2 => ?_)
      · have hw := hwt c2; clear hwt hwf
        refine z_aload_n F dX6_gives_53 54 rfl 0 rfl ?_
        refine z_get F dX6_gives_54 57 rfl kX6_gives_13 0 rfl rfl ?_
        refine z_iload F dX6_gives_57 59 rfl 5 rfl ?_
        refine z_aload_n F dX6_gives_59 60 rfl 0 rfl ?_
        refine z_iload_n F dX6_gives_60 61 rfl 1 rfl ?_
        refine z_iload_n F dX6_gives_61 62 rfl 3 rfl ?_
        refine z_iload_n F dX6_gives_62 63 rfl 2 rfl ?_
        refine z_segVi (As := [.int x1, .int x3, .int x2]) (st := [.int x5, .ref (aO 2)]) F dX6_gives_63 66 rfl (mX6_given C.1.2.1 D cyI cyB aO x1 x3 x2 oI (va_up oR 24 (upd (oR 24) j1 v1)) hw) y_X6_given rfl gX6_gives_X6_given rfl (ci := 6) (rq := 0) rfl rfl ⟨Nat.le_of_ble_eq_true rfl, Nat.le_of_ble_eq_true rfl⟩ ⟨Nat.zero_le _, Nat.zero_le _⟩ (Nat.le_of_ble_eq_true rfl) [] [] (by simp only [List.append_assoc, List.nil_append, List.append_nil]) (fun _ => rfl) (fun u => (wMo aO cyI oI (va_up oR 24 (upd (oR 24) j1 v1)))) (fun u => (by simp only [List.append_assoc, List.nil_append, List.append_nil])) (fun r3 u hp => ?_)
        replace hw := hp
        clear hp
        refine z_iast F dX6_gives_66 67 rfl 2 rfl (by decide) j1 ej1 hj1 (wMo aO cyI oI (va_up (va_up oR 24 (upd (oR 24) j1 v1)) 1 (upd (oR 1) j1 r3))) rfl ?_
        refine z_iload F dX6_gives_67 69 rfl 4 rfl ?_
        refine z_aload_n F dX6_gives_69 70 rfl 0 rfl ?_
        refine z_get F dX6_gives_70 73 rfl kX6_gives_13 0 rfl rfl ?_
        refine z_iload F dX6_gives_73 75 rfl 5 rfl ?_
        refine z_iald F dX6_gives_75 76 rfl 2 rfl (by decide) j1 ej1 hj1 ?_
        refine z_callSi (As := [.int ((upd (oR 1) j1 r3) j1)]) (st := [.int x4]) F dX6_gives_76 79 rfl (mX6_bits C.1.2.1 D cyI cyB ((upd (oR 1) j1 r3) j1) hw) y_X6_bits rfl gX6_gives_X6_bits ⟨Nat.le_of_ble_eq_true rfl, Nat.le_of_ble_eq_true rfl⟩ ⟨Nat.zero_le _, Nat.zero_le _⟩ (Nat.le_of_ble_eq_true rfl) [] (by decide) rfl (fun _ => rfl) (fun u => (wMo aO cyI oI (va_up (va_up oR 24 (upd (oR 24) j1 v1)) 1 (upd (oR 1) j1 r3)))) (fun _ => rfl) (fun r4 u hp => ?_)
        replace hw := hp
        clear hp
        refine z_iadd F dX6_gives_79 80 rfl ?_
        refine z_topi (fun v2 ev2 => ?_)
        replace hw := hw v2 ev2
        refine z_istore (lv' := [(4, .int v2), (0, .ref (aO 0)), (1, .int x1), (2, .int x2), (3, .int x3), (5, .int x5)]) F dX6_gives_80 82 rfl (by decide) rfl ?_
        refine z_iinc F dX6_gives_82 85 rfl 4 rfl (by decide) zki_1 (fun v3 => [(3, .int v3), (4, .int v2), (0, .ref (aO 0)), (1, .int x1), (2, .int x2), (5, .int x5)]) (fun _ => rfl) (fun v3 ev3 => ?_)
        replace hw := hw v3 ev3
        refine z_iinc F dX6_gives_85 88 rfl 5 rfl (by decide) zki_1 (fun v4 => [(5, .int v4), (3, .int v3), (4, .int v2), (0, .ref (aO 0)), (1, .int x1), (2, .int x2)]) (fun _ => rfl) (fun v4 ev4 => ?_)
        replace hw := hw v4 ev4
        refine z_goto F dX6_gives_88 16 rfl ?_
        refine z_lv (lv' := [(0, .ref (aO 0)), (1, .int x1), (2, .int x2), (3, .int v3), (4, .int v2), (5, .int v4)]) [3, 4, 5, 1, 2, 0] rfl ?_
        exact ih v3 v2 v4 oI (va_up (va_up oR 24 (upd (oR 24) j1 v1)) 1 (upd (oR 1) j1 r3)) hw
      · have hw := hwf c2; clear hwt hwf
        refine z_goto F dX6_gives_50 85 rfl ?_
        refine z_iinc F dX6_gives_85 88 rfl 5 rfl (by decide) zki_1 (fun v5 => [(5, .int v5), (0, .ref (aO 0)), (1, .int x1), (2, .int x2), (3, .int x3), (4, .int x4)]) (fun _ => rfl) (fun v5 ev5 => ?_)
        replace hw := hw v5 ev5
        refine z_goto F dX6_gives_88 16 rfl ?_
        refine z_lv (lv' := [(0, .ref (aO 0)), (1, .int x1), (2, .int x2), (3, .int x3), (4, .int x4), (5, .int v5)]) [1, 2, 3, 4, 5, 0] rfl ?_
        exact ih x3 x4 v5 oI (va_up oR 24 (upd (oR 24) j1 v1)) hw
set_option maxHeartbeats 4000000 in
set_option maxRecDepth 100000 in
theorem xX6_gives_0 {C : zC} {D : va_G} {cyI cyB : ClassId} {aO : Nat → Nat} (x1 : Int32) (oI : Nat → Int32) (oR : Nat → Nat → Int32) (F : zF C D { frames := 2, cells := 0, slots := 0, locals := 42 } cX6_gives 6 wsX6_gives RX6 (some .int) cyI cyB) {post : Int32 → (Nat → Int32) → (Nat → Nat → Int32) → Prop} (hRt : zRi C D cX6_gives 6 (S := ((Nat → Int32) × (Nat → Nat → Int32))) (fun u => (wMo aO cyI u.1 u.2)) (fun r u => post r u.1 u.2)) (hw : pX6_gives x1 oI oR post) : zX C D 6 0 0 (wMo aO cyI oI oR) 0 [(0, .ref (aO 0)), (1, .int x1)] [] := by
  refine z_aload_n F dX6_gives_0 1 rfl 0 rfl ?_
  refine z_segVi (As := []) (st := []) F dX6_gives_1 4 rfl (mX6_houseSet C.1.2.1 D cyI cyB aO oI oR hw) y_X6_houseSet rfl gX6_gives_X6_houseSet rfl (ci := 6) (rq := 0) rfl rfl ⟨Nat.le_of_ble_eq_true rfl, Nat.le_of_ble_eq_true rfl⟩ ⟨Nat.zero_le _, Nat.zero_le _⟩ (Nat.le_of_ble_eq_true rfl) [] [] (by simp only [List.append_assoc, List.nil_append, List.append_nil]) (fun _ => rfl) (fun u => (wMo aO cyI oI oR)) (fun u => (by simp only [List.append_assoc, List.nil_append, List.append_nil])) (fun r1 u hp => ?_)
  replace hw := hp
  clear hp
  refine z_callSi (As := [.int r1]) (st := []) F dX6_gives_4 7 rfl (mX6_bits C.1.2.1 D cyI cyB r1 hw) y_X6_bits rfl gX6_gives_X6_bits ⟨Nat.le_of_ble_eq_true rfl, Nat.le_of_ble_eq_true rfl⟩ ⟨Nat.zero_le _, Nat.zero_le _⟩ (Nat.le_of_ble_eq_true rfl) [] (by decide) rfl (fun _ => rfl) (fun u => (wMo aO cyI oI oR)) (fun _ => rfl) (fun r2 u hp => ?_)
  replace hw := hp
  clear hp
  refine z_istore_n (lv' := [(2, .int r2), (0, .ref (aO 0)), (1, .int x1)]) F dX6_gives_7 8 rfl (by decide) rfl ?_
  refine z_iconst F dX6_gives_8 9 rfl zki_0 ?_
  refine z_istore_n (lv' := [(3, .int 0), (2, .int r2), (0, .ref (aO 0)), (1, .int x1)]) F dX6_gives_9 10 rfl (by decide) rfl ?_
  refine z_iconst F dX6_gives_10 11 rfl zki_0 ?_
  refine z_istore (lv' := [(4, .int 0), (3, .int 0), (2, .int r2), (0, .ref (aO 0)), (1, .int x1)]) F dX6_gives_11 13 rfl (by decide) rfl ?_
  refine z_iconst F dX6_gives_13 14 rfl zki_0 ?_
  refine z_istore (lv' := [(5, .int 0), (4, .int 0), (3, .int 0), (2, .int r2), (0, .ref (aO 0)), (1, .int x1)]) F dX6_gives_14 16 rfl (by decide) rfl ?_
  obtain ⟨n1, hw⟩ := hw
  refine z_lv (lv' := [(0, .ref (aO 0)), (1, .int x1), (2, .int r2), (3, .int 0), (4, .int 0), (5, .int 0)]) [4, 5, 3, 2, 1, 0] rfl ?_
  refine xX6_gives_16 x1 r2 F hRt n1 0 0 0 oI oR hw
set_option maxHeartbeats 4000000 in
set_option maxRecDepth 100000 in
theorem mX6_gives (l : Launch) (D : va_G) (cyI cyB : ClassId) (aO : Nat → Nat) (x1 : Int32) (oI : Nat → Int32) (oR : Nat → Nat → Int32) {post : Int32 → (Nat → Int32) → (Nat → Nat → Int32) → Prop} (hw : pX6_gives x1 oI oR post) : zMi l yX6_gives wsX6_gives 2 42 D cyI cyB [.ref (aO 0), .int x1] (wMo aO cyI oI oR) (S := ((Nat → Int32) × (Nat → Nat → Int32))) (fun u => (wMo aO cyI u.1 u.2)) (fun r u => post r u.1 u.2) :=
  z_meti (cc := cX6_gives) (nL := 6) (by decide +kernel) rfl (Nat.le_of_ble_eq_true rfl) (fun C hl F hRt => xX6_gives_0 x1 oI oR F hRt hw)
theorem y_X6_gives : zY yX6_gives wsX6_gives cX6_gives 6 (some .int) 1 := ⟨⟨_, rfl⟩, by decide +kernel⟩
theorem iX6_givesBack_6 : ∀ w ∈ wsX60, w ∈ wsX6_givesBack := fun w h => List.mem_cons_of_mem _ (List.mem_append_right _ h)
theorem kX6_givesBack_13 : zL wsX6_givesBack RX6 13 6 1 (.array .int) true := zL6 iX6_givesBack_6 (by decide) (List.mem_of_getElem? (i := 2) rfl) rfl rfl
theorem kX6_givesBack_59 : zL wsX6_givesBack RX6 59 6 24 (.array .int) true := zL6 iX6_givesBack_6 (by decide) (List.mem_of_getElem? (i := 3) rfl) rfl rfl
theorem kX6_givesBack_72 : zL wsX6_givesBack RX6 72 6 11 .int false := zL6 iX6_givesBack_6 (by decide) (List.mem_of_getElem? (i := 1) rfl) rfl rfl
set_option maxHeartbeats 4000000 in
set_option maxRecDepth 100000 in
theorem xX6_givesBack_2 {C : zC} {D : va_G} {cyI cyB : ClassId} {aO : Nat → Nat} (F : zF C D { frames := 0, cells := 0, slots := 0, locals := 0 } cX6_givesBack 2 wsX6_givesBack RX6 none cyI cyB) {post : (Nat → Int32) → (Nat → Nat → Int32) → Prop} (hRt : zRv C D cX6_givesBack 2 (S := ((Nat → Int32) × (Nat → Nat → Int32))) (fun u => (wMo aO cyI u.1 u.2)) (fun u => post u.1 u.2)) : ∀ (n : Nat) (x1 : Int32) (oI : Nat → Int32) (oR : Nat → Nat → Int32), bX6_givesBack_2 post  n x1 oI oR → zX C D 2 0 0 (wMo aO cyI oI oR) 2 [(0, .ref (aO 0)), (1, .int x1)] [] := by
  intro n
  induction n with
  | zero => intro _ _ _ hw; exact hw.elim
  | succ n ih =>
    intro x1 oI oR hw
    refine z_iload_n F dX6_givesBack_2 3 rfl 1 rfl ?_
    refine z_aload_n F dX6_givesBack_3 4 rfl 0 rfl ?_
    refine z_get F dX6_givesBack_4 7 rfl kX6_givesBack_72 0 rfl rfl ?_
    obtain ⟨hwt, hwf⟩ := hw
    refine z_icmpge F dX6_givesBack_7 28 rfl 10 rfl (fun c1 => ?_) (fun c1 => ?_)
    · have hw := hwt c1; clear hwt hwf
      exact hRt 28 _ (oI, oR) dX6_givesBack_28 hw
    · have hw := hwf c1; clear hwt hwf
      refine z_aload_n F dX6_givesBack_10 11 rfl 0 rfl ?_
      refine z_get F dX6_givesBack_11 14 rfl kX6_givesBack_13 0 rfl rfl ?_
      refine z_iload_n F dX6_givesBack_14 15 rfl 1 rfl ?_
      refine z_aload_n F dX6_givesBack_15 16 rfl 0 rfl ?_
      refine z_get F dX6_givesBack_16 19 rfl kX6_givesBack_59 0 rfl rfl ?_
      refine z_iload_n F dX6_givesBack_19 20 rfl 1 rfl ?_
      obtain ⟨j1, ej1, hj1, hw⟩ := hw
      refine z_iald F dX6_givesBack_20 21 rfl 16 rfl (by decide) j1 ej1 hj1 ?_
      refine z_topi (fun v1 ev1 => ?_)
      replace hw := hw v1 ev1
      refine z_iast F dX6_givesBack_21 22 rfl 2 rfl (by decide) j1 ej1 hj1 (wMo aO cyI oI (va_up oR 1 (upd (oR 1) j1 v1))) rfl ?_
      refine z_iinc F dX6_givesBack_22 25 rfl 1 rfl (by decide) zki_1 (fun v2 => [(1, .int v2), (0, .ref (aO 0))]) (fun _ => rfl) (fun v2 ev2 => ?_)
      replace hw := hw v2 ev2
      refine z_goto F dX6_givesBack_25 2 rfl ?_
      refine z_lv (lv' := [(0, .ref (aO 0)), (1, .int v2)]) [1, 0] rfl ?_
      exact ih v2 oI (va_up oR 1 (upd (oR 1) j1 v1)) hw
set_option maxHeartbeats 4000000 in
set_option maxRecDepth 100000 in
theorem xX6_givesBack_0 {C : zC} {D : va_G} {cyI cyB : ClassId} {aO : Nat → Nat} (oI : Nat → Int32) (oR : Nat → Nat → Int32) (F : zF C D { frames := 0, cells := 0, slots := 0, locals := 0 } cX6_givesBack 2 wsX6_givesBack RX6 none cyI cyB) {post : (Nat → Int32) → (Nat → Nat → Int32) → Prop} (hRt : zRv C D cX6_givesBack 2 (S := ((Nat → Int32) × (Nat → Nat → Int32))) (fun u => (wMo aO cyI u.1 u.2)) (fun u => post u.1 u.2)) (hw : pX6_givesBack oI oR post) : zX C D 2 0 0 (wMo aO cyI oI oR) 0 [(0, .ref (aO 0))] [] := by
  refine z_iconst F dX6_givesBack_0 1 rfl zki_0 ?_
  refine z_istore_n (lv' := [(1, .int 0), (0, .ref (aO 0))]) F dX6_givesBack_1 2 rfl (by decide) rfl ?_
  obtain ⟨n1, hw⟩ := hw
  refine z_lv (lv' := [(0, .ref (aO 0)), (1, .int 0)]) [1, 0] rfl ?_
  refine xX6_givesBack_2 F hRt n1 0 oI oR hw
set_option maxHeartbeats 4000000 in
set_option maxRecDepth 100000 in
theorem mX6_givesBack (l : Launch) (D : va_G) (cyI cyB : ClassId) (aO : Nat → Nat) (oI : Nat → Int32) (oR : Nat → Nat → Int32) {post : (Nat → Int32) → (Nat → Nat → Int32) → Prop} (hw : pX6_givesBack oI oR post) : zMv l yX6_givesBack wsX6_givesBack 0 0 D cyI cyB [.ref (aO 0)] (wMo aO cyI oI oR) (S := ((Nat → Int32) × (Nat → Nat → Int32))) (fun u => (wMo aO cyI u.1 u.2)) (fun u => post u.1 u.2) :=
  z_metv (cc := cX6_givesBack) (nL := 2) (by decide +kernel) rfl (Nat.le_of_ble_eq_true rfl) (fun C hl F hRt => xX6_givesBack_0 oI oR F hRt hw)
theorem y_X6_givesBack : zY yX6_givesBack wsX6_givesBack cX6_givesBack 2 none 0 := ⟨⟨_, rfl⟩, by decide +kernel⟩
set_option maxHeartbeats 4000000 in
set_option maxRecDepth 100000 in
theorem xX6_giving_0 {C : zC} {D : va_G} {cyI cyB : ClassId} {aO : Nat → Nat} (x1 : Int32) (x2 : Int32) (x3 : Int32) (oI : Nat → Int32) (oR : Nat → Nat → Int32) (F : zF C D { frames := 4, cells := 0, slots := 0, locals := 95 } cX6_giving 7 wsX6_giving RX6 (some .int) cyI cyB) {post : Int32 → (Nat → Int32) → (Nat → Nat → Int32) → Prop} (hRt : zRi C D cX6_giving 7 (S := ((Nat → Int32) × (Nat → Nat → Int32))) (fun u => (wMo aO cyI u.1 u.2)) (fun r u => post r u.1 u.2)) (hw : pX6_giving x1 x2 x3 oI oR post) : zX C D 7 0 0 (wMo aO cyI oI oR) 0 [(0, .ref (aO 0)), (1, .int x1), (2, .int x2), (3, .int x3)] [] := by
  refine z_iload_n F dX6_giving_0 1 rfl 1 rfl ?_
  refine z_iconst F dX6_giving_1 2 rfl zki_0 ?_
  refine z_iconst F dX6_giving_2 3 rfl zki_4 ?_
  refine z_callSi (As := [.int x1, .int 0, .int 4]) (st := []) F dX6_giving_3 6 rfl (mX6_isIn C.1.2.1 D cyI cyB x1 0 4 hw) y_X6_isIn rfl gX6_giving_X6_isIn ⟨Nat.le_of_ble_eq_true rfl, Nat.le_of_ble_eq_true rfl⟩ ⟨Nat.zero_le _, Nat.zero_le _⟩ (Nat.le_of_ble_eq_true rfl) [] (by decide) rfl (fun _ => rfl) (fun u => (wMo aO cyI oI oR)) (fun _ => rfl) (fun r0 u hp => ?_)
  obtain ⟨b1, rfl, hw⟩ := hp
  obtain ⟨hwt, hwf⟩ := hw
  refine z_ifneB F dX6_giving_6 15 rfl 9 rfl (fun c1 => ?_) (fun c1 => ?_)
  · have hw := hwt c1; clear hwt hwf
    refine z_iload_n F dX6_giving_15 16 rfl 2 rfl ?_
    refine z_iconst F dX6_giving_16 17 rfl zki_0 ?_
    refine z_iconst F dX6_giving_17 18 rfl zki_2 ?_
    refine z_callSi (As := [.int x2, .int 0, .int 2]) (st := []) F dX6_giving_18 21 rfl (mX6_isIn C.1.2.1 D cyI cyB x2 0 2 hw) y_X6_isIn rfl gX6_giving_X6_isIn ⟨Nat.le_of_ble_eq_true rfl, Nat.le_of_ble_eq_true rfl⟩ ⟨Nat.zero_le _, Nat.zero_le _⟩ (Nat.le_of_ble_eq_true rfl) [] (by decide) rfl (fun _ => rfl) (fun u => (wMo aO cyI oI oR)) (fun _ => rfl) (fun r0 u hp => ?_)
    obtain ⟨b2, rfl, hw⟩ := hp
    obtain ⟨hwt, hwf⟩ := hw
    refine z_ifneB F dX6_giving_21 31 rfl 24 rfl (fun c2 => ?_) (fun c2 => ?_)
    · have hw := hwt c2; clear hwt hwf
      refine z_iload_n F dX6_giving_31 32 rfl 3 rfl ?_
      refine z_iconst F dX6_giving_32 33 rfl zki_0 ?_
      refine z_bipush F dX6_giving_33 35 rfl zkb_8 ?_
      refine z_callSi (As := [.int x3, .int 0, .int 8]) (st := []) F dX6_giving_35 38 rfl (mX6_bound C.1.2.1 D cyI cyB x3 0 8 hw) y_X6_bound rfl gX6_giving_X6_bound ⟨Nat.le_of_ble_eq_true rfl, Nat.le_of_ble_eq_true rfl⟩ ⟨Nat.zero_le _, Nat.zero_le _⟩ (Nat.le_of_ble_eq_true rfl) [] (by decide) rfl (fun _ => rfl) (fun u => (wMo aO cyI oI oR)) (fun _ => rfl) (fun r1 u hp => ?_)
      replace hw := hp
      clear hp
      refine z_istore (lv' := [(4, .int r1), (0, .ref (aO 0)), (1, .int x1), (2, .int x2), (3, .int x3)]) F dX6_giving_38 40 rfl (by decide) rfl ?_
      refine z_iload F dX6_giving_40 42 rfl 0 rfl ?_
      obtain ⟨hwt, hwf⟩ := hw
      refine z_ifne F dX6_giving_42 56 rfl 45 rfl (fun c3 => ?_) (fun c3 => ?_)
      · have hw := hwt c3; clear hwt hwf
        refine z_iload F dX6_giving_56 58 rfl 0 rfl ?_
        obtain ⟨hwt, hwf⟩ := hw
        refine z_ifeq F dX6_giving_58 68 rfl 61 rfl (fun c4 => ?_) (fun c4 => ?_)
        · have hw := hwt c4; clear hwt hwf
          refine z_aload_n F dX6_giving_68 69 rfl 1 rfl ?_
          refine z_iload_n F dX6_giving_69 70 rfl 2 rfl ?_
          refine z_segVi (As := [.int x1]) (st := []) F dX6_giving_70 73 rfl (mX6_gives C.1.2.1 D cyI cyB aO x1 oI oR hw) y_X6_gives rfl gX6_giving_X6_gives rfl (ci := 6) (rq := 0) rfl rfl ⟨Nat.le_of_ble_eq_true rfl, Nat.le_of_ble_eq_true rfl⟩ ⟨Nat.zero_le _, Nat.zero_le _⟩ (Nat.le_of_ble_eq_true rfl) [] [] (by simp only [List.append_assoc, List.nil_append, List.append_nil]) (fun _ => rfl) (fun u => (wMo aO cyI u.1 u.2)) (fun u => (by simp only [List.append_assoc, List.nil_append, List.append_nil])) (fun r2 u hp => ?_)
          obtain ⟨oI_1, oR_1⟩ := u
          replace hw := hp
          clear hp
          refine z_istore (lv' := [(5, .int r2), (4, .int r1), (0, .ref (aO 0)), (1, .int x1), (2, .int x2), (3, .int x3)]) F dX6_giving_73 75 rfl (by decide) rfl ?_
          refine z_aload_n F dX6_giving_75 76 rfl 2 rfl ?_
          refine z_segVv (As := []) (st := []) F dX6_giving_76 79 rfl (mX6_findKnown C.1.2.1 D cyI cyB aO oI_1 oR_1 hw) y_X6_findKnown rfl gX6_giving_X6_findKnown rfl (ci := 6) (rq := 0) rfl rfl ⟨Nat.le_of_ble_eq_true rfl, Nat.le_of_ble_eq_true rfl⟩ ⟨Nat.zero_le _, Nat.zero_le _⟩ (Nat.le_of_ble_eq_true rfl) [] [] (by simp only [List.append_assoc, List.nil_append, List.append_nil]) (fun _ => rfl) (fun u => (wMo aO cyI u.1 u.2)) (fun u => (by simp only [List.append_assoc, List.nil_append, List.append_nil])) (fun u hp => ?_)
          obtain ⟨oI_2, oR_2⟩ := u
          replace hw := hp
          clear hp
          refine z_iload_n F dX6_giving_79 80 rfl 4 rfl ?_
          obtain ⟨hwt, hwf⟩ := hw
          refine z_ifne F dX6_giving_80 88 rfl 83 rfl (fun c5 => ?_) (fun c5 => ?_)
          · have hw := hwt c5; clear hwt hwf
            refine z_aload_n F dX6_giving_88 89 rfl 2 rfl ?_
            refine z_iload_n F dX6_giving_89 90 rfl 5 rfl ?_
            refine z_iload_n F dX6_giving_90 91 rfl 4 rfl ?_
            refine z_iconst F dX6_giving_91 92 rfl zki_2 ?_
            obtain ⟨hwt, hwf⟩ := hw
            refine z_icmpne F dX6_giving_92 99 rfl 95 rfl (fun c6 => ?_) (fun c6 => ?_)
            · have hw := hwt c6; clear hwt hwf
              refine z_iconst F dX6_giving_99 100 rfl zki_0 ?_
              refine z_segVi (As := [.int x3, .int 0]) (st := []) F dX6_giving_100 103 rfl (mX6_holdsAgainst C.1.2.1 D cyI cyB aO x3 false oI_2 oR_2 hw) y_X6_holdsAgainst rfl gX6_giving_X6_holdsAgainst rfl (ci := 6) (rq := 0) rfl rfl ⟨Nat.le_of_ble_eq_true rfl, Nat.le_of_ble_eq_true rfl⟩ ⟨Nat.zero_le _, Nat.zero_le _⟩ (Nat.le_of_ble_eq_true rfl) [] [] (by simp only [List.append_assoc, List.nil_append, List.append_nil]) (fun _ => rfl) (fun u => (wMo aO cyI oI_2 oR_2)) (fun u => (by simp only [List.append_assoc, List.nil_append, List.append_nil])) (fun r0 u hp => ?_)
              obtain ⟨b3, rfl, hw⟩ := hp
              obtain ⟨hwt, hwf⟩ := hw
              refine z_ifeqB F dX6_giving_103 110 rfl 106 rfl (fun c7 => ?_) (fun c7 => ?_)
              · have hw := hwt c7; clear hwt hwf
                refine z_iconst F dX6_giving_110 111 rfl zki_0 ?_
                refine z_istore (lv' := [(6, .int 0), (5, .int r2), (4, .int r1), (0, .ref (aO 0)), (1, .int x1), (2, .int x2), (3, .int x3)]) F dX6_giving_111 113 rfl (by decide) rfl ?_
                refine z_aload_n F dX6_giving_113 114 rfl 3 rfl ?_
                refine z_segVv (As := []) (st := []) F dX6_giving_114 117 rfl (mX6_givesBack C.1.2.1 D cyI cyB aO oI_2 oR_2 hw) y_X6_givesBack rfl gX6_giving_X6_givesBack rfl (ci := 6) (rq := 0) rfl rfl ⟨Nat.le_of_ble_eq_true rfl, Nat.le_of_ble_eq_true rfl⟩ ⟨Nat.zero_le _, Nat.zero_le _⟩ (Nat.le_of_ble_eq_true rfl) [] [] (by simp only [List.append_assoc, List.nil_append, List.append_nil]) (fun _ => rfl) (fun u => (wMo aO cyI u.1 u.2)) (fun u => (by simp only [List.append_assoc, List.nil_append, List.append_nil])) (fun u hp => ?_)
                obtain ⟨oI_3, oR_3⟩ := u
                replace hw := hp
                clear hp
                refine z_iload F dX6_giving_117 119 rfl 0 rfl ?_
                exact hRt 119 _ 0 (oI_3, oR_3) dX6_giving_119 hw
              · have hw := hwf c7; clear hwt hwf
                refine z_iconst F dX6_giving_106 107 rfl zki_1 ?_
                refine z_goto F dX6_giving_107 111 rfl ?_
                refine z_istore (lv' := [(6, .int 1), (5, .int r2), (4, .int r1), (0, .ref (aO 0)), (1, .int x1), (2, .int x2), (3, .int x3)]) F dX6_giving_111 113 rfl (by decide) rfl ?_
                refine z_aload_n F dX6_giving_113 114 rfl 3 rfl ?_
                refine z_segVv (As := []) (st := []) F dX6_giving_114 117 rfl (mX6_givesBack C.1.2.1 D cyI cyB aO oI_2 oR_2 hw) y_X6_givesBack rfl gX6_giving_X6_givesBack rfl (ci := 6) (rq := 0) rfl rfl ⟨Nat.le_of_ble_eq_true rfl, Nat.le_of_ble_eq_true rfl⟩ ⟨Nat.zero_le _, Nat.zero_le _⟩ (Nat.le_of_ble_eq_true rfl) [] [] (by simp only [List.append_assoc, List.nil_append, List.append_nil]) (fun _ => rfl) (fun u => (wMo aO cyI u.1 u.2)) (fun u => (by simp only [List.append_assoc, List.nil_append, List.append_nil])) (fun u hp => ?_)
                obtain ⟨oI_4, oR_4⟩ := u
                replace hw := hp
                clear hp
                refine z_iload F dX6_giving_117 119 rfl 0 rfl ?_
                exact hRt 119 _ 1 (oI_4, oR_4) dX6_giving_119 hw
            · have hw := hwf c6; clear hwt hwf
              refine z_iconst F dX6_giving_95 96 rfl zki_1 ?_
              refine z_goto F dX6_giving_96 100 rfl ?_
              refine z_segVi (As := [.int x3, .int 1]) (st := []) F dX6_giving_100 103 rfl (mX6_holdsAgainst C.1.2.1 D cyI cyB aO x3 true oI_2 oR_2 hw) y_X6_holdsAgainst rfl gX6_giving_X6_holdsAgainst rfl (ci := 6) (rq := 0) rfl rfl ⟨Nat.le_of_ble_eq_true rfl, Nat.le_of_ble_eq_true rfl⟩ ⟨Nat.zero_le _, Nat.zero_le _⟩ (Nat.le_of_ble_eq_true rfl) [] [] (by simp only [List.append_assoc, List.nil_append, List.append_nil]) (fun _ => rfl) (fun u => (wMo aO cyI oI_2 oR_2)) (fun u => (by simp only [List.append_assoc, List.nil_append, List.append_nil])) (fun r0 u hp => ?_)
              obtain ⟨b4, rfl, hw⟩ := hp
              obtain ⟨hwt, hwf⟩ := hw
              refine z_ifeqB F dX6_giving_103 110 rfl 106 rfl (fun c8 => ?_) (fun c8 => ?_)
              · have hw := hwt c8; clear hwt hwf
                refine z_iconst F dX6_giving_110 111 rfl zki_0 ?_
                refine z_istore (lv' := [(6, .int 0), (5, .int r2), (4, .int r1), (0, .ref (aO 0)), (1, .int x1), (2, .int x2), (3, .int x3)]) F dX6_giving_111 113 rfl (by decide) rfl ?_
                refine z_aload_n F dX6_giving_113 114 rfl 3 rfl ?_
                refine z_segVv (As := []) (st := []) F dX6_giving_114 117 rfl (mX6_givesBack C.1.2.1 D cyI cyB aO oI_2 oR_2 hw) y_X6_givesBack rfl gX6_giving_X6_givesBack rfl (ci := 6) (rq := 0) rfl rfl ⟨Nat.le_of_ble_eq_true rfl, Nat.le_of_ble_eq_true rfl⟩ ⟨Nat.zero_le _, Nat.zero_le _⟩ (Nat.le_of_ble_eq_true rfl) [] [] (by simp only [List.append_assoc, List.nil_append, List.append_nil]) (fun _ => rfl) (fun u => (wMo aO cyI u.1 u.2)) (fun u => (by simp only [List.append_assoc, List.nil_append, List.append_nil])) (fun u hp => ?_)
                obtain ⟨oI_5, oR_5⟩ := u
                replace hw := hp
                clear hp
                refine z_iload F dX6_giving_117 119 rfl 0 rfl ?_
                exact hRt 119 _ 0 (oI_5, oR_5) dX6_giving_119 hw
              · have hw := hwf c8; clear hwt hwf
                refine z_iconst F dX6_giving_106 107 rfl zki_1 ?_
                refine z_goto F dX6_giving_107 111 rfl ?_
                refine z_istore (lv' := [(6, .int 1), (5, .int r2), (4, .int r1), (0, .ref (aO 0)), (1, .int x1), (2, .int x2), (3, .int x3)]) F dX6_giving_111 113 rfl (by decide) rfl ?_
                refine z_aload_n F dX6_giving_113 114 rfl 3 rfl ?_
                refine z_segVv (As := []) (st := []) F dX6_giving_114 117 rfl (mX6_givesBack C.1.2.1 D cyI cyB aO oI_2 oR_2 hw) y_X6_givesBack rfl gX6_giving_X6_givesBack rfl (ci := 6) (rq := 0) rfl rfl ⟨Nat.le_of_ble_eq_true rfl, Nat.le_of_ble_eq_true rfl⟩ ⟨Nat.zero_le _, Nat.zero_le _⟩ (Nat.le_of_ble_eq_true rfl) [] [] (by simp only [List.append_assoc, List.nil_append, List.append_nil]) (fun _ => rfl) (fun u => (wMo aO cyI u.1 u.2)) (fun u => (by simp only [List.append_assoc, List.nil_append, List.append_nil])) (fun u hp => ?_)
                obtain ⟨oI_6, oR_6⟩ := u
                replace hw := hp
                clear hp
                refine z_iload F dX6_giving_117 119 rfl 0 rfl ?_
                exact hRt 119 _ 1 (oI_6, oR_6) dX6_giving_119 hw
          · have hw := hwf c5; clear hwt hwf
            refine z_iload F dX6_giving_83 85 rfl 0 rfl ?_
            refine z_goto F dX6_giving_85 111 rfl ?_
            refine z_istore (lv' := [(6, .int r2), (5, .int r2), (4, .int r1), (0, .ref (aO 0)), (1, .int x1), (2, .int x2), (3, .int x3)]) F dX6_giving_111 113 rfl (by decide) rfl ?_
            refine z_aload_n F dX6_giving_113 114 rfl 3 rfl ?_
            refine z_segVv (As := []) (st := []) F dX6_giving_114 117 rfl (mX6_givesBack C.1.2.1 D cyI cyB aO oI_2 oR_2 hw) y_X6_givesBack rfl gX6_giving_X6_givesBack rfl (ci := 6) (rq := 0) rfl rfl ⟨Nat.le_of_ble_eq_true rfl, Nat.le_of_ble_eq_true rfl⟩ ⟨Nat.zero_le _, Nat.zero_le _⟩ (Nat.le_of_ble_eq_true rfl) [] [] (by simp only [List.append_assoc, List.nil_append, List.append_nil]) (fun _ => rfl) (fun u => (wMo aO cyI u.1 u.2)) (fun u => (by simp only [List.append_assoc, List.nil_append, List.append_nil])) (fun u hp => ?_)
            obtain ⟨oI_7, oR_7⟩ := u
            replace hw := hp
            clear hp
            refine z_iload F dX6_giving_117 119 rfl 0 rfl ?_
            exact hRt 119 _ r2 (oI_7, oR_7) dX6_giving_119 hw
        · have hw := hwf c4; clear hwt hwf
          refine z_aload_n F dX6_giving_61 62 rfl 1 rfl ?_
          refine z_iload F dX6_giving_62 64 rfl 0 rfl ?_
          refine z_segVi (As := [.int r1]) (st := []) F dX6_giving_64 67 rfl (mX6_no C.1.2.1 D cyI cyB aO r1 oI oR hw) y_X6_no rfl gX6_giving_X6_no rfl (ci := 6) (rq := 0) rfl rfl ⟨Nat.le_of_ble_eq_true rfl, Nat.le_of_ble_eq_true rfl⟩ ⟨Nat.zero_le _, Nat.zero_le _⟩ (Nat.le_of_ble_eq_true rfl) [] [] (by simp only [List.append_assoc, List.nil_append, List.append_nil]) (fun _ => rfl) (fun u => (wMo aO cyI u.1 u.2)) (fun u => (by simp only [List.append_assoc, List.nil_append, List.append_nil])) (fun r3 u hp => ?_)
          obtain ⟨oI_8, oR_8⟩ := u
          replace hw := hp
          clear hp
          exact hRt 67 _ r3 (oI_8, oR_8) dX6_giving_67 hw
      · have hw := hwf c3; clear hwt hwf
        refine z_aload_n F dX6_giving_45 46 rfl 1 rfl ?_
        refine z_segVi (As := []) (st := []) F dX6_giving_46 49 rfl (mX6_houseSet C.1.2.1 D cyI cyB aO oI oR hw) y_X6_houseSet rfl gX6_giving_X6_houseSet rfl (ci := 6) (rq := 0) rfl rfl ⟨Nat.le_of_ble_eq_true rfl, Nat.le_of_ble_eq_true rfl⟩ ⟨Nat.zero_le _, Nat.zero_le _⟩ (Nat.le_of_ble_eq_true rfl) [] [] (by simp only [List.append_assoc, List.nil_append, List.append_nil]) (fun _ => rfl) (fun u => (wMo aO cyI oI oR)) (fun u => (by simp only [List.append_assoc, List.nil_append, List.append_nil])) (fun r4 u hp => ?_)
        replace hw := hp
        clear hp
        obtain ⟨hwt, hwf⟩ := hw
        refine z_ifne F dX6_giving_49 56 rfl 52 rfl (fun c9 => ?_) (fun c9 => ?_)
        · have hw := hwt c9; clear hwt hwf
          refine z_iload F dX6_giving_56 58 rfl 0 rfl ?_
          obtain ⟨hwt, hwf⟩ := hw
          refine z_ifeq F dX6_giving_58 68 rfl 61 rfl (fun c10 => ?_) (fun c10 => ?_)
          · have hw := hwt c10; clear hwt hwf
            refine z_aload_n F dX6_giving_68 69 rfl 1 rfl ?_
            refine z_iload_n F dX6_giving_69 70 rfl 2 rfl ?_
            refine z_segVi (As := [.int x1]) (st := []) F dX6_giving_70 73 rfl (mX6_gives C.1.2.1 D cyI cyB aO x1 oI oR hw) y_X6_gives rfl gX6_giving_X6_gives rfl (ci := 6) (rq := 0) rfl rfl ⟨Nat.le_of_ble_eq_true rfl, Nat.le_of_ble_eq_true rfl⟩ ⟨Nat.zero_le _, Nat.zero_le _⟩ (Nat.le_of_ble_eq_true rfl) [] [] (by simp only [List.append_assoc, List.nil_append, List.append_nil]) (fun _ => rfl) (fun u => (wMo aO cyI u.1 u.2)) (fun u => (by simp only [List.append_assoc, List.nil_append, List.append_nil])) (fun r5 u hp => ?_)
            obtain ⟨oI_9, oR_9⟩ := u
            replace hw := hp
            clear hp
            refine z_istore (lv' := [(5, .int r5), (4, .int r1), (0, .ref (aO 0)), (1, .int x1), (2, .int x2), (3, .int x3)]) F dX6_giving_73 75 rfl (by decide) rfl ?_
            refine z_aload_n F dX6_giving_75 76 rfl 2 rfl ?_
            refine z_segVv (As := []) (st := []) F dX6_giving_76 79 rfl (mX6_findKnown C.1.2.1 D cyI cyB aO oI_9 oR_9 hw) y_X6_findKnown rfl gX6_giving_X6_findKnown rfl (ci := 6) (rq := 0) rfl rfl ⟨Nat.le_of_ble_eq_true rfl, Nat.le_of_ble_eq_true rfl⟩ ⟨Nat.zero_le _, Nat.zero_le _⟩ (Nat.le_of_ble_eq_true rfl) [] [] (by simp only [List.append_assoc, List.nil_append, List.append_nil]) (fun _ => rfl) (fun u => (wMo aO cyI u.1 u.2)) (fun u => (by simp only [List.append_assoc, List.nil_append, List.append_nil])) (fun u hp => ?_)
            obtain ⟨oI_10, oR_10⟩ := u
            replace hw := hp
            clear hp
            refine z_iload_n F dX6_giving_79 80 rfl 4 rfl ?_
            obtain ⟨hwt, hwf⟩ := hw
            refine z_ifne F dX6_giving_80 88 rfl 83 rfl (fun c11 => ?_) (fun c11 => ?_)
            · have hw := hwt c11; clear hwt hwf
              refine z_aload_n F dX6_giving_88 89 rfl 2 rfl ?_
              refine z_iload_n F dX6_giving_89 90 rfl 5 rfl ?_
              refine z_iload_n F dX6_giving_90 91 rfl 4 rfl ?_
              refine z_iconst F dX6_giving_91 92 rfl zki_2 ?_
              obtain ⟨hwt, hwf⟩ := hw
              refine z_icmpne F dX6_giving_92 99 rfl 95 rfl (fun c12 => ?_) (fun c12 => ?_)
              · have hw := hwt c12; clear hwt hwf
                refine z_iconst F dX6_giving_99 100 rfl zki_0 ?_
                refine z_segVi (As := [.int x3, .int 0]) (st := []) F dX6_giving_100 103 rfl (mX6_holdsAgainst C.1.2.1 D cyI cyB aO x3 false oI_10 oR_10 hw) y_X6_holdsAgainst rfl gX6_giving_X6_holdsAgainst rfl (ci := 6) (rq := 0) rfl rfl ⟨Nat.le_of_ble_eq_true rfl, Nat.le_of_ble_eq_true rfl⟩ ⟨Nat.zero_le _, Nat.zero_le _⟩ (Nat.le_of_ble_eq_true rfl) [] [] (by simp only [List.append_assoc, List.nil_append, List.append_nil]) (fun _ => rfl) (fun u => (wMo aO cyI oI_10 oR_10)) (fun u => (by simp only [List.append_assoc, List.nil_append, List.append_nil])) (fun r0 u hp => ?_)
                obtain ⟨b5, rfl, hw⟩ := hp
                obtain ⟨hwt, hwf⟩ := hw
                refine z_ifeqB F dX6_giving_103 110 rfl 106 rfl (fun c13 => ?_) (fun c13 => ?_)
                · have hw := hwt c13; clear hwt hwf
                  refine z_iconst F dX6_giving_110 111 rfl zki_0 ?_
                  refine z_istore (lv' := [(6, .int 0), (5, .int r5), (4, .int r1), (0, .ref (aO 0)), (1, .int x1), (2, .int x2), (3, .int x3)]) F dX6_giving_111 113 rfl (by decide) rfl ?_
                  refine z_aload_n F dX6_giving_113 114 rfl 3 rfl ?_
                  refine z_segVv (As := []) (st := []) F dX6_giving_114 117 rfl (mX6_givesBack C.1.2.1 D cyI cyB aO oI_10 oR_10 hw) y_X6_givesBack rfl gX6_giving_X6_givesBack rfl (ci := 6) (rq := 0) rfl rfl ⟨Nat.le_of_ble_eq_true rfl, Nat.le_of_ble_eq_true rfl⟩ ⟨Nat.zero_le _, Nat.zero_le _⟩ (Nat.le_of_ble_eq_true rfl) [] [] (by simp only [List.append_assoc, List.nil_append, List.append_nil]) (fun _ => rfl) (fun u => (wMo aO cyI u.1 u.2)) (fun u => (by simp only [List.append_assoc, List.nil_append, List.append_nil])) (fun u hp => ?_)
                  obtain ⟨oI_11, oR_11⟩ := u
                  replace hw := hp
                  clear hp
                  refine z_iload F dX6_giving_117 119 rfl 0 rfl ?_
                  exact hRt 119 _ 0 (oI_11, oR_11) dX6_giving_119 hw
                · have hw := hwf c13; clear hwt hwf
                  refine z_iconst F dX6_giving_106 107 rfl zki_1 ?_
                  refine z_goto F dX6_giving_107 111 rfl ?_
                  refine z_istore (lv' := [(6, .int 1), (5, .int r5), (4, .int r1), (0, .ref (aO 0)), (1, .int x1), (2, .int x2), (3, .int x3)]) F dX6_giving_111 113 rfl (by decide) rfl ?_
                  refine z_aload_n F dX6_giving_113 114 rfl 3 rfl ?_
                  refine z_segVv (As := []) (st := []) F dX6_giving_114 117 rfl (mX6_givesBack C.1.2.1 D cyI cyB aO oI_10 oR_10 hw) y_X6_givesBack rfl gX6_giving_X6_givesBack rfl (ci := 6) (rq := 0) rfl rfl ⟨Nat.le_of_ble_eq_true rfl, Nat.le_of_ble_eq_true rfl⟩ ⟨Nat.zero_le _, Nat.zero_le _⟩ (Nat.le_of_ble_eq_true rfl) [] [] (by simp only [List.append_assoc, List.nil_append, List.append_nil]) (fun _ => rfl) (fun u => (wMo aO cyI u.1 u.2)) (fun u => (by simp only [List.append_assoc, List.nil_append, List.append_nil])) (fun u hp => ?_)
                  obtain ⟨oI_12, oR_12⟩ := u
                  replace hw := hp
                  clear hp
                  refine z_iload F dX6_giving_117 119 rfl 0 rfl ?_
                  exact hRt 119 _ 1 (oI_12, oR_12) dX6_giving_119 hw
              · have hw := hwf c12; clear hwt hwf
                refine z_iconst F dX6_giving_95 96 rfl zki_1 ?_
                refine z_goto F dX6_giving_96 100 rfl ?_
                refine z_segVi (As := [.int x3, .int 1]) (st := []) F dX6_giving_100 103 rfl (mX6_holdsAgainst C.1.2.1 D cyI cyB aO x3 true oI_10 oR_10 hw) y_X6_holdsAgainst rfl gX6_giving_X6_holdsAgainst rfl (ci := 6) (rq := 0) rfl rfl ⟨Nat.le_of_ble_eq_true rfl, Nat.le_of_ble_eq_true rfl⟩ ⟨Nat.zero_le _, Nat.zero_le _⟩ (Nat.le_of_ble_eq_true rfl) [] [] (by simp only [List.append_assoc, List.nil_append, List.append_nil]) (fun _ => rfl) (fun u => (wMo aO cyI oI_10 oR_10)) (fun u => (by simp only [List.append_assoc, List.nil_append, List.append_nil])) (fun r0 u hp => ?_)
                obtain ⟨b6, rfl, hw⟩ := hp
                obtain ⟨hwt, hwf⟩ := hw
                refine z_ifeqB F dX6_giving_103 110 rfl 106 rfl (fun c14 => ?_) (fun c14 => ?_)
                · have hw := hwt c14; clear hwt hwf
                  refine z_iconst F dX6_giving_110 111 rfl zki_0 ?_
                  refine z_istore (lv' := [(6, .int 0), (5, .int r5), (4, .int r1), (0, .ref (aO 0)), (1, .int x1), (2, .int x2), (3, .int x3)]) F dX6_giving_111 113 rfl (by decide) rfl ?_
                  refine z_aload_n F dX6_giving_113 114 rfl 3 rfl ?_
                  refine z_segVv (As := []) (st := []) F dX6_giving_114 117 rfl (mX6_givesBack C.1.2.1 D cyI cyB aO oI_10 oR_10 hw) y_X6_givesBack rfl gX6_giving_X6_givesBack rfl (ci := 6) (rq := 0) rfl rfl ⟨Nat.le_of_ble_eq_true rfl, Nat.le_of_ble_eq_true rfl⟩ ⟨Nat.zero_le _, Nat.zero_le _⟩ (Nat.le_of_ble_eq_true rfl) [] [] (by simp only [List.append_assoc, List.nil_append, List.append_nil]) (fun _ => rfl) (fun u => (wMo aO cyI u.1 u.2)) (fun u => (by simp only [List.append_assoc, List.nil_append, List.append_nil])) (fun u hp => ?_)
                  obtain ⟨oI_13, oR_13⟩ := u
                  replace hw := hp
                  clear hp
                  refine z_iload F dX6_giving_117 119 rfl 0 rfl ?_
                  exact hRt 119 _ 0 (oI_13, oR_13) dX6_giving_119 hw
                · have hw := hwf c14; clear hwt hwf
                  refine z_iconst F dX6_giving_106 107 rfl zki_1 ?_
                  refine z_goto F dX6_giving_107 111 rfl ?_
                  refine z_istore (lv' := [(6, .int 1), (5, .int r5), (4, .int r1), (0, .ref (aO 0)), (1, .int x1), (2, .int x2), (3, .int x3)]) F dX6_giving_111 113 rfl (by decide) rfl ?_
                  refine z_aload_n F dX6_giving_113 114 rfl 3 rfl ?_
                  refine z_segVv (As := []) (st := []) F dX6_giving_114 117 rfl (mX6_givesBack C.1.2.1 D cyI cyB aO oI_10 oR_10 hw) y_X6_givesBack rfl gX6_giving_X6_givesBack rfl (ci := 6) (rq := 0) rfl rfl ⟨Nat.le_of_ble_eq_true rfl, Nat.le_of_ble_eq_true rfl⟩ ⟨Nat.zero_le _, Nat.zero_le _⟩ (Nat.le_of_ble_eq_true rfl) [] [] (by simp only [List.append_assoc, List.nil_append, List.append_nil]) (fun _ => rfl) (fun u => (wMo aO cyI u.1 u.2)) (fun u => (by simp only [List.append_assoc, List.nil_append, List.append_nil])) (fun u hp => ?_)
                  obtain ⟨oI_14, oR_14⟩ := u
                  replace hw := hp
                  clear hp
                  refine z_iload F dX6_giving_117 119 rfl 0 rfl ?_
                  exact hRt 119 _ 1 (oI_14, oR_14) dX6_giving_119 hw
            · have hw := hwf c11; clear hwt hwf
              refine z_iload F dX6_giving_83 85 rfl 0 rfl ?_
              refine z_goto F dX6_giving_85 111 rfl ?_
              refine z_istore (lv' := [(6, .int r5), (5, .int r5), (4, .int r1), (0, .ref (aO 0)), (1, .int x1), (2, .int x2), (3, .int x3)]) F dX6_giving_111 113 rfl (by decide) rfl ?_
              refine z_aload_n F dX6_giving_113 114 rfl 3 rfl ?_
              refine z_segVv (As := []) (st := []) F dX6_giving_114 117 rfl (mX6_givesBack C.1.2.1 D cyI cyB aO oI_10 oR_10 hw) y_X6_givesBack rfl gX6_giving_X6_givesBack rfl (ci := 6) (rq := 0) rfl rfl ⟨Nat.le_of_ble_eq_true rfl, Nat.le_of_ble_eq_true rfl⟩ ⟨Nat.zero_le _, Nat.zero_le _⟩ (Nat.le_of_ble_eq_true rfl) [] [] (by simp only [List.append_assoc, List.nil_append, List.append_nil]) (fun _ => rfl) (fun u => (wMo aO cyI u.1 u.2)) (fun u => (by simp only [List.append_assoc, List.nil_append, List.append_nil])) (fun u hp => ?_)
              obtain ⟨oI_15, oR_15⟩ := u
              replace hw := hp
              clear hp
              refine z_iload F dX6_giving_117 119 rfl 0 rfl ?_
              exact hRt 119 _ r5 (oI_15, oR_15) dX6_giving_119 hw
          · have hw := hwf c10; clear hwt hwf
            refine z_aload_n F dX6_giving_61 62 rfl 1 rfl ?_
            refine z_iload F dX6_giving_62 64 rfl 0 rfl ?_
            refine z_segVi (As := [.int r1]) (st := []) F dX6_giving_64 67 rfl (mX6_no C.1.2.1 D cyI cyB aO r1 oI oR hw) y_X6_no rfl gX6_giving_X6_no rfl (ci := 6) (rq := 0) rfl rfl ⟨Nat.le_of_ble_eq_true rfl, Nat.le_of_ble_eq_true rfl⟩ ⟨Nat.zero_le _, Nat.zero_le _⟩ (Nat.le_of_ble_eq_true rfl) [] [] (by simp only [List.append_assoc, List.nil_append, List.append_nil]) (fun _ => rfl) (fun u => (wMo aO cyI u.1 u.2)) (fun u => (by simp only [List.append_assoc, List.nil_append, List.append_nil])) (fun r6 u hp => ?_)
            obtain ⟨oI_16, oR_16⟩ := u
            replace hw := hp
            clear hp
            exact hRt 67 _ r6 (oI_16, oR_16) dX6_giving_67 hw
        · have hw := hwf c9; clear hwt hwf
          refine z_bipush F dX6_giving_52 54 rfl zkb_m3 ?_
          refine z_istore (lv' := [(4, .int (-3)), (0, .ref (aO 0)), (1, .int x1), (2, .int x2), (3, .int x3)]) F dX6_giving_54 56 rfl (by decide) rfl ?_
          refine z_iload F dX6_giving_56 58 rfl 0 rfl ?_
          obtain ⟨hwt, hwf⟩ := hw
          refine z_ifeq F dX6_giving_58 68 rfl 61 rfl (fun c15 => ?_) (fun c15 => ?_)
          · have hw := hwt c15; clear hwt hwf
            refine z_aload_n F dX6_giving_68 69 rfl 1 rfl ?_
            refine z_iload_n F dX6_giving_69 70 rfl 2 rfl ?_
            refine z_segVi (As := [.int x1]) (st := []) F dX6_giving_70 73 rfl (mX6_gives C.1.2.1 D cyI cyB aO x1 oI oR hw) y_X6_gives rfl gX6_giving_X6_gives rfl (ci := 6) (rq := 0) rfl rfl ⟨Nat.le_of_ble_eq_true rfl, Nat.le_of_ble_eq_true rfl⟩ ⟨Nat.zero_le _, Nat.zero_le _⟩ (Nat.le_of_ble_eq_true rfl) [] [] (by simp only [List.append_assoc, List.nil_append, List.append_nil]) (fun _ => rfl) (fun u => (wMo aO cyI u.1 u.2)) (fun u => (by simp only [List.append_assoc, List.nil_append, List.append_nil])) (fun r7 u hp => ?_)
            obtain ⟨oI_17, oR_17⟩ := u
            replace hw := hp
            clear hp
            refine z_istore (lv' := [(5, .int r7), (4, .int (-3)), (0, .ref (aO 0)), (1, .int x1), (2, .int x2), (3, .int x3)]) F dX6_giving_73 75 rfl (by decide) rfl ?_
            refine z_aload_n F dX6_giving_75 76 rfl 2 rfl ?_
            refine z_segVv (As := []) (st := []) F dX6_giving_76 79 rfl (mX6_findKnown C.1.2.1 D cyI cyB aO oI_17 oR_17 hw) y_X6_findKnown rfl gX6_giving_X6_findKnown rfl (ci := 6) (rq := 0) rfl rfl ⟨Nat.le_of_ble_eq_true rfl, Nat.le_of_ble_eq_true rfl⟩ ⟨Nat.zero_le _, Nat.zero_le _⟩ (Nat.le_of_ble_eq_true rfl) [] [] (by simp only [List.append_assoc, List.nil_append, List.append_nil]) (fun _ => rfl) (fun u => (wMo aO cyI u.1 u.2)) (fun u => (by simp only [List.append_assoc, List.nil_append, List.append_nil])) (fun u hp => ?_)
            obtain ⟨oI_18, oR_18⟩ := u
            replace hw := hp
            clear hp
            refine z_iload_n F dX6_giving_79 80 rfl 4 rfl ?_
            obtain ⟨hwt, hwf⟩ := hw
            refine z_ifne F dX6_giving_80 88 rfl 83 rfl (fun c16 => ?_) (fun c16 => ?_)
            · have hw := hwt c16; clear hwt hwf
              refine z_aload_n F dX6_giving_88 89 rfl 2 rfl ?_
              refine z_iload_n F dX6_giving_89 90 rfl 5 rfl ?_
              refine z_iload_n F dX6_giving_90 91 rfl 4 rfl ?_
              refine z_iconst F dX6_giving_91 92 rfl zki_2 ?_
              obtain ⟨hwt, hwf⟩ := hw
              refine z_icmpne F dX6_giving_92 99 rfl 95 rfl (fun c17 => ?_) (fun c17 => ?_)
              · have hw := hwt c17; clear hwt hwf
                refine z_iconst F dX6_giving_99 100 rfl zki_0 ?_
                refine z_segVi (As := [.int x3, .int 0]) (st := []) F dX6_giving_100 103 rfl (mX6_holdsAgainst C.1.2.1 D cyI cyB aO x3 false oI_18 oR_18 hw) y_X6_holdsAgainst rfl gX6_giving_X6_holdsAgainst rfl (ci := 6) (rq := 0) rfl rfl ⟨Nat.le_of_ble_eq_true rfl, Nat.le_of_ble_eq_true rfl⟩ ⟨Nat.zero_le _, Nat.zero_le _⟩ (Nat.le_of_ble_eq_true rfl) [] [] (by simp only [List.append_assoc, List.nil_append, List.append_nil]) (fun _ => rfl) (fun u => (wMo aO cyI oI_18 oR_18)) (fun u => (by simp only [List.append_assoc, List.nil_append, List.append_nil])) (fun r0 u hp => ?_)
                obtain ⟨b7, rfl, hw⟩ := hp
                obtain ⟨hwt, hwf⟩ := hw
                refine z_ifeqB F dX6_giving_103 110 rfl 106 rfl (fun c18 => ?_) (fun c18 => ?_)
                · have hw := hwt c18; clear hwt hwf
                  refine z_iconst F dX6_giving_110 111 rfl zki_0 ?_
                  refine z_istore (lv' := [(6, .int 0), (5, .int r7), (4, .int (-3)), (0, .ref (aO 0)), (1, .int x1), (2, .int x2), (3, .int x3)]) F dX6_giving_111 113 rfl (by decide) rfl ?_
                  refine z_aload_n F dX6_giving_113 114 rfl 3 rfl ?_
                  refine z_segVv (As := []) (st := []) F dX6_giving_114 117 rfl (mX6_givesBack C.1.2.1 D cyI cyB aO oI_18 oR_18 hw) y_X6_givesBack rfl gX6_giving_X6_givesBack rfl (ci := 6) (rq := 0) rfl rfl ⟨Nat.le_of_ble_eq_true rfl, Nat.le_of_ble_eq_true rfl⟩ ⟨Nat.zero_le _, Nat.zero_le _⟩ (Nat.le_of_ble_eq_true rfl) [] [] (by simp only [List.append_assoc, List.nil_append, List.append_nil]) (fun _ => rfl) (fun u => (wMo aO cyI u.1 u.2)) (fun u => (by simp only [List.append_assoc, List.nil_append, List.append_nil])) (fun u hp => ?_)
                  obtain ⟨oI_19, oR_19⟩ := u
                  replace hw := hp
                  clear hp
                  refine z_iload F dX6_giving_117 119 rfl 0 rfl ?_
                  exact hRt 119 _ 0 (oI_19, oR_19) dX6_giving_119 hw
                · have hw := hwf c18; clear hwt hwf
                  refine z_iconst F dX6_giving_106 107 rfl zki_1 ?_
                  refine z_goto F dX6_giving_107 111 rfl ?_
                  refine z_istore (lv' := [(6, .int 1), (5, .int r7), (4, .int (-3)), (0, .ref (aO 0)), (1, .int x1), (2, .int x2), (3, .int x3)]) F dX6_giving_111 113 rfl (by decide) rfl ?_
                  refine z_aload_n F dX6_giving_113 114 rfl 3 rfl ?_
                  refine z_segVv (As := []) (st := []) F dX6_giving_114 117 rfl (mX6_givesBack C.1.2.1 D cyI cyB aO oI_18 oR_18 hw) y_X6_givesBack rfl gX6_giving_X6_givesBack rfl (ci := 6) (rq := 0) rfl rfl ⟨Nat.le_of_ble_eq_true rfl, Nat.le_of_ble_eq_true rfl⟩ ⟨Nat.zero_le _, Nat.zero_le _⟩ (Nat.le_of_ble_eq_true rfl) [] [] (by simp only [List.append_assoc, List.nil_append, List.append_nil]) (fun _ => rfl) (fun u => (wMo aO cyI u.1 u.2)) (fun u => (by simp only [List.append_assoc, List.nil_append, List.append_nil])) (fun u hp => ?_)
                  obtain ⟨oI_20, oR_20⟩ := u
                  replace hw := hp
                  clear hp
                  refine z_iload F dX6_giving_117 119 rfl 0 rfl ?_
                  exact hRt 119 _ 1 (oI_20, oR_20) dX6_giving_119 hw
              · have hw := hwf c17; clear hwt hwf
                refine z_iconst F dX6_giving_95 96 rfl zki_1 ?_
                refine z_goto F dX6_giving_96 100 rfl ?_
                refine z_segVi (As := [.int x3, .int 1]) (st := []) F dX6_giving_100 103 rfl (mX6_holdsAgainst C.1.2.1 D cyI cyB aO x3 true oI_18 oR_18 hw) y_X6_holdsAgainst rfl gX6_giving_X6_holdsAgainst rfl (ci := 6) (rq := 0) rfl rfl ⟨Nat.le_of_ble_eq_true rfl, Nat.le_of_ble_eq_true rfl⟩ ⟨Nat.zero_le _, Nat.zero_le _⟩ (Nat.le_of_ble_eq_true rfl) [] [] (by simp only [List.append_assoc, List.nil_append, List.append_nil]) (fun _ => rfl) (fun u => (wMo aO cyI oI_18 oR_18)) (fun u => (by simp only [List.append_assoc, List.nil_append, List.append_nil])) (fun r0 u hp => ?_)
                obtain ⟨b8, rfl, hw⟩ := hp
                obtain ⟨hwt, hwf⟩ := hw
                refine z_ifeqB F dX6_giving_103 110 rfl 106 rfl (fun c19 => ?_) (fun c19 => ?_)
                · have hw := hwt c19; clear hwt hwf
                  refine z_iconst F dX6_giving_110 111 rfl zki_0 ?_
                  refine z_istore (lv' := [(6, .int 0), (5, .int r7), (4, .int (-3)), (0, .ref (aO 0)), (1, .int x1), (2, .int x2), (3, .int x3)]) F dX6_giving_111 113 rfl (by decide) rfl ?_
                  refine z_aload_n F dX6_giving_113 114 rfl 3 rfl ?_
                  refine z_segVv (As := []) (st := []) F dX6_giving_114 117 rfl (mX6_givesBack C.1.2.1 D cyI cyB aO oI_18 oR_18 hw) y_X6_givesBack rfl gX6_giving_X6_givesBack rfl (ci := 6) (rq := 0) rfl rfl ⟨Nat.le_of_ble_eq_true rfl, Nat.le_of_ble_eq_true rfl⟩ ⟨Nat.zero_le _, Nat.zero_le _⟩ (Nat.le_of_ble_eq_true rfl) [] [] (by simp only [List.append_assoc, List.nil_append, List.append_nil]) (fun _ => rfl) (fun u => (wMo aO cyI u.1 u.2)) (fun u => (by simp only [List.append_assoc, List.nil_append, List.append_nil])) (fun u hp => ?_)
                  obtain ⟨oI_21, oR_21⟩ := u
                  replace hw := hp
                  clear hp
                  refine z_iload F dX6_giving_117 119 rfl 0 rfl ?_
                  exact hRt 119 _ 0 (oI_21, oR_21) dX6_giving_119 hw
                · have hw := hwf c19; clear hwt hwf
                  refine z_iconst F dX6_giving_106 107 rfl zki_1 ?_
                  refine z_goto F dX6_giving_107 111 rfl ?_
                  refine z_istore (lv' := [(6, .int 1), (5, .int r7), (4, .int (-3)), (0, .ref (aO 0)), (1, .int x1), (2, .int x2), (3, .int x3)]) F dX6_giving_111 113 rfl (by decide) rfl ?_
                  refine z_aload_n F dX6_giving_113 114 rfl 3 rfl ?_
                  refine z_segVv (As := []) (st := []) F dX6_giving_114 117 rfl (mX6_givesBack C.1.2.1 D cyI cyB aO oI_18 oR_18 hw) y_X6_givesBack rfl gX6_giving_X6_givesBack rfl (ci := 6) (rq := 0) rfl rfl ⟨Nat.le_of_ble_eq_true rfl, Nat.le_of_ble_eq_true rfl⟩ ⟨Nat.zero_le _, Nat.zero_le _⟩ (Nat.le_of_ble_eq_true rfl) [] [] (by simp only [List.append_assoc, List.nil_append, List.append_nil]) (fun _ => rfl) (fun u => (wMo aO cyI u.1 u.2)) (fun u => (by simp only [List.append_assoc, List.nil_append, List.append_nil])) (fun u hp => ?_)
                  obtain ⟨oI_22, oR_22⟩ := u
                  replace hw := hp
                  clear hp
                  refine z_iload F dX6_giving_117 119 rfl 0 rfl ?_
                  exact hRt 119 _ 1 (oI_22, oR_22) dX6_giving_119 hw
            · have hw := hwf c16; clear hwt hwf
              refine z_iload F dX6_giving_83 85 rfl 0 rfl ?_
              refine z_goto F dX6_giving_85 111 rfl ?_
              refine z_istore (lv' := [(6, .int r7), (5, .int r7), (4, .int (-3)), (0, .ref (aO 0)), (1, .int x1), (2, .int x2), (3, .int x3)]) F dX6_giving_111 113 rfl (by decide) rfl ?_
              refine z_aload_n F dX6_giving_113 114 rfl 3 rfl ?_
              refine z_segVv (As := []) (st := []) F dX6_giving_114 117 rfl (mX6_givesBack C.1.2.1 D cyI cyB aO oI_18 oR_18 hw) y_X6_givesBack rfl gX6_giving_X6_givesBack rfl (ci := 6) (rq := 0) rfl rfl ⟨Nat.le_of_ble_eq_true rfl, Nat.le_of_ble_eq_true rfl⟩ ⟨Nat.zero_le _, Nat.zero_le _⟩ (Nat.le_of_ble_eq_true rfl) [] [] (by simp only [List.append_assoc, List.nil_append, List.append_nil]) (fun _ => rfl) (fun u => (wMo aO cyI u.1 u.2)) (fun u => (by simp only [List.append_assoc, List.nil_append, List.append_nil])) (fun u hp => ?_)
              obtain ⟨oI_23, oR_23⟩ := u
              replace hw := hp
              clear hp
              refine z_iload F dX6_giving_117 119 rfl 0 rfl ?_
              exact hRt 119 _ r7 (oI_23, oR_23) dX6_giving_119 hw
          · have hw := hwf c15; clear hwt hwf
            refine z_aload_n F dX6_giving_61 62 rfl 1 rfl ?_
            refine z_iload F dX6_giving_62 64 rfl 0 rfl ?_
            refine z_segVi (As := [.int (-3)]) (st := []) F dX6_giving_64 67 rfl (mX6_no C.1.2.1 D cyI cyB aO (-3) oI oR hw) y_X6_no rfl gX6_giving_X6_no rfl (ci := 6) (rq := 0) rfl rfl ⟨Nat.le_of_ble_eq_true rfl, Nat.le_of_ble_eq_true rfl⟩ ⟨Nat.zero_le _, Nat.zero_le _⟩ (Nat.le_of_ble_eq_true rfl) [] [] (by simp only [List.append_assoc, List.nil_append, List.append_nil]) (fun _ => rfl) (fun u => (wMo aO cyI u.1 u.2)) (fun u => (by simp only [List.append_assoc, List.nil_append, List.append_nil])) (fun r8 u hp => ?_)
            obtain ⟨oI_24, oR_24⟩ := u
            replace hw := hp
            clear hp
            exact hRt 67 _ r8 (oI_24, oR_24) dX6_giving_67 hw
    · have hw := hwf c2; clear hwt hwf
      refine z_aload_n F dX6_giving_24 25 rfl 0 rfl ?_
      refine z_bipush F dX6_giving_25 27 rfl zkb_m2 ?_
      refine z_segVi (As := [.int (-2)]) (st := []) F dX6_giving_27 30 rfl (mX6_no C.1.2.1 D cyI cyB aO (-2) oI oR hw) y_X6_no rfl gX6_giving_X6_no rfl (ci := 6) (rq := 0) rfl rfl ⟨Nat.le_of_ble_eq_true rfl, Nat.le_of_ble_eq_true rfl⟩ ⟨Nat.zero_le _, Nat.zero_le _⟩ (Nat.le_of_ble_eq_true rfl) [] [] (by simp only [List.append_assoc, List.nil_append, List.append_nil]) (fun _ => rfl) (fun u => (wMo aO cyI u.1 u.2)) (fun u => (by simp only [List.append_assoc, List.nil_append, List.append_nil])) (fun r9 u hp => ?_)
      obtain ⟨oI_25, oR_25⟩ := u
      replace hw := hp
      clear hp
      exact hRt 30 _ r9 (oI_25, oR_25) dX6_giving_30 hw
  · have hw := hwf c1; clear hwt hwf
    refine z_aload_n F dX6_giving_9 10 rfl 0 rfl ?_
    refine z_iconst F dX6_giving_10 11 rfl zki_m1 ?_
    refine z_segVi (As := [.int (-1)]) (st := []) F dX6_giving_11 14 rfl (mX6_no C.1.2.1 D cyI cyB aO (-1) oI oR hw) y_X6_no rfl gX6_giving_X6_no rfl (ci := 6) (rq := 0) rfl rfl ⟨Nat.le_of_ble_eq_true rfl, Nat.le_of_ble_eq_true rfl⟩ ⟨Nat.zero_le _, Nat.zero_le _⟩ (Nat.le_of_ble_eq_true rfl) [] [] (by simp only [List.append_assoc, List.nil_append, List.append_nil]) (fun _ => rfl) (fun u => (wMo aO cyI u.1 u.2)) (fun u => (by simp only [List.append_assoc, List.nil_append, List.append_nil])) (fun r10 u hp => ?_)
    obtain ⟨oI_26, oR_26⟩ := u
    replace hw := hp
    clear hp
    exact hRt 14 _ r10 (oI_26, oR_26) dX6_giving_14 hw
set_option maxHeartbeats 4000000 in
set_option maxRecDepth 100000 in
theorem mX6_giving (l : Launch) (D : va_G) (cyI cyB : ClassId) (aO : Nat → Nat) (x1 : Int32) (x2 : Int32) (x3 : Int32) (oI : Nat → Int32) (oR : Nat → Nat → Int32) {post : Int32 → (Nat → Int32) → (Nat → Nat → Int32) → Prop} (hw : pX6_giving x1 x2 x3 oI oR post) : zMi l yX6_giving wsX6_giving 4 95 D cyI cyB [.ref (aO 0), .int x1, .int x2, .int x3] (wMo aO cyI oI oR) (S := ((Nat → Int32) × (Nat → Nat → Int32))) (fun u => (wMo aO cyI u.1 u.2)) (fun r u => post r u.1 u.2) :=
  z_meti (cc := cX6_giving) (nL := 7) (by decide +kernel) rfl (Nat.le_of_ble_eq_true rfl) (fun C hl F hRt => xX6_giving_0 x1 x2 x3 oI oR F hRt hw)
theorem y_X6_giving : zY yX6_giving wsX6_giving cX6_giving 7 (some .int) 3 := ⟨⟨_, rfl⟩, by decide +kernel⟩
set_option maxHeartbeats 4000000 in
set_option maxRecDepth 100000 in
theorem xX6_finest_40 {C : zC} {D : va_G} {cyI cyB : ClassId} {aO : Nat → Nat} (x1 : Int32) (x2 : Int32) (F : zF C D { frames := 5, cells := 0, slots := 0, locals := 117 } cX6_finest 9 wsX6_finest RX6 (some .int) cyI cyB) {post : Int32 → (Nat → Int32) → (Nat → Nat → Int32) → Prop} (hRt : zRi C D cX6_finest 9 (S := ((Nat → Int32) × (Nat → Nat → Int32))) (fun u => (wMo aO cyI u.1 u.2)) (fun r u => post r u.1 u.2)) : ∀ (n : Nat) (x4 : Int32) (x5 : Int32) (x6 : Int32) (oI : Nat → Int32) (oR : Nat → Nat → Int32), bX6_finest_40 x1 x2 post  n x4 x5 x6 oI oR → zX C D 9 0 0 (wMo aO cyI oI oR) 40 [(0, .ref (aO 0)), (1, .int x1), (2, .int x2), (4, .int x4), (5, .int x5), (6, .int x6)] [] := by
  intro n
  induction n with
  | zero => intro _ _ _ _ _ hw; exact hw.elim
  | succ n ih =>
    intro x4 x5 x6 oI oR hw
    refine z_iload F dX6_finest_40 42 rfl 5 rfl ?_
    refine z_iconst F dX6_finest_42 43 rfl zki_5 ?_
    obtain ⟨hwt, hwf⟩ := hw
    refine z_icmpge F dX6_finest_43 100 rfl 46 rfl (fun c3 => ?_) (fun c3 => ?_)
    · have hw := hwt c3; clear hwt hwf
      refine z_iload F dX6_finest_100 102 rfl 3 rfl ?_
      exact hRt 102 _ x4 (oI, oR) dX6_finest_102 hw
    · have hw := hwf c3; clear hwt hwf
      refine z_aload_n F dX6_finest_46 47 rfl 0 rfl ?_
      refine z_iload F dX6_finest_47 49 rfl 5 rfl ?_
      refine z_segVi (As := [.int x6]) (st := []) F dX6_finest_49 52 rfl (mX6_gives C.1.2.1 D cyI cyB aO x6 oI oR hw) y_X6_gives rfl gX6_finest_X6_gives rfl (ci := 6) (rq := 0) rfl rfl ⟨Nat.le_of_ble_eq_true rfl, Nat.le_of_ble_eq_true rfl⟩ ⟨Nat.zero_le _, Nat.zero_le _⟩ (Nat.le_of_ble_eq_true rfl) [] [] (by simp only [List.append_assoc, List.nil_append, List.append_nil]) (fun _ => rfl) (fun u => (wMo aO cyI u.1 u.2)) (fun u => (by simp only [List.append_assoc, List.nil_append, List.append_nil])) (fun r2 u hp => ?_)
      obtain ⟨oI_1, oR_1⟩ := u
      replace hw := hp
      clear hp
      refine z_istore (lv' := [(7, .int r2), (0, .ref (aO 0)), (1, .int x1), (2, .int x2), (4, .int x4), (5, .int x5), (6, .int x6)]) F dX6_finest_52 54 rfl (by decide) rfl ?_
      refine z_aload_n F dX6_finest_54 55 rfl 1 rfl ?_
      refine z_iload_n F dX6_finest_55 56 rfl 2 rfl ?_
      refine z_iload_n F dX6_finest_56 57 rfl 3 rfl ?_
      refine z_segVi (As := [.int x1, .int x2]) (st := []) F dX6_finest_57 60 rfl (mX6_holds C.1.2.1 D cyI cyB aO x1 x2 oI_1 oR_1 hw) y_X6_holds rfl gX6_finest_X6_holds rfl (ci := 6) (rq := 0) rfl rfl ⟨Nat.le_of_ble_eq_true rfl, Nat.le_of_ble_eq_true rfl⟩ ⟨Nat.zero_le _, Nat.zero_le _⟩ (Nat.le_of_ble_eq_true rfl) [] [] (by simp only [List.append_assoc, List.nil_append, List.append_nil]) (fun _ => rfl) (fun u => (wMo aO cyI u.1 u.2)) (fun u => (by simp only [List.append_assoc, List.nil_append, List.append_nil])) (fun r0 u hp => ?_)
      obtain ⟨oI_2, oR_2⟩ := u
      obtain ⟨b1, rfl, hw⟩ := hp
      refine z_istore (lv' := [(8, .int (zb b1)), (7, .int r2), (0, .ref (aO 0)), (1, .int x1), (2, .int x2), (4, .int x4), (5, .int x5), (6, .int x6)]) F dX6_finest_60 62 rfl (by decide) rfl ?_
      refine z_aload_n F dX6_finest_62 63 rfl 2 rfl ?_
      refine z_segVv (As := []) (st := []) F dX6_finest_63 66 rfl (mX6_givesBack C.1.2.1 D cyI cyB aO oI_2 oR_2 hw) y_X6_givesBack rfl gX6_finest_X6_givesBack rfl (ci := 6) (rq := 0) rfl rfl ⟨Nat.le_of_ble_eq_true rfl, Nat.le_of_ble_eq_true rfl⟩ ⟨Nat.zero_le _, Nat.zero_le _⟩ (Nat.le_of_ble_eq_true rfl) [] [] (by simp only [List.append_assoc, List.nil_append, List.append_nil]) (fun _ => rfl) (fun u => (wMo aO cyI u.1 u.2)) (fun u => (by simp only [List.append_assoc, List.nil_append, List.append_nil])) (fun u hp => ?_)
      obtain ⟨oI_3, oR_3⟩ := u
      replace hw := hp
      clear hp
      refine z_iload F dX6_finest_66 68 rfl 0 rfl ?_
      obtain ⟨hwt, hwf⟩ := hw
      refine z_ifeqB F dX6_finest_68 94 rfl 71 rfl (fun c4 => ?_) (fun c4 => ?_)
      · have hw := hwt c4; clear hwt hwf
        refine z_iinc F dX6_finest_94 97 rfl 7 rfl (by decide) zki_1 (fun v1 => [(6, .int v1), (8, .int (zb b1)), (7, .int r2), (0, .ref (aO 0)), (1, .int x1), (2, .int x2), (4, .int x4), (5, .int x5)]) (fun _ => rfl) (fun v1 ev1 => ?_)
        replace hw := hw v1 ev1
        refine z_goto F dX6_finest_97 40 rfl ?_
        refine z_lv (lv' := [(0, .ref (aO 0)), (1, .int x1), (2, .int x2), (4, .int x4), (5, .int x5), (6, .int v1)]) [3, 4, 5, 6, 7, 0] rfl ?_
        exact ih x4 x5 v1 oI_3 oR_3 hw
      · have hw := hwf c4; clear hwt hwf
        refine z_iload F dX6_finest_71 73 rfl 5 rfl ?_
        obtain ⟨hwt, hwf⟩ := hw
        refine z_iflt F dX6_finest_73 86 rfl 76 rfl (fun c5 => ?_) (fun c5 => ?_)
        · have hw := hwt c5; clear hwt hwf
          refine z_iload F dX6_finest_86 88 rfl 7 rfl ?_
          refine z_istore (lv' := [(4, .int x6), (8, .int (zb b1)), (7, .int r2), (0, .ref (aO 0)), (1, .int x1), (2, .int x2), (5, .int x5), (6, .int x6)]) F dX6_finest_88 90 rfl (by decide) rfl ?_
          refine z_iload F dX6_finest_90 92 rfl 2 rfl ?_
          refine z_istore (lv' := [(5, .int r2), (4, .int x6), (8, .int (zb b1)), (7, .int r2), (0, .ref (aO 0)), (1, .int x1), (2, .int x2), (6, .int x6)]) F dX6_finest_92 94 rfl (by decide) rfl ?_
          refine z_iinc F dX6_finest_94 97 rfl 7 rfl (by decide) zki_1 (fun v2 => [(6, .int v2), (5, .int r2), (4, .int x6), (8, .int (zb b1)), (7, .int r2), (0, .ref (aO 0)), (1, .int x1), (2, .int x2)]) (fun _ => rfl) (fun v2 ev2 => ?_)
          replace hw := hw v2 ev2
          refine z_goto F dX6_finest_97 40 rfl ?_
          refine z_lv (lv' := [(0, .ref (aO 0)), (1, .int x1), (2, .int x2), (4, .int x6), (5, .int r2), (6, .int v2)]) [5, 6, 7, 2, 1, 0] rfl ?_
          exact ih x6 r2 v2 oI_3 oR_3 hw
        · have hw := hwf c5; clear hwt hwf
          refine z_iload F dX6_finest_76 78 rfl 1 rfl ?_
          refine z_iload F dX6_finest_78 80 rfl 6 rfl ?_
          obtain ⟨hwt, hwf⟩ := hw
          refine z_icmplt F dX6_finest_80 86 rfl 83 rfl (fun c6 => ?_) (fun c6 => ?_)
          · have hw := hwt c6; clear hwt hwf
            refine z_iload F dX6_finest_86 88 rfl 7 rfl ?_
            refine z_istore (lv' := [(4, .int x6), (8, .int (zb b1)), (7, .int r2), (0, .ref (aO 0)), (1, .int x1), (2, .int x2), (5, .int x5), (6, .int x6)]) F dX6_finest_88 90 rfl (by decide) rfl ?_
            refine z_iload F dX6_finest_90 92 rfl 2 rfl ?_
            refine z_istore (lv' := [(5, .int r2), (4, .int x6), (8, .int (zb b1)), (7, .int r2), (0, .ref (aO 0)), (1, .int x1), (2, .int x2), (6, .int x6)]) F dX6_finest_92 94 rfl (by decide) rfl ?_
            refine z_iinc F dX6_finest_94 97 rfl 7 rfl (by decide) zki_1 (fun v3 => [(6, .int v3), (5, .int r2), (4, .int x6), (8, .int (zb b1)), (7, .int r2), (0, .ref (aO 0)), (1, .int x1), (2, .int x2)]) (fun _ => rfl) (fun v3 ev3 => ?_)
            replace hw := hw v3 ev3
            refine z_goto F dX6_finest_97 40 rfl ?_
            refine z_lv (lv' := [(0, .ref (aO 0)), (1, .int x1), (2, .int x2), (4, .int x6), (5, .int r2), (6, .int v3)]) [5, 6, 7, 2, 1, 0] rfl ?_
            exact ih x6 r2 v3 oI_3 oR_3 hw
          · have hw := hwf c6; clear hwt hwf
            refine z_goto F dX6_finest_83 94 rfl ?_
            refine z_iinc F dX6_finest_94 97 rfl 7 rfl (by decide) zki_1 (fun v4 => [(6, .int v4), (8, .int (zb b1)), (7, .int r2), (0, .ref (aO 0)), (1, .int x1), (2, .int x2), (4, .int x4), (5, .int x5)]) (fun _ => rfl) (fun v4 ev4 => ?_)
            replace hw := hw v4 ev4
            refine z_goto F dX6_finest_97 40 rfl ?_
            refine z_lv (lv' := [(0, .ref (aO 0)), (1, .int x1), (2, .int x2), (4, .int x4), (5, .int x5), (6, .int v4)]) [3, 4, 5, 6, 7, 0] rfl ?_
            exact ih x4 x5 v4 oI_3 oR_3 hw
set_option maxHeartbeats 4000000 in
set_option maxRecDepth 100000 in
theorem xX6_finest_20 {C : zC} {D : va_G} {cyI cyB : ClassId} {aO : Nat → Nat} (x1 : Int32) (x2 : Int32) (x3 : Int32) (oI : Nat → Int32) (oR : Nat → Nat → Int32) (F : zF C D { frames := 5, cells := 0, slots := 0, locals := 117 } cX6_finest 9 wsX6_finest RX6 (some .int) cyI cyB) {post : Int32 → (Nat → Int32) → (Nat → Nat → Int32) → Prop} (hRt : zRi C D cX6_finest 9 (S := ((Nat → Int32) × (Nat → Nat → Int32))) (fun u => (wMo aO cyI u.1 u.2)) (fun r u => post r u.1 u.2)) (hw : bX6_finest_20 x1 x2 x3 oI oR post ) : zX C D 9 0 0 (wMo aO cyI oI oR) 20 [(0, .ref (aO 0)), (1, .int x1), (2, .int x2), (3, .int x3)] [] := by
  refine z_iload_n F dX6_finest_20 21 rfl 3 rfl ?_
  obtain ⟨hwt, hwf⟩ := hw
  refine z_ifeq F dX6_finest_21 30 rfl 24 rfl (fun c2 => ?_) (fun c2 => ?_)
  · have hw := hwt c2; clear hwt hwf
    refine z_bipush F dX6_finest_30 32 rfl zkb_m9 ?_
    refine z_istore (lv' := [(4, .int (-9)), (0, .ref (aO 0)), (1, .int x1), (2, .int x2), (3, .int x3)]) F dX6_finest_32 34 rfl (by decide) rfl ?_
    refine z_iconst F dX6_finest_34 35 rfl zki_0 ?_
    refine z_istore (lv' := [(5, .int 0), (4, .int (-9)), (0, .ref (aO 0)), (1, .int x1), (2, .int x2), (3, .int x3)]) F dX6_finest_35 37 rfl (by decide) rfl ?_
    refine z_iconst F dX6_finest_37 38 rfl zki_0 ?_
    refine z_istore (lv' := [(6, .int 0), (5, .int 0), (4, .int (-9)), (0, .ref (aO 0)), (1, .int x1), (2, .int x2), (3, .int x3)]) F dX6_finest_38 40 rfl (by decide) rfl ?_
    obtain ⟨n1, hw⟩ := hw
    refine z_lv (lv' := [(0, .ref (aO 0)), (1, .int x1), (2, .int x2), (4, .int (-9)), (5, .int 0), (6, .int 0)]) [3, 4, 5, 2, 1, 0] rfl ?_
    refine xX6_finest_40 x1 x2 F hRt n1 (-9) 0 0 oI oR hw
  · have hw := hwf c2; clear hwt hwf
    refine z_aload_n F dX6_finest_24 25 rfl 0 rfl ?_
    refine z_iload_n F dX6_finest_25 26 rfl 3 rfl ?_
    refine z_segVi (As := [.int x3]) (st := []) F dX6_finest_26 29 rfl (mX6_no C.1.2.1 D cyI cyB aO x3 oI oR hw) y_X6_no rfl gX6_finest_X6_no rfl (ci := 6) (rq := 0) rfl rfl ⟨Nat.le_of_ble_eq_true rfl, Nat.le_of_ble_eq_true rfl⟩ ⟨Nat.zero_le _, Nat.zero_le _⟩ (Nat.le_of_ble_eq_true rfl) [] [] (by simp only [List.append_assoc, List.nil_append, List.append_nil]) (fun _ => rfl) (fun u => (wMo aO cyI u.1 u.2)) (fun u => (by simp only [List.append_assoc, List.nil_append, List.append_nil])) (fun r2 u hp => ?_)
    obtain ⟨oI_1, oR_1⟩ := u
    replace hw := hp
    clear hp
    exact hRt 29 _ r2 (oI_1, oR_1) dX6_finest_29 hw
set_option maxHeartbeats 4000000 in
set_option maxRecDepth 100000 in
theorem xX6_finest_0 {C : zC} {D : va_G} {cyI cyB : ClassId} {aO : Nat → Nat} (x1 : Int32) (x2 : Int32) (oI : Nat → Int32) (oR : Nat → Nat → Int32) (F : zF C D { frames := 5, cells := 0, slots := 0, locals := 117 } cX6_finest 9 wsX6_finest RX6 (some .int) cyI cyB) {post : Int32 → (Nat → Int32) → (Nat → Nat → Int32) → Prop} (hRt : zRi C D cX6_finest 9 (S := ((Nat → Int32) × (Nat → Nat → Int32))) (fun u => (wMo aO cyI u.1 u.2)) (fun r u => post r u.1 u.2)) (hw : pX6_finest x1 x2 oI oR post) : zX C D 9 0 0 (wMo aO cyI oI oR) 0 [(0, .ref (aO 0)), (1, .int x1), (2, .int x2)] [] := by
  refine z_iload_n F dX6_finest_0 1 rfl 1 rfl ?_
  refine z_iload_n F dX6_finest_1 2 rfl 2 rfl ?_
  refine z_callSi (As := [.int x1, .int x2]) (st := []) F dX6_finest_2 5 rfl (mX6_notTwo C.1.2.1 D cyI cyB x1 x2 hw) y_X6_notTwo rfl gX6_finest_X6_notTwo ⟨Nat.le_of_ble_eq_true rfl, Nat.le_of_ble_eq_true rfl⟩ ⟨Nat.zero_le _, Nat.zero_le _⟩ (Nat.le_of_ble_eq_true rfl) [] (by decide) rfl (fun _ => rfl) (fun u => (wMo aO cyI oI oR)) (fun _ => rfl) (fun r1 u hp => ?_)
  replace hw := hp
  clear hp
  refine z_istore_n (lv' := [(3, .int r1), (0, .ref (aO 0)), (1, .int x1), (2, .int x2)]) F dX6_finest_5 6 rfl (by decide) rfl ?_
  refine z_iload_n F dX6_finest_6 7 rfl 0 rfl ?_
  obtain ⟨hwt, hwf⟩ := hw
  refine z_ifne F dX6_finest_7 20 rfl 10 rfl (fun c1 => ?_) (fun c1 => ?_)
  · have hw := hwt c1; clear hwt hwf
    refine z_lv (lv' := [(0, .ref (aO 0)), (1, .int x1), (2, .int x2), (3, .int r1)]) [1, 2, 3, 0] rfl ?_
    exact xX6_finest_20 x1 x2 r1 oI oR F hRt hw
  · have hw := hwf c1; clear hwt hwf
    refine z_aload_n F dX6_finest_10 11 rfl 1 rfl ?_
    refine z_segVi (As := []) (st := []) F dX6_finest_11 14 rfl (mX6_houseSet C.1.2.1 D cyI cyB aO oI oR hw) y_X6_houseSet rfl gX6_finest_X6_houseSet rfl (ci := 6) (rq := 0) rfl rfl ⟨Nat.le_of_ble_eq_true rfl, Nat.le_of_ble_eq_true rfl⟩ ⟨Nat.zero_le _, Nat.zero_le _⟩ (Nat.le_of_ble_eq_true rfl) [] [] (by simp only [List.append_assoc, List.nil_append, List.append_nil]) (fun _ => rfl) (fun u => (wMo aO cyI oI oR)) (fun u => (by simp only [List.append_assoc, List.nil_append, List.append_nil])) (fun r2 u hp => ?_)
    replace hw := hp
    clear hp
    obtain ⟨hwt, hwf⟩ := hw
    refine z_ifne F dX6_finest_14 20 rfl 17 rfl (fun c2 => ?_) (fun c2 => ?_)
    · have hw := hwt c2; clear hwt hwf
      refine z_lv (lv' := [(0, .ref (aO 0)), (1, .int x1), (2, .int x2), (3, .int r1)]) [1, 2, 3, 0] rfl ?_
      exact xX6_finest_20 x1 x2 r1 oI oR F hRt hw
    · have hw := hwf c2; clear hwt hwf
      refine z_bipush F dX6_finest_17 19 rfl zkb_m3 ?_
      refine z_istore_n (lv' := [(3, .int (-3)), (0, .ref (aO 0)), (1, .int x1), (2, .int x2)]) F dX6_finest_19 20 rfl (by decide) rfl ?_
      refine z_lv (lv' := [(0, .ref (aO 0)), (1, .int x1), (2, .int x2), (3, .int (-3))]) [1, 2, 3, 0] rfl ?_
      exact xX6_finest_20 x1 x2 (-3) oI oR F hRt hw
set_option maxHeartbeats 4000000 in
set_option maxRecDepth 100000 in
theorem mX6_finest (l : Launch) (D : va_G) (cyI cyB : ClassId) (aO : Nat → Nat) (x1 : Int32) (x2 : Int32) (oI : Nat → Int32) (oR : Nat → Nat → Int32) {post : Int32 → (Nat → Int32) → (Nat → Nat → Int32) → Prop} (hw : pX6_finest x1 x2 oI oR post) : zMi l yX6_finest wsX6_finest 5 117 D cyI cyB [.ref (aO 0), .int x1, .int x2] (wMo aO cyI oI oR) (S := ((Nat → Int32) × (Nat → Nat → Int32))) (fun u => (wMo aO cyI u.1 u.2)) (fun r u => post r u.1 u.2) :=
  z_meti (cc := cX6_finest) (nL := 9) (by decide +kernel) rfl (Nat.le_of_ble_eq_true rfl) (fun C hl F hRt => xX6_finest_0 x1 x2 oI oR F hRt hw)
theorem y_X6_finest : zY yX6_finest wsX6_finest cX6_finest 9 (some .int) 2 := ⟨⟨_, rfl⟩, by decide +kernel⟩
theorem iX6_likely_6 : ∀ w ∈ wsX60, w ∈ wsX6_likely := fun w h => List.mem_cons_of_mem _ (List.mem_append_right _ h)
theorem kX6_likely_16 : zL wsX6_likely RX6 16 6 2 (.array .int) true := zL6 iX6_likely_6 (by decide) (List.mem_of_getElem? (i := 2) rfl) rfl rfl
theorem kX6_likely_72 : zL wsX6_likely RX6 72 6 11 .int false := zL6 iX6_likely_6 (by decide) (List.mem_of_getElem? (i := 1) rfl) rfl rfl
set_option maxHeartbeats 4000000 in
set_option maxRecDepth 100000 in
theorem xX6_likely_70 {C : zC} {D : va_G} {cyI cyB : ClassId} {aO : Nat → Nat} (x1 : Int32) (x2 : Int32) (y3 : Int64) (x5 : Int32) (F : zF C D { frames := 3, cells := 0, slots := 0, locals := 70 } cX6_likely 9 wsX6_likely RX6 (some .long) cyI cyB) {post : Int64 → (Nat → Int32) → (Nat → Nat → Int32) → Prop} (hRt : zRl C D cX6_likely 9 (S := ((Nat → Int32) × (Nat → Nat → Int32))) (fun u => (wMo aO cyI u.1 u.2)) (fun r u => post r u.1 u.2)) {k136 : Int64 → (Nat → Int32) → (Nat → Nat → Int32) → Prop} (hk136 : ∀ (y6 : Int64) (oI : Nat → Int32) (oR : Nat → Nat → Int32), k136 y6 oI oR → zX C D 9 0 0 (wMo aO cyI oI oR) 136 [(0, .ref (aO 0)), (1, .int x1), (2, .int x2), (3, .long y3), (5, .int x5), (6, .long y6)] []) : ∀ (n : Nat) (y6 : Int64) (x8 : Int32) (oI : Nat → Int32) (oR : Nat → Nat → Int32), bX6_likely_70 x1 x2 y3 x5 post k136  n y6 x8 oI oR → zX C D 9 0 0 (wMo aO cyI oI oR) 70 [(0, .ref (aO 0)), (1, .int x1), (2, .int x2), (3, .long y3), (5, .int x5), (6, .long y6), (8, .int x8)] [] := by
  intro n
  induction n with
  | zero => intro _ _ _ _ hw; exact hw.elim
  | succ n ih =>
    intro y6 x8 oI oR hw
    refine z_iload F dX6_likely_70 72 rfl 6 rfl ?_
    refine z_aload_n F dX6_likely_72 73 rfl 0 rfl ?_
    refine z_get F dX6_likely_73 76 rfl kX6_likely_72 0 rfl rfl ?_
    obtain ⟨hwt, hwf⟩ := hw
    refine z_icmpge F dX6_likely_76 136 rfl 79 rfl (fun c5 => ?_) (fun c5 => ?_)
    · have hw := hwt c5; clear hwt hwf
      refine z_lv (lv' := [(0, .ref (aO 0)), (1, .int x1), (2, .int x2), (3, .long y3), (5, .int x5), (6, .long y6)]) [0, 1, 2, 3, 4, 5] rfl ?_
      exact hk136 y6 oI oR hw
    · have hw := hwf c5; clear hwt hwf
      refine z_lload F dX6_likely_79 81 rfl 5 rfl ?_
      refine z_iload_n F dX6_likely_81 82 rfl 2 rfl ?_
      refine z_iload F dX6_likely_82 84 rfl 6 rfl ?_
      refine z_ishr F dX6_likely_84 85 rfl ?_
      refine z_iconst F dX6_likely_85 86 rfl zki_1 ?_
      refine z_iand F dX6_likely_86 87 rfl ?_
      obtain ⟨hwt, hwf⟩ := hw
      refine z_ifne F dX6_likely_87 94 rfl 90 rfl (fun c6 => ?_) (fun c6 => ?_)
      · have hw := hwt c6; clear hwt hwf
        refine z_iload F dX6_likely_94 96 rfl 4 rfl ?_
        refine z_iload F dX6_likely_96 98 rfl 6 rfl ?_
        refine z_ishr F dX6_likely_98 99 rfl ?_
        refine z_iconst F dX6_likely_99 100 rfl zki_1 ?_
        refine z_iand F dX6_likely_100 101 rfl ?_
        refine z_iconst F dX6_likely_101 102 rfl zki_1 ?_
        obtain ⟨hwt, hwf⟩ := hw
        refine z_icmpne F dX6_likely_102 116 rfl 105 rfl (fun c7 => ?_) (fun c7 => ?_)
        · have hw := hwt c7; clear hwt hwf
          refine z_bipush F dX6_likely_116 118 rfl zkb_100 ?_
          refine z_aload_n F dX6_likely_118 119 rfl 0 rfl ?_
          refine z_get F dX6_likely_119 122 rfl kX6_likely_16 0 rfl rfl ?_
          refine z_iload F dX6_likely_122 124 rfl 6 rfl ?_
          obtain ⟨j1, ej1, hj1, hw⟩ := hw
          refine z_iald F dX6_likely_124 125 rfl 3 rfl (by decide) j1 ej1 hj1 ?_
          refine z_isub F dX6_likely_125 126 rfl ?_
          refine z_i2l F dX6_likely_126 127 rfl ?_
          refine z_lmul F dX6_likely_127 128 rfl ?_
          refine z_topl (fun u3 eu3 => ?_)
          replace hw := hw u3 eu3
          refine z_lstore (lv' := [(6, .long u3), (0, .ref (aO 0)), (1, .int x1), (2, .int x2), (3, .long y3), (5, .int x5), (8, .int x8)]) F dX6_likely_128 130 rfl (by decide) rfl ?_
          refine z_iinc F dX6_likely_130 133 rfl 6 rfl (by decide) zki_1 (fun v2 => [(8, .int v2), (6, .long u3), (0, .ref (aO 0)), (1, .int x1), (2, .int x2), (3, .long y3), (5, .int x5)]) (fun _ => rfl) (fun v2 ev2 => ?_)
          replace hw := hw v2 ev2
          refine z_goto F dX6_likely_133 70 rfl ?_
          refine z_lv (lv' := [(0, .ref (aO 0)), (1, .int x1), (2, .int x2), (3, .long y3), (5, .int x5), (6, .long u3), (8, .int v2)]) [2, 3, 4, 5, 6, 1, 0] rfl ?_
          exact ih u3 v2 oI oR hw
        · have hw := hwf c7; clear hwt hwf
          refine z_aload_n F dX6_likely_105 106 rfl 0 rfl ?_
          refine z_get F dX6_likely_106 109 rfl kX6_likely_16 0 rfl rfl ?_
          refine z_iload F dX6_likely_109 111 rfl 6 rfl ?_
          obtain ⟨j2, ej2, hj2, hw⟩ := hw
          refine z_iald F dX6_likely_111 112 rfl 3 rfl (by decide) j2 ej2 hj2 ?_
          refine z_i2l F dX6_likely_112 113 rfl ?_
          refine z_goto F dX6_likely_113 127 rfl ?_
          refine z_lmul F dX6_likely_127 128 rfl ?_
          refine z_topl (fun u4 eu4 => ?_)
          replace hw := hw u4 eu4
          refine z_lstore (lv' := [(6, .long u4), (0, .ref (aO 0)), (1, .int x1), (2, .int x2), (3, .long y3), (5, .int x5), (8, .int x8)]) F dX6_likely_128 130 rfl (by decide) rfl ?_
          refine z_iinc F dX6_likely_130 133 rfl 6 rfl (by decide) zki_1 (fun v3 => [(8, .int v3), (6, .long u4), (0, .ref (aO 0)), (1, .int x1), (2, .int x2), (3, .long y3), (5, .int x5)]) (fun _ => rfl) (fun v3 ev3 => ?_)
          replace hw := hw v3 ev3
          refine z_goto F dX6_likely_133 70 rfl ?_
          refine z_lv (lv' := [(0, .ref (aO 0)), (1, .int x1), (2, .int x2), (3, .long y3), (5, .int x5), (6, .long u4), (8, .int v3)]) [2, 3, 4, 5, 6, 1, 0] rfl ?_
          exact ih u4 v3 oI oR hw
      · have hw := hwf c6; clear hwt hwf
        refine z_lconst (v := 1) F dX6_likely_90 91 rfl rfl ?_
        refine z_goto F dX6_likely_91 127 rfl ?_
        refine z_lmul F dX6_likely_127 128 rfl ?_
        refine z_topl (fun u5 eu5 => ?_)
        replace hw := hw u5 eu5
        refine z_lstore (lv' := [(6, .long u5), (0, .ref (aO 0)), (1, .int x1), (2, .int x2), (3, .long y3), (5, .int x5), (8, .int x8)]) F dX6_likely_128 130 rfl (by decide) rfl ?_
        refine z_iinc F dX6_likely_130 133 rfl 6 rfl (by decide) zki_1 (fun v4 => [(8, .int v4), (6, .long u5), (0, .ref (aO 0)), (1, .int x1), (2, .int x2), (3, .long y3), (5, .int x5)]) (fun _ => rfl) (fun v4 ev4 => ?_)
        replace hw := hw v4 ev4
        refine z_goto F dX6_likely_133 70 rfl ?_
        refine z_lv (lv' := [(0, .ref (aO 0)), (1, .int x1), (2, .int x2), (3, .long y3), (5, .int x5), (6, .long u5), (8, .int v4)]) [2, 3, 4, 5, 6, 1, 0] rfl ?_
        exact ih u5 v4 oI oR hw
set_option maxHeartbeats 4000000 in
set_option maxRecDepth 100000 in
theorem xX6_likely_14 {C : zC} {D : va_G} {cyI cyB : ClassId} {aO : Nat → Nat} (x1 : Int32) (x2 : Int32) (F : zF C D { frames := 3, cells := 0, slots := 0, locals := 70 } cX6_likely 9 wsX6_likely RX6 (some .long) cyI cyB) {post : Int64 → (Nat → Int32) → (Nat → Nat → Int32) → Prop} (hRt : zRl C D cX6_likely 9 (S := ((Nat → Int32) × (Nat → Nat → Int32))) (fun u => (wMo aO cyI u.1 u.2)) (fun r u => post r u.1 u.2)) : ∀ (n : Nat) (y3 : Int64) (x5 : Int32) (oI : Nat → Int32) (oR : Nat → Nat → Int32), bX6_likely_14 x1 x2 post  n y3 x5 oI oR → zX C D 9 0 0 (wMo aO cyI oI oR) 14 [(0, .ref (aO 0)), (1, .int x1), (2, .int x2), (3, .long y3), (5, .int x5)] [] := by
  intro n
  induction n with
  | zero => intro _ _ _ _ hw; exact hw.elim
  | succ n ih =>
    intro y3 x5 oI oR hw
    refine z_iload F dX6_likely_14 16 rfl 4 rfl ?_
    refine z_iconst F dX6_likely_16 17 rfl zki_1 ?_
    refine z_aload_n F dX6_likely_17 18 rfl 0 rfl ?_
    refine z_get F dX6_likely_18 21 rfl kX6_likely_72 0 rfl rfl ?_
    refine z_ishl F dX6_likely_21 22 rfl ?_
    obtain ⟨hwt, hwf⟩ := hw
    refine z_icmpge F dX6_likely_22 147 rfl 25 rfl (fun c1 => ?_) (fun c1 => ?_)
    · have hw := hwt c1; clear hwt hwf
      refine z_lload_n F dX6_likely_147 148 rfl 3 rfl ?_
      exact hRt 148 _ y3 (oI, oR) dX6_likely_148 hw
    · have hw := hwf c1; clear hwt hwf
      refine z_iload F dX6_likely_25 27 rfl 4 rfl ?_
      refine z_iload_n F dX6_likely_27 28 rfl 2 rfl ?_
      refine z_iconst F dX6_likely_28 29 rfl zki_m1 ?_
      refine z_ixor F dX6_likely_29 30 rfl ?_
      refine z_iand F dX6_likely_30 31 rfl ?_
      obtain ⟨hwt, hwf⟩ := hw
      refine z_ifne F dX6_likely_31 141 rfl 34 rfl (fun c2 => ?_) (fun c2 => ?_)
      · have hw := hwt c2; clear hwt hwf
        refine z_iinc F dX6_likely_141 144 rfl 4 rfl (by decide) zki_1 (fun v1 => [(5, .int v1), (0, .ref (aO 0)), (1, .int x1), (2, .int x2), (3, .long y3)]) (fun _ => rfl) (fun v1 ev1 => ?_)
        replace hw := hw v1 ev1
        refine z_goto F dX6_likely_144 14 rfl ?_
        refine z_lv (lv' := [(0, .ref (aO 0)), (1, .int x1), (2, .int x2), (3, .long y3), (5, .int v1)]) [1, 2, 3, 4, 0] rfl ?_
        exact ih y3 v1 oI oR hw
      · have hw := hwf c2; clear hwt hwf
        refine z_iload_n F dX6_likely_34 35 rfl 1 rfl ?_
        obtain ⟨hwt, hwf⟩ := hw
        refine z_ifeq F dX6_likely_35 51 rfl 38 rfl (fun c3 => ?_) (fun c3 => ?_)
        · have hw := hwt c3; clear hwt hwf
          refine z_aload_n F dX6_likely_51 52 rfl 0 rfl ?_
          refine z_iload F dX6_likely_52 54 rfl 4 rfl ?_
          refine z_iload_n F dX6_likely_54 55 rfl 2 rfl ?_
          refine z_segVi (As := [.int x5, .int x2]) (st := []) F dX6_likely_55 58 rfl (mX6_losesIt C.1.2.1 D cyI cyB aO x5 x2 oI oR hw) y_X6_losesIt rfl gX6_likely_X6_losesIt rfl (ci := 6) (rq := 0) rfl rfl ⟨Nat.le_of_ble_eq_true rfl, Nat.le_of_ble_eq_true rfl⟩ ⟨Nat.zero_le _, Nat.zero_le _⟩ (Nat.le_of_ble_eq_true rfl) [] [] (by simp only [List.append_assoc, List.nil_append, List.append_nil]) (fun _ => rfl) (fun u => (wMo aO cyI oI oR)) (fun u => (by simp only [List.append_assoc, List.nil_append, List.append_nil])) (fun r0 u hp => ?_)
          obtain ⟨b1, rfl, hw⟩ := hp
          obtain ⟨hwt, hwf⟩ := hw
          refine z_ifneB F dX6_likely_58 64 rfl 61 rfl (fun c4 => ?_) (fun c4 => ?_)
          · have hw := hwt c4; clear hwt hwf
            refine z_lconst (v := 1) F dX6_likely_64 65 rfl rfl ?_
            refine z_topl (fun u2 eu2 => ?_)
            replace hw := hw u2 eu2
            refine z_lstore (lv' := [(6, .long u2), (0, .ref (aO 0)), (1, .int x1), (2, .int x2), (3, .long y3), (5, .int x5)]) F dX6_likely_65 67 rfl (by decide) rfl ?_
            refine z_iconst F dX6_likely_67 68 rfl zki_0 ?_
            refine z_istore (lv' := [(8, .int 0), (6, .long u2), (0, .ref (aO 0)), (1, .int x1), (2, .int x2), (3, .long y3), (5, .int x5)]) F dX6_likely_68 70 rfl (by decide) rfl ?_
            obtain ⟨n1, hw⟩ := hw
            refine z_lv (lv' := [(0, .ref (aO 0)), (1, .int x1), (2, .int x2), (3, .long y3), (5, .int x5), (6, .long u2), (8, .int 0)]) [2, 3, 4, 5, 6, 1, 0] rfl ?_
            refine xX6_likely_70 x1 x2 y3 x5 F hRt (fun w1 oI_2 oR_2 hw => ?_) n1 u2 0 oI oR hw
            refine z_lload_n F dX6_likely_136 137 rfl 3 rfl ?_
            refine z_lload F dX6_likely_137 139 rfl 5 rfl ?_
            refine z_ladd F dX6_likely_139 140 rfl ?_
            refine z_topl (fun u3 eu3 => ?_)
            replace hw := hw u3 eu3
            refine z_lstore_n (lv' := [(3, .long u3), (0, .ref (aO 0)), (1, .int x1), (2, .int x2), (5, .int x5), (6, .long w1)]) F dX6_likely_140 141 rfl (by decide) rfl ?_
            refine z_iinc F dX6_likely_141 144 rfl 4 rfl (by decide) zki_1 (fun v2 => [(5, .int v2), (3, .long u3), (0, .ref (aO 0)), (1, .int x1), (2, .int x2), (6, .long w1)]) (fun _ => rfl) (fun v2 ev2 => ?_)
            replace hw := hw v2 ev2
            refine z_goto F dX6_likely_144 14 rfl ?_
            refine z_lv (lv' := [(0, .ref (aO 0)), (1, .int x1), (2, .int x2), (3, .long u3), (5, .int v2)]) [2, 3, 4, 1, 0] rfl ?_
            exact ih u3 v2 oI_2 oR_2 hw
          · have hw := hwf c4; clear hwt hwf
            refine z_goto F dX6_likely_61 141 rfl ?_
            refine z_iinc F dX6_likely_141 144 rfl 4 rfl (by decide) zki_1 (fun v3 => [(5, .int v3), (0, .ref (aO 0)), (1, .int x1), (2, .int x2), (3, .long y3)]) (fun _ => rfl) (fun v3 ev3 => ?_)
            replace hw := hw v3 ev3
            refine z_goto F dX6_likely_144 14 rfl ?_
            refine z_lv (lv' := [(0, .ref (aO 0)), (1, .int x1), (2, .int x2), (3, .long y3), (5, .int v3)]) [1, 2, 3, 4, 0] rfl ?_
            exact ih y3 v3 oI oR hw
        · have hw := hwf c3; clear hwt hwf
          refine z_aload_n F dX6_likely_38 39 rfl 0 rfl ?_
          refine z_iload F dX6_likely_39 41 rfl 4 rfl ?_
          refine z_iload_n F dX6_likely_41 42 rfl 2 rfl ?_
          refine z_segVi (As := [.int x5, .int x2]) (st := []) F dX6_likely_42 45 rfl (mX6_carriesIt C.1.2.1 D cyI cyB aO x5 x2 oI oR hw) y_X6_carriesIt rfl gX6_likely_X6_carriesIt rfl (ci := 6) (rq := 0) rfl rfl ⟨Nat.le_of_ble_eq_true rfl, Nat.le_of_ble_eq_true rfl⟩ ⟨Nat.zero_le _, Nat.zero_le _⟩ (Nat.le_of_ble_eq_true rfl) [] [] (by simp only [List.append_assoc, List.nil_append, List.append_nil]) (fun _ => rfl) (fun u => (wMo aO cyI oI oR)) (fun u => (by simp only [List.append_assoc, List.nil_append, List.append_nil])) (fun r0 u hp => ?_)
          obtain ⟨b2, rfl, hw⟩ := hp
          obtain ⟨hwt, hwf⟩ := hw
          refine z_ifeqB F dX6_likely_45 141 rfl 48 rfl (fun c5 => ?_) (fun c5 => ?_)
          · have hw := hwt c5; clear hwt hwf
            refine z_iinc F dX6_likely_141 144 rfl 4 rfl (by decide) zki_1 (fun v4 => [(5, .int v4), (0, .ref (aO 0)), (1, .int x1), (2, .int x2), (3, .long y3)]) (fun _ => rfl) (fun v4 ev4 => ?_)
            replace hw := hw v4 ev4
            refine z_goto F dX6_likely_144 14 rfl ?_
            refine z_lv (lv' := [(0, .ref (aO 0)), (1, .int x1), (2, .int x2), (3, .long y3), (5, .int v4)]) [1, 2, 3, 4, 0] rfl ?_
            exact ih y3 v4 oI oR hw
          · have hw := hwf c5; clear hwt hwf
            refine z_goto F dX6_likely_48 64 rfl ?_
            refine z_lconst (v := 1) F dX6_likely_64 65 rfl rfl ?_
            refine z_topl (fun u4 eu4 => ?_)
            replace hw := hw u4 eu4
            refine z_lstore (lv' := [(6, .long u4), (0, .ref (aO 0)), (1, .int x1), (2, .int x2), (3, .long y3), (5, .int x5)]) F dX6_likely_65 67 rfl (by decide) rfl ?_
            refine z_iconst F dX6_likely_67 68 rfl zki_0 ?_
            refine z_istore (lv' := [(8, .int 0), (6, .long u4), (0, .ref (aO 0)), (1, .int x1), (2, .int x2), (3, .long y3), (5, .int x5)]) F dX6_likely_68 70 rfl (by decide) rfl ?_
            obtain ⟨n2, hw⟩ := hw
            refine z_lv (lv' := [(0, .ref (aO 0)), (1, .int x1), (2, .int x2), (3, .long y3), (5, .int x5), (6, .long u4), (8, .int 0)]) [2, 3, 4, 5, 6, 1, 0] rfl ?_
            refine xX6_likely_70 x1 x2 y3 x5 F hRt (fun w2 oI_3 oR_3 hw => ?_) n2 u4 0 oI oR hw
            refine z_lload_n F dX6_likely_136 137 rfl 3 rfl ?_
            refine z_lload F dX6_likely_137 139 rfl 5 rfl ?_
            refine z_ladd F dX6_likely_139 140 rfl ?_
            refine z_topl (fun u5 eu5 => ?_)
            replace hw := hw u5 eu5
            refine z_lstore_n (lv' := [(3, .long u5), (0, .ref (aO 0)), (1, .int x1), (2, .int x2), (5, .int x5), (6, .long w2)]) F dX6_likely_140 141 rfl (by decide) rfl ?_
            refine z_iinc F dX6_likely_141 144 rfl 4 rfl (by decide) zki_1 (fun v5 => [(5, .int v5), (3, .long u5), (0, .ref (aO 0)), (1, .int x1), (2, .int x2), (6, .long w2)]) (fun _ => rfl) (fun v5 ev5 => ?_)
            replace hw := hw v5 ev5
            refine z_goto F dX6_likely_144 14 rfl ?_
            refine z_lv (lv' := [(0, .ref (aO 0)), (1, .int x1), (2, .int x2), (3, .long u5), (5, .int v5)]) [2, 3, 4, 1, 0] rfl ?_
            exact ih u5 v5 oI_3 oR_3 hw
set_option maxHeartbeats 4000000 in
set_option maxRecDepth 100000 in
theorem xX6_likely_0 {C : zC} {D : va_G} {cyI cyB : ClassId} {aO : Nat → Nat} (z1 : Bool) (oI : Nat → Int32) (oR : Nat → Nat → Int32) (F : zF C D { frames := 3, cells := 0, slots := 0, locals := 70 } cX6_likely 9 wsX6_likely RX6 (some .long) cyI cyB) {post : Int64 → (Nat → Int32) → (Nat → Nat → Int32) → Prop} (hRt : zRl C D cX6_likely 9 (S := ((Nat → Int32) × (Nat → Nat → Int32))) (fun u => (wMo aO cyI u.1 u.2)) (fun r u => post r u.1 u.2)) (hw : pX6_likely z1 oI oR post) : zX C D 9 0 0 (wMo aO cyI oI oR) 0 [(0, .ref (aO 0)), (1, .int (zb z1))] [] := by
  refine z_aload_n F dX6_likely_0 1 rfl 0 rfl ?_
  refine z_segVv (As := []) (st := []) F dX6_likely_1 4 rfl (mX6_findKnown C.1.2.1 D cyI cyB aO oI oR hw) y_X6_findKnown rfl gX6_likely_X6_findKnown rfl (ci := 6) (rq := 0) rfl rfl ⟨Nat.le_of_ble_eq_true rfl, Nat.le_of_ble_eq_true rfl⟩ ⟨Nat.zero_le _, Nat.zero_le _⟩ (Nat.le_of_ble_eq_true rfl) [] [] (by simp only [List.append_assoc, List.nil_append, List.append_nil]) (fun _ => rfl) (fun u => (wMo aO cyI u.1 u.2)) (fun u => (by simp only [List.append_assoc, List.nil_append, List.append_nil])) (fun u hp => ?_)
  obtain ⟨oI_1, oR_1⟩ := u
  replace hw := hp
  clear hp
  refine z_aload_n F dX6_likely_4 5 rfl 0 rfl ?_
  refine z_segVi (As := []) (st := []) F dX6_likely_5 8 rfl (mX6_houseSet C.1.2.1 D cyI cyB aO oI_1 oR_1 hw) y_X6_houseSet rfl gX6_likely_X6_houseSet rfl (ci := 6) (rq := 0) rfl rfl ⟨Nat.le_of_ble_eq_true rfl, Nat.le_of_ble_eq_true rfl⟩ ⟨Nat.zero_le _, Nat.zero_le _⟩ (Nat.le_of_ble_eq_true rfl) [] [] (by simp only [List.append_assoc, List.nil_append, List.append_nil]) (fun _ => rfl) (fun u => (wMo aO cyI oI_1 oR_1)) (fun u => (by simp only [List.append_assoc, List.nil_append, List.append_nil])) (fun r1 u hp => ?_)
  replace hw := hp
  clear hp
  refine z_istore_n (lv' := [(2, .int r1), (0, .ref (aO 0)), (1, .int (zb z1))]) F dX6_likely_8 9 rfl (by decide) rfl ?_
  refine z_lconst (v := 0) F dX6_likely_9 10 rfl rfl ?_
  refine z_topl (fun u1 eu1 => ?_)
  replace hw := hw u1 eu1
  refine z_lstore_n (lv' := [(3, .long u1), (2, .int r1), (0, .ref (aO 0)), (1, .int (zb z1))]) F dX6_likely_10 11 rfl (by decide) rfl ?_
  refine z_iconst F dX6_likely_11 12 rfl zki_0 ?_
  refine z_istore (lv' := [(5, .int 0), (3, .long u1), (2, .int r1), (0, .ref (aO 0)), (1, .int (zb z1))]) F dX6_likely_12 14 rfl (by decide) rfl ?_
  obtain ⟨n1, hw⟩ := hw
  refine z_lv (lv' := [(0, .ref (aO 0)), (1, .int (zb z1)), (2, .int r1), (3, .long u1), (5, .int 0)]) [3, 4, 2, 1, 0] rfl ?_
  refine xX6_likely_14 (zb z1) r1 F hRt n1 u1 0 oI_1 oR_1 hw
set_option maxHeartbeats 4000000 in
set_option maxRecDepth 100000 in
theorem mX6_likely (l : Launch) (D : va_G) (cyI cyB : ClassId) (aO : Nat → Nat) (z1 : Bool) (oI : Nat → Int32) (oR : Nat → Nat → Int32) {post : Int64 → (Nat → Int32) → (Nat → Nat → Int32) → Prop} (hw : pX6_likely z1 oI oR post) : zMl l yX6_likely wsX6_likely 3 70 D cyI cyB [.ref (aO 0), .int (zb z1)] (wMo aO cyI oI oR) (S := ((Nat → Int32) × (Nat → Nat → Int32))) (fun u => (wMo aO cyI u.1 u.2)) (fun r u => post r u.1 u.2) :=
  z_metl (cc := cX6_likely) (nL := 9) (by decide +kernel) rfl (Nat.le_of_ble_eq_true rfl) (fun C hl F hRt => xX6_likely_0 z1 oI oR F hRt hw)
theorem y_X6_likely : zY yX6_likely wsX6_likely cX6_likely 9 (some .long) 1 := ⟨⟨_, rfl⟩, by decide +kernel⟩
set_option maxHeartbeats 4000000 in
set_option maxRecDepth 100000 in
theorem xX6_loses_0 {C : zC} {D : va_G} {cyI cyB : ClassId} {aO : Nat → Nat} (oI : Nat → Int32) (oR : Nat → Nat → Int32) (F : zF C D { frames := 4, cells := 0, slots := 0, locals := 98 } cX6_loses 1 wsX6_loses RX6 (some .long) cyI cyB) {post : Int64 → (Nat → Int32) → (Nat → Nat → Int32) → Prop} (hRt : zRl C D cX6_loses 1 (S := ((Nat → Int32) × (Nat → Nat → Int32))) (fun u => (wMo aO cyI u.1 u.2)) (fun r u => post r u.1 u.2)) (hw : pX6_loses oI oR post) : zX C D 1 0 0 (wMo aO cyI oI oR) 0 [(0, .ref (aO 0))] [] := by
  refine z_aload_n F dX6_loses_0 1 rfl 0 rfl ?_
  refine z_iconst F dX6_loses_1 2 rfl zki_0 ?_
  refine z_segVl (As := [.int 0]) (st := []) F dX6_loses_2 5 rfl (mX6_likely C.1.2.1 D cyI cyB aO false oI oR hw) y_X6_likely rfl gX6_loses_X6_likely rfl (ci := 6) (rq := 0) rfl rfl ⟨Nat.le_of_ble_eq_true rfl, Nat.le_of_ble_eq_true rfl⟩ ⟨Nat.zero_le _, Nat.zero_le _⟩ (Nat.le_of_ble_eq_true rfl) [] [] (by simp only [List.append_assoc, List.nil_append, List.append_nil]) (fun _ => rfl) (fun u => (wMo aO cyI u.1 u.2)) (fun u => (by simp only [List.append_assoc, List.nil_append, List.append_nil])) (fun r1 u hp => ?_)
  obtain ⟨oI_1, oR_1⟩ := u
  replace hw := hp
  clear hp
  exact hRt 5 _ r1 (oI_1, oR_1) dX6_loses_5 hw
set_option maxHeartbeats 4000000 in
set_option maxRecDepth 100000 in
theorem mX6_loses (l : Launch) (D : va_G) (cyI cyB : ClassId) (aO : Nat → Nat) (oI : Nat → Int32) (oR : Nat → Nat → Int32) {post : Int64 → (Nat → Int32) → (Nat → Nat → Int32) → Prop} (hw : pX6_loses oI oR post) : zMl l yX6_loses wsX6_loses 4 98 D cyI cyB [.ref (aO 0)] (wMo aO cyI oI oR) (S := ((Nat → Int32) × (Nat → Nat → Int32))) (fun u => (wMo aO cyI u.1 u.2)) (fun r u => post r u.1 u.2) :=
  z_metl (cc := cX6_loses) (nL := 1) (by decide +kernel) rfl (Nat.le_of_ble_eq_true rfl) (fun C hl F hRt => xX6_loses_0 oI oR F hRt hw)
theorem y_X6_loses : zY yX6_loses wsX6_loses cX6_loses 1 (some .long) 0 := ⟨⟨_, rfl⟩, by decide +kernel⟩
set_option maxHeartbeats 4000000 in
set_option maxRecDepth 100000 in
theorem xX6_carries_0 {C : zC} {D : va_G} {cyI cyB : ClassId} {aO : Nat → Nat} (oI : Nat → Int32) (oR : Nat → Nat → Int32) (F : zF C D { frames := 4, cells := 0, slots := 0, locals := 98 } cX6_carries 1 wsX6_carries RX6 (some .long) cyI cyB) {post : Int64 → (Nat → Int32) → (Nat → Nat → Int32) → Prop} (hRt : zRl C D cX6_carries 1 (S := ((Nat → Int32) × (Nat → Nat → Int32))) (fun u => (wMo aO cyI u.1 u.2)) (fun r u => post r u.1 u.2)) (hw : pX6_carries oI oR post) : zX C D 1 0 0 (wMo aO cyI oI oR) 0 [(0, .ref (aO 0))] [] := by
  refine z_aload_n F dX6_carries_0 1 rfl 0 rfl ?_
  refine z_iconst F dX6_carries_1 2 rfl zki_1 ?_
  refine z_segVl (As := [.int 1]) (st := []) F dX6_carries_2 5 rfl (mX6_likely C.1.2.1 D cyI cyB aO true oI oR hw) y_X6_likely rfl gX6_carries_X6_likely rfl (ci := 6) (rq := 0) rfl rfl ⟨Nat.le_of_ble_eq_true rfl, Nat.le_of_ble_eq_true rfl⟩ ⟨Nat.zero_le _, Nat.zero_le _⟩ (Nat.le_of_ble_eq_true rfl) [] [] (by simp only [List.append_assoc, List.nil_append, List.append_nil]) (fun _ => rfl) (fun u => (wMo aO cyI u.1 u.2)) (fun u => (by simp only [List.append_assoc, List.nil_append, List.append_nil])) (fun r1 u hp => ?_)
  obtain ⟨oI_1, oR_1⟩ := u
  replace hw := hp
  clear hp
  exact hRt 5 _ r1 (oI_1, oR_1) dX6_carries_5 hw
set_option maxHeartbeats 4000000 in
set_option maxRecDepth 100000 in
theorem mX6_carries (l : Launch) (D : va_G) (cyI cyB : ClassId) (aO : Nat → Nat) (oI : Nat → Int32) (oR : Nat → Nat → Int32) {post : Int64 → (Nat → Int32) → (Nat → Nat → Int32) → Prop} (hw : pX6_carries oI oR post) : zMl l yX6_carries wsX6_carries 4 98 D cyI cyB [.ref (aO 0)] (wMo aO cyI oI oR) (S := ((Nat → Int32) × (Nat → Nat → Int32))) (fun u => (wMo aO cyI u.1 u.2)) (fun r u => post r u.1 u.2) :=
  z_metl (cc := cX6_carries) (nL := 1) (by decide +kernel) rfl (Nat.le_of_ble_eq_true rfl) (fun C hl F hRt => xX6_carries_0 oI oR F hRt hw)
theorem y_X6_carries : zY yX6_carries wsX6_carries cX6_carries 1 (some .long) 0 := ⟨⟨_, rfl⟩, by decide +kernel⟩
