set_option maxHeartbeats 4000000 in
set_option maxRecDepth 100000 in
theorem xX6_isIn_0 {C : zC} {D : va_G} {cyI cyB : ClassId} (x0 : Int32) (x1 : Int32) (x2 : Int32) (F : zF C D { frames := 0, cells := 0, slots := 0, locals := 0 } cX6_isIn 3 wsX6_isIn RX6 (some .boolean) cyI cyB) {post : Bool → Prop} (hRt : zRz C D cX6_isIn 3 (S := (Unit)) (fun u => ([] : va_W)) (fun r u => ∃ b : Bool, r = zb b ∧ post b )) (hw : pX6_isIn x0 x1 x2 post) : zX C D 3 0 0 ([] : va_W) 0 [(0, .int x0), (1, .int x1), (2, .int x2)] [] := by
  refine z_iload_n F dX6_isIn_0 1 rfl 0 rfl ?_
  refine z_iload_n F dX6_isIn_1 2 rfl 1 rfl ?_
  obtain ⟨hwt, hwf⟩ := hw
  refine z_icmplt F dX6_isIn_2 14 rfl 5 rfl (fun c1 => ?_) (fun c1 => ?_)
  · have hw := hwt c1; clear hwt hwf
    refine z_iconst F dX6_isIn_14 15 rfl zki_0 ?_
    exact hRt 15 _ false () dX6_isIn_15 ⟨false, rfl, hw⟩
  · have hw := hwf c1; clear hwt hwf
    refine z_iload_n F dX6_isIn_5 6 rfl 0 rfl ?_
    refine z_iload_n F dX6_isIn_6 7 rfl 2 rfl ?_
    obtain ⟨hwt, hwf⟩ := hw
    refine z_icmpgt F dX6_isIn_7 14 rfl 10 rfl (fun c2 => ?_) (fun c2 => ?_)
    · have hw := hwt c2; clear hwt hwf
      refine z_iconst F dX6_isIn_14 15 rfl zki_0 ?_
      exact hRt 15 _ false () dX6_isIn_15 ⟨false, rfl, hw⟩
    · have hw := hwf c2; clear hwt hwf
      refine z_iconst F dX6_isIn_10 11 rfl zki_1 ?_
      refine z_goto F dX6_isIn_11 15 rfl ?_
      exact hRt 15 _ true () dX6_isIn_15 ⟨true, rfl, hw⟩
set_option maxHeartbeats 4000000 in
set_option maxRecDepth 100000 in
theorem mX6_isIn (l : Launch) (D : va_G) (cyI cyB : ClassId) (x0 : Int32) (x1 : Int32) (x2 : Int32) {post : Bool → Prop} (hw : pX6_isIn x0 x1 x2 post) : zMi l yX6_isIn wsX6_isIn 0 0 D cyI cyB [.int x0, .int x1, .int x2] ([] : va_W) (S := (Unit)) (fun u => ([] : va_W)) (fun r u => ∃ b : Bool, r = zb b ∧ post b ) :=
  z_metz (cc := cX6_isIn) (nL := 3) (by decide +kernel) rfl (Nat.le_of_ble_eq_true rfl) (fun C hl F hRt => xX6_isIn_0 x0 x1 x2 F hRt hw)
theorem y_X6_isIn : zY yX6_isIn wsX6_isIn cX6_isIn 3 (some .boolean) 3 := ⟨⟨_, rfl⟩, by decide +kernel⟩
set_option maxHeartbeats 4000000 in
set_option maxRecDepth 100000 in
theorem xX6_bound_0 {C : zC} {D : va_G} {cyI cyB : ClassId} (x0 : Int32) (x1 : Int32) (x2 : Int32) (F : zF C D { frames := 0, cells := 0, slots := 0, locals := 0 } cX6_bound 3 wsX6_bound RX6 (some .int) cyI cyB) {post : Int32 → Prop} (hRt : zRi C D cX6_bound 3 (S := (Unit)) (fun u => ([] : va_W)) (fun r u => post r )) (hw : pX6_bound x0 x1 x2 post) : zX C D 3 0 0 ([] : va_W) 0 [(0, .int x0), (1, .int x1), (2, .int x2)] [] := by
  refine z_iload_n F dX6_bound_0 1 rfl 0 rfl ?_
  refine z_iload_n F dX6_bound_1 2 rfl 1 rfl ?_
  obtain ⟨hwt, hwf⟩ := hw
  refine z_icmpge F dX6_bound_2 10 rfl 5 rfl (fun c1 => ?_) (fun c1 => ?_)
  · have hw := hwt c1; clear hwt hwf
    refine z_iload_n F dX6_bound_10 11 rfl 0 rfl ?_
    refine z_iload_n F dX6_bound_11 12 rfl 2 rfl ?_
    obtain ⟨hwt, hwf⟩ := hw
    refine z_icmple F dX6_bound_12 20 rfl 15 rfl (fun c2 => ?_) (fun c2 => ?_)
    · have hw := hwt c2; clear hwt hwf
      refine z_iconst F dX6_bound_20 21 rfl zki_0 ?_
      exact hRt 21 _ 0 () dX6_bound_21 hw
    · have hw := hwf c2; clear hwt hwf
      refine z_bipush F dX6_bound_15 17 rfl zkb_m6 ?_
      refine z_goto F dX6_bound_17 21 rfl ?_
      exact hRt 21 _ (-6) () dX6_bound_21 hw
  · have hw := hwf c1; clear hwt hwf
    refine z_bipush F dX6_bound_5 7 rfl zkb_m4 ?_
    refine z_goto F dX6_bound_7 21 rfl ?_
    exact hRt 21 _ (-4) () dX6_bound_21 hw
set_option maxHeartbeats 4000000 in
set_option maxRecDepth 100000 in
theorem mX6_bound (l : Launch) (D : va_G) (cyI cyB : ClassId) (x0 : Int32) (x1 : Int32) (x2 : Int32) {post : Int32 → Prop} (hw : pX6_bound x0 x1 x2 post) : zMi l yX6_bound wsX6_bound 0 0 D cyI cyB [.int x0, .int x1, .int x2] ([] : va_W) (S := (Unit)) (fun u => ([] : va_W)) (fun r u => post r ) :=
  z_meti (cc := cX6_bound) (nL := 3) (by decide +kernel) rfl (Nat.le_of_ble_eq_true rfl) (fun C hl F hRt => xX6_bound_0 x0 x1 x2 F hRt hw)
theorem y_X6_bound : zY yX6_bound wsX6_bound cX6_bound 3 (some .int) 3 := ⟨⟨_, rfl⟩, by decide +kernel⟩
set_option maxHeartbeats 4000000 in
set_option maxRecDepth 100000 in
theorem xX6_bits_4 {C : zC} {D : va_G} {cyI cyB : ClassId} (x0 : Int32) (F : zF C D { frames := 0, cells := 0, slots := 0, locals := 0 } cX6_bits 3 wsX6_bits RX6 (some .int) cyI cyB) {post : Int32 → Prop} (hRt : zRi C D cX6_bits 3 (S := (Unit)) (fun u => ([] : va_W)) (fun r u => post r )) : ∀ (n : Nat) (x1 : Int32) (x2 : Int32), bX6_bits_4 x0 post  n x1 x2 → zX C D 3 0 0 ([] : va_W) 4 [(0, .int x0), (1, .int x1), (2, .int x2)] [] := by
  intro n
  induction n with
  | zero => intro _ _ hw; exact hw.elim
  | succ n ih =>
    intro x1 x2 hw
    refine z_iload_n F dX6_bits_4 5 rfl 2 rfl ?_
    refine z_bipush F dX6_bits_5 7 rfl zkb_31 ?_
    obtain ⟨hwt, hwf⟩ := hw
    refine z_icmpge F dX6_bits_7 24 rfl 10 rfl (fun c1 => ?_) (fun c1 => ?_)
    · have hw := hwt c1; clear hwt hwf
      refine z_iload_n F dX6_bits_24 25 rfl 1 rfl ?_
      exact hRt 25 _ x1 () dX6_bits_25 hw
    · have hw := hwf c1; clear hwt hwf
      refine z_iload_n F dX6_bits_10 11 rfl 1 rfl ?_
      refine z_iload_n F dX6_bits_11 12 rfl 0 rfl ?_
      refine z_iload_n F dX6_bits_12 13 rfl 2 rfl ?_
      refine z_ishr F dX6_bits_13 14 rfl ?_
      refine z_iconst F dX6_bits_14 15 rfl zki_1 ?_
      refine z_iand F dX6_bits_15 16 rfl ?_
      refine z_iadd F dX6_bits_16 17 rfl ?_
      refine z_topi (fun v1 ev1 => ?_)
      replace hw := hw v1 ev1
      refine z_istore_n (lv' := [(1, .int v1), (0, .int x0), (2, .int x2)]) F dX6_bits_17 18 rfl (by decide) rfl ?_
      refine z_iinc F dX6_bits_18 21 rfl 2 rfl (by decide) zki_1 (fun v2 => [(2, .int v2), (1, .int v1), (0, .int x0)]) (fun _ => rfl) (fun v2 ev2 => ?_)
      replace hw := hw v2 ev2
      refine z_goto F dX6_bits_21 4 rfl ?_
      refine z_lv (lv' := [(0, .int x0), (1, .int v1), (2, .int v2)]) [2, 1, 0] rfl ?_
      exact ih v1 v2 hw
set_option maxHeartbeats 4000000 in
set_option maxRecDepth 100000 in
theorem xX6_bits_0 {C : zC} {D : va_G} {cyI cyB : ClassId} (x0 : Int32) (F : zF C D { frames := 0, cells := 0, slots := 0, locals := 0 } cX6_bits 3 wsX6_bits RX6 (some .int) cyI cyB) {post : Int32 → Prop} (hRt : zRi C D cX6_bits 3 (S := (Unit)) (fun u => ([] : va_W)) (fun r u => post r )) (hw : pX6_bits x0 post) : zX C D 3 0 0 ([] : va_W) 0 [(0, .int x0)] [] := by
  refine z_iconst F dX6_bits_0 1 rfl zki_0 ?_
  refine z_istore_n (lv' := [(1, .int 0), (0, .int x0)]) F dX6_bits_1 2 rfl (by decide) rfl ?_
  refine z_iconst F dX6_bits_2 3 rfl zki_0 ?_
  refine z_istore_n (lv' := [(2, .int 0), (1, .int 0), (0, .int x0)]) F dX6_bits_3 4 rfl (by decide) rfl ?_
  obtain ⟨n1, hw⟩ := hw
  refine z_lv (lv' := [(0, .int x0), (1, .int 0), (2, .int 0)]) [2, 1, 0] rfl ?_
  refine xX6_bits_4 x0 F hRt n1 0 0 hw
set_option maxHeartbeats 4000000 in
set_option maxRecDepth 100000 in
theorem mX6_bits (l : Launch) (D : va_G) (cyI cyB : ClassId) (x0 : Int32) {post : Int32 → Prop} (hw : pX6_bits x0 post) : zMi l yX6_bits wsX6_bits 0 0 D cyI cyB [.int x0] ([] : va_W) (S := (Unit)) (fun u => ([] : va_W)) (fun r u => post r ) :=
  z_meti (cc := cX6_bits) (nL := 3) (by decide +kernel) rfl (Nat.le_of_ble_eq_true rfl) (fun C hl F hRt => xX6_bits_0 x0 F hRt hw)
theorem y_X6_bits : zY yX6_bits wsX6_bits cX6_bits 3 (some .int) 1 := ⟨⟨_, rfl⟩, by decide +kernel⟩
set_option maxHeartbeats 4000000 in
set_option maxRecDepth 100000 in
theorem xX6_notTwo_0 {C : zC} {D : va_G} {cyI cyB : ClassId} (x0 : Int32) (x1 : Int32) (F : zF C D { frames := 0, cells := 0, slots := 0, locals := 0 } cX6_notTwo 2 wsX6_notTwo RX6 (some .int) cyI cyB) {post : Int32 → Prop} (hRt : zRi C D cX6_notTwo 2 (S := (Unit)) (fun u => ([] : va_W)) (fun r u => post r )) (hw : pX6_notTwo x0 x1 post) : zX C D 2 0 0 ([] : va_W) 0 [(0, .int x0), (1, .int x1)] [] := by
  refine z_iload_n F dX6_notTwo_0 1 rfl 0 rfl ?_
  obtain ⟨hwt, hwf⟩ := hw
  refine z_iflt F dX6_notTwo_1 8 rfl 4 rfl (fun c1 => ?_) (fun c1 => ?_)
  · have hw := hwt c1; clear hwt hwf
    refine z_bipush F dX6_notTwo_8 10 rfl zkb_m4 ?_
    refine z_goto F dX6_notTwo_10 31 rfl ?_
    exact hRt 31 _ (-4) () dX6_notTwo_31 hw
  · have hw := hwf c1; clear hwt hwf
    refine z_iload_n F dX6_notTwo_4 5 rfl 1 rfl ?_
    obtain ⟨hwt, hwf⟩ := hw
    refine z_ifge F dX6_notTwo_5 13 rfl 8 rfl (fun c2 => ?_) (fun c2 => ?_)
    · have hw := hwt c2; clear hwt hwf
      refine z_iload_n F dX6_notTwo_13 14 rfl 0 rfl ?_
      refine z_bipush F dX6_notTwo_14 16 rfl zkb_8 ?_
      obtain ⟨hwt, hwf⟩ := hw
      refine z_icmpgt F dX6_notTwo_16 25 rfl 19 rfl (fun c3 => ?_) (fun c3 => ?_)
      · have hw := hwt c3; clear hwt hwf
        refine z_bipush F dX6_notTwo_25 27 rfl zkb_m6 ?_
        refine z_goto F dX6_notTwo_27 31 rfl ?_
        exact hRt 31 _ (-6) () dX6_notTwo_31 hw
      · have hw := hwf c3; clear hwt hwf
        refine z_iload_n F dX6_notTwo_19 20 rfl 1 rfl ?_
        refine z_bipush F dX6_notTwo_20 22 rfl zkb_8 ?_
        obtain ⟨hwt, hwf⟩ := hw
        refine z_icmple F dX6_notTwo_22 30 rfl 25 rfl (fun c4 => ?_) (fun c4 => ?_)
        · have hw := hwt c4; clear hwt hwf
          refine z_iconst F dX6_notTwo_30 31 rfl zki_0 ?_
          exact hRt 31 _ 0 () dX6_notTwo_31 hw
        · have hw := hwf c4; clear hwt hwf
          refine z_bipush F dX6_notTwo_25 27 rfl zkb_m6 ?_
          refine z_goto F dX6_notTwo_27 31 rfl ?_
          exact hRt 31 _ (-6) () dX6_notTwo_31 hw
    · have hw := hwf c2; clear hwt hwf
      refine z_bipush F dX6_notTwo_8 10 rfl zkb_m4 ?_
      refine z_goto F dX6_notTwo_10 31 rfl ?_
      exact hRt 31 _ (-4) () dX6_notTwo_31 hw
set_option maxHeartbeats 4000000 in
set_option maxRecDepth 100000 in
theorem mX6_notTwo (l : Launch) (D : va_G) (cyI cyB : ClassId) (x0 : Int32) (x1 : Int32) {post : Int32 → Prop} (hw : pX6_notTwo x0 x1 post) : zMi l yX6_notTwo wsX6_notTwo 0 0 D cyI cyB [.int x0, .int x1] ([] : va_W) (S := (Unit)) (fun u => ([] : va_W)) (fun r u => post r ) :=
  z_meti (cc := cX6_notTwo) (nL := 2) (by decide +kernel) rfl (Nat.le_of_ble_eq_true rfl) (fun C hl F hRt => xX6_notTwo_0 x0 x1 F hRt hw)
theorem y_X6_notTwo : zY yX6_notTwo wsX6_notTwo cX6_notTwo 2 (some .int) 2 := ⟨⟨_, rfl⟩, by decide +kernel⟩
theorem iX6_all_6 : ∀ w ∈ wsX60, w ∈ wsX6_all := fun w h => List.mem_cons_of_mem _ (List.mem_append_right _ h)
theorem kX6_all_40 : zL wsX6_all RX6 40 6 10 .int false := zL6 iX6_all_6 (by decide) (List.mem_of_getElem? (i := 1) rfl) rfl rfl
set_option maxHeartbeats 4000000 in
set_option maxRecDepth 100000 in
theorem xX6_all_0 {C : zC} {D : va_G} {cyI cyB : ClassId} {aO : Nat → Nat} (oI : Nat → Int32) (oR : Nat → Nat → Int32) (F : zF C D { frames := 0, cells := 0, slots := 0, locals := 0 } cX6_all 1 wsX6_all RX6 (some .int) cyI cyB) {post : Int32 → Prop} (hRt : zRi C D cX6_all 1 (S := (Unit)) (fun u => (wMo aO cyI oI oR)) (fun r u => post r )) (hw : pX6_all oI oR post) : zX C D 1 0 0 (wMo aO cyI oI oR) 0 [(0, .ref (aO 0))] [] := by
  refine z_iconst F dX6_all_0 1 rfl zki_1 ?_
  refine z_aload_n F dX6_all_1 2 rfl 0 rfl ?_
  refine z_get F dX6_all_2 5 rfl kX6_all_40 0 rfl rfl ?_
  refine z_ishl F dX6_all_5 6 rfl ?_
  refine z_iconst F dX6_all_6 7 rfl zki_1 ?_
  refine z_isub F dX6_all_7 8 rfl ?_
  exact hRt 8 _ ((1 <<< ((oI 10) &&& 31)) - 1) () dX6_all_8 hw
set_option maxHeartbeats 4000000 in
set_option maxRecDepth 100000 in
theorem mX6_all (l : Launch) (D : va_G) (cyI cyB : ClassId) (aO : Nat → Nat) (oI : Nat → Int32) (oR : Nat → Nat → Int32) {post : Int32 → Prop} (hw : pX6_all oI oR post) : zMi l yX6_all wsX6_all 0 0 D cyI cyB [.ref (aO 0)] (wMo aO cyI oI oR) (S := (Unit)) (fun u => (wMo aO cyI oI oR)) (fun r u => post r ) :=
  z_meti (cc := cX6_all) (nL := 1) (by decide +kernel) rfl (Nat.le_of_ble_eq_true rfl) (fun C hl F hRt => xX6_all_0 oI oR F hRt hw)
theorem y_X6_all : zY yX6_all wsX6_all cX6_all 1 (some .int) 0 := ⟨⟨_, rfl⟩, by decide +kernel⟩
set_option maxHeartbeats 4000000 in
set_option maxRecDepth 100000 in
theorem xX6_isSet_0 {C : zC} {D : va_G} {cyI cyB : ClassId} {aO : Nat → Nat} (x1 : Int32) (oI : Nat → Int32) (oR : Nat → Nat → Int32) (F : zF C D { frames := 1, cells := 0, slots := 0, locals := 20 } cX6_isSet 2 wsX6_isSet RX6 (some .boolean) cyI cyB) {post : Bool → Prop} (hRt : zRz C D cX6_isSet 2 (S := (Unit)) (fun u => (wMo aO cyI oI oR)) (fun r u => ∃ b : Bool, r = zb b ∧ post b )) (hw : pX6_isSet x1 oI oR post) : zX C D 2 0 0 (wMo aO cyI oI oR) 0 [(0, .ref (aO 0)), (1, .int x1)] [] := by
  refine z_iload_n F dX6_isSet_0 1 rfl 1 rfl ?_
  obtain ⟨hwt, hwf⟩ := hw
  refine z_iflt F dX6_isSet_1 19 rfl 4 rfl (fun c1 => ?_) (fun c1 => ?_)
  · have hw := hwt c1; clear hwt hwf
    refine z_iconst F dX6_isSet_19 20 rfl zki_0 ?_
    exact hRt 20 _ false () dX6_isSet_20 ⟨false, rfl, hw⟩
  · have hw := hwf c1; clear hwt hwf
    refine z_iload_n F dX6_isSet_4 5 rfl 1 rfl ?_
    refine z_aload_n F dX6_isSet_5 6 rfl 0 rfl ?_
    refine z_segVi (As := []) (st := [.int x1]) F dX6_isSet_6 9 rfl (mX6_all C.1.2.1 D cyI cyB aO oI oR hw) y_X6_all rfl gX6_isSet_X6_all rfl (ci := 6) (rq := 0) rfl rfl ⟨Nat.le_of_ble_eq_true rfl, Nat.le_of_ble_eq_true rfl⟩ ⟨Nat.zero_le _, Nat.zero_le _⟩ (Nat.le_of_ble_eq_true rfl) [] [] (by simp only [List.append_assoc, List.nil_append, List.append_nil]) (fun _ => rfl) (fun u => (wMo aO cyI oI oR)) (fun u => (by simp only [List.append_assoc, List.nil_append, List.append_nil])) (fun r1 u hp => ?_)
    replace hw := hp
    clear hp
    refine z_iconst F dX6_isSet_9 10 rfl zki_m1 ?_
    refine z_ixor F dX6_isSet_10 11 rfl ?_
    refine z_iand F dX6_isSet_11 12 rfl ?_
    obtain ⟨hwt, hwf⟩ := hw
    refine z_ifne F dX6_isSet_12 19 rfl 15 rfl (fun c2 => ?_) (fun c2 => ?_)
    · have hw := hwt c2; clear hwt hwf
      refine z_iconst F dX6_isSet_19 20 rfl zki_0 ?_
      exact hRt 20 _ false () dX6_isSet_20 ⟨false, rfl, hw⟩
    · have hw := hwf c2; clear hwt hwf
      refine z_iconst F dX6_isSet_15 16 rfl zki_1 ?_
      refine z_goto F dX6_isSet_16 20 rfl ?_
      exact hRt 20 _ true () dX6_isSet_20 ⟨true, rfl, hw⟩
set_option maxHeartbeats 4000000 in
set_option maxRecDepth 100000 in
theorem mX6_isSet (l : Launch) (D : va_G) (cyI cyB : ClassId) (aO : Nat → Nat) (x1 : Int32) (oI : Nat → Int32) (oR : Nat → Nat → Int32) {post : Bool → Prop} (hw : pX6_isSet x1 oI oR post) : zMi l yX6_isSet wsX6_isSet 1 20 D cyI cyB [.ref (aO 0), .int x1] (wMo aO cyI oI oR) (S := (Unit)) (fun u => (wMo aO cyI oI oR)) (fun r u => ∃ b : Bool, r = zb b ∧ post b ) :=
  z_metz (cc := cX6_isSet) (nL := 2) (by decide +kernel) rfl (Nat.le_of_ble_eq_true rfl) (fun C hl F hRt => xX6_isSet_0 x1 oI oR F hRt hw)
theorem y_X6_isSet : zY yX6_isSet wsX6_isSet cX6_isSet 2 (some .boolean) 1 := ⟨⟨_, rfl⟩, by decide +kernel⟩
theorem iX6_isHand_6 : ∀ w ∈ wsX60, w ∈ wsX6_isHand := fun w h => List.mem_cons_of_mem _ (List.mem_append_right _ h)
theorem kX6_isHand_72 : zL wsX6_isHand RX6 72 6 11 .int false := zL6 iX6_isHand_6 (by decide) (List.mem_of_getElem? (i := 1) rfl) rfl rfl
set_option maxHeartbeats 4000000 in
set_option maxRecDepth 100000 in
theorem xX6_isHand_0 {C : zC} {D : va_G} {cyI cyB : ClassId} {aO : Nat → Nat} (x1 : Int32) (oI : Nat → Int32) (oR : Nat → Nat → Int32) (F : zF C D { frames := 0, cells := 0, slots := 0, locals := 0 } cX6_isHand 2 wsX6_isHand RX6 (some .boolean) cyI cyB) {post : Bool → Prop} (hRt : zRz C D cX6_isHand 2 (S := (Unit)) (fun u => (wMo aO cyI oI oR)) (fun r u => ∃ b : Bool, r = zb b ∧ post b )) (hw : pX6_isHand x1 oI oR post) : zX C D 2 0 0 (wMo aO cyI oI oR) 0 [(0, .ref (aO 0)), (1, .int x1)] [] := by
  refine z_iload_n F dX6_isHand_0 1 rfl 1 rfl ?_
  obtain ⟨hwt, hwf⟩ := hw
  refine z_iflt F dX6_isHand_1 16 rfl 4 rfl (fun c1 => ?_) (fun c1 => ?_)
  · have hw := hwt c1; clear hwt hwf
    refine z_iconst F dX6_isHand_16 17 rfl zki_0 ?_
    exact hRt 17 _ false () dX6_isHand_17 ⟨false, rfl, hw⟩
  · have hw := hwf c1; clear hwt hwf
    refine z_iload_n F dX6_isHand_4 5 rfl 1 rfl ?_
    refine z_aload_n F dX6_isHand_5 6 rfl 0 rfl ?_
    refine z_get F dX6_isHand_6 9 rfl kX6_isHand_72 0 rfl rfl ?_
    obtain ⟨hwt, hwf⟩ := hw
    refine z_icmpge F dX6_isHand_9 16 rfl 12 rfl (fun c2 => ?_) (fun c2 => ?_)
    · have hw := hwt c2; clear hwt hwf
      refine z_iconst F dX6_isHand_16 17 rfl zki_0 ?_
      exact hRt 17 _ false () dX6_isHand_17 ⟨false, rfl, hw⟩
    · have hw := hwf c2; clear hwt hwf
      refine z_iconst F dX6_isHand_12 13 rfl zki_1 ?_
      refine z_goto F dX6_isHand_13 17 rfl ?_
      exact hRt 17 _ true () dX6_isHand_17 ⟨true, rfl, hw⟩
set_option maxHeartbeats 4000000 in
set_option maxRecDepth 100000 in
theorem mX6_isHand (l : Launch) (D : va_G) (cyI cyB : ClassId) (aO : Nat → Nat) (x1 : Int32) (oI : Nat → Int32) (oR : Nat → Nat → Int32) {post : Bool → Prop} (hw : pX6_isHand x1 oI oR post) : zMi l yX6_isHand wsX6_isHand 0 0 D cyI cyB [.ref (aO 0), .int x1] (wMo aO cyI oI oR) (S := (Unit)) (fun u => (wMo aO cyI oI oR)) (fun r u => ∃ b : Bool, r = zb b ∧ post b ) :=
  z_metz (cc := cX6_isHand) (nL := 2) (by decide +kernel) rfl (Nat.le_of_ble_eq_true rfl) (fun C hl F hRt => xX6_isHand_0 x1 oI oR F hRt hw)
theorem y_X6_isHand : zY yX6_isHand wsX6_isHand cX6_isHand 2 (some .boolean) 1 := ⟨⟨_, rfl⟩, by decide +kernel⟩
theorem iX6_isStep_6 : ∀ w ∈ wsX60, w ∈ wsX6_isStep := fun w h => List.mem_cons_of_mem _ (List.mem_append_right _ h)
theorem kX6_isStep_40 : zL wsX6_isStep RX6 40 6 10 .int false := zL6 iX6_isStep_6 (by decide) (List.mem_of_getElem? (i := 1) rfl) rfl rfl
set_option maxHeartbeats 4000000 in
set_option maxRecDepth 100000 in
theorem xX6_isStep_0 {C : zC} {D : va_G} {cyI cyB : ClassId} {aO : Nat → Nat} (x1 : Int32) (oI : Nat → Int32) (oR : Nat → Nat → Int32) (F : zF C D { frames := 0, cells := 0, slots := 0, locals := 0 } cX6_isStep 2 wsX6_isStep RX6 (some .boolean) cyI cyB) {post : Bool → Prop} (hRt : zRz C D cX6_isStep 2 (S := (Unit)) (fun u => (wMo aO cyI oI oR)) (fun r u => ∃ b : Bool, r = zb b ∧ post b )) (hw : pX6_isStep x1 oI oR post) : zX C D 2 0 0 (wMo aO cyI oI oR) 0 [(0, .ref (aO 0)), (1, .int x1)] [] := by
  refine z_iload_n F dX6_isStep_0 1 rfl 1 rfl ?_
  obtain ⟨hwt, hwf⟩ := hw
  refine z_iflt F dX6_isStep_1 16 rfl 4 rfl (fun c1 => ?_) (fun c1 => ?_)
  · have hw := hwt c1; clear hwt hwf
    refine z_iconst F dX6_isStep_16 17 rfl zki_0 ?_
    exact hRt 17 _ false () dX6_isStep_17 ⟨false, rfl, hw⟩
  · have hw := hwf c1; clear hwt hwf
    refine z_iload_n F dX6_isStep_4 5 rfl 1 rfl ?_
    refine z_aload_n F dX6_isStep_5 6 rfl 0 rfl ?_
    refine z_get F dX6_isStep_6 9 rfl kX6_isStep_40 0 rfl rfl ?_
    obtain ⟨hwt, hwf⟩ := hw
    refine z_icmpge F dX6_isStep_9 16 rfl 12 rfl (fun c2 => ?_) (fun c2 => ?_)
    · have hw := hwt c2; clear hwt hwf
      refine z_iconst F dX6_isStep_16 17 rfl zki_0 ?_
      exact hRt 17 _ false () dX6_isStep_17 ⟨false, rfl, hw⟩
    · have hw := hwf c2; clear hwt hwf
      refine z_iconst F dX6_isStep_12 13 rfl zki_1 ?_
      refine z_goto F dX6_isStep_13 17 rfl ?_
      exact hRt 17 _ true () dX6_isStep_17 ⟨true, rfl, hw⟩
set_option maxHeartbeats 4000000 in
set_option maxRecDepth 100000 in
theorem mX6_isStep (l : Launch) (D : va_G) (cyI cyB : ClassId) (aO : Nat → Nat) (x1 : Int32) (oI : Nat → Int32) (oR : Nat → Nat → Int32) {post : Bool → Prop} (hw : pX6_isStep x1 oI oR post) : zMi l yX6_isStep wsX6_isStep 0 0 D cyI cyB [.ref (aO 0), .int x1] (wMo aO cyI oI oR) (S := (Unit)) (fun u => (wMo aO cyI oI oR)) (fun r u => ∃ b : Bool, r = zb b ∧ post b ) :=
  z_metz (cc := cX6_isStep) (nL := 2) (by decide +kernel) rfl (Nat.le_of_ble_eq_true rfl) (fun C hl F hRt => xX6_isStep_0 x1 oI oR F hRt hw)
theorem y_X6_isStep : zY yX6_isStep wsX6_isStep cX6_isStep 2 (some .boolean) 1 := ⟨⟨_, rfl⟩, by decide +kernel⟩
set_option maxHeartbeats 4000000 in
set_option maxRecDepth 100000 in
theorem xX6_areTwo_0 {C : zC} {D : va_G} {cyI cyB : ClassId} {aO : Nat → Nat} (x1 : Int32) (x2 : Int32) (oI : Nat → Int32) (oR : Nat → Nat → Int32) (F : zF C D { frames := 1, cells := 0, slots := 0, locals := 21 } cX6_areTwo 3 wsX6_areTwo RX6 (some .boolean) cyI cyB) {post : Bool → Prop} (hRt : zRz C D cX6_areTwo 3 (S := (Unit)) (fun u => (wMo aO cyI oI oR)) (fun r u => ∃ b : Bool, r = zb b ∧ post b )) (hw : pX6_areTwo x1 x2 oI oR post) : zX C D 3 0 0 (wMo aO cyI oI oR) 0 [(0, .ref (aO 0)), (1, .int x1), (2, .int x2)] [] := by
  refine z_aload_n F dX6_areTwo_0 1 rfl 0 rfl ?_
  refine z_iload_n F dX6_areTwo_1 2 rfl 1 rfl ?_
  refine z_segVi (As := [.int x1]) (st := []) F dX6_areTwo_2 5 rfl (mX6_isHand C.1.2.1 D cyI cyB aO x1 oI oR hw) y_X6_isHand rfl gX6_areTwo_X6_isHand rfl (ci := 6) (rq := 0) rfl rfl ⟨Nat.le_of_ble_eq_true rfl, Nat.le_of_ble_eq_true rfl⟩ ⟨Nat.zero_le _, Nat.zero_le _⟩ (Nat.le_of_ble_eq_true rfl) [] [] (by simp only [List.append_assoc, List.nil_append, List.append_nil]) (fun _ => rfl) (fun u => (wMo aO cyI oI oR)) (fun u => (by simp only [List.append_assoc, List.nil_append, List.append_nil])) (fun r0 u hp => ?_)
  obtain ⟨b1, rfl, hw⟩ := hp
  obtain ⟨hwt, hwf⟩ := hw
  refine z_ifeqB F dX6_areTwo_5 25 rfl 8 rfl (fun c1 => ?_) (fun c1 => ?_)
  · have hw := hwt c1; clear hwt hwf
    refine z_iconst F dX6_areTwo_25 26 rfl zki_0 ?_
    exact hRt 26 _ false () dX6_areTwo_26 ⟨false, rfl, hw⟩
  · have hw := hwf c1; clear hwt hwf
    refine z_aload_n F dX6_areTwo_8 9 rfl 0 rfl ?_
    refine z_iload_n F dX6_areTwo_9 10 rfl 2 rfl ?_
    refine z_segVi (As := [.int x2]) (st := []) F dX6_areTwo_10 13 rfl (mX6_isHand C.1.2.1 D cyI cyB aO x2 oI oR hw) y_X6_isHand rfl gX6_areTwo_X6_isHand rfl (ci := 6) (rq := 0) rfl rfl ⟨Nat.le_of_ble_eq_true rfl, Nat.le_of_ble_eq_true rfl⟩ ⟨Nat.zero_le _, Nat.zero_le _⟩ (Nat.le_of_ble_eq_true rfl) [] [] (by simp only [List.append_assoc, List.nil_append, List.append_nil]) (fun _ => rfl) (fun u => (wMo aO cyI oI oR)) (fun u => (by simp only [List.append_assoc, List.nil_append, List.append_nil])) (fun r0 u hp => ?_)
    obtain ⟨b2, rfl, hw⟩ := hp
    obtain ⟨hwt, hwf⟩ := hw
    refine z_ifeqB F dX6_areTwo_13 25 rfl 16 rfl (fun c2 => ?_) (fun c2 => ?_)
    · have hw := hwt c2; clear hwt hwf
      refine z_iconst F dX6_areTwo_25 26 rfl zki_0 ?_
      exact hRt 26 _ false () dX6_areTwo_26 ⟨false, rfl, hw⟩
    · have hw := hwf c2; clear hwt hwf
      refine z_iload_n F dX6_areTwo_16 17 rfl 1 rfl ?_
      refine z_iload_n F dX6_areTwo_17 18 rfl 2 rfl ?_
      obtain ⟨hwt, hwf⟩ := hw
      refine z_icmpeq F dX6_areTwo_18 25 rfl 21 rfl (fun c3 => ?_) (fun c3 => ?_)
      · have hw := hwt c3; clear hwt hwf
        refine z_iconst F dX6_areTwo_25 26 rfl zki_0 ?_
        exact hRt 26 _ false () dX6_areTwo_26 ⟨false, rfl, hw⟩
      · have hw := hwf c3; clear hwt hwf
        refine z_iconst F dX6_areTwo_21 22 rfl zki_1 ?_
        refine z_goto F dX6_areTwo_22 26 rfl ?_
        exact hRt 26 _ true () dX6_areTwo_26 ⟨true, rfl, hw⟩
set_option maxHeartbeats 4000000 in
set_option maxRecDepth 100000 in
theorem mX6_areTwo (l : Launch) (D : va_G) (cyI cyB : ClassId) (aO : Nat → Nat) (x1 : Int32) (x2 : Int32) (oI : Nat → Int32) (oR : Nat → Nat → Int32) {post : Bool → Prop} (hw : pX6_areTwo x1 x2 oI oR post) : zMi l yX6_areTwo wsX6_areTwo 1 21 D cyI cyB [.ref (aO 0), .int x1, .int x2] (wMo aO cyI oI oR) (S := (Unit)) (fun u => (wMo aO cyI oI oR)) (fun r u => ∃ b : Bool, r = zb b ∧ post b ) :=
  z_metz (cc := cX6_areTwo) (nL := 3) (by decide +kernel) rfl (Nat.le_of_ble_eq_true rfl) (fun C hl F hRt => xX6_areTwo_0 x1 x2 oI oR F hRt hw)
theorem y_X6_areTwo : zY yX6_areTwo wsX6_areTwo cX6_areTwo 3 (some .boolean) 2 := ⟨⟨_, rfl⟩, by decide +kernel⟩
theorem iX6_hasSight_6 : ∀ w ∈ wsX60, w ∈ wsX6_hasSight := fun w h => List.mem_cons_of_mem _ (List.mem_append_right _ h)
theorem kX6_hasSight_22 : zL wsX6_hasSight RX6 22 6 4 (.array .int) true := zL6 iX6_hasSight_6 (by decide) (List.mem_of_getElem? (i := 2) rfl) rfl rfl
theorem kX6_hasSight_25 : zL wsX6_hasSight RX6 25 6 5 (.array .int) true := zL6 iX6_hasSight_6 (by decide) (List.mem_of_getElem? (i := 3) rfl) rfl rfl
theorem kX6_hasSight_102 : zL wsX6_hasSight RX6 102 6 12 .int false := zL6 iX6_hasSight_6 (by decide) (List.mem_of_getElem? (i := 1) rfl) rfl rfl
set_option maxHeartbeats 4000000 in
set_option maxRecDepth 100000 in
theorem xX6_hasSight_2 {C : zC} {D : va_G} {cyI cyB : ClassId} {aO : Nat → Nat} (x1 : Int32) (x2 : Int32) (oI : Nat → Int32) (oR : Nat → Nat → Int32) (F : zF C D { frames := 0, cells := 0, slots := 0, locals := 0 } cX6_hasSight 4 wsX6_hasSight RX6 (some .boolean) cyI cyB) {post : Bool → Prop} (hRt : zRz C D cX6_hasSight 4 (S := (Unit)) (fun u => (wMo aO cyI oI oR)) (fun r u => ∃ b : Bool, r = zb b ∧ post b )) : ∀ (n : Nat) (x3 : Int32), bX6_hasSight_2 x1 x2 oI oR post  n x3 → zX C D 4 0 0 (wMo aO cyI oI oR) 2 [(0, .ref (aO 0)), (1, .int x1), (2, .int x2), (3, .int x3)] [] := by
  intro n
  induction n with
  | zero => intro _ hw; exact hw.elim
  | succ n ih =>
    intro x3 hw
    refine z_iload_n F dX6_hasSight_2 3 rfl 3 rfl ?_
    refine z_aload_n F dX6_hasSight_3 4 rfl 0 rfl ?_
    refine z_get F dX6_hasSight_4 7 rfl kX6_hasSight_102 0 rfl rfl ?_
    obtain ⟨hwt, hwf⟩ := hw
    refine z_icmpge F dX6_hasSight_7 38 rfl 10 rfl (fun c1 => ?_) (fun c1 => ?_)
    · have hw := hwt c1; clear hwt hwf
      refine z_iconst F dX6_hasSight_38 39 rfl zki_0 ?_
      exact hRt 39 _ false () dX6_hasSight_39 ⟨false, rfl, hw⟩
    · have hw := hwf c1; clear hwt hwf
      refine z_aload_n F dX6_hasSight_10 11 rfl 0 rfl ?_
      refine z_get F dX6_hasSight_11 14 rfl kX6_hasSight_22 0 rfl rfl ?_
      refine z_iload_n F dX6_hasSight_14 15 rfl 3 rfl ?_
      obtain ⟨j1, ej1, hj1, hw⟩ := hw
      refine z_iald F dX6_hasSight_15 16 rfl 5 rfl (by decide) j1 ej1 hj1 ?_
      refine z_iload_n F dX6_hasSight_16 17 rfl 1 rfl ?_
      obtain ⟨hwt, hwf⟩ := hw
      refine z_icmpne F dX6_hasSight_17 32 rfl 20 rfl (fun c2 => ?_) (fun c2 => ?_)
      · have hw := hwt c2; clear hwt hwf
        refine z_iinc F dX6_hasSight_32 35 rfl 3 rfl (by decide) zki_1 (fun v1 => [(3, .int v1), (0, .ref (aO 0)), (1, .int x1), (2, .int x2)]) (fun _ => rfl) (fun v1 ev1 => ?_)
        replace hw := hw v1 ev1
        refine z_goto F dX6_hasSight_35 2 rfl ?_
        refine z_lv (lv' := [(0, .ref (aO 0)), (1, .int x1), (2, .int x2), (3, .int v1)]) [1, 2, 3, 0] rfl ?_
        exact ih v1 hw
      · have hw := hwf c2; clear hwt hwf
        refine z_aload_n F dX6_hasSight_20 21 rfl 0 rfl ?_
        refine z_get F dX6_hasSight_21 24 rfl kX6_hasSight_25 0 rfl rfl ?_
        refine z_iload_n F dX6_hasSight_24 25 rfl 3 rfl ?_
        refine z_iald F dX6_hasSight_25 26 rfl 6 rfl (by decide) j1 ej1 hj1 ?_
        refine z_iload_n F dX6_hasSight_26 27 rfl 2 rfl ?_
        obtain ⟨hwt, hwf⟩ := hw
        refine z_icmpne F dX6_hasSight_27 32 rfl 30 rfl (fun c3 => ?_) (fun c3 => ?_)
        · have hw := hwt c3; clear hwt hwf
          refine z_iinc F dX6_hasSight_32 35 rfl 3 rfl (by decide) zki_1 (fun v2 => [(3, .int v2), (0, .ref (aO 0)), (1, .int x1), (2, .int x2)]) (fun _ => rfl) (fun v2 ev2 => ?_)
          replace hw := hw v2 ev2
          refine z_goto F dX6_hasSight_35 2 rfl ?_
          refine z_lv (lv' := [(0, .ref (aO 0)), (1, .int x1), (2, .int x2), (3, .int v2)]) [1, 2, 3, 0] rfl ?_
          exact ih v2 hw
        · have hw := hwf c3; clear hwt hwf
          refine z_iconst F dX6_hasSight_30 31 rfl zki_1 ?_
          exact hRt 31 _ true () dX6_hasSight_31 ⟨true, rfl, hw⟩
set_option maxHeartbeats 4000000 in
set_option maxRecDepth 100000 in
theorem xX6_hasSight_0 {C : zC} {D : va_G} {cyI cyB : ClassId} {aO : Nat → Nat} (x1 : Int32) (x2 : Int32) (oI : Nat → Int32) (oR : Nat → Nat → Int32) (F : zF C D { frames := 0, cells := 0, slots := 0, locals := 0 } cX6_hasSight 4 wsX6_hasSight RX6 (some .boolean) cyI cyB) {post : Bool → Prop} (hRt : zRz C D cX6_hasSight 4 (S := (Unit)) (fun u => (wMo aO cyI oI oR)) (fun r u => ∃ b : Bool, r = zb b ∧ post b )) (hw : pX6_hasSight x1 x2 oI oR post) : zX C D 4 0 0 (wMo aO cyI oI oR) 0 [(0, .ref (aO 0)), (1, .int x1), (2, .int x2)] [] := by
  refine z_iconst F dX6_hasSight_0 1 rfl zki_0 ?_
  refine z_istore_n (lv' := [(3, .int 0), (0, .ref (aO 0)), (1, .int x1), (2, .int x2)]) F dX6_hasSight_1 2 rfl (by decide) rfl ?_
  obtain ⟨n1, hw⟩ := hw
  refine z_lv (lv' := [(0, .ref (aO 0)), (1, .int x1), (2, .int x2), (3, .int 0)]) [1, 2, 3, 0] rfl ?_
  refine xX6_hasSight_2 x1 x2 oI oR F hRt n1 0 hw
set_option maxHeartbeats 4000000 in
set_option maxRecDepth 100000 in
theorem mX6_hasSight (l : Launch) (D : va_G) (cyI cyB : ClassId) (aO : Nat → Nat) (x1 : Int32) (x2 : Int32) (oI : Nat → Int32) (oR : Nat → Nat → Int32) {post : Bool → Prop} (hw : pX6_hasSight x1 x2 oI oR post) : zMi l yX6_hasSight wsX6_hasSight 0 0 D cyI cyB [.ref (aO 0), .int x1, .int x2] (wMo aO cyI oI oR) (S := (Unit)) (fun u => (wMo aO cyI oI oR)) (fun r u => ∃ b : Bool, r = zb b ∧ post b ) :=
  z_metz (cc := cX6_hasSight) (nL := 4) (by decide +kernel) rfl (Nat.le_of_ble_eq_true rfl) (fun C hl F hRt => xX6_hasSight_0 x1 x2 oI oR F hRt hw)
theorem y_X6_hasSight : zY yX6_hasSight wsX6_hasSight cX6_hasSight 4 (some .boolean) 2 := ⟨⟨_, rfl⟩, by decide +kernel⟩
theorem iX6_sign_6 : ∀ w ∈ wsX60, w ∈ wsX6_sign := fun w h => List.mem_cons_of_mem _ (List.mem_append_right _ h)
theorem kX6_sign_44 : zL wsX6_sign RX6 44 6 16 (.array .int) true := zL6 iX6_sign_6 (by decide) (List.mem_of_getElem? (i := 3) rfl) rfl rfl
theorem kX6_sign_125 : zL wsX6_sign RX6 125 6 17 .int false := zL6 iX6_sign_6 (by decide) (List.mem_of_getElem? (i := 2) rfl) rfl rfl
theorem kX6_sign_130 : zL wsX6_sign RX6 130 6 18 .int false := zL6 iX6_sign_6 (by decide) (List.mem_of_getElem? (i := 1) rfl) rfl rfl
set_option maxHeartbeats 4000000 in
set_option maxRecDepth 100000 in
theorem xX6_sign_0 {C : zC} {D : va_G} {cyI cyB : ClassId} {aO : Nat → Nat} (oI : Nat → Int32) (oR : Nat → Nat → Int32) (F : zF C D { frames := 0, cells := 0, slots := 0, locals := 0 } cX6_sign 1 wsX6_sign RX6 (some .int) cyI cyB) {post : Int32 → Prop} (hRt : zRi C D cX6_sign 1 (S := (Unit)) (fun u => (wMo aO cyI oI oR)) (fun r u => post r )) (hw : pX6_sign oI oR post) : zX C D 1 0 0 (wMo aO cyI oI oR) 0 [(0, .ref (aO 0))] [] := by
  refine z_aload_n F dX6_sign_0 1 rfl 0 rfl ?_
  refine z_get F dX6_sign_1 4 rfl kX6_sign_130 0 rfl rfl ?_
  refine z_aload_n F dX6_sign_4 5 rfl 0 rfl ?_
  refine z_get F dX6_sign_5 8 rfl kX6_sign_125 0 rfl rfl ?_
  obtain ⟨hwt, hwf⟩ := hw
  refine z_icmpge F dX6_sign_8 23 rfl 11 rfl (fun c1 => ?_) (fun c1 => ?_)
  · have hw := hwt c1; clear hwt hwf
    refine z_iconst F dX6_sign_23 24 rfl zki_m1 ?_
    exact hRt 24 _ (-1) () dX6_sign_24 hw
  · have hw := hwf c1; clear hwt hwf
    refine z_aload_n F dX6_sign_11 12 rfl 0 rfl ?_
    refine z_get F dX6_sign_12 15 rfl kX6_sign_44 0 rfl rfl ?_
    refine z_aload_n F dX6_sign_15 16 rfl 0 rfl ?_
    refine z_get F dX6_sign_16 19 rfl kX6_sign_130 0 rfl rfl ?_
    obtain ⟨j1, ej1, hj1, hw⟩ := hw
    refine z_iald F dX6_sign_19 20 rfl 11 rfl (by decide) j1 ej1 hj1 ?_
    refine z_goto F dX6_sign_20 24 rfl ?_
    exact hRt 24 _ ((oR 16) j1) () dX6_sign_24 hw
set_option maxHeartbeats 4000000 in
set_option maxRecDepth 100000 in
theorem mX6_sign (l : Launch) (D : va_G) (cyI cyB : ClassId) (aO : Nat → Nat) (oI : Nat → Int32) (oR : Nat → Nat → Int32) {post : Int32 → Prop} (hw : pX6_sign oI oR post) : zMi l yX6_sign wsX6_sign 0 0 D cyI cyB [.ref (aO 0)] (wMo aO cyI oI oR) (S := (Unit)) (fun u => (wMo aO cyI oI oR)) (fun r u => post r ) :=
  z_meti (cc := cX6_sign) (nL := 1) (by decide +kernel) rfl (Nat.le_of_ble_eq_true rfl) (fun C hl F hRt => xX6_sign_0 oI oR F hRt hw)
theorem y_X6_sign : zY yX6_sign wsX6_sign cX6_sign 1 (some .int) 0 := ⟨⟨_, rfl⟩, by decide +kernel⟩
theorem iX6_guessedFrom_6 : ∀ w ∈ wsX60, w ∈ wsX6_guessedFrom := fun w h => List.mem_cons_of_mem _ (List.mem_append_right _ h)
theorem kX6_guessedFrom_34 : zL wsX6_guessedFrom RX6 34 6 8 (.array .int) true := zL6 iX6_guessedFrom_6 (by decide) (List.mem_of_getElem? (i := 2) rfl) rfl rfl
theorem kX6_guessedFrom_37 : zL wsX6_guessedFrom RX6 37 6 9 (.array .int) true := zL6 iX6_guessedFrom_6 (by decide) (List.mem_of_getElem? (i := 3) rfl) rfl rfl
theorem kX6_guessedFrom_86 : zL wsX6_guessedFrom RX6 86 6 14 .int false := zL6 iX6_guessedFrom_6 (by decide) (List.mem_of_getElem? (i := 1) rfl) rfl rfl
set_option maxHeartbeats 4000000 in
set_option maxRecDepth 100000 in
theorem xX6_guessedFrom_14 {C : zC} {D : va_G} {cyI cyB : ClassId} {aO : Nat → Nat} (x3 : Int32) (oI : Nat → Int32) (oR : Nat → Nat → Int32) (F : zF C D { frames := 0, cells := 0, slots := 0, locals := 0 } cX6_guessedFrom 5 wsX6_guessedFrom RX6 (some .int) cyI cyB) {post : Int32 → Prop} (hRt : zRi C D cX6_guessedFrom 5 (S := (Unit)) (fun u => (wMo aO cyI oI oR)) (fun r u => post r )) {k59 : Int32 → Prop} (hk59 : ∀ (x2 : Int32), k59 x2 → zX C D 5 0 0 (wMo aO cyI oI oR) 59 [(0, .ref (aO 0)), (2, .int x2), (3, .int x3)] []) : ∀ (n : Nat) (x2 : Int32) (x4 : Int32), bX6_guessedFrom_14 x3 oI oR post k59  n x2 x4 → zX C D 5 0 0 (wMo aO cyI oI oR) 14 [(0, .ref (aO 0)), (2, .int x2), (3, .int x3), (4, .int x4)] [] := by
  intro n
  induction n with
  | zero => intro _ _ hw; exact hw.elim
  | succ n ih =>
    intro x2 x4 hw
    refine z_iload F dX6_guessedFrom_14 16 rfl 3 rfl ?_
    refine z_aload_n F dX6_guessedFrom_16 17 rfl 0 rfl ?_
    refine z_get F dX6_guessedFrom_17 20 rfl kX6_guessedFrom_86 0 rfl rfl ?_
    obtain ⟨hwt, hwf⟩ := hw
    refine z_icmpge F dX6_guessedFrom_20 59 rfl 23 rfl (fun c2 => ?_) (fun c2 => ?_)
    · have hw := hwt c2; clear hwt hwf
      refine z_lv (lv' := [(0, .ref (aO 0)), (2, .int x2), (3, .int x3)]) [0, 1, 2] rfl ?_
      exact hk59 x2 hw
    · have hw := hwf c2; clear hwt hwf
      refine z_iload_n F dX6_guessedFrom_23 24 rfl 1 rfl ?_
      refine z_aload_n F dX6_guessedFrom_24 25 rfl 0 rfl ?_
      refine z_get F dX6_guessedFrom_25 28 rfl kX6_guessedFrom_34 0 rfl rfl ?_
      refine z_iload F dX6_guessedFrom_28 30 rfl 3 rfl ?_
      obtain ⟨j1, ej1, hj1, hw⟩ := hw
      refine z_iald F dX6_guessedFrom_30 31 rfl 9 rfl (by decide) j1 ej1 hj1 ?_
      refine z_iload_n F dX6_guessedFrom_31 32 rfl 1 rfl ?_
      refine z_iconst F dX6_guessedFrom_32 33 rfl zki_m1 ?_
      refine z_ixor F dX6_guessedFrom_33 34 rfl ?_
      refine z_iand F dX6_guessedFrom_34 35 rfl ?_
      obtain ⟨hwt, hwf⟩ := hw
      refine z_ifne F dX6_guessedFrom_35 50 rfl 38 rfl (fun c3 => ?_) (fun c3 => ?_)
      · have hw := hwt c3; clear hwt hwf
        refine z_iconst F dX6_guessedFrom_50 51 rfl zki_0 ?_
        refine z_ior F dX6_guessedFrom_51 52 rfl ?_
        refine z_topi (fun v1 ev1 => ?_)
        replace hw := hw v1 ev1
        refine z_istore_n (lv' := [(2, .int v1), (0, .ref (aO 0)), (3, .int x3), (4, .int x4)]) F dX6_guessedFrom_52 53 rfl (by decide) rfl ?_
        refine z_iinc F dX6_guessedFrom_53 56 rfl 3 rfl (by decide) zki_1 (fun v2 => [(4, .int v2), (2, .int v1), (0, .ref (aO 0)), (3, .int x3)]) (fun _ => rfl) (fun v2 ev2 => ?_)
        replace hw := hw v2 ev2
        refine z_goto F dX6_guessedFrom_56 14 rfl ?_
        refine z_lv (lv' := [(0, .ref (aO 0)), (2, .int v1), (3, .int x3), (4, .int v2)]) [2, 1, 3, 0] rfl ?_
        exact ih v1 v2 hw
      · have hw := hwf c3; clear hwt hwf
        refine z_iconst F dX6_guessedFrom_38 39 rfl zki_1 ?_
        refine z_aload_n F dX6_guessedFrom_39 40 rfl 0 rfl ?_
        refine z_get F dX6_guessedFrom_40 43 rfl kX6_guessedFrom_37 0 rfl rfl ?_
        refine z_iload F dX6_guessedFrom_43 45 rfl 3 rfl ?_
        refine z_iald F dX6_guessedFrom_45 46 rfl 10 rfl (by decide) j1 ej1 hj1 ?_
        refine z_ishl F dX6_guessedFrom_46 47 rfl ?_
        refine z_goto F dX6_guessedFrom_47 51 rfl ?_
        refine z_ior F dX6_guessedFrom_51 52 rfl ?_
        refine z_topi (fun v3 ev3 => ?_)
        replace hw := hw v3 ev3
        refine z_istore_n (lv' := [(2, .int v3), (0, .ref (aO 0)), (3, .int x3), (4, .int x4)]) F dX6_guessedFrom_52 53 rfl (by decide) rfl ?_
        refine z_iinc F dX6_guessedFrom_53 56 rfl 3 rfl (by decide) zki_1 (fun v4 => [(4, .int v4), (2, .int v3), (0, .ref (aO 0)), (3, .int x3)]) (fun _ => rfl) (fun v4 ev4 => ?_)
        replace hw := hw v4 ev4
        refine z_goto F dX6_guessedFrom_56 14 rfl ?_
        refine z_lv (lv' := [(0, .ref (aO 0)), (2, .int v3), (3, .int x3), (4, .int v4)]) [2, 1, 3, 0] rfl ?_
        exact ih v3 v4 hw
set_option maxHeartbeats 4000000 in
set_option maxRecDepth 100000 in
theorem xX6_guessedFrom_4 {C : zC} {D : va_G} {cyI cyB : ClassId} {aO : Nat → Nat} (oI : Nat → Int32) (oR : Nat → Nat → Int32) (F : zF C D { frames := 0, cells := 0, slots := 0, locals := 0 } cX6_guessedFrom 5 wsX6_guessedFrom RX6 (some .int) cyI cyB) {post : Int32 → Prop} (hRt : zRi C D cX6_guessedFrom 5 (S := (Unit)) (fun u => (wMo aO cyI oI oR)) (fun r u => post r )) : ∀ (n : Nat) (x2 : Int32) (x3 : Int32), bX6_guessedFrom_4 oI oR post  n x2 x3 → zX C D 5 0 0 (wMo aO cyI oI oR) 4 [(0, .ref (aO 0)), (2, .int x2), (3, .int x3)] [] := by
  intro n
  induction n with
  | zero => intro _ _ hw; exact hw.elim
  | succ n ih =>
    intro x2 x3 hw
    refine z_iload_n F dX6_guessedFrom_4 5 rfl 2 rfl ?_
    refine z_iload_n F dX6_guessedFrom_5 6 rfl 1 rfl ?_
    obtain ⟨hwt, hwf⟩ := hw
    refine z_icmpeq F dX6_guessedFrom_6 62 rfl 9 rfl (fun c1 => ?_) (fun c1 => ?_)
    · have hw := hwt c1; clear hwt hwf
      refine z_iload_n F dX6_guessedFrom_62 63 rfl 1 rfl ?_
      exact hRt 63 _ x2 () dX6_guessedFrom_63 hw
    · have hw := hwf c1; clear hwt hwf
      refine z_iload_n F dX6_guessedFrom_9 10 rfl 1 rfl ?_
      refine z_istore_n (lv' := [(3, .int x2), (0, .ref (aO 0)), (2, .int x2)]) F dX6_guessedFrom_10 11 rfl (by decide) rfl ?_
      refine z_iconst F dX6_guessedFrom_11 12 rfl zki_0 ?_
      refine z_istore (lv' := [(4, .int 0), (3, .int x2), (0, .ref (aO 0)), (2, .int x2)]) F dX6_guessedFrom_12 14 rfl (by decide) rfl ?_
      obtain ⟨n1, hw⟩ := hw
      refine z_lv (lv' := [(0, .ref (aO 0)), (2, .int x2), (3, .int x2), (4, .int 0)]) [2, 3, 1, 0] rfl ?_
      refine xX6_guessedFrom_14 x2 oI oR F hRt (fun w1 hw => ?_) n1 x2 0 hw
      refine z_goto F dX6_guessedFrom_59 4 rfl ?_
      exact ih w1 x2 hw
set_option maxHeartbeats 4000000 in
set_option maxRecDepth 100000 in
theorem xX6_guessedFrom_0 {C : zC} {D : va_G} {cyI cyB : ClassId} {aO : Nat → Nat} (x1 : Int32) (oI : Nat → Int32) (oR : Nat → Nat → Int32) (F : zF C D { frames := 0, cells := 0, slots := 0, locals := 0 } cX6_guessedFrom 5 wsX6_guessedFrom RX6 (some .int) cyI cyB) {post : Int32 → Prop} (hRt : zRi C D cX6_guessedFrom 5 (S := (Unit)) (fun u => (wMo aO cyI oI oR)) (fun r u => post r )) (hw : pX6_guessedFrom x1 oI oR post) : zX C D 5 0 0 (wMo aO cyI oI oR) 0 [(0, .ref (aO 0)), (1, .int x1)] [] := by
  refine z_iload_n F dX6_guessedFrom_0 1 rfl 1 rfl ?_
  refine z_istore_n (lv' := [(2, .int x1), (0, .ref (aO 0)), (1, .int x1)]) F dX6_guessedFrom_1 2 rfl (by decide) rfl ?_
  refine z_iconst F dX6_guessedFrom_2 3 rfl zki_m1 ?_
  refine z_istore_n (lv' := [(3, .int (-1)), (2, .int x1), (0, .ref (aO 0)), (1, .int x1)]) F dX6_guessedFrom_3 4 rfl (by decide) rfl ?_
  obtain ⟨n1, hw⟩ := hw
  refine z_lv (lv' := [(0, .ref (aO 0)), (2, .int x1), (3, .int (-1))]) [2, 1, 0] rfl ?_
  refine xX6_guessedFrom_4 oI oR F hRt n1 x1 (-1) hw
set_option maxHeartbeats 4000000 in
set_option maxRecDepth 100000 in
theorem mX6_guessedFrom (l : Launch) (D : va_G) (cyI cyB : ClassId) (aO : Nat → Nat) (x1 : Int32) (oI : Nat → Int32) (oR : Nat → Nat → Int32) {post : Int32 → Prop} (hw : pX6_guessedFrom x1 oI oR post) : zMi l yX6_guessedFrom wsX6_guessedFrom 0 0 D cyI cyB [.ref (aO 0), .int x1] (wMo aO cyI oI oR) (S := (Unit)) (fun u => (wMo aO cyI oI oR)) (fun r u => post r ) :=
  z_meti (cc := cX6_guessedFrom) (nL := 5) (by decide +kernel) rfl (Nat.le_of_ble_eq_true rfl) (fun C hl F hRt => xX6_guessedFrom_0 x1 oI oR F hRt hw)
theorem y_X6_guessedFrom : zY yX6_guessedFrom wsX6_guessedFrom cX6_guessedFrom 5 (some .int) 1 := ⟨⟨_, rfl⟩, by decide +kernel⟩
theorem iX6_knownBy_6 : ∀ w ∈ wsX60, w ∈ wsX6_knownBy := fun w h => List.mem_cons_of_mem _ (List.mem_append_right _ h)
theorem kX6_knownBy_50 : zL wsX6_knownBy RX6 50 6 20 (.array .int) true := zL6 iX6_knownBy_6 (by decide) (List.mem_of_getElem? (i := 3) rfl) rfl rfl
theorem kX6_knownBy_72 : zL wsX6_knownBy RX6 72 6 11 .int false := zL6 iX6_knownBy_6 (by decide) (List.mem_of_getElem? (i := 2) rfl) rfl rfl
theorem kX6_knownBy_83 : zL wsX6_knownBy RX6 83 6 15 .int false := zL6 iX6_knownBy_6 (by decide) (List.mem_of_getElem? (i := 1) rfl) rfl rfl
set_option maxHeartbeats 4000000 in
set_option maxRecDepth 100000 in
theorem xX6_knownBy_16 {C : zC} {D : va_G} {cyI cyB : ClassId} {aO : Nat → Nat} (x1 : Int32) (oI : Nat → Int32) (oR : Nat → Nat → Int32) (F : zF C D { frames := 1, cells := 0, slots := 0, locals := 24 } cX6_knownBy 5 wsX6_knownBy RX6 (some .int) cyI cyB) {post : Int32 → Prop} (hRt : zRi C D cX6_knownBy 5 (S := (Unit)) (fun u => (wMo aO cyI oI oR)) (fun r u => post r )) {k55 : Int32 → Prop} (hk55 : ∀ (x3 : Int32), k55 x3 → zX C D 5 0 0 (wMo aO cyI oI oR) 55 [(0, .ref (aO 0)), (3, .int x3)] []) : ∀ (n : Nat) (x3 : Int32) (x4 : Int32), bX6_knownBy_16 x1 oI oR post k55  n x3 x4 → zX C D 5 0 0 (wMo aO cyI oI oR) 16 [(0, .ref (aO 0)), (1, .int x1), (3, .int x3), (4, .int x4)] [] := by
  intro n
  induction n with
  | zero => intro _ _ hw; exact hw.elim
  | succ n ih =>
    intro x3 x4 hw
    refine z_iload F dX6_knownBy_16 18 rfl 3 rfl ?_
    refine z_aload_n F dX6_knownBy_18 19 rfl 0 rfl ?_
    refine z_get F dX6_knownBy_19 22 rfl kX6_knownBy_72 0 rfl rfl ?_
    obtain ⟨hwt, hwf⟩ := hw
    refine z_icmpge F dX6_knownBy_22 55 rfl 25 rfl (fun c2 => ?_) (fun c2 => ?_)
    · have hw := hwt c2; clear hwt hwf
      refine z_lv (lv' := [(0, .ref (aO 0)), (3, .int x3)]) [0, 2] rfl ?_
      exact hk55 x3 hw
    · have hw := hwf c2; clear hwt hwf
      refine z_iload_n F dX6_knownBy_25 26 rfl 2 rfl ?_
      refine z_iload_n F dX6_knownBy_26 27 rfl 1 rfl ?_
      refine z_iload F dX6_knownBy_27 29 rfl 3 rfl ?_
      refine z_ishr F dX6_knownBy_29 30 rfl ?_
      refine z_iconst F dX6_knownBy_30 31 rfl zki_1 ?_
      refine z_iand F dX6_knownBy_31 32 rfl ?_
      refine z_iconst F dX6_knownBy_32 33 rfl zki_1 ?_
      obtain ⟨hwt, hwf⟩ := hw
      refine z_icmpne F dX6_knownBy_33 46 rfl 36 rfl (fun c3 => ?_) (fun c3 => ?_)
      · have hw := hwt c3; clear hwt hwf
        refine z_iconst F dX6_knownBy_46 47 rfl zki_0 ?_
        refine z_ior F dX6_knownBy_47 48 rfl ?_
        refine z_topi (fun v1 ev1 => ?_)
        replace hw := hw v1 ev1
        refine z_istore_n (lv' := [(3, .int v1), (0, .ref (aO 0)), (1, .int x1), (4, .int x4)]) F dX6_knownBy_48 49 rfl (by decide) rfl ?_
        refine z_iinc F dX6_knownBy_49 52 rfl 3 rfl (by decide) zki_1 (fun v2 => [(4, .int v2), (3, .int v1), (0, .ref (aO 0)), (1, .int x1)]) (fun _ => rfl) (fun v2 ev2 => ?_)
        replace hw := hw v2 ev2
        refine z_goto F dX6_knownBy_52 16 rfl ?_
        refine z_lv (lv' := [(0, .ref (aO 0)), (1, .int x1), (3, .int v1), (4, .int v2)]) [2, 3, 1, 0] rfl ?_
        exact ih v1 v2 hw
      · have hw := hwf c3; clear hwt hwf
        refine z_aload_n F dX6_knownBy_36 37 rfl 0 rfl ?_
        refine z_get F dX6_knownBy_37 40 rfl kX6_knownBy_50 0 rfl rfl ?_
        refine z_iload F dX6_knownBy_40 42 rfl 3 rfl ?_
        obtain ⟨j1, ej1, hj1, hw⟩ := hw
        refine z_iald F dX6_knownBy_42 43 rfl 13 rfl (by decide) j1 ej1 hj1 ?_
        refine z_goto F dX6_knownBy_43 47 rfl ?_
        refine z_ior F dX6_knownBy_47 48 rfl ?_
        refine z_topi (fun v3 ev3 => ?_)
        replace hw := hw v3 ev3
        refine z_istore_n (lv' := [(3, .int v3), (0, .ref (aO 0)), (1, .int x1), (4, .int x4)]) F dX6_knownBy_48 49 rfl (by decide) rfl ?_
        refine z_iinc F dX6_knownBy_49 52 rfl 3 rfl (by decide) zki_1 (fun v4 => [(4, .int v4), (3, .int v3), (0, .ref (aO 0)), (1, .int x1)]) (fun _ => rfl) (fun v4 ev4 => ?_)
        replace hw := hw v4 ev4
        refine z_goto F dX6_knownBy_52 16 rfl ?_
        refine z_lv (lv' := [(0, .ref (aO 0)), (1, .int x1), (3, .int v3), (4, .int v4)]) [2, 3, 1, 0] rfl ?_
        exact ih v3 v4 hw
set_option maxHeartbeats 4000000 in
set_option maxRecDepth 100000 in
theorem xX6_knownBy_0 {C : zC} {D : va_G} {cyI cyB : ClassId} {aO : Nat → Nat} (x1 : Int32) (z2 : Bool) (oI : Nat → Int32) (oR : Nat → Nat → Int32) (F : zF C D { frames := 1, cells := 0, slots := 0, locals := 24 } cX6_knownBy 5 wsX6_knownBy RX6 (some .int) cyI cyB) {post : Int32 → Prop} (hRt : zRi C D cX6_knownBy 5 (S := (Unit)) (fun u => (wMo aO cyI oI oR)) (fun r u => post r )) (hw : pX6_knownBy x1 z2 oI oR post) : zX C D 5 0 0 (wMo aO cyI oI oR) 0 [(0, .ref (aO 0)), (1, .int x1), (2, .int (zb z2))] [] := by
  refine z_iload_n F dX6_knownBy_0 1 rfl 2 rfl ?_
  obtain ⟨hwt, hwf⟩ := hw
  refine z_ifeqB F dX6_knownBy_1 11 rfl 4 rfl (fun c1 => ?_) (fun c1 => ?_)
  · have hw := hwt c1; clear hwt hwf
    refine z_iconst F dX6_knownBy_11 12 rfl zki_0 ?_
    refine z_istore_n (lv' := [(3, .int 0), (0, .ref (aO 0)), (1, .int x1), (2, .int (zb z2))]) F dX6_knownBy_12 13 rfl (by decide) rfl ?_
    refine z_iconst F dX6_knownBy_13 14 rfl zki_0 ?_
    refine z_istore (lv' := [(4, .int 0), (3, .int 0), (0, .ref (aO 0)), (1, .int x1), (2, .int (zb z2))]) F dX6_knownBy_14 16 rfl (by decide) rfl ?_
    obtain ⟨n1, hw⟩ := hw
    refine z_lv (lv' := [(0, .ref (aO 0)), (1, .int x1), (3, .int 0), (4, .int 0)]) [2, 3, 1, 0] rfl ?_
    refine xX6_knownBy_16 x1 oI oR F hRt (fun w1 hw => ?_) n1 0 0 hw
    refine z_aload_n F dX6_knownBy_55 56 rfl 0 rfl ?_
    refine z_iload_n F dX6_knownBy_56 57 rfl 1 rfl ?_
    refine z_segVi (As := [.int w1]) (st := []) F dX6_knownBy_57 60 rfl (mX6_guessedFrom C.1.2.1 D cyI cyB aO w1 oI oR hw) y_X6_guessedFrom rfl gX6_knownBy_X6_guessedFrom rfl (ci := 6) (rq := 0) rfl rfl ⟨Nat.le_of_ble_eq_true rfl, Nat.le_of_ble_eq_true rfl⟩ ⟨Nat.zero_le _, Nat.zero_le _⟩ (Nat.le_of_ble_eq_true rfl) [] [] (by simp only [List.append_assoc, List.nil_append, List.append_nil]) (fun _ => rfl) (fun u => (wMo aO cyI oI oR)) (fun u => (by simp only [List.append_assoc, List.nil_append, List.append_nil])) (fun r1 u hp => ?_)
    replace hw := hp
    clear hp
    exact hRt 60 _ r1 () dX6_knownBy_60 hw
  · have hw := hwf c1; clear hwt hwf
    refine z_aload_n F dX6_knownBy_4 5 rfl 0 rfl ?_
    refine z_get F dX6_knownBy_5 8 rfl kX6_knownBy_83 0 rfl rfl ?_
    refine z_goto F dX6_knownBy_8 12 rfl ?_
    refine z_istore_n (lv' := [(3, .int (oI 15)), (0, .ref (aO 0)), (1, .int x1), (2, .int (zb z2))]) F dX6_knownBy_12 13 rfl (by decide) rfl ?_
    refine z_iconst F dX6_knownBy_13 14 rfl zki_0 ?_
    refine z_istore (lv' := [(4, .int 0), (3, .int (oI 15)), (0, .ref (aO 0)), (1, .int x1), (2, .int (zb z2))]) F dX6_knownBy_14 16 rfl (by decide) rfl ?_
    obtain ⟨n2, hw⟩ := hw
    refine z_lv (lv' := [(0, .ref (aO 0)), (1, .int x1), (3, .int (oI 15)), (4, .int 0)]) [2, 3, 1, 0] rfl ?_
    refine xX6_knownBy_16 x1 oI oR F hRt (fun w2 hw => ?_) n2 (oI 15) 0 hw
    refine z_aload_n F dX6_knownBy_55 56 rfl 0 rfl ?_
    refine z_iload_n F dX6_knownBy_56 57 rfl 1 rfl ?_
    refine z_segVi (As := [.int w2]) (st := []) F dX6_knownBy_57 60 rfl (mX6_guessedFrom C.1.2.1 D cyI cyB aO w2 oI oR hw) y_X6_guessedFrom rfl gX6_knownBy_X6_guessedFrom rfl (ci := 6) (rq := 0) rfl rfl ⟨Nat.le_of_ble_eq_true rfl, Nat.le_of_ble_eq_true rfl⟩ ⟨Nat.zero_le _, Nat.zero_le _⟩ (Nat.le_of_ble_eq_true rfl) [] [] (by simp only [List.append_assoc, List.nil_append, List.append_nil]) (fun _ => rfl) (fun u => (wMo aO cyI oI oR)) (fun u => (by simp only [List.append_assoc, List.nil_append, List.append_nil])) (fun r2 u hp => ?_)
    replace hw := hp
    clear hp
    exact hRt 60 _ r2 () dX6_knownBy_60 hw
set_option maxHeartbeats 4000000 in
set_option maxRecDepth 100000 in
theorem mX6_knownBy (l : Launch) (D : va_G) (cyI cyB : ClassId) (aO : Nat → Nat) (x1 : Int32) (z2 : Bool) (oI : Nat → Int32) (oR : Nat → Nat → Int32) {post : Int32 → Prop} (hw : pX6_knownBy x1 z2 oI oR post) : zMi l yX6_knownBy wsX6_knownBy 1 24 D cyI cyB [.ref (aO 0), .int x1, .int (zb z2)] (wMo aO cyI oI oR) (S := (Unit)) (fun u => (wMo aO cyI oI oR)) (fun r u => post r ) :=
  z_meti (cc := cX6_knownBy) (nL := 5) (by decide +kernel) rfl (Nat.le_of_ble_eq_true rfl) (fun C hl F hRt => xX6_knownBy_0 x1 z2 oI oR F hRt hw)
theorem y_X6_knownBy : zY yX6_knownBy wsX6_knownBy cX6_knownBy 5 (some .int) 2 := ⟨⟨_, rfl⟩, by decide +kernel⟩
theorem iX6_overSet_6 : ∀ w ∈ wsX60, w ∈ wsX6_overSet := fun w h => List.mem_cons_of_mem _ (List.mem_append_right _ h)
theorem kX6_overSet_19 : zL wsX6_overSet RX6 19 6 3 (.array .int) true := zL6 iX6_overSet_6 (by decide) (List.mem_of_getElem? (i := 2) rfl) rfl rfl
theorem kX6_overSet_72 : zL wsX6_overSet RX6 72 6 11 .int false := zL6 iX6_overSet_6 (by decide) (List.mem_of_getElem? (i := 1) rfl) rfl rfl
set_option maxHeartbeats 4000000 in
set_option maxRecDepth 100000 in
theorem xX6_overSet_4 {C : zC} {D : va_G} {cyI cyB : ClassId} {aO : Nat → Nat} (oI : Nat → Int32) (oR : Nat → Nat → Int32) (F : zF C D { frames := 0, cells := 0, slots := 0, locals := 0 } cX6_overSet 3 wsX6_overSet RX6 (some .int) cyI cyB) {post : Int32 → Prop} (hRt : zRi C D cX6_overSet 3 (S := (Unit)) (fun u => (wMo aO cyI oI oR)) (fun r u => post r )) : ∀ (n : Nat) (x1 : Int32) (x2 : Int32), bX6_overSet_4 oI oR post  n x1 x2 → zX C D 3 0 0 (wMo aO cyI oI oR) 4 [(0, .ref (aO 0)), (1, .int x1), (2, .int x2)] [] := by
  intro n
  induction n with
  | zero => intro _ _ hw; exact hw.elim
  | succ n ih =>
    intro x1 x2 hw
    refine z_iload_n F dX6_overSet_4 5 rfl 2 rfl ?_
    refine z_aload_n F dX6_overSet_5 6 rfl 0 rfl ?_
    refine z_get F dX6_overSet_6 9 rfl kX6_overSet_72 0 rfl rfl ?_
    obtain ⟨hwt, hwf⟩ := hw
    refine z_icmpge F dX6_overSet_9 29 rfl 12 rfl (fun c1 => ?_) (fun c1 => ?_)
    · have hw := hwt c1; clear hwt hwf
      refine z_iload_n F dX6_overSet_29 30 rfl 1 rfl ?_
      exact hRt 30 _ x1 () dX6_overSet_30 hw
    · have hw := hwf c1; clear hwt hwf
      refine z_iload_n F dX6_overSet_12 13 rfl 1 rfl ?_
      refine z_aload_n F dX6_overSet_13 14 rfl 0 rfl ?_
      refine z_get F dX6_overSet_14 17 rfl kX6_overSet_19 0 rfl rfl ?_
      refine z_iload_n F dX6_overSet_17 18 rfl 2 rfl ?_
      obtain ⟨j1, ej1, hj1, hw⟩ := hw
      refine z_iald F dX6_overSet_18 19 rfl 4 rfl (by decide) j1 ej1 hj1 ?_
      refine z_iload_n F dX6_overSet_19 20 rfl 2 rfl ?_
      refine z_ishl F dX6_overSet_20 21 rfl ?_
      refine z_ior F dX6_overSet_21 22 rfl ?_
      refine z_topi (fun v1 ev1 => ?_)
      replace hw := hw v1 ev1
      refine z_istore_n (lv' := [(1, .int v1), (0, .ref (aO 0)), (2, .int x2)]) F dX6_overSet_22 23 rfl (by decide) rfl ?_
      refine z_iinc F dX6_overSet_23 26 rfl 2 rfl (by decide) zki_1 (fun v2 => [(2, .int v2), (1, .int v1), (0, .ref (aO 0))]) (fun _ => rfl) (fun v2 ev2 => ?_)
      replace hw := hw v2 ev2
      refine z_goto F dX6_overSet_26 4 rfl ?_
      refine z_lv (lv' := [(0, .ref (aO 0)), (1, .int v1), (2, .int v2)]) [2, 1, 0] rfl ?_
      exact ih v1 v2 hw
set_option maxHeartbeats 4000000 in
set_option maxRecDepth 100000 in
theorem xX6_overSet_0 {C : zC} {D : va_G} {cyI cyB : ClassId} {aO : Nat → Nat} (oI : Nat → Int32) (oR : Nat → Nat → Int32) (F : zF C D { frames := 0, cells := 0, slots := 0, locals := 0 } cX6_overSet 3 wsX6_overSet RX6 (some .int) cyI cyB) {post : Int32 → Prop} (hRt : zRi C D cX6_overSet 3 (S := (Unit)) (fun u => (wMo aO cyI oI oR)) (fun r u => post r )) (hw : pX6_overSet oI oR post) : zX C D 3 0 0 (wMo aO cyI oI oR) 0 [(0, .ref (aO 0))] [] := by
  refine z_iconst F dX6_overSet_0 1 rfl zki_0 ?_
  refine z_istore_n (lv' := [(1, .int 0), (0, .ref (aO 0))]) F dX6_overSet_1 2 rfl (by decide) rfl ?_
  refine z_iconst F dX6_overSet_2 3 rfl zki_0 ?_
  refine z_istore_n (lv' := [(2, .int 0), (1, .int 0), (0, .ref (aO 0))]) F dX6_overSet_3 4 rfl (by decide) rfl ?_
  obtain ⟨n1, hw⟩ := hw
  refine z_lv (lv' := [(0, .ref (aO 0)), (1, .int 0), (2, .int 0)]) [2, 1, 0] rfl ?_
  refine xX6_overSet_4 oI oR F hRt n1 0 0 hw
set_option maxHeartbeats 4000000 in
set_option maxRecDepth 100000 in
theorem mX6_overSet (l : Launch) (D : va_G) (cyI cyB : ClassId) (aO : Nat → Nat) (oI : Nat → Int32) (oR : Nat → Nat → Int32) {post : Int32 → Prop} (hw : pX6_overSet oI oR post) : zMi l yX6_overSet wsX6_overSet 0 0 D cyI cyB [.ref (aO 0)] (wMo aO cyI oI oR) (S := (Unit)) (fun u => (wMo aO cyI oI oR)) (fun r u => post r ) :=
  z_meti (cc := cX6_overSet) (nL := 3) (by decide +kernel) rfl (Nat.le_of_ble_eq_true rfl) (fun C hl F hRt => xX6_overSet_0 oI oR F hRt hw)
theorem y_X6_overSet : zY yX6_overSet wsX6_overSet cX6_overSet 3 (some .int) 0 := ⟨⟨_, rfl⟩, by decide +kernel⟩
theorem iX6_houseSet_6 : ∀ w ∈ wsX60, w ∈ wsX6_houseSet := fun w h => List.mem_cons_of_mem _ (List.mem_append_right _ h)
theorem kX6_houseSet_72 : zL wsX6_houseSet RX6 72 6 11 .int false := zL6 iX6_houseSet_6 (by decide) (List.mem_of_getElem? (i := 1) rfl) rfl rfl
set_option maxHeartbeats 4000000 in
set_option maxRecDepth 100000 in
theorem xX6_houseSet_0 {C : zC} {D : va_G} {cyI cyB : ClassId} {aO : Nat → Nat} (oI : Nat → Int32) (oR : Nat → Nat → Int32) (F : zF C D { frames := 1, cells := 0, slots := 0, locals := 22 } cX6_houseSet 1 wsX6_houseSet RX6 (some .int) cyI cyB) {post : Int32 → Prop} (hRt : zRi C D cX6_houseSet 1 (S := (Unit)) (fun u => (wMo aO cyI oI oR)) (fun r u => post r )) (hw : pX6_houseSet oI oR post) : zX C D 1 0 0 (wMo aO cyI oI oR) 0 [(0, .ref (aO 0))] [] := by
  refine z_iconst F dX6_houseSet_0 1 rfl zki_1 ?_
  refine z_aload_n F dX6_houseSet_1 2 rfl 0 rfl ?_
  refine z_get F dX6_houseSet_2 5 rfl kX6_houseSet_72 0 rfl rfl ?_
  refine z_ishl F dX6_houseSet_5 6 rfl ?_
  refine z_iconst F dX6_houseSet_6 7 rfl zki_1 ?_
  refine z_isub F dX6_houseSet_7 8 rfl ?_
  refine z_aload_n F dX6_houseSet_8 9 rfl 0 rfl ?_
  refine z_segVi (As := []) (st := [.int ((1 <<< ((oI 11) &&& 31)) - 1)]) F dX6_houseSet_9 12 rfl (mX6_overSet C.1.2.1 D cyI cyB aO oI oR hw) y_X6_overSet rfl gX6_houseSet_X6_overSet rfl (ci := 6) (rq := 0) rfl rfl ⟨Nat.le_of_ble_eq_true rfl, Nat.le_of_ble_eq_true rfl⟩ ⟨Nat.zero_le _, Nat.zero_le _⟩ (Nat.le_of_ble_eq_true rfl) [] [] (by simp only [List.append_assoc, List.nil_append, List.append_nil]) (fun _ => rfl) (fun u => (wMo aO cyI oI oR)) (fun u => (by simp only [List.append_assoc, List.nil_append, List.append_nil])) (fun r1 u hp => ?_)
  replace hw := hp
  clear hp
  refine z_iconst F dX6_houseSet_12 13 rfl zki_m1 ?_
  refine z_ixor F dX6_houseSet_13 14 rfl ?_
  refine z_iand F dX6_houseSet_14 15 rfl ?_
  exact hRt 15 _ (((1 <<< ((oI 11) &&& 31)) - 1) &&& (r1 ^^^ (-1))) () dX6_houseSet_15 hw
set_option maxHeartbeats 4000000 in
set_option maxRecDepth 100000 in
theorem mX6_houseSet (l : Launch) (D : va_G) (cyI cyB : ClassId) (aO : Nat → Nat) (oI : Nat → Int32) (oR : Nat → Nat → Int32) {post : Int32 → Prop} (hw : pX6_houseSet oI oR post) : zMi l yX6_houseSet wsX6_houseSet 1 22 D cyI cyB [.ref (aO 0)] (wMo aO cyI oI oR) (S := (Unit)) (fun u => (wMo aO cyI oI oR)) (fun r u => post r ) :=
  z_meti (cc := cX6_houseSet) (nL := 1) (by decide +kernel) rfl (Nat.le_of_ble_eq_true rfl) (fun C hl F hRt => xX6_houseSet_0 oI oR F hRt hw)
theorem y_X6_houseSet : zY yX6_houseSet wsX6_houseSet cX6_houseSet 1 (some .int) 0 := ⟨⟨_, rfl⟩, by decide +kernel⟩
set_option maxHeartbeats 4000000 in
set_option maxRecDepth 100000 in
theorem xX6_losesIt_0 {C : zC} {D : va_G} {cyI cyB : ClassId} {aO : Nat → Nat} (x1 : Int32) (x2 : Int32) (oI : Nat → Int32) (oR : Nat → Nat → Int32) (F : zF C D { frames := 2, cells := 0, slots := 0, locals := 48 } cX6_losesIt 3 wsX6_losesIt RX6 (some .boolean) cyI cyB) {post : Bool → Prop} (hRt : zRz C D cX6_losesIt 3 (S := (Unit)) (fun u => (wMo aO cyI oI oR)) (fun r u => ∃ b : Bool, r = zb b ∧ post b )) (hw : pX6_losesIt x1 x2 oI oR post) : zX C D 3 0 0 (wMo aO cyI oI oR) 0 [(0, .ref (aO 0)), (1, .int x1), (2, .int x2)] [] := by
  refine z_aload_n F dX6_losesIt_0 1 rfl 0 rfl ?_
  refine z_iload_n F dX6_losesIt_1 2 rfl 2 rfl ?_
  refine z_iload_n F dX6_losesIt_2 3 rfl 1 rfl ?_
  refine z_iconst F dX6_losesIt_3 4 rfl zki_m1 ?_
  refine z_ixor F dX6_losesIt_4 5 rfl ?_
  refine z_iand F dX6_losesIt_5 6 rfl ?_
  refine z_iconst F dX6_losesIt_6 7 rfl zki_1 ?_
  refine z_segVi (As := [.int (x2 &&& (x1 ^^^ (-1))), .int 1]) (st := []) F dX6_losesIt_7 10 rfl (mX6_knownBy C.1.2.1 D cyI cyB aO (x2 &&& (x1 ^^^ (-1))) true oI oR hw) y_X6_knownBy rfl gX6_losesIt_X6_knownBy rfl (ci := 6) (rq := 0) rfl rfl ⟨Nat.le_of_ble_eq_true rfl, Nat.le_of_ble_eq_true rfl⟩ ⟨Nat.zero_le _, Nat.zero_le _⟩ (Nat.le_of_ble_eq_true rfl) [] [] (by simp only [List.append_assoc, List.nil_append, List.append_nil]) (fun _ => rfl) (fun u => (wMo aO cyI oI oR)) (fun u => (by simp only [List.append_assoc, List.nil_append, List.append_nil])) (fun r1 u hp => ?_)
  replace hw := hp
  clear hp
  refine z_aload_n F dX6_losesIt_10 11 rfl 0 rfl ?_
  refine z_segVi (As := []) (st := [.int r1]) F dX6_losesIt_11 14 rfl (mX6_all C.1.2.1 D cyI cyB aO oI oR hw) y_X6_all rfl gX6_losesIt_X6_all rfl (ci := 6) (rq := 0) rfl rfl ⟨Nat.le_of_ble_eq_true rfl, Nat.le_of_ble_eq_true rfl⟩ ⟨Nat.zero_le _, Nat.zero_le _⟩ (Nat.le_of_ble_eq_true rfl) [] [] (by simp only [List.append_assoc, List.nil_append, List.append_nil]) (fun _ => rfl) (fun u => (wMo aO cyI oI oR)) (fun u => (by simp only [List.append_assoc, List.nil_append, List.append_nil])) (fun r2 u hp => ?_)
  replace hw := hp
  clear hp
  obtain ⟨hwt, hwf⟩ := hw
  refine z_icmpeq F dX6_losesIt_14 21 rfl 17 rfl (fun c1 => ?_) (fun c1 => ?_)
  · have hw := hwt c1; clear hwt hwf
    refine z_iconst F dX6_losesIt_21 22 rfl zki_0 ?_
    exact hRt 22 _ false () dX6_losesIt_22 ⟨false, rfl, hw⟩
  · have hw := hwf c1; clear hwt hwf
    refine z_iconst F dX6_losesIt_17 18 rfl zki_1 ?_
    refine z_goto F dX6_losesIt_18 22 rfl ?_
    exact hRt 22 _ true () dX6_losesIt_22 ⟨true, rfl, hw⟩
set_option maxHeartbeats 4000000 in
set_option maxRecDepth 100000 in
theorem mX6_losesIt (l : Launch) (D : va_G) (cyI cyB : ClassId) (aO : Nat → Nat) (x1 : Int32) (x2 : Int32) (oI : Nat → Int32) (oR : Nat → Nat → Int32) {post : Bool → Prop} (hw : pX6_losesIt x1 x2 oI oR post) : zMi l yX6_losesIt wsX6_losesIt 2 48 D cyI cyB [.ref (aO 0), .int x1, .int x2] (wMo aO cyI oI oR) (S := (Unit)) (fun u => (wMo aO cyI oI oR)) (fun r u => ∃ b : Bool, r = zb b ∧ post b ) :=
  z_metz (cc := cX6_losesIt) (nL := 3) (by decide +kernel) rfl (Nat.le_of_ble_eq_true rfl) (fun C hl F hRt => xX6_losesIt_0 x1 x2 oI oR F hRt hw)
theorem y_X6_losesIt : zY yX6_losesIt wsX6_losesIt cX6_losesIt 3 (some .boolean) 2 := ⟨⟨_, rfl⟩, by decide +kernel⟩
theorem iX6_carriesIt_6 : ∀ w ∈ wsX60, w ∈ wsX6_carriesIt := fun w h => List.mem_cons_of_mem _ (List.mem_append_right _ h)
theorem kX6_carriesIt_72 : zL wsX6_carriesIt RX6 72 6 11 .int false := zL6 iX6_carriesIt_6 (by decide) (List.mem_of_getElem? (i := 1) rfl) rfl rfl
set_option maxHeartbeats 4000000 in
set_option maxRecDepth 100000 in
theorem xX6_carriesIt_0 {C : zC} {D : va_G} {cyI cyB : ClassId} {aO : Nat → Nat} (x1 : Int32) (x2 : Int32) (oI : Nat → Int32) (oR : Nat → Nat → Int32) (F : zF C D { frames := 2, cells := 0, slots := 0, locals := 48 } cX6_carriesIt 3 wsX6_carriesIt RX6 (some .boolean) cyI cyB) {post : Bool → Prop} (hRt : zRz C D cX6_carriesIt 3 (S := (Unit)) (fun u => (wMo aO cyI oI oR)) (fun r u => ∃ b : Bool, r = zb b ∧ post b )) (hw : pX6_carriesIt x1 x2 oI oR post) : zX C D 3 0 0 (wMo aO cyI oI oR) 0 [(0, .ref (aO 0)), (1, .int x1), (2, .int x2)] [] := by
  refine z_aload_n F dX6_carriesIt_0 1 rfl 0 rfl ?_
  refine z_iload_n F dX6_carriesIt_1 2 rfl 1 rfl ?_
  refine z_iconst F dX6_carriesIt_2 3 rfl zki_1 ?_
  refine z_aload_n F dX6_carriesIt_3 4 rfl 0 rfl ?_
  refine z_get F dX6_carriesIt_4 7 rfl kX6_carriesIt_72 0 rfl rfl ?_
  refine z_ishl F dX6_carriesIt_7 8 rfl ?_
  refine z_iconst F dX6_carriesIt_8 9 rfl zki_1 ?_
  refine z_isub F dX6_carriesIt_9 10 rfl ?_
  refine z_iload_n F dX6_carriesIt_10 11 rfl 2 rfl ?_
  refine z_iconst F dX6_carriesIt_11 12 rfl zki_m1 ?_
  refine z_ixor F dX6_carriesIt_12 13 rfl ?_
  refine z_iand F dX6_carriesIt_13 14 rfl ?_
  refine z_ior F dX6_carriesIt_14 15 rfl ?_
  refine z_iconst F dX6_carriesIt_15 16 rfl zki_0 ?_
  refine z_segVi (As := [.int (x1 ||| (((1 <<< ((oI 11) &&& 31)) - 1) &&& (x2 ^^^ (-1)))), .int 0]) (st := []) F dX6_carriesIt_16 19 rfl (mX6_knownBy C.1.2.1 D cyI cyB aO (x1 ||| (((1 <<< ((oI 11) &&& 31)) - 1) &&& (x2 ^^^ (-1)))) false oI oR hw) y_X6_knownBy rfl gX6_carriesIt_X6_knownBy rfl (ci := 6) (rq := 0) rfl rfl ⟨Nat.le_of_ble_eq_true rfl, Nat.le_of_ble_eq_true rfl⟩ ⟨Nat.zero_le _, Nat.zero_le _⟩ (Nat.le_of_ble_eq_true rfl) [] [] (by simp only [List.append_assoc, List.nil_append, List.append_nil]) (fun _ => rfl) (fun u => (wMo aO cyI oI oR)) (fun u => (by simp only [List.append_assoc, List.nil_append, List.append_nil])) (fun r1 u hp => ?_)
  replace hw := hp
  clear hp
  refine z_aload_n F dX6_carriesIt_19 20 rfl 0 rfl ?_
  refine z_segVi (As := []) (st := [.int r1]) F dX6_carriesIt_20 23 rfl (mX6_all C.1.2.1 D cyI cyB aO oI oR hw) y_X6_all rfl gX6_carriesIt_X6_all rfl (ci := 6) (rq := 0) rfl rfl ⟨Nat.le_of_ble_eq_true rfl, Nat.le_of_ble_eq_true rfl⟩ ⟨Nat.zero_le _, Nat.zero_le _⟩ (Nat.le_of_ble_eq_true rfl) [] [] (by simp only [List.append_assoc, List.nil_append, List.append_nil]) (fun _ => rfl) (fun u => (wMo aO cyI oI oR)) (fun u => (by simp only [List.append_assoc, List.nil_append, List.append_nil])) (fun r2 u hp => ?_)
  replace hw := hp
  clear hp
  obtain ⟨hwt, hwf⟩ := hw
  refine z_icmpne F dX6_carriesIt_23 30 rfl 26 rfl (fun c1 => ?_) (fun c1 => ?_)
  · have hw := hwt c1; clear hwt hwf
    refine z_iconst F dX6_carriesIt_30 31 rfl zki_0 ?_
    exact hRt 31 _ false () dX6_carriesIt_31 ⟨false, rfl, hw⟩
  · have hw := hwf c1; clear hwt hwf
    refine z_iconst F dX6_carriesIt_26 27 rfl zki_1 ?_
    refine z_goto F dX6_carriesIt_27 31 rfl ?_
    exact hRt 31 _ true () dX6_carriesIt_31 ⟨true, rfl, hw⟩
set_option maxHeartbeats 4000000 in
set_option maxRecDepth 100000 in
theorem mX6_carriesIt (l : Launch) (D : va_G) (cyI cyB : ClassId) (aO : Nat → Nat) (x1 : Int32) (x2 : Int32) (oI : Nat → Int32) (oR : Nat → Nat → Int32) {post : Bool → Prop} (hw : pX6_carriesIt x1 x2 oI oR post) : zMi l yX6_carriesIt wsX6_carriesIt 2 48 D cyI cyB [.ref (aO 0), .int x1, .int x2] (wMo aO cyI oI oR) (S := (Unit)) (fun u => (wMo aO cyI oI oR)) (fun r u => ∃ b : Bool, r = zb b ∧ post b ) :=
  z_metz (cc := cX6_carriesIt) (nL := 3) (by decide +kernel) rfl (Nat.le_of_ble_eq_true rfl) (fun C hl F hRt => xX6_carriesIt_0 x1 x2 oI oR F hRt hw)
theorem y_X6_carriesIt : zY yX6_carriesIt wsX6_carriesIt cX6_carriesIt 3 (some .boolean) 2 := ⟨⟨_, rfl⟩, by decide +kernel⟩
theorem iX6_holdsAgainst_6 : ∀ w ∈ wsX60, w ∈ wsX6_holdsAgainst := fun w h => List.mem_cons_of_mem _ (List.mem_append_right _ h)
theorem kX6_holdsAgainst_72 : zL wsX6_holdsAgainst RX6 72 6 11 .int false := zL6 iX6_holdsAgainst_6 (by decide) (List.mem_of_getElem? (i := 1) rfl) rfl rfl
set_option maxHeartbeats 4000000 in
set_option maxRecDepth 100000 in
theorem xX6_holdsAgainst_26 {C : zC} {D : va_G} {cyI cyB : ClassId} {aO : Nat → Nat} (x2 : Int32) (x3 : Int32) (x4 : Int32) (oI : Nat → Int32) (oR : Nat → Nat → Int32) (F : zF C D { frames := 3, cells := 0, slots := 0, locals := 70 } cX6_holdsAgainst 6 wsX6_holdsAgainst RX6 (some .boolean) cyI cyB) {post : Bool → Prop} (hRt : zRz C D cX6_holdsAgainst 6 (S := (Unit)) (fun u => (wMo aO cyI oI oR)) (fun r u => ∃ b : Bool, r = zb b ∧ post b )) {k73 : Prop} (hk73 : k73 → zX C D 6 0 0 (wMo aO cyI oI oR) 73 [] []) : ∀ (n : Nat) (x5 : Int32), bX6_holdsAgainst_26 x2 x3 x4 oI oR post k73  n x5 → zX C D 6 0 0 (wMo aO cyI oI oR) 26 [(0, .ref (aO 0)), (2, .int x2), (3, .int x3), (4, .int x4), (5, .int x5)] [] := by
  intro n
  induction n with
  | zero => intro _ hw; exact hw.elim
  | succ n ih =>
    intro x5 hw
    refine z_iload F dX6_holdsAgainst_26 28 rfl 4 rfl ?_
    refine z_iconst F dX6_holdsAgainst_28 29 rfl zki_1 ?_
    refine z_aload_n F dX6_holdsAgainst_29 30 rfl 0 rfl ?_
    refine z_get F dX6_holdsAgainst_30 33 rfl kX6_holdsAgainst_72 0 rfl rfl ?_
    refine z_ishl F dX6_holdsAgainst_33 34 rfl ?_
    obtain ⟨hwt, hwf⟩ := hw
    refine z_icmpge F dX6_holdsAgainst_34 94 rfl 37 rfl (fun c2 => ?_) (fun c2 => ?_)
    · have hw := hwt c2; clear hwt hwf
      refine z_iconst F dX6_holdsAgainst_94 95 rfl zki_1 ?_
      exact hRt 95 _ true () dX6_holdsAgainst_95 ⟨true, rfl, hw⟩
    · have hw := hwf c2; clear hwt hwf
      refine z_iload F dX6_holdsAgainst_37 39 rfl 4 rfl ?_
      refine z_iload_n F dX6_holdsAgainst_39 40 rfl 2 rfl ?_
      refine z_iconst F dX6_holdsAgainst_40 41 rfl zki_m1 ?_
      refine z_ixor F dX6_holdsAgainst_41 42 rfl ?_
      refine z_iand F dX6_holdsAgainst_42 43 rfl ?_
      obtain ⟨hwt, hwf⟩ := hw
      refine z_ifne F dX6_holdsAgainst_43 88 rfl 46 rfl (fun c3 => ?_) (fun c3 => ?_)
      · have hw := hwt c3; clear hwt hwf
        refine z_iinc F dX6_holdsAgainst_88 91 rfl 4 rfl (by decide) zki_1 (fun v1 => [(5, .int v1), (0, .ref (aO 0)), (2, .int x2), (3, .int x3), (4, .int x4)]) (fun _ => rfl) (fun v1 ev1 => ?_)
        replace hw := hw v1 ev1
        refine z_goto F dX6_holdsAgainst_91 26 rfl ?_
        refine z_lv (lv' := [(0, .ref (aO 0)), (2, .int x2), (3, .int x3), (4, .int x4), (5, .int v1)]) [1, 2, 3, 4, 0] rfl ?_
        exact ih v1 hw
      · have hw := hwf c3; clear hwt hwf
        refine z_iload F dX6_holdsAgainst_46 48 rfl 4 rfl ?_
        refine z_callSi (As := [.int x5]) (st := []) F dX6_holdsAgainst_48 51 rfl (mX6_bits C.1.2.1 D cyI cyB x5 hw) y_X6_bits rfl gX6_holdsAgainst_X6_bits ⟨Nat.le_of_ble_eq_true rfl, Nat.le_of_ble_eq_true rfl⟩ ⟨Nat.zero_le _, Nat.zero_le _⟩ (Nat.le_of_ble_eq_true rfl) [] (by decide) rfl (fun _ => rfl) (fun u => (wMo aO cyI oI oR)) (fun _ => rfl) (fun r4 u hp => ?_)
        replace hw := hp
        clear hp
        refine z_iload F dX6_holdsAgainst_51 53 rfl 3 rfl ?_
        obtain ⟨hwt, hwf⟩ := hw
        refine z_icmpeq F dX6_holdsAgainst_53 59 rfl 56 rfl (fun c4 => ?_) (fun c4 => ?_)
        · have hw := hwt c4; clear hwt hwf
          refine z_iload_n F dX6_holdsAgainst_59 60 rfl 1 rfl ?_
          obtain ⟨hwt, hwf⟩ := hw
          refine z_ifeq F dX6_holdsAgainst_60 76 rfl 63 rfl (fun c5 => ?_) (fun c5 => ?_)
          · have hw := hwt c5; clear hwt hwf
            refine z_aload_n F dX6_holdsAgainst_76 77 rfl 0 rfl ?_
            refine z_iload F dX6_holdsAgainst_77 79 rfl 4 rfl ?_
            refine z_iload_n F dX6_holdsAgainst_79 80 rfl 2 rfl ?_
            refine z_segVi (As := [.int x5, .int x3]) (st := []) F dX6_holdsAgainst_80 83 rfl (mX6_losesIt C.1.2.1 D cyI cyB aO x5 x3 oI oR hw) y_X6_losesIt rfl gX6_holdsAgainst_X6_losesIt rfl (ci := 6) (rq := 0) rfl rfl ⟨Nat.le_of_ble_eq_true rfl, Nat.le_of_ble_eq_true rfl⟩ ⟨Nat.zero_le _, Nat.zero_le _⟩ (Nat.le_of_ble_eq_true rfl) [] [] (by simp only [List.append_assoc, List.nil_append, List.append_nil]) (fun _ => rfl) (fun u => (wMo aO cyI oI oR)) (fun u => (by simp only [List.append_assoc, List.nil_append, List.append_nil])) (fun r0 u hp => ?_)
            obtain ⟨b1, rfl, hw⟩ := hp
            obtain ⟨hwt, hwf⟩ := hw
            refine z_ifeqB F dX6_holdsAgainst_83 88 rfl 86 rfl (fun c6 => ?_) (fun c6 => ?_)
            · have hw := hwt c6; clear hwt hwf
              refine z_iinc F dX6_holdsAgainst_88 91 rfl 4 rfl (by decide) zki_1 (fun v2 => [(5, .int v2), (0, .ref (aO 0)), (2, .int x2), (3, .int x3), (4, .int x4)]) (fun _ => rfl) (fun v2 ev2 => ?_)
              replace hw := hw v2 ev2
              refine z_goto F dX6_holdsAgainst_91 26 rfl ?_
              refine z_lv (lv' := [(0, .ref (aO 0)), (2, .int x2), (3, .int x3), (4, .int x4), (5, .int v2)]) [1, 2, 3, 4, 0] rfl ?_
              exact ih v2 hw
            · have hw := hwf c6; clear hwt hwf
              refine z_iconst F dX6_holdsAgainst_86 87 rfl zki_0 ?_
              exact hRt 87 _ false () dX6_holdsAgainst_87 ⟨false, rfl, hw⟩
          · have hw := hwf c5; clear hwt hwf
            refine z_aload_n F dX6_holdsAgainst_63 64 rfl 0 rfl ?_
            refine z_iload F dX6_holdsAgainst_64 66 rfl 4 rfl ?_
            refine z_iload_n F dX6_holdsAgainst_66 67 rfl 2 rfl ?_
            refine z_segVi (As := [.int x5, .int x3]) (st := []) F dX6_holdsAgainst_67 70 rfl (mX6_carriesIt C.1.2.1 D cyI cyB aO x5 x3 oI oR hw) y_X6_carriesIt rfl gX6_holdsAgainst_X6_carriesIt rfl (ci := 6) (rq := 0) rfl rfl ⟨Nat.le_of_ble_eq_true rfl, Nat.le_of_ble_eq_true rfl⟩ ⟨Nat.zero_le _, Nat.zero_le _⟩ (Nat.le_of_ble_eq_true rfl) [] [] (by simp only [List.append_assoc, List.nil_append, List.append_nil]) (fun _ => rfl) (fun u => (wMo aO cyI oI oR)) (fun u => (by simp only [List.append_assoc, List.nil_append, List.append_nil])) (fun r0 u hp => ?_)
            obtain ⟨b2, rfl, hw⟩ := hp
            obtain ⟨hwt, hwf⟩ := hw
            refine z_ifeqB F dX6_holdsAgainst_70 88 rfl 73 rfl (fun c7 => ?_) (fun c7 => ?_)
            · have hw := hwt c7; clear hwt hwf
              refine z_iinc F dX6_holdsAgainst_88 91 rfl 4 rfl (by decide) zki_1 (fun v3 => [(5, .int v3), (0, .ref (aO 0)), (2, .int x2), (3, .int x3), (4, .int x4)]) (fun _ => rfl) (fun v3 ev3 => ?_)
              replace hw := hw v3 ev3
              refine z_goto F dX6_holdsAgainst_91 26 rfl ?_
              refine z_lv (lv' := [(0, .ref (aO 0)), (2, .int x2), (3, .int x3), (4, .int x4), (5, .int v3)]) [1, 2, 3, 4, 0] rfl ?_
              exact ih v3 hw
            · have hw := hwf c7; clear hwt hwf
              refine z_lv (lv' := []) [] rfl ?_
              exact hk73 hw
        · have hw := hwf c4; clear hwt hwf
          refine z_goto F dX6_holdsAgainst_56 88 rfl ?_
          refine z_iinc F dX6_holdsAgainst_88 91 rfl 4 rfl (by decide) zki_1 (fun v4 => [(5, .int v4), (0, .ref (aO 0)), (2, .int x2), (3, .int x3), (4, .int x4)]) (fun _ => rfl) (fun v4 ev4 => ?_)
          replace hw := hw v4 ev4
          refine z_goto F dX6_holdsAgainst_91 26 rfl ?_
          refine z_lv (lv' := [(0, .ref (aO 0)), (2, .int x2), (3, .int x3), (4, .int x4), (5, .int v4)]) [1, 2, 3, 4, 0] rfl ?_
          exact ih v4 hw
set_option maxHeartbeats 4000000 in
set_option maxRecDepth 100000 in
theorem xX6_holdsAgainst_0 {C : zC} {D : va_G} {cyI cyB : ClassId} {aO : Nat → Nat} (x1 : Int32) (z2 : Bool) (oI : Nat → Int32) (oR : Nat → Nat → Int32) (F : zF C D { frames := 3, cells := 0, slots := 0, locals := 70 } cX6_holdsAgainst 6 wsX6_holdsAgainst RX6 (some .boolean) cyI cyB) {post : Bool → Prop} (hRt : zRz C D cX6_holdsAgainst 6 (S := (Unit)) (fun u => (wMo aO cyI oI oR)) (fun r u => ∃ b : Bool, r = zb b ∧ post b )) (hw : pX6_holdsAgainst x1 z2 oI oR post) : zX C D 6 0 0 (wMo aO cyI oI oR) 0 [(0, .ref (aO 0)), (1, .int x1), (2, .int (zb z2))] [] := by
  refine z_aload_n F dX6_holdsAgainst_0 1 rfl 0 rfl ?_
  refine z_segVi (As := []) (st := []) F dX6_holdsAgainst_1 4 rfl (mX6_houseSet C.1.2.1 D cyI cyB aO oI oR hw) y_X6_houseSet rfl gX6_holdsAgainst_X6_houseSet rfl (ci := 6) (rq := 0) rfl rfl ⟨Nat.le_of_ble_eq_true rfl, Nat.le_of_ble_eq_true rfl⟩ ⟨Nat.zero_le _, Nat.zero_le _⟩ (Nat.le_of_ble_eq_true rfl) [] [] (by simp only [List.append_assoc, List.nil_append, List.append_nil]) (fun _ => rfl) (fun u => (wMo aO cyI oI oR)) (fun u => (by simp only [List.append_assoc, List.nil_append, List.append_nil])) (fun r1 u hp => ?_)
  replace hw := hp
  clear hp
  refine z_istore_n (lv' := [(3, .int r1), (0, .ref (aO 0)), (1, .int x1), (2, .int (zb z2))]) F dX6_holdsAgainst_4 5 rfl (by decide) rfl ?_
  refine z_iload_n F dX6_holdsAgainst_5 6 rfl 2 rfl ?_
  refine z_iload_n F dX6_holdsAgainst_6 7 rfl 0 rfl ?_
  refine z_callSi (As := [.int r1]) (st := [.int x1]) F dX6_holdsAgainst_7 10 rfl (mX6_bits C.1.2.1 D cyI cyB r1 hw) y_X6_bits rfl gX6_holdsAgainst_X6_bits ⟨Nat.le_of_ble_eq_true rfl, Nat.le_of_ble_eq_true rfl⟩ ⟨Nat.zero_le _, Nat.zero_le _⟩ (Nat.le_of_ble_eq_true rfl) [] (by decide) rfl (fun _ => rfl) (fun u => (wMo aO cyI oI oR)) (fun _ => rfl) (fun r2 u hp => ?_)
  replace hw := hp
  clear hp
  obtain ⟨hwt, hwf⟩ := hw
  refine z_icmpge F dX6_holdsAgainst_10 17 rfl 13 rfl (fun c1 => ?_) (fun c1 => ?_)
  · have hw := hwt c1; clear hwt hwf
    refine z_iload_n F dX6_holdsAgainst_17 18 rfl 0 rfl ?_
    refine z_callSi (As := [.int r1]) (st := []) F dX6_holdsAgainst_18 21 rfl (mX6_bits C.1.2.1 D cyI cyB r1 hw) y_X6_bits rfl gX6_holdsAgainst_X6_bits ⟨Nat.le_of_ble_eq_true rfl, Nat.le_of_ble_eq_true rfl⟩ ⟨Nat.zero_le _, Nat.zero_le _⟩ (Nat.le_of_ble_eq_true rfl) [] (by decide) rfl (fun _ => rfl) (fun u => (wMo aO cyI oI oR)) (fun _ => rfl) (fun r3 u hp => ?_)
    replace hw := hp
    clear hp
    refine z_istore (lv' := [(4, .int r3), (3, .int r1), (0, .ref (aO 0)), (1, .int x1), (2, .int (zb z2))]) F dX6_holdsAgainst_21 23 rfl (by decide) rfl ?_
    refine z_iconst F dX6_holdsAgainst_23 24 rfl zki_0 ?_
    refine z_istore (lv' := [(5, .int 0), (4, .int r3), (3, .int r1), (0, .ref (aO 0)), (1, .int x1), (2, .int (zb z2))]) F dX6_holdsAgainst_24 26 rfl (by decide) rfl ?_
    obtain ⟨n1, hw⟩ := hw
    refine z_lv (lv' := [(0, .ref (aO 0)), (2, .int (zb z2)), (3, .int r1), (4, .int r3), (5, .int 0)]) [3, 5, 2, 1, 0] rfl ?_
    refine xX6_holdsAgainst_26 (zb z2) r1 r3 oI oR F hRt (fun hw => ?_) n1 0 hw
    refine z_goto F dX6_holdsAgainst_73 86 rfl ?_
    refine z_iconst F dX6_holdsAgainst_86 87 rfl zki_0 ?_
    exact hRt 87 _ false () dX6_holdsAgainst_87 ⟨false, rfl, hw⟩
  · have hw := hwf c1; clear hwt hwf
    refine z_iload_n F dX6_holdsAgainst_13 14 rfl 2 rfl ?_
    refine z_goto F dX6_holdsAgainst_14 21 rfl ?_
    refine z_istore (lv' := [(4, .int x1), (3, .int r1), (0, .ref (aO 0)), (1, .int x1), (2, .int (zb z2))]) F dX6_holdsAgainst_21 23 rfl (by decide) rfl ?_
    refine z_iconst F dX6_holdsAgainst_23 24 rfl zki_0 ?_
    refine z_istore (lv' := [(5, .int 0), (4, .int x1), (3, .int r1), (0, .ref (aO 0)), (1, .int x1), (2, .int (zb z2))]) F dX6_holdsAgainst_24 26 rfl (by decide) rfl ?_
    obtain ⟨n2, hw⟩ := hw
    refine z_lv (lv' := [(0, .ref (aO 0)), (2, .int (zb z2)), (3, .int r1), (4, .int x1), (5, .int 0)]) [3, 5, 2, 1, 0] rfl ?_
    refine xX6_holdsAgainst_26 (zb z2) r1 x1 oI oR F hRt (fun hw => ?_) n2 0 hw
    refine z_goto F dX6_holdsAgainst_73 86 rfl ?_
    refine z_iconst F dX6_holdsAgainst_86 87 rfl zki_0 ?_
    exact hRt 87 _ false () dX6_holdsAgainst_87 ⟨false, rfl, hw⟩
set_option maxHeartbeats 4000000 in
set_option maxRecDepth 100000 in
theorem mX6_holdsAgainst (l : Launch) (D : va_G) (cyI cyB : ClassId) (aO : Nat → Nat) (x1 : Int32) (z2 : Bool) (oI : Nat → Int32) (oR : Nat → Nat → Int32) {post : Bool → Prop} (hw : pX6_holdsAgainst x1 z2 oI oR post) : zMi l yX6_holdsAgainst wsX6_holdsAgainst 3 70 D cyI cyB [.ref (aO 0), .int x1, .int (zb z2)] (wMo aO cyI oI oR) (S := (Unit)) (fun u => (wMo aO cyI oI oR)) (fun r u => ∃ b : Bool, r = zb b ∧ post b ) :=
  z_metz (cc := cX6_holdsAgainst) (nL := 6) (by decide +kernel) rfl (Nat.le_of_ble_eq_true rfl) (fun C hl F hRt => xX6_holdsAgainst_0 x1 z2 oI oR F hRt hw)
theorem y_X6_holdsAgainst : zY yX6_holdsAgainst wsX6_holdsAgainst cX6_holdsAgainst 6 (some .boolean) 2 := ⟨⟨_, rfl⟩, by decide +kernel⟩
theorem iX6_mayTell_6 : ∀ w ∈ wsX60, w ∈ wsX6_mayTell := fun w h => List.mem_cons_of_mem _ (List.mem_append_right _ h)
theorem kX6_mayTell_13 : zL wsX6_mayTell RX6 13 6 1 (.array .int) true := zL6 iX6_mayTell_6 (by decide) (List.mem_of_getElem? (i := 4) rfl) rfl rfl
theorem kX6_mayTell_19 : zL wsX6_mayTell RX6 19 6 3 (.array .int) true := zL6 iX6_mayTell_6 (by decide) (List.mem_of_getElem? (i := 3) rfl) rfl rfl
theorem kX6_mayTell_40 : zL wsX6_mayTell RX6 40 6 10 .int false := zL6 iX6_mayTell_6 (by decide) (List.mem_of_getElem? (i := 1) rfl) rfl rfl
theorem kX6_mayTell_72 : zL wsX6_mayTell RX6 72 6 11 .int false := zL6 iX6_mayTell_6 (by decide) (List.mem_of_getElem? (i := 2) rfl) rfl rfl
set_option maxHeartbeats 4000000 in
set_option maxRecDepth 100000 in
theorem xX6_mayTell_0 {C : zC} {D : va_G} {cyI cyB : ClassId} {aO : Nat → Nat} (x1 : Int32) (oI : Nat → Int32) (oR : Nat → Nat → Int32) (F : zF C D { frames := 0, cells := 0, slots := 0, locals := 0 } cX6_mayTell 2 wsX6_mayTell RX6 (some .boolean) cyI cyB) {post : Bool → Prop} (hRt : zRz C D cX6_mayTell 2 (S := (Unit)) (fun u => (wMo aO cyI oI oR)) (fun r u => ∃ b : Bool, r = zb b ∧ post b )) (hw : pX6_mayTell x1 oI oR post) : zX C D 2 0 0 (wMo aO cyI oI oR) 0 [(0, .ref (aO 0)), (1, .int x1)] [] := by
  refine z_iload_n F dX6_mayTell_0 1 rfl 1 rfl ?_
  refine z_bipush F dX6_mayTell_1 3 rfl zkb_10 ?_
  refine z_irem F dX6_mayTell_3 4 rfl (by decide) ?_
  refine z_aload_n F dX6_mayTell_4 5 rfl 0 rfl ?_
  refine z_get F dX6_mayTell_5 8 rfl kX6_mayTell_40 0 rfl rfl ?_
  obtain ⟨hwt, hwf⟩ := hw
  refine z_icmpge F dX6_mayTell_8 57 rfl 11 rfl (fun c1 => ?_) (fun c1 => ?_)
  · have hw := hwt c1; clear hwt hwf
    refine z_iconst F dX6_mayTell_57 58 rfl zki_0 ?_
    exact hRt 58 _ false () dX6_mayTell_58 ⟨false, rfl, hw⟩
  · have hw := hwf c1; clear hwt hwf
    refine z_iload_n F dX6_mayTell_11 12 rfl 1 rfl ?_
    refine z_bipush F dX6_mayTell_12 14 rfl zkb_10 ?_
    refine z_idiv F dX6_mayTell_14 15 rfl (by decide) ?_
    refine z_aload_n F dX6_mayTell_15 16 rfl 0 rfl ?_
    refine z_get F dX6_mayTell_16 19 rfl kX6_mayTell_72 0 rfl rfl ?_
    obtain ⟨hwt, hwf⟩ := hw
    refine z_icmpge F dX6_mayTell_19 57 rfl 22 rfl (fun c2 => ?_) (fun c2 => ?_)
    · have hw := hwt c2; clear hwt hwf
      refine z_iconst F dX6_mayTell_57 58 rfl zki_0 ?_
      exact hRt 58 _ false () dX6_mayTell_58 ⟨false, rfl, hw⟩
    · have hw := hwf c2; clear hwt hwf
      refine z_aload_n F dX6_mayTell_22 23 rfl 0 rfl ?_
      refine z_get F dX6_mayTell_23 26 rfl kX6_mayTell_19 0 rfl rfl ?_
      refine z_iload_n F dX6_mayTell_26 27 rfl 1 rfl ?_
      refine z_bipush F dX6_mayTell_27 29 rfl zkb_10 ?_
      refine z_idiv F dX6_mayTell_29 30 rfl (by decide) ?_
      obtain ⟨j1, ej1, hj1, hw⟩ := hw
      refine z_iald F dX6_mayTell_30 31 rfl 4 rfl (by decide) j1 ej1 hj1 ?_
      obtain ⟨hwt, hwf⟩ := hw
      refine z_ifne F dX6_mayTell_31 57 rfl 34 rfl (fun c3 => ?_) (fun c3 => ?_)
      · have hw := hwt c3; clear hwt hwf
        refine z_iconst F dX6_mayTell_57 58 rfl zki_0 ?_
        exact hRt 58 _ false () dX6_mayTell_58 ⟨false, rfl, hw⟩
      · have hw := hwf c3; clear hwt hwf
        refine z_aload_n F dX6_mayTell_34 35 rfl 0 rfl ?_
        refine z_get F dX6_mayTell_35 38 rfl kX6_mayTell_13 0 rfl rfl ?_
        refine z_iload_n F dX6_mayTell_38 39 rfl 1 rfl ?_
        refine z_bipush F dX6_mayTell_39 41 rfl zkb_10 ?_
        refine z_idiv F dX6_mayTell_41 42 rfl (by decide) ?_
        refine z_iald F dX6_mayTell_42 43 rfl 2 rfl (by decide) j1 ej1 hj1 ?_
        refine z_iload_n F dX6_mayTell_43 44 rfl 1 rfl ?_
        refine z_bipush F dX6_mayTell_44 46 rfl zkb_10 ?_
        refine z_irem F dX6_mayTell_46 47 rfl (by decide) ?_
        refine z_ishr F dX6_mayTell_47 48 rfl ?_
        refine z_iconst F dX6_mayTell_48 49 rfl zki_1 ?_
        refine z_iand F dX6_mayTell_49 50 rfl ?_
        obtain ⟨hwt, hwf⟩ := hw
        refine z_ifne F dX6_mayTell_50 57 rfl 53 rfl (fun c4 => ?_) (fun c4 => ?_)
        · have hw := hwt c4; clear hwt hwf
          refine z_iconst F dX6_mayTell_57 58 rfl zki_0 ?_
          exact hRt 58 _ false () dX6_mayTell_58 ⟨false, rfl, hw⟩
        · have hw := hwf c4; clear hwt hwf
          refine z_iconst F dX6_mayTell_53 54 rfl zki_1 ?_
          refine z_goto F dX6_mayTell_54 58 rfl ?_
          exact hRt 58 _ true () dX6_mayTell_58 ⟨true, rfl, hw⟩
set_option maxHeartbeats 4000000 in
set_option maxRecDepth 100000 in
theorem mX6_mayTell (l : Launch) (D : va_G) (cyI cyB : ClassId) (aO : Nat → Nat) (x1 : Int32) (oI : Nat → Int32) (oR : Nat → Nat → Int32) {post : Bool → Prop} (hw : pX6_mayTell x1 oI oR post) : zMi l yX6_mayTell wsX6_mayTell 0 0 D cyI cyB [.ref (aO 0), .int x1] (wMo aO cyI oI oR) (S := (Unit)) (fun u => (wMo aO cyI oI oR)) (fun r u => ∃ b : Bool, r = zb b ∧ post b ) :=
  z_metz (cc := cX6_mayTell) (nL := 2) (by decide +kernel) rfl (Nat.le_of_ble_eq_true rfl) (fun C hl F hRt => xX6_mayTell_0 x1 oI oR F hRt hw)
theorem y_X6_mayTell : zY yX6_mayTell wsX6_mayTell cX6_mayTell 2 (some .boolean) 1 := ⟨⟨_, rfl⟩, by decide +kernel⟩
theorem iX6_given_6 : ∀ w ∈ wsX60, w ∈ wsX6_given := fun w h => List.mem_cons_of_mem _ (List.mem_append_right _ h)
theorem kX6_given_40 : zL wsX6_given RX6 40 6 10 .int false := zL6 iX6_given_6 (by decide) (List.mem_of_getElem? (i := 1) rfl) rfl rfl
set_option maxHeartbeats 4000000 in
set_option maxRecDepth 100000 in
theorem xX6_given_116 {C : zC} {D : va_G} {cyI cyB : ClassId} {aO : Nat → Nat} (x1 : Int32) (x2 : Int32) (x3 : Int32) (x4 : Int32) (x5 : Int32) (x6 : Int32) (oI : Nat → Int32) (oR : Nat → Nat → Int32) (F : zF C D { frames := 0, cells := 0, slots := 0, locals := 0 } cX6_given 7 wsX6_given RX6 (some .int) cyI cyB) {post : Int32 → Prop} (hRt : zRi C D cX6_given 7 (S := (Unit)) (fun u => (wMo aO cyI oI oR)) (fun r u => post r )) {q6 : Int32 → Int32 → Prop} (hq6 : ∀ (w4 : Int32) (w5 : Int32), q6 w4 w5 → zX C D 7 0 0 (wMo aO cyI oI oR) 6 [(0, .ref (aO 0)), (1, .int x1), (2, .int x2), (3, .int x3), (4, .int w4), (5, .int w5)] []) (hw : bX6_given_116 x1 x2 x3 x4 x5 x6 oI oR post q6 ) : zX C D 7 0 0 (wMo aO cyI oI oR) 116 [(0, .ref (aO 0)), (1, .int x1), (2, .int x2), (3, .int x3), (4, .int x4), (5, .int x5), (6, .int x6)] [] := by
  refine z_iload F dX6_given_116 118 rfl 4 rfl ?_
  refine z_iload F dX6_given_118 120 rfl 6 rfl ?_
  obtain ⟨hwt, hwf⟩ := hw
  refine z_ifeq F dX6_given_120 130 rfl 123 rfl (fun c5 => ?_) (fun c5 => ?_)
  · have hw := hwt c5; clear hwt hwf
    refine z_iconst F dX6_given_130 131 rfl zki_0 ?_
    refine z_ior F dX6_given_131 132 rfl ?_
    refine z_topi (fun v1 ev1 => ?_)
    replace hw := hw v1 ev1
    refine z_istore (lv' := [(4, .int v1), (0, .ref (aO 0)), (1, .int x1), (2, .int x2), (3, .int x3), (5, .int x5), (6, .int x6)]) F dX6_given_132 134 rfl (by decide) rfl ?_
    refine z_iinc F dX6_given_134 137 rfl 5 rfl (by decide) zki_1 (fun v2 => [(5, .int v2), (4, .int v1), (0, .ref (aO 0)), (1, .int x1), (2, .int x2), (3, .int x3), (6, .int x6)]) (fun _ => rfl) (fun v2 ev2 => ?_)
    replace hw := hw v2 ev2
    refine z_goto F dX6_given_137 6 rfl ?_
    refine z_lv (lv' := [(0, .ref (aO 0)), (1, .int x1), (2, .int x2), (3, .int x3), (4, .int v1), (5, .int v2)]) [2, 3, 4, 5, 1, 0] rfl ?_
    exact hq6 v1 v2 hw
  · have hw := hwf c5; clear hwt hwf
    refine z_iconst F dX6_given_123 124 rfl zki_1 ?_
    refine z_iload F dX6_given_124 126 rfl 5 rfl ?_
    refine z_ishl F dX6_given_126 127 rfl ?_
    refine z_goto F dX6_given_127 131 rfl ?_
    refine z_ior F dX6_given_131 132 rfl ?_
    refine z_topi (fun v3 ev3 => ?_)
    replace hw := hw v3 ev3
    refine z_istore (lv' := [(4, .int v3), (0, .ref (aO 0)), (1, .int x1), (2, .int x2), (3, .int x3), (5, .int x5), (6, .int x6)]) F dX6_given_132 134 rfl (by decide) rfl ?_
    refine z_iinc F dX6_given_134 137 rfl 5 rfl (by decide) zki_1 (fun v4 => [(5, .int v4), (4, .int v3), (0, .ref (aO 0)), (1, .int x1), (2, .int x2), (3, .int x3), (6, .int x6)]) (fun _ => rfl) (fun v4 ev4 => ?_)
    replace hw := hw v4 ev4
    refine z_goto F dX6_given_137 6 rfl ?_
    refine z_lv (lv' := [(0, .ref (aO 0)), (1, .int x1), (2, .int x2), (3, .int x3), (4, .int v3), (5, .int v4)]) [2, 3, 4, 5, 1, 0] rfl ?_
    exact hq6 v3 v4 hw
set_option maxHeartbeats 4000000 in
set_option maxRecDepth 100000 in
theorem xX6_given_94 {C : zC} {D : va_G} {cyI cyB : ClassId} {aO : Nat → Nat} (x1 : Int32) (x2 : Int32) (x3 : Int32) (x4 : Int32) (x5 : Int32) (oI : Nat → Int32) (oR : Nat → Nat → Int32) (F : zF C D { frames := 0, cells := 0, slots := 0, locals := 0 } cX6_given 7 wsX6_given RX6 (some .int) cyI cyB) {post : Int32 → Prop} (hRt : zRi C D cX6_given 7 (S := (Unit)) (fun u => (wMo aO cyI oI oR)) (fun r u => post r )) {q6 : Int32 → Int32 → Prop} (hq6 : ∀ (w4 : Int32) (w5 : Int32), q6 w4 w5 → zX C D 7 0 0 (wMo aO cyI oI oR) 6 [(0, .ref (aO 0)), (1, .int x1), (2, .int x2), (3, .int x3), (4, .int w4), (5, .int w5)] []) (hw : bX6_given_94 x1 x2 x3 x4 x5 oI oR post q6 ) : zX C D 7 0 0 (wMo aO cyI oI oR) 94 [(0, .ref (aO 0)), (1, .int x1), (2, .int x2), (3, .int x3), (4, .int x4), (5, .int x5)] [] := by
  refine z_iload_n F dX6_given_94 95 rfl 1 rfl ?_
  refine z_iconst F dX6_given_95 96 rfl zki_2 ?_
  obtain ⟨hwt, hwf⟩ := hw
  refine z_icmple F dX6_given_96 113 rfl 99 rfl (fun c6 => ?_) (fun c6 => ?_)
  · have hw := hwt c6; clear hwt hwf
    refine z_iconst F dX6_given_113 114 rfl zki_0 ?_
    refine z_istore (lv' := [(6, .int 0), (0, .ref (aO 0)), (1, .int x1), (2, .int x2), (3, .int x3), (4, .int x4), (5, .int x5)]) F dX6_given_114 116 rfl (by decide) rfl ?_
    refine z_lv (lv' := [(0, .ref (aO 0)), (1, .int x1), (2, .int x2), (3, .int x3), (4, .int x4), (5, .int x5), (6, .int 0)]) [1, 2, 3, 4, 5, 6, 0] rfl ?_
    exact xX6_given_116 x1 x2 x3 x4 x5 0 oI oR F hRt hq6 hw
  · have hw := hwf c6; clear hwt hwf
    refine z_iload F dX6_given_99 101 rfl 5 rfl ?_
    refine z_iconst F dX6_given_101 102 rfl zki_2 ?_
    refine z_iadd F dX6_given_102 103 rfl ?_
    refine z_iload_n F dX6_given_103 104 rfl 3 rfl ?_
    obtain ⟨h2, hw⟩ := hw
    refine z_irem F dX6_given_104 105 rfl h2 ?_
    refine z_iload_n F dX6_given_105 106 rfl 2 rfl ?_
    obtain ⟨hwt, hwf⟩ := hw
    refine z_icmpne F dX6_given_106 113 rfl 109 rfl (fun c7 => ?_) (fun c7 => ?_)
    · have hw := hwt c7; clear hwt hwf
      refine z_iconst F dX6_given_113 114 rfl zki_0 ?_
      refine z_istore (lv' := [(6, .int 0), (0, .ref (aO 0)), (1, .int x1), (2, .int x2), (3, .int x3), (4, .int x4), (5, .int x5)]) F dX6_given_114 116 rfl (by decide) rfl ?_
      refine z_lv (lv' := [(0, .ref (aO 0)), (1, .int x1), (2, .int x2), (3, .int x3), (4, .int x4), (5, .int x5), (6, .int 0)]) [1, 2, 3, 4, 5, 6, 0] rfl ?_
      exact xX6_given_116 x1 x2 x3 x4 x5 0 oI oR F hRt hq6 hw
    · have hw := hwf c7; clear hwt hwf
      refine z_iconst F dX6_given_109 110 rfl zki_1 ?_
      refine z_goto F dX6_given_110 114 rfl ?_
      refine z_istore (lv' := [(6, .int 1), (0, .ref (aO 0)), (1, .int x1), (2, .int x2), (3, .int x3), (4, .int x4), (5, .int x5)]) F dX6_given_114 116 rfl (by decide) rfl ?_
      refine z_lv (lv' := [(0, .ref (aO 0)), (1, .int x1), (2, .int x2), (3, .int x3), (4, .int x4), (5, .int x5), (6, .int 1)]) [1, 2, 3, 4, 5, 6, 0] rfl ?_
      exact xX6_given_116 x1 x2 x3 x4 x5 1 oI oR F hRt hq6 hw
set_option maxHeartbeats 4000000 in
set_option maxRecDepth 100000 in
theorem xX6_given_46 {C : zC} {D : va_G} {cyI cyB : ClassId} {aO : Nat → Nat} (x1 : Int32) (x2 : Int32) (x3 : Int32) (x4 : Int32) (x5 : Int32) (s0 : Int32) (oI : Nat → Int32) (oR : Nat → Nat → Int32) (F : zF C D { frames := 0, cells := 0, slots := 0, locals := 0 } cX6_given 7 wsX6_given RX6 (some .int) cyI cyB) {post : Int32 → Prop} (hRt : zRi C D cX6_given 7 (S := (Unit)) (fun u => (wMo aO cyI oI oR)) (fun r u => post r )) {q6 : Int32 → Int32 → Prop} (hq6 : ∀ (w4 : Int32) (w5 : Int32), q6 w4 w5 → zX C D 7 0 0 (wMo aO cyI oI oR) 6 [(0, .ref (aO 0)), (1, .int x1), (2, .int x2), (3, .int x3), (4, .int w4), (5, .int w5)] []) (hw : bX6_given_46 x1 x2 x3 x4 x5 s0 oI oR post q6 ) : zX C D 7 0 0 (wMo aO cyI oI oR) 46 [(0, .ref (aO 0)), (1, .int x1), (2, .int x2), (3, .int x3), (4, .int x4), (5, .int x5)] [.int s0] := by
  refine z_iload_n F dX6_given_46 47 rfl 2 rfl ?_
  refine z_iload_n F dX6_given_47 48 rfl 3 rfl ?_
  refine z_iconst F dX6_given_48 49 rfl zki_2 ?_
  refine z_idiv F dX6_given_49 50 rfl (by decide) ?_
  obtain ⟨hwt, hwf⟩ := hw
  refine z_icmpge F dX6_given_50 57 rfl 53 rfl (fun c8 => ?_) (fun c8 => ?_)
  · have hw := hwt c8; clear hwt hwf
    refine z_iconst F dX6_given_57 58 rfl zki_0 ?_
    obtain ⟨hwt, hwf⟩ := hw
    refine z_icmpne F dX6_given_58 65 rfl 61 rfl (fun c9 => ?_) (fun c9 => ?_)
    · have hw := hwt c9; clear hwt hwf
      refine z_iconst F dX6_given_65 66 rfl zki_0 ?_
      refine z_istore (lv' := [(6, .int 0), (0, .ref (aO 0)), (1, .int x1), (2, .int x2), (3, .int x3), (4, .int x4), (5, .int x5)]) F dX6_given_66 68 rfl (by decide) rfl ?_
      refine z_goto F dX6_given_68 116 rfl ?_
      refine z_lv (lv' := [(0, .ref (aO 0)), (1, .int x1), (2, .int x2), (3, .int x3), (4, .int x4), (5, .int x5), (6, .int 0)]) [1, 2, 3, 4, 5, 6, 0] rfl ?_
      exact xX6_given_116 x1 x2 x3 x4 x5 0 oI oR F hRt hq6 hw
    · have hw := hwf c9; clear hwt hwf
      refine z_iconst F dX6_given_61 62 rfl zki_1 ?_
      refine z_goto F dX6_given_62 66 rfl ?_
      refine z_istore (lv' := [(6, .int 1), (0, .ref (aO 0)), (1, .int x1), (2, .int x2), (3, .int x3), (4, .int x4), (5, .int x5)]) F dX6_given_66 68 rfl (by decide) rfl ?_
      refine z_goto F dX6_given_68 116 rfl ?_
      refine z_lv (lv' := [(0, .ref (aO 0)), (1, .int x1), (2, .int x2), (3, .int x3), (4, .int x4), (5, .int x5), (6, .int 1)]) [1, 2, 3, 4, 5, 6, 0] rfl ?_
      exact xX6_given_116 x1 x2 x3 x4 x5 1 oI oR F hRt hq6 hw
  · have hw := hwf c8; clear hwt hwf
    refine z_iconst F dX6_given_53 54 rfl zki_1 ?_
    refine z_goto F dX6_given_54 58 rfl ?_
    obtain ⟨hwt, hwf⟩ := hw
    refine z_icmpne F dX6_given_58 65 rfl 61 rfl (fun c10 => ?_) (fun c10 => ?_)
    · have hw := hwt c10; clear hwt hwf
      refine z_iconst F dX6_given_65 66 rfl zki_0 ?_
      refine z_istore (lv' := [(6, .int 0), (0, .ref (aO 0)), (1, .int x1), (2, .int x2), (3, .int x3), (4, .int x4), (5, .int x5)]) F dX6_given_66 68 rfl (by decide) rfl ?_
      refine z_goto F dX6_given_68 116 rfl ?_
      refine z_lv (lv' := [(0, .ref (aO 0)), (1, .int x1), (2, .int x2), (3, .int x3), (4, .int x4), (5, .int x5), (6, .int 0)]) [1, 2, 3, 4, 5, 6, 0] rfl ?_
      exact xX6_given_116 x1 x2 x3 x4 x5 0 oI oR F hRt hq6 hw
    · have hw := hwf c10; clear hwt hwf
      refine z_iconst F dX6_given_61 62 rfl zki_1 ?_
      refine z_goto F dX6_given_62 66 rfl ?_
      refine z_istore (lv' := [(6, .int 1), (0, .ref (aO 0)), (1, .int x1), (2, .int x2), (3, .int x3), (4, .int x4), (5, .int x5)]) F dX6_given_66 68 rfl (by decide) rfl ?_
      refine z_goto F dX6_given_68 116 rfl ?_
      refine z_lv (lv' := [(0, .ref (aO 0)), (1, .int x1), (2, .int x2), (3, .int x3), (4, .int x4), (5, .int x5), (6, .int 1)]) [1, 2, 3, 4, 5, 6, 0] rfl ?_
      exact xX6_given_116 x1 x2 x3 x4 x5 1 oI oR F hRt hq6 hw
set_option maxHeartbeats 4000000 in
set_option maxRecDepth 100000 in
theorem xX6_given_6 {C : zC} {D : va_G} {cyI cyB : ClassId} {aO : Nat → Nat} (x1 : Int32) (x2 : Int32) (x3 : Int32) (oI : Nat → Int32) (oR : Nat → Nat → Int32) (F : zF C D { frames := 0, cells := 0, slots := 0, locals := 0 } cX6_given 7 wsX6_given RX6 (some .int) cyI cyB) {post : Int32 → Prop} (hRt : zRi C D cX6_given 7 (S := (Unit)) (fun u => (wMo aO cyI oI oR)) (fun r u => post r )) : ∀ (n : Nat) (x4 : Int32) (x5 : Int32), bX6_given_6 x1 x2 x3 oI oR post  n x4 x5 → zX C D 7 0 0 (wMo aO cyI oI oR) 6 [(0, .ref (aO 0)), (1, .int x1), (2, .int x2), (3, .int x3), (4, .int x4), (5, .int x5)] [] := by
  intro n
  induction n with
  | zero => intro _ _ hw; exact hw.elim
  | succ n ih =>
    intro x4 x5 hw
    refine z_iload F dX6_given_6 8 rfl 5 rfl ?_
    refine z_aload_n F dX6_given_8 9 rfl 0 rfl ?_
    refine z_get F dX6_given_9 12 rfl kX6_given_40 0 rfl rfl ?_
    obtain ⟨hwt, hwf⟩ := hw
    refine z_icmpge F dX6_given_12 140 rfl 15 rfl (fun c1 => ?_) (fun c1 => ?_)
    · have hw := hwt c1; clear hwt hwf
      refine z_iload F dX6_given_140 142 rfl 4 rfl ?_
      exact hRt 142 _ x4 () dX6_given_142 hw
    · have hw := hwf c1; clear hwt hwf
      refine z_iload_n F dX6_given_15 16 rfl 1 rfl ?_
      obtain ⟨hwt, hwf⟩ := hw
      refine z_ifne F dX6_given_16 25 rfl 19 rfl (fun c2 => ?_) (fun c2 => ?_)
      · have hw := hwt c2; clear hwt hwf
        refine z_iload_n F dX6_given_25 26 rfl 1 rfl ?_
        refine z_iconst F dX6_given_26 27 rfl zki_4 ?_
        obtain ⟨hwt, hwf⟩ := hw
        refine z_icmpne F dX6_given_27 71 rfl 30 rfl (fun c3 => ?_) (fun c3 => ?_)
        · have hw := hwt c3; clear hwt hwf
          refine z_iload F dX6_given_71 73 rfl 5 rfl ?_
          refine z_iload_n F dX6_given_73 74 rfl 3 rfl ?_
          obtain ⟨h1, hw⟩ := hw
          refine z_irem F dX6_given_74 75 rfl h1 ?_
          refine z_iload_n F dX6_given_75 76 rfl 2 rfl ?_
          obtain ⟨hwt, hwf⟩ := hw
          refine z_icmpeq F dX6_given_76 109 rfl 79 rfl (fun c4 => ?_) (fun c4 => ?_)
          · have hw := hwt c4; clear hwt hwf
            refine z_iconst F dX6_given_109 110 rfl zki_1 ?_
            refine z_goto F dX6_given_110 114 rfl ?_
            refine z_istore (lv' := [(6, .int 1), (0, .ref (aO 0)), (1, .int x1), (2, .int x2), (3, .int x3), (4, .int x4), (5, .int x5)]) F dX6_given_114 116 rfl (by decide) rfl ?_
            refine z_lv (lv' := [(0, .ref (aO 0)), (1, .int x1), (2, .int x2), (3, .int x3), (4, .int x4), (5, .int x5), (6, .int 1)]) [1, 2, 3, 4, 5, 6, 0] rfl ?_
            exact xX6_given_116 x1 x2 x3 x4 x5 1 oI oR F hRt ih hw
          · have hw := hwf c4; clear hwt hwf
            refine z_iload_n F dX6_given_79 80 rfl 1 rfl ?_
            refine z_iconst F dX6_given_80 81 rfl zki_1 ?_
            obtain ⟨hwt, hwf⟩ := hw
            refine z_icmple F dX6_given_81 94 rfl 84 rfl (fun c5 => ?_) (fun c5 => ?_)
            · have hw := hwt c5; clear hwt hwf
              exact xX6_given_94 x1 x2 x3 x4 x5 oI oR F hRt ih hw
            · have hw := hwf c5; clear hwt hwf
              refine z_iload F dX6_given_84 86 rfl 5 rfl ?_
              refine z_iconst F dX6_given_86 87 rfl zki_1 ?_
              refine z_iadd F dX6_given_87 88 rfl ?_
              refine z_iload_n F dX6_given_88 89 rfl 3 rfl ?_
              obtain ⟨h2, hw⟩ := hw
              refine z_irem F dX6_given_89 90 rfl h2 ?_
              refine z_iload_n F dX6_given_90 91 rfl 2 rfl ?_
              obtain ⟨hwt, hwf⟩ := hw
              refine z_icmpeq F dX6_given_91 109 rfl 94 rfl (fun c6 => ?_) (fun c6 => ?_)
              · have hw := hwt c6; clear hwt hwf
                refine z_iconst F dX6_given_109 110 rfl zki_1 ?_
                refine z_goto F dX6_given_110 114 rfl ?_
                refine z_istore (lv' := [(6, .int 1), (0, .ref (aO 0)), (1, .int x1), (2, .int x2), (3, .int x3), (4, .int x4), (5, .int x5)]) F dX6_given_114 116 rfl (by decide) rfl ?_
                refine z_lv (lv' := [(0, .ref (aO 0)), (1, .int x1), (2, .int x2), (3, .int x3), (4, .int x4), (5, .int x5), (6, .int 1)]) [1, 2, 3, 4, 5, 6, 0] rfl ?_
                exact xX6_given_116 x1 x2 x3 x4 x5 1 oI oR F hRt ih hw
              · have hw := hwf c6; clear hwt hwf
                exact xX6_given_94 x1 x2 x3 x4 x5 oI oR F hRt ih hw
        · have hw := hwf c3; clear hwt hwf
          refine z_iload F dX6_given_30 32 rfl 5 rfl ?_
          refine z_aload_n F dX6_given_32 33 rfl 0 rfl ?_
          refine z_get F dX6_given_33 36 rfl kX6_given_40 0 rfl rfl ?_
          refine z_iconst F dX6_given_36 37 rfl zki_2 ?_
          refine z_idiv F dX6_given_37 38 rfl (by decide) ?_
          obtain ⟨hwt, hwf⟩ := hw
          refine z_icmpge F dX6_given_38 45 rfl 41 rfl (fun c7 => ?_) (fun c7 => ?_)
          · have hw := hwt c7; clear hwt hwf
            refine z_iconst F dX6_given_45 46 rfl zki_0 ?_
            exact xX6_given_46 x1 x2 x3 x4 x5 0 oI oR F hRt ih hw
          · have hw := hwf c7; clear hwt hwf
            refine z_iconst F dX6_given_41 42 rfl zki_1 ?_
            refine z_goto F dX6_given_42 46 rfl ?_
            exact xX6_given_46 x1 x2 x3 x4 x5 1 oI oR F hRt ih hw
      · have hw := hwf c2; clear hwt hwf
        refine z_iconst F dX6_given_19 20 rfl zki_1 ?_
        refine z_istore (lv' := [(6, .int 1), (0, .ref (aO 0)), (1, .int x1), (2, .int x2), (3, .int x3), (4, .int x4), (5, .int x5)]) F dX6_given_20 22 rfl (by decide) rfl ?_
        refine z_goto F dX6_given_22 116 rfl ?_
        refine z_lv (lv' := [(0, .ref (aO 0)), (1, .int x1), (2, .int x2), (3, .int x3), (4, .int x4), (5, .int x5), (6, .int 1)]) [1, 2, 3, 4, 5, 6, 0] rfl ?_
        exact xX6_given_116 x1 x2 x3 x4 x5 1 oI oR F hRt ih hw
set_option maxHeartbeats 4000000 in
set_option maxRecDepth 100000 in
theorem xX6_given_0 {C : zC} {D : va_G} {cyI cyB : ClassId} {aO : Nat → Nat} (x1 : Int32) (x2 : Int32) (x3 : Int32) (oI : Nat → Int32) (oR : Nat → Nat → Int32) (F : zF C D { frames := 0, cells := 0, slots := 0, locals := 0 } cX6_given 7 wsX6_given RX6 (some .int) cyI cyB) {post : Int32 → Prop} (hRt : zRi C D cX6_given 7 (S := (Unit)) (fun u => (wMo aO cyI oI oR)) (fun r u => post r )) (hw : pX6_given x1 x2 x3 oI oR post) : zX C D 7 0 0 (wMo aO cyI oI oR) 0 [(0, .ref (aO 0)), (1, .int x1), (2, .int x2), (3, .int x3)] [] := by
  refine z_iconst F dX6_given_0 1 rfl zki_0 ?_
  refine z_istore (lv' := [(4, .int 0), (0, .ref (aO 0)), (1, .int x1), (2, .int x2), (3, .int x3)]) F dX6_given_1 3 rfl (by decide) rfl ?_
  refine z_iconst F dX6_given_3 4 rfl zki_0 ?_
  refine z_istore (lv' := [(5, .int 0), (4, .int 0), (0, .ref (aO 0)), (1, .int x1), (2, .int x2), (3, .int x3)]) F dX6_given_4 6 rfl (by decide) rfl ?_
  obtain ⟨n1, hw⟩ := hw
  refine z_lv (lv' := [(0, .ref (aO 0)), (1, .int x1), (2, .int x2), (3, .int x3), (4, .int 0), (5, .int 0)]) [2, 3, 4, 5, 1, 0] rfl ?_
  refine xX6_given_6 x1 x2 x3 oI oR F hRt n1 0 0 hw
set_option maxHeartbeats 4000000 in
set_option maxRecDepth 100000 in
theorem mX6_given (l : Launch) (D : va_G) (cyI cyB : ClassId) (aO : Nat → Nat) (x1 : Int32) (x2 : Int32) (x3 : Int32) (oI : Nat → Int32) (oR : Nat → Nat → Int32) {post : Int32 → Prop} (hw : pX6_given x1 x2 x3 oI oR post) : zMi l yX6_given wsX6_given 0 0 D cyI cyB [.ref (aO 0), .int x1, .int x2, .int x3] (wMo aO cyI oI oR) (S := (Unit)) (fun u => (wMo aO cyI oI oR)) (fun r u => post r ) :=
  z_meti (cc := cX6_given) (nL := 7) (by decide +kernel) rfl (Nat.le_of_ble_eq_true rfl) (fun C hl F hRt => xX6_given_0 x1 x2 x3 oI oR F hRt hw)
theorem y_X6_given : zY yX6_given wsX6_given cX6_given 7 (some .int) 3 := ⟨⟨_, rfl⟩, by decide +kernel⟩
theorem iX6_count_6 : ∀ w ∈ wsX60, w ∈ wsX6_count := fun w h => List.mem_cons_of_mem _ (List.mem_append_right _ h)
theorem kX6_count_7 : zL wsX6_count RX6 7 6 0 (.array .int) true := zL6 iX6_count_6 (by decide) (List.mem_of_getElem? (i := 1) rfl) rfl rfl
theorem kX6_count_13 : zL wsX6_count RX6 13 6 1 (.array .int) true := zL6 iX6_count_6 (by decide) (List.mem_of_getElem? (i := 7) rfl) rfl rfl
theorem kX6_count_40 : zL wsX6_count RX6 40 6 10 .int false := zL6 iX6_count_6 (by decide) (List.mem_of_getElem? (i := 2) rfl) rfl rfl
theorem kX6_count_72 : zL wsX6_count RX6 72 6 11 .int false := zL6 iX6_count_6 (by decide) (List.mem_of_getElem? (i := 3) rfl) rfl rfl
theorem kX6_count_86 : zL wsX6_count RX6 86 6 14 .int false := zL6 iX6_count_6 (by decide) (List.mem_of_getElem? (i := 6) rfl) rfl rfl
theorem kX6_count_102 : zL wsX6_count RX6 102 6 12 .int false := zL6 iX6_count_6 (by decide) (List.mem_of_getElem? (i := 4) rfl) rfl rfl
theorem kX6_count_116 : zL wsX6_count RX6 116 6 13 .int false := zL6 iX6_count_6 (by decide) (List.mem_of_getElem? (i := 5) rfl) rfl rfl
theorem kX6_count_125 : zL wsX6_count RX6 125 6 17 .int false := zL6 iX6_count_6 (by decide) (List.mem_of_getElem? (i := 8) rfl) rfl rfl
theorem kX6_count_221 : zL wsX6_count RX6 221 6 26 .int false := zL6 iX6_count_6 (by decide) (List.mem_of_getElem? (i := 9) rfl) rfl rfl
set_option maxHeartbeats 4000000 in
set_option maxRecDepth 100000 in
theorem xX6_count_108 {C : zC} {D : va_G} {cyI cyB : ClassId} {aO : Nat → Nat} (oI : Nat → Int32) (oR : Nat → Nat → Int32) (F : zF C D { frames := 1, cells := 0, slots := 0, locals := 22 } cX6_count 4 wsX6_count RX6 (some .int) cyI cyB) {post : Int32 → Prop} (hRt : zRi C D cX6_count 4 (S := (Unit)) (fun u => (wMo aO cyI oI oR)) (fun r u => post r )) : ∀ (n : Nat) (x2 : Int32) (x3 : Int32), bX6_count_108 oI oR post  n x2 x3 → zX C D 4 0 0 (wMo aO cyI oI oR) 108 [(0, .ref (aO 0)), (2, .int x2), (3, .int x3)] [] := by
  intro n
  induction n with
  | zero => intro _ _ hw; exact hw.elim
  | succ n ih =>
    intro x2 x3 hw
    refine z_iload_n F dX6_count_108 109 rfl 2 rfl ?_
    refine z_aload_n F dX6_count_109 110 rfl 0 rfl ?_
    refine z_get F dX6_count_110 113 rfl kX6_count_72 0 rfl rfl ?_
    obtain ⟨hwt, hwf⟩ := hw
    refine z_icmpge F dX6_count_113 134 rfl 116 rfl (fun c2 => ?_) (fun c2 => ?_)
    · have hw := hwt c2; clear hwt hwf
      refine z_iload_n F dX6_count_134 135 rfl 1 rfl ?_
      exact hRt 135 _ x2 () dX6_count_135 hw
    · have hw := hwf c2; clear hwt hwf
      refine z_iload_n F dX6_count_116 117 rfl 1 rfl ?_
      refine z_aload_n F dX6_count_117 118 rfl 0 rfl ?_
      refine z_get F dX6_count_118 121 rfl kX6_count_13 0 rfl rfl ?_
      refine z_iload_n F dX6_count_121 122 rfl 2 rfl ?_
      obtain ⟨j1, ej1, hj1, hw⟩ := hw
      refine z_iald F dX6_count_122 123 rfl 2 rfl (by decide) j1 ej1 hj1 ?_
      refine z_callSi (As := [.int ((oR 1) j1)]) (st := [.int x2]) F dX6_count_123 126 rfl (mX6_bits C.1.2.1 D cyI cyB ((oR 1) j1) hw) y_X6_bits rfl gX6_count_X6_bits ⟨Nat.le_of_ble_eq_true rfl, Nat.le_of_ble_eq_true rfl⟩ ⟨Nat.zero_le _, Nat.zero_le _⟩ (Nat.le_of_ble_eq_true rfl) [] (by decide) rfl (fun _ => rfl) (fun u => (wMo aO cyI oI oR)) (fun _ => rfl) (fun r2 u hp => ?_)
      replace hw := hp
      clear hp
      refine z_iadd F dX6_count_126 127 rfl ?_
      refine z_topi (fun v1 ev1 => ?_)
      replace hw := hw v1 ev1
      refine z_istore_n (lv' := [(2, .int v1), (0, .ref (aO 0)), (3, .int x3)]) F dX6_count_127 128 rfl (by decide) rfl ?_
      refine z_iinc F dX6_count_128 131 rfl 2 rfl (by decide) zki_1 (fun v2 => [(3, .int v2), (2, .int v1), (0, .ref (aO 0))]) (fun _ => rfl) (fun v2 ev2 => ?_)
      replace hw := hw v2 ev2
      refine z_goto F dX6_count_131 108 rfl ?_
      refine z_lv (lv' := [(0, .ref (aO 0)), (2, .int v1), (3, .int v2)]) [2, 1, 0] rfl ?_
      exact ih v1 v2 hw
set_option maxHeartbeats 4000000 in
set_option maxRecDepth 100000 in
theorem xX6_count_0 {C : zC} {D : va_G} {cyI cyB : ClassId} {aO : Nat → Nat} (x1 : Int32) (oI : Nat → Int32) (oR : Nat → Nat → Int32) (F : zF C D { frames := 1, cells := 0, slots := 0, locals := 22 } cX6_count 4 wsX6_count RX6 (some .int) cyI cyB) {post : Int32 → Prop} (hRt : zRi C D cX6_count 4 (S := (Unit)) (fun u => (wMo aO cyI oI oR)) (fun r u => post r )) (hw : pX6_count x1 oI oR post) : zX C D 4 0 0 (wMo aO cyI oI oR) 0 [(0, .ref (aO 0)), (1, .int x1)] [] := by
  refine z_iload_n F dX6_count_0 1 rfl 1 rfl ?_
  refine z_bipush F dX6_count_1 3 rfl zkb_11 ?_
  refine z_bipush F dX6_count_3 5 rfl zkb_16 ?_
  refine z_callSi (As := [.int x1, .int 11, .int 16]) (st := []) F dX6_count_5 8 rfl (mX6_isIn C.1.2.1 D cyI cyB x1 11 16 hw) y_X6_isIn rfl gX6_count_X6_isIn ⟨Nat.le_of_ble_eq_true rfl, Nat.le_of_ble_eq_true rfl⟩ ⟨Nat.zero_le _, Nat.zero_le _⟩ (Nat.le_of_ble_eq_true rfl) [] (by decide) rfl (fun _ => rfl) (fun u => (wMo aO cyI oI oR)) (fun _ => rfl) (fun r0 u hp => ?_)
  obtain ⟨b1, rfl, hw⟩ := hp
  obtain ⟨hwt, hwf⟩ := hw
  refine z_ifeqB F dX6_count_8 21 rfl 11 rfl (fun c1 => ?_) (fun c1 => ?_)
  · have hw := hwt c1; clear hwt hwf
    refine z_iconst F dX6_count_21 22 rfl zki_0 ?_
    refine z_istore_n (lv' := [(2, .int 0), (0, .ref (aO 0)), (1, .int x1)]) F dX6_count_22 23 rfl (by decide) rfl ?_
    refine z_iload_n F dX6_count_23 24 rfl 2 rfl ?_
    obtain ⟨hs0, hs1, hs2, hs3, hs4, hs5, hs6, hs7, hs8, hwd⟩ := hw
    by_cases cs0 : x1 = 0
    · have hw := hs0 cs0; clear hs0 hs1 hs2 hs3 hs4 hs5 hs6 hs7 hs8 hwd
      refine z_tab (off := 52) F dX6_count_24 76 (by rw [cs0]; decide +kernel) (by rw [cs0]; decide +kernel) (by rw [cs0]; decide +kernel) rfl ?_
      refine z_aload_n F dX6_count_76 77 rfl 1 rfl ?_
      refine z_get F dX6_count_77 80 rfl kX6_count_40 0 rfl rfl ?_
      exact hRt 80 _ (oI 10) () dX6_count_80 hw
    by_cases cs1 : x1 = 1
    · have hw := hs1 cs1; clear hs0 hs1 hs2 hs3 hs4 hs5 hs6 hs7 hs8 hwd
      refine z_tab (off := 57) F dX6_count_24 81 (by rw [cs1]; decide +kernel) (by rw [cs1]; decide +kernel) (by rw [cs1]; decide +kernel) rfl ?_
      refine z_aload_n F dX6_count_81 82 rfl 1 rfl ?_
      refine z_get F dX6_count_82 85 rfl kX6_count_72 0 rfl rfl ?_
      exact hRt 85 _ (oI 11) () dX6_count_85 hw
    by_cases cs2 : x1 = 2
    · have hw := hs2 cs2; clear hs0 hs1 hs2 hs3 hs4 hs5 hs6 hs7 hs8 hwd
      refine z_tab (off := 62) F dX6_count_24 86 (by rw [cs2]; decide +kernel) (by rw [cs2]; decide +kernel) (by rw [cs2]; decide +kernel) rfl ?_
      refine z_aload_n F dX6_count_86 87 rfl 1 rfl ?_
      refine z_segVi (As := []) (st := []) F dX6_count_87 90 rfl (mX6_overSet C.1.2.1 D cyI cyB aO oI oR hw) y_X6_overSet rfl gX6_count_X6_overSet rfl (ci := 6) (rq := 0) rfl rfl ⟨Nat.le_of_ble_eq_true rfl, Nat.le_of_ble_eq_true rfl⟩ ⟨Nat.zero_le _, Nat.zero_le _⟩ (Nat.le_of_ble_eq_true rfl) [] [] (by simp only [List.append_assoc, List.nil_append, List.append_nil]) (fun _ => rfl) (fun u => (wMo aO cyI oI oR)) (fun u => (by simp only [List.append_assoc, List.nil_append, List.append_nil])) (fun r1 u hp => ?_)
      replace hw := hp
      clear hp
      exact hRt 90 _ r1 () dX6_count_90 hw
    by_cases cs3 : x1 = 3
    · have hw := hs3 cs3; clear hs0 hs1 hs2 hs3 hs4 hs5 hs6 hs7 hs8 hwd
      refine z_tab (off := 67) F dX6_count_24 91 (by rw [cs3]; decide +kernel) (by rw [cs3]; decide +kernel) (by rw [cs3]; decide +kernel) rfl ?_
      refine z_aload_n F dX6_count_91 92 rfl 1 rfl ?_
      refine z_get F dX6_count_92 95 rfl kX6_count_102 0 rfl rfl ?_
      exact hRt 95 _ (oI 12) () dX6_count_95 hw
    by_cases cs4 : x1 = 4
    · have hw := hs4 cs4; clear hs0 hs1 hs2 hs3 hs4 hs5 hs6 hs7 hs8 hwd
      refine z_tab (off := 72) F dX6_count_24 96 (by rw [cs4]; decide +kernel) (by rw [cs4]; decide +kernel) (by rw [cs4]; decide +kernel) rfl ?_
      refine z_aload_n F dX6_count_96 97 rfl 1 rfl ?_
      refine z_get F dX6_count_97 100 rfl kX6_count_116 0 rfl rfl ?_
      exact hRt 100 _ (oI 13) () dX6_count_100 hw
    by_cases cs5 : x1 = 5
    · have hw := hs5 cs5; clear hs0 hs1 hs2 hs3 hs4 hs5 hs6 hs7 hs8 hwd
      refine z_tab (off := 77) F dX6_count_24 101 (by rw [cs5]; decide +kernel) (by rw [cs5]; decide +kernel) (by rw [cs5]; decide +kernel) rfl ?_
      refine z_aload_n F dX6_count_101 102 rfl 1 rfl ?_
      refine z_get F dX6_count_102 105 rfl kX6_count_86 0 rfl rfl ?_
      exact hRt 105 _ (oI 14) () dX6_count_105 hw
    by_cases cs6 : x1 = 6
    · have hw := hs6 cs6; clear hs0 hs1 hs2 hs3 hs4 hs5 hs6 hs7 hs8 hwd
      refine z_tab (off := 82) F dX6_count_24 106 (by rw [cs6]; decide +kernel) (by rw [cs6]; decide +kernel) (by rw [cs6]; decide +kernel) rfl ?_
      refine z_iconst F dX6_count_106 107 rfl zki_0 ?_
      refine z_istore_n (lv' := [(3, .int 0), (2, .int 0), (0, .ref (aO 0)), (1, .int x1)]) F dX6_count_107 108 rfl (by decide) rfl ?_
      obtain ⟨n1, hw⟩ := hw
      refine z_lv (lv' := [(0, .ref (aO 0)), (2, .int 0), (3, .int 0)]) [2, 1, 0] rfl ?_
      refine xX6_count_108 oI oR F hRt n1 0 0 hw
    by_cases cs7 : x1 = 7
    · have hw := hs7 cs7; clear hs0 hs1 hs2 hs3 hs4 hs5 hs6 hs7 hs8 hwd
      refine z_tab (off := 112) F dX6_count_24 136 (by rw [cs7]; decide +kernel) (by rw [cs7]; decide +kernel) (by rw [cs7]; decide +kernel) rfl ?_
      refine z_aload_n F dX6_count_136 137 rfl 1 rfl ?_
      refine z_get F dX6_count_137 140 rfl kX6_count_125 0 rfl rfl ?_
      exact hRt 140 _ (oI 17) () dX6_count_140 hw
    by_cases cs8 : x1 = 8
    · have hw := hs8 cs8; clear hs0 hs1 hs2 hs3 hs4 hs5 hs6 hs7 hs8 hwd
      refine z_tab (off := 117) F dX6_count_24 141 (by rw [cs8]; decide +kernel) (by rw [cs8]; decide +kernel) (by rw [cs8]; decide +kernel) rfl ?_
      refine z_aload_n F dX6_count_141 142 rfl 1 rfl ?_
      refine z_get F dX6_count_142 145 rfl kX6_count_221 0 rfl rfl ?_
      exact hRt 145 _ (oI 26) () dX6_count_145 hw
    have hw := hwd cs0 cs1 cs2 cs3 cs4 cs5 cs6 cs7 cs8; clear hs0 hs1 hs2 hs3 hs4 hs5 hs6 hs7 hs8 hwd
    refine z_tabD F dX6_count_24 146 (z_out9 cs0 cs1 cs2 cs3 cs4 cs5 cs6 cs7 cs8) rfl ?_
    refine z_bipush F dX6_count_146 148 rfl zkb_m9 ?_
    exact hRt 148 _ (-9) () dX6_count_148 hw
  · have hw := hwf c1; clear hwt hwf
    refine z_aload_n F dX6_count_11 12 rfl 0 rfl ?_
    refine z_get F dX6_count_12 15 rfl kX6_count_7 0 rfl rfl ?_
    refine z_iload_n F dX6_count_15 16 rfl 1 rfl ?_
    refine z_bipush F dX6_count_16 18 rfl zkb_10 ?_
    refine z_isub F dX6_count_18 19 rfl ?_
    obtain ⟨j1, ej1, hj1, hw⟩ := hw
    refine z_iald F dX6_count_19 20 rfl 1 rfl (by decide) j1 ej1 hj1 ?_
    exact hRt 20 _ ((oR 0) j1) () dX6_count_20 hw
set_option maxHeartbeats 4000000 in
set_option maxRecDepth 100000 in
theorem mX6_count (l : Launch) (D : va_G) (cyI cyB : ClassId) (aO : Nat → Nat) (x1 : Int32) (oI : Nat → Int32) (oR : Nat → Nat → Int32) {post : Int32 → Prop} (hw : pX6_count x1 oI oR post) : zMi l yX6_count wsX6_count 1 22 D cyI cyB [.ref (aO 0), .int x1] (wMo aO cyI oI oR) (S := (Unit)) (fun u => (wMo aO cyI oI oR)) (fun r u => post r ) :=
  z_meti (cc := cX6_count) (nL := 4) (by decide +kernel) rfl (Nat.le_of_ble_eq_true rfl) (fun C hl F hRt => xX6_count_0 x1 oI oR F hRt hw)
theorem y_X6_count : zY yX6_count wsX6_count cX6_count 4 (some .int) 1 := ⟨⟨_, rfl⟩, by decide +kernel⟩
theorem iX6_no_6 : ∀ w ∈ wsX60, w ∈ wsX6_no := fun w h => List.mem_cons_of_mem _ (List.mem_append_right _ h)
theorem kX6_no_7 : zL wsX6_no RX6 7 6 0 (.array .int) true := zL6 iX6_no_6 (by decide) (List.mem_of_getElem? (i := 1) rfl) rfl rfl
set_option maxHeartbeats 4000000 in
set_option maxRecDepth 100000 in
theorem xX6_no_0 {C : zC} {D : va_G} {cyI cyB : ClassId} {aO : Nat → Nat} (x1 : Int32) (oI : Nat → Int32) (oR : Nat → Nat → Int32) (F : zF C D { frames := 0, cells := 0, slots := 0, locals := 0 } cX6_no 2 wsX6_no RX6 (some .int) cyI cyB) {post : Int32 → (Nat → Int32) → (Nat → Nat → Int32) → Prop} (hRt : zRi C D cX6_no 2 (S := ((Nat → Int32) × (Nat → Nat → Int32))) (fun u => (wMo aO cyI u.1 u.2)) (fun r u => post r u.1 u.2)) (hw : pX6_no x1 oI oR post) : zX C D 2 0 0 (wMo aO cyI oI oR) 0 [(0, .ref (aO 0)), (1, .int x1)] [] := by
  refine z_aload_n F dX6_no_0 1 rfl 0 rfl ?_
  refine z_get F dX6_no_1 4 rfl kX6_no_7 0 rfl rfl ?_
  refine z_iload_n F dX6_no_4 5 rfl 1 rfl ?_
  refine z_ineg F dX6_no_5 6 rfl ?_
  refine z_dup2 F dX6_no_6 7 rfl rfl rfl ?_
  obtain ⟨j1, ej1, hj1, hw⟩ := hw
  refine z_iald F dX6_no_7 8 rfl 1 rfl (by decide) j1 ej1 hj1 ?_
  refine z_iconst F dX6_no_8 9 rfl zki_1 ?_
  refine z_iadd F dX6_no_9 10 rfl ?_
  refine z_topi (fun v1 ev1 => ?_)
  replace hw := hw v1 ev1
  refine z_iast F dX6_no_10 11 rfl 1 rfl (by decide) j1 ej1 hj1 (wMo aO cyI oI (va_up oR 0 (upd (oR 0) j1 v1))) rfl ?_
  refine z_iload_n F dX6_no_11 12 rfl 1 rfl ?_
  exact hRt 12 _ x1 (oI, (va_up oR 0 (upd (oR 0) j1 v1))) dX6_no_12 hw
set_option maxHeartbeats 4000000 in
set_option maxRecDepth 100000 in
theorem mX6_no (l : Launch) (D : va_G) (cyI cyB : ClassId) (aO : Nat → Nat) (x1 : Int32) (oI : Nat → Int32) (oR : Nat → Nat → Int32) {post : Int32 → (Nat → Int32) → (Nat → Nat → Int32) → Prop} (hw : pX6_no x1 oI oR post) : zMi l yX6_no wsX6_no 0 0 D cyI cyB [.ref (aO 0), .int x1] (wMo aO cyI oI oR) (S := ((Nat → Int32) × (Nat → Nat → Int32))) (fun u => (wMo aO cyI u.1 u.2)) (fun r u => post r u.1 u.2) :=
  z_meti (cc := cX6_no) (nL := 2) (by decide +kernel) rfl (Nat.le_of_ble_eq_true rfl) (fun C hl F hRt => xX6_no_0 x1 oI oR F hRt hw)
theorem y_X6_no : zY yX6_no wsX6_no cX6_no 2 (some .int) 1 := ⟨⟨_, rfl⟩, by decide +kernel⟩
theorem iX6_steps_6 : ∀ w ∈ wsX60, w ∈ wsX6_steps := fun w h => List.mem_cons_of_mem _ (List.mem_append_right _ h)
theorem kX6_steps_13 : zL wsX6_steps RX6 13 6 1 (.array .int) true := zL6 iX6_steps_6 (by decide) (List.mem_of_getElem? (i := 3) rfl) rfl rfl
theorem kX6_steps_34 : zL wsX6_steps RX6 34 6 8 (.array .int) true := zL6 iX6_steps_6 (by decide) (List.mem_of_getElem? (i := 6) rfl) rfl rfl
theorem kX6_steps_37 : zL wsX6_steps RX6 37 6 9 (.array .int) true := zL6 iX6_steps_6 (by decide) (List.mem_of_getElem? (i := 7) rfl) rfl rfl
theorem kX6_steps_40 : zL wsX6_steps RX6 40 6 10 .int false := zL6 iX6_steps_6 (by decide) (List.mem_of_getElem? (i := 1) rfl) rfl rfl
theorem kX6_steps_72 : zL wsX6_steps RX6 72 6 11 .int false := zL6 iX6_steps_6 (by decide) (List.mem_of_getElem? (i := 2) rfl) rfl rfl
theorem kX6_steps_83 : zL wsX6_steps RX6 83 6 15 .int false := zL6 iX6_steps_6 (by decide) (List.mem_of_getElem? (i := 4) rfl) rfl rfl
theorem kX6_steps_86 : zL wsX6_steps RX6 86 6 14 .int false := zL6 iX6_steps_6 (by decide) (List.mem_of_getElem? (i := 5) rfl) rfl rfl
set_option maxHeartbeats 4000000 in
set_option maxRecDepth 100000 in
theorem xX6_steps_31 {C : zC} {D : va_G} {cyI cyB : ClassId} {aO : Nat → Nat} (x3 : Int32) (F : zF C D { frames := 2, cells := 0, slots := 0, locals := 41 } cX6_steps 6 wsX6_steps RX6 (some .int) cyI cyB) {post : Int32 → (Nat → Int32) → (Nat → Nat → Int32) → Prop} (hRt : zRi C D cX6_steps 6 (S := ((Nat → Int32) × (Nat → Nat → Int32))) (fun u => (wMo aO cyI u.1 u.2)) (fun r u => post r u.1 u.2)) {k60 : (Nat → Int32) → (Nat → Nat → Int32) → Prop} (hk60 : ∀ (oI : Nat → Int32) (oR : Nat → Nat → Int32), k60 oI oR → zX C D 6 0 0 (wMo aO cyI oI oR) 60 [(0, .ref (aO 0)), (3, .int x3)] []) : ∀ (n : Nat) (x4 : Int32) (oI : Nat → Int32) (oR : Nat → Nat → Int32), bX6_steps_31 x3 post k60  n x4 oI oR → zX C D 6 0 0 (wMo aO cyI oI oR) 31 [(0, .ref (aO 0)), (3, .int x3), (4, .int x4)] [] := by
  intro n
  induction n with
  | zero => intro _ _ _ hw; exact hw.elim
  | succ n ih =>
    intro x4 oI oR hw
    refine z_iload F dX6_steps_31 33 rfl 2 rfl ?_
    refine z_aload_n F dX6_steps_33 34 rfl 0 rfl ?_
    refine z_get F dX6_steps_34 37 rfl kX6_steps_72 0 rfl rfl ?_
    obtain ⟨hwt, hwf⟩ := hw
    refine z_icmpge F dX6_steps_37 60 rfl 40 rfl (fun c2 => ?_) (fun c2 => ?_)
    · have hw := hwt c2; clear hwt hwf
      refine z_lv (lv' := [(0, .ref (aO 0)), (3, .int x3)]) [0, 1] rfl ?_
      exact hk60 oI oR hw
    · have hw := hwf c2; clear hwt hwf
      refine z_aload_n F dX6_steps_40 41 rfl 0 rfl ?_
      refine z_get F dX6_steps_41 44 rfl kX6_steps_13 0 rfl rfl ?_
      refine z_iload F dX6_steps_44 46 rfl 2 rfl ?_
      refine z_dup2 F dX6_steps_46 47 rfl rfl rfl ?_
      obtain ⟨j1, ej1, hj1, hw⟩ := hw
      refine z_iald F dX6_steps_47 48 rfl 2 rfl (by decide) j1 ej1 hj1 ?_
      refine z_aload_n F dX6_steps_48 49 rfl 0 rfl ?_
      refine z_segVi (As := []) (st := [.int ((oR 1) j1), .int x4, .ref (aO 2)]) F dX6_steps_49 52 rfl (mX6_all C.1.2.1 D cyI cyB aO oI oR hw) y_X6_all rfl gX6_steps_X6_all rfl (ci := 6) (rq := 0) rfl rfl ⟨Nat.le_of_ble_eq_true rfl, Nat.le_of_ble_eq_true rfl⟩ ⟨Nat.zero_le _, Nat.zero_le _⟩ (Nat.le_of_ble_eq_true rfl) [] [] (by simp only [List.append_assoc, List.nil_append, List.append_nil]) (fun _ => rfl) (fun u => (wMo aO cyI oI oR)) (fun u => (by simp only [List.append_assoc, List.nil_append, List.append_nil])) (fun r2 u hp => ?_)
      replace hw := hp
      clear hp
      refine z_iand F dX6_steps_52 53 rfl ?_
      refine z_topi (fun v1 ev1 => ?_)
      replace hw := hw v1 ev1
      refine z_iast F dX6_steps_53 54 rfl 2 rfl (by decide) j1 ej1 hj1 (wMo aO cyI oI (va_up oR 1 (upd (oR 1) j1 v1))) rfl ?_
      refine z_iinc F dX6_steps_54 57 rfl 2 rfl (by decide) zki_1 (fun v2 => [(4, .int v2), (0, .ref (aO 0)), (3, .int x3)]) (fun _ => rfl) (fun v2 ev2 => ?_)
      replace hw := hw v2 ev2
      refine z_goto F dX6_steps_57 31 rfl ?_
      refine z_lv (lv' := [(0, .ref (aO 0)), (3, .int x3), (4, .int v2)]) [1, 2, 0] rfl ?_
      exact ih v2 oI (va_up oR 1 (upd (oR 1) j1 v1)) hw
set_option maxHeartbeats 4000000 in
set_option maxRecDepth 100000 in
theorem xX6_steps_79 {C : zC} {D : va_G} {cyI cyB : ClassId} {aO : Nat → Nat} (x3 : Int32) (F : zF C D { frames := 2, cells := 0, slots := 0, locals := 41 } cX6_steps 6 wsX6_steps RX6 (some .int) cyI cyB) {post : Int32 → (Nat → Int32) → (Nat → Nat → Int32) → Prop} (hRt : zRi C D cX6_steps 6 (S := ((Nat → Int32) × (Nat → Nat → Int32))) (fun u => (wMo aO cyI u.1 u.2)) (fun r u => post r u.1 u.2)) : ∀ (n : Nat) (x4 : Int32) (x5 : Int32) (oI : Nat → Int32) (oR : Nat → Nat → Int32), bX6_steps_79 x3 post  n x4 x5 oI oR → zX C D 6 0 0 (wMo aO cyI oI oR) 79 [(0, .ref (aO 0)), (3, .int x3), (4, .int x4), (5, .int x5)] [] := by
  intro n
  induction n with
  | zero => intro _ _ _ _ hw; exact hw.elim
  | succ n ih =>
    intro x4 x5 oI oR hw
    refine z_iload F dX6_steps_79 81 rfl 3 rfl ?_
    refine z_aload_n F dX6_steps_81 82 rfl 0 rfl ?_
    refine z_get F dX6_steps_82 85 rfl kX6_steps_86 0 rfl rfl ?_
    obtain ⟨hwt, hwf⟩ := hw
    refine z_icmpge F dX6_steps_85 156 rfl 88 rfl (fun c2 => ?_) (fun c2 => ?_)
    · have hw := hwt c2; clear hwt hwf
      refine z_aload_n F dX6_steps_156 157 rfl 0 rfl ?_
      refine z_iload F dX6_steps_157 159 rfl 2 rfl ?_
      refine z_put F dX6_steps_159 162 rfl kX6_steps_86 0 rfl rfl rfl (Nat.le_of_ble_eq_true rfl) (wMo aO cyI (va_up oI 14 x4) oR) rfl ?_
      refine z_iload_n F dX6_steps_162 163 rfl 1 rfl ?_
      exact hRt 163 _ x3 ((va_up oI 14 x4), oR) dX6_steps_163 hw
    · have hw := hwf c2; clear hwt hwf
      refine z_aload_n F dX6_steps_88 89 rfl 0 rfl ?_
      refine z_aload_n F dX6_steps_89 90 rfl 0 rfl ?_
      refine z_get F dX6_steps_90 93 rfl kX6_steps_34 0 rfl rfl ?_
      refine z_iload F dX6_steps_93 95 rfl 3 rfl ?_
      obtain ⟨j1, ej1, hj1, hw⟩ := hw
      refine z_iald F dX6_steps_95 96 rfl 9 rfl (by decide) j1 ej1 hj1 ?_
      refine z_segVi (As := [.int ((oR 8) j1)]) (st := []) F dX6_steps_96 99 rfl (mX6_isSet C.1.2.1 D cyI cyB aO ((oR 8) j1) oI oR hw) y_X6_isSet rfl gX6_steps_X6_isSet rfl (ci := 6) (rq := 0) rfl rfl ⟨Nat.le_of_ble_eq_true rfl, Nat.le_of_ble_eq_true rfl⟩ ⟨Nat.zero_le _, Nat.zero_le _⟩ (Nat.le_of_ble_eq_true rfl) [] [] (by simp only [List.append_assoc, List.nil_append, List.append_nil]) (fun _ => rfl) (fun u => (wMo aO cyI oI oR)) (fun u => (by simp only [List.append_assoc, List.nil_append, List.append_nil])) (fun r0 u hp => ?_)
      obtain ⟨b1, rfl, hw⟩ := hp
      obtain ⟨hwt, hwf⟩ := hw
      refine z_ifeqB F dX6_steps_99 150 rfl 102 rfl (fun c3 => ?_) (fun c3 => ?_)
      · have hw := hwt c3; clear hwt hwf
        refine z_iinc F dX6_steps_150 153 rfl 3 rfl (by decide) zki_1 (fun v2 => [(5, .int v2), (0, .ref (aO 0)), (3, .int x3), (4, .int x4)]) (fun _ => rfl) (fun v2 ev2 => ?_)
        replace hw := hw v2 ev2
        refine z_goto F dX6_steps_153 79 rfl ?_
        refine z_lv (lv' := [(0, .ref (aO 0)), (3, .int x3), (4, .int x4), (5, .int v2)]) [1, 2, 3, 0] rfl ?_
        exact ih x4 v2 oI oR hw
      · have hw := hwf c3; clear hwt hwf
        refine z_aload_n F dX6_steps_102 103 rfl 0 rfl ?_
        refine z_aload_n F dX6_steps_103 104 rfl 0 rfl ?_
        refine z_get F dX6_steps_104 107 rfl kX6_steps_37 0 rfl rfl ?_
        refine z_iload F dX6_steps_107 109 rfl 3 rfl ?_
        refine z_iald F dX6_steps_109 110 rfl 10 rfl (by decide) j1 ej1 hj1 ?_
        refine z_segVi (As := [.int ((oR 9) j1)]) (st := []) F dX6_steps_110 113 rfl (mX6_isStep C.1.2.1 D cyI cyB aO ((oR 9) j1) oI oR hw) y_X6_isStep rfl gX6_steps_X6_isStep rfl (ci := 6) (rq := 0) rfl rfl ⟨Nat.le_of_ble_eq_true rfl, Nat.le_of_ble_eq_true rfl⟩ ⟨Nat.zero_le _, Nat.zero_le _⟩ (Nat.le_of_ble_eq_true rfl) [] [] (by simp only [List.append_assoc, List.nil_append, List.append_nil]) (fun _ => rfl) (fun u => (wMo aO cyI oI oR)) (fun u => (by simp only [List.append_assoc, List.nil_append, List.append_nil])) (fun r0 u hp => ?_)
        obtain ⟨b2, rfl, hw⟩ := hp
        obtain ⟨hwt, hwf⟩ := hw
        refine z_ifneB F dX6_steps_113 119 rfl 116 rfl (fun c4 => ?_) (fun c4 => ?_)
        · have hw := hwt c4; clear hwt hwf
          refine z_aload_n F dX6_steps_119 120 rfl 0 rfl ?_
          refine z_get F dX6_steps_120 123 rfl kX6_steps_34 0 rfl rfl ?_
          refine z_iload F dX6_steps_123 125 rfl 2 rfl ?_
          refine z_aload_n F dX6_steps_125 126 rfl 0 rfl ?_
          refine z_get F dX6_steps_126 129 rfl kX6_steps_34 0 rfl rfl ?_
          refine z_iload F dX6_steps_129 131 rfl 3 rfl ?_
          refine z_iald F dX6_steps_131 132 rfl 9 rfl (by decide) j1 ej1 hj1 ?_
          refine z_topi (fun v3 ev3 => ?_)
          replace hw := hw v3 ev3
          obtain ⟨j2, ej2, hj2, hw⟩ := hw
          refine z_iast F dX6_steps_132 133 rfl 9 rfl (by decide) j2 ej2 hj2 (wMo aO cyI oI (va_up oR 8 (upd (oR 8) j2 v3))) rfl ?_
          refine z_aload_n F dX6_steps_133 134 rfl 0 rfl ?_
          refine z_get F dX6_steps_134 137 rfl kX6_steps_37 0 rfl rfl ?_
          refine z_iload F dX6_steps_137 139 rfl 2 rfl ?_
          refine z_aload_n F dX6_steps_139 140 rfl 0 rfl ?_
          refine z_get F dX6_steps_140 143 rfl kX6_steps_37 0 rfl rfl ?_
          refine z_iload F dX6_steps_143 145 rfl 3 rfl ?_
          refine z_iald F dX6_steps_145 146 rfl 10 rfl (by decide) j1 ej1 hj1 ?_
          refine z_topi (fun v4 ev4 => ?_)
          replace hw := hw v4 ev4
          refine z_iast F dX6_steps_146 147 rfl 10 rfl (by decide) j2 ej2 hj2 (wMo aO cyI oI (va_up (va_up oR 8 (upd (oR 8) j2 v3)) 9 (upd (oR 9) j2 v4))) rfl ?_
          refine z_iinc F dX6_steps_147 150 rfl 2 rfl (by decide) zki_1 (fun v5 => [(4, .int v5), (0, .ref (aO 0)), (3, .int x3), (5, .int x5)]) (fun _ => rfl) (fun v5 ev5 => ?_)
          replace hw := hw v5 ev5
          refine z_iinc F dX6_steps_150 153 rfl 3 rfl (by decide) zki_1 (fun v6 => [(5, .int v6), (4, .int v5), (0, .ref (aO 0)), (3, .int x3)]) (fun _ => rfl) (fun v6 ev6 => ?_)
          replace hw := hw v6 ev6
          refine z_goto F dX6_steps_153 79 rfl ?_
          refine z_lv (lv' := [(0, .ref (aO 0)), (3, .int x3), (4, .int v5), (5, .int v6)]) [2, 3, 1, 0] rfl ?_
          exact ih v5 v6 oI (va_up (va_up oR 8 (upd (oR 8) j2 v3)) 9 (upd (oR 9) j2 v4)) hw
        · have hw := hwf c4; clear hwt hwf
          refine z_goto F dX6_steps_116 150 rfl ?_
          refine z_iinc F dX6_steps_150 153 rfl 3 rfl (by decide) zki_1 (fun v7 => [(5, .int v7), (0, .ref (aO 0)), (3, .int x3), (4, .int x4)]) (fun _ => rfl) (fun v7 ev7 => ?_)
          replace hw := hw v7 ev7
          refine z_goto F dX6_steps_153 79 rfl ?_
          refine z_lv (lv' := [(0, .ref (aO 0)), (3, .int x3), (4, .int x4), (5, .int v7)]) [1, 2, 3, 0] rfl ?_
          exact ih x4 v7 oI oR hw
set_option maxHeartbeats 4000000 in
set_option maxRecDepth 100000 in
theorem xX6_steps_0 {C : zC} {D : va_G} {cyI cyB : ClassId} {aO : Nat → Nat} (x1 : Int32) (oI : Nat → Int32) (oR : Nat → Nat → Int32) (F : zF C D { frames := 2, cells := 0, slots := 0, locals := 41 } cX6_steps 6 wsX6_steps RX6 (some .int) cyI cyB) {post : Int32 → (Nat → Int32) → (Nat → Nat → Int32) → Prop} (hRt : zRi C D cX6_steps 6 (S := ((Nat → Int32) × (Nat → Nat → Int32))) (fun u => (wMo aO cyI u.1 u.2)) (fun r u => post r u.1 u.2)) (hw : pX6_steps x1 oI oR post) : zX C D 6 0 0 (wMo aO cyI oI oR) 0 [(0, .ref (aO 0)), (1, .int x1)] [] := by
  refine z_iload_n F dX6_steps_0 1 rfl 1 rfl ?_
  refine z_iconst F dX6_steps_1 2 rfl zki_1 ?_
  refine z_bipush F dX6_steps_2 4 rfl zkb_10 ?_
  refine z_callSi (As := [.int x1, .int 1, .int 10]) (st := []) F dX6_steps_4 7 rfl (mX6_bound C.1.2.1 D cyI cyB x1 1 10 hw) y_X6_bound rfl gX6_steps_X6_bound ⟨Nat.le_of_ble_eq_true rfl, Nat.le_of_ble_eq_true rfl⟩ ⟨Nat.zero_le _, Nat.zero_le _⟩ (Nat.le_of_ble_eq_true rfl) [] (by decide) rfl (fun _ => rfl) (fun u => (wMo aO cyI oI oR)) (fun _ => rfl) (fun r1 u hp => ?_)
  replace hw := hp
  clear hp
  refine z_istore_n (lv' := [(2, .int r1), (0, .ref (aO 0)), (1, .int x1)]) F dX6_steps_7 8 rfl (by decide) rfl ?_
  refine z_iload_n F dX6_steps_8 9 rfl 0 rfl ?_
  obtain ⟨hwt, hwf⟩ := hw
  refine z_ifeq F dX6_steps_9 18 rfl 12 rfl (fun c1 => ?_) (fun c1 => ?_)
  · have hw := hwt c1; clear hwt hwf
    refine z_aload_n F dX6_steps_18 19 rfl 1 rfl ?_
    refine z_get F dX6_steps_19 22 rfl kX6_steps_40 0 rfl rfl ?_
    refine z_istore_n (lv' := [(3, .int (oI 10)), (2, .int r1), (0, .ref (aO 0)), (1, .int x1)]) F dX6_steps_22 23 rfl (by decide) rfl ?_
    refine z_aload_n F dX6_steps_23 24 rfl 2 rfl ?_
    refine z_iload_n F dX6_steps_24 25 rfl 3 rfl ?_
    refine z_put F dX6_steps_25 28 rfl kX6_steps_40 0 rfl rfl rfl (Nat.le_of_ble_eq_true rfl) (wMo aO cyI (va_up oI 10 x1) oR) rfl ?_
    refine z_iconst F dX6_steps_28 29 rfl zki_0 ?_
    refine z_istore (lv' := [(4, .int 0), (3, .int (oI 10)), (2, .int r1), (0, .ref (aO 0)), (1, .int x1)]) F dX6_steps_29 31 rfl (by decide) rfl ?_
    obtain ⟨n1, hw⟩ := hw
    refine z_lv (lv' := [(0, .ref (aO 0)), (3, .int (oI 10)), (4, .int 0)]) [3, 1, 0] rfl ?_
    refine xX6_steps_31 (oI 10) F hRt (fun oI_1 oR_1 hw => ?_) n1 0 (va_up oI 10 x1) oR hw
    refine z_aload_n F dX6_steps_60 61 rfl 0 rfl ?_
    refine z_dup F dX6_steps_61 62 rfl rfl ?_
    refine z_get F dX6_steps_62 65 rfl kX6_steps_83 0 rfl rfl ?_
    refine z_aload_n F dX6_steps_65 66 rfl 0 rfl ?_
    refine z_segVi (As := []) (st := [.int (oI_1 15), .ref (aO 0)]) F dX6_steps_66 69 rfl (mX6_all C.1.2.1 D cyI cyB aO oI_1 oR_1 hw) y_X6_all rfl gX6_steps_X6_all rfl (ci := 6) (rq := 0) rfl rfl ⟨Nat.le_of_ble_eq_true rfl, Nat.le_of_ble_eq_true rfl⟩ ⟨Nat.zero_le _, Nat.zero_le _⟩ (Nat.le_of_ble_eq_true rfl) [] [] (by simp only [List.append_assoc, List.nil_append, List.append_nil]) (fun _ => rfl) (fun u => (wMo aO cyI oI_1 oR_1)) (fun u => (by simp only [List.append_assoc, List.nil_append, List.append_nil])) (fun r2 u hp => ?_)
    replace hw := hp
    clear hp
    refine z_iand F dX6_steps_69 70 rfl ?_
    refine z_topi (fun v1 ev1 => ?_)
    replace hw := hw v1 ev1
    refine z_put F dX6_steps_70 73 rfl kX6_steps_83 0 rfl rfl rfl (Nat.le_of_ble_eq_true rfl) (wMo aO cyI (va_up oI_1 15 v1) oR_1) rfl ?_
    refine z_iconst F dX6_steps_73 74 rfl zki_0 ?_
    refine z_istore (lv' := [(4, .int 0), (0, .ref (aO 0)), (3, .int (oI 10))]) F dX6_steps_74 76 rfl (by decide) rfl ?_
    refine z_iconst F dX6_steps_76 77 rfl zki_0 ?_
    refine z_istore (lv' := [(5, .int 0), (4, .int 0), (0, .ref (aO 0)), (3, .int (oI 10))]) F dX6_steps_77 79 rfl (by decide) rfl ?_
    obtain ⟨n2, hw⟩ := hw
    refine z_lv (lv' := [(0, .ref (aO 0)), (3, .int (oI 10)), (4, .int 0), (5, .int 0)]) [2, 3, 1, 0] rfl ?_
    refine xX6_steps_79 (oI 10) F hRt n2 0 0 (va_up oI_1 15 v1) oR_1 hw
  · have hw := hwf c1; clear hwt hwf
    refine z_aload_n F dX6_steps_12 13 rfl 1 rfl ?_
    refine z_iload_n F dX6_steps_13 14 rfl 0 rfl ?_
    refine z_segVi (As := [.int r1]) (st := []) F dX6_steps_14 17 rfl (mX6_no C.1.2.1 D cyI cyB aO r1 oI oR hw) y_X6_no rfl gX6_steps_X6_no rfl (ci := 6) (rq := 0) rfl rfl ⟨Nat.le_of_ble_eq_true rfl, Nat.le_of_ble_eq_true rfl⟩ ⟨Nat.zero_le _, Nat.zero_le _⟩ (Nat.le_of_ble_eq_true rfl) [] [] (by simp only [List.append_assoc, List.nil_append, List.append_nil]) (fun _ => rfl) (fun u => (wMo aO cyI u.1 u.2)) (fun u => (by simp only [List.append_assoc, List.nil_append, List.append_nil])) (fun r3 u hp => ?_)
    obtain ⟨oI_2, oR_2⟩ := u
    replace hw := hp
    clear hp
    exact hRt 17 _ r3 (oI_2, oR_2) dX6_steps_17 hw
set_option maxHeartbeats 4000000 in
set_option maxRecDepth 100000 in
theorem mX6_steps (l : Launch) (D : va_G) (cyI cyB : ClassId) (aO : Nat → Nat) (x1 : Int32) (oI : Nat → Int32) (oR : Nat → Nat → Int32) {post : Int32 → (Nat → Int32) → (Nat → Nat → Int32) → Prop} (hw : pX6_steps x1 oI oR post) : zMi l yX6_steps wsX6_steps 2 41 D cyI cyB [.ref (aO 0), .int x1] (wMo aO cyI oI oR) (S := ((Nat → Int32) × (Nat → Nat → Int32))) (fun u => (wMo aO cyI u.1 u.2)) (fun r u => post r u.1 u.2) :=
  z_meti (cc := cX6_steps) (nL := 6) (by decide +kernel) rfl (Nat.le_of_ble_eq_true rfl) (fun C hl F hRt => xX6_steps_0 x1 oI oR F hRt hw)
theorem y_X6_steps : zY yX6_steps wsX6_steps cX6_steps 6 (some .int) 1 := ⟨⟨_, rfl⟩, by decide +kernel⟩
