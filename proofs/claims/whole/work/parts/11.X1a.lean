theorem iX1_it_1 : ∀ w ∈ wsX10, w ∈ wsX1_it := fun w h => List.mem_cons_of_mem _ (List.mem_append_right _ h)
theorem kX1_it_31 : zL wsX1_it RX1 31 1 5 .int false := zL1 iX1_it_1 (by decide) (List.mem_of_getElem? (i := 1) rfl) rfl rfl
set_option maxHeartbeats 4000000 in
set_option maxRecDepth 100000 in
theorem xX1_it_0 {C : zC} {D : va_G} {cyI cyB : ClassId} {aH : Nat → Nat} (hI : Nat → Int32) (hR : Nat → Nat → Int32) (F : zF C D { frames := 0, cells := 0, slots := 0, locals := 0 } cX1_it 1 wsX1_it RX1 (some .int) cyI cyB) {post : Int32 → Prop} (hRt : zRi C D cX1_it 1 (S := (Unit)) (fun u => (wHo aH cyI hI hR)) (fun r u => post r )) (hw : pX1_it hI hR post) : zX C D 1 0 0 (wHo aH cyI hI hR) 0 [(0, .ref (aH 0))] [] := by
  refine z_iconst F dX1_it_0 1 rfl zki_1 ?_
  refine z_aload_n F dX1_it_1 2 rfl 0 rfl ?_
  refine z_get F dX1_it_2 5 rfl kX1_it_31 0 rfl rfl ?_
  refine z_ishl F dX1_it_5 6 rfl ?_
  refine z_iconst F dX1_it_6 7 rfl zki_1 ?_
  refine z_isub F dX1_it_7 8 rfl ?_
  exact hRt 8 _ ((1 <<< ((hI 0) &&& 31)) - 1) () dX1_it_8 hw
set_option maxHeartbeats 4000000 in
set_option maxRecDepth 100000 in
theorem mX1_it (l : Launch) (D : va_G) (cyI cyB : ClassId) (aH : Nat → Nat) (hI : Nat → Int32) (hR : Nat → Nat → Int32) {post : Int32 → Prop} (hw : pX1_it hI hR post) : zMi l yX1_it wsX1_it 0 0 D cyI cyB [.ref (aH 0)] (wHo aH cyI hI hR) (S := (Unit)) (fun u => (wHo aH cyI hI hR)) (fun r u => post r ) :=
  z_meti (cc := cX1_it) (nL := 1) (by decide +kernel) rfl (Nat.le_of_ble_eq_true rfl) (fun C hl F hRt => xX1_it_0 hI hR F hRt hw)
theorem y_X1_it : zY yX1_it wsX1_it cX1_it 1 (some .int) 0 := ⟨⟨_, rfl⟩, by decide +kernel⟩
theorem iX1_inHouse_1 : ∀ w ∈ wsX10, w ∈ wsX1_inHouse := fun w h => List.mem_cons_of_mem _ (List.mem_append_right _ h)
theorem kX1_inHouse_35 : zL wsX1_inHouse RX1 35 1 6 .int false := zL1 iX1_inHouse_1 (by decide) (List.mem_of_getElem? (i := 1) rfl) rfl rfl
theorem kX1_inHouse_38 : zL wsX1_inHouse RX1 38 1 7 .int false := zL1 iX1_inHouse_1 (by decide) (List.mem_of_getElem? (i := 2) rfl) rfl rfl
set_option maxHeartbeats 4000000 in
set_option maxRecDepth 100000 in
theorem xX1_inHouse_0 {C : zC} {D : va_G} {cyI cyB : ClassId} {aH : Nat → Nat} (hI : Nat → Int32) (hR : Nat → Nat → Int32) (F : zF C D { frames := 0, cells := 0, slots := 0, locals := 0 } cX1_inHouse 1 wsX1_inHouse RX1 (some .int) cyI cyB) {post : Int32 → Prop} (hRt : zRi C D cX1_inHouse 1 (S := (Unit)) (fun u => (wHo aH cyI hI hR)) (fun r u => post r )) (hw : pX1_inHouse hI hR post) : zX C D 1 0 0 (wHo aH cyI hI hR) 0 [(0, .ref (aH 0))] [] := by
  refine z_iconst F dX1_inHouse_0 1 rfl zki_1 ?_
  refine z_aload_n F dX1_inHouse_1 2 rfl 0 rfl ?_
  refine z_get F dX1_inHouse_2 5 rfl kX1_inHouse_35 0 rfl rfl ?_
  refine z_ishl F dX1_inHouse_5 6 rfl ?_
  refine z_iconst F dX1_inHouse_6 7 rfl zki_1 ?_
  refine z_isub F dX1_inHouse_7 8 rfl ?_
  refine z_aload_n F dX1_inHouse_8 9 rfl 0 rfl ?_
  refine z_get F dX1_inHouse_9 12 rfl kX1_inHouse_38 0 rfl rfl ?_
  refine z_iconst F dX1_inHouse_12 13 rfl zki_m1 ?_
  refine z_ixor F dX1_inHouse_13 14 rfl ?_
  refine z_iand F dX1_inHouse_14 15 rfl ?_
  exact hRt 15 _ (((1 <<< ((hI 1) &&& 31)) - 1) &&& ((hI 2) ^^^ (-1))) () dX1_inHouse_15 hw
set_option maxHeartbeats 4000000 in
set_option maxRecDepth 100000 in
theorem mX1_inHouse (l : Launch) (D : va_G) (cyI cyB : ClassId) (aH : Nat → Nat) (hI : Nat → Int32) (hR : Nat → Nat → Int32) {post : Int32 → Prop} (hw : pX1_inHouse hI hR post) : zMi l yX1_inHouse wsX1_inHouse 0 0 D cyI cyB [.ref (aH 0)] (wHo aH cyI hI hR) (S := (Unit)) (fun u => (wHo aH cyI hI hR)) (fun r u => post r ) :=
  z_meti (cc := cX1_inHouse) (nL := 1) (by decide +kernel) rfl (Nat.le_of_ble_eq_true rfl) (fun C hl F hRt => xX1_inHouse_0 hI hR F hRt hw)
theorem y_X1_inHouse : zY yX1_inHouse wsX1_inHouse cX1_inHouse 1 (some .int) 0 := ⟨⟨_, rfl⟩, by decide +kernel⟩
theorem iX1_isStep_1 : ∀ w ∈ wsX10, w ∈ wsX1_isStep := fun w h => List.mem_cons_of_mem _ (List.mem_append_right _ h)
theorem kX1_isStep_31 : zL wsX1_isStep RX1 31 1 5 .int false := zL1 iX1_isStep_1 (by decide) (List.mem_of_getElem? (i := 1) rfl) rfl rfl
set_option maxHeartbeats 4000000 in
set_option maxRecDepth 100000 in
theorem xX1_isStep_0 {C : zC} {D : va_G} {cyI cyB : ClassId} {aH : Nat → Nat} (x1 : Int32) (hI : Nat → Int32) (hR : Nat → Nat → Int32) (F : zF C D { frames := 0, cells := 0, slots := 0, locals := 0 } cX1_isStep 2 wsX1_isStep RX1 (some .boolean) cyI cyB) {post : Bool → Prop} (hRt : zRz C D cX1_isStep 2 (S := (Unit)) (fun u => (wHo aH cyI hI hR)) (fun r u => ∃ b : Bool, r = zb b ∧ post b )) (hw : pX1_isStep x1 hI hR post) : zX C D 2 0 0 (wHo aH cyI hI hR) 0 [(0, .ref (aH 0)), (1, .int x1)] [] := by
  refine z_iload_n F dX1_isStep_0 1 rfl 1 rfl ?_
  obtain ⟨hwt, hwf⟩ := hw
  refine z_iflt F dX1_isStep_1 16 rfl 4 rfl (fun c1 => ?_) (fun c1 => ?_)
  · have hw := hwt c1; clear hwt hwf
    refine z_iconst F dX1_isStep_16 17 rfl zki_0 ?_
    exact hRt 17 _ false () dX1_isStep_17 ⟨false, rfl, hw⟩
  · have hw := hwf c1; clear hwt hwf
    refine z_iload_n F dX1_isStep_4 5 rfl 1 rfl ?_
    refine z_aload_n F dX1_isStep_5 6 rfl 0 rfl ?_
    refine z_get F dX1_isStep_6 9 rfl kX1_isStep_31 0 rfl rfl ?_
    obtain ⟨hwt, hwf⟩ := hw
    refine z_icmpge F dX1_isStep_9 16 rfl 12 rfl (fun c2 => ?_) (fun c2 => ?_)
    · have hw := hwt c2; clear hwt hwf
      refine z_iconst F dX1_isStep_16 17 rfl zki_0 ?_
      exact hRt 17 _ false () dX1_isStep_17 ⟨false, rfl, hw⟩
    · have hw := hwf c2; clear hwt hwf
      refine z_iconst F dX1_isStep_12 13 rfl zki_1 ?_
      refine z_goto F dX1_isStep_13 17 rfl ?_
      exact hRt 17 _ true () dX1_isStep_17 ⟨true, rfl, hw⟩
set_option maxHeartbeats 4000000 in
set_option maxRecDepth 100000 in
theorem mX1_isStep (l : Launch) (D : va_G) (cyI cyB : ClassId) (aH : Nat → Nat) (x1 : Int32) (hI : Nat → Int32) (hR : Nat → Nat → Int32) {post : Bool → Prop} (hw : pX1_isStep x1 hI hR post) : zMi l yX1_isStep wsX1_isStep 0 0 D cyI cyB [.ref (aH 0), .int x1] (wHo aH cyI hI hR) (S := (Unit)) (fun u => (wHo aH cyI hI hR)) (fun r u => ∃ b : Bool, r = zb b ∧ post b ) :=
  z_metz (cc := cX1_isStep) (nL := 2) (by decide +kernel) rfl (Nat.le_of_ble_eq_true rfl) (fun C hl F hRt => xX1_isStep_0 x1 hI hR F hRt hw)
theorem y_X1_isStep : zY yX1_isStep wsX1_isStep cX1_isStep 2 (some .boolean) 1 := ⟨⟨_, rfl⟩, by decide +kernel⟩
theorem iX1_isStepSet_1 : ∀ w ∈ wsX10, w ∈ wsX1_isStepSet := fun w h => List.mem_cons_of_mem _ (List.mem_append_right _ h)
theorem kX1_isStepSet_31 : zL wsX1_isStepSet RX1 31 1 5 .int false := zL1 iX1_isStepSet_1 (by decide) (List.mem_of_getElem? (i := 1) rfl) rfl rfl
set_option maxHeartbeats 4000000 in
set_option maxRecDepth 100000 in
theorem xX1_isStepSet_0 {C : zC} {D : va_G} {cyI cyB : ClassId} {aH : Nat → Nat} (x1 : Int32) (hI : Nat → Int32) (hR : Nat → Nat → Int32) (F : zF C D { frames := 0, cells := 0, slots := 0, locals := 0 } cX1_isStepSet 2 wsX1_isStepSet RX1 (some .boolean) cyI cyB) {post : Bool → Prop} (hRt : zRz C D cX1_isStepSet 2 (S := (Unit)) (fun u => (wHo aH cyI hI hR)) (fun r u => ∃ b : Bool, r = zb b ∧ post b )) (hw : pX1_isStepSet x1 hI hR post) : zX C D 2 0 0 (wHo aH cyI hI hR) 0 [(0, .ref (aH 0)), (1, .int x1)] [] := by
  refine z_iload_n F dX1_isStepSet_0 1 rfl 1 rfl ?_
  refine z_aload_n F dX1_isStepSet_1 2 rfl 0 rfl ?_
  refine z_get F dX1_isStepSet_2 5 rfl kX1_isStepSet_31 0 rfl rfl ?_
  refine z_ishr F dX1_isStepSet_5 6 rfl ?_
  obtain ⟨hwt, hwf⟩ := hw
  refine z_ifne F dX1_isStepSet_6 13 rfl 9 rfl (fun c1 => ?_) (fun c1 => ?_)
  · have hw := hwt c1; clear hwt hwf
    refine z_iconst F dX1_isStepSet_13 14 rfl zki_0 ?_
    exact hRt 14 _ false () dX1_isStepSet_14 ⟨false, rfl, hw⟩
  · have hw := hwf c1; clear hwt hwf
    refine z_iconst F dX1_isStepSet_9 10 rfl zki_1 ?_
    refine z_goto F dX1_isStepSet_10 14 rfl ?_
    exact hRt 14 _ true () dX1_isStepSet_14 ⟨true, rfl, hw⟩
set_option maxHeartbeats 4000000 in
set_option maxRecDepth 100000 in
theorem mX1_isStepSet (l : Launch) (D : va_G) (cyI cyB : ClassId) (aH : Nat → Nat) (x1 : Int32) (hI : Nat → Int32) (hR : Nat → Nat → Int32) {post : Bool → Prop} (hw : pX1_isStepSet x1 hI hR post) : zMi l yX1_isStepSet wsX1_isStepSet 0 0 D cyI cyB [.ref (aH 0), .int x1] (wHo aH cyI hI hR) (S := (Unit)) (fun u => (wHo aH cyI hI hR)) (fun r u => ∃ b : Bool, r = zb b ∧ post b ) :=
  z_metz (cc := cX1_isStepSet) (nL := 2) (by decide +kernel) rfl (Nat.le_of_ble_eq_true rfl) (fun C hl F hRt => xX1_isStepSet_0 x1 hI hR F hRt hw)
theorem y_X1_isStepSet : zY yX1_isStepSet wsX1_isStepSet cX1_isStepSet 2 (some .boolean) 1 := ⟨⟨_, rfl⟩, by decide +kernel⟩
theorem iX1_isHand_1 : ∀ w ∈ wsX10, w ∈ wsX1_isHand := fun w h => List.mem_cons_of_mem _ (List.mem_append_right _ h)
theorem kX1_isHand_35 : zL wsX1_isHand RX1 35 1 6 .int false := zL1 iX1_isHand_1 (by decide) (List.mem_of_getElem? (i := 1) rfl) rfl rfl
set_option maxHeartbeats 4000000 in
set_option maxRecDepth 100000 in
theorem xX1_isHand_0 {C : zC} {D : va_G} {cyI cyB : ClassId} {aH : Nat → Nat} (x1 : Int32) (hI : Nat → Int32) (hR : Nat → Nat → Int32) (F : zF C D { frames := 0, cells := 0, slots := 0, locals := 0 } cX1_isHand 2 wsX1_isHand RX1 (some .boolean) cyI cyB) {post : Bool → Prop} (hRt : zRz C D cX1_isHand 2 (S := (Unit)) (fun u => (wHo aH cyI hI hR)) (fun r u => ∃ b : Bool, r = zb b ∧ post b )) (hw : pX1_isHand x1 hI hR post) : zX C D 2 0 0 (wHo aH cyI hI hR) 0 [(0, .ref (aH 0)), (1, .int x1)] [] := by
  refine z_iload_n F dX1_isHand_0 1 rfl 1 rfl ?_
  obtain ⟨hwt, hwf⟩ := hw
  refine z_iflt F dX1_isHand_1 16 rfl 4 rfl (fun c1 => ?_) (fun c1 => ?_)
  · have hw := hwt c1; clear hwt hwf
    refine z_iconst F dX1_isHand_16 17 rfl zki_0 ?_
    exact hRt 17 _ false () dX1_isHand_17 ⟨false, rfl, hw⟩
  · have hw := hwf c1; clear hwt hwf
    refine z_iload_n F dX1_isHand_4 5 rfl 1 rfl ?_
    refine z_aload_n F dX1_isHand_5 6 rfl 0 rfl ?_
    refine z_get F dX1_isHand_6 9 rfl kX1_isHand_35 0 rfl rfl ?_
    obtain ⟨hwt, hwf⟩ := hw
    refine z_icmpge F dX1_isHand_9 16 rfl 12 rfl (fun c2 => ?_) (fun c2 => ?_)
    · have hw := hwt c2; clear hwt hwf
      refine z_iconst F dX1_isHand_16 17 rfl zki_0 ?_
      exact hRt 17 _ false () dX1_isHand_17 ⟨false, rfl, hw⟩
    · have hw := hwf c2; clear hwt hwf
      refine z_iconst F dX1_isHand_12 13 rfl zki_1 ?_
      refine z_goto F dX1_isHand_13 17 rfl ?_
      exact hRt 17 _ true () dX1_isHand_17 ⟨true, rfl, hw⟩
set_option maxHeartbeats 4000000 in
set_option maxRecDepth 100000 in
theorem mX1_isHand (l : Launch) (D : va_G) (cyI cyB : ClassId) (aH : Nat → Nat) (x1 : Int32) (hI : Nat → Int32) (hR : Nat → Nat → Int32) {post : Bool → Prop} (hw : pX1_isHand x1 hI hR post) : zMi l yX1_isHand wsX1_isHand 0 0 D cyI cyB [.ref (aH 0), .int x1] (wHo aH cyI hI hR) (S := (Unit)) (fun u => (wHo aH cyI hI hR)) (fun r u => ∃ b : Bool, r = zb b ∧ post b ) :=
  z_metz (cc := cX1_isHand) (nL := 2) (by decide +kernel) rfl (Nat.le_of_ble_eq_true rfl) (fun C hl F hRt => xX1_isHand_0 x1 hI hR F hRt hw)
theorem y_X1_isHand : zY yX1_isHand wsX1_isHand cX1_isHand 2 (some .boolean) 1 := ⟨⟨_, rfl⟩, by decide +kernel⟩
theorem iX1_isHandSet_1 : ∀ w ∈ wsX10, w ∈ wsX1_isHandSet := fun w h => List.mem_cons_of_mem _ (List.mem_append_right _ h)
theorem kX1_isHandSet_35 : zL wsX1_isHandSet RX1 35 1 6 .int false := zL1 iX1_isHandSet_1 (by decide) (List.mem_of_getElem? (i := 1) rfl) rfl rfl
set_option maxHeartbeats 4000000 in
set_option maxRecDepth 100000 in
theorem xX1_isHandSet_0 {C : zC} {D : va_G} {cyI cyB : ClassId} {aH : Nat → Nat} (x1 : Int32) (hI : Nat → Int32) (hR : Nat → Nat → Int32) (F : zF C D { frames := 0, cells := 0, slots := 0, locals := 0 } cX1_isHandSet 2 wsX1_isHandSet RX1 (some .boolean) cyI cyB) {post : Bool → Prop} (hRt : zRz C D cX1_isHandSet 2 (S := (Unit)) (fun u => (wHo aH cyI hI hR)) (fun r u => ∃ b : Bool, r = zb b ∧ post b )) (hw : pX1_isHandSet x1 hI hR post) : zX C D 2 0 0 (wHo aH cyI hI hR) 0 [(0, .ref (aH 0)), (1, .int x1)] [] := by
  refine z_iload_n F dX1_isHandSet_0 1 rfl 1 rfl ?_
  refine z_aload_n F dX1_isHandSet_1 2 rfl 0 rfl ?_
  refine z_get F dX1_isHandSet_2 5 rfl kX1_isHandSet_35 0 rfl rfl ?_
  refine z_ishr F dX1_isHandSet_5 6 rfl ?_
  obtain ⟨hwt, hwf⟩ := hw
  refine z_ifne F dX1_isHandSet_6 13 rfl 9 rfl (fun c1 => ?_) (fun c1 => ?_)
  · have hw := hwt c1; clear hwt hwf
    refine z_iconst F dX1_isHandSet_13 14 rfl zki_0 ?_
    exact hRt 14 _ false () dX1_isHandSet_14 ⟨false, rfl, hw⟩
  · have hw := hwf c1; clear hwt hwf
    refine z_iconst F dX1_isHandSet_9 10 rfl zki_1 ?_
    refine z_goto F dX1_isHandSet_10 14 rfl ?_
    exact hRt 14 _ true () dX1_isHandSet_14 ⟨true, rfl, hw⟩
set_option maxHeartbeats 4000000 in
set_option maxRecDepth 100000 in
theorem mX1_isHandSet (l : Launch) (D : va_G) (cyI cyB : ClassId) (aH : Nat → Nat) (x1 : Int32) (hI : Nat → Int32) (hR : Nat → Nat → Int32) {post : Bool → Prop} (hw : pX1_isHandSet x1 hI hR post) : zMi l yX1_isHandSet wsX1_isHandSet 0 0 D cyI cyB [.ref (aH 0), .int x1] (wHo aH cyI hI hR) (S := (Unit)) (fun u => (wHo aH cyI hI hR)) (fun r u => ∃ b : Bool, r = zb b ∧ post b ) :=
  z_metz (cc := cX1_isHandSet) (nL := 2) (by decide +kernel) rfl (Nat.le_of_ble_eq_true rfl) (fun C hl F hRt => xX1_isHandSet_0 x1 hI hR F hRt hw)
theorem y_X1_isHandSet : zY yX1_isHandSet wsX1_isHandSet cX1_isHandSet 2 (some .boolean) 1 := ⟨⟨_, rfl⟩, by decide +kernel⟩
set_option maxHeartbeats 4000000 in
set_option maxRecDepth 100000 in
theorem xX1_areTwoHands_0 {C : zC} {D : va_G} {cyI cyB : ClassId} {aH : Nat → Nat} (x1 : Int32) (x2 : Int32) (hI : Nat → Int32) (hR : Nat → Nat → Int32) (F : zF C D { frames := 1, cells := 0, slots := 0, locals := 21 } cX1_areTwoHands 3 wsX1_areTwoHands RX1 (some .boolean) cyI cyB) {post : Bool → Prop} (hRt : zRz C D cX1_areTwoHands 3 (S := (Unit)) (fun u => (wHo aH cyI hI hR)) (fun r u => ∃ b : Bool, r = zb b ∧ post b )) (hw : pX1_areTwoHands x1 x2 hI hR post) : zX C D 3 0 0 (wHo aH cyI hI hR) 0 [(0, .ref (aH 0)), (1, .int x1), (2, .int x2)] [] := by
  refine z_aload_n F dX1_areTwoHands_0 1 rfl 0 rfl ?_
  refine z_iload_n F dX1_areTwoHands_1 2 rfl 1 rfl ?_
  refine z_segVi (As := [.int x1]) (st := []) F dX1_areTwoHands_2 5 rfl (mX1_isHand C.1.2.1 D cyI cyB aH x1 hI hR hw) y_X1_isHand rfl gX1_areTwoHands_X1_isHand rfl (ci := 1) (rq := 0) rfl rfl ⟨Nat.le_of_ble_eq_true rfl, Nat.le_of_ble_eq_true rfl⟩ ⟨Nat.zero_le _, Nat.zero_le _⟩ (Nat.le_of_ble_eq_true rfl) [] [] (by simp only [List.append_assoc, List.nil_append, List.append_nil]) (fun _ => rfl) (fun u => (wHo aH cyI hI hR)) (fun u => (by simp only [List.append_assoc, List.nil_append, List.append_nil])) (fun r0 u hp => ?_)
  obtain ⟨b1, rfl, hw⟩ := hp
  obtain ⟨hwt, hwf⟩ := hw
  refine z_ifeqB F dX1_areTwoHands_5 25 rfl 8 rfl (fun c1 => ?_) (fun c1 => ?_)
  · have hw := hwt c1; clear hwt hwf
    refine z_iconst F dX1_areTwoHands_25 26 rfl zki_0 ?_
    exact hRt 26 _ false () dX1_areTwoHands_26 ⟨false, rfl, hw⟩
  · have hw := hwf c1; clear hwt hwf
    refine z_aload_n F dX1_areTwoHands_8 9 rfl 0 rfl ?_
    refine z_iload_n F dX1_areTwoHands_9 10 rfl 2 rfl ?_
    refine z_segVi (As := [.int x2]) (st := []) F dX1_areTwoHands_10 13 rfl (mX1_isHand C.1.2.1 D cyI cyB aH x2 hI hR hw) y_X1_isHand rfl gX1_areTwoHands_X1_isHand rfl (ci := 1) (rq := 0) rfl rfl ⟨Nat.le_of_ble_eq_true rfl, Nat.le_of_ble_eq_true rfl⟩ ⟨Nat.zero_le _, Nat.zero_le _⟩ (Nat.le_of_ble_eq_true rfl) [] [] (by simp only [List.append_assoc, List.nil_append, List.append_nil]) (fun _ => rfl) (fun u => (wHo aH cyI hI hR)) (fun u => (by simp only [List.append_assoc, List.nil_append, List.append_nil])) (fun r0 u hp => ?_)
    obtain ⟨b2, rfl, hw⟩ := hp
    obtain ⟨hwt, hwf⟩ := hw
    refine z_ifeqB F dX1_areTwoHands_13 25 rfl 16 rfl (fun c2 => ?_) (fun c2 => ?_)
    · have hw := hwt c2; clear hwt hwf
      refine z_iconst F dX1_areTwoHands_25 26 rfl zki_0 ?_
      exact hRt 26 _ false () dX1_areTwoHands_26 ⟨false, rfl, hw⟩
    · have hw := hwf c2; clear hwt hwf
      refine z_iload_n F dX1_areTwoHands_16 17 rfl 1 rfl ?_
      refine z_iload_n F dX1_areTwoHands_17 18 rfl 2 rfl ?_
      obtain ⟨hwt, hwf⟩ := hw
      refine z_icmpeq F dX1_areTwoHands_18 25 rfl 21 rfl (fun c3 => ?_) (fun c3 => ?_)
      · have hw := hwt c3; clear hwt hwf
        refine z_iconst F dX1_areTwoHands_25 26 rfl zki_0 ?_
        exact hRt 26 _ false () dX1_areTwoHands_26 ⟨false, rfl, hw⟩
      · have hw := hwf c3; clear hwt hwf
        refine z_iconst F dX1_areTwoHands_21 22 rfl zki_1 ?_
        refine z_goto F dX1_areTwoHands_22 26 rfl ?_
        exact hRt 26 _ true () dX1_areTwoHands_26 ⟨true, rfl, hw⟩
set_option maxHeartbeats 4000000 in
set_option maxRecDepth 100000 in
theorem mX1_areTwoHands (l : Launch) (D : va_G) (cyI cyB : ClassId) (aH : Nat → Nat) (x1 : Int32) (x2 : Int32) (hI : Nat → Int32) (hR : Nat → Nat → Int32) {post : Bool → Prop} (hw : pX1_areTwoHands x1 x2 hI hR post) : zMi l yX1_areTwoHands wsX1_areTwoHands 1 21 D cyI cyB [.ref (aH 0), .int x1, .int x2] (wHo aH cyI hI hR) (S := (Unit)) (fun u => (wHo aH cyI hI hR)) (fun r u => ∃ b : Bool, r = zb b ∧ post b ) :=
  z_metz (cc := cX1_areTwoHands) (nL := 3) (by decide +kernel) rfl (Nat.le_of_ble_eq_true rfl) (fun C hl F hRt => xX1_areTwoHands_0 x1 x2 hI hR F hRt hw)
theorem y_X1_areTwoHands : zY yX1_areTwoHands wsX1_areTwoHands cX1_areTwoHands 3 (some .boolean) 2 := ⟨⟨_, rfl⟩, by decide +kernel⟩
theorem iX1_toldInAll_1 : ∀ w ∈ wsX10, w ∈ wsX1_toldInAll := fun w h => List.mem_cons_of_mem _ (List.mem_append_right _ h)
theorem kX1_toldInAll_9 : zL wsX1_toldInAll RX1 9 1 0 (.array .int) true := zL1 iX1_toldInAll_1 (by decide) (List.mem_of_getElem? (i := 2) rfl) rfl rfl
theorem kX1_toldInAll_35 : zL wsX1_toldInAll RX1 35 1 6 .int false := zL1 iX1_toldInAll_1 (by decide) (List.mem_of_getElem? (i := 1) rfl) rfl rfl
set_option maxHeartbeats 4000000 in
set_option maxRecDepth 100000 in
theorem xX1_toldInAll_4 {C : zC} {D : va_G} {cyI cyB : ClassId} {aH : Nat → Nat} (hI : Nat → Int32) (hR : Nat → Nat → Int32) (F : zF C D { frames := 1, cells := 0, slots := 0, locals := 20 } cX1_toldInAll 3 wsX1_toldInAll RX1 (some .int) cyI cyB) {post : Int32 → Prop} (hRt : zRi C D cX1_toldInAll 3 (S := (Unit)) (fun u => (wHo aH cyI hI hR)) (fun r u => post r )) : ∀ (n : Nat) (x1 : Int32) (x2 : Int32), bX1_toldInAll_4 hI hR post  n x1 x2 → zX C D 3 0 0 (wHo aH cyI hI hR) 4 [(0, .ref (aH 0)), (1, .int x1), (2, .int x2)] [] := by
  intro n
  induction n with
  | zero => intro _ _ hw; exact hw.elim
  | succ n ih =>
    intro x1 x2 hw
    refine z_iload_n F dX1_toldInAll_4 5 rfl 2 rfl ?_
    refine z_aload_n F dX1_toldInAll_5 6 rfl 0 rfl ?_
    refine z_get F dX1_toldInAll_6 9 rfl kX1_toldInAll_35 0 rfl rfl ?_
    obtain ⟨hwt, hwf⟩ := hw
    refine z_icmpge F dX1_toldInAll_9 30 rfl 12 rfl (fun c1 => ?_) (fun c1 => ?_)
    · have hw := hwt c1; clear hwt hwf
      refine z_iload_n F dX1_toldInAll_30 31 rfl 1 rfl ?_
      exact hRt 31 _ x1 () dX1_toldInAll_31 hw
    · have hw := hwf c1; clear hwt hwf
      refine z_iload_n F dX1_toldInAll_12 13 rfl 1 rfl ?_
      refine z_aload_n F dX1_toldInAll_13 14 rfl 0 rfl ?_
      refine z_get F dX1_toldInAll_14 17 rfl kX1_toldInAll_9 0 rfl rfl ?_
      refine z_iload_n F dX1_toldInAll_17 18 rfl 2 rfl ?_
      obtain ⟨j1, ej1, hj1, hw⟩ := hw
      refine z_iald F dX1_toldInAll_18 19 rfl 1 rfl (by decide) j1 ej1 hj1 ?_
      refine z_callSi (As := [.int ((hR 0) j1)]) (st := [.int x1]) F dX1_toldInAll_19 22 rfl (mJ6_bitCount_0f7a4 C.1.2.1 D cyI cyB ((hR 0) j1) hw) y_J6_bitCount_0f7a4 rfl gX1_toldInAll_J6_bitCount_0f7a4 ⟨Nat.le_of_ble_eq_true rfl, Nat.le_of_ble_eq_true rfl⟩ ⟨Nat.zero_le _, Nat.zero_le _⟩ (Nat.le_of_ble_eq_true rfl) [] (by decide) rfl (fun _ => rfl) (fun u => (wHo aH cyI hI hR)) (fun _ => rfl) (fun r1 u hp => ?_)
      replace hw := hp
      clear hp
      refine z_iadd F dX1_toldInAll_22 23 rfl ?_
      refine z_topi (fun v1 ev1 => ?_)
      replace hw := hw v1 ev1
      refine z_istore_n (lv' := [(1, .int v1), (0, .ref (aH 0)), (2, .int x2)]) F dX1_toldInAll_23 24 rfl (by decide) rfl ?_
      refine z_iinc F dX1_toldInAll_24 27 rfl 2 rfl (by decide) zki_1 (fun v2 => [(2, .int v2), (1, .int v1), (0, .ref (aH 0))]) (fun _ => rfl) (fun v2 ev2 => ?_)
      replace hw := hw v2 ev2
      refine z_goto F dX1_toldInAll_27 4 rfl ?_
      refine z_lv (lv' := [(0, .ref (aH 0)), (1, .int v1), (2, .int v2)]) [2, 1, 0] rfl ?_
      exact ih v1 v2 hw
set_option maxHeartbeats 4000000 in
set_option maxRecDepth 100000 in
theorem xX1_toldInAll_0 {C : zC} {D : va_G} {cyI cyB : ClassId} {aH : Nat → Nat} (hI : Nat → Int32) (hR : Nat → Nat → Int32) (F : zF C D { frames := 1, cells := 0, slots := 0, locals := 20 } cX1_toldInAll 3 wsX1_toldInAll RX1 (some .int) cyI cyB) {post : Int32 → Prop} (hRt : zRi C D cX1_toldInAll 3 (S := (Unit)) (fun u => (wHo aH cyI hI hR)) (fun r u => post r )) (hw : pX1_toldInAll hI hR post) : zX C D 3 0 0 (wHo aH cyI hI hR) 0 [(0, .ref (aH 0))] [] := by
  refine z_iconst F dX1_toldInAll_0 1 rfl zki_0 ?_
  refine z_istore_n (lv' := [(1, .int 0), (0, .ref (aH 0))]) F dX1_toldInAll_1 2 rfl (by decide) rfl ?_
  refine z_iconst F dX1_toldInAll_2 3 rfl zki_0 ?_
  refine z_istore_n (lv' := [(2, .int 0), (1, .int 0), (0, .ref (aH 0))]) F dX1_toldInAll_3 4 rfl (by decide) rfl ?_
  obtain ⟨n1, hw⟩ := hw
  refine z_lv (lv' := [(0, .ref (aH 0)), (1, .int 0), (2, .int 0)]) [2, 1, 0] rfl ?_
  refine xX1_toldInAll_4 hI hR F hRt n1 0 0 hw
set_option maxHeartbeats 4000000 in
set_option maxRecDepth 100000 in
theorem mX1_toldInAll (l : Launch) (D : va_G) (cyI cyB : ClassId) (aH : Nat → Nat) (hI : Nat → Int32) (hR : Nat → Nat → Int32) {post : Int32 → Prop} (hw : pX1_toldInAll hI hR post) : zMi l yX1_toldInAll wsX1_toldInAll 1 20 D cyI cyB [.ref (aH 0)] (wHo aH cyI hI hR) (S := (Unit)) (fun u => (wHo aH cyI hI hR)) (fun r u => post r ) :=
  z_meti (cc := cX1_toldInAll) (nL := 3) (by decide +kernel) rfl (Nat.le_of_ble_eq_true rfl) (fun C hl F hRt => xX1_toldInAll_0 hI hR F hRt hw)
theorem y_X1_toldInAll : zY yX1_toldInAll wsX1_toldInAll cX1_toldInAll 3 (some .int) 0 := ⟨⟨_, rfl⟩, by decide +kernel⟩
theorem iX1_weightOf_1 : ∀ w ∈ wsX10, w ∈ wsX1_weightOf := fun w h => List.mem_cons_of_mem _ (List.mem_append_right _ h)
theorem kX1_weightOf_15 : zL wsX1_weightOf RX1 15 1 1 (.array .int) true := zL1 iX1_weightOf_1 (by decide) (List.mem_of_getElem? (i := 2) rfl) rfl rfl
theorem kX1_weightOf_35 : zL wsX1_weightOf RX1 35 1 6 .int false := zL1 iX1_weightOf_1 (by decide) (List.mem_of_getElem? (i := 1) rfl) rfl rfl
set_option maxHeartbeats 4000000 in
set_option maxRecDepth 100000 in
theorem xX1_weightOf_5 {C : zC} {D : va_G} {cyI cyB : ClassId} {aH : Nat → Nat} (x1 : Int32) (hI : Nat → Int32) (hR : Nat → Nat → Int32) (F : zF C D { frames := 1, cells := 0, slots := 0, locals := 21 } cX1_weightOf 6 wsX1_weightOf RX1 (some .long) cyI cyB) {post : Int64 → Prop} (hRt : zRl C D cX1_weightOf 6 (S := (Unit)) (fun u => (wHo aH cyI hI hR)) (fun r u => post r )) : ∀ (n : Nat) (y2 : Int64) (x4 : Int32), bX1_weightOf_5 x1 hI hR post  n y2 x4 → zX C D 6 0 0 (wHo aH cyI hI hR) 5 [(0, .ref (aH 0)), (1, .int x1), (2, .long y2), (4, .int x4)] [] := by
  intro n
  induction n with
  | zero => intro _ _ hw; exact hw.elim
  | succ n ih =>
    intro y2 x4 hw
    refine z_iload F dX1_weightOf_5 7 rfl 3 rfl ?_
    refine z_aload_n F dX1_weightOf_7 8 rfl 0 rfl ?_
    refine z_get F dX1_weightOf_8 11 rfl kX1_weightOf_35 0 rfl rfl ?_
    obtain ⟨hwt, hwf⟩ := hw
    refine z_icmpge F dX1_weightOf_11 65 rfl 14 rfl (fun c1 => ?_) (fun c1 => ?_)
    · have hw := hwt c1; clear hwt hwf
      refine z_lload_n F dX1_weightOf_65 66 rfl 2 rfl ?_
      exact hRt 66 _ y2 () dX1_weightOf_66 hw
    · have hw := hwf c1; clear hwt hwf
      refine z_aload_n F dX1_weightOf_14 15 rfl 0 rfl ?_
      refine z_segVi (As := []) (st := []) F dX1_weightOf_15 18 rfl (mX1_inHouse C.1.2.1 D cyI cyB aH hI hR hw) y_X1_inHouse rfl gX1_weightOf_X1_inHouse rfl (ci := 1) (rq := 0) rfl rfl ⟨Nat.le_of_ble_eq_true rfl, Nat.le_of_ble_eq_true rfl⟩ ⟨Nat.zero_le _, Nat.zero_le _⟩ (Nat.le_of_ble_eq_true rfl) [] [] (by simp only [List.append_assoc, List.nil_append, List.append_nil]) (fun _ => rfl) (fun u => (wHo aH cyI hI hR)) (fun u => (by simp only [List.append_assoc, List.nil_append, List.append_nil])) (fun r1 u hp => ?_)
      replace hw := hp
      clear hp
      refine z_iload F dX1_weightOf_18 20 rfl 3 rfl ?_
      refine z_callSNi (As := [.int r1, .int x4]) (st := []) F dX1_weightOf_20 23 rfl (mX5_contains C.1.2.1 D cyI cyB r1 x4 hw) y_X5_contains rfl gX1_weightOf_X5_contains_n83 F.2.2.1.2.2.2.2.2.2.2 (List.mem_of_getElem? (i := 10) rfl) (List.mem_of_getElem? (i := 9) rfl) ⟨Nat.le_of_ble_eq_true rfl, Nat.le_of_ble_eq_true rfl⟩ ⟨Nat.zero_le _, Nat.zero_le _⟩ (Nat.le_of_ble_eq_true rfl) [] (by decide) rfl (fun _ => rfl) (fun u => (wHo aH cyI hI hR)) (fun _ => rfl) (fun r0 u hp => ?_)
      obtain ⟨b1, rfl, hw⟩ := hp
      obtain ⟨hwt, hwf⟩ := hw
      refine z_ifeqB F dX1_weightOf_23 59 rfl 26 rfl (fun c2 => ?_) (fun c2 => ?_)
      · have hw := hwt c2; clear hwt hwf
        refine z_iinc F dX1_weightOf_59 62 rfl 3 rfl (by decide) zki_1 (fun v1 => [(4, .int v1), (0, .ref (aH 0)), (1, .int x1), (2, .long y2)]) (fun _ => rfl) (fun v1 ev1 => ?_)
        replace hw := hw v1 ev1
        refine z_goto F dX1_weightOf_62 5 rfl ?_
        refine z_lv (lv' := [(0, .ref (aH 0)), (1, .int x1), (2, .long y2), (4, .int v1)]) [1, 2, 3, 0] rfl ?_
        exact ih y2 v1 hw
      · have hw := hwf c2; clear hwt hwf
        refine z_aload_n F dX1_weightOf_26 27 rfl 0 rfl ?_
        refine z_get F dX1_weightOf_27 30 rfl kX1_weightOf_15 0 rfl rfl ?_
        refine z_iload F dX1_weightOf_30 32 rfl 3 rfl ?_
        obtain ⟨j1, ej1, hj1, hw⟩ := hw
        refine z_iald F dX1_weightOf_32 33 rfl 2 rfl (by decide) j1 ej1 hj1 ?_
        refine z_topi (fun v2 ev2 => ?_)
        replace hw := hw v2 ev2
        refine z_istore (lv' := [(5, .int v2), (0, .ref (aH 0)), (1, .int x1), (2, .long y2), (4, .int x4)]) F dX1_weightOf_33 35 rfl (by decide) rfl ?_
        refine z_lload_n F dX1_weightOf_35 36 rfl 3 rfl ?_
        refine z_iload_n F dX1_weightOf_36 37 rfl 2 rfl ?_
        refine z_iload F dX1_weightOf_37 39 rfl 4 rfl ?_
        refine z_callSNi (As := [.int x1, .int x4]) (st := [.long y2]) F dX1_weightOf_39 42 rfl (mX5_contains C.1.2.1 D cyI cyB x1 x4 hw) y_X5_contains rfl gX1_weightOf_X5_contains_n83 F.2.2.1.2.2.2.2.2.2.2 (List.mem_of_getElem? (i := 10) rfl) (List.mem_of_getElem? (i := 9) rfl) ⟨Nat.le_of_ble_eq_true rfl, Nat.le_of_ble_eq_true rfl⟩ ⟨Nat.zero_le _, Nat.zero_le _⟩ (Nat.le_of_ble_eq_true rfl) [] (by decide) rfl (fun _ => rfl) (fun u => (wHo aH cyI hI hR)) (fun _ => rfl) (fun r0 u hp => ?_)
        obtain ⟨b2, rfl, hw⟩ := hp
        obtain ⟨hwt, hwf⟩ := hw
        refine z_ifeqB F dX1_weightOf_42 51 rfl 45 rfl (fun c3 => ?_) (fun c3 => ?_)
        · have hw := hwt c3; clear hwt hwf
          refine z_bipush F dX1_weightOf_51 53 rfl zkb_100 ?_
          refine z_iload F dX1_weightOf_53 55 rfl 0 rfl ?_
          refine z_isub F dX1_weightOf_55 56 rfl ?_
          refine z_i2l F dX1_weightOf_56 57 rfl ?_
          refine z_lmul F dX1_weightOf_57 58 rfl ?_
          refine z_topl (fun u2 eu2 => ?_)
          replace hw := hw u2 eu2
          refine z_lstore_n (lv' := [(2, .long u2), (5, .int v2), (0, .ref (aH 0)), (1, .int x1), (4, .int x4)]) F dX1_weightOf_58 59 rfl (by decide) rfl ?_
          refine z_iinc F dX1_weightOf_59 62 rfl 4 rfl (by decide) zki_1 (fun v3 => [(4, .int v3), (2, .long u2), (5, .int v2), (0, .ref (aH 0)), (1, .int x1)]) (fun _ => rfl) (fun v3 ev3 => ?_)
          replace hw := hw v3 ev3
          refine z_goto F dX1_weightOf_62 5 rfl ?_
          refine z_lv (lv' := [(0, .ref (aH 0)), (1, .int x1), (2, .long u2), (4, .int v3)]) [3, 4, 1, 0] rfl ?_
          exact ih u2 v3 hw
        · have hw := hwf c3; clear hwt hwf
          refine z_iload F dX1_weightOf_45 47 rfl 0 rfl ?_
          refine z_i2l F dX1_weightOf_47 48 rfl ?_
          refine z_goto F dX1_weightOf_48 57 rfl ?_
          refine z_lmul F dX1_weightOf_57 58 rfl ?_
          refine z_topl (fun u3 eu3 => ?_)
          replace hw := hw u3 eu3
          refine z_lstore_n (lv' := [(2, .long u3), (5, .int v2), (0, .ref (aH 0)), (1, .int x1), (4, .int x4)]) F dX1_weightOf_58 59 rfl (by decide) rfl ?_
          refine z_iinc F dX1_weightOf_59 62 rfl 4 rfl (by decide) zki_1 (fun v4 => [(4, .int v4), (2, .long u3), (5, .int v2), (0, .ref (aH 0)), (1, .int x1)]) (fun _ => rfl) (fun v4 ev4 => ?_)
          replace hw := hw v4 ev4
          refine z_goto F dX1_weightOf_62 5 rfl ?_
          refine z_lv (lv' := [(0, .ref (aH 0)), (1, .int x1), (2, .long u3), (4, .int v4)]) [3, 4, 1, 0] rfl ?_
          exact ih u3 v4 hw
set_option maxHeartbeats 4000000 in
set_option maxRecDepth 100000 in
theorem xX1_weightOf_0 {C : zC} {D : va_G} {cyI cyB : ClassId} {aH : Nat → Nat} (x1 : Int32) (hI : Nat → Int32) (hR : Nat → Nat → Int32) (F : zF C D { frames := 1, cells := 0, slots := 0, locals := 21 } cX1_weightOf 6 wsX1_weightOf RX1 (some .long) cyI cyB) {post : Int64 → Prop} (hRt : zRl C D cX1_weightOf 6 (S := (Unit)) (fun u => (wHo aH cyI hI hR)) (fun r u => post r )) (hw : pX1_weightOf x1 hI hR post) : zX C D 6 0 0 (wHo aH cyI hI hR) 0 [(0, .ref (aH 0)), (1, .int x1)] [] := by
  refine z_lconst (v := 1) F dX1_weightOf_0 1 rfl rfl ?_
  refine z_topl (fun u1 eu1 => ?_)
  replace hw := hw u1 eu1
  refine z_lstore_n (lv' := [(2, .long u1), (0, .ref (aH 0)), (1, .int x1)]) F dX1_weightOf_1 2 rfl (by decide) rfl ?_
  refine z_iconst F dX1_weightOf_2 3 rfl zki_0 ?_
  refine z_istore (lv' := [(4, .int 0), (2, .long u1), (0, .ref (aH 0)), (1, .int x1)]) F dX1_weightOf_3 5 rfl (by decide) rfl ?_
  obtain ⟨n1, hw⟩ := hw
  refine z_lv (lv' := [(0, .ref (aH 0)), (1, .int x1), (2, .long u1), (4, .int 0)]) [2, 3, 1, 0] rfl ?_
  refine xX1_weightOf_5 x1 hI hR F hRt n1 u1 0 hw
set_option maxHeartbeats 4000000 in
set_option maxRecDepth 100000 in
theorem mX1_weightOf (l : Launch) (D : va_G) (cyI cyB : ClassId) (aH : Nat → Nat) (x1 : Int32) (hI : Nat → Int32) (hR : Nat → Nat → Int32) {post : Int64 → Prop} (hw : pX1_weightOf x1 hI hR post) : zMl l yX1_weightOf wsX1_weightOf 1 21 D cyI cyB [.ref (aH 0), .int x1] (wHo aH cyI hI hR) (S := (Unit)) (fun u => (wHo aH cyI hI hR)) (fun r u => post r ) :=
  z_metl (cc := cX1_weightOf) (nL := 6) (by decide +kernel) rfl (Nat.le_of_ble_eq_true rfl) (fun C hl F hRt => xX1_weightOf_0 x1 hI hR F hRt hw)
theorem y_X1_weightOf : zY yX1_weightOf wsX1_weightOf cX1_weightOf 6 (some .long) 1 := ⟨⟨_, rfl⟩, by decide +kernel⟩
theorem iX1_addHand_1 : ∀ w ∈ wsX10, w ∈ wsX1_addHand := fun w h => List.mem_cons_of_mem _ (List.mem_append_right _ h)
theorem kX1_addHand_9 : zL wsX1_addHand RX1 9 1 0 (.array .int) true := zL1 iX1_addHand_1 (by decide) (List.mem_of_getElem? (i := 2) rfl) rfl rfl
theorem kX1_addHand_15 : zL wsX1_addHand RX1 15 1 1 (.array .int) true := zL1 iX1_addHand_1 (by decide) (List.mem_of_getElem? (i := 3) rfl) rfl rfl
theorem kX1_addHand_35 : zL wsX1_addHand RX1 35 1 6 .int false := zL1 iX1_addHand_1 (by decide) (List.mem_of_getElem? (i := 1) rfl) rfl rfl
set_option maxHeartbeats 4000000 in
set_option maxRecDepth 100000 in
theorem xX1_addHand_0 {C : zC} {D : va_G} {cyI cyB : ClassId} {aH : Nat → Nat} (x1 : Int32) (hI : Nat → Int32) (hR : Nat → Nat → Int32) (F : zF C D { frames := 0, cells := 0, slots := 0, locals := 0 } cX1_addHand 2 wsX1_addHand RX1 none cyI cyB) {post : (Nat → Int32) → (Nat → Nat → Int32) → Prop} (hRt : zRv C D cX1_addHand 2 (S := ((Nat → Int32) × (Nat → Nat → Int32))) (fun u => (wHo aH cyI u.1 u.2)) (fun u => post u.1 u.2)) (hw : pX1_addHand x1 hI hR post) : zX C D 2 0 0 (wHo aH cyI hI hR) 0 [(0, .ref (aH 0)), (1, .int x1)] [] := by
  refine z_aload_n F dX1_addHand_0 1 rfl 0 rfl ?_
  refine z_get F dX1_addHand_1 4 rfl kX1_addHand_35 0 rfl rfl ?_
  refine z_bipush F dX1_addHand_4 6 rfl zkb_8 ?_
  obtain ⟨hwt, hwf⟩ := hw
  refine z_icmpge F dX1_addHand_6 39 rfl 9 rfl (fun c1 => ?_) (fun c1 => ?_)
  · have hw := hwt c1; clear hwt hwf
    exact hRt 39 _ (hI, hR) dX1_addHand_39 hw
  · have hw := hwf c1; clear hwt hwf
    refine z_aload_n F dX1_addHand_9 10 rfl 0 rfl ?_
    refine z_get F dX1_addHand_10 13 rfl kX1_addHand_9 0 rfl rfl ?_
    refine z_aload_n F dX1_addHand_13 14 rfl 0 rfl ?_
    refine z_get F dX1_addHand_14 17 rfl kX1_addHand_35 0 rfl rfl ?_
    refine z_iload_n F dX1_addHand_17 18 rfl 1 rfl ?_
    obtain ⟨j1, ej1, hj1, hw⟩ := hw
    refine z_iast F dX1_addHand_18 19 rfl 1 rfl (by decide) j1 ej1 hj1 (wHo aH cyI hI (va_up hR 0 (upd (hR 0) j1 x1))) rfl ?_
    refine z_aload_n F dX1_addHand_19 20 rfl 0 rfl ?_
    refine z_get F dX1_addHand_20 23 rfl kX1_addHand_15 0 rfl rfl ?_
    refine z_aload_n F dX1_addHand_23 24 rfl 0 rfl ?_
    refine z_get F dX1_addHand_24 27 rfl kX1_addHand_35 0 rfl rfl ?_
    refine z_iconst F dX1_addHand_27 28 rfl zki_5 ?_
    refine z_iast F dX1_addHand_28 29 rfl 2 rfl (by decide) j1 ej1 hj1 (wHo aH cyI hI (va_up (va_up hR 0 (upd (hR 0) j1 x1)) 1 (upd (hR 1) j1 5))) rfl ?_
    refine z_aload_n F dX1_addHand_29 30 rfl 0 rfl ?_
    refine z_dup F dX1_addHand_30 31 rfl rfl ?_
    refine z_get F dX1_addHand_31 34 rfl kX1_addHand_35 0 rfl rfl ?_
    refine z_iconst F dX1_addHand_34 35 rfl zki_1 ?_
    refine z_iadd F dX1_addHand_35 36 rfl ?_
    refine z_topi (fun v1 ev1 => ?_)
    replace hw := hw v1 ev1
    refine z_put F dX1_addHand_36 39 rfl kX1_addHand_35 0 rfl rfl rfl (Nat.le_of_ble_eq_true rfl) (wHo aH cyI (va_up hI 1 v1) (va_up (va_up hR 0 (upd (hR 0) j1 x1)) 1 (upd (hR 1) j1 5))) rfl ?_
    exact hRt 39 _ ((va_up hI 1 v1), (va_up (va_up hR 0 (upd (hR 0) j1 x1)) 1 (upd (hR 1) j1 5))) dX1_addHand_39 hw
set_option maxHeartbeats 4000000 in
set_option maxRecDepth 100000 in
theorem mX1_addHand (l : Launch) (D : va_G) (cyI cyB : ClassId) (aH : Nat → Nat) (x1 : Int32) (hI : Nat → Int32) (hR : Nat → Nat → Int32) {post : (Nat → Int32) → (Nat → Nat → Int32) → Prop} (hw : pX1_addHand x1 hI hR post) : zMv l yX1_addHand wsX1_addHand 0 0 D cyI cyB [.ref (aH 0), .int x1] (wHo aH cyI hI hR) (S := ((Nat → Int32) × (Nat → Nat → Int32))) (fun u => (wHo aH cyI u.1 u.2)) (fun u => post u.1 u.2) :=
  z_metv (cc := cX1_addHand) (nL := 2) (by decide +kernel) rfl (Nat.le_of_ble_eq_true rfl) (fun C hl F hRt => xX1_addHand_0 x1 hI hR F hRt hw)
theorem y_X1_addHand : zY yX1_addHand wsX1_addHand cX1_addHand 2 none 1 := ⟨⟨_, rfl⟩, by decide +kernel⟩
theorem iX1_dropGuesses_1 : ∀ w ∈ wsX10, w ∈ wsX1_dropGuesses := fun w h => List.mem_cons_of_mem _ (List.mem_append_left _ (List.mem_append_right _ h))
theorem iX1_dropGuesses_3 : ∀ w ∈ wsX30, w ∈ wsX1_dropGuesses := fun w h => List.mem_cons_of_mem _ (List.mem_append_right _ h)
theorem kX1_dropGuesses_28 : zL wsX1_dropGuesses RX1 28 1 4 (.object "StillRoom$Pairs") true := zL1 iX1_dropGuesses_1 (by decide) (List.mem_of_getElem? (i := 1) rfl) rfl rfl
theorem kX1_dropGuesses_55 : zL wsX1_dropGuesses RX1 55 3 2 .int false := zL3 iX1_dropGuesses_3 (by decide) (List.mem_of_getElem? (i := 2) rfl) rfl rfl
theorem kX1_dropGuesses_58 : zL wsX1_dropGuesses RX1 58 3 0 (.array .int) true := zL3 iX1_dropGuesses_3 (by decide) (List.mem_of_getElem? (i := 3) rfl) rfl rfl
theorem kX1_dropGuesses_61 : zL wsX1_dropGuesses RX1 61 3 1 (.array .int) true := zL3 iX1_dropGuesses_3 (by decide) (List.mem_of_getElem? (i := 4) rfl) rfl rfl
set_option maxHeartbeats 4000000 in
set_option maxRecDepth 100000 in
theorem xX1_dropGuesses_18 {C : zC} {D : va_G} {cyI cyB : ClassId} {aH : Nat → Nat} (x1 : Int32) (F : zF C D { frames := 1, cells := 0, slots := 0, locals := 22 } cX1_dropGuesses 5 wsX1_dropGuesses RX1 none cyI cyB) {post : (Nat → Int32) → (Nat → Nat → Int32) → Prop} (hRt : zRv C D cX1_dropGuesses 5 (S := ((Nat → Int32) × (Nat → Nat → Int32))) (fun u => (wHo aH cyI u.1 u.2)) (fun u => post u.1 u.2)) : ∀ (n : Nat) (x2 : Int32) (hI : Nat → Int32) (hR : Nat → Nat → Int32), bX1_dropGuesses_18 x1 post  n x2 hI hR → zX C D 5 0 0 (wHo aH cyI hI hR) 18 [(0, .ref (aH 0)), (1, .int x1), (2, .int x2)] [] := by
  intro n
  induction n with
  | zero => intro _ _ _ hw; exact hw.elim
  | succ n ih =>
    intro x2 hI hR hw
    refine z_iload_n F dX1_dropGuesses_18 19 rfl 2 rfl ?_
    refine z_iload_n F dX1_dropGuesses_19 20 rfl 1 rfl ?_
    obtain ⟨hwt, hwf⟩ := hw
    refine z_icmpge F dX1_dropGuesses_20 77 rfl 23 rfl (fun c1 => ?_) (fun c1 => ?_)
    · have hw := hwt c1; clear hwt hwf
      exact hRt 77 _ (hI, hR) dX1_dropGuesses_77 hw
    · have hw := hwf c1; clear hwt hwf
      refine z_aload_n F dX1_dropGuesses_23 24 rfl 0 rfl ?_
      refine z_get F dX1_dropGuesses_24 27 rfl kX1_dropGuesses_28 0 rfl rfl ?_
      refine z_get F dX1_dropGuesses_27 30 rfl kX1_dropGuesses_58 9 rfl rfl ?_
      refine z_iload_n F dX1_dropGuesses_30 31 rfl 2 rfl ?_
      obtain ⟨j1, ej1, hj1, hw⟩ := hw
      refine z_iald F dX1_dropGuesses_31 32 rfl 10 rfl (by decide) j1 ej1 hj1 ?_
      refine z_topi (fun v1 ev1 => ?_)
      replace hw := hw v1 ev1
      refine z_istore_n (lv' := [(3, .int v1), (0, .ref (aH 0)), (1, .int x1), (2, .int x2)]) F dX1_dropGuesses_32 33 rfl (by decide) rfl ?_
      refine z_aload_n F dX1_dropGuesses_33 34 rfl 1 rfl ?_
      refine z_get F dX1_dropGuesses_34 37 rfl kX1_dropGuesses_28 0 rfl rfl ?_
      refine z_get F dX1_dropGuesses_37 40 rfl kX1_dropGuesses_61 9 rfl rfl ?_
      refine z_iload_n F dX1_dropGuesses_40 41 rfl 3 rfl ?_
      refine z_iald F dX1_dropGuesses_41 42 rfl 11 rfl (by decide) j1 ej1 hj1 ?_
      refine z_topi (fun v2 ev2 => ?_)
      replace hw := hw v2 ev2
      refine z_istore (lv' := [(4, .int v2), (3, .int v1), (0, .ref (aH 0)), (1, .int x1), (2, .int x2)]) F dX1_dropGuesses_42 44 rfl (by decide) rfl ?_
      refine z_aload_n F dX1_dropGuesses_44 45 rfl 2 rfl ?_
      refine z_iload_n F dX1_dropGuesses_45 46 rfl 1 rfl ?_
      refine z_segVi (As := [.int v1]) (st := []) F dX1_dropGuesses_46 49 rfl (mX1_isStepSet C.1.2.1 D cyI cyB aH v1 hI hR hw) y_X1_isStepSet rfl gX1_dropGuesses_X1_isStepSet rfl (ci := 1) (rq := 0) rfl rfl ⟨Nat.le_of_ble_eq_true rfl, Nat.le_of_ble_eq_true rfl⟩ ⟨Nat.zero_le _, Nat.zero_le _⟩ (Nat.le_of_ble_eq_true rfl) [] [] (by simp only [List.append_assoc, List.nil_append, List.append_nil]) (fun _ => rfl) (fun u => (wHo aH cyI hI hR)) (fun u => (by simp only [List.append_assoc, List.nil_append, List.append_nil])) (fun r0 u hp => ?_)
      obtain ⟨b1, rfl, hw⟩ := hp
      obtain ⟨hwt, hwf⟩ := hw
      refine z_ifeqB F dX1_dropGuesses_49 71 rfl 52 rfl (fun c2 => ?_) (fun c2 => ?_)
      · have hw := hwt c2; clear hwt hwf
        refine z_iinc F dX1_dropGuesses_71 74 rfl 4 rfl (by decide) zki_1 (fun v3 => [(2, .int v3), (4, .int v2), (3, .int v1), (0, .ref (aH 0)), (1, .int x1)]) (fun _ => rfl) (fun v3 ev3 => ?_)
        replace hw := hw v3 ev3
        refine z_goto F dX1_dropGuesses_74 18 rfl ?_
        refine z_lv (lv' := [(0, .ref (aH 0)), (1, .int x1), (2, .int v3)]) [3, 4, 0] rfl ?_
        exact ih v3 hI hR hw
      · have hw := hwf c2; clear hwt hwf
        refine z_aload_n F dX1_dropGuesses_52 53 rfl 2 rfl ?_
        refine z_iload F dX1_dropGuesses_53 55 rfl 0 rfl ?_
        refine z_segVi (As := [.int v2]) (st := []) F dX1_dropGuesses_55 58 rfl (mX1_isStep C.1.2.1 D cyI cyB aH v2 hI hR hw) y_X1_isStep rfl gX1_dropGuesses_X1_isStep rfl (ci := 1) (rq := 0) rfl rfl ⟨Nat.le_of_ble_eq_true rfl, Nat.le_of_ble_eq_true rfl⟩ ⟨Nat.zero_le _, Nat.zero_le _⟩ (Nat.le_of_ble_eq_true rfl) [] [] (by simp only [List.append_assoc, List.nil_append, List.append_nil]) (fun _ => rfl) (fun u => (wHo aH cyI hI hR)) (fun u => (by simp only [List.append_assoc, List.nil_append, List.append_nil])) (fun r0 u hp => ?_)
        obtain ⟨b2, rfl, hw⟩ := hp
        obtain ⟨hwt, hwf⟩ := hw
        refine z_ifeqB F dX1_dropGuesses_58 71 rfl 61 rfl (fun c3 => ?_) (fun c3 => ?_)
        · have hw := hwt c3; clear hwt hwf
          refine z_iinc F dX1_dropGuesses_71 74 rfl 4 rfl (by decide) zki_1 (fun v4 => [(2, .int v4), (4, .int v2), (3, .int v1), (0, .ref (aH 0)), (1, .int x1)]) (fun _ => rfl) (fun v4 ev4 => ?_)
          replace hw := hw v4 ev4
          refine z_goto F dX1_dropGuesses_74 18 rfl ?_
          refine z_lv (lv' := [(0, .ref (aH 0)), (1, .int x1), (2, .int v4)]) [3, 4, 0] rfl ?_
          exact ih v4 hI hR hw
        · have hw := hwf c3; clear hwt hwf
          refine z_aload_n F dX1_dropGuesses_61 62 rfl 2 rfl ?_
          refine z_get F dX1_dropGuesses_62 65 rfl kX1_dropGuesses_28 0 rfl rfl ?_
          refine z_iload_n F dX1_dropGuesses_65 66 rfl 1 rfl ?_
          refine z_iload F dX1_dropGuesses_66 68 rfl 0 rfl ?_
          refine z_callVv (As := [.int v1, .int v2]) (st := []) F dX1_dropGuesses_68 71 rfl (mX3_add C.1.2.1 D cyI cyB (fun j => aH (9 + j)) v1 v2 (hI 6) (hR 6) (hR 7) hw) y_X3_add rfl gX1_dropGuesses_X3_add rfl (ci := 3) (rq := 0) rfl rfl ⟨Nat.le_of_ble_eq_true rfl, Nat.le_of_ble_eq_true rfl⟩ ⟨Nat.zero_le _, Nat.zero_le _⟩ (Nat.le_of_ble_eq_true rfl) [9, 10, 11] (by decide) rfl (fun _ => rfl) (fun u => (wHo aH cyI (va_up hI 6 u.1) (va_up (va_up hR 6 u.2.1) 7 u.2.2))) (fun _ => rfl) (fun u hp => ?_)
          obtain ⟨pn_1, pf_1, ps_1⟩ := u
          replace hw := hp
          clear hp
          refine z_iinc F dX1_dropGuesses_71 74 rfl 4 rfl (by decide) zki_1 (fun v5 => [(2, .int v5), (4, .int v2), (3, .int v1), (0, .ref (aH 0)), (1, .int x1)]) (fun _ => rfl) (fun v5 ev5 => ?_)
          replace hw := hw v5 ev5
          refine z_goto F dX1_dropGuesses_74 18 rfl ?_
          refine z_lv (lv' := [(0, .ref (aH 0)), (1, .int x1), (2, .int v5)]) [3, 4, 0] rfl ?_
          exact ih v5 (va_up hI 6 pn_1) (va_up (va_up hR 6 pf_1) 7 ps_1) hw
set_option maxHeartbeats 4000000 in
set_option maxRecDepth 100000 in
theorem xX1_dropGuesses_0 {C : zC} {D : va_G} {cyI cyB : ClassId} {aH : Nat → Nat} (hI : Nat → Int32) (hR : Nat → Nat → Int32) (F : zF C D { frames := 1, cells := 0, slots := 0, locals := 22 } cX1_dropGuesses 5 wsX1_dropGuesses RX1 none cyI cyB) {post : (Nat → Int32) → (Nat → Nat → Int32) → Prop} (hRt : zRv C D cX1_dropGuesses 5 (S := ((Nat → Int32) × (Nat → Nat → Int32))) (fun u => (wHo aH cyI u.1 u.2)) (fun u => post u.1 u.2)) (hw : pX1_dropGuesses hI hR post) : zX C D 5 0 0 (wHo aH cyI hI hR) 0 [(0, .ref (aH 0))] [] := by
  refine z_aload_n F dX1_dropGuesses_0 1 rfl 0 rfl ?_
  refine z_get F dX1_dropGuesses_1 4 rfl kX1_dropGuesses_28 0 rfl rfl ?_
  refine z_get F dX1_dropGuesses_4 7 rfl kX1_dropGuesses_55 9 rfl rfl ?_
  refine z_istore_n (lv' := [(1, .int (hI 6)), (0, .ref (aH 0))]) F dX1_dropGuesses_7 8 rfl (by decide) rfl ?_
  refine z_aload_n F dX1_dropGuesses_8 9 rfl 1 rfl ?_
  refine z_get F dX1_dropGuesses_9 12 rfl kX1_dropGuesses_28 0 rfl rfl ?_
  refine z_iconst F dX1_dropGuesses_12 13 rfl zki_0 ?_
  refine z_put F dX1_dropGuesses_13 16 rfl kX1_dropGuesses_55 9 rfl rfl rfl (Nat.le_of_ble_eq_true rfl) (wHo aH cyI (va_up hI 6 0) hR) rfl ?_
  refine z_iconst F dX1_dropGuesses_16 17 rfl zki_0 ?_
  refine z_istore_n (lv' := [(2, .int 0), (1, .int (hI 6)), (0, .ref (aH 0))]) F dX1_dropGuesses_17 18 rfl (by decide) rfl ?_
  obtain ⟨n1, hw⟩ := hw
  refine z_lv (lv' := [(0, .ref (aH 0)), (1, .int (hI 6)), (2, .int 0)]) [2, 1, 0] rfl ?_
  refine xX1_dropGuesses_18 (hI 6) F hRt n1 0 (va_up hI 6 0) hR hw
set_option maxHeartbeats 4000000 in
set_option maxRecDepth 100000 in
theorem mX1_dropGuesses (l : Launch) (D : va_G) (cyI cyB : ClassId) (aH : Nat → Nat) (hI : Nat → Int32) (hR : Nat → Nat → Int32) {post : (Nat → Int32) → (Nat → Nat → Int32) → Prop} (hw : pX1_dropGuesses hI hR post) : zMv l yX1_dropGuesses wsX1_dropGuesses 1 22 D cyI cyB [.ref (aH 0)] (wHo aH cyI hI hR) (S := ((Nat → Int32) × (Nat → Nat → Int32))) (fun u => (wHo aH cyI u.1 u.2)) (fun u => post u.1 u.2) :=
  z_metv (cc := cX1_dropGuesses) (nL := 5) (by decide +kernel) rfl (Nat.le_of_ble_eq_true rfl) (fun C hl F hRt => xX1_dropGuesses_0 hI hR F hRt hw)
theorem y_X1_dropGuesses : zY yX1_dropGuesses wsX1_dropGuesses cX1_dropGuesses 5 none 0 := ⟨⟨_, rfl⟩, by decide +kernel⟩
theorem iX1_setSteps_1 : ∀ w ∈ wsX10, w ∈ wsX1_setSteps := fun w h => List.mem_cons_of_mem _ (List.mem_append_left _ (List.mem_append_right _ h))
theorem kX1_setSteps_9 : zL wsX1_setSteps RX1 9 1 0 (.array .int) true := zL1 iX1_setSteps_1 (by decide) (List.mem_of_getElem? (i := 3) rfl) rfl rfl
theorem kX1_setSteps_31 : zL wsX1_setSteps RX1 31 1 5 .int false := zL1 iX1_setSteps_1 (by decide) (List.mem_of_getElem? (i := 1) rfl) rfl rfl
theorem kX1_setSteps_35 : zL wsX1_setSteps RX1 35 1 6 .int false := zL1 iX1_setSteps_1 (by decide) (List.mem_of_getElem? (i := 2) rfl) rfl rfl
theorem kX1_setSteps_41 : zL wsX1_setSteps RX1 41 1 8 .int false := zL1 iX1_setSteps_1 (by decide) (List.mem_of_getElem? (i := 4) rfl) rfl rfl
set_option maxHeartbeats 4000000 in
set_option maxRecDepth 100000 in
theorem xX1_setSteps_7 {C : zC} {D : va_G} {cyI cyB : ClassId} {aH : Nat → Nat} (F : zF C D { frames := 2, cells := 0, slots := 0, locals := 46 } cX1_setSteps 3 wsX1_setSteps RX1 none cyI cyB) {post : (Nat → Int32) → (Nat → Nat → Int32) → Prop} (hRt : zRv C D cX1_setSteps 3 (S := ((Nat → Int32) × (Nat → Nat → Int32))) (fun u => (wHo aH cyI u.1 u.2)) (fun u => post u.1 u.2)) {k34 : (Nat → Int32) → (Nat → Nat → Int32) → Prop} (hk34 : ∀ (hI : Nat → Int32) (hR : Nat → Nat → Int32), k34 hI hR → zX C D 3 0 0 (wHo aH cyI hI hR) 34 [(0, .ref (aH 0))] []) : ∀ (n : Nat) (x2 : Int32) (hI : Nat → Int32) (hR : Nat → Nat → Int32), bX1_setSteps_7 post k34  n x2 hI hR → zX C D 3 0 0 (wHo aH cyI hI hR) 7 [(0, .ref (aH 0)), (2, .int x2)] [] := by
  intro n
  induction n with
  | zero => intro _ _ _ hw; exact hw.elim
  | succ n ih =>
    intro x2 hI hR hw
    refine z_iload_n F dX1_setSteps_7 8 rfl 1 rfl ?_
    refine z_aload_n F dX1_setSteps_8 9 rfl 0 rfl ?_
    refine z_get F dX1_setSteps_9 12 rfl kX1_setSteps_35 0 rfl rfl ?_
    obtain ⟨hwt, hwf⟩ := hw
    refine z_icmpge F dX1_setSteps_12 34 rfl 15 rfl (fun c1 => ?_) (fun c1 => ?_)
    · have hw := hwt c1; clear hwt hwf
      refine z_lv (lv' := [(0, .ref (aH 0))]) [0] rfl ?_
      exact hk34 hI hR hw
    · have hw := hwf c1; clear hwt hwf
      refine z_aload_n F dX1_setSteps_15 16 rfl 0 rfl ?_
      refine z_get F dX1_setSteps_16 19 rfl kX1_setSteps_9 0 rfl rfl ?_
      refine z_iload_n F dX1_setSteps_19 20 rfl 1 rfl ?_
      refine z_dup2 F dX1_setSteps_20 21 rfl rfl rfl ?_
      obtain ⟨j1, ej1, hj1, hw⟩ := hw
      refine z_iald F dX1_setSteps_21 22 rfl 1 rfl (by decide) j1 ej1 hj1 ?_
      refine z_aload_n F dX1_setSteps_22 23 rfl 0 rfl ?_
      refine z_segVi (As := []) (st := [.int ((hR 0) j1), .int x2, .ref (aH 1)]) F dX1_setSteps_23 26 rfl (mX1_it C.1.2.1 D cyI cyB aH hI hR hw) y_X1_it rfl gX1_setSteps_X1_it rfl (ci := 1) (rq := 0) rfl rfl ⟨Nat.le_of_ble_eq_true rfl, Nat.le_of_ble_eq_true rfl⟩ ⟨Nat.zero_le _, Nat.zero_le _⟩ (Nat.le_of_ble_eq_true rfl) [] [] (by simp only [List.append_assoc, List.nil_append, List.append_nil]) (fun _ => rfl) (fun u => (wHo aH cyI hI hR)) (fun u => (by simp only [List.append_assoc, List.nil_append, List.append_nil])) (fun r1 u hp => ?_)
      replace hw := hp
      clear hp
      refine z_iand F dX1_setSteps_26 27 rfl ?_
      refine z_topi (fun v1 ev1 => ?_)
      replace hw := hw v1 ev1
      refine z_iast F dX1_setSteps_27 28 rfl 1 rfl (by decide) j1 ej1 hj1 (wHo aH cyI hI (va_up hR 0 (upd (hR 0) j1 v1))) rfl ?_
      refine z_iinc F dX1_setSteps_28 31 rfl 1 rfl (by decide) zki_1 (fun v2 => [(2, .int v2), (0, .ref (aH 0))]) (fun _ => rfl) (fun v2 ev2 => ?_)
      replace hw := hw v2 ev2
      refine z_goto F dX1_setSteps_31 7 rfl ?_
      refine z_lv (lv' := [(0, .ref (aH 0)), (2, .int v2)]) [1, 0] rfl ?_
      exact ih v2 hI (va_up hR 0 (upd (hR 0) j1 v1)) hw
set_option maxHeartbeats 4000000 in
set_option maxRecDepth 100000 in
theorem xX1_setSteps_0 {C : zC} {D : va_G} {cyI cyB : ClassId} {aH : Nat → Nat} (x1 : Int32) (hI : Nat → Int32) (hR : Nat → Nat → Int32) (F : zF C D { frames := 2, cells := 0, slots := 0, locals := 46 } cX1_setSteps 3 wsX1_setSteps RX1 none cyI cyB) {post : (Nat → Int32) → (Nat → Nat → Int32) → Prop} (hRt : zRv C D cX1_setSteps 3 (S := ((Nat → Int32) × (Nat → Nat → Int32))) (fun u => (wHo aH cyI u.1 u.2)) (fun u => post u.1 u.2)) (hw : pX1_setSteps x1 hI hR post) : zX C D 3 0 0 (wHo aH cyI hI hR) 0 [(0, .ref (aH 0)), (1, .int x1)] [] := by
  refine z_aload_n F dX1_setSteps_0 1 rfl 0 rfl ?_
  refine z_iload_n F dX1_setSteps_1 2 rfl 1 rfl ?_
  refine z_put F dX1_setSteps_2 5 rfl kX1_setSteps_31 0 rfl rfl rfl (Nat.le_of_ble_eq_true rfl) (wHo aH cyI (va_up hI 0 x1) hR) rfl ?_
  refine z_iconst F dX1_setSteps_5 6 rfl zki_0 ?_
  refine z_istore_n (lv' := [(2, .int 0), (0, .ref (aH 0)), (1, .int x1)]) F dX1_setSteps_6 7 rfl (by decide) rfl ?_
  obtain ⟨n1, hw⟩ := hw
  refine z_lv (lv' := [(0, .ref (aH 0)), (2, .int 0)]) [1, 0] rfl ?_
  refine xX1_setSteps_7 F hRt (fun hI_1 hR_1 hw => ?_) n1 0 (va_up hI 0 x1) hR hw
  refine z_aload_n F dX1_setSteps_34 35 rfl 0 rfl ?_
  refine z_dup F dX1_setSteps_35 36 rfl rfl ?_
  refine z_get F dX1_setSteps_36 39 rfl kX1_setSteps_41 0 rfl rfl ?_
  refine z_aload_n F dX1_setSteps_39 40 rfl 0 rfl ?_
  refine z_segVi (As := []) (st := [.int (hI_1 3), .ref (aH 0)]) F dX1_setSteps_40 43 rfl (mX1_it C.1.2.1 D cyI cyB aH hI_1 hR_1 hw) y_X1_it rfl gX1_setSteps_X1_it rfl (ci := 1) (rq := 0) rfl rfl ⟨Nat.le_of_ble_eq_true rfl, Nat.le_of_ble_eq_true rfl⟩ ⟨Nat.zero_le _, Nat.zero_le _⟩ (Nat.le_of_ble_eq_true rfl) [] [] (by simp only [List.append_assoc, List.nil_append, List.append_nil]) (fun _ => rfl) (fun u => (wHo aH cyI hI_1 hR_1)) (fun u => (by simp only [List.append_assoc, List.nil_append, List.append_nil])) (fun r1 u hp => ?_)
  replace hw := hp
  clear hp
  refine z_iand F dX1_setSteps_43 44 rfl ?_
  refine z_topi (fun v1 ev1 => ?_)
  replace hw := hw v1 ev1
  refine z_put F dX1_setSteps_44 47 rfl kX1_setSteps_41 0 rfl rfl rfl (Nat.le_of_ble_eq_true rfl) (wHo aH cyI (va_up hI_1 3 v1) hR_1) rfl ?_
  refine z_aload_n F dX1_setSteps_47 48 rfl 0 rfl ?_
  refine z_segVv (As := []) (st := []) F dX1_setSteps_48 51 rfl (mX1_dropGuesses C.1.2.1 D cyI cyB aH (va_up hI_1 3 v1) hR_1 hw) y_X1_dropGuesses rfl gX1_setSteps_X1_dropGuesses rfl (ci := 1) (rq := 0) rfl rfl ⟨Nat.le_of_ble_eq_true rfl, Nat.le_of_ble_eq_true rfl⟩ ⟨Nat.zero_le _, Nat.zero_le _⟩ (Nat.le_of_ble_eq_true rfl) [] [] (by simp only [List.append_assoc, List.nil_append, List.append_nil]) (fun _ => rfl) (fun u => (wHo aH cyI u.1 u.2)) (fun u => (by simp only [List.append_assoc, List.nil_append, List.append_nil])) (fun u hp => ?_)
  obtain ⟨hI_2, hR_2⟩ := u
  replace hw := hp
  clear hp
  exact hRt 51 _ (hI_2, hR_2) dX1_setSteps_51 hw
set_option maxHeartbeats 4000000 in
set_option maxRecDepth 100000 in
theorem mX1_setSteps (l : Launch) (D : va_G) (cyI cyB : ClassId) (aH : Nat → Nat) (x1 : Int32) (hI : Nat → Int32) (hR : Nat → Nat → Int32) {post : (Nat → Int32) → (Nat → Nat → Int32) → Prop} (hw : pX1_setSteps x1 hI hR post) : zMv l yX1_setSteps wsX1_setSteps 2 46 D cyI cyB [.ref (aH 0), .int x1] (wHo aH cyI hI hR) (S := ((Nat → Int32) × (Nat → Nat → Int32))) (fun u => (wHo aH cyI u.1 u.2)) (fun u => post u.1 u.2) :=
  z_metv (cc := cX1_setSteps) (nL := 3) (by decide +kernel) rfl (Nat.le_of_ble_eq_true rfl) (fun C hl F hRt => xX1_setSteps_0 x1 hI hR F hRt hw)
theorem y_X1_setSteps : zY yX1_setSteps wsX1_setSteps cX1_setSteps 3 none 1 := ⟨⟨_, rfl⟩, by decide +kernel⟩
theorem iX1_copyFrom_1 : ∀ w ∈ wsX10, w ∈ wsX1_copyFrom := fun w h => List.mem_cons_of_mem _ (List.mem_append_left _ (List.mem_append_right _ h))
theorem kX1_copyFrom_9 : zL wsX1_copyFrom RX1 9 1 0 (.array .int) true := zL1 iX1_copyFrom_1 (by decide) (List.mem_of_getElem? (i := 1) rfl) rfl rfl
theorem kX1_copyFrom_15 : zL wsX1_copyFrom RX1 15 1 1 (.array .int) true := zL1 iX1_copyFrom_1 (by decide) (List.mem_of_getElem? (i := 6) rfl) rfl rfl
theorem kX1_copyFrom_21 : zL wsX1_copyFrom RX1 21 1 2 (.object "StillRoom$Pairs") true := zL1 iX1_copyFrom_1 (by decide) (List.mem_of_getElem? (i := 7) rfl) rfl rfl
theorem kX1_copyFrom_25 : zL wsX1_copyFrom RX1 25 1 3 (.object "StillRoom$Pairs") true := zL1 iX1_copyFrom_1 (by decide) (List.mem_of_getElem? (i := 8) rfl) rfl rfl
theorem kX1_copyFrom_28 : zL wsX1_copyFrom RX1 28 1 4 (.object "StillRoom$Pairs") true := zL1 iX1_copyFrom_1 (by decide) (List.mem_of_getElem? (i := 9) rfl) rfl rfl
theorem kX1_copyFrom_31 : zL wsX1_copyFrom RX1 31 1 5 .int false := zL1 iX1_copyFrom_1 (by decide) (List.mem_of_getElem? (i := 10) rfl) rfl rfl
theorem kX1_copyFrom_35 : zL wsX1_copyFrom RX1 35 1 6 .int false := zL1 iX1_copyFrom_1 (by decide) (List.mem_of_getElem? (i := 11) rfl) rfl rfl
theorem kX1_copyFrom_38 : zL wsX1_copyFrom RX1 38 1 7 .int false := zL1 iX1_copyFrom_1 (by decide) (List.mem_of_getElem? (i := 12) rfl) rfl rfl
theorem kX1_copyFrom_41 : zL wsX1_copyFrom RX1 41 1 8 .int false := zL1 iX1_copyFrom_1 (by decide) (List.mem_of_getElem? (i := 13) rfl) rfl rfl
set_option maxHeartbeats 4000000 in
set_option maxRecDepth 100000 in
theorem xX1_copyFrom_0 {C : zC} {D : va_G} {cyI cyB : ClassId} {aH : Nat → Nat} {aK : Nat → Nat} (hI : Nat → Int32) (hR : Nat → Nat → Int32) (gI : Nat → Int32) (gR : Nat → Nat → Int32) (F : zF C D { frames := 2, cells := 0, slots := 0, locals := 51 } cX1_copyFrom 2 wsX1_copyFrom RX1 none cyI cyB) {post : (Nat → Int32) → (Nat → Nat → Int32) → Prop} (hRt : zRv C D cX1_copyFrom 2 (S := ((Nat → Int32) × (Nat → Nat → Int32))) (fun u => (wHo aH cyI u.1 u.2 ++ wHo aK cyI gI gR)) (fun u => post u.1 u.2)) (hw : pX1_copyFrom hI hR gI gR post) : zX C D 2 0 0 (wHo aH cyI hI hR ++ wHo aK cyI gI gR) 0 [(0, .ref (aH 0)), (1, .ref (aK 0))] [] := by
  refine z_aload_n F dX1_copyFrom_0 1 rfl 1 rfl ?_
  refine z_get F dX1_copyFrom_1 4 rfl kX1_copyFrom_9 12 rfl rfl ?_
  refine z_iconst F dX1_copyFrom_4 5 rfl zki_0 ?_
  refine z_aload_n F dX1_copyFrom_5 6 rfl 0 rfl ?_
  refine z_get F dX1_copyFrom_6 9 rfl kX1_copyFrom_9 0 rfl rfl ?_
  refine z_iconst F dX1_copyFrom_9 10 rfl zki_0 ?_
  refine z_bipush F dX1_copyFrom_10 12 rfl zkb_8 ?_
  refine z_copy F dX1_copyFrom_12 15 rfl (List.mem_of_getElem? (i := 2) rfl) (List.mem_of_getElem? (i := 3) rfl) (List.mem_of_getElem? (i := 4) rfl) (List.mem_of_getElem? (i := 5) rfl) 13 1 rfl rfl (by decide) (by decide) (by decide) (by decide) (Nat.le_of_ble_eq_true rfl) (Nat.le_of_ble_eq_true rfl) (wHo aH cyI hI (va_up hR 0 (va_cpy (gR 0) (hR 0) 0 0 8)) ++ wHo aK cyI gI gR) rfl ?_
  refine z_aload_n F dX1_copyFrom_15 16 rfl 1 rfl ?_
  refine z_get F dX1_copyFrom_16 19 rfl kX1_copyFrom_15 12 rfl rfl ?_
  refine z_iconst F dX1_copyFrom_19 20 rfl zki_0 ?_
  refine z_aload_n F dX1_copyFrom_20 21 rfl 0 rfl ?_
  refine z_get F dX1_copyFrom_21 24 rfl kX1_copyFrom_15 0 rfl rfl ?_
  refine z_iconst F dX1_copyFrom_24 25 rfl zki_0 ?_
  refine z_bipush F dX1_copyFrom_25 27 rfl zkb_8 ?_
  refine z_copy F dX1_copyFrom_27 30 rfl (List.mem_of_getElem? (i := 2) rfl) (List.mem_of_getElem? (i := 3) rfl) (List.mem_of_getElem? (i := 4) rfl) (List.mem_of_getElem? (i := 5) rfl) 14 2 rfl rfl (by decide) (by decide) (by decide) (by decide) (Nat.le_of_ble_eq_true rfl) (Nat.le_of_ble_eq_true rfl) (wHo aH cyI hI (va_up (va_up hR 0 (va_cpy (gR 0) (hR 0) 0 0 8)) 1 (va_cpy (gR 1) (hR 1) 0 0 8)) ++ wHo aK cyI gI gR) rfl ?_
  refine z_aload_n F dX1_copyFrom_30 31 rfl 0 rfl ?_
  refine z_get F dX1_copyFrom_31 34 rfl kX1_copyFrom_21 0 rfl rfl ?_
  refine z_aload_n F dX1_copyFrom_34 35 rfl 1 rfl ?_
  refine z_get F dX1_copyFrom_35 38 rfl kX1_copyFrom_21 12 rfl rfl ?_
  refine z_callVv (As := [.ref (aK 3)]) (st := []) F dX1_copyFrom_38 41 rfl (mX3_copyFrom C.1.2.1 D cyI cyB (fun j => aH (3 + j)) (fun j => aK (3 + j)) (hI 4) (hR 2) (hR 3) (gI 4) (gR 2) (gR 3) hw) y_X3_copyFrom rfl gX1_copyFrom_X3_copyFrom rfl (ci := 3) (rq := 0) rfl rfl ⟨Nat.le_of_ble_eq_true rfl, Nat.le_of_ble_eq_true rfl⟩ ⟨Nat.zero_le _, Nat.zero_le _⟩ (Nat.le_of_ble_eq_true rfl) [3, 4, 5, 15, 16, 17] (by decide) rfl (fun _ => rfl) (fun u => (wHo aH cyI (va_up hI 4 u.1) (va_up (va_up (va_up (va_up hR 0 (va_cpy (gR 0) (hR 0) 0 0 8)) 1 (va_cpy (gR 1) (hR 1) 0 0 8)) 2 u.2.1) 3 u.2.2) ++ wHo aK cyI gI gR)) (fun _ => rfl) (fun u hp => ?_)
  obtain ⟨pn_1, pf_1, ps_1⟩ := u
  replace hw := hp
  clear hp
  refine z_aload_n F dX1_copyFrom_41 42 rfl 0 rfl ?_
  refine z_get F dX1_copyFrom_42 45 rfl kX1_copyFrom_25 0 rfl rfl ?_
  refine z_aload_n F dX1_copyFrom_45 46 rfl 1 rfl ?_
  refine z_get F dX1_copyFrom_46 49 rfl kX1_copyFrom_25 12 rfl rfl ?_
  refine z_callVv (As := [.ref (aK 6)]) (st := []) F dX1_copyFrom_49 52 rfl (mX3_copyFrom C.1.2.1 D cyI cyB (fun j => aH (6 + j)) (fun j => aK (6 + j)) (hI 5) (hR 4) (hR 5) (gI 5) (gR 4) (gR 5) hw) y_X3_copyFrom rfl gX1_copyFrom_X3_copyFrom rfl (ci := 3) (rq := 0) rfl rfl ⟨Nat.le_of_ble_eq_true rfl, Nat.le_of_ble_eq_true rfl⟩ ⟨Nat.zero_le _, Nat.zero_le _⟩ (Nat.le_of_ble_eq_true rfl) [6, 7, 8, 18, 19, 20] (by decide) rfl (fun _ => rfl) (fun u => (wHo aH cyI (va_up (va_up hI 4 pn_1) 5 u.1) (va_up (va_up (va_up (va_up (va_up (va_up hR 0 (va_cpy (gR 0) (hR 0) 0 0 8)) 1 (va_cpy (gR 1) (hR 1) 0 0 8)) 2 pf_1) 3 ps_1) 4 u.2.1) 5 u.2.2) ++ wHo aK cyI gI gR)) (fun _ => rfl) (fun u hp => ?_)
  obtain ⟨pn_2, pf_2, ps_2⟩ := u
  replace hw := hp
  clear hp
  refine z_aload_n F dX1_copyFrom_52 53 rfl 0 rfl ?_
  refine z_get F dX1_copyFrom_53 56 rfl kX1_copyFrom_28 0 rfl rfl ?_
  refine z_aload_n F dX1_copyFrom_56 57 rfl 1 rfl ?_
  refine z_get F dX1_copyFrom_57 60 rfl kX1_copyFrom_28 12 rfl rfl ?_
  refine z_callVv (As := [.ref (aK 9)]) (st := []) F dX1_copyFrom_60 63 rfl (mX3_copyFrom C.1.2.1 D cyI cyB (fun j => aH (9 + j)) (fun j => aK (9 + j)) (hI 6) (hR 6) (hR 7) (gI 6) (gR 6) (gR 7) hw) y_X3_copyFrom rfl gX1_copyFrom_X3_copyFrom rfl (ci := 3) (rq := 0) rfl rfl ⟨Nat.le_of_ble_eq_true rfl, Nat.le_of_ble_eq_true rfl⟩ ⟨Nat.zero_le _, Nat.zero_le _⟩ (Nat.le_of_ble_eq_true rfl) [9, 10, 11, 21, 22, 23] (by decide) rfl (fun _ => rfl) (fun u => (wHo aH cyI (va_up (va_up (va_up hI 4 pn_1) 5 pn_2) 6 u.1) (va_up (va_up (va_up (va_up (va_up (va_up (va_up (va_up hR 0 (va_cpy (gR 0) (hR 0) 0 0 8)) 1 (va_cpy (gR 1) (hR 1) 0 0 8)) 2 pf_1) 3 ps_1) 4 pf_2) 5 ps_2) 6 u.2.1) 7 u.2.2) ++ wHo aK cyI gI gR)) (fun _ => rfl) (fun u hp => ?_)
  obtain ⟨pn_3, pf_3, ps_3⟩ := u
  replace hw := hp
  clear hp
  refine z_aload_n F dX1_copyFrom_63 64 rfl 0 rfl ?_
  refine z_aload_n F dX1_copyFrom_64 65 rfl 1 rfl ?_
  refine z_get F dX1_copyFrom_65 68 rfl kX1_copyFrom_31 12 rfl rfl ?_
  refine z_put F dX1_copyFrom_68 71 rfl kX1_copyFrom_31 0 rfl rfl rfl (Nat.le_of_ble_eq_true rfl) (wHo aH cyI (va_up (va_up (va_up (va_up hI 4 pn_1) 5 pn_2) 6 pn_3) 0 (gI 0)) (va_up (va_up (va_up (va_up (va_up (va_up (va_up (va_up hR 0 (va_cpy (gR 0) (hR 0) 0 0 8)) 1 (va_cpy (gR 1) (hR 1) 0 0 8)) 2 pf_1) 3 ps_1) 4 pf_2) 5 ps_2) 6 pf_3) 7 ps_3) ++ wHo aK cyI gI gR) rfl ?_
  refine z_aload_n F dX1_copyFrom_71 72 rfl 0 rfl ?_
  refine z_aload_n F dX1_copyFrom_72 73 rfl 1 rfl ?_
  refine z_get F dX1_copyFrom_73 76 rfl kX1_copyFrom_35 12 rfl rfl ?_
  refine z_put F dX1_copyFrom_76 79 rfl kX1_copyFrom_35 0 rfl rfl rfl (Nat.le_of_ble_eq_true rfl) (wHo aH cyI (va_up (va_up (va_up (va_up (va_up hI 4 pn_1) 5 pn_2) 6 pn_3) 0 (gI 0)) 1 (gI 1)) (va_up (va_up (va_up (va_up (va_up (va_up (va_up (va_up hR 0 (va_cpy (gR 0) (hR 0) 0 0 8)) 1 (va_cpy (gR 1) (hR 1) 0 0 8)) 2 pf_1) 3 ps_1) 4 pf_2) 5 ps_2) 6 pf_3) 7 ps_3) ++ wHo aK cyI gI gR) rfl ?_
  refine z_aload_n F dX1_copyFrom_79 80 rfl 0 rfl ?_
  refine z_aload_n F dX1_copyFrom_80 81 rfl 1 rfl ?_
  refine z_get F dX1_copyFrom_81 84 rfl kX1_copyFrom_38 12 rfl rfl ?_
  refine z_put F dX1_copyFrom_84 87 rfl kX1_copyFrom_38 0 rfl rfl rfl (Nat.le_of_ble_eq_true rfl) (wHo aH cyI (va_up (va_up (va_up (va_up (va_up (va_up hI 4 pn_1) 5 pn_2) 6 pn_3) 0 (gI 0)) 1 (gI 1)) 2 (gI 2)) (va_up (va_up (va_up (va_up (va_up (va_up (va_up (va_up hR 0 (va_cpy (gR 0) (hR 0) 0 0 8)) 1 (va_cpy (gR 1) (hR 1) 0 0 8)) 2 pf_1) 3 ps_1) 4 pf_2) 5 ps_2) 6 pf_3) 7 ps_3) ++ wHo aK cyI gI gR) rfl ?_
  refine z_aload_n F dX1_copyFrom_87 88 rfl 0 rfl ?_
  refine z_aload_n F dX1_copyFrom_88 89 rfl 1 rfl ?_
  refine z_get F dX1_copyFrom_89 92 rfl kX1_copyFrom_41 12 rfl rfl ?_
  refine z_put F dX1_copyFrom_92 95 rfl kX1_copyFrom_41 0 rfl rfl rfl (Nat.le_of_ble_eq_true rfl) (wHo aH cyI (va_up (va_up (va_up (va_up (va_up (va_up (va_up hI 4 pn_1) 5 pn_2) 6 pn_3) 0 (gI 0)) 1 (gI 1)) 2 (gI 2)) 3 (gI 3)) (va_up (va_up (va_up (va_up (va_up (va_up (va_up (va_up hR 0 (va_cpy (gR 0) (hR 0) 0 0 8)) 1 (va_cpy (gR 1) (hR 1) 0 0 8)) 2 pf_1) 3 ps_1) 4 pf_2) 5 ps_2) 6 pf_3) 7 ps_3) ++ wHo aK cyI gI gR) rfl ?_
  exact hRt 95 _ ((va_up (va_up (va_up (va_up (va_up (va_up (va_up hI 4 pn_1) 5 pn_2) 6 pn_3) 0 (gI 0)) 1 (gI 1)) 2 (gI 2)) 3 (gI 3)), (va_up (va_up (va_up (va_up (va_up (va_up (va_up (va_up hR 0 (va_cpy (gR 0) (hR 0) 0 0 8)) 1 (va_cpy (gR 1) (hR 1) 0 0 8)) 2 pf_1) 3 ps_1) 4 pf_2) 5 ps_2) 6 pf_3) 7 ps_3)) dX1_copyFrom_95 hw
set_option maxHeartbeats 4000000 in
set_option maxRecDepth 100000 in
theorem mX1_copyFrom (l : Launch) (D : va_G) (cyI cyB : ClassId) (aH : Nat → Nat) (aK : Nat → Nat) (hI : Nat → Int32) (hR : Nat → Nat → Int32) (gI : Nat → Int32) (gR : Nat → Nat → Int32) {post : (Nat → Int32) → (Nat → Nat → Int32) → Prop} (hw : pX1_copyFrom hI hR gI gR post) : zMv l yX1_copyFrom wsX1_copyFrom 2 51 D cyI cyB [.ref (aH 0), .ref (aK 0)] (wHo aH cyI hI hR ++ wHo aK cyI gI gR) (S := ((Nat → Int32) × (Nat → Nat → Int32))) (fun u => (wHo aH cyI u.1 u.2 ++ wHo aK cyI gI gR)) (fun u => post u.1 u.2) :=
  z_metv (cc := cX1_copyFrom) (nL := 2) (by decide +kernel) rfl (Nat.le_of_ble_eq_true rfl) (fun C hl F hRt => xX1_copyFrom_0 hI hR gI gR F hRt hw)
theorem y_X1_copyFrom : zY yX1_copyFrom wsX1_copyFrom cX1_copyFrom 2 none 1 := ⟨⟨_, rfl⟩, by decide +kernel⟩
theorem iX1_copyFrom_R_1 : ∀ w ∈ wsX10, w ∈ wsX1_copyFrom := fun w h => List.mem_cons_of_mem _ (List.mem_append_left _ (List.mem_append_right _ h))
theorem kX1_copyFrom_R_9 : zL wsX1_copyFrom RX1 9 1 0 (.array .int) true := zL1 iX1_copyFrom_R_1 (by decide) (List.mem_of_getElem? (i := 1) rfl) rfl rfl
theorem kX1_copyFrom_R_15 : zL wsX1_copyFrom RX1 15 1 1 (.array .int) true := zL1 iX1_copyFrom_R_1 (by decide) (List.mem_of_getElem? (i := 6) rfl) rfl rfl
theorem kX1_copyFrom_R_21 : zL wsX1_copyFrom RX1 21 1 2 (.object "StillRoom$Pairs") true := zL1 iX1_copyFrom_R_1 (by decide) (List.mem_of_getElem? (i := 7) rfl) rfl rfl
theorem kX1_copyFrom_R_25 : zL wsX1_copyFrom RX1 25 1 3 (.object "StillRoom$Pairs") true := zL1 iX1_copyFrom_R_1 (by decide) (List.mem_of_getElem? (i := 8) rfl) rfl rfl
theorem kX1_copyFrom_R_28 : zL wsX1_copyFrom RX1 28 1 4 (.object "StillRoom$Pairs") true := zL1 iX1_copyFrom_R_1 (by decide) (List.mem_of_getElem? (i := 9) rfl) rfl rfl
theorem kX1_copyFrom_R_31 : zL wsX1_copyFrom RX1 31 1 5 .int false := zL1 iX1_copyFrom_R_1 (by decide) (List.mem_of_getElem? (i := 10) rfl) rfl rfl
theorem kX1_copyFrom_R_35 : zL wsX1_copyFrom RX1 35 1 6 .int false := zL1 iX1_copyFrom_R_1 (by decide) (List.mem_of_getElem? (i := 11) rfl) rfl rfl
theorem kX1_copyFrom_R_38 : zL wsX1_copyFrom RX1 38 1 7 .int false := zL1 iX1_copyFrom_R_1 (by decide) (List.mem_of_getElem? (i := 12) rfl) rfl rfl
theorem kX1_copyFrom_R_41 : zL wsX1_copyFrom RX1 41 1 8 .int false := zL1 iX1_copyFrom_R_1 (by decide) (List.mem_of_getElem? (i := 13) rfl) rfl rfl
set_option maxHeartbeats 4000000 in
set_option maxRecDepth 100000 in
theorem xX1_copyFrom_R_0 {C : zC} {D : va_G} {cyI cyB : ClassId} {aH : Nat → Nat} {aK : Nat → Nat} (hI : Nat → Int32) (hR : Nat → Nat → Int32) (gI : Nat → Int32) (gR : Nat → Nat → Int32) (F : zF C D { frames := 2, cells := 0, slots := 0, locals := 51 } cX1_copyFrom 2 wsX1_copyFrom RX1 none cyI cyB) {post : (Nat → Int32) → (Nat → Nat → Int32) → Prop} (hRt : zRv C D cX1_copyFrom 2 (S := ((Nat → Int32) × (Nat → Nat → Int32))) (fun u => (wHo aH cyI hI hR ++ wHo aK cyI u.1 u.2)) (fun u => post u.1 u.2)) (hw : pX1_copyFrom_R hI hR gI gR post) : zX C D 2 0 0 (wHo aH cyI hI hR ++ wHo aK cyI gI gR) 0 [(0, .ref (aK 0)), (1, .ref (aH 0))] [] := by
  refine z_aload_n F dX1_copyFrom_0 1 rfl 1 rfl ?_
  refine z_get F dX1_copyFrom_1 4 rfl kX1_copyFrom_R_9 0 rfl rfl ?_
  refine z_iconst F dX1_copyFrom_4 5 rfl zki_0 ?_
  refine z_aload_n F dX1_copyFrom_5 6 rfl 0 rfl ?_
  refine z_get F dX1_copyFrom_6 9 rfl kX1_copyFrom_R_9 12 rfl rfl ?_
  refine z_iconst F dX1_copyFrom_9 10 rfl zki_0 ?_
  refine z_bipush F dX1_copyFrom_10 12 rfl zkb_8 ?_
  refine z_copy F dX1_copyFrom_12 15 rfl (List.mem_of_getElem? (i := 2) rfl) (List.mem_of_getElem? (i := 3) rfl) (List.mem_of_getElem? (i := 4) rfl) (List.mem_of_getElem? (i := 5) rfl) 1 13 rfl rfl (by decide) (by decide) (by decide) (by decide) (Nat.le_of_ble_eq_true rfl) (Nat.le_of_ble_eq_true rfl) (wHo aH cyI hI hR ++ wHo aK cyI gI (va_up gR 0 (va_cpy (hR 0) (gR 0) 0 0 8))) rfl ?_
  refine z_aload_n F dX1_copyFrom_15 16 rfl 1 rfl ?_
  refine z_get F dX1_copyFrom_16 19 rfl kX1_copyFrom_R_15 0 rfl rfl ?_
  refine z_iconst F dX1_copyFrom_19 20 rfl zki_0 ?_
  refine z_aload_n F dX1_copyFrom_20 21 rfl 0 rfl ?_
  refine z_get F dX1_copyFrom_21 24 rfl kX1_copyFrom_R_15 12 rfl rfl ?_
  refine z_iconst F dX1_copyFrom_24 25 rfl zki_0 ?_
  refine z_bipush F dX1_copyFrom_25 27 rfl zkb_8 ?_
  refine z_copy F dX1_copyFrom_27 30 rfl (List.mem_of_getElem? (i := 2) rfl) (List.mem_of_getElem? (i := 3) rfl) (List.mem_of_getElem? (i := 4) rfl) (List.mem_of_getElem? (i := 5) rfl) 2 14 rfl rfl (by decide) (by decide) (by decide) (by decide) (Nat.le_of_ble_eq_true rfl) (Nat.le_of_ble_eq_true rfl) (wHo aH cyI hI hR ++ wHo aK cyI gI (va_up (va_up gR 0 (va_cpy (hR 0) (gR 0) 0 0 8)) 1 (va_cpy (hR 1) (gR 1) 0 0 8))) rfl ?_
  refine z_aload_n F dX1_copyFrom_30 31 rfl 0 rfl ?_
  refine z_get F dX1_copyFrom_31 34 rfl kX1_copyFrom_R_21 12 rfl rfl ?_
  refine z_aload_n F dX1_copyFrom_34 35 rfl 1 rfl ?_
  refine z_get F dX1_copyFrom_35 38 rfl kX1_copyFrom_R_21 0 rfl rfl ?_
  refine z_callVv (As := [.ref (aH 3)]) (st := []) F dX1_copyFrom_38 41 rfl (mX3_copyFrom C.1.2.1 D cyI cyB (fun j => aK (3 + j)) (fun j => aH (3 + j)) (gI 4) (gR 2) (gR 3) (hI 4) (hR 2) (hR 3) hw) y_X3_copyFrom rfl gX1_copyFrom_X3_copyFrom rfl (ci := 3) (rq := 0) rfl rfl ⟨Nat.le_of_ble_eq_true rfl, Nat.le_of_ble_eq_true rfl⟩ ⟨Nat.zero_le _, Nat.zero_le _⟩ (Nat.le_of_ble_eq_true rfl) [15, 16, 17, 3, 4, 5] (by decide) rfl (fun _ => rfl) (fun u => (wHo aH cyI hI hR ++ wHo aK cyI (va_up gI 4 u.1) (va_up (va_up (va_up (va_up gR 0 (va_cpy (hR 0) (gR 0) 0 0 8)) 1 (va_cpy (hR 1) (gR 1) 0 0 8)) 2 u.2.1) 3 u.2.2))) (fun _ => rfl) (fun u hp => ?_)
  obtain ⟨pn_1, pf_1, ps_1⟩ := u
  replace hw := hp
  clear hp
  refine z_aload_n F dX1_copyFrom_41 42 rfl 0 rfl ?_
  refine z_get F dX1_copyFrom_42 45 rfl kX1_copyFrom_R_25 12 rfl rfl ?_
  refine z_aload_n F dX1_copyFrom_45 46 rfl 1 rfl ?_
  refine z_get F dX1_copyFrom_46 49 rfl kX1_copyFrom_R_25 0 rfl rfl ?_
  refine z_callVv (As := [.ref (aH 6)]) (st := []) F dX1_copyFrom_49 52 rfl (mX3_copyFrom C.1.2.1 D cyI cyB (fun j => aK (6 + j)) (fun j => aH (6 + j)) (gI 5) (gR 4) (gR 5) (hI 5) (hR 4) (hR 5) hw) y_X3_copyFrom rfl gX1_copyFrom_X3_copyFrom rfl (ci := 3) (rq := 0) rfl rfl ⟨Nat.le_of_ble_eq_true rfl, Nat.le_of_ble_eq_true rfl⟩ ⟨Nat.zero_le _, Nat.zero_le _⟩ (Nat.le_of_ble_eq_true rfl) [18, 19, 20, 6, 7, 8] (by decide) rfl (fun _ => rfl) (fun u => (wHo aH cyI hI hR ++ wHo aK cyI (va_up (va_up gI 4 pn_1) 5 u.1) (va_up (va_up (va_up (va_up (va_up (va_up gR 0 (va_cpy (hR 0) (gR 0) 0 0 8)) 1 (va_cpy (hR 1) (gR 1) 0 0 8)) 2 pf_1) 3 ps_1) 4 u.2.1) 5 u.2.2))) (fun _ => rfl) (fun u hp => ?_)
  obtain ⟨pn_2, pf_2, ps_2⟩ := u
  replace hw := hp
  clear hp
  refine z_aload_n F dX1_copyFrom_52 53 rfl 0 rfl ?_
  refine z_get F dX1_copyFrom_53 56 rfl kX1_copyFrom_R_28 12 rfl rfl ?_
  refine z_aload_n F dX1_copyFrom_56 57 rfl 1 rfl ?_
  refine z_get F dX1_copyFrom_57 60 rfl kX1_copyFrom_R_28 0 rfl rfl ?_
  refine z_callVv (As := [.ref (aH 9)]) (st := []) F dX1_copyFrom_60 63 rfl (mX3_copyFrom C.1.2.1 D cyI cyB (fun j => aK (9 + j)) (fun j => aH (9 + j)) (gI 6) (gR 6) (gR 7) (hI 6) (hR 6) (hR 7) hw) y_X3_copyFrom rfl gX1_copyFrom_X3_copyFrom rfl (ci := 3) (rq := 0) rfl rfl ⟨Nat.le_of_ble_eq_true rfl, Nat.le_of_ble_eq_true rfl⟩ ⟨Nat.zero_le _, Nat.zero_le _⟩ (Nat.le_of_ble_eq_true rfl) [21, 22, 23, 9, 10, 11] (by decide) rfl (fun _ => rfl) (fun u => (wHo aH cyI hI hR ++ wHo aK cyI (va_up (va_up (va_up gI 4 pn_1) 5 pn_2) 6 u.1) (va_up (va_up (va_up (va_up (va_up (va_up (va_up (va_up gR 0 (va_cpy (hR 0) (gR 0) 0 0 8)) 1 (va_cpy (hR 1) (gR 1) 0 0 8)) 2 pf_1) 3 ps_1) 4 pf_2) 5 ps_2) 6 u.2.1) 7 u.2.2))) (fun _ => rfl) (fun u hp => ?_)
  obtain ⟨pn_3, pf_3, ps_3⟩ := u
  replace hw := hp
  clear hp
  refine z_aload_n F dX1_copyFrom_63 64 rfl 0 rfl ?_
  refine z_aload_n F dX1_copyFrom_64 65 rfl 1 rfl ?_
  refine z_get F dX1_copyFrom_65 68 rfl kX1_copyFrom_R_31 0 rfl rfl ?_
  refine z_put F dX1_copyFrom_68 71 rfl kX1_copyFrom_R_31 12 rfl rfl rfl (Nat.le_of_ble_eq_true rfl) (wHo aH cyI hI hR ++ wHo aK cyI (va_up (va_up (va_up (va_up gI 4 pn_1) 5 pn_2) 6 pn_3) 0 (hI 0)) (va_up (va_up (va_up (va_up (va_up (va_up (va_up (va_up gR 0 (va_cpy (hR 0) (gR 0) 0 0 8)) 1 (va_cpy (hR 1) (gR 1) 0 0 8)) 2 pf_1) 3 ps_1) 4 pf_2) 5 ps_2) 6 pf_3) 7 ps_3)) rfl ?_
  refine z_aload_n F dX1_copyFrom_71 72 rfl 0 rfl ?_
  refine z_aload_n F dX1_copyFrom_72 73 rfl 1 rfl ?_
  refine z_get F dX1_copyFrom_73 76 rfl kX1_copyFrom_R_35 0 rfl rfl ?_
  refine z_put F dX1_copyFrom_76 79 rfl kX1_copyFrom_R_35 12 rfl rfl rfl (Nat.le_of_ble_eq_true rfl) (wHo aH cyI hI hR ++ wHo aK cyI (va_up (va_up (va_up (va_up (va_up gI 4 pn_1) 5 pn_2) 6 pn_3) 0 (hI 0)) 1 (hI 1)) (va_up (va_up (va_up (va_up (va_up (va_up (va_up (va_up gR 0 (va_cpy (hR 0) (gR 0) 0 0 8)) 1 (va_cpy (hR 1) (gR 1) 0 0 8)) 2 pf_1) 3 ps_1) 4 pf_2) 5 ps_2) 6 pf_3) 7 ps_3)) rfl ?_
  refine z_aload_n F dX1_copyFrom_79 80 rfl 0 rfl ?_
  refine z_aload_n F dX1_copyFrom_80 81 rfl 1 rfl ?_
  refine z_get F dX1_copyFrom_81 84 rfl kX1_copyFrom_R_38 0 rfl rfl ?_
  refine z_put F dX1_copyFrom_84 87 rfl kX1_copyFrom_R_38 12 rfl rfl rfl (Nat.le_of_ble_eq_true rfl) (wHo aH cyI hI hR ++ wHo aK cyI (va_up (va_up (va_up (va_up (va_up (va_up gI 4 pn_1) 5 pn_2) 6 pn_3) 0 (hI 0)) 1 (hI 1)) 2 (hI 2)) (va_up (va_up (va_up (va_up (va_up (va_up (va_up (va_up gR 0 (va_cpy (hR 0) (gR 0) 0 0 8)) 1 (va_cpy (hR 1) (gR 1) 0 0 8)) 2 pf_1) 3 ps_1) 4 pf_2) 5 ps_2) 6 pf_3) 7 ps_3)) rfl ?_
  refine z_aload_n F dX1_copyFrom_87 88 rfl 0 rfl ?_
  refine z_aload_n F dX1_copyFrom_88 89 rfl 1 rfl ?_
  refine z_get F dX1_copyFrom_89 92 rfl kX1_copyFrom_R_41 0 rfl rfl ?_
  refine z_put F dX1_copyFrom_92 95 rfl kX1_copyFrom_R_41 12 rfl rfl rfl (Nat.le_of_ble_eq_true rfl) (wHo aH cyI hI hR ++ wHo aK cyI (va_up (va_up (va_up (va_up (va_up (va_up (va_up gI 4 pn_1) 5 pn_2) 6 pn_3) 0 (hI 0)) 1 (hI 1)) 2 (hI 2)) 3 (hI 3)) (va_up (va_up (va_up (va_up (va_up (va_up (va_up (va_up gR 0 (va_cpy (hR 0) (gR 0) 0 0 8)) 1 (va_cpy (hR 1) (gR 1) 0 0 8)) 2 pf_1) 3 ps_1) 4 pf_2) 5 ps_2) 6 pf_3) 7 ps_3)) rfl ?_
  exact hRt 95 _ ((va_up (va_up (va_up (va_up (va_up (va_up (va_up gI 4 pn_1) 5 pn_2) 6 pn_3) 0 (hI 0)) 1 (hI 1)) 2 (hI 2)) 3 (hI 3)), (va_up (va_up (va_up (va_up (va_up (va_up (va_up (va_up gR 0 (va_cpy (hR 0) (gR 0) 0 0 8)) 1 (va_cpy (hR 1) (gR 1) 0 0 8)) 2 pf_1) 3 ps_1) 4 pf_2) 5 ps_2) 6 pf_3) 7 ps_3)) dX1_copyFrom_95 hw
set_option maxHeartbeats 4000000 in
set_option maxRecDepth 100000 in
theorem mX1_copyFrom_R (l : Launch) (D : va_G) (cyI cyB : ClassId) (aH : Nat → Nat) (aK : Nat → Nat) (hI : Nat → Int32) (hR : Nat → Nat → Int32) (gI : Nat → Int32) (gR : Nat → Nat → Int32) {post : (Nat → Int32) → (Nat → Nat → Int32) → Prop} (hw : pX1_copyFrom_R hI hR gI gR post) : zMv l yX1_copyFrom wsX1_copyFrom 2 51 D cyI cyB [.ref (aK 0), .ref (aH 0)] (wHo aH cyI hI hR ++ wHo aK cyI gI gR) (S := ((Nat → Int32) × (Nat → Nat → Int32))) (fun u => (wHo aH cyI hI hR ++ wHo aK cyI u.1 u.2)) (fun u => post u.1 u.2) :=
  z_metv (cc := cX1_copyFrom) (nL := 2) (by decide +kernel) rfl (Nat.le_of_ble_eq_true rfl) (fun C hl F hRt => xX1_copyFrom_R_0 hI hR gI gR F hRt hw)
theorem y_X1_copyFrom_R : zY yX1_copyFrom wsX1_copyFrom cX1_copyFrom 2 none 1 := ⟨⟨_, rfl⟩, by decide +kernel⟩
