theorem iX6_image_6 : ∀ w ∈ wsX60, w ∈ wsX6_image := fun w h => List.mem_cons_of_mem _ (List.mem_append_right _ h)
theorem kX6_image_72 : zL wsX6_image RX6 72 6 11 .int false := zL6 iX6_image_6 (by decide) (List.mem_of_getElem? (i := 3) rfl) rfl rfl
theorem kX6_image_224 : zL wsX6_image RX6 224 6 29 .boolean false := zL6 iX6_image_6 (by decide) (List.mem_of_getElem? (i := 1) rfl) rfl rfl
theorem kX6_image_238 : zL wsX6_image RX6 238 6 28 .boolean false := zL6 iX6_image_6 (by decide) (List.mem_of_getElem? (i := 2) rfl) rfl rfl
set_option maxHeartbeats 4000000 in
set_option maxRecDepth 100000 in
theorem xX6_image_0 {C : zC} {D : va_G} {cyI cyB : ClassId} {aO : Nat → Nat} (oI : Nat → Int32) (oR : Nat → Nat → Int32) (F : zF C D { frames := 2, cells := 0, slots := 0, locals := 42 } cX6_image 1 wsX6_image RX6 (some .int) cyI cyB) {post : Int32 → (Nat → Int32) → (Nat → Nat → Int32) → Prop} (hRt : zRi C D cX6_image 1 (S := ((Nat → Int32) × (Nat → Nat → Int32))) (fun u => (wMo aO cyI u.1 u.2)) (fun r u => post r u.1 u.2)) (hw : pX6_image oI oR post) : zX C D 1 0 0 (wMo aO cyI oI oR) 0 [(0, .ref (aO 0))] [] := by
  refine z_aload_n F dX6_image_0 1 rfl 0 rfl ?_
  refine z_iconst F dX6_image_1 2 rfl zki_1 ?_
  refine z_put F dX6_image_2 5 rfl kX6_image_224 0 rfl rfl rfl (Nat.le_of_ble_eq_true rfl) (wMo aO cyI (va_up oI 29 1) oR) rfl ?_
  refine z_aload_n F dX6_image_5 6 rfl 0 rfl ?_
  refine z_iconst F dX6_image_6 7 rfl zki_1 ?_
  refine z_put F dX6_image_7 10 rfl kX6_image_238 0 rfl rfl rfl (Nat.le_of_ble_eq_true rfl) (wMo aO cyI (va_up (va_up oI 29 1) 28 1) oR) rfl ?_
  refine z_aload_n F dX6_image_10 11 rfl 0 rfl ?_
  refine z_segVv (As := []) (st := []) F dX6_image_11 14 rfl (mX6_passesAll C.1.2.1 D cyI cyB aO (va_up (va_up oI 29 1) 28 1) oR hw) y_X6_passesAll rfl gX6_image_X6_passesAll rfl (ci := 6) (rq := 0) rfl rfl ⟨Nat.le_of_ble_eq_true rfl, Nat.le_of_ble_eq_true rfl⟩ ⟨Nat.zero_le _, Nat.zero_le _⟩ (Nat.le_of_ble_eq_true rfl) [] [] (by simp only [List.append_assoc, List.nil_append, List.append_nil]) (fun _ => rfl) (fun u => (wMo aO cyI u.1 u.2)) (fun u => (by simp only [List.append_assoc, List.nil_append, List.append_nil])) (fun u hp => ?_)
  obtain ⟨oI_1, oR_1⟩ := u
  replace hw := hp
  clear hp
  refine z_aload_n F dX6_image_14 15 rfl 0 rfl ?_
  refine z_get F dX6_image_15 18 rfl kX6_image_72 0 rfl rfl ?_
  exact hRt 18 _ (oI_1 11) (oI_1, oR_1) dX6_image_18 hw
set_option maxHeartbeats 4000000 in
set_option maxRecDepth 100000 in
theorem mX6_image (l : Launch) (D : va_G) (cyI cyB : ClassId) (aO : Nat → Nat) (oI : Nat → Int32) (oR : Nat → Nat → Int32) {post : Int32 → (Nat → Int32) → (Nat → Nat → Int32) → Prop} (hw : pX6_image oI oR post) : zMi l yX6_image wsX6_image 2 42 D cyI cyB [.ref (aO 0)] (wMo aO cyI oI oR) (S := ((Nat → Int32) × (Nat → Nat → Int32))) (fun u => (wMo aO cyI u.1 u.2)) (fun r u => post r u.1 u.2) :=
  z_meti (cc := cX6_image) (nL := 1) (by decide +kernel) rfl (Nat.le_of_ble_eq_true rfl) (fun C hl F hRt => xX6_image_0 oI oR F hRt hw)
theorem y_X6_image : zY yX6_image wsX6_image cX6_image 1 (some .int) 0 := ⟨⟨_, rfl⟩, by decide +kernel⟩
theorem iX6_restore_6 : ∀ w ∈ wsX60, w ∈ wsX6_restore := fun w h => List.mem_cons_of_mem _ (List.mem_append_right _ h)
theorem kX6_restore_72 : zL wsX6_restore RX6 72 6 11 .int false := zL6 iX6_restore_6 (by decide) (List.mem_of_getElem? (i := 3) rfl) rfl rfl
theorem kX6_restore_224 : zL wsX6_restore RX6 224 6 29 .boolean false := zL6 iX6_restore_6 (by decide) (List.mem_of_getElem? (i := 2) rfl) rfl rfl
theorem kX6_restore_238 : zL wsX6_restore RX6 238 6 28 .boolean false := zL6 iX6_restore_6 (by decide) (List.mem_of_getElem? (i := 1) rfl) rfl rfl
set_option maxHeartbeats 4000000 in
set_option maxRecDepth 100000 in
theorem xX6_restore_0 {C : zC} {D : va_G} {cyI cyB : ClassId} {aO : Nat → Nat} (oI : Nat → Int32) (oR : Nat → Nat → Int32) (F : zF C D { frames := 2, cells := 0, slots := 0, locals := 42 } cX6_restore 1 wsX6_restore RX6 (some .int) cyI cyB) {post : Int32 → (Nat → Int32) → (Nat → Nat → Int32) → Prop} (hRt : zRi C D cX6_restore 1 (S := ((Nat → Int32) × (Nat → Nat → Int32))) (fun u => (wMo aO cyI u.1 u.2)) (fun r u => post r u.1 u.2)) (hw : pX6_restore oI oR post) : zX C D 1 0 0 (wMo aO cyI oI oR) 0 [(0, .ref (aO 0))] [] := by
  refine z_aload_n F dX6_restore_0 1 rfl 0 rfl ?_
  refine z_get F dX6_restore_1 4 rfl kX6_restore_238 0 rfl rfl ?_
  obtain ⟨hwt, hwf⟩ := hw
  refine z_ifne F dX6_restore_4 14 rfl 7 rfl (fun c1 => ?_) (fun c1 => ?_)
  · have hw := hwt c1; clear hwt hwf
    refine z_aload_n F dX6_restore_14 15 rfl 0 rfl ?_
    refine z_iconst F dX6_restore_15 16 rfl zki_0 ?_
    refine z_put F dX6_restore_16 19 rfl kX6_restore_224 0 rfl rfl rfl (Nat.le_of_ble_eq_true rfl) (wMo aO cyI (va_up oI 29 0) oR) rfl ?_
    refine z_aload_n F dX6_restore_19 20 rfl 0 rfl ?_
    refine z_segVv (As := []) (st := []) F dX6_restore_20 23 rfl (mX6_passesAll C.1.2.1 D cyI cyB aO (va_up oI 29 0) oR hw) y_X6_passesAll rfl gX6_restore_X6_passesAll rfl (ci := 6) (rq := 0) rfl rfl ⟨Nat.le_of_ble_eq_true rfl, Nat.le_of_ble_eq_true rfl⟩ ⟨Nat.zero_le _, Nat.zero_le _⟩ (Nat.le_of_ble_eq_true rfl) [] [] (by simp only [List.append_assoc, List.nil_append, List.append_nil]) (fun _ => rfl) (fun u => (wMo aO cyI u.1 u.2)) (fun u => (by simp only [List.append_assoc, List.nil_append, List.append_nil])) (fun u hp => ?_)
    obtain ⟨oI_1, oR_1⟩ := u
    replace hw := hp
    clear hp
    refine z_aload_n F dX6_restore_23 24 rfl 0 rfl ?_
    refine z_get F dX6_restore_24 27 rfl kX6_restore_72 0 rfl rfl ?_
    exact hRt 27 _ (oI_1 11) (oI_1, oR_1) dX6_restore_27 hw
  · have hw := hwf c1; clear hwt hwf
    refine z_aload_n F dX6_restore_7 8 rfl 0 rfl ?_
    refine z_bipush F dX6_restore_8 10 rfl zkb_m3 ?_
    refine z_segVi (As := [.int (-3)]) (st := []) F dX6_restore_10 13 rfl (mX6_no C.1.2.1 D cyI cyB aO (-3) oI oR hw) y_X6_no rfl gX6_restore_X6_no rfl (ci := 6) (rq := 0) rfl rfl ⟨Nat.le_of_ble_eq_true rfl, Nat.le_of_ble_eq_true rfl⟩ ⟨Nat.zero_le _, Nat.zero_le _⟩ (Nat.le_of_ble_eq_true rfl) [] [] (by simp only [List.append_assoc, List.nil_append, List.append_nil]) (fun _ => rfl) (fun u => (wMo aO cyI u.1 u.2)) (fun u => (by simp only [List.append_assoc, List.nil_append, List.append_nil])) (fun r1 u hp => ?_)
    obtain ⟨oI_2, oR_2⟩ := u
    replace hw := hp
    clear hp
    exact hRt 13 _ r1 (oI_2, oR_2) dX6_restore_13 hw
set_option maxHeartbeats 4000000 in
set_option maxRecDepth 100000 in
theorem mX6_restore (l : Launch) (D : va_G) (cyI cyB : ClassId) (aO : Nat → Nat) (oI : Nat → Int32) (oR : Nat → Nat → Int32) {post : Int32 → (Nat → Int32) → (Nat → Nat → Int32) → Prop} (hw : pX6_restore oI oR post) : zMi l yX6_restore wsX6_restore 2 42 D cyI cyB [.ref (aO 0)] (wMo aO cyI oI oR) (S := ((Nat → Int32) × (Nat → Nat → Int32))) (fun u => (wMo aO cyI u.1 u.2)) (fun r u => post r u.1 u.2) :=
  z_meti (cc := cX6_restore) (nL := 1) (by decide +kernel) rfl (Nat.le_of_ble_eq_true rfl) (fun C hl F hRt => xX6_restore_0 oI oR F hRt hw)
theorem y_X6_restore : zY yX6_restore wsX6_restore cX6_restore 1 (some .int) 0 := ⟨⟨_, rfl⟩, by decide +kernel⟩
