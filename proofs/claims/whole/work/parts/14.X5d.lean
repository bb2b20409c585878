theorem iX5_restore_S_1 : ∀ w ∈ wsX10, w ∈ wsX5_restore := fun w h => List.mem_cons_of_mem _ (List.mem_append_left _ (List.mem_append_right _ h))
theorem iX5_restore_S_5 : ∀ w ∈ wsX50, w ∈ wsX5_restore := fun w h => List.mem_cons_of_mem _ (List.mem_append_left _ (List.mem_append_left _ (List.mem_append_right _ h)))
theorem kX5_restore_S_12 : zL wsX5_restore RX5 12 5 0 (.object "StillRoom$House") true := zL5 iX5_restore_S_5 (by decide) (List.mem_of_getElem? (i := 2) rfl) rfl rfl
theorem kX5_restore_S_46 : zL wsX5_restore RX5 46 5 7 (.object "StillRoom$House") false := zL5 iX5_restore_S_5 (by decide) (List.mem_of_getElem? (i := 1) rfl) rfl rfl
theorem kX5_restore_S_79 : zL wsX5_restore RX5 79 1 6 .int false := zL1 iX5_restore_S_1 (by decide) (List.mem_of_getElem? (i := 3) rfl) rfl rfl
set_option maxHeartbeats 4000000 in
set_option maxRecDepth 100000 in
theorem xX5_restore_S_0 {C : zC} {D : va_G} {cyI cyB : ClassId} {aS : Nat → Nat} {aT : Nat → Nat} {aH : Nat → Nat} {aK : Nat → Nat} {aM : Nat → Nat} (sI : Nat → Int32) (sR : Nat → Nat → Int32) (tI : Nat → Int32) (tR : Nat → Nat → Int32) (hI : Nat → Int32) (hR : Nat → Nat → Int32) (gI : Nat → Int32) (gR : Nat → Nat → Int32) (mI : Nat → Int32) (mR : Nat → Nat → Int32) (F : zF C D { frames := 3, cells := 0, slots := 0, locals := 72 } cX5_restore 1 wsX5_restore RX5 (some .int) cyI cyB) {post : Int32 → (Nat → Int32) → (Nat → Nat → Int32) → Prop} (hRt : zRi C D cX5_restore 1 (S := ((Nat → Int32) × (Nat → Nat → Int32))) (fun u => (wSt aH aM aT aS (.ref (aK 0)) cyI sI sR ++ wTe aT cyB tI tR ++ wHo aH cyI u.1 u.2 ++ wHo aK cyI gI gR ++ wMi aH aM cyI mI mR)) (fun r u => post r u.1 u.2)) (hw : pX5_restore_S sI sR tI tR hI hR gI gR mI mR post) : zX C D 1 0 0 (wSt aH aM aT aS (.ref (aK 0)) cyI sI sR ++ wTe aT cyB tI tR ++ wHo aH cyI hI hR ++ wHo aK cyI gI gR ++ wMi aH aM cyI mI mR) 0 [(0, .ref (aS 0))] [] := by
  refine z_aload_n F dX5_restore_0 1 rfl 0 rfl ?_
  refine z_get F dX5_restore_1 4 rfl kX5_restore_S_46 0 rfl rfl ?_
  refine z_ifnonnull F dX5_restore_4 14 rfl ?_
  refine z_aload_n F dX5_restore_14 15 rfl 0 rfl ?_
  refine z_get F dX5_restore_15 18 rfl kX5_restore_S_12 0 rfl rfl ?_
  refine z_aload_n F dX5_restore_18 19 rfl 0 rfl ?_
  refine z_get F dX5_restore_19 22 rfl kX5_restore_S_46 0 rfl rfl ?_
  refine z_segVv (As := [.ref (aK 0)]) (st := []) F dX5_restore_22 25 rfl (mX1_copyFrom C.1.2.1 D cyI cyB aH aK hI hR gI gR hw) y_X1_copyFrom rfl gX5_restore_X1_copyFrom rfl (ci := 1) (rq := 0) rfl rfl ⟨Nat.le_of_ble_eq_true rfl, Nat.le_of_ble_eq_true rfl⟩ ⟨Nat.zero_le _, Nat.zero_le _⟩ (Nat.le_of_ble_eq_true rfl) (wSt aH aM aT aS (.ref (aK 0)) cyI sI sR ++ wTe aT cyB tI tR) (wMi aH aM cyI mI mR) (by simp only [List.append_assoc, List.nil_append, List.append_nil]) (fun _ => rfl) (fun u => (wSt aH aM aT aS (.ref (aK 0)) cyI sI sR ++ wTe aT cyB tI tR ++ wHo aH cyI u.1 u.2 ++ wHo aK cyI gI gR ++ wMi aH aM cyI mI mR)) (fun u => (by simp only [List.append_assoc, List.nil_append, List.append_nil])) (fun u hp => ?_)
  obtain ⟨hI_1, hR_1⟩ := u
  replace hw := hp
  clear hp
  refine z_aload_n F dX5_restore_25 26 rfl 0 rfl ?_
  refine z_get F dX5_restore_26 29 rfl kX5_restore_S_12 0 rfl rfl ?_
  refine z_get F dX5_restore_29 32 rfl kX5_restore_S_79 6 rfl rfl ?_
  exact hRt 32 _ (hI_1 1) (hI_1, hR_1) dX5_restore_32 hw
set_option maxHeartbeats 4000000 in
set_option maxRecDepth 100000 in
theorem mX5_restore_S (l : Launch) (D : va_G) (cyI cyB : ClassId) (aS : Nat → Nat) (aT : Nat → Nat) (aH : Nat → Nat) (aK : Nat → Nat) (aM : Nat → Nat) (sI : Nat → Int32) (sR : Nat → Nat → Int32) (tI : Nat → Int32) (tR : Nat → Nat → Int32) (hI : Nat → Int32) (hR : Nat → Nat → Int32) (gI : Nat → Int32) (gR : Nat → Nat → Int32) (mI : Nat → Int32) (mR : Nat → Nat → Int32) {post : Int32 → (Nat → Int32) → (Nat → Nat → Int32) → Prop} (hw : pX5_restore_S sI sR tI tR hI hR gI gR mI mR post) : zMi l yX5_restore wsX5_restore 3 72 D cyI cyB [.ref (aS 0)] (wSt aH aM aT aS (.ref (aK 0)) cyI sI sR ++ wTe aT cyB tI tR ++ wHo aH cyI hI hR ++ wHo aK cyI gI gR ++ wMi aH aM cyI mI mR) (S := ((Nat → Int32) × (Nat → Nat → Int32))) (fun u => (wSt aH aM aT aS (.ref (aK 0)) cyI sI sR ++ wTe aT cyB tI tR ++ wHo aH cyI u.1 u.2 ++ wHo aK cyI gI gR ++ wMi aH aM cyI mI mR)) (fun r u => post r u.1 u.2) :=
  z_meti (cc := cX5_restore) (nL := 1) (by decide +kernel) rfl (Nat.le_of_ble_eq_true rfl) (fun C hl F hRt => xX5_restore_S_0 sI sR tI tR hI hR gI gR mI mR F hRt hw)
theorem y_X5_restore_S : zY yX5_restore wsX5_restore cX5_restore 1 (some .int) 0 := ⟨⟨_, rfl⟩, by decide +kernel⟩
theorem iX5_restore_N_5 : ∀ w ∈ wsX50, w ∈ wsX5_restore := fun w h => List.mem_cons_of_mem _ (List.mem_append_left _ (List.mem_append_left _ (List.mem_append_right _ h)))
theorem kX5_restore_N_46 : zL wsX5_restore RX5 46 5 7 (.object "StillRoom$House") false := zL5 iX5_restore_N_5 (by decide) (List.mem_of_getElem? (i := 1) rfl) rfl rfl
set_option maxHeartbeats 4000000 in
set_option maxRecDepth 100000 in
theorem xX5_restore_N_0 {C : zC} {D : va_G} {cyI cyB : ClassId} {aS : Nat → Nat} {aT : Nat → Nat} {aH : Nat → Nat} {aM : Nat → Nat} (sI : Nat → Int32) (sR : Nat → Nat → Int32) (tI : Nat → Int32) (tR : Nat → Nat → Int32) (hI : Nat → Int32) (hR : Nat → Nat → Int32) (mI : Nat → Int32) (mR : Nat → Nat → Int32) (F : zF C D { frames := 1, cells := 0, slots := 0, locals := 22 } cX5_restore 1 wsX5_restore RX5 (some .int) cyI cyB) {post : Int32 → (Nat → Int32) → (Nat → Nat → Int32) → Prop} (hRt : zRi C D cX5_restore 1 (S := ((Nat → Int32) × (Nat → Nat → Int32))) (fun u => (wSt aH aM aT aS .null cyI u.1 u.2 ++ wTe aT cyB tI tR ++ wHo aH cyI hI hR ++ wMi aH aM cyI mI mR)) (fun r u => post r u.1 u.2)) (hw : pX5_restore_N sI sR tI tR hI hR mI mR post) : zX C D 1 0 0 (wSt aH aM aT aS .null cyI sI sR ++ wTe aT cyB tI tR ++ wHo aH cyI hI hR ++ wMi aH aM cyI mI mR) 0 [(0, .ref (aS 0))] [] := by
  refine z_aload_n F dX5_restore_0 1 rfl 0 rfl ?_
  refine z_get F dX5_restore_1 4 rfl kX5_restore_N_46 0 rfl rfl ?_
  refine z_ifnonnullN F dX5_restore_4 7 rfl ?_
  refine z_aload_n F dX5_restore_7 8 rfl 0 rfl ?_
  refine z_bipush F dX5_restore_8 10 rfl zkb_m3 ?_
  refine z_segVi (As := [.int (-3)]) (st := []) F dX5_restore_10 13 rfl (mX5_refuse C.1.2.1 D cyI cyB aS aH aM aT .null (-3) sI sR hw) y_X5_refuse rfl gX5_restore_X5_refuse rfl (ci := 5) (rq := 0) rfl rfl ⟨Nat.le_of_ble_eq_true rfl, Nat.le_of_ble_eq_true rfl⟩ ⟨Nat.zero_le _, Nat.zero_le _⟩ (Nat.le_of_ble_eq_true rfl) [] (wTe aT cyB tI tR ++ wHo aH cyI hI hR ++ wMi aH aM cyI mI mR) (by simp only [List.append_assoc, List.nil_append, List.append_nil]) (fun _ => rfl) (fun u => (wSt aH aM aT aS .null cyI u.1 u.2 ++ wTe aT cyB tI tR ++ wHo aH cyI hI hR ++ wMi aH aM cyI mI mR)) (fun u => (by simp only [List.append_assoc, List.nil_append, List.append_nil])) (fun r1 u hp => ?_)
  obtain ⟨sI_1, sR_1⟩ := u
  replace hw := hp
  clear hp
  exact hRt 13 _ r1 (sI_1, sR_1) dX5_restore_13 hw
set_option maxHeartbeats 4000000 in
set_option maxRecDepth 100000 in
theorem mX5_restore_N (l : Launch) (D : va_G) (cyI cyB : ClassId) (aS : Nat → Nat) (aT : Nat → Nat) (aH : Nat → Nat) (aM : Nat → Nat) (sI : Nat → Int32) (sR : Nat → Nat → Int32) (tI : Nat → Int32) (tR : Nat → Nat → Int32) (hI : Nat → Int32) (hR : Nat → Nat → Int32) (mI : Nat → Int32) (mR : Nat → Nat → Int32) {post : Int32 → (Nat → Int32) → (Nat → Nat → Int32) → Prop} (hw : pX5_restore_N sI sR tI tR hI hR mI mR post) : zMi l yX5_restore wsX5_restore 1 22 D cyI cyB [.ref (aS 0)] (wSt aH aM aT aS .null cyI sI sR ++ wTe aT cyB tI tR ++ wHo aH cyI hI hR ++ wMi aH aM cyI mI mR) (S := ((Nat → Int32) × (Nat → Nat → Int32))) (fun u => (wSt aH aM aT aS .null cyI u.1 u.2 ++ wTe aT cyB tI tR ++ wHo aH cyI hI hR ++ wMi aH aM cyI mI mR)) (fun r u => post r u.1 u.2) :=
  z_meti (cc := cX5_restore) (nL := 1) (by decide +kernel) rfl (Nat.le_of_ble_eq_true rfl) (fun C hl F hRt => xX5_restore_N_0 sI sR tI tR hI hR mI mR F hRt hw)
theorem y_X5_restore_N : zY yX5_restore wsX5_restore cX5_restore 1 (some .int) 0 := ⟨⟨_, rfl⟩, by decide +kernel⟩
theorem iX5_image_S_1 : ∀ w ∈ wsX10, w ∈ wsX5_image := fun w h => List.mem_cons_of_mem _ (List.mem_append_left _ (List.mem_append_right _ h))
theorem iX5_image_S_5 : ∀ w ∈ wsX50, w ∈ wsX5_image := fun w h => List.mem_cons_of_mem _ (List.mem_append_left _ (List.mem_append_left _ (List.mem_append_right _ h)))
theorem kX5_image_S_12 : zL wsX5_image RX5 12 5 0 (.object "StillRoom$House") true := zL5 iX5_image_S_5 (by decide) (List.mem_of_getElem? (i := 5) rfl) rfl rfl
theorem kX5_image_S_46 : zL wsX5_image RX5 46 5 7 (.object "StillRoom$House") false := zL5 iX5_image_S_5 (by decide) (List.mem_of_getElem? (i := 1) rfl) rfl rfl
theorem kX5_image_S_79 : zL wsX5_image RX5 79 1 6 .int false := zL1 iX5_image_S_1 (by decide) (List.mem_of_getElem? (i := 6) rfl) rfl rfl
set_option maxHeartbeats 4000000 in
set_option maxRecDepth 100000 in
theorem xX5_image_S_0 {C : zC} {D : va_G} {cyI cyB : ClassId} {aS : Nat → Nat} {aT : Nat → Nat} {aH : Nat → Nat} {aK : Nat → Nat} {aM : Nat → Nat} (sI : Nat → Int32) (sR : Nat → Nat → Int32) (tI : Nat → Int32) (tR : Nat → Nat → Int32) (hI : Nat → Int32) (hR : Nat → Nat → Int32) (gI : Nat → Int32) (gR : Nat → Nat → Int32) (mI : Nat → Int32) (mR : Nat → Nat → Int32) (F : zF C D { frames := 3, cells := 0, slots := 0, locals := 72 } cX5_image 1 wsX5_image RX5 (some .int) cyI cyB) {post : Int32 → (Nat → Int32) → (Nat → Nat → Int32) → Prop} (hRt : zRi C D cX5_image 1 (S := ((Nat → Int32) × (Nat → Nat → Int32))) (fun u => (wSt aH aM aT aS (.ref (aK 0)) cyI sI sR ++ wTe aT cyB tI tR ++ wHo aH cyI hI hR ++ wHo aK cyI u.1 u.2 ++ wMi aH aM cyI mI mR)) (fun r u => post r u.1 u.2)) (hw : pX5_image_S sI sR tI tR hI hR gI gR mI mR post) : zX C D 1 0 0 (wSt aH aM aT aS (.ref (aK 0)) cyI sI sR ++ wTe aT cyB tI tR ++ wHo aH cyI hI hR ++ wHo aK cyI gI gR ++ wMi aH aM cyI mI mR) 0 [(0, .ref (aS 0))] [] := by
  refine z_aload_n F dX5_image_0 1 rfl 0 rfl ?_
  refine z_get F dX5_image_1 4 rfl kX5_image_S_46 0 rfl rfl ?_
  refine z_ifnonnull F dX5_image_4 18 rfl ?_
  refine z_aload_n F dX5_image_18 19 rfl 0 rfl ?_
  refine z_get F dX5_image_19 22 rfl kX5_image_S_46 0 rfl rfl ?_
  refine z_aload_n F dX5_image_22 23 rfl 0 rfl ?_
  refine z_get F dX5_image_23 26 rfl kX5_image_S_12 0 rfl rfl ?_
  refine z_segVv (As := [.ref (aH 0)]) (st := []) F dX5_image_26 29 rfl (mX1_copyFrom_R C.1.2.1 D cyI cyB aH aK hI hR gI gR hw) y_X1_copyFrom_R rfl gX5_image_X1_copyFrom rfl (ci := 1) (rq := 12) rfl rfl ⟨Nat.le_of_ble_eq_true rfl, Nat.le_of_ble_eq_true rfl⟩ ⟨Nat.zero_le _, Nat.zero_le _⟩ (Nat.le_of_ble_eq_true rfl) (wSt aH aM aT aS (.ref (aK 0)) cyI sI sR ++ wTe aT cyB tI tR) (wMi aH aM cyI mI mR) (by simp only [List.append_assoc, List.nil_append, List.append_nil]) (fun _ => rfl) (fun u => (wSt aH aM aT aS (.ref (aK 0)) cyI sI sR ++ wTe aT cyB tI tR ++ wHo aH cyI hI hR ++ wHo aK cyI u.1 u.2 ++ wMi aH aM cyI mI mR)) (fun u => (by simp only [List.append_assoc, List.nil_append, List.append_nil])) (fun u hp => ?_)
  obtain ⟨gI_1, gR_1⟩ := u
  replace hw := hp
  clear hp
  refine z_aload_n F dX5_image_29 30 rfl 0 rfl ?_
  refine z_get F dX5_image_30 33 rfl kX5_image_S_46 0 rfl rfl ?_
  refine z_get F dX5_image_33 36 rfl kX5_image_S_79 18 rfl rfl ?_
  exact hRt 36 _ (gI_1 1) (gI_1, gR_1) dX5_image_36 hw
set_option maxHeartbeats 4000000 in
set_option maxRecDepth 100000 in
theorem mX5_image_S (l : Launch) (D : va_G) (cyI cyB : ClassId) (aS : Nat → Nat) (aT : Nat → Nat) (aH : Nat → Nat) (aK : Nat → Nat) (aM : Nat → Nat) (sI : Nat → Int32) (sR : Nat → Nat → Int32) (tI : Nat → Int32) (tR : Nat → Nat → Int32) (hI : Nat → Int32) (hR : Nat → Nat → Int32) (gI : Nat → Int32) (gR : Nat → Nat → Int32) (mI : Nat → Int32) (mR : Nat → Nat → Int32) {post : Int32 → (Nat → Int32) → (Nat → Nat → Int32) → Prop} (hw : pX5_image_S sI sR tI tR hI hR gI gR mI mR post) : zMi l yX5_image wsX5_image 3 72 D cyI cyB [.ref (aS 0)] (wSt aH aM aT aS (.ref (aK 0)) cyI sI sR ++ wTe aT cyB tI tR ++ wHo aH cyI hI hR ++ wHo aK cyI gI gR ++ wMi aH aM cyI mI mR) (S := ((Nat → Int32) × (Nat → Nat → Int32))) (fun u => (wSt aH aM aT aS (.ref (aK 0)) cyI sI sR ++ wTe aT cyB tI tR ++ wHo aH cyI hI hR ++ wHo aK cyI u.1 u.2 ++ wMi aH aM cyI mI mR)) (fun r u => post r u.1 u.2) :=
  z_meti (cc := cX5_image) (nL := 1) (by decide +kernel) rfl (Nat.le_of_ble_eq_true rfl) (fun C hl F hRt => xX5_image_S_0 sI sR tI tR hI hR gI gR mI mR F hRt hw)
theorem y_X5_image_S : zY yX5_image wsX5_image cX5_image 1 (some .int) 0 := ⟨⟨_, rfl⟩, by decide +kernel⟩
