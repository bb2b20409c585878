theorem iX5_refuse_5 : ∀ w ∈ wsX50, w ∈ wsX5_refuse := fun w h => List.mem_cons_of_mem _ (List.mem_append_right _ h)
theorem kX5_refuse_36 : zL wsX5_refuse RX5 36 5 4 (.array .int) true := zL5 iX5_refuse_5 (by decide) (List.mem_of_getElem? (i := 1) rfl) rfl rfl
set_option maxHeartbeats 4000000 in
set_option maxRecDepth 100000 in
theorem xX5_refuse_0 {C : zC} {D : va_G} {cyI cyB : ClassId} {aS : Nat → Nat} {aH : Nat → Nat} {aM : Nat → Nat} {aT : Nat → Nat} {kp : Value} (x1 : Int32) (sI : Nat → Int32) (sR : Nat → Nat → Int32) (F : zF C D { frames := 0, cells := 0, slots := 0, locals := 0 } cX5_refuse 3 wsX5_refuse RX5 (some .int) cyI cyB) {post : Int32 → (Nat → Int32) → (Nat → Nat → Int32) → Prop} (hRt : zRi C D cX5_refuse 3 (S := ((Nat → Int32) × (Nat → Nat → Int32))) (fun u => (wSt aH aM aT aS kp cyI u.1 u.2)) (fun r u => post r u.1 u.2)) (hw : pX5_refuse x1 sI sR post) : zX C D 3 0 0 (wSt aH aM aT aS kp cyI sI sR) 0 [(0, .ref (aS 0)), (1, .int x1)] [] := by
  refine z_iload_n F dX5_refuse_0 1 rfl 1 rfl ?_
  refine z_ineg F dX5_refuse_1 2 rfl ?_
  refine z_topi (fun v1 ev1 => ?_)
  replace hw := hw v1 ev1
  refine z_istore_n (lv' := [(2, .int v1), (0, .ref (aS 0)), (1, .int x1)]) F dX5_refuse_2 3 rfl (by decide) rfl ?_
  refine z_iload_n F dX5_refuse_3 4 rfl 0 rfl ?_
  obtain ⟨hwt, hwf⟩ := hw
  refine z_iflt F dX5_refuse_4 26 rfl 7 rfl (fun c1 => ?_) (fun c1 => ?_)
  · have hw := hwt c1; clear hwt hwf
    refine z_iload_n F dX5_refuse_26 27 rfl 2 rfl ?_
    exact hRt 27 _ x1 (sI, sR) dX5_refuse_27 hw
  · have hw := hwf c1; clear hwt hwf
    refine z_iload_n F dX5_refuse_7 8 rfl 0 rfl ?_
    refine z_aload_n F dX5_refuse_8 9 rfl 1 rfl ?_
    refine z_get F dX5_refuse_9 12 rfl kX5_refuse_36 0 rfl rfl ?_
    refine z_alen F dX5_refuse_12 13 rfl 2 rfl ?_
    obtain ⟨hwt, hwf⟩ := hw
    refine z_icmpge F dX5_refuse_13 26 rfl 16 rfl (fun c2 => ?_) (fun c2 => ?_)
    · have hw := hwt c2; clear hwt hwf
      refine z_iload_n F dX5_refuse_26 27 rfl 2 rfl ?_
      exact hRt 27 _ x1 (sI, sR) dX5_refuse_27 hw
    · have hw := hwf c2; clear hwt hwf
      refine z_aload_n F dX5_refuse_16 17 rfl 1 rfl ?_
      refine z_get F dX5_refuse_17 20 rfl kX5_refuse_36 0 rfl rfl ?_
      refine z_iload_n F dX5_refuse_20 21 rfl 0 rfl ?_
      refine z_dup2 F dX5_refuse_21 22 rfl rfl rfl ?_
      obtain ⟨j1, ej1, hj1, hw⟩ := hw
      refine z_iald F dX5_refuse_22 23 rfl 2 rfl (by decide) j1 ej1 hj1 ?_
      refine z_iconst F dX5_refuse_23 24 rfl zki_1 ?_
      refine z_iadd F dX5_refuse_24 25 rfl ?_
      refine z_topi (fun v2 ev2 => ?_)
      replace hw := hw v2 ev2
      refine z_iast F dX5_refuse_25 26 rfl 2 rfl (by decide) j1 ej1 hj1 (wSt aH aM aT aS kp cyI sI (va_up sR 1 (upd (sR 1) j1 v2))) rfl ?_
      refine z_iload_n F dX5_refuse_26 27 rfl 2 rfl ?_
      exact hRt 27 _ x1 (sI, (va_up sR 1 (upd (sR 1) j1 v2))) dX5_refuse_27 hw
set_option maxHeartbeats 4000000 in
set_option maxRecDepth 100000 in
theorem mX5_refuse (l : Launch) (D : va_G) (cyI cyB : ClassId) (aS : Nat → Nat) (aH : Nat → Nat) (aM : Nat → Nat) (aT : Nat → Nat) (kp : Value) (x1 : Int32) (sI : Nat → Int32) (sR : Nat → Nat → Int32) {post : Int32 → (Nat → Int32) → (Nat → Nat → Int32) → Prop} (hw : pX5_refuse x1 sI sR post) : zMi l yX5_refuse wsX5_refuse 0 0 D cyI cyB [.ref (aS 0), .int x1] (wSt aH aM aT aS kp cyI sI sR) (S := ((Nat → Int32) × (Nat → Nat → Int32))) (fun u => (wSt aH aM aT aS kp cyI u.1 u.2)) (fun r u => post r u.1 u.2) :=
  z_meti (cc := cX5_refuse) (nL := 3) (by decide +kernel) rfl (Nat.le_of_ble_eq_true rfl) (fun C hl F hRt => xX5_refuse_0 x1 sI sR F hRt hw)
theorem y_X5_refuse : zY yX5_refuse wsX5_refuse cX5_refuse 3 (some .int) 1 := ⟨⟨_, rfl⟩, by decide +kernel⟩
theorem iX5_feed_4 : ∀ w ∈ wsX40, w ∈ wsX5_feed := fun w h => List.mem_cons_of_mem _ (List.mem_append_right _ h)
theorem iX5_feed_5 : ∀ w ∈ wsX50, w ∈ wsX5_feed := fun w h => List.mem_cons_of_mem _ (List.mem_append_left _ (List.mem_append_right _ h))
theorem kX5_feed_28 : zL wsX5_feed RX5 28 5 2 (.object "StillRoom$Text") true := zL5 iX5_feed_5 (by decide) (List.mem_of_getElem? (i := 1) rfl) rfl rfl
theorem kX5_feed_53 : zL wsX5_feed RX5 53 4 1 .int false := zL4 iX5_feed_4 (by decide) (List.mem_of_getElem? (i := 2) rfl) rfl rfl
set_option maxHeartbeats 4000000 in
set_option maxRecDepth 100000 in
theorem xX5_feed_0 {C : zC} {D : va_G} {cyI cyB : ClassId} {aS : Nat → Nat} {aT : Nat → Nat} {aH : Nat → Nat} {aM : Nat → Nat} {kp : Value} (x1 : Int32) (y2 : Int64) (sI : Nat → Int32) (sR : Nat → Nat → Int32) (tI : Nat → Int32) (tR : Nat → Nat → Int32) (hI : Nat → Int32) (hR : Nat → Nat → Int32) (mI : Nat → Int32) (mR : Nat → Nat → Int32) (F : zF C D { frames := 1, cells := 0, slots := 0, locals := 24 } cX5_feed 4 wsX5_feed RX5 (some .int) cyI cyB) {post : Int32 → (Nat → Int32) → (Nat → Nat → Int32) → (Nat → Int32) → (Nat → Nat → Int32) → Prop} (hRt : zRi C D cX5_feed 4 (S := ((Nat → Int32) × (Nat → Nat → Int32) × (Nat → Int32) × (Nat → Nat → Int32))) (fun u => (wSt aH aM aT aS kp cyI u.1 u.2.1 ++ wTe aT cyB u.2.2.1 u.2.2.2 ++ wHo aH cyI hI hR ++ wMi aH aM cyI mI mR)) (fun r u => post r u.1 u.2.1 u.2.2.1 u.2.2.2)) (hw : pX5_feed x1 y2 sI sR tI tR hI hR mI mR post) : zX C D 4 0 0 (wSt aH aM aT aS kp cyI sI sR ++ wTe aT cyB tI tR ++ wHo aH cyI hI hR ++ wMi aH aM cyI mI mR) 0 [(0, .ref (aS 0)), (1, .int x1), (2, .long y2)] [] := by
  refine z_iload_n F dX5_feed_0 1 rfl 1 rfl ?_
  refine z_iconst F dX5_feed_1 2 rfl zki_1 ?_
  obtain ⟨hwt, hwf⟩ := hw
  refine z_icmpge F dX5_feed_2 12 rfl 5 rfl (fun c1 => ?_) (fun c1 => ?_)
  · have hw := hwt c1; clear hwt hwf
    refine z_iload_n F dX5_feed_12 13 rfl 1 rfl ?_
    refine z_bipush F dX5_feed_13 15 rfl zkb_8 ?_
    obtain ⟨hwt, hwf⟩ := hw
    refine z_icmpgt F dX5_feed_15 32 rfl 18 rfl (fun c2 => ?_) (fun c2 => ?_)
    · have hw := hwt c2; clear hwt hwf
      refine z_aload_n F dX5_feed_32 33 rfl 0 rfl ?_
      refine z_bipush F dX5_feed_33 35 rfl zkb_m6 ?_
      refine z_segVi (As := [.int (-6)]) (st := []) F dX5_feed_35 38 rfl (mX5_refuse C.1.2.1 D cyI cyB aS aH aM aT kp (-6) sI sR hw) y_X5_refuse rfl gX5_feed_X5_refuse rfl (ci := 5) (rq := 0) rfl rfl ⟨Nat.le_of_ble_eq_true rfl, Nat.le_of_ble_eq_true rfl⟩ ⟨Nat.zero_le _, Nat.zero_le _⟩ (Nat.le_of_ble_eq_true rfl) [] (wTe aT cyB tI tR ++ wHo aH cyI hI hR ++ wMi aH aM cyI mI mR) (by simp only [List.append_assoc, List.nil_append, List.append_nil]) (fun _ => rfl) (fun u => (wSt aH aM aT aS kp cyI u.1 u.2 ++ wTe aT cyB tI tR ++ wHo aH cyI hI hR ++ wMi aH aM cyI mI mR)) (fun u => (by simp only [List.append_assoc, List.nil_append, List.append_nil])) (fun r1 u hp => ?_)
      obtain ⟨sI_1, sR_1⟩ := u
      replace hw := hp
      clear hp
      exact hRt 38 _ r1 (sI_1, sR_1, tI, tR) dX5_feed_38 hw
    · have hw := hwf c2; clear hwt hwf
      refine z_iload_n F dX5_feed_18 19 rfl 1 rfl ?_
      refine z_bipush F dX5_feed_19 21 rfl zkb_80 ?_
      refine z_aload_n F dX5_feed_21 22 rfl 0 rfl ?_
      refine z_get F dX5_feed_22 25 rfl kX5_feed_28 0 rfl rfl ?_
      refine z_get F dX5_feed_25 28 rfl kX5_feed_53 4 rfl rfl ?_
      refine z_isub F dX5_feed_28 29 rfl ?_
      obtain ⟨hwt, hwf⟩ := hw
      refine z_icmple F dX5_feed_29 39 rfl 32 rfl (fun c3 => ?_) (fun c3 => ?_)
      · have hw := hwt c3; clear hwt hwf
        refine z_aload_n F dX5_feed_39 40 rfl 0 rfl ?_
        refine z_get F dX5_feed_40 43 rfl kX5_feed_28 0 rfl rfl ?_
        refine z_iload_n F dX5_feed_43 44 rfl 1 rfl ?_
        refine z_lload_n F dX5_feed_44 45 rfl 2 rfl ?_
        refine z_segVv (As := [.int x1, .long y2]) (st := []) F dX5_feed_45 48 rfl (mX4_take C.1.2.1 D cyI cyB aT x1 y2 tI tR hw) y_X4_take rfl gX5_feed_X4_take rfl (ci := 4) (rq := 0) rfl rfl ⟨Nat.le_of_ble_eq_true rfl, Nat.le_of_ble_eq_true rfl⟩ ⟨Nat.zero_le _, Nat.zero_le _⟩ (Nat.le_of_ble_eq_true rfl) (wSt aH aM aT aS kp cyI sI sR) (wHo aH cyI hI hR ++ wMi aH aM cyI mI mR) (by simp only [List.append_assoc, List.nil_append, List.append_nil]) (fun _ => rfl) (fun u => (wSt aH aM aT aS kp cyI sI sR ++ wTe aT cyB u.1 u.2 ++ wHo aH cyI hI hR ++ wMi aH aM cyI mI mR)) (fun u => (by simp only [List.append_assoc, List.nil_append, List.append_nil])) (fun u hp => ?_)
        obtain ⟨tI_1, tR_1⟩ := u
        replace hw := hp
        clear hp
        refine z_aload_n F dX5_feed_48 49 rfl 0 rfl ?_
        refine z_get F dX5_feed_49 52 rfl kX5_feed_28 0 rfl rfl ?_
        refine z_get F dX5_feed_52 55 rfl kX5_feed_53 4 rfl rfl ?_
        exact hRt 55 _ (tI_1 0) (sI, sR, tI_1, tR_1) dX5_feed_55 hw
      · have hw := hwf c3; clear hwt hwf
        refine z_aload_n F dX5_feed_32 33 rfl 0 rfl ?_
        refine z_bipush F dX5_feed_33 35 rfl zkb_m6 ?_
        refine z_segVi (As := [.int (-6)]) (st := []) F dX5_feed_35 38 rfl (mX5_refuse C.1.2.1 D cyI cyB aS aH aM aT kp (-6) sI sR hw) y_X5_refuse rfl gX5_feed_X5_refuse rfl (ci := 5) (rq := 0) rfl rfl ⟨Nat.le_of_ble_eq_true rfl, Nat.le_of_ble_eq_true rfl⟩ ⟨Nat.zero_le _, Nat.zero_le _⟩ (Nat.le_of_ble_eq_true rfl) [] (wTe aT cyB tI tR ++ wHo aH cyI hI hR ++ wMi aH aM cyI mI mR) (by simp only [List.append_assoc, List.nil_append, List.append_nil]) (fun _ => rfl) (fun u => (wSt aH aM aT aS kp cyI u.1 u.2 ++ wTe aT cyB tI tR ++ wHo aH cyI hI hR ++ wMi aH aM cyI mI mR)) (fun u => (by simp only [List.append_assoc, List.nil_append, List.append_nil])) (fun r2 u hp => ?_)
        obtain ⟨sI_2, sR_2⟩ := u
        replace hw := hp
        clear hp
        exact hRt 38 _ r2 (sI_2, sR_2, tI, tR) dX5_feed_38 hw
  · have hw := hwf c1; clear hwt hwf
    refine z_aload_n F dX5_feed_5 6 rfl 0 rfl ?_
    refine z_bipush F dX5_feed_6 8 rfl zkb_m4 ?_
    refine z_segVi (As := [.int (-4)]) (st := []) F dX5_feed_8 11 rfl (mX5_refuse C.1.2.1 D cyI cyB aS aH aM aT kp (-4) sI sR hw) y_X5_refuse rfl gX5_feed_X5_refuse rfl (ci := 5) (rq := 0) rfl rfl ⟨Nat.le_of_ble_eq_true rfl, Nat.le_of_ble_eq_true rfl⟩ ⟨Nat.zero_le _, Nat.zero_le _⟩ (Nat.le_of_ble_eq_true rfl) [] (wTe aT cyB tI tR ++ wHo aH cyI hI hR ++ wMi aH aM cyI mI mR) (by simp only [List.append_assoc, List.nil_append, List.append_nil]) (fun _ => rfl) (fun u => (wSt aH aM aT aS kp cyI u.1 u.2 ++ wTe aT cyB tI tR ++ wHo aH cyI hI hR ++ wMi aH aM cyI mI mR)) (fun u => (by simp only [List.append_assoc, List.nil_append, List.append_nil])) (fun r3 u hp => ?_)
    obtain ⟨sI_3, sR_3⟩ := u
    replace hw := hp
    clear hp
    exact hRt 11 _ r3 (sI_3, sR_3, tI, tR) dX5_feed_11 hw
set_option maxHeartbeats 4000000 in
set_option maxRecDepth 100000 in
theorem mX5_feed (l : Launch) (D : va_G) (cyI cyB : ClassId) (aS : Nat → Nat) (aT : Nat → Nat) (aH : Nat → Nat) (aM : Nat → Nat) (kp : Value) (x1 : Int32) (y2 : Int64) (sI : Nat → Int32) (sR : Nat → Nat → Int32) (tI : Nat → Int32) (tR : Nat → Nat → Int32) (hI : Nat → Int32) (hR : Nat → Nat → Int32) (mI : Nat → Int32) (mR : Nat → Nat → Int32) {post : Int32 → (Nat → Int32) → (Nat → Nat → Int32) → (Nat → Int32) → (Nat → Nat → Int32) → Prop} (hw : pX5_feed x1 y2 sI sR tI tR hI hR mI mR post) : zMi l yX5_feed wsX5_feed 1 24 D cyI cyB [.ref (aS 0), .int x1, .long y2] (wSt aH aM aT aS kp cyI sI sR ++ wTe aT cyB tI tR ++ wHo aH cyI hI hR ++ wMi aH aM cyI mI mR) (S := ((Nat → Int32) × (Nat → Nat → Int32) × (Nat → Int32) × (Nat → Nat → Int32))) (fun u => (wSt aH aM aT aS kp cyI u.1 u.2.1 ++ wTe aT cyB u.2.2.1 u.2.2.2 ++ wHo aH cyI hI hR ++ wMi aH aM cyI mI mR)) (fun r u => post r u.1 u.2.1 u.2.2.1 u.2.2.2) :=
  z_meti (cc := cX5_feed) (nL := 4) (by decide +kernel) rfl (Nat.le_of_ble_eq_true rfl) (fun C hl F hRt => xX5_feed_0 x1 y2 sI sR tI tR hI hR mI mR F hRt hw)
theorem y_X5_feed : zY yX5_feed wsX5_feed cX5_feed 4 (some .int) 2 := ⟨⟨_, rfl⟩, by decide +kernel⟩
theorem iX5_house_4 : ∀ w ∈ wsX40, w ∈ wsX5_house := fun w h => List.mem_cons_of_mem _ (List.mem_append_left _ (List.mem_append_left _ (List.mem_append_right _ h)))
theorem iX5_house_5 : ∀ w ∈ wsX50, w ∈ wsX5_house := fun w h => List.mem_cons_of_mem _ (List.mem_append_left _ (List.mem_append_left _ (List.mem_append_left _ (List.mem_append_right _ h))))
theorem kX5_house_12 : zL wsX5_house RX5 12 5 0 (.object "StillRoom$House") true := zL5 iX5_house_5 (by decide) (List.mem_of_getElem? (i := 2) rfl) rfl rfl
theorem kX5_house_28 : zL wsX5_house RX5 28 5 2 (.object "StillRoom$Text") true := zL5 iX5_house_5 (by decide) (List.mem_of_getElem? (i := 1) rfl) rfl rfl
theorem kX5_house_53 : zL wsX5_house RX5 53 4 1 .int false := zL4 iX5_house_4 (by decide) (List.mem_of_getElem? (i := 3) rfl) rfl rfl
set_option maxHeartbeats 4000000 in
set_option maxRecDepth 100000 in
theorem xX5_house_0 {C : zC} {D : va_G} {cyI cyB : ClassId} {aS : Nat → Nat} {aT : Nat → Nat} {aH : Nat → Nat} {aM : Nat → Nat} {kp : Value} (sI : Nat → Int32) (sR : Nat → Nat → Int32) (tI : Nat → Int32) (tR : Nat → Nat → Int32) (hI : Nat → Int32) (hR : Nat → Nat → Int32) (mI : Nat → Int32) (mR : Nat → Nat → Int32) (F : zF C D { frames := 5, cells := 0, slots := 0, locals := 113 } cX5_house 2 wsX5_house RX5 (some .int) cyI cyB) {post : Int32 → (Nat → Int32) → (Nat → Nat → Int32) → (Nat → Int32) → (Nat → Nat → Int32) → Prop} (hRt : zRi C D cX5_house 2 (S := ((Nat → Int32) × (Nat → Nat → Int32) × (Nat → Int32) × (Nat → Nat → Int32))) (fun u => (wSt aH aM aT aS kp cyI sI sR ++ wTe aT cyB u.2.2.1 u.2.2.2 ++ wHo aH cyI u.1 u.2.1 ++ wMi aH aM cyI mI mR)) (fun r u => post r u.1 u.2.1 u.2.2.1 u.2.2.2)) (hw : pX5_house sI sR tI tR hI hR mI mR post) : zX C D 2 0 0 (wSt aH aM aT aS kp cyI sI sR ++ wTe aT cyB tI tR ++ wHo aH cyI hI hR ++ wMi aH aM cyI mI mR) 0 [(0, .ref (aS 0))] [] := by
  refine z_aload_n F dX5_house_0 1 rfl 0 rfl ?_
  refine z_get F dX5_house_1 4 rfl kX5_house_28 0 rfl rfl ?_
  refine z_aload_n F dX5_house_4 5 rfl 0 rfl ?_
  refine z_get F dX5_house_5 8 rfl kX5_house_12 0 rfl rfl ?_
  refine z_segVi (As := [.ref (aH 0)]) (st := []) F dX5_house_8 11 rfl (mX4_readInto C.1.2.1 D cyI cyB aT aH tI tR hI hR hw) y_X4_readInto rfl gX5_house_X4_readInto rfl (ci := 4) (rq := 0) rfl rfl ⟨Nat.le_of_ble_eq_true rfl, Nat.le_of_ble_eq_true rfl⟩ ⟨Nat.zero_le _, Nat.zero_le _⟩ (Nat.le_of_ble_eq_true rfl) (wSt aH aM aT aS kp cyI sI sR) (wMi aH aM cyI mI mR) (by simp only [List.append_assoc, List.nil_append, List.append_nil]) (fun _ => rfl) (fun u => (wSt aH aM aT aS kp cyI sI sR ++ wTe aT cyB u.1 u.2.1 ++ wHo aH cyI u.2.2.1 u.2.2.2 ++ wMi aH aM cyI mI mR)) (fun u => (by simp only [List.append_assoc, List.nil_append, List.append_nil])) (fun r1 u hp => ?_)
  obtain ⟨tI_1, tR_1, hI_1, hR_1⟩ := u
  replace hw := hp
  clear hp
  refine z_istore_n (lv' := [(1, .int r1), (0, .ref (aS 0))]) F dX5_house_11 12 rfl (by decide) rfl ?_
  refine z_aload_n F dX5_house_12 13 rfl 1 rfl ?_
  refine z_get F dX5_house_13 16 rfl kX5_house_28 0 rfl rfl ?_
  refine z_iconst F dX5_house_16 17 rfl zki_0 ?_
  refine z_put F dX5_house_17 20 rfl kX5_house_53 4 rfl rfl rfl (Nat.le_of_ble_eq_true rfl) (wSt aH aM aT aS kp cyI sI sR ++ wTe aT cyB (va_up tI_1 0 0) tR_1 ++ wHo aH cyI hI_1 hR_1 ++ wMi aH aM cyI mI mR) rfl ?_
  refine z_iload_n F dX5_house_20 21 rfl 0 rfl ?_
  exact hRt 21 _ r1 (hI_1, hR_1, (va_up tI_1 0 0), tR_1) dX5_house_21 hw
set_option maxHeartbeats 4000000 in
set_option maxRecDepth 100000 in
theorem mX5_house (l : Launch) (D : va_G) (cyI cyB : ClassId) (aS : Nat → Nat) (aT : Nat → Nat) (aH : Nat → Nat) (aM : Nat → Nat) (kp : Value) (sI : Nat → Int32) (sR : Nat → Nat → Int32) (tI : Nat → Int32) (tR : Nat → Nat → Int32) (hI : Nat → Int32) (hR : Nat → Nat → Int32) (mI : Nat → Int32) (mR : Nat → Nat → Int32) {post : Int32 → (Nat → Int32) → (Nat → Nat → Int32) → (Nat → Int32) → (Nat → Nat → Int32) → Prop} (hw : pX5_house sI sR tI tR hI hR mI mR post) : zMi l yX5_house wsX5_house 5 113 D cyI cyB [.ref (aS 0)] (wSt aH aM aT aS kp cyI sI sR ++ wTe aT cyB tI tR ++ wHo aH cyI hI hR ++ wMi aH aM cyI mI mR) (S := ((Nat → Int32) × (Nat → Nat → Int32) × (Nat → Int32) × (Nat → Nat → Int32))) (fun u => (wSt aH aM aT aS kp cyI sI sR ++ wTe aT cyB u.2.2.1 u.2.2.2 ++ wHo aH cyI u.1 u.2.1 ++ wMi aH aM cyI mI mR)) (fun r u => post r u.1 u.2.1 u.2.2.1 u.2.2.2) :=
  z_meti (cc := cX5_house) (nL := 2) (by decide +kernel) rfl (Nat.le_of_ble_eq_true rfl) (fun C hl F hRt => xX5_house_0 sI sR tI tR hI hR mI mR F hRt hw)
theorem y_X5_house : zY yX5_house wsX5_house cX5_house 2 (some .int) 0 := ⟨⟨_, rfl⟩, by decide +kernel⟩
theorem iX5_steps_1 : ∀ w ∈ wsX10, w ∈ wsX5_steps := fun w h => List.mem_cons_of_mem _ (List.mem_append_left _ (List.mem_append_right _ h))
theorem iX5_steps_5 : ∀ w ∈ wsX50, w ∈ wsX5_steps := fun w h => List.mem_cons_of_mem _ (List.mem_append_left _ (List.mem_append_left _ (List.mem_append_right _ h)))
theorem kX5_steps_12 : zL wsX5_steps RX5 12 5 0 (.object "StillRoom$House") true := zL5 iX5_steps_5 (by decide) (List.mem_of_getElem? (i := 1) rfl) rfl rfl
theorem kX5_steps_68 : zL wsX5_steps RX5 68 1 5 .int false := zL1 iX5_steps_1 (by decide) (List.mem_of_getElem? (i := 2) rfl) rfl rfl
set_option maxHeartbeats 4000000 in
set_option maxRecDepth 100000 in
theorem xX5_steps_0 {C : zC} {D : va_G} {cyI cyB : ClassId} {aS : Nat → Nat} {aT : Nat → Nat} {aH : Nat → Nat} {aM : Nat → Nat} {kp : Value} (x1 : Int32) (sI : Nat → Int32) (sR : Nat → Nat → Int32) (tI : Nat → Int32) (tR : Nat → Nat → Int32) (hI : Nat → Int32) (hR : Nat → Nat → Int32) (mI : Nat → Int32) (mR : Nat → Nat → Int32) (F : zF C D { frames := 3, cells := 0, slots := 0, locals := 68 } cX5_steps 4 wsX5_steps RX5 (some .int) cyI cyB) {post : Int32 → (Nat → Int32) → (Nat → Nat → Int32) → (Nat → Int32) → (Nat → Nat → Int32) → Prop} (hRt : zRi C D cX5_steps 4 (S := ((Nat → Int32) × (Nat → Nat → Int32) × (Nat → Int32) × (Nat → Nat → Int32))) (fun u => (wSt aH aM aT aS kp cyI u.1 u.2.1 ++ wTe aT cyB tI tR ++ wHo aH cyI u.2.2.1 u.2.2.2 ++ wMi aH aM cyI mI mR)) (fun r u => post r u.1 u.2.1 u.2.2.1 u.2.2.2)) (hw : pX5_steps x1 sI sR tI tR hI hR mI mR post) : zX C D 4 0 0 (wSt aH aM aT aS kp cyI sI sR ++ wTe aT cyB tI tR ++ wHo aH cyI hI hR ++ wMi aH aM cyI mI mR) 0 [(0, .ref (aS 0)), (1, .int x1)] [] := by
  refine z_iload_n F dX5_steps_0 1 rfl 1 rfl ?_
  refine z_iconst F dX5_steps_1 2 rfl zki_1 ?_
  refine z_bipush F dX5_steps_2 4 rfl zkb_10 ?_
  refine z_callSi (As := [.int x1, .int 1, .int 10]) (st := []) F dX5_steps_4 7 rfl (mX5_outside C.1.2.1 D cyI cyB x1 1 10 hw) y_X5_outside rfl gX5_steps_X5_outside ⟨Nat.le_of_ble_eq_true rfl, Nat.le_of_ble_eq_true rfl⟩ ⟨Nat.zero_le _, Nat.zero_le _⟩ (Nat.le_of_ble_eq_true rfl) [] (by decide) rfl (fun _ => rfl) (fun u => (wSt aH aM aT aS kp cyI sI sR ++ wTe aT cyB tI tR ++ wHo aH cyI hI hR ++ wMi aH aM cyI mI mR)) (fun _ => rfl) (fun r1 u hp => ?_)
  replace hw := hp
  clear hp
  refine z_istore_n (lv' := [(2, .int r1), (0, .ref (aS 0)), (1, .int x1)]) F dX5_steps_7 8 rfl (by decide) rfl ?_
  refine z_iload_n F dX5_steps_8 9 rfl 0 rfl ?_
  obtain ⟨hwt, hwf⟩ := hw
  refine z_ifeq F dX5_steps_9 18 rfl 12 rfl (fun c1 => ?_) (fun c1 => ?_)
  · have hw := hwt c1; clear hwt hwf
    refine z_aload_n F dX5_steps_18 19 rfl 1 rfl ?_
    refine z_get F dX5_steps_19 22 rfl kX5_steps_12 0 rfl rfl ?_
    refine z_get F dX5_steps_22 25 rfl kX5_steps_68 6 rfl rfl ?_
    refine z_istore_n (lv' := [(3, .int (hI 0)), (2, .int r1), (0, .ref (aS 0)), (1, .int x1)]) F dX5_steps_25 26 rfl (by decide) rfl ?_
    refine z_aload_n F dX5_steps_26 27 rfl 2 rfl ?_
    refine z_get F dX5_steps_27 30 rfl kX5_steps_12 0 rfl rfl ?_
    refine z_iload_n F dX5_steps_30 31 rfl 3 rfl ?_
    refine z_segVv (As := [.int x1]) (st := []) F dX5_steps_31 34 rfl (mX1_setSteps C.1.2.1 D cyI cyB aH x1 hI hR hw) y_X1_setSteps rfl gX5_steps_X1_setSteps rfl (ci := 1) (rq := 0) rfl rfl ⟨Nat.le_of_ble_eq_true rfl, Nat.le_of_ble_eq_true rfl⟩ ⟨Nat.zero_le _, Nat.zero_le _⟩ (Nat.le_of_ble_eq_true rfl) (wSt aH aM aT aS kp cyI sI sR ++ wTe aT cyB tI tR) (wMi aH aM cyI mI mR) (by simp only [List.append_assoc, List.nil_append, List.append_nil]) (fun _ => rfl) (fun u => (wSt aH aM aT aS kp cyI sI sR ++ wTe aT cyB tI tR ++ wHo aH cyI u.1 u.2 ++ wMi aH aM cyI mI mR)) (fun u => (by simp only [List.append_assoc, List.nil_append, List.append_nil])) (fun u hp => ?_)
    obtain ⟨hI_1, hR_1⟩ := u
    replace hw := hp
    clear hp
    refine z_iload_n F dX5_steps_34 35 rfl 0 rfl ?_
    exact hRt 35 _ (hI 0) (sI, sR, hI_1, hR_1) dX5_steps_35 hw
  · have hw := hwf c1; clear hwt hwf
    refine z_aload_n F dX5_steps_12 13 rfl 1 rfl ?_
    refine z_iload_n F dX5_steps_13 14 rfl 0 rfl ?_
    refine z_segVi (As := [.int r1]) (st := []) F dX5_steps_14 17 rfl (mX5_refuse C.1.2.1 D cyI cyB aS aH aM aT kp r1 sI sR hw) y_X5_refuse rfl gX5_steps_X5_refuse rfl (ci := 5) (rq := 0) rfl rfl ⟨Nat.le_of_ble_eq_true rfl, Nat.le_of_ble_eq_true rfl⟩ ⟨Nat.zero_le _, Nat.zero_le _⟩ (Nat.le_of_ble_eq_true rfl) [] (wTe aT cyB tI tR ++ wHo aH cyI hI hR ++ wMi aH aM cyI mI mR) (by simp only [List.append_assoc, List.nil_append, List.append_nil]) (fun _ => rfl) (fun u => (wSt aH aM aT aS kp cyI u.1 u.2 ++ wTe aT cyB tI tR ++ wHo aH cyI hI hR ++ wMi aH aM cyI mI mR)) (fun u => (by simp only [List.append_assoc, List.nil_append, List.append_nil])) (fun r2 u hp => ?_)
    obtain ⟨sI_1, sR_1⟩ := u
    replace hw := hp
    clear hp
    exact hRt 17 _ r2 (sI_1, sR_1, hI, hR) dX5_steps_17 hw
set_option maxHeartbeats 4000000 in
set_option maxRecDepth 100000 in
theorem mX5_steps (l : Launch) (D : va_G) (cyI cyB : ClassId) (aS : Nat → Nat) (aT : Nat → Nat) (aH : Nat → Nat) (aM : Nat → Nat) (kp : Value) (x1 : Int32) (sI : Nat → Int32) (sR : Nat → Nat → Int32) (tI : Nat → Int32) (tR : Nat → Nat → Int32) (hI : Nat → Int32) (hR : Nat → Nat → Int32) (mI : Nat → Int32) (mR : Nat → Nat → Int32) {post : Int32 → (Nat → Int32) → (Nat → Nat → Int32) → (Nat → Int32) → (Nat → Nat → Int32) → Prop} (hw : pX5_steps x1 sI sR tI tR hI hR mI mR post) : zMi l yX5_steps wsX5_steps 3 68 D cyI cyB [.ref (aS 0), .int x1] (wSt aH aM aT aS kp cyI sI sR ++ wTe aT cyB tI tR ++ wHo aH cyI hI hR ++ wMi aH aM cyI mI mR) (S := ((Nat → Int32) × (Nat → Nat → Int32) × (Nat → Int32) × (Nat → Nat → Int32))) (fun u => (wSt aH aM aT aS kp cyI u.1 u.2.1 ++ wTe aT cyB tI tR ++ wHo aH cyI u.2.2.1 u.2.2.2 ++ wMi aH aM cyI mI mR)) (fun r u => post r u.1 u.2.1 u.2.2.1 u.2.2.2) :=
  z_meti (cc := cX5_steps) (nL := 4) (by decide +kernel) rfl (Nat.le_of_ble_eq_true rfl) (fun C hl F hRt => xX5_steps_0 x1 sI sR tI tR hI hR mI mR F hRt hw)
theorem y_X5_steps : zY yX5_steps wsX5_steps cX5_steps 4 (some .int) 1 := ⟨⟨_, rfl⟩, by decide +kernel⟩
theorem iX5_hand_1 : ∀ w ∈ wsX10, w ∈ wsX5_hand := fun w h => List.mem_cons_of_mem _ (List.mem_append_right _ h)
theorem iX5_hand_5 : ∀ w ∈ wsX50, w ∈ wsX5_hand := fun w h => List.mem_cons_of_mem _ (List.mem_append_left _ (List.mem_append_right _ h))
theorem kX5_hand_12 : zL wsX5_hand RX5 12 5 0 (.object "StillRoom$House") true := zL5 iX5_hand_5 (by decide) (List.mem_of_getElem? (i := 1) rfl) rfl rfl
theorem kX5_hand_79 : zL wsX5_hand RX5 79 1 6 .int false := zL1 iX5_hand_1 (by decide) (List.mem_of_getElem? (i := 2) rfl) rfl rfl
set_option maxHeartbeats 4000000 in
set_option maxRecDepth 100000 in
theorem xX5_hand_0 {C : zC} {D : va_G} {cyI cyB : ClassId} {aS : Nat → Nat} {aT : Nat → Nat} {aH : Nat → Nat} {aM : Nat → Nat} {kp : Value} (x1 : Int32) (sI : Nat → Int32) (sR : Nat → Nat → Int32) (tI : Nat → Int32) (tR : Nat → Nat → Int32) (hI : Nat → Int32) (hR : Nat → Nat → Int32) (mI : Nat → Int32) (mR : Nat → Nat → Int32) (F : zF C D { frames := 1, cells := 0, slots := 0, locals := 22 } cX5_hand 2 wsX5_hand RX5 (some .int) cyI cyB) {post : Int32 → (Nat → Int32) → (Nat → Nat → Int32) → (Nat → Int32) → (Nat → Nat → Int32) → Prop} (hRt : zRi C D cX5_hand 2 (S := ((Nat → Int32) × (Nat → Nat → Int32) × (Nat → Int32) × (Nat → Nat → Int32))) (fun u => (wSt aH aM aT aS kp cyI u.1 u.2.1 ++ wTe aT cyB tI tR ++ wHo aH cyI u.2.2.1 u.2.2.2 ++ wMi aH aM cyI mI mR)) (fun r u => post r u.1 u.2.1 u.2.2.1 u.2.2.2)) (hw : pX5_hand x1 sI sR tI tR hI hR mI mR post) : zX C D 2 0 0 (wSt aH aM aT aS kp cyI sI sR ++ wTe aT cyB tI tR ++ wHo aH cyI hI hR ++ wMi aH aM cyI mI mR) 0 [(0, .ref (aS 0)), (1, .int x1)] [] := by
  refine z_aload_n F dX5_hand_0 1 rfl 0 rfl ?_
  refine z_get F dX5_hand_1 4 rfl kX5_hand_12 0 rfl rfl ?_
  refine z_iload_n F dX5_hand_4 5 rfl 1 rfl ?_
  refine z_segVi (As := [.int x1]) (st := []) F dX5_hand_5 8 rfl (mX1_isStepSet C.1.2.1 D cyI cyB aH x1 hI hR hw) y_X1_isStepSet rfl gX5_hand_X1_isStepSet rfl (ci := 1) (rq := 0) rfl rfl ⟨Nat.le_of_ble_eq_true rfl, Nat.le_of_ble_eq_true rfl⟩ ⟨Nat.zero_le _, Nat.zero_le _⟩ (Nat.le_of_ble_eq_true rfl) (wSt aH aM aT aS kp cyI sI sR ++ wTe aT cyB tI tR) (wMi aH aM cyI mI mR) (by simp only [List.append_assoc, List.nil_append, List.append_nil]) (fun _ => rfl) (fun u => (wSt aH aM aT aS kp cyI sI sR ++ wTe aT cyB tI tR ++ wHo aH cyI hI hR ++ wMi aH aM cyI mI mR)) (fun u => (by simp only [List.append_assoc, List.nil_append, List.append_nil])) (fun r0 u hp => ?_)
  obtain ⟨b1, rfl, hw⟩ := hp
  obtain ⟨hwt, hwf⟩ := hw
  refine z_ifneB F dX5_hand_8 17 rfl 11 rfl (fun c1 => ?_) (fun c1 => ?_)
  · have hw := hwt c1; clear hwt hwf
    refine z_aload_n F dX5_hand_17 18 rfl 0 rfl ?_
    refine z_get F dX5_hand_18 21 rfl kX5_hand_12 0 rfl rfl ?_
    refine z_get F dX5_hand_21 24 rfl kX5_hand_79 6 rfl rfl ?_
    refine z_bipush F dX5_hand_24 26 rfl zkb_8 ?_
    obtain ⟨hwt, hwf⟩ := hw
    refine z_icmplt F dX5_hand_26 36 rfl 29 rfl (fun c2 => ?_) (fun c2 => ?_)
    · have hw := hwt c2; clear hwt hwf
      refine z_aload_n F dX5_hand_36 37 rfl 0 rfl ?_
      refine z_get F dX5_hand_37 40 rfl kX5_hand_12 0 rfl rfl ?_
      refine z_iload_n F dX5_hand_40 41 rfl 1 rfl ?_
      refine z_segVv (As := [.int x1]) (st := []) F dX5_hand_41 44 rfl (mX1_addHand C.1.2.1 D cyI cyB aH x1 hI hR hw) y_X1_addHand rfl gX5_hand_X1_addHand rfl (ci := 1) (rq := 0) rfl rfl ⟨Nat.le_of_ble_eq_true rfl, Nat.le_of_ble_eq_true rfl⟩ ⟨Nat.zero_le _, Nat.zero_le _⟩ (Nat.le_of_ble_eq_true rfl) (wSt aH aM aT aS kp cyI sI sR ++ wTe aT cyB tI tR) (wMi aH aM cyI mI mR) (by simp only [List.append_assoc, List.nil_append, List.append_nil]) (fun _ => rfl) (fun u => (wSt aH aM aT aS kp cyI sI sR ++ wTe aT cyB tI tR ++ wHo aH cyI u.1 u.2 ++ wMi aH aM cyI mI mR)) (fun u => (by simp only [List.append_assoc, List.nil_append, List.append_nil])) (fun u hp => ?_)
      obtain ⟨hI_1, hR_1⟩ := u
      replace hw := hp
      clear hp
      refine z_aload_n F dX5_hand_44 45 rfl 0 rfl ?_
      refine z_get F dX5_hand_45 48 rfl kX5_hand_12 0 rfl rfl ?_
      refine z_get F dX5_hand_48 51 rfl kX5_hand_79 6 rfl rfl ?_
      refine z_iconst F dX5_hand_51 52 rfl zki_1 ?_
      refine z_isub F dX5_hand_52 53 rfl ?_
      exact hRt 53 _ ((hI_1 1) - 1) (sI, sR, hI_1, hR_1) dX5_hand_53 hw
    · have hw := hwf c2; clear hwt hwf
      refine z_aload_n F dX5_hand_29 30 rfl 0 rfl ?_
      refine z_bipush F dX5_hand_30 32 rfl zkb_m6 ?_
      refine z_segVi (As := [.int (-6)]) (st := []) F dX5_hand_32 35 rfl (mX5_refuse C.1.2.1 D cyI cyB aS aH aM aT kp (-6) sI sR hw) y_X5_refuse rfl gX5_hand_X5_refuse rfl (ci := 5) (rq := 0) rfl rfl ⟨Nat.le_of_ble_eq_true rfl, Nat.le_of_ble_eq_true rfl⟩ ⟨Nat.zero_le _, Nat.zero_le _⟩ (Nat.le_of_ble_eq_true rfl) [] (wTe aT cyB tI tR ++ wHo aH cyI hI hR ++ wMi aH aM cyI mI mR) (by simp only [List.append_assoc, List.nil_append, List.append_nil]) (fun _ => rfl) (fun u => (wSt aH aM aT aS kp cyI u.1 u.2 ++ wTe aT cyB tI tR ++ wHo aH cyI hI hR ++ wMi aH aM cyI mI mR)) (fun u => (by simp only [List.append_assoc, List.nil_append, List.append_nil])) (fun r1 u hp => ?_)
      obtain ⟨sI_1, sR_1⟩ := u
      replace hw := hp
      clear hp
      exact hRt 35 _ r1 (sI_1, sR_1, hI, hR) dX5_hand_35 hw
  · have hw := hwf c1; clear hwt hwf
    refine z_aload_n F dX5_hand_11 12 rfl 0 rfl ?_
    refine z_iconst F dX5_hand_12 13 rfl zki_m1 ?_
    refine z_segVi (As := [.int (-1)]) (st := []) F dX5_hand_13 16 rfl (mX5_refuse C.1.2.1 D cyI cyB aS aH aM aT kp (-1) sI sR hw) y_X5_refuse rfl gX5_hand_X5_refuse rfl (ci := 5) (rq := 0) rfl rfl ⟨Nat.le_of_ble_eq_true rfl, Nat.le_of_ble_eq_true rfl⟩ ⟨Nat.zero_le _, Nat.zero_le _⟩ (Nat.le_of_ble_eq_true rfl) [] (wTe aT cyB tI tR ++ wHo aH cyI hI hR ++ wMi aH aM cyI mI mR) (by simp only [List.append_assoc, List.nil_append, List.append_nil]) (fun _ => rfl) (fun u => (wSt aH aM aT aS kp cyI u.1 u.2 ++ wTe aT cyB tI tR ++ wHo aH cyI hI hR ++ wMi aH aM cyI mI mR)) (fun u => (by simp only [List.append_assoc, List.nil_append, List.append_nil])) (fun r2 u hp => ?_)
    obtain ⟨sI_2, sR_2⟩ := u
    replace hw := hp
    clear hp
    exact hRt 16 _ r2 (sI_2, sR_2, hI, hR) dX5_hand_16 hw
set_option maxHeartbeats 4000000 in
set_option maxRecDepth 100000 in
theorem mX5_hand (l : Launch) (D : va_G) (cyI cyB : ClassId) (aS : Nat → Nat) (aT : Nat → Nat) (aH : Nat → Nat) (aM : Nat → Nat) (kp : Value) (x1 : Int32) (sI : Nat → Int32) (sR : Nat → Nat → Int32) (tI : Nat → Int32) (tR : Nat → Nat → Int32) (hI : Nat → Int32) (hR : Nat → Nat → Int32) (mI : Nat → Int32) (mR : Nat → Nat → Int32) {post : Int32 → (Nat → Int32) → (Nat → Nat → Int32) → (Nat → Int32) → (Nat → Nat → Int32) → Prop} (hw : pX5_hand x1 sI sR tI tR hI hR mI mR post) : zMi l yX5_hand wsX5_hand 1 22 D cyI cyB [.ref (aS 0), .int x1] (wSt aH aM aT aS kp cyI sI sR ++ wTe aT cyB tI tR ++ wHo aH cyI hI hR ++ wMi aH aM cyI mI mR) (S := ((Nat → Int32) × (Nat → Nat → Int32) × (Nat → Int32) × (Nat → Nat → Int32))) (fun u => (wSt aH aM aT aS kp cyI u.1 u.2.1 ++ wTe aT cyB tI tR ++ wHo aH cyI u.2.2.1 u.2.2.2 ++ wMi aH aM cyI mI mR)) (fun r u => post r u.1 u.2.1 u.2.2.1 u.2.2.2) :=
  z_meti (cc := cX5_hand) (nL := 2) (by decide +kernel) rfl (Nat.le_of_ble_eq_true rfl) (fun C hl F hRt => xX5_hand_0 x1 sI sR tI tR hI hR mI mR F hRt hw)
theorem y_X5_hand : zY yX5_hand wsX5_hand cX5_hand 2 (some .int) 1 := ⟨⟨_, rfl⟩, by decide +kernel⟩
theorem iX5_tell_1 : ∀ w ∈ wsX10, w ∈ wsX5_tell := fun w h => List.mem_cons_of_mem _ (List.mem_append_right _ h)
theorem iX5_tell_5 : ∀ w ∈ wsX50, w ∈ wsX5_tell := fun w h => List.mem_cons_of_mem _ (List.mem_append_left _ (List.mem_append_right _ h))
theorem kX5_tell_12 : zL wsX5_tell RX5 12 5 0 (.object "StillRoom$House") true := zL5 iX5_tell_5 (by decide) (List.mem_of_getElem? (i := 1) rfl) rfl rfl
theorem kX5_tell_91 : zL wsX5_tell RX5 91 1 0 (.array .int) true := zL1 iX5_tell_1 (by decide) (List.mem_of_getElem? (i := 2) rfl) rfl rfl
set_option maxHeartbeats 4000000 in
set_option maxRecDepth 100000 in
theorem xX5_tell_0 {C : zC} {D : va_G} {cyI cyB : ClassId} {aS : Nat → Nat} {aT : Nat → Nat} {aH : Nat → Nat} {aM : Nat → Nat} {kp : Value} (x1 : Int32) (x2 : Int32) (z3 : Bool) (sI : Nat → Int32) (sR : Nat → Nat → Int32) (tI : Nat → Int32) (tR : Nat → Nat → Int32) (hI : Nat → Int32) (hR : Nat → Nat → Int32) (mI : Nat → Int32) (mR : Nat → Nat → Int32) (F : zF C D { frames := 1, cells := 0, slots := 0, locals := 22 } cX5_tell 5 wsX5_tell RX5 (some .int) cyI cyB) {post : Int32 → (Nat → Int32) → (Nat → Nat → Int32) → (Nat → Int32) → (Nat → Nat → Int32) → Prop} (hRt : zRi C D cX5_tell 5 (S := ((Nat → Int32) × (Nat → Nat → Int32) × (Nat → Int32) × (Nat → Nat → Int32))) (fun u => (wSt aH aM aT aS kp cyI u.1 u.2.1 ++ wTe aT cyB tI tR ++ wHo aH cyI u.2.2.1 u.2.2.2 ++ wMi aH aM cyI mI mR)) (fun r u => post r u.1 u.2.1 u.2.2.1 u.2.2.2)) (hw : pX5_tell x1 x2 z3 sI sR tI tR hI hR mI mR post) : zX C D 5 0 0 (wSt aH aM aT aS kp cyI sI sR ++ wTe aT cyB tI tR ++ wHo aH cyI hI hR ++ wMi aH aM cyI mI mR) 0 [(0, .ref (aS 0)), (1, .int x1), (2, .int x2), (3, .int (zb z3))] [] := by
  refine z_aload_n F dX5_tell_0 1 rfl 0 rfl ?_
  refine z_get F dX5_tell_1 4 rfl kX5_tell_12 0 rfl rfl ?_
  refine z_iload_n F dX5_tell_4 5 rfl 1 rfl ?_
  refine z_segVi (As := [.int x1]) (st := []) F dX5_tell_5 8 rfl (mX1_isHand C.1.2.1 D cyI cyB aH x1 hI hR hw) y_X1_isHand rfl gX5_tell_X1_isHand rfl (ci := 1) (rq := 0) rfl rfl ⟨Nat.le_of_ble_eq_true rfl, Nat.le_of_ble_eq_true rfl⟩ ⟨Nat.zero_le _, Nat.zero_le _⟩ (Nat.le_of_ble_eq_true rfl) (wSt aH aM aT aS kp cyI sI sR ++ wTe aT cyB tI tR) (wMi aH aM cyI mI mR) (by simp only [List.append_assoc, List.nil_append, List.append_nil]) (fun _ => rfl) (fun u => (wSt aH aM aT aS kp cyI sI sR ++ wTe aT cyB tI tR ++ wHo aH cyI hI hR ++ wMi aH aM cyI mI mR)) (fun u => (by simp only [List.append_assoc, List.nil_append, List.append_nil])) (fun r0 u hp => ?_)
  obtain ⟨b1, rfl, hw⟩ := hp
  obtain ⟨hwt, hwf⟩ := hw
  refine z_ifeqB F dX5_tell_8 22 rfl 11 rfl (fun c1 => ?_) (fun c1 => ?_)
  · have hw := hwt c1; clear hwt hwf
    refine z_aload_n F dX5_tell_22 23 rfl 0 rfl ?_
    refine z_iconst F dX5_tell_23 24 rfl zki_m1 ?_
    refine z_segVi (As := [.int (-1)]) (st := []) F dX5_tell_24 27 rfl (mX5_refuse C.1.2.1 D cyI cyB aS aH aM aT kp (-1) sI sR hw) y_X5_refuse rfl gX5_tell_X5_refuse rfl (ci := 5) (rq := 0) rfl rfl ⟨Nat.le_of_ble_eq_true rfl, Nat.le_of_ble_eq_true rfl⟩ ⟨Nat.zero_le _, Nat.zero_le _⟩ (Nat.le_of_ble_eq_true rfl) [] (wTe aT cyB tI tR ++ wHo aH cyI hI hR ++ wMi aH aM cyI mI mR) (by simp only [List.append_assoc, List.nil_append, List.append_nil]) (fun _ => rfl) (fun u => (wSt aH aM aT aS kp cyI u.1 u.2 ++ wTe aT cyB tI tR ++ wHo aH cyI hI hR ++ wMi aH aM cyI mI mR)) (fun u => (by simp only [List.append_assoc, List.nil_append, List.append_nil])) (fun r1 u hp => ?_)
    obtain ⟨sI_1, sR_1⟩ := u
    replace hw := hp
    clear hp
    exact hRt 27 _ r1 (sI_1, sR_1, hI, hR) dX5_tell_27 hw
  · have hw := hwf c1; clear hwt hwf
    refine z_aload_n F dX5_tell_11 12 rfl 0 rfl ?_
    refine z_get F dX5_tell_12 15 rfl kX5_tell_12 0 rfl rfl ?_
    refine z_iload_n F dX5_tell_15 16 rfl 2 rfl ?_
    refine z_segVi (As := [.int x2]) (st := []) F dX5_tell_16 19 rfl (mX1_isStep C.1.2.1 D cyI cyB aH x2 hI hR hw) y_X1_isStep rfl gX5_tell_X1_isStep rfl (ci := 1) (rq := 0) rfl rfl ⟨Nat.le_of_ble_eq_true rfl, Nat.le_of_ble_eq_true rfl⟩ ⟨Nat.zero_le _, Nat.zero_le _⟩ (Nat.le_of_ble_eq_true rfl) (wSt aH aM aT aS kp cyI sI sR ++ wTe aT cyB tI tR) (wMi aH aM cyI mI mR) (by simp only [List.append_assoc, List.nil_append, List.append_nil]) (fun _ => rfl) (fun u => (wSt aH aM aT aS kp cyI sI sR ++ wTe aT cyB tI tR ++ wHo aH cyI hI hR ++ wMi aH aM cyI mI mR)) (fun u => (by simp only [List.append_assoc, List.nil_append, List.append_nil])) (fun r0 u hp => ?_)
    obtain ⟨b2, rfl, hw⟩ := hp
    obtain ⟨hwt, hwf⟩ := hw
    refine z_ifneB F dX5_tell_19 28 rfl 22 rfl (fun c2 => ?_) (fun c2 => ?_)
    · have hw := hwt c2; clear hwt hwf
      refine z_aload_n F dX5_tell_28 29 rfl 0 rfl ?_
      refine z_get F dX5_tell_29 32 rfl kX5_tell_12 0 rfl rfl ?_
      refine z_get F dX5_tell_32 35 rfl kX5_tell_91 6 rfl rfl ?_
      refine z_iload_n F dX5_tell_35 36 rfl 1 rfl ?_
      obtain ⟨j1, ej1, hj1, hw⟩ := hw
      refine z_iald F dX5_tell_36 37 rfl 7 rfl (by decide) j1 ej1 hj1 ?_
      refine z_topi (fun v1 ev1 => ?_)
      replace hw := hw v1 ev1
      refine z_istore (lv' := [(4, .int v1), (0, .ref (aS 0)), (1, .int x1), (2, .int x2), (3, .int (zb z3))]) F dX5_tell_37 39 rfl (by decide) rfl ?_
      refine z_aload_n F dX5_tell_39 40 rfl 1 rfl ?_
      refine z_get F dX5_tell_40 43 rfl kX5_tell_12 0 rfl rfl ?_
      refine z_get F dX5_tell_43 46 rfl kX5_tell_91 6 rfl rfl ?_
      refine z_iload_n F dX5_tell_46 47 rfl 2 rfl ?_
      refine z_iload F dX5_tell_47 49 rfl 0 rfl ?_
      refine z_iload_n F dX5_tell_49 50 rfl 3 rfl ?_
      refine z_iload_n F dX5_tell_50 51 rfl 4 rfl ?_
      refine z_callSi (As := [.int v1, .int x2, .int (zb z3)]) (st := [.int x1, .ref (aH 1)]) F dX5_tell_51 54 rfl (mX5_with C.1.2.1 D cyI cyB v1 x2 z3 hw) y_X5_with rfl gX5_tell_X5_with ⟨Nat.le_of_ble_eq_true rfl, Nat.le_of_ble_eq_true rfl⟩ ⟨Nat.zero_le _, Nat.zero_le _⟩ (Nat.le_of_ble_eq_true rfl) [] (by decide) rfl (fun _ => rfl) (fun u => (wSt aH aM aT aS kp cyI sI sR ++ wTe aT cyB tI tR ++ wHo aH cyI hI hR ++ wMi aH aM cyI mI mR)) (fun _ => rfl) (fun r2 u hp => ?_)
      replace hw := hp
      clear hp
      refine z_iast F dX5_tell_54 55 rfl 7 rfl (by decide) j1 ej1 hj1 (wSt aH aM aT aS kp cyI sI sR ++ wTe aT cyB tI tR ++ wHo aH cyI hI (va_up hR 0 (upd (hR 0) j1 r2)) ++ wMi aH aM cyI mI mR) rfl ?_
      refine z_aload_n F dX5_tell_55 56 rfl 1 rfl ?_
      refine z_get F dX5_tell_56 59 rfl kX5_tell_12 0 rfl rfl ?_
      refine z_get F dX5_tell_59 62 rfl kX5_tell_91 6 rfl rfl ?_
      refine z_iload_n F dX5_tell_62 63 rfl 2 rfl ?_
      refine z_iald F dX5_tell_63 64 rfl 7 rfl (by decide) j1 ej1 hj1 ?_
      refine z_iload F dX5_tell_64 66 rfl 0 rfl ?_
      obtain ⟨hwt, hwf⟩ := hw
      refine z_icmpne F dX5_tell_66 73 rfl 69 rfl (fun c3 => ?_) (fun c3 => ?_)
      · have hw := hwt c3; clear hwt hwf
        refine z_iconst F dX5_tell_73 74 rfl zki_1 ?_
        exact hRt 74 _ 1 (sI, sR, hI, (va_up hR 0 (upd (hR 0) j1 r2))) dX5_tell_74 hw
      · have hw := hwf c3; clear hwt hwf
        refine z_iconst F dX5_tell_69 70 rfl zki_0 ?_
        refine z_goto F dX5_tell_70 74 rfl ?_
        exact hRt 74 _ 0 (sI, sR, hI, (va_up hR 0 (upd (hR 0) j1 r2))) dX5_tell_74 hw
    · have hw := hwf c2; clear hwt hwf
      refine z_aload_n F dX5_tell_22 23 rfl 0 rfl ?_
      refine z_iconst F dX5_tell_23 24 rfl zki_m1 ?_
      refine z_segVi (As := [.int (-1)]) (st := []) F dX5_tell_24 27 rfl (mX5_refuse C.1.2.1 D cyI cyB aS aH aM aT kp (-1) sI sR hw) y_X5_refuse rfl gX5_tell_X5_refuse rfl (ci := 5) (rq := 0) rfl rfl ⟨Nat.le_of_ble_eq_true rfl, Nat.le_of_ble_eq_true rfl⟩ ⟨Nat.zero_le _, Nat.zero_le _⟩ (Nat.le_of_ble_eq_true rfl) [] (wTe aT cyB tI tR ++ wHo aH cyI hI hR ++ wMi aH aM cyI mI mR) (by simp only [List.append_assoc, List.nil_append, List.append_nil]) (fun _ => rfl) (fun u => (wSt aH aM aT aS kp cyI u.1 u.2 ++ wTe aT cyB tI tR ++ wHo aH cyI hI hR ++ wMi aH aM cyI mI mR)) (fun u => (by simp only [List.append_assoc, List.nil_append, List.append_nil])) (fun r3 u hp => ?_)
      obtain ⟨sI_2, sR_2⟩ := u
      replace hw := hp
      clear hp
      exact hRt 27 _ r3 (sI_2, sR_2, hI, hR) dX5_tell_27 hw
set_option maxHeartbeats 4000000 in
set_option maxRecDepth 100000 in
theorem mX5_tell (l : Launch) (D : va_G) (cyI cyB : ClassId) (aS : Nat → Nat) (aT : Nat → Nat) (aH : Nat → Nat) (aM : Nat → Nat) (kp : Value) (x1 : Int32) (x2 : Int32) (z3 : Bool) (sI : Nat → Int32) (sR : Nat → Nat → Int32) (tI : Nat → Int32) (tR : Nat → Nat → Int32) (hI : Nat → Int32) (hR : Nat → Nat → Int32) (mI : Nat → Int32) (mR : Nat → Nat → Int32) {post : Int32 → (Nat → Int32) → (Nat → Nat → Int32) → (Nat → Int32) → (Nat → Nat → Int32) → Prop} (hw : pX5_tell x1 x2 z3 sI sR tI tR hI hR mI mR post) : zMi l yX5_tell wsX5_tell 1 22 D cyI cyB [.ref (aS 0), .int x1, .int x2, .int (zb z3)] (wSt aH aM aT aS kp cyI sI sR ++ wTe aT cyB tI tR ++ wHo aH cyI hI hR ++ wMi aH aM cyI mI mR) (S := ((Nat → Int32) × (Nat → Nat → Int32) × (Nat → Int32) × (Nat → Nat → Int32))) (fun u => (wSt aH aM aT aS kp cyI u.1 u.2.1 ++ wTe aT cyB tI tR ++ wHo aH cyI u.2.2.1 u.2.2.2 ++ wMi aH aM cyI mI mR)) (fun r u => post r u.1 u.2.1 u.2.2.1 u.2.2.2) :=
  z_meti (cc := cX5_tell) (nL := 5) (by decide +kernel) rfl (Nat.le_of_ble_eq_true rfl) (fun C hl F hRt => xX5_tell_0 x1 x2 z3 sI sR tI tR hI hR mI mR F hRt hw)
theorem y_X5_tell : zY yX5_tell wsX5_tell cX5_tell 5 (some .int) 3 := ⟨⟨_, rfl⟩, by decide +kernel⟩
theorem iX5_chance_1 : ∀ w ∈ wsX10, w ∈ wsX5_chance := fun w h => List.mem_cons_of_mem _ (List.mem_append_right _ h)
theorem iX5_chance_5 : ∀ w ∈ wsX50, w ∈ wsX5_chance := fun w h => List.mem_cons_of_mem _ (List.mem_append_left _ (List.mem_append_right _ h))
theorem kX5_chance_12 : zL wsX5_chance RX5 12 5 0 (.object "StillRoom$House") true := zL5 iX5_chance_5 (by decide) (List.mem_of_getElem? (i := 1) rfl) rfl rfl
theorem kX5_chance_98 : zL wsX5_chance RX5 98 1 1 (.array .int) true := zL1 iX5_chance_1 (by decide) (List.mem_of_getElem? (i := 2) rfl) rfl rfl
set_option maxHeartbeats 4000000 in
set_option maxRecDepth 100000 in
theorem xX5_chance_0 {C : zC} {D : va_G} {cyI cyB : ClassId} {aS : Nat → Nat} {aT : Nat → Nat} {aH : Nat → Nat} {aM : Nat → Nat} {kp : Value} (x1 : Int32) (x2 : Int32) (sI : Nat → Int32) (sR : Nat → Nat → Int32) (tI : Nat → Int32) (tR : Nat → Nat → Int32) (hI : Nat → Int32) (hR : Nat → Nat → Int32) (mI : Nat → Int32) (mR : Nat → Nat → Int32) (F : zF C D { frames := 1, cells := 0, slots := 0, locals := 22 } cX5_chance 5 wsX5_chance RX5 (some .int) cyI cyB) {post : Int32 → (Nat → Int32) → (Nat → Nat → Int32) → (Nat → Int32) → (Nat → Nat → Int32) → Prop} (hRt : zRi C D cX5_chance 5 (S := ((Nat → Int32) × (Nat → Nat → Int32) × (Nat → Int32) × (Nat → Nat → Int32))) (fun u => (wSt aH aM aT aS kp cyI u.1 u.2.1 ++ wTe aT cyB tI tR ++ wHo aH cyI u.2.2.1 u.2.2.2 ++ wMi aH aM cyI mI mR)) (fun r u => post r u.1 u.2.1 u.2.2.1 u.2.2.2)) (hw : pX5_chance x1 x2 sI sR tI tR hI hR mI mR post) : zX C D 5 0 0 (wSt aH aM aT aS kp cyI sI sR ++ wTe aT cyB tI tR ++ wHo aH cyI hI hR ++ wMi aH aM cyI mI mR) 0 [(0, .ref (aS 0)), (1, .int x1), (2, .int x2)] [] := by
  refine z_aload_n F dX5_chance_0 1 rfl 0 rfl ?_
  refine z_get F dX5_chance_1 4 rfl kX5_chance_12 0 rfl rfl ?_
  refine z_iload_n F dX5_chance_4 5 rfl 1 rfl ?_
  refine z_segVi (As := [.int x1]) (st := []) F dX5_chance_5 8 rfl (mX1_isHand C.1.2.1 D cyI cyB aH x1 hI hR hw) y_X1_isHand rfl gX5_chance_X1_isHand rfl (ci := 1) (rq := 0) rfl rfl ⟨Nat.le_of_ble_eq_true rfl, Nat.le_of_ble_eq_true rfl⟩ ⟨Nat.zero_le _, Nat.zero_le _⟩ (Nat.le_of_ble_eq_true rfl) (wSt aH aM aT aS kp cyI sI sR ++ wTe aT cyB tI tR) (wMi aH aM cyI mI mR) (by simp only [List.append_assoc, List.nil_append, List.append_nil]) (fun _ => rfl) (fun u => (wSt aH aM aT aS kp cyI sI sR ++ wTe aT cyB tI tR ++ wHo aH cyI hI hR ++ wMi aH aM cyI mI mR)) (fun u => (by simp only [List.append_assoc, List.nil_append, List.append_nil])) (fun r0 u hp => ?_)
  obtain ⟨b1, rfl, hw⟩ := hp
  obtain ⟨hwt, hwf⟩ := hw
  refine z_ifneB F dX5_chance_8 17 rfl 11 rfl (fun c1 => ?_) (fun c1 => ?_)
  · have hw := hwt c1; clear hwt hwf
    refine z_iload_n F dX5_chance_17 18 rfl 2 rfl ?_
    refine z_iconst F dX5_chance_18 19 rfl zki_0 ?_
    refine z_bipush F dX5_chance_19 21 rfl zkb_100 ?_
    refine z_callSi (As := [.int x2, .int 0, .int 100]) (st := []) F dX5_chance_21 24 rfl (mX5_outside C.1.2.1 D cyI cyB x2 0 100 hw) y_X5_outside rfl gX5_chance_X5_outside ⟨Nat.le_of_ble_eq_true rfl, Nat.le_of_ble_eq_true rfl⟩ ⟨Nat.zero_le _, Nat.zero_le _⟩ (Nat.le_of_ble_eq_true rfl) [] (by decide) rfl (fun _ => rfl) (fun u => (wSt aH aM aT aS kp cyI sI sR ++ wTe aT cyB tI tR ++ wHo aH cyI hI hR ++ wMi aH aM cyI mI mR)) (fun _ => rfl) (fun r1 u hp => ?_)
    replace hw := hp
    clear hp
    refine z_istore_n (lv' := [(3, .int r1), (0, .ref (aS 0)), (1, .int x1), (2, .int x2)]) F dX5_chance_24 25 rfl (by decide) rfl ?_
    refine z_iload_n F dX5_chance_25 26 rfl 0 rfl ?_
    obtain ⟨hwt, hwf⟩ := hw
    refine z_ifeq F dX5_chance_26 35 rfl 29 rfl (fun c2 => ?_) (fun c2 => ?_)
    · have hw := hwt c2; clear hwt hwf
      refine z_aload_n F dX5_chance_35 36 rfl 1 rfl ?_
      refine z_get F dX5_chance_36 39 rfl kX5_chance_12 0 rfl rfl ?_
      refine z_get F dX5_chance_39 42 rfl kX5_chance_98 6 rfl rfl ?_
      refine z_iload_n F dX5_chance_42 43 rfl 2 rfl ?_
      obtain ⟨j1, ej1, hj1, hw⟩ := hw
      refine z_iald F dX5_chance_43 44 rfl 8 rfl (by decide) j1 ej1 hj1 ?_
      refine z_topi (fun v1 ev1 => ?_)
      replace hw := hw v1 ev1
      refine z_istore (lv' := [(4, .int v1), (3, .int r1), (0, .ref (aS 0)), (1, .int x1), (2, .int x2)]) F dX5_chance_44 46 rfl (by decide) rfl ?_
      refine z_aload_n F dX5_chance_46 47 rfl 2 rfl ?_
      refine z_get F dX5_chance_47 50 rfl kX5_chance_12 0 rfl rfl ?_
      refine z_get F dX5_chance_50 53 rfl kX5_chance_98 6 rfl rfl ?_
      refine z_iload_n F dX5_chance_53 54 rfl 3 rfl ?_
      refine z_iload_n F dX5_chance_54 55 rfl 4 rfl ?_
      refine z_iast F dX5_chance_55 56 rfl 8 rfl (by decide) j1 ej1 hj1 (wSt aH aM aT aS kp cyI sI sR ++ wTe aT cyB tI tR ++ wHo aH cyI hI (va_up hR 1 (upd (hR 1) j1 x2)) ++ wMi aH aM cyI mI mR) rfl ?_
      refine z_iload F dX5_chance_56 58 rfl 0 rfl ?_
      exact hRt 58 _ v1 (sI, sR, hI, (va_up hR 1 (upd (hR 1) j1 x2))) dX5_chance_58 hw
    · have hw := hwf c2; clear hwt hwf
      refine z_aload_n F dX5_chance_29 30 rfl 1 rfl ?_
      refine z_iload_n F dX5_chance_30 31 rfl 0 rfl ?_
      refine z_segVi (As := [.int r1]) (st := []) F dX5_chance_31 34 rfl (mX5_refuse C.1.2.1 D cyI cyB aS aH aM aT kp r1 sI sR hw) y_X5_refuse rfl gX5_chance_X5_refuse rfl (ci := 5) (rq := 0) rfl rfl ⟨Nat.le_of_ble_eq_true rfl, Nat.le_of_ble_eq_true rfl⟩ ⟨Nat.zero_le _, Nat.zero_le _⟩ (Nat.le_of_ble_eq_true rfl) [] (wTe aT cyB tI tR ++ wHo aH cyI hI hR ++ wMi aH aM cyI mI mR) (by simp only [List.append_assoc, List.nil_append, List.append_nil]) (fun _ => rfl) (fun u => (wSt aH aM aT aS kp cyI u.1 u.2 ++ wTe aT cyB tI tR ++ wHo aH cyI hI hR ++ wMi aH aM cyI mI mR)) (fun u => (by simp only [List.append_assoc, List.nil_append, List.append_nil])) (fun r2 u hp => ?_)
      obtain ⟨sI_1, sR_1⟩ := u
      replace hw := hp
      clear hp
      exact hRt 34 _ r2 (sI_1, sR_1, hI, hR) dX5_chance_34 hw
  · have hw := hwf c1; clear hwt hwf
    refine z_aload_n F dX5_chance_11 12 rfl 0 rfl ?_
    refine z_iconst F dX5_chance_12 13 rfl zki_m1 ?_
    refine z_segVi (As := [.int (-1)]) (st := []) F dX5_chance_13 16 rfl (mX5_refuse C.1.2.1 D cyI cyB aS aH aM aT kp (-1) sI sR hw) y_X5_refuse rfl gX5_chance_X5_refuse rfl (ci := 5) (rq := 0) rfl rfl ⟨Nat.le_of_ble_eq_true rfl, Nat.le_of_ble_eq_true rfl⟩ ⟨Nat.zero_le _, Nat.zero_le _⟩ (Nat.le_of_ble_eq_true rfl) [] (wTe aT cyB tI tR ++ wHo aH cyI hI hR ++ wMi aH aM cyI mI mR) (by simp only [List.append_assoc, List.nil_append, List.append_nil]) (fun _ => rfl) (fun u => (wSt aH aM aT aS kp cyI u.1 u.2 ++ wTe aT cyB tI tR ++ wHo aH cyI hI hR ++ wMi aH aM cyI mI mR)) (fun u => (by simp only [List.append_assoc, List.nil_append, List.append_nil])) (fun r3 u hp => ?_)
    obtain ⟨sI_2, sR_2⟩ := u
    replace hw := hp
    clear hp
    exact hRt 16 _ r3 (sI_2, sR_2, hI, hR) dX5_chance_16 hw
set_option maxHeartbeats 4000000 in
set_option maxRecDepth 100000 in
theorem mX5_chance (l : Launch) (D : va_G) (cyI cyB : ClassId) (aS : Nat → Nat) (aT : Nat → Nat) (aH : Nat → Nat) (aM : Nat → Nat) (kp : Value) (x1 : Int32) (x2 : Int32) (sI : Nat → Int32) (sR : Nat → Nat → Int32) (tI : Nat → Int32) (tR : Nat → Nat → Int32) (hI : Nat → Int32) (hR : Nat → Nat → Int32) (mI : Nat → Int32) (mR : Nat → Nat → Int32) {post : Int32 → (Nat → Int32) → (Nat → Nat → Int32) → (Nat → Int32) → (Nat → Nat → Int32) → Prop} (hw : pX5_chance x1 x2 sI sR tI tR hI hR mI mR post) : zMi l yX5_chance wsX5_chance 1 22 D cyI cyB [.ref (aS 0), .int x1, .int x2] (wSt aH aM aT aS kp cyI sI sR ++ wTe aT cyB tI tR ++ wHo aH cyI hI hR ++ wMi aH aM cyI mI mR) (S := ((Nat → Int32) × (Nat → Nat → Int32) × (Nat → Int32) × (Nat → Nat → Int32))) (fun u => (wSt aH aM aT aS kp cyI u.1 u.2.1 ++ wTe aT cyB tI tR ++ wHo aH cyI u.2.2.1 u.2.2.2 ++ wMi aH aM cyI mI mR)) (fun r u => post r u.1 u.2.1 u.2.2.1 u.2.2.2) :=
  z_meti (cc := cX5_chance) (nL := 5) (by decide +kernel) rfl (Nat.le_of_ble_eq_true rfl) (fun C hl F hRt => xX5_chance_0 x1 x2 sI sR tI tR hI hR mI mR F hRt hw)
theorem y_X5_chance : zY yX5_chance wsX5_chance cX5_chance 5 (some .int) 2 := ⟨⟨_, rfl⟩, by decide +kernel⟩
theorem iX5_over_1 : ∀ w ∈ wsX10, w ∈ wsX5_over := fun w h => List.mem_cons_of_mem _ (List.mem_append_right _ h)
theorem iX5_over_5 : ∀ w ∈ wsX50, w ∈ wsX5_over := fun w h => List.mem_cons_of_mem _ (List.mem_append_left _ (List.mem_append_right _ h))
theorem kX5_over_12 : zL wsX5_over RX5 12 5 0 (.object "StillRoom$House") true := zL5 iX5_over_5 (by decide) (List.mem_of_getElem? (i := 1) rfl) rfl rfl
theorem kX5_over_101 : zL wsX5_over RX5 101 1 7 .int false := zL1 iX5_over_1 (by decide) (List.mem_of_getElem? (i := 2) rfl) rfl rfl
set_option maxHeartbeats 4000000 in
set_option maxRecDepth 100000 in
theorem xX5_over_0 {C : zC} {D : va_G} {cyI cyB : ClassId} {aS : Nat → Nat} {aT : Nat → Nat} {aH : Nat → Nat} {aM : Nat → Nat} {kp : Value} (x1 : Int32) (z2 : Bool) (sI : Nat → Int32) (sR : Nat → Nat → Int32) (tI : Nat → Int32) (tR : Nat → Nat → Int32) (hI : Nat → Int32) (hR : Nat → Nat → Int32) (mI : Nat → Int32) (mR : Nat → Nat → Int32) (F : zF C D { frames := 1, cells := 0, slots := 0, locals := 22 } cX5_over 4 wsX5_over RX5 (some .int) cyI cyB) {post : Int32 → (Nat → Int32) → (Nat → Nat → Int32) → (Nat → Int32) → (Nat → Nat → Int32) → Prop} (hRt : zRi C D cX5_over 4 (S := ((Nat → Int32) × (Nat → Nat → Int32) × (Nat → Int32) × (Nat → Nat → Int32))) (fun u => (wSt aH aM aT aS kp cyI u.1 u.2.1 ++ wTe aT cyB tI tR ++ wHo aH cyI u.2.2.1 u.2.2.2 ++ wMi aH aM cyI mI mR)) (fun r u => post r u.1 u.2.1 u.2.2.1 u.2.2.2)) (hw : pX5_over x1 z2 sI sR tI tR hI hR mI mR post) : zX C D 4 0 0 (wSt aH aM aT aS kp cyI sI sR ++ wTe aT cyB tI tR ++ wHo aH cyI hI hR ++ wMi aH aM cyI mI mR) 0 [(0, .ref (aS 0)), (1, .int x1), (2, .int (zb z2))] [] := by
  refine z_aload_n F dX5_over_0 1 rfl 0 rfl ?_
  refine z_get F dX5_over_1 4 rfl kX5_over_12 0 rfl rfl ?_
  refine z_iload_n F dX5_over_4 5 rfl 1 rfl ?_
  refine z_segVi (As := [.int x1]) (st := []) F dX5_over_5 8 rfl (mX1_isHand C.1.2.1 D cyI cyB aH x1 hI hR hw) y_X1_isHand rfl gX5_over_X1_isHand rfl (ci := 1) (rq := 0) rfl rfl ⟨Nat.le_of_ble_eq_true rfl, Nat.le_of_ble_eq_true rfl⟩ ⟨Nat.zero_le _, Nat.zero_le _⟩ (Nat.le_of_ble_eq_true rfl) (wSt aH aM aT aS kp cyI sI sR ++ wTe aT cyB tI tR) (wMi aH aM cyI mI mR) (by simp only [List.append_assoc, List.nil_append, List.append_nil]) (fun _ => rfl) (fun u => (wSt aH aM aT aS kp cyI sI sR ++ wTe aT cyB tI tR ++ wHo aH cyI hI hR ++ wMi aH aM cyI mI mR)) (fun u => (by simp only [List.append_assoc, List.nil_append, List.append_nil])) (fun r0 u hp => ?_)
  obtain ⟨b1, rfl, hw⟩ := hp
  obtain ⟨hwt, hwf⟩ := hw
  refine z_ifneB F dX5_over_8 17 rfl 11 rfl (fun c1 => ?_) (fun c1 => ?_)
  · have hw := hwt c1; clear hwt hwf
    refine z_aload_n F dX5_over_17 18 rfl 0 rfl ?_
    refine z_get F dX5_over_18 21 rfl kX5_over_12 0 rfl rfl ?_
    refine z_get F dX5_over_21 24 rfl kX5_over_101 6 rfl rfl ?_
    refine z_istore_n (lv' := [(3, .int (hI 2)), (0, .ref (aS 0)), (1, .int x1), (2, .int (zb z2))]) F dX5_over_24 25 rfl (by decide) rfl ?_
    refine z_aload_n F dX5_over_25 26 rfl 1 rfl ?_
    refine z_get F dX5_over_26 29 rfl kX5_over_12 0 rfl rfl ?_
    refine z_iload_n F dX5_over_29 30 rfl 0 rfl ?_
    refine z_iload_n F dX5_over_30 31 rfl 2 rfl ?_
    refine z_iload_n F dX5_over_31 32 rfl 3 rfl ?_
    refine z_callSi (As := [.int (hI 2), .int x1, .int (zb z2)]) (st := [.ref (aH 0)]) F dX5_over_32 35 rfl (mX5_with C.1.2.1 D cyI cyB (hI 2) x1 z2 hw) y_X5_with rfl gX5_over_X5_with ⟨Nat.le_of_ble_eq_true rfl, Nat.le_of_ble_eq_true rfl⟩ ⟨Nat.zero_le _, Nat.zero_le _⟩ (Nat.le_of_ble_eq_true rfl) [] (by decide) rfl (fun _ => rfl) (fun u => (wSt aH aM aT aS kp cyI sI sR ++ wTe aT cyB tI tR ++ wHo aH cyI hI hR ++ wMi aH aM cyI mI mR)) (fun _ => rfl) (fun r1 u hp => ?_)
    replace hw := hp
    clear hp
    refine z_put F dX5_over_35 38 rfl kX5_over_101 6 rfl rfl rfl (Nat.le_of_ble_eq_true rfl) (wSt aH aM aT aS kp cyI sI sR ++ wTe aT cyB tI tR ++ wHo aH cyI (va_up hI 2 r1) hR ++ wMi aH aM cyI mI mR) rfl ?_
    refine z_aload_n F dX5_over_38 39 rfl 1 rfl ?_
    refine z_get F dX5_over_39 42 rfl kX5_over_12 0 rfl rfl ?_
    refine z_get F dX5_over_42 45 rfl kX5_over_101 6 rfl rfl ?_
    refine z_iload_n F dX5_over_45 46 rfl 0 rfl ?_
    obtain ⟨hwt, hwf⟩ := hw
    refine z_icmpne F dX5_over_46 53 rfl 49 rfl (fun c2 => ?_) (fun c2 => ?_)
    · have hw := hwt c2; clear hwt hwf
      refine z_iconst F dX5_over_53 54 rfl zki_1 ?_
      exact hRt 54 _ 1 (sI, sR, (va_up hI 2 r1), hR) dX5_over_54 hw
    · have hw := hwf c2; clear hwt hwf
      refine z_iconst F dX5_over_49 50 rfl zki_0 ?_
      refine z_goto F dX5_over_50 54 rfl ?_
      exact hRt 54 _ 0 (sI, sR, (va_up hI 2 r1), hR) dX5_over_54 hw
  · have hw := hwf c1; clear hwt hwf
    refine z_aload_n F dX5_over_11 12 rfl 0 rfl ?_
    refine z_iconst F dX5_over_12 13 rfl zki_m1 ?_
    refine z_segVi (As := [.int (-1)]) (st := []) F dX5_over_13 16 rfl (mX5_refuse C.1.2.1 D cyI cyB aS aH aM aT kp (-1) sI sR hw) y_X5_refuse rfl gX5_over_X5_refuse rfl (ci := 5) (rq := 0) rfl rfl ⟨Nat.le_of_ble_eq_true rfl, Nat.le_of_ble_eq_true rfl⟩ ⟨Nat.zero_le _, Nat.zero_le _⟩ (Nat.le_of_ble_eq_true rfl) [] (wTe aT cyB tI tR ++ wHo aH cyI hI hR ++ wMi aH aM cyI mI mR) (by simp only [List.append_assoc, List.nil_append, List.append_nil]) (fun _ => rfl) (fun u => (wSt aH aM aT aS kp cyI u.1 u.2 ++ wTe aT cyB tI tR ++ wHo aH cyI hI hR ++ wMi aH aM cyI mI mR)) (fun u => (by simp only [List.append_assoc, List.nil_append, List.append_nil])) (fun r2 u hp => ?_)
    obtain ⟨sI_1, sR_1⟩ := u
    replace hw := hp
    clear hp
    exact hRt 16 _ r2 (sI_1, sR_1, hI, hR) dX5_over_16 hw
set_option maxHeartbeats 4000000 in
set_option maxRecDepth 100000 in
theorem mX5_over (l : Launch) (D : va_G) (cyI cyB : ClassId) (aS : Nat → Nat) (aT : Nat → Nat) (aH : Nat → Nat) (aM : Nat → Nat) (kp : Value) (x1 : Int32) (z2 : Bool) (sI : Nat → Int32) (sR : Nat → Nat → Int32) (tI : Nat → Int32) (tR : Nat → Nat → Int32) (hI : Nat → Int32) (hR : Nat → Nat → Int32) (mI : Nat → Int32) (mR : Nat → Nat → Int32) {post : Int32 → (Nat → Int32) → (Nat → Nat → Int32) → (Nat → Int32) → (Nat → Nat → Int32) → Prop} (hw : pX5_over x1 z2 sI sR tI tR hI hR mI mR post) : zMi l yX5_over wsX5_over 1 22 D cyI cyB [.ref (aS 0), .int x1, .int (zb z2)] (wSt aH aM aT aS kp cyI sI sR ++ wTe aT cyB tI tR ++ wHo aH cyI hI hR ++ wMi aH aM cyI mI mR) (S := ((Nat → Int32) × (Nat → Nat → Int32) × (Nat → Int32) × (Nat → Nat → Int32))) (fun u => (wSt aH aM aT aS kp cyI u.1 u.2.1 ++ wTe aT cyB tI tR ++ wHo aH cyI u.2.2.1 u.2.2.2 ++ wMi aH aM cyI mI mR)) (fun r u => post r u.1 u.2.1 u.2.2.1 u.2.2.2) :=
  z_meti (cc := cX5_over) (nL := 4) (by decide +kernel) rfl (Nat.le_of_ble_eq_true rfl) (fun C hl F hRt => xX5_over_0 x1 z2 sI sR tI tR hI hR mI mR F hRt hw)
theorem y_X5_over : zY yX5_over wsX5_over cX5_over 4 (some .int) 2 := ⟨⟨_, rfl⟩, by decide +kernel⟩
theorem iX5_sight_1 : ∀ w ∈ wsX10, w ∈ wsX5_sight := fun w h => List.mem_cons_of_mem _ (List.mem_append_left _ (List.mem_append_right _ h))
theorem iX5_sight_3 : ∀ w ∈ wsX30, w ∈ wsX5_sight := fun w h => List.mem_cons_of_mem _ (List.mem_append_right _ h)
theorem iX5_sight_5 : ∀ w ∈ wsX50, w ∈ wsX5_sight := fun w h => List.mem_cons_of_mem _ (List.mem_append_left _ (List.mem_append_left _ (List.mem_append_right _ h)))
theorem kX5_sight_12 : zL wsX5_sight RX5 12 5 0 (.object "StillRoom$House") true := zL5 iX5_sight_5 (by decide) (List.mem_of_getElem? (i := 1) rfl) rfl rfl
theorem kX5_sight_108 : zL wsX5_sight RX5 108 1 2 (.object "StillRoom$Pairs") true := zL1 iX5_sight_1 (by decide) (List.mem_of_getElem? (i := 2) rfl) rfl rfl
theorem kX5_sight_125 : zL wsX5_sight RX5 125 3 2 .int false := zL3 iX5_sight_3 (by decide) (List.mem_of_getElem? (i := 3) rfl) rfl rfl
set_option maxHeartbeats 4000000 in
set_option maxRecDepth 100000 in
theorem xX5_sight_0 {C : zC} {D : va_G} {cyI cyB : ClassId} {aS : Nat → Nat} {aT : Nat → Nat} {aH : Nat → Nat} {aM : Nat → Nat} {kp : Value} (x1 : Int32) (x2 : Int32) (sI : Nat → Int32) (sR : Nat → Nat → Int32) (tI : Nat → Int32) (tR : Nat → Nat → Int32) (hI : Nat → Int32) (hR : Nat → Nat → Int32) (mI : Nat → Int32) (mR : Nat → Nat → Int32) (F : zF C D { frames := 2, cells := 0, slots := 0, locals := 43 } cX5_sight 3 wsX5_sight RX5 (some .int) cyI cyB) {post : Int32 → (Nat → Int32) → (Nat → Nat → Int32) → (Nat → Int32) → (Nat → Nat → Int32) → Prop} (hRt : zRi C D cX5_sight 3 (S := ((Nat → Int32) × (Nat → Nat → Int32) × (Nat → Int32) × (Nat → Nat → Int32))) (fun u => (wSt aH aM aT aS kp cyI u.1 u.2.1 ++ wTe aT cyB tI tR ++ wHo aH cyI u.2.2.1 u.2.2.2 ++ wMi aH aM cyI mI mR)) (fun r u => post r u.1 u.2.1 u.2.2.1 u.2.2.2)) (hw : pX5_sight x1 x2 sI sR tI tR hI hR mI mR post) : zX C D 3 0 0 (wSt aH aM aT aS kp cyI sI sR ++ wTe aT cyB tI tR ++ wHo aH cyI hI hR ++ wMi aH aM cyI mI mR) 0 [(0, .ref (aS 0)), (1, .int x1), (2, .int x2)] [] := by
  refine z_aload_n F dX5_sight_0 1 rfl 0 rfl ?_
  refine z_get F dX5_sight_1 4 rfl kX5_sight_12 0 rfl rfl ?_
  refine z_iload_n F dX5_sight_4 5 rfl 1 rfl ?_
  refine z_iload_n F dX5_sight_5 6 rfl 2 rfl ?_
  refine z_segVi (As := [.int x1, .int x2]) (st := []) F dX5_sight_6 9 rfl (mX1_areTwoHands C.1.2.1 D cyI cyB aH x1 x2 hI hR hw) y_X1_areTwoHands rfl gX5_sight_X1_areTwoHands rfl (ci := 1) (rq := 0) rfl rfl ⟨Nat.le_of_ble_eq_true rfl, Nat.le_of_ble_eq_true rfl⟩ ⟨Nat.zero_le _, Nat.zero_le _⟩ (Nat.le_of_ble_eq_true rfl) (wSt aH aM aT aS kp cyI sI sR ++ wTe aT cyB tI tR) (wMi aH aM cyI mI mR) (by simp only [List.append_assoc, List.nil_append, List.append_nil]) (fun _ => rfl) (fun u => (wSt aH aM aT aS kp cyI sI sR ++ wTe aT cyB tI tR ++ wHo aH cyI hI hR ++ wMi aH aM cyI mI mR)) (fun u => (by simp only [List.append_assoc, List.nil_append, List.append_nil])) (fun r0 u hp => ?_)
  obtain ⟨b1, rfl, hw⟩ := hp
  obtain ⟨hwt, hwf⟩ := hw
  refine z_ifneB F dX5_sight_9 18 rfl 12 rfl (fun c1 => ?_) (fun c1 => ?_)
  · have hw := hwt c1; clear hwt hwf
    refine z_aload_n F dX5_sight_18 19 rfl 0 rfl ?_
    refine z_get F dX5_sight_19 22 rfl kX5_sight_12 0 rfl rfl ?_
    refine z_get F dX5_sight_22 25 rfl kX5_sight_108 6 rfl rfl ?_
    refine z_iload_n F dX5_sight_25 26 rfl 1 rfl ?_
    refine z_iload_n F dX5_sight_26 27 rfl 2 rfl ?_
    refine z_callVi (As := [.int x1, .int x2]) (st := []) F dX5_sight_27 30 rfl (mX3_has C.1.2.1 D cyI cyB (fun j => aH (3 + j)) x1 x2 (hI 4) (hR 2) (hR 3) hw) y_X3_has rfl gX5_sight_X3_has rfl (ci := 3) (rq := 0) rfl rfl ⟨Nat.le_of_ble_eq_true rfl, Nat.le_of_ble_eq_true rfl⟩ ⟨Nat.zero_le _, Nat.zero_le _⟩ (Nat.le_of_ble_eq_true rfl) [9, 10, 11] (by decide) rfl (fun _ => rfl) (fun u => (wSt aH aM aT aS kp cyI sI sR ++ wTe aT cyB tI tR ++ wHo aH cyI hI hR ++ wMi aH aM cyI mI mR)) (fun _ => rfl) (fun r0 u hp => ?_)
    obtain ⟨b2, rfl, hw⟩ := hp
    obtain ⟨hwt, hwf⟩ := hw
    refine z_ifeqB F dX5_sight_30 40 rfl 33 rfl (fun c2 => ?_) (fun c2 => ?_)
    · have hw := hwt c2; clear hwt hwf
      refine z_aload_n F dX5_sight_40 41 rfl 0 rfl ?_
      refine z_get F dX5_sight_41 44 rfl kX5_sight_12 0 rfl rfl ?_
      refine z_get F dX5_sight_44 47 rfl kX5_sight_108 6 rfl rfl ?_
      refine z_callVi (As := []) (st := []) F dX5_sight_47 50 rfl (mX3_isFull C.1.2.1 D cyI cyB (fun j => aH (3 + j)) (hI 4) (hR 2) (hR 3) hw) y_X3_isFull rfl gX5_sight_X3_isFull rfl (ci := 3) (rq := 0) rfl rfl ⟨Nat.le_of_ble_eq_true rfl, Nat.le_of_ble_eq_true rfl⟩ ⟨Nat.zero_le _, Nat.zero_le _⟩ (Nat.le_of_ble_eq_true rfl) [9, 10, 11] (by decide) rfl (fun _ => rfl) (fun u => (wSt aH aM aT aS kp cyI sI sR ++ wTe aT cyB tI tR ++ wHo aH cyI hI hR ++ wMi aH aM cyI mI mR)) (fun _ => rfl) (fun r0 u hp => ?_)
      obtain ⟨b3, rfl, hw⟩ := hp
      obtain ⟨hwt, hwf⟩ := hw
      refine z_ifeqB F dX5_sight_50 60 rfl 53 rfl (fun c3 => ?_) (fun c3 => ?_)
      · have hw := hwt c3; clear hwt hwf
        refine z_aload_n F dX5_sight_60 61 rfl 0 rfl ?_
        refine z_get F dX5_sight_61 64 rfl kX5_sight_12 0 rfl rfl ?_
        refine z_get F dX5_sight_64 67 rfl kX5_sight_108 6 rfl rfl ?_
        refine z_iload_n F dX5_sight_67 68 rfl 1 rfl ?_
        refine z_iload_n F dX5_sight_68 69 rfl 2 rfl ?_
        refine z_callVv (As := [.int x1, .int x2]) (st := []) F dX5_sight_69 72 rfl (mX3_add C.1.2.1 D cyI cyB (fun j => aH (3 + j)) x1 x2 (hI 4) (hR 2) (hR 3) hw) y_X3_add rfl gX5_sight_X3_add rfl (ci := 3) (rq := 0) rfl rfl ⟨Nat.le_of_ble_eq_true rfl, Nat.le_of_ble_eq_true rfl⟩ ⟨Nat.zero_le _, Nat.zero_le _⟩ (Nat.le_of_ble_eq_true rfl) [9, 10, 11] (by decide) rfl (fun _ => rfl) (fun u => (wSt aH aM aT aS kp cyI sI sR ++ wTe aT cyB tI tR ++ wHo aH cyI (va_up hI 4 u.1) (va_up (va_up hR 2 u.2.1) 3 u.2.2) ++ wMi aH aM cyI mI mR)) (fun _ => rfl) (fun u hp => ?_)
        obtain ⟨pn_1, pf_1, ps_1⟩ := u
        replace hw := hp
        clear hp
        refine z_aload_n F dX5_sight_72 73 rfl 0 rfl ?_
        refine z_get F dX5_sight_73 76 rfl kX5_sight_12 0 rfl rfl ?_
        refine z_get F dX5_sight_76 79 rfl kX5_sight_108 6 rfl rfl ?_
        refine z_get F dX5_sight_79 82 rfl kX5_sight_125 9 rfl rfl ?_
        refine z_iconst F dX5_sight_82 83 rfl zki_1 ?_
        refine z_isub F dX5_sight_83 84 rfl ?_
        exact hRt 84 _ (pn_1 - 1) (sI, sR, (va_up hI 4 pn_1), (va_up (va_up hR 2 pf_1) 3 ps_1)) dX5_sight_84 hw
      · have hw := hwf c3; clear hwt hwf
        refine z_aload_n F dX5_sight_53 54 rfl 0 rfl ?_
        refine z_bipush F dX5_sight_54 56 rfl zkb_m6 ?_
        refine z_segVi (As := [.int (-6)]) (st := []) F dX5_sight_56 59 rfl (mX5_refuse C.1.2.1 D cyI cyB aS aH aM aT kp (-6) sI sR hw) y_X5_refuse rfl gX5_sight_X5_refuse rfl (ci := 5) (rq := 0) rfl rfl ⟨Nat.le_of_ble_eq_true rfl, Nat.le_of_ble_eq_true rfl⟩ ⟨Nat.zero_le _, Nat.zero_le _⟩ (Nat.le_of_ble_eq_true rfl) [] (wTe aT cyB tI tR ++ wHo aH cyI hI hR ++ wMi aH aM cyI mI mR) (by simp only [List.append_assoc, List.nil_append, List.append_nil]) (fun _ => rfl) (fun u => (wSt aH aM aT aS kp cyI u.1 u.2 ++ wTe aT cyB tI tR ++ wHo aH cyI hI hR ++ wMi aH aM cyI mI mR)) (fun u => (by simp only [List.append_assoc, List.nil_append, List.append_nil])) (fun r1 u hp => ?_)
        obtain ⟨sI_1, sR_1⟩ := u
        replace hw := hp
        clear hp
        exact hRt 59 _ r1 (sI_1, sR_1, hI, hR) dX5_sight_59 hw
    · have hw := hwf c2; clear hwt hwf
      refine z_aload_n F dX5_sight_33 34 rfl 0 rfl ?_
      refine z_bipush F dX5_sight_34 36 rfl zkb_m3 ?_
      refine z_segVi (As := [.int (-3)]) (st := []) F dX5_sight_36 39 rfl (mX5_refuse C.1.2.1 D cyI cyB aS aH aM aT kp (-3) sI sR hw) y_X5_refuse rfl gX5_sight_X5_refuse rfl (ci := 5) (rq := 0) rfl rfl ⟨Nat.le_of_ble_eq_true rfl, Nat.le_of_ble_eq_true rfl⟩ ⟨Nat.zero_le _, Nat.zero_le _⟩ (Nat.le_of_ble_eq_true rfl) [] (wTe aT cyB tI tR ++ wHo aH cyI hI hR ++ wMi aH aM cyI mI mR) (by simp only [List.append_assoc, List.nil_append, List.append_nil]) (fun _ => rfl) (fun u => (wSt aH aM aT aS kp cyI u.1 u.2 ++ wTe aT cyB tI tR ++ wHo aH cyI hI hR ++ wMi aH aM cyI mI mR)) (fun u => (by simp only [List.append_assoc, List.nil_append, List.append_nil])) (fun r2 u hp => ?_)
      obtain ⟨sI_2, sR_2⟩ := u
      replace hw := hp
      clear hp
      exact hRt 39 _ r2 (sI_2, sR_2, hI, hR) dX5_sight_39 hw
  · have hw := hwf c1; clear hwt hwf
    refine z_aload_n F dX5_sight_12 13 rfl 0 rfl ?_
    refine z_iconst F dX5_sight_13 14 rfl zki_m1 ?_
    refine z_segVi (As := [.int (-1)]) (st := []) F dX5_sight_14 17 rfl (mX5_refuse C.1.2.1 D cyI cyB aS aH aM aT kp (-1) sI sR hw) y_X5_refuse rfl gX5_sight_X5_refuse rfl (ci := 5) (rq := 0) rfl rfl ⟨Nat.le_of_ble_eq_true rfl, Nat.le_of_ble_eq_true rfl⟩ ⟨Nat.zero_le _, Nat.zero_le _⟩ (Nat.le_of_ble_eq_true rfl) [] (wTe aT cyB tI tR ++ wHo aH cyI hI hR ++ wMi aH aM cyI mI mR) (by simp only [List.append_assoc, List.nil_append, List.append_nil]) (fun _ => rfl) (fun u => (wSt aH aM aT aS kp cyI u.1 u.2 ++ wTe aT cyB tI tR ++ wHo aH cyI hI hR ++ wMi aH aM cyI mI mR)) (fun u => (by simp only [List.append_assoc, List.nil_append, List.append_nil])) (fun r3 u hp => ?_)
    obtain ⟨sI_3, sR_3⟩ := u
    replace hw := hp
    clear hp
    exact hRt 17 _ r3 (sI_3, sR_3, hI, hR) dX5_sight_17 hw
set_option maxHeartbeats 4000000 in
set_option maxRecDepth 100000 in
theorem mX5_sight (l : Launch) (D : va_G) (cyI cyB : ClassId) (aS : Nat → Nat) (aT : Nat → Nat) (aH : Nat → Nat) (aM : Nat → Nat) (kp : Value) (x1 : Int32) (x2 : Int32) (sI : Nat → Int32) (sR : Nat → Nat → Int32) (tI : Nat → Int32) (tR : Nat → Nat → Int32) (hI : Nat → Int32) (hR : Nat → Nat → Int32) (mI : Nat → Int32) (mR : Nat → Nat → Int32) {post : Int32 → (Nat → Int32) → (Nat → Nat → Int32) → (Nat → Int32) → (Nat → Nat → Int32) → Prop} (hw : pX5_sight x1 x2 sI sR tI tR hI hR mI mR post) : zMi l yX5_sight wsX5_sight 2 43 D cyI cyB [.ref (aS 0), .int x1, .int x2] (wSt aH aM aT aS kp cyI sI sR ++ wTe aT cyB tI tR ++ wHo aH cyI hI hR ++ wMi aH aM cyI mI mR) (S := ((Nat → Int32) × (Nat → Nat → Int32) × (Nat → Int32) × (Nat → Nat → Int32))) (fun u => (wSt aH aM aT aS kp cyI u.1 u.2.1 ++ wTe aT cyB tI tR ++ wHo aH cyI u.2.2.1 u.2.2.2 ++ wMi aH aM cyI mI mR)) (fun r u => post r u.1 u.2.1 u.2.2.1 u.2.2.2) :=
  z_meti (cc := cX5_sight) (nL := 3) (by decide +kernel) rfl (Nat.le_of_ble_eq_true rfl) (fun C hl F hRt => xX5_sight_0 x1 x2 sI sR tI tR hI hR mI mR F hRt hw)
theorem y_X5_sight : zY yX5_sight wsX5_sight cX5_sight 3 (some .int) 2 := ⟨⟨_, rfl⟩, by decide +kernel⟩
theorem iX5_tie_1 : ∀ w ∈ wsX10, w ∈ wsX5_tie := fun w h => List.mem_cons_of_mem _ (List.mem_append_left _ (List.mem_append_right _ h))
theorem iX5_tie_3 : ∀ w ∈ wsX30, w ∈ wsX5_tie := fun w h => List.mem_cons_of_mem _ (List.mem_append_right _ h)
theorem iX5_tie_5 : ∀ w ∈ wsX50, w ∈ wsX5_tie := fun w h => List.mem_cons_of_mem _ (List.mem_append_left _ (List.mem_append_left _ (List.mem_append_right _ h)))
theorem kX5_tie_12 : zL wsX5_tie RX5 12 5 0 (.object "StillRoom$House") true := zL5 iX5_tie_5 (by decide) (List.mem_of_getElem? (i := 1) rfl) rfl rfl
theorem kX5_tie_125 : zL wsX5_tie RX5 125 3 2 .int false := zL3 iX5_tie_3 (by decide) (List.mem_of_getElem? (i := 3) rfl) rfl rfl
theorem kX5_tie_128 : zL wsX5_tie RX5 128 1 3 (.object "StillRoom$Pairs") true := zL1 iX5_tie_1 (by decide) (List.mem_of_getElem? (i := 2) rfl) rfl rfl
set_option maxHeartbeats 4000000 in
set_option maxRecDepth 100000 in
theorem xX5_tie_0 {C : zC} {D : va_G} {cyI cyB : ClassId} {aS : Nat → Nat} {aT : Nat → Nat} {aH : Nat → Nat} {aM : Nat → Nat} {kp : Value} (x1 : Int32) (x2 : Int32) (sI : Nat → Int32) (sR : Nat → Nat → Int32) (tI : Nat → Int32) (tR : Nat → Nat → Int32) (hI : Nat → Int32) (hR : Nat → Nat → Int32) (mI : Nat → Int32) (mR : Nat → Nat → Int32) (F : zF C D { frames := 2, cells := 0, slots := 0, locals := 43 } cX5_tie 3 wsX5_tie RX5 (some .int) cyI cyB) {post : Int32 → (Nat → Int32) → (Nat → Nat → Int32) → (Nat → Int32) → (Nat → Nat → Int32) → Prop} (hRt : zRi C D cX5_tie 3 (S := ((Nat → Int32) × (Nat → Nat → Int32) × (Nat → Int32) × (Nat → Nat → Int32))) (fun u => (wSt aH aM aT aS kp cyI u.1 u.2.1 ++ wTe aT cyB tI tR ++ wHo aH cyI u.2.2.1 u.2.2.2 ++ wMi aH aM cyI mI mR)) (fun r u => post r u.1 u.2.1 u.2.2.1 u.2.2.2)) (hw : pX5_tie x1 x2 sI sR tI tR hI hR mI mR post) : zX C D 3 0 0 (wSt aH aM aT aS kp cyI sI sR ++ wTe aT cyB tI tR ++ wHo aH cyI hI hR ++ wMi aH aM cyI mI mR) 0 [(0, .ref (aS 0)), (1, .int x1), (2, .int x2)] [] := by
  refine z_aload_n F dX5_tie_0 1 rfl 0 rfl ?_
  refine z_get F dX5_tie_1 4 rfl kX5_tie_12 0 rfl rfl ?_
  refine z_iload_n F dX5_tie_4 5 rfl 1 rfl ?_
  refine z_iload_n F dX5_tie_5 6 rfl 2 rfl ?_
  refine z_segVi (As := [.int x1, .int x2]) (st := []) F dX5_tie_6 9 rfl (mX1_areTwoHands C.1.2.1 D cyI cyB aH x1 x2 hI hR hw) y_X1_areTwoHands rfl gX5_tie_X1_areTwoHands rfl (ci := 1) (rq := 0) rfl rfl ⟨Nat.le_of_ble_eq_true rfl, Nat.le_of_ble_eq_true rfl⟩ ⟨Nat.zero_le _, Nat.zero_le _⟩ (Nat.le_of_ble_eq_true rfl) (wSt aH aM aT aS kp cyI sI sR ++ wTe aT cyB tI tR) (wMi aH aM cyI mI mR) (by simp only [List.append_assoc, List.nil_append, List.append_nil]) (fun _ => rfl) (fun u => (wSt aH aM aT aS kp cyI sI sR ++ wTe aT cyB tI tR ++ wHo aH cyI hI hR ++ wMi aH aM cyI mI mR)) (fun u => (by simp only [List.append_assoc, List.nil_append, List.append_nil])) (fun r0 u hp => ?_)
  obtain ⟨b1, rfl, hw⟩ := hp
  obtain ⟨hwt, hwf⟩ := hw
  refine z_ifneB F dX5_tie_9 18 rfl 12 rfl (fun c1 => ?_) (fun c1 => ?_)
  · have hw := hwt c1; clear hwt hwf
    refine z_aload_n F dX5_tie_18 19 rfl 0 rfl ?_
    refine z_get F dX5_tie_19 22 rfl kX5_tie_12 0 rfl rfl ?_
    refine z_get F dX5_tie_22 25 rfl kX5_tie_128 6 rfl rfl ?_
    refine z_callVi (As := []) (st := []) F dX5_tie_25 28 rfl (mX3_isFull C.1.2.1 D cyI cyB (fun j => aH (6 + j)) (hI 5) (hR 4) (hR 5) hw) y_X3_isFull rfl gX5_tie_X3_isFull rfl (ci := 3) (rq := 0) rfl rfl ⟨Nat.le_of_ble_eq_true rfl, Nat.le_of_ble_eq_true rfl⟩ ⟨Nat.zero_le _, Nat.zero_le _⟩ (Nat.le_of_ble_eq_true rfl) [12, 13, 14] (by decide) rfl (fun _ => rfl) (fun u => (wSt aH aM aT aS kp cyI sI sR ++ wTe aT cyB tI tR ++ wHo aH cyI hI hR ++ wMi aH aM cyI mI mR)) (fun _ => rfl) (fun r0 u hp => ?_)
    obtain ⟨b2, rfl, hw⟩ := hp
    obtain ⟨hwt, hwf⟩ := hw
    refine z_ifeqB F dX5_tie_28 38 rfl 31 rfl (fun c2 => ?_) (fun c2 => ?_)
    · have hw := hwt c2; clear hwt hwf
      refine z_aload_n F dX5_tie_38 39 rfl 0 rfl ?_
      refine z_get F dX5_tie_39 42 rfl kX5_tie_12 0 rfl rfl ?_
      refine z_get F dX5_tie_42 45 rfl kX5_tie_128 6 rfl rfl ?_
      refine z_iload_n F dX5_tie_45 46 rfl 1 rfl ?_
      refine z_iload_n F dX5_tie_46 47 rfl 2 rfl ?_
      refine z_callVv (As := [.int x1, .int x2]) (st := []) F dX5_tie_47 50 rfl (mX3_add C.1.2.1 D cyI cyB (fun j => aH (6 + j)) x1 x2 (hI 5) (hR 4) (hR 5) hw) y_X3_add rfl gX5_tie_X3_add rfl (ci := 3) (rq := 0) rfl rfl ⟨Nat.le_of_ble_eq_true rfl, Nat.le_of_ble_eq_true rfl⟩ ⟨Nat.zero_le _, Nat.zero_le _⟩ (Nat.le_of_ble_eq_true rfl) [12, 13, 14] (by decide) rfl (fun _ => rfl) (fun u => (wSt aH aM aT aS kp cyI sI sR ++ wTe aT cyB tI tR ++ wHo aH cyI (va_up hI 5 u.1) (va_up (va_up hR 4 u.2.1) 5 u.2.2) ++ wMi aH aM cyI mI mR)) (fun _ => rfl) (fun u hp => ?_)
      obtain ⟨pn_1, pf_1, ps_1⟩ := u
      replace hw := hp
      clear hp
      refine z_aload_n F dX5_tie_50 51 rfl 0 rfl ?_
      refine z_get F dX5_tie_51 54 rfl kX5_tie_12 0 rfl rfl ?_
      refine z_get F dX5_tie_54 57 rfl kX5_tie_128 6 rfl rfl ?_
      refine z_get F dX5_tie_57 60 rfl kX5_tie_125 12 rfl rfl ?_
      exact hRt 60 _ pn_1 (sI, sR, (va_up hI 5 pn_1), (va_up (va_up hR 4 pf_1) 5 ps_1)) dX5_tie_60 hw
    · have hw := hwf c2; clear hwt hwf
      refine z_aload_n F dX5_tie_31 32 rfl 0 rfl ?_
      refine z_bipush F dX5_tie_32 34 rfl zkb_m6 ?_
      refine z_segVi (As := [.int (-6)]) (st := []) F dX5_tie_34 37 rfl (mX5_refuse C.1.2.1 D cyI cyB aS aH aM aT kp (-6) sI sR hw) y_X5_refuse rfl gX5_tie_X5_refuse rfl (ci := 5) (rq := 0) rfl rfl ⟨Nat.le_of_ble_eq_true rfl, Nat.le_of_ble_eq_true rfl⟩ ⟨Nat.zero_le _, Nat.zero_le _⟩ (Nat.le_of_ble_eq_true rfl) [] (wTe aT cyB tI tR ++ wHo aH cyI hI hR ++ wMi aH aM cyI mI mR) (by simp only [List.append_assoc, List.nil_append, List.append_nil]) (fun _ => rfl) (fun u => (wSt aH aM aT aS kp cyI u.1 u.2 ++ wTe aT cyB tI tR ++ wHo aH cyI hI hR ++ wMi aH aM cyI mI mR)) (fun u => (by simp only [List.append_assoc, List.nil_append, List.append_nil])) (fun r1 u hp => ?_)
      obtain ⟨sI_1, sR_1⟩ := u
      replace hw := hp
      clear hp
      exact hRt 37 _ r1 (sI_1, sR_1, hI, hR) dX5_tie_37 hw
  · have hw := hwf c1; clear hwt hwf
    refine z_aload_n F dX5_tie_12 13 rfl 0 rfl ?_
    refine z_iconst F dX5_tie_13 14 rfl zki_m1 ?_
    refine z_segVi (As := [.int (-1)]) (st := []) F dX5_tie_14 17 rfl (mX5_refuse C.1.2.1 D cyI cyB aS aH aM aT kp (-1) sI sR hw) y_X5_refuse rfl gX5_tie_X5_refuse rfl (ci := 5) (rq := 0) rfl rfl ⟨Nat.le_of_ble_eq_true rfl, Nat.le_of_ble_eq_true rfl⟩ ⟨Nat.zero_le _, Nat.zero_le _⟩ (Nat.le_of_ble_eq_true rfl) [] (wTe aT cyB tI tR ++ wHo aH cyI hI hR ++ wMi aH aM cyI mI mR) (by simp only [List.append_assoc, List.nil_append, List.append_nil]) (fun _ => rfl) (fun u => (wSt aH aM aT aS kp cyI u.1 u.2 ++ wTe aT cyB tI tR ++ wHo aH cyI hI hR ++ wMi aH aM cyI mI mR)) (fun u => (by simp only [List.append_assoc, List.nil_append, List.append_nil])) (fun r2 u hp => ?_)
    obtain ⟨sI_2, sR_2⟩ := u
    replace hw := hp
    clear hp
    exact hRt 17 _ r2 (sI_2, sR_2, hI, hR) dX5_tie_17 hw
set_option maxHeartbeats 4000000 in
set_option maxRecDepth 100000 in
theorem mX5_tie (l : Launch) (D : va_G) (cyI cyB : ClassId) (aS : Nat → Nat) (aT : Nat → Nat) (aH : Nat → Nat) (aM : Nat → Nat) (kp : Value) (x1 : Int32) (x2 : Int32) (sI : Nat → Int32) (sR : Nat → Nat → Int32) (tI : Nat → Int32) (tR : Nat → Nat → Int32) (hI : Nat → Int32) (hR : Nat → Nat → Int32) (mI : Nat → Int32) (mR : Nat → Nat → Int32) {post : Int32 → (Nat → Int32) → (Nat → Nat → Int32) → (Nat → Int32) → (Nat → Nat → Int32) → Prop} (hw : pX5_tie x1 x2 sI sR tI tR hI hR mI mR post) : zMi l yX5_tie wsX5_tie 2 43 D cyI cyB [.ref (aS 0), .int x1, .int x2] (wSt aH aM aT aS kp cyI sI sR ++ wTe aT cyB tI tR ++ wHo aH cyI hI hR ++ wMi aH aM cyI mI mR) (S := ((Nat → Int32) × (Nat → Nat → Int32) × (Nat → Int32) × (Nat → Nat → Int32))) (fun u => (wSt aH aM aT aS kp cyI u.1 u.2.1 ++ wTe aT cyB tI tR ++ wHo aH cyI u.2.2.1 u.2.2.2 ++ wMi aH aM cyI mI mR)) (fun r u => post r u.1 u.2.1 u.2.2.1 u.2.2.2) :=
  z_meti (cc := cX5_tie) (nL := 3) (by decide +kernel) rfl (Nat.le_of_ble_eq_true rfl) (fun C hl F hRt => xX5_tie_0 x1 x2 sI sR tI tR hI hR mI mR F hRt hw)
theorem y_X5_tie : zY yX5_tie wsX5_tie cX5_tie 3 (some .int) 2 := ⟨⟨_, rfl⟩, by decide +kernel⟩
theorem iX5_guess_1 : ∀ w ∈ wsX10, w ∈ wsX5_guess := fun w h => List.mem_cons_of_mem _ (List.mem_append_left _ (List.mem_append_right _ h))
theorem iX5_guess_3 : ∀ w ∈ wsX30, w ∈ wsX5_guess := fun w h => List.mem_cons_of_mem _ (List.mem_append_right _ h)
theorem iX5_guess_5 : ∀ w ∈ wsX50, w ∈ wsX5_guess := fun w h => List.mem_cons_of_mem _ (List.mem_append_left _ (List.mem_append_left _ (List.mem_append_right _ h)))
theorem kX5_guess_12 : zL wsX5_guess RX5 12 5 0 (.object "StillRoom$House") true := zL5 iX5_guess_5 (by decide) (List.mem_of_getElem? (i := 1) rfl) rfl rfl
theorem kX5_guess_125 : zL wsX5_guess RX5 125 3 2 .int false := zL3 iX5_guess_3 (by decide) (List.mem_of_getElem? (i := 3) rfl) rfl rfl
theorem kX5_guess_134 : zL wsX5_guess RX5 134 1 4 (.object "StillRoom$Pairs") true := zL1 iX5_guess_1 (by decide) (List.mem_of_getElem? (i := 2) rfl) rfl rfl
set_option maxHeartbeats 4000000 in
set_option maxRecDepth 100000 in
theorem xX5_guess_0 {C : zC} {D : va_G} {cyI cyB : ClassId} {aS : Nat → Nat} {aT : Nat → Nat} {aH : Nat → Nat} {aM : Nat → Nat} {kp : Value} (x1 : Int32) (x2 : Int32) (sI : Nat → Int32) (sR : Nat → Nat → Int32) (tI : Nat → Int32) (tR : Nat → Nat → Int32) (hI : Nat → Int32) (hR : Nat → Nat → Int32) (mI : Nat → Int32) (mR : Nat → Nat → Int32) (F : zF C D { frames := 1, cells := 0, slots := 0, locals := 22 } cX5_guess 3 wsX5_guess RX5 (some .int) cyI cyB) {post : Int32 → (Nat → Int32) → (Nat → Nat → Int32) → (Nat → Int32) → (Nat → Nat → Int32) → Prop} (hRt : zRi C D cX5_guess 3 (S := ((Nat → Int32) × (Nat → Nat → Int32) × (Nat → Int32) × (Nat → Nat → Int32))) (fun u => (wSt aH aM aT aS kp cyI u.1 u.2.1 ++ wTe aT cyB tI tR ++ wHo aH cyI u.2.2.1 u.2.2.2 ++ wMi aH aM cyI mI mR)) (fun r u => post r u.1 u.2.1 u.2.2.1 u.2.2.2)) (hw : pX5_guess x1 x2 sI sR tI tR hI hR mI mR post) : zX C D 3 0 0 (wSt aH aM aT aS kp cyI sI sR ++ wTe aT cyB tI tR ++ wHo aH cyI hI hR ++ wMi aH aM cyI mI mR) 0 [(0, .ref (aS 0)), (1, .int x1), (2, .int x2)] [] := by
  refine z_aload_n F dX5_guess_0 1 rfl 0 rfl ?_
  refine z_get F dX5_guess_1 4 rfl kX5_guess_12 0 rfl rfl ?_
  refine z_iload_n F dX5_guess_4 5 rfl 1 rfl ?_
  refine z_segVi (As := [.int x1]) (st := []) F dX5_guess_5 8 rfl (mX1_isStepSet C.1.2.1 D cyI cyB aH x1 hI hR hw) y_X1_isStepSet rfl gX5_guess_X1_isStepSet rfl (ci := 1) (rq := 0) rfl rfl ⟨Nat.le_of_ble_eq_true rfl, Nat.le_of_ble_eq_true rfl⟩ ⟨Nat.zero_le _, Nat.zero_le _⟩ (Nat.le_of_ble_eq_true rfl) (wSt aH aM aT aS kp cyI sI sR ++ wTe aT cyB tI tR) (wMi aH aM cyI mI mR) (by simp only [List.append_assoc, List.nil_append, List.append_nil]) (fun _ => rfl) (fun u => (wSt aH aM aT aS kp cyI sI sR ++ wTe aT cyB tI tR ++ wHo aH cyI hI hR ++ wMi aH aM cyI mI mR)) (fun u => (by simp only [List.append_assoc, List.nil_append, List.append_nil])) (fun r0 u hp => ?_)
  obtain ⟨b1, rfl, hw⟩ := hp
  obtain ⟨hwt, hwf⟩ := hw
  refine z_ifeqB F dX5_guess_8 34 rfl 11 rfl (fun c1 => ?_) (fun c1 => ?_)
  · have hw := hwt c1; clear hwt hwf
    refine z_aload_n F dX5_guess_34 35 rfl 0 rfl ?_
    refine z_iconst F dX5_guess_35 36 rfl zki_m1 ?_
    refine z_segVi (As := [.int (-1)]) (st := []) F dX5_guess_36 39 rfl (mX5_refuse C.1.2.1 D cyI cyB aS aH aM aT kp (-1) sI sR hw) y_X5_refuse rfl gX5_guess_X5_refuse rfl (ci := 5) (rq := 0) rfl rfl ⟨Nat.le_of_ble_eq_true rfl, Nat.le_of_ble_eq_true rfl⟩ ⟨Nat.zero_le _, Nat.zero_le _⟩ (Nat.le_of_ble_eq_true rfl) [] (wTe aT cyB tI tR ++ wHo aH cyI hI hR ++ wMi aH aM cyI mI mR) (by simp only [List.append_assoc, List.nil_append, List.append_nil]) (fun _ => rfl) (fun u => (wSt aH aM aT aS kp cyI u.1 u.2 ++ wTe aT cyB tI tR ++ wHo aH cyI hI hR ++ wMi aH aM cyI mI mR)) (fun u => (by simp only [List.append_assoc, List.nil_append, List.append_nil])) (fun r1 u hp => ?_)
    obtain ⟨sI_1, sR_1⟩ := u
    replace hw := hp
    clear hp
    exact hRt 39 _ r1 (sI_1, sR_1, hI, hR) dX5_guess_39 hw
  · have hw := hwf c1; clear hwt hwf
    refine z_iload_n F dX5_guess_11 12 rfl 1 rfl ?_
    obtain ⟨hwt, hwf⟩ := hw
    refine z_ifeq F dX5_guess_12 34 rfl 15 rfl (fun c2 => ?_) (fun c2 => ?_)
    · have hw := hwt c2; clear hwt hwf
      refine z_aload_n F dX5_guess_34 35 rfl 0 rfl ?_
      refine z_iconst F dX5_guess_35 36 rfl zki_m1 ?_
      refine z_segVi (As := [.int (-1)]) (st := []) F dX5_guess_36 39 rfl (mX5_refuse C.1.2.1 D cyI cyB aS aH aM aT kp (-1) sI sR hw) y_X5_refuse rfl gX5_guess_X5_refuse rfl (ci := 5) (rq := 0) rfl rfl ⟨Nat.le_of_ble_eq_true rfl, Nat.le_of_ble_eq_true rfl⟩ ⟨Nat.zero_le _, Nat.zero_le _⟩ (Nat.le_of_ble_eq_true rfl) [] (wTe aT cyB tI tR ++ wHo aH cyI hI hR ++ wMi aH aM cyI mI mR) (by simp only [List.append_assoc, List.nil_append, List.append_nil]) (fun _ => rfl) (fun u => (wSt aH aM aT aS kp cyI u.1 u.2 ++ wTe aT cyB tI tR ++ wHo aH cyI hI hR ++ wMi aH aM cyI mI mR)) (fun u => (by simp only [List.append_assoc, List.nil_append, List.append_nil])) (fun r2 u hp => ?_)
      obtain ⟨sI_2, sR_2⟩ := u
      replace hw := hp
      clear hp
      exact hRt 39 _ r2 (sI_2, sR_2, hI, hR) dX5_guess_39 hw
    · have hw := hwf c2; clear hwt hwf
      refine z_aload_n F dX5_guess_15 16 rfl 0 rfl ?_
      refine z_get F dX5_guess_16 19 rfl kX5_guess_12 0 rfl rfl ?_
      refine z_iload_n F dX5_guess_19 20 rfl 2 rfl ?_
      refine z_segVi (As := [.int x2]) (st := []) F dX5_guess_20 23 rfl (mX1_isStep C.1.2.1 D cyI cyB aH x2 hI hR hw) y_X1_isStep rfl gX5_guess_X1_isStep rfl (ci := 1) (rq := 0) rfl rfl ⟨Nat.le_of_ble_eq_true rfl, Nat.le_of_ble_eq_true rfl⟩ ⟨Nat.zero_le _, Nat.zero_le _⟩ (Nat.le_of_ble_eq_true rfl) (wSt aH aM aT aS kp cyI sI sR ++ wTe aT cyB tI tR) (wMi aH aM cyI mI mR) (by simp only [List.append_assoc, List.nil_append, List.append_nil]) (fun _ => rfl) (fun u => (wSt aH aM aT aS kp cyI sI sR ++ wTe aT cyB tI tR ++ wHo aH cyI hI hR ++ wMi aH aM cyI mI mR)) (fun u => (by simp only [List.append_assoc, List.nil_append, List.append_nil])) (fun r0 u hp => ?_)
      obtain ⟨b2, rfl, hw⟩ := hp
      obtain ⟨hwt, hwf⟩ := hw
      refine z_ifeqB F dX5_guess_23 34 rfl 26 rfl (fun c3 => ?_) (fun c3 => ?_)
      · have hw := hwt c3; clear hwt hwf
        refine z_aload_n F dX5_guess_34 35 rfl 0 rfl ?_
        refine z_iconst F dX5_guess_35 36 rfl zki_m1 ?_
        refine z_segVi (As := [.int (-1)]) (st := []) F dX5_guess_36 39 rfl (mX5_refuse C.1.2.1 D cyI cyB aS aH aM aT kp (-1) sI sR hw) y_X5_refuse rfl gX5_guess_X5_refuse rfl (ci := 5) (rq := 0) rfl rfl ⟨Nat.le_of_ble_eq_true rfl, Nat.le_of_ble_eq_true rfl⟩ ⟨Nat.zero_le _, Nat.zero_le _⟩ (Nat.le_of_ble_eq_true rfl) [] (wTe aT cyB tI tR ++ wHo aH cyI hI hR ++ wMi aH aM cyI mI mR) (by simp only [List.append_assoc, List.nil_append, List.append_nil]) (fun _ => rfl) (fun u => (wSt aH aM aT aS kp cyI u.1 u.2 ++ wTe aT cyB tI tR ++ wHo aH cyI hI hR ++ wMi aH aM cyI mI mR)) (fun u => (by simp only [List.append_assoc, List.nil_append, List.append_nil])) (fun r3 u hp => ?_)
        obtain ⟨sI_3, sR_3⟩ := u
        replace hw := hp
        clear hp
        exact hRt 39 _ r3 (sI_3, sR_3, hI, hR) dX5_guess_39 hw
      · have hw := hwf c3; clear hwt hwf
        refine z_iload_n F dX5_guess_26 27 rfl 1 rfl ?_
        refine z_iload_n F dX5_guess_27 28 rfl 2 rfl ?_
        refine z_callSi (As := [.int x1, .int x2]) (st := []) F dX5_guess_28 31 rfl (mX5_contains C.1.2.1 D cyI cyB x1 x2 hw) y_X5_contains rfl gX5_guess_X5_contains ⟨Nat.le_of_ble_eq_true rfl, Nat.le_of_ble_eq_true rfl⟩ ⟨Nat.zero_le _, Nat.zero_le _⟩ (Nat.le_of_ble_eq_true rfl) [] (by decide) rfl (fun _ => rfl) (fun u => (wSt aH aM aT aS kp cyI sI sR ++ wTe aT cyB tI tR ++ wHo aH cyI hI hR ++ wMi aH aM cyI mI mR)) (fun _ => rfl) (fun r0 u hp => ?_)
        obtain ⟨b3, rfl, hw⟩ := hp
        obtain ⟨hwt, hwf⟩ := hw
        refine z_ifeqB F dX5_guess_31 40 rfl 34 rfl (fun c4 => ?_) (fun c4 => ?_)
        · have hw := hwt c4; clear hwt hwf
          refine z_aload_n F dX5_guess_40 41 rfl 0 rfl ?_
          refine z_get F dX5_guess_41 44 rfl kX5_guess_12 0 rfl rfl ?_
          refine z_get F dX5_guess_44 47 rfl kX5_guess_134 6 rfl rfl ?_
          refine z_callVi (As := []) (st := []) F dX5_guess_47 50 rfl (mX3_isFull C.1.2.1 D cyI cyB (fun j => aH (9 + j)) (hI 6) (hR 6) (hR 7) hw) y_X3_isFull rfl gX5_guess_X3_isFull rfl (ci := 3) (rq := 0) rfl rfl ⟨Nat.le_of_ble_eq_true rfl, Nat.le_of_ble_eq_true rfl⟩ ⟨Nat.zero_le _, Nat.zero_le _⟩ (Nat.le_of_ble_eq_true rfl) [15, 16, 17] (by decide) rfl (fun _ => rfl) (fun u => (wSt aH aM aT aS kp cyI sI sR ++ wTe aT cyB tI tR ++ wHo aH cyI hI hR ++ wMi aH aM cyI mI mR)) (fun _ => rfl) (fun r0 u hp => ?_)
          obtain ⟨b4, rfl, hw⟩ := hp
          obtain ⟨hwt, hwf⟩ := hw
          refine z_ifeqB F dX5_guess_50 60 rfl 53 rfl (fun c5 => ?_) (fun c5 => ?_)
          · have hw := hwt c5; clear hwt hwf
            refine z_aload_n F dX5_guess_60 61 rfl 0 rfl ?_
            refine z_get F dX5_guess_61 64 rfl kX5_guess_12 0 rfl rfl ?_
            refine z_get F dX5_guess_64 67 rfl kX5_guess_134 6 rfl rfl ?_
            refine z_iload_n F dX5_guess_67 68 rfl 1 rfl ?_
            refine z_iload_n F dX5_guess_68 69 rfl 2 rfl ?_
            refine z_callVv (As := [.int x1, .int x2]) (st := []) F dX5_guess_69 72 rfl (mX3_add C.1.2.1 D cyI cyB (fun j => aH (9 + j)) x1 x2 (hI 6) (hR 6) (hR 7) hw) y_X3_add rfl gX5_guess_X3_add rfl (ci := 3) (rq := 0) rfl rfl ⟨Nat.le_of_ble_eq_true rfl, Nat.le_of_ble_eq_true rfl⟩ ⟨Nat.zero_le _, Nat.zero_le _⟩ (Nat.le_of_ble_eq_true rfl) [15, 16, 17] (by decide) rfl (fun _ => rfl) (fun u => (wSt aH aM aT aS kp cyI sI sR ++ wTe aT cyB tI tR ++ wHo aH cyI (va_up hI 6 u.1) (va_up (va_up hR 6 u.2.1) 7 u.2.2) ++ wMi aH aM cyI mI mR)) (fun _ => rfl) (fun u hp => ?_)
            obtain ⟨pn_1, pf_1, ps_1⟩ := u
            replace hw := hp
            clear hp
            refine z_aload_n F dX5_guess_72 73 rfl 0 rfl ?_
            refine z_get F dX5_guess_73 76 rfl kX5_guess_12 0 rfl rfl ?_
            refine z_get F dX5_guess_76 79 rfl kX5_guess_134 6 rfl rfl ?_
            refine z_get F dX5_guess_79 82 rfl kX5_guess_125 15 rfl rfl ?_
            exact hRt 82 _ pn_1 (sI, sR, (va_up hI 6 pn_1), (va_up (va_up hR 6 pf_1) 7 ps_1)) dX5_guess_82 hw
          · have hw := hwf c5; clear hwt hwf
            refine z_aload_n F dX5_guess_53 54 rfl 0 rfl ?_
            refine z_bipush F dX5_guess_54 56 rfl zkb_m6 ?_
            refine z_segVi (As := [.int (-6)]) (st := []) F dX5_guess_56 59 rfl (mX5_refuse C.1.2.1 D cyI cyB aS aH aM aT kp (-6) sI sR hw) y_X5_refuse rfl gX5_guess_X5_refuse rfl (ci := 5) (rq := 0) rfl rfl ⟨Nat.le_of_ble_eq_true rfl, Nat.le_of_ble_eq_true rfl⟩ ⟨Nat.zero_le _, Nat.zero_le _⟩ (Nat.le_of_ble_eq_true rfl) [] (wTe aT cyB tI tR ++ wHo aH cyI hI hR ++ wMi aH aM cyI mI mR) (by simp only [List.append_assoc, List.nil_append, List.append_nil]) (fun _ => rfl) (fun u => (wSt aH aM aT aS kp cyI u.1 u.2 ++ wTe aT cyB tI tR ++ wHo aH cyI hI hR ++ wMi aH aM cyI mI mR)) (fun u => (by simp only [List.append_assoc, List.nil_append, List.append_nil])) (fun r4 u hp => ?_)
            obtain ⟨sI_4, sR_4⟩ := u
            replace hw := hp
            clear hp
            exact hRt 59 _ r4 (sI_4, sR_4, hI, hR) dX5_guess_59 hw
        · have hw := hwf c4; clear hwt hwf
          refine z_aload_n F dX5_guess_34 35 rfl 0 rfl ?_
          refine z_iconst F dX5_guess_35 36 rfl zki_m1 ?_
          refine z_segVi (As := [.int (-1)]) (st := []) F dX5_guess_36 39 rfl (mX5_refuse C.1.2.1 D cyI cyB aS aH aM aT kp (-1) sI sR hw) y_X5_refuse rfl gX5_guess_X5_refuse rfl (ci := 5) (rq := 0) rfl rfl ⟨Nat.le_of_ble_eq_true rfl, Nat.le_of_ble_eq_true rfl⟩ ⟨Nat.zero_le _, Nat.zero_le _⟩ (Nat.le_of_ble_eq_true rfl) [] (wTe aT cyB tI tR ++ wHo aH cyI hI hR ++ wMi aH aM cyI mI mR) (by simp only [List.append_assoc, List.nil_append, List.append_nil]) (fun _ => rfl) (fun u => (wSt aH aM aT aS kp cyI u.1 u.2 ++ wTe aT cyB tI tR ++ wHo aH cyI hI hR ++ wMi aH aM cyI mI mR)) (fun u => (by simp only [List.append_assoc, List.nil_append, List.append_nil])) (fun r5 u hp => ?_)
          obtain ⟨sI_5, sR_5⟩ := u
          replace hw := hp
          clear hp
          exact hRt 39 _ r5 (sI_5, sR_5, hI, hR) dX5_guess_39 hw
set_option maxHeartbeats 4000000 in
set_option maxRecDepth 100000 in
theorem mX5_guess (l : Launch) (D : va_G) (cyI cyB : ClassId) (aS : Nat → Nat) (aT : Nat → Nat) (aH : Nat → Nat) (aM : Nat → Nat) (kp : Value) (x1 : Int32) (x2 : Int32) (sI : Nat → Int32) (sR : Nat → Nat → Int32) (tI : Nat → Int32) (tR : Nat → Nat → Int32) (hI : Nat → Int32) (hR : Nat → Nat → Int32) (mI : Nat → Int32) (mR : Nat → Nat → Int32) {post : Int32 → (Nat → Int32) → (Nat → Nat → Int32) → (Nat → Int32) → (Nat → Nat → Int32) → Prop} (hw : pX5_guess x1 x2 sI sR tI tR hI hR mI mR post) : zMi l yX5_guess wsX5_guess 1 22 D cyI cyB [.ref (aS 0), .int x1, .int x2] (wSt aH aM aT aS kp cyI sI sR ++ wTe aT cyB tI tR ++ wHo aH cyI hI hR ++ wMi aH aM cyI mI mR) (S := ((Nat → Int32) × (Nat → Nat → Int32) × (Nat → Int32) × (Nat → Nat → Int32))) (fun u => (wSt aH aM aT aS kp cyI u.1 u.2.1 ++ wTe aT cyB tI tR ++ wHo aH cyI u.2.2.1 u.2.2.2 ++ wMi aH aM cyI mI mR)) (fun r u => post r u.1 u.2.1 u.2.2.1 u.2.2.2) :=
  z_meti (cc := cX5_guess) (nL := 3) (by decide +kernel) rfl (Nat.le_of_ble_eq_true rfl) (fun C hl F hRt => xX5_guess_0 x1 x2 sI sR tI tR hI hR mI mR F hRt hw)
theorem y_X5_guess : zY yX5_guess wsX5_guess cX5_guess 3 (some .int) 2 := ⟨⟨_, rfl⟩, by decide +kernel⟩
theorem iX5_paper_1 : ∀ w ∈ wsX10, w ∈ wsX5_paper := fun w h => List.mem_cons_of_mem _ (List.mem_append_right _ h)
theorem iX5_paper_5 : ∀ w ∈ wsX50, w ∈ wsX5_paper := fun w h => List.mem_cons_of_mem _ (List.mem_append_left _ (List.mem_append_right _ h))
theorem kX5_paper_12 : zL wsX5_paper RX5 12 5 0 (.object "StillRoom$House") true := zL5 iX5_paper_5 (by decide) (List.mem_of_getElem? (i := 1) rfl) rfl rfl
theorem kX5_paper_137 : zL wsX5_paper RX5 137 1 8 .int false := zL1 iX5_paper_1 (by decide) (List.mem_of_getElem? (i := 2) rfl) rfl rfl
set_option maxHeartbeats 4000000 in
set_option maxRecDepth 100000 in
theorem xX5_paper_0 {C : zC} {D : va_G} {cyI cyB : ClassId} {aS : Nat → Nat} {aT : Nat → Nat} {aH : Nat → Nat} {aM : Nat → Nat} {kp : Value} (x1 : Int32) (sI : Nat → Int32) (sR : Nat → Nat → Int32) (tI : Nat → Int32) (tR : Nat → Nat → Int32) (hI : Nat → Int32) (hR : Nat → Nat → Int32) (mI : Nat → Int32) (mR : Nat → Nat → Int32) (F : zF C D { frames := 1, cells := 0, slots := 0, locals := 22 } cX5_paper 3 wsX5_paper RX5 (some .int) cyI cyB) {post : Int32 → (Nat → Int32) → (Nat → Nat → Int32) → (Nat → Int32) → (Nat → Nat → Int32) → Prop} (hRt : zRi C D cX5_paper 3 (S := ((Nat → Int32) × (Nat → Nat → Int32) × (Nat → Int32) × (Nat → Nat → Int32))) (fun u => (wSt aH aM aT aS kp cyI u.1 u.2.1 ++ wTe aT cyB tI tR ++ wHo aH cyI u.2.2.1 u.2.2.2 ++ wMi aH aM cyI mI mR)) (fun r u => post r u.1 u.2.1 u.2.2.1 u.2.2.2)) (hw : pX5_paper x1 sI sR tI tR hI hR mI mR post) : zX C D 3 0 0 (wSt aH aM aT aS kp cyI sI sR ++ wTe aT cyB tI tR ++ wHo aH cyI hI hR ++ wMi aH aM cyI mI mR) 0 [(0, .ref (aS 0)), (1, .int x1)] [] := by
  refine z_aload_n F dX5_paper_0 1 rfl 0 rfl ?_
  refine z_get F dX5_paper_1 4 rfl kX5_paper_12 0 rfl rfl ?_
  refine z_iload_n F dX5_paper_4 5 rfl 1 rfl ?_
  refine z_segVi (As := [.int x1]) (st := []) F dX5_paper_5 8 rfl (mX1_isStepSet C.1.2.1 D cyI cyB aH x1 hI hR hw) y_X1_isStepSet rfl gX5_paper_X1_isStepSet rfl (ci := 1) (rq := 0) rfl rfl ⟨Nat.le_of_ble_eq_true rfl, Nat.le_of_ble_eq_true rfl⟩ ⟨Nat.zero_le _, Nat.zero_le _⟩ (Nat.le_of_ble_eq_true rfl) (wSt aH aM aT aS kp cyI sI sR ++ wTe aT cyB tI tR) (wMi aH aM cyI mI mR) (by simp only [List.append_assoc, List.nil_append, List.append_nil]) (fun _ => rfl) (fun u => (wSt aH aM aT aS kp cyI sI sR ++ wTe aT cyB tI tR ++ wHo aH cyI hI hR ++ wMi aH aM cyI mI mR)) (fun u => (by simp only [List.append_assoc, List.nil_append, List.append_nil])) (fun r0 u hp => ?_)
  obtain ⟨b1, rfl, hw⟩ := hp
  obtain ⟨hwt, hwf⟩ := hw
  refine z_ifneB F dX5_paper_8 17 rfl 11 rfl (fun c1 => ?_) (fun c1 => ?_)
  · have hw := hwt c1; clear hwt hwf
    refine z_aload_n F dX5_paper_17 18 rfl 0 rfl ?_
    refine z_get F dX5_paper_18 21 rfl kX5_paper_12 0 rfl rfl ?_
    refine z_get F dX5_paper_21 24 rfl kX5_paper_137 6 rfl rfl ?_
    refine z_istore_n (lv' := [(2, .int (hI 3)), (0, .ref (aS 0)), (1, .int x1)]) F dX5_paper_24 25 rfl (by decide) rfl ?_
    refine z_aload_n F dX5_paper_25 26 rfl 1 rfl ?_
    refine z_get F dX5_paper_26 29 rfl kX5_paper_12 0 rfl rfl ?_
    refine z_iload_n F dX5_paper_29 30 rfl 2 rfl ?_
    refine z_put F dX5_paper_30 33 rfl kX5_paper_137 6 rfl rfl rfl (Nat.le_of_ble_eq_true rfl) (wSt aH aM aT aS kp cyI sI sR ++ wTe aT cyB tI tR ++ wHo aH cyI (va_up hI 3 x1) hR ++ wMi aH aM cyI mI mR) rfl ?_
    refine z_iload_n F dX5_paper_33 34 rfl 0 rfl ?_
    exact hRt 34 _ (hI 3) (sI, sR, (va_up hI 3 x1), hR) dX5_paper_34 hw
  · have hw := hwf c1; clear hwt hwf
    refine z_aload_n F dX5_paper_11 12 rfl 0 rfl ?_
    refine z_iconst F dX5_paper_12 13 rfl zki_m1 ?_
    refine z_segVi (As := [.int (-1)]) (st := []) F dX5_paper_13 16 rfl (mX5_refuse C.1.2.1 D cyI cyB aS aH aM aT kp (-1) sI sR hw) y_X5_refuse rfl gX5_paper_X5_refuse rfl (ci := 5) (rq := 0) rfl rfl ⟨Nat.le_of_ble_eq_true rfl, Nat.le_of_ble_eq_true rfl⟩ ⟨Nat.zero_le _, Nat.zero_le _⟩ (Nat.le_of_ble_eq_true rfl) [] (wTe aT cyB tI tR ++ wHo aH cyI hI hR ++ wMi aH aM cyI mI mR) (by simp only [List.append_assoc, List.nil_append, List.append_nil]) (fun _ => rfl) (fun u => (wSt aH aM aT aS kp cyI u.1 u.2 ++ wTe aT cyB tI tR ++ wHo aH cyI hI hR ++ wMi aH aM cyI mI mR)) (fun u => (by simp only [List.append_assoc, List.nil_append, List.append_nil])) (fun r1 u hp => ?_)
    obtain ⟨sI_1, sR_1⟩ := u
    replace hw := hp
    clear hp
    exact hRt 16 _ r1 (sI_1, sR_1, hI, hR) dX5_paper_16 hw
set_option maxHeartbeats 4000000 in
set_option maxRecDepth 100000 in
theorem mX5_paper (l : Launch) (D : va_G) (cyI cyB : ClassId) (aS : Nat → Nat) (aT : Nat → Nat) (aH : Nat → Nat) (aM : Nat → Nat) (kp : Value) (x1 : Int32) (sI : Nat → Int32) (sR : Nat → Nat → Int32) (tI : Nat → Int32) (tR : Nat → Nat → Int32) (hI : Nat → Int32) (hR : Nat → Nat → Int32) (mI : Nat → Int32) (mR : Nat → Nat → Int32) {post : Int32 → (Nat → Int32) → (Nat → Nat → Int32) → (Nat → Int32) → (Nat → Nat → Int32) → Prop} (hw : pX5_paper x1 sI sR tI tR hI hR mI mR post) : zMi l yX5_paper wsX5_paper 1 22 D cyI cyB [.ref (aS 0), .int x1] (wSt aH aM aT aS kp cyI sI sR ++ wTe aT cyB tI tR ++ wHo aH cyI hI hR ++ wMi aH aM cyI mI mR) (S := ((Nat → Int32) × (Nat → Nat → Int32) × (Nat → Int32) × (Nat → Nat → Int32))) (fun u => (wSt aH aM aT aS kp cyI u.1 u.2.1 ++ wTe aT cyB tI tR ++ wHo aH cyI u.2.2.1 u.2.2.2 ++ wMi aH aM cyI mI mR)) (fun r u => post r u.1 u.2.1 u.2.2.1 u.2.2.2) :=
  z_meti (cc := cX5_paper) (nL := 3) (by decide +kernel) rfl (Nat.le_of_ble_eq_true rfl) (fun C hl F hRt => xX5_paper_0 x1 sI sR tI tR hI hR mI mR F hRt hw)
theorem y_X5_paper : zY yX5_paper wsX5_paper cX5_paper 3 (some .int) 1 := ⟨⟨_, rfl⟩, by decide +kernel⟩
theorem iX5_knows_1 : ∀ w ∈ wsX10, w ∈ wsX5_knows := fun w h => List.mem_cons_of_mem _ (List.mem_append_left _ (List.mem_append_left _ (List.mem_append_right _ h)))
theorem iX5_knows_5 : ∀ w ∈ wsX50, w ∈ wsX5_knows := fun w h => List.mem_cons_of_mem _ (List.mem_append_left _ (List.mem_append_left _ (List.mem_append_left _ (List.mem_append_right _ h))))
theorem kX5_knows_12 : zL wsX5_knows RX5 12 5 0 (.object "StillRoom$House") true := zL5 iX5_knows_5 (by decide) (List.mem_of_getElem? (i := 1) rfl) rfl rfl
theorem kX5_knows_21 : zL wsX5_knows RX5 21 5 1 (.object "StillRoom$Mind") true := zL5 iX5_knows_5 (by decide) (List.mem_of_getElem? (i := 2) rfl) rfl rfl
theorem kX5_knows_91 : zL wsX5_knows RX5 91 1 0 (.array .int) true := zL1 iX5_knows_1 (by decide) (List.mem_of_getElem? (i := 3) rfl) rfl rfl
set_option maxHeartbeats 4000000 in
set_option maxRecDepth 100000 in
theorem xX5_knows_0 {C : zC} {D : va_G} {cyI cyB : ClassId} {aS : Nat → Nat} {aT : Nat → Nat} {aH : Nat → Nat} {aM : Nat → Nat} {kp : Value} (x1 : Int32) (x2 : Int32) (sI : Nat → Int32) (sR : Nat → Nat → Int32) (tI : Nat → Int32) (tR : Nat → Nat → Int32) (hI : Nat → Int32) (hR : Nat → Nat → Int32) (mI : Nat → Int32) (mR : Nat → Nat → Int32) (F : zF C D { frames := 3, cells := 0, slots := 0, locals := 65 } cX5_knows 3 wsX5_knows RX5 (some .int) cyI cyB) {post : Int32 → (Nat → Int32) → (Nat → Nat → Int32) → (Nat → Int32) → (Nat → Nat → Int32) → Prop} (hRt : zRi C D cX5_knows 3 (S := ((Nat → Int32) × (Nat → Nat → Int32) × (Nat → Int32) × (Nat → Nat → Int32))) (fun u => (wSt aH aM aT aS kp cyI u.1 u.2.1 ++ wTe aT cyB tI tR ++ wHo aH cyI hI hR ++ wMi aH aM cyI u.2.2.1 u.2.2.2)) (fun r u => post r u.1 u.2.1 u.2.2.1 u.2.2.2)) (hw : pX5_knows x1 x2 sI sR tI tR hI hR mI mR post) : zX C D 3 0 0 (wSt aH aM aT aS kp cyI sI sR ++ wTe aT cyB tI tR ++ wHo aH cyI hI hR ++ wMi aH aM cyI mI mR) 0 [(0, .ref (aS 0)), (1, .int x1), (2, .int x2)] [] := by
  refine z_aload_n F dX5_knows_0 1 rfl 0 rfl ?_
  refine z_get F dX5_knows_1 4 rfl kX5_knows_12 0 rfl rfl ?_
  refine z_iload_n F dX5_knows_4 5 rfl 1 rfl ?_
  refine z_segVi (As := [.int x1]) (st := []) F dX5_knows_5 8 rfl (mX1_isHand C.1.2.1 D cyI cyB aH x1 hI hR hw) y_X1_isHand rfl gX5_knows_X1_isHand rfl (ci := 1) (rq := 0) rfl rfl ⟨Nat.le_of_ble_eq_true rfl, Nat.le_of_ble_eq_true rfl⟩ ⟨Nat.zero_le _, Nat.zero_le _⟩ (Nat.le_of_ble_eq_true rfl) (wSt aH aM aT aS kp cyI sI sR ++ wTe aT cyB tI tR) (wMi aH aM cyI mI mR) (by simp only [List.append_assoc, List.nil_append, List.append_nil]) (fun _ => rfl) (fun u => (wSt aH aM aT aS kp cyI sI sR ++ wTe aT cyB tI tR ++ wHo aH cyI hI hR ++ wMi aH aM cyI mI mR)) (fun u => (by simp only [List.append_assoc, List.nil_append, List.append_nil])) (fun r0 u hp => ?_)
  obtain ⟨b1, rfl, hw⟩ := hp
  obtain ⟨hwt, hwf⟩ := hw
  refine z_ifneB F dX5_knows_8 17 rfl 11 rfl (fun c1 => ?_) (fun c1 => ?_)
  · have hw := hwt c1; clear hwt hwf
    refine z_iload_n F dX5_knows_17 18 rfl 2 rfl ?_
    obtain ⟨hwt, hwf⟩ := hw
    refine z_iflt F dX5_knows_18 26 rfl 21 rfl (fun c2 => ?_) (fun c2 => ?_)
    · have hw := hwt c2; clear hwt hwf
      refine z_aload_n F dX5_knows_26 27 rfl 0 rfl ?_
      refine z_bipush F dX5_knows_27 29 rfl zkb_m2 ?_
      refine z_segVi (As := [.int (-2)]) (st := []) F dX5_knows_29 32 rfl (mX5_refuse C.1.2.1 D cyI cyB aS aH aM aT kp (-2) sI sR hw) y_X5_refuse rfl gX5_knows_X5_refuse rfl (ci := 5) (rq := 0) rfl rfl ⟨Nat.le_of_ble_eq_true rfl, Nat.le_of_ble_eq_true rfl⟩ ⟨Nat.zero_le _, Nat.zero_le _⟩ (Nat.le_of_ble_eq_true rfl) [] (wTe aT cyB tI tR ++ wHo aH cyI hI hR ++ wMi aH aM cyI mI mR) (by simp only [List.append_assoc, List.nil_append, List.append_nil]) (fun _ => rfl) (fun u => (wSt aH aM aT aS kp cyI u.1 u.2 ++ wTe aT cyB tI tR ++ wHo aH cyI hI hR ++ wMi aH aM cyI mI mR)) (fun u => (by simp only [List.append_assoc, List.nil_append, List.append_nil])) (fun r1 u hp => ?_)
      obtain ⟨sI_1, sR_1⟩ := u
      replace hw := hp
      clear hp
      exact hRt 32 _ r1 (sI_1, sR_1, mI, mR) dX5_knows_32 hw
    · have hw := hwf c2; clear hwt hwf
      refine z_iload_n F dX5_knows_21 22 rfl 2 rfl ?_
      refine z_iconst F dX5_knows_22 23 rfl zki_3 ?_
      obtain ⟨hwt, hwf⟩ := hw
      refine z_icmple F dX5_knows_23 33 rfl 26 rfl (fun c3 => ?_) (fun c3 => ?_)
      · have hw := hwt c3; clear hwt hwf
        refine z_aload_n F dX5_knows_33 34 rfl 0 rfl ?_
        refine z_get F dX5_knows_34 37 rfl kX5_knows_21 0 rfl rfl ?_
        refine z_segVv (As := []) (st := []) F dX5_knows_37 40 rfl (mX2_begin C.1.2.1 D cyI cyB aH aM hI hR mI mR hw) y_X2_begin rfl gX5_knows_X2_begin rfl (ci := 2) (rq := 12) rfl rfl ⟨Nat.le_of_ble_eq_true rfl, Nat.le_of_ble_eq_true rfl⟩ ⟨Nat.zero_le _, Nat.zero_le _⟩ (Nat.le_of_ble_eq_true rfl) (wSt aH aM aT aS kp cyI sI sR ++ wTe aT cyB tI tR) [] (by simp only [List.append_assoc, List.nil_append, List.append_nil]) (fun _ => rfl) (fun u => (wSt aH aM aT aS kp cyI sI sR ++ wTe aT cyB tI tR ++ wHo aH cyI hI hR ++ wMi aH aM cyI u.1 u.2)) (fun u => (by simp only [List.append_assoc, List.nil_append, List.append_nil])) (fun u hp => ?_)
        obtain ⟨mI_1, mR_1⟩ := u
        replace hw := hp
        clear hp
        refine z_iload_n F dX5_knows_40 41 rfl 2 rfl ?_
        obtain ⟨hs0, hs1, hs2, hwd⟩ := hw
        by_cases cs0 : x2 = 0
        · have hw := hs0 cs0; clear hs0 hs1 hs2 hwd
          refine z_tab (off := 27) F dX5_knows_41 68 (by rw [cs0]; decide +kernel) (by rw [cs0]; decide +kernel) (by rw [cs0]; decide +kernel) rfl ?_
          refine z_aload_n F dX5_knows_68 69 rfl 0 rfl ?_
          refine z_get F dX5_knows_69 72 rfl kX5_knows_12 0 rfl rfl ?_
          refine z_get F dX5_knows_72 75 rfl kX5_knows_91 6 rfl rfl ?_
          refine z_iload_n F dX5_knows_75 76 rfl 1 rfl ?_
          obtain ⟨j1, ej1, hj1, hw⟩ := hw
          refine z_iald F dX5_knows_76 77 rfl 7 rfl (by decide) j1 ej1 hj1 ?_
          exact hRt 77 _ ((hR 0) j1) (sI, sR, mI_1, mR_1) dX5_knows_77 hw
        by_cases cs1 : x2 = 1
        · have hw := hs1 cs1; clear hs0 hs1 hs2 hwd
          refine z_tab (off := 37) F dX5_knows_41 78 (by rw [cs1]; decide +kernel) (by rw [cs1]; decide +kernel) (by rw [cs1]; decide +kernel) rfl ?_
          refine z_aload_n F dX5_knows_78 79 rfl 0 rfl ?_
          refine z_get F dX5_knows_79 82 rfl kX5_knows_21 0 rfl rfl ?_
          refine z_iload_n F dX5_knows_82 83 rfl 1 rfl ?_
          refine z_segVi (As := [.int x1]) (st := []) F dX5_knows_83 86 rfl (mX2_seenBy C.1.2.1 D cyI cyB aH aM x1 hI hR mI_1 mR_1 hw) y_X2_seenBy rfl gX5_knows_X2_seenBy rfl (ci := 2) (rq := 12) rfl rfl ⟨Nat.le_of_ble_eq_true rfl, Nat.le_of_ble_eq_true rfl⟩ ⟨Nat.zero_le _, Nat.zero_le _⟩ (Nat.le_of_ble_eq_true rfl) (wSt aH aM aT aS kp cyI sI sR ++ wTe aT cyB tI tR) [] (by simp only [List.append_assoc, List.nil_append, List.append_nil]) (fun _ => rfl) (fun u => (wSt aH aM aT aS kp cyI sI sR ++ wTe aT cyB tI tR ++ wHo aH cyI hI hR ++ wMi aH aM cyI mI_1 mR_1)) (fun u => (by simp only [List.append_assoc, List.nil_append, List.append_nil])) (fun r2 u hp => ?_)
          replace hw := hp
          clear hp
          exact hRt 86 _ r2 (sI, sR, mI_1, mR_1) dX5_knows_86 hw
        by_cases cs2 : x2 = 2
        · have hw := hs2 cs2; clear hs0 hs1 hs2 hwd
          refine z_tab (off := 46) F dX5_knows_41 87 (by rw [cs2]; decide +kernel) (by rw [cs2]; decide +kernel) (by rw [cs2]; decide +kernel) rfl ?_
          refine z_aload_n F dX5_knows_87 88 rfl 0 rfl ?_
          refine z_get F dX5_knows_88 91 rfl kX5_knows_21 0 rfl rfl ?_
          refine z_iconst F dX5_knows_91 92 rfl zki_1 ?_
          refine z_iload_n F dX5_knows_92 93 rfl 1 rfl ?_
          refine z_ishl F dX5_knows_93 94 rfl ?_
          refine z_segVi (As := [.int (1 <<< (x1 &&& 31))]) (st := []) F dX5_knows_94 97 rfl (mX2_knownTo C.1.2.1 D cyI cyB aH aM (1 <<< (x1 &&& 31)) hI hR mI_1 mR_1 hw) y_X2_knownTo rfl gX5_knows_X2_knownTo rfl (ci := 2) (rq := 12) rfl rfl ⟨Nat.le_of_ble_eq_true rfl, Nat.le_of_ble_eq_true rfl⟩ ⟨Nat.zero_le _, Nat.zero_le _⟩ (Nat.le_of_ble_eq_true rfl) (wSt aH aM aT aS kp cyI sI sR ++ wTe aT cyB tI tR) [] (by simp only [List.append_assoc, List.nil_append, List.append_nil]) (fun _ => rfl) (fun u => (wSt aH aM aT aS kp cyI sI sR ++ wTe aT cyB tI tR ++ wHo aH cyI hI hR ++ wMi aH aM cyI mI_1 mR_1)) (fun u => (by simp only [List.append_assoc, List.nil_append, List.append_nil])) (fun r3 u hp => ?_)
          replace hw := hp
          clear hp
          exact hRt 97 _ r3 (sI, sR, mI_1, mR_1) dX5_knows_97 hw
        have hw := hwd cs0 cs1 cs2; clear hs0 hs1 hs2 hwd
        refine z_tabD F dX5_knows_41 98 (z_out3 cs0 cs1 cs2) rfl ?_
        refine z_aload_n F dX5_knows_98 99 rfl 0 rfl ?_
        refine z_get F dX5_knows_99 102 rfl kX5_knows_21 0 rfl rfl ?_
        refine z_aload_n F dX5_knows_102 103 rfl 0 rfl ?_
        refine z_get F dX5_knows_103 106 rfl kX5_knows_21 0 rfl rfl ?_
        refine z_iconst F dX5_knows_106 107 rfl zki_1 ?_
        refine z_iload_n F dX5_knows_107 108 rfl 1 rfl ?_
        refine z_ishl F dX5_knows_108 109 rfl ?_
        refine z_segVi (As := [.int (1 <<< (x1 &&& 31))]) (st := [.ref (aM 0)]) F dX5_knows_109 112 rfl (mX2_knownTo C.1.2.1 D cyI cyB aH aM (1 <<< (x1 &&& 31)) hI hR mI_1 mR_1 hw) y_X2_knownTo rfl gX5_knows_X2_knownTo rfl (ci := 2) (rq := 12) rfl rfl ⟨Nat.le_of_ble_eq_true rfl, Nat.le_of_ble_eq_true rfl⟩ ⟨Nat.zero_le _, Nat.zero_le _⟩ (Nat.le_of_ble_eq_true rfl) (wSt aH aM aT aS kp cyI sI sR ++ wTe aT cyB tI tR) [] (by simp only [List.append_assoc, List.nil_append, List.append_nil]) (fun _ => rfl) (fun u => (wSt aH aM aT aS kp cyI sI sR ++ wTe aT cyB tI tR ++ wHo aH cyI hI hR ++ wMi aH aM cyI mI_1 mR_1)) (fun u => (by simp only [List.append_assoc, List.nil_append, List.append_nil])) (fun r4 u hp => ?_)
        replace hw := hp
        clear hp
        refine z_segVi (As := [.int r4]) (st := []) F dX5_knows_112 115 rfl (mX2_guessedFrom C.1.2.1 D cyI cyB aH aM r4 hI hR mI_1 mR_1 hw) y_X2_guessedFrom rfl gX5_knows_X2_guessedFrom rfl (ci := 2) (rq := 12) rfl rfl ⟨Nat.le_of_ble_eq_true rfl, Nat.le_of_ble_eq_true rfl⟩ ⟨Nat.zero_le _, Nat.zero_le _⟩ (Nat.le_of_ble_eq_true rfl) (wSt aH aM aT aS kp cyI sI sR ++ wTe aT cyB tI tR) [] (by simp only [List.append_assoc, List.nil_append, List.append_nil]) (fun _ => rfl) (fun u => (wSt aH aM aT aS kp cyI sI sR ++ wTe aT cyB tI tR ++ wHo aH cyI hI hR ++ wMi aH aM cyI mI_1 mR_1)) (fun u => (by simp only [List.append_assoc, List.nil_append, List.append_nil])) (fun r5 u hp => ?_)
        replace hw := hp
        clear hp
        exact hRt 115 _ r5 (sI, sR, mI_1, mR_1) dX5_knows_115 hw
      · have hw := hwf c3; clear hwt hwf
        refine z_aload_n F dX5_knows_26 27 rfl 0 rfl ?_
        refine z_bipush F dX5_knows_27 29 rfl zkb_m2 ?_
        refine z_segVi (As := [.int (-2)]) (st := []) F dX5_knows_29 32 rfl (mX5_refuse C.1.2.1 D cyI cyB aS aH aM aT kp (-2) sI sR hw) y_X5_refuse rfl gX5_knows_X5_refuse rfl (ci := 5) (rq := 0) rfl rfl ⟨Nat.le_of_ble_eq_true rfl, Nat.le_of_ble_eq_true rfl⟩ ⟨Nat.zero_le _, Nat.zero_le _⟩ (Nat.le_of_ble_eq_true rfl) [] (wTe aT cyB tI tR ++ wHo aH cyI hI hR ++ wMi aH aM cyI mI mR) (by simp only [List.append_assoc, List.nil_append, List.append_nil]) (fun _ => rfl) (fun u => (wSt aH aM aT aS kp cyI u.1 u.2 ++ wTe aT cyB tI tR ++ wHo aH cyI hI hR ++ wMi aH aM cyI mI mR)) (fun u => (by simp only [List.append_assoc, List.nil_append, List.append_nil])) (fun r6 u hp => ?_)
        obtain ⟨sI_2, sR_2⟩ := u
        replace hw := hp
        clear hp
        exact hRt 32 _ r6 (sI_2, sR_2, mI, mR) dX5_knows_32 hw
  · have hw := hwf c1; clear hwt hwf
    refine z_aload_n F dX5_knows_11 12 rfl 0 rfl ?_
    refine z_iconst F dX5_knows_12 13 rfl zki_m1 ?_
    refine z_segVi (As := [.int (-1)]) (st := []) F dX5_knows_13 16 rfl (mX5_refuse C.1.2.1 D cyI cyB aS aH aM aT kp (-1) sI sR hw) y_X5_refuse rfl gX5_knows_X5_refuse rfl (ci := 5) (rq := 0) rfl rfl ⟨Nat.le_of_ble_eq_true rfl, Nat.le_of_ble_eq_true rfl⟩ ⟨Nat.zero_le _, Nat.zero_le _⟩ (Nat.le_of_ble_eq_true rfl) [] (wTe aT cyB tI tR ++ wHo aH cyI hI hR ++ wMi aH aM cyI mI mR) (by simp only [List.append_assoc, List.nil_append, List.append_nil]) (fun _ => rfl) (fun u => (wSt aH aM aT aS kp cyI u.1 u.2 ++ wTe aT cyB tI tR ++ wHo aH cyI hI hR ++ wMi aH aM cyI mI mR)) (fun u => (by simp only [List.append_assoc, List.nil_append, List.append_nil])) (fun r7 u hp => ?_)
    obtain ⟨sI_3, sR_3⟩ := u
    replace hw := hp
    clear hp
    exact hRt 16 _ r7 (sI_3, sR_3, mI, mR) dX5_knows_16 hw
set_option maxHeartbeats 4000000 in
set_option maxRecDepth 100000 in
theorem mX5_knows (l : Launch) (D : va_G) (cyI cyB : ClassId) (aS : Nat → Nat) (aT : Nat → Nat) (aH : Nat → Nat) (aM : Nat → Nat) (kp : Value) (x1 : Int32) (x2 : Int32) (sI : Nat → Int32) (sR : Nat → Nat → Int32) (tI : Nat → Int32) (tR : Nat → Nat → Int32) (hI : Nat → Int32) (hR : Nat → Nat → Int32) (mI : Nat → Int32) (mR : Nat → Nat → Int32) {post : Int32 → (Nat → Int32) → (Nat → Nat → Int32) → (Nat → Int32) → (Nat → Nat → Int32) → Prop} (hw : pX5_knows x1 x2 sI sR tI tR hI hR mI mR post) : zMi l yX5_knows wsX5_knows 3 65 D cyI cyB [.ref (aS 0), .int x1, .int x2] (wSt aH aM aT aS kp cyI sI sR ++ wTe aT cyB tI tR ++ wHo aH cyI hI hR ++ wMi aH aM cyI mI mR) (S := ((Nat → Int32) × (Nat → Nat → Int32) × (Nat → Int32) × (Nat → Nat → Int32))) (fun u => (wSt aH aM aT aS kp cyI u.1 u.2.1 ++ wTe aT cyB tI tR ++ wHo aH cyI hI hR ++ wMi aH aM cyI u.2.2.1 u.2.2.2)) (fun r u => post r u.1 u.2.1 u.2.2.1 u.2.2.2) :=
  z_meti (cc := cX5_knows) (nL := 3) (by decide +kernel) rfl (Nat.le_of_ble_eq_true rfl) (fun C hl F hRt => xX5_knows_0 x1 x2 sI sR tI tR hI hR mI mR F hRt hw)
theorem y_X5_knows : zY yX5_knows wsX5_knows cX5_knows 3 (some .int) 2 := ⟨⟨_, rfl⟩, by decide +kernel⟩
theorem iX5_known_1 : ∀ w ∈ wsX10, w ∈ wsX5_known := fun w h => List.mem_cons_of_mem _ (List.mem_append_left _ (List.mem_append_left _ (List.mem_append_right _ h)))
theorem iX5_known_5 : ∀ w ∈ wsX50, w ∈ wsX5_known := fun w h => List.mem_cons_of_mem _ (List.mem_append_left _ (List.mem_append_left _ (List.mem_append_left _ (List.mem_append_right _ h))))
theorem kX5_known_12 : zL wsX5_known RX5 12 5 0 (.object "StillRoom$House") true := zL5 iX5_known_5 (by decide) (List.mem_of_getElem? (i := 1) rfl) rfl rfl
theorem kX5_known_21 : zL wsX5_known RX5 21 5 1 (.object "StillRoom$Mind") true := zL5 iX5_known_5 (by decide) (List.mem_of_getElem? (i := 2) rfl) rfl rfl
theorem kX5_known_137 : zL wsX5_known RX5 137 1 8 .int false := zL1 iX5_known_1 (by decide) (List.mem_of_getElem? (i := 3) rfl) rfl rfl
set_option maxHeartbeats 4000000 in
set_option maxRecDepth 100000 in
theorem xX5_known_0 {C : zC} {D : va_G} {cyI cyB : ClassId} {aS : Nat → Nat} {aT : Nat → Nat} {aH : Nat → Nat} {aM : Nat → Nat} {kp : Value} (x1 : Int32) (z2 : Bool) (sI : Nat → Int32) (sR : Nat → Nat → Int32) (tI : Nat → Int32) (tR : Nat → Nat → Int32) (hI : Nat → Int32) (hR : Nat → Nat → Int32) (mI : Nat → Int32) (mR : Nat → Nat → Int32) (F : zF C D { frames := 3, cells := 0, slots := 0, locals := 65 } cX5_known 3 wsX5_known RX5 (some .int) cyI cyB) {post : Int32 → (Nat → Int32) → (Nat → Nat → Int32) → (Nat → Int32) → (Nat → Nat → Int32) → Prop} (hRt : zRi C D cX5_known 3 (S := ((Nat → Int32) × (Nat → Nat → Int32) × (Nat → Int32) × (Nat → Nat → Int32))) (fun u => (wSt aH aM aT aS kp cyI u.1 u.2.1 ++ wTe aT cyB tI tR ++ wHo aH cyI hI hR ++ wMi aH aM cyI u.2.2.1 u.2.2.2)) (fun r u => post r u.1 u.2.1 u.2.2.1 u.2.2.2)) (hw : pX5_known x1 z2 sI sR tI tR hI hR mI mR post) : zX C D 3 0 0 (wSt aH aM aT aS kp cyI sI sR ++ wTe aT cyB tI tR ++ wHo aH cyI hI hR ++ wMi aH aM cyI mI mR) 0 [(0, .ref (aS 0)), (1, .int x1), (2, .int (zb z2))] [] := by
  refine z_aload_n F dX5_known_0 1 rfl 0 rfl ?_
  refine z_get F dX5_known_1 4 rfl kX5_known_12 0 rfl rfl ?_
  refine z_iload_n F dX5_known_4 5 rfl 1 rfl ?_
  refine z_segVi (As := [.int x1]) (st := []) F dX5_known_5 8 rfl (mX1_isHandSet C.1.2.1 D cyI cyB aH x1 hI hR hw) y_X1_isHandSet rfl gX5_known_X1_isHandSet rfl (ci := 1) (rq := 0) rfl rfl ⟨Nat.le_of_ble_eq_true rfl, Nat.le_of_ble_eq_true rfl⟩ ⟨Nat.zero_le _, Nat.zero_le _⟩ (Nat.le_of_ble_eq_true rfl) (wSt aH aM aT aS kp cyI sI sR ++ wTe aT cyB tI tR) (wMi aH aM cyI mI mR) (by simp only [List.append_assoc, List.nil_append, List.append_nil]) (fun _ => rfl) (fun u => (wSt aH aM aT aS kp cyI sI sR ++ wTe aT cyB tI tR ++ wHo aH cyI hI hR ++ wMi aH aM cyI mI mR)) (fun u => (by simp only [List.append_assoc, List.nil_append, List.append_nil])) (fun r0 u hp => ?_)
  obtain ⟨b1, rfl, hw⟩ := hp
  obtain ⟨hwt, hwf⟩ := hw
  refine z_ifneB F dX5_known_8 17 rfl 11 rfl (fun c1 => ?_) (fun c1 => ?_)
  · have hw := hwt c1; clear hwt hwf
    refine z_aload_n F dX5_known_17 18 rfl 0 rfl ?_
    refine z_get F dX5_known_18 21 rfl kX5_known_21 0 rfl rfl ?_
    refine z_segVv (As := []) (st := []) F dX5_known_21 24 rfl (mX2_begin C.1.2.1 D cyI cyB aH aM hI hR mI mR hw) y_X2_begin rfl gX5_known_X2_begin rfl (ci := 2) (rq := 12) rfl rfl ⟨Nat.le_of_ble_eq_true rfl, Nat.le_of_ble_eq_true rfl⟩ ⟨Nat.zero_le _, Nat.zero_le _⟩ (Nat.le_of_ble_eq_true rfl) (wSt aH aM aT aS kp cyI sI sR ++ wTe aT cyB tI tR) [] (by simp only [List.append_assoc, List.nil_append, List.append_nil]) (fun _ => rfl) (fun u => (wSt aH aM aT aS kp cyI sI sR ++ wTe aT cyB tI tR ++ wHo aH cyI hI hR ++ wMi aH aM cyI u.1 u.2)) (fun u => (by simp only [List.append_assoc, List.nil_append, List.append_nil])) (fun u hp => ?_)
    obtain ⟨mI_1, mR_1⟩ := u
    replace hw := hp
    clear hp
    refine z_aload_n F dX5_known_24 25 rfl 0 rfl ?_
    refine z_get F dX5_known_25 28 rfl kX5_known_21 0 rfl rfl ?_
    refine z_aload_n F dX5_known_28 29 rfl 0 rfl ?_
    refine z_get F dX5_known_29 32 rfl kX5_known_21 0 rfl rfl ?_
    refine z_iload_n F dX5_known_32 33 rfl 1 rfl ?_
    refine z_segVi (As := [.int x1]) (st := [.ref (aM 0)]) F dX5_known_33 36 rfl (mX2_knownTo C.1.2.1 D cyI cyB aH aM x1 hI hR mI_1 mR_1 hw) y_X2_knownTo rfl gX5_known_X2_knownTo rfl (ci := 2) (rq := 12) rfl rfl ⟨Nat.le_of_ble_eq_true rfl, Nat.le_of_ble_eq_true rfl⟩ ⟨Nat.zero_le _, Nat.zero_le _⟩ (Nat.le_of_ble_eq_true rfl) (wSt aH aM aT aS kp cyI sI sR ++ wTe aT cyB tI tR) [] (by simp only [List.append_assoc, List.nil_append, List.append_nil]) (fun _ => rfl) (fun u => (wSt aH aM aT aS kp cyI sI sR ++ wTe aT cyB tI tR ++ wHo aH cyI hI hR ++ wMi aH aM cyI mI_1 mR_1)) (fun u => (by simp only [List.append_assoc, List.nil_append, List.append_nil])) (fun r1 u hp => ?_)
    replace hw := hp
    clear hp
    refine z_iload_n F dX5_known_36 37 rfl 2 rfl ?_
    obtain ⟨hwt, hwf⟩ := hw
    refine z_ifeqB F dX5_known_37 50 rfl 40 rfl (fun c2 => ?_) (fun c2 => ?_)
    · have hw := hwt c2; clear hwt hwf
      refine z_iconst F dX5_known_50 51 rfl zki_0 ?_
      refine z_ior F dX5_known_51 52 rfl ?_
      refine z_segVi (As := [.int (r1 ||| 0)]) (st := []) F dX5_known_52 55 rfl (mX2_guessedFrom C.1.2.1 D cyI cyB aH aM (r1 ||| 0) hI hR mI_1 mR_1 hw) y_X2_guessedFrom rfl gX5_known_X2_guessedFrom rfl (ci := 2) (rq := 12) rfl rfl ⟨Nat.le_of_ble_eq_true rfl, Nat.le_of_ble_eq_true rfl⟩ ⟨Nat.zero_le _, Nat.zero_le _⟩ (Nat.le_of_ble_eq_true rfl) (wSt aH aM aT aS kp cyI sI sR ++ wTe aT cyB tI tR) [] (by simp only [List.append_assoc, List.nil_append, List.append_nil]) (fun _ => rfl) (fun u => (wSt aH aM aT aS kp cyI sI sR ++ wTe aT cyB tI tR ++ wHo aH cyI hI hR ++ wMi aH aM cyI mI_1 mR_1)) (fun u => (by simp only [List.append_assoc, List.nil_append, List.append_nil])) (fun r2 u hp => ?_)
      replace hw := hp
      clear hp
      exact hRt 55 _ r2 (sI, sR, mI_1, mR_1) dX5_known_55 hw
    · have hw := hwf c2; clear hwt hwf
      refine z_aload_n F dX5_known_40 41 rfl 0 rfl ?_
      refine z_get F dX5_known_41 44 rfl kX5_known_12 0 rfl rfl ?_
      refine z_get F dX5_known_44 47 rfl kX5_known_137 6 rfl rfl ?_
      refine z_goto F dX5_known_47 51 rfl ?_
      refine z_ior F dX5_known_51 52 rfl ?_
      refine z_segVi (As := [.int (r1 ||| (hI 3))]) (st := []) F dX5_known_52 55 rfl (mX2_guessedFrom C.1.2.1 D cyI cyB aH aM (r1 ||| (hI 3)) hI hR mI_1 mR_1 hw) y_X2_guessedFrom rfl gX5_known_X2_guessedFrom rfl (ci := 2) (rq := 12) rfl rfl ⟨Nat.le_of_ble_eq_true rfl, Nat.le_of_ble_eq_true rfl⟩ ⟨Nat.zero_le _, Nat.zero_le _⟩ (Nat.le_of_ble_eq_true rfl) (wSt aH aM aT aS kp cyI sI sR ++ wTe aT cyB tI tR) [] (by simp only [List.append_assoc, List.nil_append, List.append_nil]) (fun _ => rfl) (fun u => (wSt aH aM aT aS kp cyI sI sR ++ wTe aT cyB tI tR ++ wHo aH cyI hI hR ++ wMi aH aM cyI mI_1 mR_1)) (fun u => (by simp only [List.append_assoc, List.nil_append, List.append_nil])) (fun r3 u hp => ?_)
      replace hw := hp
      clear hp
      exact hRt 55 _ r3 (sI, sR, mI_1, mR_1) dX5_known_55 hw
  · have hw := hwf c1; clear hwt hwf
    refine z_aload_n F dX5_known_11 12 rfl 0 rfl ?_
    refine z_iconst F dX5_known_12 13 rfl zki_m1 ?_
    refine z_segVi (As := [.int (-1)]) (st := []) F dX5_known_13 16 rfl (mX5_refuse C.1.2.1 D cyI cyB aS aH aM aT kp (-1) sI sR hw) y_X5_refuse rfl gX5_known_X5_refuse rfl (ci := 5) (rq := 0) rfl rfl ⟨Nat.le_of_ble_eq_true rfl, Nat.le_of_ble_eq_true rfl⟩ ⟨Nat.zero_le _, Nat.zero_le _⟩ (Nat.le_of_ble_eq_true rfl) [] (wTe aT cyB tI tR ++ wHo aH cyI hI hR ++ wMi aH aM cyI mI mR) (by simp only [List.append_assoc, List.nil_append, List.append_nil]) (fun _ => rfl) (fun u => (wSt aH aM aT aS kp cyI u.1 u.2 ++ wTe aT cyB tI tR ++ wHo aH cyI hI hR ++ wMi aH aM cyI mI mR)) (fun u => (by simp only [List.append_assoc, List.nil_append, List.append_nil])) (fun r4 u hp => ?_)
    obtain ⟨sI_1, sR_1⟩ := u
    replace hw := hp
    clear hp
    exact hRt 16 _ r4 (sI_1, sR_1, mI, mR) dX5_known_16 hw
set_option maxHeartbeats 4000000 in
set_option maxRecDepth 100000 in
theorem mX5_known (l : Launch) (D : va_G) (cyI cyB : ClassId) (aS : Nat → Nat) (aT : Nat → Nat) (aH : Nat → Nat) (aM : Nat → Nat) (kp : Value) (x1 : Int32) (z2 : Bool) (sI : Nat → Int32) (sR : Nat → Nat → Int32) (tI : Nat → Int32) (tR : Nat → Nat → Int32) (hI : Nat → Int32) (hR : Nat → Nat → Int32) (mI : Nat → Int32) (mR : Nat → Nat → Int32) {post : Int32 → (Nat → Int32) → (Nat → Nat → Int32) → (Nat → Int32) → (Nat → Nat → Int32) → Prop} (hw : pX5_known x1 z2 sI sR tI tR hI hR mI mR post) : zMi l yX5_known wsX5_known 3 65 D cyI cyB [.ref (aS 0), .int x1, .int (zb z2)] (wSt aH aM aT aS kp cyI sI sR ++ wTe aT cyB tI tR ++ wHo aH cyI hI hR ++ wMi aH aM cyI mI mR) (S := ((Nat → Int32) × (Nat → Nat → Int32) × (Nat → Int32) × (Nat → Nat → Int32))) (fun u => (wSt aH aM aT aS kp cyI u.1 u.2.1 ++ wTe aT cyB tI tR ++ wHo aH cyI hI hR ++ wMi aH aM cyI u.2.2.1 u.2.2.2)) (fun r u => post r u.1 u.2.1 u.2.2.1 u.2.2.2) :=
  z_meti (cc := cX5_known) (nL := 3) (by decide +kernel) rfl (Nat.le_of_ble_eq_true rfl) (fun C hl F hRt => xX5_known_0 x1 z2 sI sR tI tR hI hR mI mR F hRt hw)
theorem y_X5_known : zY yX5_known wsX5_known cX5_known 3 (some .int) 2 := ⟨⟨_, rfl⟩, by decide +kernel⟩
theorem iX5_stays_5 : ∀ w ∈ wsX50, w ∈ wsX5_stays := fun w h => List.mem_cons_of_mem _ (List.mem_append_left _ (List.mem_append_left _ (List.mem_append_left _ (List.mem_append_left _ (List.mem_append_right _ h)))))
theorem kX5_stays_21 : zL wsX5_stays RX5 21 5 1 (.object "StillRoom$Mind") true := zL5 iX5_stays_5 (by decide) (List.mem_of_getElem? (i := 1) rfl) rfl rfl
set_option maxHeartbeats 4000000 in
set_option maxRecDepth 100000 in
theorem xX5_stays_0 {C : zC} {D : va_G} {cyI cyB : ClassId} {aS : Nat → Nat} {aT : Nat → Nat} {aH : Nat → Nat} {aM : Nat → Nat} {kp : Value} (x1 : Int32) (sI : Nat → Int32) (sR : Nat → Nat → Int32) (tI : Nat → Int32) (tR : Nat → Nat → Int32) (hI : Nat → Int32) (hR : Nat → Nat → Int32) (mI : Nat → Int32) (mR : Nat → Nat → Int32) (F : zF C D { frames := 4, cells := 0, slots := 0, locals := 94 } cX5_stays 3 wsX5_stays RX5 (some .int) cyI cyB) {post : Int32 → (Nat → Int32) → (Nat → Nat → Int32) → (Nat → Int32) → (Nat → Nat → Int32) → Prop} (hRt : zRi C D cX5_stays 3 (S := ((Nat → Int32) × (Nat → Nat → Int32) × (Nat → Int32) × (Nat → Nat → Int32))) (fun u => (wSt aH aM aT aS kp cyI u.1 u.2.1 ++ wTe aT cyB tI tR ++ wHo aH cyI hI hR ++ wMi aH aM cyI u.2.2.1 u.2.2.2)) (fun r u => post r u.1 u.2.1 u.2.2.1 u.2.2.2)) (hw : pX5_stays x1 sI sR tI tR hI hR mI mR post) : zX C D 3 0 0 (wSt aH aM aT aS kp cyI sI sR ++ wTe aT cyB tI tR ++ wHo aH cyI hI hR ++ wMi aH aM cyI mI mR) 0 [(0, .ref (aS 0)), (1, .int x1)] [] := by
  refine z_iload_n F dX5_stays_0 1 rfl 1 rfl ?_
  refine z_iconst F dX5_stays_1 2 rfl zki_0 ?_
  refine z_bipush F dX5_stays_2 4 rfl zkb_8 ?_
  refine z_callSi (As := [.int x1, .int 0, .int 8]) (st := []) F dX5_stays_4 7 rfl (mX5_outside C.1.2.1 D cyI cyB x1 0 8 hw) y_X5_outside rfl gX5_stays_X5_outside ⟨Nat.le_of_ble_eq_true rfl, Nat.le_of_ble_eq_true rfl⟩ ⟨Nat.zero_le _, Nat.zero_le _⟩ (Nat.le_of_ble_eq_true rfl) [] (by decide) rfl (fun _ => rfl) (fun u => (wSt aH aM aT aS kp cyI sI sR ++ wTe aT cyB tI tR ++ wHo aH cyI hI hR ++ wMi aH aM cyI mI mR)) (fun _ => rfl) (fun r1 u hp => ?_)
  replace hw := hp
  clear hp
  refine z_istore_n (lv' := [(2, .int r1), (0, .ref (aS 0)), (1, .int x1)]) F dX5_stays_7 8 rfl (by decide) rfl ?_
  refine z_iload_n F dX5_stays_8 9 rfl 0 rfl ?_
  obtain ⟨hwt, hwf⟩ := hw
  refine z_ifeq F dX5_stays_9 18 rfl 12 rfl (fun c1 => ?_) (fun c1 => ?_)
  · have hw := hwt c1; clear hwt hwf
    refine z_aload_n F dX5_stays_18 19 rfl 1 rfl ?_
    refine z_get F dX5_stays_19 22 rfl kX5_stays_21 0 rfl rfl ?_
    refine z_segVv (As := []) (st := []) F dX5_stays_22 25 rfl (mX2_begin C.1.2.1 D cyI cyB aH aM hI hR mI mR hw) y_X2_begin rfl gX5_stays_X2_begin rfl (ci := 2) (rq := 12) rfl rfl ⟨Nat.le_of_ble_eq_true rfl, Nat.le_of_ble_eq_true rfl⟩ ⟨Nat.zero_le _, Nat.zero_le _⟩ (Nat.le_of_ble_eq_true rfl) (wSt aH aM aT aS kp cyI sI sR ++ wTe aT cyB tI tR) [] (by simp only [List.append_assoc, List.nil_append, List.append_nil]) (fun _ => rfl) (fun u => (wSt aH aM aT aS kp cyI sI sR ++ wTe aT cyB tI tR ++ wHo aH cyI hI hR ++ wMi aH aM cyI u.1 u.2)) (fun u => (by simp only [List.append_assoc, List.nil_append, List.append_nil])) (fun u hp => ?_)
    obtain ⟨mI_1, mR_1⟩ := u
    replace hw := hp
    clear hp
    refine z_aload_n F dX5_stays_25 26 rfl 1 rfl ?_
    refine z_get F dX5_stays_26 29 rfl kX5_stays_21 0 rfl rfl ?_
    refine z_iload_n F dX5_stays_29 30 rfl 2 rfl ?_
    refine z_segVv (As := [.int x1]) (st := []) F dX5_stays_30 33 rfl (mX2_chooseLeavers C.1.2.1 D cyI cyB aH aM x1 hI hR mI_1 mR_1 hw) y_X2_chooseLeavers rfl gX5_stays_X2_chooseLeavers rfl (ci := 2) (rq := 12) rfl rfl ⟨Nat.le_of_ble_eq_true rfl, Nat.le_of_ble_eq_true rfl⟩ ⟨Nat.zero_le _, Nat.zero_le _⟩ (Nat.le_of_ble_eq_true rfl) (wSt aH aM aT aS kp cyI sI sR ++ wTe aT cyB tI tR) [] (by simp only [List.append_assoc, List.nil_append, List.append_nil]) (fun _ => rfl) (fun u => (wSt aH aM aT aS kp cyI sI sR ++ wTe aT cyB tI tR ++ wHo aH cyI hI hR ++ wMi aH aM cyI u.1 u.2)) (fun u => (by simp only [List.append_assoc, List.nil_append, List.append_nil])) (fun u hp => ?_)
    obtain ⟨mI_2, mR_2⟩ := u
    replace hw := hp
    clear hp
    refine z_aload_n F dX5_stays_33 34 rfl 1 rfl ?_
    refine z_get F dX5_stays_34 37 rfl kX5_stays_21 0 rfl rfl ?_
    refine z_segVi (As := []) (st := []) F dX5_stays_37 40 rfl (mX2_isKept C.1.2.1 D cyI cyB aH aM hI hR mI_2 mR_2 hw) y_X2_isKept rfl gX5_stays_X2_isKept rfl (ci := 2) (rq := 12) rfl rfl ⟨Nat.le_of_ble_eq_true rfl, Nat.le_of_ble_eq_true rfl⟩ ⟨Nat.zero_le _, Nat.zero_le _⟩ (Nat.le_of_ble_eq_true rfl) (wSt aH aM aT aS kp cyI sI sR ++ wTe aT cyB tI tR) [] (by simp only [List.append_assoc, List.nil_append, List.append_nil]) (fun _ => rfl) (fun u => (wSt aH aM aT aS kp cyI sI sR ++ wTe aT cyB tI tR ++ wHo aH cyI hI hR ++ wMi aH aM cyI u.1 u.2)) (fun u => (by simp only [List.append_assoc, List.nil_append, List.append_nil])) (fun r0 u hp => ?_)
    obtain ⟨mI_3, mR_3⟩ := u
    obtain ⟨b1, rfl, hw⟩ := hp
    obtain ⟨hwt, hwf⟩ := hw
    refine z_ifeqB F dX5_stays_40 47 rfl 43 rfl (fun c2 => ?_) (fun c2 => ?_)
    · have hw := hwt c2; clear hwt hwf
      refine z_iconst F dX5_stays_47 48 rfl zki_0 ?_
      exact hRt 48 _ 0 (sI, sR, mI_3, mR_3) dX5_stays_48 hw
    · have hw := hwf c2; clear hwt hwf
      refine z_iconst F dX5_stays_43 44 rfl zki_1 ?_
      refine z_goto F dX5_stays_44 48 rfl ?_
      exact hRt 48 _ 1 (sI, sR, mI_3, mR_3) dX5_stays_48 hw
  · have hw := hwf c1; clear hwt hwf
    refine z_aload_n F dX5_stays_12 13 rfl 1 rfl ?_
    refine z_iload_n F dX5_stays_13 14 rfl 0 rfl ?_
    refine z_segVi (As := [.int r1]) (st := []) F dX5_stays_14 17 rfl (mX5_refuse C.1.2.1 D cyI cyB aS aH aM aT kp r1 sI sR hw) y_X5_refuse rfl gX5_stays_X5_refuse rfl (ci := 5) (rq := 0) rfl rfl ⟨Nat.le_of_ble_eq_true rfl, Nat.le_of_ble_eq_true rfl⟩ ⟨Nat.zero_le _, Nat.zero_le _⟩ (Nat.le_of_ble_eq_true rfl) [] (wTe aT cyB tI tR ++ wHo aH cyI hI hR ++ wMi aH aM cyI mI mR) (by simp only [List.append_assoc, List.nil_append, List.append_nil]) (fun _ => rfl) (fun u => (wSt aH aM aT aS kp cyI u.1 u.2 ++ wTe aT cyB tI tR ++ wHo aH cyI hI hR ++ wMi aH aM cyI mI mR)) (fun u => (by simp only [List.append_assoc, List.nil_append, List.append_nil])) (fun r2 u hp => ?_)
    obtain ⟨sI_1, sR_1⟩ := u
    replace hw := hp
    clear hp
    exact hRt 17 _ r2 (sI_1, sR_1, mI, mR) dX5_stays_17 hw
set_option maxHeartbeats 4000000 in
set_option maxRecDepth 100000 in
theorem mX5_stays (l : Launch) (D : va_G) (cyI cyB : ClassId) (aS : Nat → Nat) (aT : Nat → Nat) (aH : Nat → Nat) (aM : Nat → Nat) (kp : Value) (x1 : Int32) (sI : Nat → Int32) (sR : Nat → Nat → Int32) (tI : Nat → Int32) (tR : Nat → Nat → Int32) (hI : Nat → Int32) (hR : Nat → Nat → Int32) (mI : Nat → Int32) (mR : Nat → Nat → Int32) {post : Int32 → (Nat → Int32) → (Nat → Nat → Int32) → (Nat → Int32) → (Nat → Nat → Int32) → Prop} (hw : pX5_stays x1 sI sR tI tR hI hR mI mR post) : zMi l yX5_stays wsX5_stays 4 94 D cyI cyB [.ref (aS 0), .int x1] (wSt aH aM aT aS kp cyI sI sR ++ wTe aT cyB tI tR ++ wHo aH cyI hI hR ++ wMi aH aM cyI mI mR) (S := ((Nat → Int32) × (Nat → Nat → Int32) × (Nat → Int32) × (Nat → Nat → Int32))) (fun u => (wSt aH aM aT aS kp cyI u.1 u.2.1 ++ wTe aT cyB tI tR ++ wHo aH cyI hI hR ++ wMi aH aM cyI u.2.2.1 u.2.2.2)) (fun r u => post r u.1 u.2.1 u.2.2.1 u.2.2.2) :=
  z_meti (cc := cX5_stays) (nL := 3) (by decide +kernel) rfl (Nat.le_of_ble_eq_true rfl) (fun C hl F hRt => xX5_stays_0 x1 sI sR tI tR hI hR mI mR F hRt hw)
theorem y_X5_stays : zY yX5_stays wsX5_stays cX5_stays 3 (some .int) 1 := ⟨⟨_, rfl⟩, by decide +kernel⟩
theorem iX5_safe_5 : ∀ w ∈ wsX50, w ∈ wsX5_safe := fun w h => List.mem_cons_of_mem _ (List.mem_append_left _ (List.mem_append_left _ (List.mem_append_left _ (List.mem_append_left _ (List.mem_append_right _ h)))))
theorem kX5_safe_21 : zL wsX5_safe RX5 21 5 1 (.object "StillRoom$Mind") true := zL5 iX5_safe_5 (by decide) (List.mem_of_getElem? (i := 1) rfl) rfl rfl
set_option maxHeartbeats 4000000 in
set_option maxRecDepth 100000 in
theorem xX5_safe_0 {C : zC} {D : va_G} {cyI cyB : ClassId} {aS : Nat → Nat} {aT : Nat → Nat} {aH : Nat → Nat} {aM : Nat → Nat} {kp : Value} (x1 : Int32) (sI : Nat → Int32) (sR : Nat → Nat → Int32) (tI : Nat → Int32) (tR : Nat → Nat → Int32) (hI : Nat → Int32) (hR : Nat → Nat → Int32) (mI : Nat → Int32) (mR : Nat → Nat → Int32) (F : zF C D { frames := 4, cells := 0, slots := 0, locals := 94 } cX5_safe 3 wsX5_safe RX5 (some .int) cyI cyB) {post : Int32 → (Nat → Int32) → (Nat → Nat → Int32) → (Nat → Int32) → (Nat → Nat → Int32) → Prop} (hRt : zRi C D cX5_safe 3 (S := ((Nat → Int32) × (Nat → Nat → Int32) × (Nat → Int32) × (Nat → Nat → Int32))) (fun u => (wSt aH aM aT aS kp cyI u.1 u.2.1 ++ wTe aT cyB tI tR ++ wHo aH cyI hI hR ++ wMi aH aM cyI u.2.2.1 u.2.2.2)) (fun r u => post r u.1 u.2.1 u.2.2.1 u.2.2.2)) (hw : pX5_safe x1 sI sR tI tR hI hR mI mR post) : zX C D 3 0 0 (wSt aH aM aT aS kp cyI sI sR ++ wTe aT cyB tI tR ++ wHo aH cyI hI hR ++ wMi aH aM cyI mI mR) 0 [(0, .ref (aS 0)), (1, .int x1)] [] := by
  refine z_iload_n F dX5_safe_0 1 rfl 1 rfl ?_
  refine z_iconst F dX5_safe_1 2 rfl zki_0 ?_
  refine z_bipush F dX5_safe_2 4 rfl zkb_8 ?_
  refine z_callSi (As := [.int x1, .int 0, .int 8]) (st := []) F dX5_safe_4 7 rfl (mX5_outside C.1.2.1 D cyI cyB x1 0 8 hw) y_X5_outside rfl gX5_safe_X5_outside ⟨Nat.le_of_ble_eq_true rfl, Nat.le_of_ble_eq_true rfl⟩ ⟨Nat.zero_le _, Nat.zero_le _⟩ (Nat.le_of_ble_eq_true rfl) [] (by decide) rfl (fun _ => rfl) (fun u => (wSt aH aM aT aS kp cyI sI sR ++ wTe aT cyB tI tR ++ wHo aH cyI hI hR ++ wMi aH aM cyI mI mR)) (fun _ => rfl) (fun r1 u hp => ?_)
  replace hw := hp
  clear hp
  refine z_istore_n (lv' := [(2, .int r1), (0, .ref (aS 0)), (1, .int x1)]) F dX5_safe_7 8 rfl (by decide) rfl ?_
  refine z_iload_n F dX5_safe_8 9 rfl 0 rfl ?_
  obtain ⟨hwt, hwf⟩ := hw
  refine z_ifeq F dX5_safe_9 18 rfl 12 rfl (fun c1 => ?_) (fun c1 => ?_)
  · have hw := hwt c1; clear hwt hwf
    refine z_aload_n F dX5_safe_18 19 rfl 1 rfl ?_
    refine z_get F dX5_safe_19 22 rfl kX5_safe_21 0 rfl rfl ?_
    refine z_segVv (As := []) (st := []) F dX5_safe_22 25 rfl (mX2_begin C.1.2.1 D cyI cyB aH aM hI hR mI mR hw) y_X2_begin rfl gX5_safe_X2_begin rfl (ci := 2) (rq := 12) rfl rfl ⟨Nat.le_of_ble_eq_true rfl, Nat.le_of_ble_eq_true rfl⟩ ⟨Nat.zero_le _, Nat.zero_le _⟩ (Nat.le_of_ble_eq_true rfl) (wSt aH aM aT aS kp cyI sI sR ++ wTe aT cyB tI tR) [] (by simp only [List.append_assoc, List.nil_append, List.append_nil]) (fun _ => rfl) (fun u => (wSt aH aM aT aS kp cyI sI sR ++ wTe aT cyB tI tR ++ wHo aH cyI hI hR ++ wMi aH aM cyI u.1 u.2)) (fun u => (by simp only [List.append_assoc, List.nil_append, List.append_nil])) (fun u hp => ?_)
    obtain ⟨mI_1, mR_1⟩ := u
    replace hw := hp
    clear hp
    refine z_aload_n F dX5_safe_25 26 rfl 1 rfl ?_
    refine z_get F dX5_safe_26 29 rfl kX5_safe_21 0 rfl rfl ?_
    refine z_iload_n F dX5_safe_29 30 rfl 2 rfl ?_
    refine z_segVv (As := [.int x1]) (st := []) F dX5_safe_30 33 rfl (mX2_chooseTakers C.1.2.1 D cyI cyB aH aM x1 hI hR mI_1 mR_1 hw) y_X2_chooseTakers rfl gX5_safe_X2_chooseTakers rfl (ci := 2) (rq := 12) rfl rfl ⟨Nat.le_of_ble_eq_true rfl, Nat.le_of_ble_eq_true rfl⟩ ⟨Nat.zero_le _, Nat.zero_le _⟩ (Nat.le_of_ble_eq_true rfl) (wSt aH aM aT aS kp cyI sI sR ++ wTe aT cyB tI tR) [] (by simp only [List.append_assoc, List.nil_append, List.append_nil]) (fun _ => rfl) (fun u => (wSt aH aM aT aS kp cyI sI sR ++ wTe aT cyB tI tR ++ wHo aH cyI hI hR ++ wMi aH aM cyI u.1 u.2)) (fun u => (by simp only [List.append_assoc, List.nil_append, List.append_nil])) (fun u hp => ?_)
    obtain ⟨mI_2, mR_2⟩ := u
    replace hw := hp
    clear hp
    refine z_aload_n F dX5_safe_33 34 rfl 1 rfl ?_
    refine z_get F dX5_safe_34 37 rfl kX5_safe_21 0 rfl rfl ?_
    refine z_segVi (As := []) (st := []) F dX5_safe_37 40 rfl (mX2_isSafe C.1.2.1 D cyI cyB aH aM hI hR mI_2 mR_2 hw) y_X2_isSafe rfl gX5_safe_X2_isSafe rfl (ci := 2) (rq := 12) rfl rfl ⟨Nat.le_of_ble_eq_true rfl, Nat.le_of_ble_eq_true rfl⟩ ⟨Nat.zero_le _, Nat.zero_le _⟩ (Nat.le_of_ble_eq_true rfl) (wSt aH aM aT aS kp cyI sI sR ++ wTe aT cyB tI tR) [] (by simp only [List.append_assoc, List.nil_append, List.append_nil]) (fun _ => rfl) (fun u => (wSt aH aM aT aS kp cyI sI sR ++ wTe aT cyB tI tR ++ wHo aH cyI hI hR ++ wMi aH aM cyI u.1 u.2)) (fun u => (by simp only [List.append_assoc, List.nil_append, List.append_nil])) (fun r0 u hp => ?_)
    obtain ⟨mI_3, mR_3⟩ := u
    obtain ⟨b1, rfl, hw⟩ := hp
    obtain ⟨hwt, hwf⟩ := hw
    refine z_ifeqB F dX5_safe_40 47 rfl 43 rfl (fun c2 => ?_) (fun c2 => ?_)
    · have hw := hwt c2; clear hwt hwf
      refine z_iconst F dX5_safe_47 48 rfl zki_0 ?_
      exact hRt 48 _ 0 (sI, sR, mI_3, mR_3) dX5_safe_48 hw
    · have hw := hwf c2; clear hwt hwf
      refine z_iconst F dX5_safe_43 44 rfl zki_1 ?_
      refine z_goto F dX5_safe_44 48 rfl ?_
      exact hRt 48 _ 1 (sI, sR, mI_3, mR_3) dX5_safe_48 hw
  · have hw := hwf c1; clear hwt hwf
    refine z_aload_n F dX5_safe_12 13 rfl 1 rfl ?_
    refine z_iload_n F dX5_safe_13 14 rfl 0 rfl ?_
    refine z_segVi (As := [.int r1]) (st := []) F dX5_safe_14 17 rfl (mX5_refuse C.1.2.1 D cyI cyB aS aH aM aT kp r1 sI sR hw) y_X5_refuse rfl gX5_safe_X5_refuse rfl (ci := 5) (rq := 0) rfl rfl ⟨Nat.le_of_ble_eq_true rfl, Nat.le_of_ble_eq_true rfl⟩ ⟨Nat.zero_le _, Nat.zero_le _⟩ (Nat.le_of_ble_eq_true rfl) [] (wTe aT cyB tI tR ++ wHo aH cyI hI hR ++ wMi aH aM cyI mI mR) (by simp only [List.append_assoc, List.nil_append, List.append_nil]) (fun _ => rfl) (fun u => (wSt aH aM aT aS kp cyI u.1 u.2 ++ wTe aT cyB tI tR ++ wHo aH cyI hI hR ++ wMi aH aM cyI mI mR)) (fun u => (by simp only [List.append_assoc, List.nil_append, List.append_nil])) (fun r2 u hp => ?_)
    obtain ⟨sI_1, sR_1⟩ := u
    replace hw := hp
    clear hp
    exact hRt 17 _ r2 (sI_1, sR_1, mI, mR) dX5_safe_17 hw
set_option maxHeartbeats 4000000 in
set_option maxRecDepth 100000 in
theorem mX5_safe (l : Launch) (D : va_G) (cyI cyB : ClassId) (aS : Nat → Nat) (aT : Nat → Nat) (aH : Nat → Nat) (aM : Nat → Nat) (kp : Value) (x1 : Int32) (sI : Nat → Int32) (sR : Nat → Nat → Int32) (tI : Nat → Int32) (tR : Nat → Nat → Int32) (hI : Nat → Int32) (hR : Nat → Nat → Int32) (mI : Nat → Int32) (mR : Nat → Nat → Int32) {post : Int32 → (Nat → Int32) → (Nat → Nat → Int32) → (Nat → Int32) → (Nat → Nat → Int32) → Prop} (hw : pX5_safe x1 sI sR tI tR hI hR mI mR post) : zMi l yX5_safe wsX5_safe 4 94 D cyI cyB [.ref (aS 0), .int x1] (wSt aH aM aT aS kp cyI sI sR ++ wTe aT cyB tI tR ++ wHo aH cyI hI hR ++ wMi aH aM cyI mI mR) (S := ((Nat → Int32) × (Nat → Nat → Int32) × (Nat → Int32) × (Nat → Nat → Int32))) (fun u => (wSt aH aM aT aS kp cyI u.1 u.2.1 ++ wTe aT cyB tI tR ++ wHo aH cyI hI hR ++ wMi aH aM cyI u.2.2.1 u.2.2.2)) (fun r u => post r u.1 u.2.1 u.2.2.1 u.2.2.2) :=
  z_meti (cc := cX5_safe) (nL := 3) (by decide +kernel) rfl (Nat.le_of_ble_eq_true rfl) (fun C hl F hRt => xX5_safe_0 x1 sI sR tI tR hI hR mI mR F hRt hw)
theorem y_X5_safe : zY yX5_safe wsX5_safe cX5_safe 3 (some .int) 1 := ⟨⟨_, rfl⟩, by decide +kernel⟩
