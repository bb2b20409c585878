theorem iX6_house_6 : ∀ w ∈ wsX60, w ∈ wsX6_house := fun w h => List.mem_cons_of_mem _ (List.mem_append_right _ h)
theorem kX6_house_125 : zL wsX6_house RX6 125 6 17 .int false := zL6 iX6_house_6 (by decide) (List.mem_of_getElem? (i := 2) rfl) rfl rfl
theorem kX6_house_130 : zL wsX6_house RX6 130 6 18 .int false := zL6 iX6_house_6 (by decide) (List.mem_of_getElem? (i := 1) rfl) rfl rfl
set_option maxHeartbeats 4000000 in
set_option maxRecDepth 100000 in
theorem xX6_house_9 {C : zC} {D : va_G} {cyI cyB : ClassId} {aO : Nat → Nat} (F : zF C D { frames := 4, cells := 0, slots := 0, locals := 88 } cX6_house 3 wsX6_house RX6 (some .int) cyI cyB) {post : Int32 → (Nat → Int32) → (Nat → Nat → Int32) → Prop} (hRt : zRi C D cX6_house 3 (S := ((Nat → Int32) × (Nat → Nat → Int32))) (fun u => (wMo aO cyI u.1 u.2)) (fun r u => post r u.1 u.2)) {k44 : Int32 → Int32 → (Nat → Int32) → (Nat → Nat → Int32) → Prop} (hk44 : ∀ (x1 : Int32) (x2 : Int32) (oI : Nat → Int32) (oR : Nat → Nat → Int32), k44 x1 x2 oI oR → zX C D 3 0 0 (wMo aO cyI oI oR) 44 [(0, .ref (aO 0)), (1, .int x1), (2, .int x2)] []) : ∀ (n : Nat) (x1 : Int32) (x2 : Int32) (oI : Nat → Int32) (oR : Nat → Nat → Int32), bX6_house_9 post k44  n x1 x2 oI oR → zX C D 3 0 0 (wMo aO cyI oI oR) 9 [(0, .ref (aO 0)), (1, .int x1), (2, .int x2)] [] := by
  intro n
  induction n with
  | zero => intro _ _ _ _ hw; exact hw.elim
  | succ n ih =>
    intro x1 x2 oI oR hw
    refine z_iload_n F dX6_house_9 10 rfl 2 rfl ?_
    obtain ⟨hwt, hwf⟩ := hw
    refine z_ifeq F dX6_house_10 44 rfl 13 rfl (fun c1 => ?_) (fun c1 => ?_)
    · have hw := hwt c1; clear hwt hwf
      exact hk44 x1 x2 oI oR hw
    · have hw := hwf c1; clear hwt hwf
      refine z_aload_n F dX6_house_13 14 rfl 0 rfl ?_
      refine z_get F dX6_house_14 17 rfl kX6_house_130 0 rfl rfl ?_
      refine z_aload_n F dX6_house_17 18 rfl 0 rfl ?_
      refine z_get F dX6_house_18 21 rfl kX6_house_125 0 rfl rfl ?_
      obtain ⟨hwt, hwf⟩ := hw
      refine z_icmpge F dX6_house_21 44 rfl 24 rfl (fun c2 => ?_) (fun c2 => ?_)
      · have hw := hwt c2; clear hwt hwf
        exact hk44 x1 x2 oI oR hw
      · have hw := hwf c2; clear hwt hwf
        refine z_aload_n F dX6_house_24 25 rfl 0 rfl ?_
        refine z_segVi (As := []) (st := []) F dX6_house_25 28 rfl (mX6_statement C.1.2.1 D cyI cyB aO oI oR hw) y_X6_statement rfl gX6_house_X6_statement rfl (ci := 6) (rq := 0) rfl rfl ⟨Nat.le_of_ble_eq_true rfl, Nat.le_of_ble_eq_true rfl⟩ ⟨Nat.zero_le _, Nat.zero_le _⟩ (Nat.le_of_ble_eq_true rfl) [] [] (by simp only [List.append_assoc, List.nil_append, List.append_nil]) (fun _ => rfl) (fun u => (wMo aO cyI u.1 u.2)) (fun u => (by simp only [List.append_assoc, List.nil_append, List.append_nil])) (fun r0 u hp => ?_)
        obtain ⟨oI_1, oR_1⟩ := u
        obtain ⟨b1, rfl, hw⟩ := hp
        refine z_istore_n (lv' := [(2, .int (zb b1)), (0, .ref (aO 0)), (1, .int x1)]) F dX6_house_28 29 rfl (by decide) rfl ?_
        refine z_iload_n F dX6_house_29 30 rfl 2 rfl ?_
        refine z_iload_n F dX6_house_30 31 rfl 0 rfl ?_
        obtain ⟨hwt, hwf⟩ := hw
        refine z_ifeqB F dX6_house_31 38 rfl 34 rfl (fun c3 => ?_) (fun c3 => ?_)
        · have hw := hwt c3; clear hwt hwf
          refine z_iconst F dX6_house_38 39 rfl zki_0 ?_
          refine z_iadd F dX6_house_39 40 rfl ?_
          refine z_topi (fun v1 ev1 => ?_)
          replace hw := hw v1 ev1
          refine z_istore_n (lv' := [(1, .int v1), (2, .int (zb b1)), (0, .ref (aO 0))]) F dX6_house_40 41 rfl (by decide) rfl ?_
          refine z_goto F dX6_house_41 9 rfl ?_
          refine z_lv (lv' := [(0, .ref (aO 0)), (1, .int v1), (2, .int (zb b1))]) [2, 0, 1] rfl ?_
          exact ih v1 (zb b1) oI_1 oR_1 hw
        · have hw := hwf c3; clear hwt hwf
          refine z_iconst F dX6_house_34 35 rfl zki_1 ?_
          refine z_goto F dX6_house_35 39 rfl ?_
          refine z_iadd F dX6_house_39 40 rfl ?_
          refine z_topi (fun v2 ev2 => ?_)
          replace hw := hw v2 ev2
          refine z_istore_n (lv' := [(1, .int v2), (2, .int (zb b1)), (0, .ref (aO 0))]) F dX6_house_40 41 rfl (by decide) rfl ?_
          refine z_goto F dX6_house_41 9 rfl ?_
          refine z_lv (lv' := [(0, .ref (aO 0)), (1, .int v2), (2, .int (zb b1))]) [2, 0, 1] rfl ?_
          exact ih v2 (zb b1) oI_1 oR_1 hw
set_option maxHeartbeats 4000000 in
set_option maxRecDepth 100000 in
theorem xX6_house_44 {C : zC} {D : va_G} {cyI cyB : ClassId} {aO : Nat → Nat} (x1 : Int32) (x2 : Int32) (oI : Nat → Int32) (oR : Nat → Nat → Int32) (F : zF C D { frames := 4, cells := 0, slots := 0, locals := 88 } cX6_house 3 wsX6_house RX6 (some .int) cyI cyB) {post : Int32 → (Nat → Int32) → (Nat → Nat → Int32) → Prop} (hRt : zRi C D cX6_house 3 (S := ((Nat → Int32) × (Nat → Nat → Int32))) (fun u => (wMo aO cyI u.1 u.2)) (fun r u => post r u.1 u.2)) (hw : bX6_house_44 x1 x2 oI oR post ) : zX C D 3 0 0 (wMo aO cyI oI oR) 44 [(0, .ref (aO 0)), (1, .int x1), (2, .int x2)] [] := by
  refine z_aload_n F dX6_house_44 45 rfl 0 rfl ?_
  refine z_iconst F dX6_house_45 46 rfl zki_0 ?_
  refine z_put F dX6_house_46 49 rfl kX6_house_125 0 rfl rfl rfl (Nat.le_of_ble_eq_true rfl) (wMo aO cyI (va_up oI 17 0) oR) rfl ?_
  refine z_iload_n F dX6_house_49 50 rfl 2 rfl ?_
  obtain ⟨hwt, hwf⟩ := hw
  refine z_ifeq F dX6_house_50 57 rfl 53 rfl (fun c1 => ?_) (fun c1 => ?_)
  · have hw := hwt c1; clear hwt hwf
    refine z_bipush F dX6_house_57 59 rfl zkb_m20 ?_
    refine z_aload_n F dX6_house_59 60 rfl 0 rfl ?_
    refine z_get F dX6_house_60 63 rfl kX6_house_130 0 rfl rfl ?_
    refine z_isub F dX6_house_63 64 rfl ?_
    exact hRt 64 _ ((-20) - (oI 18)) ((va_up oI 17 0), oR) dX6_house_64 hw
  · have hw := hwf c1; clear hwt hwf
    refine z_iload_n F dX6_house_53 54 rfl 1 rfl ?_
    refine z_goto F dX6_house_54 64 rfl ?_
    exact hRt 64 _ x1 ((va_up oI 17 0), oR) dX6_house_64 hw
set_option maxHeartbeats 4000000 in
set_option maxRecDepth 100000 in
theorem xX6_house_0 {C : zC} {D : va_G} {cyI cyB : ClassId} {aO : Nat → Nat} (oI : Nat → Int32) (oR : Nat → Nat → Int32) (F : zF C D { frames := 4, cells := 0, slots := 0, locals := 88 } cX6_house 3 wsX6_house RX6 (some .int) cyI cyB) {post : Int32 → (Nat → Int32) → (Nat → Nat → Int32) → Prop} (hRt : zRi C D cX6_house 3 (S := ((Nat → Int32) × (Nat → Nat → Int32))) (fun u => (wMo aO cyI u.1 u.2)) (fun r u => post r u.1 u.2)) (hw : pX6_house oI oR post) : zX C D 3 0 0 (wMo aO cyI oI oR) 0 [(0, .ref (aO 0))] [] := by
  refine z_aload_n F dX6_house_0 1 rfl 0 rfl ?_
  refine z_iconst F dX6_house_1 2 rfl zki_0 ?_
  refine z_put F dX6_house_2 5 rfl kX6_house_130 0 rfl rfl rfl (Nat.le_of_ble_eq_true rfl) (wMo aO cyI (va_up oI 18 0) oR) rfl ?_
  refine z_iconst F dX6_house_5 6 rfl zki_0 ?_
  refine z_istore_n (lv' := [(1, .int 0), (0, .ref (aO 0))]) F dX6_house_6 7 rfl (by decide) rfl ?_
  refine z_iconst F dX6_house_7 8 rfl zki_1 ?_
  refine z_istore_n (lv' := [(2, .int 1), (1, .int 0), (0, .ref (aO 0))]) F dX6_house_8 9 rfl (by decide) rfl ?_
  obtain ⟨n1, hw⟩ := hw
  refine z_lv (lv' := [(0, .ref (aO 0)), (1, .int 0), (2, .int 1)]) [2, 1, 0] rfl ?_
  refine xX6_house_9 F hRt (fun w1 w2 oI_1 oR_1 hw => ?_) n1 0 1 (va_up oI 18 0) oR hw
  exact xX6_house_44 w1 w2 oI_1 oR_1 F hRt hw
set_option maxHeartbeats 4000000 in
set_option maxRecDepth 100000 in
theorem mX6_house (l : Launch) (D : va_G) (cyI cyB : ClassId) (aO : Nat → Nat) (oI : Nat → Int32) (oR : Nat → Nat → Int32) {post : Int32 → (Nat → Int32) → (Nat → Nat → Int32) → Prop} (hw : pX6_house oI oR post) : zMi l yX6_house wsX6_house 4 88 D cyI cyB [.ref (aO 0)] (wMo aO cyI oI oR) (S := ((Nat → Int32) × (Nat → Nat → Int32))) (fun u => (wMo aO cyI u.1 u.2)) (fun r u => post r u.1 u.2) :=
  z_meti (cc := cX6_house) (nL := 3) (by decide +kernel) rfl (Nat.le_of_ble_eq_true rfl) (fun C hl F hRt => xX6_house_0 oI oR F hRt hw)
theorem y_X6_house : zY yX6_house wsX6_house cX6_house 3 (some .int) 0 := ⟨⟨_, rfl⟩, by decide +kernel⟩
theorem iX6_findKnown_6 : ∀ w ∈ wsX60, w ∈ wsX6_findKnown := fun w h => List.mem_cons_of_mem _ (List.mem_append_right _ h)
theorem kX6_findKnown_13 : zL wsX6_findKnown RX6 13 6 1 (.array .int) true := zL6 iX6_findKnown_6 (by decide) (List.mem_of_getElem? (i := 3) rfl) rfl rfl
theorem kX6_findKnown_22 : zL wsX6_findKnown RX6 22 6 4 (.array .int) true := zL6 iX6_findKnown_6 (by decide) (List.mem_of_getElem? (i := 6) rfl) rfl rfl
theorem kX6_findKnown_25 : zL wsX6_findKnown RX6 25 6 5 (.array .int) true := zL6 iX6_findKnown_6 (by decide) (List.mem_of_getElem? (i := 8) rfl) rfl rfl
theorem kX6_findKnown_28 : zL wsX6_findKnown RX6 28 6 6 (.array .int) true := zL6 iX6_findKnown_6 (by decide) (List.mem_of_getElem? (i := 10) rfl) rfl rfl
theorem kX6_findKnown_31 : zL wsX6_findKnown RX6 31 6 7 (.array .int) true := zL6 iX6_findKnown_6 (by decide) (List.mem_of_getElem? (i := 11) rfl) rfl rfl
theorem kX6_findKnown_47 : zL wsX6_findKnown RX6 47 6 19 (.array .int) true := zL6 iX6_findKnown_6 (by decide) (List.mem_of_getElem? (i := 2) rfl) rfl rfl
theorem kX6_findKnown_50 : zL wsX6_findKnown RX6 50 6 20 (.array .int) true := zL6 iX6_findKnown_6 (by decide) (List.mem_of_getElem? (i := 12) rfl) rfl rfl
theorem kX6_findKnown_53 : zL wsX6_findKnown RX6 53 6 21 (.array .int) true := zL6 iX6_findKnown_6 (by decide) (List.mem_of_getElem? (i := 4) rfl) rfl rfl
theorem kX6_findKnown_72 : zL wsX6_findKnown RX6 72 6 11 .int false := zL6 iX6_findKnown_6 (by decide) (List.mem_of_getElem? (i := 1) rfl) rfl rfl
theorem kX6_findKnown_102 : zL wsX6_findKnown RX6 102 6 12 .int false := zL6 iX6_findKnown_6 (by decide) (List.mem_of_getElem? (i := 5) rfl) rfl rfl
theorem kX6_findKnown_116 : zL wsX6_findKnown RX6 116 6 13 .int false := zL6 iX6_findKnown_6 (by decide) (List.mem_of_getElem? (i := 9) rfl) rfl rfl
theorem kX6_findKnown_153 : zL wsX6_findKnown RX6 153 6 22 .int false := zL6 iX6_findKnown_6 (by decide) (List.mem_of_getElem? (i := 7) rfl) rfl rfl
set_option maxHeartbeats 4000000 in
set_option maxRecDepth 100000 in
theorem xX6_findKnown_2 {C : zC} {D : va_G} {cyI cyB : ClassId} {aO : Nat → Nat} (F : zF C D { frames := 0, cells := 0, slots := 0, locals := 0 } cX6_findKnown 5 wsX6_findKnown RX6 none cyI cyB) {post : (Nat → Int32) → (Nat → Nat → Int32) → Prop} (hRt : zRv C D cX6_findKnown 5 (S := ((Nat → Int32) × (Nat → Nat → Int32))) (fun u => (wMo aO cyI u.1 u.2)) (fun u => post u.1 u.2)) {k35 : (Nat → Int32) → (Nat → Nat → Int32) → Prop} (hk35 : ∀ (oI : Nat → Int32) (oR : Nat → Nat → Int32), k35 oI oR → zX C D 5 0 0 (wMo aO cyI oI oR) 35 [(0, .ref (aO 0))] []) : ∀ (n : Nat) (x1 : Int32) (oI : Nat → Int32) (oR : Nat → Nat → Int32), bX6_findKnown_2 post k35  n x1 oI oR → zX C D 5 0 0 (wMo aO cyI oI oR) 2 [(0, .ref (aO 0)), (1, .int x1)] [] := by
  intro n
  induction n with
  | zero => intro _ _ _ hw; exact hw.elim
  | succ n ih =>
    intro x1 oI oR hw
    refine z_iload_n F dX6_findKnown_2 3 rfl 1 rfl ?_
    refine z_aload_n F dX6_findKnown_3 4 rfl 0 rfl ?_
    refine z_get F dX6_findKnown_4 7 rfl kX6_findKnown_72 0 rfl rfl ?_
    obtain ⟨hwt, hwf⟩ := hw
    refine z_icmpge F dX6_findKnown_7 35 rfl 10 rfl (fun c1 => ?_) (fun c1 => ?_)
    · have hw := hwt c1; clear hwt hwf
      refine z_lv (lv' := [(0, .ref (aO 0))]) [0] rfl ?_
      exact hk35 oI oR hw
    · have hw := hwf c1; clear hwt hwf
      refine z_aload_n F dX6_findKnown_10 11 rfl 0 rfl ?_
      refine z_get F dX6_findKnown_11 14 rfl kX6_findKnown_47 0 rfl rfl ?_
      refine z_iload_n F dX6_findKnown_14 15 rfl 1 rfl ?_
      refine z_aload_n F dX6_findKnown_15 16 rfl 0 rfl ?_
      refine z_get F dX6_findKnown_16 19 rfl kX6_findKnown_13 0 rfl rfl ?_
      refine z_iload_n F dX6_findKnown_19 20 rfl 1 rfl ?_
      obtain ⟨j1, ej1, hj1, hw⟩ := hw
      refine z_iald F dX6_findKnown_20 21 rfl 2 rfl (by decide) j1 ej1 hj1 ?_
      refine z_topi (fun v1 ev1 => ?_)
      replace hw := hw v1 ev1
      refine z_iast F dX6_findKnown_21 22 rfl 12 rfl (by decide) j1 ej1 hj1 (wMo aO cyI oI (va_up oR 19 (upd (oR 19) j1 v1))) rfl ?_
      refine z_aload_n F dX6_findKnown_22 23 rfl 0 rfl ?_
      refine z_get F dX6_findKnown_23 26 rfl kX6_findKnown_53 0 rfl rfl ?_
      refine z_iload_n F dX6_findKnown_26 27 rfl 1 rfl ?_
      refine z_iload_n F dX6_findKnown_27 28 rfl 1 rfl ?_
      refine z_iast F dX6_findKnown_28 29 rfl 14 rfl (by decide) j1 ej1 hj1 (wMo aO cyI oI (va_up (va_up oR 19 (upd (oR 19) j1 v1)) 21 (upd (oR 21) j1 x1))) rfl ?_
      refine z_iinc F dX6_findKnown_29 32 rfl 1 rfl (by decide) zki_1 (fun v2 => [(1, .int v2), (0, .ref (aO 0))]) (fun _ => rfl) (fun v2 ev2 => ?_)
      replace hw := hw v2 ev2
      refine z_goto F dX6_findKnown_32 2 rfl ?_
      refine z_lv (lv' := [(0, .ref (aO 0)), (1, .int v2)]) [1, 0] rfl ?_
      exact ih v2 oI (va_up (va_up oR 19 (upd (oR 19) j1 v1)) 21 (upd (oR 21) j1 x1)) hw
set_option maxHeartbeats 4000000 in
set_option maxRecDepth 100000 in
theorem xX6_findKnown_37 {C : zC} {D : va_G} {cyI cyB : ClassId} {aO : Nat → Nat} (F : zF C D { frames := 0, cells := 0, slots := 0, locals := 0 } cX6_findKnown 5 wsX6_findKnown RX6 none cyI cyB) {post : (Nat → Int32) → (Nat → Nat → Int32) → Prop} (hRt : zRv C D cX6_findKnown 5 (S := ((Nat → Int32) × (Nat → Nat → Int32))) (fun u => (wMo aO cyI u.1 u.2)) (fun u => post u.1 u.2)) {k92 : (Nat → Int32) → (Nat → Nat → Int32) → Prop} (hk92 : ∀ (oI : Nat → Int32) (oR : Nat → Nat → Int32), k92 oI oR → zX C D 5 0 0 (wMo aO cyI oI oR) 92 [(0, .ref (aO 0))] []) : ∀ (n : Nat) (x1 : Int32) (oI : Nat → Int32) (oR : Nat → Nat → Int32), bX6_findKnown_37 post k92  n x1 oI oR → zX C D 5 0 0 (wMo aO cyI oI oR) 37 [(0, .ref (aO 0)), (1, .int x1)] [] := by
  intro n
  induction n with
  | zero => intro _ _ _ hw; exact hw.elim
  | succ n ih =>
    intro x1 oI oR hw
    refine z_iload_n F dX6_findKnown_37 38 rfl 1 rfl ?_
    refine z_aload_n F dX6_findKnown_38 39 rfl 0 rfl ?_
    refine z_get F dX6_findKnown_39 42 rfl kX6_findKnown_102 0 rfl rfl ?_
    obtain ⟨hwt, hwf⟩ := hw
    refine z_icmpge F dX6_findKnown_42 92 rfl 45 rfl (fun c1 => ?_) (fun c1 => ?_)
    · have hw := hwt c1; clear hwt hwf
      refine z_lv (lv' := [(0, .ref (aO 0))]) [0] rfl ?_
      exact hk92 oI oR hw
    · have hw := hwf c1; clear hwt hwf
      refine z_aload_n F dX6_findKnown_45 46 rfl 0 rfl ?_
      refine z_get F dX6_findKnown_46 49 rfl kX6_findKnown_47 0 rfl rfl ?_
      refine z_aload_n F dX6_findKnown_49 50 rfl 0 rfl ?_
      refine z_get F dX6_findKnown_50 53 rfl kX6_findKnown_22 0 rfl rfl ?_
      refine z_iload_n F dX6_findKnown_53 54 rfl 1 rfl ?_
      obtain ⟨j1, ej1, hj1, hw⟩ := hw
      refine z_iald F dX6_findKnown_54 55 rfl 5 rfl (by decide) j1 ej1 hj1 ?_
      refine z_dup2 F dX6_findKnown_55 56 rfl rfl rfl ?_
      obtain ⟨j2, ej2, hj2, hw⟩ := hw
      refine z_iald F dX6_findKnown_56 57 rfl 12 rfl (by decide) j2 ej2 hj2 ?_
      refine z_aload_n F dX6_findKnown_57 58 rfl 0 rfl ?_
      refine z_get F dX6_findKnown_58 61 rfl kX6_findKnown_153 0 rfl rfl ?_
      refine z_iload_n F dX6_findKnown_61 62 rfl 1 rfl ?_
      refine z_ishr F dX6_findKnown_62 63 rfl ?_
      refine z_iconst F dX6_findKnown_63 64 rfl zki_1 ?_
      refine z_iand F dX6_findKnown_64 65 rfl ?_
      refine z_iconst F dX6_findKnown_65 66 rfl zki_1 ?_
      obtain ⟨hwt, hwf⟩ := hw
      refine z_icmpne F dX6_findKnown_66 73 rfl 69 rfl (fun c2 => ?_) (fun c2 => ?_)
      · have hw := hwt c2; clear hwt hwf
        refine z_aload_n F dX6_findKnown_73 74 rfl 0 rfl ?_
        refine z_get F dX6_findKnown_74 77 rfl kX6_findKnown_13 0 rfl rfl ?_
        refine z_aload_n F dX6_findKnown_77 78 rfl 0 rfl ?_
        refine z_get F dX6_findKnown_78 81 rfl kX6_findKnown_25 0 rfl rfl ?_
        refine z_iload_n F dX6_findKnown_81 82 rfl 1 rfl ?_
        refine z_iald F dX6_findKnown_82 83 rfl 6 rfl (by decide) j1 ej1 hj1 ?_
        obtain ⟨j3, ej3, hj3, hw⟩ := hw
        refine z_iald F dX6_findKnown_83 84 rfl 2 rfl (by decide) j3 ej3 hj3 ?_
        refine z_ior F dX6_findKnown_84 85 rfl ?_
        refine z_topi (fun v1 ev1 => ?_)
        replace hw := hw v1 ev1
        refine z_iast F dX6_findKnown_85 86 rfl 12 rfl (by decide) j2 ej2 hj2 (wMo aO cyI oI (va_up oR 19 (upd (oR 19) j2 v1))) rfl ?_
        refine z_iinc F dX6_findKnown_86 89 rfl 1 rfl (by decide) zki_1 (fun v2 => [(1, .int v2), (0, .ref (aO 0))]) (fun _ => rfl) (fun v2 ev2 => ?_)
        replace hw := hw v2 ev2
        refine z_goto F dX6_findKnown_89 37 rfl ?_
        refine z_lv (lv' := [(0, .ref (aO 0)), (1, .int v2)]) [1, 0] rfl ?_
        exact ih v2 oI (va_up oR 19 (upd (oR 19) j2 v1)) hw
      · have hw := hwf c2; clear hwt hwf
        refine z_iconst F dX6_findKnown_69 70 rfl zki_0 ?_
        refine z_goto F dX6_findKnown_70 84 rfl ?_
        refine z_ior F dX6_findKnown_84 85 rfl ?_
        refine z_topi (fun v3 ev3 => ?_)
        replace hw := hw v3 ev3
        refine z_iast F dX6_findKnown_85 86 rfl 12 rfl (by decide) j2 ej2 hj2 (wMo aO cyI oI (va_up oR 19 (upd (oR 19) j2 v3))) rfl ?_
        refine z_iinc F dX6_findKnown_86 89 rfl 1 rfl (by decide) zki_1 (fun v4 => [(1, .int v4), (0, .ref (aO 0))]) (fun _ => rfl) (fun v4 ev4 => ?_)
        replace hw := hw v4 ev4
        refine z_goto F dX6_findKnown_89 37 rfl ?_
        refine z_lv (lv' := [(0, .ref (aO 0)), (1, .int v4)]) [1, 0] rfl ?_
        exact ih v4 oI (va_up oR 19 (upd (oR 19) j2 v3)) hw
set_option maxHeartbeats 4000000 in
set_option maxRecDepth 100000 in
theorem xX6_findKnown_129 {C : zC} {D : va_G} {cyI cyB : ClassId} {aO : Nat → Nat} (x1 : Int32) (x2 : Int32) (x3 : Int32) (F : zF C D { frames := 0, cells := 0, slots := 0, locals := 0 } cX6_findKnown 5 wsX6_findKnown RX6 none cyI cyB) {post : (Nat → Int32) → (Nat → Nat → Int32) → Prop} (hRt : zRv C D cX6_findKnown 5 (S := ((Nat → Int32) × (Nat → Nat → Int32))) (fun u => (wMo aO cyI u.1 u.2)) (fun u => post u.1 u.2)) {k173 : (Nat → Int32) → (Nat → Nat → Int32) → Prop} (hk173 : ∀ (oI : Nat → Int32) (oR : Nat → Nat → Int32), k173 oI oR → zX C D 5 0 0 (wMo aO cyI oI oR) 173 [(0, .ref (aO 0)), (1, .int x1)] []) : ∀ (n : Nat) (x4 : Int32) (oI : Nat → Int32) (oR : Nat → Nat → Int32), bX6_findKnown_129 x1 x2 x3 post k173  n x4 oI oR → zX C D 5 0 0 (wMo aO cyI oI oR) 129 [(0, .ref (aO 0)), (1, .int x1), (2, .int x2), (3, .int x3), (4, .int x4)] [] := by
  intro n
  induction n with
  | zero => intro _ _ _ hw; exact hw.elim
  | succ n ih =>
    intro x4 oI oR hw
    refine z_iload F dX6_findKnown_129 131 rfl 4 rfl ?_
    refine z_aload_n F dX6_findKnown_131 132 rfl 0 rfl ?_
    refine z_get F dX6_findKnown_132 135 rfl kX6_findKnown_72 0 rfl rfl ?_
    obtain ⟨hwt, hwf⟩ := hw
    refine z_icmpge F dX6_findKnown_135 173 rfl 138 rfl (fun c2 => ?_) (fun c2 => ?_)
    · have hw := hwt c2; clear hwt hwf
      refine z_lv (lv' := [(0, .ref (aO 0)), (1, .int x1)]) [0, 1] rfl ?_
      exact hk173 oI oR hw
    · have hw := hwf c2; clear hwt hwf
      refine z_aload_n F dX6_findKnown_138 139 rfl 0 rfl ?_
      refine z_get F dX6_findKnown_139 142 rfl kX6_findKnown_53 0 rfl rfl ?_
      refine z_iload F dX6_findKnown_142 144 rfl 4 rfl ?_
      refine z_aload_n F dX6_findKnown_144 145 rfl 0 rfl ?_
      refine z_get F dX6_findKnown_145 148 rfl kX6_findKnown_53 0 rfl rfl ?_
      refine z_iload F dX6_findKnown_148 150 rfl 4 rfl ?_
      obtain ⟨j4, ej4, hj4, hw⟩ := hw
      refine z_iald F dX6_findKnown_150 151 rfl 14 rfl (by decide) j4 ej4 hj4 ?_
      refine z_iload_n F dX6_findKnown_151 152 rfl 2 rfl ?_
      obtain ⟨hwt, hwf⟩ := hw
      refine z_icmpne F dX6_findKnown_152 159 rfl 155 rfl (fun c3 => ?_) (fun c3 => ?_)
      · have hw := hwt c3; clear hwt hwf
        refine z_aload_n F dX6_findKnown_159 160 rfl 0 rfl ?_
        refine z_get F dX6_findKnown_160 163 rfl kX6_findKnown_53 0 rfl rfl ?_
        refine z_iload F dX6_findKnown_163 165 rfl 4 rfl ?_
        refine z_iald F dX6_findKnown_165 166 rfl 14 rfl (by decide) j4 ej4 hj4 ?_
        refine z_topi (fun v3 ev3 => ?_)
        replace hw := hw v3 ev3
        refine z_iast F dX6_findKnown_166 167 rfl 14 rfl (by decide) j4 ej4 hj4 (wMo aO cyI oI (va_up oR 21 (upd (oR 21) j4 v3))) rfl ?_
        refine z_iinc F dX6_findKnown_167 170 rfl 4 rfl (by decide) zki_1 (fun v4 => [(4, .int v4), (0, .ref (aO 0)), (1, .int x1), (2, .int x2), (3, .int x3)]) (fun _ => rfl) (fun v4 ev4 => ?_)
        replace hw := hw v4 ev4
        refine z_goto F dX6_findKnown_170 129 rfl ?_
        refine z_lv (lv' := [(0, .ref (aO 0)), (1, .int x1), (2, .int x2), (3, .int x3), (4, .int v4)]) [1, 2, 3, 4, 0] rfl ?_
        exact ih v4 oI (va_up oR 21 (upd (oR 21) j4 v3)) hw
      · have hw := hwf c3; clear hwt hwf
        refine z_iload_n F dX6_findKnown_155 156 rfl 3 rfl ?_
        refine z_goto F dX6_findKnown_156 166 rfl ?_
        refine z_iast F dX6_findKnown_166 167 rfl 14 rfl (by decide) j4 ej4 hj4 (wMo aO cyI oI (va_up oR 21 (upd (oR 21) j4 x3))) rfl ?_
        refine z_iinc F dX6_findKnown_167 170 rfl 4 rfl (by decide) zki_1 (fun v5 => [(4, .int v5), (0, .ref (aO 0)), (1, .int x1), (2, .int x2), (3, .int x3)]) (fun _ => rfl) (fun v5 ev5 => ?_)
        replace hw := hw v5 ev5
        refine z_goto F dX6_findKnown_170 129 rfl ?_
        refine z_lv (lv' := [(0, .ref (aO 0)), (1, .int x1), (2, .int x2), (3, .int x3), (4, .int v5)]) [1, 2, 3, 4, 0] rfl ?_
        exact ih v5 oI (va_up oR 21 (upd (oR 21) j4 x3)) hw
set_option maxHeartbeats 4000000 in
set_option maxRecDepth 100000 in
theorem xX6_findKnown_94 {C : zC} {D : va_G} {cyI cyB : ClassId} {aO : Nat → Nat} (F : zF C D { frames := 0, cells := 0, slots := 0, locals := 0 } cX6_findKnown 5 wsX6_findKnown RX6 none cyI cyB) {post : (Nat → Int32) → (Nat → Nat → Int32) → Prop} (hRt : zRv C D cX6_findKnown 5 (S := ((Nat → Int32) × (Nat → Nat → Int32))) (fun u => (wMo aO cyI u.1 u.2)) (fun u => post u.1 u.2)) {k179 : (Nat → Int32) → (Nat → Nat → Int32) → Prop} (hk179 : ∀ (oI : Nat → Int32) (oR : Nat → Nat → Int32), k179 oI oR → zX C D 5 0 0 (wMo aO cyI oI oR) 179 [(0, .ref (aO 0))] []) : ∀ (n : Nat) (x1 : Int32) (oI : Nat → Int32) (oR : Nat → Nat → Int32), bX6_findKnown_94 post k179  n x1 oI oR → zX C D 5 0 0 (wMo aO cyI oI oR) 94 [(0, .ref (aO 0)), (1, .int x1)] [] := by
  intro n
  induction n with
  | zero => intro _ _ _ hw; exact hw.elim
  | succ n ih =>
    intro x1 oI oR hw
    refine z_iload_n F dX6_findKnown_94 95 rfl 1 rfl ?_
    refine z_aload_n F dX6_findKnown_95 96 rfl 0 rfl ?_
    refine z_get F dX6_findKnown_96 99 rfl kX6_findKnown_116 0 rfl rfl ?_
    obtain ⟨hwt, hwf⟩ := hw
    refine z_icmpge F dX6_findKnown_99 179 rfl 102 rfl (fun c1 => ?_) (fun c1 => ?_)
    · have hw := hwt c1; clear hwt hwf
      refine z_lv (lv' := [(0, .ref (aO 0))]) [0] rfl ?_
      exact hk179 oI oR hw
    · have hw := hwf c1; clear hwt hwf
      refine z_aload_n F dX6_findKnown_102 103 rfl 0 rfl ?_
      refine z_get F dX6_findKnown_103 106 rfl kX6_findKnown_53 0 rfl rfl ?_
      refine z_aload_n F dX6_findKnown_106 107 rfl 0 rfl ?_
      refine z_get F dX6_findKnown_107 110 rfl kX6_findKnown_28 0 rfl rfl ?_
      refine z_iload_n F dX6_findKnown_110 111 rfl 1 rfl ?_
      obtain ⟨j1, ej1, hj1, hw⟩ := hw
      refine z_iald F dX6_findKnown_111 112 rfl 7 rfl (by decide) j1 ej1 hj1 ?_
      obtain ⟨j2, ej2, hj2, hw⟩ := hw
      refine z_iald F dX6_findKnown_112 113 rfl 14 rfl (by decide) j2 ej2 hj2 ?_
      refine z_topi (fun v1 ev1 => ?_)
      replace hw := hw v1 ev1
      refine z_istore_n (lv' := [(2, .int v1), (0, .ref (aO 0)), (1, .int x1)]) F dX6_findKnown_113 114 rfl (by decide) rfl ?_
      refine z_aload_n F dX6_findKnown_114 115 rfl 1 rfl ?_
      refine z_get F dX6_findKnown_115 118 rfl kX6_findKnown_53 0 rfl rfl ?_
      refine z_aload_n F dX6_findKnown_118 119 rfl 1 rfl ?_
      refine z_get F dX6_findKnown_119 122 rfl kX6_findKnown_31 0 rfl rfl ?_
      refine z_iload_n F dX6_findKnown_122 123 rfl 2 rfl ?_
      refine z_iald F dX6_findKnown_123 124 rfl 8 rfl (by decide) j1 ej1 hj1 ?_
      obtain ⟨j3, ej3, hj3, hw⟩ := hw
      refine z_iald F dX6_findKnown_124 125 rfl 14 rfl (by decide) j3 ej3 hj3 ?_
      refine z_topi (fun v2 ev2 => ?_)
      replace hw := hw v2 ev2
      refine z_istore_n (lv' := [(3, .int v2), (2, .int v1), (0, .ref (aO 0)), (1, .int x1)]) F dX6_findKnown_125 126 rfl (by decide) rfl ?_
      refine z_iconst F dX6_findKnown_126 127 rfl zki_0 ?_
      refine z_istore (lv' := [(4, .int 0), (3, .int v2), (2, .int v1), (0, .ref (aO 0)), (1, .int x1)]) F dX6_findKnown_127 129 rfl (by decide) rfl ?_
      obtain ⟨n3, hw⟩ := hw
      refine z_lv (lv' := [(0, .ref (aO 0)), (1, .int x1), (2, .int v1), (3, .int v2), (4, .int 0)]) [3, 4, 2, 1, 0] rfl ?_
      refine xX6_findKnown_129 x1 v1 v2 F hRt (fun oI_3 oR_3 hw => ?_) n3 0 oI oR hw
      refine z_iinc F dX6_findKnown_173 176 rfl 1 rfl (by decide) zki_1 (fun v3 => [(1, .int v3), (0, .ref (aO 0))]) (fun _ => rfl) (fun v3 ev3 => ?_)
      replace hw := hw v3 ev3
      refine z_goto F dX6_findKnown_176 94 rfl ?_
      refine z_lv (lv' := [(0, .ref (aO 0)), (1, .int v3)]) [1, 0] rfl ?_
      exact ih v3 oI_3 oR_3 hw
set_option maxHeartbeats 4000000 in
set_option maxRecDepth 100000 in
theorem xX6_findKnown_198 {C : zC} {D : va_G} {cyI cyB : ClassId} {aO : Nat → Nat} (x1 : Int32) (F : zF C D { frames := 0, cells := 0, slots := 0, locals := 0 } cX6_findKnown 5 wsX6_findKnown RX6 none cyI cyB) {post : (Nat → Int32) → (Nat → Nat → Int32) → Prop} (hRt : zRv C D cX6_findKnown 5 (S := ((Nat → Int32) × (Nat → Nat → Int32))) (fun u => (wMo aO cyI u.1 u.2)) (fun u => post u.1 u.2)) {k246 : (Nat → Int32) → (Nat → Nat → Int32) → Prop} (hk246 : ∀ (oI : Nat → Int32) (oR : Nat → Nat → Int32), k246 oI oR → zX C D 5 0 0 (wMo aO cyI oI oR) 246 [(0, .ref (aO 0)), (1, .int x1)] []) : ∀ (n : Nat) (x2 : Int32) (oI : Nat → Int32) (oR : Nat → Nat → Int32), bX6_findKnown_198 x1 post k246  n x2 oI oR → zX C D 5 0 0 (wMo aO cyI oI oR) 198 [(0, .ref (aO 0)), (1, .int x1), (2, .int x2)] [] := by
  intro n
  induction n with
  | zero => intro _ _ _ hw; exact hw.elim
  | succ n ih =>
    intro x2 oI oR hw
    refine z_iload_n F dX6_findKnown_198 199 rfl 2 rfl ?_
    refine z_aload_n F dX6_findKnown_199 200 rfl 0 rfl ?_
    refine z_get F dX6_findKnown_200 203 rfl kX6_findKnown_72 0 rfl rfl ?_
    obtain ⟨hwt, hwf⟩ := hw
    refine z_icmpge F dX6_findKnown_203 246 rfl 206 rfl (fun c2 => ?_) (fun c2 => ?_)
    · have hw := hwt c2; clear hwt hwf
      refine z_lv (lv' := [(0, .ref (aO 0)), (1, .int x1)]) [0, 1] rfl ?_
      exact hk246 oI oR hw
    · have hw := hwf c2; clear hwt hwf
      refine z_aload_n F dX6_findKnown_206 207 rfl 0 rfl ?_
      refine z_get F dX6_findKnown_207 210 rfl kX6_findKnown_50 0 rfl rfl ?_
      refine z_iload_n F dX6_findKnown_210 211 rfl 1 rfl ?_
      refine z_dup2 F dX6_findKnown_211 212 rfl rfl rfl ?_
      obtain ⟨j2, ej2, hj2, hw⟩ := hw
      refine z_iald F dX6_findKnown_212 213 rfl 13 rfl (by decide) j2 ej2 hj2 ?_
      refine z_aload_n F dX6_findKnown_213 214 rfl 0 rfl ?_
      refine z_get F dX6_findKnown_214 217 rfl kX6_findKnown_53 0 rfl rfl ?_
      refine z_iload_n F dX6_findKnown_217 218 rfl 2 rfl ?_
      obtain ⟨j3, ej3, hj3, hw⟩ := hw
      refine z_iald F dX6_findKnown_218 219 rfl 14 rfl (by decide) j3 ej3 hj3 ?_
      refine z_aload_n F dX6_findKnown_219 220 rfl 0 rfl ?_
      refine z_get F dX6_findKnown_220 223 rfl kX6_findKnown_53 0 rfl rfl ?_
      refine z_iload_n F dX6_findKnown_223 224 rfl 1 rfl ?_
      refine z_iald F dX6_findKnown_224 225 rfl 14 rfl (by decide) j2 ej2 hj2 ?_
      obtain ⟨hwt, hwf⟩ := hw
      refine z_icmpne F dX6_findKnown_225 237 rfl 228 rfl (fun c3 => ?_) (fun c3 => ?_)
      · have hw := hwt c3; clear hwt hwf
        refine z_iconst F dX6_findKnown_237 238 rfl zki_0 ?_
        refine z_ior F dX6_findKnown_238 239 rfl ?_
        refine z_topi (fun v1 ev1 => ?_)
        replace hw := hw v1 ev1
        refine z_iast F dX6_findKnown_239 240 rfl 13 rfl (by decide) j2 ej2 hj2 (wMo aO cyI oI (va_up oR 20 (upd (oR 20) j2 v1))) rfl ?_
        refine z_iinc F dX6_findKnown_240 243 rfl 2 rfl (by decide) zki_1 (fun v2 => [(2, .int v2), (0, .ref (aO 0)), (1, .int x1)]) (fun _ => rfl) (fun v2 ev2 => ?_)
        replace hw := hw v2 ev2
        refine z_goto F dX6_findKnown_243 198 rfl ?_
        refine z_lv (lv' := [(0, .ref (aO 0)), (1, .int x1), (2, .int v2)]) [1, 2, 0] rfl ?_
        exact ih v2 oI (va_up oR 20 (upd (oR 20) j2 v1)) hw
      · have hw := hwf c3; clear hwt hwf
        refine z_aload_n F dX6_findKnown_228 229 rfl 0 rfl ?_
        refine z_get F dX6_findKnown_229 232 rfl kX6_findKnown_47 0 rfl rfl ?_
        refine z_iload_n F dX6_findKnown_232 233 rfl 2 rfl ?_
        refine z_iald F dX6_findKnown_233 234 rfl 12 rfl (by decide) j3 ej3 hj3 ?_
        refine z_goto F dX6_findKnown_234 238 rfl ?_
        refine z_ior F dX6_findKnown_238 239 rfl ?_
        refine z_topi (fun v3 ev3 => ?_)
        replace hw := hw v3 ev3
        refine z_iast F dX6_findKnown_239 240 rfl 13 rfl (by decide) j2 ej2 hj2 (wMo aO cyI oI (va_up oR 20 (upd (oR 20) j2 v3))) rfl ?_
        refine z_iinc F dX6_findKnown_240 243 rfl 2 rfl (by decide) zki_1 (fun v4 => [(2, .int v4), (0, .ref (aO 0)), (1, .int x1)]) (fun _ => rfl) (fun v4 ev4 => ?_)
        replace hw := hw v4 ev4
        refine z_goto F dX6_findKnown_243 198 rfl ?_
        refine z_lv (lv' := [(0, .ref (aO 0)), (1, .int x1), (2, .int v4)]) [1, 2, 0] rfl ?_
        exact ih v4 oI (va_up oR 20 (upd (oR 20) j2 v3)) hw
set_option maxHeartbeats 4000000 in
set_option maxRecDepth 100000 in
theorem xX6_findKnown_181 {C : zC} {D : va_G} {cyI cyB : ClassId} {aO : Nat → Nat} (F : zF C D { frames := 0, cells := 0, slots := 0, locals := 0 } cX6_findKnown 5 wsX6_findKnown RX6 none cyI cyB) {post : (Nat → Int32) → (Nat → Nat → Int32) → Prop} (hRt : zRv C D cX6_findKnown 5 (S := ((Nat → Int32) × (Nat → Nat → Int32))) (fun u => (wMo aO cyI u.1 u.2)) (fun u => post u.1 u.2)) : ∀ (n : Nat) (x1 : Int32) (oI : Nat → Int32) (oR : Nat → Nat → Int32), bX6_findKnown_181 post  n x1 oI oR → zX C D 5 0 0 (wMo aO cyI oI oR) 181 [(0, .ref (aO 0)), (1, .int x1)] [] := by
  intro n
  induction n with
  | zero => intro _ _ _ hw; exact hw.elim
  | succ n ih =>
    intro x1 oI oR hw
    refine z_iload_n F dX6_findKnown_181 182 rfl 1 rfl ?_
    refine z_aload_n F dX6_findKnown_182 183 rfl 0 rfl ?_
    refine z_get F dX6_findKnown_183 186 rfl kX6_findKnown_72 0 rfl rfl ?_
    obtain ⟨hwt, hwf⟩ := hw
    refine z_icmpge F dX6_findKnown_186 252 rfl 189 rfl (fun c1 => ?_) (fun c1 => ?_)
    · have hw := hwt c1; clear hwt hwf
      exact hRt 252 _ (oI, oR) dX6_findKnown_252 hw
    · have hw := hwf c1; clear hwt hwf
      refine z_aload_n F dX6_findKnown_189 190 rfl 0 rfl ?_
      refine z_get F dX6_findKnown_190 193 rfl kX6_findKnown_50 0 rfl rfl ?_
      refine z_iload_n F dX6_findKnown_193 194 rfl 1 rfl ?_
      refine z_iconst F dX6_findKnown_194 195 rfl zki_0 ?_
      obtain ⟨j1, ej1, hj1, hw⟩ := hw
      refine z_iast F dX6_findKnown_195 196 rfl 13 rfl (by decide) j1 ej1 hj1 (wMo aO cyI oI (va_up oR 20 (upd (oR 20) j1 0))) rfl ?_
      refine z_iconst F dX6_findKnown_196 197 rfl zki_0 ?_
      refine z_istore_n (lv' := [(2, .int 0), (0, .ref (aO 0)), (1, .int x1)]) F dX6_findKnown_197 198 rfl (by decide) rfl ?_
      obtain ⟨n4, hw⟩ := hw
      refine z_lv (lv' := [(0, .ref (aO 0)), (1, .int x1), (2, .int 0)]) [1, 2, 0] rfl ?_
      refine xX6_findKnown_198 x1 F hRt (fun oI_4 oR_4 hw => ?_) n4 0 oI (va_up oR 20 (upd (oR 20) j1 0)) hw
      refine z_iinc F dX6_findKnown_246 249 rfl 1 rfl (by decide) zki_1 (fun v1 => [(1, .int v1), (0, .ref (aO 0))]) (fun _ => rfl) (fun v1 ev1 => ?_)
      replace hw := hw v1 ev1
      refine z_goto F dX6_findKnown_249 181 rfl ?_
      refine z_lv (lv' := [(0, .ref (aO 0)), (1, .int v1)]) [1, 0] rfl ?_
      exact ih v1 oI_4 oR_4 hw
set_option maxHeartbeats 4000000 in
set_option maxRecDepth 100000 in
theorem xX6_findKnown_0 {C : zC} {D : va_G} {cyI cyB : ClassId} {aO : Nat → Nat} (oI : Nat → Int32) (oR : Nat → Nat → Int32) (F : zF C D { frames := 0, cells := 0, slots := 0, locals := 0 } cX6_findKnown 5 wsX6_findKnown RX6 none cyI cyB) {post : (Nat → Int32) → (Nat → Nat → Int32) → Prop} (hRt : zRv C D cX6_findKnown 5 (S := ((Nat → Int32) × (Nat → Nat → Int32))) (fun u => (wMo aO cyI u.1 u.2)) (fun u => post u.1 u.2)) (hw : pX6_findKnown oI oR post) : zX C D 5 0 0 (wMo aO cyI oI oR) 0 [(0, .ref (aO 0))] [] := by
  refine z_iconst F dX6_findKnown_0 1 rfl zki_0 ?_
  refine z_istore_n (lv' := [(1, .int 0), (0, .ref (aO 0))]) F dX6_findKnown_1 2 rfl (by decide) rfl ?_
  obtain ⟨n1, hw⟩ := hw
  refine z_lv (lv' := [(0, .ref (aO 0)), (1, .int 0)]) [1, 0] rfl ?_
  refine xX6_findKnown_2 F hRt (fun oI_1 oR_1 hw => ?_) n1 0 oI oR hw
  refine z_iconst F dX6_findKnown_35 36 rfl zki_0 ?_
  refine z_istore_n (lv' := [(1, .int 0), (0, .ref (aO 0))]) F dX6_findKnown_36 37 rfl (by decide) rfl ?_
  obtain ⟨n2, hw⟩ := hw
  refine z_lv (lv' := [(0, .ref (aO 0)), (1, .int 0)]) [1, 0] rfl ?_
  refine xX6_findKnown_37 F hRt (fun oI_2 oR_2 hw => ?_) n2 0 oI_1 oR_1 hw
  refine z_iconst F dX6_findKnown_92 93 rfl zki_0 ?_
  refine z_istore_n (lv' := [(1, .int 0), (0, .ref (aO 0))]) F dX6_findKnown_93 94 rfl (by decide) rfl ?_
  obtain ⟨n3, hw⟩ := hw
  refine z_lv (lv' := [(0, .ref (aO 0)), (1, .int 0)]) [1, 0] rfl ?_
  refine xX6_findKnown_94 F hRt (fun oI_3 oR_3 hw => ?_) n3 0 oI_2 oR_2 hw
  refine z_iconst F dX6_findKnown_179 180 rfl zki_0 ?_
  refine z_istore_n (lv' := [(1, .int 0), (0, .ref (aO 0))]) F dX6_findKnown_180 181 rfl (by decide) rfl ?_
  obtain ⟨n4, hw⟩ := hw
  refine z_lv (lv' := [(0, .ref (aO 0)), (1, .int 0)]) [1, 0] rfl ?_
  refine xX6_findKnown_181 F hRt n4 0 oI_3 oR_3 hw
set_option maxHeartbeats 4000000 in
set_option maxRecDepth 100000 in
theorem mX6_findKnown (l : Launch) (D : va_G) (cyI cyB : ClassId) (aO : Nat → Nat) (oI : Nat → Int32) (oR : Nat → Nat → Int32) {post : (Nat → Int32) → (Nat → Nat → Int32) → Prop} (hw : pX6_findKnown oI oR post) : zMv l yX6_findKnown wsX6_findKnown 0 0 D cyI cyB [.ref (aO 0)] (wMo aO cyI oI oR) (S := ((Nat → Int32) × (Nat → Nat → Int32))) (fun u => (wMo aO cyI u.1 u.2)) (fun u => post u.1 u.2) :=
  z_metv (cc := cX6_findKnown) (nL := 5) (by decide +kernel) rfl (Nat.le_of_ble_eq_true rfl) (fun C hl F hRt => xX6_findKnown_0 oI oR F hRt hw)
theorem y_X6_findKnown : zY yX6_findKnown wsX6_findKnown cX6_findKnown 5 none 0 := ⟨⟨_, rfl⟩, by decide +kernel⟩
theorem iX6_knows_6 : ∀ w ∈ wsX60, w ∈ wsX6_knows := fun w h => List.mem_cons_of_mem _ (List.mem_append_right _ h)
theorem kX6_knows_13 : zL wsX6_knows RX6 13 6 1 (.array .int) true := zL6 iX6_knows_6 (by decide) (List.mem_of_getElem? (i := 1) rfl) rfl rfl
theorem kX6_knows_47 : zL wsX6_knows RX6 47 6 19 (.array .int) true := zL6 iX6_knows_6 (by decide) (List.mem_of_getElem? (i := 2) rfl) rfl rfl
theorem kX6_knows_50 : zL wsX6_knows RX6 50 6 20 (.array .int) true := zL6 iX6_knows_6 (by decide) (List.mem_of_getElem? (i := 3) rfl) rfl rfl
set_option maxHeartbeats 4000000 in
set_option maxRecDepth 100000 in
theorem xX6_knows_0 {C : zC} {D : va_G} {cyI cyB : ClassId} {aO : Nat → Nat} (x1 : Int32) (x2 : Int32) (oI : Nat → Int32) (oR : Nat → Nat → Int32) (F : zF C D { frames := 1, cells := 0, slots := 0, locals := 24 } cX6_knows 3 wsX6_knows RX6 (some .int) cyI cyB) {post : Int32 → (Nat → Int32) → (Nat → Nat → Int32) → Prop} (hRt : zRi C D cX6_knows 3 (S := ((Nat → Int32) × (Nat → Nat → Int32))) (fun u => (wMo aO cyI u.1 u.2)) (fun r u => post r u.1 u.2)) (hw : pX6_knows x1 x2 oI oR post) : zX C D 3 0 0 (wMo aO cyI oI oR) 0 [(0, .ref (aO 0)), (1, .int x1), (2, .int x2)] [] := by
  refine z_aload_n F dX6_knows_0 1 rfl 0 rfl ?_
  refine z_iload_n F dX6_knows_1 2 rfl 1 rfl ?_
  refine z_segVi (As := [.int x1]) (st := []) F dX6_knows_2 5 rfl (mX6_isHand C.1.2.1 D cyI cyB aO x1 oI oR hw) y_X6_isHand rfl gX6_knows_X6_isHand rfl (ci := 6) (rq := 0) rfl rfl ⟨Nat.le_of_ble_eq_true rfl, Nat.le_of_ble_eq_true rfl⟩ ⟨Nat.zero_le _, Nat.zero_le _⟩ (Nat.le_of_ble_eq_true rfl) [] [] (by simp only [List.append_assoc, List.nil_append, List.append_nil]) (fun _ => rfl) (fun u => (wMo aO cyI oI oR)) (fun u => (by simp only [List.append_assoc, List.nil_append, List.append_nil])) (fun r0 u hp => ?_)
  obtain ⟨b1, rfl, hw⟩ := hp
  obtain ⟨hwt, hwf⟩ := hw
  refine z_ifneB F dX6_knows_5 14 rfl 8 rfl (fun c1 => ?_) (fun c1 => ?_)
  · have hw := hwt c1; clear hwt hwf
    refine z_iload_n F dX6_knows_14 15 rfl 2 rfl ?_
    refine z_iconst F dX6_knows_15 16 rfl zki_0 ?_
    refine z_iconst F dX6_knows_16 17 rfl zki_3 ?_
    refine z_callSi (As := [.int x2, .int 0, .int 3]) (st := []) F dX6_knows_17 20 rfl (mX6_isIn C.1.2.1 D cyI cyB x2 0 3 hw) y_X6_isIn rfl gX6_knows_X6_isIn ⟨Nat.le_of_ble_eq_true rfl, Nat.le_of_ble_eq_true rfl⟩ ⟨Nat.zero_le _, Nat.zero_le _⟩ (Nat.le_of_ble_eq_true rfl) [] (by decide) rfl (fun _ => rfl) (fun u => (wMo aO cyI oI oR)) (fun _ => rfl) (fun r0 u hp => ?_)
    obtain ⟨b2, rfl, hw⟩ := hp
    obtain ⟨hwt, hwf⟩ := hw
    refine z_ifneB F dX6_knows_20 30 rfl 23 rfl (fun c2 => ?_) (fun c2 => ?_)
    · have hw := hwt c2; clear hwt hwf
      refine z_aload_n F dX6_knows_30 31 rfl 0 rfl ?_
      refine z_segVv (As := []) (st := []) F dX6_knows_31 34 rfl (mX6_findKnown C.1.2.1 D cyI cyB aO oI oR hw) y_X6_findKnown rfl gX6_knows_X6_findKnown rfl (ci := 6) (rq := 0) rfl rfl ⟨Nat.le_of_ble_eq_true rfl, Nat.le_of_ble_eq_true rfl⟩ ⟨Nat.zero_le _, Nat.zero_le _⟩ (Nat.le_of_ble_eq_true rfl) [] [] (by simp only [List.append_assoc, List.nil_append, List.append_nil]) (fun _ => rfl) (fun u => (wMo aO cyI u.1 u.2)) (fun u => (by simp only [List.append_assoc, List.nil_append, List.append_nil])) (fun u hp => ?_)
      obtain ⟨oI_1, oR_1⟩ := u
      replace hw := hp
      clear hp
      refine z_iload_n F dX6_knows_34 35 rfl 2 rfl ?_
      obtain ⟨hwt, hwf⟩ := hw
      refine z_ifne F dX6_knows_35 47 rfl 38 rfl (fun c3 => ?_) (fun c3 => ?_)
      · have hw := hwt c3; clear hwt hwf
        refine z_iload_n F dX6_knows_47 48 rfl 2 rfl ?_
        refine z_iconst F dX6_knows_48 49 rfl zki_1 ?_
        obtain ⟨hwt, hwf⟩ := hw
        refine z_icmpne F dX6_knows_49 61 rfl 52 rfl (fun c4 => ?_) (fun c4 => ?_)
        · have hw := hwt c4; clear hwt hwf
          refine z_iload_n F dX6_knows_61 62 rfl 2 rfl ?_
          refine z_iconst F dX6_knows_62 63 rfl zki_2 ?_
          obtain ⟨hwt, hwf⟩ := hw
          refine z_icmpne F dX6_knows_63 75 rfl 66 rfl (fun c5 => ?_) (fun c5 => ?_)
          · have hw := hwt c5; clear hwt hwf
            refine z_aload_n F dX6_knows_75 76 rfl 0 rfl ?_
            refine z_aload_n F dX6_knows_76 77 rfl 0 rfl ?_
            refine z_get F dX6_knows_77 80 rfl kX6_knows_50 0 rfl rfl ?_
            refine z_iload_n F dX6_knows_80 81 rfl 1 rfl ?_
            obtain ⟨j1, ej1, hj1, hw⟩ := hw
            refine z_iald F dX6_knows_81 82 rfl 13 rfl (by decide) j1 ej1 hj1 ?_
            refine z_segVi (As := [.int ((oR_1 20) j1)]) (st := []) F dX6_knows_82 85 rfl (mX6_guessedFrom C.1.2.1 D cyI cyB aO ((oR_1 20) j1) oI_1 oR_1 hw) y_X6_guessedFrom rfl gX6_knows_X6_guessedFrom rfl (ci := 6) (rq := 0) rfl rfl ⟨Nat.le_of_ble_eq_true rfl, Nat.le_of_ble_eq_true rfl⟩ ⟨Nat.zero_le _, Nat.zero_le _⟩ (Nat.le_of_ble_eq_true rfl) [] [] (by simp only [List.append_assoc, List.nil_append, List.append_nil]) (fun _ => rfl) (fun u => (wMo aO cyI oI_1 oR_1)) (fun u => (by simp only [List.append_assoc, List.nil_append, List.append_nil])) (fun r1 u hp => ?_)
            replace hw := hp
            clear hp
            exact hRt 85 _ r1 (oI_1, oR_1) dX6_knows_85 hw
          · have hw := hwf c5; clear hwt hwf
            refine z_aload_n F dX6_knows_66 67 rfl 0 rfl ?_
            refine z_get F dX6_knows_67 70 rfl kX6_knows_50 0 rfl rfl ?_
            refine z_iload_n F dX6_knows_70 71 rfl 1 rfl ?_
            obtain ⟨j2, ej2, hj2, hw⟩ := hw
            refine z_iald F dX6_knows_71 72 rfl 13 rfl (by decide) j2 ej2 hj2 ?_
            refine z_goto F dX6_knows_72 85 rfl ?_
            exact hRt 85 _ ((oR_1 20) j2) (oI_1, oR_1) dX6_knows_85 hw
        · have hw := hwf c4; clear hwt hwf
          refine z_aload_n F dX6_knows_52 53 rfl 0 rfl ?_
          refine z_get F dX6_knows_53 56 rfl kX6_knows_47 0 rfl rfl ?_
          refine z_iload_n F dX6_knows_56 57 rfl 1 rfl ?_
          obtain ⟨j3, ej3, hj3, hw⟩ := hw
          refine z_iald F dX6_knows_57 58 rfl 12 rfl (by decide) j3 ej3 hj3 ?_
          refine z_goto F dX6_knows_58 85 rfl ?_
          exact hRt 85 _ ((oR_1 19) j3) (oI_1, oR_1) dX6_knows_85 hw
      · have hw := hwf c3; clear hwt hwf
        refine z_aload_n F dX6_knows_38 39 rfl 0 rfl ?_
        refine z_get F dX6_knows_39 42 rfl kX6_knows_13 0 rfl rfl ?_
        refine z_iload_n F dX6_knows_42 43 rfl 1 rfl ?_
        obtain ⟨j4, ej4, hj4, hw⟩ := hw
        refine z_iald F dX6_knows_43 44 rfl 2 rfl (by decide) j4 ej4 hj4 ?_
        refine z_goto F dX6_knows_44 85 rfl ?_
        exact hRt 85 _ ((oR_1 1) j4) (oI_1, oR_1) dX6_knows_85 hw
    · have hw := hwf c2; clear hwt hwf
      refine z_aload_n F dX6_knows_23 24 rfl 0 rfl ?_
      refine z_bipush F dX6_knows_24 26 rfl zkb_m2 ?_
      refine z_segVi (As := [.int (-2)]) (st := []) F dX6_knows_26 29 rfl (mX6_no C.1.2.1 D cyI cyB aO (-2) oI oR hw) y_X6_no rfl gX6_knows_X6_no rfl (ci := 6) (rq := 0) rfl rfl ⟨Nat.le_of_ble_eq_true rfl, Nat.le_of_ble_eq_true rfl⟩ ⟨Nat.zero_le _, Nat.zero_le _⟩ (Nat.le_of_ble_eq_true rfl) [] [] (by simp only [List.append_assoc, List.nil_append, List.append_nil]) (fun _ => rfl) (fun u => (wMo aO cyI u.1 u.2)) (fun u => (by simp only [List.append_assoc, List.nil_append, List.append_nil])) (fun r2 u hp => ?_)
      obtain ⟨oI_2, oR_2⟩ := u
      replace hw := hp
      clear hp
      exact hRt 29 _ r2 (oI_2, oR_2) dX6_knows_29 hw
  · have hw := hwf c1; clear hwt hwf
    refine z_aload_n F dX6_knows_8 9 rfl 0 rfl ?_
    refine z_iconst F dX6_knows_9 10 rfl zki_m1 ?_
    refine z_segVi (As := [.int (-1)]) (st := []) F dX6_knows_10 13 rfl (mX6_no C.1.2.1 D cyI cyB aO (-1) oI oR hw) y_X6_no rfl gX6_knows_X6_no rfl (ci := 6) (rq := 0) rfl rfl ⟨Nat.le_of_ble_eq_true rfl, Nat.le_of_ble_eq_true rfl⟩ ⟨Nat.zero_le _, Nat.zero_le _⟩ (Nat.le_of_ble_eq_true rfl) [] [] (by simp only [List.append_assoc, List.nil_append, List.append_nil]) (fun _ => rfl) (fun u => (wMo aO cyI u.1 u.2)) (fun u => (by simp only [List.append_assoc, List.nil_append, List.append_nil])) (fun r3 u hp => ?_)
    obtain ⟨oI_3, oR_3⟩ := u
    replace hw := hp
    clear hp
    exact hRt 13 _ r3 (oI_3, oR_3) dX6_knows_13 hw
set_option maxHeartbeats 4000000 in
set_option maxRecDepth 100000 in
theorem mX6_knows (l : Launch) (D : va_G) (cyI cyB : ClassId) (aO : Nat → Nat) (x1 : Int32) (x2 : Int32) (oI : Nat → Int32) (oR : Nat → Nat → Int32) {post : Int32 → (Nat → Int32) → (Nat → Nat → Int32) → Prop} (hw : pX6_knows x1 x2 oI oR post) : zMi l yX6_knows wsX6_knows 1 24 D cyI cyB [.ref (aO 0), .int x1, .int x2] (wMo aO cyI oI oR) (S := ((Nat → Int32) × (Nat → Nat → Int32))) (fun u => (wMo aO cyI u.1 u.2)) (fun r u => post r u.1 u.2) :=
  z_meti (cc := cX6_knows) (nL := 3) (by decide +kernel) rfl (Nat.le_of_ble_eq_true rfl) (fun C hl F hRt => xX6_knows_0 x1 x2 oI oR F hRt hw)
theorem y_X6_knows : zY yX6_knows wsX6_knows cX6_knows 3 (some .int) 2 := ⟨⟨_, rfl⟩, by decide +kernel⟩
theorem iX6_known_6 : ∀ w ∈ wsX60, w ∈ wsX6_known := fun w h => List.mem_cons_of_mem _ (List.mem_append_right _ h)
theorem kX6_known_72 : zL wsX6_known RX6 72 6 11 .int false := zL6 iX6_known_6 (by decide) (List.mem_of_getElem? (i := 1) rfl) rfl rfl
set_option maxHeartbeats 4000000 in
set_option maxRecDepth 100000 in
theorem xX6_known_0 {C : zC} {D : va_G} {cyI cyB : ClassId} {aO : Nat → Nat} (x1 : Int32) (z2 : Bool) (oI : Nat → Int32) (oR : Nat → Nat → Int32) (F : zF C D { frames := 2, cells := 0, slots := 0, locals := 48 } cX6_known 3 wsX6_known RX6 (some .int) cyI cyB) {post : Int32 → (Nat → Int32) → (Nat → Nat → Int32) → Prop} (hRt : zRi C D cX6_known 3 (S := ((Nat → Int32) × (Nat → Nat → Int32))) (fun u => (wMo aO cyI u.1 u.2)) (fun r u => post r u.1 u.2)) (hw : pX6_known x1 z2 oI oR post) : zX C D 3 0 0 (wMo aO cyI oI oR) 0 [(0, .ref (aO 0)), (1, .int x1), (2, .int (zb z2))] [] := by
  refine z_iload_n F dX6_known_0 1 rfl 1 rfl ?_
  obtain ⟨hwt, hwf⟩ := hw
  refine z_iflt F dX6_known_1 13 rfl 4 rfl (fun c1 => ?_) (fun c1 => ?_)
  · have hw := hwt c1; clear hwt hwf
    refine z_aload_n F dX6_known_13 14 rfl 0 rfl ?_
    refine z_iconst F dX6_known_14 15 rfl zki_m1 ?_
    refine z_segVi (As := [.int (-1)]) (st := []) F dX6_known_15 18 rfl (mX6_no C.1.2.1 D cyI cyB aO (-1) oI oR hw) y_X6_no rfl gX6_known_X6_no rfl (ci := 6) (rq := 0) rfl rfl ⟨Nat.le_of_ble_eq_true rfl, Nat.le_of_ble_eq_true rfl⟩ ⟨Nat.zero_le _, Nat.zero_le _⟩ (Nat.le_of_ble_eq_true rfl) [] [] (by simp only [List.append_assoc, List.nil_append, List.append_nil]) (fun _ => rfl) (fun u => (wMo aO cyI u.1 u.2)) (fun u => (by simp only [List.append_assoc, List.nil_append, List.append_nil])) (fun r1 u hp => ?_)
    obtain ⟨oI_1, oR_1⟩ := u
    replace hw := hp
    clear hp
    exact hRt 18 _ r1 (oI_1, oR_1) dX6_known_18 hw
  · have hw := hwf c1; clear hwt hwf
    refine z_iload_n F dX6_known_4 5 rfl 1 rfl ?_
    refine z_aload_n F dX6_known_5 6 rfl 0 rfl ?_
    refine z_get F dX6_known_6 9 rfl kX6_known_72 0 rfl rfl ?_
    refine z_ishr F dX6_known_9 10 rfl ?_
    obtain ⟨hwt, hwf⟩ := hw
    refine z_ifeq F dX6_known_10 19 rfl 13 rfl (fun c2 => ?_) (fun c2 => ?_)
    · have hw := hwt c2; clear hwt hwf
      refine z_aload_n F dX6_known_19 20 rfl 0 rfl ?_
      refine z_segVv (As := []) (st := []) F dX6_known_20 23 rfl (mX6_findKnown C.1.2.1 D cyI cyB aO oI oR hw) y_X6_findKnown rfl gX6_known_X6_findKnown rfl (ci := 6) (rq := 0) rfl rfl ⟨Nat.le_of_ble_eq_true rfl, Nat.le_of_ble_eq_true rfl⟩ ⟨Nat.zero_le _, Nat.zero_le _⟩ (Nat.le_of_ble_eq_true rfl) [] [] (by simp only [List.append_assoc, List.nil_append, List.append_nil]) (fun _ => rfl) (fun u => (wMo aO cyI u.1 u.2)) (fun u => (by simp only [List.append_assoc, List.nil_append, List.append_nil])) (fun u hp => ?_)
      obtain ⟨oI_2, oR_2⟩ := u
      replace hw := hp
      clear hp
      refine z_aload_n F dX6_known_23 24 rfl 0 rfl ?_
      refine z_iload_n F dX6_known_24 25 rfl 1 rfl ?_
      refine z_iload_n F dX6_known_25 26 rfl 2 rfl ?_
      refine z_segVi (As := [.int x1, .int (zb z2)]) (st := []) F dX6_known_26 29 rfl (mX6_knownBy C.1.2.1 D cyI cyB aO x1 z2 oI_2 oR_2 hw) y_X6_knownBy rfl gX6_known_X6_knownBy rfl (ci := 6) (rq := 0) rfl rfl ⟨Nat.le_of_ble_eq_true rfl, Nat.le_of_ble_eq_true rfl⟩ ⟨Nat.zero_le _, Nat.zero_le _⟩ (Nat.le_of_ble_eq_true rfl) [] [] (by simp only [List.append_assoc, List.nil_append, List.append_nil]) (fun _ => rfl) (fun u => (wMo aO cyI oI_2 oR_2)) (fun u => (by simp only [List.append_assoc, List.nil_append, List.append_nil])) (fun r2 u hp => ?_)
      replace hw := hp
      clear hp
      exact hRt 29 _ r2 (oI_2, oR_2) dX6_known_29 hw
    · have hw := hwf c2; clear hwt hwf
      refine z_aload_n F dX6_known_13 14 rfl 0 rfl ?_
      refine z_iconst F dX6_known_14 15 rfl zki_m1 ?_
      refine z_segVi (As := [.int (-1)]) (st := []) F dX6_known_15 18 rfl (mX6_no C.1.2.1 D cyI cyB aO (-1) oI oR hw) y_X6_no rfl gX6_known_X6_no rfl (ci := 6) (rq := 0) rfl rfl ⟨Nat.le_of_ble_eq_true rfl, Nat.le_of_ble_eq_true rfl⟩ ⟨Nat.zero_le _, Nat.zero_le _⟩ (Nat.le_of_ble_eq_true rfl) [] [] (by simp only [List.append_assoc, List.nil_append, List.append_nil]) (fun _ => rfl) (fun u => (wMo aO cyI u.1 u.2)) (fun u => (by simp only [List.append_assoc, List.nil_append, List.append_nil])) (fun r3 u hp => ?_)
      obtain ⟨oI_3, oR_3⟩ := u
      replace hw := hp
      clear hp
      exact hRt 18 _ r3 (oI_3, oR_3) dX6_known_18 hw
set_option maxHeartbeats 4000000 in
set_option maxRecDepth 100000 in
theorem mX6_known (l : Launch) (D : va_G) (cyI cyB : ClassId) (aO : Nat → Nat) (x1 : Int32) (z2 : Bool) (oI : Nat → Int32) (oR : Nat → Nat → Int32) {post : Int32 → (Nat → Int32) → (Nat → Nat → Int32) → Prop} (hw : pX6_known x1 z2 oI oR post) : zMi l yX6_known wsX6_known 2 48 D cyI cyB [.ref (aO 0), .int x1, .int (zb z2)] (wMo aO cyI oI oR) (S := ((Nat → Int32) × (Nat → Nat → Int32))) (fun u => (wMo aO cyI u.1 u.2)) (fun r u => post r u.1 u.2) :=
  z_meti (cc := cX6_known) (nL := 3) (by decide +kernel) rfl (Nat.le_of_ble_eq_true rfl) (fun C hl F hRt => xX6_known_0 x1 z2 oI oR F hRt hw)
theorem y_X6_known : zY yX6_known wsX6_known cX6_known 3 (some .int) 2 := ⟨⟨_, rfl⟩, by decide +kernel⟩
set_option maxHeartbeats 4000000 in
set_option maxRecDepth 100000 in
theorem xX6_holds_0 {C : zC} {D : va_G} {cyI cyB : ClassId} {aO : Nat → Nat} (x1 : Int32) (x2 : Int32) (oI : Nat → Int32) (oR : Nat → Nat → Int32) (F : zF C D { frames := 4, cells := 0, slots := 0, locals := 95 } cX6_holds 3 wsX6_holds RX6 (some .boolean) cyI cyB) {post : Bool → (Nat → Int32) → (Nat → Nat → Int32) → Prop} (hRt : zRz C D cX6_holds 3 (S := ((Nat → Int32) × (Nat → Nat → Int32))) (fun u => (wMo aO cyI u.1 u.2)) (fun r u => ∃ b : Bool, r = zb b ∧ post b u.1 u.2)) (hw : pX6_holds x1 x2 oI oR post) : zX C D 3 0 0 (wMo aO cyI oI oR) 0 [(0, .ref (aO 0)), (1, .int x1), (2, .int x2)] [] := by
  refine z_aload_n F dX6_holds_0 1 rfl 0 rfl ?_
  refine z_segVv (As := []) (st := []) F dX6_holds_1 4 rfl (mX6_findKnown C.1.2.1 D cyI cyB aO oI oR hw) y_X6_findKnown rfl gX6_holds_X6_findKnown rfl (ci := 6) (rq := 0) rfl rfl ⟨Nat.le_of_ble_eq_true rfl, Nat.le_of_ble_eq_true rfl⟩ ⟨Nat.zero_le _, Nat.zero_le _⟩ (Nat.le_of_ble_eq_true rfl) [] [] (by simp only [List.append_assoc, List.nil_append, List.append_nil]) (fun _ => rfl) (fun u => (wMo aO cyI u.1 u.2)) (fun u => (by simp only [List.append_assoc, List.nil_append, List.append_nil])) (fun u hp => ?_)
  obtain ⟨oI_1, oR_1⟩ := u
  replace hw := hp
  clear hp
  refine z_aload_n F dX6_holds_4 5 rfl 0 rfl ?_
  refine z_iload_n F dX6_holds_5 6 rfl 1 rfl ?_
  refine z_iconst F dX6_holds_6 7 rfl zki_0 ?_
  refine z_segVi (As := [.int x1, .int 0]) (st := []) F dX6_holds_7 10 rfl (mX6_holdsAgainst C.1.2.1 D cyI cyB aO x1 false oI_1 oR_1 hw) y_X6_holdsAgainst rfl gX6_holds_X6_holdsAgainst rfl (ci := 6) (rq := 0) rfl rfl ⟨Nat.le_of_ble_eq_true rfl, Nat.le_of_ble_eq_true rfl⟩ ⟨Nat.zero_le _, Nat.zero_le _⟩ (Nat.le_of_ble_eq_true rfl) [] [] (by simp only [List.append_assoc, List.nil_append, List.append_nil]) (fun _ => rfl) (fun u => (wMo aO cyI oI_1 oR_1)) (fun u => (by simp only [List.append_assoc, List.nil_append, List.append_nil])) (fun r0 u hp => ?_)
  obtain ⟨b1, rfl, hw⟩ := hp
  obtain ⟨hwt, hwf⟩ := hw
  refine z_ifeqB F dX6_holds_10 26 rfl 13 rfl (fun c1 => ?_) (fun c1 => ?_)
  · have hw := hwt c1; clear hwt hwf
    refine z_iconst F dX6_holds_26 27 rfl zki_0 ?_
    exact hRt 27 _ false (oI_1, oR_1) dX6_holds_27 ⟨false, rfl, hw⟩
  · have hw := hwf c1; clear hwt hwf
    refine z_aload_n F dX6_holds_13 14 rfl 0 rfl ?_
    refine z_iload_n F dX6_holds_14 15 rfl 2 rfl ?_
    refine z_iconst F dX6_holds_15 16 rfl zki_1 ?_
    refine z_segVi (As := [.int x2, .int 1]) (st := []) F dX6_holds_16 19 rfl (mX6_holdsAgainst C.1.2.1 D cyI cyB aO x2 true oI_1 oR_1 hw) y_X6_holdsAgainst rfl gX6_holds_X6_holdsAgainst rfl (ci := 6) (rq := 0) rfl rfl ⟨Nat.le_of_ble_eq_true rfl, Nat.le_of_ble_eq_true rfl⟩ ⟨Nat.zero_le _, Nat.zero_le _⟩ (Nat.le_of_ble_eq_true rfl) [] [] (by simp only [List.append_assoc, List.nil_append, List.append_nil]) (fun _ => rfl) (fun u => (wMo aO cyI oI_1 oR_1)) (fun u => (by simp only [List.append_assoc, List.nil_append, List.append_nil])) (fun r0 u hp => ?_)
    obtain ⟨b2, rfl, hw⟩ := hp
    obtain ⟨hwt, hwf⟩ := hw
    refine z_ifeqB F dX6_holds_19 26 rfl 22 rfl (fun c2 => ?_) (fun c2 => ?_)
    · have hw := hwt c2; clear hwt hwf
      refine z_iconst F dX6_holds_26 27 rfl zki_0 ?_
      exact hRt 27 _ false (oI_1, oR_1) dX6_holds_27 ⟨false, rfl, hw⟩
    · have hw := hwf c2; clear hwt hwf
      refine z_iconst F dX6_holds_22 23 rfl zki_1 ?_
      refine z_goto F dX6_holds_23 27 rfl ?_
      exact hRt 27 _ true (oI_1, oR_1) dX6_holds_27 ⟨true, rfl, hw⟩
set_option maxHeartbeats 4000000 in
set_option maxRecDepth 100000 in
theorem mX6_holds (l : Launch) (D : va_G) (cyI cyB : ClassId) (aO : Nat → Nat) (x1 : Int32) (x2 : Int32) (oI : Nat → Int32) (oR : Nat → Nat → Int32) {post : Bool → (Nat → Int32) → (Nat → Nat → Int32) → Prop} (hw : pX6_holds x1 x2 oI oR post) : zMi l yX6_holds wsX6_holds 4 95 D cyI cyB [.ref (aO 0), .int x1, .int x2] (wMo aO cyI oI oR) (S := ((Nat → Int32) × (Nat → Nat → Int32))) (fun u => (wMo aO cyI u.1 u.2)) (fun r u => ∃ b : Bool, r = zb b ∧ post b u.1 u.2) :=
  z_metz (cc := cX6_holds) (nL := 3) (by decide +kernel) rfl (Nat.le_of_ble_eq_true rfl) (fun C hl F hRt => xX6_holds_0 x1 x2 oI oR F hRt hw)
theorem y_X6_holds : zY yX6_holds wsX6_holds cX6_holds 3 (some .boolean) 2 := ⟨⟨_, rfl⟩, by decide +kernel⟩
set_option maxHeartbeats 4000000 in
set_option maxRecDepth 100000 in
theorem xX6_stays_0 {C : zC} {D : va_G} {cyI cyB : ClassId} {aO : Nat → Nat} (x1 : Int32) (oI : Nat → Int32) (oR : Nat → Nat → Int32) (F : zF C D { frames := 4, cells := 0, slots := 0, locals := 95 } cX6_stays 3 wsX6_stays RX6 (some .int) cyI cyB) {post : Int32 → (Nat → Int32) → (Nat → Nat → Int32) → Prop} (hRt : zRi C D cX6_stays 3 (S := ((Nat → Int32) × (Nat → Nat → Int32))) (fun u => (wMo aO cyI u.1 u.2)) (fun r u => post r u.1 u.2)) (hw : pX6_stays x1 oI oR post) : zX C D 3 0 0 (wMo aO cyI oI oR) 0 [(0, .ref (aO 0)), (1, .int x1)] [] := by
  refine z_iload_n F dX6_stays_0 1 rfl 1 rfl ?_
  refine z_iconst F dX6_stays_1 2 rfl zki_0 ?_
  refine z_bipush F dX6_stays_2 4 rfl zkb_8 ?_
  refine z_callSi (As := [.int x1, .int 0, .int 8]) (st := []) F dX6_stays_4 7 rfl (mX6_bound C.1.2.1 D cyI cyB x1 0 8 hw) y_X6_bound rfl gX6_stays_X6_bound ⟨Nat.le_of_ble_eq_true rfl, Nat.le_of_ble_eq_true rfl⟩ ⟨Nat.zero_le _, Nat.zero_le _⟩ (Nat.le_of_ble_eq_true rfl) [] (by decide) rfl (fun _ => rfl) (fun u => (wMo aO cyI oI oR)) (fun _ => rfl) (fun r1 u hp => ?_)
  replace hw := hp
  clear hp
  refine z_istore_n (lv' := [(2, .int r1), (0, .ref (aO 0)), (1, .int x1)]) F dX6_stays_7 8 rfl (by decide) rfl ?_
  refine z_iload_n F dX6_stays_8 9 rfl 0 rfl ?_
  obtain ⟨hwt, hwf⟩ := hw
  refine z_ifeq F dX6_stays_9 18 rfl 12 rfl (fun c1 => ?_) (fun c1 => ?_)
  · have hw := hwt c1; clear hwt hwf
    refine z_aload_n F dX6_stays_18 19 rfl 1 rfl ?_
    refine z_segVv (As := []) (st := []) F dX6_stays_19 22 rfl (mX6_findKnown C.1.2.1 D cyI cyB aO oI oR hw) y_X6_findKnown rfl gX6_stays_X6_findKnown rfl (ci := 6) (rq := 0) rfl rfl ⟨Nat.le_of_ble_eq_true rfl, Nat.le_of_ble_eq_true rfl⟩ ⟨Nat.zero_le _, Nat.zero_le _⟩ (Nat.le_of_ble_eq_true rfl) [] [] (by simp only [List.append_assoc, List.nil_append, List.append_nil]) (fun _ => rfl) (fun u => (wMo aO cyI u.1 u.2)) (fun u => (by simp only [List.append_assoc, List.nil_append, List.append_nil])) (fun u hp => ?_)
    obtain ⟨oI_1, oR_1⟩ := u
    replace hw := hp
    clear hp
    refine z_aload_n F dX6_stays_22 23 rfl 1 rfl ?_
    refine z_iload_n F dX6_stays_23 24 rfl 2 rfl ?_
    refine z_iconst F dX6_stays_24 25 rfl zki_0 ?_
    refine z_segVi (As := [.int x1, .int 0]) (st := []) F dX6_stays_25 28 rfl (mX6_holdsAgainst C.1.2.1 D cyI cyB aO x1 false oI_1 oR_1 hw) y_X6_holdsAgainst rfl gX6_stays_X6_holdsAgainst rfl (ci := 6) (rq := 0) rfl rfl ⟨Nat.le_of_ble_eq_true rfl, Nat.le_of_ble_eq_true rfl⟩ ⟨Nat.zero_le _, Nat.zero_le _⟩ (Nat.le_of_ble_eq_true rfl) [] [] (by simp only [List.append_assoc, List.nil_append, List.append_nil]) (fun _ => rfl) (fun u => (wMo aO cyI oI_1 oR_1)) (fun u => (by simp only [List.append_assoc, List.nil_append, List.append_nil])) (fun r0 u hp => ?_)
    obtain ⟨b1, rfl, hw⟩ := hp
    obtain ⟨hwt, hwf⟩ := hw
    refine z_ifeqB F dX6_stays_28 35 rfl 31 rfl (fun c2 => ?_) (fun c2 => ?_)
    · have hw := hwt c2; clear hwt hwf
      refine z_iconst F dX6_stays_35 36 rfl zki_0 ?_
      exact hRt 36 _ 0 (oI_1, oR_1) dX6_stays_36 hw
    · have hw := hwf c2; clear hwt hwf
      refine z_iconst F dX6_stays_31 32 rfl zki_1 ?_
      refine z_goto F dX6_stays_32 36 rfl ?_
      exact hRt 36 _ 1 (oI_1, oR_1) dX6_stays_36 hw
  · have hw := hwf c1; clear hwt hwf
    refine z_aload_n F dX6_stays_12 13 rfl 1 rfl ?_
    refine z_iload_n F dX6_stays_13 14 rfl 0 rfl ?_
    refine z_segVi (As := [.int r1]) (st := []) F dX6_stays_14 17 rfl (mX6_no C.1.2.1 D cyI cyB aO r1 oI oR hw) y_X6_no rfl gX6_stays_X6_no rfl (ci := 6) (rq := 0) rfl rfl ⟨Nat.le_of_ble_eq_true rfl, Nat.le_of_ble_eq_true rfl⟩ ⟨Nat.zero_le _, Nat.zero_le _⟩ (Nat.le_of_ble_eq_true rfl) [] [] (by simp only [List.append_assoc, List.nil_append, List.append_nil]) (fun _ => rfl) (fun u => (wMo aO cyI u.1 u.2)) (fun u => (by simp only [List.append_assoc, List.nil_append, List.append_nil])) (fun r2 u hp => ?_)
    obtain ⟨oI_2, oR_2⟩ := u
    replace hw := hp
    clear hp
    exact hRt 17 _ r2 (oI_2, oR_2) dX6_stays_17 hw
set_option maxHeartbeats 4000000 in
set_option maxRecDepth 100000 in
theorem mX6_stays (l : Launch) (D : va_G) (cyI cyB : ClassId) (aO : Nat → Nat) (x1 : Int32) (oI : Nat → Int32) (oR : Nat → Nat → Int32) {post : Int32 → (Nat → Int32) → (Nat → Nat → Int32) → Prop} (hw : pX6_stays x1 oI oR post) : zMi l yX6_stays wsX6_stays 4 95 D cyI cyB [.ref (aO 0), .int x1] (wMo aO cyI oI oR) (S := ((Nat → Int32) × (Nat → Nat → Int32))) (fun u => (wMo aO cyI u.1 u.2)) (fun r u => post r u.1 u.2) :=
  z_meti (cc := cX6_stays) (nL := 3) (by decide +kernel) rfl (Nat.le_of_ble_eq_true rfl) (fun C hl F hRt => xX6_stays_0 x1 oI oR F hRt hw)
theorem y_X6_stays : zY yX6_stays wsX6_stays cX6_stays 3 (some .int) 1 := ⟨⟨_, rfl⟩, by decide +kernel⟩
set_option maxHeartbeats 4000000 in
set_option maxRecDepth 100000 in
theorem xX6_safe_0 {C : zC} {D : va_G} {cyI cyB : ClassId} {aO : Nat → Nat} (x1 : Int32) (oI : Nat → Int32) (oR : Nat → Nat → Int32) (F : zF C D { frames := 4, cells := 0, slots := 0, locals := 95 } cX6_safe 3 wsX6_safe RX6 (some .int) cyI cyB) {post : Int32 → (Nat → Int32) → (Nat → Nat → Int32) → Prop} (hRt : zRi C D cX6_safe 3 (S := ((Nat → Int32) × (Nat → Nat → Int32))) (fun u => (wMo aO cyI u.1 u.2)) (fun r u => post r u.1 u.2)) (hw : pX6_safe x1 oI oR post) : zX C D 3 0 0 (wMo aO cyI oI oR) 0 [(0, .ref (aO 0)), (1, .int x1)] [] := by
  refine z_iload_n F dX6_safe_0 1 rfl 1 rfl ?_
  refine z_iconst F dX6_safe_1 2 rfl zki_0 ?_
  refine z_bipush F dX6_safe_2 4 rfl zkb_8 ?_
  refine z_callSi (As := [.int x1, .int 0, .int 8]) (st := []) F dX6_safe_4 7 rfl (mX6_bound C.1.2.1 D cyI cyB x1 0 8 hw) y_X6_bound rfl gX6_safe_X6_bound ⟨Nat.le_of_ble_eq_true rfl, Nat.le_of_ble_eq_true rfl⟩ ⟨Nat.zero_le _, Nat.zero_le _⟩ (Nat.le_of_ble_eq_true rfl) [] (by decide) rfl (fun _ => rfl) (fun u => (wMo aO cyI oI oR)) (fun _ => rfl) (fun r1 u hp => ?_)
  replace hw := hp
  clear hp
  refine z_istore_n (lv' := [(2, .int r1), (0, .ref (aO 0)), (1, .int x1)]) F dX6_safe_7 8 rfl (by decide) rfl ?_
  refine z_iload_n F dX6_safe_8 9 rfl 0 rfl ?_
  obtain ⟨hwt, hwf⟩ := hw
  refine z_ifeq F dX6_safe_9 18 rfl 12 rfl (fun c1 => ?_) (fun c1 => ?_)
  · have hw := hwt c1; clear hwt hwf
    refine z_aload_n F dX6_safe_18 19 rfl 1 rfl ?_
    refine z_segVv (As := []) (st := []) F dX6_safe_19 22 rfl (mX6_findKnown C.1.2.1 D cyI cyB aO oI oR hw) y_X6_findKnown rfl gX6_safe_X6_findKnown rfl (ci := 6) (rq := 0) rfl rfl ⟨Nat.le_of_ble_eq_true rfl, Nat.le_of_ble_eq_true rfl⟩ ⟨Nat.zero_le _, Nat.zero_le _⟩ (Nat.le_of_ble_eq_true rfl) [] [] (by simp only [List.append_assoc, List.nil_append, List.append_nil]) (fun _ => rfl) (fun u => (wMo aO cyI u.1 u.2)) (fun u => (by simp only [List.append_assoc, List.nil_append, List.append_nil])) (fun u hp => ?_)
    obtain ⟨oI_1, oR_1⟩ := u
    replace hw := hp
    clear hp
    refine z_aload_n F dX6_safe_22 23 rfl 1 rfl ?_
    refine z_iload_n F dX6_safe_23 24 rfl 2 rfl ?_
    refine z_iconst F dX6_safe_24 25 rfl zki_1 ?_
    refine z_segVi (As := [.int x1, .int 1]) (st := []) F dX6_safe_25 28 rfl (mX6_holdsAgainst C.1.2.1 D cyI cyB aO x1 true oI_1 oR_1 hw) y_X6_holdsAgainst rfl gX6_safe_X6_holdsAgainst rfl (ci := 6) (rq := 0) rfl rfl ⟨Nat.le_of_ble_eq_true rfl, Nat.le_of_ble_eq_true rfl⟩ ⟨Nat.zero_le _, Nat.zero_le _⟩ (Nat.le_of_ble_eq_true rfl) [] [] (by simp only [List.append_assoc, List.nil_append, List.append_nil]) (fun _ => rfl) (fun u => (wMo aO cyI oI_1 oR_1)) (fun u => (by simp only [List.append_assoc, List.nil_append, List.append_nil])) (fun r0 u hp => ?_)
    obtain ⟨b1, rfl, hw⟩ := hp
    obtain ⟨hwt, hwf⟩ := hw
    refine z_ifeqB F dX6_safe_28 35 rfl 31 rfl (fun c2 => ?_) (fun c2 => ?_)
    · have hw := hwt c2; clear hwt hwf
      refine z_iconst F dX6_safe_35 36 rfl zki_0 ?_
      exact hRt 36 _ 0 (oI_1, oR_1) dX6_safe_36 hw
    · have hw := hwf c2; clear hwt hwf
      refine z_iconst F dX6_safe_31 32 rfl zki_1 ?_
      refine z_goto F dX6_safe_32 36 rfl ?_
      exact hRt 36 _ 1 (oI_1, oR_1) dX6_safe_36 hw
  · have hw := hwf c1; clear hwt hwf
    refine z_aload_n F dX6_safe_12 13 rfl 1 rfl ?_
    refine z_iload_n F dX6_safe_13 14 rfl 0 rfl ?_
    refine z_segVi (As := [.int r1]) (st := []) F dX6_safe_14 17 rfl (mX6_no C.1.2.1 D cyI cyB aO r1 oI oR hw) y_X6_no rfl gX6_safe_X6_no rfl (ci := 6) (rq := 0) rfl rfl ⟨Nat.le_of_ble_eq_true rfl, Nat.le_of_ble_eq_true rfl⟩ ⟨Nat.zero_le _, Nat.zero_le _⟩ (Nat.le_of_ble_eq_true rfl) [] [] (by simp only [List.append_assoc, List.nil_append, List.append_nil]) (fun _ => rfl) (fun u => (wMo aO cyI u.1 u.2)) (fun u => (by simp only [List.append_assoc, List.nil_append, List.append_nil])) (fun r2 u hp => ?_)
    obtain ⟨oI_2, oR_2⟩ := u
    replace hw := hp
    clear hp
    exact hRt 17 _ r2 (oI_2, oR_2) dX6_safe_17 hw
set_option maxHeartbeats 4000000 in
set_option maxRecDepth 100000 in
theorem mX6_safe (l : Launch) (D : va_G) (cyI cyB : ClassId) (aO : Nat → Nat) (x1 : Int32) (oI : Nat → Int32) (oR : Nat → Nat → Int32) {post : Int32 → (Nat → Int32) → (Nat → Nat → Int32) → Prop} (hw : pX6_safe x1 oI oR post) : zMi l yX6_safe wsX6_safe 4 95 D cyI cyB [.ref (aO 0), .int x1] (wMo aO cyI oI oR) (S := ((Nat → Int32) × (Nat → Nat → Int32))) (fun u => (wMo aO cyI u.1 u.2)) (fun r u => post r u.1 u.2) :=
  z_meti (cc := cX6_safe) (nL := 3) (by decide +kernel) rfl (Nat.le_of_ble_eq_true rfl) (fun C hl F hRt => xX6_safe_0 x1 oI oR F hRt hw)
theorem y_X6_safe : zY yX6_safe wsX6_safe cX6_safe 3 (some .int) 1 := ⟨⟨_, rfl⟩, by decide +kernel⟩
theorem iX6_fewest_6 : ∀ w ∈ wsX60, w ∈ wsX6_fewest := fun w h => List.mem_cons_of_mem _ (List.mem_append_right _ h)
theorem kX6_fewest_72 : zL wsX6_fewest RX6 72 6 11 .int false := zL6 iX6_fewest_6 (by decide) (List.mem_of_getElem? (i := 1) rfl) rfl rfl
set_option maxHeartbeats 4000000 in
set_option maxRecDepth 100000 in
theorem xX6_fewest_54 {C : zC} {D : va_G} {cyI cyB : ClassId} {aO : Nat → Nat} (x1 : Int32) (x2 : Int32) (x3 : Int32) (x4 : Int32) (oI : Nat → Int32) (oR : Nat → Nat → Int32) (F : zF C D { frames := 3, cells := 0, slots := 0, locals := 70 } cX6_fewest 5 wsX6_fewest RX6 (some .int) cyI cyB) {post : Int32 → (Nat → Int32) → (Nat → Nat → Int32) → Prop} (hRt : zRi C D cX6_fewest 5 (S := ((Nat → Int32) × (Nat → Nat → Int32))) (fun u => (wMo aO cyI u.1 u.2)) (fun r u => post r u.1 u.2)) {q15 : Int32 → Int32 → (Nat → Int32) → (Nat → Nat → Int32) → Prop} (hq15 : ∀ (w3 : Int32) (w4 : Int32) (oI : Nat → Int32) (oR : Nat → Nat → Int32), q15 w3 w4 oI oR → zX C D 5 0 0 (wMo aO cyI oI oR) 15 [(0, .ref (aO 0)), (1, .int x1), (2, .int x2), (3, .int w3), (4, .int w4)] []) (hw : bX6_fewest_54 x1 x2 x3 x4 oI oR post q15 ) : zX C D 5 0 0 (wMo aO cyI oI oR) 54 [(0, .ref (aO 0)), (1, .int x1), (2, .int x2), (3, .int x3), (4, .int x4)] [] := by
  refine z_iload_n F dX6_fewest_54 55 rfl 1 rfl ?_
  obtain ⟨hwt, hwf⟩ := hw
  refine z_ifeq F dX6_fewest_55 71 rfl 58 rfl (fun c4 => ?_) (fun c4 => ?_)
  · have hw := hwt c4; clear hwt hwf
    refine z_aload_n F dX6_fewest_71 72 rfl 0 rfl ?_
    refine z_iload F dX6_fewest_72 74 rfl 4 rfl ?_
    refine z_iload_n F dX6_fewest_74 75 rfl 2 rfl ?_
    refine z_segVi (As := [.int x4, .int x2]) (st := []) F dX6_fewest_75 78 rfl (mX6_losesIt C.1.2.1 D cyI cyB aO x4 x2 oI oR hw) y_X6_losesIt rfl gX6_fewest_X6_losesIt rfl (ci := 6) (rq := 0) rfl rfl ⟨Nat.le_of_ble_eq_true rfl, Nat.le_of_ble_eq_true rfl⟩ ⟨Nat.zero_le _, Nat.zero_le _⟩ (Nat.le_of_ble_eq_true rfl) [] [] (by simp only [List.append_assoc, List.nil_append, List.append_nil]) (fun _ => rfl) (fun u => (wMo aO cyI oI oR)) (fun u => (by simp only [List.append_assoc, List.nil_append, List.append_nil])) (fun r0 u hp => ?_)
    obtain ⟨b1, rfl, hw⟩ := hp
    obtain ⟨hwt, hwf⟩ := hw
    refine z_ifeqB F dX6_fewest_78 84 rfl 81 rfl (fun c5 => ?_) (fun c5 => ?_)
    · have hw := hwt c5; clear hwt hwf
      refine z_iinc F dX6_fewest_84 87 rfl 4 rfl (by decide) zki_1 (fun v2 => [(4, .int v2), (0, .ref (aO 0)), (1, .int x1), (2, .int x2), (3, .int x3)]) (fun _ => rfl) (fun v2 ev2 => ?_)
      replace hw := hw v2 ev2
      refine z_goto F dX6_fewest_87 15 rfl ?_
      refine z_lv (lv' := [(0, .ref (aO 0)), (1, .int x1), (2, .int x2), (3, .int x3), (4, .int v2)]) [1, 2, 3, 4, 0] rfl ?_
      exact hq15 x3 v2 oI oR hw
    · have hw := hwf c5; clear hwt hwf
      refine z_iload F dX6_fewest_81 83 rfl 4 rfl ?_
      refine z_istore_n (lv' := [(3, .int x4), (0, .ref (aO 0)), (1, .int x1), (2, .int x2), (4, .int x4)]) F dX6_fewest_83 84 rfl (by decide) rfl ?_
      refine z_iinc F dX6_fewest_84 87 rfl 4 rfl (by decide) zki_1 (fun v3 => [(4, .int v3), (3, .int x4), (0, .ref (aO 0)), (1, .int x1), (2, .int x2)]) (fun _ => rfl) (fun v3 ev3 => ?_)
      replace hw := hw v3 ev3
      refine z_goto F dX6_fewest_87 15 rfl ?_
      refine z_lv (lv' := [(0, .ref (aO 0)), (1, .int x1), (2, .int x2), (3, .int x4), (4, .int v3)]) [2, 3, 4, 1, 0] rfl ?_
      exact hq15 x4 v3 oI oR hw
  · have hw := hwf c4; clear hwt hwf
    refine z_aload_n F dX6_fewest_58 59 rfl 0 rfl ?_
    refine z_iload F dX6_fewest_59 61 rfl 4 rfl ?_
    refine z_iload_n F dX6_fewest_61 62 rfl 2 rfl ?_
    refine z_segVi (As := [.int x4, .int x2]) (st := []) F dX6_fewest_62 65 rfl (mX6_carriesIt C.1.2.1 D cyI cyB aO x4 x2 oI oR hw) y_X6_carriesIt rfl gX6_fewest_X6_carriesIt rfl (ci := 6) (rq := 0) rfl rfl ⟨Nat.le_of_ble_eq_true rfl, Nat.le_of_ble_eq_true rfl⟩ ⟨Nat.zero_le _, Nat.zero_le _⟩ (Nat.le_of_ble_eq_true rfl) [] [] (by simp only [List.append_assoc, List.nil_append, List.append_nil]) (fun _ => rfl) (fun u => (wMo aO cyI oI oR)) (fun u => (by simp only [List.append_assoc, List.nil_append, List.append_nil])) (fun r0 u hp => ?_)
    obtain ⟨b2, rfl, hw⟩ := hp
    obtain ⟨hwt, hwf⟩ := hw
    refine z_ifeqB F dX6_fewest_65 84 rfl 68 rfl (fun c6 => ?_) (fun c6 => ?_)
    · have hw := hwt c6; clear hwt hwf
      refine z_iinc F dX6_fewest_84 87 rfl 4 rfl (by decide) zki_1 (fun v4 => [(4, .int v4), (0, .ref (aO 0)), (1, .int x1), (2, .int x2), (3, .int x3)]) (fun _ => rfl) (fun v4 ev4 => ?_)
      replace hw := hw v4 ev4
      refine z_goto F dX6_fewest_87 15 rfl ?_
      refine z_lv (lv' := [(0, .ref (aO 0)), (1, .int x1), (2, .int x2), (3, .int x3), (4, .int v4)]) [1, 2, 3, 4, 0] rfl ?_
      exact hq15 x3 v4 oI oR hw
    · have hw := hwf c6; clear hwt hwf
      refine z_goto F dX6_fewest_68 81 rfl ?_
      refine z_iload F dX6_fewest_81 83 rfl 4 rfl ?_
      refine z_istore_n (lv' := [(3, .int x4), (0, .ref (aO 0)), (1, .int x1), (2, .int x2), (4, .int x4)]) F dX6_fewest_83 84 rfl (by decide) rfl ?_
      refine z_iinc F dX6_fewest_84 87 rfl 4 rfl (by decide) zki_1 (fun v5 => [(4, .int v5), (3, .int x4), (0, .ref (aO 0)), (1, .int x1), (2, .int x2)]) (fun _ => rfl) (fun v5 ev5 => ?_)
      replace hw := hw v5 ev5
      refine z_goto F dX6_fewest_87 15 rfl ?_
      refine z_lv (lv' := [(0, .ref (aO 0)), (1, .int x1), (2, .int x2), (3, .int x4), (4, .int v5)]) [2, 3, 4, 1, 0] rfl ?_
      exact hq15 x4 v5 oI oR hw
set_option maxHeartbeats 4000000 in
set_option maxRecDepth 100000 in
theorem xX6_fewest_15 {C : zC} {D : va_G} {cyI cyB : ClassId} {aO : Nat → Nat} (x1 : Int32) (x2 : Int32) (F : zF C D { frames := 3, cells := 0, slots := 0, locals := 70 } cX6_fewest 5 wsX6_fewest RX6 (some .int) cyI cyB) {post : Int32 → (Nat → Int32) → (Nat → Nat → Int32) → Prop} (hRt : zRi C D cX6_fewest 5 (S := ((Nat → Int32) × (Nat → Nat → Int32))) (fun u => (wMo aO cyI u.1 u.2)) (fun r u => post r u.1 u.2)) : ∀ (n : Nat) (x3 : Int32) (x4 : Int32) (oI : Nat → Int32) (oR : Nat → Nat → Int32), bX6_fewest_15 x1 x2 post  n x3 x4 oI oR → zX C D 5 0 0 (wMo aO cyI oI oR) 15 [(0, .ref (aO 0)), (1, .int x1), (2, .int x2), (3, .int x3), (4, .int x4)] [] := by
  intro n
  induction n with
  | zero => intro _ _ _ _ hw; exact hw.elim
  | succ n ih =>
    intro x3 x4 oI oR hw
    refine z_iload F dX6_fewest_15 17 rfl 4 rfl ?_
    refine z_iconst F dX6_fewest_17 18 rfl zki_1 ?_
    refine z_aload_n F dX6_fewest_18 19 rfl 0 rfl ?_
    refine z_get F dX6_fewest_19 22 rfl kX6_fewest_72 0 rfl rfl ?_
    refine z_ishl F dX6_fewest_22 23 rfl ?_
    obtain ⟨hwt, hwf⟩ := hw
    refine z_icmpge F dX6_fewest_23 90 rfl 26 rfl (fun c1 => ?_) (fun c1 => ?_)
    · have hw := hwt c1; clear hwt hwf
      refine z_iload_n F dX6_fewest_90 91 rfl 3 rfl ?_
      exact hRt 91 _ x3 (oI, oR) dX6_fewest_91 hw
    · have hw := hwf c1; clear hwt hwf
      refine z_iload F dX6_fewest_26 28 rfl 4 rfl ?_
      refine z_iload_n F dX6_fewest_28 29 rfl 2 rfl ?_
      refine z_iconst F dX6_fewest_29 30 rfl zki_m1 ?_
      refine z_ixor F dX6_fewest_30 31 rfl ?_
      refine z_iand F dX6_fewest_31 32 rfl ?_
      obtain ⟨hwt, hwf⟩ := hw
      refine z_ifne F dX6_fewest_32 84 rfl 35 rfl (fun c2 => ?_) (fun c2 => ?_)
      · have hw := hwt c2; clear hwt hwf
        refine z_iinc F dX6_fewest_84 87 rfl 4 rfl (by decide) zki_1 (fun v1 => [(4, .int v1), (0, .ref (aO 0)), (1, .int x1), (2, .int x2), (3, .int x3)]) (fun _ => rfl) (fun v1 ev1 => ?_)
        replace hw := hw v1 ev1
        refine z_goto F dX6_fewest_87 15 rfl ?_
        refine z_lv (lv' := [(0, .ref (aO 0)), (1, .int x1), (2, .int x2), (3, .int x3), (4, .int v1)]) [1, 2, 3, 4, 0] rfl ?_
        exact ih x3 v1 oI oR hw
      · have hw := hwf c2; clear hwt hwf
        refine z_iload_n F dX6_fewest_35 36 rfl 3 rfl ?_
        obtain ⟨hwt, hwf⟩ := hw
        refine z_iflt F dX6_fewest_36 54 rfl 39 rfl (fun c3 => ?_) (fun c3 => ?_)
        · have hw := hwt c3; clear hwt hwf
          exact xX6_fewest_54 x1 x2 x3 x4 oI oR F hRt ih hw
        · have hw := hwf c3; clear hwt hwf
          refine z_iload F dX6_fewest_39 41 rfl 4 rfl ?_
          refine z_callSi (As := [.int x4]) (st := []) F dX6_fewest_41 44 rfl (mX6_bits C.1.2.1 D cyI cyB x4 hw) y_X6_bits rfl gX6_fewest_X6_bits ⟨Nat.le_of_ble_eq_true rfl, Nat.le_of_ble_eq_true rfl⟩ ⟨Nat.zero_le _, Nat.zero_le _⟩ (Nat.le_of_ble_eq_true rfl) [] (by decide) rfl (fun _ => rfl) (fun u => (wMo aO cyI oI oR)) (fun _ => rfl) (fun r2 u hp => ?_)
          replace hw := hp
          clear hp
          refine z_iload_n F dX6_fewest_44 45 rfl 3 rfl ?_
          refine z_callSi (As := [.int x3]) (st := [.int r2]) F dX6_fewest_45 48 rfl (mX6_bits C.1.2.1 D cyI cyB x3 hw) y_X6_bits rfl gX6_fewest_X6_bits ⟨Nat.le_of_ble_eq_true rfl, Nat.le_of_ble_eq_true rfl⟩ ⟨Nat.zero_le _, Nat.zero_le _⟩ (Nat.le_of_ble_eq_true rfl) [] (by decide) rfl (fun _ => rfl) (fun u => (wMo aO cyI oI oR)) (fun _ => rfl) (fun r3 u hp => ?_)
          replace hw := hp
          clear hp
          obtain ⟨hwt, hwf⟩ := hw
          refine z_icmplt F dX6_fewest_48 54 rfl 51 rfl (fun c4 => ?_) (fun c4 => ?_)
          · have hw := hwt c4; clear hwt hwf
            exact xX6_fewest_54 x1 x2 x3 x4 oI oR F hRt ih hw
          · have hw := hwf c4; clear hwt hwf
            refine z_goto F dX6_fewest_51 84 rfl ?_
            refine z_iinc F dX6_fewest_84 87 rfl 4 rfl (by decide) zki_1 (fun v2 => [(4, .int v2), (0, .ref (aO 0)), (1, .int x1), (2, .int x2), (3, .int x3)]) (fun _ => rfl) (fun v2 ev2 => ?_)
            replace hw := hw v2 ev2
            refine z_goto F dX6_fewest_87 15 rfl ?_
            refine z_lv (lv' := [(0, .ref (aO 0)), (1, .int x1), (2, .int x2), (3, .int x3), (4, .int v2)]) [1, 2, 3, 4, 0] rfl ?_
            exact ih x3 v2 oI oR hw
set_option maxHeartbeats 4000000 in
set_option maxRecDepth 100000 in
theorem xX6_fewest_0 {C : zC} {D : va_G} {cyI cyB : ClassId} {aO : Nat → Nat} (z1 : Bool) (oI : Nat → Int32) (oR : Nat → Nat → Int32) (F : zF C D { frames := 3, cells := 0, slots := 0, locals := 70 } cX6_fewest 5 wsX6_fewest RX6 (some .int) cyI cyB) {post : Int32 → (Nat → Int32) → (Nat → Nat → Int32) → Prop} (hRt : zRi C D cX6_fewest 5 (S := ((Nat → Int32) × (Nat → Nat → Int32))) (fun u => (wMo aO cyI u.1 u.2)) (fun r u => post r u.1 u.2)) (hw : pX6_fewest z1 oI oR post) : zX C D 5 0 0 (wMo aO cyI oI oR) 0 [(0, .ref (aO 0)), (1, .int (zb z1))] [] := by
  refine z_aload_n F dX6_fewest_0 1 rfl 0 rfl ?_
  refine z_segVv (As := []) (st := []) F dX6_fewest_1 4 rfl (mX6_findKnown C.1.2.1 D cyI cyB aO oI oR hw) y_X6_findKnown rfl gX6_fewest_X6_findKnown rfl (ci := 6) (rq := 0) rfl rfl ⟨Nat.le_of_ble_eq_true rfl, Nat.le_of_ble_eq_true rfl⟩ ⟨Nat.zero_le _, Nat.zero_le _⟩ (Nat.le_of_ble_eq_true rfl) [] [] (by simp only [List.append_assoc, List.nil_append, List.append_nil]) (fun _ => rfl) (fun u => (wMo aO cyI u.1 u.2)) (fun u => (by simp only [List.append_assoc, List.nil_append, List.append_nil])) (fun u hp => ?_)
  obtain ⟨oI_1, oR_1⟩ := u
  replace hw := hp
  clear hp
  refine z_aload_n F dX6_fewest_4 5 rfl 0 rfl ?_
  refine z_segVi (As := []) (st := []) F dX6_fewest_5 8 rfl (mX6_houseSet C.1.2.1 D cyI cyB aO oI_1 oR_1 hw) y_X6_houseSet rfl gX6_fewest_X6_houseSet rfl (ci := 6) (rq := 0) rfl rfl ⟨Nat.le_of_ble_eq_true rfl, Nat.le_of_ble_eq_true rfl⟩ ⟨Nat.zero_le _, Nat.zero_le _⟩ (Nat.le_of_ble_eq_true rfl) [] [] (by simp only [List.append_assoc, List.nil_append, List.append_nil]) (fun _ => rfl) (fun u => (wMo aO cyI oI_1 oR_1)) (fun u => (by simp only [List.append_assoc, List.nil_append, List.append_nil])) (fun r1 u hp => ?_)
  replace hw := hp
  clear hp
  refine z_istore_n (lv' := [(2, .int r1), (0, .ref (aO 0)), (1, .int (zb z1))]) F dX6_fewest_8 9 rfl (by decide) rfl ?_
  refine z_bipush F dX6_fewest_9 11 rfl zkb_m9 ?_
  refine z_istore_n (lv' := [(3, .int (-9)), (2, .int r1), (0, .ref (aO 0)), (1, .int (zb z1))]) F dX6_fewest_11 12 rfl (by decide) rfl ?_
  refine z_iconst F dX6_fewest_12 13 rfl zki_0 ?_
  refine z_istore (lv' := [(4, .int 0), (3, .int (-9)), (2, .int r1), (0, .ref (aO 0)), (1, .int (zb z1))]) F dX6_fewest_13 15 rfl (by decide) rfl ?_
  obtain ⟨n1, hw⟩ := hw
  refine z_lv (lv' := [(0, .ref (aO 0)), (1, .int (zb z1)), (2, .int r1), (3, .int (-9)), (4, .int 0)]) [3, 4, 2, 1, 0] rfl ?_
  refine xX6_fewest_15 (zb z1) r1 F hRt n1 (-9) 0 oI_1 oR_1 hw
set_option maxHeartbeats 4000000 in
set_option maxRecDepth 100000 in
theorem mX6_fewest (l : Launch) (D : va_G) (cyI cyB : ClassId) (aO : Nat → Nat) (z1 : Bool) (oI : Nat → Int32) (oR : Nat → Nat → Int32) {post : Int32 → (Nat → Int32) → (Nat → Nat → Int32) → Prop} (hw : pX6_fewest z1 oI oR post) : zMi l yX6_fewest wsX6_fewest 3 70 D cyI cyB [.ref (aO 0), .int (zb z1)] (wMo aO cyI oI oR) (S := ((Nat → Int32) × (Nat → Nat → Int32))) (fun u => (wMo aO cyI u.1 u.2)) (fun r u => post r u.1 u.2) :=
  z_meti (cc := cX6_fewest) (nL := 5) (by decide +kernel) rfl (Nat.le_of_ble_eq_true rfl) (fun C hl F hRt => xX6_fewest_0 z1 oI oR F hRt hw)
theorem y_X6_fewest : zY yX6_fewest wsX6_fewest cX6_fewest 5 (some .int) 1 := ⟨⟨_, rfl⟩, by decide +kernel⟩
set_option maxHeartbeats 4000000 in
set_option maxRecDepth 100000 in
theorem xX6_losers_0 {C : zC} {D : va_G} {cyI cyB : ClassId} {aO : Nat → Nat} (oI : Nat → Int32) (oR : Nat → Nat → Int32) (F : zF C D { frames := 4, cells := 0, slots := 0, locals := 94 } cX6_losers 1 wsX6_losers RX6 (some .int) cyI cyB) {post : Int32 → (Nat → Int32) → (Nat → Nat → Int32) → Prop} (hRt : zRi C D cX6_losers 1 (S := ((Nat → Int32) × (Nat → Nat → Int32))) (fun u => (wMo aO cyI u.1 u.2)) (fun r u => post r u.1 u.2)) (hw : pX6_losers oI oR post) : zX C D 1 0 0 (wMo aO cyI oI oR) 0 [(0, .ref (aO 0))] [] := by
  refine z_aload_n F dX6_losers_0 1 rfl 0 rfl ?_
  refine z_iconst F dX6_losers_1 2 rfl zki_0 ?_
  refine z_segVi (As := [.int 0]) (st := []) F dX6_losers_2 5 rfl (mX6_fewest C.1.2.1 D cyI cyB aO false oI oR hw) y_X6_fewest rfl gX6_losers_X6_fewest rfl (ci := 6) (rq := 0) rfl rfl ⟨Nat.le_of_ble_eq_true rfl, Nat.le_of_ble_eq_true rfl⟩ ⟨Nat.zero_le _, Nat.zero_le _⟩ (Nat.le_of_ble_eq_true rfl) [] [] (by simp only [List.append_assoc, List.nil_append, List.append_nil]) (fun _ => rfl) (fun u => (wMo aO cyI u.1 u.2)) (fun u => (by simp only [List.append_assoc, List.nil_append, List.append_nil])) (fun r1 u hp => ?_)
  obtain ⟨oI_1, oR_1⟩ := u
  replace hw := hp
  clear hp
  exact hRt 5 _ r1 (oI_1, oR_1) dX6_losers_5 hw
set_option maxHeartbeats 4000000 in
set_option maxRecDepth 100000 in
theorem mX6_losers (l : Launch) (D : va_G) (cyI cyB : ClassId) (aO : Nat → Nat) (oI : Nat → Int32) (oR : Nat → Nat → Int32) {post : Int32 → (Nat → Int32) → (Nat → Nat → Int32) → Prop} (hw : pX6_losers oI oR post) : zMi l yX6_losers wsX6_losers 4 94 D cyI cyB [.ref (aO 0)] (wMo aO cyI oI oR) (S := ((Nat → Int32) × (Nat → Nat → Int32))) (fun u => (wMo aO cyI u.1 u.2)) (fun r u => post r u.1 u.2) :=
  z_meti (cc := cX6_losers) (nL := 1) (by decide +kernel) rfl (Nat.le_of_ble_eq_true rfl) (fun C hl F hRt => xX6_losers_0 oI oR F hRt hw)
theorem y_X6_losers : zY yX6_losers wsX6_losers cX6_losers 1 (some .int) 0 := ⟨⟨_, rfl⟩, by decide +kernel⟩
set_option maxHeartbeats 4000000 in
set_option maxRecDepth 100000 in
theorem xX6_carriers_0 {C : zC} {D : va_G} {cyI cyB : ClassId} {aO : Nat → Nat} (oI : Nat → Int32) (oR : Nat → Nat → Int32) (F : zF C D { frames := 4, cells := 0, slots := 0, locals := 94 } cX6_carriers 1 wsX6_carriers RX6 (some .int) cyI cyB) {post : Int32 → (Nat → Int32) → (Nat → Nat → Int32) → Prop} (hRt : zRi C D cX6_carriers 1 (S := ((Nat → Int32) × (Nat → Nat → Int32))) (fun u => (wMo aO cyI u.1 u.2)) (fun r u => post r u.1 u.2)) (hw : pX6_carriers oI oR post) : zX C D 1 0 0 (wMo aO cyI oI oR) 0 [(0, .ref (aO 0))] [] := by
  refine z_aload_n F dX6_carriers_0 1 rfl 0 rfl ?_
  refine z_iconst F dX6_carriers_1 2 rfl zki_1 ?_
  refine z_segVi (As := [.int 1]) (st := []) F dX6_carriers_2 5 rfl (mX6_fewest C.1.2.1 D cyI cyB aO true oI oR hw) y_X6_fewest rfl gX6_carriers_X6_fewest rfl (ci := 6) (rq := 0) rfl rfl ⟨Nat.le_of_ble_eq_true rfl, Nat.le_of_ble_eq_true rfl⟩ ⟨Nat.zero_le _, Nat.zero_le _⟩ (Nat.le_of_ble_eq_true rfl) [] [] (by simp only [List.append_assoc, List.nil_append, List.append_nil]) (fun _ => rfl) (fun u => (wMo aO cyI u.1 u.2)) (fun u => (by simp only [List.append_assoc, List.nil_append, List.append_nil])) (fun r1 u hp => ?_)
  obtain ⟨oI_1, oR_1⟩ := u
  replace hw := hp
  clear hp
  exact hRt 5 _ r1 (oI_1, oR_1) dX6_carriers_5 hw
set_option maxHeartbeats 4000000 in
set_option maxRecDepth 100000 in
theorem mX6_carriers (l : Launch) (D : va_G) (cyI cyB : ClassId) (aO : Nat → Nat) (oI : Nat → Int32) (oR : Nat → Nat → Int32) {post : Int32 → (Nat → Int32) → (Nat → Nat → Int32) → Prop} (hw : pX6_carriers oI oR post) : zMi l yX6_carriers wsX6_carriers 4 94 D cyI cyB [.ref (aO 0)] (wMo aO cyI oI oR) (S := ((Nat → Int32) × (Nat → Nat → Int32))) (fun u => (wMo aO cyI u.1 u.2)) (fun r u => post r u.1 u.2) :=
  z_meti (cc := cX6_carriers) (nL := 1) (by decide +kernel) rfl (Nat.le_of_ble_eq_true rfl) (fun C hl F hRt => xX6_carriers_0 oI oR F hRt hw)
theorem y_X6_carriers : zY yX6_carriers wsX6_carriers cX6_carriers 1 (some .int) 0 := ⟨⟨_, rfl⟩, by decide +kernel⟩
theorem iX6_keys_6 : ∀ w ∈ wsX60, w ∈ wsX6_keys := fun w h => List.mem_cons_of_mem _ (List.mem_append_right _ h)
theorem kX6_keys_72 : zL wsX6_keys RX6 72 6 11 .int false := zL6 iX6_keys_6 (by decide) (List.mem_of_getElem? (i := 1) rfl) rfl rfl
set_option maxHeartbeats 4000000 in
set_option maxRecDepth 100000 in
theorem xX6_keys_13 {C : zC} {D : va_G} {cyI cyB : ClassId} {aO : Nat → Nat} (x1 : Int32) (F : zF C D { frames := 3, cells := 0, slots := 0, locals := 70 } cX6_keys 4 wsX6_keys RX6 (some .int) cyI cyB) {post : Int32 → (Nat → Int32) → (Nat → Nat → Int32) → Prop} (hRt : zRi C D cX6_keys 4 (S := ((Nat → Int32) × (Nat → Nat → Int32))) (fun u => (wMo aO cyI u.1 u.2)) (fun r u => post r u.1 u.2)) : ∀ (n : Nat) (x2 : Int32) (x3 : Int32) (oI : Nat → Int32) (oR : Nat → Nat → Int32), bX6_keys_13 x1 post  n x2 x3 oI oR → zX C D 4 0 0 (wMo aO cyI oI oR) 13 [(0, .ref (aO 0)), (1, .int x1), (2, .int x2), (3, .int x3)] [] := by
  intro n
  induction n with
  | zero => intro _ _ _ _ hw; exact hw.elim
  | succ n ih =>
    intro x2 x3 oI oR hw
    refine z_iload_n F dX6_keys_13 14 rfl 3 rfl ?_
    refine z_aload_n F dX6_keys_14 15 rfl 0 rfl ?_
    refine z_get F dX6_keys_15 18 rfl kX6_keys_72 0 rfl rfl ?_
    obtain ⟨hwt, hwf⟩ := hw
    refine z_icmpge F dX6_keys_18 57 rfl 21 rfl (fun c1 => ?_) (fun c1 => ?_)
    · have hw := hwt c1; clear hwt hwf
      refine z_iload_n F dX6_keys_57 58 rfl 2 rfl ?_
      exact hRt 58 _ x2 (oI, oR) dX6_keys_58 hw
    · have hw := hwf c1; clear hwt hwf
      refine z_iload_n F dX6_keys_21 22 rfl 2 rfl ?_
      refine z_iload_n F dX6_keys_22 23 rfl 1 rfl ?_
      refine z_iload_n F dX6_keys_23 24 rfl 3 rfl ?_
      refine z_ishr F dX6_keys_24 25 rfl ?_
      refine z_iconst F dX6_keys_25 26 rfl zki_1 ?_
      refine z_iand F dX6_keys_26 27 rfl ?_
      refine z_iconst F dX6_keys_27 28 rfl zki_1 ?_
      obtain ⟨hwt, hwf⟩ := hw
      refine z_icmpne F dX6_keys_28 48 rfl 31 rfl (fun c2 => ?_) (fun c2 => ?_)
      · have hw := hwt c2; clear hwt hwf
        refine z_iconst F dX6_keys_48 49 rfl zki_0 ?_
        refine z_ior F dX6_keys_49 50 rfl ?_
        refine z_topi (fun v1 ev1 => ?_)
        replace hw := hw v1 ev1
        refine z_istore_n (lv' := [(2, .int v1), (0, .ref (aO 0)), (1, .int x1), (3, .int x3)]) F dX6_keys_50 51 rfl (by decide) rfl ?_
        refine z_iinc F dX6_keys_51 54 rfl 3 rfl (by decide) zki_1 (fun v2 => [(3, .int v2), (2, .int v1), (0, .ref (aO 0)), (1, .int x1)]) (fun _ => rfl) (fun v2 ev2 => ?_)
        replace hw := hw v2 ev2
        refine z_goto F dX6_keys_54 13 rfl ?_
        refine z_lv (lv' := [(0, .ref (aO 0)), (1, .int x1), (2, .int v1), (3, .int v2)]) [2, 3, 1, 0] rfl ?_
        exact ih v1 v2 oI oR hw
      · have hw := hwf c2; clear hwt hwf
        refine z_aload_n F dX6_keys_31 32 rfl 0 rfl ?_
        refine z_iconst F dX6_keys_32 33 rfl zki_1 ?_
        refine z_iload_n F dX6_keys_33 34 rfl 3 rfl ?_
        refine z_ishl F dX6_keys_34 35 rfl ?_
        refine z_iload_n F dX6_keys_35 36 rfl 1 rfl ?_
        refine z_segVi (As := [.int (1 <<< (x3 &&& 31)), .int x1]) (st := [.int x2]) F dX6_keys_36 39 rfl (mX6_losesIt C.1.2.1 D cyI cyB aO (1 <<< (x3 &&& 31)) x1 oI oR hw) y_X6_losesIt rfl gX6_keys_X6_losesIt rfl (ci := 6) (rq := 0) rfl rfl ⟨Nat.le_of_ble_eq_true rfl, Nat.le_of_ble_eq_true rfl⟩ ⟨Nat.zero_le _, Nat.zero_le _⟩ (Nat.le_of_ble_eq_true rfl) [] [] (by simp only [List.append_assoc, List.nil_append, List.append_nil]) (fun _ => rfl) (fun u => (wMo aO cyI oI oR)) (fun u => (by simp only [List.append_assoc, List.nil_append, List.append_nil])) (fun r0 u hp => ?_)
        obtain ⟨b1, rfl, hw⟩ := hp
        obtain ⟨hwt, hwf⟩ := hw
        refine z_ifeqB F dX6_keys_39 48 rfl 42 rfl (fun c3 => ?_) (fun c3 => ?_)
        · have hw := hwt c3; clear hwt hwf
          refine z_iconst F dX6_keys_48 49 rfl zki_0 ?_
          refine z_ior F dX6_keys_49 50 rfl ?_
          refine z_topi (fun v3 ev3 => ?_)
          replace hw := hw v3 ev3
          refine z_istore_n (lv' := [(2, .int v3), (0, .ref (aO 0)), (1, .int x1), (3, .int x3)]) F dX6_keys_50 51 rfl (by decide) rfl ?_
          refine z_iinc F dX6_keys_51 54 rfl 3 rfl (by decide) zki_1 (fun v4 => [(3, .int v4), (2, .int v3), (0, .ref (aO 0)), (1, .int x1)]) (fun _ => rfl) (fun v4 ev4 => ?_)
          replace hw := hw v4 ev4
          refine z_goto F dX6_keys_54 13 rfl ?_
          refine z_lv (lv' := [(0, .ref (aO 0)), (1, .int x1), (2, .int v3), (3, .int v4)]) [2, 3, 1, 0] rfl ?_
          exact ih v3 v4 oI oR hw
        · have hw := hwf c3; clear hwt hwf
          refine z_iconst F dX6_keys_42 43 rfl zki_1 ?_
          refine z_iload_n F dX6_keys_43 44 rfl 3 rfl ?_
          refine z_ishl F dX6_keys_44 45 rfl ?_
          refine z_goto F dX6_keys_45 49 rfl ?_
          refine z_ior F dX6_keys_49 50 rfl ?_
          refine z_topi (fun v5 ev5 => ?_)
          replace hw := hw v5 ev5
          refine z_istore_n (lv' := [(2, .int v5), (0, .ref (aO 0)), (1, .int x1), (3, .int x3)]) F dX6_keys_50 51 rfl (by decide) rfl ?_
          refine z_iinc F dX6_keys_51 54 rfl 3 rfl (by decide) zki_1 (fun v6 => [(3, .int v6), (2, .int v5), (0, .ref (aO 0)), (1, .int x1)]) (fun _ => rfl) (fun v6 ev6 => ?_)
          replace hw := hw v6 ev6
          refine z_goto F dX6_keys_54 13 rfl ?_
          refine z_lv (lv' := [(0, .ref (aO 0)), (1, .int x1), (2, .int v5), (3, .int v6)]) [2, 3, 1, 0] rfl ?_
          exact ih v5 v6 oI oR hw
set_option maxHeartbeats 4000000 in
set_option maxRecDepth 100000 in
theorem xX6_keys_0 {C : zC} {D : va_G} {cyI cyB : ClassId} {aO : Nat → Nat} (oI : Nat → Int32) (oR : Nat → Nat → Int32) (F : zF C D { frames := 3, cells := 0, slots := 0, locals := 70 } cX6_keys 4 wsX6_keys RX6 (some .int) cyI cyB) {post : Int32 → (Nat → Int32) → (Nat → Nat → Int32) → Prop} (hRt : zRi C D cX6_keys 4 (S := ((Nat → Int32) × (Nat → Nat → Int32))) (fun u => (wMo aO cyI u.1 u.2)) (fun r u => post r u.1 u.2)) (hw : pX6_keys oI oR post) : zX C D 4 0 0 (wMo aO cyI oI oR) 0 [(0, .ref (aO 0))] [] := by
  refine z_aload_n F dX6_keys_0 1 rfl 0 rfl ?_
  refine z_segVv (As := []) (st := []) F dX6_keys_1 4 rfl (mX6_findKnown C.1.2.1 D cyI cyB aO oI oR hw) y_X6_findKnown rfl gX6_keys_X6_findKnown rfl (ci := 6) (rq := 0) rfl rfl ⟨Nat.le_of_ble_eq_true rfl, Nat.le_of_ble_eq_true rfl⟩ ⟨Nat.zero_le _, Nat.zero_le _⟩ (Nat.le_of_ble_eq_true rfl) [] [] (by simp only [List.append_assoc, List.nil_append, List.append_nil]) (fun _ => rfl) (fun u => (wMo aO cyI u.1 u.2)) (fun u => (by simp only [List.append_assoc, List.nil_append, List.append_nil])) (fun u hp => ?_)
  obtain ⟨oI_1, oR_1⟩ := u
  replace hw := hp
  clear hp
  refine z_aload_n F dX6_keys_4 5 rfl 0 rfl ?_
  refine z_segVi (As := []) (st := []) F dX6_keys_5 8 rfl (mX6_houseSet C.1.2.1 D cyI cyB aO oI_1 oR_1 hw) y_X6_houseSet rfl gX6_keys_X6_houseSet rfl (ci := 6) (rq := 0) rfl rfl ⟨Nat.le_of_ble_eq_true rfl, Nat.le_of_ble_eq_true rfl⟩ ⟨Nat.zero_le _, Nat.zero_le _⟩ (Nat.le_of_ble_eq_true rfl) [] [] (by simp only [List.append_assoc, List.nil_append, List.append_nil]) (fun _ => rfl) (fun u => (wMo aO cyI oI_1 oR_1)) (fun u => (by simp only [List.append_assoc, List.nil_append, List.append_nil])) (fun r1 u hp => ?_)
  replace hw := hp
  clear hp
  refine z_istore_n (lv' := [(1, .int r1), (0, .ref (aO 0))]) F dX6_keys_8 9 rfl (by decide) rfl ?_
  refine z_iconst F dX6_keys_9 10 rfl zki_0 ?_
  refine z_istore_n (lv' := [(2, .int 0), (1, .int r1), (0, .ref (aO 0))]) F dX6_keys_10 11 rfl (by decide) rfl ?_
  refine z_iconst F dX6_keys_11 12 rfl zki_0 ?_
  refine z_istore_n (lv' := [(3, .int 0), (2, .int 0), (1, .int r1), (0, .ref (aO 0))]) F dX6_keys_12 13 rfl (by decide) rfl ?_
  obtain ⟨n1, hw⟩ := hw
  refine z_lv (lv' := [(0, .ref (aO 0)), (1, .int r1), (2, .int 0), (3, .int 0)]) [3, 2, 1, 0] rfl ?_
  refine xX6_keys_13 r1 F hRt n1 0 0 oI_1 oR_1 hw
set_option maxHeartbeats 4000000 in
set_option maxRecDepth 100000 in
theorem mX6_keys (l : Launch) (D : va_G) (cyI cyB : ClassId) (aO : Nat → Nat) (oI : Nat → Int32) (oR : Nat → Nat → Int32) {post : Int32 → (Nat → Int32) → (Nat → Nat → Int32) → Prop} (hw : pX6_keys oI oR post) : zMi l yX6_keys wsX6_keys 3 70 D cyI cyB [.ref (aO 0)] (wMo aO cyI oI oR) (S := ((Nat → Int32) × (Nat → Nat → Int32))) (fun u => (wMo aO cyI u.1 u.2)) (fun r u => post r u.1 u.2) :=
  z_meti (cc := cX6_keys) (nL := 4) (by decide +kernel) rfl (Nat.le_of_ble_eq_true rfl) (fun C hl F hRt => xX6_keys_0 oI oR F hRt hw)
theorem y_X6_keys : zY yX6_keys wsX6_keys cX6_keys 4 (some .int) 0 := ⟨⟨_, rfl⟩, by decide +kernel⟩
theorem iX6_monday_6 : ∀ w ∈ wsX60, w ∈ wsX6_monday := fun w h => List.mem_cons_of_mem _ (List.mem_append_right _ h)
theorem kX6_monday_13 : zL wsX6_monday RX6 13 6 1 (.array .int) true := zL6 iX6_monday_6 (by decide) (List.mem_of_getElem? (i := 2) rfl) rfl rfl
theorem kX6_monday_19 : zL wsX6_monday RX6 19 6 3 (.array .int) true := zL6 iX6_monday_6 (by decide) (List.mem_of_getElem? (i := 1) rfl) rfl rfl
set_option maxHeartbeats 4000000 in
set_option maxRecDepth 100000 in
theorem xX6_monday_101 {C : zC} {D : va_G} {cyI cyB : ClassId} {aO : Nat → Nat} (x1 : Int32) (x2 : Int32) (x3 : Int32) (x5 : Int32) (x6 : Int32) (x7 : Int32) (oI : Nat → Int32) (oR : Nat → Nat → Int32) (F : zF C D { frames := 5, cells := 0, slots := 0, locals := 117 } cX6_monday 8 wsX6_monday RX6 (some .int) cyI cyB) {post : Int32 → (Nat → Int32) → (Nat → Nat → Int32) → Prop} (hRt : zRi C D cX6_monday 8 (S := ((Nat → Int32) × (Nat → Nat → Int32))) (fun u => (wMo aO cyI u.1 u.2)) (fun r u => post r u.1 u.2)) {q63 : Int32 → Int32 → (Nat → Int32) → (Nat → Nat → Int32) → Prop} (hq63 : ∀ (w6 : Int32) (w7 : Int32) (oI : Nat → Int32) (oR : Nat → Nat → Int32), q63 w6 w7 oI oR → zX C D 8 0 0 (wMo aO cyI oI oR) 63 [(0, .ref (aO 0)), (1, .int x1), (2, .int x2), (3, .int x3), (5, .int x5), (6, .int w6), (7, .int w7)] []) (hw : bX6_monday_101 x1 x2 x3 x5 x6 x7 oI oR post q63 ) : zX C D 8 0 0 (wMo aO cyI oI oR) 101 [(0, .ref (aO 0)), (1, .int x1), (2, .int x2), (3, .int x3), (5, .int x5), (6, .int x6), (7, .int x7)] [] := by
  refine z_aload_n F dX6_monday_101 102 rfl 0 rfl ?_
  refine z_get F dX6_monday_102 105 rfl kX6_monday_13 0 rfl rfl ?_
  refine z_iload_n F dX6_monday_105 106 rfl 1 rfl ?_
  refine z_iload F dX6_monday_106 108 rfl 4 rfl ?_
  refine z_iload F dX6_monday_108 110 rfl 6 rfl ?_
  refine z_ior F dX6_monday_110 111 rfl ?_
  refine z_topi (fun v3 ev3 => ?_)
  replace hw := hw v3 ev3
  obtain ⟨j4, ej4, hj4, hw⟩ := hw
  refine z_iast F dX6_monday_111 112 rfl 2 rfl (by decide) j4 ej4 hj4 (wMo aO cyI oI (va_up oR 1 (upd (oR 1) j4 v3))) rfl ?_
  refine z_aload_n F dX6_monday_112 113 rfl 0 rfl ?_
  refine z_iload_n F dX6_monday_113 114 rfl 2 rfl ?_
  refine z_iload_n F dX6_monday_114 115 rfl 3 rfl ?_
  refine z_segVi (As := [.int x2, .int x3]) (st := []) F dX6_monday_115 118 rfl (mX6_holds C.1.2.1 D cyI cyB aO x2 x3 oI (va_up oR 1 (upd (oR 1) j4 v3)) hw) y_X6_holds rfl gX6_monday_X6_holds rfl (ci := 6) (rq := 0) rfl rfl ⟨Nat.le_of_ble_eq_true rfl, Nat.le_of_ble_eq_true rfl⟩ ⟨Nat.zero_le _, Nat.zero_le _⟩ (Nat.le_of_ble_eq_true rfl) [] [] (by simp only [List.append_assoc, List.nil_append, List.append_nil]) (fun _ => rfl) (fun u => (wMo aO cyI u.1 u.2)) (fun u => (by simp only [List.append_assoc, List.nil_append, List.append_nil])) (fun r0 u hp => ?_)
  obtain ⟨oI_1, oR_1⟩ := u
  obtain ⟨b2, rfl, hw⟩ := hp
  obtain ⟨hwt, hwf⟩ := hw
  refine z_ifeqB F dX6_monday_118 125 rfl 121 rfl (fun c7 => ?_) (fun c7 => ?_)
  · have hw := hwt c7; clear hwt hwf
    refine z_iinc F dX6_monday_125 128 rfl 6 rfl (by decide) zki_1 (fun v4 => [(7, .int v4), (0, .ref (aO 0)), (1, .int x1), (2, .int x2), (3, .int x3), (5, .int x5), (6, .int x6)]) (fun _ => rfl) (fun v4 ev4 => ?_)
    replace hw := hw v4 ev4
    refine z_goto F dX6_monday_128 63 rfl ?_
    refine z_lv (lv' := [(0, .ref (aO 0)), (1, .int x1), (2, .int x2), (3, .int x3), (5, .int x5), (6, .int x6), (7, .int v4)]) [1, 2, 3, 4, 5, 6, 0] rfl ?_
    exact hq63 x6 v4 oI_1 oR_1 hw
  · have hw := hwf c7; clear hwt hwf
    refine z_iload F dX6_monday_121 123 rfl 6 rfl ?_
    refine z_istore (lv' := [(6, .int x7), (0, .ref (aO 0)), (1, .int x1), (2, .int x2), (3, .int x3), (5, .int x5), (7, .int x7)]) F dX6_monday_123 125 rfl (by decide) rfl ?_
    refine z_iinc F dX6_monday_125 128 rfl 6 rfl (by decide) zki_1 (fun v5 => [(7, .int v5), (6, .int x7), (0, .ref (aO 0)), (1, .int x1), (2, .int x2), (3, .int x3), (5, .int x5)]) (fun _ => rfl) (fun v5 ev5 => ?_)
    replace hw := hw v5 ev5
    refine z_goto F dX6_monday_128 63 rfl ?_
    refine z_lv (lv' := [(0, .ref (aO 0)), (1, .int x1), (2, .int x2), (3, .int x3), (5, .int x5), (6, .int x7), (7, .int v5)]) [2, 3, 4, 5, 6, 1, 0] rfl ?_
    exact hq63 x7 v5 oI_1 oR_1 hw
set_option maxHeartbeats 4000000 in
set_option maxRecDepth 100000 in
theorem xX6_monday_63 {C : zC} {D : va_G} {cyI cyB : ClassId} {aO : Nat → Nat} (x1 : Int32) (x2 : Int32) (x3 : Int32) (x5 : Int32) (F : zF C D { frames := 5, cells := 0, slots := 0, locals := 117 } cX6_monday 8 wsX6_monday RX6 (some .int) cyI cyB) {post : Int32 → (Nat → Int32) → (Nat → Nat → Int32) → Prop} (hRt : zRi C D cX6_monday 8 (S := ((Nat → Int32) × (Nat → Nat → Int32))) (fun u => (wMo aO cyI u.1 u.2)) (fun r u => post r u.1 u.2)) : ∀ (n : Nat) (x6 : Int32) (x7 : Int32) (oI : Nat → Int32) (oR : Nat → Nat → Int32), bX6_monday_63 x1 x2 x3 x5 post  n x6 x7 oI oR → zX C D 8 0 0 (wMo aO cyI oI oR) 63 [(0, .ref (aO 0)), (1, .int x1), (2, .int x2), (3, .int x3), (5, .int x5), (6, .int x6), (7, .int x7)] [] := by
  intro n
  induction n with
  | zero => intro _ _ _ _ hw; exact hw.elim
  | succ n ih =>
    intro x6 x7 oI oR hw
    refine z_iload F dX6_monday_63 65 rfl 6 rfl ?_
    refine z_aload_n F dX6_monday_65 66 rfl 0 rfl ?_
    refine z_segVi (As := []) (st := [.int x7]) F dX6_monday_66 69 rfl (mX6_all C.1.2.1 D cyI cyB aO oI oR hw) y_X6_all rfl gX6_monday_X6_all rfl (ci := 6) (rq := 0) rfl rfl ⟨Nat.le_of_ble_eq_true rfl, Nat.le_of_ble_eq_true rfl⟩ ⟨Nat.zero_le _, Nat.zero_le _⟩ (Nat.le_of_ble_eq_true rfl) [] [] (by simp only [List.append_assoc, List.nil_append, List.append_nil]) (fun _ => rfl) (fun u => (wMo aO cyI oI oR)) (fun u => (by simp only [List.append_assoc, List.nil_append, List.append_nil])) (fun r2 u hp => ?_)
    replace hw := hp
    clear hp
    obtain ⟨hwt, hwf⟩ := hw
    refine z_icmpgt F dX6_monday_69 131 rfl 72 rfl (fun c4 => ?_) (fun c4 => ?_)
    · have hw := hwt c4; clear hwt hwf
      refine z_aload_n F dX6_monday_131 132 rfl 0 rfl ?_
      refine z_get F dX6_monday_132 135 rfl kX6_monday_13 0 rfl rfl ?_
      refine z_iload_n F dX6_monday_135 136 rfl 1 rfl ?_
      refine z_iload F dX6_monday_136 138 rfl 4 rfl ?_
      obtain ⟨j3, ej3, hj3, hw⟩ := hw
      refine z_iast F dX6_monday_138 139 rfl 2 rfl (by decide) j3 ej3 hj3 (wMo aO cyI oI (va_up oR 1 (upd (oR 1) j3 x5))) rfl ?_
      refine z_iload F dX6_monday_139 141 rfl 5 rfl ?_
      exact hRt 141 _ x6 (oI, (va_up oR 1 (upd (oR 1) j3 x5))) dX6_monday_141 hw
    · have hw := hwf c4; clear hwt hwf
      refine z_iload F dX6_monday_72 74 rfl 6 rfl ?_
      refine z_iload F dX6_monday_74 76 rfl 4 rfl ?_
      refine z_iand F dX6_monday_76 77 rfl ?_
      obtain ⟨hwt, hwf⟩ := hw
      refine z_ifne F dX6_monday_77 125 rfl 80 rfl (fun c5 => ?_) (fun c5 => ?_)
      · have hw := hwt c5; clear hwt hwf
        refine z_iinc F dX6_monday_125 128 rfl 6 rfl (by decide) zki_1 (fun v2 => [(7, .int v2), (0, .ref (aO 0)), (1, .int x1), (2, .int x2), (3, .int x3), (5, .int x5), (6, .int x6)]) (fun _ => rfl) (fun v2 ev2 => ?_)
        replace hw := hw v2 ev2
        refine z_goto F dX6_monday_128 63 rfl ?_
        refine z_lv (lv' := [(0, .ref (aO 0)), (1, .int x1), (2, .int x2), (3, .int x3), (5, .int x5), (6, .int x6), (7, .int v2)]) [1, 2, 3, 4, 5, 6, 0] rfl ?_
        exact ih x6 v2 oI oR hw
      · have hw := hwf c5; clear hwt hwf
        refine z_iload F dX6_monday_80 82 rfl 5 rfl ?_
        obtain ⟨hwt, hwf⟩ := hw
        refine z_iflt F dX6_monday_82 101 rfl 85 rfl (fun c6 => ?_) (fun c6 => ?_)
        · have hw := hwt c6; clear hwt hwf
          exact xX6_monday_101 x1 x2 x3 x5 x6 x7 oI oR F hRt ih hw
        · have hw := hwf c6; clear hwt hwf
          refine z_iload F dX6_monday_85 87 rfl 6 rfl ?_
          refine z_callSi (As := [.int x7]) (st := []) F dX6_monday_87 90 rfl (mX6_bits C.1.2.1 D cyI cyB x7 hw) y_X6_bits rfl gX6_monday_X6_bits ⟨Nat.le_of_ble_eq_true rfl, Nat.le_of_ble_eq_true rfl⟩ ⟨Nat.zero_le _, Nat.zero_le _⟩ (Nat.le_of_ble_eq_true rfl) [] (by decide) rfl (fun _ => rfl) (fun u => (wMo aO cyI oI oR)) (fun _ => rfl) (fun r3 u hp => ?_)
          replace hw := hp
          clear hp
          refine z_iload F dX6_monday_90 92 rfl 5 rfl ?_
          refine z_callSi (As := [.int x6]) (st := [.int r3]) F dX6_monday_92 95 rfl (mX6_bits C.1.2.1 D cyI cyB x6 hw) y_X6_bits rfl gX6_monday_X6_bits ⟨Nat.le_of_ble_eq_true rfl, Nat.le_of_ble_eq_true rfl⟩ ⟨Nat.zero_le _, Nat.zero_le _⟩ (Nat.le_of_ble_eq_true rfl) [] (by decide) rfl (fun _ => rfl) (fun u => (wMo aO cyI oI oR)) (fun _ => rfl) (fun r4 u hp => ?_)
          replace hw := hp
          clear hp
          obtain ⟨hwt, hwf⟩ := hw
          refine z_icmplt F dX6_monday_95 101 rfl 98 rfl (fun c7 => ?_) (fun c7 => ?_)
          · have hw := hwt c7; clear hwt hwf
            exact xX6_monday_101 x1 x2 x3 x5 x6 x7 oI oR F hRt ih hw
          · have hw := hwf c7; clear hwt hwf
            refine z_goto F dX6_monday_98 125 rfl ?_
            refine z_iinc F dX6_monday_125 128 rfl 6 rfl (by decide) zki_1 (fun v3 => [(7, .int v3), (0, .ref (aO 0)), (1, .int x1), (2, .int x2), (3, .int x3), (5, .int x5), (6, .int x6)]) (fun _ => rfl) (fun v3 ev3 => ?_)
            replace hw := hw v3 ev3
            refine z_goto F dX6_monday_128 63 rfl ?_
            refine z_lv (lv' := [(0, .ref (aO 0)), (1, .int x1), (2, .int x2), (3, .int x3), (5, .int x5), (6, .int x6), (7, .int v3)]) [1, 2, 3, 4, 5, 6, 0] rfl ?_
            exact ih x6 v3 oI oR hw
set_option maxHeartbeats 4000000 in
set_option maxRecDepth 100000 in
theorem xX6_monday_34 {C : zC} {D : va_G} {cyI cyB : ClassId} {aO : Nat → Nat} (x1 : Int32) (x2 : Int32) (x3 : Int32) (s0 : Int32) (oI : Nat → Int32) (oR : Nat → Nat → Int32) (F : zF C D { frames := 5, cells := 0, slots := 0, locals := 117 } cX6_monday 8 wsX6_monday RX6 (some .int) cyI cyB) {post : Int32 → (Nat → Int32) → (Nat → Nat → Int32) → Prop} (hRt : zRi C D cX6_monday 8 (S := ((Nat → Int32) × (Nat → Nat → Int32))) (fun u => (wMo aO cyI u.1 u.2)) (fun r u => post r u.1 u.2)) (hw : bX6_monday_34 x1 x2 x3 s0 oI oR post ) : zX C D 8 0 0 (wMo aO cyI oI oR) 34 [(0, .ref (aO 0)), (1, .int x1), (2, .int x2), (3, .int x3)] [.int s0] := by
  refine z_istore (lv' := [(4, .int s0), (0, .ref (aO 0)), (1, .int x1), (2, .int x2), (3, .int x3)]) F dX6_monday_34 36 rfl (by decide) rfl ?_
  refine z_iload F dX6_monday_36 38 rfl 0 rfl ?_
  obtain ⟨hwt, hwf⟩ := hw
  refine z_ifeq F dX6_monday_38 48 rfl 41 rfl (fun c3 => ?_) (fun c3 => ?_)
  · have hw := hwt c3; clear hwt hwf
    refine z_aload_n F dX6_monday_48 49 rfl 1 rfl ?_
    refine z_get F dX6_monday_49 52 rfl kX6_monday_13 0 rfl rfl ?_
    refine z_iload_n F dX6_monday_52 53 rfl 2 rfl ?_
    obtain ⟨j2, ej2, hj2, hw⟩ := hw
    refine z_iald F dX6_monday_53 54 rfl 2 rfl (by decide) j2 ej2 hj2 ?_
    refine z_topi (fun v1 ev1 => ?_)
    replace hw := hw v1 ev1
    refine z_istore (lv' := [(5, .int v1), (4, .int s0), (0, .ref (aO 0)), (1, .int x1), (2, .int x2), (3, .int x3)]) F dX6_monday_54 56 rfl (by decide) rfl ?_
    refine z_bipush F dX6_monday_56 58 rfl zkb_m9 ?_
    refine z_istore (lv' := [(6, .int (-9)), (5, .int v1), (4, .int s0), (0, .ref (aO 0)), (1, .int x1), (2, .int x2), (3, .int x3)]) F dX6_monday_58 60 rfl (by decide) rfl ?_
    refine z_iconst F dX6_monday_60 61 rfl zki_0 ?_
    refine z_istore (lv' := [(7, .int 0), (6, .int (-9)), (5, .int v1), (4, .int s0), (0, .ref (aO 0)), (1, .int x1), (2, .int x2), (3, .int x3)]) F dX6_monday_61 63 rfl (by decide) rfl ?_
    obtain ⟨n1, hw⟩ := hw
    refine z_lv (lv' := [(0, .ref (aO 0)), (1, .int x1), (2, .int x2), (3, .int x3), (5, .int v1), (6, .int (-9)), (7, .int 0)]) [4, 5, 6, 7, 2, 1, 0] rfl ?_
    refine xX6_monday_63 x1 x2 x3 v1 F hRt n1 (-9) 0 oI oR hw
  · have hw := hwf c3; clear hwt hwf
    refine z_aload_n F dX6_monday_41 42 rfl 1 rfl ?_
    refine z_iload F dX6_monday_42 44 rfl 0 rfl ?_
    refine z_segVi (As := [.int s0]) (st := []) F dX6_monday_44 47 rfl (mX6_no C.1.2.1 D cyI cyB aO s0 oI oR hw) y_X6_no rfl gX6_monday_X6_no rfl (ci := 6) (rq := 0) rfl rfl ⟨Nat.le_of_ble_eq_true rfl, Nat.le_of_ble_eq_true rfl⟩ ⟨Nat.zero_le _, Nat.zero_le _⟩ (Nat.le_of_ble_eq_true rfl) [] [] (by simp only [List.append_assoc, List.nil_append, List.append_nil]) (fun _ => rfl) (fun u => (wMo aO cyI u.1 u.2)) (fun u => (by simp only [List.append_assoc, List.nil_append, List.append_nil])) (fun r2 u hp => ?_)
    obtain ⟨oI_1, oR_1⟩ := u
    replace hw := hp
    clear hp
    exact hRt 47 _ r2 (oI_1, oR_1) dX6_monday_47 hw
set_option maxHeartbeats 4000000 in
set_option maxRecDepth 100000 in
theorem xX6_monday_0 {C : zC} {D : va_G} {cyI cyB : ClassId} {aO : Nat → Nat} (x1 : Int32) (x2 : Int32) (x3 : Int32) (oI : Nat → Int32) (oR : Nat → Nat → Int32) (F : zF C D { frames := 5, cells := 0, slots := 0, locals := 117 } cX6_monday 8 wsX6_monday RX6 (some .int) cyI cyB) {post : Int32 → (Nat → Int32) → (Nat → Nat → Int32) → Prop} (hRt : zRi C D cX6_monday 8 (S := ((Nat → Int32) × (Nat → Nat → Int32))) (fun u => (wMo aO cyI u.1 u.2)) (fun r u => post r u.1 u.2)) (hw : pX6_monday x1 x2 x3 oI oR post) : zX C D 8 0 0 (wMo aO cyI oI oR) 0 [(0, .ref (aO 0)), (1, .int x1), (2, .int x2), (3, .int x3)] [] := by
  refine z_aload_n F dX6_monday_0 1 rfl 0 rfl ?_
  refine z_iload_n F dX6_monday_1 2 rfl 1 rfl ?_
  refine z_segVi (As := [.int x1]) (st := []) F dX6_monday_2 5 rfl (mX6_isHand C.1.2.1 D cyI cyB aO x1 oI oR hw) y_X6_isHand rfl gX6_monday_X6_isHand rfl (ci := 6) (rq := 0) rfl rfl ⟨Nat.le_of_ble_eq_true rfl, Nat.le_of_ble_eq_true rfl⟩ ⟨Nat.zero_le _, Nat.zero_le _⟩ (Nat.le_of_ble_eq_true rfl) [] [] (by simp only [List.append_assoc, List.nil_append, List.append_nil]) (fun _ => rfl) (fun u => (wMo aO cyI oI oR)) (fun u => (by simp only [List.append_assoc, List.nil_append, List.append_nil])) (fun r0 u hp => ?_)
  obtain ⟨b1, rfl, hw⟩ := hp
  obtain ⟨hwt, hwf⟩ := hw
  refine z_ifneB F dX6_monday_5 14 rfl 8 rfl (fun c1 => ?_) (fun c1 => ?_)
  · have hw := hwt c1; clear hwt hwf
    refine z_aload_n F dX6_monday_14 15 rfl 0 rfl ?_
    refine z_get F dX6_monday_15 18 rfl kX6_monday_19 0 rfl rfl ?_
    refine z_iload_n F dX6_monday_18 19 rfl 1 rfl ?_
    obtain ⟨j1, ej1, hj1, hw⟩ := hw
    refine z_iald F dX6_monday_19 20 rfl 4 rfl (by decide) j1 ej1 hj1 ?_
    refine z_iconst F dX6_monday_20 21 rfl zki_1 ?_
    obtain ⟨hwt, hwf⟩ := hw
    refine z_icmpne F dX6_monday_21 29 rfl 24 rfl (fun c2 => ?_) (fun c2 => ?_)
    · have hw := hwt c2; clear hwt hwf
      refine z_iload_n F dX6_monday_29 30 rfl 2 rfl ?_
      refine z_iload_n F dX6_monday_30 31 rfl 3 rfl ?_
      refine z_callSi (As := [.int x2, .int x3]) (st := []) F dX6_monday_31 34 rfl (mX6_notTwo C.1.2.1 D cyI cyB x2 x3 hw) y_X6_notTwo rfl gX6_monday_X6_notTwo ⟨Nat.le_of_ble_eq_true rfl, Nat.le_of_ble_eq_true rfl⟩ ⟨Nat.zero_le _, Nat.zero_le _⟩ (Nat.le_of_ble_eq_true rfl) [] (by decide) rfl (fun _ => rfl) (fun u => (wMo aO cyI oI oR)) (fun _ => rfl) (fun r1 u hp => ?_)
      replace hw := hp
      clear hp
      exact xX6_monday_34 x1 x2 x3 r1 oI oR F hRt hw
    · have hw := hwf c2; clear hwt hwf
      refine z_bipush F dX6_monday_24 26 rfl zkb_m3 ?_
      refine z_goto F dX6_monday_26 34 rfl ?_
      exact xX6_monday_34 x1 x2 x3 (-3) oI oR F hRt hw
  · have hw := hwf c1; clear hwt hwf
    refine z_aload_n F dX6_monday_8 9 rfl 0 rfl ?_
    refine z_iconst F dX6_monday_9 10 rfl zki_m1 ?_
    refine z_segVi (As := [.int (-1)]) (st := []) F dX6_monday_10 13 rfl (mX6_no C.1.2.1 D cyI cyB aO (-1) oI oR hw) y_X6_no rfl gX6_monday_X6_no rfl (ci := 6) (rq := 0) rfl rfl ⟨Nat.le_of_ble_eq_true rfl, Nat.le_of_ble_eq_true rfl⟩ ⟨Nat.zero_le _, Nat.zero_le _⟩ (Nat.le_of_ble_eq_true rfl) [] [] (by simp only [List.append_assoc, List.nil_append, List.append_nil]) (fun _ => rfl) (fun u => (wMo aO cyI u.1 u.2)) (fun u => (by simp only [List.append_assoc, List.nil_append, List.append_nil])) (fun r2 u hp => ?_)
    obtain ⟨oI_1, oR_1⟩ := u
    replace hw := hp
    clear hp
    exact hRt 13 _ r2 (oI_1, oR_1) dX6_monday_13 hw
set_option maxHeartbeats 4000000 in
set_option maxRecDepth 100000 in
theorem mX6_monday (l : Launch) (D : va_G) (cyI cyB : ClassId) (aO : Nat → Nat) (x1 : Int32) (x2 : Int32) (x3 : Int32) (oI : Nat → Int32) (oR : Nat → Nat → Int32) {post : Int32 → (Nat → Int32) → (Nat → Nat → Int32) → Prop} (hw : pX6_monday x1 x2 x3 oI oR post) : zMi l yX6_monday wsX6_monday 5 117 D cyI cyB [.ref (aO 0), .int x1, .int x2, .int x3] (wMo aO cyI oI oR) (S := ((Nat → Int32) × (Nat → Nat → Int32))) (fun u => (wMo aO cyI u.1 u.2)) (fun r u => post r u.1 u.2) :=
  z_meti (cc := cX6_monday) (nL := 8) (by decide +kernel) rfl (Nat.le_of_ble_eq_true rfl) (fun C hl F hRt => xX6_monday_0 x1 x2 x3 oI oR F hRt hw)
theorem y_X6_monday : zY yX6_monday wsX6_monday cX6_monday 8 (some .int) 3 := ⟨⟨_, rfl⟩, by decide +kernel⟩
theorem iX6_findMend_6 : ∀ w ∈ wsX60, w ∈ wsX6_findMend := fun w h => List.mem_cons_of_mem _ (List.mem_append_right _ h)
theorem kX6_findMend_13 : zL wsX6_findMend RX6 13 6 1 (.array .int) true := zL6 iX6_findMend_6 (by decide) (List.mem_of_getElem? (i := 1) rfl) rfl rfl
theorem kX6_findMend_56 : zL wsX6_findMend RX6 56 6 23 (.array .int) true := zL6 iX6_findMend_6 (by decide) (List.mem_of_getElem? (i := 2) rfl) rfl rfl
set_option maxHeartbeats 4000000 in
set_option maxRecDepth 100000 in
theorem xX6_findMend_13 {C : zC} {D : va_G} {cyI cyB : ClassId} {aO : Nat → Nat} (x1 : Int32) (x2 : Int32) (F : zF C D { frames := 5, cells := 0, slots := 0, locals := 117 } cX6_findMend 6 wsX6_findMend RX6 (some .int) cyI cyB) {post : Int32 → (Nat → Int32) → (Nat → Nat → Int32) → Prop} (hRt : zRi C D cX6_findMend 6 (S := ((Nat → Int32) × (Nat → Nat → Int32))) (fun u => (wMo aO cyI u.1 u.2)) (fun r u => post r u.1 u.2)) {k94 : (Nat → Int32) → (Nat → Nat → Int32) → Prop} (hk94 : ∀ (oI : Nat → Int32) (oR : Nat → Nat → Int32), k94 oI oR → zX C D 6 0 0 (wMo aO cyI oI oR) 94 [(0, .ref (aO 0)), (1, .int x1), (2, .int x2)] []) : ∀ (n : Nat) (x3 : Int32) (oI : Nat → Int32) (oR : Nat → Nat → Int32), bX6_findMend_13 x1 x2 post k94  n x3 oI oR → zX C D 6 0 0 (wMo aO cyI oI oR) 13 [(0, .ref (aO 0)), (1, .int x1), (2, .int x2), (3, .int x3)] [] := by
  intro n
  induction n with
  | zero => intro _ _ _ hw; exact hw.elim
  | succ n ih =>
    intro x3 oI oR hw
    refine z_iload_n F dX6_findMend_13 14 rfl 3 rfl ?_
    refine z_bipush F dX6_findMend_14 16 rfl zkb_80 ?_
    obtain ⟨hwt, hwf⟩ := hw
    refine z_icmpge F dX6_findMend_16 94 rfl 19 rfl (fun c2 => ?_) (fun c2 => ?_)
    · have hw := hwt c2; clear hwt hwf
      refine z_lv (lv' := [(0, .ref (aO 0)), (1, .int x1), (2, .int x2)]) [0, 1, 2] rfl ?_
      exact hk94 oI oR hw
    · have hw := hwf c2; clear hwt hwf
      refine z_aload_n F dX6_findMend_19 20 rfl 0 rfl ?_
      refine z_iload_n F dX6_findMend_20 21 rfl 3 rfl ?_
      refine z_segVi (As := [.int x3]) (st := []) F dX6_findMend_21 24 rfl (mX6_mayTell C.1.2.1 D cyI cyB aO x3 oI oR hw) y_X6_mayTell rfl gX6_findMend_X6_mayTell rfl (ci := 6) (rq := 0) rfl rfl ⟨Nat.le_of_ble_eq_true rfl, Nat.le_of_ble_eq_true rfl⟩ ⟨Nat.zero_le _, Nat.zero_le _⟩ (Nat.le_of_ble_eq_true rfl) [] [] (by simp only [List.append_assoc, List.nil_append, List.append_nil]) (fun _ => rfl) (fun u => (wMo aO cyI oI oR)) (fun u => (by simp only [List.append_assoc, List.nil_append, List.append_nil])) (fun r0 u hp => ?_)
      obtain ⟨b2, rfl, hw⟩ := hp
      obtain ⟨hwt, hwf⟩ := hw
      refine z_ifneB F dX6_findMend_24 30 rfl 27 rfl (fun c3 => ?_) (fun c3 => ?_)
      · have hw := hwt c3; clear hwt hwf
        refine z_aload_n F dX6_findMend_30 31 rfl 0 rfl ?_
        refine z_get F dX6_findMend_31 34 rfl kX6_findMend_13 0 rfl rfl ?_
        refine z_iload_n F dX6_findMend_34 35 rfl 3 rfl ?_
        refine z_bipush F dX6_findMend_35 37 rfl zkb_10 ?_
        refine z_idiv F dX6_findMend_37 38 rfl (by decide) ?_
        refine z_dup2 F dX6_findMend_38 39 rfl rfl rfl ?_
        obtain ⟨j1, ej1, hj1, hw⟩ := hw
        refine z_iald F dX6_findMend_39 40 rfl 2 rfl (by decide) j1 ej1 hj1 ?_
        refine z_iconst F dX6_findMend_40 41 rfl zki_1 ?_
        refine z_iload_n F dX6_findMend_41 42 rfl 3 rfl ?_
        refine z_bipush F dX6_findMend_42 44 rfl zkb_10 ?_
        refine z_irem F dX6_findMend_44 45 rfl (by decide) ?_
        refine z_ishl F dX6_findMend_45 46 rfl ?_
        refine z_ixor F dX6_findMend_46 47 rfl ?_
        refine z_topi (fun v1 ev1 => ?_)
        replace hw := hw v1 ev1
        refine z_iast F dX6_findMend_47 48 rfl 2 rfl (by decide) j1 ej1 hj1 (wMo aO cyI oI (va_up oR 1 (upd (oR 1) j1 v1))) rfl ?_
        refine z_aload_n F dX6_findMend_48 49 rfl 0 rfl ?_
        refine z_iload_n F dX6_findMend_49 50 rfl 1 rfl ?_
        refine z_iload_n F dX6_findMend_50 51 rfl 2 rfl ?_
        refine z_segVi (As := [.int x1, .int x2]) (st := []) F dX6_findMend_51 54 rfl (mX6_holds C.1.2.1 D cyI cyB aO x1 x2 oI (va_up oR 1 (upd (oR 1) j1 v1)) hw) y_X6_holds rfl gX6_findMend_X6_holds rfl (ci := 6) (rq := 0) rfl rfl ⟨Nat.le_of_ble_eq_true rfl, Nat.le_of_ble_eq_true rfl⟩ ⟨Nat.zero_le _, Nat.zero_le _⟩ (Nat.le_of_ble_eq_true rfl) [] [] (by simp only [List.append_assoc, List.nil_append, List.append_nil]) (fun _ => rfl) (fun u => (wMo aO cyI u.1 u.2)) (fun u => (by simp only [List.append_assoc, List.nil_append, List.append_nil])) (fun r0 u hp => ?_)
        obtain ⟨oI_2, oR_2⟩ := u
        obtain ⟨b3, rfl, hw⟩ := hp
        refine z_istore (lv' := [(4, .int (zb b3)), (0, .ref (aO 0)), (1, .int x1), (2, .int x2), (3, .int x3)]) F dX6_findMend_54 56 rfl (by decide) rfl ?_
        refine z_aload_n F dX6_findMend_56 57 rfl 1 rfl ?_
        refine z_get F dX6_findMend_57 60 rfl kX6_findMend_13 0 rfl rfl ?_
        refine z_iload_n F dX6_findMend_60 61 rfl 4 rfl ?_
        refine z_bipush F dX6_findMend_61 63 rfl zkb_10 ?_
        refine z_idiv F dX6_findMend_63 64 rfl (by decide) ?_
        refine z_dup2 F dX6_findMend_64 65 rfl rfl rfl ?_
        refine z_iald F dX6_findMend_65 66 rfl 2 rfl (by decide) j1 ej1 hj1 ?_
        refine z_iconst F dX6_findMend_66 67 rfl zki_1 ?_
        refine z_iload_n F dX6_findMend_67 68 rfl 4 rfl ?_
        refine z_bipush F dX6_findMend_68 70 rfl zkb_10 ?_
        refine z_irem F dX6_findMend_70 71 rfl (by decide) ?_
        refine z_ishl F dX6_findMend_71 72 rfl ?_
        refine z_ixor F dX6_findMend_72 73 rfl ?_
        refine z_topi (fun v2 ev2 => ?_)
        replace hw := hw v2 ev2
        refine z_iast F dX6_findMend_73 74 rfl 2 rfl (by decide) j1 ej1 hj1 (wMo aO cyI oI_2 (va_up oR_2 1 (upd (oR_2 1) j1 v2))) rfl ?_
        refine z_aload_n F dX6_findMend_74 75 rfl 1 rfl ?_
        refine z_get F dX6_findMend_75 78 rfl kX6_findMend_56 0 rfl rfl ?_
        refine z_iconst F dX6_findMend_78 79 rfl zki_0 ?_
        refine z_iload_n F dX6_findMend_79 80 rfl 4 rfl ?_
        obtain ⟨j2, ej2, hj2, hw⟩ := hw
        refine z_iast F dX6_findMend_80 81 rfl 15 rfl (by decide) j2 ej2 hj2 (wMo aO cyI oI_2 (va_up (va_up oR_2 1 (upd (oR_2 1) j1 v2)) 23 (upd (oR_2 23) j2 x3))) rfl ?_
        refine z_iload F dX6_findMend_81 83 rfl 0 rfl ?_
        obtain ⟨hwt, hwf⟩ := hw
        refine z_ifeqB F dX6_findMend_83 88 rfl 86 rfl (fun c4 => ?_) (fun c4 => ?_)
        · have hw := hwt c4; clear hwt hwf
          refine z_iinc F dX6_findMend_88 91 rfl 4 rfl (by decide) zki_1 (fun v3 => [(3, .int v3), (4, .int (zb b3)), (0, .ref (aO 0)), (1, .int x1), (2, .int x2)]) (fun _ => rfl) (fun v3 ev3 => ?_)
          replace hw := hw v3 ev3
          refine z_goto F dX6_findMend_91 13 rfl ?_
          refine z_lv (lv' := [(0, .ref (aO 0)), (1, .int x1), (2, .int x2), (3, .int v3)]) [2, 3, 4, 0] rfl ?_
          exact ih v3 oI_2 (va_up (va_up oR_2 1 (upd (oR_2 1) j1 v2)) 23 (upd (oR_2 23) j2 x3)) hw
        · have hw := hwf c4; clear hwt hwf
          refine z_iconst F dX6_findMend_86 87 rfl zki_1 ?_
          exact hRt 87 _ 1 (oI_2, (va_up (va_up oR_2 1 (upd (oR_2 1) j1 v2)) 23 (upd (oR_2 23) j2 x3))) dX6_findMend_87 hw
      · have hw := hwf c3; clear hwt hwf
        refine z_goto F dX6_findMend_27 88 rfl ?_
        refine z_iinc F dX6_findMend_88 91 rfl 3 rfl (by decide) zki_1 (fun v4 => [(3, .int v4), (0, .ref (aO 0)), (1, .int x1), (2, .int x2)]) (fun _ => rfl) (fun v4 ev4 => ?_)
        replace hw := hw v4 ev4
        refine z_goto F dX6_findMend_91 13 rfl ?_
        refine z_lv (lv' := [(0, .ref (aO 0)), (1, .int x1), (2, .int x2), (3, .int v4)]) [1, 2, 3, 0] rfl ?_
        exact ih v4 oI oR hw
set_option maxHeartbeats 4000000 in
set_option maxRecDepth 100000 in
theorem xX6_findMend_107 {C : zC} {D : va_G} {cyI cyB : ClassId} {aO : Nat → Nat} (x1 : Int32) (x2 : Int32) (x3 : Int32) (F : zF C D { frames := 5, cells := 0, slots := 0, locals := 117 } cX6_findMend 6 wsX6_findMend RX6 (some .int) cyI cyB) {post : Int32 → (Nat → Int32) → (Nat → Nat → Int32) → Prop} (hRt : zRi C D cX6_findMend 6 (S := ((Nat → Int32) × (Nat → Nat → Int32))) (fun u => (wMo aO cyI u.1 u.2)) (fun r u => post r u.1 u.2)) {k246 : (Nat → Int32) → (Nat → Nat → Int32) → Prop} (hk246 : ∀ (oI : Nat → Int32) (oR : Nat → Nat → Int32), k246 oI oR → zX C D 6 0 0 (wMo aO cyI oI oR) 246 [(0, .ref (aO 0)), (1, .int x1), (2, .int x2), (3, .int x3)] []) : ∀ (n : Nat) (x4 : Int32) (oI : Nat → Int32) (oR : Nat → Nat → Int32), bX6_findMend_107 x1 x2 x3 post k246  n x4 oI oR → zX C D 6 0 0 (wMo aO cyI oI oR) 107 [(0, .ref (aO 0)), (1, .int x1), (2, .int x2), (3, .int x3), (4, .int x4)] [] := by
  intro n
  induction n with
  | zero => intro _ _ _ hw; exact hw.elim
  | succ n ih =>
    intro x4 oI oR hw
    refine z_iload F dX6_findMend_107 109 rfl 4 rfl ?_
    refine z_bipush F dX6_findMend_109 111 rfl zkb_80 ?_
    obtain ⟨hwt, hwf⟩ := hw
    refine z_icmpge F dX6_findMend_111 246 rfl 114 rfl (fun c3 => ?_) (fun c3 => ?_)
    · have hw := hwt c3; clear hwt hwf
      refine z_lv (lv' := [(0, .ref (aO 0)), (1, .int x1), (2, .int x2), (3, .int x3)]) [0, 1, 2, 3] rfl ?_
      exact hk246 oI oR hw
    · have hw := hwf c3; clear hwt hwf
      refine z_aload_n F dX6_findMend_114 115 rfl 0 rfl ?_
      refine z_iload_n F dX6_findMend_115 116 rfl 3 rfl ?_
      refine z_segVi (As := [.int x3]) (st := []) F dX6_findMend_116 119 rfl (mX6_mayTell C.1.2.1 D cyI cyB aO x3 oI oR hw) y_X6_mayTell rfl gX6_findMend_X6_mayTell rfl (ci := 6) (rq := 0) rfl rfl ⟨Nat.le_of_ble_eq_true rfl, Nat.le_of_ble_eq_true rfl⟩ ⟨Nat.zero_le _, Nat.zero_le _⟩ (Nat.le_of_ble_eq_true rfl) [] [] (by simp only [List.append_assoc, List.nil_append, List.append_nil]) (fun _ => rfl) (fun u => (wMo aO cyI oI oR)) (fun u => (by simp only [List.append_assoc, List.nil_append, List.append_nil])) (fun r0 u hp => ?_)
      obtain ⟨b2, rfl, hw⟩ := hp
      obtain ⟨hwt, hwf⟩ := hw
      refine z_ifeqB F dX6_findMend_119 240 rfl 122 rfl (fun c4 => ?_) (fun c4 => ?_)
      · have hw := hwt c4; clear hwt hwf
        refine z_iinc F dX6_findMend_240 243 rfl 4 rfl (by decide) zki_1 (fun v2 => [(4, .int v2), (0, .ref (aO 0)), (1, .int x1), (2, .int x2), (3, .int x3)]) (fun _ => rfl) (fun v2 ev2 => ?_)
        replace hw := hw v2 ev2
        refine z_goto F dX6_findMend_243 107 rfl ?_
        refine z_lv (lv' := [(0, .ref (aO 0)), (1, .int x1), (2, .int x2), (3, .int x3), (4, .int v2)]) [1, 2, 3, 4, 0] rfl ?_
        exact ih v2 oI oR hw
      · have hw := hwf c4; clear hwt hwf
        refine z_aload_n F dX6_findMend_122 123 rfl 0 rfl ?_
        refine z_iload F dX6_findMend_123 125 rfl 4 rfl ?_
        refine z_segVi (As := [.int x4]) (st := []) F dX6_findMend_125 128 rfl (mX6_mayTell C.1.2.1 D cyI cyB aO x4 oI oR hw) y_X6_mayTell rfl gX6_findMend_X6_mayTell rfl (ci := 6) (rq := 0) rfl rfl ⟨Nat.le_of_ble_eq_true rfl, Nat.le_of_ble_eq_true rfl⟩ ⟨Nat.zero_le _, Nat.zero_le _⟩ (Nat.le_of_ble_eq_true rfl) [] [] (by simp only [List.append_assoc, List.nil_append, List.append_nil]) (fun _ => rfl) (fun u => (wMo aO cyI oI oR)) (fun u => (by simp only [List.append_assoc, List.nil_append, List.append_nil])) (fun r0 u hp => ?_)
        obtain ⟨b3, rfl, hw⟩ := hp
        obtain ⟨hwt, hwf⟩ := hw
        refine z_ifneB F dX6_findMend_128 134 rfl 131 rfl (fun c5 => ?_) (fun c5 => ?_)
        · have hw := hwt c5; clear hwt hwf
          refine z_aload_n F dX6_findMend_134 135 rfl 0 rfl ?_
          refine z_get F dX6_findMend_135 138 rfl kX6_findMend_13 0 rfl rfl ?_
          refine z_iload_n F dX6_findMend_138 139 rfl 3 rfl ?_
          refine z_bipush F dX6_findMend_139 141 rfl zkb_10 ?_
          refine z_idiv F dX6_findMend_141 142 rfl (by decide) ?_
          refine z_dup2 F dX6_findMend_142 143 rfl rfl rfl ?_
          obtain ⟨j1, ej1, hj1, hw⟩ := hw
          refine z_iald F dX6_findMend_143 144 rfl 2 rfl (by decide) j1 ej1 hj1 ?_
          refine z_iconst F dX6_findMend_144 145 rfl zki_1 ?_
          refine z_iload_n F dX6_findMend_145 146 rfl 3 rfl ?_
          refine z_bipush F dX6_findMend_146 148 rfl zkb_10 ?_
          refine z_irem F dX6_findMend_148 149 rfl (by decide) ?_
          refine z_ishl F dX6_findMend_149 150 rfl ?_
          refine z_ixor F dX6_findMend_150 151 rfl ?_
          refine z_topi (fun v3 ev3 => ?_)
          replace hw := hw v3 ev3
          refine z_iast F dX6_findMend_151 152 rfl 2 rfl (by decide) j1 ej1 hj1 (wMo aO cyI oI (va_up oR 1 (upd (oR 1) j1 v3))) rfl ?_
          refine z_aload_n F dX6_findMend_152 153 rfl 0 rfl ?_
          refine z_get F dX6_findMend_153 156 rfl kX6_findMend_13 0 rfl rfl ?_
          refine z_iload F dX6_findMend_156 158 rfl 4 rfl ?_
          refine z_bipush F dX6_findMend_158 160 rfl zkb_10 ?_
          refine z_idiv F dX6_findMend_160 161 rfl (by decide) ?_
          refine z_dup2 F dX6_findMend_161 162 rfl rfl rfl ?_
          obtain ⟨j2, ej2, hj2, hw⟩ := hw
          refine z_iald F dX6_findMend_162 163 rfl 2 rfl (by decide) j2 ej2 hj2 ?_
          refine z_iconst F dX6_findMend_163 164 rfl zki_1 ?_
          refine z_iload F dX6_findMend_164 166 rfl 4 rfl ?_
          refine z_bipush F dX6_findMend_166 168 rfl zkb_10 ?_
          refine z_irem F dX6_findMend_168 169 rfl (by decide) ?_
          refine z_ishl F dX6_findMend_169 170 rfl ?_
          refine z_ixor F dX6_findMend_170 171 rfl ?_
          refine z_topi (fun v4 ev4 => ?_)
          replace hw := hw v4 ev4
          refine z_iast F dX6_findMend_171 172 rfl 2 rfl (by decide) j2 ej2 hj2 (wMo aO cyI oI (va_up oR 1 (upd (upd (oR 1) j1 v3) j2 v4))) rfl ?_
          refine z_aload_n F dX6_findMend_172 173 rfl 0 rfl ?_
          refine z_iload_n F dX6_findMend_173 174 rfl 1 rfl ?_
          refine z_iload_n F dX6_findMend_174 175 rfl 2 rfl ?_
          refine z_segVi (As := [.int x1, .int x2]) (st := []) F dX6_findMend_175 178 rfl (mX6_holds C.1.2.1 D cyI cyB aO x1 x2 oI (va_up oR 1 (upd (upd (oR 1) j1 v3) j2 v4)) hw) y_X6_holds rfl gX6_findMend_X6_holds rfl (ci := 6) (rq := 0) rfl rfl ⟨Nat.le_of_ble_eq_true rfl, Nat.le_of_ble_eq_true rfl⟩ ⟨Nat.zero_le _, Nat.zero_le _⟩ (Nat.le_of_ble_eq_true rfl) [] [] (by simp only [List.append_assoc, List.nil_append, List.append_nil]) (fun _ => rfl) (fun u => (wMo aO cyI u.1 u.2)) (fun u => (by simp only [List.append_assoc, List.nil_append, List.append_nil])) (fun r0 u hp => ?_)
          obtain ⟨oI_3, oR_3⟩ := u
          obtain ⟨b4, rfl, hw⟩ := hp
          refine z_istore (lv' := [(5, .int (zb b4)), (0, .ref (aO 0)), (1, .int x1), (2, .int x2), (3, .int x3), (4, .int x4)]) F dX6_findMend_178 180 rfl (by decide) rfl ?_
          refine z_aload_n F dX6_findMend_180 181 rfl 1 rfl ?_
          refine z_get F dX6_findMend_181 184 rfl kX6_findMend_13 0 rfl rfl ?_
          refine z_iload F dX6_findMend_184 186 rfl 5 rfl ?_
          refine z_bipush F dX6_findMend_186 188 rfl zkb_10 ?_
          refine z_idiv F dX6_findMend_188 189 rfl (by decide) ?_
          refine z_dup2 F dX6_findMend_189 190 rfl rfl rfl ?_
          refine z_iald F dX6_findMend_190 191 rfl 2 rfl (by decide) j2 ej2 hj2 ?_
          refine z_iconst F dX6_findMend_191 192 rfl zki_1 ?_
          refine z_iload F dX6_findMend_192 194 rfl 5 rfl ?_
          refine z_bipush F dX6_findMend_194 196 rfl zkb_10 ?_
          refine z_irem F dX6_findMend_196 197 rfl (by decide) ?_
          refine z_ishl F dX6_findMend_197 198 rfl ?_
          refine z_ixor F dX6_findMend_198 199 rfl ?_
          refine z_topi (fun v5 ev5 => ?_)
          replace hw := hw v5 ev5
          refine z_iast F dX6_findMend_199 200 rfl 2 rfl (by decide) j2 ej2 hj2 (wMo aO cyI oI_3 (va_up oR_3 1 (upd (oR_3 1) j2 v5))) rfl ?_
          refine z_aload_n F dX6_findMend_200 201 rfl 1 rfl ?_
          refine z_get F dX6_findMend_201 204 rfl kX6_findMend_13 0 rfl rfl ?_
          refine z_iload_n F dX6_findMend_204 205 rfl 4 rfl ?_
          refine z_bipush F dX6_findMend_205 207 rfl zkb_10 ?_
          refine z_idiv F dX6_findMend_207 208 rfl (by decide) ?_
          refine z_dup2 F dX6_findMend_208 209 rfl rfl rfl ?_
          refine z_iald F dX6_findMend_209 210 rfl 2 rfl (by decide) j1 ej1 hj1 ?_
          refine z_iconst F dX6_findMend_210 211 rfl zki_1 ?_
          refine z_iload_n F dX6_findMend_211 212 rfl 4 rfl ?_
          refine z_bipush F dX6_findMend_212 214 rfl zkb_10 ?_
          refine z_irem F dX6_findMend_214 215 rfl (by decide) ?_
          refine z_ishl F dX6_findMend_215 216 rfl ?_
          refine z_ixor F dX6_findMend_216 217 rfl ?_
          refine z_topi (fun v6 ev6 => ?_)
          replace hw := hw v6 ev6
          refine z_iast F dX6_findMend_217 218 rfl 2 rfl (by decide) j1 ej1 hj1 (wMo aO cyI oI_3 (va_up oR_3 1 (upd (upd (oR_3 1) j2 v5) j1 v6))) rfl ?_
          refine z_aload_n F dX6_findMend_218 219 rfl 1 rfl ?_
          refine z_get F dX6_findMend_219 222 rfl kX6_findMend_56 0 rfl rfl ?_
          refine z_iconst F dX6_findMend_222 223 rfl zki_0 ?_
          refine z_iload_n F dX6_findMend_223 224 rfl 4 rfl ?_
          obtain ⟨j3, ej3, hj3, hw⟩ := hw
          refine z_iast F dX6_findMend_224 225 rfl 15 rfl (by decide) j3 ej3 hj3 (wMo aO cyI oI_3 (va_up (va_up oR_3 1 (upd (upd (oR_3 1) j2 v5) j1 v6)) 23 (upd (oR_3 23) j3 x3))) rfl ?_
          refine z_aload_n F dX6_findMend_225 226 rfl 1 rfl ?_
          refine z_get F dX6_findMend_226 229 rfl kX6_findMend_56 0 rfl rfl ?_
          refine z_iconst F dX6_findMend_229 230 rfl zki_1 ?_
          refine z_iload F dX6_findMend_230 232 rfl 5 rfl ?_
          obtain ⟨j4, ej4, hj4, hw⟩ := hw
          refine z_iast F dX6_findMend_232 233 rfl 15 rfl (by decide) j4 ej4 hj4 (wMo aO cyI oI_3 (va_up (va_up oR_3 1 (upd (upd (oR_3 1) j2 v5) j1 v6)) 23 (upd (upd (oR_3 23) j3 x3) j4 x4))) rfl ?_
          refine z_iload F dX6_findMend_233 235 rfl 0 rfl ?_
          obtain ⟨hwt, hwf⟩ := hw
          refine z_ifeqB F dX6_findMend_235 240 rfl 238 rfl (fun c6 => ?_) (fun c6 => ?_)
          · have hw := hwt c6; clear hwt hwf
            refine z_iinc F dX6_findMend_240 243 rfl 5 rfl (by decide) zki_1 (fun v7 => [(4, .int v7), (5, .int (zb b4)), (0, .ref (aO 0)), (1, .int x1), (2, .int x2), (3, .int x3)]) (fun _ => rfl) (fun v7 ev7 => ?_)
            replace hw := hw v7 ev7
            refine z_goto F dX6_findMend_243 107 rfl ?_
            refine z_lv (lv' := [(0, .ref (aO 0)), (1, .int x1), (2, .int x2), (3, .int x3), (4, .int v7)]) [2, 3, 4, 5, 0] rfl ?_
            exact ih v7 oI_3 (va_up (va_up oR_3 1 (upd (upd (oR_3 1) j2 v5) j1 v6)) 23 (upd (upd (oR_3 23) j3 x3) j4 x4)) hw
          · have hw := hwf c6; clear hwt hwf
            refine z_iconst F dX6_findMend_238 239 rfl zki_2 ?_
            exact hRt 239 _ 2 (oI_3, (va_up (va_up oR_3 1 (upd (upd (oR_3 1) j2 v5) j1 v6)) 23 (upd (upd (oR_3 23) j3 x3) j4 x4))) dX6_findMend_239 hw
        · have hw := hwf c5; clear hwt hwf
          refine z_goto F dX6_findMend_131 240 rfl ?_
          refine z_iinc F dX6_findMend_240 243 rfl 4 rfl (by decide) zki_1 (fun v8 => [(4, .int v8), (0, .ref (aO 0)), (1, .int x1), (2, .int x2), (3, .int x3)]) (fun _ => rfl) (fun v8 ev8 => ?_)
          replace hw := hw v8 ev8
          refine z_goto F dX6_findMend_243 107 rfl ?_
          refine z_lv (lv' := [(0, .ref (aO 0)), (1, .int x1), (2, .int x2), (3, .int x3), (4, .int v8)]) [1, 2, 3, 4, 0] rfl ?_
          exact ih v8 oI oR hw
set_option maxHeartbeats 4000000 in
set_option maxRecDepth 100000 in
theorem xX6_findMend_96 {C : zC} {D : va_G} {cyI cyB : ClassId} {aO : Nat → Nat} (x1 : Int32) (x2 : Int32) (F : zF C D { frames := 5, cells := 0, slots := 0, locals := 117 } cX6_findMend 6 wsX6_findMend RX6 (some .int) cyI cyB) {post : Int32 → (Nat → Int32) → (Nat → Nat → Int32) → Prop} (hRt : zRi C D cX6_findMend 6 (S := ((Nat → Int32) × (Nat → Nat → Int32))) (fun u => (wMo aO cyI u.1 u.2)) (fun r u => post r u.1 u.2)) : ∀ (n : Nat) (x3 : Int32) (oI : Nat → Int32) (oR : Nat → Nat → Int32), bX6_findMend_96 x1 x2 post  n x3 oI oR → zX C D 6 0 0 (wMo aO cyI oI oR) 96 [(0, .ref (aO 0)), (1, .int x1), (2, .int x2), (3, .int x3)] [] := by
  intro n
  induction n with
  | zero => intro _ _ _ hw; exact hw.elim
  | succ n ih =>
    intro x3 oI oR hw
    refine z_iload_n F dX6_findMend_96 97 rfl 3 rfl ?_
    refine z_bipush F dX6_findMend_97 99 rfl zkb_80 ?_
    obtain ⟨hwt, hwf⟩ := hw
    refine z_icmpge F dX6_findMend_99 252 rfl 102 rfl (fun c2 => ?_) (fun c2 => ?_)
    · have hw := hwt c2; clear hwt hwf
      refine z_bipush F dX6_findMend_252 254 rfl zkb_m9 ?_
      exact hRt 254 _ (-9) (oI, oR) dX6_findMend_254 hw
    · have hw := hwf c2; clear hwt hwf
      refine z_iload_n F dX6_findMend_102 103 rfl 3 rfl ?_
      refine z_iconst F dX6_findMend_103 104 rfl zki_1 ?_
      refine z_iadd F dX6_findMend_104 105 rfl ?_
      refine z_topi (fun v1 ev1 => ?_)
      replace hw := hw v1 ev1
      refine z_istore (lv' := [(4, .int v1), (0, .ref (aO 0)), (1, .int x1), (2, .int x2), (3, .int x3)]) F dX6_findMend_105 107 rfl (by decide) rfl ?_
      obtain ⟨n2, hw⟩ := hw
      refine z_lv (lv' := [(0, .ref (aO 0)), (1, .int x1), (2, .int x2), (3, .int x3), (4, .int v1)]) [1, 2, 3, 4, 0] rfl ?_
      refine xX6_findMend_107 x1 x2 x3 F hRt (fun oI_3 oR_3 hw => ?_) n2 v1 oI oR hw
      refine z_iinc F dX6_findMend_246 249 rfl 3 rfl (by decide) zki_1 (fun v2 => [(3, .int v2), (0, .ref (aO 0)), (1, .int x1), (2, .int x2)]) (fun _ => rfl) (fun v2 ev2 => ?_)
      replace hw := hw v2 ev2
      refine z_goto F dX6_findMend_249 96 rfl ?_
      refine z_lv (lv' := [(0, .ref (aO 0)), (1, .int x1), (2, .int x2), (3, .int v2)]) [1, 2, 3, 0] rfl ?_
      exact ih v2 oI_3 oR_3 hw
set_option maxHeartbeats 4000000 in
set_option maxRecDepth 100000 in
theorem xX6_findMend_0 {C : zC} {D : va_G} {cyI cyB : ClassId} {aO : Nat → Nat} (x1 : Int32) (x2 : Int32) (oI : Nat → Int32) (oR : Nat → Nat → Int32) (F : zF C D { frames := 5, cells := 0, slots := 0, locals := 117 } cX6_findMend 6 wsX6_findMend RX6 (some .int) cyI cyB) {post : Int32 → (Nat → Int32) → (Nat → Nat → Int32) → Prop} (hRt : zRi C D cX6_findMend 6 (S := ((Nat → Int32) × (Nat → Nat → Int32))) (fun u => (wMo aO cyI u.1 u.2)) (fun r u => post r u.1 u.2)) (hw : pX6_findMend x1 x2 oI oR post) : zX C D 6 0 0 (wMo aO cyI oI oR) 0 [(0, .ref (aO 0)), (1, .int x1), (2, .int x2)] [] := by
  refine z_aload_n F dX6_findMend_0 1 rfl 0 rfl ?_
  refine z_iload_n F dX6_findMend_1 2 rfl 1 rfl ?_
  refine z_iload_n F dX6_findMend_2 3 rfl 2 rfl ?_
  refine z_segVi (As := [.int x1, .int x2]) (st := []) F dX6_findMend_3 6 rfl (mX6_holds C.1.2.1 D cyI cyB aO x1 x2 oI oR hw) y_X6_holds rfl gX6_findMend_X6_holds rfl (ci := 6) (rq := 0) rfl rfl ⟨Nat.le_of_ble_eq_true rfl, Nat.le_of_ble_eq_true rfl⟩ ⟨Nat.zero_le _, Nat.zero_le _⟩ (Nat.le_of_ble_eq_true rfl) [] [] (by simp only [List.append_assoc, List.nil_append, List.append_nil]) (fun _ => rfl) (fun u => (wMo aO cyI u.1 u.2)) (fun u => (by simp only [List.append_assoc, List.nil_append, List.append_nil])) (fun r0 u hp => ?_)
  obtain ⟨oI_1, oR_1⟩ := u
  obtain ⟨b1, rfl, hw⟩ := hp
  obtain ⟨hwt, hwf⟩ := hw
  refine z_ifeqB F dX6_findMend_6 11 rfl 9 rfl (fun c1 => ?_) (fun c1 => ?_)
  · have hw := hwt c1; clear hwt hwf
    refine z_iconst F dX6_findMend_11 12 rfl zki_0 ?_
    refine z_istore_n (lv' := [(3, .int 0), (0, .ref (aO 0)), (1, .int x1), (2, .int x2)]) F dX6_findMend_12 13 rfl (by decide) rfl ?_
    obtain ⟨n1, hw⟩ := hw
    refine z_lv (lv' := [(0, .ref (aO 0)), (1, .int x1), (2, .int x2), (3, .int 0)]) [1, 2, 3, 0] rfl ?_
    refine xX6_findMend_13 x1 x2 F hRt (fun oI_2 oR_2 hw => ?_) n1 0 oI_1 oR_1 hw
    refine z_iconst F dX6_findMend_94 95 rfl zki_0 ?_
    refine z_istore_n (lv' := [(3, .int 0), (0, .ref (aO 0)), (1, .int x1), (2, .int x2)]) F dX6_findMend_95 96 rfl (by decide) rfl ?_
    obtain ⟨n2, hw⟩ := hw
    refine z_lv (lv' := [(0, .ref (aO 0)), (1, .int x1), (2, .int x2), (3, .int 0)]) [1, 2, 3, 0] rfl ?_
    refine xX6_findMend_96 x1 x2 F hRt n2 0 oI_2 oR_2 hw
  · have hw := hwf c1; clear hwt hwf
    refine z_iconst F dX6_findMend_9 10 rfl zki_0 ?_
    exact hRt 10 _ 0 (oI_1, oR_1) dX6_findMend_10 hw
set_option maxHeartbeats 4000000 in
set_option maxRecDepth 100000 in
theorem mX6_findMend (l : Launch) (D : va_G) (cyI cyB : ClassId) (aO : Nat → Nat) (x1 : Int32) (x2 : Int32) (oI : Nat → Int32) (oR : Nat → Nat → Int32) {post : Int32 → (Nat → Int32) → (Nat → Nat → Int32) → Prop} (hw : pX6_findMend x1 x2 oI oR post) : zMi l yX6_findMend wsX6_findMend 5 117 D cyI cyB [.ref (aO 0), .int x1, .int x2] (wMo aO cyI oI oR) (S := ((Nat → Int32) × (Nat → Nat → Int32))) (fun u => (wMo aO cyI u.1 u.2)) (fun r u => post r u.1 u.2) :=
  z_meti (cc := cX6_findMend) (nL := 6) (by decide +kernel) rfl (Nat.le_of_ble_eq_true rfl) (fun C hl F hRt => xX6_findMend_0 x1 x2 oI oR F hRt hw)
theorem y_X6_findMend : zY yX6_findMend wsX6_findMend cX6_findMend 6 (some .int) 2 := ⟨⟨_, rfl⟩, by decide +kernel⟩
