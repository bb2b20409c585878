theorem iX0_next_0 : ∀ w ∈ wsX00, w ∈ wsX0_next := fun w h => List.mem_cons_of_mem _ (List.mem_append_right _ h)
theorem kX0_next_15 : zL wsX0_next RX0 15 0 1 .int false := zL0 iX0_next_0 (by decide) (List.mem_of_getElem? (i := 1) rfl) rfl rfl
set_option maxHeartbeats 4000000 in
set_option maxRecDepth 100000 in
theorem xX0_next_0 {C : zC} {D : va_G} {cyI cyB : ClassId} {aC : Nat → Nat} (x1 : Int32) (cz : Int32) (ct : Int32) (cf : Nat → Int32) (F : zF C D { frames := 0, cells := 0, slots := 0, locals := 0 } cX0_next 2 wsX0_next RX0 (some .int) cyI cyB) {post : Int32 → Prop} (hRt : zRi C D cX0_next 2 (S := (Unit)) (fun u => (wCh aC cyI cz ct cf)) (fun r u => post r )) (hw : pX0_next x1 cz ct cf post) : zX C D 2 0 0 (wCh aC cyI cz ct cf) 0 [(0, .ref (aC 0)), (1, .int x1)] [] := by
  refine z_iload_n F dX0_next_0 1 rfl 1 rfl ?_
  refine z_iconst F dX0_next_1 2 rfl zki_1 ?_
  refine z_iadd F dX0_next_2 3 rfl ?_
  refine z_aload_n F dX0_next_3 4 rfl 0 rfl ?_
  refine z_get F dX0_next_4 7 rfl kX0_next_15 0 rfl rfl ?_
  obtain ⟨hwt, hwf⟩ := hw
  refine z_icmpge F dX0_next_7 16 rfl 10 rfl (fun c1 => ?_) (fun c1 => ?_)
  · have hw := hwt c1; clear hwt hwf
    refine z_iconst F dX0_next_16 17 rfl zki_0 ?_
    exact hRt 17 _ 0 () dX0_next_17 hw
  · have hw := hwf c1; clear hwt hwf
    refine z_iload_n F dX0_next_10 11 rfl 1 rfl ?_
    refine z_iconst F dX0_next_11 12 rfl zki_1 ?_
    refine z_iadd F dX0_next_12 13 rfl ?_
    refine z_goto F dX0_next_13 17 rfl ?_
    exact hRt 17 _ (x1 + 1) () dX0_next_17 hw
set_option maxHeartbeats 4000000 in
set_option maxRecDepth 100000 in
theorem mX0_next (l : Launch) (D : va_G) (cyI cyB : ClassId) (aC : Nat → Nat) (x1 : Int32) (cz : Int32) (ct : Int32) (cf : Nat → Int32) {post : Int32 → Prop} (hw : pX0_next x1 cz ct cf post) : zMi l yX0_next wsX0_next 0 0 D cyI cyB [.ref (aC 0), .int x1] (wCh aC cyI cz ct cf) (S := (Unit)) (fun u => (wCh aC cyI cz ct cf)) (fun r u => post r ) :=
  z_meti (cc := cX0_next) (nL := 2) (by decide +kernel) rfl (Nat.le_of_ble_eq_true rfl) (fun C hl F hRt => xX0_next_0 x1 cz ct cf F hRt hw)
theorem y_X0_next : zY yX0_next wsX0_next cX0_next 2 (some .int) 1 := ⟨⟨_, rfl⟩, by decide +kernel⟩
set_option maxHeartbeats 4000000 in
set_option maxRecDepth 100000 in
theorem xJ6_bitCount_0f7a4_0 {C : zC} {D : va_G} {cyI cyB : ClassId} (x0 : Int32) (F : zF C D { frames := 0, cells := 0, slots := 0, locals := 0 } cJ6_bitCount_0f7a4 1 wsJ6_bitCount_0f7a4 RJ6 (some .int) cyI cyB) {post : Int32 → Prop} (hRt : zRi C D cJ6_bitCount_0f7a4 1 (S := (Unit)) (fun u => ([] : va_W)) (fun r u => post r )) (hw : pJ6_bitCount_0f7a4 x0 post) : zX C D 1 0 0 ([] : va_W) 0 [(0, .int x0)] [] := by
  refine z_iload_n F dJ6_bitCount_0f7a4_0 1 rfl 0 rfl ?_
  refine z_iload_n F dJ6_bitCount_0f7a4_1 2 rfl 0 rfl ?_
  refine z_iconst F dJ6_bitCount_0f7a4_2 3 rfl zki_1 ?_
  refine z_iushr F dJ6_bitCount_0f7a4_3 4 rfl ?_
  refine z_ldcw F dJ6_bitCount_0f7a4_4 7 rfl (List.mem_of_getElem? (i := 1) rfl) ?_
  refine z_iand F dJ6_bitCount_0f7a4_7 8 rfl ?_
  refine z_isub F dJ6_bitCount_0f7a4_8 9 rfl ?_
  refine z_topi (fun v1 ev1 => ?_)
  replace hw := hw v1 ev1
  refine z_istore_n (lv' := [(0, .int v1)]) F dJ6_bitCount_0f7a4_9 10 rfl (by decide) rfl ?_
  refine z_iload_n F dJ6_bitCount_0f7a4_10 11 rfl 0 rfl ?_
  refine z_ldcw F dJ6_bitCount_0f7a4_11 14 rfl (List.mem_of_getElem? (i := 2) rfl) ?_
  refine z_iand F dJ6_bitCount_0f7a4_14 15 rfl ?_
  refine z_iload_n F dJ6_bitCount_0f7a4_15 16 rfl 0 rfl ?_
  refine z_iconst F dJ6_bitCount_0f7a4_16 17 rfl zki_2 ?_
  refine z_iushr F dJ6_bitCount_0f7a4_17 18 rfl ?_
  refine z_ldcw F dJ6_bitCount_0f7a4_18 21 rfl (List.mem_of_getElem? (i := 2) rfl) ?_
  refine z_iand F dJ6_bitCount_0f7a4_21 22 rfl ?_
  refine z_iadd F dJ6_bitCount_0f7a4_22 23 rfl ?_
  refine z_topi (fun v2 ev2 => ?_)
  replace hw := hw v2 ev2
  refine z_istore_n (lv' := [(0, .int v2)]) F dJ6_bitCount_0f7a4_23 24 rfl (by decide) rfl ?_
  refine z_iload_n F dJ6_bitCount_0f7a4_24 25 rfl 0 rfl ?_
  refine z_iload_n F dJ6_bitCount_0f7a4_25 26 rfl 0 rfl ?_
  refine z_iconst F dJ6_bitCount_0f7a4_26 27 rfl zki_4 ?_
  refine z_iushr F dJ6_bitCount_0f7a4_27 28 rfl ?_
  refine z_iadd F dJ6_bitCount_0f7a4_28 29 rfl ?_
  refine z_ldcw F dJ6_bitCount_0f7a4_29 32 rfl (List.mem_of_getElem? (i := 3) rfl) ?_
  refine z_iand F dJ6_bitCount_0f7a4_32 33 rfl ?_
  refine z_topi (fun v3 ev3 => ?_)
  replace hw := hw v3 ev3
  refine z_istore_n (lv' := [(0, .int v3)]) F dJ6_bitCount_0f7a4_33 34 rfl (by decide) rfl ?_
  refine z_iload_n F dJ6_bitCount_0f7a4_34 35 rfl 0 rfl ?_
  refine z_iload_n F dJ6_bitCount_0f7a4_35 36 rfl 0 rfl ?_
  refine z_bipush F dJ6_bitCount_0f7a4_36 38 rfl zkb_8 ?_
  refine z_iushr F dJ6_bitCount_0f7a4_38 39 rfl ?_
  refine z_iadd F dJ6_bitCount_0f7a4_39 40 rfl ?_
  refine z_topi (fun v4 ev4 => ?_)
  replace hw := hw v4 ev4
  refine z_istore_n (lv' := [(0, .int v4)]) F dJ6_bitCount_0f7a4_40 41 rfl (by decide) rfl ?_
  refine z_iload_n F dJ6_bitCount_0f7a4_41 42 rfl 0 rfl ?_
  refine z_iload_n F dJ6_bitCount_0f7a4_42 43 rfl 0 rfl ?_
  refine z_bipush F dJ6_bitCount_0f7a4_43 45 rfl zkb_16 ?_
  refine z_iushr F dJ6_bitCount_0f7a4_45 46 rfl ?_
  refine z_iadd F dJ6_bitCount_0f7a4_46 47 rfl ?_
  refine z_topi (fun v5 ev5 => ?_)
  replace hw := hw v5 ev5
  refine z_istore_n (lv' := [(0, .int v5)]) F dJ6_bitCount_0f7a4_47 48 rfl (by decide) rfl ?_
  refine z_iload_n F dJ6_bitCount_0f7a4_48 49 rfl 0 rfl ?_
  refine z_bipush F dJ6_bitCount_0f7a4_49 51 rfl zkb_63 ?_
  refine z_iand F dJ6_bitCount_0f7a4_51 52 rfl ?_
  exact hRt 52 _ (v5 &&& 63) () dJ6_bitCount_0f7a4_52 hw
set_option maxHeartbeats 4000000 in
set_option maxRecDepth 100000 in
theorem mJ6_bitCount_0f7a4 (l : Launch) (D : va_G) (cyI cyB : ClassId) (x0 : Int32) {post : Int32 → Prop} (hw : pJ6_bitCount_0f7a4 x0 post) : zMi l yJ6_bitCount_0f7a4 wsJ6_bitCount_0f7a4 0 0 D cyI cyB [.int x0] ([] : va_W) (S := (Unit)) (fun u => ([] : va_W)) (fun r u => post r ) :=
  z_meti (cc := cJ6_bitCount_0f7a4) (nL := 1) (by decide +kernel) rfl (Nat.le_of_ble_eq_true rfl) (fun C hl F hRt => xJ6_bitCount_0f7a4_0 x0 F hRt hw)
theorem y_J6_bitCount_0f7a4 : zY yJ6_bitCount_0f7a4 wsJ6_bitCount_0f7a4 cJ6_bitCount_0f7a4 1 (some .int) 1 := ⟨⟨_, rfl⟩, by decide +kernel⟩
theorem iX0_choose_0 : ∀ w ∈ wsX00, w ∈ wsX0_choose := fun w h => List.mem_cons_of_mem _ (List.mem_append_right _ h)
theorem kX0_choose_9 : zL wsX0_choose RX0 9 0 0 (.array .int) true := zL0 iX0_choose_0 (by decide) (List.mem_of_getElem? (i := 7) rfl) rfl rfl
theorem kX0_choose_15 : zL wsX0_choose RX0 15 0 1 .int false := zL0 iX0_choose_0 (by decide) (List.mem_of_getElem? (i := 5) rfl) rfl rfl
theorem kX0_choose_19 : zL wsX0_choose RX0 19 0 2 .int false := zL0 iX0_choose_0 (by decide) (List.mem_of_getElem? (i := 6) rfl) rfl rfl
set_option maxHeartbeats 4000000 in
set_option maxRecDepth 100000 in
theorem xX0_choose_22 {C : zC} {D : va_G} {cyI cyB : ClassId} {aC : Nat → Nat} (x1 : Int32) (x3 : Int32) (F : zF C D { frames := 1, cells := 0, slots := 0, locals := 20 } cX0_choose 5 wsX0_choose RX0 none cyI cyB) {post : Int32 → Int32 → (Nat → Int32) → Prop} (hRt : zRv C D cX0_choose 5 (S := (Int32 × Int32 × (Nat → Int32))) (fun u => (wCh aC cyI u.1 u.2.1 u.2.2)) (fun u => post u.1 u.2.1 u.2.2)) : ∀ (n : Nat) (x4 : Int32) (cz : Int32) (ct : Int32) (cf : Nat → Int32), bX0_choose_22 x1 x3 post  n x4 cz ct cf → zX C D 5 0 0 (wCh aC cyI cz ct cf) 22 [(0, .ref (aC 0)), (1, .int x1), (3, .int x3), (4, .int x4)] [] := by
  intro n
  induction n with
  | zero => intro _ _ _ _ hw; exact hw.elim
  | succ n ih =>
    intro x4 cz ct cf hw
    refine z_iload F dX0_choose_22 24 rfl 3 rfl ?_
    refine z_iload_n F dX0_choose_24 25 rfl 1 rfl ?_
    obtain ⟨hwt, hwf⟩ := hw
    refine z_icmpgt F dX0_choose_25 82 rfl 28 rfl (fun c1 => ?_) (fun c1 => ?_)
    · have hw := hwt c1; clear hwt hwf
      exact hRt 82 _ (cz, ct, cf) dX0_choose_82 hw
    · have hw := hwf c1; clear hwt hwf
      refine z_iload F dX0_choose_28 30 rfl 3 rfl ?_
      refine z_iload_n F dX0_choose_30 31 rfl 1 rfl ?_
      refine z_iconst F dX0_choose_31 32 rfl zki_m1 ?_
      refine z_ixor F dX0_choose_32 33 rfl ?_
      refine z_iand F dX0_choose_33 34 rfl ?_
      obtain ⟨hwt, hwf⟩ := hw
      refine z_ifne F dX0_choose_34 76 rfl 37 rfl (fun c2 => ?_) (fun c2 => ?_)
      · have hw := hwt c2; clear hwt hwf
        refine z_iinc F dX0_choose_76 79 rfl 3 rfl (by decide) zki_1 (fun v2 => [(4, .int v2), (0, .ref (aC 0)), (1, .int x1), (3, .int x3)]) (fun _ => rfl) (fun v2 ev2 => ?_)
        replace hw := hw v2 ev2
        refine z_goto F dX0_choose_79 22 rfl ?_
        refine z_lv (lv' := [(0, .ref (aC 0)), (1, .int x1), (3, .int x3), (4, .int v2)]) [1, 2, 3, 0] rfl ?_
        exact ih v2 cz ct cf hw
      · have hw := hwf c2; clear hwt hwf
        refine z_iload F dX0_choose_37 39 rfl 3 rfl ?_
        refine z_callSi (As := [.int x4]) (st := []) F dX0_choose_39 42 rfl (mJ6_bitCount_0f7a4 C.1.2.1 D cyI cyB x4 hw) y_J6_bitCount_0f7a4 rfl gX0_choose_J6_bitCount_0f7a4 ⟨Nat.le_of_ble_eq_true rfl, Nat.le_of_ble_eq_true rfl⟩ ⟨Nat.zero_le _, Nat.zero_le _⟩ (Nat.le_of_ble_eq_true rfl) [] (by decide) rfl (fun _ => rfl) (fun u => (wCh aC cyI cz ct cf)) (fun _ => rfl) (fun r2 u hp => ?_)
        replace hw := hp
        clear hp
        refine z_iload_n F dX0_choose_42 43 rfl 2 rfl ?_
        obtain ⟨hwt, hwf⟩ := hw
        refine z_icmpne F dX0_choose_43 76 rfl 46 rfl (fun c3 => ?_) (fun c3 => ?_)
        · have hw := hwt c3; clear hwt hwf
          refine z_iinc F dX0_choose_76 79 rfl 3 rfl (by decide) zki_1 (fun v3 => [(4, .int v3), (0, .ref (aC 0)), (1, .int x1), (3, .int x3)]) (fun _ => rfl) (fun v3 ev3 => ?_)
          replace hw := hw v3 ev3
          refine z_goto F dX0_choose_79 22 rfl ?_
          refine z_lv (lv' := [(0, .ref (aC 0)), (1, .int x1), (3, .int x3), (4, .int v3)]) [1, 2, 3, 0] rfl ?_
          exact ih v3 cz ct cf hw
        · have hw := hwf c3; clear hwt hwf
          refine z_aload_n F dX0_choose_46 47 rfl 0 rfl ?_
          refine z_get F dX0_choose_47 50 rfl kX0_choose_15 0 rfl rfl ?_
          refine z_bipush F dX0_choose_50 52 rfl zkb_70 ?_
          obtain ⟨hwt, hwf⟩ := hw
          refine z_icmpge F dX0_choose_52 76 rfl 55 rfl (fun c4 => ?_) (fun c4 => ?_)
          · have hw := hwt c4; clear hwt hwf
            refine z_iinc F dX0_choose_76 79 rfl 3 rfl (by decide) zki_1 (fun v4 => [(4, .int v4), (0, .ref (aC 0)), (1, .int x1), (3, .int x3)]) (fun _ => rfl) (fun v4 ev4 => ?_)
            replace hw := hw v4 ev4
            refine z_goto F dX0_choose_79 22 rfl ?_
            refine z_lv (lv' := [(0, .ref (aC 0)), (1, .int x1), (3, .int x3), (4, .int v4)]) [1, 2, 3, 0] rfl ?_
            exact ih v4 cz ct cf hw
          · have hw := hwf c4; clear hwt hwf
            refine z_aload_n F dX0_choose_55 56 rfl 0 rfl ?_
            refine z_get F dX0_choose_56 59 rfl kX0_choose_9 0 rfl rfl ?_
            refine z_aload_n F dX0_choose_59 60 rfl 0 rfl ?_
            refine z_get F dX0_choose_60 63 rfl kX0_choose_15 0 rfl rfl ?_
            refine z_iload F dX0_choose_63 65 rfl 3 rfl ?_
            obtain ⟨j1, ej1, hj1, hw⟩ := hw
            refine z_iast F dX0_choose_65 66 rfl 1 rfl (by decide) j1 ej1 hj1 (wCh aC cyI cz ct (upd cf j1 x4)) rfl ?_
            refine z_aload_n F dX0_choose_66 67 rfl 0 rfl ?_
            refine z_dup F dX0_choose_67 68 rfl rfl ?_
            refine z_get F dX0_choose_68 71 rfl kX0_choose_15 0 rfl rfl ?_
            refine z_iconst F dX0_choose_71 72 rfl zki_1 ?_
            refine z_iadd F dX0_choose_72 73 rfl ?_
            refine z_topi (fun v5 ev5 => ?_)
            replace hw := hw v5 ev5
            refine z_put F dX0_choose_73 76 rfl kX0_choose_15 0 rfl rfl rfl (Nat.le_of_ble_eq_true rfl) (wCh aC cyI v5 ct (upd cf j1 x4)) rfl ?_
            refine z_iinc F dX0_choose_76 79 rfl 3 rfl (by decide) zki_1 (fun v6 => [(4, .int v6), (0, .ref (aC 0)), (1, .int x1), (3, .int x3)]) (fun _ => rfl) (fun v6 ev6 => ?_)
            replace hw := hw v6 ev6
            refine z_goto F dX0_choose_79 22 rfl ?_
            refine z_lv (lv' := [(0, .ref (aC 0)), (1, .int x1), (3, .int x3), (4, .int v6)]) [1, 2, 3, 0] rfl ?_
            exact ih v6 v5 ct (upd cf j1 x4) hw
set_option maxHeartbeats 4000000 in
set_option maxRecDepth 100000 in
theorem xX0_choose_0 {C : zC} {D : va_G} {cyI cyB : ClassId} {aC : Nat → Nat} (x1 : Int32) (x2 : Int32) (cz : Int32) (ct : Int32) (cf : Nat → Int32) (F : zF C D { frames := 1, cells := 0, slots := 0, locals := 20 } cX0_choose 5 wsX0_choose RX0 none cyI cyB) {post : Int32 → Int32 → (Nat → Int32) → Prop} (hRt : zRv C D cX0_choose 5 (S := (Int32 × Int32 × (Nat → Int32))) (fun u => (wCh aC cyI u.1 u.2.1 u.2.2)) (fun u => post u.1 u.2.1 u.2.2)) (hw : pX0_choose x1 x2 cz ct cf post) : zX C D 5 0 0 (wCh aC cyI cz ct cf) 0 [(0, .ref (aC 0)), (1, .int x1), (2, .int x2)] [] := by
  refine z_iload_n F dX0_choose_0 1 rfl 2 rfl ?_
  refine z_iload_n F dX0_choose_1 2 rfl 1 rfl ?_
  refine z_callSi (As := [.int x1]) (st := [.int x2]) F dX0_choose_2 5 rfl (mJ6_bitCount_0f7a4 C.1.2.1 D cyI cyB x1 hw) y_J6_bitCount_0f7a4 rfl gX0_choose_J6_bitCount_0f7a4 ⟨Nat.le_of_ble_eq_true rfl, Nat.le_of_ble_eq_true rfl⟩ ⟨Nat.zero_le _, Nat.zero_le _⟩ (Nat.le_of_ble_eq_true rfl) [] (by decide) rfl (fun _ => rfl) (fun u => (wCh aC cyI cz ct cf)) (fun _ => rfl) (fun r1 u hp => ?_)
  replace hw := hp
  clear hp
  refine z_min F dX0_choose_5 8 rfl (List.mem_of_getElem? (i := 1) rfl) (List.mem_of_getElem? (i := 2) rfl) (List.mem_of_getElem? (i := 3) rfl) (List.mem_of_getElem? (i := 4) rfl) (Nat.le_of_ble_eq_true rfl) (Nat.le_of_ble_eq_true rfl) ⟨Nat.zero_le _, Nat.zero_le _⟩ ?_
  refine z_topi (fun v1 ev1 => ?_)
  replace hw := hw v1 ev1
  refine z_istore_n (lv' := [(3, .int v1), (0, .ref (aC 0)), (1, .int x1), (2, .int x2)]) F dX0_choose_8 9 rfl (by decide) rfl ?_
  refine z_aload_n F dX0_choose_9 10 rfl 1 rfl ?_
  refine z_iconst F dX0_choose_10 11 rfl zki_0 ?_
  refine z_put F dX0_choose_11 14 rfl kX0_choose_15 0 rfl rfl rfl (Nat.le_of_ble_eq_true rfl) (wCh aC cyI 0 ct cf) rfl ?_
  refine z_aload_n F dX0_choose_14 15 rfl 1 rfl ?_
  refine z_iconst F dX0_choose_15 16 rfl zki_0 ?_
  refine z_put F dX0_choose_16 19 rfl kX0_choose_19 0 rfl rfl rfl (Nat.le_of_ble_eq_true rfl) (wCh aC cyI 0 0 cf) rfl ?_
  refine z_iconst F dX0_choose_19 20 rfl zki_0 ?_
  refine z_istore (lv' := [(4, .int 0), (3, .int v1), (0, .ref (aC 0)), (1, .int x1), (2, .int x2)]) F dX0_choose_20 22 rfl (by decide) rfl ?_
  obtain ⟨n1, hw⟩ := hw
  refine z_lv (lv' := [(0, .ref (aC 0)), (1, .int x1), (3, .int v1), (4, .int 0)]) [2, 3, 1, 0] rfl ?_
  refine xX0_choose_22 x1 v1 F hRt n1 0 0 0 cf hw
set_option maxHeartbeats 4000000 in
set_option maxRecDepth 100000 in
theorem mX0_choose (l : Launch) (D : va_G) (cyI cyB : ClassId) (aC : Nat → Nat) (x1 : Int32) (x2 : Int32) (cz : Int32) (ct : Int32) (cf : Nat → Int32) {post : Int32 → Int32 → (Nat → Int32) → Prop} (hw : pX0_choose x1 x2 cz ct cf post) : zMv l yX0_choose wsX0_choose 1 20 D cyI cyB [.ref (aC 0), .int x1, .int x2] (wCh aC cyI cz ct cf) (S := (Int32 × Int32 × (Nat → Int32))) (fun u => (wCh aC cyI u.1 u.2.1 u.2.2)) (fun u => post u.1 u.2.1 u.2.2) :=
  z_metv (cc := cX0_choose) (nL := 5) (by decide +kernel) rfl (Nat.le_of_ble_eq_true rfl) (fun C hl F hRt => xX0_choose_0 x1 x2 cz ct cf F hRt hw)
theorem y_X0_choose : zY yX0_choose wsX0_choose cX0_choose 5 none 2 := ⟨⟨_, rfl⟩, by decide +kernel⟩
theorem iX3_isFull_3 : ∀ w ∈ wsX30, w ∈ wsX3_isFull := fun w h => List.mem_cons_of_mem _ (List.mem_append_right _ h)
theorem kX3_isFull_18 : zL wsX3_isFull RX3 18 3 2 .int false := zL3 iX3_isFull_3 (by decide) (List.mem_of_getElem? (i := 1) rfl) rfl rfl
set_option maxHeartbeats 4000000 in
set_option maxRecDepth 100000 in
theorem xX3_isFull_0 {C : zC} {D : va_G} {cyI cyB : ClassId} {aP : Nat → Nat} (pn : Int32) (pf : Nat → Int32) (ps : Nat → Int32) (F : zF C D { frames := 0, cells := 0, slots := 0, locals := 0 } cX3_isFull 1 wsX3_isFull RX3 (some .boolean) cyI cyB) {post : Bool → Prop} (hRt : zRz C D cX3_isFull 1 (S := (Unit)) (fun u => (wPa aP cyI pn pf ps)) (fun r u => ∃ b : Bool, r = zb b ∧ post b )) (hw : pX3_isFull pn pf ps post) : zX C D 1 0 0 (wPa aP cyI pn pf ps) 0 [(0, .ref (aP 0))] [] := by
  refine z_aload_n F dX3_isFull_0 1 rfl 0 rfl ?_
  refine z_get F dX3_isFull_1 4 rfl kX3_isFull_18 0 rfl rfl ?_
  refine z_bipush F dX3_isFull_4 6 rfl zkb_12 ?_
  obtain ⟨hwt, hwf⟩ := hw
  refine z_icmplt F dX3_isFull_6 13 rfl 9 rfl (fun c1 => ?_) (fun c1 => ?_)
  · have hw := hwt c1; clear hwt hwf
    refine z_iconst F dX3_isFull_13 14 rfl zki_0 ?_
    exact hRt 14 _ false () dX3_isFull_14 ⟨false, rfl, hw⟩
  · have hw := hwf c1; clear hwt hwf
    refine z_iconst F dX3_isFull_9 10 rfl zki_1 ?_
    refine z_goto F dX3_isFull_10 14 rfl ?_
    exact hRt 14 _ true () dX3_isFull_14 ⟨true, rfl, hw⟩
set_option maxHeartbeats 4000000 in
set_option maxRecDepth 100000 in
theorem mX3_isFull (l : Launch) (D : va_G) (cyI cyB : ClassId) (aP : Nat → Nat) (pn : Int32) (pf : Nat → Int32) (ps : Nat → Int32) {post : Bool → Prop} (hw : pX3_isFull pn pf ps post) : zMi l yX3_isFull wsX3_isFull 0 0 D cyI cyB [.ref (aP 0)] (wPa aP cyI pn pf ps) (S := (Unit)) (fun u => (wPa aP cyI pn pf ps)) (fun r u => ∃ b : Bool, r = zb b ∧ post b ) :=
  z_metz (cc := cX3_isFull) (nL := 1) (by decide +kernel) rfl (Nat.le_of_ble_eq_true rfl) (fun C hl F hRt => xX3_isFull_0 pn pf ps F hRt hw)
theorem y_X3_isFull : zY yX3_isFull wsX3_isFull cX3_isFull 1 (some .boolean) 0 := ⟨⟨_, rfl⟩, by decide +kernel⟩
theorem iX3_has_3 : ∀ w ∈ wsX30, w ∈ wsX3_has := fun w h => List.mem_cons_of_mem _ (List.mem_append_right _ h)
theorem kX3_has_9 : zL wsX3_has RX3 9 3 0 (.array .int) true := zL3 iX3_has_3 (by decide) (List.mem_of_getElem? (i := 2) rfl) rfl rfl
theorem kX3_has_15 : zL wsX3_has RX3 15 3 1 (.array .int) true := zL3 iX3_has_3 (by decide) (List.mem_of_getElem? (i := 3) rfl) rfl rfl
theorem kX3_has_18 : zL wsX3_has RX3 18 3 2 .int false := zL3 iX3_has_3 (by decide) (List.mem_of_getElem? (i := 1) rfl) rfl rfl
set_option maxHeartbeats 4000000 in
set_option maxRecDepth 100000 in
theorem xX3_has_2 {C : zC} {D : va_G} {cyI cyB : ClassId} {aP : Nat → Nat} (x1 : Int32) (x2 : Int32) (pn : Int32) (pf : Nat → Int32) (ps : Nat → Int32) (F : zF C D { frames := 0, cells := 0, slots := 0, locals := 0 } cX3_has 4 wsX3_has RX3 (some .boolean) cyI cyB) {post : Bool → Prop} (hRt : zRz C D cX3_has 4 (S := (Unit)) (fun u => (wPa aP cyI pn pf ps)) (fun r u => ∃ b : Bool, r = zb b ∧ post b )) : ∀ (n : Nat) (x3 : Int32), bX3_has_2 x1 x2 pn pf ps post  n x3 → zX C D 4 0 0 (wPa aP cyI pn pf ps) 2 [(0, .ref (aP 0)), (1, .int x1), (2, .int x2), (3, .int x3)] [] := by
  intro n
  induction n with
  | zero => intro _ hw; exact hw.elim
  | succ n ih =>
    intro x3 hw
    refine z_iload_n F dX3_has_2 3 rfl 3 rfl ?_
    refine z_aload_n F dX3_has_3 4 rfl 0 rfl ?_
    refine z_get F dX3_has_4 7 rfl kX3_has_18 0 rfl rfl ?_
    obtain ⟨hwt, hwf⟩ := hw
    refine z_icmpge F dX3_has_7 38 rfl 10 rfl (fun c1 => ?_) (fun c1 => ?_)
    · have hw := hwt c1; clear hwt hwf
      refine z_iconst F dX3_has_38 39 rfl zki_0 ?_
      exact hRt 39 _ false () dX3_has_39 ⟨false, rfl, hw⟩
    · have hw := hwf c1; clear hwt hwf
      refine z_aload_n F dX3_has_10 11 rfl 0 rfl ?_
      refine z_get F dX3_has_11 14 rfl kX3_has_9 0 rfl rfl ?_
      refine z_iload_n F dX3_has_14 15 rfl 3 rfl ?_
      obtain ⟨j1, ej1, hj1, hw⟩ := hw
      refine z_iald F dX3_has_15 16 rfl 1 rfl (by decide) j1 ej1 hj1 ?_
      refine z_iload_n F dX3_has_16 17 rfl 1 rfl ?_
      obtain ⟨hwt, hwf⟩ := hw
      refine z_icmpne F dX3_has_17 32 rfl 20 rfl (fun c2 => ?_) (fun c2 => ?_)
      · have hw := hwt c2; clear hwt hwf
        refine z_iinc F dX3_has_32 35 rfl 3 rfl (by decide) zki_1 (fun v1 => [(3, .int v1), (0, .ref (aP 0)), (1, .int x1), (2, .int x2)]) (fun _ => rfl) (fun v1 ev1 => ?_)
        replace hw := hw v1 ev1
        refine z_goto F dX3_has_35 2 rfl ?_
        refine z_lv (lv' := [(0, .ref (aP 0)), (1, .int x1), (2, .int x2), (3, .int v1)]) [1, 2, 3, 0] rfl ?_
        exact ih v1 hw
      · have hw := hwf c2; clear hwt hwf
        refine z_aload_n F dX3_has_20 21 rfl 0 rfl ?_
        refine z_get F dX3_has_21 24 rfl kX3_has_15 0 rfl rfl ?_
        refine z_iload_n F dX3_has_24 25 rfl 3 rfl ?_
        refine z_iald F dX3_has_25 26 rfl 2 rfl (by decide) j1 ej1 hj1 ?_
        refine z_iload_n F dX3_has_26 27 rfl 2 rfl ?_
        obtain ⟨hwt, hwf⟩ := hw
        refine z_icmpne F dX3_has_27 32 rfl 30 rfl (fun c3 => ?_) (fun c3 => ?_)
        · have hw := hwt c3; clear hwt hwf
          refine z_iinc F dX3_has_32 35 rfl 3 rfl (by decide) zki_1 (fun v2 => [(3, .int v2), (0, .ref (aP 0)), (1, .int x1), (2, .int x2)]) (fun _ => rfl) (fun v2 ev2 => ?_)
          replace hw := hw v2 ev2
          refine z_goto F dX3_has_35 2 rfl ?_
          refine z_lv (lv' := [(0, .ref (aP 0)), (1, .int x1), (2, .int x2), (3, .int v2)]) [1, 2, 3, 0] rfl ?_
          exact ih v2 hw
        · have hw := hwf c3; clear hwt hwf
          refine z_iconst F dX3_has_30 31 rfl zki_1 ?_
          exact hRt 31 _ true () dX3_has_31 ⟨true, rfl, hw⟩
set_option maxHeartbeats 4000000 in
set_option maxRecDepth 100000 in
theorem xX3_has_0 {C : zC} {D : va_G} {cyI cyB : ClassId} {aP : Nat → Nat} (x1 : Int32) (x2 : Int32) (pn : Int32) (pf : Nat → Int32) (ps : Nat → Int32) (F : zF C D { frames := 0, cells := 0, slots := 0, locals := 0 } cX3_has 4 wsX3_has RX3 (some .boolean) cyI cyB) {post : Bool → Prop} (hRt : zRz C D cX3_has 4 (S := (Unit)) (fun u => (wPa aP cyI pn pf ps)) (fun r u => ∃ b : Bool, r = zb b ∧ post b )) (hw : pX3_has x1 x2 pn pf ps post) : zX C D 4 0 0 (wPa aP cyI pn pf ps) 0 [(0, .ref (aP 0)), (1, .int x1), (2, .int x2)] [] := by
  refine z_iconst F dX3_has_0 1 rfl zki_0 ?_
  refine z_istore_n (lv' := [(3, .int 0), (0, .ref (aP 0)), (1, .int x1), (2, .int x2)]) F dX3_has_1 2 rfl (by decide) rfl ?_
  obtain ⟨n1, hw⟩ := hw
  refine z_lv (lv' := [(0, .ref (aP 0)), (1, .int x1), (2, .int x2), (3, .int 0)]) [1, 2, 3, 0] rfl ?_
  refine xX3_has_2 x1 x2 pn pf ps F hRt n1 0 hw
set_option maxHeartbeats 4000000 in
set_option maxRecDepth 100000 in
theorem mX3_has (l : Launch) (D : va_G) (cyI cyB : ClassId) (aP : Nat → Nat) (x1 : Int32) (x2 : Int32) (pn : Int32) (pf : Nat → Int32) (ps : Nat → Int32) {post : Bool → Prop} (hw : pX3_has x1 x2 pn pf ps post) : zMi l yX3_has wsX3_has 0 0 D cyI cyB [.ref (aP 0), .int x1, .int x2] (wPa aP cyI pn pf ps) (S := (Unit)) (fun u => (wPa aP cyI pn pf ps)) (fun r u => ∃ b : Bool, r = zb b ∧ post b ) :=
  z_metz (cc := cX3_has) (nL := 4) (by decide +kernel) rfl (Nat.le_of_ble_eq_true rfl) (fun C hl F hRt => xX3_has_0 x1 x2 pn pf ps F hRt hw)
theorem y_X3_has : zY yX3_has wsX3_has cX3_has 4 (some .boolean) 2 := ⟨⟨_, rfl⟩, by decide +kernel⟩
theorem iX3_add_3 : ∀ w ∈ wsX30, w ∈ wsX3_add := fun w h => List.mem_cons_of_mem _ (List.mem_append_right _ h)
theorem kX3_add_9 : zL wsX3_add RX3 9 3 0 (.array .int) true := zL3 iX3_add_3 (by decide) (List.mem_of_getElem? (i := 2) rfl) rfl rfl
theorem kX3_add_15 : zL wsX3_add RX3 15 3 1 (.array .int) true := zL3 iX3_add_3 (by decide) (List.mem_of_getElem? (i := 3) rfl) rfl rfl
theorem kX3_add_18 : zL wsX3_add RX3 18 3 2 .int false := zL3 iX3_add_3 (by decide) (List.mem_of_getElem? (i := 1) rfl) rfl rfl
set_option maxHeartbeats 4000000 in
set_option maxRecDepth 100000 in
theorem xX3_add_0 {C : zC} {D : va_G} {cyI cyB : ClassId} {aP : Nat → Nat} (x1 : Int32) (x2 : Int32) (pn : Int32) (pf : Nat → Int32) (ps : Nat → Int32) (F : zF C D { frames := 0, cells := 0, slots := 0, locals := 0 } cX3_add 3 wsX3_add RX3 none cyI cyB) {post : Int32 → (Nat → Int32) → (Nat → Int32) → Prop} (hRt : zRv C D cX3_add 3 (S := (Int32 × (Nat → Int32) × (Nat → Int32))) (fun u => (wPa aP cyI u.1 u.2.1 u.2.2)) (fun u => post u.1 u.2.1 u.2.2)) (hw : pX3_add x1 x2 pn pf ps post) : zX C D 3 0 0 (wPa aP cyI pn pf ps) 0 [(0, .ref (aP 0)), (1, .int x1), (2, .int x2)] [] := by
  refine z_aload_n F dX3_add_0 1 rfl 0 rfl ?_
  refine z_get F dX3_add_1 4 rfl kX3_add_18 0 rfl rfl ?_
  refine z_bipush F dX3_add_4 6 rfl zkb_12 ?_
  obtain ⟨hwt, hwf⟩ := hw
  refine z_icmpge F dX3_add_6 39 rfl 9 rfl (fun c1 => ?_) (fun c1 => ?_)
  · have hw := hwt c1; clear hwt hwf
    exact hRt 39 _ (pn, pf, ps) dX3_add_39 hw
  · have hw := hwf c1; clear hwt hwf
    refine z_aload_n F dX3_add_9 10 rfl 0 rfl ?_
    refine z_get F dX3_add_10 13 rfl kX3_add_9 0 rfl rfl ?_
    refine z_aload_n F dX3_add_13 14 rfl 0 rfl ?_
    refine z_get F dX3_add_14 17 rfl kX3_add_18 0 rfl rfl ?_
    refine z_iload_n F dX3_add_17 18 rfl 1 rfl ?_
    obtain ⟨j1, ej1, hj1, hw⟩ := hw
    refine z_iast F dX3_add_18 19 rfl 1 rfl (by decide) j1 ej1 hj1 (wPa aP cyI pn (upd pf j1 x1) ps) rfl ?_
    refine z_aload_n F dX3_add_19 20 rfl 0 rfl ?_
    refine z_get F dX3_add_20 23 rfl kX3_add_15 0 rfl rfl ?_
    refine z_aload_n F dX3_add_23 24 rfl 0 rfl ?_
    refine z_get F dX3_add_24 27 rfl kX3_add_18 0 rfl rfl ?_
    refine z_iload_n F dX3_add_27 28 rfl 2 rfl ?_
    refine z_iast F dX3_add_28 29 rfl 2 rfl (by decide) j1 ej1 hj1 (wPa aP cyI pn (upd pf j1 x1) (upd ps j1 x2)) rfl ?_
    refine z_aload_n F dX3_add_29 30 rfl 0 rfl ?_
    refine z_dup F dX3_add_30 31 rfl rfl ?_
    refine z_get F dX3_add_31 34 rfl kX3_add_18 0 rfl rfl ?_
    refine z_iconst F dX3_add_34 35 rfl zki_1 ?_
    refine z_iadd F dX3_add_35 36 rfl ?_
    refine z_topi (fun v1 ev1 => ?_)
    replace hw := hw v1 ev1
    refine z_put F dX3_add_36 39 rfl kX3_add_18 0 rfl rfl rfl (Nat.le_of_ble_eq_true rfl) (wPa aP cyI v1 (upd pf j1 x1) (upd ps j1 x2)) rfl ?_
    exact hRt 39 _ (v1, (upd pf j1 x1), (upd ps j1 x2)) dX3_add_39 hw
set_option maxHeartbeats 4000000 in
set_option maxRecDepth 100000 in
theorem mX3_add (l : Launch) (D : va_G) (cyI cyB : ClassId) (aP : Nat → Nat) (x1 : Int32) (x2 : Int32) (pn : Int32) (pf : Nat → Int32) (ps : Nat → Int32) {post : Int32 → (Nat → Int32) → (Nat → Int32) → Prop} (hw : pX3_add x1 x2 pn pf ps post) : zMv l yX3_add wsX3_add 0 0 D cyI cyB [.ref (aP 0), .int x1, .int x2] (wPa aP cyI pn pf ps) (S := (Int32 × (Nat → Int32) × (Nat → Int32))) (fun u => (wPa aP cyI u.1 u.2.1 u.2.2)) (fun u => post u.1 u.2.1 u.2.2) :=
  z_metv (cc := cX3_add) (nL := 3) (by decide +kernel) rfl (Nat.le_of_ble_eq_true rfl) (fun C hl F hRt => xX3_add_0 x1 x2 pn pf ps F hRt hw)
theorem y_X3_add : zY yX3_add wsX3_add cX3_add 3 none 2 := ⟨⟨_, rfl⟩, by decide +kernel⟩
theorem iX3_copyFrom_3 : ∀ w ∈ wsX30, w ∈ wsX3_copyFrom := fun w h => List.mem_cons_of_mem _ (List.mem_append_right _ h)
theorem kX3_copyFrom_9 : zL wsX3_copyFrom RX3 9 3 0 (.array .int) true := zL3 iX3_copyFrom_3 (by decide) (List.mem_of_getElem? (i := 1) rfl) rfl rfl
theorem kX3_copyFrom_15 : zL wsX3_copyFrom RX3 15 3 1 (.array .int) true := zL3 iX3_copyFrom_3 (by decide) (List.mem_of_getElem? (i := 6) rfl) rfl rfl
theorem kX3_copyFrom_18 : zL wsX3_copyFrom RX3 18 3 2 .int false := zL3 iX3_copyFrom_3 (by decide) (List.mem_of_getElem? (i := 7) rfl) rfl rfl
set_option maxHeartbeats 4000000 in
set_option maxRecDepth 100000 in
theorem xX3_copyFrom_0 {C : zC} {D : va_G} {cyI cyB : ClassId} {aP : Nat → Nat} {aQ : Nat → Nat} (pn : Int32) (pf : Nat → Int32) (ps : Nat → Int32) (qn : Int32) (qf : Nat → Int32) (qs : Nat → Int32) (F : zF C D { frames := 1, cells := 0, slots := 0, locals := 30 } cX3_copyFrom 2 wsX3_copyFrom RX3 none cyI cyB) {post : Int32 → (Nat → Int32) → (Nat → Int32) → Prop} (hRt : zRv C D cX3_copyFrom 2 (S := (Int32 × (Nat → Int32) × (Nat → Int32))) (fun u => (wPa aP cyI u.1 u.2.1 u.2.2 ++ wPa aQ cyI qn qf qs)) (fun u => post u.1 u.2.1 u.2.2)) (hw : pX3_copyFrom pn pf ps qn qf qs post) : zX C D 2 0 0 (wPa aP cyI pn pf ps ++ wPa aQ cyI qn qf qs) 0 [(0, .ref (aP 0)), (1, .ref (aQ 0))] [] := by
  refine z_aload_n F dX3_copyFrom_0 1 rfl 1 rfl ?_
  refine z_get F dX3_copyFrom_1 4 rfl kX3_copyFrom_9 3 rfl rfl ?_
  refine z_iconst F dX3_copyFrom_4 5 rfl zki_0 ?_
  refine z_aload_n F dX3_copyFrom_5 6 rfl 0 rfl ?_
  refine z_get F dX3_copyFrom_6 9 rfl kX3_copyFrom_9 0 rfl rfl ?_
  refine z_iconst F dX3_copyFrom_9 10 rfl zki_0 ?_
  refine z_bipush F dX3_copyFrom_10 12 rfl zkb_12 ?_
  refine z_copy F dX3_copyFrom_12 15 rfl (List.mem_of_getElem? (i := 2) rfl) (List.mem_of_getElem? (i := 3) rfl) (List.mem_of_getElem? (i := 4) rfl) (List.mem_of_getElem? (i := 5) rfl) 4 1 rfl rfl (by decide) (by decide) (by decide) (by decide) (Nat.le_of_ble_eq_true rfl) (Nat.le_of_ble_eq_true rfl) (wPa aP cyI pn (va_cpy qf pf 0 0 12) ps ++ wPa aQ cyI qn qf qs) rfl ?_
  refine z_aload_n F dX3_copyFrom_15 16 rfl 1 rfl ?_
  refine z_get F dX3_copyFrom_16 19 rfl kX3_copyFrom_15 3 rfl rfl ?_
  refine z_iconst F dX3_copyFrom_19 20 rfl zki_0 ?_
  refine z_aload_n F dX3_copyFrom_20 21 rfl 0 rfl ?_
  refine z_get F dX3_copyFrom_21 24 rfl kX3_copyFrom_15 0 rfl rfl ?_
  refine z_iconst F dX3_copyFrom_24 25 rfl zki_0 ?_
  refine z_bipush F dX3_copyFrom_25 27 rfl zkb_12 ?_
  refine z_copy F dX3_copyFrom_27 30 rfl (List.mem_of_getElem? (i := 2) rfl) (List.mem_of_getElem? (i := 3) rfl) (List.mem_of_getElem? (i := 4) rfl) (List.mem_of_getElem? (i := 5) rfl) 5 2 rfl rfl (by decide) (by decide) (by decide) (by decide) (Nat.le_of_ble_eq_true rfl) (Nat.le_of_ble_eq_true rfl) (wPa aP cyI pn (va_cpy qf pf 0 0 12) (va_cpy qs ps 0 0 12) ++ wPa aQ cyI qn qf qs) rfl ?_
  refine z_aload_n F dX3_copyFrom_30 31 rfl 0 rfl ?_
  refine z_aload_n F dX3_copyFrom_31 32 rfl 1 rfl ?_
  refine z_get F dX3_copyFrom_32 35 rfl kX3_copyFrom_18 3 rfl rfl ?_
  refine z_put F dX3_copyFrom_35 38 rfl kX3_copyFrom_18 0 rfl rfl rfl (Nat.le_of_ble_eq_true rfl) (wPa aP cyI qn (va_cpy qf pf 0 0 12) (va_cpy qs ps 0 0 12) ++ wPa aQ cyI qn qf qs) rfl ?_
  exact hRt 38 _ (qn, (va_cpy qf pf 0 0 12), (va_cpy qs ps 0 0 12)) dX3_copyFrom_38 hw
set_option maxHeartbeats 4000000 in
set_option maxRecDepth 100000 in
theorem mX3_copyFrom (l : Launch) (D : va_G) (cyI cyB : ClassId) (aP : Nat → Nat) (aQ : Nat → Nat) (pn : Int32) (pf : Nat → Int32) (ps : Nat → Int32) (qn : Int32) (qf : Nat → Int32) (qs : Nat → Int32) {post : Int32 → (Nat → Int32) → (Nat → Int32) → Prop} (hw : pX3_copyFrom pn pf ps qn qf qs post) : zMv l yX3_copyFrom wsX3_copyFrom 1 30 D cyI cyB [.ref (aP 0), .ref (aQ 0)] (wPa aP cyI pn pf ps ++ wPa aQ cyI qn qf qs) (S := (Int32 × (Nat → Int32) × (Nat → Int32))) (fun u => (wPa aP cyI u.1 u.2.1 u.2.2 ++ wPa aQ cyI qn qf qs)) (fun u => post u.1 u.2.1 u.2.2) :=
  z_metv (cc := cX3_copyFrom) (nL := 2) (by decide +kernel) rfl (Nat.le_of_ble_eq_true rfl) (fun C hl F hRt => xX3_copyFrom_0 pn pf ps qn qf qs F hRt hw)
theorem y_X3_copyFrom : zY yX3_copyFrom wsX3_copyFrom cX3_copyFrom 2 none 1 := ⟨⟨_, rfl⟩, by decide +kernel⟩
set_option maxHeartbeats 4000000 in
set_option maxRecDepth 100000 in
theorem xX5_contains_0 {C : zC} {D : va_G} {cyI cyB : ClassId} (x0 : Int32) (x1 : Int32) (F : zF C D { frames := 0, cells := 0, slots := 0, locals := 0 } cX5_contains 2 wsX5_contains RX5 (some .boolean) cyI cyB) {post : Bool → Prop} (hRt : zRz C D cX5_contains 2 (S := (Unit)) (fun u => ([] : va_W)) (fun r u => ∃ b : Bool, r = zb b ∧ post b )) (hw : pX5_contains x0 x1 post) : zX C D 2 0 0 ([] : va_W) 0 [(0, .int x0), (1, .int x1)] [] := by
  refine z_iload_n F dX5_contains_0 1 rfl 0 rfl ?_
  refine z_iload_n F dX5_contains_1 2 rfl 1 rfl ?_
  refine z_ishr F dX5_contains_2 3 rfl ?_
  refine z_iconst F dX5_contains_3 4 rfl zki_1 ?_
  refine z_iand F dX5_contains_4 5 rfl ?_
  obtain ⟨hwt, hwf⟩ := hw
  refine z_ifeq F dX5_contains_5 12 rfl 8 rfl (fun c1 => ?_) (fun c1 => ?_)
  · have hw := hwt c1; clear hwt hwf
    refine z_iconst F dX5_contains_12 13 rfl zki_0 ?_
    exact hRt 13 _ false () dX5_contains_13 ⟨false, rfl, hw⟩
  · have hw := hwf c1; clear hwt hwf
    refine z_iconst F dX5_contains_8 9 rfl zki_1 ?_
    refine z_goto F dX5_contains_9 13 rfl ?_
    exact hRt 13 _ true () dX5_contains_13 ⟨true, rfl, hw⟩
set_option maxHeartbeats 4000000 in
set_option maxRecDepth 100000 in
theorem mX5_contains (l : Launch) (D : va_G) (cyI cyB : ClassId) (x0 : Int32) (x1 : Int32) {post : Bool → Prop} (hw : pX5_contains x0 x1 post) : zMi l yX5_contains wsX5_contains 0 0 D cyI cyB [.int x0, .int x1] ([] : va_W) (S := (Unit)) (fun u => ([] : va_W)) (fun r u => ∃ b : Bool, r = zb b ∧ post b ) :=
  z_metz (cc := cX5_contains) (nL := 2) (by decide +kernel) rfl (Nat.le_of_ble_eq_true rfl) (fun C hl F hRt => xX5_contains_0 x0 x1 F hRt hw)
theorem y_X5_contains : zY yX5_contains wsX5_contains cX5_contains 2 (some .boolean) 2 := ⟨⟨_, rfl⟩, by decide +kernel⟩
set_option maxHeartbeats 4000000 in
set_option maxRecDepth 100000 in
theorem xJ9_floorMod_7cf53_0 {C : zC} {D : va_G} {cyI cyB : ClassId} (x0 : Int32) (x1 : Int32) (F : zF C D { frames := 0, cells := 0, slots := 0, locals := 0 } cJ9_floorMod_7cf53 3 wsJ9_floorMod_7cf53 RJ9 (some .int) cyI cyB) {post : Int32 → Prop} (hRt : zRi C D cJ9_floorMod_7cf53 3 (S := (Unit)) (fun u => ([] : va_W)) (fun r u => post r )) (hw : pJ9_floorMod_7cf53 x0 x1 post) : zX C D 3 0 0 ([] : va_W) 0 [(0, .int x0), (1, .int x1)] [] := by
  refine z_iload_n F dJ9_floorMod_7cf53_0 1 rfl 0 rfl ?_
  refine z_iload_n F dJ9_floorMod_7cf53_1 2 rfl 1 rfl ?_
  obtain ⟨h1, hw⟩ := hw
  refine z_irem F dJ9_floorMod_7cf53_2 3 rfl h1 ?_
  refine z_topi (fun v1 ev1 => ?_)
  replace hw := hw v1 ev1
  refine z_istore_n (lv' := [(2, .int v1), (0, .int x0), (1, .int x1)]) F dJ9_floorMod_7cf53_3 4 rfl (by decide) rfl ?_
  refine z_iload_n F dJ9_floorMod_7cf53_4 5 rfl 1 rfl ?_
  refine z_iload_n F dJ9_floorMod_7cf53_5 6 rfl 2 rfl ?_
  refine z_ixor F dJ9_floorMod_7cf53_6 7 rfl ?_
  obtain ⟨hwt, hwf⟩ := hw
  refine z_ifge F dJ9_floorMod_7cf53_7 18 rfl 10 rfl (fun c1 => ?_) (fun c1 => ?_)
  · have hw := hwt c1; clear hwt hwf
    refine z_iload_n F dJ9_floorMod_7cf53_18 19 rfl 0 rfl ?_
    exact hRt 19 _ v1 () dJ9_floorMod_7cf53_19 hw
  · have hw := hwf c1; clear hwt hwf
    refine z_iload_n F dJ9_floorMod_7cf53_10 11 rfl 0 rfl ?_
    obtain ⟨hwt, hwf⟩ := hw
    refine z_ifeq F dJ9_floorMod_7cf53_11 18 rfl 14 rfl (fun c2 => ?_) (fun c2 => ?_)
    · have hw := hwt c2; clear hwt hwf
      refine z_iload_n F dJ9_floorMod_7cf53_18 19 rfl 0 rfl ?_
      exact hRt 19 _ v1 () dJ9_floorMod_7cf53_19 hw
    · have hw := hwf c2; clear hwt hwf
      refine z_iload_n F dJ9_floorMod_7cf53_14 15 rfl 0 rfl ?_
      refine z_iload_n F dJ9_floorMod_7cf53_15 16 rfl 2 rfl ?_
      refine z_iadd F dJ9_floorMod_7cf53_16 17 rfl ?_
      exact hRt 17 _ (v1 + x1) () dJ9_floorMod_7cf53_17 hw
set_option maxHeartbeats 4000000 in
set_option maxRecDepth 100000 in
theorem mJ9_floorMod_7cf53 (l : Launch) (D : va_G) (cyI cyB : ClassId) (x0 : Int32) (x1 : Int32) {post : Int32 → Prop} (hw : pJ9_floorMod_7cf53 x0 x1 post) : zMi l yJ9_floorMod_7cf53 wsJ9_floorMod_7cf53 0 0 D cyI cyB [.int x0, .int x1] ([] : va_W) (S := (Unit)) (fun u => ([] : va_W)) (fun r u => post r ) :=
  z_meti (cc := cJ9_floorMod_7cf53) (nL := 3) (by decide +kernel) rfl (Nat.le_of_ble_eq_true rfl) (fun C hl F hRt => xJ9_floorMod_7cf53_0 x0 x1 F hRt hw)
theorem y_J9_floorMod_7cf53 : zY yJ9_floorMod_7cf53 wsJ9_floorMod_7cf53 cJ9_floorMod_7cf53 3 (some .int) 2 := ⟨⟨_, rfl⟩, by decide +kernel⟩
set_option maxHeartbeats 4000000 in
set_option maxRecDepth 100000 in
theorem xX5_with_0 {C : zC} {D : va_G} {cyI cyB : ClassId} (x0 : Int32) (x1 : Int32) (z2 : Bool) (F : zF C D { frames := 0, cells := 0, slots := 0, locals := 0 } cX5_with 3 wsX5_with RX5 (some .int) cyI cyB) {post : Int32 → Prop} (hRt : zRi C D cX5_with 3 (S := (Unit)) (fun u => ([] : va_W)) (fun r u => post r )) (hw : pX5_with x0 x1 z2 post) : zX C D 3 0 0 ([] : va_W) 0 [(0, .int x0), (1, .int x1), (2, .int (zb z2))] [] := by
  refine z_iload_n F dX5_with_0 1 rfl 2 rfl ?_
  obtain ⟨hwt, hwf⟩ := hw
  refine z_ifeqB F dX5_with_1 12 rfl 4 rfl (fun c1 => ?_) (fun c1 => ?_)
  · have hw := hwt c1; clear hwt hwf
    refine z_iload_n F dX5_with_12 13 rfl 0 rfl ?_
    refine z_iconst F dX5_with_13 14 rfl zki_1 ?_
    refine z_iload_n F dX5_with_14 15 rfl 1 rfl ?_
    refine z_ishl F dX5_with_15 16 rfl ?_
    refine z_iconst F dX5_with_16 17 rfl zki_m1 ?_
    refine z_ixor F dX5_with_17 18 rfl ?_
    refine z_iand F dX5_with_18 19 rfl ?_
    exact hRt 19 _ (x0 &&& ((1 <<< (x1 &&& 31)) ^^^ (-1))) () dX5_with_19 hw
  · have hw := hwf c1; clear hwt hwf
    refine z_iload_n F dX5_with_4 5 rfl 0 rfl ?_
    refine z_iconst F dX5_with_5 6 rfl zki_1 ?_
    refine z_iload_n F dX5_with_6 7 rfl 1 rfl ?_
    refine z_ishl F dX5_with_7 8 rfl ?_
    refine z_ior F dX5_with_8 9 rfl ?_
    refine z_goto F dX5_with_9 19 rfl ?_
    exact hRt 19 _ (x0 ||| (1 <<< (x1 &&& 31))) () dX5_with_19 hw
set_option maxHeartbeats 4000000 in
set_option maxRecDepth 100000 in
theorem mX5_with (l : Launch) (D : va_G) (cyI cyB : ClassId) (x0 : Int32) (x1 : Int32) (z2 : Bool) {post : Int32 → Prop} (hw : pX5_with x0 x1 z2 post) : zMi l yX5_with wsX5_with 0 0 D cyI cyB [.int x0, .int x1, .int (zb z2)] ([] : va_W) (S := (Unit)) (fun u => ([] : va_W)) (fun r u => post r ) :=
  z_meti (cc := cX5_with) (nL := 3) (by decide +kernel) rfl (Nat.le_of_ble_eq_true rfl) (fun C hl F hRt => xX5_with_0 x0 x1 z2 F hRt hw)
theorem y_X5_with : zY yX5_with wsX5_with cX5_with 3 (some .int) 3 := ⟨⟨_, rfl⟩, by decide +kernel⟩
set_option maxHeartbeats 4000000 in
set_option maxRecDepth 100000 in
theorem xX5_outside_0 {C : zC} {D : va_G} {cyI cyB : ClassId} (x0 : Int32) (x1 : Int32) (x2 : Int32) (F : zF C D { frames := 0, cells := 0, slots := 0, locals := 0 } cX5_outside 3 wsX5_outside RX5 (some .int) cyI cyB) {post : Int32 → Prop} (hRt : zRi C D cX5_outside 3 (S := (Unit)) (fun u => ([] : va_W)) (fun r u => post r )) (hw : pX5_outside x0 x1 x2 post) : zX C D 3 0 0 ([] : va_W) 0 [(0, .int x0), (1, .int x1), (2, .int x2)] [] := by
  refine z_iload_n F dX5_outside_0 1 rfl 0 rfl ?_
  refine z_iload_n F dX5_outside_1 2 rfl 1 rfl ?_
  obtain ⟨hwt, hwf⟩ := hw
  refine z_icmpge F dX5_outside_2 8 rfl 5 rfl (fun c1 => ?_) (fun c1 => ?_)
  · have hw := hwt c1; clear hwt hwf
    refine z_iload_n F dX5_outside_8 9 rfl 0 rfl ?_
    refine z_iload_n F dX5_outside_9 10 rfl 2 rfl ?_
    obtain ⟨hwt, hwf⟩ := hw
    refine z_icmple F dX5_outside_10 18 rfl 13 rfl (fun c2 => ?_) (fun c2 => ?_)
    · have hw := hwt c2; clear hwt hwf
      refine z_iconst F dX5_outside_18 19 rfl zki_0 ?_
      exact hRt 19 _ 0 () dX5_outside_19 hw
    · have hw := hwf c2; clear hwt hwf
      refine z_bipush F dX5_outside_13 15 rfl zkb_m6 ?_
      refine z_goto F dX5_outside_15 19 rfl ?_
      exact hRt 19 _ (-6) () dX5_outside_19 hw
  · have hw := hwf c1; clear hwt hwf
    refine z_bipush F dX5_outside_5 7 rfl zkb_m4 ?_
    exact hRt 7 _ (-4) () dX5_outside_7 hw
set_option maxHeartbeats 4000000 in
set_option maxRecDepth 100000 in
theorem mX5_outside (l : Launch) (D : va_G) (cyI cyB : ClassId) (x0 : Int32) (x1 : Int32) (x2 : Int32) {post : Int32 → Prop} (hw : pX5_outside x0 x1 x2 post) : zMi l yX5_outside wsX5_outside 0 0 D cyI cyB [.int x0, .int x1, .int x2] ([] : va_W) (S := (Unit)) (fun u => ([] : va_W)) (fun r u => post r ) :=
  z_meti (cc := cX5_outside) (nL := 3) (by decide +kernel) rfl (Nat.le_of_ble_eq_true rfl) (fun C hl F hRt => xX5_outside_0 x0 x1 x2 F hRt hw)
theorem y_X5_outside : zY yX5_outside wsX5_outside cX5_outside 3 (some .int) 3 := ⟨⟨_, rfl⟩, by decide +kernel⟩
set_option maxHeartbeats 4000000 in
set_option maxRecDepth 100000 in
theorem xX5_outsideHands_0 {C : zC} {D : va_G} {cyI cyB : ClassId} (x0 : Int32) (x1 : Int32) (F : zF C D { frames := 0, cells := 0, slots := 0, locals := 0 } cX5_outsideHands 2 wsX5_outsideHands RX5 (some .int) cyI cyB) {post : Int32 → Prop} (hRt : zRi C D cX5_outsideHands 2 (S := (Unit)) (fun u => ([] : va_W)) (fun r u => post r )) (hw : pX5_outsideHands x0 x1 post) : zX C D 2 0 0 ([] : va_W) 0 [(0, .int x0), (1, .int x1)] [] := by
  refine z_iload_n F dX5_outsideHands_0 1 rfl 0 rfl ?_
  obtain ⟨hwt, hwf⟩ := hw
  refine z_iflt F dX5_outsideHands_1 8 rfl 4 rfl (fun c1 => ?_) (fun c1 => ?_)
  · have hw := hwt c1; clear hwt hwf
    refine z_bipush F dX5_outsideHands_8 10 rfl zkb_m4 ?_
    exact hRt 10 _ (-4) () dX5_outsideHands_10 hw
  · have hw := hwf c1; clear hwt hwf
    refine z_iload_n F dX5_outsideHands_4 5 rfl 1 rfl ?_
    obtain ⟨hwt, hwf⟩ := hw
    refine z_ifge F dX5_outsideHands_5 11 rfl 8 rfl (fun c2 => ?_) (fun c2 => ?_)
    · have hw := hwt c2; clear hwt hwf
      refine z_iload_n F dX5_outsideHands_11 12 rfl 0 rfl ?_
      refine z_bipush F dX5_outsideHands_12 14 rfl zkb_8 ?_
      obtain ⟨hwt, hwf⟩ := hw
      refine z_icmpgt F dX5_outsideHands_14 23 rfl 17 rfl (fun c3 => ?_) (fun c3 => ?_)
      · have hw := hwt c3; clear hwt hwf
        refine z_bipush F dX5_outsideHands_23 25 rfl zkb_m6 ?_
        refine z_goto F dX5_outsideHands_25 29 rfl ?_
        exact hRt 29 _ (-6) () dX5_outsideHands_29 hw
      · have hw := hwf c3; clear hwt hwf
        refine z_iload_n F dX5_outsideHands_17 18 rfl 1 rfl ?_
        refine z_bipush F dX5_outsideHands_18 20 rfl zkb_8 ?_
        obtain ⟨hwt, hwf⟩ := hw
        refine z_icmple F dX5_outsideHands_20 28 rfl 23 rfl (fun c4 => ?_) (fun c4 => ?_)
        · have hw := hwt c4; clear hwt hwf
          refine z_iconst F dX5_outsideHands_28 29 rfl zki_0 ?_
          exact hRt 29 _ 0 () dX5_outsideHands_29 hw
        · have hw := hwf c4; clear hwt hwf
          refine z_bipush F dX5_outsideHands_23 25 rfl zkb_m6 ?_
          refine z_goto F dX5_outsideHands_25 29 rfl ?_
          exact hRt 29 _ (-6) () dX5_outsideHands_29 hw
    · have hw := hwf c2; clear hwt hwf
      refine z_bipush F dX5_outsideHands_8 10 rfl zkb_m4 ?_
      exact hRt 10 _ (-4) () dX5_outsideHands_10 hw
set_option maxHeartbeats 4000000 in
set_option maxRecDepth 100000 in
theorem mX5_outsideHands (l : Launch) (D : va_G) (cyI cyB : ClassId) (x0 : Int32) (x1 : Int32) {post : Int32 → Prop} (hw : pX5_outsideHands x0 x1 post) : zMi l yX5_outsideHands wsX5_outsideHands 0 0 D cyI cyB [.int x0, .int x1] ([] : va_W) (S := (Unit)) (fun u => ([] : va_W)) (fun r u => post r ) :=
  z_meti (cc := cX5_outsideHands) (nL := 2) (by decide +kernel) rfl (Nat.le_of_ble_eq_true rfl) (fun C hl F hRt => xX5_outsideHands_0 x0 x1 F hRt hw)
theorem y_X5_outsideHands : zY yX5_outsideHands wsX5_outsideHands cX5_outsideHands 2 (some .int) 2 := ⟨⟨_, rfl⟩, by decide +kernel⟩
