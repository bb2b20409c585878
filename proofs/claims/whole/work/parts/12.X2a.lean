set_option maxHeartbeats 4000000 in
set_option maxRecDepth 100000 in
theorem xX2_union_4 {C : zC} {D : va_G} {cyI cyB : ClassId} {aA : Nat} (x1 : Int32) (rf : Nat → Int32) (F : zF C D { frames := 0, cells := 0, slots := 0, locals := 0 } cX2_union 4 wsX2_union RX2 (some .int) cyI cyB) {post : Int32 → Prop} (hRt : zRi C D cX2_union 4 (S := (Unit)) (fun u => (wAr aA cyI rf)) (fun r u => post r )) : ∀ (n : Nat) (x2 : Int32) (x3 : Int32), bX2_union_4 x1 rf post  n x2 x3 → zX C D 4 0 0 (wAr aA cyI rf) 4 [(0, .ref aA), (1, .int x1), (2, .int x2), (3, .int x3)] [] := by
  intro n
  induction n with
  | zero => intro _ _ hw; exact hw.elim
  | succ n ih =>
    intro x2 x3 hw
    refine z_iload_n F dX2_union_4 5 rfl 3 rfl ?_
    refine z_aload_n F dX2_union_5 6 rfl 0 rfl ?_
    refine z_alen F dX2_union_6 7 rfl 0 rfl ?_
    obtain ⟨hwt, hwf⟩ := hw
    refine z_icmpge F dX2_union_7 30 rfl 10 rfl (fun c1 => ?_) (fun c1 => ?_)
    · have hw := hwt c1; clear hwt hwf
      refine z_iload_n F dX2_union_30 31 rfl 2 rfl ?_
      exact hRt 31 _ x2 () dX2_union_31 hw
    · have hw := hwf c1; clear hwt hwf
      refine z_iload_n F dX2_union_10 11 rfl 1 rfl ?_
      refine z_iload_n F dX2_union_11 12 rfl 3 rfl ?_
      refine z_ishr F dX2_union_12 13 rfl ?_
      refine z_iconst F dX2_union_13 14 rfl zki_1 ?_
      refine z_iand F dX2_union_14 15 rfl ?_
      obtain ⟨hwt, hwf⟩ := hw
      refine z_ifeq F dX2_union_15 24 rfl 18 rfl (fun c2 => ?_) (fun c2 => ?_)
      · have hw := hwt c2; clear hwt hwf
        refine z_iinc F dX2_union_24 27 rfl 3 rfl (by decide) zki_1 (fun v1 => [(3, .int v1), (0, .ref aA), (1, .int x1), (2, .int x2)]) (fun _ => rfl) (fun v1 ev1 => ?_)
        replace hw := hw v1 ev1
        refine z_goto F dX2_union_27 4 rfl ?_
        refine z_lv (lv' := [(0, .ref aA), (1, .int x1), (2, .int x2), (3, .int v1)]) [1, 2, 3, 0] rfl ?_
        exact ih x2 v1 hw
      · have hw := hwf c2; clear hwt hwf
        refine z_iload_n F dX2_union_18 19 rfl 2 rfl ?_
        refine z_aload_n F dX2_union_19 20 rfl 0 rfl ?_
        refine z_iload_n F dX2_union_20 21 rfl 3 rfl ?_
        obtain ⟨j1, ej1, hj1, hw⟩ := hw
        refine z_iald F dX2_union_21 22 rfl 0 rfl (by decide) j1 ej1 hj1 ?_
        refine z_ior F dX2_union_22 23 rfl ?_
        refine z_topi (fun v2 ev2 => ?_)
        replace hw := hw v2 ev2
        refine z_istore_n (lv' := [(2, .int v2), (0, .ref aA), (1, .int x1), (3, .int x3)]) F dX2_union_23 24 rfl (by decide) rfl ?_
        refine z_iinc F dX2_union_24 27 rfl 3 rfl (by decide) zki_1 (fun v3 => [(3, .int v3), (2, .int v2), (0, .ref aA), (1, .int x1)]) (fun _ => rfl) (fun v3 ev3 => ?_)
        replace hw := hw v3 ev3
        refine z_goto F dX2_union_27 4 rfl ?_
        refine z_lv (lv' := [(0, .ref aA), (1, .int x1), (2, .int v2), (3, .int v3)]) [2, 3, 1, 0] rfl ?_
        exact ih v2 v3 hw
set_option maxHeartbeats 4000000 in
set_option maxRecDepth 100000 in
theorem xX2_union_0 {C : zC} {D : va_G} {cyI cyB : ClassId} {aA : Nat} (x1 : Int32) (rf : Nat → Int32) (F : zF C D { frames := 0, cells := 0, slots := 0, locals := 0 } cX2_union 4 wsX2_union RX2 (some .int) cyI cyB) {post : Int32 → Prop} (hRt : zRi C D cX2_union 4 (S := (Unit)) (fun u => (wAr aA cyI rf)) (fun r u => post r )) (hw : pX2_union x1 rf post) : zX C D 4 0 0 (wAr aA cyI rf) 0 [(0, .ref aA), (1, .int x1)] [] := by
  refine z_iconst F dX2_union_0 1 rfl zki_0 ?_
  refine z_istore_n (lv' := [(2, .int 0), (0, .ref aA), (1, .int x1)]) F dX2_union_1 2 rfl (by decide) rfl ?_
  refine z_iconst F dX2_union_2 3 rfl zki_0 ?_
  refine z_istore_n (lv' := [(3, .int 0), (2, .int 0), (0, .ref aA), (1, .int x1)]) F dX2_union_3 4 rfl (by decide) rfl ?_
  obtain ⟨n1, hw⟩ := hw
  refine z_lv (lv' := [(0, .ref aA), (1, .int x1), (2, .int 0), (3, .int 0)]) [2, 3, 1, 0] rfl ?_
  refine xX2_union_4 x1 rf F hRt n1 0 0 hw
set_option maxHeartbeats 4000000 in
set_option maxRecDepth 100000 in
theorem mX2_union (l : Launch) (D : va_G) (cyI cyB : ClassId) (aA : Nat) (x1 : Int32) (rf : Nat → Int32) {post : Int32 → Prop} (hw : pX2_union x1 rf post) : zMi l yX2_union wsX2_union 0 0 D cyI cyB [.ref aA, .int x1] (wAr aA cyI rf) (S := (Unit)) (fun u => (wAr aA cyI rf)) (fun r u => post r ) :=
  z_meti (cc := cX2_union) (nL := 4) (by decide +kernel) rfl (Nat.le_of_ble_eq_true rfl) (fun C hl F hRt => xX2_union_0 x1 rf F hRt hw)
theorem y_X2_union : zY yX2_union wsX2_union cX2_union 4 (some .int) 2 := ⟨⟨_, rfl⟩, by decide +kernel⟩
theorem iX2_seenBy_2 : ∀ w ∈ wsX20, w ∈ wsX2_seenBy := fun w h => List.mem_cons_of_mem _ (List.mem_append_right _ h)
theorem kX2_seenBy_9 : zL wsX2_seenBy RX2 9 2 1 (.array .int) true := zL2 iX2_seenBy_2 (by decide) (List.mem_of_getElem? (i := 1) rfl) rfl rfl
theorem kX2_seenBy_18 : zL wsX2_seenBy RX2 18 2 3 (.array .int) true := zL2 iX2_seenBy_2 (by decide) (List.mem_of_getElem? (i := 2) rfl) rfl rfl
set_option maxHeartbeats 4000000 in
set_option maxRecDepth 100000 in
theorem xX2_seenBy_0 {C : zC} {D : va_G} {cyI cyB : ClassId} {aH : Nat → Nat} {aM : Nat → Nat} (x1 : Int32) (hI : Nat → Int32) (hR : Nat → Nat → Int32) (mI : Nat → Int32) (mR : Nat → Nat → Int32) (F : zF C D { frames := 1, cells := 0, slots := 0, locals := 23 } cX2_seenBy 2 wsX2_seenBy RX2 (some .int) cyI cyB) {post : Int32 → Prop} (hRt : zRi C D cX2_seenBy 2 (S := (Unit)) (fun u => (wHo aH cyI hI hR ++ wMi aH aM cyI mI mR)) (fun r u => post r )) (hw : pX2_seenBy x1 hI hR mI mR post) : zX C D 2 0 0 (wHo aH cyI hI hR ++ wMi aH aM cyI mI mR) 0 [(0, .ref (aM 0)), (1, .int x1)] [] := by
  refine z_aload_n F dX2_seenBy_0 1 rfl 0 rfl ?_
  refine z_get F dX2_seenBy_1 4 rfl kX2_seenBy_9 12 rfl rfl ?_
  refine z_aload_n F dX2_seenBy_4 5 rfl 0 rfl ?_
  refine z_get F dX2_seenBy_5 8 rfl kX2_seenBy_18 12 rfl rfl ?_
  refine z_iload_n F dX2_seenBy_8 9 rfl 1 rfl ?_
  obtain ⟨j1, ej1, hj1, hw⟩ := hw
  refine z_iald F dX2_seenBy_9 10 rfl 15 rfl (by decide) j1 ej1 hj1 ?_
  refine z_callSi (As := [.ref (aM 1), .int ((mR 2) j1)]) (st := []) F dX2_seenBy_10 13 rfl (mX2_union C.1.2.1 D cyI cyB (aM 1) ((mR 2) j1) (mR 0) hw) y_X2_union rfl gX2_seenBy_X2_union ⟨Nat.le_of_ble_eq_true rfl, Nat.le_of_ble_eq_true rfl⟩ ⟨Nat.zero_le _, Nat.zero_le _⟩ (Nat.le_of_ble_eq_true rfl) [13] (by decide) rfl (fun _ => rfl) (fun u => (wHo aH cyI hI hR ++ wMi aH aM cyI mI mR)) (fun _ => rfl) (fun r1 u hp => ?_)
  replace hw := hp
  clear hp
  exact hRt 13 _ r1 () dX2_seenBy_13 hw
set_option maxHeartbeats 4000000 in
set_option maxRecDepth 100000 in
theorem mX2_seenBy (l : Launch) (D : va_G) (cyI cyB : ClassId) (aH : Nat → Nat) (aM : Nat → Nat) (x1 : Int32) (hI : Nat → Int32) (hR : Nat → Nat → Int32) (mI : Nat → Int32) (mR : Nat → Nat → Int32) {post : Int32 → Prop} (hw : pX2_seenBy x1 hI hR mI mR post) : zMi l yX2_seenBy wsX2_seenBy 1 23 D cyI cyB [.ref (aM 0), .int x1] (wHo aH cyI hI hR ++ wMi aH aM cyI mI mR) (S := (Unit)) (fun u => (wHo aH cyI hI hR ++ wMi aH aM cyI mI mR)) (fun r u => post r ) :=
  z_meti (cc := cX2_seenBy) (nL := 2) (by decide +kernel) rfl (Nat.le_of_ble_eq_true rfl) (fun C hl F hRt => xX2_seenBy_0 x1 hI hR mI mR F hRt hw)
theorem y_X2_seenBy : zY yX2_seenBy wsX2_seenBy cX2_seenBy 2 (some .int) 1 := ⟨⟨_, rfl⟩, by decide +kernel⟩
theorem iX2_knownTo_2 : ∀ w ∈ wsX20, w ∈ wsX2_knownTo := fun w h => List.mem_cons_of_mem _ (List.mem_append_right _ h)
theorem kX2_knownTo_9 : zL wsX2_knownTo RX2 9 2 1 (.array .int) true := zL2 iX2_knownTo_2 (by decide) (List.mem_of_getElem? (i := 1) rfl) rfl rfl
theorem kX2_knownTo_21 : zL wsX2_knownTo RX2 21 2 4 (.array .int) true := zL2 iX2_knownTo_2 (by decide) (List.mem_of_getElem? (i := 2) rfl) rfl rfl
set_option maxHeartbeats 4000000 in
set_option maxRecDepth 100000 in
theorem xX2_knownTo_0 {C : zC} {D : va_G} {cyI cyB : ClassId} {aH : Nat → Nat} {aM : Nat → Nat} (x1 : Int32) (hI : Nat → Int32) (hR : Nat → Nat → Int32) (mI : Nat → Int32) (mR : Nat → Nat → Int32) (F : zF C D { frames := 1, cells := 0, slots := 0, locals := 23 } cX2_knownTo 2 wsX2_knownTo RX2 (some .int) cyI cyB) {post : Int32 → Prop} (hRt : zRi C D cX2_knownTo 2 (S := (Unit)) (fun u => (wHo aH cyI hI hR ++ wMi aH aM cyI mI mR)) (fun r u => post r )) (hw : pX2_knownTo x1 hI hR mI mR post) : zX C D 2 0 0 (wHo aH cyI hI hR ++ wMi aH aM cyI mI mR) 0 [(0, .ref (aM 0)), (1, .int x1)] [] := by
  refine z_aload_n F dX2_knownTo_0 1 rfl 0 rfl ?_
  refine z_get F dX2_knownTo_1 4 rfl kX2_knownTo_9 12 rfl rfl ?_
  refine z_aload_n F dX2_knownTo_4 5 rfl 0 rfl ?_
  refine z_get F dX2_knownTo_5 8 rfl kX2_knownTo_21 12 rfl rfl ?_
  refine z_iload_n F dX2_knownTo_8 9 rfl 1 rfl ?_
  refine z_callSi (As := [.ref (aM 4), .int x1]) (st := [.ref (aM 1)]) F dX2_knownTo_9 12 rfl (mX2_union C.1.2.1 D cyI cyB (aM 4) x1 (mR 3) hw) y_X2_union rfl gX2_knownTo_X2_union ⟨Nat.le_of_ble_eq_true rfl, Nat.le_of_ble_eq_true rfl⟩ ⟨Nat.zero_le _, Nat.zero_le _⟩ (Nat.le_of_ble_eq_true rfl) [16] (by decide) rfl (fun _ => rfl) (fun u => (wHo aH cyI hI hR ++ wMi aH aM cyI mI mR)) (fun _ => rfl) (fun r1 u hp => ?_)
  replace hw := hp
  clear hp
  refine z_callSi (As := [.ref (aM 1), .int r1]) (st := []) F dX2_knownTo_12 15 rfl (mX2_union C.1.2.1 D cyI cyB (aM 1) r1 (mR 0) hw) y_X2_union rfl gX2_knownTo_X2_union ⟨Nat.le_of_ble_eq_true rfl, Nat.le_of_ble_eq_true rfl⟩ ⟨Nat.zero_le _, Nat.zero_le _⟩ (Nat.le_of_ble_eq_true rfl) [13] (by decide) rfl (fun _ => rfl) (fun u => (wHo aH cyI hI hR ++ wMi aH aM cyI mI mR)) (fun _ => rfl) (fun r2 u hp => ?_)
  replace hw := hp
  clear hp
  exact hRt 15 _ r2 () dX2_knownTo_15 hw
set_option maxHeartbeats 4000000 in
set_option maxRecDepth 100000 in
theorem mX2_knownTo (l : Launch) (D : va_G) (cyI cyB : ClassId) (aH : Nat → Nat) (aM : Nat → Nat) (x1 : Int32) (hI : Nat → Int32) (hR : Nat → Nat → Int32) (mI : Nat → Int32) (mR : Nat → Nat → Int32) {post : Int32 → Prop} (hw : pX2_knownTo x1 hI hR mI mR post) : zMi l yX2_knownTo wsX2_knownTo 1 23 D cyI cyB [.ref (aM 0), .int x1] (wHo aH cyI hI hR ++ wMi aH aM cyI mI mR) (S := (Unit)) (fun u => (wHo aH cyI hI hR ++ wMi aH aM cyI mI mR)) (fun r u => post r ) :=
  z_meti (cc := cX2_knownTo) (nL := 2) (by decide +kernel) rfl (Nat.le_of_ble_eq_true rfl) (fun C hl F hRt => xX2_knownTo_0 x1 hI hR mI mR F hRt hw)
theorem y_X2_knownTo : zY yX2_knownTo wsX2_knownTo cX2_knownTo 2 (some .int) 1 := ⟨⟨_, rfl⟩, by decide +kernel⟩
theorem iX2_guessedFrom_1 : ∀ w ∈ wsX10, w ∈ wsX2_guessedFrom := fun w h => List.mem_cons_of_mem _ (List.mem_append_left _ (List.mem_append_right _ h))
theorem iX2_guessedFrom_2 : ∀ w ∈ wsX20, w ∈ wsX2_guessedFrom := fun w h => List.mem_cons_of_mem _ (List.mem_append_left _ (List.mem_append_left _ (List.mem_append_right _ h)))
theorem iX2_guessedFrom_3 : ∀ w ∈ wsX30, w ∈ wsX2_guessedFrom := fun w h => List.mem_cons_of_mem _ (List.mem_append_right _ h)
theorem kX2_guessedFrom_41 : zL wsX2_guessedFrom RX2 41 2 9 .int false := zL2 iX2_guessedFrom_2 (by decide) (List.mem_of_getElem? (i := 3) rfl) rfl rfl
theorem kX2_guessedFrom_47 : zL wsX2_guessedFrom RX2 47 2 0 (.object "StillRoom$House") true := zL2 iX2_guessedFrom_2 (by decide) (List.mem_of_getElem? (i := 1) rfl) rfl rfl
theorem kX2_guessedFrom_81 : zL wsX2_guessedFrom RX2 81 3 2 .int false := zL3 iX2_guessedFrom_3 (by decide) (List.mem_of_getElem? (i := 4) rfl) rfl rfl
theorem kX2_guessedFrom_86 : zL wsX2_guessedFrom RX2 86 3 0 (.array .int) true := zL3 iX2_guessedFrom_3 (by decide) (List.mem_of_getElem? (i := 5) rfl) rfl rfl
theorem kX2_guessedFrom_89 : zL wsX2_guessedFrom RX2 89 3 1 (.array .int) true := zL3 iX2_guessedFrom_3 (by decide) (List.mem_of_getElem? (i := 6) rfl) rfl rfl
theorem kX2_guessedFrom_103 : zL wsX2_guessedFrom RX2 103 1 4 (.object "StillRoom$Pairs") true := zL1 iX2_guessedFrom_1 (by decide) (List.mem_of_getElem? (i := 2) rfl) rfl rfl
set_option maxHeartbeats 4000000 in
set_option maxRecDepth 100000 in
theorem xX2_guessedFrom_48 {C : zC} {D : va_G} {cyI cyB : ClassId} {aH : Nat → Nat} {aM : Nat → Nat} (x5 : Int32) (x6 : Int32) (hI : Nat → Int32) (hR : Nat → Nat → Int32) (mI : Nat → Int32) (mR : Nat → Nat → Int32) (F : zF C D { frames := 0, cells := 0, slots := 0, locals := 0 } cX2_guessedFrom 8 wsX2_guessedFrom RX2 (some .int) cyI cyB) {post : Int32 → Prop} (hRt : zRi C D cX2_guessedFrom 8 (S := (Unit)) (fun u => (wHo aH cyI hI hR ++ wMi aH aM cyI mI mR)) (fun r u => post r )) {k89 : Int32 → Prop} (hk89 : ∀ (x3 : Int32), k89 x3 → zX C D 8 0 0 (wHo aH cyI hI hR ++ wMi aH aM cyI mI mR) 89 [(2, .ref (aH 9)), (3, .int x3), (5, .int x5), (6, .int x6)] []) : ∀ (n : Nat) (x3 : Int32) (x7 : Int32), bX2_guessedFrom_48 x5 x6 hI hR mI mR post k89  n x3 x7 → zX C D 8 0 0 (wHo aH cyI hI hR ++ wMi aH aM cyI mI mR) 48 [(2, .ref (aH 9)), (3, .int x3), (5, .int x5), (6, .int x6), (7, .int x7)] [] := by
  intro n
  induction n with
  | zero => intro _ _ hw; exact hw.elim
  | succ n ih =>
    intro x3 x7 hw
    refine z_iload F dX2_guessedFrom_48 50 rfl 4 rfl ?_
    refine z_aload_n F dX2_guessedFrom_50 51 rfl 0 rfl ?_
    refine z_get F dX2_guessedFrom_51 54 rfl kX2_guessedFrom_81 9 rfl rfl ?_
    obtain ⟨hwt, hwf⟩ := hw
    refine z_icmpge F dX2_guessedFrom_54 89 rfl 57 rfl (fun c4 => ?_) (fun c4 => ?_)
    · have hw := hwt c4; clear hwt hwf
      refine z_lv (lv' := [(2, .ref (aH 9)), (3, .int x3), (5, .int x5), (6, .int x6)]) [0, 1, 2, 3] rfl ?_
      exact hk89 x3 hw
    · have hw := hwf c4; clear hwt hwf
      refine z_aload_n F dX2_guessedFrom_57 58 rfl 0 rfl ?_
      refine z_get F dX2_guessedFrom_58 61 rfl kX2_guessedFrom_86 9 rfl rfl ?_
      refine z_iload F dX2_guessedFrom_61 63 rfl 4 rfl ?_
      obtain ⟨j1, ej1, hj1, hw⟩ := hw
      refine z_iald F dX2_guessedFrom_63 64 rfl 10 rfl (by decide) j1 ej1 hj1 ?_
      refine z_iload_n F dX2_guessedFrom_64 65 rfl 1 rfl ?_
      refine z_iconst F dX2_guessedFrom_65 66 rfl zki_m1 ?_
      refine z_ixor F dX2_guessedFrom_66 67 rfl ?_
      refine z_iand F dX2_guessedFrom_67 68 rfl ?_
      obtain ⟨hwt, hwf⟩ := hw
      refine z_ifne F dX2_guessedFrom_68 83 rfl 71 rfl (fun c5 => ?_) (fun c5 => ?_)
      · have hw := hwt c5; clear hwt hwf
        refine z_iinc F dX2_guessedFrom_83 86 rfl 4 rfl (by decide) zki_1 (fun v1 => [(7, .int v1), (2, .ref (aH 9)), (3, .int x3), (5, .int x5), (6, .int x6)]) (fun _ => rfl) (fun v1 ev1 => ?_)
        replace hw := hw v1 ev1
        refine z_goto F dX2_guessedFrom_86 48 rfl ?_
        refine z_lv (lv' := [(2, .ref (aH 9)), (3, .int x3), (5, .int x5), (6, .int x6), (7, .int v1)]) [1, 2, 3, 4, 0] rfl ?_
        exact ih x3 v1 hw
      · have hw := hwf c5; clear hwt hwf
        refine z_iload_n F dX2_guessedFrom_71 72 rfl 1 rfl ?_
        refine z_iconst F dX2_guessedFrom_72 73 rfl zki_1 ?_
        refine z_aload_n F dX2_guessedFrom_73 74 rfl 0 rfl ?_
        refine z_get F dX2_guessedFrom_74 77 rfl kX2_guessedFrom_89 9 rfl rfl ?_
        refine z_iload F dX2_guessedFrom_77 79 rfl 4 rfl ?_
        refine z_iald F dX2_guessedFrom_79 80 rfl 11 rfl (by decide) j1 ej1 hj1 ?_
        refine z_ishl F dX2_guessedFrom_80 81 rfl ?_
        refine z_ior F dX2_guessedFrom_81 82 rfl ?_
        refine z_topi (fun v2 ev2 => ?_)
        replace hw := hw v2 ev2
        refine z_istore_n (lv' := [(3, .int v2), (2, .ref (aH 9)), (5, .int x5), (6, .int x6), (7, .int x7)]) F dX2_guessedFrom_82 83 rfl (by decide) rfl ?_
        refine z_iinc F dX2_guessedFrom_83 86 rfl 4 rfl (by decide) zki_1 (fun v3 => [(7, .int v3), (3, .int v2), (2, .ref (aH 9)), (5, .int x5), (6, .int x6)]) (fun _ => rfl) (fun v3 ev3 => ?_)
        replace hw := hw v3 ev3
        refine z_goto F dX2_guessedFrom_86 48 rfl ?_
        refine z_lv (lv' := [(2, .ref (aH 9)), (3, .int v2), (5, .int x5), (6, .int x6), (7, .int v3)]) [2, 1, 3, 4, 0] rfl ?_
        exact ih v2 v3 hw
set_option maxHeartbeats 4000000 in
set_option maxRecDepth 100000 in
theorem xX2_guessedFrom_28 {C : zC} {D : va_G} {cyI cyB : ClassId} {aH : Nat → Nat} {aM : Nat → Nat} (hI : Nat → Int32) (hR : Nat → Nat → Int32) (mI : Nat → Int32) (mR : Nat → Nat → Int32) (F : zF C D { frames := 0, cells := 0, slots := 0, locals := 0 } cX2_guessedFrom 8 wsX2_guessedFrom RX2 (some .int) cyI cyB) {post : Int32 → Prop} (hRt : zRi C D cX2_guessedFrom 8 (S := (Unit)) (fun u => (wHo aH cyI hI hR ++ wMi aH aM cyI mI mR)) (fun r u => post r )) : ∀ (n : Nat) (x3 : Int32) (x4 : Int32) (x5 : Int32), bX2_guessedFrom_28 hI hR mI mR post  n x3 x4 x5 → zX C D 8 0 0 (wHo aH cyI hI hR ++ wMi aH aM cyI mI mR) 28 [(2, .ref (aH 9)), (3, .int x3), (4, .int x4), (5, .int x5)] [] := by
  intro n
  induction n with
  | zero => intro _ _ _ hw; exact hw.elim
  | succ n ih =>
    intro x3 x4 x5 hw
    refine z_iload F dX2_guessedFrom_28 30 rfl 2 rfl ?_
    obtain ⟨hwt, hwf⟩ := hw
    refine z_ifeq F dX2_guessedFrom_30 108 rfl 33 rfl (fun c2 => ?_) (fun c2 => ?_)
    · have hw := hwt c2; clear hwt hwf
      refine z_iload_n F dX2_guessedFrom_108 109 rfl 1 rfl ?_
      exact hRt 109 _ x3 () dX2_guessedFrom_109 hw
    · have hw := hwf c2; clear hwt hwf
      refine z_iload F dX2_guessedFrom_33 35 rfl 3 rfl ?_
      refine z_aload_n F dX2_guessedFrom_35 36 rfl 0 rfl ?_
      refine z_get F dX2_guessedFrom_36 39 rfl kX2_guessedFrom_81 9 rfl rfl ?_
      obtain ⟨hwt, hwf⟩ := hw
      refine z_icmpgt F dX2_guessedFrom_39 108 rfl 42 rfl (fun c3 => ?_) (fun c3 => ?_)
      · have hw := hwt c3; clear hwt hwf
        refine z_iload_n F dX2_guessedFrom_108 109 rfl 1 rfl ?_
        exact hRt 109 _ x3 () dX2_guessedFrom_109 hw
      · have hw := hwf c3; clear hwt hwf
        refine z_iload_n F dX2_guessedFrom_42 43 rfl 1 rfl ?_
        refine z_istore (lv' := [(6, .int x3), (2, .ref (aH 9)), (3, .int x3), (4, .int x4), (5, .int x5)]) F dX2_guessedFrom_43 45 rfl (by decide) rfl ?_
        refine z_iconst F dX2_guessedFrom_45 46 rfl zki_0 ?_
        refine z_istore (lv' := [(7, .int 0), (6, .int x3), (2, .ref (aH 9)), (3, .int x3), (4, .int x4), (5, .int x5)]) F dX2_guessedFrom_46 48 rfl (by decide) rfl ?_
        obtain ⟨n1, hw⟩ := hw
        refine z_lv (lv' := [(2, .ref (aH 9)), (3, .int x3), (5, .int x5), (6, .int x3), (7, .int 0)]) [2, 3, 5, 1, 0] rfl ?_
        refine xX2_guessedFrom_48 x5 x3 hI hR mI mR F hRt (fun w1 hw => ?_) n1 x3 0 hw
        refine z_iload_n F dX2_guessedFrom_89 90 rfl 1 rfl ?_
        refine z_iload F dX2_guessedFrom_90 92 rfl 3 rfl ?_
        obtain ⟨hwt, hwf⟩ := hw
        refine z_icmpeq F dX2_guessedFrom_92 99 rfl 95 rfl (fun c4 => ?_) (fun c4 => ?_)
        · have hw := hwt c4; clear hwt hwf
          refine z_iconst F dX2_guessedFrom_99 100 rfl zki_0 ?_
          refine z_istore (lv' := [(4, .int 0), (2, .ref (aH 9)), (3, .int w1), (5, .int x5), (6, .int x3)]) F dX2_guessedFrom_100 102 rfl (by decide) rfl ?_
          refine z_iinc F dX2_guessedFrom_102 105 rfl 3 rfl (by decide) zki_1 (fun v1 => [(5, .int v1), (4, .int 0), (2, .ref (aH 9)), (3, .int w1), (6, .int x3)]) (fun _ => rfl) (fun v1 ev1 => ?_)
          replace hw := hw v1 ev1
          refine z_goto F dX2_guessedFrom_105 28 rfl ?_
          refine z_lv (lv' := [(2, .ref (aH 9)), (3, .int w1), (4, .int 0), (5, .int v1)]) [2, 3, 1, 0] rfl ?_
          exact ih w1 0 v1 hw
        · have hw := hwf c4; clear hwt hwf
          refine z_iconst F dX2_guessedFrom_95 96 rfl zki_1 ?_
          refine z_goto F dX2_guessedFrom_96 100 rfl ?_
          refine z_istore (lv' := [(4, .int 1), (2, .ref (aH 9)), (3, .int w1), (5, .int x5), (6, .int x3)]) F dX2_guessedFrom_100 102 rfl (by decide) rfl ?_
          refine z_iinc F dX2_guessedFrom_102 105 rfl 3 rfl (by decide) zki_1 (fun v2 => [(5, .int v2), (4, .int 1), (2, .ref (aH 9)), (3, .int w1), (6, .int x3)]) (fun _ => rfl) (fun v2 ev2 => ?_)
          replace hw := hw v2 ev2
          refine z_goto F dX2_guessedFrom_105 28 rfl ?_
          refine z_lv (lv' := [(2, .ref (aH 9)), (3, .int w1), (4, .int 1), (5, .int v2)]) [2, 3, 1, 0] rfl ?_
          exact ih w1 1 v2 hw
set_option maxHeartbeats 4000000 in
set_option maxRecDepth 100000 in
theorem xX2_guessedFrom_0 {C : zC} {D : va_G} {cyI cyB : ClassId} {aH : Nat → Nat} {aM : Nat → Nat} (x1 : Int32) (hI : Nat → Int32) (hR : Nat → Nat → Int32) (mI : Nat → Int32) (mR : Nat → Nat → Int32) (F : zF C D { frames := 0, cells := 0, slots := 0, locals := 0 } cX2_guessedFrom 8 wsX2_guessedFrom RX2 (some .int) cyI cyB) {post : Int32 → Prop} (hRt : zRi C D cX2_guessedFrom 8 (S := (Unit)) (fun u => (wHo aH cyI hI hR ++ wMi aH aM cyI mI mR)) (fun r u => post r )) (hw : pX2_guessedFrom x1 hI hR mI mR post) : zX C D 8 0 0 (wHo aH cyI hI hR ++ wMi aH aM cyI mI mR) 0 [(0, .ref (aM 0)), (1, .int x1)] [] := by
  refine z_aload_n F dX2_guessedFrom_0 1 rfl 0 rfl ?_
  refine z_get F dX2_guessedFrom_1 4 rfl kX2_guessedFrom_47 12 rfl rfl ?_
  refine z_get F dX2_guessedFrom_4 7 rfl kX2_guessedFrom_103 0 rfl rfl ?_
  refine z_astore_n (lv' := [(2, .ref (aH 9)), (0, .ref (aM 0)), (1, .int x1)]) F dX2_guessedFrom_7 8 rfl (by decide) rfl ?_
  refine z_iload_n F dX2_guessedFrom_8 9 rfl 2 rfl ?_
  refine z_istore_n (lv' := [(3, .int x1), (2, .ref (aH 9)), (0, .ref (aM 0)), (1, .int x1)]) F dX2_guessedFrom_9 10 rfl (by decide) rfl ?_
  refine z_iload_n F dX2_guessedFrom_10 11 rfl 0 rfl ?_
  refine z_aload_n F dX2_guessedFrom_11 12 rfl 2 rfl ?_
  refine z_get F dX2_guessedFrom_12 15 rfl kX2_guessedFrom_41 12 rfl rfl ?_
  obtain ⟨hwt, hwf⟩ := hw
  refine z_icmpeq F dX2_guessedFrom_15 22 rfl 18 rfl (fun c1 => ?_) (fun c1 => ?_)
  · have hw := hwt c1; clear hwt hwf
    refine z_iconst F dX2_guessedFrom_22 23 rfl zki_0 ?_
    refine z_istore (lv' := [(4, .int 0), (3, .int x1), (2, .ref (aH 9)), (0, .ref (aM 0)), (1, .int x1)]) F dX2_guessedFrom_23 25 rfl (by decide) rfl ?_
    refine z_iconst F dX2_guessedFrom_25 26 rfl zki_0 ?_
    refine z_istore (lv' := [(5, .int 0), (4, .int 0), (3, .int x1), (2, .ref (aH 9)), (0, .ref (aM 0)), (1, .int x1)]) F dX2_guessedFrom_26 28 rfl (by decide) rfl ?_
    obtain ⟨n1, hw⟩ := hw
    refine z_lv (lv' := [(2, .ref (aH 9)), (3, .int x1), (4, .int 0), (5, .int 0)]) [3, 2, 1, 0] rfl ?_
    refine xX2_guessedFrom_28 hI hR mI mR F hRt n1 x1 0 0 hw
  · have hw := hwf c1; clear hwt hwf
    refine z_iconst F dX2_guessedFrom_18 19 rfl zki_1 ?_
    refine z_goto F dX2_guessedFrom_19 23 rfl ?_
    refine z_istore (lv' := [(4, .int 1), (3, .int x1), (2, .ref (aH 9)), (0, .ref (aM 0)), (1, .int x1)]) F dX2_guessedFrom_23 25 rfl (by decide) rfl ?_
    refine z_iconst F dX2_guessedFrom_25 26 rfl zki_0 ?_
    refine z_istore (lv' := [(5, .int 0), (4, .int 1), (3, .int x1), (2, .ref (aH 9)), (0, .ref (aM 0)), (1, .int x1)]) F dX2_guessedFrom_26 28 rfl (by decide) rfl ?_
    obtain ⟨n2, hw⟩ := hw
    refine z_lv (lv' := [(2, .ref (aH 9)), (3, .int x1), (4, .int 1), (5, .int 0)]) [3, 2, 1, 0] rfl ?_
    refine xX2_guessedFrom_28 hI hR mI mR F hRt n2 x1 1 0 hw
set_option maxHeartbeats 4000000 in
set_option maxRecDepth 100000 in
theorem mX2_guessedFrom (l : Launch) (D : va_G) (cyI cyB : ClassId) (aH : Nat → Nat) (aM : Nat → Nat) (x1 : Int32) (hI : Nat → Int32) (hR : Nat → Nat → Int32) (mI : Nat → Int32) (mR : Nat → Nat → Int32) {post : Int32 → Prop} (hw : pX2_guessedFrom x1 hI hR mI mR post) : zMi l yX2_guessedFrom wsX2_guessedFrom 0 0 D cyI cyB [.ref (aM 0), .int x1] (wHo aH cyI hI hR ++ wMi aH aM cyI mI mR) (S := (Unit)) (fun u => (wHo aH cyI hI hR ++ wMi aH aM cyI mI mR)) (fun r u => post r ) :=
  z_meti (cc := cX2_guessedFrom) (nL := 8) (by decide +kernel) rfl (Nat.le_of_ble_eq_true rfl) (fun C hl F hRt => xX2_guessedFrom_0 x1 hI hR mI mR F hRt hw)
theorem y_X2_guessedFrom : zY yX2_guessedFrom wsX2_guessedFrom cX2_guessedFrom 8 (some .int) 1 := ⟨⟨_, rfl⟩, by decide +kernel⟩
theorem iX2_isHere_2 : ∀ w ∈ wsX20, w ∈ wsX2_isHere := fun w h => List.mem_cons_of_mem _ (List.mem_append_right _ h)
theorem kX2_isHere_38 : zL wsX2_isHere RX2 38 2 8 .int false := zL2 iX2_isHere_2 (by decide) (List.mem_of_getElem? (i := 1) rfl) rfl rfl
set_option maxHeartbeats 4000000 in
set_option maxRecDepth 100000 in
theorem xX2_isHere_0 {C : zC} {D : va_G} {cyI cyB : ClassId} {aH : Nat → Nat} {aM : Nat → Nat} (x1 : Int32) (hI : Nat → Int32) (hR : Nat → Nat → Int32) (mI : Nat → Int32) (mR : Nat → Nat → Int32) (F : zF C D { frames := 1, cells := 0, slots := 0, locals := 21 } cX2_isHere 2 wsX2_isHere RX2 (some .boolean) cyI cyB) {post : Bool → Prop} (hRt : zRz C D cX2_isHere 2 (S := (Unit)) (fun u => (wHo aH cyI hI hR ++ wMi aH aM cyI mI mR)) (fun r u => ∃ b : Bool, r = zb b ∧ post b )) (hw : pX2_isHere x1 hI hR mI mR post) : zX C D 2 0 0 (wHo aH cyI hI hR ++ wMi aH aM cyI mI mR) 0 [(0, .ref (aM 0)), (1, .int x1)] [] := by
  refine z_aload_n F dX2_isHere_0 1 rfl 0 rfl ?_
  refine z_get F dX2_isHere_1 4 rfl kX2_isHere_38 12 rfl rfl ?_
  refine z_iload_n F dX2_isHere_4 5 rfl 1 rfl ?_
  refine z_callSNi (As := [.int (mI 1), .int x1]) (st := []) F dX2_isHere_5 8 rfl (mX5_contains C.1.2.1 D cyI cyB (mI 1) x1 hw) y_X5_contains rfl gX2_isHere_X5_contains_n92 F.2.2.1.2.2.2.2.2.1 (List.mem_of_getElem? (i := 3) rfl) (List.mem_of_getElem? (i := 2) rfl) ⟨Nat.le_of_ble_eq_true rfl, Nat.le_of_ble_eq_true rfl⟩ ⟨Nat.zero_le _, Nat.zero_le _⟩ (Nat.le_of_ble_eq_true rfl) [] (by decide) rfl (fun _ => rfl) (fun u => (wHo aH cyI hI hR ++ wMi aH aM cyI mI mR)) (fun _ => rfl) (fun r0 u hp => ?_)
  obtain ⟨b1, rfl, hw⟩ := hp
  exact hRt 8 _ b1 () dX2_isHere_8 ⟨b1, rfl, hw⟩
set_option maxHeartbeats 4000000 in
set_option maxRecDepth 100000 in
theorem mX2_isHere (l : Launch) (D : va_G) (cyI cyB : ClassId) (aH : Nat → Nat) (aM : Nat → Nat) (x1 : Int32) (hI : Nat → Int32) (hR : Nat → Nat → Int32) (mI : Nat → Int32) (mR : Nat → Nat → Int32) {post : Bool → Prop} (hw : pX2_isHere x1 hI hR mI mR post) : zMi l yX2_isHere wsX2_isHere 1 21 D cyI cyB [.ref (aM 0), .int x1] (wHo aH cyI hI hR ++ wMi aH aM cyI mI mR) (S := (Unit)) (fun u => (wHo aH cyI hI hR ++ wMi aH aM cyI mI mR)) (fun r u => ∃ b : Bool, r = zb b ∧ post b ) :=
  z_metz (cc := cX2_isHere) (nL := 2) (by decide +kernel) rfl (Nat.le_of_ble_eq_true rfl) (fun C hl F hRt => xX2_isHere_0 x1 hI hR mI mR F hRt hw)
theorem y_X2_isHere : zY yX2_isHere wsX2_isHere cX2_isHere 2 (some .boolean) 1 := ⟨⟨_, rfl⟩, by decide +kernel⟩
theorem iX2_areHere_2 : ∀ w ∈ wsX20, w ∈ wsX2_areHere := fun w h => List.mem_cons_of_mem _ (List.mem_append_right _ h)
theorem kX2_areHere_38 : zL wsX2_areHere RX2 38 2 8 .int false := zL2 iX2_areHere_2 (by decide) (List.mem_of_getElem? (i := 1) rfl) rfl rfl
set_option maxHeartbeats 4000000 in
set_option maxRecDepth 100000 in
theorem xX2_areHere_0 {C : zC} {D : va_G} {cyI cyB : ClassId} {aH : Nat → Nat} {aM : Nat → Nat} (x1 : Int32) (hI : Nat → Int32) (hR : Nat → Nat → Int32) (mI : Nat → Int32) (mR : Nat → Nat → Int32) (F : zF C D { frames := 0, cells := 0, slots := 0, locals := 0 } cX2_areHere 2 wsX2_areHere RX2 (some .boolean) cyI cyB) {post : Bool → Prop} (hRt : zRz C D cX2_areHere 2 (S := (Unit)) (fun u => (wHo aH cyI hI hR ++ wMi aH aM cyI mI mR)) (fun r u => ∃ b : Bool, r = zb b ∧ post b )) (hw : pX2_areHere x1 hI hR mI mR post) : zX C D 2 0 0 (wHo aH cyI hI hR ++ wMi aH aM cyI mI mR) 0 [(0, .ref (aM 0)), (1, .int x1)] [] := by
  refine z_iload_n F dX2_areHere_0 1 rfl 1 rfl ?_
  refine z_aload_n F dX2_areHere_1 2 rfl 0 rfl ?_
  refine z_get F dX2_areHere_2 5 rfl kX2_areHere_38 12 rfl rfl ?_
  refine z_iconst F dX2_areHere_5 6 rfl zki_m1 ?_
  refine z_ixor F dX2_areHere_6 7 rfl ?_
  refine z_iand F dX2_areHere_7 8 rfl ?_
  obtain ⟨hwt, hwf⟩ := hw
  refine z_ifne F dX2_areHere_8 15 rfl 11 rfl (fun c1 => ?_) (fun c1 => ?_)
  · have hw := hwt c1; clear hwt hwf
    refine z_iconst F dX2_areHere_15 16 rfl zki_0 ?_
    exact hRt 16 _ false () dX2_areHere_16 ⟨false, rfl, hw⟩
  · have hw := hwf c1; clear hwt hwf
    refine z_iconst F dX2_areHere_11 12 rfl zki_1 ?_
    refine z_goto F dX2_areHere_12 16 rfl ?_
    exact hRt 16 _ true () dX2_areHere_16 ⟨true, rfl, hw⟩
set_option maxHeartbeats 4000000 in
set_option maxRecDepth 100000 in
theorem mX2_areHere (l : Launch) (D : va_G) (cyI cyB : ClassId) (aH : Nat → Nat) (aM : Nat → Nat) (x1 : Int32) (hI : Nat → Int32) (hR : Nat → Nat → Int32) (mI : Nat → Int32) (mR : Nat → Nat → Int32) {post : Bool → Prop} (hw : pX2_areHere x1 hI hR mI mR post) : zMi l yX2_areHere wsX2_areHere 0 0 D cyI cyB [.ref (aM 0), .int x1] (wHo aH cyI hI hR ++ wMi aH aM cyI mI mR) (S := (Unit)) (fun u => (wHo aH cyI hI hR ++ wMi aH aM cyI mI mR)) (fun r u => ∃ b : Bool, r = zb b ∧ post b ) :=
  z_metz (cc := cX2_areHere) (nL := 2) (by decide +kernel) rfl (Nat.le_of_ble_eq_true rfl) (fun C hl F hRt => xX2_areHere_0 x1 hI hR mI mR F hRt hw)
theorem y_X2_areHere : zY yX2_areHere wsX2_areHere cX2_areHere 2 (some .boolean) 1 := ⟨⟨_, rfl⟩, by decide +kernel⟩
theorem iX2_happens_2 : ∀ w ∈ wsX20, w ∈ wsX2_happens := fun w h => List.mem_cons_of_mem _ (List.mem_append_left _ (List.mem_append_left _ (List.mem_append_right _ h)))
theorem kX2_happens_9 : zL wsX2_happens RX2 9 2 1 (.array .int) true := zL2 iX2_happens_2 (by decide) (List.mem_of_getElem? (i := 3) rfl) rfl rfl
theorem kX2_happens_21 : zL wsX2_happens RX2 21 2 4 (.array .int) true := zL2 iX2_happens_2 (by decide) (List.mem_of_getElem? (i := 1) rfl) rfl rfl
theorem kX2_happens_34 : zL wsX2_happens RX2 34 2 7 .int false := zL2 iX2_happens_2 (by decide) (List.mem_of_getElem? (i := 6) rfl) rfl rfl
theorem kX2_happens_38 : zL wsX2_happens RX2 38 2 8 .int false := zL2 iX2_happens_2 (by decide) (List.mem_of_getElem? (i := 2) rfl) rfl rfl
theorem kX2_happens_41 : zL wsX2_happens RX2 41 2 9 .int false := zL2 iX2_happens_2 (by decide) (List.mem_of_getElem? (i := 5) rfl) rfl rfl
theorem kX2_happens_44 : zL wsX2_happens RX2 44 2 10 .int false := zL2 iX2_happens_2 (by decide) (List.mem_of_getElem? (i := 4) rfl) rfl rfl
set_option maxHeartbeats 4000000 in
set_option maxRecDepth 100000 in
theorem xX2_happens_0 {C : zC} {D : va_G} {cyI cyB : ClassId} {aH : Nat → Nat} {aM : Nat → Nat} (x1 : Int32) (x2 : Int32) (hI : Nat → Int32) (hR : Nat → Nat → Int32) (mI : Nat → Int32) (mR : Nat → Nat → Int32) (F : zF C D { frames := 1, cells := 0, slots := 0, locals := 27 } cX2_happens 4 wsX2_happens RX2 (some .boolean) cyI cyB) {post : Bool → Prop} (hRt : zRz C D cX2_happens 4 (S := (Unit)) (fun u => (wHo aH cyI hI hR ++ wMi aH aM cyI mI mR)) (fun r u => ∃ b : Bool, r = zb b ∧ post b )) (hw : pX2_happens x1 x2 hI hR mI mR post) : zX C D 4 0 0 (wHo aH cyI hI hR ++ wMi aH aM cyI mI mR) 0 [(0, .ref (aM 0)), (1, .int x1), (2, .int x2)] [] := by
  refine z_iload_n F dX2_happens_0 1 rfl 1 rfl ?_
  obtain ⟨hwt, hwf⟩ := hw
  refine z_ifne F dX2_happens_1 50 rfl 4 rfl (fun c1 => ?_) (fun c1 => ?_)
  · have hw := hwt c1; clear hwt hwf
    refine z_aload_n F dX2_happens_50 51 rfl 0 rfl ?_
    refine z_get F dX2_happens_51 54 rfl kX2_happens_21 12 rfl rfl ?_
    refine z_iload_n F dX2_happens_54 55 rfl 2 rfl ?_
    refine z_aload_n F dX2_happens_55 56 rfl 0 rfl ?_
    refine z_get F dX2_happens_56 59 rfl kX2_happens_34 12 rfl rfl ?_
    refine z_aload_n F dX2_happens_59 60 rfl 0 rfl ?_
    refine z_get F dX2_happens_60 63 rfl kX2_happens_38 12 rfl rfl ?_
    refine z_iconst F dX2_happens_63 64 rfl zki_m1 ?_
    refine z_ixor F dX2_happens_64 65 rfl ?_
    refine z_iand F dX2_happens_65 66 rfl ?_
    refine z_ior F dX2_happens_66 67 rfl ?_
    refine z_callSi (As := [.ref (aM 4), .int (x2 ||| ((mI 0) &&& ((mI 1) ^^^ (-1))))]) (st := []) F dX2_happens_67 70 rfl (mX2_union C.1.2.1 D cyI cyB (aM 4) (x2 ||| ((mI 0) &&& ((mI 1) ^^^ (-1)))) (mR 3) hw) y_X2_union rfl gX2_happens_X2_union ⟨Nat.le_of_ble_eq_true rfl, Nat.le_of_ble_eq_true rfl⟩ ⟨Nat.zero_le _, Nat.zero_le _⟩ (Nat.le_of_ble_eq_true rfl) [16] (by decide) rfl (fun _ => rfl) (fun u => (wHo aH cyI hI hR ++ wMi aH aM cyI mI mR)) (fun _ => rfl) (fun r1 u hp => ?_)
    replace hw := hp
    clear hp
    refine z_istore_n (lv' := [(3, .int r1), (0, .ref (aM 0)), (1, .int x1), (2, .int x2)]) F dX2_happens_70 71 rfl (by decide) rfl ?_
    refine z_aload_n F dX2_happens_71 72 rfl 1 rfl ?_
    refine z_aload_n F dX2_happens_72 73 rfl 1 rfl ?_
    refine z_get F dX2_happens_73 76 rfl kX2_happens_9 12 rfl rfl ?_
    refine z_iload_n F dX2_happens_76 77 rfl 0 rfl ?_
    refine z_callSi (As := [.ref (aM 1), .int r1]) (st := [.ref (aM 0)]) F dX2_happens_77 80 rfl (mX2_union C.1.2.1 D cyI cyB (aM 1) r1 (mR 0) hw) y_X2_union rfl gX2_happens_X2_union ⟨Nat.le_of_ble_eq_true rfl, Nat.le_of_ble_eq_true rfl⟩ ⟨Nat.zero_le _, Nat.zero_le _⟩ (Nat.le_of_ble_eq_true rfl) [13] (by decide) rfl (fun _ => rfl) (fun u => (wHo aH cyI hI hR ++ wMi aH aM cyI mI mR)) (fun _ => rfl) (fun r2 u hp => ?_)
    replace hw := hp
    clear hp
    refine z_segVi (As := [.int r2]) (st := []) F dX2_happens_80 83 rfl (mX2_guessedFrom C.1.2.1 D cyI cyB aH aM r2 hI hR mI mR hw) y_X2_guessedFrom rfl gX2_happens_X2_guessedFrom rfl (ci := 2) (rq := 12) rfl rfl ⟨Nat.le_of_ble_eq_true rfl, Nat.le_of_ble_eq_true rfl⟩ ⟨Nat.zero_le _, Nat.zero_le _⟩ (Nat.le_of_ble_eq_true rfl) [] [] (by simp only [List.append_assoc, List.nil_append, List.append_nil]) (fun _ => rfl) (fun u => (wHo aH cyI hI hR ++ wMi aH aM cyI mI mR)) (fun u => (by simp only [List.append_assoc, List.nil_append, List.append_nil])) (fun r3 u hp => ?_)
    replace hw := hp
    clear hp
    refine z_aload_n F dX2_happens_83 84 rfl 1 rfl ?_
    refine z_get F dX2_happens_84 87 rfl kX2_happens_41 12 rfl rfl ?_
    obtain ⟨hwt, hwf⟩ := hw
    refine z_icmpne F dX2_happens_87 94 rfl 90 rfl (fun c2 => ?_) (fun c2 => ?_)
    · have hw := hwt c2; clear hwt hwf
      refine z_iconst F dX2_happens_94 95 rfl zki_0 ?_
      exact hRt 95 _ false () dX2_happens_95 ⟨false, rfl, hw⟩
    · have hw := hwf c2; clear hwt hwf
      refine z_iconst F dX2_happens_90 91 rfl zki_1 ?_
      refine z_goto F dX2_happens_91 95 rfl ?_
      exact hRt 95 _ true () dX2_happens_95 ⟨true, rfl, hw⟩
  · have hw := hwf c1; clear hwt hwf
    refine z_aload_n F dX2_happens_4 5 rfl 0 rfl ?_
    refine z_get F dX2_happens_5 8 rfl kX2_happens_21 12 rfl rfl ?_
    refine z_aload_n F dX2_happens_8 9 rfl 0 rfl ?_
    refine z_get F dX2_happens_9 12 rfl kX2_happens_38 12 rfl rfl ?_
    refine z_iload_n F dX2_happens_12 13 rfl 2 rfl ?_
    refine z_iconst F dX2_happens_13 14 rfl zki_m1 ?_
    refine z_ixor F dX2_happens_14 15 rfl ?_
    refine z_iand F dX2_happens_15 16 rfl ?_
    refine z_callSi (As := [.ref (aM 4), .int ((mI 1) &&& (x2 ^^^ (-1)))]) (st := []) F dX2_happens_16 19 rfl (mX2_union C.1.2.1 D cyI cyB (aM 4) ((mI 1) &&& (x2 ^^^ (-1))) (mR 3) hw) y_X2_union rfl gX2_happens_X2_union ⟨Nat.le_of_ble_eq_true rfl, Nat.le_of_ble_eq_true rfl⟩ ⟨Nat.zero_le _, Nat.zero_le _⟩ (Nat.le_of_ble_eq_true rfl) [16] (by decide) rfl (fun _ => rfl) (fun u => (wHo aH cyI hI hR ++ wMi aH aM cyI mI mR)) (fun _ => rfl) (fun r4 u hp => ?_)
    replace hw := hp
    clear hp
    refine z_istore_n (lv' := [(3, .int r4), (0, .ref (aM 0)), (1, .int x1), (2, .int x2)]) F dX2_happens_19 20 rfl (by decide) rfl ?_
    refine z_aload_n F dX2_happens_20 21 rfl 1 rfl ?_
    refine z_aload_n F dX2_happens_21 22 rfl 1 rfl ?_
    refine z_get F dX2_happens_22 25 rfl kX2_happens_9 12 rfl rfl ?_
    refine z_iload_n F dX2_happens_25 26 rfl 0 rfl ?_
    refine z_callSi (As := [.ref (aM 1), .int r4]) (st := [.ref (aM 0)]) F dX2_happens_26 29 rfl (mX2_union C.1.2.1 D cyI cyB (aM 1) r4 (mR 0) hw) y_X2_union rfl gX2_happens_X2_union ⟨Nat.le_of_ble_eq_true rfl, Nat.le_of_ble_eq_true rfl⟩ ⟨Nat.zero_le _, Nat.zero_le _⟩ (Nat.le_of_ble_eq_true rfl) [13] (by decide) rfl (fun _ => rfl) (fun u => (wHo aH cyI hI hR ++ wMi aH aM cyI mI mR)) (fun _ => rfl) (fun r5 u hp => ?_)
    replace hw := hp
    clear hp
    refine z_aload_n F dX2_happens_29 30 rfl 1 rfl ?_
    refine z_get F dX2_happens_30 33 rfl kX2_happens_44 12 rfl rfl ?_
    refine z_ior F dX2_happens_33 34 rfl ?_
    refine z_segVi (As := [.int (r5 ||| (mI 3))]) (st := []) F dX2_happens_34 37 rfl (mX2_guessedFrom C.1.2.1 D cyI cyB aH aM (r5 ||| (mI 3)) hI hR mI mR hw) y_X2_guessedFrom rfl gX2_happens_X2_guessedFrom rfl (ci := 2) (rq := 12) rfl rfl ⟨Nat.le_of_ble_eq_true rfl, Nat.le_of_ble_eq_true rfl⟩ ⟨Nat.zero_le _, Nat.zero_le _⟩ (Nat.le_of_ble_eq_true rfl) [] [] (by simp only [List.append_assoc, List.nil_append, List.append_nil]) (fun _ => rfl) (fun u => (wHo aH cyI hI hR ++ wMi aH aM cyI mI mR)) (fun u => (by simp only [List.append_assoc, List.nil_append, List.append_nil])) (fun r6 u hp => ?_)
    replace hw := hp
    clear hp
    refine z_aload_n F dX2_happens_37 38 rfl 1 rfl ?_
    refine z_get F dX2_happens_38 41 rfl kX2_happens_41 12 rfl rfl ?_
    obtain ⟨hwt, hwf⟩ := hw
    refine z_icmpeq F dX2_happens_41 48 rfl 44 rfl (fun c3 => ?_) (fun c3 => ?_)
    · have hw := hwt c3; clear hwt hwf
      refine z_iconst F dX2_happens_48 49 rfl zki_0 ?_
      exact hRt 49 _ false () dX2_happens_49 ⟨false, rfl, hw⟩
    · have hw := hwf c3; clear hwt hwf
      refine z_iconst F dX2_happens_44 45 rfl zki_1 ?_
      refine z_goto F dX2_happens_45 49 rfl ?_
      exact hRt 49 _ true () dX2_happens_49 ⟨true, rfl, hw⟩
set_option maxHeartbeats 4000000 in
set_option maxRecDepth 100000 in
theorem mX2_happens (l : Launch) (D : va_G) (cyI cyB : ClassId) (aH : Nat → Nat) (aM : Nat → Nat) (x1 : Int32) (x2 : Int32) (hI : Nat → Int32) (hR : Nat → Nat → Int32) (mI : Nat → Int32) (mR : Nat → Nat → Int32) {post : Bool → Prop} (hw : pX2_happens x1 x2 hI hR mI mR post) : zMi l yX2_happens wsX2_happens 1 27 D cyI cyB [.ref (aM 0), .int x1, .int x2] (wHo aH cyI hI hR ++ wMi aH aM cyI mI mR) (S := (Unit)) (fun u => (wHo aH cyI hI hR ++ wMi aH aM cyI mI mR)) (fun r u => ∃ b : Bool, r = zb b ∧ post b ) :=
  z_metz (cc := cX2_happens) (nL := 4) (by decide +kernel) rfl (Nat.le_of_ble_eq_true rfl) (fun C hl F hRt => xX2_happens_0 x1 x2 hI hR mI mR F hRt hw)
theorem y_X2_happens : zY yX2_happens wsX2_happens cX2_happens 4 (some .boolean) 2 := ⟨⟨_, rfl⟩, by decide +kernel⟩
theorem iX2_canTell_2 : ∀ w ∈ wsX20, w ∈ wsX2_canTell := fun w h => List.mem_cons_of_mem _ (List.mem_append_left _ (List.mem_append_right _ h))
theorem kX2_canTell_9 : zL wsX2_canTell RX2 9 2 1 (.array .int) true := zL2 iX2_canTell_2 (by decide) (List.mem_of_getElem? (i := 2) rfl) rfl rfl
theorem kX2_canTell_47 : zL wsX2_canTell RX2 47 2 0 (.object "StillRoom$House") true := zL2 iX2_canTell_2 (by decide) (List.mem_of_getElem? (i := 1) rfl) rfl rfl
set_option maxHeartbeats 4000000 in
set_option maxRecDepth 100000 in
theorem xX2_canTell_0 {C : zC} {D : va_G} {cyI cyB : ClassId} {aH : Nat → Nat} {aM : Nat → Nat} (x1 : Int32) (hI : Nat → Int32) (hR : Nat → Nat → Int32) (mI : Nat → Int32) (mR : Nat → Nat → Int32) (F : zF C D { frames := 2, cells := 0, slots := 0, locals := 42 } cX2_canTell 4 wsX2_canTell RX2 (some .boolean) cyI cyB) {post : Bool → Prop} (hRt : zRz C D cX2_canTell 4 (S := (Unit)) (fun u => (wHo aH cyI hI hR ++ wMi aH aM cyI mI mR)) (fun r u => ∃ b : Bool, r = zb b ∧ post b )) (hw : pX2_canTell x1 hI hR mI mR post) : zX C D 4 0 0 (wHo aH cyI hI hR ++ wMi aH aM cyI mI mR) 0 [(0, .ref (aM 0)), (1, .int x1)] [] := by
  refine z_iload_n F dX2_canTell_0 1 rfl 1 rfl ?_
  refine z_bipush F dX2_canTell_1 3 rfl zkb_10 ?_
  refine z_idiv F dX2_canTell_3 4 rfl (by decide) ?_
  refine z_topi (fun v1 ev1 => ?_)
  replace hw := hw v1 ev1
  refine z_istore_n (lv' := [(2, .int v1), (0, .ref (aM 0)), (1, .int x1)]) F dX2_canTell_4 5 rfl (by decide) rfl ?_
  refine z_iload_n F dX2_canTell_5 6 rfl 2 rfl ?_
  refine z_bipush F dX2_canTell_6 8 rfl zkb_10 ?_
  refine z_irem F dX2_canTell_8 9 rfl (by decide) ?_
  refine z_topi (fun v2 ev2 => ?_)
  replace hw := hw v2 ev2
  refine z_istore_n (lv' := [(3, .int v2), (2, .int v1), (0, .ref (aM 0)), (1, .int x1)]) F dX2_canTell_9 10 rfl (by decide) rfl ?_
  refine z_aload_n F dX2_canTell_10 11 rfl 2 rfl ?_
  refine z_iload_n F dX2_canTell_11 12 rfl 1 rfl ?_
  refine z_segVi (As := [.int v1]) (st := []) F dX2_canTell_12 15 rfl (mX2_isHere C.1.2.1 D cyI cyB aH aM v1 hI hR mI mR hw) y_X2_isHere rfl gX2_canTell_X2_isHere rfl (ci := 2) (rq := 12) rfl rfl ⟨Nat.le_of_ble_eq_true rfl, Nat.le_of_ble_eq_true rfl⟩ ⟨Nat.zero_le _, Nat.zero_le _⟩ (Nat.le_of_ble_eq_true rfl) [] [] (by simp only [List.append_assoc, List.nil_append, List.append_nil]) (fun _ => rfl) (fun u => (wHo aH cyI hI hR ++ wMi aH aM cyI mI mR)) (fun u => (by simp only [List.append_assoc, List.nil_append, List.append_nil])) (fun r0 u hp => ?_)
  obtain ⟨b1, rfl, hw⟩ := hp
  obtain ⟨hwt, hwf⟩ := hw
  refine z_ifeqB F dX2_canTell_15 46 rfl 18 rfl (fun c1 => ?_) (fun c1 => ?_)
  · have hw := hwt c1; clear hwt hwf
    refine z_iconst F dX2_canTell_46 47 rfl zki_0 ?_
    exact hRt 47 _ false () dX2_canTell_47 ⟨false, rfl, hw⟩
  · have hw := hwf c1; clear hwt hwf
    refine z_aload_n F dX2_canTell_18 19 rfl 2 rfl ?_
    refine z_get F dX2_canTell_19 22 rfl kX2_canTell_47 12 rfl rfl ?_
    refine z_iload_n F dX2_canTell_22 23 rfl 0 rfl ?_
    refine z_segVi (As := [.int v2]) (st := []) F dX2_canTell_23 26 rfl (mX1_isStep C.1.2.1 D cyI cyB aH v2 hI hR hw) y_X1_isStep rfl gX2_canTell_X1_isStep rfl (ci := 1) (rq := 0) rfl rfl ⟨Nat.le_of_ble_eq_true rfl, Nat.le_of_ble_eq_true rfl⟩ ⟨Nat.zero_le _, Nat.zero_le _⟩ (Nat.le_of_ble_eq_true rfl) [] (wMi aH aM cyI mI mR) (by simp only [List.append_assoc, List.nil_append, List.append_nil]) (fun _ => rfl) (fun u => (wHo aH cyI hI hR ++ wMi aH aM cyI mI mR)) (fun u => (by simp only [List.append_assoc, List.nil_append, List.append_nil])) (fun r0 u hp => ?_)
    obtain ⟨b2, rfl, hw⟩ := hp
    obtain ⟨hwt, hwf⟩ := hw
    refine z_ifeqB F dX2_canTell_26 46 rfl 29 rfl (fun c2 => ?_) (fun c2 => ?_)
    · have hw := hwt c2; clear hwt hwf
      refine z_iconst F dX2_canTell_46 47 rfl zki_0 ?_
      exact hRt 47 _ false () dX2_canTell_47 ⟨false, rfl, hw⟩
    · have hw := hwf c2; clear hwt hwf
      refine z_aload_n F dX2_canTell_29 30 rfl 2 rfl ?_
      refine z_get F dX2_canTell_30 33 rfl kX2_canTell_9 12 rfl rfl ?_
      refine z_iload_n F dX2_canTell_33 34 rfl 1 rfl ?_
      obtain ⟨j1, ej1, hj1, hw⟩ := hw
      refine z_iald F dX2_canTell_34 35 rfl 13 rfl (by decide) j1 ej1 hj1 ?_
      refine z_iload_n F dX2_canTell_35 36 rfl 0 rfl ?_
      refine z_callSNi (As := [.int ((mR 0) j1), .int v2]) (st := []) F dX2_canTell_36 39 rfl (mX5_contains C.1.2.1 D cyI cyB ((mR 0) j1) v2 hw) y_X5_contains rfl gX2_canTell_X5_contains_n92 F.2.2.1.2.2.2.2.2.1 (List.mem_of_getElem? (i := 10) rfl) (List.mem_of_getElem? (i := 9) rfl) ⟨Nat.le_of_ble_eq_true rfl, Nat.le_of_ble_eq_true rfl⟩ ⟨Nat.zero_le _, Nat.zero_le _⟩ (Nat.le_of_ble_eq_true rfl) [] (by decide) rfl (fun _ => rfl) (fun u => (wHo aH cyI hI hR ++ wMi aH aM cyI mI mR)) (fun _ => rfl) (fun r0 u hp => ?_)
      obtain ⟨b3, rfl, hw⟩ := hp
      obtain ⟨hwt, hwf⟩ := hw
      refine z_ifneB F dX2_canTell_39 46 rfl 42 rfl (fun c3 => ?_) (fun c3 => ?_)
      · have hw := hwt c3; clear hwt hwf
        refine z_iconst F dX2_canTell_46 47 rfl zki_0 ?_
        exact hRt 47 _ false () dX2_canTell_47 ⟨false, rfl, hw⟩
      · have hw := hwf c3; clear hwt hwf
        refine z_iconst F dX2_canTell_42 43 rfl zki_1 ?_
        refine z_goto F dX2_canTell_43 47 rfl ?_
        exact hRt 47 _ true () dX2_canTell_47 ⟨true, rfl, hw⟩
set_option maxHeartbeats 4000000 in
set_option maxRecDepth 100000 in
theorem mX2_canTell (l : Launch) (D : va_G) (cyI cyB : ClassId) (aH : Nat → Nat) (aM : Nat → Nat) (x1 : Int32) (hI : Nat → Int32) (hR : Nat → Nat → Int32) (mI : Nat → Int32) (mR : Nat → Nat → Int32) {post : Bool → Prop} (hw : pX2_canTell x1 hI hR mI mR post) : zMi l yX2_canTell wsX2_canTell 2 42 D cyI cyB [.ref (aM 0), .int x1] (wHo aH cyI hI hR ++ wMi aH aM cyI mI mR) (S := (Unit)) (fun u => (wHo aH cyI hI hR ++ wMi aH aM cyI mI mR)) (fun r u => ∃ b : Bool, r = zb b ∧ post b ) :=
  z_metz (cc := cX2_canTell) (nL := 4) (by decide +kernel) rfl (Nat.le_of_ble_eq_true rfl) (fun C hl F hRt => xX2_canTell_0 x1 hI hR mI mR F hRt hw)
theorem y_X2_canTell : zY yX2_canTell wsX2_canTell cX2_canTell 4 (some .boolean) 1 := ⟨⟨_, rfl⟩, by decide +kernel⟩
theorem iX2_isGiven_1 : ∀ w ∈ wsX10, w ∈ wsX2_isGiven := fun w h => List.mem_cons_of_mem _ (List.mem_append_right _ h)
theorem iX2_isGiven_2 : ∀ w ∈ wsX20, w ∈ wsX2_isGiven := fun w h => List.mem_cons_of_mem _ (List.mem_append_left _ (List.mem_append_right _ h))
theorem kX2_isGiven_47 : zL wsX2_isGiven RX2 47 2 0 (.object "StillRoom$House") true := zL2 iX2_isGiven_2 (by decide) (List.mem_of_getElem? (i := 1) rfl) rfl rfl
theorem kX2_isGiven_151 : zL wsX2_isGiven RX2 151 1 5 .int false := zL1 iX2_isGiven_1 (by decide) (List.mem_of_getElem? (i := 2) rfl) rfl rfl
set_option maxHeartbeats 4000000 in
set_option maxRecDepth 100000 in
theorem xX2_isGiven_36 {C : zC} {D : va_G} {cyI cyB : ClassId} {aH : Nat → Nat} {aM : Nat → Nat} (x2 : Int32) (x3 : Int32) (s0 : Int32) (hI : Nat → Int32) (hR : Nat → Nat → Int32) (mI : Nat → Int32) (mR : Nat → Nat → Int32) (F : zF C D { frames := 1, cells := 0, slots := 0, locals := 22 } cX2_isGiven 5 wsX2_isGiven RX2 (some .boolean) cyI cyB) {post : Bool → Prop} (hRt : zRz C D cX2_isGiven 5 (S := (Unit)) (fun u => (wHo aH cyI hI hR ++ wMi aH aM cyI mI mR)) (fun r u => ∃ b : Bool, r = zb b ∧ post b )) (hw : bX2_isGiven_36 x2 x3 s0 hI hR mI mR post ) : zX C D 5 0 0 (wHo aH cyI hI hR ++ wMi aH aM cyI mI mR) 36 [(2, .int x2), (3, .int x3)] [.int s0] := by
  refine z_iload_n F dX2_isGiven_36 37 rfl 0 rfl ?_
  refine z_iload_n F dX2_isGiven_37 38 rfl 1 rfl ?_
  refine z_iconst F dX2_isGiven_38 39 rfl zki_2 ?_
  refine z_idiv F dX2_isGiven_39 40 rfl (by decide) ?_
  obtain ⟨hwt, hwf⟩ := hw
  refine z_icmpge F dX2_isGiven_40 47 rfl 43 rfl (fun c6 => ?_) (fun c6 => ?_)
  · have hw := hwt c6; clear hwt hwf
    refine z_iconst F dX2_isGiven_47 48 rfl zki_0 ?_
    obtain ⟨hwt, hwf⟩ := hw
    refine z_icmpne F dX2_isGiven_48 55 rfl 51 rfl (fun c7 => ?_) (fun c7 => ?_)
    · have hw := hwt c7; clear hwt hwf
      refine z_iconst F dX2_isGiven_55 56 rfl zki_0 ?_
      exact hRt 56 _ false () dX2_isGiven_56 ⟨false, rfl, hw⟩
    · have hw := hwf c7; clear hwt hwf
      refine z_iconst F dX2_isGiven_51 52 rfl zki_1 ?_
      refine z_goto F dX2_isGiven_52 56 rfl ?_
      exact hRt 56 _ true () dX2_isGiven_56 ⟨true, rfl, hw⟩
  · have hw := hwf c6; clear hwt hwf
    refine z_iconst F dX2_isGiven_43 44 rfl zki_1 ?_
    refine z_goto F dX2_isGiven_44 48 rfl ?_
    obtain ⟨hwt, hwf⟩ := hw
    refine z_icmpne F dX2_isGiven_48 55 rfl 51 rfl (fun c8 => ?_) (fun c8 => ?_)
    · have hw := hwt c8; clear hwt hwf
      refine z_iconst F dX2_isGiven_55 56 rfl zki_0 ?_
      exact hRt 56 _ false () dX2_isGiven_56 ⟨false, rfl, hw⟩
    · have hw := hwf c8; clear hwt hwf
      refine z_iconst F dX2_isGiven_51 52 rfl zki_1 ?_
      refine z_goto F dX2_isGiven_52 56 rfl ?_
      exact hRt 56 _ true () dX2_isGiven_56 ⟨true, rfl, hw⟩
set_option maxHeartbeats 4000000 in
set_option maxRecDepth 100000 in
theorem xX2_isGiven_0 {C : zC} {D : va_G} {cyI cyB : ClassId} {aH : Nat → Nat} {aM : Nat → Nat} (x1 : Int32) (x2 : Int32) (x3 : Int32) (x4 : Int32) (hI : Nat → Int32) (hR : Nat → Nat → Int32) (mI : Nat → Int32) (mR : Nat → Nat → Int32) (F : zF C D { frames := 1, cells := 0, slots := 0, locals := 22 } cX2_isGiven 5 wsX2_isGiven RX2 (some .boolean) cyI cyB) {post : Bool → Prop} (hRt : zRz C D cX2_isGiven 5 (S := (Unit)) (fun u => (wHo aH cyI hI hR ++ wMi aH aM cyI mI mR)) (fun r u => ∃ b : Bool, r = zb b ∧ post b )) (hw : pX2_isGiven x1 x2 x3 x4 hI hR mI mR post) : zX C D 5 0 0 (wHo aH cyI hI hR ++ wMi aH aM cyI mI mR) 0 [(0, .ref (aM 0)), (1, .int x1), (2, .int x2), (3, .int x3), (4, .int x4)] [] := by
  refine z_iload F dX2_isGiven_0 2 rfl 4 rfl ?_
  obtain ⟨hwt, hwf⟩ := hw
  refine z_ifeq F dX2_isGiven_2 10 rfl 5 rfl (fun c1 => ?_) (fun c1 => ?_)
  · have hw := hwt c1; clear hwt hwf
    refine z_iconst F dX2_isGiven_10 11 rfl zki_1 ?_
    exact hRt 11 _ true () dX2_isGiven_11 ⟨true, rfl, hw⟩
  · have hw := hwf c1; clear hwt hwf
    refine z_iload_n F dX2_isGiven_5 6 rfl 3 rfl ?_
    refine z_iconst F dX2_isGiven_6 7 rfl zki_1 ?_
    obtain ⟨hwt, hwf⟩ := hw
    refine z_icmpge F dX2_isGiven_7 12 rfl 10 rfl (fun c2 => ?_) (fun c2 => ?_)
    · have hw := hwt c2; clear hwt hwf
      refine z_iload F dX2_isGiven_12 14 rfl 4 rfl ?_
      refine z_iconst F dX2_isGiven_14 15 rfl zki_4 ?_
      obtain ⟨hwt, hwf⟩ := hw
      refine z_icmpne F dX2_isGiven_15 57 rfl 18 rfl (fun c3 => ?_) (fun c3 => ?_)
      · have hw := hwt c3; clear hwt hwf
        refine z_iload_n F dX2_isGiven_57 58 rfl 2 rfl ?_
        refine z_iload_n F dX2_isGiven_58 59 rfl 1 rfl ?_
        refine z_isub F dX2_isGiven_59 60 rfl ?_
        refine z_iload_n F dX2_isGiven_60 61 rfl 3 rfl ?_
        refine z_callSi (As := [.int (x2 - x1), .int x3]) (st := []) F dX2_isGiven_61 64 rfl (mJ9_floorMod_7cf53 C.1.2.1 D cyI cyB (x2 - x1) x3 hw) y_J9_floorMod_7cf53 rfl gX2_isGiven_J9_floorMod_7cf53 ⟨Nat.le_of_ble_eq_true rfl, Nat.le_of_ble_eq_true rfl⟩ ⟨Nat.zero_le _, Nat.zero_le _⟩ (Nat.le_of_ble_eq_true rfl) [] (by decide) rfl (fun _ => rfl) (fun u => (wHo aH cyI hI hR ++ wMi aH aM cyI mI mR)) (fun _ => rfl) (fun r1 u hp => ?_)
        replace hw := hp
        clear hp
        refine z_iload F dX2_isGiven_64 66 rfl 4 rfl ?_
        obtain ⟨hwt, hwf⟩ := hw
        refine z_icmpge F dX2_isGiven_66 73 rfl 69 rfl (fun c4 => ?_) (fun c4 => ?_)
        · have hw := hwt c4; clear hwt hwf
          refine z_iconst F dX2_isGiven_73 74 rfl zki_0 ?_
          exact hRt 74 _ false () dX2_isGiven_74 ⟨false, rfl, hw⟩
        · have hw := hwf c4; clear hwt hwf
          refine z_iconst F dX2_isGiven_69 70 rfl zki_1 ?_
          refine z_goto F dX2_isGiven_70 74 rfl ?_
          exact hRt 74 _ true () dX2_isGiven_74 ⟨true, rfl, hw⟩
      · have hw := hwf c3; clear hwt hwf
        refine z_iload_n F dX2_isGiven_18 19 rfl 1 rfl ?_
        refine z_aload_n F dX2_isGiven_19 20 rfl 0 rfl ?_
        refine z_get F dX2_isGiven_20 23 rfl kX2_isGiven_47 12 rfl rfl ?_
        refine z_get F dX2_isGiven_23 26 rfl kX2_isGiven_151 0 rfl rfl ?_
        refine z_iconst F dX2_isGiven_26 27 rfl zki_2 ?_
        refine z_idiv F dX2_isGiven_27 28 rfl (by decide) ?_
        obtain ⟨hwt, hwf⟩ := hw
        refine z_icmpge F dX2_isGiven_28 35 rfl 31 rfl (fun c5 => ?_) (fun c5 => ?_)
        · have hw := hwt c5; clear hwt hwf
          refine z_iconst F dX2_isGiven_35 36 rfl zki_0 ?_
          refine z_lv (lv' := [(2, .int x2), (3, .int x3)]) [2, 3] rfl ?_
          exact xX2_isGiven_36 x2 x3 0 hI hR mI mR F hRt hw
        · have hw := hwf c5; clear hwt hwf
          refine z_iconst F dX2_isGiven_31 32 rfl zki_1 ?_
          refine z_goto F dX2_isGiven_32 36 rfl ?_
          refine z_lv (lv' := [(2, .int x2), (3, .int x3)]) [2, 3] rfl ?_
          exact xX2_isGiven_36 x2 x3 1 hI hR mI mR F hRt hw
    · have hw := hwf c2; clear hwt hwf
      refine z_iconst F dX2_isGiven_10 11 rfl zki_1 ?_
      exact hRt 11 _ true () dX2_isGiven_11 ⟨true, rfl, hw⟩
set_option maxHeartbeats 4000000 in
set_option maxRecDepth 100000 in
theorem mX2_isGiven (l : Launch) (D : va_G) (cyI cyB : ClassId) (aH : Nat → Nat) (aM : Nat → Nat) (x1 : Int32) (x2 : Int32) (x3 : Int32) (x4 : Int32) (hI : Nat → Int32) (hR : Nat → Nat → Int32) (mI : Nat → Int32) (mR : Nat → Nat → Int32) {post : Bool → Prop} (hw : pX2_isGiven x1 x2 x3 x4 hI hR mI mR post) : zMi l yX2_isGiven wsX2_isGiven 1 22 D cyI cyB [.ref (aM 0), .int x1, .int x2, .int x3, .int x4] (wHo aH cyI hI hR ++ wMi aH aM cyI mI mR) (S := (Unit)) (fun u => (wHo aH cyI hI hR ++ wMi aH aM cyI mI mR)) (fun r u => ∃ b : Bool, r = zb b ∧ post b ) :=
  z_metz (cc := cX2_isGiven) (nL := 5) (by decide +kernel) rfl (Nat.le_of_ble_eq_true rfl) (fun C hl F hRt => xX2_isGiven_0 x1 x2 x3 x4 hI hR mI mR F hRt hw)
theorem y_X2_isGiven : zY yX2_isGiven wsX2_isGiven cX2_isGiven 5 (some .boolean) 4 := ⟨⟨_, rfl⟩, by decide +kernel⟩
theorem iX2_givenTo_1 : ∀ w ∈ wsX10, w ∈ wsX2_givenTo := fun w h => List.mem_cons_of_mem _ (List.mem_append_right _ h)
theorem iX2_givenTo_2 : ∀ w ∈ wsX20, w ∈ wsX2_givenTo := fun w h => List.mem_cons_of_mem _ (List.mem_append_left _ (List.mem_append_right _ h))
theorem kX2_givenTo_47 : zL wsX2_givenTo RX2 47 2 0 (.object "StillRoom$House") true := zL2 iX2_givenTo_2 (by decide) (List.mem_of_getElem? (i := 1) rfl) rfl rfl
theorem kX2_givenTo_151 : zL wsX2_givenTo RX2 151 1 5 .int false := zL1 iX2_givenTo_1 (by decide) (List.mem_of_getElem? (i := 2) rfl) rfl rfl
set_option maxHeartbeats 4000000 in
set_option maxRecDepth 100000 in
theorem xX2_givenTo_6 {C : zC} {D : va_G} {cyI cyB : ClassId} {aH : Nat → Nat} {aM : Nat → Nat} (x1 : Int32) (x2 : Int32) (x3 : Int32) (hI : Nat → Int32) (hR : Nat → Nat → Int32) (mI : Nat → Int32) (mR : Nat → Nat → Int32) (F : zF C D { frames := 2, cells := 0, slots := 0, locals := 46 } cX2_givenTo 6 wsX2_givenTo RX2 (some .int) cyI cyB) {post : Int32 → Prop} (hRt : zRi C D cX2_givenTo 6 (S := (Unit)) (fun u => (wHo aH cyI hI hR ++ wMi aH aM cyI mI mR)) (fun r u => post r )) : ∀ (n : Nat) (x4 : Int32) (x5 : Int32), bX2_givenTo_6 x1 x2 x3 hI hR mI mR post  n x4 x5 → zX C D 6 0 0 (wHo aH cyI hI hR ++ wMi aH aM cyI mI mR) 6 [(0, .ref (aM 0)), (1, .int x1), (2, .int x2), (3, .int x3), (4, .int x4), (5, .int x5)] [] := by
  intro n
  induction n with
  | zero => intro _ _ hw; exact hw.elim
  | succ n ih =>
    intro x4 x5 hw
    refine z_iload F dX2_givenTo_6 8 rfl 5 rfl ?_
    refine z_aload_n F dX2_givenTo_8 9 rfl 0 rfl ?_
    refine z_get F dX2_givenTo_9 12 rfl kX2_givenTo_47 12 rfl rfl ?_
    refine z_get F dX2_givenTo_12 15 rfl kX2_givenTo_151 0 rfl rfl ?_
    obtain ⟨hwt, hwf⟩ := hw
    refine z_icmpge F dX2_givenTo_15 45 rfl 18 rfl (fun c1 => ?_) (fun c1 => ?_)
    · have hw := hwt c1; clear hwt hwf
      refine z_iload F dX2_givenTo_45 47 rfl 4 rfl ?_
      exact hRt 47 _ x4 () dX2_givenTo_47 hw
    · have hw := hwf c1; clear hwt hwf
      refine z_aload_n F dX2_givenTo_18 19 rfl 0 rfl ?_
      refine z_iload F dX2_givenTo_19 21 rfl 5 rfl ?_
      refine z_iload_n F dX2_givenTo_21 22 rfl 1 rfl ?_
      refine z_iload_n F dX2_givenTo_22 23 rfl 2 rfl ?_
      refine z_iload_n F dX2_givenTo_23 24 rfl 3 rfl ?_
      refine z_segVi (As := [.int x5, .int x1, .int x2, .int x3]) (st := []) F dX2_givenTo_24 27 rfl (mX2_isGiven C.1.2.1 D cyI cyB aH aM x5 x1 x2 x3 hI hR mI mR hw) y_X2_isGiven rfl gX2_givenTo_X2_isGiven rfl (ci := 2) (rq := 12) rfl rfl ⟨Nat.le_of_ble_eq_true rfl, Nat.le_of_ble_eq_true rfl⟩ ⟨Nat.zero_le _, Nat.zero_le _⟩ (Nat.le_of_ble_eq_true rfl) [] [] (by simp only [List.append_assoc, List.nil_append, List.append_nil]) (fun _ => rfl) (fun u => (wHo aH cyI hI hR ++ wMi aH aM cyI mI mR)) (fun u => (by simp only [List.append_assoc, List.nil_append, List.append_nil])) (fun r0 u hp => ?_)
      obtain ⟨b1, rfl, hw⟩ := hp
      obtain ⟨hwt, hwf⟩ := hw
      refine z_ifeqB F dX2_givenTo_27 39 rfl 30 rfl (fun c2 => ?_) (fun c2 => ?_)
      · have hw := hwt c2; clear hwt hwf
        refine z_iinc F dX2_givenTo_39 42 rfl 5 rfl (by decide) zki_1 (fun v1 => [(5, .int v1), (0, .ref (aM 0)), (1, .int x1), (2, .int x2), (3, .int x3), (4, .int x4)]) (fun _ => rfl) (fun v1 ev1 => ?_)
        replace hw := hw v1 ev1
        refine z_goto F dX2_givenTo_42 6 rfl ?_
        refine z_lv (lv' := [(0, .ref (aM 0)), (1, .int x1), (2, .int x2), (3, .int x3), (4, .int x4), (5, .int v1)]) [1, 2, 3, 4, 5, 0] rfl ?_
        exact ih x4 v1 hw
      · have hw := hwf c2; clear hwt hwf
        refine z_iload F dX2_givenTo_30 32 rfl 4 rfl ?_
        refine z_iconst F dX2_givenTo_32 33 rfl zki_1 ?_
        refine z_iload F dX2_givenTo_33 35 rfl 5 rfl ?_
        refine z_ishl F dX2_givenTo_35 36 rfl ?_
        refine z_ior F dX2_givenTo_36 37 rfl ?_
        refine z_topi (fun v2 ev2 => ?_)
        replace hw := hw v2 ev2
        refine z_istore (lv' := [(4, .int v2), (0, .ref (aM 0)), (1, .int x1), (2, .int x2), (3, .int x3), (5, .int x5)]) F dX2_givenTo_37 39 rfl (by decide) rfl ?_
        refine z_iinc F dX2_givenTo_39 42 rfl 5 rfl (by decide) zki_1 (fun v3 => [(5, .int v3), (4, .int v2), (0, .ref (aM 0)), (1, .int x1), (2, .int x2), (3, .int x3)]) (fun _ => rfl) (fun v3 ev3 => ?_)
        replace hw := hw v3 ev3
        refine z_goto F dX2_givenTo_42 6 rfl ?_
        refine z_lv (lv' := [(0, .ref (aM 0)), (1, .int x1), (2, .int x2), (3, .int x3), (4, .int v2), (5, .int v3)]) [2, 3, 4, 5, 1, 0] rfl ?_
        exact ih v2 v3 hw
set_option maxHeartbeats 4000000 in
set_option maxRecDepth 100000 in
theorem xX2_givenTo_0 {C : zC} {D : va_G} {cyI cyB : ClassId} {aH : Nat → Nat} {aM : Nat → Nat} (x1 : Int32) (x2 : Int32) (x3 : Int32) (hI : Nat → Int32) (hR : Nat → Nat → Int32) (mI : Nat → Int32) (mR : Nat → Nat → Int32) (F : zF C D { frames := 2, cells := 0, slots := 0, locals := 46 } cX2_givenTo 6 wsX2_givenTo RX2 (some .int) cyI cyB) {post : Int32 → Prop} (hRt : zRi C D cX2_givenTo 6 (S := (Unit)) (fun u => (wHo aH cyI hI hR ++ wMi aH aM cyI mI mR)) (fun r u => post r )) (hw : pX2_givenTo x1 x2 x3 hI hR mI mR post) : zX C D 6 0 0 (wHo aH cyI hI hR ++ wMi aH aM cyI mI mR) 0 [(0, .ref (aM 0)), (1, .int x1), (2, .int x2), (3, .int x3)] [] := by
  refine z_iconst F dX2_givenTo_0 1 rfl zki_0 ?_
  refine z_istore (lv' := [(4, .int 0), (0, .ref (aM 0)), (1, .int x1), (2, .int x2), (3, .int x3)]) F dX2_givenTo_1 3 rfl (by decide) rfl ?_
  refine z_iconst F dX2_givenTo_3 4 rfl zki_0 ?_
  refine z_istore (lv' := [(5, .int 0), (4, .int 0), (0, .ref (aM 0)), (1, .int x1), (2, .int x2), (3, .int x3)]) F dX2_givenTo_4 6 rfl (by decide) rfl ?_
  obtain ⟨n1, hw⟩ := hw
  refine z_lv (lv' := [(0, .ref (aM 0)), (1, .int x1), (2, .int x2), (3, .int x3), (4, .int 0), (5, .int 0)]) [2, 3, 4, 5, 1, 0] rfl ?_
  refine xX2_givenTo_6 x1 x2 x3 hI hR mI mR F hRt n1 0 0 hw
set_option maxHeartbeats 4000000 in
set_option maxRecDepth 100000 in
theorem mX2_givenTo (l : Launch) (D : va_G) (cyI cyB : ClassId) (aH : Nat → Nat) (aM : Nat → Nat) (x1 : Int32) (x2 : Int32) (x3 : Int32) (hI : Nat → Int32) (hR : Nat → Nat → Int32) (mI : Nat → Int32) (mR : Nat → Nat → Int32) {post : Int32 → Prop} (hw : pX2_givenTo x1 x2 x3 hI hR mI mR post) : zMi l yX2_givenTo wsX2_givenTo 2 46 D cyI cyB [.ref (aM 0), .int x1, .int x2, .int x3] (wHo aH cyI hI hR ++ wMi aH aM cyI mI mR) (S := (Unit)) (fun u => (wHo aH cyI hI hR ++ wMi aH aM cyI mI mR)) (fun r u => post r ) :=
  z_meti (cc := cX2_givenTo) (nL := 6) (by decide +kernel) rfl (Nat.le_of_ble_eq_true rfl) (fun C hl F hRt => xX2_givenTo_0 x1 x2 x3 hI hR mI mR F hRt hw)
theorem y_X2_givenTo : zY yX2_givenTo wsX2_givenTo cX2_givenTo 6 (some .int) 3 := ⟨⟨_, rfl⟩, by decide +kernel⟩
theorem iX2_join_1 : ∀ w ∈ wsX10, w ∈ wsX2_join := fun w h => List.mem_cons_of_mem _ (List.mem_append_left _ (List.mem_append_right _ h))
theorem iX2_join_2 : ∀ w ∈ wsX20, w ∈ wsX2_join := fun w h => List.mem_cons_of_mem _ (List.mem_append_left _ (List.mem_append_left _ (List.mem_append_right _ h)))
theorem iX2_join_3 : ∀ w ∈ wsX30, w ∈ wsX2_join := fun w h => List.mem_cons_of_mem _ (List.mem_append_right _ h)
theorem kX2_join_15 : zL wsX2_join RX2 15 2 2 (.array .int) true := zL2 iX2_join_2 (by decide) (List.mem_of_getElem? (i := 1) rfl) rfl rfl
theorem kX2_join_47 : zL wsX2_join RX2 47 2 0 (.object "StillRoom$House") true := zL2 iX2_join_2 (by decide) (List.mem_of_getElem? (i := 2) rfl) rfl rfl
theorem kX2_join_77 : zL wsX2_join RX2 77 1 3 (.object "StillRoom$Pairs") true := zL1 iX2_join_1 (by decide) (List.mem_of_getElem? (i := 3) rfl) rfl rfl
theorem kX2_join_81 : zL wsX2_join RX2 81 3 2 .int false := zL3 iX2_join_3 (by decide) (List.mem_of_getElem? (i := 4) rfl) rfl rfl
theorem kX2_join_86 : zL wsX2_join RX2 86 3 0 (.array .int) true := zL3 iX2_join_3 (by decide) (List.mem_of_getElem? (i := 5) rfl) rfl rfl
theorem kX2_join_89 : zL wsX2_join RX2 89 3 1 (.array .int) true := zL3 iX2_join_3 (by decide) (List.mem_of_getElem? (i := 6) rfl) rfl rfl
set_option maxHeartbeats 4000000 in
set_option maxRecDepth 100000 in
theorem xX2_join_2 {C : zC} {D : va_G} {cyI cyB : ClassId} {aH : Nat → Nat} {aM : Nat → Nat} (hI : Nat → Int32) (hR : Nat → Nat → Int32) (F : zF C D { frames := 1, cells := 0, slots := 0, locals := 21 } cX2_join 4 wsX2_join RX2 none cyI cyB) {post : (Nat → Int32) → (Nat → Nat → Int32) → Prop} (hRt : zRv C D cX2_join 4 (S := ((Nat → Int32) × (Nat → Nat → Int32))) (fun u => (wHo aH cyI hI hR ++ wMi aH aM cyI u.1 u.2)) (fun u => post u.1 u.2)) {k23 : (Nat → Int32) → (Nat → Nat → Int32) → Prop} (hk23 : ∀ (mI : Nat → Int32) (mR : Nat → Nat → Int32), k23 mI mR → zX C D 4 0 0 (wHo aH cyI hI hR ++ wMi aH aM cyI mI mR) 23 [(0, .ref (aM 0))] []) : ∀ (n : Nat) (x1 : Int32) (mI : Nat → Int32) (mR : Nat → Nat → Int32), bX2_join_2 hI hR post k23  n x1 mI mR → zX C D 4 0 0 (wHo aH cyI hI hR ++ wMi aH aM cyI mI mR) 2 [(0, .ref (aM 0)), (1, .int x1)] [] := by
  intro n
  induction n with
  | zero => intro _ _ _ hw; exact hw.elim
  | succ n ih =>
    intro x1 mI mR hw
    refine z_iload_n F dX2_join_2 3 rfl 1 rfl ?_
    refine z_bipush F dX2_join_3 5 rfl zkb_8 ?_
    obtain ⟨hwt, hwf⟩ := hw
    refine z_icmpge F dX2_join_5 23 rfl 8 rfl (fun c1 => ?_) (fun c1 => ?_)
    · have hw := hwt c1; clear hwt hwf
      refine z_lv (lv' := [(0, .ref (aM 0))]) [0] rfl ?_
      exact hk23 mI mR hw
    · have hw := hwf c1; clear hwt hwf
      refine z_aload_n F dX2_join_8 9 rfl 0 rfl ?_
      refine z_get F dX2_join_9 12 rfl kX2_join_15 12 rfl rfl ?_
      refine z_iload_n F dX2_join_12 13 rfl 1 rfl ?_
      refine z_iconst F dX2_join_13 14 rfl zki_1 ?_
      refine z_iload_n F dX2_join_14 15 rfl 1 rfl ?_
      refine z_ishl F dX2_join_15 16 rfl ?_
      refine z_topi (fun v1 ev1 => ?_)
      replace hw := hw v1 ev1
      obtain ⟨j1, ej1, hj1, hw⟩ := hw
      refine z_iast F dX2_join_16 17 rfl 14 rfl (by decide) j1 ej1 hj1 (wHo aH cyI hI hR ++ wMi aH aM cyI mI (va_up mR 1 (upd (mR 1) j1 v1))) rfl ?_
      refine z_iinc F dX2_join_17 20 rfl 1 rfl (by decide) zki_1 (fun v2 => [(1, .int v2), (0, .ref (aM 0))]) (fun _ => rfl) (fun v2 ev2 => ?_)
      replace hw := hw v2 ev2
      refine z_goto F dX2_join_20 2 rfl ?_
      refine z_lv (lv' := [(0, .ref (aM 0)), (1, .int v2)]) [1, 0] rfl ?_
      exact ih v2 mI (va_up mR 1 (upd (mR 1) j1 v1)) hw
set_option maxHeartbeats 4000000 in
set_option maxRecDepth 100000 in
theorem xX2_join_77 {C : zC} {D : va_G} {cyI cyB : ClassId} {aH : Nat → Nat} {aM : Nat → Nat} (x1 : Int32) (x2 : Int32) (hI : Nat → Int32) (hR : Nat → Nat → Int32) (F : zF C D { frames := 1, cells := 0, slots := 0, locals := 21 } cX2_join 4 wsX2_join RX2 none cyI cyB) {post : (Nat → Int32) → (Nat → Nat → Int32) → Prop} (hRt : zRv C D cX2_join 4 (S := ((Nat → Int32) × (Nat → Nat → Int32))) (fun u => (wHo aH cyI hI hR ++ wMi aH aM cyI u.1 u.2)) (fun u => post u.1 u.2)) {k104 : (Nat → Int32) → (Nat → Nat → Int32) → Prop} (hk104 : ∀ (mI : Nat → Int32) (mR : Nat → Nat → Int32), k104 mI mR → zX C D 4 0 0 (wHo aH cyI hI hR ++ wMi aH aM cyI mI mR) 104 [(0, .ref (aM 0)), (1, .int x1)] []) : ∀ (n : Nat) (x3 : Int32) (mI : Nat → Int32) (mR : Nat → Nat → Int32), bX2_join_77 x1 x2 hI hR post k104  n x3 mI mR → zX C D 4 0 0 (wHo aH cyI hI hR ++ wMi aH aM cyI mI mR) 77 [(0, .ref (aM 0)), (1, .int x1), (2, .int x2), (3, .int x3)] [] := by
  intro n
  induction n with
  | zero => intro _ _ _ hw; exact hw.elim
  | succ n ih =>
    intro x3 mI mR hw
    refine z_iload_n F dX2_join_77 78 rfl 3 rfl ?_
    refine z_bipush F dX2_join_78 80 rfl zkb_8 ?_
    obtain ⟨hwt, hwf⟩ := hw
    refine z_icmpge F dX2_join_80 104 rfl 83 rfl (fun c2 => ?_) (fun c2 => ?_)
    · have hw := hwt c2; clear hwt hwf
      refine z_lv (lv' := [(0, .ref (aM 0)), (1, .int x1)]) [0, 1] rfl ?_
      exact hk104 mI mR hw
    · have hw := hwf c2; clear hwt hwf
      refine z_iload_n F dX2_join_83 84 rfl 2 rfl ?_
      refine z_iload_n F dX2_join_84 85 rfl 3 rfl ?_
      refine z_callSNi (As := [.int x2, .int x3]) (st := []) F dX2_join_85 88 rfl (mX5_contains C.1.2.1 D cyI cyB x2 x3 hw) y_X5_contains rfl gX2_join_X5_contains_n92 F.2.2.1.2.2.2.2.2.1 (List.mem_of_getElem? (i := 8) rfl) (List.mem_of_getElem? (i := 7) rfl) ⟨Nat.le_of_ble_eq_true rfl, Nat.le_of_ble_eq_true rfl⟩ ⟨Nat.zero_le _, Nat.zero_le _⟩ (Nat.le_of_ble_eq_true rfl) [] (by decide) rfl (fun _ => rfl) (fun u => (wHo aH cyI hI hR ++ wMi aH aM cyI mI mR)) (fun _ => rfl) (fun r0 u hp => ?_)
      obtain ⟨b1, rfl, hw⟩ := hp
      obtain ⟨hwt, hwf⟩ := hw
      refine z_ifeqB F dX2_join_88 98 rfl 91 rfl (fun c3 => ?_) (fun c3 => ?_)
      · have hw := hwt c3; clear hwt hwf
        refine z_iinc F dX2_join_98 101 rfl 3 rfl (by decide) zki_1 (fun v2 => [(3, .int v2), (0, .ref (aM 0)), (1, .int x1), (2, .int x2)]) (fun _ => rfl) (fun v2 ev2 => ?_)
        replace hw := hw v2 ev2
        refine z_goto F dX2_join_101 77 rfl ?_
        refine z_lv (lv' := [(0, .ref (aM 0)), (1, .int x1), (2, .int x2), (3, .int v2)]) [1, 2, 3, 0] rfl ?_
        exact ih v2 mI mR hw
      · have hw := hwf c3; clear hwt hwf
        refine z_aload_n F dX2_join_91 92 rfl 0 rfl ?_
        refine z_get F dX2_join_92 95 rfl kX2_join_15 12 rfl rfl ?_
        refine z_iload_n F dX2_join_95 96 rfl 3 rfl ?_
        refine z_iload_n F dX2_join_96 97 rfl 2 rfl ?_
        obtain ⟨j4, ej4, hj4, hw⟩ := hw
        refine z_iast F dX2_join_97 98 rfl 14 rfl (by decide) j4 ej4 hj4 (wHo aH cyI hI hR ++ wMi aH aM cyI mI (va_up mR 1 (upd (mR 1) j4 x2))) rfl ?_
        refine z_iinc F dX2_join_98 101 rfl 3 rfl (by decide) zki_1 (fun v3 => [(3, .int v3), (0, .ref (aM 0)), (1, .int x1), (2, .int x2)]) (fun _ => rfl) (fun v3 ev3 => ?_)
        replace hw := hw v3 ev3
        refine z_goto F dX2_join_101 77 rfl ?_
        refine z_lv (lv' := [(0, .ref (aM 0)), (1, .int x1), (2, .int x2), (3, .int v3)]) [1, 2, 3, 0] rfl ?_
        exact ih v3 mI (va_up mR 1 (upd (mR 1) j4 x2)) hw
set_option maxHeartbeats 4000000 in
set_option maxRecDepth 100000 in
theorem xX2_join_25 {C : zC} {D : va_G} {cyI cyB : ClassId} {aH : Nat → Nat} {aM : Nat → Nat} (hI : Nat → Int32) (hR : Nat → Nat → Int32) (F : zF C D { frames := 1, cells := 0, slots := 0, locals := 21 } cX2_join 4 wsX2_join RX2 none cyI cyB) {post : (Nat → Int32) → (Nat → Nat → Int32) → Prop} (hRt : zRv C D cX2_join 4 (S := ((Nat → Int32) × (Nat → Nat → Int32))) (fun u => (wHo aH cyI hI hR ++ wMi aH aM cyI u.1 u.2)) (fun u => post u.1 u.2)) : ∀ (n : Nat) (x1 : Int32) (mI : Nat → Int32) (mR : Nat → Nat → Int32), bX2_join_25 hI hR post  n x1 mI mR → zX C D 4 0 0 (wHo aH cyI hI hR ++ wMi aH aM cyI mI mR) 25 [(0, .ref (aM 0)), (1, .int x1)] [] := by
  intro n
  induction n with
  | zero => intro _ _ _ hw; exact hw.elim
  | succ n ih =>
    intro x1 mI mR hw
    refine z_iload_n F dX2_join_25 26 rfl 1 rfl ?_
    refine z_aload_n F dX2_join_26 27 rfl 0 rfl ?_
    refine z_get F dX2_join_27 30 rfl kX2_join_47 12 rfl rfl ?_
    refine z_get F dX2_join_30 33 rfl kX2_join_77 0 rfl rfl ?_
    refine z_get F dX2_join_33 36 rfl kX2_join_81 6 rfl rfl ?_
    obtain ⟨hwt, hwf⟩ := hw
    refine z_icmpge F dX2_join_36 110 rfl 39 rfl (fun c1 => ?_) (fun c1 => ?_)
    · have hw := hwt c1; clear hwt hwf
      exact hRt 110 _ (mI, mR) dX2_join_110 hw
    · have hw := hwf c1; clear hwt hwf
      refine z_aload_n F dX2_join_39 40 rfl 0 rfl ?_
      refine z_get F dX2_join_40 43 rfl kX2_join_15 12 rfl rfl ?_
      refine z_aload_n F dX2_join_43 44 rfl 0 rfl ?_
      refine z_get F dX2_join_44 47 rfl kX2_join_47 12 rfl rfl ?_
      refine z_get F dX2_join_47 50 rfl kX2_join_77 0 rfl rfl ?_
      refine z_get F dX2_join_50 53 rfl kX2_join_86 6 rfl rfl ?_
      refine z_iload_n F dX2_join_53 54 rfl 1 rfl ?_
      obtain ⟨j1, ej1, hj1, hw⟩ := hw
      refine z_iald F dX2_join_54 55 rfl 7 rfl (by decide) j1 ej1 hj1 ?_
      obtain ⟨j2, ej2, hj2, hw⟩ := hw
      refine z_iald F dX2_join_55 56 rfl 14 rfl (by decide) j2 ej2 hj2 ?_
      refine z_aload_n F dX2_join_56 57 rfl 0 rfl ?_
      refine z_get F dX2_join_57 60 rfl kX2_join_15 12 rfl rfl ?_
      refine z_aload_n F dX2_join_60 61 rfl 0 rfl ?_
      refine z_get F dX2_join_61 64 rfl kX2_join_47 12 rfl rfl ?_
      refine z_get F dX2_join_64 67 rfl kX2_join_77 0 rfl rfl ?_
      refine z_get F dX2_join_67 70 rfl kX2_join_89 6 rfl rfl ?_
      refine z_iload_n F dX2_join_70 71 rfl 1 rfl ?_
      refine z_iald F dX2_join_71 72 rfl 8 rfl (by decide) j1 ej1 hj1 ?_
      obtain ⟨j3, ej3, hj3, hw⟩ := hw
      refine z_iald F dX2_join_72 73 rfl 14 rfl (by decide) j3 ej3 hj3 ?_
      refine z_ior F dX2_join_73 74 rfl ?_
      refine z_topi (fun v1 ev1 => ?_)
      replace hw := hw v1 ev1
      refine z_istore_n (lv' := [(2, .int v1), (0, .ref (aM 0)), (1, .int x1)]) F dX2_join_74 75 rfl (by decide) rfl ?_
      refine z_iconst F dX2_join_75 76 rfl zki_0 ?_
      refine z_istore_n (lv' := [(3, .int 0), (2, .int v1), (0, .ref (aM 0)), (1, .int x1)]) F dX2_join_76 77 rfl (by decide) rfl ?_
      obtain ⟨n2, hw⟩ := hw
      refine z_lv (lv' := [(0, .ref (aM 0)), (1, .int x1), (2, .int v1), (3, .int 0)]) [2, 3, 1, 0] rfl ?_
      refine xX2_join_77 x1 v1 hI hR F hRt (fun mI_2 mR_2 hw => ?_) n2 0 mI mR hw
      refine z_iinc F dX2_join_104 107 rfl 1 rfl (by decide) zki_1 (fun v2 => [(1, .int v2), (0, .ref (aM 0))]) (fun _ => rfl) (fun v2 ev2 => ?_)
      replace hw := hw v2 ev2
      refine z_goto F dX2_join_107 25 rfl ?_
      refine z_lv (lv' := [(0, .ref (aM 0)), (1, .int v2)]) [1, 0] rfl ?_
      exact ih v2 mI_2 mR_2 hw
set_option maxHeartbeats 4000000 in
set_option maxRecDepth 100000 in
theorem xX2_join_0 {C : zC} {D : va_G} {cyI cyB : ClassId} {aH : Nat → Nat} {aM : Nat → Nat} (hI : Nat → Int32) (hR : Nat → Nat → Int32) (mI : Nat → Int32) (mR : Nat → Nat → Int32) (F : zF C D { frames := 1, cells := 0, slots := 0, locals := 21 } cX2_join 4 wsX2_join RX2 none cyI cyB) {post : (Nat → Int32) → (Nat → Nat → Int32) → Prop} (hRt : zRv C D cX2_join 4 (S := ((Nat → Int32) × (Nat → Nat → Int32))) (fun u => (wHo aH cyI hI hR ++ wMi aH aM cyI u.1 u.2)) (fun u => post u.1 u.2)) (hw : pX2_join hI hR mI mR post) : zX C D 4 0 0 (wHo aH cyI hI hR ++ wMi aH aM cyI mI mR) 0 [(0, .ref (aM 0))] [] := by
  refine z_iconst F dX2_join_0 1 rfl zki_0 ?_
  refine z_istore_n (lv' := [(1, .int 0), (0, .ref (aM 0))]) F dX2_join_1 2 rfl (by decide) rfl ?_
  obtain ⟨n1, hw⟩ := hw
  refine z_lv (lv' := [(0, .ref (aM 0)), (1, .int 0)]) [1, 0] rfl ?_
  refine xX2_join_2 hI hR F hRt (fun mI_1 mR_1 hw => ?_) n1 0 mI mR hw
  refine z_iconst F dX2_join_23 24 rfl zki_0 ?_
  refine z_istore_n (lv' := [(1, .int 0), (0, .ref (aM 0))]) F dX2_join_24 25 rfl (by decide) rfl ?_
  obtain ⟨n2, hw⟩ := hw
  refine z_lv (lv' := [(0, .ref (aM 0)), (1, .int 0)]) [1, 0] rfl ?_
  refine xX2_join_25 hI hR F hRt n2 0 mI_1 mR_1 hw
set_option maxHeartbeats 4000000 in
set_option maxRecDepth 100000 in
theorem mX2_join (l : Launch) (D : va_G) (cyI cyB : ClassId) (aH : Nat → Nat) (aM : Nat → Nat) (hI : Nat → Int32) (hR : Nat → Nat → Int32) (mI : Nat → Int32) (mR : Nat → Nat → Int32) {post : (Nat → Int32) → (Nat → Nat → Int32) → Prop} (hw : pX2_join hI hR mI mR post) : zMv l yX2_join wsX2_join 1 21 D cyI cyB [.ref (aM 0)] (wHo aH cyI hI hR ++ wMi aH aM cyI mI mR) (S := ((Nat → Int32) × (Nat → Nat → Int32))) (fun u => (wHo aH cyI hI hR ++ wMi aH aM cyI u.1 u.2)) (fun u => post u.1 u.2) :=
  z_metv (cc := cX2_join) (nL := 4) (by decide +kernel) rfl (Nat.le_of_ble_eq_true rfl) (fun C hl F hRt => xX2_join_0 hI hR mI mR F hRt hw)
theorem y_X2_join : zY yX2_join wsX2_join cX2_join 4 none 0 := ⟨⟨_, rfl⟩, by decide +kernel⟩
theorem iX2_lookAround_1 : ∀ w ∈ wsX10, w ∈ wsX2_lookAround := fun w h => List.mem_cons_of_mem _ (List.mem_append_left _ (List.mem_append_right _ h))
theorem iX2_lookAround_2 : ∀ w ∈ wsX20, w ∈ wsX2_lookAround := fun w h => List.mem_cons_of_mem _ (List.mem_append_left _ (List.mem_append_left _ (List.mem_append_right _ h)))
theorem iX2_lookAround_3 : ∀ w ∈ wsX30, w ∈ wsX2_lookAround := fun w h => List.mem_cons_of_mem _ (List.mem_append_right _ h)
theorem kX2_lookAround_15 : zL wsX2_lookAround RX2 15 2 2 (.array .int) true := zL2 iX2_lookAround_2 (by decide) (List.mem_of_getElem? (i := 9) rfl) rfl rfl
theorem kX2_lookAround_18 : zL wsX2_lookAround RX2 18 2 3 (.array .int) true := zL2 iX2_lookAround_2 (by decide) (List.mem_of_getElem? (i := 1) rfl) rfl rfl
theorem kX2_lookAround_21 : zL wsX2_lookAround RX2 21 2 4 (.array .int) true := zL2 iX2_lookAround_2 (by decide) (List.mem_of_getElem? (i := 8) rfl) rfl rfl
theorem kX2_lookAround_47 : zL wsX2_lookAround RX2 47 2 0 (.object "StillRoom$House") true := zL2 iX2_lookAround_2 (by decide) (List.mem_of_getElem? (i := 2) rfl) rfl rfl
theorem kX2_lookAround_60 : zL wsX2_lookAround RX2 60 1 6 .int false := zL1 iX2_lookAround_1 (by decide) (List.mem_of_getElem? (i := 7) rfl) rfl rfl
theorem kX2_lookAround_81 : zL wsX2_lookAround RX2 81 3 2 .int false := zL3 iX2_lookAround_3 (by decide) (List.mem_of_getElem? (i := 4) rfl) rfl rfl
theorem kX2_lookAround_86 : zL wsX2_lookAround RX2 86 3 0 (.array .int) true := zL3 iX2_lookAround_3 (by decide) (List.mem_of_getElem? (i := 5) rfl) rfl rfl
theorem kX2_lookAround_89 : zL wsX2_lookAround RX2 89 3 1 (.array .int) true := zL3 iX2_lookAround_3 (by decide) (List.mem_of_getElem? (i := 6) rfl) rfl rfl
theorem kX2_lookAround_96 : zL wsX2_lookAround RX2 96 1 2 (.object "StillRoom$Pairs") true := zL1 iX2_lookAround_1 (by decide) (List.mem_of_getElem? (i := 3) rfl) rfl rfl
set_option maxHeartbeats 4000000 in
set_option maxRecDepth 100000 in
theorem xX2_lookAround_2 {C : zC} {D : va_G} {cyI cyB : ClassId} {aH : Nat → Nat} {aM : Nat → Nat} (x1 : Int32) (hI : Nat → Int32) (hR : Nat → Nat → Int32) (F : zF C D { frames := 1, cells := 0, slots := 0, locals := 23 } cX2_lookAround 3 wsX2_lookAround RX2 none cyI cyB) {post : (Nat → Int32) → (Nat → Nat → Int32) → Prop} (hRt : zRv C D cX2_lookAround 3 (S := ((Nat → Int32) × (Nat → Nat → Int32))) (fun u => (wHo aH cyI hI hR ++ wMi aH aM cyI u.1 u.2)) (fun u => post u.1 u.2)) {k23 : (Nat → Int32) → (Nat → Nat → Int32) → Prop} (hk23 : ∀ (mI : Nat → Int32) (mR : Nat → Nat → Int32), k23 mI mR → zX C D 3 0 0 (wHo aH cyI hI hR ++ wMi aH aM cyI mI mR) 23 [(0, .ref (aM 0)), (1, .int x1)] []) : ∀ (n : Nat) (x2 : Int32) (mI : Nat → Int32) (mR : Nat → Nat → Int32), bX2_lookAround_2 x1 hI hR post k23  n x2 mI mR → zX C D 3 0 0 (wHo aH cyI hI hR ++ wMi aH aM cyI mI mR) 2 [(0, .ref (aM 0)), (1, .int x1), (2, .int x2)] [] := by
  intro n
  induction n with
  | zero => intro _ _ _ hw; exact hw.elim
  | succ n ih =>
    intro x2 mI mR hw
    refine z_iload_n F dX2_lookAround_2 3 rfl 2 rfl ?_
    refine z_bipush F dX2_lookAround_3 5 rfl zkb_8 ?_
    obtain ⟨hwt, hwf⟩ := hw
    refine z_icmpge F dX2_lookAround_5 23 rfl 8 rfl (fun c1 => ?_) (fun c1 => ?_)
    · have hw := hwt c1; clear hwt hwf
      refine z_lv (lv' := [(0, .ref (aM 0)), (1, .int x1)]) [0, 1] rfl ?_
      exact hk23 mI mR hw
    · have hw := hwf c1; clear hwt hwf
      refine z_aload_n F dX2_lookAround_8 9 rfl 0 rfl ?_
      refine z_get F dX2_lookAround_9 12 rfl kX2_lookAround_18 12 rfl rfl ?_
      refine z_iload_n F dX2_lookAround_12 13 rfl 2 rfl ?_
      refine z_iconst F dX2_lookAround_13 14 rfl zki_1 ?_
      refine z_iload_n F dX2_lookAround_14 15 rfl 2 rfl ?_
      refine z_ishl F dX2_lookAround_15 16 rfl ?_
      refine z_topi (fun v1 ev1 => ?_)
      replace hw := hw v1 ev1
      obtain ⟨j1, ej1, hj1, hw⟩ := hw
      refine z_iast F dX2_lookAround_16 17 rfl 15 rfl (by decide) j1 ej1 hj1 (wHo aH cyI hI hR ++ wMi aH aM cyI mI (va_up mR 2 (upd (mR 2) j1 v1))) rfl ?_
      refine z_iinc F dX2_lookAround_17 20 rfl 2 rfl (by decide) zki_1 (fun v2 => [(2, .int v2), (0, .ref (aM 0)), (1, .int x1)]) (fun _ => rfl) (fun v2 ev2 => ?_)
      replace hw := hw v2 ev2
      refine z_goto F dX2_lookAround_20 2 rfl ?_
      refine z_lv (lv' := [(0, .ref (aM 0)), (1, .int x1), (2, .int v2)]) [1, 2, 0] rfl ?_
      exact ih v2 mI (va_up mR 2 (upd (mR 2) j1 v1)) hw
set_option maxHeartbeats 4000000 in
set_option maxRecDepth 100000 in
theorem xX2_lookAround_25 {C : zC} {D : va_G} {cyI cyB : ClassId} {aH : Nat → Nat} {aM : Nat → Nat} (x1 : Int32) (hI : Nat → Int32) (hR : Nat → Nat → Int32) (F : zF C D { frames := 1, cells := 0, slots := 0, locals := 23 } cX2_lookAround 3 wsX2_lookAround RX2 none cyI cyB) {post : (Nat → Int32) → (Nat → Nat → Int32) → Prop} (hRt : zRv C D cX2_lookAround 3 (S := ((Nat → Int32) × (Nat → Nat → Int32))) (fun u => (wHo aH cyI hI hR ++ wMi aH aM cyI u.1 u.2)) (fun u => post u.1 u.2)) {k87 : (Nat → Int32) → (Nat → Nat → Int32) → Prop} (hk87 : ∀ (mI : Nat → Int32) (mR : Nat → Nat → Int32), k87 mI mR → zX C D 3 0 0 (wHo aH cyI hI hR ++ wMi aH aM cyI mI mR) 87 [(0, .ref (aM 0))] []) : ∀ (n : Nat) (x2 : Int32) (mI : Nat → Int32) (mR : Nat → Nat → Int32), bX2_lookAround_25 x1 hI hR post k87  n x2 mI mR → zX C D 3 0 0 (wHo aH cyI hI hR ++ wMi aH aM cyI mI mR) 25 [(0, .ref (aM 0)), (1, .int x1), (2, .int x2)] [] := by
  intro n
  induction n with
  | zero => intro _ _ _ hw; exact hw.elim
  | succ n ih =>
    intro x2 mI mR hw
    refine z_iload_n F dX2_lookAround_25 26 rfl 2 rfl ?_
    refine z_aload_n F dX2_lookAround_26 27 rfl 0 rfl ?_
    refine z_get F dX2_lookAround_27 30 rfl kX2_lookAround_47 12 rfl rfl ?_
    refine z_get F dX2_lookAround_30 33 rfl kX2_lookAround_96 0 rfl rfl ?_
    refine z_get F dX2_lookAround_33 36 rfl kX2_lookAround_81 3 rfl rfl ?_
    obtain ⟨hwt, hwf⟩ := hw
    refine z_icmpge F dX2_lookAround_36 87 rfl 39 rfl (fun c1 => ?_) (fun c1 => ?_)
    · have hw := hwt c1; clear hwt hwf
      refine z_lv (lv' := [(0, .ref (aM 0))]) [0] rfl ?_
      exact hk87 mI mR hw
    · have hw := hwf c1; clear hwt hwf
      refine z_iload_n F dX2_lookAround_39 40 rfl 1 rfl ?_
      refine z_iload_n F dX2_lookAround_40 41 rfl 2 rfl ?_
      refine z_callSNi (As := [.int x1, .int x2]) (st := []) F dX2_lookAround_41 44 rfl (mX5_contains C.1.2.1 D cyI cyB x1 x2 hw) y_X5_contains rfl gX2_lookAround_X5_contains_n92 F.2.2.1.2.2.2.2.2.1 (List.mem_of_getElem? (i := 11) rfl) (List.mem_of_getElem? (i := 10) rfl) ⟨Nat.le_of_ble_eq_true rfl, Nat.le_of_ble_eq_true rfl⟩ ⟨Nat.zero_le _, Nat.zero_le _⟩ (Nat.le_of_ble_eq_true rfl) [] (by decide) rfl (fun _ => rfl) (fun u => (wHo aH cyI hI hR ++ wMi aH aM cyI mI mR)) (fun _ => rfl) (fun r0 u hp => ?_)
      obtain ⟨b1, rfl, hw⟩ := hp
      obtain ⟨hwt, hwf⟩ := hw
      refine z_ifneB F dX2_lookAround_44 81 rfl 47 rfl (fun c2 => ?_) (fun c2 => ?_)
      · have hw := hwt c2; clear hwt hwf
        refine z_iinc F dX2_lookAround_81 84 rfl 2 rfl (by decide) zki_1 (fun v1 => [(2, .int v1), (0, .ref (aM 0)), (1, .int x1)]) (fun _ => rfl) (fun v1 ev1 => ?_)
        replace hw := hw v1 ev1
        refine z_goto F dX2_lookAround_84 25 rfl ?_
        refine z_lv (lv' := [(0, .ref (aM 0)), (1, .int x1), (2, .int v1)]) [1, 2, 0] rfl ?_
        exact ih v1 mI mR hw
      · have hw := hwf c2; clear hwt hwf
        refine z_aload_n F dX2_lookAround_47 48 rfl 0 rfl ?_
        refine z_get F dX2_lookAround_48 51 rfl kX2_lookAround_18 12 rfl rfl ?_
        refine z_aload_n F dX2_lookAround_51 52 rfl 0 rfl ?_
        refine z_get F dX2_lookAround_52 55 rfl kX2_lookAround_47 12 rfl rfl ?_
        refine z_get F dX2_lookAround_55 58 rfl kX2_lookAround_96 0 rfl rfl ?_
        refine z_get F dX2_lookAround_58 61 rfl kX2_lookAround_86 3 rfl rfl ?_
        refine z_iload_n F dX2_lookAround_61 62 rfl 2 rfl ?_
        obtain ⟨j1, ej1, hj1, hw⟩ := hw
        refine z_iald F dX2_lookAround_62 63 rfl 4 rfl (by decide) j1 ej1 hj1 ?_
        refine z_dup2 F dX2_lookAround_63 64 rfl rfl rfl ?_
        obtain ⟨j2, ej2, hj2, hw⟩ := hw
        refine z_iald F dX2_lookAround_64 65 rfl 15 rfl (by decide) j2 ej2 hj2 ?_
        refine z_iconst F dX2_lookAround_65 66 rfl zki_1 ?_
        refine z_aload_n F dX2_lookAround_66 67 rfl 0 rfl ?_
        refine z_get F dX2_lookAround_67 70 rfl kX2_lookAround_47 12 rfl rfl ?_
        refine z_get F dX2_lookAround_70 73 rfl kX2_lookAround_96 0 rfl rfl ?_
        refine z_get F dX2_lookAround_73 76 rfl kX2_lookAround_89 3 rfl rfl ?_
        refine z_iload_n F dX2_lookAround_76 77 rfl 2 rfl ?_
        refine z_iald F dX2_lookAround_77 78 rfl 5 rfl (by decide) j1 ej1 hj1 ?_
        refine z_ishl F dX2_lookAround_78 79 rfl ?_
        refine z_ior F dX2_lookAround_79 80 rfl ?_
        refine z_topi (fun v2 ev2 => ?_)
        replace hw := hw v2 ev2
        refine z_iast F dX2_lookAround_80 81 rfl 15 rfl (by decide) j2 ej2 hj2 (wHo aH cyI hI hR ++ wMi aH aM cyI mI (va_up mR 2 (upd (mR 2) j2 v2))) rfl ?_
        refine z_iinc F dX2_lookAround_81 84 rfl 2 rfl (by decide) zki_1 (fun v3 => [(2, .int v3), (0, .ref (aM 0)), (1, .int x1)]) (fun _ => rfl) (fun v3 ev3 => ?_)
        replace hw := hw v3 ev3
        refine z_goto F dX2_lookAround_84 25 rfl ?_
        refine z_lv (lv' := [(0, .ref (aM 0)), (1, .int x1), (2, .int v3)]) [1, 2, 0] rfl ?_
        exact ih v3 mI (va_up mR 2 (upd (mR 2) j2 v2)) hw
set_option maxHeartbeats 4000000 in
set_option maxRecDepth 100000 in
theorem xX2_lookAround_89 {C : zC} {D : va_G} {cyI cyB : ClassId} {aH : Nat → Nat} {aM : Nat → Nat} (hI : Nat → Int32) (hR : Nat → Nat → Int32) (F : zF C D { frames := 1, cells := 0, slots := 0, locals := 23 } cX2_lookAround 3 wsX2_lookAround RX2 none cyI cyB) {post : (Nat → Int32) → (Nat → Nat → Int32) → Prop} (hRt : zRv C D cX2_lookAround 3 (S := ((Nat → Int32) × (Nat → Nat → Int32))) (fun u => (wHo aH cyI hI hR ++ wMi aH aM cyI u.1 u.2)) (fun u => post u.1 u.2)) : ∀ (n : Nat) (x2 : Int32) (mI : Nat → Int32) (mR : Nat → Nat → Int32), bX2_lookAround_89 hI hR post  n x2 mI mR → zX C D 3 0 0 (wHo aH cyI hI hR ++ wMi aH aM cyI mI mR) 89 [(0, .ref (aM 0)), (2, .int x2)] [] := by
  intro n
  induction n with
  | zero => intro _ _ _ hw; exact hw.elim
  | succ n ih =>
    intro x2 mI mR hw
    refine z_iload_n F dX2_lookAround_89 90 rfl 1 rfl ?_
    refine z_aload_n F dX2_lookAround_90 91 rfl 0 rfl ?_
    refine z_get F dX2_lookAround_91 94 rfl kX2_lookAround_47 12 rfl rfl ?_
    refine z_get F dX2_lookAround_94 97 rfl kX2_lookAround_60 0 rfl rfl ?_
    obtain ⟨hwt, hwf⟩ := hw
    refine z_icmpge F dX2_lookAround_97 125 rfl 100 rfl (fun c1 => ?_) (fun c1 => ?_)
    · have hw := hwt c1; clear hwt hwf
      exact hRt 125 _ (mI, mR) dX2_lookAround_125 hw
    · have hw := hwf c1; clear hwt hwf
      refine z_aload_n F dX2_lookAround_100 101 rfl 0 rfl ?_
      refine z_get F dX2_lookAround_101 104 rfl kX2_lookAround_21 12 rfl rfl ?_
      refine z_iload_n F dX2_lookAround_104 105 rfl 1 rfl ?_
      refine z_aload_n F dX2_lookAround_105 106 rfl 0 rfl ?_
      refine z_get F dX2_lookAround_106 109 rfl kX2_lookAround_18 12 rfl rfl ?_
      refine z_aload_n F dX2_lookAround_109 110 rfl 0 rfl ?_
      refine z_get F dX2_lookAround_110 113 rfl kX2_lookAround_15 12 rfl rfl ?_
      refine z_iload_n F dX2_lookAround_113 114 rfl 1 rfl ?_
      obtain ⟨j1, ej1, hj1, hw⟩ := hw
      refine z_iald F dX2_lookAround_114 115 rfl 14 rfl (by decide) j1 ej1 hj1 ?_
      refine z_callSi (As := [.ref (aM 3), .int ((mR 1) j1)]) (st := [.int x2, .ref (aM 4)]) F dX2_lookAround_115 118 rfl (mX2_union C.1.2.1 D cyI cyB (aM 3) ((mR 1) j1) (mR 2) hw) y_X2_union rfl gX2_lookAround_X2_union ⟨Nat.le_of_ble_eq_true rfl, Nat.le_of_ble_eq_true rfl⟩ ⟨Nat.zero_le _, Nat.zero_le _⟩ (Nat.le_of_ble_eq_true rfl) [15] (by decide) rfl (fun _ => rfl) (fun u => (wHo aH cyI hI hR ++ wMi aH aM cyI mI mR)) (fun _ => rfl) (fun r1 u hp => ?_)
      replace hw := hp
      clear hp
      refine z_iast F dX2_lookAround_118 119 rfl 16 rfl (by decide) j1 ej1 hj1 (wHo aH cyI hI hR ++ wMi aH aM cyI mI (va_up mR 3 (upd (mR 3) j1 r1))) rfl ?_
      refine z_iinc F dX2_lookAround_119 122 rfl 1 rfl (by decide) zki_1 (fun v1 => [(2, .int v1), (0, .ref (aM 0))]) (fun _ => rfl) (fun v1 ev1 => ?_)
      replace hw := hw v1 ev1
      refine z_goto F dX2_lookAround_122 89 rfl ?_
      refine z_lv (lv' := [(0, .ref (aM 0)), (2, .int v1)]) [1, 0] rfl ?_
      exact ih v1 mI (va_up mR 3 (upd (mR 3) j1 r1)) hw
set_option maxHeartbeats 4000000 in
set_option maxRecDepth 100000 in
theorem xX2_lookAround_0 {C : zC} {D : va_G} {cyI cyB : ClassId} {aH : Nat → Nat} {aM : Nat → Nat} (x1 : Int32) (hI : Nat → Int32) (hR : Nat → Nat → Int32) (mI : Nat → Int32) (mR : Nat → Nat → Int32) (F : zF C D { frames := 1, cells := 0, slots := 0, locals := 23 } cX2_lookAround 3 wsX2_lookAround RX2 none cyI cyB) {post : (Nat → Int32) → (Nat → Nat → Int32) → Prop} (hRt : zRv C D cX2_lookAround 3 (S := ((Nat → Int32) × (Nat → Nat → Int32))) (fun u => (wHo aH cyI hI hR ++ wMi aH aM cyI u.1 u.2)) (fun u => post u.1 u.2)) (hw : pX2_lookAround x1 hI hR mI mR post) : zX C D 3 0 0 (wHo aH cyI hI hR ++ wMi aH aM cyI mI mR) 0 [(0, .ref (aM 0)), (1, .int x1)] [] := by
  refine z_iconst F dX2_lookAround_0 1 rfl zki_0 ?_
  refine z_istore_n (lv' := [(2, .int 0), (0, .ref (aM 0)), (1, .int x1)]) F dX2_lookAround_1 2 rfl (by decide) rfl ?_
  obtain ⟨n1, hw⟩ := hw
  refine z_lv (lv' := [(0, .ref (aM 0)), (1, .int x1), (2, .int 0)]) [1, 2, 0] rfl ?_
  refine xX2_lookAround_2 x1 hI hR F hRt (fun mI_1 mR_1 hw => ?_) n1 0 mI mR hw
  refine z_iconst F dX2_lookAround_23 24 rfl zki_0 ?_
  refine z_istore_n (lv' := [(2, .int 0), (0, .ref (aM 0)), (1, .int x1)]) F dX2_lookAround_24 25 rfl (by decide) rfl ?_
  obtain ⟨n2, hw⟩ := hw
  refine z_lv (lv' := [(0, .ref (aM 0)), (1, .int x1), (2, .int 0)]) [1, 2, 0] rfl ?_
  refine xX2_lookAround_25 x1 hI hR F hRt (fun mI_2 mR_2 hw => ?_) n2 0 mI_1 mR_1 hw
  refine z_iconst F dX2_lookAround_87 88 rfl zki_0 ?_
  refine z_istore_n (lv' := [(2, .int 0), (0, .ref (aM 0))]) F dX2_lookAround_88 89 rfl (by decide) rfl ?_
  obtain ⟨n3, hw⟩ := hw
  refine z_lv (lv' := [(0, .ref (aM 0)), (2, .int 0)]) [1, 0] rfl ?_
  refine xX2_lookAround_89 hI hR F hRt n3 0 mI_2 mR_2 hw
set_option maxHeartbeats 4000000 in
set_option maxRecDepth 100000 in
theorem mX2_lookAround (l : Launch) (D : va_G) (cyI cyB : ClassId) (aH : Nat → Nat) (aM : Nat → Nat) (x1 : Int32) (hI : Nat → Int32) (hR : Nat → Nat → Int32) (mI : Nat → Int32) (mR : Nat → Nat → Int32) {post : (Nat → Int32) → (Nat → Nat → Int32) → Prop} (hw : pX2_lookAround x1 hI hR mI mR post) : zMv l yX2_lookAround wsX2_lookAround 1 23 D cyI cyB [.ref (aM 0), .int x1] (wHo aH cyI hI hR ++ wMi aH aM cyI mI mR) (S := ((Nat → Int32) × (Nat → Nat → Int32))) (fun u => (wHo aH cyI hI hR ++ wMi aH aM cyI u.1 u.2)) (fun u => post u.1 u.2) :=
  z_metv (cc := cX2_lookAround) (nL := 3) (by decide +kernel) rfl (Nat.le_of_ble_eq_true rfl) (fun C hl F hRt => xX2_lookAround_0 x1 hI hR mI mR F hRt hw)
theorem y_X2_lookAround : zY yX2_lookAround wsX2_lookAround cX2_lookAround 3 none 1 := ⟨⟨_, rfl⟩, by decide +kernel⟩
theorem iX2_begin_1 : ∀ w ∈ wsX10, w ∈ wsX2_begin := fun w h => List.mem_cons_of_mem _ (List.mem_append_left _ (List.mem_append_right _ h))
theorem iX2_begin_2 : ∀ w ∈ wsX20, w ∈ wsX2_begin := fun w h => List.mem_cons_of_mem _ (List.mem_append_left _ (List.mem_append_left _ (List.mem_append_right _ h)))
theorem kX2_begin_9 : zL wsX2_begin RX2 9 2 1 (.array .int) true := zL2 iX2_begin_2 (by decide) (List.mem_of_getElem? (i := 3) rfl) rfl rfl
theorem kX2_begin_34 : zL wsX2_begin RX2 34 2 7 .int false := zL2 iX2_begin_2 (by decide) (List.mem_of_getElem? (i := 9) rfl) rfl rfl
theorem kX2_begin_38 : zL wsX2_begin RX2 38 2 8 .int false := zL2 iX2_begin_2 (by decide) (List.mem_of_getElem? (i := 10) rfl) rfl rfl
theorem kX2_begin_41 : zL wsX2_begin RX2 41 2 9 .int false := zL2 iX2_begin_2 (by decide) (List.mem_of_getElem? (i := 11) rfl) rfl rfl
theorem kX2_begin_44 : zL wsX2_begin RX2 44 2 10 .int false := zL2 iX2_begin_2 (by decide) (List.mem_of_getElem? (i := 13) rfl) rfl rfl
theorem kX2_begin_47 : zL wsX2_begin RX2 47 2 0 (.object "StillRoom$House") true := zL2 iX2_begin_2 (by decide) (List.mem_of_getElem? (i := 1) rfl) rfl rfl
theorem kX2_begin_51 : zL wsX2_begin RX2 51 1 0 (.array .int) true := zL1 iX2_begin_1 (by decide) (List.mem_of_getElem? (i := 2) rfl) rfl rfl
theorem kX2_begin_60 : zL wsX2_begin RX2 60 1 6 .int false := zL1 iX2_begin_1 (by decide) (List.mem_of_getElem? (i := 8) rfl) rfl rfl
theorem kX2_begin_69 : zL wsX2_begin RX2 69 1 8 .int false := zL1 iX2_begin_1 (by decide) (List.mem_of_getElem? (i := 12) rfl) rfl rfl
set_option maxHeartbeats 4000000 in
set_option maxRecDepth 100000 in
theorem xX2_begin_0 {C : zC} {D : va_G} {cyI cyB : ClassId} {aH : Nat → Nat} {aM : Nat → Nat} (hI : Nat → Int32) (hR : Nat → Nat → Int32) (mI : Nat → Int32) (mR : Nat → Nat → Int32) (F : zF C D { frames := 2, cells := 0, slots := 0, locals := 45 } cX2_begin 1 wsX2_begin RX2 none cyI cyB) {post : (Nat → Int32) → (Nat → Nat → Int32) → Prop} (hRt : zRv C D cX2_begin 1 (S := ((Nat → Int32) × (Nat → Nat → Int32))) (fun u => (wHo aH cyI hI hR ++ wMi aH aM cyI u.1 u.2)) (fun u => post u.1 u.2)) (hw : pX2_begin hI hR mI mR post) : zX C D 1 0 0 (wHo aH cyI hI hR ++ wMi aH aM cyI mI mR) 0 [(0, .ref (aM 0))] [] := by
  refine z_aload_n F dX2_begin_0 1 rfl 0 rfl ?_
  refine z_get F dX2_begin_1 4 rfl kX2_begin_47 12 rfl rfl ?_
  refine z_get F dX2_begin_4 7 rfl kX2_begin_51 0 rfl rfl ?_
  refine z_iconst F dX2_begin_7 8 rfl zki_0 ?_
  refine z_aload_n F dX2_begin_8 9 rfl 0 rfl ?_
  refine z_get F dX2_begin_9 12 rfl kX2_begin_9 12 rfl rfl ?_
  refine z_iconst F dX2_begin_12 13 rfl zki_0 ?_
  refine z_bipush F dX2_begin_13 15 rfl zkb_8 ?_
  refine z_copy F dX2_begin_15 18 rfl (List.mem_of_getElem? (i := 4) rfl) (List.mem_of_getElem? (i := 5) rfl) (List.mem_of_getElem? (i := 6) rfl) (List.mem_of_getElem? (i := 7) rfl) 1 13 rfl rfl (by decide) (by decide) (by decide) (by decide) (Nat.le_of_ble_eq_true rfl) (Nat.le_of_ble_eq_true rfl) (wHo aH cyI hI hR ++ wMi aH aM cyI mI (va_up mR 0 (va_cpy (hR 0) (mR 0) 0 0 8))) rfl ?_
  refine z_aload_n F dX2_begin_18 19 rfl 0 rfl ?_
  refine z_iconst F dX2_begin_19 20 rfl zki_1 ?_
  refine z_aload_n F dX2_begin_20 21 rfl 0 rfl ?_
  refine z_get F dX2_begin_21 24 rfl kX2_begin_47 12 rfl rfl ?_
  refine z_get F dX2_begin_24 27 rfl kX2_begin_60 0 rfl rfl ?_
  refine z_ishl F dX2_begin_27 28 rfl ?_
  refine z_iconst F dX2_begin_28 29 rfl zki_1 ?_
  refine z_isub F dX2_begin_29 30 rfl ?_
  refine z_topi (fun v1 ev1 => ?_)
  replace hw := hw v1 ev1
  refine z_put F dX2_begin_30 33 rfl kX2_begin_34 12 rfl rfl rfl (Nat.le_of_ble_eq_true rfl) (wHo aH cyI hI hR ++ wMi aH aM cyI (va_up mI 0 v1) (va_up mR 0 (va_cpy (hR 0) (mR 0) 0 0 8))) rfl ?_
  refine z_aload_n F dX2_begin_33 34 rfl 0 rfl ?_
  refine z_aload_n F dX2_begin_34 35 rfl 0 rfl ?_
  refine z_get F dX2_begin_35 38 rfl kX2_begin_47 12 rfl rfl ?_
  refine z_segVi (As := []) (st := [.ref (aM 0)]) F dX2_begin_38 41 rfl (mX1_inHouse C.1.2.1 D cyI cyB aH hI hR hw) y_X1_inHouse rfl gX2_begin_X1_inHouse rfl (ci := 1) (rq := 0) rfl rfl ⟨Nat.le_of_ble_eq_true rfl, Nat.le_of_ble_eq_true rfl⟩ ⟨Nat.zero_le _, Nat.zero_le _⟩ (Nat.le_of_ble_eq_true rfl) [] (wMi aH aM cyI (va_up mI 0 v1) (va_up mR 0 (va_cpy (hR 0) (mR 0) 0 0 8))) (by simp only [List.append_assoc, List.nil_append, List.append_nil]) (fun _ => rfl) (fun u => (wHo aH cyI hI hR ++ wMi aH aM cyI (va_up mI 0 v1) (va_up mR 0 (va_cpy (hR 0) (mR 0) 0 0 8)))) (fun u => (by simp only [List.append_assoc, List.nil_append, List.append_nil])) (fun r1 u hp => ?_)
  replace hw := hp
  clear hp
  refine z_put F dX2_begin_41 44 rfl kX2_begin_38 12 rfl rfl rfl (Nat.le_of_ble_eq_true rfl) (wHo aH cyI hI hR ++ wMi aH aM cyI (va_up (va_up mI 0 v1) 1 r1) (va_up mR 0 (va_cpy (hR 0) (mR 0) 0 0 8))) rfl ?_
  refine z_aload_n F dX2_begin_44 45 rfl 0 rfl ?_
  refine z_aload_n F dX2_begin_45 46 rfl 0 rfl ?_
  refine z_get F dX2_begin_46 49 rfl kX2_begin_47 12 rfl rfl ?_
  refine z_segVi (As := []) (st := [.ref (aM 0)]) F dX2_begin_49 52 rfl (mX1_it C.1.2.1 D cyI cyB aH hI hR hw) y_X1_it rfl gX2_begin_X1_it rfl (ci := 1) (rq := 0) rfl rfl ⟨Nat.le_of_ble_eq_true rfl, Nat.le_of_ble_eq_true rfl⟩ ⟨Nat.zero_le _, Nat.zero_le _⟩ (Nat.le_of_ble_eq_true rfl) [] (wMi aH aM cyI (va_up (va_up mI 0 v1) 1 r1) (va_up mR 0 (va_cpy (hR 0) (mR 0) 0 0 8))) (by simp only [List.append_assoc, List.nil_append, List.append_nil]) (fun _ => rfl) (fun u => (wHo aH cyI hI hR ++ wMi aH aM cyI (va_up (va_up mI 0 v1) 1 r1) (va_up mR 0 (va_cpy (hR 0) (mR 0) 0 0 8)))) (fun u => (by simp only [List.append_assoc, List.nil_append, List.append_nil])) (fun r2 u hp => ?_)
  replace hw := hp
  clear hp
  refine z_put F dX2_begin_52 55 rfl kX2_begin_41 12 rfl rfl rfl (Nat.le_of_ble_eq_true rfl) (wHo aH cyI hI hR ++ wMi aH aM cyI (va_up (va_up (va_up mI 0 v1) 1 r1) 2 r2) (va_up mR 0 (va_cpy (hR 0) (mR 0) 0 0 8))) rfl ?_
  refine z_aload_n F dX2_begin_55 56 rfl 0 rfl ?_
  refine z_aload_n F dX2_begin_56 57 rfl 0 rfl ?_
  refine z_get F dX2_begin_57 60 rfl kX2_begin_47 12 rfl rfl ?_
  refine z_get F dX2_begin_60 63 rfl kX2_begin_69 0 rfl rfl ?_
  refine z_put F dX2_begin_63 66 rfl kX2_begin_44 12 rfl rfl rfl (Nat.le_of_ble_eq_true rfl) (wHo aH cyI hI hR ++ wMi aH aM cyI (va_up (va_up (va_up (va_up mI 0 v1) 1 r1) 2 r2) 3 (hI 3)) (va_up mR 0 (va_cpy (hR 0) (mR 0) 0 0 8))) rfl ?_
  refine z_aload_n F dX2_begin_66 67 rfl 0 rfl ?_
  refine z_segVv (As := []) (st := []) F dX2_begin_67 70 rfl (mX2_join C.1.2.1 D cyI cyB aH aM hI hR (va_up (va_up (va_up (va_up mI 0 v1) 1 r1) 2 r2) 3 (hI 3)) (va_up mR 0 (va_cpy (hR 0) (mR 0) 0 0 8)) hw) y_X2_join rfl gX2_begin_X2_join rfl (ci := 2) (rq := 12) rfl rfl ⟨Nat.le_of_ble_eq_true rfl, Nat.le_of_ble_eq_true rfl⟩ ⟨Nat.zero_le _, Nat.zero_le _⟩ (Nat.le_of_ble_eq_true rfl) [] [] (by simp only [List.append_assoc, List.nil_append, List.append_nil]) (fun _ => rfl) (fun u => (wHo aH cyI hI hR ++ wMi aH aM cyI u.1 u.2)) (fun u => (by simp only [List.append_assoc, List.nil_append, List.append_nil])) (fun u hp => ?_)
  obtain ⟨mI_1, mR_1⟩ := u
  replace hw := hp
  clear hp
  refine z_aload_n F dX2_begin_70 71 rfl 0 rfl ?_
  refine z_iconst F dX2_begin_71 72 rfl zki_0 ?_
  refine z_segVv (As := [.int 0]) (st := []) F dX2_begin_72 75 rfl (mX2_lookAround C.1.2.1 D cyI cyB aH aM 0 hI hR mI_1 mR_1 hw) y_X2_lookAround rfl gX2_begin_X2_lookAround rfl (ci := 2) (rq := 12) rfl rfl ⟨Nat.le_of_ble_eq_true rfl, Nat.le_of_ble_eq_true rfl⟩ ⟨Nat.zero_le _, Nat.zero_le _⟩ (Nat.le_of_ble_eq_true rfl) [] [] (by simp only [List.append_assoc, List.nil_append, List.append_nil]) (fun _ => rfl) (fun u => (wHo aH cyI hI hR ++ wMi aH aM cyI u.1 u.2)) (fun u => (by simp only [List.append_assoc, List.nil_append, List.append_nil])) (fun u hp => ?_)
  obtain ⟨mI_2, mR_2⟩ := u
  replace hw := hp
  clear hp
  exact hRt 75 _ (mI_2, mR_2) dX2_begin_75 hw
set_option maxHeartbeats 4000000 in
set_option maxRecDepth 100000 in
theorem mX2_begin (l : Launch) (D : va_G) (cyI cyB : ClassId) (aH : Nat → Nat) (aM : Nat → Nat) (hI : Nat → Int32) (hR : Nat → Nat → Int32) (mI : Nat → Int32) (mR : Nat → Nat → Int32) {post : (Nat → Int32) → (Nat → Nat → Int32) → Prop} (hw : pX2_begin hI hR mI mR post) : zMv l yX2_begin wsX2_begin 2 45 D cyI cyB [.ref (aM 0)] (wHo aH cyI hI hR ++ wMi aH aM cyI mI mR) (S := ((Nat → Int32) × (Nat → Nat → Int32))) (fun u => (wHo aH cyI hI hR ++ wMi aH aM cyI u.1 u.2)) (fun u => post u.1 u.2) :=
  z_metv (cc := cX2_begin) (nL := 1) (by decide +kernel) rfl (Nat.le_of_ble_eq_true rfl) (fun C hl F hRt => xX2_begin_0 hI hR mI mR F hRt hw)
theorem y_X2_begin : zY yX2_begin wsX2_begin cX2_begin 1 none 0 := ⟨⟨_, rfl⟩, by decide +kernel⟩
theorem iX2_leave_2 : ∀ w ∈ wsX20, w ∈ wsX2_leave := fun w h => List.mem_cons_of_mem _ (List.mem_append_right _ h)
theorem kX2_leave_38 : zL wsX2_leave RX2 38 2 8 .int false := zL2 iX2_leave_2 (by decide) (List.mem_of_getElem? (i := 1) rfl) rfl rfl
set_option maxHeartbeats 4000000 in
set_option maxRecDepth 100000 in
theorem xX2_leave_0 {C : zC} {D : va_G} {cyI cyB : ClassId} {aH : Nat → Nat} {aM : Nat → Nat} (x1 : Int32) (hI : Nat → Int32) (hR : Nat → Nat → Int32) (mI : Nat → Int32) (mR : Nat → Nat → Int32) (F : zF C D { frames := 0, cells := 0, slots := 0, locals := 0 } cX2_leave 2 wsX2_leave RX2 none cyI cyB) {post : (Nat → Int32) → (Nat → Nat → Int32) → Prop} (hRt : zRv C D cX2_leave 2 (S := ((Nat → Int32) × (Nat → Nat → Int32))) (fun u => (wHo aH cyI hI hR ++ wMi aH aM cyI u.1 u.2)) (fun u => post u.1 u.2)) (hw : pX2_leave x1 hI hR mI mR post) : zX C D 2 0 0 (wHo aH cyI hI hR ++ wMi aH aM cyI mI mR) 0 [(0, .ref (aM 0)), (1, .int x1)] [] := by
  refine z_aload_n F dX2_leave_0 1 rfl 0 rfl ?_
  refine z_dup F dX2_leave_1 2 rfl rfl ?_
  refine z_get F dX2_leave_2 5 rfl kX2_leave_38 12 rfl rfl ?_
  refine z_iconst F dX2_leave_5 6 rfl zki_1 ?_
  refine z_iload_n F dX2_leave_6 7 rfl 1 rfl ?_
  refine z_ishl F dX2_leave_7 8 rfl ?_
  refine z_iconst F dX2_leave_8 9 rfl zki_m1 ?_
  refine z_ixor F dX2_leave_9 10 rfl ?_
  refine z_iand F dX2_leave_10 11 rfl ?_
  refine z_topi (fun v1 ev1 => ?_)
  replace hw := hw v1 ev1
  refine z_put F dX2_leave_11 14 rfl kX2_leave_38 12 rfl rfl rfl (Nat.le_of_ble_eq_true rfl) (wHo aH cyI hI hR ++ wMi aH aM cyI (va_up mI 1 v1) mR) rfl ?_
  exact hRt 14 _ ((va_up mI 1 v1), mR) dX2_leave_14 hw
set_option maxHeartbeats 4000000 in
set_option maxRecDepth 100000 in
theorem mX2_leave (l : Launch) (D : va_G) (cyI cyB : ClassId) (aH : Nat → Nat) (aM : Nat → Nat) (x1 : Int32) (hI : Nat → Int32) (hR : Nat → Nat → Int32) (mI : Nat → Int32) (mR : Nat → Nat → Int32) {post : (Nat → Int32) → (Nat → Nat → Int32) → Prop} (hw : pX2_leave x1 hI hR mI mR post) : zMv l yX2_leave wsX2_leave 0 0 D cyI cyB [.ref (aM 0), .int x1] (wHo aH cyI hI hR ++ wMi aH aM cyI mI mR) (S := ((Nat → Int32) × (Nat → Nat → Int32))) (fun u => (wHo aH cyI hI hR ++ wMi aH aM cyI u.1 u.2)) (fun u => post u.1 u.2) :=
  z_metv (cc := cX2_leave) (nL := 2) (by decide +kernel) rfl (Nat.le_of_ble_eq_true rfl) (fun C hl F hRt => xX2_leave_0 x1 hI hR mI mR F hRt hw)
theorem y_X2_leave : zY yX2_leave wsX2_leave cX2_leave 2 none 1 := ⟨⟨_, rfl⟩, by decide +kernel⟩
theorem iX2_chooseLeavers_2 : ∀ w ∈ wsX20, w ∈ wsX2_chooseLeavers := fun w h => List.mem_cons_of_mem _ (List.mem_append_left _ (List.mem_append_right _ h))
theorem kX2_chooseLeavers_27 : zL wsX2_chooseLeavers RX2 27 2 5 (.object "StillRoom$Choices") true := zL2 iX2_chooseLeavers_2 (by decide) (List.mem_of_getElem? (i := 1) rfl) rfl rfl
theorem kX2_chooseLeavers_38 : zL wsX2_chooseLeavers RX2 38 2 8 .int false := zL2 iX2_chooseLeavers_2 (by decide) (List.mem_of_getElem? (i := 2) rfl) rfl rfl
set_option maxHeartbeats 4000000 in
set_option maxRecDepth 100000 in
theorem xX2_chooseLeavers_0 {C : zC} {D : va_G} {cyI cyB : ClassId} {aH : Nat → Nat} {aM : Nat → Nat} (x1 : Int32) (hI : Nat → Int32) (hR : Nat → Nat → Int32) (mI : Nat → Int32) (mR : Nat → Nat → Int32) (F : zF C D { frames := 2, cells := 0, slots := 0, locals := 44 } cX2_chooseLeavers 2 wsX2_chooseLeavers RX2 none cyI cyB) {post : (Nat → Int32) → (Nat → Nat → Int32) → Prop} (hRt : zRv C D cX2_chooseLeavers 2 (S := ((Nat → Int32) × (Nat → Nat → Int32))) (fun u => (wHo aH cyI hI hR ++ wMi aH aM cyI u.1 u.2)) (fun u => post u.1 u.2)) (hw : pX2_chooseLeavers x1 hI hR mI mR post) : zX C D 2 0 0 (wHo aH cyI hI hR ++ wMi aH aM cyI mI mR) 0 [(0, .ref (aM 0)), (1, .int x1)] [] := by
  refine z_aload_n F dX2_chooseLeavers_0 1 rfl 0 rfl ?_
  refine z_get F dX2_chooseLeavers_1 4 rfl kX2_chooseLeavers_27 12 rfl rfl ?_
  refine z_aload_n F dX2_chooseLeavers_4 5 rfl 0 rfl ?_
  refine z_get F dX2_chooseLeavers_5 8 rfl kX2_chooseLeavers_38 12 rfl rfl ?_
  refine z_iload_n F dX2_chooseLeavers_8 9 rfl 1 rfl ?_
  refine z_callVv (As := [.int (mI 1), .int x1]) (st := []) F dX2_chooseLeavers_9 12 rfl (mX0_choose C.1.2.1 D cyI cyB (fun j => aM (5 + j)) (mI 1) x1 (mI 4) (mI 5) (mR 4) hw) y_X0_choose rfl gX2_chooseLeavers_X0_choose rfl (ci := 0) (rq := 0) rfl rfl ⟨Nat.le_of_ble_eq_true rfl, Nat.le_of_ble_eq_true rfl⟩ ⟨Nat.zero_le _, Nat.zero_le _⟩ (Nat.le_of_ble_eq_true rfl) [17, 18] (by decide) rfl (fun _ => rfl) (fun u => (wHo aH cyI hI hR ++ wMi aH aM cyI (va_up (va_up mI 4 u.1) 5 u.2.1) (va_up mR 4 u.2.2))) (fun _ => rfl) (fun u hp => ?_)
  obtain ⟨cz_1, ct_1, cf_1⟩ := u
  replace hw := hp
  clear hp
  exact hRt 12 _ ((va_up (va_up mI 4 cz_1) 5 ct_1), (va_up mR 4 cf_1)) dX2_chooseLeavers_12 hw
set_option maxHeartbeats 4000000 in
set_option maxRecDepth 100000 in
theorem mX2_chooseLeavers (l : Launch) (D : va_G) (cyI cyB : ClassId) (aH : Nat → Nat) (aM : Nat → Nat) (x1 : Int32) (hI : Nat → Int32) (hR : Nat → Nat → Int32) (mI : Nat → Int32) (mR : Nat → Nat → Int32) {post : (Nat → Int32) → (Nat → Nat → Int32) → Prop} (hw : pX2_chooseLeavers x1 hI hR mI mR post) : zMv l yX2_chooseLeavers wsX2_chooseLeavers 2 44 D cyI cyB [.ref (aM 0), .int x1] (wHo aH cyI hI hR ++ wMi aH aM cyI mI mR) (S := ((Nat → Int32) × (Nat → Nat → Int32))) (fun u => (wHo aH cyI hI hR ++ wMi aH aM cyI u.1 u.2)) (fun u => post u.1 u.2) :=
  z_metv (cc := cX2_chooseLeavers) (nL := 2) (by decide +kernel) rfl (Nat.le_of_ble_eq_true rfl) (fun C hl F hRt => xX2_chooseLeavers_0 x1 hI hR mI mR F hRt hw)
theorem y_X2_chooseLeavers : zY yX2_chooseLeavers wsX2_chooseLeavers cX2_chooseLeavers 2 none 1 := ⟨⟨_, rfl⟩, by decide +kernel⟩
theorem iX2_chooseTakers_2 : ∀ w ∈ wsX20, w ∈ wsX2_chooseTakers := fun w h => List.mem_cons_of_mem _ (List.mem_append_left _ (List.mem_append_right _ h))
theorem kX2_chooseTakers_31 : zL wsX2_chooseTakers RX2 31 2 6 (.object "StillRoom$Choices") true := zL2 iX2_chooseTakers_2 (by decide) (List.mem_of_getElem? (i := 1) rfl) rfl rfl
theorem kX2_chooseTakers_38 : zL wsX2_chooseTakers RX2 38 2 8 .int false := zL2 iX2_chooseTakers_2 (by decide) (List.mem_of_getElem? (i := 2) rfl) rfl rfl
set_option maxHeartbeats 4000000 in
set_option maxRecDepth 100000 in
theorem xX2_chooseTakers_0 {C : zC} {D : va_G} {cyI cyB : ClassId} {aH : Nat → Nat} {aM : Nat → Nat} (x1 : Int32) (hI : Nat → Int32) (hR : Nat → Nat → Int32) (mI : Nat → Int32) (mR : Nat → Nat → Int32) (F : zF C D { frames := 2, cells := 0, slots := 0, locals := 44 } cX2_chooseTakers 2 wsX2_chooseTakers RX2 none cyI cyB) {post : (Nat → Int32) → (Nat → Nat → Int32) → Prop} (hRt : zRv C D cX2_chooseTakers 2 (S := ((Nat → Int32) × (Nat → Nat → Int32))) (fun u => (wHo aH cyI hI hR ++ wMi aH aM cyI u.1 u.2)) (fun u => post u.1 u.2)) (hw : pX2_chooseTakers x1 hI hR mI mR post) : zX C D 2 0 0 (wHo aH cyI hI hR ++ wMi aH aM cyI mI mR) 0 [(0, .ref (aM 0)), (1, .int x1)] [] := by
  refine z_aload_n F dX2_chooseTakers_0 1 rfl 0 rfl ?_
  refine z_get F dX2_chooseTakers_1 4 rfl kX2_chooseTakers_31 12 rfl rfl ?_
  refine z_aload_n F dX2_chooseTakers_4 5 rfl 0 rfl ?_
  refine z_get F dX2_chooseTakers_5 8 rfl kX2_chooseTakers_38 12 rfl rfl ?_
  refine z_iload_n F dX2_chooseTakers_8 9 rfl 1 rfl ?_
  refine z_callVv (As := [.int (mI 1), .int x1]) (st := []) F dX2_chooseTakers_9 12 rfl (mX0_choose C.1.2.1 D cyI cyB (fun j => aM (7 + j)) (mI 1) x1 (mI 6) (mI 7) (mR 5) hw) y_X0_choose rfl gX2_chooseTakers_X0_choose rfl (ci := 0) (rq := 0) rfl rfl ⟨Nat.le_of_ble_eq_true rfl, Nat.le_of_ble_eq_true rfl⟩ ⟨Nat.zero_le _, Nat.zero_le _⟩ (Nat.le_of_ble_eq_true rfl) [19, 20] (by decide) rfl (fun _ => rfl) (fun u => (wHo aH cyI hI hR ++ wMi aH aM cyI (va_up (va_up mI 6 u.1) 7 u.2.1) (va_up mR 5 u.2.2))) (fun _ => rfl) (fun u hp => ?_)
  obtain ⟨cz_1, ct_1, cf_1⟩ := u
  replace hw := hp
  clear hp
  exact hRt 12 _ ((va_up (va_up mI 6 cz_1) 7 ct_1), (va_up mR 5 cf_1)) dX2_chooseTakers_12 hw
set_option maxHeartbeats 4000000 in
set_option maxRecDepth 100000 in
theorem mX2_chooseTakers (l : Launch) (D : va_G) (cyI cyB : ClassId) (aH : Nat → Nat) (aM : Nat → Nat) (x1 : Int32) (hI : Nat → Int32) (hR : Nat → Nat → Int32) (mI : Nat → Int32) (mR : Nat → Nat → Int32) {post : (Nat → Int32) → (Nat → Nat → Int32) → Prop} (hw : pX2_chooseTakers x1 hI hR mI mR post) : zMv l yX2_chooseTakers wsX2_chooseTakers 2 44 D cyI cyB [.ref (aM 0), .int x1] (wHo aH cyI hI hR ++ wMi aH aM cyI mI mR) (S := ((Nat → Int32) × (Nat → Nat → Int32))) (fun u => (wHo aH cyI hI hR ++ wMi aH aM cyI u.1 u.2)) (fun u => post u.1 u.2) :=
  z_metv (cc := cX2_chooseTakers) (nL := 2) (by decide +kernel) rfl (Nat.le_of_ble_eq_true rfl) (fun C hl F hRt => xX2_chooseTakers_0 x1 hI hR mI mR F hRt hw)
theorem y_X2_chooseTakers : zY yX2_chooseTakers wsX2_chooseTakers cX2_chooseTakers 2 none 1 := ⟨⟨_, rfl⟩, by decide +kernel⟩
theorem iX2_neverHappens_L_0 : ∀ w ∈ wsX00, w ∈ wsX2_neverHappens := fun w h => List.mem_cons_of_mem _ (List.mem_append_left _ (List.mem_append_left _ (List.mem_append_left _ (List.mem_append_right _ h))))
theorem kX2_neverHappens_L_118 : zL wsX2_neverHappens RX2 118 0 2 .int false := zL0 iX2_neverHappens_L_0 (by decide) (List.mem_of_getElem? (i := 1) rfl) rfl rfl
theorem kX2_neverHappens_L_121 : zL wsX2_neverHappens RX2 121 0 1 .int false := zL0 iX2_neverHappens_L_0 (by decide) (List.mem_of_getElem? (i := 2) rfl) rfl rfl
theorem kX2_neverHappens_L_122 : zL wsX2_neverHappens RX2 122 0 0 (.array .int) true := zL0 iX2_neverHappens_L_0 (by decide) (List.mem_of_getElem? (i := 3) rfl) rfl rfl
set_option maxHeartbeats 4000000 in
set_option maxRecDepth 100000 in
theorem xX2_neverHappens_L_8 {C : zC} {D : va_G} {cyI cyB : ClassId} {aH : Nat → Nat} {aM : Nat → Nat} (x1 : Int32) (hI : Nat → Int32) (hR : Nat → Nat → Int32) (F : zF C D { frames := 2, cells := 0, slots := 0, locals := 50 } cX2_neverHappens 5 wsX2_neverHappens RX2 (some .boolean) cyI cyB) {post : Bool → (Nat → Int32) → (Nat → Nat → Int32) → Prop} (hRt : zRz C D cX2_neverHappens 5 (S := ((Nat → Int32) × (Nat → Nat → Int32))) (fun u => (wHo aH cyI hI hR ++ wMi aH aM cyI u.1 u.2)) (fun r u => ∃ b : Bool, r = zb b ∧ post b u.1 u.2)) : ∀ (n : Nat) (x3 : Int32) (x4 : Int32) (mI : Nat → Int32) (mR : Nat → Nat → Int32), bX2_neverHappens_L_8 x1 hI hR post  n x3 x4 mI mR → zX C D 5 0 0 (wHo aH cyI hI hR ++ wMi aH aM cyI mI mR) 8 [(0, .ref (aM 0)), (1, .int x1), (2, .ref (aM 5)), (3, .int x3), (4, .int x4)] [] := by
  intro n
  induction n with
  | zero => intro _ _ _ _ hw; exact hw.elim
  | succ n ih =>
    intro x3 x4 mI mR hw
    refine z_iload F dX2_neverHappens_8 10 rfl 4 rfl ?_
    refine z_aload_n F dX2_neverHappens_10 11 rfl 2 rfl ?_
    refine z_get F dX2_neverHappens_11 14 rfl kX2_neverHappens_L_121 17 rfl rfl ?_
    obtain ⟨hwt, hwf⟩ := hw
    refine z_icmpge F dX2_neverHappens_14 50 rfl 17 rfl (fun c1 => ?_) (fun c1 => ?_)
    · have hw := hwt c1; clear hwt hwf
      refine z_iconst F dX2_neverHappens_50 51 rfl zki_1 ?_
      exact hRt 51 _ true (mI, mR) dX2_neverHappens_51 ⟨true, rfl, hw⟩
    · have hw := hwf c1; clear hwt hwf
      refine z_aload_n F dX2_neverHappens_17 18 rfl 0 rfl ?_
      refine z_iload_n F dX2_neverHappens_18 19 rfl 1 rfl ?_
      refine z_aload_n F dX2_neverHappens_19 20 rfl 2 rfl ?_
      refine z_get F dX2_neverHappens_20 23 rfl kX2_neverHappens_L_122 17 rfl rfl ?_
      refine z_iload_n F dX2_neverHappens_23 24 rfl 3 rfl ?_
      obtain ⟨j1, ej1, hj1, hw⟩ := hw
      refine z_iald F dX2_neverHappens_24 25 rfl 18 rfl (by decide) j1 ej1 hj1 ?_
      refine z_segVi (As := [.int x1, .int ((mR 4) j1)]) (st := []) F dX2_neverHappens_25 28 rfl (mX2_happens C.1.2.1 D cyI cyB aH aM x1 ((mR 4) j1) hI hR mI mR hw) y_X2_happens rfl gX2_neverHappens_X2_happens rfl (ci := 2) (rq := 12) rfl rfl ⟨Nat.le_of_ble_eq_true rfl, Nat.le_of_ble_eq_true rfl⟩ ⟨Nat.zero_le _, Nat.zero_le _⟩ (Nat.le_of_ble_eq_true rfl) [] [] (by simp only [List.append_assoc, List.nil_append, List.append_nil]) (fun _ => rfl) (fun u => (wHo aH cyI hI hR ++ wMi aH aM cyI mI mR)) (fun u => (by simp only [List.append_assoc, List.nil_append, List.append_nil])) (fun r0 u hp => ?_)
      obtain ⟨b1, rfl, hw⟩ := hp
      obtain ⟨hwt, hwf⟩ := hw
      refine z_ifeqB F dX2_neverHappens_28 38 rfl 31 rfl (fun c2 => ?_) (fun c2 => ?_)
      · have hw := hwt c2; clear hwt hwf
        refine z_aload_n F dX2_neverHappens_38 39 rfl 2 rfl ?_
        refine z_iload_n F dX2_neverHappens_39 40 rfl 3 rfl ?_
        refine z_callVi (As := [.int x3]) (st := []) F dX2_neverHappens_40 43 rfl (mX0_next C.1.2.1 D cyI cyB (fun j => aM (5 + j)) x3 (mI 4) (mI 5) (mR 4) hw) y_X0_next rfl gX2_neverHappens_X0_next rfl (ci := 0) (rq := 0) rfl rfl ⟨Nat.le_of_ble_eq_true rfl, Nat.le_of_ble_eq_true rfl⟩ ⟨Nat.zero_le _, Nat.zero_le _⟩ (Nat.le_of_ble_eq_true rfl) [17, 18] (by decide) rfl (fun _ => rfl) (fun u => (wHo aH cyI hI hR ++ wMi aH aM cyI mI mR)) (fun _ => rfl) (fun r1 u hp => ?_)
        replace hw := hp
        clear hp
        refine z_istore_n (lv' := [(3, .int r1), (0, .ref (aM 0)), (1, .int x1), (2, .ref (aM 5)), (4, .int x4)]) F dX2_neverHappens_43 44 rfl (by decide) rfl ?_
        refine z_iinc F dX2_neverHappens_44 47 rfl 4 rfl (by decide) zki_1 (fun v1 => [(4, .int v1), (3, .int r1), (0, .ref (aM 0)), (1, .int x1), (2, .ref (aM 5))]) (fun _ => rfl) (fun v1 ev1 => ?_)
        replace hw := hw v1 ev1
        refine z_goto F dX2_neverHappens_47 8 rfl ?_
        refine z_lv (lv' := [(0, .ref (aM 0)), (1, .int x1), (2, .ref (aM 5)), (3, .int r1), (4, .int v1)]) [2, 3, 4, 1, 0] rfl ?_
        exact ih r1 v1 mI mR hw
      · have hw := hwf c2; clear hwt hwf
        refine z_aload_n F dX2_neverHappens_31 32 rfl 2 rfl ?_
        refine z_iload_n F dX2_neverHappens_32 33 rfl 3 rfl ?_
        refine z_put F dX2_neverHappens_33 36 rfl kX2_neverHappens_L_118 17 rfl rfl rfl (Nat.le_of_ble_eq_true rfl) (wHo aH cyI hI hR ++ wMi aH aM cyI (va_up mI 5 x3) mR) rfl ?_
        refine z_iconst F dX2_neverHappens_36 37 rfl zki_0 ?_
        exact hRt 37 _ false ((va_up mI 5 x3), mR) dX2_neverHappens_37 ⟨false, rfl, hw⟩
set_option maxHeartbeats 4000000 in
set_option maxRecDepth 100000 in
theorem xX2_neverHappens_L_0 {C : zC} {D : va_G} {cyI cyB : ClassId} {aH : Nat → Nat} {aM : Nat → Nat} (x1 : Int32) (hI : Nat → Int32) (hR : Nat → Nat → Int32) (mI : Nat → Int32) (mR : Nat → Nat → Int32) (F : zF C D { frames := 2, cells := 0, slots := 0, locals := 50 } cX2_neverHappens 5 wsX2_neverHappens RX2 (some .boolean) cyI cyB) {post : Bool → (Nat → Int32) → (Nat → Nat → Int32) → Prop} (hRt : zRz C D cX2_neverHappens 5 (S := ((Nat → Int32) × (Nat → Nat → Int32))) (fun u => (wHo aH cyI hI hR ++ wMi aH aM cyI u.1 u.2)) (fun r u => ∃ b : Bool, r = zb b ∧ post b u.1 u.2)) (hw : pX2_neverHappens_L x1 hI hR mI mR post) : zX C D 5 0 0 (wHo aH cyI hI hR ++ wMi aH aM cyI mI mR) 0 [(0, .ref (aM 0)), (1, .int x1), (2, .ref (aM 5))] [] := by
  refine z_aload_n F dX2_neverHappens_0 1 rfl 2 rfl ?_
  refine z_get F dX2_neverHappens_1 4 rfl kX2_neverHappens_L_118 17 rfl rfl ?_
  refine z_istore_n (lv' := [(3, .int (mI 5)), (0, .ref (aM 0)), (1, .int x1), (2, .ref (aM 5))]) F dX2_neverHappens_4 5 rfl (by decide) rfl ?_
  refine z_iconst F dX2_neverHappens_5 6 rfl zki_0 ?_
  refine z_istore (lv' := [(4, .int 0), (3, .int (mI 5)), (0, .ref (aM 0)), (1, .int x1), (2, .ref (aM 5))]) F dX2_neverHappens_6 8 rfl (by decide) rfl ?_
  obtain ⟨n1, hw⟩ := hw
  refine z_lv (lv' := [(0, .ref (aM 0)), (1, .int x1), (2, .ref (aM 5)), (3, .int (mI 5)), (4, .int 0)]) [2, 3, 4, 1, 0] rfl ?_
  refine xX2_neverHappens_L_8 x1 hI hR F hRt n1 (mI 5) 0 mI mR hw
set_option maxHeartbeats 4000000 in
set_option maxRecDepth 100000 in
theorem mX2_neverHappens_L (l : Launch) (D : va_G) (cyI cyB : ClassId) (aH : Nat → Nat) (aM : Nat → Nat) (x1 : Int32) (hI : Nat → Int32) (hR : Nat → Nat → Int32) (mI : Nat → Int32) (mR : Nat → Nat → Int32) {post : Bool → (Nat → Int32) → (Nat → Nat → Int32) → Prop} (hw : pX2_neverHappens_L x1 hI hR mI mR post) : zMi l yX2_neverHappens wsX2_neverHappens 2 50 D cyI cyB [.ref (aM 0), .int x1, .ref (aM 5)] (wHo aH cyI hI hR ++ wMi aH aM cyI mI mR) (S := ((Nat → Int32) × (Nat → Nat → Int32))) (fun u => (wHo aH cyI hI hR ++ wMi aH aM cyI u.1 u.2)) (fun r u => ∃ b : Bool, r = zb b ∧ post b u.1 u.2) :=
  z_metz (cc := cX2_neverHappens) (nL := 5) (by decide +kernel) rfl (Nat.le_of_ble_eq_true rfl) (fun C hl F hRt => xX2_neverHappens_L_0 x1 hI hR mI mR F hRt hw)
theorem y_X2_neverHappens_L : zY yX2_neverHappens wsX2_neverHappens cX2_neverHappens 5 (some .boolean) 2 := ⟨⟨_, rfl⟩, by decide +kernel⟩
theorem iX2_neverHappens_T_0 : ∀ w ∈ wsX00, w ∈ wsX2_neverHappens := fun w h => List.mem_cons_of_mem _ (List.mem_append_left _ (List.mem_append_left _ (List.mem_append_left _ (List.mem_append_right _ h))))
theorem kX2_neverHappens_T_118 : zL wsX2_neverHappens RX2 118 0 2 .int false := zL0 iX2_neverHappens_T_0 (by decide) (List.mem_of_getElem? (i := 1) rfl) rfl rfl
theorem kX2_neverHappens_T_121 : zL wsX2_neverHappens RX2 121 0 1 .int false := zL0 iX2_neverHappens_T_0 (by decide) (List.mem_of_getElem? (i := 2) rfl) rfl rfl
theorem kX2_neverHappens_T_122 : zL wsX2_neverHappens RX2 122 0 0 (.array .int) true := zL0 iX2_neverHappens_T_0 (by decide) (List.mem_of_getElem? (i := 3) rfl) rfl rfl
set_option maxHeartbeats 4000000 in
set_option maxRecDepth 100000 in
theorem xX2_neverHappens_T_8 {C : zC} {D : va_G} {cyI cyB : ClassId} {aH : Nat → Nat} {aM : Nat → Nat} (x1 : Int32) (hI : Nat → Int32) (hR : Nat → Nat → Int32) (F : zF C D { frames := 2, cells := 0, slots := 0, locals := 50 } cX2_neverHappens 5 wsX2_neverHappens RX2 (some .boolean) cyI cyB) {post : Bool → (Nat → Int32) → (Nat → Nat → Int32) → Prop} (hRt : zRz C D cX2_neverHappens 5 (S := ((Nat → Int32) × (Nat → Nat → Int32))) (fun u => (wHo aH cyI hI hR ++ wMi aH aM cyI u.1 u.2)) (fun r u => ∃ b : Bool, r = zb b ∧ post b u.1 u.2)) : ∀ (n : Nat) (x3 : Int32) (x4 : Int32) (mI : Nat → Int32) (mR : Nat → Nat → Int32), bX2_neverHappens_T_8 x1 hI hR post  n x3 x4 mI mR → zX C D 5 0 0 (wHo aH cyI hI hR ++ wMi aH aM cyI mI mR) 8 [(0, .ref (aM 0)), (1, .int x1), (2, .ref (aM 7)), (3, .int x3), (4, .int x4)] [] := by
  intro n
  induction n with
  | zero => intro _ _ _ _ hw; exact hw.elim
  | succ n ih =>
    intro x3 x4 mI mR hw
    refine z_iload F dX2_neverHappens_8 10 rfl 4 rfl ?_
    refine z_aload_n F dX2_neverHappens_10 11 rfl 2 rfl ?_
    refine z_get F dX2_neverHappens_11 14 rfl kX2_neverHappens_T_121 19 rfl rfl ?_
    obtain ⟨hwt, hwf⟩ := hw
    refine z_icmpge F dX2_neverHappens_14 50 rfl 17 rfl (fun c1 => ?_) (fun c1 => ?_)
    · have hw := hwt c1; clear hwt hwf
      refine z_iconst F dX2_neverHappens_50 51 rfl zki_1 ?_
      exact hRt 51 _ true (mI, mR) dX2_neverHappens_51 ⟨true, rfl, hw⟩
    · have hw := hwf c1; clear hwt hwf
      refine z_aload_n F dX2_neverHappens_17 18 rfl 0 rfl ?_
      refine z_iload_n F dX2_neverHappens_18 19 rfl 1 rfl ?_
      refine z_aload_n F dX2_neverHappens_19 20 rfl 2 rfl ?_
      refine z_get F dX2_neverHappens_20 23 rfl kX2_neverHappens_T_122 19 rfl rfl ?_
      refine z_iload_n F dX2_neverHappens_23 24 rfl 3 rfl ?_
      obtain ⟨j1, ej1, hj1, hw⟩ := hw
      refine z_iald F dX2_neverHappens_24 25 rfl 20 rfl (by decide) j1 ej1 hj1 ?_
      refine z_segVi (As := [.int x1, .int ((mR 5) j1)]) (st := []) F dX2_neverHappens_25 28 rfl (mX2_happens C.1.2.1 D cyI cyB aH aM x1 ((mR 5) j1) hI hR mI mR hw) y_X2_happens rfl gX2_neverHappens_X2_happens rfl (ci := 2) (rq := 12) rfl rfl ⟨Nat.le_of_ble_eq_true rfl, Nat.le_of_ble_eq_true rfl⟩ ⟨Nat.zero_le _, Nat.zero_le _⟩ (Nat.le_of_ble_eq_true rfl) [] [] (by simp only [List.append_assoc, List.nil_append, List.append_nil]) (fun _ => rfl) (fun u => (wHo aH cyI hI hR ++ wMi aH aM cyI mI mR)) (fun u => (by simp only [List.append_assoc, List.nil_append, List.append_nil])) (fun r0 u hp => ?_)
      obtain ⟨b1, rfl, hw⟩ := hp
      obtain ⟨hwt, hwf⟩ := hw
      refine z_ifeqB F dX2_neverHappens_28 38 rfl 31 rfl (fun c2 => ?_) (fun c2 => ?_)
      · have hw := hwt c2; clear hwt hwf
        refine z_aload_n F dX2_neverHappens_38 39 rfl 2 rfl ?_
        refine z_iload_n F dX2_neverHappens_39 40 rfl 3 rfl ?_
        refine z_callVi (As := [.int x3]) (st := []) F dX2_neverHappens_40 43 rfl (mX0_next C.1.2.1 D cyI cyB (fun j => aM (7 + j)) x3 (mI 6) (mI 7) (mR 5) hw) y_X0_next rfl gX2_neverHappens_X0_next rfl (ci := 0) (rq := 0) rfl rfl ⟨Nat.le_of_ble_eq_true rfl, Nat.le_of_ble_eq_true rfl⟩ ⟨Nat.zero_le _, Nat.zero_le _⟩ (Nat.le_of_ble_eq_true rfl) [19, 20] (by decide) rfl (fun _ => rfl) (fun u => (wHo aH cyI hI hR ++ wMi aH aM cyI mI mR)) (fun _ => rfl) (fun r1 u hp => ?_)
        replace hw := hp
        clear hp
        refine z_istore_n (lv' := [(3, .int r1), (0, .ref (aM 0)), (1, .int x1), (2, .ref (aM 7)), (4, .int x4)]) F dX2_neverHappens_43 44 rfl (by decide) rfl ?_
        refine z_iinc F dX2_neverHappens_44 47 rfl 4 rfl (by decide) zki_1 (fun v1 => [(4, .int v1), (3, .int r1), (0, .ref (aM 0)), (1, .int x1), (2, .ref (aM 7))]) (fun _ => rfl) (fun v1 ev1 => ?_)
        replace hw := hw v1 ev1
        refine z_goto F dX2_neverHappens_47 8 rfl ?_
        refine z_lv (lv' := [(0, .ref (aM 0)), (1, .int x1), (2, .ref (aM 7)), (3, .int r1), (4, .int v1)]) [2, 3, 4, 1, 0] rfl ?_
        exact ih r1 v1 mI mR hw
      · have hw := hwf c2; clear hwt hwf
        refine z_aload_n F dX2_neverHappens_31 32 rfl 2 rfl ?_
        refine z_iload_n F dX2_neverHappens_32 33 rfl 3 rfl ?_
        refine z_put F dX2_neverHappens_33 36 rfl kX2_neverHappens_T_118 19 rfl rfl rfl (Nat.le_of_ble_eq_true rfl) (wHo aH cyI hI hR ++ wMi aH aM cyI (va_up mI 7 x3) mR) rfl ?_
        refine z_iconst F dX2_neverHappens_36 37 rfl zki_0 ?_
        exact hRt 37 _ false ((va_up mI 7 x3), mR) dX2_neverHappens_37 ⟨false, rfl, hw⟩
set_option maxHeartbeats 4000000 in
set_option maxRecDepth 100000 in
theorem xX2_neverHappens_T_0 {C : zC} {D : va_G} {cyI cyB : ClassId} {aH : Nat → Nat} {aM : Nat → Nat} (x1 : Int32) (hI : Nat → Int32) (hR : Nat → Nat → Int32) (mI : Nat → Int32) (mR : Nat → Nat → Int32) (F : zF C D { frames := 2, cells := 0, slots := 0, locals := 50 } cX2_neverHappens 5 wsX2_neverHappens RX2 (some .boolean) cyI cyB) {post : Bool → (Nat → Int32) → (Nat → Nat → Int32) → Prop} (hRt : zRz C D cX2_neverHappens 5 (S := ((Nat → Int32) × (Nat → Nat → Int32))) (fun u => (wHo aH cyI hI hR ++ wMi aH aM cyI u.1 u.2)) (fun r u => ∃ b : Bool, r = zb b ∧ post b u.1 u.2)) (hw : pX2_neverHappens_T x1 hI hR mI mR post) : zX C D 5 0 0 (wHo aH cyI hI hR ++ wMi aH aM cyI mI mR) 0 [(0, .ref (aM 0)), (1, .int x1), (2, .ref (aM 7))] [] := by
  refine z_aload_n F dX2_neverHappens_0 1 rfl 2 rfl ?_
  refine z_get F dX2_neverHappens_1 4 rfl kX2_neverHappens_T_118 19 rfl rfl ?_
  refine z_istore_n (lv' := [(3, .int (mI 7)), (0, .ref (aM 0)), (1, .int x1), (2, .ref (aM 7))]) F dX2_neverHappens_4 5 rfl (by decide) rfl ?_
  refine z_iconst F dX2_neverHappens_5 6 rfl zki_0 ?_
  refine z_istore (lv' := [(4, .int 0), (3, .int (mI 7)), (0, .ref (aM 0)), (1, .int x1), (2, .ref (aM 7))]) F dX2_neverHappens_6 8 rfl (by decide) rfl ?_
  obtain ⟨n1, hw⟩ := hw
  refine z_lv (lv' := [(0, .ref (aM 0)), (1, .int x1), (2, .ref (aM 7)), (3, .int (mI 7)), (4, .int 0)]) [2, 3, 4, 1, 0] rfl ?_
  refine xX2_neverHappens_T_8 x1 hI hR F hRt n1 (mI 7) 0 mI mR hw
set_option maxHeartbeats 4000000 in
set_option maxRecDepth 100000 in
theorem mX2_neverHappens_T (l : Launch) (D : va_G) (cyI cyB : ClassId) (aH : Nat → Nat) (aM : Nat → Nat) (x1 : Int32) (hI : Nat → Int32) (hR : Nat → Nat → Int32) (mI : Nat → Int32) (mR : Nat → Nat → Int32) {post : Bool → (Nat → Int32) → (Nat → Nat → Int32) → Prop} (hw : pX2_neverHappens_T x1 hI hR mI mR post) : zMi l yX2_neverHappens wsX2_neverHappens 2 50 D cyI cyB [.ref (aM 0), .int x1, .ref (aM 7)] (wHo aH cyI hI hR ++ wMi aH aM cyI mI mR) (S := ((Nat → Int32) × (Nat → Nat → Int32))) (fun u => (wHo aH cyI hI hR ++ wMi aH aM cyI u.1 u.2)) (fun r u => ∃ b : Bool, r = zb b ∧ post b u.1 u.2) :=
  z_metz (cc := cX2_neverHappens) (nL := 5) (by decide +kernel) rfl (Nat.le_of_ble_eq_true rfl) (fun C hl F hRt => xX2_neverHappens_T_0 x1 hI hR mI mR F hRt hw)
theorem y_X2_neverHappens_T : zY yX2_neverHappens wsX2_neverHappens cX2_neverHappens 5 (some .boolean) 2 := ⟨⟨_, rfl⟩, by decide +kernel⟩
theorem iX2_isKept_2 : ∀ w ∈ wsX20, w ∈ wsX2_isKept := fun w h => List.mem_cons_of_mem _ (List.mem_append_left _ (List.mem_append_left _ (List.mem_append_left _ (List.mem_append_right _ h))))
theorem kX2_isKept_27 : zL wsX2_isKept RX2 27 2 5 (.object "StillRoom$Choices") true := zL2 iX2_isKept_2 (by decide) (List.mem_of_getElem? (i := 1) rfl) rfl rfl
set_option maxHeartbeats 4000000 in
set_option maxRecDepth 100000 in
theorem xX2_isKept_0 {C : zC} {D : va_G} {cyI cyB : ClassId} {aH : Nat → Nat} {aM : Nat → Nat} (hI : Nat → Int32) (hR : Nat → Nat → Int32) (mI : Nat → Int32) (mR : Nat → Nat → Int32) (F : zF C D { frames := 3, cells := 0, slots := 0, locals := 74 } cX2_isKept 1 wsX2_isKept RX2 (some .boolean) cyI cyB) {post : Bool → (Nat → Int32) → (Nat → Nat → Int32) → Prop} (hRt : zRz C D cX2_isKept 1 (S := ((Nat → Int32) × (Nat → Nat → Int32))) (fun u => (wHo aH cyI hI hR ++ wMi aH aM cyI u.1 u.2)) (fun r u => ∃ b : Bool, r = zb b ∧ post b u.1 u.2)) (hw : pX2_isKept hI hR mI mR post) : zX C D 1 0 0 (wHo aH cyI hI hR ++ wMi aH aM cyI mI mR) 0 [(0, .ref (aM 0))] [] := by
  refine z_aload_n F dX2_isKept_0 1 rfl 0 rfl ?_
  refine z_iconst F dX2_isKept_1 2 rfl zki_0 ?_
  refine z_aload_n F dX2_isKept_2 3 rfl 0 rfl ?_
  refine z_get F dX2_isKept_3 6 rfl kX2_isKept_27 12 rfl rfl ?_
  refine z_segVi (As := [.int 0, .ref (aM 5)]) (st := []) F dX2_isKept_6 9 rfl (mX2_neverHappens_L C.1.2.1 D cyI cyB aH aM 0 hI hR mI mR hw) y_X2_neverHappens_L rfl gX2_isKept_X2_neverHappens rfl (ci := 2) (rq := 12) rfl rfl ⟨Nat.le_of_ble_eq_true rfl, Nat.le_of_ble_eq_true rfl⟩ ⟨Nat.zero_le _, Nat.zero_le _⟩ (Nat.le_of_ble_eq_true rfl) [] [] (by simp only [List.append_assoc, List.nil_append, List.append_nil]) (fun _ => rfl) (fun u => (wHo aH cyI hI hR ++ wMi aH aM cyI u.1 u.2)) (fun u => (by simp only [List.append_assoc, List.nil_append, List.append_nil])) (fun r0 u hp => ?_)
  obtain ⟨mI_1, mR_1⟩ := u
  obtain ⟨b1, rfl, hw⟩ := hp
  exact hRt 9 _ b1 (mI_1, mR_1) dX2_isKept_9 ⟨b1, rfl, hw⟩
set_option maxHeartbeats 4000000 in
set_option maxRecDepth 100000 in
theorem mX2_isKept (l : Launch) (D : va_G) (cyI cyB : ClassId) (aH : Nat → Nat) (aM : Nat → Nat) (hI : Nat → Int32) (hR : Nat → Nat → Int32) (mI : Nat → Int32) (mR : Nat → Nat → Int32) {post : Bool → (Nat → Int32) → (Nat → Nat → Int32) → Prop} (hw : pX2_isKept hI hR mI mR post) : zMi l yX2_isKept wsX2_isKept 3 74 D cyI cyB [.ref (aM 0)] (wHo aH cyI hI hR ++ wMi aH aM cyI mI mR) (S := ((Nat → Int32) × (Nat → Nat → Int32))) (fun u => (wHo aH cyI hI hR ++ wMi aH aM cyI u.1 u.2)) (fun r u => ∃ b : Bool, r = zb b ∧ post b u.1 u.2) :=
  z_metz (cc := cX2_isKept) (nL := 1) (by decide +kernel) rfl (Nat.le_of_ble_eq_true rfl) (fun C hl F hRt => xX2_isKept_0 hI hR mI mR F hRt hw)
theorem y_X2_isKept : zY yX2_isKept wsX2_isKept cX2_isKept 1 (some .boolean) 0 := ⟨⟨_, rfl⟩, by decide +kernel⟩
theorem iX2_isSafe_2 : ∀ w ∈ wsX20, w ∈ wsX2_isSafe := fun w h => List.mem_cons_of_mem _ (List.mem_append_left _ (List.mem_append_left _ (List.mem_append_left _ (List.mem_append_right _ h))))
theorem kX2_isSafe_31 : zL wsX2_isSafe RX2 31 2 6 (.object "StillRoom$Choices") true := zL2 iX2_isSafe_2 (by decide) (List.mem_of_getElem? (i := 1) rfl) rfl rfl
set_option maxHeartbeats 4000000 in
set_option maxRecDepth 100000 in
theorem xX2_isSafe_0 {C : zC} {D : va_G} {cyI cyB : ClassId} {aH : Nat → Nat} {aM : Nat → Nat} (hI : Nat → Int32) (hR : Nat → Nat → Int32) (mI : Nat → Int32) (mR : Nat → Nat → Int32) (F : zF C D { frames := 3, cells := 0, slots := 0, locals := 74 } cX2_isSafe 1 wsX2_isSafe RX2 (some .boolean) cyI cyB) {post : Bool → (Nat → Int32) → (Nat → Nat → Int32) → Prop} (hRt : zRz C D cX2_isSafe 1 (S := ((Nat → Int32) × (Nat → Nat → Int32))) (fun u => (wHo aH cyI hI hR ++ wMi aH aM cyI u.1 u.2)) (fun r u => ∃ b : Bool, r = zb b ∧ post b u.1 u.2)) (hw : pX2_isSafe hI hR mI mR post) : zX C D 1 0 0 (wHo aH cyI hI hR ++ wMi aH aM cyI mI mR) 0 [(0, .ref (aM 0))] [] := by
  refine z_aload_n F dX2_isSafe_0 1 rfl 0 rfl ?_
  refine z_iconst F dX2_isSafe_1 2 rfl zki_1 ?_
  refine z_aload_n F dX2_isSafe_2 3 rfl 0 rfl ?_
  refine z_get F dX2_isSafe_3 6 rfl kX2_isSafe_31 12 rfl rfl ?_
  refine z_segVi (As := [.int 1, .ref (aM 7)]) (st := []) F dX2_isSafe_6 9 rfl (mX2_neverHappens_T C.1.2.1 D cyI cyB aH aM 1 hI hR mI mR hw) y_X2_neverHappens_T rfl gX2_isSafe_X2_neverHappens rfl (ci := 2) (rq := 12) rfl rfl ⟨Nat.le_of_ble_eq_true rfl, Nat.le_of_ble_eq_true rfl⟩ ⟨Nat.zero_le _, Nat.zero_le _⟩ (Nat.le_of_ble_eq_true rfl) [] [] (by simp only [List.append_assoc, List.nil_append, List.append_nil]) (fun _ => rfl) (fun u => (wHo aH cyI hI hR ++ wMi aH aM cyI u.1 u.2)) (fun u => (by simp only [List.append_assoc, List.nil_append, List.append_nil])) (fun r0 u hp => ?_)
  obtain ⟨mI_1, mR_1⟩ := u
  obtain ⟨b1, rfl, hw⟩ := hp
  exact hRt 9 _ b1 (mI_1, mR_1) dX2_isSafe_9 ⟨b1, rfl, hw⟩
set_option maxHeartbeats 4000000 in
set_option maxRecDepth 100000 in
theorem mX2_isSafe (l : Launch) (D : va_G) (cyI cyB : ClassId) (aH : Nat → Nat) (aM : Nat → Nat) (hI : Nat → Int32) (hR : Nat → Nat → Int32) (mI : Nat → Int32) (mR : Nat → Nat → Int32) {post : Bool → (Nat → Int32) → (Nat → Nat → Int32) → Prop} (hw : pX2_isSafe hI hR mI mR post) : zMi l yX2_isSafe wsX2_isSafe 3 74 D cyI cyB [.ref (aM 0)] (wHo aH cyI hI hR ++ wMi aH aM cyI mI mR) (S := ((Nat → Int32) × (Nat → Nat → Int32))) (fun u => (wHo aH cyI hI hR ++ wMi aH aM cyI u.1 u.2)) (fun r u => ∃ b : Bool, r = zb b ∧ post b u.1 u.2) :=
  z_metz (cc := cX2_isSafe) (nL := 1) (by decide +kernel) rfl (Nat.le_of_ble_eq_true rfl) (fun C hl F hRt => xX2_isSafe_0 hI hR mI mR F hRt hw)
theorem y_X2_isSafe : zY yX2_isSafe wsX2_isSafe cX2_isSafe 1 (some .boolean) 0 := ⟨⟨_, rfl⟩, by decide +kernel⟩
theorem iX2_holds_2 : ∀ w ∈ wsX20, w ∈ wsX2_holds := fun w h => List.mem_cons_of_mem _ (List.mem_append_left _ (List.mem_append_left _ (List.mem_append_left _ (List.mem_append_right _ h))))
theorem kX2_holds_27 : zL wsX2_holds RX2 27 2 5 (.object "StillRoom$Choices") true := zL2 iX2_holds_2 (by decide) (List.mem_of_getElem? (i := 1) rfl) rfl rfl
theorem kX2_holds_31 : zL wsX2_holds RX2 31 2 6 (.object "StillRoom$Choices") true := zL2 iX2_holds_2 (by decide) (List.mem_of_getElem? (i := 2) rfl) rfl rfl
set_option maxHeartbeats 4000000 in
set_option maxRecDepth 100000 in
theorem xX2_holds_0 {C : zC} {D : va_G} {cyI cyB : ClassId} {aH : Nat → Nat} {aM : Nat → Nat} (hI : Nat → Int32) (hR : Nat → Nat → Int32) (mI : Nat → Int32) (mR : Nat → Nat → Int32) (F : zF C D { frames := 3, cells := 0, slots := 0, locals := 74 } cX2_holds 1 wsX2_holds RX2 (some .boolean) cyI cyB) {post : Bool → (Nat → Int32) → (Nat → Nat → Int32) → Prop} (hRt : zRz C D cX2_holds 1 (S := ((Nat → Int32) × (Nat → Nat → Int32))) (fun u => (wHo aH cyI hI hR ++ wMi aH aM cyI u.1 u.2)) (fun r u => ∃ b : Bool, r = zb b ∧ post b u.1 u.2)) (hw : pX2_holds hI hR mI mR post) : zX C D 1 0 0 (wHo aH cyI hI hR ++ wMi aH aM cyI mI mR) 0 [(0, .ref (aM 0))] [] := by
  refine z_aload_n F dX2_holds_0 1 rfl 0 rfl ?_
  refine z_iconst F dX2_holds_1 2 rfl zki_0 ?_
  refine z_aload_n F dX2_holds_2 3 rfl 0 rfl ?_
  refine z_get F dX2_holds_3 6 rfl kX2_holds_27 12 rfl rfl ?_
  refine z_segVi (As := [.int 0, .ref (aM 5)]) (st := []) F dX2_holds_6 9 rfl (mX2_neverHappens_L C.1.2.1 D cyI cyB aH aM 0 hI hR mI mR hw) y_X2_neverHappens_L rfl gX2_holds_X2_neverHappens rfl (ci := 2) (rq := 12) rfl rfl ⟨Nat.le_of_ble_eq_true rfl, Nat.le_of_ble_eq_true rfl⟩ ⟨Nat.zero_le _, Nat.zero_le _⟩ (Nat.le_of_ble_eq_true rfl) [] [] (by simp only [List.append_assoc, List.nil_append, List.append_nil]) (fun _ => rfl) (fun u => (wHo aH cyI hI hR ++ wMi aH aM cyI u.1 u.2)) (fun u => (by simp only [List.append_assoc, List.nil_append, List.append_nil])) (fun r0 u hp => ?_)
  obtain ⟨mI_1, mR_1⟩ := u
  obtain ⟨b1, rfl, hw⟩ := hp
  obtain ⟨hwt, hwf⟩ := hw
  refine z_ifeqB F dX2_holds_9 28 rfl 12 rfl (fun c1 => ?_) (fun c1 => ?_)
  · have hw := hwt c1; clear hwt hwf
    refine z_iconst F dX2_holds_28 29 rfl zki_0 ?_
    exact hRt 29 _ false (mI_1, mR_1) dX2_holds_29 ⟨false, rfl, hw⟩
  · have hw := hwf c1; clear hwt hwf
    refine z_aload_n F dX2_holds_12 13 rfl 0 rfl ?_
    refine z_iconst F dX2_holds_13 14 rfl zki_1 ?_
    refine z_aload_n F dX2_holds_14 15 rfl 0 rfl ?_
    refine z_get F dX2_holds_15 18 rfl kX2_holds_31 12 rfl rfl ?_
    refine z_segVi (As := [.int 1, .ref (aM 7)]) (st := []) F dX2_holds_18 21 rfl (mX2_neverHappens_T C.1.2.1 D cyI cyB aH aM 1 hI hR mI_1 mR_1 hw) y_X2_neverHappens_T rfl gX2_holds_X2_neverHappens rfl (ci := 2) (rq := 12) rfl rfl ⟨Nat.le_of_ble_eq_true rfl, Nat.le_of_ble_eq_true rfl⟩ ⟨Nat.zero_le _, Nat.zero_le _⟩ (Nat.le_of_ble_eq_true rfl) [] [] (by simp only [List.append_assoc, List.nil_append, List.append_nil]) (fun _ => rfl) (fun u => (wHo aH cyI hI hR ++ wMi aH aM cyI u.1 u.2)) (fun u => (by simp only [List.append_assoc, List.nil_append, List.append_nil])) (fun r0 u hp => ?_)
    obtain ⟨mI_2, mR_2⟩ := u
    obtain ⟨b2, rfl, hw⟩ := hp
    obtain ⟨hwt, hwf⟩ := hw
    refine z_ifeqB F dX2_holds_21 28 rfl 24 rfl (fun c2 => ?_) (fun c2 => ?_)
    · have hw := hwt c2; clear hwt hwf
      refine z_iconst F dX2_holds_28 29 rfl zki_0 ?_
      exact hRt 29 _ false (mI_2, mR_2) dX2_holds_29 ⟨false, rfl, hw⟩
    · have hw := hwf c2; clear hwt hwf
      refine z_iconst F dX2_holds_24 25 rfl zki_1 ?_
      refine z_goto F dX2_holds_25 29 rfl ?_
      exact hRt 29 _ true (mI_2, mR_2) dX2_holds_29 ⟨true, rfl, hw⟩
set_option maxHeartbeats 4000000 in
set_option maxRecDepth 100000 in
theorem mX2_holds (l : Launch) (D : va_G) (cyI cyB : ClassId) (aH : Nat → Nat) (aM : Nat → Nat) (hI : Nat → Int32) (hR : Nat → Nat → Int32) (mI : Nat → Int32) (mR : Nat → Nat → Int32) {post : Bool → (Nat → Int32) → (Nat → Nat → Int32) → Prop} (hw : pX2_holds hI hR mI mR post) : zMi l yX2_holds wsX2_holds 3 74 D cyI cyB [.ref (aM 0)] (wHo aH cyI hI hR ++ wMi aH aM cyI mI mR) (S := ((Nat → Int32) × (Nat → Nat → Int32))) (fun u => (wHo aH cyI hI hR ++ wMi aH aM cyI u.1 u.2)) (fun r u => ∃ b : Bool, r = zb b ∧ post b u.1 u.2) :=
  z_metz (cc := cX2_holds) (nL := 1) (by decide +kernel) rfl (Nat.le_of_ble_eq_true rfl) (fun C hl F hRt => xX2_holds_0 hI hR mI mR F hRt hw)
theorem y_X2_holds : zY yX2_holds wsX2_holds cX2_holds 1 (some .boolean) 0 := ⟨⟨_, rfl⟩, by decide +kernel⟩
