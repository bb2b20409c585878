theorem iX5_fewestWhoGo_1 : ∀ w ∈ wsX10, w ∈ wsX5_fewestWhoGo := fun w h => List.mem_cons_of_mem _ (List.mem_append_left _ (List.mem_append_left _ (List.mem_append_right _ h)))
theorem iX5_fewestWhoGo_5 : ∀ w ∈ wsX50, w ∈ wsX5_fewestWhoGo := fun w h => List.mem_cons_of_mem _ (List.mem_append_left _ (List.mem_append_left _ (List.mem_append_left _ (List.mem_append_right _ h))))
theorem kX5_fewestWhoGo_12 : zL wsX5_fewestWhoGo RX5 12 5 0 (.object "StillRoom$House") true := zL5 iX5_fewestWhoGo_5 (by decide) (List.mem_of_getElem? (i := 1) rfl) rfl rfl
theorem kX5_fewestWhoGo_21 : zL wsX5_fewestWhoGo RX5 21 5 1 (.object "StillRoom$Mind") true := zL5 iX5_fewestWhoGo_5 (by decide) (List.mem_of_getElem? (i := 3) rfl) rfl rfl
theorem kX5_fewestWhoGo_79 : zL wsX5_fewestWhoGo RX5 79 1 6 .int false := zL1 iX5_fewestWhoGo_1 (by decide) (List.mem_of_getElem? (i := 2) rfl) rfl rfl
set_option maxHeartbeats 4000000 in
set_option maxRecDepth 100000 in
theorem xX5_fewestWhoGo_9 {C : zC} {D : va_G} {cyI cyB : ClassId} {aS : Nat → Nat} {aT : Nat → Nat} {aH : Nat → Nat} {aM : Nat → Nat} {kp : Value} (x1 : Int32) (sI : Nat → Int32) (sR : Nat → Nat → Int32) (tI : Nat → Int32) (tR : Nat → Nat → Int32) (hI : Nat → Int32) (hR : Nat → Nat → Int32) (mI : Nat → Int32) (mR : Nat → Nat → Int32) (F : zF C D { frames := 2, cells := 0, slots := 0, locals := 50 } cX5_fewestWhoGo 6 wsX5_fewestWhoGo RX5 (some .int) cyI cyB) {post : Int32 → Prop} (hRt : zRi C D cX5_fewestWhoGo 6 (S := (Unit)) (fun u => (wSt aH aM aT aS kp cyI sI sR ++ wTe aT cyB tI tR ++ wHo aH cyI hI hR ++ wMi aH aM cyI mI mR)) (fun r u => post r )) : ∀ (n : Nat) (x2 : Int32) (x3 : Int32) (x4 : Int32), bX5_fewestWhoGo_9 x1 sI sR tI tR hI hR mI mR post  n x2 x3 x4 → zX C D 6 0 0 (wSt aH aM aT aS kp cyI sI sR ++ wTe aT cyB tI tR ++ wHo aH cyI hI hR ++ wMi aH aM cyI mI mR) 9 [(0, .ref (aS 0)), (1, .int x1), (2, .int x2), (3, .int x3), (4, .int x4)] [] := by
  intro n
  induction n with
  | zero => intro _ _ _ hw; exact hw.elim
  | succ n ih =>
    intro x2 x3 x4 hw
    refine z_iload F dX5_fewestWhoGo_9 11 rfl 4 rfl ?_
    refine z_iconst F dX5_fewestWhoGo_11 12 rfl zki_1 ?_
    refine z_aload_n F dX5_fewestWhoGo_12 13 rfl 0 rfl ?_
    refine z_get F dX5_fewestWhoGo_13 16 rfl kX5_fewestWhoGo_12 0 rfl rfl ?_
    refine z_get F dX5_fewestWhoGo_16 19 rfl kX5_fewestWhoGo_79 6 rfl rfl ?_
    refine z_ishl F dX5_fewestWhoGo_19 20 rfl ?_
    obtain ⟨hwt, hwf⟩ := hw
    refine z_icmpge F dX5_fewestWhoGo_20 73 rfl 23 rfl (fun c1 => ?_) (fun c1 => ?_)
    · have hw := hwt c1; clear hwt hwf
      refine z_iload_n F dX5_fewestWhoGo_73 74 rfl 2 rfl ?_
      exact hRt 74 _ x2 () dX5_fewestWhoGo_74 hw
    · have hw := hwf c1; clear hwt hwf
      refine z_iload F dX5_fewestWhoGo_23 25 rfl 4 rfl ?_
      refine z_callSi (As := [.int x4]) (st := []) F dX5_fewestWhoGo_25 28 rfl (mJ6_bitCount_0f7a4 C.1.2.1 D cyI cyB x4 hw) y_J6_bitCount_0f7a4 rfl gX5_fewestWhoGo_J6_bitCount_0f7a4 ⟨Nat.le_of_ble_eq_true rfl, Nat.le_of_ble_eq_true rfl⟩ ⟨Nat.zero_le _, Nat.zero_le _⟩ (Nat.le_of_ble_eq_true rfl) [] (by decide) rfl (fun _ => rfl) (fun u => (wSt aH aM aT aS kp cyI sI sR ++ wTe aT cyB tI tR ++ wHo aH cyI hI hR ++ wMi aH aM cyI mI mR)) (fun _ => rfl) (fun r1 u hp => ?_)
      replace hw := hp
      clear hp
      refine z_istore (lv' := [(5, .int r1), (0, .ref (aS 0)), (1, .int x1), (2, .int x2), (3, .int x3), (4, .int x4)]) F dX5_fewestWhoGo_28 30 rfl (by decide) rfl ?_
      refine z_iload F dX5_fewestWhoGo_30 32 rfl 0 rfl ?_
      refine z_iload_n F dX5_fewestWhoGo_32 33 rfl 4 rfl ?_
      obtain ⟨hwt, hwf⟩ := hw
      refine z_icmpge F dX5_fewestWhoGo_33 67 rfl 36 rfl (fun c2 => ?_) (fun c2 => ?_)
      · have hw := hwt c2; clear hwt hwf
        refine z_iinc F dX5_fewestWhoGo_67 70 rfl 5 rfl (by decide) zki_1 (fun v1 => [(4, .int v1), (5, .int r1), (0, .ref (aS 0)), (1, .int x1), (2, .int x2), (3, .int x3)]) (fun _ => rfl) (fun v1 ev1 => ?_)
        replace hw := hw v1 ev1
        refine z_goto F dX5_fewestWhoGo_70 9 rfl ?_
        refine z_lv (lv' := [(0, .ref (aS 0)), (1, .int x1), (2, .int x2), (3, .int x3), (4, .int v1)]) [2, 3, 4, 5, 0] rfl ?_
        exact ih x2 x3 v1 hw
      · have hw := hwf c2; clear hwt hwf
        refine z_aload_n F dX5_fewestWhoGo_36 37 rfl 1 rfl ?_
        refine z_get F dX5_fewestWhoGo_37 40 rfl kX5_fewestWhoGo_21 0 rfl rfl ?_
        refine z_iload F dX5_fewestWhoGo_40 42 rfl 5 rfl ?_
        refine z_segVi (As := [.int x4]) (st := []) F dX5_fewestWhoGo_42 45 rfl (mX2_areHere C.1.2.1 D cyI cyB aH aM x4 hI hR mI mR hw) y_X2_areHere rfl gX5_fewestWhoGo_X2_areHere rfl (ci := 2) (rq := 12) rfl rfl ⟨Nat.le_of_ble_eq_true rfl, Nat.le_of_ble_eq_true rfl⟩ ⟨Nat.zero_le _, Nat.zero_le _⟩ (Nat.le_of_ble_eq_true rfl) (wSt aH aM aT aS kp cyI sI sR ++ wTe aT cyB tI tR) [] (by simp only [List.append_assoc, List.nil_append, List.append_nil]) (fun _ => rfl) (fun u => (wSt aH aM aT aS kp cyI sI sR ++ wTe aT cyB tI tR ++ wHo aH cyI hI hR ++ wMi aH aM cyI mI mR)) (fun u => (by simp only [List.append_assoc, List.nil_append, List.append_nil])) (fun r0 u hp => ?_)
        obtain ⟨b1, rfl, hw⟩ := hp
        obtain ⟨hwt, hwf⟩ := hw
        refine z_ifeqB F dX5_fewestWhoGo_45 67 rfl 48 rfl (fun c3 => ?_) (fun c3 => ?_)
        · have hw := hwt c3; clear hwt hwf
          refine z_iinc F dX5_fewestWhoGo_67 70 rfl 5 rfl (by decide) zki_1 (fun v2 => [(4, .int v2), (5, .int r1), (0, .ref (aS 0)), (1, .int x1), (2, .int x2), (3, .int x3)]) (fun _ => rfl) (fun v2 ev2 => ?_)
          replace hw := hw v2 ev2
          refine z_goto F dX5_fewestWhoGo_70 9 rfl ?_
          refine z_lv (lv' := [(0, .ref (aS 0)), (1, .int x1), (2, .int x2), (3, .int x3), (4, .int v2)]) [2, 3, 4, 5, 0] rfl ?_
          exact ih x2 x3 v2 hw
        · have hw := hwf c3; clear hwt hwf
          refine z_aload_n F dX5_fewestWhoGo_48 49 rfl 1 rfl ?_
          refine z_get F dX5_fewestWhoGo_49 52 rfl kX5_fewestWhoGo_21 0 rfl rfl ?_
          refine z_iload_n F dX5_fewestWhoGo_52 53 rfl 2 rfl ?_
          refine z_iload F dX5_fewestWhoGo_53 55 rfl 5 rfl ?_
          refine z_segVi (As := [.int x1, .int x4]) (st := []) F dX5_fewestWhoGo_55 58 rfl (mX2_happens C.1.2.1 D cyI cyB aH aM x1 x4 hI hR mI mR hw) y_X2_happens rfl gX5_fewestWhoGo_X2_happens rfl (ci := 2) (rq := 12) rfl rfl ⟨Nat.le_of_ble_eq_true rfl, Nat.le_of_ble_eq_true rfl⟩ ⟨Nat.zero_le _, Nat.zero_le _⟩ (Nat.le_of_ble_eq_true rfl) (wSt aH aM aT aS kp cyI sI sR ++ wTe aT cyB tI tR) [] (by simp only [List.append_assoc, List.nil_append, List.append_nil]) (fun _ => rfl) (fun u => (wSt aH aM aT aS kp cyI sI sR ++ wTe aT cyB tI tR ++ wHo aH cyI hI hR ++ wMi aH aM cyI mI mR)) (fun u => (by simp only [List.append_assoc, List.nil_append, List.append_nil])) (fun r0 u hp => ?_)
          obtain ⟨b2, rfl, hw⟩ := hp
          obtain ⟨hwt, hwf⟩ := hw
          refine z_ifeqB F dX5_fewestWhoGo_58 67 rfl 61 rfl (fun c4 => ?_) (fun c4 => ?_)
          · have hw := hwt c4; clear hwt hwf
            refine z_iinc F dX5_fewestWhoGo_67 70 rfl 5 rfl (by decide) zki_1 (fun v3 => [(4, .int v3), (5, .int r1), (0, .ref (aS 0)), (1, .int x1), (2, .int x2), (3, .int x3)]) (fun _ => rfl) (fun v3 ev3 => ?_)
            replace hw := hw v3 ev3
            refine z_goto F dX5_fewestWhoGo_70 9 rfl ?_
            refine z_lv (lv' := [(0, .ref (aS 0)), (1, .int x1), (2, .int x2), (3, .int x3), (4, .int v3)]) [2, 3, 4, 5, 0] rfl ?_
            exact ih x2 x3 v3 hw
          · have hw := hwf c4; clear hwt hwf
            refine z_iload F dX5_fewestWhoGo_61 63 rfl 5 rfl ?_
            refine z_istore_n (lv' := [(2, .int x4), (5, .int r1), (0, .ref (aS 0)), (1, .int x1), (3, .int x3), (4, .int x4)]) F dX5_fewestWhoGo_63 64 rfl (by decide) rfl ?_
            refine z_iload F dX5_fewestWhoGo_64 66 rfl 1 rfl ?_
            refine z_istore_n (lv' := [(3, .int r1), (2, .int x4), (5, .int r1), (0, .ref (aS 0)), (1, .int x1), (4, .int x4)]) F dX5_fewestWhoGo_66 67 rfl (by decide) rfl ?_
            refine z_iinc F dX5_fewestWhoGo_67 70 rfl 5 rfl (by decide) zki_1 (fun v4 => [(4, .int v4), (3, .int r1), (2, .int x4), (5, .int r1), (0, .ref (aS 0)), (1, .int x1)]) (fun _ => rfl) (fun v4 ev4 => ?_)
            replace hw := hw v4 ev4
            refine z_goto F dX5_fewestWhoGo_70 9 rfl ?_
            refine z_lv (lv' := [(0, .ref (aS 0)), (1, .int x1), (2, .int x4), (3, .int r1), (4, .int v4)]) [4, 5, 2, 1, 0] rfl ?_
            exact ih x4 r1 v4 hw
set_option maxHeartbeats 4000000 in
set_option maxRecDepth 100000 in
theorem xX5_fewestWhoGo_0 {C : zC} {D : va_G} {cyI cyB : ClassId} {aS : Nat → Nat} {aT : Nat → Nat} {aH : Nat → Nat} {aM : Nat → Nat} {kp : Value} (x1 : Int32) (sI : Nat → Int32) (sR : Nat → Nat → Int32) (tI : Nat → Int32) (tR : Nat → Nat → Int32) (hI : Nat → Int32) (hR : Nat → Nat → Int32) (mI : Nat → Int32) (mR : Nat → Nat → Int32) (F : zF C D { frames := 2, cells := 0, slots := 0, locals := 50 } cX5_fewestWhoGo 6 wsX5_fewestWhoGo RX5 (some .int) cyI cyB) {post : Int32 → Prop} (hRt : zRi C D cX5_fewestWhoGo 6 (S := (Unit)) (fun u => (wSt aH aM aT aS kp cyI sI sR ++ wTe aT cyB tI tR ++ wHo aH cyI hI hR ++ wMi aH aM cyI mI mR)) (fun r u => post r )) (hw : pX5_fewestWhoGo x1 sI sR tI tR hI hR mI mR post) : zX C D 6 0 0 (wSt aH aM aT aS kp cyI sI sR ++ wTe aT cyB tI tR ++ wHo aH cyI hI hR ++ wMi aH aM cyI mI mR) 0 [(0, .ref (aS 0)), (1, .int x1)] [] := by
  refine z_bipush F dX5_fewestWhoGo_0 2 rfl zkb_m9 ?_
  refine z_istore_n (lv' := [(2, .int (-9)), (0, .ref (aS 0)), (1, .int x1)]) F dX5_fewestWhoGo_2 3 rfl (by decide) rfl ?_
  refine z_bipush F dX5_fewestWhoGo_3 5 rfl zkb_99 ?_
  refine z_istore_n (lv' := [(3, .int 99), (2, .int (-9)), (0, .ref (aS 0)), (1, .int x1)]) F dX5_fewestWhoGo_5 6 rfl (by decide) rfl ?_
  refine z_iconst F dX5_fewestWhoGo_6 7 rfl zki_0 ?_
  refine z_istore (lv' := [(4, .int 0), (3, .int 99), (2, .int (-9)), (0, .ref (aS 0)), (1, .int x1)]) F dX5_fewestWhoGo_7 9 rfl (by decide) rfl ?_
  obtain ⟨n1, hw⟩ := hw
  refine z_lv (lv' := [(0, .ref (aS 0)), (1, .int x1), (2, .int (-9)), (3, .int 99), (4, .int 0)]) [3, 4, 2, 1, 0] rfl ?_
  refine xX5_fewestWhoGo_9 x1 sI sR tI tR hI hR mI mR F hRt n1 (-9) 99 0 hw
set_option maxHeartbeats 4000000 in
set_option maxRecDepth 100000 in
theorem mX5_fewestWhoGo (l : Launch) (D : va_G) (cyI cyB : ClassId) (aS : Nat → Nat) (aT : Nat → Nat) (aH : Nat → Nat) (aM : Nat → Nat) (kp : Value) (x1 : Int32) (sI : Nat → Int32) (sR : Nat → Nat → Int32) (tI : Nat → Int32) (tR : Nat → Nat → Int32) (hI : Nat → Int32) (hR : Nat → Nat → Int32) (mI : Nat → Int32) (mR : Nat → Nat → Int32) {post : Int32 → Prop} (hw : pX5_fewestWhoGo x1 sI sR tI tR hI hR mI mR post) : zMi l yX5_fewestWhoGo wsX5_fewestWhoGo 2 50 D cyI cyB [.ref (aS 0), .int x1] (wSt aH aM aT aS kp cyI sI sR ++ wTe aT cyB tI tR ++ wHo aH cyI hI hR ++ wMi aH aM cyI mI mR) (S := (Unit)) (fun u => (wSt aH aM aT aS kp cyI sI sR ++ wTe aT cyB tI tR ++ wHo aH cyI hI hR ++ wMi aH aM cyI mI mR)) (fun r u => post r ) :=
  z_meti (cc := cX5_fewestWhoGo) (nL := 6) (by decide +kernel) rfl (Nat.le_of_ble_eq_true rfl) (fun C hl F hRt => xX5_fewestWhoGo_0 x1 sI sR tI tR hI hR mI mR F hRt hw)
theorem y_X5_fewestWhoGo : zY yX5_fewestWhoGo wsX5_fewestWhoGo cX5_fewestWhoGo 6 (some .int) 1 := ⟨⟨_, rfl⟩, by decide +kernel⟩
theorem iX5_losers_5 : ∀ w ∈ wsX50, w ∈ wsX5_losers := fun w h => List.mem_cons_of_mem _ (List.mem_append_left _ (List.mem_append_left _ (List.mem_append_left _ (List.mem_append_right _ h))))
theorem kX5_losers_21 : zL wsX5_losers RX5 21 5 1 (.object "StillRoom$Mind") true := zL5 iX5_losers_5 (by decide) (List.mem_of_getElem? (i := 1) rfl) rfl rfl
set_option maxHeartbeats 4000000 in
set_option maxRecDepth 100000 in
theorem xX5_losers_0 {C : zC} {D : va_G} {cyI cyB : ClassId} {aS : Nat → Nat} {aT : Nat → Nat} {aH : Nat → Nat} {aM : Nat → Nat} {kp : Value} (sI : Nat → Int32) (sR : Nat → Nat → Int32) (tI : Nat → Int32) (tR : Nat → Nat → Int32) (hI : Nat → Int32) (hR : Nat → Nat → Int32) (mI : Nat → Int32) (mR : Nat → Nat → Int32) (F : zF C D { frames := 3, cells := 0, slots := 0, locals := 75 } cX5_losers 1 wsX5_losers RX5 (some .int) cyI cyB) {post : Int32 → (Nat → Int32) → (Nat → Nat → Int32) → Prop} (hRt : zRi C D cX5_losers 1 (S := ((Nat → Int32) × (Nat → Nat → Int32))) (fun u => (wSt aH aM aT aS kp cyI sI sR ++ wTe aT cyB tI tR ++ wHo aH cyI hI hR ++ wMi aH aM cyI u.1 u.2)) (fun r u => post r u.1 u.2)) (hw : pX5_losers sI sR tI tR hI hR mI mR post) : zX C D 1 0 0 (wSt aH aM aT aS kp cyI sI sR ++ wTe aT cyB tI tR ++ wHo aH cyI hI hR ++ wMi aH aM cyI mI mR) 0 [(0, .ref (aS 0))] [] := by
  refine z_aload_n F dX5_losers_0 1 rfl 0 rfl ?_
  refine z_get F dX5_losers_1 4 rfl kX5_losers_21 0 rfl rfl ?_
  refine z_segVv (As := []) (st := []) F dX5_losers_4 7 rfl (mX2_begin C.1.2.1 D cyI cyB aH aM hI hR mI mR hw) y_X2_begin rfl gX5_losers_X2_begin rfl (ci := 2) (rq := 12) rfl rfl ⟨Nat.le_of_ble_eq_true rfl, Nat.le_of_ble_eq_true rfl⟩ ⟨Nat.zero_le _, Nat.zero_le _⟩ (Nat.le_of_ble_eq_true rfl) (wSt aH aM aT aS kp cyI sI sR ++ wTe aT cyB tI tR) [] (by simp only [List.append_assoc, List.nil_append, List.append_nil]) (fun _ => rfl) (fun u => (wSt aH aM aT aS kp cyI sI sR ++ wTe aT cyB tI tR ++ wHo aH cyI hI hR ++ wMi aH aM cyI u.1 u.2)) (fun u => (by simp only [List.append_assoc, List.nil_append, List.append_nil])) (fun u hp => ?_)
  obtain ⟨mI_1, mR_1⟩ := u
  replace hw := hp
  clear hp
  refine z_aload_n F dX5_losers_7 8 rfl 0 rfl ?_
  refine z_iconst F dX5_losers_8 9 rfl zki_0 ?_
  refine z_segVi (As := [.int 0]) (st := []) F dX5_losers_9 12 rfl (mX5_fewestWhoGo C.1.2.1 D cyI cyB aS aT aH aM kp 0 sI sR tI tR hI hR mI_1 mR_1 hw) y_X5_fewestWhoGo rfl gX5_losers_X5_fewestWhoGo rfl (ci := 5) (rq := 0) rfl rfl ⟨Nat.le_of_ble_eq_true rfl, Nat.le_of_ble_eq_true rfl⟩ ⟨Nat.zero_le _, Nat.zero_le _⟩ (Nat.le_of_ble_eq_true rfl) [] [] (by simp only [List.append_assoc, List.nil_append, List.append_nil]) (fun _ => rfl) (fun u => (wSt aH aM aT aS kp cyI sI sR ++ wTe aT cyB tI tR ++ wHo aH cyI hI hR ++ wMi aH aM cyI mI_1 mR_1)) (fun u => (by simp only [List.append_assoc, List.nil_append, List.append_nil])) (fun r1 u hp => ?_)
  replace hw := hp
  clear hp
  exact hRt 12 _ r1 (mI_1, mR_1) dX5_losers_12 hw
set_option maxHeartbeats 4000000 in
set_option maxRecDepth 100000 in
theorem mX5_losers (l : Launch) (D : va_G) (cyI cyB : ClassId) (aS : Nat → Nat) (aT : Nat → Nat) (aH : Nat → Nat) (aM : Nat → Nat) (kp : Value) (sI : Nat → Int32) (sR : Nat → Nat → Int32) (tI : Nat → Int32) (tR : Nat → Nat → Int32) (hI : Nat → Int32) (hR : Nat → Nat → Int32) (mI : Nat → Int32) (mR : Nat → Nat → Int32) {post : Int32 → (Nat → Int32) → (Nat → Nat → Int32) → Prop} (hw : pX5_losers sI sR tI tR hI hR mI mR post) : zMi l yX5_losers wsX5_losers 3 75 D cyI cyB [.ref (aS 0)] (wSt aH aM aT aS kp cyI sI sR ++ wTe aT cyB tI tR ++ wHo aH cyI hI hR ++ wMi aH aM cyI mI mR) (S := ((Nat → Int32) × (Nat → Nat → Int32))) (fun u => (wSt aH aM aT aS kp cyI sI sR ++ wTe aT cyB tI tR ++ wHo aH cyI hI hR ++ wMi aH aM cyI u.1 u.2)) (fun r u => post r u.1 u.2) :=
  z_meti (cc := cX5_losers) (nL := 1) (by decide +kernel) rfl (Nat.le_of_ble_eq_true rfl) (fun C hl F hRt => xX5_losers_0 sI sR tI tR hI hR mI mR F hRt hw)
theorem y_X5_losers : zY yX5_losers wsX5_losers cX5_losers 1 (some .int) 0 := ⟨⟨_, rfl⟩, by decide +kernel⟩
theorem iX5_carriers_5 : ∀ w ∈ wsX50, w ∈ wsX5_carriers := fun w h => List.mem_cons_of_mem _ (List.mem_append_left _ (List.mem_append_left _ (List.mem_append_left _ (List.mem_append_right _ h))))
theorem kX5_carriers_21 : zL wsX5_carriers RX5 21 5 1 (.object "StillRoom$Mind") true := zL5 iX5_carriers_5 (by decide) (List.mem_of_getElem? (i := 1) rfl) rfl rfl
set_option maxHeartbeats 4000000 in
set_option maxRecDepth 100000 in
theorem xX5_carriers_0 {C : zC} {D : va_G} {cyI cyB : ClassId} {aS : Nat → Nat} {aT : Nat → Nat} {aH : Nat → Nat} {aM : Nat → Nat} {kp : Value} (sI : Nat → Int32) (sR : Nat → Nat → Int32) (tI : Nat → Int32) (tR : Nat → Nat → Int32) (hI : Nat → Int32) (hR : Nat → Nat → Int32) (mI : Nat → Int32) (mR : Nat → Nat → Int32) (F : zF C D { frames := 3, cells := 0, slots := 0, locals := 75 } cX5_carriers 1 wsX5_carriers RX5 (some .int) cyI cyB) {post : Int32 → (Nat → Int32) → (Nat → Nat → Int32) → Prop} (hRt : zRi C D cX5_carriers 1 (S := ((Nat → Int32) × (Nat → Nat → Int32))) (fun u => (wSt aH aM aT aS kp cyI sI sR ++ wTe aT cyB tI tR ++ wHo aH cyI hI hR ++ wMi aH aM cyI u.1 u.2)) (fun r u => post r u.1 u.2)) (hw : pX5_carriers sI sR tI tR hI hR mI mR post) : zX C D 1 0 0 (wSt aH aM aT aS kp cyI sI sR ++ wTe aT cyB tI tR ++ wHo aH cyI hI hR ++ wMi aH aM cyI mI mR) 0 [(0, .ref (aS 0))] [] := by
  refine z_aload_n F dX5_carriers_0 1 rfl 0 rfl ?_
  refine z_get F dX5_carriers_1 4 rfl kX5_carriers_21 0 rfl rfl ?_
  refine z_segVv (As := []) (st := []) F dX5_carriers_4 7 rfl (mX2_begin C.1.2.1 D cyI cyB aH aM hI hR mI mR hw) y_X2_begin rfl gX5_carriers_X2_begin rfl (ci := 2) (rq := 12) rfl rfl ⟨Nat.le_of_ble_eq_true rfl, Nat.le_of_ble_eq_true rfl⟩ ⟨Nat.zero_le _, Nat.zero_le _⟩ (Nat.le_of_ble_eq_true rfl) (wSt aH aM aT aS kp cyI sI sR ++ wTe aT cyB tI tR) [] (by simp only [List.append_assoc, List.nil_append, List.append_nil]) (fun _ => rfl) (fun u => (wSt aH aM aT aS kp cyI sI sR ++ wTe aT cyB tI tR ++ wHo aH cyI hI hR ++ wMi aH aM cyI u.1 u.2)) (fun u => (by simp only [List.append_assoc, List.nil_append, List.append_nil])) (fun u hp => ?_)
  obtain ⟨mI_1, mR_1⟩ := u
  replace hw := hp
  clear hp
  refine z_aload_n F dX5_carriers_7 8 rfl 0 rfl ?_
  refine z_iconst F dX5_carriers_8 9 rfl zki_1 ?_
  refine z_segVi (As := [.int 1]) (st := []) F dX5_carriers_9 12 rfl (mX5_fewestWhoGo C.1.2.1 D cyI cyB aS aT aH aM kp 1 sI sR tI tR hI hR mI_1 mR_1 hw) y_X5_fewestWhoGo rfl gX5_carriers_X5_fewestWhoGo rfl (ci := 5) (rq := 0) rfl rfl ⟨Nat.le_of_ble_eq_true rfl, Nat.le_of_ble_eq_true rfl⟩ ⟨Nat.zero_le _, Nat.zero_le _⟩ (Nat.le_of_ble_eq_true rfl) [] [] (by simp only [List.append_assoc, List.nil_append, List.append_nil]) (fun _ => rfl) (fun u => (wSt aH aM aT aS kp cyI sI sR ++ wTe aT cyB tI tR ++ wHo aH cyI hI hR ++ wMi aH aM cyI mI_1 mR_1)) (fun u => (by simp only [List.append_assoc, List.nil_append, List.append_nil])) (fun r1 u hp => ?_)
  replace hw := hp
  clear hp
  exact hRt 12 _ r1 (mI_1, mR_1) dX5_carriers_12 hw
set_option maxHeartbeats 4000000 in
set_option maxRecDepth 100000 in
theorem mX5_carriers (l : Launch) (D : va_G) (cyI cyB : ClassId) (aS : Nat → Nat) (aT : Nat → Nat) (aH : Nat → Nat) (aM : Nat → Nat) (kp : Value) (sI : Nat → Int32) (sR : Nat → Nat → Int32) (tI : Nat → Int32) (tR : Nat → Nat → Int32) (hI : Nat → Int32) (hR : Nat → Nat → Int32) (mI : Nat → Int32) (mR : Nat → Nat → Int32) {post : Int32 → (Nat → Int32) → (Nat → Nat → Int32) → Prop} (hw : pX5_carriers sI sR tI tR hI hR mI mR post) : zMi l yX5_carriers wsX5_carriers 3 75 D cyI cyB [.ref (aS 0)] (wSt aH aM aT aS kp cyI sI sR ++ wTe aT cyB tI tR ++ wHo aH cyI hI hR ++ wMi aH aM cyI mI mR) (S := ((Nat → Int32) × (Nat → Nat → Int32))) (fun u => (wSt aH aM aT aS kp cyI sI sR ++ wTe aT cyB tI tR ++ wHo aH cyI hI hR ++ wMi aH aM cyI u.1 u.2)) (fun r u => post r u.1 u.2) :=
  z_meti (cc := cX5_carriers) (nL := 1) (by decide +kernel) rfl (Nat.le_of_ble_eq_true rfl) (fun C hl F hRt => xX5_carriers_0 sI sR tI tR hI hR mI mR F hRt hw)
theorem y_X5_carriers : zY yX5_carriers wsX5_carriers cX5_carriers 1 (some .int) 0 := ⟨⟨_, rfl⟩, by decide +kernel⟩
theorem iX5_keys_1 : ∀ w ∈ wsX10, w ∈ wsX5_keys := fun w h => List.mem_cons_of_mem _ (List.mem_append_left _ (List.mem_append_left _ (List.mem_append_right _ h)))
theorem iX5_keys_5 : ∀ w ∈ wsX50, w ∈ wsX5_keys := fun w h => List.mem_cons_of_mem _ (List.mem_append_left _ (List.mem_append_left _ (List.mem_append_left _ (List.mem_append_right _ h))))
theorem kX5_keys_12 : zL wsX5_keys RX5 12 5 0 (.object "StillRoom$House") true := zL5 iX5_keys_5 (by decide) (List.mem_of_getElem? (i := 2) rfl) rfl rfl
theorem kX5_keys_21 : zL wsX5_keys RX5 21 5 1 (.object "StillRoom$Mind") true := zL5 iX5_keys_5 (by decide) (List.mem_of_getElem? (i := 1) rfl) rfl rfl
theorem kX5_keys_79 : zL wsX5_keys RX5 79 1 6 .int false := zL1 iX5_keys_1 (by decide) (List.mem_of_getElem? (i := 3) rfl) rfl rfl
set_option maxHeartbeats 4000000 in
set_option maxRecDepth 100000 in
theorem xX5_keys_11 {C : zC} {D : va_G} {cyI cyB : ClassId} {aS : Nat → Nat} {aT : Nat → Nat} {aH : Nat → Nat} {aM : Nat → Nat} {kp : Value} (sI : Nat → Int32) (sR : Nat → Nat → Int32) (tI : Nat → Int32) (tR : Nat → Nat → Int32) (hI : Nat → Int32) (hR : Nat → Nat → Int32) (F : zF C D { frames := 3, cells := 0, slots := 0, locals := 65 } cX5_keys 3 wsX5_keys RX5 (some .int) cyI cyB) {post : Int32 → (Nat → Int32) → (Nat → Nat → Int32) → Prop} (hRt : zRi C D cX5_keys 3 (S := ((Nat → Int32) × (Nat → Nat → Int32))) (fun u => (wSt aH aM aT aS kp cyI sI sR ++ wTe aT cyB tI tR ++ wHo aH cyI hI hR ++ wMi aH aM cyI u.1 u.2)) (fun r u => post r u.1 u.2)) : ∀ (n : Nat) (x1 : Int32) (x2 : Int32) (mI : Nat → Int32) (mR : Nat → Nat → Int32), bX5_keys_11 sI sR tI tR hI hR post  n x1 x2 mI mR → zX C D 3 0 0 (wSt aH aM aT aS kp cyI sI sR ++ wTe aT cyB tI tR ++ wHo aH cyI hI hR ++ wMi aH aM cyI mI mR) 11 [(0, .ref (aS 0)), (1, .int x1), (2, .int x2)] [] := by
  intro n
  induction n with
  | zero => intro _ _ _ _ hw; exact hw.elim
  | succ n ih =>
    intro x1 x2 mI mR hw
    refine z_iload_n F dX5_keys_11 12 rfl 2 rfl ?_
    refine z_aload_n F dX5_keys_12 13 rfl 0 rfl ?_
    refine z_get F dX5_keys_13 16 rfl kX5_keys_12 0 rfl rfl ?_
    refine z_get F dX5_keys_16 19 rfl kX5_keys_79 6 rfl rfl ?_
    obtain ⟨hwt, hwf⟩ := hw
    refine z_icmpge F dX5_keys_19 59 rfl 22 rfl (fun c1 => ?_) (fun c1 => ?_)
    · have hw := hwt c1; clear hwt hwf
      refine z_iload_n F dX5_keys_59 60 rfl 1 rfl ?_
      exact hRt 60 _ x1 (mI, mR) dX5_keys_60 hw
    · have hw := hwf c1; clear hwt hwf
      refine z_aload_n F dX5_keys_22 23 rfl 0 rfl ?_
      refine z_get F dX5_keys_23 26 rfl kX5_keys_21 0 rfl rfl ?_
      refine z_iload_n F dX5_keys_26 27 rfl 2 rfl ?_
      refine z_segVi (As := [.int x2]) (st := []) F dX5_keys_27 30 rfl (mX2_isHere C.1.2.1 D cyI cyB aH aM x2 hI hR mI mR hw) y_X2_isHere rfl gX5_keys_X2_isHere rfl (ci := 2) (rq := 12) rfl rfl ⟨Nat.le_of_ble_eq_true rfl, Nat.le_of_ble_eq_true rfl⟩ ⟨Nat.zero_le _, Nat.zero_le _⟩ (Nat.le_of_ble_eq_true rfl) (wSt aH aM aT aS kp cyI sI sR ++ wTe aT cyB tI tR) [] (by simp only [List.append_assoc, List.nil_append, List.append_nil]) (fun _ => rfl) (fun u => (wSt aH aM aT aS kp cyI sI sR ++ wTe aT cyB tI tR ++ wHo aH cyI hI hR ++ wMi aH aM cyI mI mR)) (fun u => (by simp only [List.append_assoc, List.nil_append, List.append_nil])) (fun r0 u hp => ?_)
      obtain ⟨b1, rfl, hw⟩ := hp
      obtain ⟨hwt, hwf⟩ := hw
      refine z_ifeqB F dX5_keys_30 53 rfl 33 rfl (fun c2 => ?_) (fun c2 => ?_)
      · have hw := hwt c2; clear hwt hwf
        refine z_iinc F dX5_keys_53 56 rfl 2 rfl (by decide) zki_1 (fun v1 => [(2, .int v1), (0, .ref (aS 0)), (1, .int x1)]) (fun _ => rfl) (fun v1 ev1 => ?_)
        replace hw := hw v1 ev1
        refine z_goto F dX5_keys_56 11 rfl ?_
        refine z_lv (lv' := [(0, .ref (aS 0)), (1, .int x1), (2, .int v1)]) [1, 2, 0] rfl ?_
        exact ih x1 v1 mI mR hw
      · have hw := hwf c2; clear hwt hwf
        refine z_aload_n F dX5_keys_33 34 rfl 0 rfl ?_
        refine z_get F dX5_keys_34 37 rfl kX5_keys_21 0 rfl rfl ?_
        refine z_iconst F dX5_keys_37 38 rfl zki_0 ?_
        refine z_iconst F dX5_keys_38 39 rfl zki_1 ?_
        refine z_iload_n F dX5_keys_39 40 rfl 2 rfl ?_
        refine z_ishl F dX5_keys_40 41 rfl ?_
        refine z_segVi (As := [.int 0, .int (1 <<< (x2 &&& 31))]) (st := []) F dX5_keys_41 44 rfl (mX2_happens C.1.2.1 D cyI cyB aH aM 0 (1 <<< (x2 &&& 31)) hI hR mI mR hw) y_X2_happens rfl gX5_keys_X2_happens rfl (ci := 2) (rq := 12) rfl rfl ⟨Nat.le_of_ble_eq_true rfl, Nat.le_of_ble_eq_true rfl⟩ ⟨Nat.zero_le _, Nat.zero_le _⟩ (Nat.le_of_ble_eq_true rfl) (wSt aH aM aT aS kp cyI sI sR ++ wTe aT cyB tI tR) [] (by simp only [List.append_assoc, List.nil_append, List.append_nil]) (fun _ => rfl) (fun u => (wSt aH aM aT aS kp cyI sI sR ++ wTe aT cyB tI tR ++ wHo aH cyI hI hR ++ wMi aH aM cyI mI mR)) (fun u => (by simp only [List.append_assoc, List.nil_append, List.append_nil])) (fun r0 u hp => ?_)
        obtain ⟨b2, rfl, hw⟩ := hp
        obtain ⟨hwt, hwf⟩ := hw
        refine z_ifeqB F dX5_keys_44 53 rfl 47 rfl (fun c3 => ?_) (fun c3 => ?_)
        · have hw := hwt c3; clear hwt hwf
          refine z_iinc F dX5_keys_53 56 rfl 2 rfl (by decide) zki_1 (fun v2 => [(2, .int v2), (0, .ref (aS 0)), (1, .int x1)]) (fun _ => rfl) (fun v2 ev2 => ?_)
          replace hw := hw v2 ev2
          refine z_goto F dX5_keys_56 11 rfl ?_
          refine z_lv (lv' := [(0, .ref (aS 0)), (1, .int x1), (2, .int v2)]) [1, 2, 0] rfl ?_
          exact ih x1 v2 mI mR hw
        · have hw := hwf c3; clear hwt hwf
          refine z_iload_n F dX5_keys_47 48 rfl 1 rfl ?_
          refine z_iconst F dX5_keys_48 49 rfl zki_1 ?_
          refine z_iload_n F dX5_keys_49 50 rfl 2 rfl ?_
          refine z_ishl F dX5_keys_50 51 rfl ?_
          refine z_ior F dX5_keys_51 52 rfl ?_
          refine z_topi (fun v3 ev3 => ?_)
          replace hw := hw v3 ev3
          refine z_istore_n (lv' := [(1, .int v3), (0, .ref (aS 0)), (2, .int x2)]) F dX5_keys_52 53 rfl (by decide) rfl ?_
          refine z_iinc F dX5_keys_53 56 rfl 2 rfl (by decide) zki_1 (fun v4 => [(2, .int v4), (1, .int v3), (0, .ref (aS 0))]) (fun _ => rfl) (fun v4 ev4 => ?_)
          replace hw := hw v4 ev4
          refine z_goto F dX5_keys_56 11 rfl ?_
          refine z_lv (lv' := [(0, .ref (aS 0)), (1, .int v3), (2, .int v4)]) [2, 1, 0] rfl ?_
          exact ih v3 v4 mI mR hw
set_option maxHeartbeats 4000000 in
set_option maxRecDepth 100000 in
theorem xX5_keys_0 {C : zC} {D : va_G} {cyI cyB : ClassId} {aS : Nat → Nat} {aT : Nat → Nat} {aH : Nat → Nat} {aM : Nat → Nat} {kp : Value} (sI : Nat → Int32) (sR : Nat → Nat → Int32) (tI : Nat → Int32) (tR : Nat → Nat → Int32) (hI : Nat → Int32) (hR : Nat → Nat → Int32) (mI : Nat → Int32) (mR : Nat → Nat → Int32) (F : zF C D { frames := 3, cells := 0, slots := 0, locals := 65 } cX5_keys 3 wsX5_keys RX5 (some .int) cyI cyB) {post : Int32 → (Nat → Int32) → (Nat → Nat → Int32) → Prop} (hRt : zRi C D cX5_keys 3 (S := ((Nat → Int32) × (Nat → Nat → Int32))) (fun u => (wSt aH aM aT aS kp cyI sI sR ++ wTe aT cyB tI tR ++ wHo aH cyI hI hR ++ wMi aH aM cyI u.1 u.2)) (fun r u => post r u.1 u.2)) (hw : pX5_keys sI sR tI tR hI hR mI mR post) : zX C D 3 0 0 (wSt aH aM aT aS kp cyI sI sR ++ wTe aT cyB tI tR ++ wHo aH cyI hI hR ++ wMi aH aM cyI mI mR) 0 [(0, .ref (aS 0))] [] := by
  refine z_aload_n F dX5_keys_0 1 rfl 0 rfl ?_
  refine z_get F dX5_keys_1 4 rfl kX5_keys_21 0 rfl rfl ?_
  refine z_segVv (As := []) (st := []) F dX5_keys_4 7 rfl (mX2_begin C.1.2.1 D cyI cyB aH aM hI hR mI mR hw) y_X2_begin rfl gX5_keys_X2_begin rfl (ci := 2) (rq := 12) rfl rfl ⟨Nat.le_of_ble_eq_true rfl, Nat.le_of_ble_eq_true rfl⟩ ⟨Nat.zero_le _, Nat.zero_le _⟩ (Nat.le_of_ble_eq_true rfl) (wSt aH aM aT aS kp cyI sI sR ++ wTe aT cyB tI tR) [] (by simp only [List.append_assoc, List.nil_append, List.append_nil]) (fun _ => rfl) (fun u => (wSt aH aM aT aS kp cyI sI sR ++ wTe aT cyB tI tR ++ wHo aH cyI hI hR ++ wMi aH aM cyI u.1 u.2)) (fun u => (by simp only [List.append_assoc, List.nil_append, List.append_nil])) (fun u hp => ?_)
  obtain ⟨mI_1, mR_1⟩ := u
  replace hw := hp
  clear hp
  refine z_iconst F dX5_keys_7 8 rfl zki_0 ?_
  refine z_istore_n (lv' := [(1, .int 0), (0, .ref (aS 0))]) F dX5_keys_8 9 rfl (by decide) rfl ?_
  refine z_iconst F dX5_keys_9 10 rfl zki_0 ?_
  refine z_istore_n (lv' := [(2, .int 0), (1, .int 0), (0, .ref (aS 0))]) F dX5_keys_10 11 rfl (by decide) rfl ?_
  obtain ⟨n1, hw⟩ := hw
  refine z_lv (lv' := [(0, .ref (aS 0)), (1, .int 0), (2, .int 0)]) [2, 1, 0] rfl ?_
  refine xX5_keys_11 sI sR tI tR hI hR F hRt n1 0 0 mI_1 mR_1 hw
set_option maxHeartbeats 4000000 in
set_option maxRecDepth 100000 in
theorem mX5_keys (l : Launch) (D : va_G) (cyI cyB : ClassId) (aS : Nat → Nat) (aT : Nat → Nat) (aH : Nat → Nat) (aM : Nat → Nat) (kp : Value) (sI : Nat → Int32) (sR : Nat → Nat → Int32) (tI : Nat → Int32) (tR : Nat → Nat → Int32) (hI : Nat → Int32) (hR : Nat → Nat → Int32) (mI : Nat → Int32) (mR : Nat → Nat → Int32) {post : Int32 → (Nat → Int32) → (Nat → Nat → Int32) → Prop} (hw : pX5_keys sI sR tI tR hI hR mI mR post) : zMi l yX5_keys wsX5_keys 3 65 D cyI cyB [.ref (aS 0)] (wSt aH aM aT aS kp cyI sI sR ++ wTe aT cyB tI tR ++ wHo aH cyI hI hR ++ wMi aH aM cyI mI mR) (S := ((Nat → Int32) × (Nat → Nat → Int32))) (fun u => (wSt aH aM aT aS kp cyI sI sR ++ wTe aT cyB tI tR ++ wHo aH cyI hI hR ++ wMi aH aM cyI u.1 u.2)) (fun r u => post r u.1 u.2) :=
  z_meti (cc := cX5_keys) (nL := 3) (by decide +kernel) rfl (Nat.le_of_ble_eq_true rfl) (fun C hl F hRt => xX5_keys_0 sI sR tI tR hI hR mI mR F hRt hw)
theorem y_X5_keys : zY yX5_keys wsX5_keys cX5_keys 3 (some .int) 0 := ⟨⟨_, rfl⟩, by decide +kernel⟩
theorem iX5_fewestToTell_1 : ∀ w ∈ wsX10, w ∈ wsX5_fewestToTell := fun w h => List.mem_cons_of_mem _ (List.mem_append_left _ (List.mem_append_left _ (List.mem_append_left _ (List.mem_append_right _ h))))
theorem iX5_fewestToTell_2 : ∀ w ∈ wsX20, w ∈ wsX5_fewestToTell := fun w h => List.mem_cons_of_mem _ (List.mem_append_left _ (List.mem_append_left _ (List.mem_append_right _ h)))
theorem iX5_fewestToTell_5 : ∀ w ∈ wsX50, w ∈ wsX5_fewestToTell := fun w h => List.mem_cons_of_mem _ (List.mem_append_left _ (List.mem_append_left _ (List.mem_append_left _ (List.mem_append_left _ (List.mem_append_right _ h)))))
theorem kX5_fewestToTell_12 : zL wsX5_fewestToTell RX5 12 5 0 (.object "StillRoom$House") true := zL5 iX5_fewestToTell_5 (by decide) (List.mem_of_getElem? (i := 2) rfl) rfl rfl
theorem kX5_fewestToTell_21 : zL wsX5_fewestToTell RX5 21 5 1 (.object "StillRoom$Mind") true := zL5 iX5_fewestToTell_5 (by decide) (List.mem_of_getElem? (i := 1) rfl) rfl rfl
theorem kX5_fewestToTell_68 : zL wsX5_fewestToTell RX5 68 1 5 .int false := zL1 iX5_fewestToTell_1 (by decide) (List.mem_of_getElem? (i := 4) rfl) rfl rfl
theorem kX5_fewestToTell_91 : zL wsX5_fewestToTell RX5 91 1 0 (.array .int) true := zL1 iX5_fewestToTell_1 (by decide) (List.mem_of_getElem? (i := 3) rfl) rfl rfl
theorem kX5_fewestToTell_226 : zL wsX5_fewestToTell RX5 226 2 1 (.array .int) true := zL2 iX5_fewestToTell_2 (by decide) (List.mem_of_getElem? (i := 5) rfl) rfl rfl
set_option maxHeartbeats 4000000 in
set_option maxRecDepth 100000 in
theorem xX5_fewestToTell_33 {C : zC} {D : va_G} {cyI cyB : ClassId} {aS : Nat → Nat} {aT : Nat → Nat} {aH : Nat → Nat} {aM : Nat → Nat} {kp : Value} (x1 : Int32) (x2 : Int32) (sI : Nat → Int32) (sR : Nat → Nat → Int32) (tI : Nat → Int32) (tR : Nat → Nat → Int32) (hI : Nat → Int32) (hR : Nat → Nat → Int32) (F : zF C D { frames := 4, cells := 0, slots := 0, locals := 94 } cX5_fewestToTell 7 wsX5_fewestToTell RX5 (some .int) cyI cyB) {post : Int32 → (Nat → Int32) → (Nat → Nat → Int32) → Prop} (hRt : zRi C D cX5_fewestToTell 7 (S := ((Nat → Int32) × (Nat → Nat → Int32))) (fun u => (wSt aH aM aT aS kp cyI sI sR ++ wTe aT cyB tI tR ++ wHo aH cyI hI hR ++ wMi aH aM cyI u.1 u.2)) (fun r u => post r u.1 u.2)) : ∀ (n : Nat) (x3 : Int32) (x4 : Int32) (x5 : Int32) (mI : Nat → Int32) (mR : Nat → Nat → Int32), bX5_fewestToTell_33 x1 x2 sI sR tI tR hI hR post  n x3 x4 x5 mI mR → zX C D 7 0 0 (wSt aH aM aT aS kp cyI sI sR ++ wTe aT cyB tI tR ++ wHo aH cyI hI hR ++ wMi aH aM cyI mI mR) 33 [(0, .ref (aS 0)), (1, .int x1), (2, .int x2), (3, .int x3), (4, .int x4), (5, .int x5)] [] := by
  intro n
  induction n with
  | zero => intro _ _ _ _ _ hw; exact hw.elim
  | succ n ih =>
    intro x3 x4 x5 mI mR hw
    refine z_iload F dX5_fewestToTell_33 35 rfl 5 rfl ?_
    refine z_iconst F dX5_fewestToTell_35 36 rfl zki_1 ?_
    refine z_aload_n F dX5_fewestToTell_36 37 rfl 0 rfl ?_
    refine z_get F dX5_fewestToTell_37 40 rfl kX5_fewestToTell_12 0 rfl rfl ?_
    refine z_get F dX5_fewestToTell_40 43 rfl kX5_fewestToTell_68 6 rfl rfl ?_
    refine z_ishl F dX5_fewestToTell_43 44 rfl ?_
    obtain ⟨hwt, hwf⟩ := hw
    refine z_icmpge F dX5_fewestToTell_44 104 rfl 47 rfl (fun c2 => ?_) (fun c2 => ?_)
    · have hw := hwt c2; clear hwt hwf
      refine z_iload_n F dX5_fewestToTell_104 105 rfl 3 rfl ?_
      exact hRt 105 _ x3 (mI, mR) dX5_fewestToTell_105 hw
    · have hw := hwf c2; clear hwt hwf
      refine z_iload F dX5_fewestToTell_47 49 rfl 5 rfl ?_
      refine z_callSi (As := [.int x5]) (st := []) F dX5_fewestToTell_49 52 rfl (mJ6_bitCount_0f7a4 C.1.2.1 D cyI cyB x5 hw) y_J6_bitCount_0f7a4 rfl gX5_fewestToTell_J6_bitCount_0f7a4 ⟨Nat.le_of_ble_eq_true rfl, Nat.le_of_ble_eq_true rfl⟩ ⟨Nat.zero_le _, Nat.zero_le _⟩ (Nat.le_of_ble_eq_true rfl) [] (by decide) rfl (fun _ => rfl) (fun u => (wSt aH aM aT aS kp cyI sI sR ++ wTe aT cyB tI tR ++ wHo aH cyI hI hR ++ wMi aH aM cyI mI mR)) (fun _ => rfl) (fun r1 u hp => ?_)
      replace hw := hp
      clear hp
      refine z_istore (lv' := [(6, .int r1), (0, .ref (aS 0)), (1, .int x1), (2, .int x2), (3, .int x3), (4, .int x4), (5, .int x5)]) F dX5_fewestToTell_52 54 rfl (by decide) rfl ?_
      refine z_iload F dX5_fewestToTell_54 56 rfl 0 rfl ?_
      refine z_iload F dX5_fewestToTell_56 58 rfl 5 rfl ?_
      obtain ⟨hwt, hwf⟩ := hw
      refine z_icmpge F dX5_fewestToTell_58 98 rfl 61 rfl (fun c3 => ?_) (fun c3 => ?_)
      · have hw := hwt c3; clear hwt hwf
        refine z_iinc F dX5_fewestToTell_98 101 rfl 6 rfl (by decide) zki_1 (fun v2 => [(5, .int v2), (6, .int r1), (0, .ref (aS 0)), (1, .int x1), (2, .int x2), (3, .int x3), (4, .int x4)]) (fun _ => rfl) (fun v2 ev2 => ?_)
        replace hw := hw v2 ev2
        refine z_goto F dX5_fewestToTell_101 33 rfl ?_
        refine z_lv (lv' := [(0, .ref (aS 0)), (1, .int x1), (2, .int x2), (3, .int x3), (4, .int x4), (5, .int v2)]) [2, 3, 4, 5, 6, 0] rfl ?_
        exact ih x3 x4 v2 mI mR hw
      · have hw := hwf c3; clear hwt hwf
        refine z_iload F dX5_fewestToTell_61 63 rfl 6 rfl ?_
        refine z_iload_n F dX5_fewestToTell_63 64 rfl 3 rfl ?_
        refine z_iand F dX5_fewestToTell_64 65 rfl ?_
        obtain ⟨hwt, hwf⟩ := hw
        refine z_ifne F dX5_fewestToTell_65 98 rfl 68 rfl (fun c4 => ?_) (fun c4 => ?_)
        · have hw := hwt c4; clear hwt hwf
          refine z_iinc F dX5_fewestToTell_98 101 rfl 6 rfl (by decide) zki_1 (fun v3 => [(5, .int v3), (6, .int r1), (0, .ref (aS 0)), (1, .int x1), (2, .int x2), (3, .int x3), (4, .int x4)]) (fun _ => rfl) (fun v3 ev3 => ?_)
          replace hw := hw v3 ev3
          refine z_goto F dX5_fewestToTell_101 33 rfl ?_
          refine z_lv (lv' := [(0, .ref (aS 0)), (1, .int x1), (2, .int x2), (3, .int x3), (4, .int x4), (5, .int v3)]) [2, 3, 4, 5, 6, 0] rfl ?_
          exact ih x3 x4 v3 mI mR hw
        · have hw := hwf c4; clear hwt hwf
          refine z_aload_n F dX5_fewestToTell_68 69 rfl 1 rfl ?_
          refine z_get F dX5_fewestToTell_69 72 rfl kX5_fewestToTell_21 0 rfl rfl ?_
          refine z_get F dX5_fewestToTell_72 75 rfl kX5_fewestToTell_226 18 rfl rfl ?_
          refine z_iload_n F dX5_fewestToTell_75 76 rfl 2 rfl ?_
          refine z_iload_n F dX5_fewestToTell_76 77 rfl 3 rfl ?_
          refine z_iload F dX5_fewestToTell_77 79 rfl 6 rfl ?_
          refine z_ior F dX5_fewestToTell_79 80 rfl ?_
          refine z_topi (fun v4 ev4 => ?_)
          replace hw := hw v4 ev4
          obtain ⟨j2, ej2, hj2, hw⟩ := hw
          refine z_iast F dX5_fewestToTell_80 81 rfl 19 rfl (by decide) j2 ej2 hj2 (wSt aH aM aT aS kp cyI sI sR ++ wTe aT cyB tI tR ++ wHo aH cyI hI hR ++ wMi aH aM cyI mI (va_up mR 0 (upd (mR 0) j2 v4))) rfl ?_
          refine z_aload_n F dX5_fewestToTell_81 82 rfl 1 rfl ?_
          refine z_get F dX5_fewestToTell_82 85 rfl kX5_fewestToTell_21 0 rfl rfl ?_
          refine z_segVi (As := []) (st := []) F dX5_fewestToTell_85 88 rfl (mX2_holds C.1.2.1 D cyI cyB aH aM hI hR mI (va_up mR 0 (upd (mR 0) j2 v4)) hw) y_X2_holds rfl gX5_fewestToTell_X2_holds rfl (ci := 2) (rq := 12) rfl rfl ⟨Nat.le_of_ble_eq_true rfl, Nat.le_of_ble_eq_true rfl⟩ ⟨Nat.zero_le _, Nat.zero_le _⟩ (Nat.le_of_ble_eq_true rfl) (wSt aH aM aT aS kp cyI sI sR ++ wTe aT cyB tI tR) [] (by simp only [List.append_assoc, List.nil_append, List.append_nil]) (fun _ => rfl) (fun u => (wSt aH aM aT aS kp cyI sI sR ++ wTe aT cyB tI tR ++ wHo aH cyI hI hR ++ wMi aH aM cyI u.1 u.2)) (fun u => (by simp only [List.append_assoc, List.nil_append, List.append_nil])) (fun r0 u hp => ?_)
          obtain ⟨mI_2, mR_2⟩ := u
          obtain ⟨b2, rfl, hw⟩ := hp
          obtain ⟨hwt, hwf⟩ := hw
          refine z_ifeqB F dX5_fewestToTell_88 98 rfl 91 rfl (fun c5 => ?_) (fun c5 => ?_)
          · have hw := hwt c5; clear hwt hwf
            refine z_iinc F dX5_fewestToTell_98 101 rfl 6 rfl (by decide) zki_1 (fun v5 => [(5, .int v5), (6, .int r1), (0, .ref (aS 0)), (1, .int x1), (2, .int x2), (3, .int x3), (4, .int x4)]) (fun _ => rfl) (fun v5 ev5 => ?_)
            replace hw := hw v5 ev5
            refine z_goto F dX5_fewestToTell_101 33 rfl ?_
            refine z_lv (lv' := [(0, .ref (aS 0)), (1, .int x1), (2, .int x2), (3, .int x3), (4, .int x4), (5, .int v5)]) [2, 3, 4, 5, 6, 0] rfl ?_
            exact ih x3 x4 v5 mI_2 mR_2 hw
          · have hw := hwf c5; clear hwt hwf
            refine z_iload F dX5_fewestToTell_91 93 rfl 6 rfl ?_
            refine z_istore_n (lv' := [(3, .int x5), (6, .int r1), (0, .ref (aS 0)), (1, .int x1), (2, .int x2), (4, .int x4), (5, .int x5)]) F dX5_fewestToTell_93 94 rfl (by decide) rfl ?_
            refine z_iload F dX5_fewestToTell_94 96 rfl 1 rfl ?_
            refine z_istore (lv' := [(4, .int r1), (3, .int x5), (6, .int r1), (0, .ref (aS 0)), (1, .int x1), (2, .int x2), (5, .int x5)]) F dX5_fewestToTell_96 98 rfl (by decide) rfl ?_
            refine z_iinc F dX5_fewestToTell_98 101 rfl 6 rfl (by decide) zki_1 (fun v6 => [(5, .int v6), (4, .int r1), (3, .int x5), (6, .int r1), (0, .ref (aS 0)), (1, .int x1), (2, .int x2)]) (fun _ => rfl) (fun v6 ev6 => ?_)
            replace hw := hw v6 ev6
            refine z_goto F dX5_fewestToTell_101 33 rfl ?_
            refine z_lv (lv' := [(0, .ref (aS 0)), (1, .int x1), (2, .int x2), (3, .int x5), (4, .int r1), (5, .int v6)]) [4, 5, 6, 2, 1, 0] rfl ?_
            exact ih x5 r1 v6 mI_2 mR_2 hw
set_option maxHeartbeats 4000000 in
set_option maxRecDepth 100000 in
theorem xX5_fewestToTell_0 {C : zC} {D : va_G} {cyI cyB : ClassId} {aS : Nat → Nat} {aT : Nat → Nat} {aH : Nat → Nat} {aM : Nat → Nat} {kp : Value} (x1 : Int32) (sI : Nat → Int32) (sR : Nat → Nat → Int32) (tI : Nat → Int32) (tR : Nat → Nat → Int32) (hI : Nat → Int32) (hR : Nat → Nat → Int32) (mI : Nat → Int32) (mR : Nat → Nat → Int32) (F : zF C D { frames := 4, cells := 0, slots := 0, locals := 94 } cX5_fewestToTell 7 wsX5_fewestToTell RX5 (some .int) cyI cyB) {post : Int32 → (Nat → Int32) → (Nat → Nat → Int32) → Prop} (hRt : zRi C D cX5_fewestToTell 7 (S := ((Nat → Int32) × (Nat → Nat → Int32))) (fun u => (wSt aH aM aT aS kp cyI sI sR ++ wTe aT cyB tI tR ++ wHo aH cyI hI hR ++ wMi aH aM cyI u.1 u.2)) (fun r u => post r u.1 u.2)) (hw : pX5_fewestToTell x1 sI sR tI tR hI hR mI mR post) : zX C D 7 0 0 (wSt aH aM aT aS kp cyI sI sR ++ wTe aT cyB tI tR ++ wHo aH cyI hI hR ++ wMi aH aM cyI mI mR) 0 [(0, .ref (aS 0)), (1, .int x1)] [] := by
  refine z_aload_n F dX5_fewestToTell_0 1 rfl 0 rfl ?_
  refine z_get F dX5_fewestToTell_1 4 rfl kX5_fewestToTell_21 0 rfl rfl ?_
  refine z_segVi (As := []) (st := []) F dX5_fewestToTell_4 7 rfl (mX2_isSafe C.1.2.1 D cyI cyB aH aM hI hR mI mR hw) y_X2_isSafe rfl gX5_fewestToTell_X2_isSafe rfl (ci := 2) (rq := 12) rfl rfl ⟨Nat.le_of_ble_eq_true rfl, Nat.le_of_ble_eq_true rfl⟩ ⟨Nat.zero_le _, Nat.zero_le _⟩ (Nat.le_of_ble_eq_true rfl) (wSt aH aM aT aS kp cyI sI sR ++ wTe aT cyB tI tR) [] (by simp only [List.append_assoc, List.nil_append, List.append_nil]) (fun _ => rfl) (fun u => (wSt aH aM aT aS kp cyI sI sR ++ wTe aT cyB tI tR ++ wHo aH cyI hI hR ++ wMi aH aM cyI u.1 u.2)) (fun u => (by simp only [List.append_assoc, List.nil_append, List.append_nil])) (fun r0 u hp => ?_)
  obtain ⟨mI_1, mR_1⟩ := u
  obtain ⟨b1, rfl, hw⟩ := hp
  obtain ⟨hwt, hwf⟩ := hw
  refine z_ifneB F dX5_fewestToTell_7 13 rfl 10 rfl (fun c1 => ?_) (fun c1 => ?_)
  · have hw := hwt c1; clear hwt hwf
    refine z_aload_n F dX5_fewestToTell_13 14 rfl 0 rfl ?_
    refine z_get F dX5_fewestToTell_14 17 rfl kX5_fewestToTell_12 0 rfl rfl ?_
    refine z_get F dX5_fewestToTell_17 20 rfl kX5_fewestToTell_91 6 rfl rfl ?_
    refine z_iload_n F dX5_fewestToTell_20 21 rfl 1 rfl ?_
    obtain ⟨j1, ej1, hj1, hw⟩ := hw
    refine z_iald F dX5_fewestToTell_21 22 rfl 7 rfl (by decide) j1 ej1 hj1 ?_
    refine z_topi (fun v1 ev1 => ?_)
    replace hw := hw v1 ev1
    refine z_istore_n (lv' := [(2, .int v1), (0, .ref (aS 0)), (1, .int x1)]) F dX5_fewestToTell_22 23 rfl (by decide) rfl ?_
    refine z_bipush F dX5_fewestToTell_23 25 rfl zkb_m9 ?_
    refine z_istore_n (lv' := [(3, .int (-9)), (2, .int v1), (0, .ref (aS 0)), (1, .int x1)]) F dX5_fewestToTell_25 26 rfl (by decide) rfl ?_
    refine z_bipush F dX5_fewestToTell_26 28 rfl zkb_99 ?_
    refine z_istore (lv' := [(4, .int 99), (3, .int (-9)), (2, .int v1), (0, .ref (aS 0)), (1, .int x1)]) F dX5_fewestToTell_28 30 rfl (by decide) rfl ?_
    refine z_iconst F dX5_fewestToTell_30 31 rfl zki_0 ?_
    refine z_istore (lv' := [(5, .int 0), (4, .int 99), (3, .int (-9)), (2, .int v1), (0, .ref (aS 0)), (1, .int x1)]) F dX5_fewestToTell_31 33 rfl (by decide) rfl ?_
    obtain ⟨n1, hw⟩ := hw
    refine z_lv (lv' := [(0, .ref (aS 0)), (1, .int x1), (2, .int v1), (3, .int (-9)), (4, .int 99), (5, .int 0)]) [4, 5, 3, 2, 1, 0] rfl ?_
    refine xX5_fewestToTell_33 x1 v1 sI sR tI tR hI hR F hRt n1 (-9) 99 0 mI_1 mR_1 hw
  · have hw := hwf c1; clear hwt hwf
    refine z_bipush F dX5_fewestToTell_10 12 rfl zkb_m9 ?_
    exact hRt 12 _ (-9) (mI_1, mR_1) dX5_fewestToTell_12 hw
set_option maxHeartbeats 4000000 in
set_option maxRecDepth 100000 in
theorem mX5_fewestToTell (l : Launch) (D : va_G) (cyI cyB : ClassId) (aS : Nat → Nat) (aT : Nat → Nat) (aH : Nat → Nat) (aM : Nat → Nat) (kp : Value) (x1 : Int32) (sI : Nat → Int32) (sR : Nat → Nat → Int32) (tI : Nat → Int32) (tR : Nat → Nat → Int32) (hI : Nat → Int32) (hR : Nat → Nat → Int32) (mI : Nat → Int32) (mR : Nat → Nat → Int32) {post : Int32 → (Nat → Int32) → (Nat → Nat → Int32) → Prop} (hw : pX5_fewestToTell x1 sI sR tI tR hI hR mI mR post) : zMi l yX5_fewestToTell wsX5_fewestToTell 4 94 D cyI cyB [.ref (aS 0), .int x1] (wSt aH aM aT aS kp cyI sI sR ++ wTe aT cyB tI tR ++ wHo aH cyI hI hR ++ wMi aH aM cyI mI mR) (S := ((Nat → Int32) × (Nat → Nat → Int32))) (fun u => (wSt aH aM aT aS kp cyI sI sR ++ wTe aT cyB tI tR ++ wHo aH cyI hI hR ++ wMi aH aM cyI u.1 u.2)) (fun r u => post r u.1 u.2) :=
  z_meti (cc := cX5_fewestToTell) (nL := 7) (by decide +kernel) rfl (Nat.le_of_ble_eq_true rfl) (fun C hl F hRt => xX5_fewestToTell_0 x1 sI sR tI tR hI hR mI mR F hRt hw)
theorem y_X5_fewestToTell : zY yX5_fewestToTell wsX5_fewestToTell cX5_fewestToTell 7 (some .int) 1 := ⟨⟨_, rfl⟩, by decide +kernel⟩
theorem iX5_monday_1 : ∀ w ∈ wsX10, w ∈ wsX5_monday := fun w h => List.mem_cons_of_mem _ (List.mem_append_left _ (List.mem_append_left _ (List.mem_append_left _ (List.mem_append_right _ h))))
theorem iX5_monday_5 : ∀ w ∈ wsX50, w ∈ wsX5_monday := fun w h => List.mem_cons_of_mem _ (List.mem_append_left _ (List.mem_append_left _ (List.mem_append_left _ (List.mem_append_left _ (List.mem_append_right _ h)))))
theorem kX5_monday_12 : zL wsX5_monday RX5 12 5 0 (.object "StillRoom$House") true := zL5 iX5_monday_5 (by decide) (List.mem_of_getElem? (i := 1) rfl) rfl rfl
theorem kX5_monday_21 : zL wsX5_monday RX5 21 5 1 (.object "StillRoom$Mind") true := zL5 iX5_monday_5 (by decide) (List.mem_of_getElem? (i := 3) rfl) rfl rfl
theorem kX5_monday_101 : zL wsX5_monday RX5 101 1 7 .int false := zL1 iX5_monday_1 (by decide) (List.mem_of_getElem? (i := 2) rfl) rfl rfl
set_option maxHeartbeats 4000000 in
set_option maxRecDepth 100000 in
theorem xX5_monday_0 {C : zC} {D : va_G} {cyI cyB : ClassId} {aS : Nat → Nat} {aT : Nat → Nat} {aH : Nat → Nat} {aM : Nat → Nat} {kp : Value} (x1 : Int32) (x2 : Int32) (x3 : Int32) (sI : Nat → Int32) (sR : Nat → Nat → Int32) (tI : Nat → Int32) (tR : Nat → Nat → Int32) (hI : Nat → Int32) (hR : Nat → Nat → Int32) (mI : Nat → Int32) (mR : Nat → Nat → Int32) (F : zF C D { frames := 5, cells := 0, slots := 0, locals := 120 } cX5_monday 5 wsX5_monday RX5 (some .int) cyI cyB) {post : Int32 → (Nat → Int32) → (Nat → Nat → Int32) → (Nat → Int32) → (Nat → Nat → Int32) → Prop} (hRt : zRi C D cX5_monday 5 (S := ((Nat → Int32) × (Nat → Nat → Int32) × (Nat → Int32) × (Nat → Nat → Int32))) (fun u => (wSt aH aM aT aS kp cyI u.1 u.2.1 ++ wTe aT cyB tI tR ++ wHo aH cyI hI hR ++ wMi aH aM cyI u.2.2.1 u.2.2.2)) (fun r u => post r u.1 u.2.1 u.2.2.1 u.2.2.2)) (hw : pX5_monday x1 x2 x3 sI sR tI tR hI hR mI mR post) : zX C D 5 0 0 (wSt aH aM aT aS kp cyI sI sR ++ wTe aT cyB tI tR ++ wHo aH cyI hI hR ++ wMi aH aM cyI mI mR) 0 [(0, .ref (aS 0)), (1, .int x1), (2, .int x2), (3, .int x3)] [] := by
  refine z_aload_n F dX5_monday_0 1 rfl 0 rfl ?_
  refine z_get F dX5_monday_1 4 rfl kX5_monday_12 0 rfl rfl ?_
  refine z_iload_n F dX5_monday_4 5 rfl 1 rfl ?_
  refine z_segVi (As := [.int x1]) (st := []) F dX5_monday_5 8 rfl (mX1_isHand C.1.2.1 D cyI cyB aH x1 hI hR hw) y_X1_isHand rfl gX5_monday_X1_isHand rfl (ci := 1) (rq := 0) rfl rfl ⟨Nat.le_of_ble_eq_true rfl, Nat.le_of_ble_eq_true rfl⟩ ⟨Nat.zero_le _, Nat.zero_le _⟩ (Nat.le_of_ble_eq_true rfl) (wSt aH aM aT aS kp cyI sI sR ++ wTe aT cyB tI tR) (wMi aH aM cyI mI mR) (by simp only [List.append_assoc, List.nil_append, List.append_nil]) (fun _ => rfl) (fun u => (wSt aH aM aT aS kp cyI sI sR ++ wTe aT cyB tI tR ++ wHo aH cyI hI hR ++ wMi aH aM cyI mI mR)) (fun u => (by simp only [List.append_assoc, List.nil_append, List.append_nil])) (fun r0 u hp => ?_)
  obtain ⟨b1, rfl, hw⟩ := hp
  obtain ⟨hwt, hwf⟩ := hw
  refine z_ifneB F dX5_monday_8 17 rfl 11 rfl (fun c1 => ?_) (fun c1 => ?_)
  · have hw := hwt c1; clear hwt hwf
    refine z_aload_n F dX5_monday_17 18 rfl 0 rfl ?_
    refine z_get F dX5_monday_18 21 rfl kX5_monday_12 0 rfl rfl ?_
    refine z_get F dX5_monday_21 24 rfl kX5_monday_101 6 rfl rfl ?_
    refine z_iload_n F dX5_monday_24 25 rfl 1 rfl ?_
    refine z_callSi (As := [.int (hI 2), .int x1]) (st := []) F dX5_monday_25 28 rfl (mX5_contains C.1.2.1 D cyI cyB (hI 2) x1 hw) y_X5_contains rfl gX5_monday_X5_contains ⟨Nat.le_of_ble_eq_true rfl, Nat.le_of_ble_eq_true rfl⟩ ⟨Nat.zero_le _, Nat.zero_le _⟩ (Nat.le_of_ble_eq_true rfl) [] (by decide) rfl (fun _ => rfl) (fun u => (wSt aH aM aT aS kp cyI sI sR ++ wTe aT cyB tI tR ++ wHo aH cyI hI hR ++ wMi aH aM cyI mI mR)) (fun _ => rfl) (fun r0 u hp => ?_)
    obtain ⟨b2, rfl, hw⟩ := hp
    obtain ⟨hwt, hwf⟩ := hw
    refine z_ifeqB F dX5_monday_28 38 rfl 31 rfl (fun c2 => ?_) (fun c2 => ?_)
    · have hw := hwt c2; clear hwt hwf
      refine z_iload_n F dX5_monday_38 39 rfl 2 rfl ?_
      refine z_iload_n F dX5_monday_39 40 rfl 3 rfl ?_
      refine z_callSi (As := [.int x2, .int x3]) (st := []) F dX5_monday_40 43 rfl (mX5_outsideHands C.1.2.1 D cyI cyB x2 x3 hw) y_X5_outsideHands rfl gX5_monday_X5_outsideHands ⟨Nat.le_of_ble_eq_true rfl, Nat.le_of_ble_eq_true rfl⟩ ⟨Nat.zero_le _, Nat.zero_le _⟩ (Nat.le_of_ble_eq_true rfl) [] (by decide) rfl (fun _ => rfl) (fun u => (wSt aH aM aT aS kp cyI sI sR ++ wTe aT cyB tI tR ++ wHo aH cyI hI hR ++ wMi aH aM cyI mI mR)) (fun _ => rfl) (fun r1 u hp => ?_)
      replace hw := hp
      clear hp
      refine z_istore (lv' := [(4, .int r1), (0, .ref (aS 0)), (1, .int x1), (2, .int x2), (3, .int x3)]) F dX5_monday_43 45 rfl (by decide) rfl ?_
      refine z_iload F dX5_monday_45 47 rfl 0 rfl ?_
      obtain ⟨hwt, hwf⟩ := hw
      refine z_ifeq F dX5_monday_47 57 rfl 50 rfl (fun c3 => ?_) (fun c3 => ?_)
      · have hw := hwt c3; clear hwt hwf
        refine z_aload_n F dX5_monday_57 58 rfl 1 rfl ?_
        refine z_get F dX5_monday_58 61 rfl kX5_monday_21 0 rfl rfl ?_
        refine z_segVv (As := []) (st := []) F dX5_monday_61 64 rfl (mX2_begin C.1.2.1 D cyI cyB aH aM hI hR mI mR hw) y_X2_begin rfl gX5_monday_X2_begin rfl (ci := 2) (rq := 12) rfl rfl ⟨Nat.le_of_ble_eq_true rfl, Nat.le_of_ble_eq_true rfl⟩ ⟨Nat.zero_le _, Nat.zero_le _⟩ (Nat.le_of_ble_eq_true rfl) (wSt aH aM aT aS kp cyI sI sR ++ wTe aT cyB tI tR) [] (by simp only [List.append_assoc, List.nil_append, List.append_nil]) (fun _ => rfl) (fun u => (wSt aH aM aT aS kp cyI sI sR ++ wTe aT cyB tI tR ++ wHo aH cyI hI hR ++ wMi aH aM cyI u.1 u.2)) (fun u => (by simp only [List.append_assoc, List.nil_append, List.append_nil])) (fun u hp => ?_)
        obtain ⟨mI_1, mR_1⟩ := u
        replace hw := hp
        clear hp
        refine z_aload_n F dX5_monday_64 65 rfl 1 rfl ?_
        refine z_get F dX5_monday_65 68 rfl kX5_monday_21 0 rfl rfl ?_
        refine z_iload_n F dX5_monday_68 69 rfl 3 rfl ?_
        refine z_segVv (As := [.int x2]) (st := []) F dX5_monday_69 72 rfl (mX2_chooseLeavers C.1.2.1 D cyI cyB aH aM x2 hI hR mI_1 mR_1 hw) y_X2_chooseLeavers rfl gX5_monday_X2_chooseLeavers rfl (ci := 2) (rq := 12) rfl rfl ⟨Nat.le_of_ble_eq_true rfl, Nat.le_of_ble_eq_true rfl⟩ ⟨Nat.zero_le _, Nat.zero_le _⟩ (Nat.le_of_ble_eq_true rfl) (wSt aH aM aT aS kp cyI sI sR ++ wTe aT cyB tI tR) [] (by simp only [List.append_assoc, List.nil_append, List.append_nil]) (fun _ => rfl) (fun u => (wSt aH aM aT aS kp cyI sI sR ++ wTe aT cyB tI tR ++ wHo aH cyI hI hR ++ wMi aH aM cyI u.1 u.2)) (fun u => (by simp only [List.append_assoc, List.nil_append, List.append_nil])) (fun u hp => ?_)
        obtain ⟨mI_2, mR_2⟩ := u
        replace hw := hp
        clear hp
        refine z_aload_n F dX5_monday_72 73 rfl 1 rfl ?_
        refine z_get F dX5_monday_73 76 rfl kX5_monday_21 0 rfl rfl ?_
        refine z_iload_n F dX5_monday_76 77 rfl 4 rfl ?_
        refine z_segVv (As := [.int x3]) (st := []) F dX5_monday_77 80 rfl (mX2_chooseTakers C.1.2.1 D cyI cyB aH aM x3 hI hR mI_2 mR_2 hw) y_X2_chooseTakers rfl gX5_monday_X2_chooseTakers rfl (ci := 2) (rq := 12) rfl rfl ⟨Nat.le_of_ble_eq_true rfl, Nat.le_of_ble_eq_true rfl⟩ ⟨Nat.zero_le _, Nat.zero_le _⟩ (Nat.le_of_ble_eq_true rfl) (wSt aH aM aT aS kp cyI sI sR ++ wTe aT cyB tI tR) [] (by simp only [List.append_assoc, List.nil_append, List.append_nil]) (fun _ => rfl) (fun u => (wSt aH aM aT aS kp cyI sI sR ++ wTe aT cyB tI tR ++ wHo aH cyI hI hR ++ wMi aH aM cyI u.1 u.2)) (fun u => (by simp only [List.append_assoc, List.nil_append, List.append_nil])) (fun u hp => ?_)
        obtain ⟨mI_3, mR_3⟩ := u
        replace hw := hp
        clear hp
        refine z_aload_n F dX5_monday_80 81 rfl 1 rfl ?_
        refine z_iload_n F dX5_monday_81 82 rfl 2 rfl ?_
        refine z_segVi (As := [.int x1]) (st := []) F dX5_monday_82 85 rfl (mX5_fewestToTell C.1.2.1 D cyI cyB aS aT aH aM kp x1 sI sR tI tR hI hR mI_3 mR_3 hw) y_X5_fewestToTell rfl gX5_monday_X5_fewestToTell rfl (ci := 5) (rq := 0) rfl rfl ⟨Nat.le_of_ble_eq_true rfl, Nat.le_of_ble_eq_true rfl⟩ ⟨Nat.zero_le _, Nat.zero_le _⟩ (Nat.le_of_ble_eq_true rfl) [] [] (by simp only [List.append_assoc, List.nil_append, List.append_nil]) (fun _ => rfl) (fun u => (wSt aH aM aT aS kp cyI sI sR ++ wTe aT cyB tI tR ++ wHo aH cyI hI hR ++ wMi aH aM cyI u.1 u.2)) (fun u => (by simp only [List.append_assoc, List.nil_append, List.append_nil])) (fun r2 u hp => ?_)
        obtain ⟨mI_4, mR_4⟩ := u
        replace hw := hp
        clear hp
        exact hRt 85 _ r2 (sI, sR, mI_4, mR_4) dX5_monday_85 hw
      · have hw := hwf c3; clear hwt hwf
        refine z_aload_n F dX5_monday_50 51 rfl 1 rfl ?_
        refine z_iload F dX5_monday_51 53 rfl 0 rfl ?_
        refine z_segVi (As := [.int r1]) (st := []) F dX5_monday_53 56 rfl (mX5_refuse C.1.2.1 D cyI cyB aS aH aM aT kp r1 sI sR hw) y_X5_refuse rfl gX5_monday_X5_refuse rfl (ci := 5) (rq := 0) rfl rfl ⟨Nat.le_of_ble_eq_true rfl, Nat.le_of_ble_eq_true rfl⟩ ⟨Nat.zero_le _, Nat.zero_le _⟩ (Nat.le_of_ble_eq_true rfl) [] (wTe aT cyB tI tR ++ wHo aH cyI hI hR ++ wMi aH aM cyI mI mR) (by simp only [List.append_assoc, List.nil_append, List.append_nil]) (fun _ => rfl) (fun u => (wSt aH aM aT aS kp cyI u.1 u.2 ++ wTe aT cyB tI tR ++ wHo aH cyI hI hR ++ wMi aH aM cyI mI mR)) (fun u => (by simp only [List.append_assoc, List.nil_append, List.append_nil])) (fun r3 u hp => ?_)
        obtain ⟨sI_1, sR_1⟩ := u
        replace hw := hp
        clear hp
        exact hRt 56 _ r3 (sI_1, sR_1, mI, mR) dX5_monday_56 hw
    · have hw := hwf c2; clear hwt hwf
      refine z_aload_n F dX5_monday_31 32 rfl 0 rfl ?_
      refine z_bipush F dX5_monday_32 34 rfl zkb_m3 ?_
      refine z_segVi (As := [.int (-3)]) (st := []) F dX5_monday_34 37 rfl (mX5_refuse C.1.2.1 D cyI cyB aS aH aM aT kp (-3) sI sR hw) y_X5_refuse rfl gX5_monday_X5_refuse rfl (ci := 5) (rq := 0) rfl rfl ⟨Nat.le_of_ble_eq_true rfl, Nat.le_of_ble_eq_true rfl⟩ ⟨Nat.zero_le _, Nat.zero_le _⟩ (Nat.le_of_ble_eq_true rfl) [] (wTe aT cyB tI tR ++ wHo aH cyI hI hR ++ wMi aH aM cyI mI mR) (by simp only [List.append_assoc, List.nil_append, List.append_nil]) (fun _ => rfl) (fun u => (wSt aH aM aT aS kp cyI u.1 u.2 ++ wTe aT cyB tI tR ++ wHo aH cyI hI hR ++ wMi aH aM cyI mI mR)) (fun u => (by simp only [List.append_assoc, List.nil_append, List.append_nil])) (fun r4 u hp => ?_)
      obtain ⟨sI_2, sR_2⟩ := u
      replace hw := hp
      clear hp
      exact hRt 37 _ r4 (sI_2, sR_2, mI, mR) dX5_monday_37 hw
  · have hw := hwf c1; clear hwt hwf
    refine z_aload_n F dX5_monday_11 12 rfl 0 rfl ?_
    refine z_iconst F dX5_monday_12 13 rfl zki_m1 ?_
    refine z_segVi (As := [.int (-1)]) (st := []) F dX5_monday_13 16 rfl (mX5_refuse C.1.2.1 D cyI cyB aS aH aM aT kp (-1) sI sR hw) y_X5_refuse rfl gX5_monday_X5_refuse rfl (ci := 5) (rq := 0) rfl rfl ⟨Nat.le_of_ble_eq_true rfl, Nat.le_of_ble_eq_true rfl⟩ ⟨Nat.zero_le _, Nat.zero_le _⟩ (Nat.le_of_ble_eq_true rfl) [] (wTe aT cyB tI tR ++ wHo aH cyI hI hR ++ wMi aH aM cyI mI mR) (by simp only [List.append_assoc, List.nil_append, List.append_nil]) (fun _ => rfl) (fun u => (wSt aH aM aT aS kp cyI u.1 u.2 ++ wTe aT cyB tI tR ++ wHo aH cyI hI hR ++ wMi aH aM cyI mI mR)) (fun u => (by simp only [List.append_assoc, List.nil_append, List.append_nil])) (fun r5 u hp => ?_)
    obtain ⟨sI_3, sR_3⟩ := u
    replace hw := hp
    clear hp
    exact hRt 16 _ r5 (sI_3, sR_3, mI, mR) dX5_monday_16 hw
set_option maxHeartbeats 4000000 in
set_option maxRecDepth 100000 in
theorem mX5_monday (l : Launch) (D : va_G) (cyI cyB : ClassId) (aS : Nat → Nat) (aT : Nat → Nat) (aH : Nat → Nat) (aM : Nat → Nat) (kp : Value) (x1 : Int32) (x2 : Int32) (x3 : Int32) (sI : Nat → Int32) (sR : Nat → Nat → Int32) (tI : Nat → Int32) (tR : Nat → Nat → Int32) (hI : Nat → Int32) (hR : Nat → Nat → Int32) (mI : Nat → Int32) (mR : Nat → Nat → Int32) {post : Int32 → (Nat → Int32) → (Nat → Nat → Int32) → (Nat → Int32) → (Nat → Nat → Int32) → Prop} (hw : pX5_monday x1 x2 x3 sI sR tI tR hI hR mI mR post) : zMi l yX5_monday wsX5_monday 5 120 D cyI cyB [.ref (aS 0), .int x1, .int x2, .int x3] (wSt aH aM aT aS kp cyI sI sR ++ wTe aT cyB tI tR ++ wHo aH cyI hI hR ++ wMi aH aM cyI mI mR) (S := ((Nat → Int32) × (Nat → Nat → Int32) × (Nat → Int32) × (Nat → Nat → Int32))) (fun u => (wSt aH aM aT aS kp cyI u.1 u.2.1 ++ wTe aT cyB tI tR ++ wHo aH cyI hI hR ++ wMi aH aM cyI u.2.2.1 u.2.2.2)) (fun r u => post r u.1 u.2.1 u.2.2.1 u.2.2.2) :=
  z_meti (cc := cX5_monday) (nL := 5) (by decide +kernel) rfl (Nat.le_of_ble_eq_true rfl) (fun C hl F hRt => xX5_monday_0 x1 x2 x3 sI sR tI tR hI hR mI mR F hRt hw)
theorem y_X5_monday : zY yX5_monday wsX5_monday cX5_monday 5 (some .int) 3 := ⟨⟨_, rfl⟩, by decide +kernel⟩
theorem iX5_findTellingFrom_5 : ∀ w ∈ wsX50, w ∈ wsX5_findTellingFrom := fun w h => List.mem_cons_of_mem _ (List.mem_append_left _ (List.mem_append_left _ (List.mem_append_left _ (List.mem_append_left _ (List.mem_append_right _ h)))))
theorem kX5_findTellingFrom_21 : zL wsX5_findTellingFrom RX5 21 5 1 (.object "StillRoom$Mind") true := zL5 iX5_findTellingFrom_5 (by decide) (List.mem_of_getElem? (i := 1) rfl) rfl rfl
theorem kX5_findTellingFrom_39 : zL wsX5_findTellingFrom RX5 39 5 5 (.array .int) true := zL5 iX5_findTellingFrom_5 (by decide) (List.mem_of_getElem? (i := 2) rfl) rfl rfl
set_option maxHeartbeats 4000000 in
set_option maxRecDepth 100000 in
theorem xX5_findTellingFrom_2 {C : zC} {D : va_G} {cyI cyB : ClassId} {aS : Nat → Nat} {aT : Nat → Nat} {aH : Nat → Nat} {aM : Nat → Nat} {kp : Value} (x2 : Int32) (tI : Nat → Int32) (tR : Nat → Nat → Int32) (hI : Nat → Int32) (hR : Nat → Nat → Int32) (F : zF C D { frames := 4, cells := 0, slots := 0, locals := 94 } cX5_findTellingFrom 5 wsX5_findTellingFrom RX5 (some .boolean) cyI cyB) {post : Bool → (Nat → Int32) → (Nat → Nat → Int32) → (Nat → Int32) → (Nat → Nat → Int32) → Prop} (hRt : zRz C D cX5_findTellingFrom 5 (S := ((Nat → Int32) × (Nat → Nat → Int32) × (Nat → Int32) × (Nat → Nat → Int32))) (fun u => (wSt aH aM aT aS kp cyI u.1 u.2.1 ++ wTe aT cyB tI tR ++ wHo aH cyI hI hR ++ wMi aH aM cyI u.2.2.1 u.2.2.2)) (fun r u => ∃ b : Bool, r = zb b ∧ post b u.1 u.2.1 u.2.2.1 u.2.2.2)) : ∀ (n : Nat) (x3 : Int32) (sI : Nat → Int32) (sR : Nat → Nat → Int32) (mI : Nat → Int32) (mR : Nat → Nat → Int32), bX5_findTellingFrom_2 x2 tI tR hI hR post  n x3 sI sR mI mR → zX C D 5 0 0 (wSt aH aM aT aS kp cyI sI sR ++ wTe aT cyB tI tR ++ wHo aH cyI hI hR ++ wMi aH aM cyI mI mR) 2 [(0, .ref (aS 0)), (2, .int x2), (3, .int x3)] [] := by
  intro n
  induction n with
  | zero => intro _ _ _ _ _ hw; exact hw.elim
  | succ n ih =>
    intro x3 sI sR mI mR hw
    refine z_iload_n F dX5_findTellingFrom_2 3 rfl 2 rfl ?_
    refine z_bipush F dX5_findTellingFrom_3 5 rfl zkb_80 ?_
    obtain ⟨hwt, hwf⟩ := hw
    refine z_icmpge F dX5_findTellingFrom_5 66 rfl 8 rfl (fun c1 => ?_) (fun c1 => ?_)
    · have hw := hwt c1; clear hwt hwf
      refine z_iconst F dX5_findTellingFrom_66 67 rfl zki_0 ?_
      exact hRt 67 _ false (sI, sR, mI, mR) dX5_findTellingFrom_67 ⟨false, rfl, hw⟩
    · have hw := hwf c1; clear hwt hwf
      refine z_aload_n F dX5_findTellingFrom_8 9 rfl 0 rfl ?_
      refine z_get F dX5_findTellingFrom_9 12 rfl kX5_findTellingFrom_21 0 rfl rfl ?_
      refine z_iload_n F dX5_findTellingFrom_12 13 rfl 2 rfl ?_
      refine z_segVi (As := [.int x3]) (st := []) F dX5_findTellingFrom_13 16 rfl (mX2_canTell C.1.2.1 D cyI cyB aH aM x3 hI hR mI mR hw) y_X2_canTell rfl gX5_findTellingFrom_X2_canTell rfl (ci := 2) (rq := 12) rfl rfl ⟨Nat.le_of_ble_eq_true rfl, Nat.le_of_ble_eq_true rfl⟩ ⟨Nat.zero_le _, Nat.zero_le _⟩ (Nat.le_of_ble_eq_true rfl) (wSt aH aM aT aS kp cyI sI sR ++ wTe aT cyB tI tR) [] (by simp only [List.append_assoc, List.nil_append, List.append_nil]) (fun _ => rfl) (fun u => (wSt aH aM aT aS kp cyI sI sR ++ wTe aT cyB tI tR ++ wHo aH cyI hI hR ++ wMi aH aM cyI mI mR)) (fun u => (by simp only [List.append_assoc, List.nil_append, List.append_nil])) (fun r0 u hp => ?_)
      obtain ⟨b1, rfl, hw⟩ := hp
      obtain ⟨hwt, hwf⟩ := hw
      refine z_ifeqB F dX5_findTellingFrom_16 60 rfl 19 rfl (fun c2 => ?_) (fun c2 => ?_)
      · have hw := hwt c2; clear hwt hwf
        refine z_iinc F dX5_findTellingFrom_60 63 rfl 2 rfl (by decide) zki_1 (fun v1 => [(3, .int v1), (0, .ref (aS 0)), (2, .int x2)]) (fun _ => rfl) (fun v1 ev1 => ?_)
        replace hw := hw v1 ev1
        refine z_goto F dX5_findTellingFrom_63 2 rfl ?_
        refine z_lv (lv' := [(0, .ref (aS 0)), (2, .int x2), (3, .int v1)]) [1, 2, 0] rfl ?_
        exact ih v1 sI sR mI mR hw
      · have hw := hwf c2; clear hwt hwf
        refine z_aload_n F dX5_findTellingFrom_19 20 rfl 0 rfl ?_
        refine z_get F dX5_findTellingFrom_20 23 rfl kX5_findTellingFrom_21 0 rfl rfl ?_
        refine z_iload_n F dX5_findTellingFrom_23 24 rfl 2 rfl ?_
        refine z_iconst F dX5_findTellingFrom_24 25 rfl zki_1 ?_
        refine z_segVv (As := [.int x3, .int 1]) (st := []) F dX5_findTellingFrom_25 28 rfl (mX2_setTelling C.1.2.1 D cyI cyB aH aM x3 true hI hR mI mR hw) y_X2_setTelling rfl gX5_findTellingFrom_X2_setTelling rfl (ci := 2) (rq := 12) rfl rfl ⟨Nat.le_of_ble_eq_true rfl, Nat.le_of_ble_eq_true rfl⟩ ⟨Nat.zero_le _, Nat.zero_le _⟩ (Nat.le_of_ble_eq_true rfl) (wSt aH aM aT aS kp cyI sI sR ++ wTe aT cyB tI tR) [] (by simp only [List.append_assoc, List.nil_append, List.append_nil]) (fun _ => rfl) (fun u => (wSt aH aM aT aS kp cyI sI sR ++ wTe aT cyB tI tR ++ wHo aH cyI hI hR ++ wMi aH aM cyI u.1 u.2)) (fun u => (by simp only [List.append_assoc, List.nil_append, List.append_nil])) (fun u hp => ?_)
        obtain ⟨mI_1, mR_1⟩ := u
        replace hw := hp
        clear hp
        refine z_aload_n F dX5_findTellingFrom_28 29 rfl 0 rfl ?_
        refine z_get F dX5_findTellingFrom_29 32 rfl kX5_findTellingFrom_21 0 rfl rfl ?_
        refine z_segVi (As := []) (st := []) F dX5_findTellingFrom_32 35 rfl (mX2_holds C.1.2.1 D cyI cyB aH aM hI hR mI_1 mR_1 hw) y_X2_holds rfl gX5_findTellingFrom_X2_holds rfl (ci := 2) (rq := 12) rfl rfl ⟨Nat.le_of_ble_eq_true rfl, Nat.le_of_ble_eq_true rfl⟩ ⟨Nat.zero_le _, Nat.zero_le _⟩ (Nat.le_of_ble_eq_true rfl) (wSt aH aM aT aS kp cyI sI sR ++ wTe aT cyB tI tR) [] (by simp only [List.append_assoc, List.nil_append, List.append_nil]) (fun _ => rfl) (fun u => (wSt aH aM aT aS kp cyI sI sR ++ wTe aT cyB tI tR ++ wHo aH cyI hI hR ++ wMi aH aM cyI u.1 u.2)) (fun u => (by simp only [List.append_assoc, List.nil_append, List.append_nil])) (fun r0 u hp => ?_)
        obtain ⟨mI_2, mR_2⟩ := u
        obtain ⟨b2, rfl, hw⟩ := hp
        refine z_istore (lv' := [(4, .int (zb b2)), (0, .ref (aS 0)), (2, .int x2), (3, .int x3)]) F dX5_findTellingFrom_35 37 rfl (by decide) rfl ?_
        refine z_aload_n F dX5_findTellingFrom_37 38 rfl 1 rfl ?_
        refine z_get F dX5_findTellingFrom_38 41 rfl kX5_findTellingFrom_21 0 rfl rfl ?_
        refine z_iload_n F dX5_findTellingFrom_41 42 rfl 3 rfl ?_
        refine z_iconst F dX5_findTellingFrom_42 43 rfl zki_0 ?_
        refine z_segVv (As := [.int x3, .int 0]) (st := []) F dX5_findTellingFrom_43 46 rfl (mX2_setTelling C.1.2.1 D cyI cyB aH aM x3 false hI hR mI_2 mR_2 hw) y_X2_setTelling rfl gX5_findTellingFrom_X2_setTelling rfl (ci := 2) (rq := 12) rfl rfl ⟨Nat.le_of_ble_eq_true rfl, Nat.le_of_ble_eq_true rfl⟩ ⟨Nat.zero_le _, Nat.zero_le _⟩ (Nat.le_of_ble_eq_true rfl) (wSt aH aM aT aS kp cyI sI sR ++ wTe aT cyB tI tR) [] (by simp only [List.append_assoc, List.nil_append, List.append_nil]) (fun _ => rfl) (fun u => (wSt aH aM aT aS kp cyI sI sR ++ wTe aT cyB tI tR ++ wHo aH cyI hI hR ++ wMi aH aM cyI u.1 u.2)) (fun u => (by simp only [List.append_assoc, List.nil_append, List.append_nil])) (fun u hp => ?_)
        obtain ⟨mI_3, mR_3⟩ := u
        replace hw := hp
        clear hp
        refine z_iload F dX5_findTellingFrom_46 48 rfl 0 rfl ?_
        obtain ⟨hwt, hwf⟩ := hw
        refine z_ifeqB F dX5_findTellingFrom_48 60 rfl 51 rfl (fun c3 => ?_) (fun c3 => ?_)
        · have hw := hwt c3; clear hwt hwf
          refine z_iinc F dX5_findTellingFrom_60 63 rfl 3 rfl (by decide) zki_1 (fun v2 => [(3, .int v2), (4, .int (zb b2)), (0, .ref (aS 0)), (2, .int x2)]) (fun _ => rfl) (fun v2 ev2 => ?_)
          replace hw := hw v2 ev2
          refine z_goto F dX5_findTellingFrom_63 2 rfl ?_
          refine z_lv (lv' := [(0, .ref (aS 0)), (2, .int x2), (3, .int v2)]) [2, 3, 0] rfl ?_
          exact ih v2 sI sR mI_3 mR_3 hw
        · have hw := hwf c3; clear hwt hwf
          refine z_aload_n F dX5_findTellingFrom_51 52 rfl 1 rfl ?_
          refine z_get F dX5_findTellingFrom_52 55 rfl kX5_findTellingFrom_39 0 rfl rfl ?_
          refine z_iload_n F dX5_findTellingFrom_55 56 rfl 2 rfl ?_
          refine z_iload_n F dX5_findTellingFrom_56 57 rfl 3 rfl ?_
          obtain ⟨j1, ej1, hj1, hw⟩ := hw
          refine z_iast F dX5_findTellingFrom_57 58 rfl 3 rfl (by decide) j1 ej1 hj1 (wSt aH aM aT aS kp cyI sI (va_up sR 2 (upd (sR 2) j1 x3)) ++ wTe aT cyB tI tR ++ wHo aH cyI hI hR ++ wMi aH aM cyI mI_3 mR_3) rfl ?_
          refine z_iconst F dX5_findTellingFrom_58 59 rfl zki_1 ?_
          exact hRt 59 _ true (sI, (va_up sR 2 (upd (sR 2) j1 x3)), mI_3, mR_3) dX5_findTellingFrom_59 ⟨true, rfl, hw⟩
set_option maxHeartbeats 4000000 in
set_option maxRecDepth 100000 in
theorem xX5_findTellingFrom_0 {C : zC} {D : va_G} {cyI cyB : ClassId} {aS : Nat → Nat} {aT : Nat → Nat} {aH : Nat → Nat} {aM : Nat → Nat} {kp : Value} (x1 : Int32) (x2 : Int32) (sI : Nat → Int32) (sR : Nat → Nat → Int32) (tI : Nat → Int32) (tR : Nat → Nat → Int32) (hI : Nat → Int32) (hR : Nat → Nat → Int32) (mI : Nat → Int32) (mR : Nat → Nat → Int32) (F : zF C D { frames := 4, cells := 0, slots := 0, locals := 94 } cX5_findTellingFrom 5 wsX5_findTellingFrom RX5 (some .boolean) cyI cyB) {post : Bool → (Nat → Int32) → (Nat → Nat → Int32) → (Nat → Int32) → (Nat → Nat → Int32) → Prop} (hRt : zRz C D cX5_findTellingFrom 5 (S := ((Nat → Int32) × (Nat → Nat → Int32) × (Nat → Int32) × (Nat → Nat → Int32))) (fun u => (wSt aH aM aT aS kp cyI u.1 u.2.1 ++ wTe aT cyB tI tR ++ wHo aH cyI hI hR ++ wMi aH aM cyI u.2.2.1 u.2.2.2)) (fun r u => ∃ b : Bool, r = zb b ∧ post b u.1 u.2.1 u.2.2.1 u.2.2.2)) (hw : pX5_findTellingFrom x1 x2 sI sR tI tR hI hR mI mR post) : zX C D 5 0 0 (wSt aH aM aT aS kp cyI sI sR ++ wTe aT cyB tI tR ++ wHo aH cyI hI hR ++ wMi aH aM cyI mI mR) 0 [(0, .ref (aS 0)), (1, .int x1), (2, .int x2)] [] := by
  refine z_iload_n F dX5_findTellingFrom_0 1 rfl 1 rfl ?_
  refine z_istore_n (lv' := [(3, .int x1), (0, .ref (aS 0)), (1, .int x1), (2, .int x2)]) F dX5_findTellingFrom_1 2 rfl (by decide) rfl ?_
  obtain ⟨n1, hw⟩ := hw
  refine z_lv (lv' := [(0, .ref (aS 0)), (2, .int x2), (3, .int x1)]) [1, 3, 0] rfl ?_
  refine xX5_findTellingFrom_2 x2 tI tR hI hR F hRt n1 x1 sI sR mI mR hw
set_option maxHeartbeats 4000000 in
set_option maxRecDepth 100000 in
theorem mX5_findTellingFrom (l : Launch) (D : va_G) (cyI cyB : ClassId) (aS : Nat → Nat) (aT : Nat → Nat) (aH : Nat → Nat) (aM : Nat → Nat) (kp : Value) (x1 : Int32) (x2 : Int32) (sI : Nat → Int32) (sR : Nat → Nat → Int32) (tI : Nat → Int32) (tR : Nat → Nat → Int32) (hI : Nat → Int32) (hR : Nat → Nat → Int32) (mI : Nat → Int32) (mR : Nat → Nat → Int32) {post : Bool → (Nat → Int32) → (Nat → Nat → Int32) → (Nat → Int32) → (Nat → Nat → Int32) → Prop} (hw : pX5_findTellingFrom x1 x2 sI sR tI tR hI hR mI mR post) : zMi l yX5_findTellingFrom wsX5_findTellingFrom 4 94 D cyI cyB [.ref (aS 0), .int x1, .int x2] (wSt aH aM aT aS kp cyI sI sR ++ wTe aT cyB tI tR ++ wHo aH cyI hI hR ++ wMi aH aM cyI mI mR) (S := ((Nat → Int32) × (Nat → Nat → Int32) × (Nat → Int32) × (Nat → Nat → Int32))) (fun u => (wSt aH aM aT aS kp cyI u.1 u.2.1 ++ wTe aT cyB tI tR ++ wHo aH cyI hI hR ++ wMi aH aM cyI u.2.2.1 u.2.2.2)) (fun r u => ∃ b : Bool, r = zb b ∧ post b u.1 u.2.1 u.2.2.1 u.2.2.2) :=
  z_metz (cc := cX5_findTellingFrom) (nL := 5) (by decide +kernel) rfl (Nat.le_of_ble_eq_true rfl) (fun C hl F hRt => xX5_findTellingFrom_0 x1 x2 sI sR tI tR hI hR mI mR F hRt hw)
theorem y_X5_findTellingFrom : zY yX5_findTellingFrom wsX5_findTellingFrom cX5_findTellingFrom 5 (some .boolean) 2 := ⟨⟨_, rfl⟩, by decide +kernel⟩
theorem iX5_fewestTellings_5 : ∀ w ∈ wsX50, w ∈ wsX5_fewestTellings := fun w h => List.mem_cons_of_mem _ (List.mem_append_left _ (List.mem_append_left _ (List.mem_append_left _ (List.mem_append_left _ (List.mem_append_right _ h)))))
theorem kX5_fewestTellings_21 : zL wsX5_fewestTellings RX5 21 5 1 (.object "StillRoom$Mind") true := zL5 iX5_fewestTellings_5 (by decide) (List.mem_of_getElem? (i := 1) rfl) rfl rfl
theorem kX5_fewestTellings_39 : zL wsX5_fewestTellings RX5 39 5 5 (.array .int) true := zL5 iX5_fewestTellings_5 (by decide) (List.mem_of_getElem? (i := 2) rfl) rfl rfl
set_option maxHeartbeats 4000000 in
set_option maxRecDepth 100000 in
theorem xX5_fewestTellings_90 {C : zC} {D : va_G} {cyI cyB : ClassId} {aS : Nat → Nat} {aT : Nat → Nat} {aH : Nat → Nat} {aM : Nat → Nat} {kp : Value} (x1 : Int32) (s0 : Int32) (sI : Nat → Int32) (sR : Nat → Nat → Int32) (tI : Nat → Int32) (tR : Nat → Nat → Int32) (hI : Nat → Int32) (hR : Nat → Nat → Int32) (mI : Nat → Int32) (mR : Nat → Nat → Int32) (F : zF C D { frames := 5, cells := 0, slots := 0, locals := 118 } cX5_fewestTellings 3 wsX5_fewestTellings RX5 (some .int) cyI cyB) {post : Int32 → (Nat → Int32) → (Nat → Nat → Int32) → (Nat → Int32) → (Nat → Nat → Int32) → Prop} (hRt : zRi C D cX5_fewestTellings 3 (S := ((Nat → Int32) × (Nat → Nat → Int32) × (Nat → Int32) × (Nat → Nat → Int32))) (fun u => (wSt aH aM aT aS kp cyI u.1 u.2.1 ++ wTe aT cyB tI tR ++ wHo aH cyI hI hR ++ wMi aH aM cyI u.2.2.1 u.2.2.2)) (fun r u => post r u.1 u.2.1 u.2.2.1 u.2.2.2)) {q38 : Int32 → (Nat → Int32) → (Nat → Nat → Int32) → (Nat → Int32) → (Nat → Nat → Int32) → Prop} (hq38 : ∀ (w1 : Int32) (sI : Nat → Int32) (sR : Nat → Nat → Int32) (mI : Nat → Int32) (mR : Nat → Nat → Int32), q38 w1 sI sR mI mR → zX C D 3 0 0 (wSt aH aM aT aS kp cyI sI sR ++ wTe aT cyB tI tR ++ wHo aH cyI hI hR ++ wMi aH aM cyI mI mR) 38 [(0, .ref (aS 0)), (1, .int w1)] []) (hw : bX5_fewestTellings_90 x1 s0 sI sR tI tR hI hR mI mR post q38 ) : zX C D 3 0 0 (wSt aH aM aT aS kp cyI sI sR ++ wTe aT cyB tI tR ++ wHo aH cyI hI hR ++ wMi aH aM cyI mI mR) 90 [(0, .ref (aS 0)), (1, .int x1)] [.int s0] := by
  refine z_istore_n (lv' := [(2, .int s0), (0, .ref (aS 0)), (1, .int x1)]) F dX5_fewestTellings_90 91 rfl (by decide) rfl ?_
  refine z_aload_n F dX5_fewestTellings_91 92 rfl 1 rfl ?_
  refine z_get F dX5_fewestTellings_92 95 rfl kX5_fewestTellings_21 0 rfl rfl ?_
  refine z_iload_n F dX5_fewestTellings_95 96 rfl 2 rfl ?_
  refine z_iconst F dX5_fewestTellings_96 97 rfl zki_0 ?_
  refine z_segVv (As := [.int x1, .int 0]) (st := []) F dX5_fewestTellings_97 100 rfl (mX2_setTelling C.1.2.1 D cyI cyB aH aM x1 false hI hR mI mR hw) y_X2_setTelling rfl gX5_fewestTellings_X2_setTelling rfl (ci := 2) (rq := 12) rfl rfl ⟨Nat.le_of_ble_eq_true rfl, Nat.le_of_ble_eq_true rfl⟩ ⟨Nat.zero_le _, Nat.zero_le _⟩ (Nat.le_of_ble_eq_true rfl) (wSt aH aM aT aS kp cyI sI sR ++ wTe aT cyB tI tR) [] (by simp only [List.append_assoc, List.nil_append, List.append_nil]) (fun _ => rfl) (fun u => (wSt aH aM aT aS kp cyI sI sR ++ wTe aT cyB tI tR ++ wHo aH cyI hI hR ++ wMi aH aM cyI u.1 u.2)) (fun u => (by simp only [List.append_assoc, List.nil_append, List.append_nil])) (fun u hp => ?_)
  obtain ⟨mI_6, mR_6⟩ := u
  replace hw := hp
  clear hp
  refine z_iload_n F dX5_fewestTellings_100 101 rfl 0 rfl ?_
  obtain ⟨hwt, hwf⟩ := hw
  refine z_ifeq F dX5_fewestTellings_101 113 rfl 104 rfl (fun c7 => ?_) (fun c7 => ?_)
  · have hw := hwt c7; clear hwt hwf
    refine z_iinc F dX5_fewestTellings_113 116 rfl 2 rfl (by decide) zki_1 (fun v2 => [(1, .int v2), (2, .int s0), (0, .ref (aS 0))]) (fun _ => rfl) (fun v2 ev2 => ?_)
    replace hw := hw v2 ev2
    refine z_goto F dX5_fewestTellings_116 38 rfl ?_
    refine z_lv (lv' := [(0, .ref (aS 0)), (1, .int v2)]) [2, 0] rfl ?_
    exact hq38 v2 sI sR mI_6 mR_6 hw
  · have hw := hwf c7; clear hwt hwf
    refine z_aload_n F dX5_fewestTellings_104 105 rfl 1 rfl ?_
    refine z_get F dX5_fewestTellings_105 108 rfl kX5_fewestTellings_39 0 rfl rfl ?_
    refine z_iconst F dX5_fewestTellings_108 109 rfl zki_0 ?_
    refine z_iload_n F dX5_fewestTellings_109 110 rfl 2 rfl ?_
    obtain ⟨j1, ej1, hj1, hw⟩ := hw
    refine z_iast F dX5_fewestTellings_110 111 rfl 3 rfl (by decide) j1 ej1 hj1 (wSt aH aM aT aS kp cyI sI (va_up sR 2 (upd (sR 2) j1 x1)) ++ wTe aT cyB tI tR ++ wHo aH cyI hI hR ++ wMi aH aM cyI mI_6 mR_6) rfl ?_
    refine z_iconst F dX5_fewestTellings_111 112 rfl zki_2 ?_
    exact hRt 112 _ 2 (sI, (va_up sR 2 (upd (sR 2) j1 x1)), mI_6, mR_6) dX5_fewestTellings_112 hw
set_option maxHeartbeats 4000000 in
set_option maxRecDepth 100000 in
theorem xX5_fewestTellings_38 {C : zC} {D : va_G} {cyI cyB : ClassId} {aS : Nat → Nat} {aT : Nat → Nat} {aH : Nat → Nat} {aM : Nat → Nat} {kp : Value} (tI : Nat → Int32) (tR : Nat → Nat → Int32) (hI : Nat → Int32) (hR : Nat → Nat → Int32) (F : zF C D { frames := 5, cells := 0, slots := 0, locals := 118 } cX5_fewestTellings 3 wsX5_fewestTellings RX5 (some .int) cyI cyB) {post : Int32 → (Nat → Int32) → (Nat → Nat → Int32) → (Nat → Int32) → (Nat → Nat → Int32) → Prop} (hRt : zRi C D cX5_fewestTellings 3 (S := ((Nat → Int32) × (Nat → Nat → Int32) × (Nat → Int32) × (Nat → Nat → Int32))) (fun u => (wSt aH aM aT aS kp cyI u.1 u.2.1 ++ wTe aT cyB tI tR ++ wHo aH cyI hI hR ++ wMi aH aM cyI u.2.2.1 u.2.2.2)) (fun r u => post r u.1 u.2.1 u.2.2.1 u.2.2.2)) : ∀ (n : Nat) (x1 : Int32) (sI : Nat → Int32) (sR : Nat → Nat → Int32) (mI : Nat → Int32) (mR : Nat → Nat → Int32), bX5_fewestTellings_38 tI tR hI hR post  n x1 sI sR mI mR → zX C D 3 0 0 (wSt aH aM aT aS kp cyI sI sR ++ wTe aT cyB tI tR ++ wHo aH cyI hI hR ++ wMi aH aM cyI mI mR) 38 [(0, .ref (aS 0)), (1, .int x1)] [] := by
  intro n
  induction n with
  | zero => intro _ _ _ _ _ hw; exact hw.elim
  | succ n ih =>
    intro x1 sI sR mI mR hw
    refine z_iload_n F dX5_fewestTellings_38 39 rfl 1 rfl ?_
    refine z_bipush F dX5_fewestTellings_39 41 rfl zkb_80 ?_
    obtain ⟨hwt, hwf⟩ := hw
    refine z_icmpge F dX5_fewestTellings_41 119 rfl 44 rfl (fun c4 => ?_) (fun c4 => ?_)
    · have hw := hwt c4; clear hwt hwf
      refine z_bipush F dX5_fewestTellings_119 121 rfl zkb_m9 ?_
      exact hRt 121 _ (-9) (sI, sR, mI, mR) dX5_fewestTellings_121 hw
    · have hw := hwf c4; clear hwt hwf
      refine z_aload_n F dX5_fewestTellings_44 45 rfl 0 rfl ?_
      refine z_get F dX5_fewestTellings_45 48 rfl kX5_fewestTellings_21 0 rfl rfl ?_
      refine z_iload_n F dX5_fewestTellings_48 49 rfl 1 rfl ?_
      refine z_segVi (As := [.int x1]) (st := []) F dX5_fewestTellings_49 52 rfl (mX2_canTell C.1.2.1 D cyI cyB aH aM x1 hI hR mI mR hw) y_X2_canTell rfl gX5_fewestTellings_X2_canTell rfl (ci := 2) (rq := 12) rfl rfl ⟨Nat.le_of_ble_eq_true rfl, Nat.le_of_ble_eq_true rfl⟩ ⟨Nat.zero_le _, Nat.zero_le _⟩ (Nat.le_of_ble_eq_true rfl) (wSt aH aM aT aS kp cyI sI sR ++ wTe aT cyB tI tR) [] (by simp only [List.append_assoc, List.nil_append, List.append_nil]) (fun _ => rfl) (fun u => (wSt aH aM aT aS kp cyI sI sR ++ wTe aT cyB tI tR ++ wHo aH cyI hI hR ++ wMi aH aM cyI mI mR)) (fun u => (by simp only [List.append_assoc, List.nil_append, List.append_nil])) (fun r0 u hp => ?_)
      obtain ⟨b4, rfl, hw⟩ := hp
      obtain ⟨hwt, hwf⟩ := hw
      refine z_ifeqB F dX5_fewestTellings_52 113 rfl 55 rfl (fun c5 => ?_) (fun c5 => ?_)
      · have hw := hwt c5; clear hwt hwf
        refine z_iinc F dX5_fewestTellings_113 116 rfl 1 rfl (by decide) zki_1 (fun v1 => [(1, .int v1), (0, .ref (aS 0))]) (fun _ => rfl) (fun v1 ev1 => ?_)
        replace hw := hw v1 ev1
        refine z_goto F dX5_fewestTellings_116 38 rfl ?_
        refine z_lv (lv' := [(0, .ref (aS 0)), (1, .int v1)]) [1, 0] rfl ?_
        exact ih v1 sI sR mI mR hw
      · have hw := hwf c5; clear hwt hwf
        refine z_aload_n F dX5_fewestTellings_55 56 rfl 0 rfl ?_
        refine z_get F dX5_fewestTellings_56 59 rfl kX5_fewestTellings_21 0 rfl rfl ?_
        refine z_iload_n F dX5_fewestTellings_59 60 rfl 1 rfl ?_
        refine z_iconst F dX5_fewestTellings_60 61 rfl zki_1 ?_
        refine z_segVv (As := [.int x1, .int 1]) (st := []) F dX5_fewestTellings_61 64 rfl (mX2_setTelling C.1.2.1 D cyI cyB aH aM x1 true hI hR mI mR hw) y_X2_setTelling rfl gX5_fewestTellings_X2_setTelling rfl (ci := 2) (rq := 12) rfl rfl ⟨Nat.le_of_ble_eq_true rfl, Nat.le_of_ble_eq_true rfl⟩ ⟨Nat.zero_le _, Nat.zero_le _⟩ (Nat.le_of_ble_eq_true rfl) (wSt aH aM aT aS kp cyI sI sR ++ wTe aT cyB tI tR) [] (by simp only [List.append_assoc, List.nil_append, List.append_nil]) (fun _ => rfl) (fun u => (wSt aH aM aT aS kp cyI sI sR ++ wTe aT cyB tI tR ++ wHo aH cyI hI hR ++ wMi aH aM cyI u.1 u.2)) (fun u => (by simp only [List.append_assoc, List.nil_append, List.append_nil])) (fun u hp => ?_)
        obtain ⟨mI_4, mR_4⟩ := u
        replace hw := hp
        clear hp
        refine z_aload_n F dX5_fewestTellings_64 65 rfl 0 rfl ?_
        refine z_get F dX5_fewestTellings_65 68 rfl kX5_fewestTellings_21 0 rfl rfl ?_
        refine z_segVi (As := []) (st := []) F dX5_fewestTellings_68 71 rfl (mX2_isSafe C.1.2.1 D cyI cyB aH aM hI hR mI_4 mR_4 hw) y_X2_isSafe rfl gX5_fewestTellings_X2_isSafe rfl (ci := 2) (rq := 12) rfl rfl ⟨Nat.le_of_ble_eq_true rfl, Nat.le_of_ble_eq_true rfl⟩ ⟨Nat.zero_le _, Nat.zero_le _⟩ (Nat.le_of_ble_eq_true rfl) (wSt aH aM aT aS kp cyI sI sR ++ wTe aT cyB tI tR) [] (by simp only [List.append_assoc, List.nil_append, List.append_nil]) (fun _ => rfl) (fun u => (wSt aH aM aT aS kp cyI sI sR ++ wTe aT cyB tI tR ++ wHo aH cyI hI hR ++ wMi aH aM cyI u.1 u.2)) (fun u => (by simp only [List.append_assoc, List.nil_append, List.append_nil])) (fun r0 u hp => ?_)
        obtain ⟨mI_5, mR_5⟩ := u
        obtain ⟨b5, rfl, hw⟩ := hp
        obtain ⟨hwt, hwf⟩ := hw
        refine z_ifeqB F dX5_fewestTellings_71 89 rfl 74 rfl (fun c6 => ?_) (fun c6 => ?_)
        · have hw := hwt c6; clear hwt hwf
          refine z_iconst F dX5_fewestTellings_89 90 rfl zki_0 ?_
          exact xX5_fewestTellings_90 x1 0 sI sR tI tR hI hR mI_5 mR_5 F hRt ih hw
        · have hw := hwf c6; clear hwt hwf
          refine z_aload_n F dX5_fewestTellings_74 75 rfl 0 rfl ?_
          refine z_iload_n F dX5_fewestTellings_75 76 rfl 1 rfl ?_
          refine z_iconst F dX5_fewestTellings_76 77 rfl zki_1 ?_
          refine z_iadd F dX5_fewestTellings_77 78 rfl ?_
          refine z_iconst F dX5_fewestTellings_78 79 rfl zki_1 ?_
          refine z_segVi (As := [.int (x1 + 1), .int 1]) (st := []) F dX5_fewestTellings_79 82 rfl (mX5_findTellingFrom C.1.2.1 D cyI cyB aS aT aH aM kp (x1 + 1) 1 sI sR tI tR hI hR mI_5 mR_5 hw) y_X5_findTellingFrom rfl gX5_fewestTellings_X5_findTellingFrom rfl (ci := 5) (rq := 0) rfl rfl ⟨Nat.le_of_ble_eq_true rfl, Nat.le_of_ble_eq_true rfl⟩ ⟨Nat.zero_le _, Nat.zero_le _⟩ (Nat.le_of_ble_eq_true rfl) [] [] (by simp only [List.append_assoc, List.nil_append, List.append_nil]) (fun _ => rfl) (fun u => (wSt aH aM aT aS kp cyI u.1 u.2.1 ++ wTe aT cyB tI tR ++ wHo aH cyI hI hR ++ wMi aH aM cyI u.2.2.1 u.2.2.2)) (fun u => (by simp only [List.append_assoc, List.nil_append, List.append_nil])) (fun r0 u hp => ?_)
          obtain ⟨sI_2, sR_2, mI_6, mR_6⟩ := u
          obtain ⟨b6, rfl, hw⟩ := hp
          obtain ⟨hwt, hwf⟩ := hw
          refine z_ifeqB F dX5_fewestTellings_82 89 rfl 85 rfl (fun c7 => ?_) (fun c7 => ?_)
          · have hw := hwt c7; clear hwt hwf
            refine z_iconst F dX5_fewestTellings_89 90 rfl zki_0 ?_
            exact xX5_fewestTellings_90 x1 0 sI_2 sR_2 tI tR hI hR mI_6 mR_6 F hRt ih hw
          · have hw := hwf c7; clear hwt hwf
            refine z_iconst F dX5_fewestTellings_85 86 rfl zki_1 ?_
            refine z_goto F dX5_fewestTellings_86 90 rfl ?_
            exact xX5_fewestTellings_90 x1 1 sI_2 sR_2 tI tR hI hR mI_6 mR_6 F hRt ih hw
set_option maxHeartbeats 4000000 in
set_option maxRecDepth 100000 in
theorem xX5_fewestTellings_0 {C : zC} {D : va_G} {cyI cyB : ClassId} {aS : Nat → Nat} {aT : Nat → Nat} {aH : Nat → Nat} {aM : Nat → Nat} {kp : Value} (sI : Nat → Int32) (sR : Nat → Nat → Int32) (tI : Nat → Int32) (tR : Nat → Nat → Int32) (hI : Nat → Int32) (hR : Nat → Nat → Int32) (mI : Nat → Int32) (mR : Nat → Nat → Int32) (F : zF C D { frames := 5, cells := 0, slots := 0, locals := 118 } cX5_fewestTellings 3 wsX5_fewestTellings RX5 (some .int) cyI cyB) {post : Int32 → (Nat → Int32) → (Nat → Nat → Int32) → (Nat → Int32) → (Nat → Nat → Int32) → Prop} (hRt : zRi C D cX5_fewestTellings 3 (S := ((Nat → Int32) × (Nat → Nat → Int32) × (Nat → Int32) × (Nat → Nat → Int32))) (fun u => (wSt aH aM aT aS kp cyI u.1 u.2.1 ++ wTe aT cyB tI tR ++ wHo aH cyI hI hR ++ wMi aH aM cyI u.2.2.1 u.2.2.2)) (fun r u => post r u.1 u.2.1 u.2.2.1 u.2.2.2)) (hw : pX5_fewestTellings sI sR tI tR hI hR mI mR post) : zX C D 3 0 0 (wSt aH aM aT aS kp cyI sI sR ++ wTe aT cyB tI tR ++ wHo aH cyI hI hR ++ wMi aH aM cyI mI mR) 0 [(0, .ref (aS 0))] [] := by
  refine z_aload_n F dX5_fewestTellings_0 1 rfl 0 rfl ?_
  refine z_get F dX5_fewestTellings_1 4 rfl kX5_fewestTellings_21 0 rfl rfl ?_
  refine z_segVi (As := []) (st := []) F dX5_fewestTellings_4 7 rfl (mX2_isSafe C.1.2.1 D cyI cyB aH aM hI hR mI mR hw) y_X2_isSafe rfl gX5_fewestTellings_X2_isSafe rfl (ci := 2) (rq := 12) rfl rfl ⟨Nat.le_of_ble_eq_true rfl, Nat.le_of_ble_eq_true rfl⟩ ⟨Nat.zero_le _, Nat.zero_le _⟩ (Nat.le_of_ble_eq_true rfl) (wSt aH aM aT aS kp cyI sI sR ++ wTe aT cyB tI tR) [] (by simp only [List.append_assoc, List.nil_append, List.append_nil]) (fun _ => rfl) (fun u => (wSt aH aM aT aS kp cyI sI sR ++ wTe aT cyB tI tR ++ wHo aH cyI hI hR ++ wMi aH aM cyI u.1 u.2)) (fun u => (by simp only [List.append_assoc, List.nil_append, List.append_nil])) (fun r0 u hp => ?_)
  obtain ⟨mI_1, mR_1⟩ := u
  obtain ⟨b1, rfl, hw⟩ := hp
  obtain ⟨hwt, hwf⟩ := hw
  refine z_ifneB F dX5_fewestTellings_7 13 rfl 10 rfl (fun c1 => ?_) (fun c1 => ?_)
  · have hw := hwt c1; clear hwt hwf
    refine z_aload_n F dX5_fewestTellings_13 14 rfl 0 rfl ?_
    refine z_get F dX5_fewestTellings_14 17 rfl kX5_fewestTellings_21 0 rfl rfl ?_
    refine z_segVi (As := []) (st := []) F dX5_fewestTellings_17 20 rfl (mX2_isKept C.1.2.1 D cyI cyB aH aM hI hR mI_1 mR_1 hw) y_X2_isKept rfl gX5_fewestTellings_X2_isKept rfl (ci := 2) (rq := 12) rfl rfl ⟨Nat.le_of_ble_eq_true rfl, Nat.le_of_ble_eq_true rfl⟩ ⟨Nat.zero_le _, Nat.zero_le _⟩ (Nat.le_of_ble_eq_true rfl) (wSt aH aM aT aS kp cyI sI sR ++ wTe aT cyB tI tR) [] (by simp only [List.append_assoc, List.nil_append, List.append_nil]) (fun _ => rfl) (fun u => (wSt aH aM aT aS kp cyI sI sR ++ wTe aT cyB tI tR ++ wHo aH cyI hI hR ++ wMi aH aM cyI u.1 u.2)) (fun u => (by simp only [List.append_assoc, List.nil_append, List.append_nil])) (fun r0 u hp => ?_)
    obtain ⟨mI_2, mR_2⟩ := u
    obtain ⟨b2, rfl, hw⟩ := hp
    obtain ⟨hwt, hwf⟩ := hw
    refine z_ifeqB F dX5_fewestTellings_20 25 rfl 23 rfl (fun c2 => ?_) (fun c2 => ?_)
    · have hw := hwt c2; clear hwt hwf
      refine z_aload_n F dX5_fewestTellings_25 26 rfl 0 rfl ?_
      refine z_iconst F dX5_fewestTellings_26 27 rfl zki_0 ?_
      refine z_iconst F dX5_fewestTellings_27 28 rfl zki_0 ?_
      refine z_segVi (As := [.int 0, .int 0]) (st := []) F dX5_fewestTellings_28 31 rfl (mX5_findTellingFrom C.1.2.1 D cyI cyB aS aT aH aM kp 0 0 sI sR tI tR hI hR mI_2 mR_2 hw) y_X5_findTellingFrom rfl gX5_fewestTellings_X5_findTellingFrom rfl (ci := 5) (rq := 0) rfl rfl ⟨Nat.le_of_ble_eq_true rfl, Nat.le_of_ble_eq_true rfl⟩ ⟨Nat.zero_le _, Nat.zero_le _⟩ (Nat.le_of_ble_eq_true rfl) [] [] (by simp only [List.append_assoc, List.nil_append, List.append_nil]) (fun _ => rfl) (fun u => (wSt aH aM aT aS kp cyI u.1 u.2.1 ++ wTe aT cyB tI tR ++ wHo aH cyI hI hR ++ wMi aH aM cyI u.2.2.1 u.2.2.2)) (fun u => (by simp only [List.append_assoc, List.nil_append, List.append_nil])) (fun r0 u hp => ?_)
      obtain ⟨sI_1, sR_1, mI_3, mR_3⟩ := u
      obtain ⟨b3, rfl, hw⟩ := hp
      obtain ⟨hwt, hwf⟩ := hw
      refine z_ifeqB F dX5_fewestTellings_31 36 rfl 34 rfl (fun c3 => ?_) (fun c3 => ?_)
      · have hw := hwt c3; clear hwt hwf
        refine z_iconst F dX5_fewestTellings_36 37 rfl zki_0 ?_
        refine z_istore_n (lv' := [(1, .int 0), (0, .ref (aS 0))]) F dX5_fewestTellings_37 38 rfl (by decide) rfl ?_
        obtain ⟨n1, hw⟩ := hw
        refine z_lv (lv' := [(0, .ref (aS 0)), (1, .int 0)]) [1, 0] rfl ?_
        refine xX5_fewestTellings_38 tI tR hI hR F hRt n1 0 sI_1 sR_1 mI_3 mR_3 hw
      · have hw := hwf c3; clear hwt hwf
        refine z_iconst F dX5_fewestTellings_34 35 rfl zki_1 ?_
        exact hRt 35 _ 1 (sI_1, sR_1, mI_3, mR_3) dX5_fewestTellings_35 hw
    · have hw := hwf c2; clear hwt hwf
      refine z_iconst F dX5_fewestTellings_23 24 rfl zki_0 ?_
      exact hRt 24 _ 0 (sI, sR, mI_2, mR_2) dX5_fewestTellings_24 hw
  · have hw := hwf c1; clear hwt hwf
    refine z_bipush F dX5_fewestTellings_10 12 rfl zkb_m9 ?_
    exact hRt 12 _ (-9) (sI, sR, mI_1, mR_1) dX5_fewestTellings_12 hw
set_option maxHeartbeats 4000000 in
set_option maxRecDepth 100000 in
theorem mX5_fewestTellings (l : Launch) (D : va_G) (cyI cyB : ClassId) (aS : Nat → Nat) (aT : Nat → Nat) (aH : Nat → Nat) (aM : Nat → Nat) (kp : Value) (sI : Nat → Int32) (sR : Nat → Nat → Int32) (tI : Nat → Int32) (tR : Nat → Nat → Int32) (hI : Nat → Int32) (hR : Nat → Nat → Int32) (mI : Nat → Int32) (mR : Nat → Nat → Int32) {post : Int32 → (Nat → Int32) → (Nat → Nat → Int32) → (Nat → Int32) → (Nat → Nat → Int32) → Prop} (hw : pX5_fewestTellings sI sR tI tR hI hR mI mR post) : zMi l yX5_fewestTellings wsX5_fewestTellings 5 118 D cyI cyB [.ref (aS 0)] (wSt aH aM aT aS kp cyI sI sR ++ wTe aT cyB tI tR ++ wHo aH cyI hI hR ++ wMi aH aM cyI mI mR) (S := ((Nat → Int32) × (Nat → Nat → Int32) × (Nat → Int32) × (Nat → Nat → Int32))) (fun u => (wSt aH aM aT aS kp cyI u.1 u.2.1 ++ wTe aT cyB tI tR ++ wHo aH cyI hI hR ++ wMi aH aM cyI u.2.2.1 u.2.2.2)) (fun r u => post r u.1 u.2.1 u.2.2.1 u.2.2.2) :=
  z_meti (cc := cX5_fewestTellings) (nL := 3) (by decide +kernel) rfl (Nat.le_of_ble_eq_true rfl) (fun C hl F hRt => xX5_fewestTellings_0 sI sR tI tR hI hR mI mR F hRt hw)
theorem y_X5_fewestTellings : zY yX5_fewestTellings wsX5_fewestTellings cX5_fewestTellings 3 (some .int) 0 := ⟨⟨_, rfl⟩, by decide +kernel⟩
theorem iX5_mend_5 : ∀ w ∈ wsX50, w ∈ wsX5_mend := fun w h => List.mem_cons_of_mem _ (List.mem_append_left _ (List.mem_append_left _ (List.mem_append_left _ (List.mem_append_left _ (List.mem_append_right _ h)))))
theorem kX5_mend_21 : zL wsX5_mend RX5 21 5 1 (.object "StillRoom$Mind") true := zL5 iX5_mend_5 (by decide) (List.mem_of_getElem? (i := 1) rfl) rfl rfl
theorem kX5_mend_39 : zL wsX5_mend RX5 39 5 5 (.array .int) true := zL5 iX5_mend_5 (by decide) (List.mem_of_getElem? (i := 2) rfl) rfl rfl
set_option maxHeartbeats 4000000 in
set_option maxRecDepth 100000 in
theorem xX5_mend_15 {C : zC} {D : va_G} {cyI cyB : ClassId} {aS : Nat → Nat} {aT : Nat → Nat} {aH : Nat → Nat} {aM : Nat → Nat} {kp : Value} (x1 : Int32) (x2 : Int32) (x3 : Int32) (s0 : Int32) (sI : Nat → Int32) (sR : Nat → Nat → Int32) (tI : Nat → Int32) (tR : Nat → Nat → Int32) (hI : Nat → Int32) (hR : Nat → Nat → Int32) (mI : Nat → Int32) (mR : Nat → Nat → Int32) (F : zF C D { frames := 6, cells := 0, slots := 0, locals := 140 } cX5_mend 6 wsX5_mend RX5 (some .int) cyI cyB) {post : Int32 → (Nat → Int32) → (Nat → Nat → Int32) → (Nat → Int32) → (Nat → Nat → Int32) → Prop} (hRt : zRi C D cX5_mend 6 (S := ((Nat → Int32) × (Nat → Nat → Int32) × (Nat → Int32) × (Nat → Nat → Int32))) (fun u => (wSt aH aM aT aS kp cyI u.1 u.2.1 ++ wTe aT cyB tI tR ++ wHo aH cyI hI hR ++ wMi aH aM cyI u.2.2.1 u.2.2.2)) (fun r u => post r u.1 u.2.1 u.2.2.1 u.2.2.2)) (hw : bX5_mend_15 x1 x2 x3 s0 sI sR tI tR hI hR mI mR post ) : zX C D 6 0 0 (wSt aH aM aT aS kp cyI sI sR ++ wTe aT cyB tI tR ++ wHo aH cyI hI hR ++ wMi aH aM cyI mI mR) 15 [(0, .ref (aS 0)), (1, .int x1), (2, .int x2), (3, .int x3)] [.int s0] := by
  refine z_istore (lv' := [(4, .int s0), (0, .ref (aS 0)), (1, .int x1), (2, .int x2), (3, .int x3)]) F dX5_mend_15 17 rfl (by decide) rfl ?_
  refine z_iload F dX5_mend_17 19 rfl 0 rfl ?_
  obtain ⟨hwt, hwf⟩ := hw
  refine z_ifeq F dX5_mend_19 29 rfl 22 rfl (fun c2 => ?_) (fun c2 => ?_)
  · have hw := hwt c2; clear hwt hwf
    refine z_aload_n F dX5_mend_29 30 rfl 1 rfl ?_
    refine z_get F dX5_mend_30 33 rfl kX5_mend_21 0 rfl rfl ?_
    refine z_segVv (As := []) (st := []) F dX5_mend_33 36 rfl (mX2_begin C.1.2.1 D cyI cyB aH aM hI hR mI mR hw) y_X2_begin rfl gX5_mend_X2_begin rfl (ci := 2) (rq := 12) rfl rfl ⟨Nat.le_of_ble_eq_true rfl, Nat.le_of_ble_eq_true rfl⟩ ⟨Nat.zero_le _, Nat.zero_le _⟩ (Nat.le_of_ble_eq_true rfl) (wSt aH aM aT aS kp cyI sI sR ++ wTe aT cyB tI tR) [] (by simp only [List.append_assoc, List.nil_append, List.append_nil]) (fun _ => rfl) (fun u => (wSt aH aM aT aS kp cyI sI sR ++ wTe aT cyB tI tR ++ wHo aH cyI hI hR ++ wMi aH aM cyI u.1 u.2)) (fun u => (by simp only [List.append_assoc, List.nil_append, List.append_nil])) (fun u hp => ?_)
    obtain ⟨mI_1, mR_1⟩ := u
    replace hw := hp
    clear hp
    refine z_aload_n F dX5_mend_36 37 rfl 1 rfl ?_
    refine z_get F dX5_mend_37 40 rfl kX5_mend_21 0 rfl rfl ?_
    refine z_iload_n F dX5_mend_40 41 rfl 2 rfl ?_
    refine z_segVv (As := [.int x1]) (st := []) F dX5_mend_41 44 rfl (mX2_chooseLeavers C.1.2.1 D cyI cyB aH aM x1 hI hR mI_1 mR_1 hw) y_X2_chooseLeavers rfl gX5_mend_X2_chooseLeavers rfl (ci := 2) (rq := 12) rfl rfl ⟨Nat.le_of_ble_eq_true rfl, Nat.le_of_ble_eq_true rfl⟩ ⟨Nat.zero_le _, Nat.zero_le _⟩ (Nat.le_of_ble_eq_true rfl) (wSt aH aM aT aS kp cyI sI sR ++ wTe aT cyB tI tR) [] (by simp only [List.append_assoc, List.nil_append, List.append_nil]) (fun _ => rfl) (fun u => (wSt aH aM aT aS kp cyI sI sR ++ wTe aT cyB tI tR ++ wHo aH cyI hI hR ++ wMi aH aM cyI u.1 u.2)) (fun u => (by simp only [List.append_assoc, List.nil_append, List.append_nil])) (fun u hp => ?_)
    obtain ⟨mI_2, mR_2⟩ := u
    replace hw := hp
    clear hp
    refine z_aload_n F dX5_mend_44 45 rfl 1 rfl ?_
    refine z_get F dX5_mend_45 48 rfl kX5_mend_21 0 rfl rfl ?_
    refine z_iload_n F dX5_mend_48 49 rfl 3 rfl ?_
    refine z_segVv (As := [.int x2]) (st := []) F dX5_mend_49 52 rfl (mX2_chooseTakers C.1.2.1 D cyI cyB aH aM x2 hI hR mI_2 mR_2 hw) y_X2_chooseTakers rfl gX5_mend_X2_chooseTakers rfl (ci := 2) (rq := 12) rfl rfl ⟨Nat.le_of_ble_eq_true rfl, Nat.le_of_ble_eq_true rfl⟩ ⟨Nat.zero_le _, Nat.zero_le _⟩ (Nat.le_of_ble_eq_true rfl) (wSt aH aM aT aS kp cyI sI sR ++ wTe aT cyB tI tR) [] (by simp only [List.append_assoc, List.nil_append, List.append_nil]) (fun _ => rfl) (fun u => (wSt aH aM aT aS kp cyI sI sR ++ wTe aT cyB tI tR ++ wHo aH cyI hI hR ++ wMi aH aM cyI u.1 u.2)) (fun u => (by simp only [List.append_assoc, List.nil_append, List.append_nil])) (fun u hp => ?_)
    obtain ⟨mI_3, mR_3⟩ := u
    replace hw := hp
    clear hp
    refine z_aload_n F dX5_mend_52 53 rfl 1 rfl ?_
    refine z_segVi (As := []) (st := []) F dX5_mend_53 56 rfl (mX5_fewestTellings C.1.2.1 D cyI cyB aS aT aH aM kp sI sR tI tR hI hR mI_3 mR_3 hw) y_X5_fewestTellings rfl gX5_mend_X5_fewestTellings rfl (ci := 5) (rq := 0) rfl rfl ⟨Nat.le_of_ble_eq_true rfl, Nat.le_of_ble_eq_true rfl⟩ ⟨Nat.zero_le _, Nat.zero_le _⟩ (Nat.le_of_ble_eq_true rfl) [] [] (by simp only [List.append_assoc, List.nil_append, List.append_nil]) (fun _ => rfl) (fun u => (wSt aH aM aT aS kp cyI u.1 u.2.1 ++ wTe aT cyB tI tR ++ wHo aH cyI hI hR ++ wMi aH aM cyI u.2.2.1 u.2.2.2)) (fun u => (by simp only [List.append_assoc, List.nil_append, List.append_nil])) (fun r2 u hp => ?_)
    obtain ⟨sI_1, sR_1, mI_4, mR_4⟩ := u
    replace hw := hp
    clear hp
    refine z_istore (lv' := [(5, .int r2), (4, .int s0), (0, .ref (aS 0)), (1, .int x1), (2, .int x2), (3, .int x3)]) F dX5_mend_56 58 rfl (by decide) rfl ?_
    refine z_iload_n F dX5_mend_58 59 rfl 5 rfl ?_
    refine z_iconst F dX5_mend_59 60 rfl zki_m1 ?_
    obtain ⟨hwt, hwf⟩ := hw
    refine z_icmpne F dX5_mend_60 66 rfl 63 rfl (fun c3 => ?_) (fun c3 => ?_)
    · have hw := hwt c3; clear hwt hwf
      refine z_iload_n F dX5_mend_66 67 rfl 5 rfl ?_
      refine z_iload F dX5_mend_67 69 rfl 0 rfl ?_
      obtain ⟨hwt, hwf⟩ := hw
      refine z_icmpge F dX5_mend_69 90 rfl 72 rfl (fun c4 => ?_) (fun c4 => ?_)
      · have hw := hwt c4; clear hwt hwf
        refine z_bipush F dX5_mend_90 92 rfl zkb_m9 ?_
        exact hRt 92 _ (-9) (sI_1, sR_1, mI_4, mR_4) dX5_mend_92 hw
      · have hw := hwf c4; clear hwt hwf
        refine z_iload_n F dX5_mend_72 73 rfl 5 rfl ?_
        refine z_aload_n F dX5_mend_73 74 rfl 2 rfl ?_
        refine z_get F dX5_mend_74 77 rfl kX5_mend_39 0 rfl rfl ?_
        refine z_alen F dX5_mend_77 78 rfl 3 rfl ?_
        obtain ⟨hwt, hwf⟩ := hw
        refine z_icmpge F dX5_mend_78 90 rfl 81 rfl (fun c5 => ?_) (fun c5 => ?_)
        · have hw := hwt c5; clear hwt hwf
          refine z_bipush F dX5_mend_90 92 rfl zkb_m9 ?_
          exact hRt 92 _ (-9) (sI_1, sR_1, mI_4, mR_4) dX5_mend_92 hw
        · have hw := hwf c5; clear hwt hwf
          refine z_aload_n F dX5_mend_81 82 rfl 2 rfl ?_
          refine z_get F dX5_mend_82 85 rfl kX5_mend_39 0 rfl rfl ?_
          refine z_iload_n F dX5_mend_85 86 rfl 5 rfl ?_
          obtain ⟨j1, ej1, hj1, hw⟩ := hw
          refine z_iald F dX5_mend_86 87 rfl 3 rfl (by decide) j1 ej1 hj1 ?_
          refine z_goto F dX5_mend_87 92 rfl ?_
          exact hRt 92 _ ((sR_1 2) j1) (sI_1, sR_1, mI_4, mR_4) dX5_mend_92 hw
    · have hw := hwf c3; clear hwt hwf
      refine z_iload F dX5_mend_63 65 rfl 0 rfl ?_
      exact hRt 65 _ r2 (sI_1, sR_1, mI_4, mR_4) dX5_mend_65 hw
  · have hw := hwf c2; clear hwt hwf
    refine z_aload_n F dX5_mend_22 23 rfl 1 rfl ?_
    refine z_iload F dX5_mend_23 25 rfl 0 rfl ?_
    refine z_segVi (As := [.int s0]) (st := []) F dX5_mend_25 28 rfl (mX5_refuse C.1.2.1 D cyI cyB aS aH aM aT kp s0 sI sR hw) y_X5_refuse rfl gX5_mend_X5_refuse rfl (ci := 5) (rq := 0) rfl rfl ⟨Nat.le_of_ble_eq_true rfl, Nat.le_of_ble_eq_true rfl⟩ ⟨Nat.zero_le _, Nat.zero_le _⟩ (Nat.le_of_ble_eq_true rfl) [] (wTe aT cyB tI tR ++ wHo aH cyI hI hR ++ wMi aH aM cyI mI mR) (by simp only [List.append_assoc, List.nil_append, List.append_nil]) (fun _ => rfl) (fun u => (wSt aH aM aT aS kp cyI u.1 u.2 ++ wTe aT cyB tI tR ++ wHo aH cyI hI hR ++ wMi aH aM cyI mI mR)) (fun u => (by simp only [List.append_assoc, List.nil_append, List.append_nil])) (fun r3 u hp => ?_)
    obtain ⟨sI_2, sR_2⟩ := u
    replace hw := hp
    clear hp
    exact hRt 28 _ r3 (sI_2, sR_2, mI, mR) dX5_mend_28 hw
set_option maxHeartbeats 4000000 in
set_option maxRecDepth 100000 in
theorem xX5_mend_0 {C : zC} {D : va_G} {cyI cyB : ClassId} {aS : Nat → Nat} {aT : Nat → Nat} {aH : Nat → Nat} {aM : Nat → Nat} {kp : Value} (x1 : Int32) (x2 : Int32) (x3 : Int32) (sI : Nat → Int32) (sR : Nat → Nat → Int32) (tI : Nat → Int32) (tR : Nat → Nat → Int32) (hI : Nat → Int32) (hR : Nat → Nat → Int32) (mI : Nat → Int32) (mR : Nat → Nat → Int32) (F : zF C D { frames := 6, cells := 0, slots := 0, locals := 140 } cX5_mend 6 wsX5_mend RX5 (some .int) cyI cyB) {post : Int32 → (Nat → Int32) → (Nat → Nat → Int32) → (Nat → Int32) → (Nat → Nat → Int32) → Prop} (hRt : zRi C D cX5_mend 6 (S := ((Nat → Int32) × (Nat → Nat → Int32) × (Nat → Int32) × (Nat → Nat → Int32))) (fun u => (wSt aH aM aT aS kp cyI u.1 u.2.1 ++ wTe aT cyB tI tR ++ wHo aH cyI hI hR ++ wMi aH aM cyI u.2.2.1 u.2.2.2)) (fun r u => post r u.1 u.2.1 u.2.2.1 u.2.2.2)) (hw : pX5_mend x1 x2 x3 sI sR tI tR hI hR mI mR post) : zX C D 6 0 0 (wSt aH aM aT aS kp cyI sI sR ++ wTe aT cyB tI tR ++ wHo aH cyI hI hR ++ wMi aH aM cyI mI mR) 0 [(0, .ref (aS 0)), (1, .int x1), (2, .int x2), (3, .int x3)] [] := by
  refine z_iload_n F dX5_mend_0 1 rfl 3 rfl ?_
  refine z_iconst F dX5_mend_1 2 rfl zki_m1 ?_
  obtain ⟨hwt, hwf⟩ := hw
  refine z_icmpge F dX5_mend_2 10 rfl 5 rfl (fun c1 => ?_) (fun c1 => ?_)
  · have hw := hwt c1; clear hwt hwf
    refine z_iload_n F dX5_mend_10 11 rfl 1 rfl ?_
    refine z_iload_n F dX5_mend_11 12 rfl 2 rfl ?_
    refine z_callSi (As := [.int x1, .int x2]) (st := []) F dX5_mend_12 15 rfl (mX5_outsideHands C.1.2.1 D cyI cyB x1 x2 hw) y_X5_outsideHands rfl gX5_mend_X5_outsideHands ⟨Nat.le_of_ble_eq_true rfl, Nat.le_of_ble_eq_true rfl⟩ ⟨Nat.zero_le _, Nat.zero_le _⟩ (Nat.le_of_ble_eq_true rfl) [] (by decide) rfl (fun _ => rfl) (fun u => (wSt aH aM aT aS kp cyI sI sR ++ wTe aT cyB tI tR ++ wHo aH cyI hI hR ++ wMi aH aM cyI mI mR)) (fun _ => rfl) (fun r1 u hp => ?_)
    replace hw := hp
    clear hp
    exact xX5_mend_15 x1 x2 x3 r1 sI sR tI tR hI hR mI mR F hRt hw
  · have hw := hwf c1; clear hwt hwf
    refine z_bipush F dX5_mend_5 7 rfl zkb_m4 ?_
    refine z_goto F dX5_mend_7 15 rfl ?_
    exact xX5_mend_15 x1 x2 x3 (-4) sI sR tI tR hI hR mI mR F hRt hw
set_option maxHeartbeats 4000000 in
set_option maxRecDepth 100000 in
theorem mX5_mend (l : Launch) (D : va_G) (cyI cyB : ClassId) (aS : Nat → Nat) (aT : Nat → Nat) (aH : Nat → Nat) (aM : Nat → Nat) (kp : Value) (x1 : Int32) (x2 : Int32) (x3 : Int32) (sI : Nat → Int32) (sR : Nat → Nat → Int32) (tI : Nat → Int32) (tR : Nat → Nat → Int32) (hI : Nat → Int32) (hR : Nat → Nat → Int32) (mI : Nat → Int32) (mR : Nat → Nat → Int32) {post : Int32 → (Nat → Int32) → (Nat → Nat → Int32) → (Nat → Int32) → (Nat → Nat → Int32) → Prop} (hw : pX5_mend x1 x2 x3 sI sR tI tR hI hR mI mR post) : zMi l yX5_mend wsX5_mend 6 140 D cyI cyB [.ref (aS 0), .int x1, .int x2, .int x3] (wSt aH aM aT aS kp cyI sI sR ++ wTe aT cyB tI tR ++ wHo aH cyI hI hR ++ wMi aH aM cyI mI mR) (S := ((Nat → Int32) × (Nat → Nat → Int32) × (Nat → Int32) × (Nat → Nat → Int32))) (fun u => (wSt aH aM aT aS kp cyI u.1 u.2.1 ++ wTe aT cyB tI tR ++ wHo aH cyI hI hR ++ wMi aH aM cyI u.2.2.1 u.2.2.2)) (fun r u => post r u.1 u.2.1 u.2.2.1 u.2.2.2) :=
  z_meti (cc := cX5_mend) (nL := 6) (by decide +kernel) rfl (Nat.le_of_ble_eq_true rfl) (fun C hl F hRt => xX5_mend_0 x1 x2 x3 sI sR tI tR hI hR mI mR F hRt hw)
theorem y_X5_mend : zY yX5_mend wsX5_mend cX5_mend 6 (some .int) 3 := ⟨⟨_, rfl⟩, by decide +kernel⟩
theorem iX5_fewestWalls_1 : ∀ w ∈ wsX10, w ∈ wsX5_fewestWalls := fun w h => List.mem_cons_of_mem _ (List.mem_append_left _ (List.mem_append_left _ (List.mem_append_left _ (List.mem_append_right _ h))))
theorem iX5_fewestWalls_3 : ∀ w ∈ wsX30, w ∈ wsX5_fewestWalls := fun w h => List.mem_cons_of_mem _ (List.mem_append_left _ (List.mem_append_left _ (List.mem_append_right _ h)))
theorem iX5_fewestWalls_5 : ∀ w ∈ wsX50, w ∈ wsX5_fewestWalls := fun w h => List.mem_cons_of_mem _ (List.mem_append_left _ (List.mem_append_left _ (List.mem_append_left _ (List.mem_append_left _ (List.mem_append_right _ h)))))
theorem kX5_fewestWalls_12 : zL wsX5_fewestWalls RX5 12 5 0 (.object "StillRoom$House") true := zL5 iX5_fewestWalls_5 (by decide) (List.mem_of_getElem? (i := 1) rfl) rfl rfl
theorem kX5_fewestWalls_21 : zL wsX5_fewestWalls RX5 21 5 1 (.object "StillRoom$Mind") true := zL5 iX5_fewestWalls_5 (by decide) (List.mem_of_getElem? (i := 4) rfl) rfl rfl
theorem kX5_fewestWalls_108 : zL wsX5_fewestWalls RX5 108 1 2 (.object "StillRoom$Pairs") true := zL1 iX5_fewestWalls_1 (by decide) (List.mem_of_getElem? (i := 2) rfl) rfl rfl
theorem kX5_fewestWalls_125 : zL wsX5_fewestWalls RX5 125 3 2 .int false := zL3 iX5_fewestWalls_3 (by decide) (List.mem_of_getElem? (i := 3) rfl) rfl rfl
set_option maxHeartbeats 4000000 in
set_option maxRecDepth 100000 in
theorem xX5_fewestWalls_52 {C : zC} {D : va_G} {cyI cyB : ClassId} {aS : Nat → Nat} {aT : Nat → Nat} {aH : Nat → Nat} {aM : Nat → Nat} {kp : Value} (x1 : Int32) (sI : Nat → Int32) (sR : Nat → Nat → Int32) (tI : Nat → Int32) (tR : Nat → Nat → Int32) (hI : Nat → Int32) (hR : Nat → Nat → Int32) (F : zF C D { frames := 4, cells := 0, slots := 0, locals := 94 } cX5_fewestWalls 6 wsX5_fewestWalls RX5 (some .int) cyI cyB) {post : Int32 → (Nat → Int32) → (Nat → Nat → Int32) → Prop} (hRt : zRi C D cX5_fewestWalls 6 (S := ((Nat → Int32) × (Nat → Nat → Int32))) (fun u => (wSt aH aM aT aS kp cyI sI sR ++ wTe aT cyB tI tR ++ wHo aH cyI hI hR ++ wMi aH aM cyI u.1 u.2)) (fun r u => post r u.1 u.2)) : ∀ (n : Nat) (x2 : Int32) (x3 : Int32) (x4 : Int32) (mI : Nat → Int32) (mR : Nat → Nat → Int32), bX5_fewestWalls_52 x1 sI sR tI tR hI hR post  n x2 x3 x4 mI mR → zX C D 6 0 0 (wSt aH aM aT aS kp cyI sI sR ++ wTe aT cyB tI tR ++ wHo aH cyI hI hR ++ wMi aH aM cyI mI mR) 52 [(0, .ref (aS 0)), (1, .int x1), (2, .int x2), (3, .int x3), (4, .int x4)] [] := by
  intro n
  induction n with
  | zero => intro _ _ _ _ _ hw; exact hw.elim
  | succ n ih =>
    intro x2 x3 x4 mI mR hw
    refine z_iload F dX5_fewestWalls_52 54 rfl 4 rfl ?_
    refine z_iload_n F dX5_fewestWalls_54 55 rfl 1 rfl ?_
    obtain ⟨hwt, hwf⟩ := hw
    refine z_icmpge F dX5_fewestWalls_55 102 rfl 58 rfl (fun c2 => ?_) (fun c2 => ?_)
    · have hw := hwt c2; clear hwt hwf
      refine z_iload_n F dX5_fewestWalls_102 103 rfl 2 rfl ?_
      exact hRt 103 _ x2 (mI, mR) dX5_fewestWalls_103 hw
    · have hw := hwf c2; clear hwt hwf
      refine z_iload F dX5_fewestWalls_58 60 rfl 4 rfl ?_
      refine z_callSi (As := [.int x4]) (st := []) F dX5_fewestWalls_60 63 rfl (mJ6_bitCount_0f7a4 C.1.2.1 D cyI cyB x4 hw) y_J6_bitCount_0f7a4 rfl gX5_fewestWalls_J6_bitCount_0f7a4 ⟨Nat.le_of_ble_eq_true rfl, Nat.le_of_ble_eq_true rfl⟩ ⟨Nat.zero_le _, Nat.zero_le _⟩ (Nat.le_of_ble_eq_true rfl) [] (by decide) rfl (fun _ => rfl) (fun u => (wSt aH aM aT aS kp cyI sI sR ++ wTe aT cyB tI tR ++ wHo aH cyI hI hR ++ wMi aH aM cyI mI mR)) (fun _ => rfl) (fun r1 u hp => ?_)
      replace hw := hp
      clear hp
      refine z_istore (lv' := [(5, .int r1), (0, .ref (aS 0)), (1, .int x1), (2, .int x2), (3, .int x3), (4, .int x4)]) F dX5_fewestWalls_63 65 rfl (by decide) rfl ?_
      refine z_iload F dX5_fewestWalls_65 67 rfl 0 rfl ?_
      refine z_iload_n F dX5_fewestWalls_67 68 rfl 4 rfl ?_
      obtain ⟨hwt, hwf⟩ := hw
      refine z_icmpge F dX5_fewestWalls_68 96 rfl 71 rfl (fun c3 => ?_) (fun c3 => ?_)
      · have hw := hwt c3; clear hwt hwf
        refine z_iinc F dX5_fewestWalls_96 99 rfl 5 rfl (by decide) zki_1 (fun v2 => [(4, .int v2), (5, .int r1), (0, .ref (aS 0)), (1, .int x1), (2, .int x2), (3, .int x3)]) (fun _ => rfl) (fun v2 ev2 => ?_)
        replace hw := hw v2 ev2
        refine z_goto F dX5_fewestWalls_99 52 rfl ?_
        refine z_lv (lv' := [(0, .ref (aS 0)), (1, .int x1), (2, .int x2), (3, .int x3), (4, .int v2)]) [2, 3, 4, 5, 0] rfl ?_
        exact ih x2 x3 v2 mI mR hw
      · have hw := hwf c3; clear hwt hwf
        refine z_aload_n F dX5_fewestWalls_71 72 rfl 1 rfl ?_
        refine z_get F dX5_fewestWalls_72 75 rfl kX5_fewestWalls_21 0 rfl rfl ?_
        refine z_iload F dX5_fewestWalls_75 77 rfl 5 rfl ?_
        refine z_segVv (As := [.int x4]) (st := []) F dX5_fewestWalls_77 80 rfl (mX2_lookAround C.1.2.1 D cyI cyB aH aM x4 hI hR mI mR hw) y_X2_lookAround rfl gX5_fewestWalls_X2_lookAround rfl (ci := 2) (rq := 12) rfl rfl ⟨Nat.le_of_ble_eq_true rfl, Nat.le_of_ble_eq_true rfl⟩ ⟨Nat.zero_le _, Nat.zero_le _⟩ (Nat.le_of_ble_eq_true rfl) (wSt aH aM aT aS kp cyI sI sR ++ wTe aT cyB tI tR) [] (by simp only [List.append_assoc, List.nil_append, List.append_nil]) (fun _ => rfl) (fun u => (wSt aH aM aT aS kp cyI sI sR ++ wTe aT cyB tI tR ++ wHo aH cyI hI hR ++ wMi aH aM cyI u.1 u.2)) (fun u => (by simp only [List.append_assoc, List.nil_append, List.append_nil])) (fun u hp => ?_)
        obtain ⟨mI_3, mR_3⟩ := u
        replace hw := hp
        clear hp
        refine z_aload_n F dX5_fewestWalls_80 81 rfl 1 rfl ?_
        refine z_get F dX5_fewestWalls_81 84 rfl kX5_fewestWalls_21 0 rfl rfl ?_
        refine z_segVi (As := []) (st := []) F dX5_fewestWalls_84 87 rfl (mX2_isSafe C.1.2.1 D cyI cyB aH aM hI hR mI_3 mR_3 hw) y_X2_isSafe rfl gX5_fewestWalls_X2_isSafe rfl (ci := 2) (rq := 12) rfl rfl ⟨Nat.le_of_ble_eq_true rfl, Nat.le_of_ble_eq_true rfl⟩ ⟨Nat.zero_le _, Nat.zero_le _⟩ (Nat.le_of_ble_eq_true rfl) (wSt aH aM aT aS kp cyI sI sR ++ wTe aT cyB tI tR) [] (by simp only [List.append_assoc, List.nil_append, List.append_nil]) (fun _ => rfl) (fun u => (wSt aH aM aT aS kp cyI sI sR ++ wTe aT cyB tI tR ++ wHo aH cyI hI hR ++ wMi aH aM cyI u.1 u.2)) (fun u => (by simp only [List.append_assoc, List.nil_append, List.append_nil])) (fun r0 u hp => ?_)
        obtain ⟨mI_4, mR_4⟩ := u
        obtain ⟨b2, rfl, hw⟩ := hp
        obtain ⟨hwt, hwf⟩ := hw
        refine z_ifeqB F dX5_fewestWalls_87 96 rfl 90 rfl (fun c4 => ?_) (fun c4 => ?_)
        · have hw := hwt c4; clear hwt hwf
          refine z_iinc F dX5_fewestWalls_96 99 rfl 5 rfl (by decide) zki_1 (fun v3 => [(4, .int v3), (5, .int r1), (0, .ref (aS 0)), (1, .int x1), (2, .int x2), (3, .int x3)]) (fun _ => rfl) (fun v3 ev3 => ?_)
          replace hw := hw v3 ev3
          refine z_goto F dX5_fewestWalls_99 52 rfl ?_
          refine z_lv (lv' := [(0, .ref (aS 0)), (1, .int x1), (2, .int x2), (3, .int x3), (4, .int v3)]) [2, 3, 4, 5, 0] rfl ?_
          exact ih x2 x3 v3 mI_4 mR_4 hw
        · have hw := hwf c4; clear hwt hwf
          refine z_iload F dX5_fewestWalls_90 92 rfl 5 rfl ?_
          refine z_istore_n (lv' := [(2, .int x4), (5, .int r1), (0, .ref (aS 0)), (1, .int x1), (3, .int x3), (4, .int x4)]) F dX5_fewestWalls_92 93 rfl (by decide) rfl ?_
          refine z_iload F dX5_fewestWalls_93 95 rfl 1 rfl ?_
          refine z_istore_n (lv' := [(3, .int r1), (2, .int x4), (5, .int r1), (0, .ref (aS 0)), (1, .int x1), (4, .int x4)]) F dX5_fewestWalls_95 96 rfl (by decide) rfl ?_
          refine z_iinc F dX5_fewestWalls_96 99 rfl 5 rfl (by decide) zki_1 (fun v4 => [(4, .int v4), (3, .int r1), (2, .int x4), (5, .int r1), (0, .ref (aS 0)), (1, .int x1)]) (fun _ => rfl) (fun v4 ev4 => ?_)
          replace hw := hw v4 ev4
          refine z_goto F dX5_fewestWalls_99 52 rfl ?_
          refine z_lv (lv' := [(0, .ref (aS 0)), (1, .int x1), (2, .int x4), (3, .int r1), (4, .int v4)]) [4, 5, 2, 1, 0] rfl ?_
          exact ih x4 r1 v4 mI_4 mR_4 hw
set_option maxHeartbeats 4000000 in
set_option maxRecDepth 100000 in
theorem xX5_fewestWalls_0 {C : zC} {D : va_G} {cyI cyB : ClassId} {aS : Nat → Nat} {aT : Nat → Nat} {aH : Nat → Nat} {aM : Nat → Nat} {kp : Value} (sI : Nat → Int32) (sR : Nat → Nat → Int32) (tI : Nat → Int32) (tR : Nat → Nat → Int32) (hI : Nat → Int32) (hR : Nat → Nat → Int32) (mI : Nat → Int32) (mR : Nat → Nat → Int32) (F : zF C D { frames := 4, cells := 0, slots := 0, locals := 94 } cX5_fewestWalls 6 wsX5_fewestWalls RX5 (some .int) cyI cyB) {post : Int32 → (Nat → Int32) → (Nat → Nat → Int32) → Prop} (hRt : zRi C D cX5_fewestWalls 6 (S := ((Nat → Int32) × (Nat → Nat → Int32))) (fun u => (wSt aH aM aT aS kp cyI sI sR ++ wTe aT cyB tI tR ++ wHo aH cyI hI hR ++ wMi aH aM cyI u.1 u.2)) (fun r u => post r u.1 u.2)) (hw : pX5_fewestWalls sI sR tI tR hI hR mI mR post) : zX C D 6 0 0 (wSt aH aM aT aS kp cyI sI sR ++ wTe aT cyB tI tR ++ wHo aH cyI hI hR ++ wMi aH aM cyI mI mR) 0 [(0, .ref (aS 0))] [] := by
  refine z_iconst F dX5_fewestWalls_0 1 rfl zki_1 ?_
  refine z_aload_n F dX5_fewestWalls_1 2 rfl 0 rfl ?_
  refine z_get F dX5_fewestWalls_2 5 rfl kX5_fewestWalls_12 0 rfl rfl ?_
  refine z_get F dX5_fewestWalls_5 8 rfl kX5_fewestWalls_108 6 rfl rfl ?_
  refine z_get F dX5_fewestWalls_8 11 rfl kX5_fewestWalls_125 9 rfl rfl ?_
  refine z_ishl F dX5_fewestWalls_11 12 rfl ?_
  refine z_iconst F dX5_fewestWalls_12 13 rfl zki_1 ?_
  refine z_isub F dX5_fewestWalls_13 14 rfl ?_
  refine z_topi (fun v1 ev1 => ?_)
  replace hw := hw v1 ev1
  refine z_istore_n (lv' := [(1, .int v1), (0, .ref (aS 0))]) F dX5_fewestWalls_14 15 rfl (by decide) rfl ?_
  refine z_aload_n F dX5_fewestWalls_15 16 rfl 1 rfl ?_
  refine z_get F dX5_fewestWalls_16 19 rfl kX5_fewestWalls_21 0 rfl rfl ?_
  refine z_iload_n F dX5_fewestWalls_19 20 rfl 0 rfl ?_
  refine z_segVv (As := [.int v1]) (st := []) F dX5_fewestWalls_20 23 rfl (mX2_lookAround C.1.2.1 D cyI cyB aH aM v1 hI hR mI mR hw) y_X2_lookAround rfl gX5_fewestWalls_X2_lookAround rfl (ci := 2) (rq := 12) rfl rfl ⟨Nat.le_of_ble_eq_true rfl, Nat.le_of_ble_eq_true rfl⟩ ⟨Nat.zero_le _, Nat.zero_le _⟩ (Nat.le_of_ble_eq_true rfl) (wSt aH aM aT aS kp cyI sI sR ++ wTe aT cyB tI tR) [] (by simp only [List.append_assoc, List.nil_append, List.append_nil]) (fun _ => rfl) (fun u => (wSt aH aM aT aS kp cyI sI sR ++ wTe aT cyB tI tR ++ wHo aH cyI hI hR ++ wMi aH aM cyI u.1 u.2)) (fun u => (by simp only [List.append_assoc, List.nil_append, List.append_nil])) (fun u hp => ?_)
  obtain ⟨mI_1, mR_1⟩ := u
  replace hw := hp
  clear hp
  refine z_aload_n F dX5_fewestWalls_23 24 rfl 1 rfl ?_
  refine z_get F dX5_fewestWalls_24 27 rfl kX5_fewestWalls_21 0 rfl rfl ?_
  refine z_segVi (As := []) (st := []) F dX5_fewestWalls_27 30 rfl (mX2_isSafe C.1.2.1 D cyI cyB aH aM hI hR mI_1 mR_1 hw) y_X2_isSafe rfl gX5_fewestWalls_X2_isSafe rfl (ci := 2) (rq := 12) rfl rfl ⟨Nat.le_of_ble_eq_true rfl, Nat.le_of_ble_eq_true rfl⟩ ⟨Nat.zero_le _, Nat.zero_le _⟩ (Nat.le_of_ble_eq_true rfl) (wSt aH aM aT aS kp cyI sI sR ++ wTe aT cyB tI tR) [] (by simp only [List.append_assoc, List.nil_append, List.append_nil]) (fun _ => rfl) (fun u => (wSt aH aM aT aS kp cyI sI sR ++ wTe aT cyB tI tR ++ wHo aH cyI hI hR ++ wMi aH aM cyI u.1 u.2)) (fun u => (by simp only [List.append_assoc, List.nil_append, List.append_nil])) (fun r0 u hp => ?_)
  obtain ⟨mI_2, mR_2⟩ := u
  obtain ⟨b1, rfl, hw⟩ := hp
  obtain ⟨hwt, hwf⟩ := hw
  refine z_ifneB F dX5_fewestWalls_30 36 rfl 33 rfl (fun c1 => ?_) (fun c1 => ?_)
  · have hw := hwt c1; clear hwt hwf
    refine z_iload_n F dX5_fewestWalls_36 37 rfl 0 rfl ?_
    refine z_istore_n (lv' := [(2, .int v1), (1, .int v1), (0, .ref (aS 0))]) F dX5_fewestWalls_37 38 rfl (by decide) rfl ?_
    refine z_aload_n F dX5_fewestWalls_38 39 rfl 2 rfl ?_
    refine z_get F dX5_fewestWalls_39 42 rfl kX5_fewestWalls_12 0 rfl rfl ?_
    refine z_get F dX5_fewestWalls_42 45 rfl kX5_fewestWalls_108 6 rfl rfl ?_
    refine z_get F dX5_fewestWalls_45 48 rfl kX5_fewestWalls_125 9 rfl rfl ?_
    refine z_istore_n (lv' := [(3, .int (hI 4)), (2, .int v1), (1, .int v1), (0, .ref (aS 0))]) F dX5_fewestWalls_48 49 rfl (by decide) rfl ?_
    refine z_iconst F dX5_fewestWalls_49 50 rfl zki_0 ?_
    refine z_istore (lv' := [(4, .int 0), (3, .int (hI 4)), (2, .int v1), (1, .int v1), (0, .ref (aS 0))]) F dX5_fewestWalls_50 52 rfl (by decide) rfl ?_
    obtain ⟨n1, hw⟩ := hw
    refine z_lv (lv' := [(0, .ref (aS 0)), (1, .int v1), (2, .int v1), (3, .int (hI 4)), (4, .int 0)]) [4, 3, 2, 1, 0] rfl ?_
    refine xX5_fewestWalls_52 v1 sI sR tI tR hI hR F hRt n1 v1 (hI 4) 0 mI_2 mR_2 hw
  · have hw := hwf c1; clear hwt hwf
    refine z_bipush F dX5_fewestWalls_33 35 rfl zkb_m9 ?_
    exact hRt 35 _ (-9) (mI_2, mR_2) dX5_fewestWalls_35 hw
set_option maxHeartbeats 4000000 in
set_option maxRecDepth 100000 in
theorem mX5_fewestWalls (l : Launch) (D : va_G) (cyI cyB : ClassId) (aS : Nat → Nat) (aT : Nat → Nat) (aH : Nat → Nat) (aM : Nat → Nat) (kp : Value) (sI : Nat → Int32) (sR : Nat → Nat → Int32) (tI : Nat → Int32) (tR : Nat → Nat → Int32) (hI : Nat → Int32) (hR : Nat → Nat → Int32) (mI : Nat → Int32) (mR : Nat → Nat → Int32) {post : Int32 → (Nat → Int32) → (Nat → Nat → Int32) → Prop} (hw : pX5_fewestWalls sI sR tI tR hI hR mI mR post) : zMi l yX5_fewestWalls wsX5_fewestWalls 4 94 D cyI cyB [.ref (aS 0)] (wSt aH aM aT aS kp cyI sI sR ++ wTe aT cyB tI tR ++ wHo aH cyI hI hR ++ wMi aH aM cyI mI mR) (S := ((Nat → Int32) × (Nat → Nat → Int32))) (fun u => (wSt aH aM aT aS kp cyI sI sR ++ wTe aT cyB tI tR ++ wHo aH cyI hI hR ++ wMi aH aM cyI u.1 u.2)) (fun r u => post r u.1 u.2) :=
  z_meti (cc := cX5_fewestWalls) (nL := 6) (by decide +kernel) rfl (Nat.le_of_ble_eq_true rfl) (fun C hl F hRt => xX5_fewestWalls_0 sI sR tI tR hI hR mI mR F hRt hw)
theorem y_X5_fewestWalls : zY yX5_fewestWalls wsX5_fewestWalls cX5_fewestWalls 6 (some .int) 0 := ⟨⟨_, rfl⟩, by decide +kernel⟩
theorem iX5_walls_5 : ∀ w ∈ wsX50, w ∈ wsX5_walls := fun w h => List.mem_cons_of_mem _ (List.mem_append_left _ (List.mem_append_left _ (List.mem_append_left _ (List.mem_append_left _ (List.mem_append_right _ h)))))
theorem kX5_walls_21 : zL wsX5_walls RX5 21 5 1 (.object "StillRoom$Mind") true := zL5 iX5_walls_5 (by decide) (List.mem_of_getElem? (i := 1) rfl) rfl rfl
set_option maxHeartbeats 4000000 in
set_option maxRecDepth 100000 in
theorem xX5_walls_0 {C : zC} {D : va_G} {cyI cyB : ClassId} {aS : Nat → Nat} {aT : Nat → Nat} {aH : Nat → Nat} {aM : Nat → Nat} {kp : Value} (x1 : Int32) (sI : Nat → Int32) (sR : Nat → Nat → Int32) (tI : Nat → Int32) (tR : Nat → Nat → Int32) (hI : Nat → Int32) (hR : Nat → Nat → Int32) (mI : Nat → Int32) (mR : Nat → Nat → Int32) (F : zF C D { frames := 5, cells := 0, slots := 0, locals := 119 } cX5_walls 3 wsX5_walls RX5 (some .int) cyI cyB) {post : Int32 → (Nat → Int32) → (Nat → Nat → Int32) → (Nat → Int32) → (Nat → Nat → Int32) → Prop} (hRt : zRi C D cX5_walls 3 (S := ((Nat → Int32) × (Nat → Nat → Int32) × (Nat → Int32) × (Nat → Nat → Int32))) (fun u => (wSt aH aM aT aS kp cyI u.1 u.2.1 ++ wTe aT cyB tI tR ++ wHo aH cyI hI hR ++ wMi aH aM cyI u.2.2.1 u.2.2.2)) (fun r u => post r u.1 u.2.1 u.2.2.1 u.2.2.2)) (hw : pX5_walls x1 sI sR tI tR hI hR mI mR post) : zX C D 3 0 0 (wSt aH aM aT aS kp cyI sI sR ++ wTe aT cyB tI tR ++ wHo aH cyI hI hR ++ wMi aH aM cyI mI mR) 0 [(0, .ref (aS 0)), (1, .int x1)] [] := by
  refine z_iload_n F dX5_walls_0 1 rfl 1 rfl ?_
  refine z_iconst F dX5_walls_1 2 rfl zki_0 ?_
  refine z_bipush F dX5_walls_2 4 rfl zkb_8 ?_
  refine z_callSi (As := [.int x1, .int 0, .int 8]) (st := []) F dX5_walls_4 7 rfl (mX5_outside C.1.2.1 D cyI cyB x1 0 8 hw) y_X5_outside rfl gX5_walls_X5_outside ⟨Nat.le_of_ble_eq_true rfl, Nat.le_of_ble_eq_true rfl⟩ ⟨Nat.zero_le _, Nat.zero_le _⟩ (Nat.le_of_ble_eq_true rfl) [] (by decide) rfl (fun _ => rfl) (fun u => (wSt aH aM aT aS kp cyI sI sR ++ wTe aT cyB tI tR ++ wHo aH cyI hI hR ++ wMi aH aM cyI mI mR)) (fun _ => rfl) (fun r1 u hp => ?_)
  replace hw := hp
  clear hp
  refine z_istore_n (lv' := [(2, .int r1), (0, .ref (aS 0)), (1, .int x1)]) F dX5_walls_7 8 rfl (by decide) rfl ?_
  refine z_iload_n F dX5_walls_8 9 rfl 0 rfl ?_
  obtain ⟨hwt, hwf⟩ := hw
  refine z_ifeq F dX5_walls_9 18 rfl 12 rfl (fun c1 => ?_) (fun c1 => ?_)
  · have hw := hwt c1; clear hwt hwf
    refine z_aload_n F dX5_walls_18 19 rfl 1 rfl ?_
    refine z_get F dX5_walls_19 22 rfl kX5_walls_21 0 rfl rfl ?_
    refine z_segVv (As := []) (st := []) F dX5_walls_22 25 rfl (mX2_begin C.1.2.1 D cyI cyB aH aM hI hR mI mR hw) y_X2_begin rfl gX5_walls_X2_begin rfl (ci := 2) (rq := 12) rfl rfl ⟨Nat.le_of_ble_eq_true rfl, Nat.le_of_ble_eq_true rfl⟩ ⟨Nat.zero_le _, Nat.zero_le _⟩ (Nat.le_of_ble_eq_true rfl) (wSt aH aM aT aS kp cyI sI sR ++ wTe aT cyB tI tR) [] (by simp only [List.append_assoc, List.nil_append, List.append_nil]) (fun _ => rfl) (fun u => (wSt aH aM aT aS kp cyI sI sR ++ wTe aT cyB tI tR ++ wHo aH cyI hI hR ++ wMi aH aM cyI u.1 u.2)) (fun u => (by simp only [List.append_assoc, List.nil_append, List.append_nil])) (fun u hp => ?_)
    obtain ⟨mI_1, mR_1⟩ := u
    replace hw := hp
    clear hp
    refine z_aload_n F dX5_walls_25 26 rfl 1 rfl ?_
    refine z_get F dX5_walls_26 29 rfl kX5_walls_21 0 rfl rfl ?_
    refine z_iload_n F dX5_walls_29 30 rfl 2 rfl ?_
    refine z_segVv (As := [.int x1]) (st := []) F dX5_walls_30 33 rfl (mX2_chooseTakers C.1.2.1 D cyI cyB aH aM x1 hI hR mI_1 mR_1 hw) y_X2_chooseTakers rfl gX5_walls_X2_chooseTakers rfl (ci := 2) (rq := 12) rfl rfl ⟨Nat.le_of_ble_eq_true rfl, Nat.le_of_ble_eq_true rfl⟩ ⟨Nat.zero_le _, Nat.zero_le _⟩ (Nat.le_of_ble_eq_true rfl) (wSt aH aM aT aS kp cyI sI sR ++ wTe aT cyB tI tR) [] (by simp only [List.append_assoc, List.nil_append, List.append_nil]) (fun _ => rfl) (fun u => (wSt aH aM aT aS kp cyI sI sR ++ wTe aT cyB tI tR ++ wHo aH cyI hI hR ++ wMi aH aM cyI u.1 u.2)) (fun u => (by simp only [List.append_assoc, List.nil_append, List.append_nil])) (fun u hp => ?_)
    obtain ⟨mI_2, mR_2⟩ := u
    replace hw := hp
    clear hp
    refine z_aload_n F dX5_walls_33 34 rfl 1 rfl ?_
    refine z_segVi (As := []) (st := []) F dX5_walls_34 37 rfl (mX5_fewestWalls C.1.2.1 D cyI cyB aS aT aH aM kp sI sR tI tR hI hR mI_2 mR_2 hw) y_X5_fewestWalls rfl gX5_walls_X5_fewestWalls rfl (ci := 5) (rq := 0) rfl rfl ⟨Nat.le_of_ble_eq_true rfl, Nat.le_of_ble_eq_true rfl⟩ ⟨Nat.zero_le _, Nat.zero_le _⟩ (Nat.le_of_ble_eq_true rfl) [] [] (by simp only [List.append_assoc, List.nil_append, List.append_nil]) (fun _ => rfl) (fun u => (wSt aH aM aT aS kp cyI sI sR ++ wTe aT cyB tI tR ++ wHo aH cyI hI hR ++ wMi aH aM cyI u.1 u.2)) (fun u => (by simp only [List.append_assoc, List.nil_append, List.append_nil])) (fun r2 u hp => ?_)
    obtain ⟨mI_3, mR_3⟩ := u
    replace hw := hp
    clear hp
    exact hRt 37 _ r2 (sI, sR, mI_3, mR_3) dX5_walls_37 hw
  · have hw := hwf c1; clear hwt hwf
    refine z_aload_n F dX5_walls_12 13 rfl 1 rfl ?_
    refine z_iload_n F dX5_walls_13 14 rfl 0 rfl ?_
    refine z_segVi (As := [.int r1]) (st := []) F dX5_walls_14 17 rfl (mX5_refuse C.1.2.1 D cyI cyB aS aH aM aT kp r1 sI sR hw) y_X5_refuse rfl gX5_walls_X5_refuse rfl (ci := 5) (rq := 0) rfl rfl ⟨Nat.le_of_ble_eq_true rfl, Nat.le_of_ble_eq_true rfl⟩ ⟨Nat.zero_le _, Nat.zero_le _⟩ (Nat.le_of_ble_eq_true rfl) [] (wTe aT cyB tI tR ++ wHo aH cyI hI hR ++ wMi aH aM cyI mI mR) (by simp only [List.append_assoc, List.nil_append, List.append_nil]) (fun _ => rfl) (fun u => (wSt aH aM aT aS kp cyI u.1 u.2 ++ wTe aT cyB tI tR ++ wHo aH cyI hI hR ++ wMi aH aM cyI mI mR)) (fun u => (by simp only [List.append_assoc, List.nil_append, List.append_nil])) (fun r3 u hp => ?_)
    obtain ⟨sI_1, sR_1⟩ := u
    replace hw := hp
    clear hp
    exact hRt 17 _ r3 (sI_1, sR_1, mI, mR) dX5_walls_17 hw
set_option maxHeartbeats 4000000 in
set_option maxRecDepth 100000 in
theorem mX5_walls (l : Launch) (D : va_G) (cyI cyB : ClassId) (aS : Nat → Nat) (aT : Nat → Nat) (aH : Nat → Nat) (aM : Nat → Nat) (kp : Value) (x1 : Int32) (sI : Nat → Int32) (sR : Nat → Nat → Int32) (tI : Nat → Int32) (tR : Nat → Nat → Int32) (hI : Nat → Int32) (hR : Nat → Nat → Int32) (mI : Nat → Int32) (mR : Nat → Nat → Int32) {post : Int32 → (Nat → Int32) → (Nat → Nat → Int32) → (Nat → Int32) → (Nat → Nat → Int32) → Prop} (hw : pX5_walls x1 sI sR tI tR hI hR mI mR post) : zMi l yX5_walls wsX5_walls 5 119 D cyI cyB [.ref (aS 0), .int x1] (wSt aH aM aT aS kp cyI sI sR ++ wTe aT cyB tI tR ++ wHo aH cyI hI hR ++ wMi aH aM cyI mI mR) (S := ((Nat → Int32) × (Nat → Nat → Int32) × (Nat → Int32) × (Nat → Nat → Int32))) (fun u => (wSt aH aM aT aS kp cyI u.1 u.2.1 ++ wTe aT cyB tI tR ++ wHo aH cyI hI hR ++ wMi aH aM cyI u.2.2.1 u.2.2.2)) (fun r u => post r u.1 u.2.1 u.2.2.1 u.2.2.2) :=
  z_meti (cc := cX5_walls) (nL := 3) (by decide +kernel) rfl (Nat.le_of_ble_eq_true rfl) (fun C hl F hRt => xX5_walls_0 x1 sI sR tI tR hI hR mI mR F hRt hw)
theorem y_X5_walls : zY yX5_walls wsX5_walls cX5_walls 3 (some .int) 1 := ⟨⟨_, rfl⟩, by decide +kernel⟩
theorem iX5_fewestOnPaper_1 : ∀ w ∈ wsX10, w ∈ wsX5_fewestOnPaper := fun w h => List.mem_cons_of_mem _ (List.mem_append_left _ (List.mem_append_left _ (List.mem_append_left _ (List.mem_append_right _ h))))
theorem iX5_fewestOnPaper_2 : ∀ w ∈ wsX20, w ∈ wsX5_fewestOnPaper := fun w h => List.mem_cons_of_mem _ (List.mem_append_left _ (List.mem_append_left _ (List.mem_append_right _ h)))
theorem iX5_fewestOnPaper_5 : ∀ w ∈ wsX50, w ∈ wsX5_fewestOnPaper := fun w h => List.mem_cons_of_mem _ (List.mem_append_left _ (List.mem_append_left _ (List.mem_append_left _ (List.mem_append_left _ (List.mem_append_right _ h)))))
theorem kX5_fewestOnPaper_12 : zL wsX5_fewestOnPaper RX5 12 5 0 (.object "StillRoom$House") true := zL5 iX5_fewestOnPaper_5 (by decide) (List.mem_of_getElem? (i := 1) rfl) rfl rfl
theorem kX5_fewestOnPaper_21 : zL wsX5_fewestOnPaper RX5 21 5 1 (.object "StillRoom$Mind") true := zL5 iX5_fewestOnPaper_5 (by decide) (List.mem_of_getElem? (i := 3) rfl) rfl rfl
theorem kX5_fewestOnPaper_68 : zL wsX5_fewestOnPaper RX5 68 1 5 .int false := zL1 iX5_fewestOnPaper_1 (by decide) (List.mem_of_getElem? (i := 2) rfl) rfl rfl
theorem kX5_fewestOnPaper_246 : zL wsX5_fewestOnPaper RX5 246 2 10 .int false := zL2 iX5_fewestOnPaper_2 (by decide) (List.mem_of_getElem? (i := 4) rfl) rfl rfl
set_option maxHeartbeats 4000000 in
set_option maxRecDepth 100000 in
theorem xX5_fewestOnPaper_18 {C : zC} {D : va_G} {cyI cyB : ClassId} {aS : Nat → Nat} {aT : Nat → Nat} {aH : Nat → Nat} {aM : Nat → Nat} {kp : Value} (sI : Nat → Int32) (sR : Nat → Nat → Int32) (tI : Nat → Int32) (tR : Nat → Nat → Int32) (hI : Nat → Int32) (hR : Nat → Nat → Int32) (F : zF C D { frames := 4, cells := 0, slots := 0, locals := 94 } cX5_fewestOnPaper 5 wsX5_fewestOnPaper RX5 (some .int) cyI cyB) {post : Int32 → (Nat → Int32) → (Nat → Nat → Int32) → Prop} (hRt : zRi C D cX5_fewestOnPaper 5 (S := ((Nat → Int32) × (Nat → Nat → Int32))) (fun u => (wSt aH aM aT aS kp cyI sI sR ++ wTe aT cyB tI tR ++ wHo aH cyI hI hR ++ wMi aH aM cyI u.1 u.2)) (fun r u => post r u.1 u.2)) : ∀ (n : Nat) (x1 : Int32) (x2 : Int32) (x3 : Int32) (mI : Nat → Int32) (mR : Nat → Nat → Int32), bX5_fewestOnPaper_18 sI sR tI tR hI hR post  n x1 x2 x3 mI mR → zX C D 5 0 0 (wSt aH aM aT aS kp cyI sI sR ++ wTe aT cyB tI tR ++ wHo aH cyI hI hR ++ wMi aH aM cyI mI mR) 18 [(0, .ref (aS 0)), (1, .int x1), (2, .int x2), (3, .int x3)] [] := by
  intro n
  induction n with
  | zero => intro _ _ _ _ _ hw; exact hw.elim
  | succ n ih =>
    intro x1 x2 x3 mI mR hw
    refine z_iload_n F dX5_fewestOnPaper_18 19 rfl 3 rfl ?_
    refine z_aload_n F dX5_fewestOnPaper_19 20 rfl 0 rfl ?_
    refine z_get F dX5_fewestOnPaper_20 23 rfl kX5_fewestOnPaper_12 0 rfl rfl ?_
    refine z_segVi (As := []) (st := [.int x3]) F dX5_fewestOnPaper_23 26 rfl (mX1_it C.1.2.1 D cyI cyB aH hI hR hw) y_X1_it rfl gX5_fewestOnPaper_X1_it rfl (ci := 1) (rq := 0) rfl rfl ⟨Nat.le_of_ble_eq_true rfl, Nat.le_of_ble_eq_true rfl⟩ ⟨Nat.zero_le _, Nat.zero_le _⟩ (Nat.le_of_ble_eq_true rfl) (wSt aH aM aT aS kp cyI sI sR ++ wTe aT cyB tI tR) (wMi aH aM cyI mI mR) (by simp only [List.append_assoc, List.nil_append, List.append_nil]) (fun _ => rfl) (fun u => (wSt aH aM aT aS kp cyI sI sR ++ wTe aT cyB tI tR ++ wHo aH cyI hI hR ++ wMi aH aM cyI mI mR)) (fun u => (by simp only [List.append_assoc, List.nil_append, List.append_nil])) (fun r2 u hp => ?_)
    replace hw := hp
    clear hp
    obtain ⟨hwt, hwf⟩ := hw
    refine z_icmpge F dX5_fewestOnPaper_26 70 rfl 29 rfl (fun c1 => ?_) (fun c1 => ?_)
    · have hw := hwt c1; clear hwt hwf
      refine z_iload_n F dX5_fewestOnPaper_70 71 rfl 1 rfl ?_
      exact hRt 71 _ x1 (mI, mR) dX5_fewestOnPaper_71 hw
    · have hw := hwf c1; clear hwt hwf
      refine z_iload_n F dX5_fewestOnPaper_29 30 rfl 3 rfl ?_
      refine z_callSi (As := [.int x3]) (st := []) F dX5_fewestOnPaper_30 33 rfl (mJ6_bitCount_0f7a4 C.1.2.1 D cyI cyB x3 hw) y_J6_bitCount_0f7a4 rfl gX5_fewestOnPaper_J6_bitCount_0f7a4 ⟨Nat.le_of_ble_eq_true rfl, Nat.le_of_ble_eq_true rfl⟩ ⟨Nat.zero_le _, Nat.zero_le _⟩ (Nat.le_of_ble_eq_true rfl) [] (by decide) rfl (fun _ => rfl) (fun u => (wSt aH aM aT aS kp cyI sI sR ++ wTe aT cyB tI tR ++ wHo aH cyI hI hR ++ wMi aH aM cyI mI mR)) (fun _ => rfl) (fun r3 u hp => ?_)
      replace hw := hp
      clear hp
      refine z_istore (lv' := [(4, .int r3), (0, .ref (aS 0)), (1, .int x1), (2, .int x2), (3, .int x3)]) F dX5_fewestOnPaper_33 35 rfl (by decide) rfl ?_
      refine z_iload F dX5_fewestOnPaper_35 37 rfl 0 rfl ?_
      refine z_iload_n F dX5_fewestOnPaper_37 38 rfl 3 rfl ?_
      obtain ⟨hwt, hwf⟩ := hw
      refine z_icmpge F dX5_fewestOnPaper_38 64 rfl 41 rfl (fun c2 => ?_) (fun c2 => ?_)
      · have hw := hwt c2; clear hwt hwf
        refine z_iinc F dX5_fewestOnPaper_64 67 rfl 4 rfl (by decide) zki_1 (fun v1 => [(3, .int v1), (4, .int r3), (0, .ref (aS 0)), (1, .int x1), (2, .int x2)]) (fun _ => rfl) (fun v1 ev1 => ?_)
        replace hw := hw v1 ev1
        refine z_goto F dX5_fewestOnPaper_67 18 rfl ?_
        refine z_lv (lv' := [(0, .ref (aS 0)), (1, .int x1), (2, .int x2), (3, .int v1)]) [2, 3, 4, 0] rfl ?_
        exact ih x1 x2 v1 mI mR hw
      · have hw := hwf c2; clear hwt hwf
        refine z_aload_n F dX5_fewestOnPaper_41 42 rfl 1 rfl ?_
        refine z_get F dX5_fewestOnPaper_42 45 rfl kX5_fewestOnPaper_21 0 rfl rfl ?_
        refine z_iload_n F dX5_fewestOnPaper_45 46 rfl 4 rfl ?_
        refine z_put F dX5_fewestOnPaper_46 49 rfl kX5_fewestOnPaper_246 18 rfl rfl rfl (Nat.le_of_ble_eq_true rfl) (wSt aH aM aT aS kp cyI sI sR ++ wTe aT cyB tI tR ++ wHo aH cyI hI hR ++ wMi aH aM cyI (va_up mI 3 x3) mR) rfl ?_
        refine z_aload_n F dX5_fewestOnPaper_49 50 rfl 1 rfl ?_
        refine z_get F dX5_fewestOnPaper_50 53 rfl kX5_fewestOnPaper_21 0 rfl rfl ?_
        refine z_segVi (As := []) (st := []) F dX5_fewestOnPaper_53 56 rfl (mX2_isKept C.1.2.1 D cyI cyB aH aM hI hR (va_up mI 3 x3) mR hw) y_X2_isKept rfl gX5_fewestOnPaper_X2_isKept rfl (ci := 2) (rq := 12) rfl rfl ⟨Nat.le_of_ble_eq_true rfl, Nat.le_of_ble_eq_true rfl⟩ ⟨Nat.zero_le _, Nat.zero_le _⟩ (Nat.le_of_ble_eq_true rfl) (wSt aH aM aT aS kp cyI sI sR ++ wTe aT cyB tI tR) [] (by simp only [List.append_assoc, List.nil_append, List.append_nil]) (fun _ => rfl) (fun u => (wSt aH aM aT aS kp cyI sI sR ++ wTe aT cyB tI tR ++ wHo aH cyI hI hR ++ wMi aH aM cyI u.1 u.2)) (fun u => (by simp only [List.append_assoc, List.nil_append, List.append_nil])) (fun r0 u hp => ?_)
        obtain ⟨mI_1, mR_1⟩ := u
        obtain ⟨b1, rfl, hw⟩ := hp
        obtain ⟨hwt, hwf⟩ := hw
        refine z_ifeqB F dX5_fewestOnPaper_56 64 rfl 59 rfl (fun c3 => ?_) (fun c3 => ?_)
        · have hw := hwt c3; clear hwt hwf
          refine z_iinc F dX5_fewestOnPaper_64 67 rfl 4 rfl (by decide) zki_1 (fun v2 => [(3, .int v2), (4, .int r3), (0, .ref (aS 0)), (1, .int x1), (2, .int x2)]) (fun _ => rfl) (fun v2 ev2 => ?_)
          replace hw := hw v2 ev2
          refine z_goto F dX5_fewestOnPaper_67 18 rfl ?_
          refine z_lv (lv' := [(0, .ref (aS 0)), (1, .int x1), (2, .int x2), (3, .int v2)]) [2, 3, 4, 0] rfl ?_
          exact ih x1 x2 v2 mI_1 mR_1 hw
        · have hw := hwf c3; clear hwt hwf
          refine z_iload_n F dX5_fewestOnPaper_59 60 rfl 4 rfl ?_
          refine z_istore_n (lv' := [(1, .int x3), (4, .int r3), (0, .ref (aS 0)), (2, .int x2), (3, .int x3)]) F dX5_fewestOnPaper_60 61 rfl (by decide) rfl ?_
          refine z_iload F dX5_fewestOnPaper_61 63 rfl 1 rfl ?_
          refine z_istore_n (lv' := [(2, .int r3), (1, .int x3), (4, .int r3), (0, .ref (aS 0)), (3, .int x3)]) F dX5_fewestOnPaper_63 64 rfl (by decide) rfl ?_
          refine z_iinc F dX5_fewestOnPaper_64 67 rfl 4 rfl (by decide) zki_1 (fun v3 => [(3, .int v3), (2, .int r3), (1, .int x3), (4, .int r3), (0, .ref (aS 0))]) (fun _ => rfl) (fun v3 ev3 => ?_)
          replace hw := hw v3 ev3
          refine z_goto F dX5_fewestOnPaper_67 18 rfl ?_
          refine z_lv (lv' := [(0, .ref (aS 0)), (1, .int x3), (2, .int r3), (3, .int v3)]) [4, 2, 1, 0] rfl ?_
          exact ih x3 r3 v3 mI_1 mR_1 hw
set_option maxHeartbeats 4000000 in
set_option maxRecDepth 100000 in
theorem xX5_fewestOnPaper_0 {C : zC} {D : va_G} {cyI cyB : ClassId} {aS : Nat → Nat} {aT : Nat → Nat} {aH : Nat → Nat} {aM : Nat → Nat} {kp : Value} (sI : Nat → Int32) (sR : Nat → Nat → Int32) (tI : Nat → Int32) (tR : Nat → Nat → Int32) (hI : Nat → Int32) (hR : Nat → Nat → Int32) (mI : Nat → Int32) (mR : Nat → Nat → Int32) (F : zF C D { frames := 4, cells := 0, slots := 0, locals := 94 } cX5_fewestOnPaper 5 wsX5_fewestOnPaper RX5 (some .int) cyI cyB) {post : Int32 → (Nat → Int32) → (Nat → Nat → Int32) → Prop} (hRt : zRi C D cX5_fewestOnPaper 5 (S := ((Nat → Int32) × (Nat → Nat → Int32))) (fun u => (wSt aH aM aT aS kp cyI sI sR ++ wTe aT cyB tI tR ++ wHo aH cyI hI hR ++ wMi aH aM cyI u.1 u.2)) (fun r u => post r u.1 u.2)) (hw : pX5_fewestOnPaper sI sR tI tR hI hR mI mR post) : zX C D 5 0 0 (wSt aH aM aT aS kp cyI sI sR ++ wTe aT cyB tI tR ++ wHo aH cyI hI hR ++ wMi aH aM cyI mI mR) 0 [(0, .ref (aS 0))] [] := by
  refine z_aload_n F dX5_fewestOnPaper_0 1 rfl 0 rfl ?_
  refine z_get F dX5_fewestOnPaper_1 4 rfl kX5_fewestOnPaper_12 0 rfl rfl ?_
  refine z_segVi (As := []) (st := []) F dX5_fewestOnPaper_4 7 rfl (mX1_it C.1.2.1 D cyI cyB aH hI hR hw) y_X1_it rfl gX5_fewestOnPaper_X1_it rfl (ci := 1) (rq := 0) rfl rfl ⟨Nat.le_of_ble_eq_true rfl, Nat.le_of_ble_eq_true rfl⟩ ⟨Nat.zero_le _, Nat.zero_le _⟩ (Nat.le_of_ble_eq_true rfl) (wSt aH aM aT aS kp cyI sI sR ++ wTe aT cyB tI tR) (wMi aH aM cyI mI mR) (by simp only [List.append_assoc, List.nil_append, List.append_nil]) (fun _ => rfl) (fun u => (wSt aH aM aT aS kp cyI sI sR ++ wTe aT cyB tI tR ++ wHo aH cyI hI hR ++ wMi aH aM cyI mI mR)) (fun u => (by simp only [List.append_assoc, List.nil_append, List.append_nil])) (fun r1 u hp => ?_)
  replace hw := hp
  clear hp
  refine z_istore_n (lv' := [(1, .int r1), (0, .ref (aS 0))]) F dX5_fewestOnPaper_7 8 rfl (by decide) rfl ?_
  refine z_aload_n F dX5_fewestOnPaper_8 9 rfl 1 rfl ?_
  refine z_get F dX5_fewestOnPaper_9 12 rfl kX5_fewestOnPaper_12 0 rfl rfl ?_
  refine z_get F dX5_fewestOnPaper_12 15 rfl kX5_fewestOnPaper_68 6 rfl rfl ?_
  refine z_istore_n (lv' := [(2, .int (hI 0)), (1, .int r1), (0, .ref (aS 0))]) F dX5_fewestOnPaper_15 16 rfl (by decide) rfl ?_
  refine z_iconst F dX5_fewestOnPaper_16 17 rfl zki_0 ?_
  refine z_istore_n (lv' := [(3, .int 0), (2, .int (hI 0)), (1, .int r1), (0, .ref (aS 0))]) F dX5_fewestOnPaper_17 18 rfl (by decide) rfl ?_
  obtain ⟨n1, hw⟩ := hw
  refine z_lv (lv' := [(0, .ref (aS 0)), (1, .int r1), (2, .int (hI 0)), (3, .int 0)]) [3, 2, 1, 0] rfl ?_
  refine xX5_fewestOnPaper_18 sI sR tI tR hI hR F hRt n1 r1 (hI 0) 0 mI mR hw
set_option maxHeartbeats 4000000 in
set_option maxRecDepth 100000 in
theorem mX5_fewestOnPaper (l : Launch) (D : va_G) (cyI cyB : ClassId) (aS : Nat → Nat) (aT : Nat → Nat) (aH : Nat → Nat) (aM : Nat → Nat) (kp : Value) (sI : Nat → Int32) (sR : Nat → Nat → Int32) (tI : Nat → Int32) (tR : Nat → Nat → Int32) (hI : Nat → Int32) (hR : Nat → Nat → Int32) (mI : Nat → Int32) (mR : Nat → Nat → Int32) {post : Int32 → (Nat → Int32) → (Nat → Nat → Int32) → Prop} (hw : pX5_fewestOnPaper sI sR tI tR hI hR mI mR post) : zMi l yX5_fewestOnPaper wsX5_fewestOnPaper 4 94 D cyI cyB [.ref (aS 0)] (wSt aH aM aT aS kp cyI sI sR ++ wTe aT cyB tI tR ++ wHo aH cyI hI hR ++ wMi aH aM cyI mI mR) (S := ((Nat → Int32) × (Nat → Nat → Int32))) (fun u => (wSt aH aM aT aS kp cyI sI sR ++ wTe aT cyB tI tR ++ wHo aH cyI hI hR ++ wMi aH aM cyI u.1 u.2)) (fun r u => post r u.1 u.2) :=
  z_meti (cc := cX5_fewestOnPaper) (nL := 5) (by decide +kernel) rfl (Nat.le_of_ble_eq_true rfl) (fun C hl F hRt => xX5_fewestOnPaper_0 sI sR tI tR hI hR mI mR F hRt hw)
theorem y_X5_fewestOnPaper : zY yX5_fewestOnPaper wsX5_fewestOnPaper cX5_fewestOnPaper 5 (some .int) 0 := ⟨⟨_, rfl⟩, by decide +kernel⟩
