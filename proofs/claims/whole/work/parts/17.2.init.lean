set_option maxHeartbeats 4000000 in
set_option maxRecDepth 100000 in
theorem mX3_init (l : Launch) (D : va_G) (cyI cyB : ClassId) (h0 : Nat) : zMc l yX3_init wsX3_init 1 12 2 24 D cyI cyB [.ref h0] [(h0, .inr (3, [.null, .null, .int 0]))] (S := (Nat → Nat)) (fun u => wPa u cyI 0 (fun _ => 0) (fun _ => 0)) (fun u => u 0 = h0) := by
  refine z_metc (cc := cX3_init) (nL := 1) (by decide +kernel) rfl (Nat.le_of_ble_eq_true rfl) (fun C hl hin F hRt => ?_)
  show zX C D 1 0 0 [(h0, .inr (3, [.null, .null, .int 0]))] 0 [(0, .ref h0)] []
  refine z_aload_n F dX3_init_0 1 rfl 0 rfl ?_
  refine z_obj F dX3_init_1 4 rfl (List.mem_of_getElem? (i := 1) rfl) (List.mem_of_getElem? (i := 2) rfl) (List.mem_of_getElem? (i := 3) rfl) (Nat.le_of_ble_eq_true rfl) (Nat.le_of_ble_eq_true rfl) ?_
  refine z_aload_n F dX3_init_4 5 rfl 0 rfl ?_
  refine z_bipush F dX3_init_5 7 rfl zkb_12 ?_
  refine z_newi (N := 12) F dX3_init_7 9 rfl (List.mem_of_getElem? (i := 4) rfl) (by decide +kernel) (by decide +kernel) (by decide +kernel) (by decide +kernel) (by decide +kernel) (fun q7 => ?_)
  refine z_putF F hin dX3_init_9 12 rfl kX3_init_9 rfl 0 rfl rfl rfl (Nat.le_of_ble_eq_true rfl) ([(h0, .inr (3, [.ref q7, .null, .int 0])), (q7, .inl (cyI, 12, .inl (fun _ => 0)))]) rfl ?_
  refine z_aload_n F dX3_init_12 13 rfl 0 rfl ?_
  refine z_bipush F dX3_init_13 15 rfl zkb_12 ?_
  refine z_newi (N := 12) F dX3_init_15 17 rfl (List.mem_of_getElem? (i := 4) rfl) (by decide +kernel) (by decide +kernel) (by decide +kernel) (by decide +kernel) (by decide +kernel) (fun q15 => ?_)
  refine z_putF F hin dX3_init_17 20 rfl kX3_init_15 rfl 0 rfl rfl rfl (Nat.le_of_ble_eq_true rfl) ([(h0, .inr (3, [.ref q7, .ref q15, .int 0])), (q7, .inl (cyI, 12, .inl (fun _ => 0))), (q15, .inl (cyI, 12, .inl (fun _ => 0)))]) rfl ?_
  refine z_aload_n F dX3_init_20 21 rfl 0 rfl ?_
  refine z_iconst F dX3_init_21 22 rfl zki_0 ?_
  refine z_put F dX3_init_22 25 rfl kX3_init_18 0 rfl rfl rfl (Nat.le_of_ble_eq_true rfl) ([(h0, .inr (3, [.ref q7, .ref q15, .int 0])), (q7, .inl (cyI, 12, .inl (fun _ => 0))), (q15, .inl (cyI, 12, .inl (fun _ => 0)))]) rfl ?_
  refine z_ws ((fun u => wPa u cyI 0 (fun _ => 0) (fun _ => 0)) (fun j => [h0, q7, q15].getD j 0)) [0, 1, 2] (by decide) rfl ?_
  refine z_widen (k' := 2) (n' := 24) (by decide +kernel) (by decide +kernel) ?_
  exact hRt 25 _ (fun j => [h0, q7, q15].getD j 0) dX3_init_25 rfl
set_option maxHeartbeats 4000000 in
set_option maxRecDepth 100000 in
theorem mX0_init (l : Launch) (D : va_G) (cyI cyB : ClassId) (h0 : Nat) : zMc l yX0_init wsX0_init 1 12 1 70 D cyI cyB [.ref h0] [(h0, .inr (0, [.null, .int 0, .int 0]))] (S := (Nat → Nat)) (fun u => wCh u cyI 0 0 (fun _ => 0)) (fun u => u 0 = h0) := by
  refine z_metc (cc := cX0_init) (nL := 1) (by decide +kernel) rfl (Nat.le_of_ble_eq_true rfl) (fun C hl hin F hRt => ?_)
  show zX C D 1 0 0 [(h0, .inr (0, [.null, .int 0, .int 0]))] 0 [(0, .ref h0)] []
  refine z_aload_n F dX0_init_0 1 rfl 0 rfl ?_
  refine z_obj F dX0_init_1 4 rfl (List.mem_of_getElem? (i := 1) rfl) (List.mem_of_getElem? (i := 2) rfl) (List.mem_of_getElem? (i := 3) rfl) (Nat.le_of_ble_eq_true rfl) (Nat.le_of_ble_eq_true rfl) ?_
  refine z_aload_n F dX0_init_4 5 rfl 0 rfl ?_
  refine z_bipush F dX0_init_5 7 rfl zkb_70 ?_
  refine z_newi (N := 70) F dX0_init_7 9 rfl (List.mem_of_getElem? (i := 4) rfl) (by decide +kernel) (by decide +kernel) (by decide +kernel) (by decide +kernel) (by decide +kernel) (fun q7 => ?_)
  refine z_putF F hin dX0_init_9 12 rfl kX0_init_9 rfl 0 rfl rfl rfl (Nat.le_of_ble_eq_true rfl) ([(h0, .inr (0, [.ref q7, .int 0, .int 0])), (q7, .inl (cyI, 70, .inl (fun _ => 0)))]) rfl ?_
  refine z_aload_n F dX0_init_12 13 rfl 0 rfl ?_
  refine z_iconst F dX0_init_13 14 rfl zki_0 ?_
  refine z_put F dX0_init_14 17 rfl kX0_init_15 0 rfl rfl rfl (Nat.le_of_ble_eq_true rfl) ([(h0, .inr (0, [.ref q7, .int 0, .int 0])), (q7, .inl (cyI, 70, .inl (fun _ => 0)))]) rfl ?_
  refine z_aload_n F dX0_init_17 18 rfl 0 rfl ?_
  refine z_iconst F dX0_init_18 19 rfl zki_0 ?_
  refine z_put F dX0_init_19 22 rfl kX0_init_19 0 rfl rfl rfl (Nat.le_of_ble_eq_true rfl) ([(h0, .inr (0, [.ref q7, .int 0, .int 0])), (q7, .inl (cyI, 70, .inl (fun _ => 0)))]) rfl ?_
  refine z_ws ((fun u => wCh u cyI 0 0 (fun _ => 0)) (fun j => [h0, q7].getD j 0)) [0, 1] (by decide) rfl ?_
  refine z_widen (k' := 1) (n' := 70) (by decide +kernel) (by decide +kernel) ?_
  exact hRt 22 _ (fun j => [h0, q7].getD j 0) dX0_init_22 rfl
set_option maxHeartbeats 4000000 in
set_option maxRecDepth 100000 in
theorem mX4_init (l : Launch) (D : va_G) (cyI cyB : ClassId) (h0 : Nat) : zMc l yX4_init wsX4_init 1 12 1 80 D cyI cyB [.ref h0] [(h0, .inr (4, [.null, .int 0, .int 0]))] (S := (Nat → Nat)) (fun u => wTe u cyB (fun _ => 0) (fun _ _ => 0)) (fun u => u 0 = h0) := by
  refine z_metc (cc := cX4_init) (nL := 1) (by decide +kernel) rfl (Nat.le_of_ble_eq_true rfl) (fun C hl hin F hRt => ?_)
  show zX C D 1 0 0 [(h0, .inr (4, [.null, .int 0, .int 0]))] 0 [(0, .ref h0)] []
  refine z_aload_n F dX4_init_0 1 rfl 0 rfl ?_
  refine z_obj F dX4_init_1 4 rfl (List.mem_of_getElem? (i := 1) rfl) (List.mem_of_getElem? (i := 2) rfl) (List.mem_of_getElem? (i := 3) rfl) (Nat.le_of_ble_eq_true rfl) (Nat.le_of_ble_eq_true rfl) ?_
  refine z_aload_n F dX4_init_4 5 rfl 0 rfl ?_
  refine z_bipush F dX4_init_5 7 rfl zkb_80 ?_
  refine z_newb (N := 80) F dX4_init_7 9 rfl (List.mem_of_getElem? (i := 4) rfl) (by decide +kernel) (by decide +kernel) (by decide +kernel) (by decide +kernel) (by decide +kernel) (fun q7 => ?_)
  refine z_putF F hin dX4_init_9 12 rfl kX4_init_9 rfl 0 rfl rfl rfl (Nat.le_of_ble_eq_true rfl) ([(h0, .inr (4, [.ref q7, .int 0, .int 0])), (q7, .inl (cyB, 80, .inl (fun _ => 0)))]) rfl ?_
  refine z_aload_n F dX4_init_12 13 rfl 0 rfl ?_
  refine z_iconst F dX4_init_13 14 rfl zki_0 ?_
  refine z_put F dX4_init_14 17 rfl kX4_init_15 0 rfl rfl rfl (Nat.le_of_ble_eq_true rfl) ([(h0, .inr (4, [.ref q7, .int 0, .int 0])), (q7, .inl (cyB, 80, .inl (fun _ => 0)))]) rfl ?_
  refine z_aload_n F dX4_init_17 18 rfl 0 rfl ?_
  refine z_iconst F dX4_init_18 19 rfl zki_0 ?_
  refine z_put F dX4_init_19 22 rfl kX4_init_19 0 rfl rfl rfl (Nat.le_of_ble_eq_true rfl) ([(h0, .inr (4, [.ref q7, .int 0, .int 0])), (q7, .inl (cyB, 80, .inl (fun _ => 0)))]) rfl ?_
  refine z_ws ((fun u => wTe u cyB (fun _ => 0) (fun _ _ => 0)) (fun j => [h0, q7].getD j 0)) [0, 1] (by decide) rfl ?_
  refine z_widen (k' := 1) (n' := 80) (by decide +kernel) (by decide +kernel) ?_
  exact hRt 22 _ (fun j => [h0, q7].getD j 0) dX4_init_22 rfl
set_option maxHeartbeats 4000000 in
set_option maxRecDepth 100000 in
theorem mX1_init (l : Launch) (D : va_G) (cyI cyB : ClassId) (h0 : Nat) : zMc l yX1_init wsX1_init 2 32 11 97 D cyI cyB [.ref h0] [(h0, .inr (1, [.null, .null, .null, .null, .null, .int 0, .int 0, .int 0, .int 0]))] (S := (Nat → Nat)) (fun u => wHo u cyI (va_up (fun _ => 0) 0 4) (fun _ _ => 0)) (fun u => u 0 = h0) := by
  refine z_metc (cc := cX1_init) (nL := 1) (by decide +kernel) rfl (Nat.le_of_ble_eq_true rfl) (fun C hl hin F hRt => ?_)
  show zX C D 1 0 0 [(h0, .inr (1, [.null, .null, .null, .null, .null, .int 0, .int 0, .int 0, .int 0]))] 0 [(0, .ref h0)] []
  refine z_aload_n F dX1_init_0 1 rfl 0 rfl ?_
  refine z_obj F dX1_init_1 4 rfl (List.mem_of_getElem? (i := 1) rfl) (List.mem_of_getElem? (i := 2) rfl) (List.mem_of_getElem? (i := 3) rfl) (Nat.le_of_ble_eq_true rfl) (Nat.le_of_ble_eq_true rfl) ?_
  refine z_aload_n F dX1_init_4 5 rfl 0 rfl ?_
  refine z_bipush F dX1_init_5 7 rfl zkb_8 ?_
  refine z_newi (N := 8) F dX1_init_7 9 rfl (List.mem_of_getElem? (i := 4) rfl) (by decide +kernel) (by decide +kernel) (by decide +kernel) (by decide +kernel) (by decide +kernel) (fun q7 => ?_)
  refine z_putF F hin dX1_init_9 12 rfl kX1_init_9 rfl 0 rfl rfl rfl (Nat.le_of_ble_eq_true rfl) ([(h0, .inr (1, [.ref q7, .null, .null, .null, .null, .int 0, .int 0, .int 0, .int 0])), (q7, .inl (cyI, 8, .inl (fun _ => 0)))]) rfl ?_
  refine z_aload_n F dX1_init_12 13 rfl 0 rfl ?_
  refine z_bipush F dX1_init_13 15 rfl zkb_8 ?_
  refine z_newi (N := 8) F dX1_init_15 17 rfl (List.mem_of_getElem? (i := 4) rfl) (by decide +kernel) (by decide +kernel) (by decide +kernel) (by decide +kernel) (by decide +kernel) (fun q15 => ?_)
  refine z_putF F hin dX1_init_17 20 rfl kX1_init_15 rfl 0 rfl rfl rfl (Nat.le_of_ble_eq_true rfl) ([(h0, .inr (1, [.ref q7, .ref q15, .null, .null, .null, .int 0, .int 0, .int 0, .int 0])), (q7, .inl (cyI, 8, .inl (fun _ => 0))), (q15, .inl (cyI, 8, .inl (fun _ => 0)))]) rfl ?_
  refine z_aload_n F dX1_init_20 21 rfl 0 rfl ?_
  refine z_new F dX1_init_21 24 rfl nX1_init_3 (List.mem_of_getElem? (i := 7) rfl) (List.mem_of_getElem? (i := 8) rfl) (List.mem_of_getElem? (i := 9) rfl) (by decide +kernel) (by decide +kernel) (fun q21 => ?_)
  refine z_dup F dX1_init_24 25 rfl rfl ?_
  refine z_ctorN (As := []) (st := [.ref q21, .ref h0]) (A := ([(h0, .inr (1, [.ref q7, .ref q15, .null, .null, .null, .int 0, .int 0, .int 0, .int 0])), (q7, .inl (cyI, 8, .inl (fun _ => 0))), (q15, .inl (cyI, 8, .inl (fun _ => 0)))])) (wc := [(q21, .inr (3, [.null, .null, .int 0]))]) F dX1_init_25 28 rfl (mX3_init C.1.2.1 D cyI cyB q21) y_X3_init rfl rfl gX1_init_X3_init_n20 F.2.2.1.2.1 (List.mem_of_getElem? (i := 9) rfl) (List.mem_of_getElem? (i := 17) rfl) (by decide +kernel) (by decide +kernel) (Nat.le_of_ble_eq_true rfl) rfl (fun u25 hp => ?_)
  have hp : u25 0 = q21 := hp
  subst hp
  refine z_putF F hin dX1_init_28 31 rfl kX1_init_21 rfl 0 rfl rfl rfl (Nat.le_of_ble_eq_true rfl) ([(h0, .inr (1, [.ref q7, .ref q15, .ref (u25 0), .null, .null, .int 0, .int 0, .int 0, .int 0])), (q7, .inl (cyI, 8, .inl (fun _ => 0))), (q15, .inl (cyI, 8, .inl (fun _ => 0)))] ++ wPa u25 cyI 0 (fun _ => 0) (fun _ => 0)) rfl ?_
  refine z_aload_n F dX1_init_31 32 rfl 0 rfl ?_
  refine z_new F dX1_init_32 35 rfl nX1_init_3 (List.mem_of_getElem? (i := 7) rfl) (List.mem_of_getElem? (i := 8) rfl) (List.mem_of_getElem? (i := 9) rfl) (by decide +kernel) (by decide +kernel) (fun q32 => ?_)
  refine z_dup F dX1_init_35 36 rfl rfl ?_
  refine z_ctorN (As := []) (st := [.ref q32, .ref h0]) (A := ([(h0, .inr (1, [.ref q7, .ref q15, .ref (u25 0), .null, .null, .int 0, .int 0, .int 0, .int 0])), (q7, .inl (cyI, 8, .inl (fun _ => 0))), (q15, .inl (cyI, 8, .inl (fun _ => 0)))] ++ wPa u25 cyI 0 (fun _ => 0) (fun _ => 0))) (wc := [(q32, .inr (3, [.null, .null, .int 0]))]) F dX1_init_36 39 rfl (mX3_init C.1.2.1 D cyI cyB q32) y_X3_init rfl rfl gX1_init_X3_init_n20 F.2.2.1.2.1 (List.mem_of_getElem? (i := 9) rfl) (List.mem_of_getElem? (i := 17) rfl) (by decide +kernel) (by decide +kernel) (Nat.le_of_ble_eq_true rfl) rfl (fun u36 hp => ?_)
  have hp : u36 0 = q32 := hp
  subst hp
  refine z_putF F hin dX1_init_39 42 rfl kX1_init_25 rfl 0 rfl rfl rfl (Nat.le_of_ble_eq_true rfl) ([(h0, .inr (1, [.ref q7, .ref q15, .ref (u25 0), .ref (u36 0), .null, .int 0, .int 0, .int 0, .int 0])), (q7, .inl (cyI, 8, .inl (fun _ => 0))), (q15, .inl (cyI, 8, .inl (fun _ => 0)))] ++ wPa u25 cyI 0 (fun _ => 0) (fun _ => 0) ++ wPa u36 cyI 0 (fun _ => 0) (fun _ => 0)) rfl ?_
  refine z_aload_n F dX1_init_42 43 rfl 0 rfl ?_
  refine z_new F dX1_init_43 46 rfl nX1_init_3 (List.mem_of_getElem? (i := 7) rfl) (List.mem_of_getElem? (i := 8) rfl) (List.mem_of_getElem? (i := 9) rfl) (by decide +kernel) (by decide +kernel) (fun q43 => ?_)
  refine z_dup F dX1_init_46 47 rfl rfl ?_
  refine z_ctorN (As := []) (st := [.ref q43, .ref h0]) (A := ([(h0, .inr (1, [.ref q7, .ref q15, .ref (u25 0), .ref (u36 0), .null, .int 0, .int 0, .int 0, .int 0])), (q7, .inl (cyI, 8, .inl (fun _ => 0))), (q15, .inl (cyI, 8, .inl (fun _ => 0)))] ++ wPa u25 cyI 0 (fun _ => 0) (fun _ => 0) ++ wPa u36 cyI 0 (fun _ => 0) (fun _ => 0))) (wc := [(q43, .inr (3, [.null, .null, .int 0]))]) F dX1_init_47 50 rfl (mX3_init C.1.2.1 D cyI cyB q43) y_X3_init rfl rfl gX1_init_X3_init_n20 F.2.2.1.2.1 (List.mem_of_getElem? (i := 9) rfl) (List.mem_of_getElem? (i := 17) rfl) (by decide +kernel) (by decide +kernel) (Nat.le_of_ble_eq_true rfl) rfl (fun u47 hp => ?_)
  have hp : u47 0 = q43 := hp
  subst hp
  refine z_putF F hin dX1_init_50 53 rfl kX1_init_28 rfl 0 rfl rfl rfl (Nat.le_of_ble_eq_true rfl) ([(h0, .inr (1, [.ref q7, .ref q15, .ref (u25 0), .ref (u36 0), .ref (u47 0), .int 0, .int 0, .int 0, .int 0])), (q7, .inl (cyI, 8, .inl (fun _ => 0))), (q15, .inl (cyI, 8, .inl (fun _ => 0)))] ++ wPa u25 cyI 0 (fun _ => 0) (fun _ => 0) ++ wPa u36 cyI 0 (fun _ => 0) (fun _ => 0) ++ wPa u47 cyI 0 (fun _ => 0) (fun _ => 0)) rfl ?_
  refine z_aload_n F dX1_init_53 54 rfl 0 rfl ?_
  refine z_iconst F dX1_init_54 55 rfl zki_4 ?_
  refine z_put F dX1_init_55 58 rfl kX1_init_31 0 rfl rfl rfl (Nat.le_of_ble_eq_true rfl) ([(h0, .inr (1, [.ref q7, .ref q15, .ref (u25 0), .ref (u36 0), .ref (u47 0), .int 4, .int 0, .int 0, .int 0])), (q7, .inl (cyI, 8, .inl (fun _ => 0))), (q15, .inl (cyI, 8, .inl (fun _ => 0)))] ++ wPa u25 cyI 0 (fun _ => 0) (fun _ => 0) ++ wPa u36 cyI 0 (fun _ => 0) (fun _ => 0) ++ wPa u47 cyI 0 (fun _ => 0) (fun _ => 0)) rfl ?_
  refine z_aload_n F dX1_init_58 59 rfl 0 rfl ?_
  refine z_iconst F dX1_init_59 60 rfl zki_0 ?_
  refine z_put F dX1_init_60 63 rfl kX1_init_35 0 rfl rfl rfl (Nat.le_of_ble_eq_true rfl) ([(h0, .inr (1, [.ref q7, .ref q15, .ref (u25 0), .ref (u36 0), .ref (u47 0), .int 4, .int 0, .int 0, .int 0])), (q7, .inl (cyI, 8, .inl (fun _ => 0))), (q15, .inl (cyI, 8, .inl (fun _ => 0)))] ++ wPa u25 cyI 0 (fun _ => 0) (fun _ => 0) ++ wPa u36 cyI 0 (fun _ => 0) (fun _ => 0) ++ wPa u47 cyI 0 (fun _ => 0) (fun _ => 0)) rfl ?_
  refine z_aload_n F dX1_init_63 64 rfl 0 rfl ?_
  refine z_iconst F dX1_init_64 65 rfl zki_0 ?_
  refine z_put F dX1_init_65 68 rfl kX1_init_38 0 rfl rfl rfl (Nat.le_of_ble_eq_true rfl) ([(h0, .inr (1, [.ref q7, .ref q15, .ref (u25 0), .ref (u36 0), .ref (u47 0), .int 4, .int 0, .int 0, .int 0])), (q7, .inl (cyI, 8, .inl (fun _ => 0))), (q15, .inl (cyI, 8, .inl (fun _ => 0)))] ++ wPa u25 cyI 0 (fun _ => 0) (fun _ => 0) ++ wPa u36 cyI 0 (fun _ => 0) (fun _ => 0) ++ wPa u47 cyI 0 (fun _ => 0) (fun _ => 0)) rfl ?_
  refine z_aload_n F dX1_init_68 69 rfl 0 rfl ?_
  refine z_iconst F dX1_init_69 70 rfl zki_0 ?_
  refine z_put F dX1_init_70 73 rfl kX1_init_41 0 rfl rfl rfl (Nat.le_of_ble_eq_true rfl) ([(h0, .inr (1, [.ref q7, .ref q15, .ref (u25 0), .ref (u36 0), .ref (u47 0), .int 4, .int 0, .int 0, .int 0])), (q7, .inl (cyI, 8, .inl (fun _ => 0))), (q15, .inl (cyI, 8, .inl (fun _ => 0)))] ++ wPa u25 cyI 0 (fun _ => 0) (fun _ => 0) ++ wPa u36 cyI 0 (fun _ => 0) (fun _ => 0) ++ wPa u47 cyI 0 (fun _ => 0) (fun _ => 0)) rfl ?_
  refine z_ws ((fun u => wHo u cyI (va_up (fun _ => 0) 0 4) (fun _ _ => 0)) (fun j => [h0, q7, q15, (u25 0), (u25 1), (u25 2), (u36 0), (u36 1), (u36 2), (u47 0), (u47 1), (u47 2)].getD j 0)) [0, 1, 2, 3, 4, 5, 6, 7, 8, 9, 10, 11] (by decide) rfl ?_
  refine z_widen (k' := 11) (n' := 97) (by decide +kernel) (by decide +kernel) ?_
  exact hRt 73 _ (fun j => [h0, q7, q15, (u25 0), (u25 1), (u25 2), (u36 0), (u36 1), (u36 2), (u47 0), (u47 1), (u47 2)].getD j 0) dX1_init_73 rfl
set_option maxHeartbeats 4000000 in
set_option maxRecDepth 100000 in
theorem mX2_init (l : Launch) (D : va_G) (cyI cyB : ClassId) (aH : Nat → Nat) (h0 : Nat) : zMc l yX2_init wsX2_init 2 32 8 178 D cyI cyB [.ref h0, .ref (aH 0)] [(h0, .inr (2, [.null, .null, .null, .null, .null, .null, .null, .int 0, .int 0, .int 0, .int 0]))] (S := (Nat → Nat)) (fun u => wMi aH u cyI (fun _ => 0) (fun _ _ => 0)) (fun u => u 0 = h0) := by
  refine z_metc (cc := cX2_init) (nL := 2) (by decide +kernel) rfl (Nat.le_of_ble_eq_true rfl) (fun C hl hin F hRt => ?_)
  show zX C D 2 0 0 [(h0, .inr (2, [.null, .null, .null, .null, .null, .null, .null, .int 0, .int 0, .int 0, .int 0]))] 0 [(0, .ref h0), (1, .ref (aH 0))] []
  refine z_aload_n F dX2_init_0 1 rfl 0 rfl ?_
  refine z_obj F dX2_init_1 4 rfl (List.mem_of_getElem? (i := 1) rfl) (List.mem_of_getElem? (i := 2) rfl) (List.mem_of_getElem? (i := 3) rfl) (Nat.le_of_ble_eq_true rfl) (Nat.le_of_ble_eq_true rfl) ?_
  refine z_aload_n F dX2_init_4 5 rfl 0 rfl ?_
  refine z_bipush F dX2_init_5 7 rfl zkb_8 ?_
  refine z_newi (N := 8) F dX2_init_7 9 rfl (List.mem_of_getElem? (i := 4) rfl) (by decide +kernel) (by decide +kernel) (by decide +kernel) (by decide +kernel) (by decide +kernel) (fun q7 => ?_)
  refine z_putF F hin dX2_init_9 12 rfl kX2_init_9 rfl 0 rfl rfl rfl (Nat.le_of_ble_eq_true rfl) ([(h0, .inr (2, [.null, .ref q7, .null, .null, .null, .null, .null, .int 0, .int 0, .int 0, .int 0])), (q7, .inl (cyI, 8, .inl (fun _ => 0)))]) rfl ?_
  refine z_aload_n F dX2_init_12 13 rfl 0 rfl ?_
  refine z_bipush F dX2_init_13 15 rfl zkb_8 ?_
  refine z_newi (N := 8) F dX2_init_15 17 rfl (List.mem_of_getElem? (i := 4) rfl) (by decide +kernel) (by decide +kernel) (by decide +kernel) (by decide +kernel) (by decide +kernel) (fun q15 => ?_)
  refine z_putF F hin dX2_init_17 20 rfl kX2_init_15 rfl 0 rfl rfl rfl (Nat.le_of_ble_eq_true rfl) ([(h0, .inr (2, [.null, .ref q7, .ref q15, .null, .null, .null, .null, .int 0, .int 0, .int 0, .int 0])), (q7, .inl (cyI, 8, .inl (fun _ => 0))), (q15, .inl (cyI, 8, .inl (fun _ => 0)))]) rfl ?_
  refine z_aload_n F dX2_init_20 21 rfl 0 rfl ?_
  refine z_bipush F dX2_init_21 23 rfl zkb_8 ?_
  refine z_newi (N := 8) F dX2_init_23 25 rfl (List.mem_of_getElem? (i := 4) rfl) (by decide +kernel) (by decide +kernel) (by decide +kernel) (by decide +kernel) (by decide +kernel) (fun q23 => ?_)
  refine z_putF F hin dX2_init_25 28 rfl kX2_init_18 rfl 0 rfl rfl rfl (Nat.le_of_ble_eq_true rfl) ([(h0, .inr (2, [.null, .ref q7, .ref q15, .ref q23, .null, .null, .null, .int 0, .int 0, .int 0, .int 0])), (q7, .inl (cyI, 8, .inl (fun _ => 0))), (q15, .inl (cyI, 8, .inl (fun _ => 0))), (q23, .inl (cyI, 8, .inl (fun _ => 0)))]) rfl ?_
  refine z_aload_n F dX2_init_28 29 rfl 0 rfl ?_
  refine z_bipush F dX2_init_29 31 rfl zkb_8 ?_
  refine z_newi (N := 8) F dX2_init_31 33 rfl (List.mem_of_getElem? (i := 4) rfl) (by decide +kernel) (by decide +kernel) (by decide +kernel) (by decide +kernel) (by decide +kernel) (fun q31 => ?_)
  refine z_putF F hin dX2_init_33 36 rfl kX2_init_21 rfl 0 rfl rfl rfl (Nat.le_of_ble_eq_true rfl) ([(h0, .inr (2, [.null, .ref q7, .ref q15, .ref q23, .ref q31, .null, .null, .int 0, .int 0, .int 0, .int 0])), (q7, .inl (cyI, 8, .inl (fun _ => 0))), (q15, .inl (cyI, 8, .inl (fun _ => 0))), (q23, .inl (cyI, 8, .inl (fun _ => 0))), (q31, .inl (cyI, 8, .inl (fun _ => 0)))]) rfl ?_
  refine z_aload_n F dX2_init_36 37 rfl 0 rfl ?_
  refine z_new F dX2_init_37 40 rfl nX2_init_0 (List.mem_of_getElem? (i := 9) rfl) (List.mem_of_getElem? (i := 10) rfl) (List.mem_of_getElem? (i := 11) rfl) (by decide +kernel) (by decide +kernel) (fun q37 => ?_)
  refine z_dup F dX2_init_40 41 rfl rfl ?_
  refine z_ctorN (As := []) (st := [.ref q37, .ref h0]) (A := ([(h0, .inr (2, [.null, .ref q7, .ref q15, .ref q23, .ref q31, .null, .null, .int 0, .int 0, .int 0, .int 0])), (q7, .inl (cyI, 8, .inl (fun _ => 0))), (q15, .inl (cyI, 8, .inl (fun _ => 0))), (q23, .inl (cyI, 8, .inl (fun _ => 0))), (q31, .inl (cyI, 8, .inl (fun _ => 0)))])) (wc := [(q37, .inr (0, [.null, .int 0, .int 0]))]) F dX2_init_41 44 rfl (mX0_init C.1.2.1 D cyI cyB q37) y_X0_init rfl rfl gX2_init_X0_init_n26 F.2.2.1.2.2.1 (List.mem_of_getElem? (i := 11) rfl) (List.mem_of_getElem? (i := 19) rfl) (by decide +kernel) (by decide +kernel) (Nat.le_of_ble_eq_true rfl) rfl (fun u41 hp => ?_)
  have hp : u41 0 = q37 := hp
  subst hp
  refine z_putF F hin dX2_init_44 47 rfl kX2_init_27 rfl 0 rfl rfl rfl (Nat.le_of_ble_eq_true rfl) ([(h0, .inr (2, [.null, .ref q7, .ref q15, .ref q23, .ref q31, .ref (u41 0), .null, .int 0, .int 0, .int 0, .int 0])), (q7, .inl (cyI, 8, .inl (fun _ => 0))), (q15, .inl (cyI, 8, .inl (fun _ => 0))), (q23, .inl (cyI, 8, .inl (fun _ => 0))), (q31, .inl (cyI, 8, .inl (fun _ => 0)))] ++ wCh u41 cyI 0 0 (fun _ => 0)) rfl ?_
  refine z_aload_n F dX2_init_47 48 rfl 0 rfl ?_
  refine z_new F dX2_init_48 51 rfl nX2_init_0 (List.mem_of_getElem? (i := 9) rfl) (List.mem_of_getElem? (i := 10) rfl) (List.mem_of_getElem? (i := 11) rfl) (by decide +kernel) (by decide +kernel) (fun q48 => ?_)
  refine z_dup F dX2_init_51 52 rfl rfl ?_
  refine z_ctorN (As := []) (st := [.ref q48, .ref h0]) (A := ([(h0, .inr (2, [.null, .ref q7, .ref q15, .ref q23, .ref q31, .ref (u41 0), .null, .int 0, .int 0, .int 0, .int 0])), (q7, .inl (cyI, 8, .inl (fun _ => 0))), (q15, .inl (cyI, 8, .inl (fun _ => 0))), (q23, .inl (cyI, 8, .inl (fun _ => 0))), (q31, .inl (cyI, 8, .inl (fun _ => 0)))] ++ wCh u41 cyI 0 0 (fun _ => 0))) (wc := [(q48, .inr (0, [.null, .int 0, .int 0]))]) F dX2_init_52 55 rfl (mX0_init C.1.2.1 D cyI cyB q48) y_X0_init rfl rfl gX2_init_X0_init_n26 F.2.2.1.2.2.1 (List.mem_of_getElem? (i := 11) rfl) (List.mem_of_getElem? (i := 19) rfl) (by decide +kernel) (by decide +kernel) (Nat.le_of_ble_eq_true rfl) rfl (fun u52 hp => ?_)
  have hp : u52 0 = q48 := hp
  subst hp
  refine z_putF F hin dX2_init_55 58 rfl kX2_init_31 rfl 0 rfl rfl rfl (Nat.le_of_ble_eq_true rfl) ([(h0, .inr (2, [.null, .ref q7, .ref q15, .ref q23, .ref q31, .ref (u41 0), .ref (u52 0), .int 0, .int 0, .int 0, .int 0])), (q7, .inl (cyI, 8, .inl (fun _ => 0))), (q15, .inl (cyI, 8, .inl (fun _ => 0))), (q23, .inl (cyI, 8, .inl (fun _ => 0))), (q31, .inl (cyI, 8, .inl (fun _ => 0)))] ++ wCh u41 cyI 0 0 (fun _ => 0) ++ wCh u52 cyI 0 0 (fun _ => 0)) rfl ?_
  refine z_aload_n F dX2_init_58 59 rfl 0 rfl ?_
  refine z_iconst F dX2_init_59 60 rfl zki_0 ?_
  refine z_put F dX2_init_60 63 rfl kX2_init_34 0 rfl rfl rfl (Nat.le_of_ble_eq_true rfl) ([(h0, .inr (2, [.null, .ref q7, .ref q15, .ref q23, .ref q31, .ref (u41 0), .ref (u52 0), .int 0, .int 0, .int 0, .int 0])), (q7, .inl (cyI, 8, .inl (fun _ => 0))), (q15, .inl (cyI, 8, .inl (fun _ => 0))), (q23, .inl (cyI, 8, .inl (fun _ => 0))), (q31, .inl (cyI, 8, .inl (fun _ => 0)))] ++ wCh u41 cyI 0 0 (fun _ => 0) ++ wCh u52 cyI 0 0 (fun _ => 0)) rfl ?_
  refine z_aload_n F dX2_init_63 64 rfl 0 rfl ?_
  refine z_iconst F dX2_init_64 65 rfl zki_0 ?_
  refine z_put F dX2_init_65 68 rfl kX2_init_38 0 rfl rfl rfl (Nat.le_of_ble_eq_true rfl) ([(h0, .inr (2, [.null, .ref q7, .ref q15, .ref q23, .ref q31, .ref (u41 0), .ref (u52 0), .int 0, .int 0, .int 0, .int 0])), (q7, .inl (cyI, 8, .inl (fun _ => 0))), (q15, .inl (cyI, 8, .inl (fun _ => 0))), (q23, .inl (cyI, 8, .inl (fun _ => 0))), (q31, .inl (cyI, 8, .inl (fun _ => 0)))] ++ wCh u41 cyI 0 0 (fun _ => 0) ++ wCh u52 cyI 0 0 (fun _ => 0)) rfl ?_
  refine z_aload_n F dX2_init_68 69 rfl 0 rfl ?_
  refine z_iconst F dX2_init_69 70 rfl zki_0 ?_
  refine z_put F dX2_init_70 73 rfl kX2_init_41 0 rfl rfl rfl (Nat.le_of_ble_eq_true rfl) ([(h0, .inr (2, [.null, .ref q7, .ref q15, .ref q23, .ref q31, .ref (u41 0), .ref (u52 0), .int 0, .int 0, .int 0, .int 0])), (q7, .inl (cyI, 8, .inl (fun _ => 0))), (q15, .inl (cyI, 8, .inl (fun _ => 0))), (q23, .inl (cyI, 8, .inl (fun _ => 0))), (q31, .inl (cyI, 8, .inl (fun _ => 0)))] ++ wCh u41 cyI 0 0 (fun _ => 0) ++ wCh u52 cyI 0 0 (fun _ => 0)) rfl ?_
  refine z_aload_n F dX2_init_73 74 rfl 0 rfl ?_
  refine z_iconst F dX2_init_74 75 rfl zki_0 ?_
  refine z_put F dX2_init_75 78 rfl kX2_init_44 0 rfl rfl rfl (Nat.le_of_ble_eq_true rfl) ([(h0, .inr (2, [.null, .ref q7, .ref q15, .ref q23, .ref q31, .ref (u41 0), .ref (u52 0), .int 0, .int 0, .int 0, .int 0])), (q7, .inl (cyI, 8, .inl (fun _ => 0))), (q15, .inl (cyI, 8, .inl (fun _ => 0))), (q23, .inl (cyI, 8, .inl (fun _ => 0))), (q31, .inl (cyI, 8, .inl (fun _ => 0)))] ++ wCh u41 cyI 0 0 (fun _ => 0) ++ wCh u52 cyI 0 0 (fun _ => 0)) rfl ?_
  refine z_aload_n F dX2_init_78 79 rfl 0 rfl ?_
  refine z_aload_n F dX2_init_79 80 rfl 1 rfl ?_
  refine z_putF F hin dX2_init_80 83 rfl kX2_init_47 rfl 0 rfl rfl rfl (Nat.le_of_ble_eq_true rfl) ([(h0, .inr (2, [.ref (aH 0), .ref q7, .ref q15, .ref q23, .ref q31, .ref (u41 0), .ref (u52 0), .int 0, .int 0, .int 0, .int 0])), (q7, .inl (cyI, 8, .inl (fun _ => 0))), (q15, .inl (cyI, 8, .inl (fun _ => 0))), (q23, .inl (cyI, 8, .inl (fun _ => 0))), (q31, .inl (cyI, 8, .inl (fun _ => 0)))] ++ wCh u41 cyI 0 0 (fun _ => 0) ++ wCh u52 cyI 0 0 (fun _ => 0)) rfl ?_
  refine z_ws ((fun u => wMi aH u cyI (fun _ => 0) (fun _ _ => 0)) (fun j => [h0, q7, q15, q23, q31, (u41 0), (u41 1), (u52 0), (u52 1)].getD j 0)) [0, 1, 2, 3, 4, 5, 6, 7, 8] (by decide) rfl ?_
  refine z_widen (k' := 8) (n' := 178) (by decide +kernel) (by decide +kernel) ?_
  exact hRt 83 _ (fun j => [h0, q7, q15, q23, q31, (u41 0), (u41 1), (u52 0), (u52 1)].getD j 0) dX2_init_83 rfl
set_option maxHeartbeats 4000000 in
set_option maxRecDepth 100000 in
theorem mX5_init (l : Launch) (D : va_G) (cyI cyB : ClassId) (h0 : Nat) : zMc l yX5_init wsX5_init 3 53 26 395 D cyI cyB [.ref h0] [(h0, .inr (5, [.null, .null, .null, .null, .null, .null, .int 0, .null]))] (S := ((Nat → Nat) × (Nat → Nat) × (Nat → Nat) × (Nat → Nat))) (fun u => (wSt u.2.2.1 u.2.2.2 u.2.1 u.1 .null cyI (fun _ => 0) (fun _ _ => 0) ++ wTe u.2.1 cyB (fun _ => 0) (fun _ _ => 0) ++ wHo u.2.2.1 cyI (va_up (fun _ => 0) 0 4) (fun _ _ => 0) ++ wMi u.2.2.1 u.2.2.2 cyI (fun _ => 0) (fun _ _ => 0))) (fun u => u.1 0 = h0) := by
  refine z_metc (cc := cX5_init) (nL := 1) (by decide +kernel) rfl (Nat.le_of_ble_eq_true rfl) (fun C hl hin F hRt => ?_)
  show zX C D 1 0 0 [(h0, .inr (5, [.null, .null, .null, .null, .null, .null, .int 0, .null]))] 0 [(0, .ref h0)] []
  refine z_aload_n F dX5_init_0 1 rfl 0 rfl ?_
  refine z_obj F dX5_init_1 4 rfl (List.mem_of_getElem? (i := 1) rfl) (List.mem_of_getElem? (i := 2) rfl) (List.mem_of_getElem? (i := 3) rfl) (Nat.le_of_ble_eq_true rfl) (Nat.le_of_ble_eq_true rfl) ?_
  refine z_aload_n F dX5_init_4 5 rfl 0 rfl ?_
  refine z_new F dX5_init_5 8 rfl nX5_init_1 (List.mem_of_getElem? (i := 4) rfl) (List.mem_of_getElem? (i := 5) rfl) (List.mem_of_getElem? (i := 6) rfl) (by decide +kernel) (by decide +kernel) (fun q5 => ?_)
  refine z_dup F dX5_init_8 9 rfl rfl ?_
  refine z_ctorN (As := []) (st := [.ref q5, .ref h0]) (A := ([(h0, .inr (5, [.null, .null, .null, .null, .null, .null, .int 0, .null]))])) (wc := [(q5, .inr (1, [.null, .null, .null, .null, .null, .int 0, .int 0, .int 0, .int 0]))]) F dX5_init_9 12 rfl (mX1_init C.1.2.1 D cyI cyB q5) y_X1_init rfl rfl gX5_init_X1_init_n11 F.2.2.1.1 (List.mem_of_getElem? (i := 6) rfl) (List.mem_of_getElem? (i := 22) rfl) (by decide +kernel) (by decide +kernel) (Nat.le_of_ble_eq_true rfl) rfl (fun u9 hp => ?_)
  have hp : u9 0 = q5 := hp
  subst hp
  refine z_putF F hin dX5_init_12 15 rfl kX5_init_12 rfl 0 rfl rfl rfl (Nat.le_of_ble_eq_true rfl) ([(h0, .inr (5, [.ref (u9 0), .null, .null, .null, .null, .null, .int 0, .null]))] ++ wHo u9 cyI (va_up (fun _ => 0) 0 4) (fun _ _ => 0)) rfl ?_
  refine z_aload_n F dX5_init_15 16 rfl 0 rfl ?_
  refine z_new F dX5_init_16 19 rfl nX5_init_2 (List.mem_of_getElem? (i := 8) rfl) (List.mem_of_getElem? (i := 9) rfl) (List.mem_of_getElem? (i := 10) rfl) (by decide +kernel) (by decide +kernel) (fun q16 => ?_)
  refine z_dup F dX5_init_19 20 rfl rfl ?_
  refine z_aload_n F dX5_init_20 21 rfl 0 rfl ?_
  refine z_get F dX5_init_21 24 rfl kX5_init_12 0 rfl rfl ?_
  refine z_ctor (As := [.ref (u9 0)]) (st := [.ref q16, .ref h0]) (A := ([(h0, .inr (5, [.ref (u9 0), .null, .null, .null, .null, .null, .int 0, .null]))] ++ wHo u9 cyI (va_up (fun _ => 0) 0 4) (fun _ _ => 0))) (wc := [(q16, .inr (2, [.null, .null, .null, .null, .null, .null, .null, .int 0, .int 0, .int 0, .int 0]))]) F dX5_init_24 27 rfl (mX2_init C.1.2.1 D cyI cyB u9 q16) y_X2_init rfl rfl gX5_init_X2_init (List.mem_of_getElem? (i := 43) rfl) (List.mem_of_getElem? (i := 10) rfl) (List.mem_of_getElem? (i := 44) rfl) (by decide +kernel) (by decide +kernel) (Nat.le_of_ble_eq_true rfl) rfl (fun u24 hp => ?_)
  have hp : u24 0 = q16 := hp
  subst hp
  refine z_putF F hin dX5_init_27 30 rfl kX5_init_21 rfl 0 rfl rfl rfl (Nat.le_of_ble_eq_true rfl) ([(h0, .inr (5, [.ref (u9 0), .ref (u24 0), .null, .null, .null, .null, .int 0, .null]))] ++ wHo u9 cyI (va_up (fun _ => 0) 0 4) (fun _ _ => 0) ++ wMi u9 u24 cyI (fun _ => 0) (fun _ _ => 0)) rfl ?_
  refine z_aload_n F dX5_init_30 31 rfl 0 rfl ?_
  refine z_new F dX5_init_31 34 rfl nX5_init_4 (List.mem_of_getElem? (i := 12) rfl) (List.mem_of_getElem? (i := 13) rfl) (List.mem_of_getElem? (i := 14) rfl) (by decide +kernel) (by decide +kernel) (fun q31 => ?_)
  refine z_dup F dX5_init_34 35 rfl rfl ?_
  refine z_ctorN (As := []) (st := [.ref q31, .ref h0]) (A := ([(h0, .inr (5, [.ref (u9 0), .ref (u24 0), .null, .null, .null, .null, .int 0, .null]))] ++ wHo u9 cyI (va_up (fun _ => 0) 0 4) (fun _ _ => 0) ++ wMi u9 u24 cyI (fun _ => 0) (fun _ _ => 0))) (wc := [(q31, .inr (4, [.null, .int 0, .int 0]))]) F dX5_init_35 38 rfl (mX4_init C.1.2.1 D cyI cyB q31) y_X4_init rfl rfl gX5_init_X4_init_n27 F.2.2.1.2.2.2.1 (List.mem_of_getElem? (i := 14) rfl) (List.mem_of_getElem? (i := 67) rfl) (by decide +kernel) (by decide +kernel) (Nat.le_of_ble_eq_true rfl) rfl (fun u35 hp => ?_)
  have hp : u35 0 = q31 := hp
  subst hp
  refine z_putF F hin dX5_init_38 41 rfl kX5_init_28 rfl 0 rfl rfl rfl (Nat.le_of_ble_eq_true rfl) ([(h0, .inr (5, [.ref (u9 0), .ref (u24 0), .ref (u35 0), .null, .null, .null, .int 0, .null]))] ++ wHo u9 cyI (va_up (fun _ => 0) 0 4) (fun _ _ => 0) ++ wMi u9 u24 cyI (fun _ => 0) (fun _ _ => 0) ++ wTe u35 cyB (fun _ => 0) (fun _ _ => 0)) rfl ?_
  refine z_aload_n F dX5_init_41 42 rfl 0 rfl ?_
  refine z_bipush F dX5_init_42 44 rfl zkb_8 ?_
  refine z_newi (N := 8) F dX5_init_44 46 rfl (List.mem_of_getElem? (i := 16) rfl) (by decide +kernel) (by decide +kernel) (by decide +kernel) (by decide +kernel) (by decide +kernel) (fun q44 => ?_)
  refine z_putF F hin dX5_init_46 49 rfl kX5_init_32 rfl 0 rfl rfl rfl (Nat.le_of_ble_eq_true rfl) ([(h0, .inr (5, [.ref (u9 0), .ref (u24 0), .ref (u35 0), .ref q44, .null, .null, .int 0, .null]))] ++ wHo u9 cyI (va_up (fun _ => 0) 0 4) (fun _ _ => 0) ++ wMi u9 u24 cyI (fun _ => 0) (fun _ _ => 0) ++ wTe u35 cyB (fun _ => 0) (fun _ _ => 0) ++ [(q44, .inl (cyI, 8, .inl (fun _ => 0)))]) rfl ?_
  refine z_aload_n F dX5_init_49 50 rfl 0 rfl ?_
  refine z_bipush F dX5_init_50 52 rfl zkb_7 ?_
  refine z_newi (N := 7) F dX5_init_52 54 rfl (List.mem_of_getElem? (i := 16) rfl) (by decide +kernel) (by decide +kernel) (by decide +kernel) (by decide +kernel) (by decide +kernel) (fun q52 => ?_)
  refine z_putF F hin dX5_init_54 57 rfl kX5_init_36 rfl 0 rfl rfl rfl (Nat.le_of_ble_eq_true rfl) ([(h0, .inr (5, [.ref (u9 0), .ref (u24 0), .ref (u35 0), .ref q44, .ref q52, .null, .int 0, .null]))] ++ wHo u9 cyI (va_up (fun _ => 0) 0 4) (fun _ _ => 0) ++ wMi u9 u24 cyI (fun _ => 0) (fun _ _ => 0) ++ wTe u35 cyB (fun _ => 0) (fun _ _ => 0) ++ [(q44, .inl (cyI, 8, .inl (fun _ => 0))), (q52, .inl (cyI, 7, .inl (fun _ => 0)))]) rfl ?_
  refine z_aload_n F dX5_init_57 58 rfl 0 rfl ?_
  refine z_iconst F dX5_init_58 59 rfl zki_2 ?_
  refine z_newi (N := 2) F dX5_init_59 61 rfl (List.mem_of_getElem? (i := 16) rfl) (by decide +kernel) (by decide +kernel) (by decide +kernel) (by decide +kernel) (by decide +kernel) (fun q59 => ?_)
  refine z_putF F hin dX5_init_61 64 rfl kX5_init_39 rfl 0 rfl rfl rfl (Nat.le_of_ble_eq_true rfl) ([(h0, .inr (5, [.ref (u9 0), .ref (u24 0), .ref (u35 0), .ref q44, .ref q52, .ref q59, .int 0, .null]))] ++ wHo u9 cyI (va_up (fun _ => 0) 0 4) (fun _ _ => 0) ++ wMi u9 u24 cyI (fun _ => 0) (fun _ _ => 0) ++ wTe u35 cyB (fun _ => 0) (fun _ _ => 0) ++ [(q44, .inl (cyI, 8, .inl (fun _ => 0))), (q52, .inl (cyI, 7, .inl (fun _ => 0))), (q59, .inl (cyI, 2, .inl (fun _ => 0)))]) rfl ?_
  refine z_aload_n F dX5_init_64 65 rfl 0 rfl ?_
  refine z_iconst F dX5_init_65 66 rfl zki_0 ?_
  refine z_put F dX5_init_66 69 rfl kX5_init_42 0 rfl rfl rfl (Nat.le_of_ble_eq_true rfl) ([(h0, .inr (5, [.ref (u9 0), .ref (u24 0), .ref (u35 0), .ref q44, .ref q52, .ref q59, .int 0, .null]))] ++ wHo u9 cyI (va_up (fun _ => 0) 0 4) (fun _ _ => 0) ++ wMi u9 u24 cyI (fun _ => 0) (fun _ _ => 0) ++ wTe u35 cyB (fun _ => 0) (fun _ _ => 0) ++ [(q44, .inl (cyI, 8, .inl (fun _ => 0))), (q52, .inl (cyI, 7, .inl (fun _ => 0))), (q59, .inl (cyI, 2, .inl (fun _ => 0)))]) rfl ?_
  refine z_aload_n F dX5_init_69 70 rfl 0 rfl ?_
  refine z_null F dX5_init_70 71 rfl ?_
  refine z_put F dX5_init_71 74 rfl kX5_init_46 0 rfl rfl rfl (Nat.le_of_ble_eq_true rfl) ([(h0, .inr (5, [.ref (u9 0), .ref (u24 0), .ref (u35 0), .ref q44, .ref q52, .ref q59, .int 0, .null]))] ++ wHo u9 cyI (va_up (fun _ => 0) 0 4) (fun _ _ => 0) ++ wMi u9 u24 cyI (fun _ => 0) (fun _ _ => 0) ++ wTe u35 cyB (fun _ => 0) (fun _ _ => 0) ++ [(q44, .inl (cyI, 8, .inl (fun _ => 0))), (q52, .inl (cyI, 7, .inl (fun _ => 0))), (q59, .inl (cyI, 2, .inl (fun _ => 0)))]) rfl ?_
  refine z_ws ((fun u => (wSt u.2.2.1 u.2.2.2 u.2.1 u.1 .null cyI (fun _ => 0) (fun _ _ => 0) ++ wTe u.2.1 cyB (fun _ => 0) (fun _ _ => 0) ++ wHo u.2.2.1 cyI (va_up (fun _ => 0) 0 4) (fun _ _ => 0) ++ wMi u.2.2.1 u.2.2.2 cyI (fun _ => 0) (fun _ _ => 0))) ((fun j => [h0, q44, q52, q59].getD j 0), u35, u9, u24)) [0, 24, 25, 26, 22, 23, 1, 2, 3, 4, 5, 6, 7, 8, 9, 10, 11, 12, 13, 14, 15, 16, 17, 18, 19, 20, 21] (by decide) rfl ?_
  refine z_widen (k' := 26) (n' := 395) (by decide +kernel) (by decide +kernel) ?_
  exact hRt 74 _ ((fun j => [h0, q44, q52, q59].getD j 0), u35, u9, u24) dX5_init_74 rfl
set_option maxHeartbeats 4000000 in
set_option maxRecDepth 100000 in
theorem mX6_init (l : Launch) (D : va_G) (cyI cyB : ClassId) (h0 : Nat) : zMc l yX6_init wsX6_init 1 12 18 345 D cyI cyB [.ref h0] [(h0, .inr (6, [.null, .null, .null, .null, .null, .null, .null, .null, .null, .null, .int 0, .int 0, .int 0, .int 0, .int 0, .int 0, .null, .int 0, .int 0, .null, .null, .null, .int 0, .null, .null, .null, .int 0, .null, .int 0, .int 0, .int 0]))] (S := (Nat → Nat)) (fun u => wMo u cyI (va_up (fun _ => 0) 10 4) (fun _ _ => 0)) (fun u => u 0 = h0) := by
  refine z_metc (cc := cX6_init) (nL := 1) (by decide +kernel) rfl (Nat.le_of_ble_eq_true rfl) (fun C hl hin F hRt => ?_)
  show zX C D 1 0 0 [(h0, .inr (6, [.null, .null, .null, .null, .null, .null, .null, .null, .null, .null, .int 0, .int 0, .int 0, .int 0, .int 0, .int 0, .null, .int 0, .int 0, .null, .null, .null, .int 0, .null, .null, .null, .int 0, .null, .int 0, .int 0, .int 0]))] 0 [(0, .ref h0)] []
  refine z_aload_n F dX6_init_0 1 rfl 0 rfl ?_
  refine z_obj F dX6_init_1 4 rfl (List.mem_of_getElem? (i := 1) rfl) (List.mem_of_getElem? (i := 2) rfl) (List.mem_of_getElem? (i := 3) rfl) (Nat.le_of_ble_eq_true rfl) (Nat.le_of_ble_eq_true rfl) ?_
  refine z_aload_n F dX6_init_4 5 rfl 0 rfl ?_
  refine z_bipush F dX6_init_5 7 rfl zkb_7 ?_
  refine z_newi (N := 7) F dX6_init_7 9 rfl (List.mem_of_getElem? (i := 4) rfl) (by decide +kernel) (by decide +kernel) (by decide +kernel) (by decide +kernel) (by decide +kernel) (fun q7 => ?_)
  refine z_putF F hin dX6_init_9 12 rfl kX6_init_7 rfl 0 rfl rfl rfl (Nat.le_of_ble_eq_true rfl) ([(h0, .inr (6, [.ref q7, .null, .null, .null, .null, .null, .null, .null, .null, .null, .int 0, .int 0, .int 0, .int 0, .int 0, .int 0, .null, .int 0, .int 0, .null, .null, .null, .int 0, .null, .null, .null, .int 0, .null, .int 0, .int 0, .int 0])), (q7, .inl (cyI, 7, .inl (fun _ => 0)))]) rfl ?_
  refine z_aload_n F dX6_init_12 13 rfl 0 rfl ?_
  refine z_bipush F dX6_init_13 15 rfl zkb_8 ?_
  refine z_newi (N := 8) F dX6_init_15 17 rfl (List.mem_of_getElem? (i := 4) rfl) (by decide +kernel) (by decide +kernel) (by decide +kernel) (by decide +kernel) (by decide +kernel) (fun q15 => ?_)
  refine z_putF F hin dX6_init_17 20 rfl kX6_init_13 rfl 0 rfl rfl rfl (Nat.le_of_ble_eq_true rfl) ([(h0, .inr (6, [.ref q7, .ref q15, .null, .null, .null, .null, .null, .null, .null, .null, .int 0, .int 0, .int 0, .int 0, .int 0, .int 0, .null, .int 0, .int 0, .null, .null, .null, .int 0, .null, .null, .null, .int 0, .null, .int 0, .int 0, .int 0])), (q7, .inl (cyI, 7, .inl (fun _ => 0))), (q15, .inl (cyI, 8, .inl (fun _ => 0)))]) rfl ?_
  refine z_aload_n F dX6_init_20 21 rfl 0 rfl ?_
  refine z_bipush F dX6_init_21 23 rfl zkb_8 ?_
  refine z_newi (N := 8) F dX6_init_23 25 rfl (List.mem_of_getElem? (i := 4) rfl) (by decide +kernel) (by decide +kernel) (by decide +kernel) (by decide +kernel) (by decide +kernel) (fun q23 => ?_)
  refine z_putF F hin dX6_init_25 28 rfl kX6_init_16 rfl 0 rfl rfl rfl (Nat.le_of_ble_eq_true rfl) ([(h0, .inr (6, [.ref q7, .ref q15, .ref q23, .null, .null, .null, .null, .null, .null, .null, .int 0, .int 0, .int 0, .int 0, .int 0, .int 0, .null, .int 0, .int 0, .null, .null, .null, .int 0, .null, .null, .null, .int 0, .null, .int 0, .int 0, .int 0])), (q7, .inl (cyI, 7, .inl (fun _ => 0))), (q15, .inl (cyI, 8, .inl (fun _ => 0))), (q23, .inl (cyI, 8, .inl (fun _ => 0)))]) rfl ?_
  refine z_aload_n F dX6_init_28 29 rfl 0 rfl ?_
  refine z_bipush F dX6_init_29 31 rfl zkb_8 ?_
  refine z_newi (N := 8) F dX6_init_31 33 rfl (List.mem_of_getElem? (i := 4) rfl) (by decide +kernel) (by decide +kernel) (by decide +kernel) (by decide +kernel) (by decide +kernel) (fun q31 => ?_)
  refine z_putF F hin dX6_init_33 36 rfl kX6_init_19 rfl 0 rfl rfl rfl (Nat.le_of_ble_eq_true rfl) ([(h0, .inr (6, [.ref q7, .ref q15, .ref q23, .ref q31, .null, .null, .null, .null, .null, .null, .int 0, .int 0, .int 0, .int 0, .int 0, .int 0, .null, .int 0, .int 0, .null, .null, .null, .int 0, .null, .null, .null, .int 0, .null, .int 0, .int 0, .int 0])), (q7, .inl (cyI, 7, .inl (fun _ => 0))), (q15, .inl (cyI, 8, .inl (fun _ => 0))), (q23, .inl (cyI, 8, .inl (fun _ => 0))), (q31, .inl (cyI, 8, .inl (fun _ => 0)))]) rfl ?_
  refine z_aload_n F dX6_init_36 37 rfl 0 rfl ?_
  refine z_bipush F dX6_init_37 39 rfl zkb_12 ?_
  refine z_newi (N := 12) F dX6_init_39 41 rfl (List.mem_of_getElem? (i := 4) rfl) (by decide +kernel) (by decide +kernel) (by decide +kernel) (by decide +kernel) (by decide +kernel) (fun q39 => ?_)
  refine z_putF F hin dX6_init_41 44 rfl kX6_init_22 rfl 0 rfl rfl rfl (Nat.le_of_ble_eq_true rfl) ([(h0, .inr (6, [.ref q7, .ref q15, .ref q23, .ref q31, .ref q39, .null, .null, .null, .null, .null, .int 0, .int 0, .int 0, .int 0, .int 0, .int 0, .null, .int 0, .int 0, .null, .null, .null, .int 0, .null, .null, .null, .int 0, .null, .int 0, .int 0, .int 0])), (q7, .inl (cyI, 7, .inl (fun _ => 0))), (q15, .inl (cyI, 8, .inl (fun _ => 0))), (q23, .inl (cyI, 8, .inl (fun _ => 0))), (q31, .inl (cyI, 8, .inl (fun _ => 0))), (q39, .inl (cyI, 12, .inl (fun _ => 0)))]) rfl ?_
  refine z_aload_n F dX6_init_44 45 rfl 0 rfl ?_
  refine z_bipush F dX6_init_45 47 rfl zkb_12 ?_
  refine z_newi (N := 12) F dX6_init_47 49 rfl (List.mem_of_getElem? (i := 4) rfl) (by decide +kernel) (by decide +kernel) (by decide +kernel) (by decide +kernel) (by decide +kernel) (fun q47 => ?_)
  refine z_putF F hin dX6_init_49 52 rfl kX6_init_25 rfl 0 rfl rfl rfl (Nat.le_of_ble_eq_true rfl) ([(h0, .inr (6, [.ref q7, .ref q15, .ref q23, .ref q31, .ref q39, .ref q47, .null, .null, .null, .null, .int 0, .int 0, .int 0, .int 0, .int 0, .int 0, .null, .int 0, .int 0, .null, .null, .null, .int 0, .null, .null, .null, .int 0, .null, .int 0, .int 0, .int 0])), (q7, .inl (cyI, 7, .inl (fun _ => 0))), (q15, .inl (cyI, 8, .inl (fun _ => 0))), (q23, .inl (cyI, 8, .inl (fun _ => 0))), (q31, .inl (cyI, 8, .inl (fun _ => 0))), (q39, .inl (cyI, 12, .inl (fun _ => 0))), (q47, .inl (cyI, 12, .inl (fun _ => 0)))]) rfl ?_
  refine z_aload_n F dX6_init_52 53 rfl 0 rfl ?_
  refine z_bipush F dX6_init_53 55 rfl zkb_12 ?_
  refine z_newi (N := 12) F dX6_init_55 57 rfl (List.mem_of_getElem? (i := 4) rfl) (by decide +kernel) (by decide +kernel) (by decide +kernel) (by decide +kernel) (by decide +kernel) (fun q55 => ?_)
  refine z_putF F hin dX6_init_57 60 rfl kX6_init_28 rfl 0 rfl rfl rfl (Nat.le_of_ble_eq_true rfl) ([(h0, .inr (6, [.ref q7, .ref q15, .ref q23, .ref q31, .ref q39, .ref q47, .ref q55, .null, .null, .null, .int 0, .int 0, .int 0, .int 0, .int 0, .int 0, .null, .int 0, .int 0, .null, .null, .null, .int 0, .null, .null, .null, .int 0, .null, .int 0, .int 0, .int 0])), (q7, .inl (cyI, 7, .inl (fun _ => 0))), (q15, .inl (cyI, 8, .inl (fun _ => 0))), (q23, .inl (cyI, 8, .inl (fun _ => 0))), (q31, .inl (cyI, 8, .inl (fun _ => 0))), (q39, .inl (cyI, 12, .inl (fun _ => 0))), (q47, .inl (cyI, 12, .inl (fun _ => 0))), (q55, .inl (cyI, 12, .inl (fun _ => 0)))]) rfl ?_
  refine z_aload_n F dX6_init_60 61 rfl 0 rfl ?_
  refine z_bipush F dX6_init_61 63 rfl zkb_12 ?_
  refine z_newi (N := 12) F dX6_init_63 65 rfl (List.mem_of_getElem? (i := 4) rfl) (by decide +kernel) (by decide +kernel) (by decide +kernel) (by decide +kernel) (by decide +kernel) (fun q63 => ?_)
  refine z_putF F hin dX6_init_65 68 rfl kX6_init_31 rfl 0 rfl rfl rfl (Nat.le_of_ble_eq_true rfl) ([(h0, .inr (6, [.ref q7, .ref q15, .ref q23, .ref q31, .ref q39, .ref q47, .ref q55, .ref q63, .null, .null, .int 0, .int 0, .int 0, .int 0, .int 0, .int 0, .null, .int 0, .int 0, .null, .null, .null, .int 0, .null, .null, .null, .int 0, .null, .int 0, .int 0, .int 0])), (q7, .inl (cyI, 7, .inl (fun _ => 0))), (q15, .inl (cyI, 8, .inl (fun _ => 0))), (q23, .inl (cyI, 8, .inl (fun _ => 0))), (q31, .inl (cyI, 8, .inl (fun _ => 0))), (q39, .inl (cyI, 12, .inl (fun _ => 0))), (q47, .inl (cyI, 12, .inl (fun _ => 0))), (q55, .inl (cyI, 12, .inl (fun _ => 0))), (q63, .inl (cyI, 12, .inl (fun _ => 0)))]) rfl ?_
  refine z_aload_n F dX6_init_68 69 rfl 0 rfl ?_
  refine z_bipush F dX6_init_69 71 rfl zkb_12 ?_
  refine z_newi (N := 12) F dX6_init_71 73 rfl (List.mem_of_getElem? (i := 4) rfl) (by decide +kernel) (by decide +kernel) (by decide +kernel) (by decide +kernel) (by decide +kernel) (fun q71 => ?_)
  refine z_putF F hin dX6_init_73 76 rfl kX6_init_34 rfl 0 rfl rfl rfl (Nat.le_of_ble_eq_true rfl) ([(h0, .inr (6, [.ref q7, .ref q15, .ref q23, .ref q31, .ref q39, .ref q47, .ref q55, .ref q63, .ref q71, .null, .int 0, .int 0, .int 0, .int 0, .int 0, .int 0, .null, .int 0, .int 0, .null, .null, .null, .int 0, .null, .null, .null, .int 0, .null, .int 0, .int 0, .int 0])), (q7, .inl (cyI, 7, .inl (fun _ => 0))), (q15, .inl (cyI, 8, .inl (fun _ => 0))), (q23, .inl (cyI, 8, .inl (fun _ => 0))), (q31, .inl (cyI, 8, .inl (fun _ => 0))), (q39, .inl (cyI, 12, .inl (fun _ => 0))), (q47, .inl (cyI, 12, .inl (fun _ => 0))), (q55, .inl (cyI, 12, .inl (fun _ => 0))), (q63, .inl (cyI, 12, .inl (fun _ => 0))), (q71, .inl (cyI, 12, .inl (fun _ => 0)))]) rfl ?_
  refine z_aload_n F dX6_init_76 77 rfl 0 rfl ?_
  refine z_bipush F dX6_init_77 79 rfl zkb_12 ?_
  refine z_newi (N := 12) F dX6_init_79 81 rfl (List.mem_of_getElem? (i := 4) rfl) (by decide +kernel) (by decide +kernel) (by decide +kernel) (by decide +kernel) (by decide +kernel) (fun q79 => ?_)
  refine z_putF F hin dX6_init_81 84 rfl kX6_init_37 rfl 0 rfl rfl rfl (Nat.le_of_ble_eq_true rfl) ([(h0, .inr (6, [.ref q7, .ref q15, .ref q23, .ref q31, .ref q39, .ref q47, .ref q55, .ref q63, .ref q71, .ref q79, .int 0, .int 0, .int 0, .int 0, .int 0, .int 0, .null, .int 0, .int 0, .null, .null, .null, .int 0, .null, .null, .null, .int 0, .null, .int 0, .int 0, .int 0])), (q7, .inl (cyI, 7, .inl (fun _ => 0))), (q15, .inl (cyI, 8, .inl (fun _ => 0))), (q23, .inl (cyI, 8, .inl (fun _ => 0))), (q31, .inl (cyI, 8, .inl (fun _ => 0))), (q39, .inl (cyI, 12, .inl (fun _ => 0))), (q47, .inl (cyI, 12, .inl (fun _ => 0))), (q55, .inl (cyI, 12, .inl (fun _ => 0))), (q63, .inl (cyI, 12, .inl (fun _ => 0))), (q71, .inl (cyI, 12, .inl (fun _ => 0))), (q79, .inl (cyI, 12, .inl (fun _ => 0)))]) rfl ?_
  refine z_aload_n F dX6_init_84 85 rfl 0 rfl ?_
  refine z_iconst F dX6_init_85 86 rfl zki_4 ?_
  refine z_put F dX6_init_86 89 rfl kX6_init_40 0 rfl rfl rfl (Nat.le_of_ble_eq_true rfl) ([(h0, .inr (6, [.ref q7, .ref q15, .ref q23, .ref q31, .ref q39, .ref q47, .ref q55, .ref q63, .ref q71, .ref q79, .int 4, .int 0, .int 0, .int 0, .int 0, .int 0, .null, .int 0, .int 0, .null, .null, .null, .int 0, .null, .null, .null, .int 0, .null, .int 0, .int 0, .int 0])), (q7, .inl (cyI, 7, .inl (fun _ => 0))), (q15, .inl (cyI, 8, .inl (fun _ => 0))), (q23, .inl (cyI, 8, .inl (fun _ => 0))), (q31, .inl (cyI, 8, .inl (fun _ => 0))), (q39, .inl (cyI, 12, .inl (fun _ => 0))), (q47, .inl (cyI, 12, .inl (fun _ => 0))), (q55, .inl (cyI, 12, .inl (fun _ => 0))), (q63, .inl (cyI, 12, .inl (fun _ => 0))), (q71, .inl (cyI, 12, .inl (fun _ => 0))), (q79, .inl (cyI, 12, .inl (fun _ => 0)))]) rfl ?_
  refine z_aload_n F dX6_init_89 90 rfl 0 rfl ?_
  refine z_bipush F dX6_init_90 92 rfl zkb_80 ?_
  refine z_newi (N := 80) F dX6_init_92 94 rfl (List.mem_of_getElem? (i := 4) rfl) (by decide +kernel) (by decide +kernel) (by decide +kernel) (by decide +kernel) (by decide +kernel) (fun q92 => ?_)
  refine z_putF F hin dX6_init_94 97 rfl kX6_init_44 rfl 0 rfl rfl rfl (Nat.le_of_ble_eq_true rfl) ([(h0, .inr (6, [.ref q7, .ref q15, .ref q23, .ref q31, .ref q39, .ref q47, .ref q55, .ref q63, .ref q71, .ref q79, .int 4, .int 0, .int 0, .int 0, .int 0, .int 0, .ref q92, .int 0, .int 0, .null, .null, .null, .int 0, .null, .null, .null, .int 0, .null, .int 0, .int 0, .int 0])), (q7, .inl (cyI, 7, .inl (fun _ => 0))), (q15, .inl (cyI, 8, .inl (fun _ => 0))), (q23, .inl (cyI, 8, .inl (fun _ => 0))), (q31, .inl (cyI, 8, .inl (fun _ => 0))), (q39, .inl (cyI, 12, .inl (fun _ => 0))), (q47, .inl (cyI, 12, .inl (fun _ => 0))), (q55, .inl (cyI, 12, .inl (fun _ => 0))), (q63, .inl (cyI, 12, .inl (fun _ => 0))), (q71, .inl (cyI, 12, .inl (fun _ => 0))), (q79, .inl (cyI, 12, .inl (fun _ => 0))), (q92, .inl (cyI, 80, .inl (fun _ => 0)))]) rfl ?_
  refine z_aload_n F dX6_init_97 98 rfl 0 rfl ?_
  refine z_bipush F dX6_init_98 100 rfl zkb_8 ?_
  refine z_newi (N := 8) F dX6_init_100 102 rfl (List.mem_of_getElem? (i := 4) rfl) (by decide +kernel) (by decide +kernel) (by decide +kernel) (by decide +kernel) (by decide +kernel) (fun q100 => ?_)
  refine z_putF F hin dX6_init_102 105 rfl kX6_init_47 rfl 0 rfl rfl rfl (Nat.le_of_ble_eq_true rfl) ([(h0, .inr (6, [.ref q7, .ref q15, .ref q23, .ref q31, .ref q39, .ref q47, .ref q55, .ref q63, .ref q71, .ref q79, .int 4, .int 0, .int 0, .int 0, .int 0, .int 0, .ref q92, .int 0, .int 0, .ref q100, .null, .null, .int 0, .null, .null, .null, .int 0, .null, .int 0, .int 0, .int 0])), (q7, .inl (cyI, 7, .inl (fun _ => 0))), (q15, .inl (cyI, 8, .inl (fun _ => 0))), (q23, .inl (cyI, 8, .inl (fun _ => 0))), (q31, .inl (cyI, 8, .inl (fun _ => 0))), (q39, .inl (cyI, 12, .inl (fun _ => 0))), (q47, .inl (cyI, 12, .inl (fun _ => 0))), (q55, .inl (cyI, 12, .inl (fun _ => 0))), (q63, .inl (cyI, 12, .inl (fun _ => 0))), (q71, .inl (cyI, 12, .inl (fun _ => 0))), (q79, .inl (cyI, 12, .inl (fun _ => 0))), (q92, .inl (cyI, 80, .inl (fun _ => 0))), (q100, .inl (cyI, 8, .inl (fun _ => 0)))]) rfl ?_
  refine z_aload_n F dX6_init_105 106 rfl 0 rfl ?_
  refine z_bipush F dX6_init_106 108 rfl zkb_8 ?_
  refine z_newi (N := 8) F dX6_init_108 110 rfl (List.mem_of_getElem? (i := 4) rfl) (by decide +kernel) (by decide +kernel) (by decide +kernel) (by decide +kernel) (by decide +kernel) (fun q108 => ?_)
  refine z_putF F hin dX6_init_110 113 rfl kX6_init_50 rfl 0 rfl rfl rfl (Nat.le_of_ble_eq_true rfl) ([(h0, .inr (6, [.ref q7, .ref q15, .ref q23, .ref q31, .ref q39, .ref q47, .ref q55, .ref q63, .ref q71, .ref q79, .int 4, .int 0, .int 0, .int 0, .int 0, .int 0, .ref q92, .int 0, .int 0, .ref q100, .ref q108, .null, .int 0, .null, .null, .null, .int 0, .null, .int 0, .int 0, .int 0])), (q7, .inl (cyI, 7, .inl (fun _ => 0))), (q15, .inl (cyI, 8, .inl (fun _ => 0))), (q23, .inl (cyI, 8, .inl (fun _ => 0))), (q31, .inl (cyI, 8, .inl (fun _ => 0))), (q39, .inl (cyI, 12, .inl (fun _ => 0))), (q47, .inl (cyI, 12, .inl (fun _ => 0))), (q55, .inl (cyI, 12, .inl (fun _ => 0))), (q63, .inl (cyI, 12, .inl (fun _ => 0))), (q71, .inl (cyI, 12, .inl (fun _ => 0))), (q79, .inl (cyI, 12, .inl (fun _ => 0))), (q92, .inl (cyI, 80, .inl (fun _ => 0))), (q100, .inl (cyI, 8, .inl (fun _ => 0))), (q108, .inl (cyI, 8, .inl (fun _ => 0)))]) rfl ?_
  refine z_aload_n F dX6_init_113 114 rfl 0 rfl ?_
  refine z_bipush F dX6_init_114 116 rfl zkb_8 ?_
  refine z_newi (N := 8) F dX6_init_116 118 rfl (List.mem_of_getElem? (i := 4) rfl) (by decide +kernel) (by decide +kernel) (by decide +kernel) (by decide +kernel) (by decide +kernel) (fun q116 => ?_)
  refine z_putF F hin dX6_init_118 121 rfl kX6_init_53 rfl 0 rfl rfl rfl (Nat.le_of_ble_eq_true rfl) ([(h0, .inr (6, [.ref q7, .ref q15, .ref q23, .ref q31, .ref q39, .ref q47, .ref q55, .ref q63, .ref q71, .ref q79, .int 4, .int 0, .int 0, .int 0, .int 0, .int 0, .ref q92, .int 0, .int 0, .ref q100, .ref q108, .ref q116, .int 0, .null, .null, .null, .int 0, .null, .int 0, .int 0, .int 0])), (q7, .inl (cyI, 7, .inl (fun _ => 0))), (q15, .inl (cyI, 8, .inl (fun _ => 0))), (q23, .inl (cyI, 8, .inl (fun _ => 0))), (q31, .inl (cyI, 8, .inl (fun _ => 0))), (q39, .inl (cyI, 12, .inl (fun _ => 0))), (q47, .inl (cyI, 12, .inl (fun _ => 0))), (q55, .inl (cyI, 12, .inl (fun _ => 0))), (q63, .inl (cyI, 12, .inl (fun _ => 0))), (q71, .inl (cyI, 12, .inl (fun _ => 0))), (q79, .inl (cyI, 12, .inl (fun _ => 0))), (q92, .inl (cyI, 80, .inl (fun _ => 0))), (q100, .inl (cyI, 8, .inl (fun _ => 0))), (q108, .inl (cyI, 8, .inl (fun _ => 0))), (q116, .inl (cyI, 8, .inl (fun _ => 0)))]) rfl ?_
  refine z_aload_n F dX6_init_121 122 rfl 0 rfl ?_
  refine z_iconst F dX6_init_122 123 rfl zki_2 ?_
  refine z_newi (N := 2) F dX6_init_123 125 rfl (List.mem_of_getElem? (i := 4) rfl) (by decide +kernel) (by decide +kernel) (by decide +kernel) (by decide +kernel) (by decide +kernel) (fun q123 => ?_)
  refine z_putF F hin dX6_init_125 128 rfl kX6_init_56 rfl 0 rfl rfl rfl (Nat.le_of_ble_eq_true rfl) ([(h0, .inr (6, [.ref q7, .ref q15, .ref q23, .ref q31, .ref q39, .ref q47, .ref q55, .ref q63, .ref q71, .ref q79, .int 4, .int 0, .int 0, .int 0, .int 0, .int 0, .ref q92, .int 0, .int 0, .ref q100, .ref q108, .ref q116, .int 0, .ref q123, .null, .null, .int 0, .null, .int 0, .int 0, .int 0])), (q7, .inl (cyI, 7, .inl (fun _ => 0))), (q15, .inl (cyI, 8, .inl (fun _ => 0))), (q23, .inl (cyI, 8, .inl (fun _ => 0))), (q31, .inl (cyI, 8, .inl (fun _ => 0))), (q39, .inl (cyI, 12, .inl (fun _ => 0))), (q47, .inl (cyI, 12, .inl (fun _ => 0))), (q55, .inl (cyI, 12, .inl (fun _ => 0))), (q63, .inl (cyI, 12, .inl (fun _ => 0))), (q71, .inl (cyI, 12, .inl (fun _ => 0))), (q79, .inl (cyI, 12, .inl (fun _ => 0))), (q92, .inl (cyI, 80, .inl (fun _ => 0))), (q100, .inl (cyI, 8, .inl (fun _ => 0))), (q108, .inl (cyI, 8, .inl (fun _ => 0))), (q116, .inl (cyI, 8, .inl (fun _ => 0))), (q123, .inl (cyI, 2, .inl (fun _ => 0)))]) rfl ?_
  refine z_aload_n F dX6_init_128 129 rfl 0 rfl ?_
  refine z_bipush F dX6_init_129 131 rfl zkb_8 ?_
  refine z_newi (N := 8) F dX6_init_131 133 rfl (List.mem_of_getElem? (i := 4) rfl) (by decide +kernel) (by decide +kernel) (by decide +kernel) (by decide +kernel) (by decide +kernel) (fun q131 => ?_)
  refine z_putF F hin dX6_init_133 136 rfl kX6_init_59 rfl 0 rfl rfl rfl (Nat.le_of_ble_eq_true rfl) ([(h0, .inr (6, [.ref q7, .ref q15, .ref q23, .ref q31, .ref q39, .ref q47, .ref q55, .ref q63, .ref q71, .ref q79, .int 4, .int 0, .int 0, .int 0, .int 0, .int 0, .ref q92, .int 0, .int 0, .ref q100, .ref q108, .ref q116, .int 0, .ref q123, .ref q131, .null, .int 0, .null, .int 0, .int 0, .int 0])), (q7, .inl (cyI, 7, .inl (fun _ => 0))), (q15, .inl (cyI, 8, .inl (fun _ => 0))), (q23, .inl (cyI, 8, .inl (fun _ => 0))), (q31, .inl (cyI, 8, .inl (fun _ => 0))), (q39, .inl (cyI, 12, .inl (fun _ => 0))), (q47, .inl (cyI, 12, .inl (fun _ => 0))), (q55, .inl (cyI, 12, .inl (fun _ => 0))), (q63, .inl (cyI, 12, .inl (fun _ => 0))), (q71, .inl (cyI, 12, .inl (fun _ => 0))), (q79, .inl (cyI, 12, .inl (fun _ => 0))), (q92, .inl (cyI, 80, .inl (fun _ => 0))), (q100, .inl (cyI, 8, .inl (fun _ => 0))), (q108, .inl (cyI, 8, .inl (fun _ => 0))), (q116, .inl (cyI, 8, .inl (fun _ => 0))), (q123, .inl (cyI, 2, .inl (fun _ => 0))), (q131, .inl (cyI, 8, .inl (fun _ => 0)))]) rfl ?_
  refine z_aload_n F dX6_init_136 137 rfl 0 rfl ?_
  refine z_bipush F dX6_init_137 139 rfl zkb_8 ?_
  refine z_newi (N := 8) F dX6_init_139 141 rfl (List.mem_of_getElem? (i := 4) rfl) (by decide +kernel) (by decide +kernel) (by decide +kernel) (by decide +kernel) (by decide +kernel) (fun q139 => ?_)
  refine z_putF F hin dX6_init_141 144 rfl kX6_init_62 rfl 0 rfl rfl rfl (Nat.le_of_ble_eq_true rfl) ([(h0, .inr (6, [.ref q7, .ref q15, .ref q23, .ref q31, .ref q39, .ref q47, .ref q55, .ref q63, .ref q71, .ref q79, .int 4, .int 0, .int 0, .int 0, .int 0, .int 0, .ref q92, .int 0, .int 0, .ref q100, .ref q108, .ref q116, .int 0, .ref q123, .ref q131, .ref q139, .int 0, .null, .int 0, .int 0, .int 0])), (q7, .inl (cyI, 7, .inl (fun _ => 0))), (q15, .inl (cyI, 8, .inl (fun _ => 0))), (q23, .inl (cyI, 8, .inl (fun _ => 0))), (q31, .inl (cyI, 8, .inl (fun _ => 0))), (q39, .inl (cyI, 12, .inl (fun _ => 0))), (q47, .inl (cyI, 12, .inl (fun _ => 0))), (q55, .inl (cyI, 12, .inl (fun _ => 0))), (q63, .inl (cyI, 12, .inl (fun _ => 0))), (q71, .inl (cyI, 12, .inl (fun _ => 0))), (q79, .inl (cyI, 12, .inl (fun _ => 0))), (q92, .inl (cyI, 80, .inl (fun _ => 0))), (q100, .inl (cyI, 8, .inl (fun _ => 0))), (q108, .inl (cyI, 8, .inl (fun _ => 0))), (q116, .inl (cyI, 8, .inl (fun _ => 0))), (q123, .inl (cyI, 2, .inl (fun _ => 0))), (q131, .inl (cyI, 8, .inl (fun _ => 0))), (q139, .inl (cyI, 8, .inl (fun _ => 0)))]) rfl ?_
  refine z_aload_n F dX6_init_144 145 rfl 0 rfl ?_
  refine z_bipush F dX6_init_145 147 rfl zkb_120 ?_
  refine z_newi (N := 120) F dX6_init_147 149 rfl (List.mem_of_getElem? (i := 4) rfl) (by decide +kernel) (by decide +kernel) (by decide +kernel) (by decide +kernel) (by decide +kernel) (fun q147 => ?_)
  refine z_putF F hin dX6_init_149 152 rfl kX6_init_65 rfl 0 rfl rfl rfl (Nat.le_of_ble_eq_true rfl) ([(h0, .inr (6, [.ref q7, .ref q15, .ref q23, .ref q31, .ref q39, .ref q47, .ref q55, .ref q63, .ref q71, .ref q79, .int 4, .int 0, .int 0, .int 0, .int 0, .int 0, .ref q92, .int 0, .int 0, .ref q100, .ref q108, .ref q116, .int 0, .ref q123, .ref q131, .ref q139, .int 0, .ref q147, .int 0, .int 0, .int 0])), (q7, .inl (cyI, 7, .inl (fun _ => 0))), (q15, .inl (cyI, 8, .inl (fun _ => 0))), (q23, .inl (cyI, 8, .inl (fun _ => 0))), (q31, .inl (cyI, 8, .inl (fun _ => 0))), (q39, .inl (cyI, 12, .inl (fun _ => 0))), (q47, .inl (cyI, 12, .inl (fun _ => 0))), (q55, .inl (cyI, 12, .inl (fun _ => 0))), (q63, .inl (cyI, 12, .inl (fun _ => 0))), (q71, .inl (cyI, 12, .inl (fun _ => 0))), (q79, .inl (cyI, 12, .inl (fun _ => 0))), (q92, .inl (cyI, 80, .inl (fun _ => 0))), (q100, .inl (cyI, 8, .inl (fun _ => 0))), (q108, .inl (cyI, 8, .inl (fun _ => 0))), (q116, .inl (cyI, 8, .inl (fun _ => 0))), (q123, .inl (cyI, 2, .inl (fun _ => 0))), (q131, .inl (cyI, 8, .inl (fun _ => 0))), (q139, .inl (cyI, 8, .inl (fun _ => 0))), (q147, .inl (cyI, 120, .inl (fun _ => 0)))]) rfl ?_
  refine z_ws ((fun u => wMo u cyI (va_up (fun _ => 0) 10 4) (fun _ _ => 0)) (fun j => [h0, q7, q15, q23, q31, q39, q47, q55, q63, q71, q79, q92, q100, q108, q116, q123, q131, q139, q147].getD j 0)) [0, 1, 2, 3, 4, 5, 6, 7, 8, 9, 10, 11, 12, 13, 14, 15, 16, 17, 18] (by decide) rfl ?_
  refine z_widen (k' := 18) (n' := 345) (by decide +kernel) (by decide +kernel) ?_
  exact hRt 152 _ (fun j => [h0, q7, q15, q23, q31, q39, q47, q55, q63, q71, q79, q92, q100, q108, q116, q123, q131, q139, q147].getD j 0) dX6_init_152 rfl
