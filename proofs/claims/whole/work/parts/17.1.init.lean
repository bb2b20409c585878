theorem zkb_120 : (Int8.ofInt 120).toInt32 = 120 := by decide +kernel
theorem iX3_init_3 : ∀ w ∈ wsX30, w ∈ wsX3_init := fun w h => List.mem_cons_of_mem _ (List.mem_append_right _ h)
theorem kX3_init_9 : zL wsX3_init RX3 9 3 0 (.array .int) true := zL3 iX3_init_3 (by decide) (List.mem_of_getElem? (i := 5) rfl) rfl rfl
theorem kX3_init_15 : zL wsX3_init RX3 15 3 1 (.array .int) true := zL3 iX3_init_3 (by decide) (List.mem_of_getElem? (i := 6) rfl) rfl rfl
theorem kX3_init_18 : zL wsX3_init RX3 18 3 2 .int false := zL3 iX3_init_3 (by decide) (List.mem_of_getElem? (i := 7) rfl) rfl rfl
theorem y_X3_init : zY yX3_init wsX3_init cX3_init 1 none 0 := ⟨⟨_, rfl⟩, by decide +kernel⟩
theorem iX0_init_0 : ∀ w ∈ wsX00, w ∈ wsX0_init := fun w h => List.mem_cons_of_mem _ (List.mem_append_right _ h)
theorem kX0_init_9 : zL wsX0_init RX0 9 0 0 (.array .int) true := zL0 iX0_init_0 (by decide) (List.mem_of_getElem? (i := 5) rfl) rfl rfl
theorem kX0_init_15 : zL wsX0_init RX0 15 0 1 .int false := zL0 iX0_init_0 (by decide) (List.mem_of_getElem? (i := 6) rfl) rfl rfl
theorem kX0_init_19 : zL wsX0_init RX0 19 0 2 .int false := zL0 iX0_init_0 (by decide) (List.mem_of_getElem? (i := 7) rfl) rfl rfl
theorem y_X0_init : zY yX0_init wsX0_init cX0_init 1 none 0 := ⟨⟨_, rfl⟩, by decide +kernel⟩
theorem iX4_init_4 : ∀ w ∈ wsX40, w ∈ wsX4_init := fun w h => List.mem_cons_of_mem _ (List.mem_append_right _ h)
theorem kX4_init_9 : zL wsX4_init RX4 9 4 0 (.array .byte) true := zL4 iX4_init_4 (by decide) (List.mem_of_getElem? (i := 5) rfl) rfl rfl
theorem kX4_init_15 : zL wsX4_init RX4 15 4 1 .int false := zL4 iX4_init_4 (by decide) (List.mem_of_getElem? (i := 6) rfl) rfl rfl
theorem kX4_init_19 : zL wsX4_init RX4 19 4 2 .int false := zL4 iX4_init_4 (by decide) (List.mem_of_getElem? (i := 7) rfl) rfl rfl
theorem y_X4_init : zY yX4_init wsX4_init cX4_init 1 none 0 := ⟨⟨_, rfl⟩, by decide +kernel⟩
theorem iX1_init_1 : ∀ w ∈ wsX10, w ∈ wsX1_init := fun w h => List.mem_cons_of_mem _ (List.mem_append_left _ (List.mem_append_right _ h))
theorem iX1_init_3 : ∀ w ∈ wsX30, w ∈ wsX1_init := fun w h => List.mem_cons_of_mem _ (List.mem_append_right _ h)
theorem kX1_init_9 : zL wsX1_init RX1 9 1 0 (.array .int) true := zL1 iX1_init_1 (by decide) (List.mem_of_getElem? (i := 5) rfl) rfl rfl
theorem kX1_init_15 : zL wsX1_init RX1 15 1 1 (.array .int) true := zL1 iX1_init_1 (by decide) (List.mem_of_getElem? (i := 6) rfl) rfl rfl
theorem kX1_init_21 : zL wsX1_init RX1 21 1 2 (.object "StillRoom$Pairs") true := zL1 iX1_init_1 (by decide) (List.mem_of_getElem? (i := 10) rfl) rfl rfl
theorem kX1_init_25 : zL wsX1_init RX1 25 1 3 (.object "StillRoom$Pairs") true := zL1 iX1_init_1 (by decide) (List.mem_of_getElem? (i := 11) rfl) rfl rfl
theorem kX1_init_28 : zL wsX1_init RX1 28 1 4 (.object "StillRoom$Pairs") true := zL1 iX1_init_1 (by decide) (List.mem_of_getElem? (i := 12) rfl) rfl rfl
theorem kX1_init_31 : zL wsX1_init RX1 31 1 5 .int false := zL1 iX1_init_1 (by decide) (List.mem_of_getElem? (i := 13) rfl) rfl rfl
theorem kX1_init_35 : zL wsX1_init RX1 35 1 6 .int false := zL1 iX1_init_1 (by decide) (List.mem_of_getElem? (i := 14) rfl) rfl rfl
theorem kX1_init_38 : zL wsX1_init RX1 38 1 7 .int false := zL1 iX1_init_1 (by decide) (List.mem_of_getElem? (i := 15) rfl) rfl rfl
theorem kX1_init_41 : zL wsX1_init RX1 41 1 8 .int false := zL1 iX1_init_1 (by decide) (List.mem_of_getElem? (i := 16) rfl) rfl rfl
theorem nX1_init_3 : zKn wsX1_init 3 3 RX3 [.null, .null, .int 0] := ⟨TX3, tyX3, rfl, iX1_init_3, tyX3_ok, by decide +kernel⟩
theorem y_X1_init : zY yX1_init wsX1_init cX1_init 1 none 0 := ⟨⟨_, rfl⟩, by decide +kernel⟩
theorem iX2_init_0 : ∀ w ∈ wsX00, w ∈ wsX2_init := fun w h => List.mem_cons_of_mem _ (List.mem_append_right _ h)
theorem iX2_init_2 : ∀ w ∈ wsX20, w ∈ wsX2_init := fun w h => List.mem_cons_of_mem _ (List.mem_append_left _ (List.mem_append_right _ h))
theorem kX2_init_9 : zL wsX2_init RX2 9 2 1 (.array .int) true := zL2 iX2_init_2 (by decide) (List.mem_of_getElem? (i := 5) rfl) rfl rfl
theorem kX2_init_15 : zL wsX2_init RX2 15 2 2 (.array .int) true := zL2 iX2_init_2 (by decide) (List.mem_of_getElem? (i := 6) rfl) rfl rfl
theorem kX2_init_18 : zL wsX2_init RX2 18 2 3 (.array .int) true := zL2 iX2_init_2 (by decide) (List.mem_of_getElem? (i := 7) rfl) rfl rfl
theorem kX2_init_21 : zL wsX2_init RX2 21 2 4 (.array .int) true := zL2 iX2_init_2 (by decide) (List.mem_of_getElem? (i := 8) rfl) rfl rfl
theorem kX2_init_27 : zL wsX2_init RX2 27 2 5 (.object "StillRoom$Choices") true := zL2 iX2_init_2 (by decide) (List.mem_of_getElem? (i := 12) rfl) rfl rfl
theorem kX2_init_31 : zL wsX2_init RX2 31 2 6 (.object "StillRoom$Choices") true := zL2 iX2_init_2 (by decide) (List.mem_of_getElem? (i := 13) rfl) rfl rfl
theorem kX2_init_34 : zL wsX2_init RX2 34 2 7 .int false := zL2 iX2_init_2 (by decide) (List.mem_of_getElem? (i := 14) rfl) rfl rfl
theorem kX2_init_38 : zL wsX2_init RX2 38 2 8 .int false := zL2 iX2_init_2 (by decide) (List.mem_of_getElem? (i := 15) rfl) rfl rfl
theorem kX2_init_41 : zL wsX2_init RX2 41 2 9 .int false := zL2 iX2_init_2 (by decide) (List.mem_of_getElem? (i := 16) rfl) rfl rfl
theorem kX2_init_44 : zL wsX2_init RX2 44 2 10 .int false := zL2 iX2_init_2 (by decide) (List.mem_of_getElem? (i := 17) rfl) rfl rfl
theorem kX2_init_47 : zL wsX2_init RX2 47 2 0 (.object "StillRoom$House") true := zL2 iX2_init_2 (by decide) (List.mem_of_getElem? (i := 18) rfl) rfl rfl
theorem nX2_init_0 : zKn wsX2_init 0 3 RX0 [.null, .int 0, .int 0] := ⟨TX0, tyX0, rfl, iX2_init_0, tyX0_ok, by decide +kernel⟩
theorem y_X2_init : zY yX2_init wsX2_init cX2_init 2 none 1 := ⟨⟨_, rfl⟩, by decide +kernel⟩
theorem iX5_init_1 : ∀ w ∈ wsX10, w ∈ wsX5_init := fun w h => List.mem_cons_of_mem _ (List.mem_append_left _ (List.mem_append_left _ (List.mem_append_left _ (List.mem_append_left _ (List.mem_append_left _ (List.mem_append_right _ h))))))
theorem iX5_init_2 : ∀ w ∈ wsX20, w ∈ wsX5_init := fun w h => List.mem_cons_of_mem _ (List.mem_append_left _ (List.mem_append_left _ (List.mem_append_left _ (List.mem_append_right _ h))))
theorem iX5_init_4 : ∀ w ∈ wsX40, w ∈ wsX5_init := fun w h => List.mem_cons_of_mem _ (List.mem_append_left _ (List.mem_append_left _ (List.mem_append_right _ h)))
theorem iX5_init_5 : ∀ w ∈ wsX50, w ∈ wsX5_init := fun w h => List.mem_cons_of_mem _ (List.mem_append_left _ (List.mem_append_left _ (List.mem_append_left _ (List.mem_append_left _ (List.mem_append_right _ h)))))
theorem kX5_init_12 : zL wsX5_init RX5 12 5 0 (.object "StillRoom$House") true := zL5 iX5_init_5 (by decide) (List.mem_of_getElem? (i := 7) rfl) rfl rfl
theorem kX5_init_21 : zL wsX5_init RX5 21 5 1 (.object "StillRoom$Mind") true := zL5 iX5_init_5 (by decide) (List.mem_of_getElem? (i := 11) rfl) rfl rfl
theorem kX5_init_28 : zL wsX5_init RX5 28 5 2 (.object "StillRoom$Text") true := zL5 iX5_init_5 (by decide) (List.mem_of_getElem? (i := 15) rfl) rfl rfl
theorem kX5_init_32 : zL wsX5_init RX5 32 5 3 (.array .int) true := zL5 iX5_init_5 (by decide) (List.mem_of_getElem? (i := 17) rfl) rfl rfl
theorem kX5_init_36 : zL wsX5_init RX5 36 5 4 (.array .int) true := zL5 iX5_init_5 (by decide) (List.mem_of_getElem? (i := 18) rfl) rfl rfl
theorem kX5_init_39 : zL wsX5_init RX5 39 5 5 (.array .int) true := zL5 iX5_init_5 (by decide) (List.mem_of_getElem? (i := 19) rfl) rfl rfl
theorem kX5_init_42 : zL wsX5_init RX5 42 5 6 .int false := zL5 iX5_init_5 (by decide) (List.mem_of_getElem? (i := 20) rfl) rfl rfl
theorem kX5_init_46 : zL wsX5_init RX5 46 5 7 (.object "StillRoom$House") false := zL5 iX5_init_5 (by decide) (List.mem_of_getElem? (i := 21) rfl) rfl rfl
theorem nX5_init_1 : zKn wsX5_init 1 9 RX1 [.null, .null, .null, .null, .null, .int 0, .int 0, .int 0, .int 0] := ⟨TX1, tyX1, rfl, iX5_init_1, tyX1_ok, by decide +kernel⟩
theorem nX5_init_2 : zKn wsX5_init 2 11 RX2 [.null, .null, .null, .null, .null, .null, .null, .int 0, .int 0, .int 0, .int 0] := ⟨TX2, tyX2, rfl, iX5_init_2, tyX2_ok, by decide +kernel⟩
theorem nX5_init_4 : zKn wsX5_init 4 3 RX4 [.null, .int 0, .int 0] := ⟨TX4, tyX4, rfl, iX5_init_4, tyX4_ok, by decide +kernel⟩
theorem y_X5_init : zY yX5_init wsX5_init cX5_init 1 none 0 := ⟨⟨_, rfl⟩, by decide +kernel⟩
theorem iX6_init_6 : ∀ w ∈ wsX60, w ∈ wsX6_init := fun w h => List.mem_cons_of_mem _ (List.mem_append_right _ h)
theorem kX6_init_7 : zL wsX6_init RX6 7 6 0 (.array .int) true := zL6 iX6_init_6 (by decide) (List.mem_of_getElem? (i := 5) rfl) rfl rfl
theorem kX6_init_13 : zL wsX6_init RX6 13 6 1 (.array .int) true := zL6 iX6_init_6 (by decide) (List.mem_of_getElem? (i := 6) rfl) rfl rfl
theorem kX6_init_16 : zL wsX6_init RX6 16 6 2 (.array .int) true := zL6 iX6_init_6 (by decide) (List.mem_of_getElem? (i := 7) rfl) rfl rfl
theorem kX6_init_19 : zL wsX6_init RX6 19 6 3 (.array .int) true := zL6 iX6_init_6 (by decide) (List.mem_of_getElem? (i := 8) rfl) rfl rfl
theorem kX6_init_22 : zL wsX6_init RX6 22 6 4 (.array .int) true := zL6 iX6_init_6 (by decide) (List.mem_of_getElem? (i := 9) rfl) rfl rfl
theorem kX6_init_25 : zL wsX6_init RX6 25 6 5 (.array .int) true := zL6 iX6_init_6 (by decide) (List.mem_of_getElem? (i := 10) rfl) rfl rfl
theorem kX6_init_28 : zL wsX6_init RX6 28 6 6 (.array .int) true := zL6 iX6_init_6 (by decide) (List.mem_of_getElem? (i := 11) rfl) rfl rfl
theorem kX6_init_31 : zL wsX6_init RX6 31 6 7 (.array .int) true := zL6 iX6_init_6 (by decide) (List.mem_of_getElem? (i := 12) rfl) rfl rfl
theorem kX6_init_34 : zL wsX6_init RX6 34 6 8 (.array .int) true := zL6 iX6_init_6 (by decide) (List.mem_of_getElem? (i := 13) rfl) rfl rfl
theorem kX6_init_37 : zL wsX6_init RX6 37 6 9 (.array .int) true := zL6 iX6_init_6 (by decide) (List.mem_of_getElem? (i := 14) rfl) rfl rfl
theorem kX6_init_40 : zL wsX6_init RX6 40 6 10 .int false := zL6 iX6_init_6 (by decide) (List.mem_of_getElem? (i := 15) rfl) rfl rfl
theorem kX6_init_44 : zL wsX6_init RX6 44 6 16 (.array .int) true := zL6 iX6_init_6 (by decide) (List.mem_of_getElem? (i := 16) rfl) rfl rfl
theorem kX6_init_47 : zL wsX6_init RX6 47 6 19 (.array .int) true := zL6 iX6_init_6 (by decide) (List.mem_of_getElem? (i := 17) rfl) rfl rfl
theorem kX6_init_50 : zL wsX6_init RX6 50 6 20 (.array .int) true := zL6 iX6_init_6 (by decide) (List.mem_of_getElem? (i := 18) rfl) rfl rfl
theorem kX6_init_53 : zL wsX6_init RX6 53 6 21 (.array .int) true := zL6 iX6_init_6 (by decide) (List.mem_of_getElem? (i := 19) rfl) rfl rfl
theorem kX6_init_56 : zL wsX6_init RX6 56 6 23 (.array .int) true := zL6 iX6_init_6 (by decide) (List.mem_of_getElem? (i := 20) rfl) rfl rfl
theorem kX6_init_59 : zL wsX6_init RX6 59 6 24 (.array .int) true := zL6 iX6_init_6 (by decide) (List.mem_of_getElem? (i := 21) rfl) rfl rfl
theorem kX6_init_62 : zL wsX6_init RX6 62 6 25 (.array .int) true := zL6 iX6_init_6 (by decide) (List.mem_of_getElem? (i := 22) rfl) rfl rfl
theorem kX6_init_65 : zL wsX6_init RX6 65 6 27 (.array .int) true := zL6 iX6_init_6 (by decide) (List.mem_of_getElem? (i := 23) rfl) rfl rfl
theorem y_X6_init : zY yX6_init wsX6_init cX6_init 1 none 0 := ⟨⟨_, rfl⟩, by decide +kernel⟩
