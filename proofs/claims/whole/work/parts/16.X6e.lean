theorem iX6_run_6 : ∀ w ∈ wsX60, w ∈ wsX6_run := fun w h => List.mem_cons_of_mem _ (List.mem_append_right _ h)
theorem kX6_run_16 : zL wsX6_run RX6 16 6 2 (.array .int) true := zL6 iX6_run_6 (by decide) (List.mem_of_getElem? (i := 5) rfl) rfl rfl
theorem kX6_run_72 : zL wsX6_run RX6 72 6 11 .int false := zL6 iX6_run_6 (by decide) (List.mem_of_getElem? (i := 1) rfl) rfl rfl
set_option maxHeartbeats 4000000 in
set_option maxRecDepth 100000 in
theorem xX6_run_65 {C : zC} {D : va_G} {cyI cyB : ClassId} {aO : Nat → Nat} (x1 : Int32) (x3 : Int32) (x8 : Int32) (F : zF C D { frames := 3, cells := 0, slots := 0, locals := 70 } cX6_run 10 wsX6_run RX6 (some .int) cyI cyB) {post : Int32 → (Nat → Int32) → (Nat → Nat → Int32) → Prop} (hRt : zRi C D cX6_run 10 (S := ((Nat → Int32) × (Nat → Nat → Int32))) (fun u => (wMo aO cyI u.1 u.2)) (fun r u => post r u.1 u.2)) {k142 : Int32 → Int32 → Int32 → (Nat → Int32) → (Nat → Nat → Int32) → Prop} (hk142 : ∀ (x5 : Int32) (x6 : Int32) (x7 : Int32) (oI : Nat → Int32) (oR : Nat → Nat → Int32), k142 x5 x6 x7 oI oR → zX C D 10 0 0 (wMo aO cyI oI oR) 142 [(0, .ref (aO 0)), (1, .int x1), (3, .int x3), (5, .int x5), (6, .int x6), (7, .int x7), (8, .int x8)] []) : ∀ (n : Nat) (x5 : Int32) (x6 : Int32) (x7 : Int32) (x9 : Int32) (oI : Nat → Int32) (oR : Nat → Nat → Int32), bX6_run_65 x1 x3 x8 post k142  n x5 x6 x7 x9 oI oR → zX C D 10 0 0 (wMo aO cyI oI oR) 65 [(0, .ref (aO 0)), (1, .int x1), (3, .int x3), (5, .int x5), (6, .int x6), (7, .int x7), (8, .int x8), (9, .int x9)] [] := by
  intro n
  induction n with
  | zero => intro _ _ _ _ _ _ hw; exact hw.elim
  | succ n ih =>
    intro x5 x6 x7 x9 oI oR hw
    refine z_iload F dX6_run_65 67 rfl 7 rfl ?_
    refine z_aload_n F dX6_run_67 68 rfl 0 rfl ?_
    refine z_get F dX6_run_68 71 rfl kX6_run_72 0 rfl rfl ?_
    obtain ⟨hwt, hwf⟩ := hw
    refine z_icmpge F dX6_run_71 142 rfl 74 rfl (fun c4 => ?_) (fun c4 => ?_)
    · have hw := hwt c4; clear hwt hwf
      refine z_lv (lv' := [(0, .ref (aO 0)), (1, .int x1), (3, .int x3), (5, .int x5), (6, .int x6), (7, .int x7), (8, .int x8)]) [0, 1, 2, 3, 4, 5, 6] rfl ?_
      exact hk142 x5 x6 x7 oI oR hw
    · have hw := hwf c4; clear hwt hwf
      refine z_iload F dX6_run_74 76 rfl 3 rfl ?_
      refine z_iload F dX6_run_76 78 rfl 7 rfl ?_
      refine z_ishr F dX6_run_78 79 rfl ?_
      refine z_iconst F dX6_run_79 80 rfl zki_1 ?_
      refine z_iand F dX6_run_80 81 rfl ?_
      obtain ⟨hwt, hwf⟩ := hw
      refine z_ifne F dX6_run_81 87 rfl 84 rfl (fun c5 => ?_) (fun c5 => ?_)
      · have hw := hwt c5; clear hwt hwf
        refine z_iload F dX6_run_87 89 rfl 5 rfl ?_
        refine z_ldc F dX6_run_89 91 rfl (List.mem_of_getElem? (i := 2) rfl) ?_
        refine z_imul F dX6_run_91 92 rfl ?_
        refine z_sipush F dX6_run_92 95 rfl zks_12345 ?_
        refine z_iadd F dX6_run_95 96 rfl ?_
        refine z_topi (fun v1 ev1 => ?_)
        replace hw := hw v1 ev1
        refine z_istore (lv' := [(7, .int v1), (0, .ref (aO 0)), (1, .int x1), (3, .int x3), (5, .int x5), (6, .int x6), (8, .int x8), (9, .int x9)]) F dX6_run_96 98 rfl (by decide) rfl ?_
        refine z_iload F dX6_run_98 100 rfl 0 rfl ?_
        refine z_ldc F dX6_run_100 102 rfl (List.mem_of_getElem? (i := 3) rfl) ?_
        refine z_iand F dX6_run_102 103 rfl ?_
        refine z_ldc F dX6_run_103 105 rfl (List.mem_of_getElem? (i := 4) rfl) ?_
        refine z_idiv F dX6_run_105 106 rfl (by decide) ?_
        refine z_bipush F dX6_run_106 108 rfl zkb_100 ?_
        refine z_irem F dX6_run_108 109 rfl (by decide) ?_
        refine z_aload_n F dX6_run_109 110 rfl 1 rfl ?_
        refine z_get F dX6_run_110 113 rfl kX6_run_16 0 rfl rfl ?_
        refine z_iload F dX6_run_113 115 rfl 7 rfl ?_
        obtain ⟨j1, ej1, hj1, hw⟩ := hw
        refine z_iald F dX6_run_115 116 rfl 3 rfl (by decide) j1 ej1 hj1 ?_
        obtain ⟨hwt, hwf⟩ := hw
        refine z_icmplt F dX6_run_116 122 rfl 119 rfl (fun c6 => ?_) (fun c6 => ?_)
        · have hw := hwt c6; clear hwt hwf
          refine z_iload F dX6_run_122 124 rfl 4 rfl ?_
          refine z_iconst F dX6_run_124 125 rfl zki_1 ?_
          refine z_iload F dX6_run_125 127 rfl 7 rfl ?_
          refine z_ishl F dX6_run_127 128 rfl ?_
          refine z_iconst F dX6_run_128 129 rfl zki_m1 ?_
          refine z_ixor F dX6_run_129 130 rfl ?_
          refine z_iand F dX6_run_130 131 rfl ?_
          refine z_topi (fun v2 ev2 => ?_)
          replace hw := hw v2 ev2
          refine z_istore (lv' := [(5, .int v2), (7, .int v1), (0, .ref (aO 0)), (1, .int x1), (3, .int x3), (6, .int x6), (8, .int x8), (9, .int x9)]) F dX6_run_131 133 rfl (by decide) rfl ?_
          refine z_iinc F dX6_run_133 136 rfl 5 rfl (by decide) zki_1 (fun v3 => [(6, .int v3), (5, .int v2), (7, .int v1), (0, .ref (aO 0)), (1, .int x1), (3, .int x3), (8, .int x8), (9, .int x9)]) (fun _ => rfl) (fun v3 ev3 => ?_)
          replace hw := hw v3 ev3
          refine z_iinc F dX6_run_136 139 rfl 7 rfl (by decide) zki_1 (fun v4 => [(9, .int v4), (6, .int v3), (5, .int v2), (7, .int v1), (0, .ref (aO 0)), (1, .int x1), (3, .int x3), (8, .int x8)]) (fun _ => rfl) (fun v4 ev4 => ?_)
          replace hw := hw v4 ev4
          refine z_goto F dX6_run_139 65 rfl ?_
          refine z_lv (lv' := [(0, .ref (aO 0)), (1, .int x1), (3, .int x3), (5, .int v2), (6, .int v3), (7, .int v1), (8, .int x8), (9, .int v4)]) [4, 5, 6, 2, 1, 3, 7, 0] rfl ?_
          exact ih v2 v3 v1 v4 oI oR hw
        · have hw := hwf c6; clear hwt hwf
          refine z_goto F dX6_run_119 136 rfl ?_
          refine z_iinc F dX6_run_136 139 rfl 7 rfl (by decide) zki_1 (fun v5 => [(9, .int v5), (7, .int v1), (0, .ref (aO 0)), (1, .int x1), (3, .int x3), (5, .int x5), (6, .int x6), (8, .int x8)]) (fun _ => rfl) (fun v5 ev5 => ?_)
          replace hw := hw v5 ev5
          refine z_goto F dX6_run_139 65 rfl ?_
          refine z_lv (lv' := [(0, .ref (aO 0)), (1, .int x1), (3, .int x3), (5, .int x5), (6, .int x6), (7, .int v1), (8, .int x8), (9, .int v5)]) [2, 3, 4, 5, 6, 1, 7, 0] rfl ?_
          exact ih x5 x6 v1 v5 oI oR hw
      · have hw := hwf c5; clear hwt hwf
        refine z_goto F dX6_run_84 136 rfl ?_
        refine z_iinc F dX6_run_136 139 rfl 7 rfl (by decide) zki_1 (fun v6 => [(9, .int v6), (0, .ref (aO 0)), (1, .int x1), (3, .int x3), (5, .int x5), (6, .int x6), (7, .int x7), (8, .int x8)]) (fun _ => rfl) (fun v6 ev6 => ?_)
        replace hw := hw v6 ev6
        refine z_goto F dX6_run_139 65 rfl ?_
        refine z_lv (lv' := [(0, .ref (aO 0)), (1, .int x1), (3, .int x3), (5, .int x5), (6, .int x6), (7, .int x7), (8, .int x8), (9, .int v6)]) [1, 2, 3, 4, 5, 6, 7, 0] rfl ?_
        exact ih x5 x6 x7 v6 oI oR hw
set_option maxHeartbeats 4000000 in
set_option maxRecDepth 100000 in
theorem xX6_run_156 {C : zC} {D : va_G} {cyI cyB : ClassId} {aO : Nat → Nat} (x1 : Int32) (x3 : Int32) (x5 : Int32) (x6 : Int32) (x7 : Int32) (x8 : Int32) (oI : Nat → Int32) (oR : Nat → Nat → Int32) (F : zF C D { frames := 3, cells := 0, slots := 0, locals := 70 } cX6_run 10 wsX6_run RX6 (some .int) cyI cyB) {post : Int32 → (Nat → Int32) → (Nat → Nat → Int32) → Prop} (hRt : zRi C D cX6_run 10 (S := ((Nat → Int32) × (Nat → Nat → Int32))) (fun u => (wMo aO cyI u.1 u.2)) (fun r u => post r u.1 u.2)) {q56 : Int32 → Int32 → Int32 → Int32 → (Nat → Int32) → (Nat → Nat → Int32) → Prop} (hq56 : ∀ (w5 : Int32) (w6 : Int32) (w7 : Int32) (w8 : Int32) (oI : Nat → Int32) (oR : Nat → Nat → Int32), q56 w5 w6 w7 w8 oI oR → zX C D 10 0 0 (wMo aO cyI oI oR) 56 [(0, .ref (aO 0)), (1, .int x1), (3, .int x3), (5, .int w5), (6, .int w6), (7, .int w7), (8, .int w8)] []) (hw : bX6_run_156 x1 x3 x5 x6 x7 x8 oI oR post q56 ) : zX C D 10 0 0 (wMo aO cyI oI oR) 156 [(0, .ref (aO 0)), (1, .int x1), (3, .int x3), (5, .int x5), (6, .int x6), (7, .int x7), (8, .int x8)] [] := by
  refine z_iload_n F dX6_run_156 157 rfl 2 rfl ?_
  refine z_iconst F dX6_run_157 158 rfl zki_1 ?_
  obtain ⟨hwt, hwf⟩ := hw
  refine z_icmpne F dX6_run_158 174 rfl 161 rfl (fun c5 => ?_) (fun c5 => ?_)
  · have hw := hwt c5; clear hwt hwf
    refine z_iinc F dX6_run_174 177 rfl 6 rfl (by decide) zki_1 (fun v1 => [(8, .int v1), (0, .ref (aO 0)), (1, .int x1), (3, .int x3), (5, .int x5), (6, .int x6), (7, .int x7)]) (fun _ => rfl) (fun v1 ev1 => ?_)
    replace hw := hw v1 ev1
    refine z_goto F dX6_run_177 56 rfl ?_
    refine z_lv (lv' := [(0, .ref (aO 0)), (1, .int x1), (3, .int x3), (5, .int x5), (6, .int x6), (7, .int x7), (8, .int v1)]) [1, 2, 3, 4, 5, 6, 0] rfl ?_
    exact hq56 x5 x6 x7 v1 oI oR hw
  · have hw := hwf c5; clear hwt hwf
    refine z_aload_n F dX6_run_161 162 rfl 0 rfl ?_
    refine z_iconst F dX6_run_162 163 rfl zki_0 ?_
    refine z_iload F dX6_run_163 165 rfl 3 rfl ?_
    refine z_segVi (As := [.int 0, .int x5]) (st := []) F dX6_run_165 168 rfl (mX6_carriesIt C.1.2.1 D cyI cyB aO 0 x5 oI oR hw) y_X6_carriesIt rfl gX6_run_X6_carriesIt rfl (ci := 6) (rq := 0) rfl rfl ⟨Nat.le_of_ble_eq_true rfl, Nat.le_of_ble_eq_true rfl⟩ ⟨Nat.zero_le _, Nat.zero_le _⟩ (Nat.le_of_ble_eq_true rfl) [] [] (by simp only [List.append_assoc, List.nil_append, List.append_nil]) (fun _ => rfl) (fun u => (wMo aO cyI oI oR)) (fun u => (by simp only [List.append_assoc, List.nil_append, List.append_nil])) (fun r0 u hp => ?_)
    obtain ⟨b2, rfl, hw⟩ := hp
    obtain ⟨hwt, hwf⟩ := hw
    refine z_ifeqB F dX6_run_168 174 rfl 171 rfl (fun c6 => ?_) (fun c6 => ?_)
    · have hw := hwt c6; clear hwt hwf
      refine z_iinc F dX6_run_174 177 rfl 6 rfl (by decide) zki_1 (fun v2 => [(8, .int v2), (0, .ref (aO 0)), (1, .int x1), (3, .int x3), (5, .int x5), (6, .int x6), (7, .int x7)]) (fun _ => rfl) (fun v2 ev2 => ?_)
      replace hw := hw v2 ev2
      refine z_goto F dX6_run_177 56 rfl ?_
      refine z_lv (lv' := [(0, .ref (aO 0)), (1, .int x1), (3, .int x3), (5, .int x5), (6, .int x6), (7, .int x7), (8, .int v2)]) [1, 2, 3, 4, 5, 6, 0] rfl ?_
      exact hq56 x5 x6 x7 v2 oI oR hw
    · have hw := hwf c6; clear hwt hwf
      refine z_iload F dX6_run_171 173 rfl 6 rfl ?_
      exact hRt 173 _ x8 (oI, oR) dX6_run_173 hw
set_option maxHeartbeats 4000000 in
set_option maxRecDepth 100000 in
theorem xX6_run_56 {C : zC} {D : va_G} {cyI cyB : ClassId} {aO : Nat → Nat} (x1 : Int32) (x3 : Int32) (F : zF C D { frames := 3, cells := 0, slots := 0, locals := 70 } cX6_run 10 wsX6_run RX6 (some .int) cyI cyB) {post : Int32 → (Nat → Int32) → (Nat → Nat → Int32) → Prop} (hRt : zRi C D cX6_run 10 (S := ((Nat → Int32) × (Nat → Nat → Int32))) (fun u => (wMo aO cyI u.1 u.2)) (fun r u => post r u.1 u.2)) {k180 : Int32 → (Nat → Int32) → (Nat → Nat → Int32) → Prop} (hk180 : ∀ (x6 : Int32) (oI : Nat → Int32) (oR : Nat → Nat → Int32), k180 x6 oI oR → zX C D 10 0 0 (wMo aO cyI oI oR) 180 [(3, .int x3), (6, .int x6)] []) : ∀ (n : Nat) (x5 : Int32) (x6 : Int32) (x7 : Int32) (x8 : Int32) (oI : Nat → Int32) (oR : Nat → Nat → Int32), bX6_run_56 x1 x3 post k180  n x5 x6 x7 x8 oI oR → zX C D 10 0 0 (wMo aO cyI oI oR) 56 [(0, .ref (aO 0)), (1, .int x1), (3, .int x3), (5, .int x5), (6, .int x6), (7, .int x7), (8, .int x8)] [] := by
  intro n
  induction n with
  | zero => intro _ _ _ _ _ _ hw; exact hw.elim
  | succ n ih =>
    intro x5 x6 x7 x8 oI oR hw
    refine z_iload F dX6_run_56 58 rfl 6 rfl ?_
    refine z_iload_n F dX6_run_58 59 rfl 1 rfl ?_
    obtain ⟨hwt, hwf⟩ := hw
    refine z_icmpgt F dX6_run_59 180 rfl 62 rfl (fun c3 => ?_) (fun c3 => ?_)
    · have hw := hwt c3; clear hwt hwf
      refine z_lv (lv' := [(3, .int x3), (6, .int x6)]) [2, 4] rfl ?_
      exact hk180 x6 oI oR hw
    · have hw := hwf c3; clear hwt hwf
      refine z_iconst F dX6_run_62 63 rfl zki_0 ?_
      refine z_istore (lv' := [(9, .int 0), (0, .ref (aO 0)), (1, .int x1), (3, .int x3), (5, .int x5), (6, .int x6), (7, .int x7), (8, .int x8)]) F dX6_run_63 65 rfl (by decide) rfl ?_
      obtain ⟨n1, hw⟩ := hw
      refine z_lv (lv' := [(0, .ref (aO 0)), (1, .int x1), (3, .int x3), (5, .int x5), (6, .int x6), (7, .int x7), (8, .int x8), (9, .int 0)]) [1, 2, 3, 4, 5, 6, 7, 0] rfl ?_
      refine xX6_run_65 x1 x3 x8 F hRt (fun w1 w2 w3 oI_2 oR_2 hw => ?_) n1 x5 x6 x7 0 oI oR hw
      refine z_iload_n F dX6_run_142 143 rfl 2 rfl ?_
      obtain ⟨hwt, hwf⟩ := hw
      refine z_ifne F dX6_run_143 156 rfl 146 rfl (fun c4 => ?_) (fun c4 => ?_)
      · have hw := hwt c4; clear hwt hwf
        exact xX6_run_156 x1 x3 w1 w2 w3 x8 oI_2 oR_2 F hRt ih hw
      · have hw := hwf c4; clear hwt hwf
        refine z_aload_n F dX6_run_146 147 rfl 0 rfl ?_
        refine z_iconst F dX6_run_147 148 rfl zki_0 ?_
        refine z_iload F dX6_run_148 150 rfl 3 rfl ?_
        refine z_segVi (As := [.int 0, .int w1]) (st := []) F dX6_run_150 153 rfl (mX6_losesIt C.1.2.1 D cyI cyB aO 0 w1 oI_2 oR_2 hw) y_X6_losesIt rfl gX6_run_X6_losesIt rfl (ci := 6) (rq := 0) rfl rfl ⟨Nat.le_of_ble_eq_true rfl, Nat.le_of_ble_eq_true rfl⟩ ⟨Nat.zero_le _, Nat.zero_le _⟩ (Nat.le_of_ble_eq_true rfl) [] [] (by simp only [List.append_assoc, List.nil_append, List.append_nil]) (fun _ => rfl) (fun u => (wMo aO cyI oI_2 oR_2)) (fun u => (by simp only [List.append_assoc, List.nil_append, List.append_nil])) (fun r0 u hp => ?_)
        obtain ⟨b2, rfl, hw⟩ := hp
        obtain ⟨hwt, hwf⟩ := hw
        refine z_ifneB F dX6_run_153 171 rfl 156 rfl (fun c5 => ?_) (fun c5 => ?_)
        · have hw := hwt c5; clear hwt hwf
          refine z_iload F dX6_run_171 173 rfl 6 rfl ?_
          exact hRt 173 _ x8 (oI_2, oR_2) dX6_run_173 hw
        · have hw := hwf c5; clear hwt hwf
          exact xX6_run_156 x1 x3 w1 w2 w3 x8 oI_2 oR_2 F hRt ih hw
set_option maxHeartbeats 4000000 in
set_option maxRecDepth 100000 in
theorem xX6_run_0 {C : zC} {D : va_G} {cyI cyB : ClassId} {aO : Nat → Nat} (x1 : Int32) (x2 : Int32) (x3 : Int32) (oI : Nat → Int32) (oR : Nat → Nat → Int32) (F : zF C D { frames := 3, cells := 0, slots := 0, locals := 70 } cX6_run 10 wsX6_run RX6 (some .int) cyI cyB) {post : Int32 → (Nat → Int32) → (Nat → Nat → Int32) → Prop} (hRt : zRi C D cX6_run 10 (S := ((Nat → Int32) × (Nat → Nat → Int32))) (fun u => (wMo aO cyI u.1 u.2)) (fun r u => post r u.1 u.2)) (hw : pX6_run x1 x2 x3 oI oR post) : zX C D 10 0 0 (wMo aO cyI oI oR) 0 [(0, .ref (aO 0)), (1, .int x1), (2, .int x2), (3, .int x3)] [] := by
  refine z_iload_n F dX6_run_0 1 rfl 3 rfl ?_
  refine z_iconst F dX6_run_1 2 rfl zki_0 ?_
  refine z_iconst F dX6_run_2 3 rfl zki_2 ?_
  refine z_callSi (As := [.int x3, .int 0, .int 2]) (st := []) F dX6_run_3 6 rfl (mX6_isIn C.1.2.1 D cyI cyB x3 0 2 hw) y_X6_isIn rfl gX6_run_X6_isIn ⟨Nat.le_of_ble_eq_true rfl, Nat.le_of_ble_eq_true rfl⟩ ⟨Nat.zero_le _, Nat.zero_le _⟩ (Nat.le_of_ble_eq_true rfl) [] (by decide) rfl (fun _ => rfl) (fun u => (wMo aO cyI oI oR)) (fun _ => rfl) (fun r0 u hp => ?_)
  obtain ⟨b1, rfl, hw⟩ := hp
  obtain ⟨hwt, hwf⟩ := hw
  refine z_ifneB F dX6_run_6 16 rfl 9 rfl (fun c1 => ?_) (fun c1 => ?_)
  · have hw := hwt c1; clear hwt hwf
    refine z_iload_n F dX6_run_16 17 rfl 1 rfl ?_
    refine z_iconst F dX6_run_17 18 rfl zki_1 ?_
    refine z_bipush F dX6_run_18 20 rfl zkb_50 ?_
    refine z_callSi (As := [.int x1, .int 1, .int 50]) (st := []) F dX6_run_20 23 rfl (mX6_bound C.1.2.1 D cyI cyB x1 1 50 hw) y_X6_bound rfl gX6_run_X6_bound ⟨Nat.le_of_ble_eq_true rfl, Nat.le_of_ble_eq_true rfl⟩ ⟨Nat.zero_le _, Nat.zero_le _⟩ (Nat.le_of_ble_eq_true rfl) [] (by decide) rfl (fun _ => rfl) (fun u => (wMo aO cyI oI oR)) (fun _ => rfl) (fun r1 u hp => ?_)
    replace hw := hp
    clear hp
    refine z_istore (lv' := [(4, .int r1), (0, .ref (aO 0)), (1, .int x1), (2, .int x2), (3, .int x3)]) F dX6_run_23 25 rfl (by decide) rfl ?_
    refine z_iload F dX6_run_25 27 rfl 0 rfl ?_
    obtain ⟨hwt, hwf⟩ := hw
    refine z_ifeq F dX6_run_27 37 rfl 30 rfl (fun c2 => ?_) (fun c2 => ?_)
    · have hw := hwt c2; clear hwt hwf
      refine z_aload_n F dX6_run_37 38 rfl 1 rfl ?_
      refine z_segVv (As := []) (st := []) F dX6_run_38 41 rfl (mX6_findKnown C.1.2.1 D cyI cyB aO oI oR hw) y_X6_findKnown rfl gX6_run_X6_findKnown rfl (ci := 6) (rq := 0) rfl rfl ⟨Nat.le_of_ble_eq_true rfl, Nat.le_of_ble_eq_true rfl⟩ ⟨Nat.zero_le _, Nat.zero_le _⟩ (Nat.le_of_ble_eq_true rfl) [] [] (by simp only [List.append_assoc, List.nil_append, List.append_nil]) (fun _ => rfl) (fun u => (wMo aO cyI u.1 u.2)) (fun u => (by simp only [List.append_assoc, List.nil_append, List.append_nil])) (fun u hp => ?_)
      obtain ⟨oI_1, oR_1⟩ := u
      replace hw := hp
      clear hp
      refine z_aload_n F dX6_run_41 42 rfl 1 rfl ?_
      refine z_segVi (As := []) (st := []) F dX6_run_42 45 rfl (mX6_houseSet C.1.2.1 D cyI cyB aO oI_1 oR_1 hw) y_X6_houseSet rfl gX6_run_X6_houseSet rfl (ci := 6) (rq := 0) rfl rfl ⟨Nat.le_of_ble_eq_true rfl, Nat.le_of_ble_eq_true rfl⟩ ⟨Nat.zero_le _, Nat.zero_le _⟩ (Nat.le_of_ble_eq_true rfl) [] [] (by simp only [List.append_assoc, List.nil_append, List.append_nil]) (fun _ => rfl) (fun u => (wMo aO cyI oI_1 oR_1)) (fun u => (by simp only [List.append_assoc, List.nil_append, List.append_nil])) (fun r2 u hp => ?_)
      replace hw := hp
      clear hp
      refine z_istore (lv' := [(5, .int r2), (4, .int r1), (0, .ref (aO 0)), (1, .int x1), (2, .int x2), (3, .int x3)]) F dX6_run_45 47 rfl (by decide) rfl ?_
      refine z_iconst F dX6_run_47 48 rfl zki_0 ?_
      refine z_istore (lv' := [(6, .int 0), (5, .int r2), (4, .int r1), (0, .ref (aO 0)), (1, .int x1), (2, .int x2), (3, .int x3)]) F dX6_run_48 50 rfl (by decide) rfl ?_
      refine z_iload_n F dX6_run_50 51 rfl 5 rfl ?_
      refine z_istore (lv' := [(7, .int x2), (6, .int 0), (5, .int r2), (4, .int r1), (0, .ref (aO 0)), (1, .int x1), (2, .int x2), (3, .int x3)]) F dX6_run_51 53 rfl (by decide) rfl ?_
      refine z_iconst F dX6_run_53 54 rfl zki_1 ?_
      refine z_istore (lv' := [(8, .int 1), (7, .int x2), (6, .int 0), (5, .int r2), (4, .int r1), (0, .ref (aO 0)), (1, .int x1), (2, .int x2), (3, .int x3)]) F dX6_run_54 56 rfl (by decide) rfl ?_
      obtain ⟨n1, hw⟩ := hw
      refine z_lv (lv' := [(0, .ref (aO 0)), (1, .int x1), (3, .int x3), (5, .int r2), (6, .int 0), (7, .int x2), (8, .int 1)]) [5, 6, 8, 3, 2, 1, 0] rfl ?_
      refine xX6_run_56 x1 x3 F hRt (fun w1 oI_2 oR_2 hw => ?_) n1 r2 0 x2 1 oI_1 oR_1 hw
      refine z_iload_n F dX6_run_180 181 rfl 0 rfl ?_
      refine z_iconst F dX6_run_181 182 rfl zki_2 ?_
      obtain ⟨hwt, hwf⟩ := hw
      refine z_icmpne F dX6_run_182 190 rfl 185 rfl (fun c3 => ?_) (fun c3 => ?_)
      · have hw := hwt c3; clear hwt hwf
        refine z_bipush F dX6_run_190 192 rfl zkb_m9 ?_
        exact hRt 192 _ (-9) (oI_2, oR_2) dX6_run_192 hw
      · have hw := hwf c3; clear hwt hwf
        refine z_iload F dX6_run_185 187 rfl 1 rfl ?_
        refine z_goto F dX6_run_187 192 rfl ?_
        exact hRt 192 _ w1 (oI_2, oR_2) dX6_run_192 hw
    · have hw := hwf c2; clear hwt hwf
      refine z_aload_n F dX6_run_30 31 rfl 1 rfl ?_
      refine z_iload F dX6_run_31 33 rfl 0 rfl ?_
      refine z_segVi (As := [.int r1]) (st := []) F dX6_run_33 36 rfl (mX6_no C.1.2.1 D cyI cyB aO r1 oI oR hw) y_X6_no rfl gX6_run_X6_no rfl (ci := 6) (rq := 0) rfl rfl ⟨Nat.le_of_ble_eq_true rfl, Nat.le_of_ble_eq_true rfl⟩ ⟨Nat.zero_le _, Nat.zero_le _⟩ (Nat.le_of_ble_eq_true rfl) [] [] (by simp only [List.append_assoc, List.nil_append, List.append_nil]) (fun _ => rfl) (fun u => (wMo aO cyI u.1 u.2)) (fun u => (by simp only [List.append_assoc, List.nil_append, List.append_nil])) (fun r3 u hp => ?_)
      obtain ⟨oI_3, oR_3⟩ := u
      replace hw := hp
      clear hp
      exact hRt 36 _ r3 (oI_3, oR_3) dX6_run_36 hw
  · have hw := hwf c1; clear hwt hwf
    refine z_aload_n F dX6_run_9 10 rfl 0 rfl ?_
    refine z_bipush F dX6_run_10 12 rfl zkb_m2 ?_
    refine z_segVi (As := [.int (-2)]) (st := []) F dX6_run_12 15 rfl (mX6_no C.1.2.1 D cyI cyB aO (-2) oI oR hw) y_X6_no rfl gX6_run_X6_no rfl (ci := 6) (rq := 0) rfl rfl ⟨Nat.le_of_ble_eq_true rfl, Nat.le_of_ble_eq_true rfl⟩ ⟨Nat.zero_le _, Nat.zero_le _⟩ (Nat.le_of_ble_eq_true rfl) [] [] (by simp only [List.append_assoc, List.nil_append, List.append_nil]) (fun _ => rfl) (fun u => (wMo aO cyI u.1 u.2)) (fun u => (by simp only [List.append_assoc, List.nil_append, List.append_nil])) (fun r4 u hp => ?_)
    obtain ⟨oI_4, oR_4⟩ := u
    replace hw := hp
    clear hp
    exact hRt 15 _ r4 (oI_4, oR_4) dX6_run_15 hw
set_option maxHeartbeats 4000000 in
set_option maxRecDepth 100000 in
theorem mX6_run (l : Launch) (D : va_G) (cyI cyB : ClassId) (aO : Nat → Nat) (x1 : Int32) (x2 : Int32) (x3 : Int32) (oI : Nat → Int32) (oR : Nat → Nat → Int32) {post : Int32 → (Nat → Int32) → (Nat → Nat → Int32) → Prop} (hw : pX6_run x1 x2 x3 oI oR post) : zMi l yX6_run wsX6_run 3 70 D cyI cyB [.ref (aO 0), .int x1, .int x2, .int x3] (wMo aO cyI oI oR) (S := ((Nat → Int32) × (Nat → Nat → Int32))) (fun u => (wMo aO cyI u.1 u.2)) (fun r u => post r u.1 u.2) :=
  z_meti (cc := cX6_run) (nL := 10) (by decide +kernel) rfl (Nat.le_of_ble_eq_true rfl) (fun C hl F hRt => xX6_run_0 x1 x2 x3 oI oR F hRt hw)
theorem y_X6_run : zY yX6_run wsX6_run cX6_run 10 (some .int) 3 := ⟨⟨_, rfl⟩, by decide +kernel⟩
theorem iX6_put_6 : ∀ w ∈ wsX60, w ∈ wsX6_put := fun w h => List.mem_cons_of_mem _ (List.mem_append_right _ h)
theorem kX6_put_62 : zL wsX6_put RX6 62 6 25 (.array .int) true := zL6 iX6_put_6 (by decide) (List.mem_of_getElem? (i := 2) rfl) rfl rfl
theorem kX6_put_221 : zL wsX6_put RX6 221 6 26 .int false := zL6 iX6_put_6 (by decide) (List.mem_of_getElem? (i := 1) rfl) rfl rfl
set_option maxHeartbeats 4000000 in
set_option maxRecDepth 100000 in
theorem xX6_put_24 {C : zC} {D : va_G} {cyI cyB : ClassId} {aO : Nat → Nat} (x1 : Int32) (x2 : Int32) (oI : Nat → Int32) (oR : Nat → Nat → Int32) (F : zF C D { frames := 1, cells := 0, slots := 0, locals := 22 } cX6_put 3 wsX6_put RX6 (some .int) cyI cyB) {post : Int32 → (Nat → Int32) → (Nat → Nat → Int32) → Prop} (hRt : zRi C D cX6_put 3 (S := ((Nat → Int32) × (Nat → Nat → Int32))) (fun u => (wMo aO cyI u.1 u.2)) (fun r u => post r u.1 u.2)) (hw : bX6_put_24 x1 x2 oI oR post ) : zX C D 3 0 0 (wMo aO cyI oI oR) 24 [(0, .ref (aO 0)), (1, .int x1), (2, .int x2)] [] := by
  refine z_iload_n F dX6_put_24 25 rfl 2 rfl ?_
  obtain ⟨hwt, hwf⟩ := hw
  refine z_ifeq F dX6_put_25 34 rfl 28 rfl (fun c2 => ?_) (fun c2 => ?_)
  · have hw := hwt c2; clear hwt hwf
    refine z_aload_n F dX6_put_34 35 rfl 0 rfl ?_
    refine z_get F dX6_put_35 38 rfl kX6_put_62 0 rfl rfl ?_
    refine z_aload_n F dX6_put_38 39 rfl 0 rfl ?_
    refine z_get F dX6_put_39 42 rfl kX6_put_221 0 rfl rfl ?_
    refine z_iload_n F dX6_put_42 43 rfl 1 rfl ?_
    obtain ⟨j1, ej1, hj1, hw⟩ := hw
    refine z_iast F dX6_put_43 44 rfl 17 rfl (by decide) j1 ej1 hj1 (wMo aO cyI oI (va_up oR 25 (upd (oR 25) j1 x1))) rfl ?_
    refine z_aload_n F dX6_put_44 45 rfl 0 rfl ?_
    refine z_dup F dX6_put_45 46 rfl rfl ?_
    refine z_get F dX6_put_46 49 rfl kX6_put_221 0 rfl rfl ?_
    refine z_iconst F dX6_put_49 50 rfl zki_1 ?_
    refine z_iadd F dX6_put_50 51 rfl ?_
    refine z_topi (fun v1 ev1 => ?_)
    replace hw := hw v1 ev1
    refine z_put F dX6_put_51 54 rfl kX6_put_221 0 rfl rfl rfl (Nat.le_of_ble_eq_true rfl) (wMo aO cyI (va_up oI 26 v1) (va_up oR 25 (upd (oR 25) j1 x1))) rfl ?_
    refine z_aload_n F dX6_put_54 55 rfl 0 rfl ?_
    refine z_get F dX6_put_55 58 rfl kX6_put_221 0 rfl rfl ?_
    exact hRt 58 _ v1 ((va_up oI 26 v1), (va_up oR 25 (upd (oR 25) j1 x1))) dX6_put_58 hw
  · have hw := hwf c2; clear hwt hwf
    refine z_aload_n F dX6_put_28 29 rfl 0 rfl ?_
    refine z_iload_n F dX6_put_29 30 rfl 2 rfl ?_
    refine z_segVi (As := [.int x2]) (st := []) F dX6_put_30 33 rfl (mX6_no C.1.2.1 D cyI cyB aO x2 oI oR hw) y_X6_no rfl gX6_put_X6_no rfl (ci := 6) (rq := 0) rfl rfl ⟨Nat.le_of_ble_eq_true rfl, Nat.le_of_ble_eq_true rfl⟩ ⟨Nat.zero_le _, Nat.zero_le _⟩ (Nat.le_of_ble_eq_true rfl) [] [] (by simp only [List.append_assoc, List.nil_append, List.append_nil]) (fun _ => rfl) (fun u => (wMo aO cyI u.1 u.2)) (fun u => (by simp only [List.append_assoc, List.nil_append, List.append_nil])) (fun r2 u hp => ?_)
    obtain ⟨oI_1, oR_1⟩ := u
    replace hw := hp
    clear hp
    exact hRt 33 _ r2 (oI_1, oR_1) dX6_put_33 hw
set_option maxHeartbeats 4000000 in
set_option maxRecDepth 100000 in
theorem xX6_put_0 {C : zC} {D : va_G} {cyI cyB : ClassId} {aO : Nat → Nat} (x1 : Int32) (oI : Nat → Int32) (oR : Nat → Nat → Int32) (F : zF C D { frames := 1, cells := 0, slots := 0, locals := 22 } cX6_put 3 wsX6_put RX6 (some .int) cyI cyB) {post : Int32 → (Nat → Int32) → (Nat → Nat → Int32) → Prop} (hRt : zRi C D cX6_put 3 (S := ((Nat → Int32) × (Nat → Nat → Int32))) (fun u => (wMo aO cyI u.1 u.2)) (fun r u => post r u.1 u.2)) (hw : pX6_put x1 oI oR post) : zX C D 3 0 0 (wMo aO cyI oI oR) 0 [(0, .ref (aO 0)), (1, .int x1)] [] := by
  refine z_iload_n F dX6_put_0 1 rfl 1 rfl ?_
  refine z_iconst F dX6_put_1 2 rfl zki_0 ?_
  refine z_bipush F dX6_put_2 4 rfl zkb_7 ?_
  refine z_callSi (As := [.int x1, .int 0, .int 7]) (st := []) F dX6_put_4 7 rfl (mX6_bound C.1.2.1 D cyI cyB x1 0 7 hw) y_X6_bound rfl gX6_put_X6_bound ⟨Nat.le_of_ble_eq_true rfl, Nat.le_of_ble_eq_true rfl⟩ ⟨Nat.zero_le _, Nat.zero_le _⟩ (Nat.le_of_ble_eq_true rfl) [] (by decide) rfl (fun _ => rfl) (fun u => (wMo aO cyI oI oR)) (fun _ => rfl) (fun r1 u hp => ?_)
  replace hw := hp
  clear hp
  refine z_istore_n (lv' := [(2, .int r1), (0, .ref (aO 0)), (1, .int x1)]) F dX6_put_7 8 rfl (by decide) rfl ?_
  refine z_iload_n F dX6_put_8 9 rfl 0 rfl ?_
  obtain ⟨hwt, hwf⟩ := hw
  refine z_ifne F dX6_put_9 24 rfl 12 rfl (fun c1 => ?_) (fun c1 => ?_)
  · have hw := hwt c1; clear hwt hwf
    refine z_lv (lv' := [(0, .ref (aO 0)), (1, .int x1), (2, .int r1)]) [1, 2, 0] rfl ?_
    exact xX6_put_24 x1 r1 oI oR F hRt hw
  · have hw := hwf c1; clear hwt hwf
    refine z_aload_n F dX6_put_12 13 rfl 1 rfl ?_
    refine z_get F dX6_put_13 16 rfl kX6_put_221 0 rfl rfl ?_
    refine z_bipush F dX6_put_16 18 rfl zkb_8 ?_
    obtain ⟨hwt, hwf⟩ := hw
    refine z_icmpne F dX6_put_18 24 rfl 21 rfl (fun c2 => ?_) (fun c2 => ?_)
    · have hw := hwt c2; clear hwt hwf
      refine z_lv (lv' := [(0, .ref (aO 0)), (1, .int x1), (2, .int r1)]) [1, 2, 0] rfl ?_
      exact xX6_put_24 x1 r1 oI oR F hRt hw
    · have hw := hwf c2; clear hwt hwf
      refine z_bipush F dX6_put_21 23 rfl zkb_m6 ?_
      refine z_istore_n (lv' := [(2, .int (-6)), (0, .ref (aO 0)), (1, .int x1)]) F dX6_put_23 24 rfl (by decide) rfl ?_
      refine z_lv (lv' := [(0, .ref (aO 0)), (1, .int x1), (2, .int (-6))]) [1, 2, 0] rfl ?_
      exact xX6_put_24 x1 (-6) oI oR F hRt hw
set_option maxHeartbeats 4000000 in
set_option maxRecDepth 100000 in
theorem mX6_put (l : Launch) (D : va_G) (cyI cyB : ClassId) (aO : Nat → Nat) (x1 : Int32) (oI : Nat → Int32) (oR : Nat → Nat → Int32) {post : Int32 → (Nat → Int32) → (Nat → Nat → Int32) → Prop} (hw : pX6_put x1 oI oR post) : zMi l yX6_put wsX6_put 1 22 D cyI cyB [.ref (aO 0), .int x1] (wMo aO cyI oI oR) (S := ((Nat → Int32) × (Nat → Nat → Int32))) (fun u => (wMo aO cyI u.1 u.2)) (fun r u => post r u.1 u.2) :=
  z_meti (cc := cX6_put) (nL := 3) (by decide +kernel) rfl (Nat.le_of_ble_eq_true rfl) (fun C hl F hRt => xX6_put_0 x1 oI oR F hRt hw)
theorem y_X6_put : zY yX6_put wsX6_put cX6_put 3 (some .int) 1 := ⟨⟨_, rfl⟩, by decide +kernel⟩
theorem iX6_judge_6 : ∀ w ∈ wsX60, w ∈ wsX6_judge := fun w h => List.mem_cons_of_mem _ (List.mem_append_right _ h)
theorem kX6_judge_62 : zL wsX6_judge RX6 62 6 25 (.array .int) true := zL6 iX6_judge_6 (by decide) (List.mem_of_getElem? (i := 2) rfl) rfl rfl
theorem kX6_judge_221 : zL wsX6_judge RX6 221 6 26 .int false := zL6 iX6_judge_6 (by decide) (List.mem_of_getElem? (i := 1) rfl) rfl rfl
set_option maxHeartbeats 4000000 in
set_option maxRecDepth 100000 in
theorem xX6_judge_98 {C : zC} {D : va_G} {cyI cyB : ClassId} {aO : Nat → Nat} (x1 : Int32) (x2 : Int32) (x3 : Int32) (x4 : Int32) (oI : Nat → Int32) (oR : Nat → Nat → Int32) (F : zF C D { frames := 3, cells := 0, slots := 0, locals := 70 } cX6_judge 5 wsX6_judge RX6 (some .int) cyI cyB) {post : Int32 → (Nat → Int32) → (Nat → Nat → Int32) → Prop} (hRt : zRi C D cX6_judge 5 (S := ((Nat → Int32) × (Nat → Nat → Int32))) (fun u => (wMo aO cyI u.1 u.2)) (fun r u => post r u.1 u.2)) {q38 : Int32 → Int32 → (Nat → Int32) → (Nat → Nat → Int32) → Prop} (hq38 : ∀ (w3 : Int32) (w4 : Int32) (oI : Nat → Int32) (oR : Nat → Nat → Int32), q38 w3 w4 oI oR → zX C D 5 0 0 (wMo aO cyI oI oR) 38 [(0, .ref (aO 0)), (1, .int x1), (2, .int x2), (3, .int w3), (4, .int w4)] []) (hw : bX6_judge_98 x1 x2 x3 x4 oI oR post q38 ) : zX C D 5 0 0 (wMo aO cyI oI oR) 98 [(0, .ref (aO 0)), (1, .int x1), (2, .int x2), (3, .int x3), (4, .int x4)] [] := by
  refine z_iload_n F dX6_judge_98 99 rfl 1 rfl ?_
  refine z_iconst F dX6_judge_99 100 rfl zki_1 ?_
  obtain ⟨hwt, hwf⟩ := hw
  refine z_icmpne F dX6_judge_100 115 rfl 103 rfl (fun c5 => ?_) (fun c5 => ?_)
  · have hw := hwt c5; clear hwt hwf
    refine z_iinc F dX6_judge_115 118 rfl 4 rfl (by decide) zki_1 (fun v2 => [(4, .int v2), (0, .ref (aO 0)), (1, .int x1), (2, .int x2), (3, .int x3)]) (fun _ => rfl) (fun v2 ev2 => ?_)
    replace hw := hw v2 ev2
    refine z_goto F dX6_judge_118 38 rfl ?_
    refine z_lv (lv' := [(0, .ref (aO 0)), (1, .int x1), (2, .int x2), (3, .int x3), (4, .int v2)]) [1, 2, 3, 4, 0] rfl ?_
    exact hq38 x3 v2 oI oR hw
  · have hw := hwf c5; clear hwt hwf
    refine z_aload_n F dX6_judge_103 104 rfl 0 rfl ?_
    refine z_iconst F dX6_judge_104 105 rfl zki_0 ?_
    refine z_iload_n F dX6_judge_105 106 rfl 3 rfl ?_
    refine z_segVi (As := [.int 0, .int x3]) (st := []) F dX6_judge_106 109 rfl (mX6_carriesIt C.1.2.1 D cyI cyB aO 0 x3 oI oR hw) y_X6_carriesIt rfl gX6_judge_X6_carriesIt rfl (ci := 6) (rq := 0) rfl rfl ⟨Nat.le_of_ble_eq_true rfl, Nat.le_of_ble_eq_true rfl⟩ ⟨Nat.zero_le _, Nat.zero_le _⟩ (Nat.le_of_ble_eq_true rfl) [] [] (by simp only [List.append_assoc, List.nil_append, List.append_nil]) (fun _ => rfl) (fun u => (wMo aO cyI oI oR)) (fun u => (by simp only [List.append_assoc, List.nil_append, List.append_nil])) (fun r0 u hp => ?_)
    obtain ⟨b2, rfl, hw⟩ := hp
    obtain ⟨hwt, hwf⟩ := hw
    refine z_ifeqB F dX6_judge_109 115 rfl 112 rfl (fun c6 => ?_) (fun c6 => ?_)
    · have hw := hwt c6; clear hwt hwf
      refine z_iinc F dX6_judge_115 118 rfl 4 rfl (by decide) zki_1 (fun v3 => [(4, .int v3), (0, .ref (aO 0)), (1, .int x1), (2, .int x2), (3, .int x3)]) (fun _ => rfl) (fun v3 ev3 => ?_)
      replace hw := hw v3 ev3
      refine z_goto F dX6_judge_118 38 rfl ?_
      refine z_lv (lv' := [(0, .ref (aO 0)), (1, .int x1), (2, .int x2), (3, .int x3), (4, .int v3)]) [1, 2, 3, 4, 0] rfl ?_
      exact hq38 x3 v3 oI oR hw
    · have hw := hwf c6; clear hwt hwf
      refine z_iload F dX6_judge_112 114 rfl 4 rfl ?_
      exact hRt 114 _ x4 (oI, oR) dX6_judge_114 hw
set_option maxHeartbeats 4000000 in
set_option maxRecDepth 100000 in
theorem xX6_judge_38 {C : zC} {D : va_G} {cyI cyB : ClassId} {aO : Nat → Nat} (x1 : Int32) (x2 : Int32) (F : zF C D { frames := 3, cells := 0, slots := 0, locals := 70 } cX6_judge 5 wsX6_judge RX6 (some .int) cyI cyB) {post : Int32 → (Nat → Int32) → (Nat → Nat → Int32) → Prop} (hRt : zRi C D cX6_judge 5 (S := ((Nat → Int32) × (Nat → Nat → Int32))) (fun u => (wMo aO cyI u.1 u.2)) (fun r u => post r u.1 u.2)) {k58 : Int32 → (Nat → Int32) → (Nat → Nat → Int32) → Prop} (hk58 : ∀ (x4 : Int32) (oI : Nat → Int32) (oR : Nat → Nat → Int32), k58 x4 oI oR → zX C D 5 0 0 (wMo aO cyI oI oR) 58 [(1, .int x1), (4, .int x4)] []) : ∀ (n : Nat) (x3 : Int32) (x4 : Int32) (oI : Nat → Int32) (oR : Nat → Nat → Int32), bX6_judge_38 x1 x2 post k58  n x3 x4 oI oR → zX C D 5 0 0 (wMo aO cyI oI oR) 38 [(0, .ref (aO 0)), (1, .int x1), (2, .int x2), (3, .int x3), (4, .int x4)] [] := by
  intro n
  induction n with
  | zero => intro _ _ _ _ hw; exact hw.elim
  | succ n ih =>
    intro x3 x4 oI oR hw
    refine z_iload F dX6_judge_38 40 rfl 4 rfl ?_
    refine z_iload_n F dX6_judge_40 41 rfl 2 rfl ?_
    obtain ⟨hwt, hwf⟩ := hw
    refine z_icmpge F dX6_judge_41 121 rfl 44 rfl (fun c2 => ?_) (fun c2 => ?_)
    · have hw := hwt c2; clear hwt hwf
      refine z_bipush F dX6_judge_121 123 rfl zkb_m9 ?_
      exact hRt 123 _ (-9) (oI, oR) dX6_judge_123 hw
    · have hw := hwf c2; clear hwt hwf
      refine z_iload_n F dX6_judge_44 45 rfl 3 rfl ?_
      refine z_aload_n F dX6_judge_45 46 rfl 0 rfl ?_
      refine z_get F dX6_judge_46 49 rfl kX6_judge_62 0 rfl rfl ?_
      refine z_iload F dX6_judge_49 51 rfl 4 rfl ?_
      obtain ⟨j1, ej1, hj1, hw⟩ := hw
      refine z_iald F dX6_judge_51 52 rfl 17 rfl (by decide) j1 ej1 hj1 ?_
      refine z_ishr F dX6_judge_52 53 rfl ?_
      refine z_iconst F dX6_judge_53 54 rfl zki_1 ?_
      refine z_iand F dX6_judge_54 55 rfl ?_
      obtain ⟨hwt, hwf⟩ := hw
      refine z_ifne F dX6_judge_55 71 rfl 58 rfl (fun c3 => ?_) (fun c3 => ?_)
      · have hw := hwt c3; clear hwt hwf
        refine z_iload_n F dX6_judge_71 72 rfl 3 rfl ?_
        refine z_iconst F dX6_judge_72 73 rfl zki_1 ?_
        refine z_aload_n F dX6_judge_73 74 rfl 0 rfl ?_
        refine z_get F dX6_judge_74 77 rfl kX6_judge_62 0 rfl rfl ?_
        refine z_iload F dX6_judge_77 79 rfl 4 rfl ?_
        refine z_iald F dX6_judge_79 80 rfl 17 rfl (by decide) j1 ej1 hj1 ?_
        refine z_ishl F dX6_judge_80 81 rfl ?_
        refine z_iconst F dX6_judge_81 82 rfl zki_m1 ?_
        refine z_ixor F dX6_judge_82 83 rfl ?_
        refine z_iand F dX6_judge_83 84 rfl ?_
        refine z_topi (fun v1 ev1 => ?_)
        replace hw := hw v1 ev1
        refine z_istore_n (lv' := [(3, .int v1), (0, .ref (aO 0)), (1, .int x1), (2, .int x2), (4, .int x4)]) F dX6_judge_84 85 rfl (by decide) rfl ?_
        refine z_iload_n F dX6_judge_85 86 rfl 2 rfl ?_
        obtain ⟨hwt, hwf⟩ := hw
        refine z_ifne F dX6_judge_86 98 rfl 89 rfl (fun c4 => ?_) (fun c4 => ?_)
        · have hw := hwt c4; clear hwt hwf
          refine z_lv (lv' := [(0, .ref (aO 0)), (1, .int x1), (2, .int x2), (3, .int v1), (4, .int x4)]) [1, 2, 3, 0, 4] rfl ?_
          exact xX6_judge_98 x1 x2 v1 x4 oI oR F hRt ih hw
        · have hw := hwf c4; clear hwt hwf
          refine z_aload_n F dX6_judge_89 90 rfl 1 rfl ?_
          refine z_iconst F dX6_judge_90 91 rfl zki_0 ?_
          refine z_iload_n F dX6_judge_91 92 rfl 0 rfl ?_
          refine z_segVi (As := [.int 0, .int v1]) (st := []) F dX6_judge_92 95 rfl (mX6_losesIt C.1.2.1 D cyI cyB aO 0 v1 oI oR hw) y_X6_losesIt rfl gX6_judge_X6_losesIt rfl (ci := 6) (rq := 0) rfl rfl ⟨Nat.le_of_ble_eq_true rfl, Nat.le_of_ble_eq_true rfl⟩ ⟨Nat.zero_le _, Nat.zero_le _⟩ (Nat.le_of_ble_eq_true rfl) [] [] (by simp only [List.append_assoc, List.nil_append, List.append_nil]) (fun _ => rfl) (fun u => (wMo aO cyI oI oR)) (fun u => (by simp only [List.append_assoc, List.nil_append, List.append_nil])) (fun r0 u hp => ?_)
          obtain ⟨b2, rfl, hw⟩ := hp
          obtain ⟨hwt, hwf⟩ := hw
          refine z_ifneB F dX6_judge_95 112 rfl 98 rfl (fun c5 => ?_) (fun c5 => ?_)
          · have hw := hwt c5; clear hwt hwf
            refine z_iload F dX6_judge_112 114 rfl 4 rfl ?_
            exact hRt 114 _ x4 (oI, oR) dX6_judge_114 hw
          · have hw := hwf c5; clear hwt hwf
            refine z_lv (lv' := [(0, .ref (aO 0)), (1, .int x1), (2, .int x2), (3, .int v1), (4, .int x4)]) [1, 2, 3, 0, 4] rfl ?_
            exact xX6_judge_98 x1 x2 v1 x4 oI oR F hRt ih hw
      · have hw := hwf c3; clear hwt hwf
        refine z_lv (lv' := [(1, .int x1), (4, .int x4)]) [1, 4] rfl ?_
        exact hk58 x4 oI oR hw
set_option maxHeartbeats 4000000 in
set_option maxRecDepth 100000 in
theorem xX6_judge_0 {C : zC} {D : va_G} {cyI cyB : ClassId} {aO : Nat → Nat} (x1 : Int32) (oI : Nat → Int32) (oR : Nat → Nat → Int32) (F : zF C D { frames := 3, cells := 0, slots := 0, locals := 70 } cX6_judge 5 wsX6_judge RX6 (some .int) cyI cyB) {post : Int32 → (Nat → Int32) → (Nat → Nat → Int32) → Prop} (hRt : zRi C D cX6_judge 5 (S := ((Nat → Int32) × (Nat → Nat → Int32))) (fun u => (wMo aO cyI u.1 u.2)) (fun r u => post r u.1 u.2)) (hw : pX6_judge x1 oI oR post) : zX C D 5 0 0 (wMo aO cyI oI oR) 0 [(0, .ref (aO 0)), (1, .int x1)] [] := by
  refine z_iload_n F dX6_judge_0 1 rfl 1 rfl ?_
  refine z_iconst F dX6_judge_1 2 rfl zki_0 ?_
  refine z_iconst F dX6_judge_2 3 rfl zki_2 ?_
  refine z_callSi (As := [.int x1, .int 0, .int 2]) (st := []) F dX6_judge_3 6 rfl (mX6_isIn C.1.2.1 D cyI cyB x1 0 2 hw) y_X6_isIn rfl gX6_judge_X6_isIn ⟨Nat.le_of_ble_eq_true rfl, Nat.le_of_ble_eq_true rfl⟩ ⟨Nat.zero_le _, Nat.zero_le _⟩ (Nat.le_of_ble_eq_true rfl) [] (by decide) rfl (fun _ => rfl) (fun u => (wMo aO cyI oI oR)) (fun _ => rfl) (fun r0 u hp => ?_)
  obtain ⟨b1, rfl, hw⟩ := hp
  obtain ⟨hwt, hwf⟩ := hw
  refine z_ifneB F dX6_judge_6 16 rfl 9 rfl (fun c1 => ?_) (fun c1 => ?_)
  · have hw := hwt c1; clear hwt hwf
    refine z_aload_n F dX6_judge_16 17 rfl 0 rfl ?_
    refine z_get F dX6_judge_17 20 rfl kX6_judge_221 0 rfl rfl ?_
    refine z_istore_n (lv' := [(2, .int (oI 26)), (0, .ref (aO 0)), (1, .int x1)]) F dX6_judge_20 21 rfl (by decide) rfl ?_
    refine z_aload_n F dX6_judge_21 22 rfl 1 rfl ?_
    refine z_iconst F dX6_judge_22 23 rfl zki_0 ?_
    refine z_put F dX6_judge_23 26 rfl kX6_judge_221 0 rfl rfl rfl (Nat.le_of_ble_eq_true rfl) (wMo aO cyI (va_up oI 26 0) oR) rfl ?_
    refine z_aload_n F dX6_judge_26 27 rfl 1 rfl ?_
    refine z_segVv (As := []) (st := []) F dX6_judge_27 30 rfl (mX6_findKnown C.1.2.1 D cyI cyB aO (va_up oI 26 0) oR hw) y_X6_findKnown rfl gX6_judge_X6_findKnown rfl (ci := 6) (rq := 0) rfl rfl ⟨Nat.le_of_ble_eq_true rfl, Nat.le_of_ble_eq_true rfl⟩ ⟨Nat.zero_le _, Nat.zero_le _⟩ (Nat.le_of_ble_eq_true rfl) [] [] (by simp only [List.append_assoc, List.nil_append, List.append_nil]) (fun _ => rfl) (fun u => (wMo aO cyI u.1 u.2)) (fun u => (by simp only [List.append_assoc, List.nil_append, List.append_nil])) (fun u hp => ?_)
    obtain ⟨oI_1, oR_1⟩ := u
    replace hw := hp
    clear hp
    refine z_aload_n F dX6_judge_30 31 rfl 1 rfl ?_
    refine z_segVi (As := []) (st := []) F dX6_judge_31 34 rfl (mX6_houseSet C.1.2.1 D cyI cyB aO oI_1 oR_1 hw) y_X6_houseSet rfl gX6_judge_X6_houseSet rfl (ci := 6) (rq := 0) rfl rfl ⟨Nat.le_of_ble_eq_true rfl, Nat.le_of_ble_eq_true rfl⟩ ⟨Nat.zero_le _, Nat.zero_le _⟩ (Nat.le_of_ble_eq_true rfl) [] [] (by simp only [List.append_assoc, List.nil_append, List.append_nil]) (fun _ => rfl) (fun u => (wMo aO cyI oI_1 oR_1)) (fun u => (by simp only [List.append_assoc, List.nil_append, List.append_nil])) (fun r1 u hp => ?_)
    replace hw := hp
    clear hp
    refine z_istore_n (lv' := [(3, .int r1), (2, .int (oI 26)), (0, .ref (aO 0)), (1, .int x1)]) F dX6_judge_34 35 rfl (by decide) rfl ?_
    refine z_iconst F dX6_judge_35 36 rfl zki_0 ?_
    refine z_istore (lv' := [(4, .int 0), (3, .int r1), (2, .int (oI 26)), (0, .ref (aO 0)), (1, .int x1)]) F dX6_judge_36 38 rfl (by decide) rfl ?_
    obtain ⟨n1, hw⟩ := hw
    refine z_lv (lv' := [(0, .ref (aO 0)), (1, .int x1), (2, .int (oI 26)), (3, .int r1), (4, .int 0)]) [3, 4, 2, 1, 0] rfl ?_
    refine xX6_judge_38 x1 (oI 26) F hRt (fun w1 oI_2 oR_2 hw => ?_) n1 r1 0 oI_1 oR_1 hw
    refine z_iload_n F dX6_judge_58 59 rfl 0 rfl ?_
    refine z_iconst F dX6_judge_59 60 rfl zki_2 ?_
    obtain ⟨hwt, hwf⟩ := hw
    refine z_icmpne F dX6_judge_60 68 rfl 63 rfl (fun c2 => ?_) (fun c2 => ?_)
    · have hw := hwt c2; clear hwt hwf
      refine z_bipush F dX6_judge_68 70 rfl zkb_m9 ?_
      exact hRt 70 _ (-9) (oI_2, oR_2) dX6_judge_70 hw
    · have hw := hwf c2; clear hwt hwf
      refine z_iload F dX6_judge_63 65 rfl 1 rfl ?_
      refine z_goto F dX6_judge_65 70 rfl ?_
      exact hRt 70 _ w1 (oI_2, oR_2) dX6_judge_70 hw
  · have hw := hwf c1; clear hwt hwf
    refine z_aload_n F dX6_judge_9 10 rfl 0 rfl ?_
    refine z_bipush F dX6_judge_10 12 rfl zkb_m2 ?_
    refine z_segVi (As := [.int (-2)]) (st := []) F dX6_judge_12 15 rfl (mX6_no C.1.2.1 D cyI cyB aO (-2) oI oR hw) y_X6_no rfl gX6_judge_X6_no rfl (ci := 6) (rq := 0) rfl rfl ⟨Nat.le_of_ble_eq_true rfl, Nat.le_of_ble_eq_true rfl⟩ ⟨Nat.zero_le _, Nat.zero_le _⟩ (Nat.le_of_ble_eq_true rfl) [] [] (by simp only [List.append_assoc, List.nil_append, List.append_nil]) (fun _ => rfl) (fun u => (wMo aO cyI u.1 u.2)) (fun u => (by simp only [List.append_assoc, List.nil_append, List.append_nil])) (fun r2 u hp => ?_)
    obtain ⟨oI_3, oR_3⟩ := u
    replace hw := hp
    clear hp
    exact hRt 15 _ r2 (oI_3, oR_3) dX6_judge_15 hw
set_option maxHeartbeats 4000000 in
set_option maxRecDepth 100000 in
theorem mX6_judge (l : Launch) (D : va_G) (cyI cyB : ClassId) (aO : Nat → Nat) (x1 : Int32) (oI : Nat → Int32) (oR : Nat → Nat → Int32) {post : Int32 → (Nat → Int32) → (Nat → Nat → Int32) → Prop} (hw : pX6_judge x1 oI oR post) : zMi l yX6_judge wsX6_judge 3 70 D cyI cyB [.ref (aO 0), .int x1] (wMo aO cyI oI oR) (S := ((Nat → Int32) × (Nat → Nat → Int32))) (fun u => (wMo aO cyI u.1 u.2)) (fun r u => post r u.1 u.2) :=
  z_meti (cc := cX6_judge) (nL := 5) (by decide +kernel) rfl (Nat.le_of_ble_eq_true rfl) (fun C hl F hRt => xX6_judge_0 x1 oI oR F hRt hw)
theorem y_X6_judge : zY yX6_judge wsX6_judge cX6_judge 5 (some .int) 1 := ⟨⟨_, rfl⟩, by decide +kernel⟩
theorem iX6_passOne_6 : ∀ w ∈ wsX60, w ∈ wsX6_passOne := fun w h => List.mem_cons_of_mem _ (List.mem_append_right _ h)
theorem kX6_passOne_65 : zL wsX6_passOne RX6 65 6 27 (.array .int) true := zL6 iX6_passOne_6 (by decide) (List.mem_of_getElem? (i := 2) rfl) rfl rfl
theorem kX6_passOne_224 : zL wsX6_passOne RX6 224 6 29 .boolean false := zL6 iX6_passOne_6 (by decide) (List.mem_of_getElem? (i := 1) rfl) rfl rfl
theorem kX6_passOne_228 : zL wsX6_passOne RX6 228 6 30 .int false := zL6 iX6_passOne_6 (by decide) (List.mem_of_getElem? (i := 3) rfl) rfl rfl
set_option maxHeartbeats 4000000 in
set_option maxRecDepth 100000 in
theorem xX6_passOne_20 {C : zC} {D : va_G} {cyI cyB : ClassId} {aO : Nat → Nat} (x1 : Int32) (s0 : Int32) (oI : Nat → Int32) (oR : Nat → Nat → Int32) (F : zF C D { frames := 0, cells := 0, slots := 0, locals := 0 } cX6_passOne 3 wsX6_passOne RX6 (some .int) cyI cyB) {post : Int32 → (Nat → Int32) → (Nat → Nat → Int32) → Prop} (hRt : zRi C D cX6_passOne 3 (S := ((Nat → Int32) × (Nat → Nat → Int32))) (fun u => (wMo aO cyI u.1 u.2)) (fun r u => post r u.1 u.2)) (hw : bX6_passOne_20 x1 s0 oI oR post ) : zX C D 3 0 0 (wMo aO cyI oI oR) 20 [(0, .ref (aO 0)), (1, .int x1)] [.int s0] := by
  refine z_istore_n (lv' := [(2, .int s0), (0, .ref (aO 0)), (1, .int x1)]) F dX6_passOne_20 21 rfl (by decide) rfl ?_
  refine z_aload_n F dX6_passOne_21 22 rfl 1 rfl ?_
  refine z_get F dX6_passOne_22 25 rfl kX6_passOne_224 0 rfl rfl ?_
  obtain ⟨hwt, hwf⟩ := hw
  refine z_ifeq F dX6_passOne_25 38 rfl 28 rfl (fun c2 => ?_) (fun c2 => ?_)
  · have hw := hwt c2; clear hwt hwf
    refine z_aload_n F dX6_passOne_38 39 rfl 1 rfl ?_
    refine z_dup F dX6_passOne_39 40 rfl rfl ?_
    refine z_get F dX6_passOne_40 43 rfl kX6_passOne_228 0 rfl rfl ?_
    refine z_iconst F dX6_passOne_43 44 rfl zki_1 ?_
    refine z_iadd F dX6_passOne_44 45 rfl ?_
    refine z_topi (fun v1 ev1 => ?_)
    replace hw := hw v1 ev1
    refine z_put F dX6_passOne_45 48 rfl kX6_passOne_228 0 rfl rfl rfl (Nat.le_of_ble_eq_true rfl) (wMo aO cyI (va_up oI 30 v1) oR) rfl ?_
    refine z_iload_n F dX6_passOne_48 49 rfl 0 rfl ?_
    exact hRt 49 _ s0 ((va_up oI 30 v1), oR) dX6_passOne_49 hw
  · have hw := hwf c2; clear hwt hwf
    refine z_aload_n F dX6_passOne_28 29 rfl 1 rfl ?_
    refine z_get F dX6_passOne_29 32 rfl kX6_passOne_65 0 rfl rfl ?_
    refine z_aload_n F dX6_passOne_32 33 rfl 1 rfl ?_
    refine z_get F dX6_passOne_33 36 rfl kX6_passOne_228 0 rfl rfl ?_
    refine z_iload_n F dX6_passOne_36 37 rfl 2 rfl ?_
    obtain ⟨j2, ej2, hj2, hw⟩ := hw
    refine z_iast F dX6_passOne_37 38 rfl 18 rfl (by decide) j2 ej2 hj2 (wMo aO cyI oI (va_up oR 27 (upd (oR 27) j2 x1))) rfl ?_
    refine z_aload_n F dX6_passOne_38 39 rfl 1 rfl ?_
    refine z_dup F dX6_passOne_39 40 rfl rfl ?_
    refine z_get F dX6_passOne_40 43 rfl kX6_passOne_228 0 rfl rfl ?_
    refine z_iconst F dX6_passOne_43 44 rfl zki_1 ?_
    refine z_iadd F dX6_passOne_44 45 rfl ?_
    refine z_topi (fun v2 ev2 => ?_)
    replace hw := hw v2 ev2
    refine z_put F dX6_passOne_45 48 rfl kX6_passOne_228 0 rfl rfl rfl (Nat.le_of_ble_eq_true rfl) (wMo aO cyI (va_up oI 30 v2) (va_up oR 27 (upd (oR 27) j2 x1))) rfl ?_
    refine z_iload_n F dX6_passOne_48 49 rfl 0 rfl ?_
    exact hRt 49 _ s0 ((va_up oI 30 v2), (va_up oR 27 (upd (oR 27) j2 x1))) dX6_passOne_49 hw
set_option maxHeartbeats 4000000 in
set_option maxRecDepth 100000 in
theorem xX6_passOne_0 {C : zC} {D : va_G} {cyI cyB : ClassId} {aO : Nat → Nat} (x1 : Int32) (oI : Nat → Int32) (oR : Nat → Nat → Int32) (F : zF C D { frames := 0, cells := 0, slots := 0, locals := 0 } cX6_passOne 3 wsX6_passOne RX6 (some .int) cyI cyB) {post : Int32 → (Nat → Int32) → (Nat → Nat → Int32) → Prop} (hRt : zRi C D cX6_passOne 3 (S := ((Nat → Int32) × (Nat → Nat → Int32))) (fun u => (wMo aO cyI u.1 u.2)) (fun r u => post r u.1 u.2)) (hw : pX6_passOne x1 oI oR post) : zX C D 3 0 0 (wMo aO cyI oI oR) 0 [(0, .ref (aO 0)), (1, .int x1)] [] := by
  refine z_aload_n F dX6_passOne_0 1 rfl 0 rfl ?_
  refine z_get F dX6_passOne_1 4 rfl kX6_passOne_224 0 rfl rfl ?_
  obtain ⟨hwt, hwf⟩ := hw
  refine z_ifeq F dX6_passOne_4 11 rfl 7 rfl (fun c1 => ?_) (fun c1 => ?_)
  · have hw := hwt c1; clear hwt hwf
    refine z_aload_n F dX6_passOne_11 12 rfl 0 rfl ?_
    refine z_get F dX6_passOne_12 15 rfl kX6_passOne_65 0 rfl rfl ?_
    refine z_aload_n F dX6_passOne_15 16 rfl 0 rfl ?_
    refine z_get F dX6_passOne_16 19 rfl kX6_passOne_228 0 rfl rfl ?_
    obtain ⟨j1, ej1, hj1, hw⟩ := hw
    refine z_iald F dX6_passOne_19 20 rfl 18 rfl (by decide) j1 ej1 hj1 ?_
    exact xX6_passOne_20 x1 ((oR 27) j1) oI oR F hRt hw
  · have hw := hwf c1; clear hwt hwf
    refine z_iload_n F dX6_passOne_7 8 rfl 1 rfl ?_
    refine z_goto F dX6_passOne_8 20 rfl ?_
    exact xX6_passOne_20 x1 x1 oI oR F hRt hw
set_option maxHeartbeats 4000000 in
set_option maxRecDepth 100000 in
theorem mX6_passOne (l : Launch) (D : va_G) (cyI cyB : ClassId) (aO : Nat → Nat) (x1 : Int32) (oI : Nat → Int32) (oR : Nat → Nat → Int32) {post : Int32 → (Nat → Int32) → (Nat → Nat → Int32) → Prop} (hw : pX6_passOne x1 oI oR post) : zMi l yX6_passOne wsX6_passOne 0 0 D cyI cyB [.ref (aO 0), .int x1] (wMo aO cyI oI oR) (S := ((Nat → Int32) × (Nat → Nat → Int32))) (fun u => (wMo aO cyI u.1 u.2)) (fun r u => post r u.1 u.2) :=
  z_meti (cc := cX6_passOne) (nL := 3) (by decide +kernel) rfl (Nat.le_of_ble_eq_true rfl) (fun C hl F hRt => xX6_passOne_0 x1 oI oR F hRt hw)
theorem y_X6_passOne : zY yX6_passOne wsX6_passOne cX6_passOne 3 (some .int) 1 := ⟨⟨_, rfl⟩, by decide +kernel⟩
theorem iX6_passes_1_6 : ∀ w ∈ wsX60, w ∈ wsX6_passes := fun w h => List.mem_cons_of_mem _ (List.mem_append_right _ h)
theorem kX6_passes_1_65 : zL wsX6_passes RX6 65 6 27 (.array .int) true := zL6 iX6_passes_1_6 (by decide) (List.mem_of_getElem? (i := 2) rfl) rfl rfl
theorem kX6_passes_1_224 : zL wsX6_passes RX6 224 6 29 .boolean false := zL6 iX6_passes_1_6 (by decide) (List.mem_of_getElem? (i := 1) rfl) rfl rfl
theorem kX6_passes_1_228 : zL wsX6_passes RX6 228 6 30 .int false := zL6 iX6_passes_1_6 (by decide) (List.mem_of_getElem? (i := 3) rfl) rfl rfl
set_option maxHeartbeats 4000000 in
set_option maxRecDepth 100000 in
theorem xX6_passes_1_2 {C : zC} {D : va_G} {cyI cyB : ClassId} {aO : Nat → Nat} (F : zF C D { frames := 0, cells := 0, slots := 0, locals := 0 } cX6_passes 3 wsX6_passes RX6 none cyI cyB) {post : (Nat → Int32) → (Nat → Nat → Int32) → Prop} (hRt : zRv C D cX6_passes 3 (S := ((Nat → Int32) × (Nat → Nat → Int32))) (fun u => (wMo aO cyI u.1 u.2)) (fun u => post u.1 u.2)) : ∀ (n : Nat) (x2 : Int32) (oI : Nat → Int32) (oR : Nat → Nat → Int32), bX6_passes_1_2 post  n x2 oI oR → zX C D 3 0 0 (wMo aO cyI oI oR) 2 [(0, .ref (aO 0)), (1, .ref (aO 2)), (2, .int x2)] [] := by
  intro n
  induction n with
  | zero => intro _ _ _ hw; exact hw.elim
  | succ n ih =>
    intro x2 oI oR hw
    refine z_iload_n F dX6_passes_2 3 rfl 2 rfl ?_
    refine z_aload_n F dX6_passes_3 4 rfl 1 rfl ?_
    refine z_alen F dX6_passes_4 5 rfl 2 rfl ?_
    obtain ⟨hwt, hwf⟩ := hw
    refine z_icmpge F dX6_passes_5 58 rfl 8 rfl (fun c1 => ?_) (fun c1 => ?_)
    · have hw := hwt c1; clear hwt hwf
      exact hRt 58 _ (oI, oR) dX6_passes_58 hw
    · have hw := hwf c1; clear hwt hwf
      refine z_aload_n F dX6_passes_8 9 rfl 0 rfl ?_
      refine z_get F dX6_passes_9 12 rfl kX6_passes_1_224 0 rfl rfl ?_
      obtain ⟨hwt, hwf⟩ := hw
      refine z_ifeq F dX6_passes_12 30 rfl 15 rfl (fun c2 => ?_) (fun c2 => ?_)
      · have hw := hwt c2; clear hwt hwf
        refine z_aload_n F dX6_passes_30 31 rfl 1 rfl ?_
        refine z_iload_n F dX6_passes_31 32 rfl 2 rfl ?_
        refine z_aload_n F dX6_passes_32 33 rfl 0 rfl ?_
        refine z_get F dX6_passes_33 36 rfl kX6_passes_1_65 0 rfl rfl ?_
        refine z_aload_n F dX6_passes_36 37 rfl 0 rfl ?_
        refine z_get F dX6_passes_37 40 rfl kX6_passes_1_228 0 rfl rfl ?_
        obtain ⟨j1, ej1, hj1, hw⟩ := hw
        refine z_iald F dX6_passes_40 41 rfl 18 rfl (by decide) j1 ej1 hj1 ?_
        refine z_topi (fun v1 ev1 => ?_)
        replace hw := hw v1 ev1
        obtain ⟨j2, ej2, hj2, hw⟩ := hw
        refine z_iast F dX6_passes_41 42 rfl 2 rfl (by decide) j2 ej2 hj2 (wMo aO cyI oI (va_up oR 1 (upd (oR 1) j2 v1))) rfl ?_
        refine z_aload_n F dX6_passes_42 43 rfl 0 rfl ?_
        refine z_dup F dX6_passes_43 44 rfl rfl ?_
        refine z_get F dX6_passes_44 47 rfl kX6_passes_1_228 0 rfl rfl ?_
        refine z_iconst F dX6_passes_47 48 rfl zki_1 ?_
        refine z_iadd F dX6_passes_48 49 rfl ?_
        refine z_topi (fun v2 ev2 => ?_)
        replace hw := hw v2 ev2
        refine z_put F dX6_passes_49 52 rfl kX6_passes_1_228 0 rfl rfl rfl (Nat.le_of_ble_eq_true rfl) (wMo aO cyI (va_up oI 30 v2) (va_up oR 1 (upd (oR 1) j2 v1))) rfl ?_
        refine z_iinc F dX6_passes_52 55 rfl 2 rfl (by decide) zki_1 (fun v3 => [(2, .int v3), (0, .ref (aO 0)), (1, .ref (aO 2))]) (fun _ => rfl) (fun v3 ev3 => ?_)
        replace hw := hw v3 ev3
        refine z_goto F dX6_passes_55 2 rfl ?_
        refine z_lv (lv' := [(0, .ref (aO 0)), (1, .ref (aO 2)), (2, .int v3)]) [1, 2, 0] rfl ?_
        exact ih v3 (va_up oI 30 v2) (va_up oR 1 (upd (oR 1) j2 v1)) hw
      · have hw := hwf c2; clear hwt hwf
        refine z_aload_n F dX6_passes_15 16 rfl 0 rfl ?_
        refine z_get F dX6_passes_16 19 rfl kX6_passes_1_65 0 rfl rfl ?_
        refine z_aload_n F dX6_passes_19 20 rfl 0 rfl ?_
        refine z_get F dX6_passes_20 23 rfl kX6_passes_1_228 0 rfl rfl ?_
        refine z_aload_n F dX6_passes_23 24 rfl 1 rfl ?_
        refine z_iload_n F dX6_passes_24 25 rfl 2 rfl ?_
        obtain ⟨j3, ej3, hj3, hw⟩ := hw
        refine z_iald F dX6_passes_25 26 rfl 2 rfl (by decide) j3 ej3 hj3 ?_
        refine z_topi (fun v4 ev4 => ?_)
        replace hw := hw v4 ev4
        obtain ⟨j4, ej4, hj4, hw⟩ := hw
        refine z_iast F dX6_passes_26 27 rfl 18 rfl (by decide) j4 ej4 hj4 (wMo aO cyI oI (va_up oR 27 (upd (oR 27) j4 v4))) rfl ?_
        refine z_goto F dX6_passes_27 42 rfl ?_
        refine z_aload_n F dX6_passes_42 43 rfl 0 rfl ?_
        refine z_dup F dX6_passes_43 44 rfl rfl ?_
        refine z_get F dX6_passes_44 47 rfl kX6_passes_1_228 0 rfl rfl ?_
        refine z_iconst F dX6_passes_47 48 rfl zki_1 ?_
        refine z_iadd F dX6_passes_48 49 rfl ?_
        refine z_topi (fun v5 ev5 => ?_)
        replace hw := hw v5 ev5
        refine z_put F dX6_passes_49 52 rfl kX6_passes_1_228 0 rfl rfl rfl (Nat.le_of_ble_eq_true rfl) (wMo aO cyI (va_up oI 30 v5) (va_up oR 27 (upd (oR 27) j4 v4))) rfl ?_
        refine z_iinc F dX6_passes_52 55 rfl 2 rfl (by decide) zki_1 (fun v6 => [(2, .int v6), (0, .ref (aO 0)), (1, .ref (aO 2))]) (fun _ => rfl) (fun v6 ev6 => ?_)
        replace hw := hw v6 ev6
        refine z_goto F dX6_passes_55 2 rfl ?_
        refine z_lv (lv' := [(0, .ref (aO 0)), (1, .ref (aO 2)), (2, .int v6)]) [1, 2, 0] rfl ?_
        exact ih v6 (va_up oI 30 v5) (va_up oR 27 (upd (oR 27) j4 v4)) hw
set_option maxHeartbeats 4000000 in
set_option maxRecDepth 100000 in
theorem xX6_passes_1_0 {C : zC} {D : va_G} {cyI cyB : ClassId} {aO : Nat → Nat} (oI : Nat → Int32) (oR : Nat → Nat → Int32) (F : zF C D { frames := 0, cells := 0, slots := 0, locals := 0 } cX6_passes 3 wsX6_passes RX6 none cyI cyB) {post : (Nat → Int32) → (Nat → Nat → Int32) → Prop} (hRt : zRv C D cX6_passes 3 (S := ((Nat → Int32) × (Nat → Nat → Int32))) (fun u => (wMo aO cyI u.1 u.2)) (fun u => post u.1 u.2)) (hw : pX6_passes_1 oI oR post) : zX C D 3 0 0 (wMo aO cyI oI oR) 0 [(0, .ref (aO 0)), (1, .ref (aO 2))] [] := by
  refine z_iconst F dX6_passes_0 1 rfl zki_0 ?_
  refine z_istore_n (lv' := [(2, .int 0), (0, .ref (aO 0)), (1, .ref (aO 2))]) F dX6_passes_1 2 rfl (by decide) rfl ?_
  obtain ⟨n1, hw⟩ := hw
  refine z_lv (lv' := [(0, .ref (aO 0)), (1, .ref (aO 2)), (2, .int 0)]) [1, 2, 0] rfl ?_
  refine xX6_passes_1_2 F hRt n1 0 oI oR hw
set_option maxHeartbeats 4000000 in
set_option maxRecDepth 100000 in
theorem mX6_passes_1 (l : Launch) (D : va_G) (cyI cyB : ClassId) (aO : Nat → Nat) (oI : Nat → Int32) (oR : Nat → Nat → Int32) {post : (Nat → Int32) → (Nat → Nat → Int32) → Prop} (hw : pX6_passes_1 oI oR post) : zMv l yX6_passes wsX6_passes 0 0 D cyI cyB [.ref (aO 0), .ref (aO 2)] (wMo aO cyI oI oR) (S := ((Nat → Int32) × (Nat → Nat → Int32))) (fun u => (wMo aO cyI u.1 u.2)) (fun u => post u.1 u.2) :=
  z_metv (cc := cX6_passes) (nL := 3) (by decide +kernel) rfl (Nat.le_of_ble_eq_true rfl) (fun C hl F hRt => xX6_passes_1_0 oI oR F hRt hw)
theorem y_X6_passes_1 : zY yX6_passes wsX6_passes cX6_passes 3 none 1 := ⟨⟨_, rfl⟩, by decide +kernel⟩
theorem iX6_passes_2_6 : ∀ w ∈ wsX60, w ∈ wsX6_passes := fun w h => List.mem_cons_of_mem _ (List.mem_append_right _ h)
theorem kX6_passes_2_65 : zL wsX6_passes RX6 65 6 27 (.array .int) true := zL6 iX6_passes_2_6 (by decide) (List.mem_of_getElem? (i := 2) rfl) rfl rfl
theorem kX6_passes_2_224 : zL wsX6_passes RX6 224 6 29 .boolean false := zL6 iX6_passes_2_6 (by decide) (List.mem_of_getElem? (i := 1) rfl) rfl rfl
theorem kX6_passes_2_228 : zL wsX6_passes RX6 228 6 30 .int false := zL6 iX6_passes_2_6 (by decide) (List.mem_of_getElem? (i := 3) rfl) rfl rfl
set_option maxHeartbeats 4000000 in
set_option maxRecDepth 100000 in
theorem xX6_passes_2_2 {C : zC} {D : va_G} {cyI cyB : ClassId} {aO : Nat → Nat} (F : zF C D { frames := 0, cells := 0, slots := 0, locals := 0 } cX6_passes 3 wsX6_passes RX6 none cyI cyB) {post : (Nat → Int32) → (Nat → Nat → Int32) → Prop} (hRt : zRv C D cX6_passes 3 (S := ((Nat → Int32) × (Nat → Nat → Int32))) (fun u => (wMo aO cyI u.1 u.2)) (fun u => post u.1 u.2)) : ∀ (n : Nat) (x2 : Int32) (oI : Nat → Int32) (oR : Nat → Nat → Int32), bX6_passes_2_2 post  n x2 oI oR → zX C D 3 0 0 (wMo aO cyI oI oR) 2 [(0, .ref (aO 0)), (1, .ref (aO 3)), (2, .int x2)] [] := by
  intro n
  induction n with
  | zero => intro _ _ _ hw; exact hw.elim
  | succ n ih =>
    intro x2 oI oR hw
    refine z_iload_n F dX6_passes_2 3 rfl 2 rfl ?_
    refine z_aload_n F dX6_passes_3 4 rfl 1 rfl ?_
    refine z_alen F dX6_passes_4 5 rfl 3 rfl ?_
    obtain ⟨hwt, hwf⟩ := hw
    refine z_icmpge F dX6_passes_5 58 rfl 8 rfl (fun c1 => ?_) (fun c1 => ?_)
    · have hw := hwt c1; clear hwt hwf
      exact hRt 58 _ (oI, oR) dX6_passes_58 hw
    · have hw := hwf c1; clear hwt hwf
      refine z_aload_n F dX6_passes_8 9 rfl 0 rfl ?_
      refine z_get F dX6_passes_9 12 rfl kX6_passes_2_224 0 rfl rfl ?_
      obtain ⟨hwt, hwf⟩ := hw
      refine z_ifeq F dX6_passes_12 30 rfl 15 rfl (fun c2 => ?_) (fun c2 => ?_)
      · have hw := hwt c2; clear hwt hwf
        refine z_aload_n F dX6_passes_30 31 rfl 1 rfl ?_
        refine z_iload_n F dX6_passes_31 32 rfl 2 rfl ?_
        refine z_aload_n F dX6_passes_32 33 rfl 0 rfl ?_
        refine z_get F dX6_passes_33 36 rfl kX6_passes_2_65 0 rfl rfl ?_
        refine z_aload_n F dX6_passes_36 37 rfl 0 rfl ?_
        refine z_get F dX6_passes_37 40 rfl kX6_passes_2_228 0 rfl rfl ?_
        obtain ⟨j1, ej1, hj1, hw⟩ := hw
        refine z_iald F dX6_passes_40 41 rfl 18 rfl (by decide) j1 ej1 hj1 ?_
        refine z_topi (fun v1 ev1 => ?_)
        replace hw := hw v1 ev1
        obtain ⟨j2, ej2, hj2, hw⟩ := hw
        refine z_iast F dX6_passes_41 42 rfl 3 rfl (by decide) j2 ej2 hj2 (wMo aO cyI oI (va_up oR 2 (upd (oR 2) j2 v1))) rfl ?_
        refine z_aload_n F dX6_passes_42 43 rfl 0 rfl ?_
        refine z_dup F dX6_passes_43 44 rfl rfl ?_
        refine z_get F dX6_passes_44 47 rfl kX6_passes_2_228 0 rfl rfl ?_
        refine z_iconst F dX6_passes_47 48 rfl zki_1 ?_
        refine z_iadd F dX6_passes_48 49 rfl ?_
        refine z_topi (fun v2 ev2 => ?_)
        replace hw := hw v2 ev2
        refine z_put F dX6_passes_49 52 rfl kX6_passes_2_228 0 rfl rfl rfl (Nat.le_of_ble_eq_true rfl) (wMo aO cyI (va_up oI 30 v2) (va_up oR 2 (upd (oR 2) j2 v1))) rfl ?_
        refine z_iinc F dX6_passes_52 55 rfl 2 rfl (by decide) zki_1 (fun v3 => [(2, .int v3), (0, .ref (aO 0)), (1, .ref (aO 3))]) (fun _ => rfl) (fun v3 ev3 => ?_)
        replace hw := hw v3 ev3
        refine z_goto F dX6_passes_55 2 rfl ?_
        refine z_lv (lv' := [(0, .ref (aO 0)), (1, .ref (aO 3)), (2, .int v3)]) [1, 2, 0] rfl ?_
        exact ih v3 (va_up oI 30 v2) (va_up oR 2 (upd (oR 2) j2 v1)) hw
      · have hw := hwf c2; clear hwt hwf
        refine z_aload_n F dX6_passes_15 16 rfl 0 rfl ?_
        refine z_get F dX6_passes_16 19 rfl kX6_passes_2_65 0 rfl rfl ?_
        refine z_aload_n F dX6_passes_19 20 rfl 0 rfl ?_
        refine z_get F dX6_passes_20 23 rfl kX6_passes_2_228 0 rfl rfl ?_
        refine z_aload_n F dX6_passes_23 24 rfl 1 rfl ?_
        refine z_iload_n F dX6_passes_24 25 rfl 2 rfl ?_
        obtain ⟨j3, ej3, hj3, hw⟩ := hw
        refine z_iald F dX6_passes_25 26 rfl 3 rfl (by decide) j3 ej3 hj3 ?_
        refine z_topi (fun v4 ev4 => ?_)
        replace hw := hw v4 ev4
        obtain ⟨j4, ej4, hj4, hw⟩ := hw
        refine z_iast F dX6_passes_26 27 rfl 18 rfl (by decide) j4 ej4 hj4 (wMo aO cyI oI (va_up oR 27 (upd (oR 27) j4 v4))) rfl ?_
        refine z_goto F dX6_passes_27 42 rfl ?_
        refine z_aload_n F dX6_passes_42 43 rfl 0 rfl ?_
        refine z_dup F dX6_passes_43 44 rfl rfl ?_
        refine z_get F dX6_passes_44 47 rfl kX6_passes_2_228 0 rfl rfl ?_
        refine z_iconst F dX6_passes_47 48 rfl zki_1 ?_
        refine z_iadd F dX6_passes_48 49 rfl ?_
        refine z_topi (fun v5 ev5 => ?_)
        replace hw := hw v5 ev5
        refine z_put F dX6_passes_49 52 rfl kX6_passes_2_228 0 rfl rfl rfl (Nat.le_of_ble_eq_true rfl) (wMo aO cyI (va_up oI 30 v5) (va_up oR 27 (upd (oR 27) j4 v4))) rfl ?_
        refine z_iinc F dX6_passes_52 55 rfl 2 rfl (by decide) zki_1 (fun v6 => [(2, .int v6), (0, .ref (aO 0)), (1, .ref (aO 3))]) (fun _ => rfl) (fun v6 ev6 => ?_)
        replace hw := hw v6 ev6
        refine z_goto F dX6_passes_55 2 rfl ?_
        refine z_lv (lv' := [(0, .ref (aO 0)), (1, .ref (aO 3)), (2, .int v6)]) [1, 2, 0] rfl ?_
        exact ih v6 (va_up oI 30 v5) (va_up oR 27 (upd (oR 27) j4 v4)) hw
set_option maxHeartbeats 4000000 in
set_option maxRecDepth 100000 in
theorem xX6_passes_2_0 {C : zC} {D : va_G} {cyI cyB : ClassId} {aO : Nat → Nat} (oI : Nat → Int32) (oR : Nat → Nat → Int32) (F : zF C D { frames := 0, cells := 0, slots := 0, locals := 0 } cX6_passes 3 wsX6_passes RX6 none cyI cyB) {post : (Nat → Int32) → (Nat → Nat → Int32) → Prop} (hRt : zRv C D cX6_passes 3 (S := ((Nat → Int32) × (Nat → Nat → Int32))) (fun u => (wMo aO cyI u.1 u.2)) (fun u => post u.1 u.2)) (hw : pX6_passes_2 oI oR post) : zX C D 3 0 0 (wMo aO cyI oI oR) 0 [(0, .ref (aO 0)), (1, .ref (aO 3))] [] := by
  refine z_iconst F dX6_passes_0 1 rfl zki_0 ?_
  refine z_istore_n (lv' := [(2, .int 0), (0, .ref (aO 0)), (1, .ref (aO 3))]) F dX6_passes_1 2 rfl (by decide) rfl ?_
  obtain ⟨n1, hw⟩ := hw
  refine z_lv (lv' := [(0, .ref (aO 0)), (1, .ref (aO 3)), (2, .int 0)]) [1, 2, 0] rfl ?_
  refine xX6_passes_2_2 F hRt n1 0 oI oR hw
set_option maxHeartbeats 4000000 in
set_option maxRecDepth 100000 in
theorem mX6_passes_2 (l : Launch) (D : va_G) (cyI cyB : ClassId) (aO : Nat → Nat) (oI : Nat → Int32) (oR : Nat → Nat → Int32) {post : (Nat → Int32) → (Nat → Nat → Int32) → Prop} (hw : pX6_passes_2 oI oR post) : zMv l yX6_passes wsX6_passes 0 0 D cyI cyB [.ref (aO 0), .ref (aO 3)] (wMo aO cyI oI oR) (S := ((Nat → Int32) × (Nat → Nat → Int32))) (fun u => (wMo aO cyI u.1 u.2)) (fun u => post u.1 u.2) :=
  z_metv (cc := cX6_passes) (nL := 3) (by decide +kernel) rfl (Nat.le_of_ble_eq_true rfl) (fun C hl F hRt => xX6_passes_2_0 oI oR F hRt hw)
theorem y_X6_passes_2 : zY yX6_passes wsX6_passes cX6_passes 3 none 1 := ⟨⟨_, rfl⟩, by decide +kernel⟩
theorem iX6_passes_3_6 : ∀ w ∈ wsX60, w ∈ wsX6_passes := fun w h => List.mem_cons_of_mem _ (List.mem_append_right _ h)
theorem kX6_passes_3_65 : zL wsX6_passes RX6 65 6 27 (.array .int) true := zL6 iX6_passes_3_6 (by decide) (List.mem_of_getElem? (i := 2) rfl) rfl rfl
theorem kX6_passes_3_224 : zL wsX6_passes RX6 224 6 29 .boolean false := zL6 iX6_passes_3_6 (by decide) (List.mem_of_getElem? (i := 1) rfl) rfl rfl
theorem kX6_passes_3_228 : zL wsX6_passes RX6 228 6 30 .int false := zL6 iX6_passes_3_6 (by decide) (List.mem_of_getElem? (i := 3) rfl) rfl rfl
set_option maxHeartbeats 4000000 in
set_option maxRecDepth 100000 in
theorem xX6_passes_3_2 {C : zC} {D : va_G} {cyI cyB : ClassId} {aO : Nat → Nat} (F : zF C D { frames := 0, cells := 0, slots := 0, locals := 0 } cX6_passes 3 wsX6_passes RX6 none cyI cyB) {post : (Nat → Int32) → (Nat → Nat → Int32) → Prop} (hRt : zRv C D cX6_passes 3 (S := ((Nat → Int32) × (Nat → Nat → Int32))) (fun u => (wMo aO cyI u.1 u.2)) (fun u => post u.1 u.2)) : ∀ (n : Nat) (x2 : Int32) (oI : Nat → Int32) (oR : Nat → Nat → Int32), bX6_passes_3_2 post  n x2 oI oR → zX C D 3 0 0 (wMo aO cyI oI oR) 2 [(0, .ref (aO 0)), (1, .ref (aO 4)), (2, .int x2)] [] := by
  intro n
  induction n with
  | zero => intro _ _ _ hw; exact hw.elim
  | succ n ih =>
    intro x2 oI oR hw
    refine z_iload_n F dX6_passes_2 3 rfl 2 rfl ?_
    refine z_aload_n F dX6_passes_3 4 rfl 1 rfl ?_
    refine z_alen F dX6_passes_4 5 rfl 4 rfl ?_
    obtain ⟨hwt, hwf⟩ := hw
    refine z_icmpge F dX6_passes_5 58 rfl 8 rfl (fun c1 => ?_) (fun c1 => ?_)
    · have hw := hwt c1; clear hwt hwf
      exact hRt 58 _ (oI, oR) dX6_passes_58 hw
    · have hw := hwf c1; clear hwt hwf
      refine z_aload_n F dX6_passes_8 9 rfl 0 rfl ?_
      refine z_get F dX6_passes_9 12 rfl kX6_passes_3_224 0 rfl rfl ?_
      obtain ⟨hwt, hwf⟩ := hw
      refine z_ifeq F dX6_passes_12 30 rfl 15 rfl (fun c2 => ?_) (fun c2 => ?_)
      · have hw := hwt c2; clear hwt hwf
        refine z_aload_n F dX6_passes_30 31 rfl 1 rfl ?_
        refine z_iload_n F dX6_passes_31 32 rfl 2 rfl ?_
        refine z_aload_n F dX6_passes_32 33 rfl 0 rfl ?_
        refine z_get F dX6_passes_33 36 rfl kX6_passes_3_65 0 rfl rfl ?_
        refine z_aload_n F dX6_passes_36 37 rfl 0 rfl ?_
        refine z_get F dX6_passes_37 40 rfl kX6_passes_3_228 0 rfl rfl ?_
        obtain ⟨j1, ej1, hj1, hw⟩ := hw
        refine z_iald F dX6_passes_40 41 rfl 18 rfl (by decide) j1 ej1 hj1 ?_
        refine z_topi (fun v1 ev1 => ?_)
        replace hw := hw v1 ev1
        obtain ⟨j2, ej2, hj2, hw⟩ := hw
        refine z_iast F dX6_passes_41 42 rfl 4 rfl (by decide) j2 ej2 hj2 (wMo aO cyI oI (va_up oR 3 (upd (oR 3) j2 v1))) rfl ?_
        refine z_aload_n F dX6_passes_42 43 rfl 0 rfl ?_
        refine z_dup F dX6_passes_43 44 rfl rfl ?_
        refine z_get F dX6_passes_44 47 rfl kX6_passes_3_228 0 rfl rfl ?_
        refine z_iconst F dX6_passes_47 48 rfl zki_1 ?_
        refine z_iadd F dX6_passes_48 49 rfl ?_
        refine z_topi (fun v2 ev2 => ?_)
        replace hw := hw v2 ev2
        refine z_put F dX6_passes_49 52 rfl kX6_passes_3_228 0 rfl rfl rfl (Nat.le_of_ble_eq_true rfl) (wMo aO cyI (va_up oI 30 v2) (va_up oR 3 (upd (oR 3) j2 v1))) rfl ?_
        refine z_iinc F dX6_passes_52 55 rfl 2 rfl (by decide) zki_1 (fun v3 => [(2, .int v3), (0, .ref (aO 0)), (1, .ref (aO 4))]) (fun _ => rfl) (fun v3 ev3 => ?_)
        replace hw := hw v3 ev3
        refine z_goto F dX6_passes_55 2 rfl ?_
        refine z_lv (lv' := [(0, .ref (aO 0)), (1, .ref (aO 4)), (2, .int v3)]) [1, 2, 0] rfl ?_
        exact ih v3 (va_up oI 30 v2) (va_up oR 3 (upd (oR 3) j2 v1)) hw
      · have hw := hwf c2; clear hwt hwf
        refine z_aload_n F dX6_passes_15 16 rfl 0 rfl ?_
        refine z_get F dX6_passes_16 19 rfl kX6_passes_3_65 0 rfl rfl ?_
        refine z_aload_n F dX6_passes_19 20 rfl 0 rfl ?_
        refine z_get F dX6_passes_20 23 rfl kX6_passes_3_228 0 rfl rfl ?_
        refine z_aload_n F dX6_passes_23 24 rfl 1 rfl ?_
        refine z_iload_n F dX6_passes_24 25 rfl 2 rfl ?_
        obtain ⟨j3, ej3, hj3, hw⟩ := hw
        refine z_iald F dX6_passes_25 26 rfl 4 rfl (by decide) j3 ej3 hj3 ?_
        refine z_topi (fun v4 ev4 => ?_)
        replace hw := hw v4 ev4
        obtain ⟨j4, ej4, hj4, hw⟩ := hw
        refine z_iast F dX6_passes_26 27 rfl 18 rfl (by decide) j4 ej4 hj4 (wMo aO cyI oI (va_up oR 27 (upd (oR 27) j4 v4))) rfl ?_
        refine z_goto F dX6_passes_27 42 rfl ?_
        refine z_aload_n F dX6_passes_42 43 rfl 0 rfl ?_
        refine z_dup F dX6_passes_43 44 rfl rfl ?_
        refine z_get F dX6_passes_44 47 rfl kX6_passes_3_228 0 rfl rfl ?_
        refine z_iconst F dX6_passes_47 48 rfl zki_1 ?_
        refine z_iadd F dX6_passes_48 49 rfl ?_
        refine z_topi (fun v5 ev5 => ?_)
        replace hw := hw v5 ev5
        refine z_put F dX6_passes_49 52 rfl kX6_passes_3_228 0 rfl rfl rfl (Nat.le_of_ble_eq_true rfl) (wMo aO cyI (va_up oI 30 v5) (va_up oR 27 (upd (oR 27) j4 v4))) rfl ?_
        refine z_iinc F dX6_passes_52 55 rfl 2 rfl (by decide) zki_1 (fun v6 => [(2, .int v6), (0, .ref (aO 0)), (1, .ref (aO 4))]) (fun _ => rfl) (fun v6 ev6 => ?_)
        replace hw := hw v6 ev6
        refine z_goto F dX6_passes_55 2 rfl ?_
        refine z_lv (lv' := [(0, .ref (aO 0)), (1, .ref (aO 4)), (2, .int v6)]) [1, 2, 0] rfl ?_
        exact ih v6 (va_up oI 30 v5) (va_up oR 27 (upd (oR 27) j4 v4)) hw
set_option maxHeartbeats 4000000 in
set_option maxRecDepth 100000 in
theorem xX6_passes_3_0 {C : zC} {D : va_G} {cyI cyB : ClassId} {aO : Nat → Nat} (oI : Nat → Int32) (oR : Nat → Nat → Int32) (F : zF C D { frames := 0, cells := 0, slots := 0, locals := 0 } cX6_passes 3 wsX6_passes RX6 none cyI cyB) {post : (Nat → Int32) → (Nat → Nat → Int32) → Prop} (hRt : zRv C D cX6_passes 3 (S := ((Nat → Int32) × (Nat → Nat → Int32))) (fun u => (wMo aO cyI u.1 u.2)) (fun u => post u.1 u.2)) (hw : pX6_passes_3 oI oR post) : zX C D 3 0 0 (wMo aO cyI oI oR) 0 [(0, .ref (aO 0)), (1, .ref (aO 4))] [] := by
  refine z_iconst F dX6_passes_0 1 rfl zki_0 ?_
  refine z_istore_n (lv' := [(2, .int 0), (0, .ref (aO 0)), (1, .ref (aO 4))]) F dX6_passes_1 2 rfl (by decide) rfl ?_
  obtain ⟨n1, hw⟩ := hw
  refine z_lv (lv' := [(0, .ref (aO 0)), (1, .ref (aO 4)), (2, .int 0)]) [1, 2, 0] rfl ?_
  refine xX6_passes_3_2 F hRt n1 0 oI oR hw
set_option maxHeartbeats 4000000 in
set_option maxRecDepth 100000 in
theorem mX6_passes_3 (l : Launch) (D : va_G) (cyI cyB : ClassId) (aO : Nat → Nat) (oI : Nat → Int32) (oR : Nat → Nat → Int32) {post : (Nat → Int32) → (Nat → Nat → Int32) → Prop} (hw : pX6_passes_3 oI oR post) : zMv l yX6_passes wsX6_passes 0 0 D cyI cyB [.ref (aO 0), .ref (aO 4)] (wMo aO cyI oI oR) (S := ((Nat → Int32) × (Nat → Nat → Int32))) (fun u => (wMo aO cyI u.1 u.2)) (fun u => post u.1 u.2) :=
  z_metv (cc := cX6_passes) (nL := 3) (by decide +kernel) rfl (Nat.le_of_ble_eq_true rfl) (fun C hl F hRt => xX6_passes_3_0 oI oR F hRt hw)
theorem y_X6_passes_3 : zY yX6_passes wsX6_passes cX6_passes 3 none 1 := ⟨⟨_, rfl⟩, by decide +kernel⟩
theorem iX6_passes_4_6 : ∀ w ∈ wsX60, w ∈ wsX6_passes := fun w h => List.mem_cons_of_mem _ (List.mem_append_right _ h)
theorem kX6_passes_4_65 : zL wsX6_passes RX6 65 6 27 (.array .int) true := zL6 iX6_passes_4_6 (by decide) (List.mem_of_getElem? (i := 2) rfl) rfl rfl
theorem kX6_passes_4_224 : zL wsX6_passes RX6 224 6 29 .boolean false := zL6 iX6_passes_4_6 (by decide) (List.mem_of_getElem? (i := 1) rfl) rfl rfl
theorem kX6_passes_4_228 : zL wsX6_passes RX6 228 6 30 .int false := zL6 iX6_passes_4_6 (by decide) (List.mem_of_getElem? (i := 3) rfl) rfl rfl
set_option maxHeartbeats 4000000 in
set_option maxRecDepth 100000 in
theorem xX6_passes_4_2 {C : zC} {D : va_G} {cyI cyB : ClassId} {aO : Nat → Nat} (F : zF C D { frames := 0, cells := 0, slots := 0, locals := 0 } cX6_passes 3 wsX6_passes RX6 none cyI cyB) {post : (Nat → Int32) → (Nat → Nat → Int32) → Prop} (hRt : zRv C D cX6_passes 3 (S := ((Nat → Int32) × (Nat → Nat → Int32))) (fun u => (wMo aO cyI u.1 u.2)) (fun u => post u.1 u.2)) : ∀ (n : Nat) (x2 : Int32) (oI : Nat → Int32) (oR : Nat → Nat → Int32), bX6_passes_4_2 post  n x2 oI oR → zX C D 3 0 0 (wMo aO cyI oI oR) 2 [(0, .ref (aO 0)), (1, .ref (aO 5)), (2, .int x2)] [] := by
  intro n
  induction n with
  | zero => intro _ _ _ hw; exact hw.elim
  | succ n ih =>
    intro x2 oI oR hw
    refine z_iload_n F dX6_passes_2 3 rfl 2 rfl ?_
    refine z_aload_n F dX6_passes_3 4 rfl 1 rfl ?_
    refine z_alen F dX6_passes_4 5 rfl 5 rfl ?_
    obtain ⟨hwt, hwf⟩ := hw
    refine z_icmpge F dX6_passes_5 58 rfl 8 rfl (fun c1 => ?_) (fun c1 => ?_)
    · have hw := hwt c1; clear hwt hwf
      exact hRt 58 _ (oI, oR) dX6_passes_58 hw
    · have hw := hwf c1; clear hwt hwf
      refine z_aload_n F dX6_passes_8 9 rfl 0 rfl ?_
      refine z_get F dX6_passes_9 12 rfl kX6_passes_4_224 0 rfl rfl ?_
      obtain ⟨hwt, hwf⟩ := hw
      refine z_ifeq F dX6_passes_12 30 rfl 15 rfl (fun c2 => ?_) (fun c2 => ?_)
      · have hw := hwt c2; clear hwt hwf
        refine z_aload_n F dX6_passes_30 31 rfl 1 rfl ?_
        refine z_iload_n F dX6_passes_31 32 rfl 2 rfl ?_
        refine z_aload_n F dX6_passes_32 33 rfl 0 rfl ?_
        refine z_get F dX6_passes_33 36 rfl kX6_passes_4_65 0 rfl rfl ?_
        refine z_aload_n F dX6_passes_36 37 rfl 0 rfl ?_
        refine z_get F dX6_passes_37 40 rfl kX6_passes_4_228 0 rfl rfl ?_
        obtain ⟨j1, ej1, hj1, hw⟩ := hw
        refine z_iald F dX6_passes_40 41 rfl 18 rfl (by decide) j1 ej1 hj1 ?_
        refine z_topi (fun v1 ev1 => ?_)
        replace hw := hw v1 ev1
        obtain ⟨j2, ej2, hj2, hw⟩ := hw
        refine z_iast F dX6_passes_41 42 rfl 5 rfl (by decide) j2 ej2 hj2 (wMo aO cyI oI (va_up oR 4 (upd (oR 4) j2 v1))) rfl ?_
        refine z_aload_n F dX6_passes_42 43 rfl 0 rfl ?_
        refine z_dup F dX6_passes_43 44 rfl rfl ?_
        refine z_get F dX6_passes_44 47 rfl kX6_passes_4_228 0 rfl rfl ?_
        refine z_iconst F dX6_passes_47 48 rfl zki_1 ?_
        refine z_iadd F dX6_passes_48 49 rfl ?_
        refine z_topi (fun v2 ev2 => ?_)
        replace hw := hw v2 ev2
        refine z_put F dX6_passes_49 52 rfl kX6_passes_4_228 0 rfl rfl rfl (Nat.le_of_ble_eq_true rfl) (wMo aO cyI (va_up oI 30 v2) (va_up oR 4 (upd (oR 4) j2 v1))) rfl ?_
        refine z_iinc F dX6_passes_52 55 rfl 2 rfl (by decide) zki_1 (fun v3 => [(2, .int v3), (0, .ref (aO 0)), (1, .ref (aO 5))]) (fun _ => rfl) (fun v3 ev3 => ?_)
        replace hw := hw v3 ev3
        refine z_goto F dX6_passes_55 2 rfl ?_
        refine z_lv (lv' := [(0, .ref (aO 0)), (1, .ref (aO 5)), (2, .int v3)]) [1, 2, 0] rfl ?_
        exact ih v3 (va_up oI 30 v2) (va_up oR 4 (upd (oR 4) j2 v1)) hw
      · have hw := hwf c2; clear hwt hwf
        refine z_aload_n F dX6_passes_15 16 rfl 0 rfl ?_
        refine z_get F dX6_passes_16 19 rfl kX6_passes_4_65 0 rfl rfl ?_
        refine z_aload_n F dX6_passes_19 20 rfl 0 rfl ?_
        refine z_get F dX6_passes_20 23 rfl kX6_passes_4_228 0 rfl rfl ?_
        refine z_aload_n F dX6_passes_23 24 rfl 1 rfl ?_
        refine z_iload_n F dX6_passes_24 25 rfl 2 rfl ?_
        obtain ⟨j3, ej3, hj3, hw⟩ := hw
        refine z_iald F dX6_passes_25 26 rfl 5 rfl (by decide) j3 ej3 hj3 ?_
        refine z_topi (fun v4 ev4 => ?_)
        replace hw := hw v4 ev4
        obtain ⟨j4, ej4, hj4, hw⟩ := hw
        refine z_iast F dX6_passes_26 27 rfl 18 rfl (by decide) j4 ej4 hj4 (wMo aO cyI oI (va_up oR 27 (upd (oR 27) j4 v4))) rfl ?_
        refine z_goto F dX6_passes_27 42 rfl ?_
        refine z_aload_n F dX6_passes_42 43 rfl 0 rfl ?_
        refine z_dup F dX6_passes_43 44 rfl rfl ?_
        refine z_get F dX6_passes_44 47 rfl kX6_passes_4_228 0 rfl rfl ?_
        refine z_iconst F dX6_passes_47 48 rfl zki_1 ?_
        refine z_iadd F dX6_passes_48 49 rfl ?_
        refine z_topi (fun v5 ev5 => ?_)
        replace hw := hw v5 ev5
        refine z_put F dX6_passes_49 52 rfl kX6_passes_4_228 0 rfl rfl rfl (Nat.le_of_ble_eq_true rfl) (wMo aO cyI (va_up oI 30 v5) (va_up oR 27 (upd (oR 27) j4 v4))) rfl ?_
        refine z_iinc F dX6_passes_52 55 rfl 2 rfl (by decide) zki_1 (fun v6 => [(2, .int v6), (0, .ref (aO 0)), (1, .ref (aO 5))]) (fun _ => rfl) (fun v6 ev6 => ?_)
        replace hw := hw v6 ev6
        refine z_goto F dX6_passes_55 2 rfl ?_
        refine z_lv (lv' := [(0, .ref (aO 0)), (1, .ref (aO 5)), (2, .int v6)]) [1, 2, 0] rfl ?_
        exact ih v6 (va_up oI 30 v5) (va_up oR 27 (upd (oR 27) j4 v4)) hw
set_option maxHeartbeats 4000000 in
set_option maxRecDepth 100000 in
theorem xX6_passes_4_0 {C : zC} {D : va_G} {cyI cyB : ClassId} {aO : Nat → Nat} (oI : Nat → Int32) (oR : Nat → Nat → Int32) (F : zF C D { frames := 0, cells := 0, slots := 0, locals := 0 } cX6_passes 3 wsX6_passes RX6 none cyI cyB) {post : (Nat → Int32) → (Nat → Nat → Int32) → Prop} (hRt : zRv C D cX6_passes 3 (S := ((Nat → Int32) × (Nat → Nat → Int32))) (fun u => (wMo aO cyI u.1 u.2)) (fun u => post u.1 u.2)) (hw : pX6_passes_4 oI oR post) : zX C D 3 0 0 (wMo aO cyI oI oR) 0 [(0, .ref (aO 0)), (1, .ref (aO 5))] [] := by
  refine z_iconst F dX6_passes_0 1 rfl zki_0 ?_
  refine z_istore_n (lv' := [(2, .int 0), (0, .ref (aO 0)), (1, .ref (aO 5))]) F dX6_passes_1 2 rfl (by decide) rfl ?_
  obtain ⟨n1, hw⟩ := hw
  refine z_lv (lv' := [(0, .ref (aO 0)), (1, .ref (aO 5)), (2, .int 0)]) [1, 2, 0] rfl ?_
  refine xX6_passes_4_2 F hRt n1 0 oI oR hw
set_option maxHeartbeats 4000000 in
set_option maxRecDepth 100000 in
theorem mX6_passes_4 (l : Launch) (D : va_G) (cyI cyB : ClassId) (aO : Nat → Nat) (oI : Nat → Int32) (oR : Nat → Nat → Int32) {post : (Nat → Int32) → (Nat → Nat → Int32) → Prop} (hw : pX6_passes_4 oI oR post) : zMv l yX6_passes wsX6_passes 0 0 D cyI cyB [.ref (aO 0), .ref (aO 5)] (wMo aO cyI oI oR) (S := ((Nat → Int32) × (Nat → Nat → Int32))) (fun u => (wMo aO cyI u.1 u.2)) (fun u => post u.1 u.2) :=
  z_metv (cc := cX6_passes) (nL := 3) (by decide +kernel) rfl (Nat.le_of_ble_eq_true rfl) (fun C hl F hRt => xX6_passes_4_0 oI oR F hRt hw)
theorem y_X6_passes_4 : zY yX6_passes wsX6_passes cX6_passes 3 none 1 := ⟨⟨_, rfl⟩, by decide +kernel⟩
theorem iX6_passes_5_6 : ∀ w ∈ wsX60, w ∈ wsX6_passes := fun w h => List.mem_cons_of_mem _ (List.mem_append_right _ h)
theorem kX6_passes_5_65 : zL wsX6_passes RX6 65 6 27 (.array .int) true := zL6 iX6_passes_5_6 (by decide) (List.mem_of_getElem? (i := 2) rfl) rfl rfl
theorem kX6_passes_5_224 : zL wsX6_passes RX6 224 6 29 .boolean false := zL6 iX6_passes_5_6 (by decide) (List.mem_of_getElem? (i := 1) rfl) rfl rfl
theorem kX6_passes_5_228 : zL wsX6_passes RX6 228 6 30 .int false := zL6 iX6_passes_5_6 (by decide) (List.mem_of_getElem? (i := 3) rfl) rfl rfl
set_option maxHeartbeats 4000000 in
set_option maxRecDepth 100000 in
theorem xX6_passes_5_2 {C : zC} {D : va_G} {cyI cyB : ClassId} {aO : Nat → Nat} (F : zF C D { frames := 0, cells := 0, slots := 0, locals := 0 } cX6_passes 3 wsX6_passes RX6 none cyI cyB) {post : (Nat → Int32) → (Nat → Nat → Int32) → Prop} (hRt : zRv C D cX6_passes 3 (S := ((Nat → Int32) × (Nat → Nat → Int32))) (fun u => (wMo aO cyI u.1 u.2)) (fun u => post u.1 u.2)) : ∀ (n : Nat) (x2 : Int32) (oI : Nat → Int32) (oR : Nat → Nat → Int32), bX6_passes_5_2 post  n x2 oI oR → zX C D 3 0 0 (wMo aO cyI oI oR) 2 [(0, .ref (aO 0)), (1, .ref (aO 6)), (2, .int x2)] [] := by
  intro n
  induction n with
  | zero => intro _ _ _ hw; exact hw.elim
  | succ n ih =>
    intro x2 oI oR hw
    refine z_iload_n F dX6_passes_2 3 rfl 2 rfl ?_
    refine z_aload_n F dX6_passes_3 4 rfl 1 rfl ?_
    refine z_alen F dX6_passes_4 5 rfl 6 rfl ?_
    obtain ⟨hwt, hwf⟩ := hw
    refine z_icmpge F dX6_passes_5 58 rfl 8 rfl (fun c1 => ?_) (fun c1 => ?_)
    · have hw := hwt c1; clear hwt hwf
      exact hRt 58 _ (oI, oR) dX6_passes_58 hw
    · have hw := hwf c1; clear hwt hwf
      refine z_aload_n F dX6_passes_8 9 rfl 0 rfl ?_
      refine z_get F dX6_passes_9 12 rfl kX6_passes_5_224 0 rfl rfl ?_
      obtain ⟨hwt, hwf⟩ := hw
      refine z_ifeq F dX6_passes_12 30 rfl 15 rfl (fun c2 => ?_) (fun c2 => ?_)
      · have hw := hwt c2; clear hwt hwf
        refine z_aload_n F dX6_passes_30 31 rfl 1 rfl ?_
        refine z_iload_n F dX6_passes_31 32 rfl 2 rfl ?_
        refine z_aload_n F dX6_passes_32 33 rfl 0 rfl ?_
        refine z_get F dX6_passes_33 36 rfl kX6_passes_5_65 0 rfl rfl ?_
        refine z_aload_n F dX6_passes_36 37 rfl 0 rfl ?_
        refine z_get F dX6_passes_37 40 rfl kX6_passes_5_228 0 rfl rfl ?_
        obtain ⟨j1, ej1, hj1, hw⟩ := hw
        refine z_iald F dX6_passes_40 41 rfl 18 rfl (by decide) j1 ej1 hj1 ?_
        refine z_topi (fun v1 ev1 => ?_)
        replace hw := hw v1 ev1
        obtain ⟨j2, ej2, hj2, hw⟩ := hw
        refine z_iast F dX6_passes_41 42 rfl 6 rfl (by decide) j2 ej2 hj2 (wMo aO cyI oI (va_up oR 5 (upd (oR 5) j2 v1))) rfl ?_
        refine z_aload_n F dX6_passes_42 43 rfl 0 rfl ?_
        refine z_dup F dX6_passes_43 44 rfl rfl ?_
        refine z_get F dX6_passes_44 47 rfl kX6_passes_5_228 0 rfl rfl ?_
        refine z_iconst F dX6_passes_47 48 rfl zki_1 ?_
        refine z_iadd F dX6_passes_48 49 rfl ?_
        refine z_topi (fun v2 ev2 => ?_)
        replace hw := hw v2 ev2
        refine z_put F dX6_passes_49 52 rfl kX6_passes_5_228 0 rfl rfl rfl (Nat.le_of_ble_eq_true rfl) (wMo aO cyI (va_up oI 30 v2) (va_up oR 5 (upd (oR 5) j2 v1))) rfl ?_
        refine z_iinc F dX6_passes_52 55 rfl 2 rfl (by decide) zki_1 (fun v3 => [(2, .int v3), (0, .ref (aO 0)), (1, .ref (aO 6))]) (fun _ => rfl) (fun v3 ev3 => ?_)
        replace hw := hw v3 ev3
        refine z_goto F dX6_passes_55 2 rfl ?_
        refine z_lv (lv' := [(0, .ref (aO 0)), (1, .ref (aO 6)), (2, .int v3)]) [1, 2, 0] rfl ?_
        exact ih v3 (va_up oI 30 v2) (va_up oR 5 (upd (oR 5) j2 v1)) hw
      · have hw := hwf c2; clear hwt hwf
        refine z_aload_n F dX6_passes_15 16 rfl 0 rfl ?_
        refine z_get F dX6_passes_16 19 rfl kX6_passes_5_65 0 rfl rfl ?_
        refine z_aload_n F dX6_passes_19 20 rfl 0 rfl ?_
        refine z_get F dX6_passes_20 23 rfl kX6_passes_5_228 0 rfl rfl ?_
        refine z_aload_n F dX6_passes_23 24 rfl 1 rfl ?_
        refine z_iload_n F dX6_passes_24 25 rfl 2 rfl ?_
        obtain ⟨j3, ej3, hj3, hw⟩ := hw
        refine z_iald F dX6_passes_25 26 rfl 6 rfl (by decide) j3 ej3 hj3 ?_
        refine z_topi (fun v4 ev4 => ?_)
        replace hw := hw v4 ev4
        obtain ⟨j4, ej4, hj4, hw⟩ := hw
        refine z_iast F dX6_passes_26 27 rfl 18 rfl (by decide) j4 ej4 hj4 (wMo aO cyI oI (va_up oR 27 (upd (oR 27) j4 v4))) rfl ?_
        refine z_goto F dX6_passes_27 42 rfl ?_
        refine z_aload_n F dX6_passes_42 43 rfl 0 rfl ?_
        refine z_dup F dX6_passes_43 44 rfl rfl ?_
        refine z_get F dX6_passes_44 47 rfl kX6_passes_5_228 0 rfl rfl ?_
        refine z_iconst F dX6_passes_47 48 rfl zki_1 ?_
        refine z_iadd F dX6_passes_48 49 rfl ?_
        refine z_topi (fun v5 ev5 => ?_)
        replace hw := hw v5 ev5
        refine z_put F dX6_passes_49 52 rfl kX6_passes_5_228 0 rfl rfl rfl (Nat.le_of_ble_eq_true rfl) (wMo aO cyI (va_up oI 30 v5) (va_up oR 27 (upd (oR 27) j4 v4))) rfl ?_
        refine z_iinc F dX6_passes_52 55 rfl 2 rfl (by decide) zki_1 (fun v6 => [(2, .int v6), (0, .ref (aO 0)), (1, .ref (aO 6))]) (fun _ => rfl) (fun v6 ev6 => ?_)
        replace hw := hw v6 ev6
        refine z_goto F dX6_passes_55 2 rfl ?_
        refine z_lv (lv' := [(0, .ref (aO 0)), (1, .ref (aO 6)), (2, .int v6)]) [1, 2, 0] rfl ?_
        exact ih v6 (va_up oI 30 v5) (va_up oR 27 (upd (oR 27) j4 v4)) hw
set_option maxHeartbeats 4000000 in
set_option maxRecDepth 100000 in
theorem xX6_passes_5_0 {C : zC} {D : va_G} {cyI cyB : ClassId} {aO : Nat → Nat} (oI : Nat → Int32) (oR : Nat → Nat → Int32) (F : zF C D { frames := 0, cells := 0, slots := 0, locals := 0 } cX6_passes 3 wsX6_passes RX6 none cyI cyB) {post : (Nat → Int32) → (Nat → Nat → Int32) → Prop} (hRt : zRv C D cX6_passes 3 (S := ((Nat → Int32) × (Nat → Nat → Int32))) (fun u => (wMo aO cyI u.1 u.2)) (fun u => post u.1 u.2)) (hw : pX6_passes_5 oI oR post) : zX C D 3 0 0 (wMo aO cyI oI oR) 0 [(0, .ref (aO 0)), (1, .ref (aO 6))] [] := by
  refine z_iconst F dX6_passes_0 1 rfl zki_0 ?_
  refine z_istore_n (lv' := [(2, .int 0), (0, .ref (aO 0)), (1, .ref (aO 6))]) F dX6_passes_1 2 rfl (by decide) rfl ?_
  obtain ⟨n1, hw⟩ := hw
  refine z_lv (lv' := [(0, .ref (aO 0)), (1, .ref (aO 6)), (2, .int 0)]) [1, 2, 0] rfl ?_
  refine xX6_passes_5_2 F hRt n1 0 oI oR hw
set_option maxHeartbeats 4000000 in
set_option maxRecDepth 100000 in
theorem mX6_passes_5 (l : Launch) (D : va_G) (cyI cyB : ClassId) (aO : Nat → Nat) (oI : Nat → Int32) (oR : Nat → Nat → Int32) {post : (Nat → Int32) → (Nat → Nat → Int32) → Prop} (hw : pX6_passes_5 oI oR post) : zMv l yX6_passes wsX6_passes 0 0 D cyI cyB [.ref (aO 0), .ref (aO 6)] (wMo aO cyI oI oR) (S := ((Nat → Int32) × (Nat → Nat → Int32))) (fun u => (wMo aO cyI u.1 u.2)) (fun u => post u.1 u.2) :=
  z_metv (cc := cX6_passes) (nL := 3) (by decide +kernel) rfl (Nat.le_of_ble_eq_true rfl) (fun C hl F hRt => xX6_passes_5_0 oI oR F hRt hw)
theorem y_X6_passes_5 : zY yX6_passes wsX6_passes cX6_passes 3 none 1 := ⟨⟨_, rfl⟩, by decide +kernel⟩
theorem iX6_passes_6_6 : ∀ w ∈ wsX60, w ∈ wsX6_passes := fun w h => List.mem_cons_of_mem _ (List.mem_append_right _ h)
theorem kX6_passes_6_65 : zL wsX6_passes RX6 65 6 27 (.array .int) true := zL6 iX6_passes_6_6 (by decide) (List.mem_of_getElem? (i := 2) rfl) rfl rfl
theorem kX6_passes_6_224 : zL wsX6_passes RX6 224 6 29 .boolean false := zL6 iX6_passes_6_6 (by decide) (List.mem_of_getElem? (i := 1) rfl) rfl rfl
theorem kX6_passes_6_228 : zL wsX6_passes RX6 228 6 30 .int false := zL6 iX6_passes_6_6 (by decide) (List.mem_of_getElem? (i := 3) rfl) rfl rfl
set_option maxHeartbeats 4000000 in
set_option maxRecDepth 100000 in
theorem xX6_passes_6_2 {C : zC} {D : va_G} {cyI cyB : ClassId} {aO : Nat → Nat} (F : zF C D { frames := 0, cells := 0, slots := 0, locals := 0 } cX6_passes 3 wsX6_passes RX6 none cyI cyB) {post : (Nat → Int32) → (Nat → Nat → Int32) → Prop} (hRt : zRv C D cX6_passes 3 (S := ((Nat → Int32) × (Nat → Nat → Int32))) (fun u => (wMo aO cyI u.1 u.2)) (fun u => post u.1 u.2)) : ∀ (n : Nat) (x2 : Int32) (oI : Nat → Int32) (oR : Nat → Nat → Int32), bX6_passes_6_2 post  n x2 oI oR → zX C D 3 0 0 (wMo aO cyI oI oR) 2 [(0, .ref (aO 0)), (1, .ref (aO 7)), (2, .int x2)] [] := by
  intro n
  induction n with
  | zero => intro _ _ _ hw; exact hw.elim
  | succ n ih =>
    intro x2 oI oR hw
    refine z_iload_n F dX6_passes_2 3 rfl 2 rfl ?_
    refine z_aload_n F dX6_passes_3 4 rfl 1 rfl ?_
    refine z_alen F dX6_passes_4 5 rfl 7 rfl ?_
    obtain ⟨hwt, hwf⟩ := hw
    refine z_icmpge F dX6_passes_5 58 rfl 8 rfl (fun c1 => ?_) (fun c1 => ?_)
    · have hw := hwt c1; clear hwt hwf
      exact hRt 58 _ (oI, oR) dX6_passes_58 hw
    · have hw := hwf c1; clear hwt hwf
      refine z_aload_n F dX6_passes_8 9 rfl 0 rfl ?_
      refine z_get F dX6_passes_9 12 rfl kX6_passes_6_224 0 rfl rfl ?_
      obtain ⟨hwt, hwf⟩ := hw
      refine z_ifeq F dX6_passes_12 30 rfl 15 rfl (fun c2 => ?_) (fun c2 => ?_)
      · have hw := hwt c2; clear hwt hwf
        refine z_aload_n F dX6_passes_30 31 rfl 1 rfl ?_
        refine z_iload_n F dX6_passes_31 32 rfl 2 rfl ?_
        refine z_aload_n F dX6_passes_32 33 rfl 0 rfl ?_
        refine z_get F dX6_passes_33 36 rfl kX6_passes_6_65 0 rfl rfl ?_
        refine z_aload_n F dX6_passes_36 37 rfl 0 rfl ?_
        refine z_get F dX6_passes_37 40 rfl kX6_passes_6_228 0 rfl rfl ?_
        obtain ⟨j1, ej1, hj1, hw⟩ := hw
        refine z_iald F dX6_passes_40 41 rfl 18 rfl (by decide) j1 ej1 hj1 ?_
        refine z_topi (fun v1 ev1 => ?_)
        replace hw := hw v1 ev1
        obtain ⟨j2, ej2, hj2, hw⟩ := hw
        refine z_iast F dX6_passes_41 42 rfl 7 rfl (by decide) j2 ej2 hj2 (wMo aO cyI oI (va_up oR 6 (upd (oR 6) j2 v1))) rfl ?_
        refine z_aload_n F dX6_passes_42 43 rfl 0 rfl ?_
        refine z_dup F dX6_passes_43 44 rfl rfl ?_
        refine z_get F dX6_passes_44 47 rfl kX6_passes_6_228 0 rfl rfl ?_
        refine z_iconst F dX6_passes_47 48 rfl zki_1 ?_
        refine z_iadd F dX6_passes_48 49 rfl ?_
        refine z_topi (fun v2 ev2 => ?_)
        replace hw := hw v2 ev2
        refine z_put F dX6_passes_49 52 rfl kX6_passes_6_228 0 rfl rfl rfl (Nat.le_of_ble_eq_true rfl) (wMo aO cyI (va_up oI 30 v2) (va_up oR 6 (upd (oR 6) j2 v1))) rfl ?_
        refine z_iinc F dX6_passes_52 55 rfl 2 rfl (by decide) zki_1 (fun v3 => [(2, .int v3), (0, .ref (aO 0)), (1, .ref (aO 7))]) (fun _ => rfl) (fun v3 ev3 => ?_)
        replace hw := hw v3 ev3
        refine z_goto F dX6_passes_55 2 rfl ?_
        refine z_lv (lv' := [(0, .ref (aO 0)), (1, .ref (aO 7)), (2, .int v3)]) [1, 2, 0] rfl ?_
        exact ih v3 (va_up oI 30 v2) (va_up oR 6 (upd (oR 6) j2 v1)) hw
      · have hw := hwf c2; clear hwt hwf
        refine z_aload_n F dX6_passes_15 16 rfl 0 rfl ?_
        refine z_get F dX6_passes_16 19 rfl kX6_passes_6_65 0 rfl rfl ?_
        refine z_aload_n F dX6_passes_19 20 rfl 0 rfl ?_
        refine z_get F dX6_passes_20 23 rfl kX6_passes_6_228 0 rfl rfl ?_
        refine z_aload_n F dX6_passes_23 24 rfl 1 rfl ?_
        refine z_iload_n F dX6_passes_24 25 rfl 2 rfl ?_
        obtain ⟨j3, ej3, hj3, hw⟩ := hw
        refine z_iald F dX6_passes_25 26 rfl 7 rfl (by decide) j3 ej3 hj3 ?_
        refine z_topi (fun v4 ev4 => ?_)
        replace hw := hw v4 ev4
        obtain ⟨j4, ej4, hj4, hw⟩ := hw
        refine z_iast F dX6_passes_26 27 rfl 18 rfl (by decide) j4 ej4 hj4 (wMo aO cyI oI (va_up oR 27 (upd (oR 27) j4 v4))) rfl ?_
        refine z_goto F dX6_passes_27 42 rfl ?_
        refine z_aload_n F dX6_passes_42 43 rfl 0 rfl ?_
        refine z_dup F dX6_passes_43 44 rfl rfl ?_
        refine z_get F dX6_passes_44 47 rfl kX6_passes_6_228 0 rfl rfl ?_
        refine z_iconst F dX6_passes_47 48 rfl zki_1 ?_
        refine z_iadd F dX6_passes_48 49 rfl ?_
        refine z_topi (fun v5 ev5 => ?_)
        replace hw := hw v5 ev5
        refine z_put F dX6_passes_49 52 rfl kX6_passes_6_228 0 rfl rfl rfl (Nat.le_of_ble_eq_true rfl) (wMo aO cyI (va_up oI 30 v5) (va_up oR 27 (upd (oR 27) j4 v4))) rfl ?_
        refine z_iinc F dX6_passes_52 55 rfl 2 rfl (by decide) zki_1 (fun v6 => [(2, .int v6), (0, .ref (aO 0)), (1, .ref (aO 7))]) (fun _ => rfl) (fun v6 ev6 => ?_)
        replace hw := hw v6 ev6
        refine z_goto F dX6_passes_55 2 rfl ?_
        refine z_lv (lv' := [(0, .ref (aO 0)), (1, .ref (aO 7)), (2, .int v6)]) [1, 2, 0] rfl ?_
        exact ih v6 (va_up oI 30 v5) (va_up oR 27 (upd (oR 27) j4 v4)) hw
set_option maxHeartbeats 4000000 in
set_option maxRecDepth 100000 in
theorem xX6_passes_6_0 {C : zC} {D : va_G} {cyI cyB : ClassId} {aO : Nat → Nat} (oI : Nat → Int32) (oR : Nat → Nat → Int32) (F : zF C D { frames := 0, cells := 0, slots := 0, locals := 0 } cX6_passes 3 wsX6_passes RX6 none cyI cyB) {post : (Nat → Int32) → (Nat → Nat → Int32) → Prop} (hRt : zRv C D cX6_passes 3 (S := ((Nat → Int32) × (Nat → Nat → Int32))) (fun u => (wMo aO cyI u.1 u.2)) (fun u => post u.1 u.2)) (hw : pX6_passes_6 oI oR post) : zX C D 3 0 0 (wMo aO cyI oI oR) 0 [(0, .ref (aO 0)), (1, .ref (aO 7))] [] := by
  refine z_iconst F dX6_passes_0 1 rfl zki_0 ?_
  refine z_istore_n (lv' := [(2, .int 0), (0, .ref (aO 0)), (1, .ref (aO 7))]) F dX6_passes_1 2 rfl (by decide) rfl ?_
  obtain ⟨n1, hw⟩ := hw
  refine z_lv (lv' := [(0, .ref (aO 0)), (1, .ref (aO 7)), (2, .int 0)]) [1, 2, 0] rfl ?_
  refine xX6_passes_6_2 F hRt n1 0 oI oR hw
set_option maxHeartbeats 4000000 in
set_option maxRecDepth 100000 in
theorem mX6_passes_6 (l : Launch) (D : va_G) (cyI cyB : ClassId) (aO : Nat → Nat) (oI : Nat → Int32) (oR : Nat → Nat → Int32) {post : (Nat → Int32) → (Nat → Nat → Int32) → Prop} (hw : pX6_passes_6 oI oR post) : zMv l yX6_passes wsX6_passes 0 0 D cyI cyB [.ref (aO 0), .ref (aO 7)] (wMo aO cyI oI oR) (S := ((Nat → Int32) × (Nat → Nat → Int32))) (fun u => (wMo aO cyI u.1 u.2)) (fun u => post u.1 u.2) :=
  z_metv (cc := cX6_passes) (nL := 3) (by decide +kernel) rfl (Nat.le_of_ble_eq_true rfl) (fun C hl F hRt => xX6_passes_6_0 oI oR F hRt hw)
theorem y_X6_passes_6 : zY yX6_passes wsX6_passes cX6_passes 3 none 1 := ⟨⟨_, rfl⟩, by decide +kernel⟩
theorem iX6_passes_7_6 : ∀ w ∈ wsX60, w ∈ wsX6_passes := fun w h => List.mem_cons_of_mem _ (List.mem_append_right _ h)
theorem kX6_passes_7_65 : zL wsX6_passes RX6 65 6 27 (.array .int) true := zL6 iX6_passes_7_6 (by decide) (List.mem_of_getElem? (i := 2) rfl) rfl rfl
theorem kX6_passes_7_224 : zL wsX6_passes RX6 224 6 29 .boolean false := zL6 iX6_passes_7_6 (by decide) (List.mem_of_getElem? (i := 1) rfl) rfl rfl
theorem kX6_passes_7_228 : zL wsX6_passes RX6 228 6 30 .int false := zL6 iX6_passes_7_6 (by decide) (List.mem_of_getElem? (i := 3) rfl) rfl rfl
set_option maxHeartbeats 4000000 in
set_option maxRecDepth 100000 in
theorem xX6_passes_7_2 {C : zC} {D : va_G} {cyI cyB : ClassId} {aO : Nat → Nat} (F : zF C D { frames := 0, cells := 0, slots := 0, locals := 0 } cX6_passes 3 wsX6_passes RX6 none cyI cyB) {post : (Nat → Int32) → (Nat → Nat → Int32) → Prop} (hRt : zRv C D cX6_passes 3 (S := ((Nat → Int32) × (Nat → Nat → Int32))) (fun u => (wMo aO cyI u.1 u.2)) (fun u => post u.1 u.2)) : ∀ (n : Nat) (x2 : Int32) (oI : Nat → Int32) (oR : Nat → Nat → Int32), bX6_passes_7_2 post  n x2 oI oR → zX C D 3 0 0 (wMo aO cyI oI oR) 2 [(0, .ref (aO 0)), (1, .ref (aO 8)), (2, .int x2)] [] := by
  intro n
  induction n with
  | zero => intro _ _ _ hw; exact hw.elim
  | succ n ih =>
    intro x2 oI oR hw
    refine z_iload_n F dX6_passes_2 3 rfl 2 rfl ?_
    refine z_aload_n F dX6_passes_3 4 rfl 1 rfl ?_
    refine z_alen F dX6_passes_4 5 rfl 8 rfl ?_
    obtain ⟨hwt, hwf⟩ := hw
    refine z_icmpge F dX6_passes_5 58 rfl 8 rfl (fun c1 => ?_) (fun c1 => ?_)
    · have hw := hwt c1; clear hwt hwf
      exact hRt 58 _ (oI, oR) dX6_passes_58 hw
    · have hw := hwf c1; clear hwt hwf
      refine z_aload_n F dX6_passes_8 9 rfl 0 rfl ?_
      refine z_get F dX6_passes_9 12 rfl kX6_passes_7_224 0 rfl rfl ?_
      obtain ⟨hwt, hwf⟩ := hw
      refine z_ifeq F dX6_passes_12 30 rfl 15 rfl (fun c2 => ?_) (fun c2 => ?_)
      · have hw := hwt c2; clear hwt hwf
        refine z_aload_n F dX6_passes_30 31 rfl 1 rfl ?_
        refine z_iload_n F dX6_passes_31 32 rfl 2 rfl ?_
        refine z_aload_n F dX6_passes_32 33 rfl 0 rfl ?_
        refine z_get F dX6_passes_33 36 rfl kX6_passes_7_65 0 rfl rfl ?_
        refine z_aload_n F dX6_passes_36 37 rfl 0 rfl ?_
        refine z_get F dX6_passes_37 40 rfl kX6_passes_7_228 0 rfl rfl ?_
        obtain ⟨j1, ej1, hj1, hw⟩ := hw
        refine z_iald F dX6_passes_40 41 rfl 18 rfl (by decide) j1 ej1 hj1 ?_
        refine z_topi (fun v1 ev1 => ?_)
        replace hw := hw v1 ev1
        obtain ⟨j2, ej2, hj2, hw⟩ := hw
        refine z_iast F dX6_passes_41 42 rfl 8 rfl (by decide) j2 ej2 hj2 (wMo aO cyI oI (va_up oR 7 (upd (oR 7) j2 v1))) rfl ?_
        refine z_aload_n F dX6_passes_42 43 rfl 0 rfl ?_
        refine z_dup F dX6_passes_43 44 rfl rfl ?_
        refine z_get F dX6_passes_44 47 rfl kX6_passes_7_228 0 rfl rfl ?_
        refine z_iconst F dX6_passes_47 48 rfl zki_1 ?_
        refine z_iadd F dX6_passes_48 49 rfl ?_
        refine z_topi (fun v2 ev2 => ?_)
        replace hw := hw v2 ev2
        refine z_put F dX6_passes_49 52 rfl kX6_passes_7_228 0 rfl rfl rfl (Nat.le_of_ble_eq_true rfl) (wMo aO cyI (va_up oI 30 v2) (va_up oR 7 (upd (oR 7) j2 v1))) rfl ?_
        refine z_iinc F dX6_passes_52 55 rfl 2 rfl (by decide) zki_1 (fun v3 => [(2, .int v3), (0, .ref (aO 0)), (1, .ref (aO 8))]) (fun _ => rfl) (fun v3 ev3 => ?_)
        replace hw := hw v3 ev3
        refine z_goto F dX6_passes_55 2 rfl ?_
        refine z_lv (lv' := [(0, .ref (aO 0)), (1, .ref (aO 8)), (2, .int v3)]) [1, 2, 0] rfl ?_
        exact ih v3 (va_up oI 30 v2) (va_up oR 7 (upd (oR 7) j2 v1)) hw
      · have hw := hwf c2; clear hwt hwf
        refine z_aload_n F dX6_passes_15 16 rfl 0 rfl ?_
        refine z_get F dX6_passes_16 19 rfl kX6_passes_7_65 0 rfl rfl ?_
        refine z_aload_n F dX6_passes_19 20 rfl 0 rfl ?_
        refine z_get F dX6_passes_20 23 rfl kX6_passes_7_228 0 rfl rfl ?_
        refine z_aload_n F dX6_passes_23 24 rfl 1 rfl ?_
        refine z_iload_n F dX6_passes_24 25 rfl 2 rfl ?_
        obtain ⟨j3, ej3, hj3, hw⟩ := hw
        refine z_iald F dX6_passes_25 26 rfl 8 rfl (by decide) j3 ej3 hj3 ?_
        refine z_topi (fun v4 ev4 => ?_)
        replace hw := hw v4 ev4
        obtain ⟨j4, ej4, hj4, hw⟩ := hw
        refine z_iast F dX6_passes_26 27 rfl 18 rfl (by decide) j4 ej4 hj4 (wMo aO cyI oI (va_up oR 27 (upd (oR 27) j4 v4))) rfl ?_
        refine z_goto F dX6_passes_27 42 rfl ?_
        refine z_aload_n F dX6_passes_42 43 rfl 0 rfl ?_
        refine z_dup F dX6_passes_43 44 rfl rfl ?_
        refine z_get F dX6_passes_44 47 rfl kX6_passes_7_228 0 rfl rfl ?_
        refine z_iconst F dX6_passes_47 48 rfl zki_1 ?_
        refine z_iadd F dX6_passes_48 49 rfl ?_
        refine z_topi (fun v5 ev5 => ?_)
        replace hw := hw v5 ev5
        refine z_put F dX6_passes_49 52 rfl kX6_passes_7_228 0 rfl rfl rfl (Nat.le_of_ble_eq_true rfl) (wMo aO cyI (va_up oI 30 v5) (va_up oR 27 (upd (oR 27) j4 v4))) rfl ?_
        refine z_iinc F dX6_passes_52 55 rfl 2 rfl (by decide) zki_1 (fun v6 => [(2, .int v6), (0, .ref (aO 0)), (1, .ref (aO 8))]) (fun _ => rfl) (fun v6 ev6 => ?_)
        replace hw := hw v6 ev6
        refine z_goto F dX6_passes_55 2 rfl ?_
        refine z_lv (lv' := [(0, .ref (aO 0)), (1, .ref (aO 8)), (2, .int v6)]) [1, 2, 0] rfl ?_
        exact ih v6 (va_up oI 30 v5) (va_up oR 27 (upd (oR 27) j4 v4)) hw
set_option maxHeartbeats 4000000 in
set_option maxRecDepth 100000 in
theorem xX6_passes_7_0 {C : zC} {D : va_G} {cyI cyB : ClassId} {aO : Nat → Nat} (oI : Nat → Int32) (oR : Nat → Nat → Int32) (F : zF C D { frames := 0, cells := 0, slots := 0, locals := 0 } cX6_passes 3 wsX6_passes RX6 none cyI cyB) {post : (Nat → Int32) → (Nat → Nat → Int32) → Prop} (hRt : zRv C D cX6_passes 3 (S := ((Nat → Int32) × (Nat → Nat → Int32))) (fun u => (wMo aO cyI u.1 u.2)) (fun u => post u.1 u.2)) (hw : pX6_passes_7 oI oR post) : zX C D 3 0 0 (wMo aO cyI oI oR) 0 [(0, .ref (aO 0)), (1, .ref (aO 8))] [] := by
  refine z_iconst F dX6_passes_0 1 rfl zki_0 ?_
  refine z_istore_n (lv' := [(2, .int 0), (0, .ref (aO 0)), (1, .ref (aO 8))]) F dX6_passes_1 2 rfl (by decide) rfl ?_
  obtain ⟨n1, hw⟩ := hw
  refine z_lv (lv' := [(0, .ref (aO 0)), (1, .ref (aO 8)), (2, .int 0)]) [1, 2, 0] rfl ?_
  refine xX6_passes_7_2 F hRt n1 0 oI oR hw
set_option maxHeartbeats 4000000 in
set_option maxRecDepth 100000 in
theorem mX6_passes_7 (l : Launch) (D : va_G) (cyI cyB : ClassId) (aO : Nat → Nat) (oI : Nat → Int32) (oR : Nat → Nat → Int32) {post : (Nat → Int32) → (Nat → Nat → Int32) → Prop} (hw : pX6_passes_7 oI oR post) : zMv l yX6_passes wsX6_passes 0 0 D cyI cyB [.ref (aO 0), .ref (aO 8)] (wMo aO cyI oI oR) (S := ((Nat → Int32) × (Nat → Nat → Int32))) (fun u => (wMo aO cyI u.1 u.2)) (fun u => post u.1 u.2) :=
  z_metv (cc := cX6_passes) (nL := 3) (by decide +kernel) rfl (Nat.le_of_ble_eq_true rfl) (fun C hl F hRt => xX6_passes_7_0 oI oR F hRt hw)
theorem y_X6_passes_7 : zY yX6_passes wsX6_passes cX6_passes 3 none 1 := ⟨⟨_, rfl⟩, by decide +kernel⟩
theorem iX6_passes_8_6 : ∀ w ∈ wsX60, w ∈ wsX6_passes := fun w h => List.mem_cons_of_mem _ (List.mem_append_right _ h)
theorem kX6_passes_8_65 : zL wsX6_passes RX6 65 6 27 (.array .int) true := zL6 iX6_passes_8_6 (by decide) (List.mem_of_getElem? (i := 2) rfl) rfl rfl
theorem kX6_passes_8_224 : zL wsX6_passes RX6 224 6 29 .boolean false := zL6 iX6_passes_8_6 (by decide) (List.mem_of_getElem? (i := 1) rfl) rfl rfl
theorem kX6_passes_8_228 : zL wsX6_passes RX6 228 6 30 .int false := zL6 iX6_passes_8_6 (by decide) (List.mem_of_getElem? (i := 3) rfl) rfl rfl
set_option maxHeartbeats 4000000 in
set_option maxRecDepth 100000 in
theorem xX6_passes_8_2 {C : zC} {D : va_G} {cyI cyB : ClassId} {aO : Nat → Nat} (F : zF C D { frames := 0, cells := 0, slots := 0, locals := 0 } cX6_passes 3 wsX6_passes RX6 none cyI cyB) {post : (Nat → Int32) → (Nat → Nat → Int32) → Prop} (hRt : zRv C D cX6_passes 3 (S := ((Nat → Int32) × (Nat → Nat → Int32))) (fun u => (wMo aO cyI u.1 u.2)) (fun u => post u.1 u.2)) : ∀ (n : Nat) (x2 : Int32) (oI : Nat → Int32) (oR : Nat → Nat → Int32), bX6_passes_8_2 post  n x2 oI oR → zX C D 3 0 0 (wMo aO cyI oI oR) 2 [(0, .ref (aO 0)), (1, .ref (aO 9)), (2, .int x2)] [] := by
  intro n
  induction n with
  | zero => intro _ _ _ hw; exact hw.elim
  | succ n ih =>
    intro x2 oI oR hw
    refine z_iload_n F dX6_passes_2 3 rfl 2 rfl ?_
    refine z_aload_n F dX6_passes_3 4 rfl 1 rfl ?_
    refine z_alen F dX6_passes_4 5 rfl 9 rfl ?_
    obtain ⟨hwt, hwf⟩ := hw
    refine z_icmpge F dX6_passes_5 58 rfl 8 rfl (fun c1 => ?_) (fun c1 => ?_)
    · have hw := hwt c1; clear hwt hwf
      exact hRt 58 _ (oI, oR) dX6_passes_58 hw
    · have hw := hwf c1; clear hwt hwf
      refine z_aload_n F dX6_passes_8 9 rfl 0 rfl ?_
      refine z_get F dX6_passes_9 12 rfl kX6_passes_8_224 0 rfl rfl ?_
      obtain ⟨hwt, hwf⟩ := hw
      refine z_ifeq F dX6_passes_12 30 rfl 15 rfl (fun c2 => ?_) (fun c2 => ?_)
      · have hw := hwt c2; clear hwt hwf
        refine z_aload_n F dX6_passes_30 31 rfl 1 rfl ?_
        refine z_iload_n F dX6_passes_31 32 rfl 2 rfl ?_
        refine z_aload_n F dX6_passes_32 33 rfl 0 rfl ?_
        refine z_get F dX6_passes_33 36 rfl kX6_passes_8_65 0 rfl rfl ?_
        refine z_aload_n F dX6_passes_36 37 rfl 0 rfl ?_
        refine z_get F dX6_passes_37 40 rfl kX6_passes_8_228 0 rfl rfl ?_
        obtain ⟨j1, ej1, hj1, hw⟩ := hw
        refine z_iald F dX6_passes_40 41 rfl 18 rfl (by decide) j1 ej1 hj1 ?_
        refine z_topi (fun v1 ev1 => ?_)
        replace hw := hw v1 ev1
        obtain ⟨j2, ej2, hj2, hw⟩ := hw
        refine z_iast F dX6_passes_41 42 rfl 9 rfl (by decide) j2 ej2 hj2 (wMo aO cyI oI (va_up oR 8 (upd (oR 8) j2 v1))) rfl ?_
        refine z_aload_n F dX6_passes_42 43 rfl 0 rfl ?_
        refine z_dup F dX6_passes_43 44 rfl rfl ?_
        refine z_get F dX6_passes_44 47 rfl kX6_passes_8_228 0 rfl rfl ?_
        refine z_iconst F dX6_passes_47 48 rfl zki_1 ?_
        refine z_iadd F dX6_passes_48 49 rfl ?_
        refine z_topi (fun v2 ev2 => ?_)
        replace hw := hw v2 ev2
        refine z_put F dX6_passes_49 52 rfl kX6_passes_8_228 0 rfl rfl rfl (Nat.le_of_ble_eq_true rfl) (wMo aO cyI (va_up oI 30 v2) (va_up oR 8 (upd (oR 8) j2 v1))) rfl ?_
        refine z_iinc F dX6_passes_52 55 rfl 2 rfl (by decide) zki_1 (fun v3 => [(2, .int v3), (0, .ref (aO 0)), (1, .ref (aO 9))]) (fun _ => rfl) (fun v3 ev3 => ?_)
        replace hw := hw v3 ev3
        refine z_goto F dX6_passes_55 2 rfl ?_
        refine z_lv (lv' := [(0, .ref (aO 0)), (1, .ref (aO 9)), (2, .int v3)]) [1, 2, 0] rfl ?_
        exact ih v3 (va_up oI 30 v2) (va_up oR 8 (upd (oR 8) j2 v1)) hw
      · have hw := hwf c2; clear hwt hwf
        refine z_aload_n F dX6_passes_15 16 rfl 0 rfl ?_
        refine z_get F dX6_passes_16 19 rfl kX6_passes_8_65 0 rfl rfl ?_
        refine z_aload_n F dX6_passes_19 20 rfl 0 rfl ?_
        refine z_get F dX6_passes_20 23 rfl kX6_passes_8_228 0 rfl rfl ?_
        refine z_aload_n F dX6_passes_23 24 rfl 1 rfl ?_
        refine z_iload_n F dX6_passes_24 25 rfl 2 rfl ?_
        obtain ⟨j3, ej3, hj3, hw⟩ := hw
        refine z_iald F dX6_passes_25 26 rfl 9 rfl (by decide) j3 ej3 hj3 ?_
        refine z_topi (fun v4 ev4 => ?_)
        replace hw := hw v4 ev4
        obtain ⟨j4, ej4, hj4, hw⟩ := hw
        refine z_iast F dX6_passes_26 27 rfl 18 rfl (by decide) j4 ej4 hj4 (wMo aO cyI oI (va_up oR 27 (upd (oR 27) j4 v4))) rfl ?_
        refine z_goto F dX6_passes_27 42 rfl ?_
        refine z_aload_n F dX6_passes_42 43 rfl 0 rfl ?_
        refine z_dup F dX6_passes_43 44 rfl rfl ?_
        refine z_get F dX6_passes_44 47 rfl kX6_passes_8_228 0 rfl rfl ?_
        refine z_iconst F dX6_passes_47 48 rfl zki_1 ?_
        refine z_iadd F dX6_passes_48 49 rfl ?_
        refine z_topi (fun v5 ev5 => ?_)
        replace hw := hw v5 ev5
        refine z_put F dX6_passes_49 52 rfl kX6_passes_8_228 0 rfl rfl rfl (Nat.le_of_ble_eq_true rfl) (wMo aO cyI (va_up oI 30 v5) (va_up oR 27 (upd (oR 27) j4 v4))) rfl ?_
        refine z_iinc F dX6_passes_52 55 rfl 2 rfl (by decide) zki_1 (fun v6 => [(2, .int v6), (0, .ref (aO 0)), (1, .ref (aO 9))]) (fun _ => rfl) (fun v6 ev6 => ?_)
        replace hw := hw v6 ev6
        refine z_goto F dX6_passes_55 2 rfl ?_
        refine z_lv (lv' := [(0, .ref (aO 0)), (1, .ref (aO 9)), (2, .int v6)]) [1, 2, 0] rfl ?_
        exact ih v6 (va_up oI 30 v5) (va_up oR 27 (upd (oR 27) j4 v4)) hw
set_option maxHeartbeats 4000000 in
set_option maxRecDepth 100000 in
theorem xX6_passes_8_0 {C : zC} {D : va_G} {cyI cyB : ClassId} {aO : Nat → Nat} (oI : Nat → Int32) (oR : Nat → Nat → Int32) (F : zF C D { frames := 0, cells := 0, slots := 0, locals := 0 } cX6_passes 3 wsX6_passes RX6 none cyI cyB) {post : (Nat → Int32) → (Nat → Nat → Int32) → Prop} (hRt : zRv C D cX6_passes 3 (S := ((Nat → Int32) × (Nat → Nat → Int32))) (fun u => (wMo aO cyI u.1 u.2)) (fun u => post u.1 u.2)) (hw : pX6_passes_8 oI oR post) : zX C D 3 0 0 (wMo aO cyI oI oR) 0 [(0, .ref (aO 0)), (1, .ref (aO 9))] [] := by
  refine z_iconst F dX6_passes_0 1 rfl zki_0 ?_
  refine z_istore_n (lv' := [(2, .int 0), (0, .ref (aO 0)), (1, .ref (aO 9))]) F dX6_passes_1 2 rfl (by decide) rfl ?_
  obtain ⟨n1, hw⟩ := hw
  refine z_lv (lv' := [(0, .ref (aO 0)), (1, .ref (aO 9)), (2, .int 0)]) [1, 2, 0] rfl ?_
  refine xX6_passes_8_2 F hRt n1 0 oI oR hw
set_option maxHeartbeats 4000000 in
set_option maxRecDepth 100000 in
theorem mX6_passes_8 (l : Launch) (D : va_G) (cyI cyB : ClassId) (aO : Nat → Nat) (oI : Nat → Int32) (oR : Nat → Nat → Int32) {post : (Nat → Int32) → (Nat → Nat → Int32) → Prop} (hw : pX6_passes_8 oI oR post) : zMv l yX6_passes wsX6_passes 0 0 D cyI cyB [.ref (aO 0), .ref (aO 9)] (wMo aO cyI oI oR) (S := ((Nat → Int32) × (Nat → Nat → Int32))) (fun u => (wMo aO cyI u.1 u.2)) (fun u => post u.1 u.2) :=
  z_metv (cc := cX6_passes) (nL := 3) (by decide +kernel) rfl (Nat.le_of_ble_eq_true rfl) (fun C hl F hRt => xX6_passes_8_0 oI oR F hRt hw)
theorem y_X6_passes_8 : zY yX6_passes wsX6_passes cX6_passes 3 none 1 := ⟨⟨_, rfl⟩, by decide +kernel⟩
theorem iX6_passes_9_6 : ∀ w ∈ wsX60, w ∈ wsX6_passes := fun w h => List.mem_cons_of_mem _ (List.mem_append_right _ h)
theorem kX6_passes_9_65 : zL wsX6_passes RX6 65 6 27 (.array .int) true := zL6 iX6_passes_9_6 (by decide) (List.mem_of_getElem? (i := 2) rfl) rfl rfl
theorem kX6_passes_9_224 : zL wsX6_passes RX6 224 6 29 .boolean false := zL6 iX6_passes_9_6 (by decide) (List.mem_of_getElem? (i := 1) rfl) rfl rfl
theorem kX6_passes_9_228 : zL wsX6_passes RX6 228 6 30 .int false := zL6 iX6_passes_9_6 (by decide) (List.mem_of_getElem? (i := 3) rfl) rfl rfl
set_option maxHeartbeats 4000000 in
set_option maxRecDepth 100000 in
theorem xX6_passes_9_2 {C : zC} {D : va_G} {cyI cyB : ClassId} {aO : Nat → Nat} (F : zF C D { frames := 0, cells := 0, slots := 0, locals := 0 } cX6_passes 3 wsX6_passes RX6 none cyI cyB) {post : (Nat → Int32) → (Nat → Nat → Int32) → Prop} (hRt : zRv C D cX6_passes 3 (S := ((Nat → Int32) × (Nat → Nat → Int32))) (fun u => (wMo aO cyI u.1 u.2)) (fun u => post u.1 u.2)) : ∀ (n : Nat) (x2 : Int32) (oI : Nat → Int32) (oR : Nat → Nat → Int32), bX6_passes_9_2 post  n x2 oI oR → zX C D 3 0 0 (wMo aO cyI oI oR) 2 [(0, .ref (aO 0)), (1, .ref (aO 10)), (2, .int x2)] [] := by
  intro n
  induction n with
  | zero => intro _ _ _ hw; exact hw.elim
  | succ n ih =>
    intro x2 oI oR hw
    refine z_iload_n F dX6_passes_2 3 rfl 2 rfl ?_
    refine z_aload_n F dX6_passes_3 4 rfl 1 rfl ?_
    refine z_alen F dX6_passes_4 5 rfl 10 rfl ?_
    obtain ⟨hwt, hwf⟩ := hw
    refine z_icmpge F dX6_passes_5 58 rfl 8 rfl (fun c1 => ?_) (fun c1 => ?_)
    · have hw := hwt c1; clear hwt hwf
      exact hRt 58 _ (oI, oR) dX6_passes_58 hw
    · have hw := hwf c1; clear hwt hwf
      refine z_aload_n F dX6_passes_8 9 rfl 0 rfl ?_
      refine z_get F dX6_passes_9 12 rfl kX6_passes_9_224 0 rfl rfl ?_
      obtain ⟨hwt, hwf⟩ := hw
      refine z_ifeq F dX6_passes_12 30 rfl 15 rfl (fun c2 => ?_) (fun c2 => ?_)
      · have hw := hwt c2; clear hwt hwf
        refine z_aload_n F dX6_passes_30 31 rfl 1 rfl ?_
        refine z_iload_n F dX6_passes_31 32 rfl 2 rfl ?_
        refine z_aload_n F dX6_passes_32 33 rfl 0 rfl ?_
        refine z_get F dX6_passes_33 36 rfl kX6_passes_9_65 0 rfl rfl ?_
        refine z_aload_n F dX6_passes_36 37 rfl 0 rfl ?_
        refine z_get F dX6_passes_37 40 rfl kX6_passes_9_228 0 rfl rfl ?_
        obtain ⟨j1, ej1, hj1, hw⟩ := hw
        refine z_iald F dX6_passes_40 41 rfl 18 rfl (by decide) j1 ej1 hj1 ?_
        refine z_topi (fun v1 ev1 => ?_)
        replace hw := hw v1 ev1
        obtain ⟨j2, ej2, hj2, hw⟩ := hw
        refine z_iast F dX6_passes_41 42 rfl 10 rfl (by decide) j2 ej2 hj2 (wMo aO cyI oI (va_up oR 9 (upd (oR 9) j2 v1))) rfl ?_
        refine z_aload_n F dX6_passes_42 43 rfl 0 rfl ?_
        refine z_dup F dX6_passes_43 44 rfl rfl ?_
        refine z_get F dX6_passes_44 47 rfl kX6_passes_9_228 0 rfl rfl ?_
        refine z_iconst F dX6_passes_47 48 rfl zki_1 ?_
        refine z_iadd F dX6_passes_48 49 rfl ?_
        refine z_topi (fun v2 ev2 => ?_)
        replace hw := hw v2 ev2
        refine z_put F dX6_passes_49 52 rfl kX6_passes_9_228 0 rfl rfl rfl (Nat.le_of_ble_eq_true rfl) (wMo aO cyI (va_up oI 30 v2) (va_up oR 9 (upd (oR 9) j2 v1))) rfl ?_
        refine z_iinc F dX6_passes_52 55 rfl 2 rfl (by decide) zki_1 (fun v3 => [(2, .int v3), (0, .ref (aO 0)), (1, .ref (aO 10))]) (fun _ => rfl) (fun v3 ev3 => ?_)
        replace hw := hw v3 ev3
        refine z_goto F dX6_passes_55 2 rfl ?_
        refine z_lv (lv' := [(0, .ref (aO 0)), (1, .ref (aO 10)), (2, .int v3)]) [1, 2, 0] rfl ?_
        exact ih v3 (va_up oI 30 v2) (va_up oR 9 (upd (oR 9) j2 v1)) hw
      · have hw := hwf c2; clear hwt hwf
        refine z_aload_n F dX6_passes_15 16 rfl 0 rfl ?_
        refine z_get F dX6_passes_16 19 rfl kX6_passes_9_65 0 rfl rfl ?_
        refine z_aload_n F dX6_passes_19 20 rfl 0 rfl ?_
        refine z_get F dX6_passes_20 23 rfl kX6_passes_9_228 0 rfl rfl ?_
        refine z_aload_n F dX6_passes_23 24 rfl 1 rfl ?_
        refine z_iload_n F dX6_passes_24 25 rfl 2 rfl ?_
        obtain ⟨j3, ej3, hj3, hw⟩ := hw
        refine z_iald F dX6_passes_25 26 rfl 10 rfl (by decide) j3 ej3 hj3 ?_
        refine z_topi (fun v4 ev4 => ?_)
        replace hw := hw v4 ev4
        obtain ⟨j4, ej4, hj4, hw⟩ := hw
        refine z_iast F dX6_passes_26 27 rfl 18 rfl (by decide) j4 ej4 hj4 (wMo aO cyI oI (va_up oR 27 (upd (oR 27) j4 v4))) rfl ?_
        refine z_goto F dX6_passes_27 42 rfl ?_
        refine z_aload_n F dX6_passes_42 43 rfl 0 rfl ?_
        refine z_dup F dX6_passes_43 44 rfl rfl ?_
        refine z_get F dX6_passes_44 47 rfl kX6_passes_9_228 0 rfl rfl ?_
        refine z_iconst F dX6_passes_47 48 rfl zki_1 ?_
        refine z_iadd F dX6_passes_48 49 rfl ?_
        refine z_topi (fun v5 ev5 => ?_)
        replace hw := hw v5 ev5
        refine z_put F dX6_passes_49 52 rfl kX6_passes_9_228 0 rfl rfl rfl (Nat.le_of_ble_eq_true rfl) (wMo aO cyI (va_up oI 30 v5) (va_up oR 27 (upd (oR 27) j4 v4))) rfl ?_
        refine z_iinc F dX6_passes_52 55 rfl 2 rfl (by decide) zki_1 (fun v6 => [(2, .int v6), (0, .ref (aO 0)), (1, .ref (aO 10))]) (fun _ => rfl) (fun v6 ev6 => ?_)
        replace hw := hw v6 ev6
        refine z_goto F dX6_passes_55 2 rfl ?_
        refine z_lv (lv' := [(0, .ref (aO 0)), (1, .ref (aO 10)), (2, .int v6)]) [1, 2, 0] rfl ?_
        exact ih v6 (va_up oI 30 v5) (va_up oR 27 (upd (oR 27) j4 v4)) hw
set_option maxHeartbeats 4000000 in
set_option maxRecDepth 100000 in
theorem xX6_passes_9_0 {C : zC} {D : va_G} {cyI cyB : ClassId} {aO : Nat → Nat} (oI : Nat → Int32) (oR : Nat → Nat → Int32) (F : zF C D { frames := 0, cells := 0, slots := 0, locals := 0 } cX6_passes 3 wsX6_passes RX6 none cyI cyB) {post : (Nat → Int32) → (Nat → Nat → Int32) → Prop} (hRt : zRv C D cX6_passes 3 (S := ((Nat → Int32) × (Nat → Nat → Int32))) (fun u => (wMo aO cyI u.1 u.2)) (fun u => post u.1 u.2)) (hw : pX6_passes_9 oI oR post) : zX C D 3 0 0 (wMo aO cyI oI oR) 0 [(0, .ref (aO 0)), (1, .ref (aO 10))] [] := by
  refine z_iconst F dX6_passes_0 1 rfl zki_0 ?_
  refine z_istore_n (lv' := [(2, .int 0), (0, .ref (aO 0)), (1, .ref (aO 10))]) F dX6_passes_1 2 rfl (by decide) rfl ?_
  obtain ⟨n1, hw⟩ := hw
  refine z_lv (lv' := [(0, .ref (aO 0)), (1, .ref (aO 10)), (2, .int 0)]) [1, 2, 0] rfl ?_
  refine xX6_passes_9_2 F hRt n1 0 oI oR hw
set_option maxHeartbeats 4000000 in
set_option maxRecDepth 100000 in
theorem mX6_passes_9 (l : Launch) (D : va_G) (cyI cyB : ClassId) (aO : Nat → Nat) (oI : Nat → Int32) (oR : Nat → Nat → Int32) {post : (Nat → Int32) → (Nat → Nat → Int32) → Prop} (hw : pX6_passes_9 oI oR post) : zMv l yX6_passes wsX6_passes 0 0 D cyI cyB [.ref (aO 0), .ref (aO 10)] (wMo aO cyI oI oR) (S := ((Nat → Int32) × (Nat → Nat → Int32))) (fun u => (wMo aO cyI u.1 u.2)) (fun u => post u.1 u.2) :=
  z_metv (cc := cX6_passes) (nL := 3) (by decide +kernel) rfl (Nat.le_of_ble_eq_true rfl) (fun C hl F hRt => xX6_passes_9_0 oI oR F hRt hw)
theorem y_X6_passes_9 : zY yX6_passes wsX6_passes cX6_passes 3 none 1 := ⟨⟨_, rfl⟩, by decide +kernel⟩
theorem iX6_passesAll_6 : ∀ w ∈ wsX60, w ∈ wsX6_passesAll := fun w h => List.mem_cons_of_mem _ (List.mem_append_right _ h)
theorem kX6_passesAll_13 : zL wsX6_passesAll RX6 13 6 1 (.array .int) true := zL6 iX6_passesAll_6 (by decide) (List.mem_of_getElem? (i := 2) rfl) rfl rfl
theorem kX6_passesAll_16 : zL wsX6_passesAll RX6 16 6 2 (.array .int) true := zL6 iX6_passesAll_6 (by decide) (List.mem_of_getElem? (i := 3) rfl) rfl rfl
theorem kX6_passesAll_19 : zL wsX6_passesAll RX6 19 6 3 (.array .int) true := zL6 iX6_passesAll_6 (by decide) (List.mem_of_getElem? (i := 4) rfl) rfl rfl
theorem kX6_passesAll_22 : zL wsX6_passesAll RX6 22 6 4 (.array .int) true := zL6 iX6_passesAll_6 (by decide) (List.mem_of_getElem? (i := 5) rfl) rfl rfl
theorem kX6_passesAll_25 : zL wsX6_passesAll RX6 25 6 5 (.array .int) true := zL6 iX6_passesAll_6 (by decide) (List.mem_of_getElem? (i := 6) rfl) rfl rfl
theorem kX6_passesAll_28 : zL wsX6_passesAll RX6 28 6 6 (.array .int) true := zL6 iX6_passesAll_6 (by decide) (List.mem_of_getElem? (i := 7) rfl) rfl rfl
theorem kX6_passesAll_31 : zL wsX6_passesAll RX6 31 6 7 (.array .int) true := zL6 iX6_passesAll_6 (by decide) (List.mem_of_getElem? (i := 8) rfl) rfl rfl
theorem kX6_passesAll_34 : zL wsX6_passesAll RX6 34 6 8 (.array .int) true := zL6 iX6_passesAll_6 (by decide) (List.mem_of_getElem? (i := 9) rfl) rfl rfl
theorem kX6_passesAll_37 : zL wsX6_passesAll RX6 37 6 9 (.array .int) true := zL6 iX6_passesAll_6 (by decide) (List.mem_of_getElem? (i := 10) rfl) rfl rfl
theorem kX6_passesAll_40 : zL wsX6_passesAll RX6 40 6 10 .int false := zL6 iX6_passesAll_6 (by decide) (List.mem_of_getElem? (i := 11) rfl) rfl rfl
theorem kX6_passesAll_72 : zL wsX6_passesAll RX6 72 6 11 .int false := zL6 iX6_passesAll_6 (by decide) (List.mem_of_getElem? (i := 12) rfl) rfl rfl
theorem kX6_passesAll_83 : zL wsX6_passesAll RX6 83 6 15 .int false := zL6 iX6_passesAll_6 (by decide) (List.mem_of_getElem? (i := 16) rfl) rfl rfl
theorem kX6_passesAll_86 : zL wsX6_passesAll RX6 86 6 14 .int false := zL6 iX6_passesAll_6 (by decide) (List.mem_of_getElem? (i := 15) rfl) rfl rfl
theorem kX6_passesAll_102 : zL wsX6_passesAll RX6 102 6 12 .int false := zL6 iX6_passesAll_6 (by decide) (List.mem_of_getElem? (i := 13) rfl) rfl rfl
theorem kX6_passesAll_116 : zL wsX6_passesAll RX6 116 6 13 .int false := zL6 iX6_passesAll_6 (by decide) (List.mem_of_getElem? (i := 14) rfl) rfl rfl
theorem kX6_passesAll_228 : zL wsX6_passesAll RX6 228 6 30 .int false := zL6 iX6_passesAll_6 (by decide) (List.mem_of_getElem? (i := 1) rfl) rfl rfl
set_option maxHeartbeats 4000000 in
set_option maxRecDepth 100000 in
theorem xX6_passesAll_0 {C : zC} {D : va_G} {cyI cyB : ClassId} {aO : Nat → Nat} (oI : Nat → Int32) (oR : Nat → Nat → Int32) (F : zF C D { frames := 1, cells := 0, slots := 0, locals := 22 } cX6_passesAll 1 wsX6_passesAll RX6 none cyI cyB) {post : (Nat → Int32) → (Nat → Nat → Int32) → Prop} (hRt : zRv C D cX6_passesAll 1 (S := ((Nat → Int32) × (Nat → Nat → Int32))) (fun u => (wMo aO cyI u.1 u.2)) (fun u => post u.1 u.2)) (hw : pX6_passesAll oI oR post) : zX C D 1 0 0 (wMo aO cyI oI oR) 0 [(0, .ref (aO 0))] [] := by
  refine z_aload_n F dX6_passesAll_0 1 rfl 0 rfl ?_
  refine z_iconst F dX6_passesAll_1 2 rfl zki_0 ?_
  refine z_put F dX6_passesAll_2 5 rfl kX6_passesAll_228 0 rfl rfl rfl (Nat.le_of_ble_eq_true rfl) (wMo aO cyI (va_up oI 30 0) oR) rfl ?_
  refine z_aload_n F dX6_passesAll_5 6 rfl 0 rfl ?_
  refine z_aload_n F dX6_passesAll_6 7 rfl 0 rfl ?_
  refine z_get F dX6_passesAll_7 10 rfl kX6_passesAll_13 0 rfl rfl ?_
  refine z_segVv (As := [.ref (aO 2)]) (st := []) F dX6_passesAll_10 13 rfl (mX6_passes_1 C.1.2.1 D cyI cyB aO (va_up oI 30 0) oR hw) y_X6_passes_1 rfl gX6_passesAll_X6_passes rfl (ci := 6) (rq := 0) rfl rfl ⟨Nat.le_of_ble_eq_true rfl, Nat.le_of_ble_eq_true rfl⟩ ⟨Nat.zero_le _, Nat.zero_le _⟩ (Nat.le_of_ble_eq_true rfl) [] [] (by simp only [List.append_assoc, List.nil_append, List.append_nil]) (fun _ => rfl) (fun u => (wMo aO cyI u.1 u.2)) (fun u => (by simp only [List.append_assoc, List.nil_append, List.append_nil])) (fun u hp => ?_)
  obtain ⟨oI_1, oR_1⟩ := u
  replace hw := hp
  clear hp
  refine z_aload_n F dX6_passesAll_13 14 rfl 0 rfl ?_
  refine z_aload_n F dX6_passesAll_14 15 rfl 0 rfl ?_
  refine z_get F dX6_passesAll_15 18 rfl kX6_passesAll_16 0 rfl rfl ?_
  refine z_segVv (As := [.ref (aO 3)]) (st := []) F dX6_passesAll_18 21 rfl (mX6_passes_2 C.1.2.1 D cyI cyB aO oI_1 oR_1 hw) y_X6_passes_2 rfl gX6_passesAll_X6_passes rfl (ci := 6) (rq := 0) rfl rfl ⟨Nat.le_of_ble_eq_true rfl, Nat.le_of_ble_eq_true rfl⟩ ⟨Nat.zero_le _, Nat.zero_le _⟩ (Nat.le_of_ble_eq_true rfl) [] [] (by simp only [List.append_assoc, List.nil_append, List.append_nil]) (fun _ => rfl) (fun u => (wMo aO cyI u.1 u.2)) (fun u => (by simp only [List.append_assoc, List.nil_append, List.append_nil])) (fun u hp => ?_)
  obtain ⟨oI_2, oR_2⟩ := u
  replace hw := hp
  clear hp
  refine z_aload_n F dX6_passesAll_21 22 rfl 0 rfl ?_
  refine z_aload_n F dX6_passesAll_22 23 rfl 0 rfl ?_
  refine z_get F dX6_passesAll_23 26 rfl kX6_passesAll_19 0 rfl rfl ?_
  refine z_segVv (As := [.ref (aO 4)]) (st := []) F dX6_passesAll_26 29 rfl (mX6_passes_3 C.1.2.1 D cyI cyB aO oI_2 oR_2 hw) y_X6_passes_3 rfl gX6_passesAll_X6_passes rfl (ci := 6) (rq := 0) rfl rfl ⟨Nat.le_of_ble_eq_true rfl, Nat.le_of_ble_eq_true rfl⟩ ⟨Nat.zero_le _, Nat.zero_le _⟩ (Nat.le_of_ble_eq_true rfl) [] [] (by simp only [List.append_assoc, List.nil_append, List.append_nil]) (fun _ => rfl) (fun u => (wMo aO cyI u.1 u.2)) (fun u => (by simp only [List.append_assoc, List.nil_append, List.append_nil])) (fun u hp => ?_)
  obtain ⟨oI_3, oR_3⟩ := u
  replace hw := hp
  clear hp
  refine z_aload_n F dX6_passesAll_29 30 rfl 0 rfl ?_
  refine z_aload_n F dX6_passesAll_30 31 rfl 0 rfl ?_
  refine z_get F dX6_passesAll_31 34 rfl kX6_passesAll_22 0 rfl rfl ?_
  refine z_segVv (As := [.ref (aO 5)]) (st := []) F dX6_passesAll_34 37 rfl (mX6_passes_4 C.1.2.1 D cyI cyB aO oI_3 oR_3 hw) y_X6_passes_4 rfl gX6_passesAll_X6_passes rfl (ci := 6) (rq := 0) rfl rfl ⟨Nat.le_of_ble_eq_true rfl, Nat.le_of_ble_eq_true rfl⟩ ⟨Nat.zero_le _, Nat.zero_le _⟩ (Nat.le_of_ble_eq_true rfl) [] [] (by simp only [List.append_assoc, List.nil_append, List.append_nil]) (fun _ => rfl) (fun u => (wMo aO cyI u.1 u.2)) (fun u => (by simp only [List.append_assoc, List.nil_append, List.append_nil])) (fun u hp => ?_)
  obtain ⟨oI_4, oR_4⟩ := u
  replace hw := hp
  clear hp
  refine z_aload_n F dX6_passesAll_37 38 rfl 0 rfl ?_
  refine z_aload_n F dX6_passesAll_38 39 rfl 0 rfl ?_
  refine z_get F dX6_passesAll_39 42 rfl kX6_passesAll_25 0 rfl rfl ?_
  refine z_segVv (As := [.ref (aO 6)]) (st := []) F dX6_passesAll_42 45 rfl (mX6_passes_5 C.1.2.1 D cyI cyB aO oI_4 oR_4 hw) y_X6_passes_5 rfl gX6_passesAll_X6_passes rfl (ci := 6) (rq := 0) rfl rfl ⟨Nat.le_of_ble_eq_true rfl, Nat.le_of_ble_eq_true rfl⟩ ⟨Nat.zero_le _, Nat.zero_le _⟩ (Nat.le_of_ble_eq_true rfl) [] [] (by simp only [List.append_assoc, List.nil_append, List.append_nil]) (fun _ => rfl) (fun u => (wMo aO cyI u.1 u.2)) (fun u => (by simp only [List.append_assoc, List.nil_append, List.append_nil])) (fun u hp => ?_)
  obtain ⟨oI_5, oR_5⟩ := u
  replace hw := hp
  clear hp
  refine z_aload_n F dX6_passesAll_45 46 rfl 0 rfl ?_
  refine z_aload_n F dX6_passesAll_46 47 rfl 0 rfl ?_
  refine z_get F dX6_passesAll_47 50 rfl kX6_passesAll_28 0 rfl rfl ?_
  refine z_segVv (As := [.ref (aO 7)]) (st := []) F dX6_passesAll_50 53 rfl (mX6_passes_6 C.1.2.1 D cyI cyB aO oI_5 oR_5 hw) y_X6_passes_6 rfl gX6_passesAll_X6_passes rfl (ci := 6) (rq := 0) rfl rfl ⟨Nat.le_of_ble_eq_true rfl, Nat.le_of_ble_eq_true rfl⟩ ⟨Nat.zero_le _, Nat.zero_le _⟩ (Nat.le_of_ble_eq_true rfl) [] [] (by simp only [List.append_assoc, List.nil_append, List.append_nil]) (fun _ => rfl) (fun u => (wMo aO cyI u.1 u.2)) (fun u => (by simp only [List.append_assoc, List.nil_append, List.append_nil])) (fun u hp => ?_)
  obtain ⟨oI_6, oR_6⟩ := u
  replace hw := hp
  clear hp
  refine z_aload_n F dX6_passesAll_53 54 rfl 0 rfl ?_
  refine z_aload_n F dX6_passesAll_54 55 rfl 0 rfl ?_
  refine z_get F dX6_passesAll_55 58 rfl kX6_passesAll_31 0 rfl rfl ?_
  refine z_segVv (As := [.ref (aO 8)]) (st := []) F dX6_passesAll_58 61 rfl (mX6_passes_7 C.1.2.1 D cyI cyB aO oI_6 oR_6 hw) y_X6_passes_7 rfl gX6_passesAll_X6_passes rfl (ci := 6) (rq := 0) rfl rfl ⟨Nat.le_of_ble_eq_true rfl, Nat.le_of_ble_eq_true rfl⟩ ⟨Nat.zero_le _, Nat.zero_le _⟩ (Nat.le_of_ble_eq_true rfl) [] [] (by simp only [List.append_assoc, List.nil_append, List.append_nil]) (fun _ => rfl) (fun u => (wMo aO cyI u.1 u.2)) (fun u => (by simp only [List.append_assoc, List.nil_append, List.append_nil])) (fun u hp => ?_)
  obtain ⟨oI_7, oR_7⟩ := u
  replace hw := hp
  clear hp
  refine z_aload_n F dX6_passesAll_61 62 rfl 0 rfl ?_
  refine z_aload_n F dX6_passesAll_62 63 rfl 0 rfl ?_
  refine z_get F dX6_passesAll_63 66 rfl kX6_passesAll_34 0 rfl rfl ?_
  refine z_segVv (As := [.ref (aO 9)]) (st := []) F dX6_passesAll_66 69 rfl (mX6_passes_8 C.1.2.1 D cyI cyB aO oI_7 oR_7 hw) y_X6_passes_8 rfl gX6_passesAll_X6_passes rfl (ci := 6) (rq := 0) rfl rfl ⟨Nat.le_of_ble_eq_true rfl, Nat.le_of_ble_eq_true rfl⟩ ⟨Nat.zero_le _, Nat.zero_le _⟩ (Nat.le_of_ble_eq_true rfl) [] [] (by simp only [List.append_assoc, List.nil_append, List.append_nil]) (fun _ => rfl) (fun u => (wMo aO cyI u.1 u.2)) (fun u => (by simp only [List.append_assoc, List.nil_append, List.append_nil])) (fun u hp => ?_)
  obtain ⟨oI_8, oR_8⟩ := u
  replace hw := hp
  clear hp
  refine z_aload_n F dX6_passesAll_69 70 rfl 0 rfl ?_
  refine z_aload_n F dX6_passesAll_70 71 rfl 0 rfl ?_
  refine z_get F dX6_passesAll_71 74 rfl kX6_passesAll_37 0 rfl rfl ?_
  refine z_segVv (As := [.ref (aO 10)]) (st := []) F dX6_passesAll_74 77 rfl (mX6_passes_9 C.1.2.1 D cyI cyB aO oI_8 oR_8 hw) y_X6_passes_9 rfl gX6_passesAll_X6_passes rfl (ci := 6) (rq := 0) rfl rfl ⟨Nat.le_of_ble_eq_true rfl, Nat.le_of_ble_eq_true rfl⟩ ⟨Nat.zero_le _, Nat.zero_le _⟩ (Nat.le_of_ble_eq_true rfl) [] [] (by simp only [List.append_assoc, List.nil_append, List.append_nil]) (fun _ => rfl) (fun u => (wMo aO cyI u.1 u.2)) (fun u => (by simp only [List.append_assoc, List.nil_append, List.append_nil])) (fun u hp => ?_)
  obtain ⟨oI_9, oR_9⟩ := u
  replace hw := hp
  clear hp
  refine z_aload_n F dX6_passesAll_77 78 rfl 0 rfl ?_
  refine z_aload_n F dX6_passesAll_78 79 rfl 0 rfl ?_
  refine z_aload_n F dX6_passesAll_79 80 rfl 0 rfl ?_
  refine z_get F dX6_passesAll_80 83 rfl kX6_passesAll_40 0 rfl rfl ?_
  refine z_segVi (As := [.int (oI_9 10)]) (st := [.ref (aO 0)]) F dX6_passesAll_83 86 rfl (mX6_passOne C.1.2.1 D cyI cyB aO (oI_9 10) oI_9 oR_9 hw) y_X6_passOne rfl gX6_passesAll_X6_passOne rfl (ci := 6) (rq := 0) rfl rfl ⟨Nat.le_of_ble_eq_true rfl, Nat.le_of_ble_eq_true rfl⟩ ⟨Nat.zero_le _, Nat.zero_le _⟩ (Nat.le_of_ble_eq_true rfl) [] [] (by simp only [List.append_assoc, List.nil_append, List.append_nil]) (fun _ => rfl) (fun u => (wMo aO cyI u.1 u.2)) (fun u => (by simp only [List.append_assoc, List.nil_append, List.append_nil])) (fun r1 u hp => ?_)
  obtain ⟨oI_10, oR_10⟩ := u
  replace hw := hp
  clear hp
  refine z_put F dX6_passesAll_86 89 rfl kX6_passesAll_40 0 rfl rfl rfl (Nat.le_of_ble_eq_true rfl) (wMo aO cyI (va_up oI_10 10 r1) oR_10) rfl ?_
  refine z_aload_n F dX6_passesAll_89 90 rfl 0 rfl ?_
  refine z_aload_n F dX6_passesAll_90 91 rfl 0 rfl ?_
  refine z_aload_n F dX6_passesAll_91 92 rfl 0 rfl ?_
  refine z_get F dX6_passesAll_92 95 rfl kX6_passesAll_72 0 rfl rfl ?_
  refine z_segVi (As := [.int (oI_10 11)]) (st := [.ref (aO 0)]) F dX6_passesAll_95 98 rfl (mX6_passOne C.1.2.1 D cyI cyB aO (oI_10 11) (va_up oI_10 10 r1) oR_10 hw) y_X6_passOne rfl gX6_passesAll_X6_passOne rfl (ci := 6) (rq := 0) rfl rfl ⟨Nat.le_of_ble_eq_true rfl, Nat.le_of_ble_eq_true rfl⟩ ⟨Nat.zero_le _, Nat.zero_le _⟩ (Nat.le_of_ble_eq_true rfl) [] [] (by simp only [List.append_assoc, List.nil_append, List.append_nil]) (fun _ => rfl) (fun u => (wMo aO cyI u.1 u.2)) (fun u => (by simp only [List.append_assoc, List.nil_append, List.append_nil])) (fun r2 u hp => ?_)
  obtain ⟨oI_11, oR_11⟩ := u
  replace hw := hp
  clear hp
  refine z_put F dX6_passesAll_98 101 rfl kX6_passesAll_72 0 rfl rfl rfl (Nat.le_of_ble_eq_true rfl) (wMo aO cyI (va_up oI_11 11 r2) oR_11) rfl ?_
  refine z_aload_n F dX6_passesAll_101 102 rfl 0 rfl ?_
  refine z_aload_n F dX6_passesAll_102 103 rfl 0 rfl ?_
  refine z_aload_n F dX6_passesAll_103 104 rfl 0 rfl ?_
  refine z_get F dX6_passesAll_104 107 rfl kX6_passesAll_102 0 rfl rfl ?_
  refine z_segVi (As := [.int (oI_11 12)]) (st := [.ref (aO 0)]) F dX6_passesAll_107 110 rfl (mX6_passOne C.1.2.1 D cyI cyB aO (oI_11 12) (va_up oI_11 11 r2) oR_11 hw) y_X6_passOne rfl gX6_passesAll_X6_passOne rfl (ci := 6) (rq := 0) rfl rfl ⟨Nat.le_of_ble_eq_true rfl, Nat.le_of_ble_eq_true rfl⟩ ⟨Nat.zero_le _, Nat.zero_le _⟩ (Nat.le_of_ble_eq_true rfl) [] [] (by simp only [List.append_assoc, List.nil_append, List.append_nil]) (fun _ => rfl) (fun u => (wMo aO cyI u.1 u.2)) (fun u => (by simp only [List.append_assoc, List.nil_append, List.append_nil])) (fun r3 u hp => ?_)
  obtain ⟨oI_12, oR_12⟩ := u
  replace hw := hp
  clear hp
  refine z_put F dX6_passesAll_110 113 rfl kX6_passesAll_102 0 rfl rfl rfl (Nat.le_of_ble_eq_true rfl) (wMo aO cyI (va_up oI_12 12 r3) oR_12) rfl ?_
  refine z_aload_n F dX6_passesAll_113 114 rfl 0 rfl ?_
  refine z_aload_n F dX6_passesAll_114 115 rfl 0 rfl ?_
  refine z_aload_n F dX6_passesAll_115 116 rfl 0 rfl ?_
  refine z_get F dX6_passesAll_116 119 rfl kX6_passesAll_116 0 rfl rfl ?_
  refine z_segVi (As := [.int (oI_12 13)]) (st := [.ref (aO 0)]) F dX6_passesAll_119 122 rfl (mX6_passOne C.1.2.1 D cyI cyB aO (oI_12 13) (va_up oI_12 12 r3) oR_12 hw) y_X6_passOne rfl gX6_passesAll_X6_passOne rfl (ci := 6) (rq := 0) rfl rfl ⟨Nat.le_of_ble_eq_true rfl, Nat.le_of_ble_eq_true rfl⟩ ⟨Nat.zero_le _, Nat.zero_le _⟩ (Nat.le_of_ble_eq_true rfl) [] [] (by simp only [List.append_assoc, List.nil_append, List.append_nil]) (fun _ => rfl) (fun u => (wMo aO cyI u.1 u.2)) (fun u => (by simp only [List.append_assoc, List.nil_append, List.append_nil])) (fun r4 u hp => ?_)
  obtain ⟨oI_13, oR_13⟩ := u
  replace hw := hp
  clear hp
  refine z_put F dX6_passesAll_122 125 rfl kX6_passesAll_116 0 rfl rfl rfl (Nat.le_of_ble_eq_true rfl) (wMo aO cyI (va_up oI_13 13 r4) oR_13) rfl ?_
  refine z_aload_n F dX6_passesAll_125 126 rfl 0 rfl ?_
  refine z_aload_n F dX6_passesAll_126 127 rfl 0 rfl ?_
  refine z_aload_n F dX6_passesAll_127 128 rfl 0 rfl ?_
  refine z_get F dX6_passesAll_128 131 rfl kX6_passesAll_86 0 rfl rfl ?_
  refine z_segVi (As := [.int (oI_13 14)]) (st := [.ref (aO 0)]) F dX6_passesAll_131 134 rfl (mX6_passOne C.1.2.1 D cyI cyB aO (oI_13 14) (va_up oI_13 13 r4) oR_13 hw) y_X6_passOne rfl gX6_passesAll_X6_passOne rfl (ci := 6) (rq := 0) rfl rfl ⟨Nat.le_of_ble_eq_true rfl, Nat.le_of_ble_eq_true rfl⟩ ⟨Nat.zero_le _, Nat.zero_le _⟩ (Nat.le_of_ble_eq_true rfl) [] [] (by simp only [List.append_assoc, List.nil_append, List.append_nil]) (fun _ => rfl) (fun u => (wMo aO cyI u.1 u.2)) (fun u => (by simp only [List.append_assoc, List.nil_append, List.append_nil])) (fun r5 u hp => ?_)
  obtain ⟨oI_14, oR_14⟩ := u
  replace hw := hp
  clear hp
  refine z_put F dX6_passesAll_134 137 rfl kX6_passesAll_86 0 rfl rfl rfl (Nat.le_of_ble_eq_true rfl) (wMo aO cyI (va_up oI_14 14 r5) oR_14) rfl ?_
  refine z_aload_n F dX6_passesAll_137 138 rfl 0 rfl ?_
  refine z_aload_n F dX6_passesAll_138 139 rfl 0 rfl ?_
  refine z_aload_n F dX6_passesAll_139 140 rfl 0 rfl ?_
  refine z_get F dX6_passesAll_140 143 rfl kX6_passesAll_83 0 rfl rfl ?_
  refine z_segVi (As := [.int (oI_14 15)]) (st := [.ref (aO 0)]) F dX6_passesAll_143 146 rfl (mX6_passOne C.1.2.1 D cyI cyB aO (oI_14 15) (va_up oI_14 14 r5) oR_14 hw) y_X6_passOne rfl gX6_passesAll_X6_passOne rfl (ci := 6) (rq := 0) rfl rfl ⟨Nat.le_of_ble_eq_true rfl, Nat.le_of_ble_eq_true rfl⟩ ⟨Nat.zero_le _, Nat.zero_le _⟩ (Nat.le_of_ble_eq_true rfl) [] [] (by simp only [List.append_assoc, List.nil_append, List.append_nil]) (fun _ => rfl) (fun u => (wMo aO cyI u.1 u.2)) (fun u => (by simp only [List.append_assoc, List.nil_append, List.append_nil])) (fun r6 u hp => ?_)
  obtain ⟨oI_15, oR_15⟩ := u
  replace hw := hp
  clear hp
  refine z_put F dX6_passesAll_146 149 rfl kX6_passesAll_83 0 rfl rfl rfl (Nat.le_of_ble_eq_true rfl) (wMo aO cyI (va_up oI_15 15 r6) oR_15) rfl ?_
  exact hRt 149 _ ((va_up oI_15 15 r6), oR_15) dX6_passesAll_149 hw
set_option maxHeartbeats 4000000 in
set_option maxRecDepth 100000 in
theorem mX6_passesAll (l : Launch) (D : va_G) (cyI cyB : ClassId) (aO : Nat → Nat) (oI : Nat → Int32) (oR : Nat → Nat → Int32) {post : (Nat → Int32) → (Nat → Nat → Int32) → Prop} (hw : pX6_passesAll oI oR post) : zMv l yX6_passesAll wsX6_passesAll 1 22 D cyI cyB [.ref (aO 0)] (wMo aO cyI oI oR) (S := ((Nat → Int32) × (Nat → Nat → Int32))) (fun u => (wMo aO cyI u.1 u.2)) (fun u => post u.1 u.2) :=
  z_metv (cc := cX6_passesAll) (nL := 1) (by decide +kernel) rfl (Nat.le_of_ble_eq_true rfl) (fun C hl F hRt => xX6_passesAll_0 oI oR F hRt hw)
theorem y_X6_passesAll : zY yX6_passesAll wsX6_passesAll cX6_passesAll 1 none 0 := ⟨⟨_, rfl⟩, by decide +kernel⟩
