/-! the walk layer: zX says that the machine, at pc with listed locals and stack, in every heap that holds the world ws, comes to its goal -/
abbrev zC : Type := (Program × Launch × Env × Room) × (State × MethodId × Array Value) × (List Frame × Method × Code) × (State → Prop) × (Nat → Prop)
def zX (C : zC) (D : va_G) (nL k n : Nat) (ws : va_W) (pc : Nat) (lv : List (Nat × Value)) (st : List Value) : Prop :=
  ∀ (H : Heap) (locs : List Loc) (ls : Array Slot), va_P D vwCl ws H → va_D C.2.2.2.2 ws → va_S C.2.2.2.2 C.2.1.1.heap H locs → lv_has ls nL lv →
    W C.1.1 C.1.2.1 C.1.2.2.1 C.1.2.2.2 C.2.1.1 C.2.1.2.1 C.2.1.2.2 C.2.2.1.1 C.2.2.1.2.1 C.2.2.1.2.2 H locs k n C.2.2.2.1 (F0 C.2.1.2.1 pc ls st)
abbrev zT (cyI cyB : ClassId) : List (ClassId × FieldType) := [(cyI, .int), (cyB, .byte)]
/-- the nest links -/
def zN (U : State) : Prop := va_Nw (.methodLinkNest RX5 11 yX1_init "StillRoom") U ∧ va_Nw (.methodLinkNest RX1 20 yX3_init "StillRoom") U ∧ va_Nw (.methodLinkNest RX2 26 yX0_init "StillRoom") U ∧ va_Nw (.methodLinkNest RX5 27 yX4_init "StillRoom") U ∧ va_Nw (.methodLinkNest RX4 94 yX5_contains "StillRoom") U ∧ va_Nw (.methodLinkNest RX2 92 yX5_contains "StillRoom") U ∧ va_Nw (.methodLinkNest RX2 138 yX5_with "StillRoom") U ∧ va_Nw (.methodLinkNest RX1 83 yX5_contains "StillRoom") U
theorem zN.same {u U : State} (h : u.vm = U.vm) (z : zN u) : zN U := ⟨z.1.same rfl h, z.2.1.same rfl h, z.2.2.1.same rfl h, z.2.2.2.1.same rfl h, z.2.2.2.2.1.same rfl h, z.2.2.2.2.2.1.same rfl h, z.2.2.2.2.2.2.1.same rfl h, z.2.2.2.2.2.2.2.same rfl h⟩
theorem zN.warm {s U : State} (h : s.WarmedH U.vm) (z : zN s) : zN U := ⟨z.1.warmM h, z.2.1.warmM h, z.2.2.1.warmM h, z.2.2.2.1.warmM h, z.2.2.2.2.1.warmM h, z.2.2.2.2.2.1.warmM h, z.2.2.2.2.2.2.1.warmM h, z.2.2.2.2.2.2.2.warmM h⟩
def zF (C : zC) (D : va_G) (R : Room) (cc : ByteArray) (nL : Nat) (Ts : List Cond) (own : String) (ret : Option FieldType) (cyI cyB : ClassId) : Prop :=
  CallFix C.1.1 C.2.1.2.1 C.2.2.1.2.2 cc nL C.2.1.1 C.2.1.2.2 Ts own ∧ va_K D vwCl (zT cyI cyB) C.2.1.1 ∧ zN C.2.1.1 ∧ (∀ q, C.2.1.1.heap.size ≤ q → C.2.2.2.2 q) ∧ C.2.2.1.2.1.sig.returnType = ret ∧ C.2.2.1.2.1.locks = false ∧ C.1.2.2.2 = R
/-- a field link of Ts: index is the field fk of class ci, of type ty, final or not -/
def zL (Ts : List Cond) (own : String) (index ci fk : Nat) (ty : FieldType) (fin : Bool) : Prop :=
  ∃ (Cn : String) (T : u_T) (N : Nat) (ty0 : Nat → FieldType), vwCl[ci]? = some (Cn, T, N) ∧ (∀ w ∈ u_ws Cn T N, w ∈ Ts) ∧ fk < N ∧ Cond.fieldLink own index (T fk).1 (T fk).2.1 (T fk).2.2.1 ∈ Ts ∧ (∀ k, k < N → parseFieldDescriptor (T k).2.2.1 = some (ty0 k)) ∧ (∀ a, a < N → ∀ b, b < N → a ≠ b → (T a).2.1 ≠ (T b).2.1) ∧ ty0 fk = ty ∧ (T fk).2.2.2 = fin

theorem zL0 {Ts : List Cond} {own : String} {index fk : Nat} {ty : FieldType} {fin : Bool} (hin : ∀ w ∈ wsX00, w ∈ Ts) (hk : fk < 3) (hm : Cond.fieldLink own index (TX0 fk).1 (TX0 fk).2.1 (TX0 fk).2.2.1 ∈ Ts) (ht : tyX0 fk = ty) (hf : (TX0 fk).2.2.2 = fin) : zL Ts own index 0 fk ty fin := ⟨RX0, TX0, 3, tyX0, rfl, hin, hk, hm, tyX0_ok, nmX0, ht, hf⟩
theorem zL1 {Ts : List Cond} {own : String} {index fk : Nat} {ty : FieldType} {fin : Bool} (hin : ∀ w ∈ wsX10, w ∈ Ts) (hk : fk < 9) (hm : Cond.fieldLink own index (TX1 fk).1 (TX1 fk).2.1 (TX1 fk).2.2.1 ∈ Ts) (ht : tyX1 fk = ty) (hf : (TX1 fk).2.2.2 = fin) : zL Ts own index 1 fk ty fin := ⟨RX1, TX1, 9, tyX1, rfl, hin, hk, hm, tyX1_ok, nmX1, ht, hf⟩
theorem zL2 {Ts : List Cond} {own : String} {index fk : Nat} {ty : FieldType} {fin : Bool} (hin : ∀ w ∈ wsX20, w ∈ Ts) (hk : fk < 11) (hm : Cond.fieldLink own index (TX2 fk).1 (TX2 fk).2.1 (TX2 fk).2.2.1 ∈ Ts) (ht : tyX2 fk = ty) (hf : (TX2 fk).2.2.2 = fin) : zL Ts own index 2 fk ty fin := ⟨RX2, TX2, 11, tyX2, rfl, hin, hk, hm, tyX2_ok, nmX2, ht, hf⟩
theorem zL3 {Ts : List Cond} {own : String} {index fk : Nat} {ty : FieldType} {fin : Bool} (hin : ∀ w ∈ wsX30, w ∈ Ts) (hk : fk < 3) (hm : Cond.fieldLink own index (TX3 fk).1 (TX3 fk).2.1 (TX3 fk).2.2.1 ∈ Ts) (ht : tyX3 fk = ty) (hf : (TX3 fk).2.2.2 = fin) : zL Ts own index 3 fk ty fin := ⟨RX3, TX3, 3, tyX3, rfl, hin, hk, hm, tyX3_ok, nmX3, ht, hf⟩
theorem zL4 {Ts : List Cond} {own : String} {index fk : Nat} {ty : FieldType} {fin : Bool} (hin : ∀ w ∈ wsX40, w ∈ Ts) (hk : fk < 3) (hm : Cond.fieldLink own index (TX4 fk).1 (TX4 fk).2.1 (TX4 fk).2.2.1 ∈ Ts) (ht : tyX4 fk = ty) (hf : (TX4 fk).2.2.2 = fin) : zL Ts own index 4 fk ty fin := ⟨RX4, TX4, 3, tyX4, rfl, hin, hk, hm, tyX4_ok, nmX4, ht, hf⟩
theorem zL5 {Ts : List Cond} {own : String} {index fk : Nat} {ty : FieldType} {fin : Bool} (hin : ∀ w ∈ wsX50, w ∈ Ts) (hk : fk < 8) (hm : Cond.fieldLink own index (TX5 fk).1 (TX5 fk).2.1 (TX5 fk).2.2.1 ∈ Ts) (ht : tyX5 fk = ty) (hf : (TX5 fk).2.2.2 = fin) : zL Ts own index 5 fk ty fin := ⟨RX5, TX5, 8, tyX5, rfl, hin, hk, hm, tyX5_ok, nmX5, ht, hf⟩
theorem zL6 {Ts : List Cond} {own : String} {index fk : Nat} {ty : FieldType} {fin : Bool} (hin : ∀ w ∈ wsX60, w ∈ Ts) (hk : fk < 31) (hm : Cond.fieldLink own index (TX6 fk).1 (TX6 fk).2.1 (TX6 fk).2.2.1 ∈ Ts) (ht : tyX6 fk = ty) (hf : (TX6 fk).2.2.2 = fin) : zL Ts own index 6 fk ty fin := ⟨RX6, TX6, 31, tyX6, rfl, hin, hk, hm, tyX6_ok, nmX6, ht, hf⟩
section
variable {C : zC} {D : va_G} {R : Room} {cc : ByteArray} {nL k n : Nat} {Ts : List Cond} {own : String} {ret : Option FieldType} {cyI cyB : ClassId} {ws : va_W} {pc : Nat} {lv : List (Nat × Value)} {st : List Value}
theorem z_topi {x : Int32} (g : ∀ y : Int32, y = x → zX C D nL k n ws pc lv (.int y :: st)) : zX C D nL k n ws pc lv (.int x :: st) := g x rfl
theorem z_topl {x : Int64} (g : ∀ y : Int64, y = x → zX C D nL k n ws pc lv (.long y :: st)) : zX C D nL k n ws pc lv (.long x :: st) := g x rfl
/-- fewer listed locals, in another order -/
theorem z_lv {lv' : List (Nat × Value)} (is : List Nat) (h : lv_pick lv is = lv') (g : zX C D nL k n ws pc lv' st) : zX C D nL k n ws pc lv st := fun H locs ls hP hD hS hl => g H locs ls hP hD hS (lv_sub hl is h)
theorem z_eq {ws' : va_W} {lv' : List (Nat × Value)} {st' : List Value} (h1 : ws = ws') (h2 : lv = lv') (h3 : st = st') (g : zX C D nL k n ws' pc lv' st') : zX C D nL k n ws pc lv st := by subst h1; subst h2; subst h3; exact g
theorem z_iconst (F : zF C D R cc nL Ts own ret cyI cyB) {i : Int} {v : Int32} (d : decode cc pc = .ok (.iconst i, 1)) (pc' : Nat) (e : pc + 1 = pc') (hv : Int32.ofInt i = v) (g : zX C D nL k n ws pc' lv (.int v :: st)) : zX C D nL k n ws pc lv (st) := by
  subst e; exact fun H locs ls hP hD hS hl => lv_iconst F.1.1 F.1.2.1 d hv (g H locs ls hP hD hS hl)
theorem z_bipush (F : zF C D R cc nL Ts own ret cyI cyB) {i : Int} {v : Int32} (d : decode cc pc = .ok (.bipush i, 2)) (pc' : Nat) (e : pc + 2 = pc') (hv : (Int8.ofInt i).toInt32 = v) (g : zX C D nL k n ws pc' lv (.int v :: st)) : zX C D nL k n ws pc lv (st) := by
  subst e; exact fun H locs ls hP hD hS hl => lv_bipush F.1.1 F.1.2.1 d hv (g H locs ls hP hD hS hl)
theorem z_sipush (F : zF C D R cc nL Ts own ret cyI cyB) {i : Int} {v : Int32} (d : decode cc pc = .ok (.sipush i, 3)) (pc' : Nat) (e : pc + 3 = pc') (hv : (Int16.ofInt i).toInt32 = v) (g : zX C D nL k n ws pc' lv (.int v :: st)) : zX C D nL k n ws pc lv (st) := by
  subst e; exact fun H locs ls hP hD hS hl => lv_sipush F.1.1 F.1.2.1 d hv (g H locs ls hP hD hS hl)
theorem z_lconst (F : zF C D R cc nL Ts own ret cyI cyB) {i : Fin 2} {v : Int64} (d : decode cc pc = .ok (.lconst i, 1)) (pc' : Nat) (e : pc + 1 = pc') (hv : Int64.ofNat (i : Nat) = v) (g : zX C D nL k n ws pc' lv (.long v :: st)) : zX C D nL k n ws pc lv (st) := by
  subst e; exact fun H locs ls hP hD hS hl => lv_lconst F.1.1 F.1.2.1 d hv (g H locs ls hP hD hS hl)
theorem z_ldc (F : zF C D R cc nL Ts own ret cyI cyB) {i : Nat} {v : Int32} (d : decode cc pc = .ok (.ldc i, 2)) (pc' : Nat) (e : pc + 2 = pc') (hm : Cond.constant own i v ∈ Ts) (g : zX C D nL k n ws pc' lv (.int v :: st)) : zX C D nL k n ws pc lv (st) := by
  subst e; exact fun H locs ls hP hD hS hl => lv_ldc F.1.1 F.1.2.1 F.1.2.2.2.1 (F.1.2.2.2.2 _ hm) d (g H locs ls hP hD hS hl)
theorem z_ldcw (F : zF C D R cc nL Ts own ret cyI cyB) {i : Nat} {v : Int32} (d : decode cc pc = .ok (.ldc_w i, 3)) (pc' : Nat) (e : pc + 3 = pc') (hm : Cond.constant own i v ∈ Ts) (g : zX C D nL k n ws pc' lv (.int v :: st)) : zX C D nL k n ws pc lv (st) := by
  subst e; exact fun H locs ls hP hD hS hl => lv_ldcw F.1.1 F.1.2.1 F.1.2.2.2.1 (F.1.2.2.2.2 _ hm) d (g H locs ls hP hD hS hl)
theorem z_ldc2 (F : zF C D R cc nL Ts own ret cyI cyB) {i : Nat} {v : Int64} (d : decode cc pc = .ok (.ldc2_w i, 3)) (pc' : Nat) (e : pc + 3 = pc') (hm : Cond.constantLong own i v ∈ Ts) (g : zX C D nL k n ws pc' lv (.long v :: st)) : zX C D nL k n ws pc lv (st) := by
  subst e; exact fun H locs ls hP hD hS hl => lv_ldc2 F.1.1 F.1.2.1 F.1.2.2.2.1 (F.1.2.2.2.2 _ hm) d (g H locs ls hP hD hS hl)
theorem z_iload_n (F : zF C D R cc nL Ts own ret cyI cyB) {i : Fin 4} {v : Int32} (d : decode cc pc = .ok (.iload_n i, 1)) (pc' : Nat) (e : pc + 1 = pc') (j : Nat) (h : lv[j]? = some (i.val, .int v)) (g : zX C D nL k n ws pc' lv (.int v :: st)) : zX C D nL k n ws pc lv (st) := by
  subst e; exact fun H locs ls hP hD hS hl => lv_iload_n F.1.1 F.1.2.1 d rfl (lv_at hl j h) (g H locs ls hP hD hS hl)
theorem z_iload (F : zF C D R cc nL Ts own ret cyI cyB) {i : Nat} {v : Int32} (d : decode cc pc = .ok (.iload i, 2)) (pc' : Nat) (e : pc + 2 = pc') (j : Nat) (h : lv[j]? = some (i, .int v)) (g : zX C D nL k n ws pc' lv (.int v :: st)) : zX C D nL k n ws pc lv (st) := by
  subst e; exact fun H locs ls hP hD hS hl => lv_iload F.1.1 F.1.2.1 d (lv_at hl j h) (g H locs ls hP hD hS hl)
theorem z_istore_n (F : zF C D R cc nL Ts own ret cyI cyB) {i : Fin 4} {v : Int32} {lv' : List (Nat × Value)} (d : decode cc pc = .ok (.istore_n i, 1)) (pc' : Nat) (e : pc + 1 = pc') (hn : i.val < nL) (hv : (i.val, Value.int v) :: lv.filter (fun q => !(q.1 == i.val) && !(q.1 + 1 == i.val && q.2.category == 2)) = lv') (g : zX C D nL k n ws pc' lv' st) : zX C D nL k n ws pc lv (.int v :: st) := by
  subst e; exact fun H locs ls hP hD hS hl => lv_istore_n F.1.1 F.1.2.1 d rfl hl hn hv (fun ls' hl' => g H locs ls' hP hD hS hl')
theorem z_istore (F : zF C D R cc nL Ts own ret cyI cyB) {i : Nat} {v : Int32} {lv' : List (Nat × Value)} (d : decode cc pc = .ok (.istore i, 2)) (pc' : Nat) (e : pc + 2 = pc') (hn : i < nL) (hv : (i, Value.int v) :: lv.filter (fun q => !(q.1 == i) && !(q.1 + 1 == i && q.2.category == 2)) = lv') (g : zX C D nL k n ws pc' lv' st) : zX C D nL k n ws pc lv (.int v :: st) := by
  subst e; exact fun H locs ls hP hD hS hl => lv_istore F.1.1 F.1.2.1 d hl hn hv (fun ls' hl' => g H locs ls' hP hD hS hl')
theorem z_lload_n (F : zF C D R cc nL Ts own ret cyI cyB) {i : Fin 4} {v : Int64} (d : decode cc pc = .ok (.lload_n i, 1)) (pc' : Nat) (e : pc + 1 = pc') (j : Nat) (h : lv[j]? = some (i.val, .long v)) (g : zX C D nL k n ws pc' lv (.long v :: st)) : zX C D nL k n ws pc lv (st) := by
  subst e; exact fun H locs ls hP hD hS hl => lv_lload_n F.1.1 F.1.2.1 d rfl (lv_at hl j h) (g H locs ls hP hD hS hl)
theorem z_lload (F : zF C D R cc nL Ts own ret cyI cyB) {i : Nat} {v : Int64} (d : decode cc pc = .ok (.lload i, 2)) (pc' : Nat) (e : pc + 2 = pc') (j : Nat) (h : lv[j]? = some (i, .long v)) (g : zX C D nL k n ws pc' lv (.long v :: st)) : zX C D nL k n ws pc lv (st) := by
  subst e; exact fun H locs ls hP hD hS hl => lv_lload F.1.1 F.1.2.1 d (lv_at hl j h) (g H locs ls hP hD hS hl)
theorem z_lstore_n (F : zF C D R cc nL Ts own ret cyI cyB) {i : Fin 4} {v : Int64} {lv' : List (Nat × Value)} (d : decode cc pc = .ok (.lstore_n i, 1)) (pc' : Nat) (e : pc + 1 = pc') (hn : i.val + 1 < nL) (hv : (i.val, Value.long v) :: lv.filter (fun q => !(q.1 == i.val) && (!(q.1 == i.val + 1) && !(q.1 + 1 == i.val && q.2.category == 2))) = lv') (g : zX C D nL k n ws pc' lv' st) : zX C D nL k n ws pc lv (.long v :: st) := by
  subst e; exact fun H locs ls hP hD hS hl => lv_lstore_n F.1.1 F.1.2.1 d rfl hl hn hv (fun ls' hl' => g H locs ls' hP hD hS hl')
theorem z_lstore (F : zF C D R cc nL Ts own ret cyI cyB) {i : Nat} {v : Int64} {lv' : List (Nat × Value)} (d : decode cc pc = .ok (.lstore i, 2)) (pc' : Nat) (e : pc + 2 = pc') (hn : i + 1 < nL) (hv : (i, Value.long v) :: lv.filter (fun q => !(q.1 == i) && (!(q.1 == i + 1) && !(q.1 + 1 == i && q.2.category == 2))) = lv') (g : zX C D nL k n ws pc' lv' st) : zX C D nL k n ws pc lv (.long v :: st) := by
  subst e; exact fun H locs ls hP hD hS hl => lv_lstore F.1.1 F.1.2.1 d hl hn hv (fun ls' hl' => g H locs ls' hP hD hS hl')
theorem z_aload_n (F : zF C D R cc nL Ts own ret cyI cyB) {i : Fin 4} {v : Nat} (d : decode cc pc = .ok (.aload_n i, 1)) (pc' : Nat) (e : pc + 1 = pc') (j : Nat) (h : lv[j]? = some (i.val, .ref v)) (g : zX C D nL k n ws pc' lv (.ref v :: st)) : zX C D nL k n ws pc lv (st) := by
  subst e; exact fun H locs ls hP hD hS hl => lv_aload_n F.1.1 F.1.2.1 d rfl (lv_at hl j h) (g H locs ls hP hD hS hl)
theorem z_aload (F : zF C D R cc nL Ts own ret cyI cyB) {i : Nat} {v : Nat} (d : decode cc pc = .ok (.aload i, 2)) (pc' : Nat) (e : pc + 2 = pc') (j : Nat) (h : lv[j]? = some (i, .ref v)) (g : zX C D nL k n ws pc' lv (.ref v :: st)) : zX C D nL k n ws pc lv (st) := by
  subst e; exact fun H locs ls hP hD hS hl => lv_aload F.1.1 F.1.2.1 d (lv_at hl j h) (g H locs ls hP hD hS hl)
theorem z_astore_n (F : zF C D R cc nL Ts own ret cyI cyB) {i : Fin 4} {v : Nat} {lv' : List (Nat × Value)} (d : decode cc pc = .ok (.astore_n i, 1)) (pc' : Nat) (e : pc + 1 = pc') (hn : i.val < nL) (hv : (i.val, Value.ref v) :: lv.filter (fun q => !(q.1 == i.val) && !(q.1 + 1 == i.val && q.2.category == 2)) = lv') (g : zX C D nL k n ws pc' lv' st) : zX C D nL k n ws pc lv (.ref v :: st) := by
  subst e; exact fun H locs ls hP hD hS hl => lv_astore_n F.1.1 F.1.2.1 d rfl hl hn hv (fun ls' hl' => g H locs ls' hP hD hS hl')
theorem z_astore (F : zF C D R cc nL Ts own ret cyI cyB) {i : Nat} {v : Nat} {lv' : List (Nat × Value)} (d : decode cc pc = .ok (.astore i, 2)) (pc' : Nat) (e : pc + 2 = pc') (hn : i < nL) (hv : (i, Value.ref v) :: lv.filter (fun q => !(q.1 == i) && !(q.1 + 1 == i && q.2.category == 2)) = lv') (g : zX C D nL k n ws pc' lv' st) : zX C D nL k n ws pc lv (.ref v :: st) := by
  subst e; exact fun H locs ls hP hD hS hl => lv_astore F.1.1 F.1.2.1 d hl hn hv (fun ls' hl' => g H locs ls' hP hD hS hl')
theorem z_iinc (F : zF C D R cc nL Ts own ret cyI cyB) {i : Nat} {x : Int32} {c : Int} (d : decode cc pc = .ok (.iinc i c, 3)) (pc' : Nat) (e : pc + 3 = pc') (j : Nat) (h : lv[j]? = some (i, .int x)) (hn : i < nL) {z : Int32} (hz : Int32.ofInt c = z) (lv' : Int32 → List (Nat × Value)) (hv : ∀ v : Int32, (i, Value.int v) :: lv.filter (fun q => !(q.1 == i) && !(q.1 + 1 == i && q.2.category == 2)) = lv' v) (g : ∀ v : Int32, v = x + z → zX C D nL k n ws pc' (lv' v) st) : zX C D nL k n ws pc lv st := by
  subst e; subst hz; exact fun H locs ls hP hD hS hl => lv_iinc (v := x + Int32.ofInt c) F.1.1 F.1.2.1 d hl h rfl hn (hv _) (fun ls' hl' => g _ rfl H locs ls' hP hD hS hl')
theorem z_iadd (F : zF C D R cc nL Ts own ret cyI cyB) {x y : Int32} (d : decode cc pc = .ok (.iadd, 1)) (pc' : Nat) (e : pc + 1 = pc') (g : zX C D nL k n ws pc' lv (.int (x + y) :: st)) : zX C D nL k n ws pc lv (.int y :: .int x :: st) := by
  subst e; exact fun H locs ls hP hD hS hl => lv_iadd F.1.1 F.1.2.1 d (g H locs ls hP hD hS hl)
theorem z_isub (F : zF C D R cc nL Ts own ret cyI cyB) {x y : Int32} (d : decode cc pc = .ok (.isub, 1)) (pc' : Nat) (e : pc + 1 = pc') (g : zX C D nL k n ws pc' lv (.int (x - y) :: st)) : zX C D nL k n ws pc lv (.int y :: .int x :: st) := by
  subst e; exact fun H locs ls hP hD hS hl => lv_isub F.1.1 F.1.2.1 d (g H locs ls hP hD hS hl)
theorem z_imul (F : zF C D R cc nL Ts own ret cyI cyB) {x y : Int32} (d : decode cc pc = .ok (.imul, 1)) (pc' : Nat) (e : pc + 1 = pc') (g : zX C D nL k n ws pc' lv (.int (x * y) :: st)) : zX C D nL k n ws pc lv (.int y :: .int x :: st) := by
  subst e; exact fun H locs ls hP hD hS hl => lv_imul F.1.1 F.1.2.1 d (g H locs ls hP hD hS hl)
theorem z_iand (F : zF C D R cc nL Ts own ret cyI cyB) {x y : Int32} (d : decode cc pc = .ok (.iand, 1)) (pc' : Nat) (e : pc + 1 = pc') (g : zX C D nL k n ws pc' lv (.int (x &&& y) :: st)) : zX C D nL k n ws pc lv (.int y :: .int x :: st) := by
  subst e; exact fun H locs ls hP hD hS hl => lv_iand F.1.1 F.1.2.1 d (g H locs ls hP hD hS hl)
theorem z_ior (F : zF C D R cc nL Ts own ret cyI cyB) {x y : Int32} (d : decode cc pc = .ok (.ior, 1)) (pc' : Nat) (e : pc + 1 = pc') (g : zX C D nL k n ws pc' lv (.int (x ||| y) :: st)) : zX C D nL k n ws pc lv (.int y :: .int x :: st) := by
  subst e; exact fun H locs ls hP hD hS hl => lv_ior F.1.1 F.1.2.1 d (g H locs ls hP hD hS hl)
theorem z_ixor (F : zF C D R cc nL Ts own ret cyI cyB) {x y : Int32} (d : decode cc pc = .ok (.ixor, 1)) (pc' : Nat) (e : pc + 1 = pc') (g : zX C D nL k n ws pc' lv (.int (x ^^^ y) :: st)) : zX C D nL k n ws pc lv (.int y :: .int x :: st) := by
  subst e; exact fun H locs ls hP hD hS hl => lv_ixor F.1.1 F.1.2.1 d (g H locs ls hP hD hS hl)
theorem z_ishl (F : zF C D R cc nL Ts own ret cyI cyB) {x y : Int32} (d : decode cc pc = .ok (.ishl, 1)) (pc' : Nat) (e : pc + 1 = pc') (g : zX C D nL k n ws pc' lv (.int (x <<< (y &&& 31)) :: st)) : zX C D nL k n ws pc lv (.int y :: .int x :: st) := by
  subst e; exact fun H locs ls hP hD hS hl => lv_ishl F.1.1 F.1.2.1 d (g H locs ls hP hD hS hl)
theorem z_ishr (F : zF C D R cc nL Ts own ret cyI cyB) {x y : Int32} (d : decode cc pc = .ok (.ishr, 1)) (pc' : Nat) (e : pc + 1 = pc') (g : zX C D nL k n ws pc' lv (.int (x >>> (y &&& 31)) :: st)) : zX C D nL k n ws pc lv (.int y :: .int x :: st) := by
  subst e; exact fun H locs ls hP hD hS hl => lv_ishr F.1.1 F.1.2.1 d (g H locs ls hP hD hS hl)
theorem z_idiv (F : zF C D R cc nL Ts own ret cyI cyB) {x y : Int32} (d : decode cc pc = .ok (.idiv, 1)) (pc' : Nat) (e : pc + 1 = pc') (hne : ¬ y = 0) (g : zX C D nL k n ws pc' lv (.int (x / y) :: st)) : zX C D nL k n ws pc lv (.int y :: .int x :: st) := by
  subst e; exact fun H locs ls hP hD hS hl => lv_idiv F.1.1 F.1.2.1 d hne (g H locs ls hP hD hS hl)
theorem z_irem (F : zF C D R cc nL Ts own ret cyI cyB) {x y : Int32} (d : decode cc pc = .ok (.irem, 1)) (pc' : Nat) (e : pc + 1 = pc') (hne : ¬ y = 0) (g : zX C D nL k n ws pc' lv (.int (x - x / y * y) :: st)) : zX C D nL k n ws pc lv (.int y :: .int x :: st) := by
  subst e; exact fun H locs ls hP hD hS hl => lv_irem F.1.1 F.1.2.1 d hne (g H locs ls hP hD hS hl)
theorem z_ineg (F : zF C D R cc nL Ts own ret cyI cyB) {x : Int32} (d : decode cc pc = .ok (.ineg, 1)) (pc' : Nat) (e : pc + 1 = pc') (g : zX C D nL k n ws pc' lv (.int (-x) :: st)) : zX C D nL k n ws pc lv (.int x :: st) := by
  subst e; exact fun H locs ls hP hD hS hl => lv_ineg F.1.1 F.1.2.1 d (g H locs ls hP hD hS hl)
theorem z_iushr (F : zF C D R cc nL Ts own ret cyI cyB) {x y : Int32} (d : decode cc pc = .ok (.iushr, 1)) (pc' : Nat) (e : pc + 1 = pc') (g : zX C D nL k n ws pc' lv (.int ((x.toUInt32 >>> (y.toUInt32 &&& Int32.toUInt32 31)).toInt32) :: st)) : zX C D nL k n ws pc lv (.int y :: .int x :: st) := by
  subst e; exact fun H locs ls hP hD hS hl => lv_iushr F.1.1 F.1.2.1 d rfl (g H locs ls hP hD hS hl)
theorem z_ladd (F : zF C D R cc nL Ts own ret cyI cyB) {x y : Int64} (d : decode cc pc = .ok (.ladd, 1)) (pc' : Nat) (e : pc + 1 = pc') (g : zX C D nL k n ws pc' lv (.long (x + y) :: st)) : zX C D nL k n ws pc lv (.long y :: .long x :: st) := by
  subst e; exact fun H locs ls hP hD hS hl => lv_ladd F.1.1 F.1.2.1 d (g H locs ls hP hD hS hl)
theorem z_lmul (F : zF C D R cc nL Ts own ret cyI cyB) {x y : Int64} (d : decode cc pc = .ok (.lmul, 1)) (pc' : Nat) (e : pc + 1 = pc') (g : zX C D nL k n ws pc' lv (.long (x * y) :: st)) : zX C D nL k n ws pc lv (.long y :: .long x :: st) := by
  subst e; exact fun H locs ls hP hD hS hl => lv_lmul F.1.1 F.1.2.1 d (g H locs ls hP hD hS hl)
theorem z_land (F : zF C D R cc nL Ts own ret cyI cyB) {x y : Int64} (d : decode cc pc = .ok (.land, 1)) (pc' : Nat) (e : pc + 1 = pc') (g : zX C D nL k n ws pc' lv (.long (x &&& y) :: st)) : zX C D nL k n ws pc lv (.long y :: .long x :: st) := by
  subst e; exact fun H locs ls hP hD hS hl => lv_land F.1.1 F.1.2.1 d (g H locs ls hP hD hS hl)
theorem z_lor (F : zF C D R cc nL Ts own ret cyI cyB) {x y : Int64} (d : decode cc pc = .ok (.lor, 1)) (pc' : Nat) (e : pc + 1 = pc') (g : zX C D nL k n ws pc' lv (.long (x ||| y) :: st)) : zX C D nL k n ws pc lv (.long y :: .long x :: st) := by
  subst e; exact fun H locs ls hP hD hS hl => lv_lor F.1.1 F.1.2.1 d (g H locs ls hP hD hS hl)
theorem z_lcmp (F : zF C D R cc nL Ts own ret cyI cyB) {x y : Int64} (d : decode cc pc = .ok (.lcmp, 1)) (pc' : Nat) (e : pc + 1 = pc') (g : zX C D nL k n ws pc' lv (.int (lg_cmp x y) :: st)) : zX C D nL k n ws pc lv (.long y :: .long x :: st) := by
  subst e; exact fun H locs ls hP hD hS hl => W.lcmp F.1.1 F.1.2.1 d (g H locs ls hP hD hS hl)
theorem z_lshl (F : zF C D R cc nL Ts own ret cyI cyB) {x : Int64} {y : Int32} (d : decode cc pc = .ok (.lshl, 1)) (pc' : Nat) (e : pc + 1 = pc') (g : zX C D nL k n ws pc' lv (.long (x <<< (y.toInt64 &&& 63)) :: st)) : zX C D nL k n ws pc lv (.int y :: .long x :: st) := by
  subst e; exact fun H locs ls hP hD hS hl => lv_lshl F.1.1 F.1.2.1 d rfl (g H locs ls hP hD hS hl)
theorem z_lshr (F : zF C D R cc nL Ts own ret cyI cyB) {x : Int64} {y : Int32} (d : decode cc pc = .ok (.lshr, 1)) (pc' : Nat) (e : pc + 1 = pc') (g : zX C D nL k n ws pc' lv (.long (x >>> (y.toInt64 &&& 63)) :: st)) : zX C D nL k n ws pc lv (.int y :: .long x :: st) := by
  subst e; exact fun H locs ls hP hD hS hl => lv_lshr F.1.1 F.1.2.1 d rfl (g H locs ls hP hD hS hl)
theorem z_lushr (F : zF C D R cc nL Ts own ret cyI cyB) {x : Int64} {y : Int32} (d : decode cc pc = .ok (.lushr, 1)) (pc' : Nat) (e : pc + 1 = pc') (g : zX C D nL k n ws pc' lv (.long ((x.toUInt64 >>> (y.toInt64.toUInt64 &&& Int64.toUInt64 63)).toInt64) :: st)) : zX C D nL k n ws pc lv (.int y :: .long x :: st) := by
  subst e; exact fun H locs ls hP hD hS hl => lv_lushr F.1.1 F.1.2.1 d rfl (g H locs ls hP hD hS hl)
theorem z_i2l (F : zF C D R cc nL Ts own ret cyI cyB) {x : Int32} (d : decode cc pc = .ok (.i2l, 1)) (pc' : Nat) (e : pc + 1 = pc') (g : zX C D nL k n ws pc' lv (.long x.toInt64 :: st)) : zX C D nL k n ws pc lv (.int x :: st) := by
  subst e; exact fun H locs ls hP hD hS hl => lv_i2l F.1.1 F.1.2.1 d rfl (g H locs ls hP hD hS hl)
theorem z_l2i (F : zF C D R cc nL Ts own ret cyI cyB) {x : Int64} (d : decode cc pc = .ok (.l2i, 1)) (pc' : Nat) (e : pc + 1 = pc') (g : zX C D nL k n ws pc' lv (.int x.toInt32 :: st)) : zX C D nL k n ws pc lv (.long x :: st) := by
  subst e; exact fun H locs ls hP hD hS hl => lv_l2i F.1.1 F.1.2.1 d rfl (g H locs ls hP hD hS hl)
theorem z_i2b (F : zF C D R cc nL Ts own ret cyI cyB) {x : Int32} (d : decode cc pc = .ok (.i2b, 1)) (pc' : Nat) (e : pc + 1 = pc') (g : zX C D nL k n ws pc' lv (.int x.toInt8.toInt32 :: st)) : zX C D nL k n ws pc lv (.int x :: st) := by
  subst e; exact fun H locs ls hP hD hS hl => lv_i2b F.1.1 F.1.2.1 d rfl (g H locs ls hP hD hS hl)
theorem z_dup (F : zF C D R cc nL Ts own ret cyI cyB) {x : Value} (d : decode cc pc = .ok (.dup, 1)) (pc' : Nat) (e : pc + 1 = pc') (hc : x.category = 1) (g : zX C D nL k n ws pc' lv (x :: x :: st)) : zX C D nL k n ws pc lv (x :: st) := by
  subst e; exact fun H locs ls hP hD hS hl => lv_dup F.1.1 F.1.2.1 d hc (g H locs ls hP hD hS hl)
theorem z_dup2 (F : zF C D R cc nL Ts own ret cyI cyB) {x y : Value} (d : decode cc pc = .ok (.dup2, 1)) (pc' : Nat) (e : pc + 1 = pc') (hc : x.category = 1) (hc2 : y.category = 1) (g : zX C D nL k n ws pc' lv (x :: y :: x :: y :: st)) : zX C D nL k n ws pc lv (x :: y :: st) := by
  subst e; exact fun H locs ls hP hD hS hl => lv_dup2_11 F.1.1 F.1.2.1 d hc hc2 (g H locs ls hP hD hS hl)
theorem z_pop (F : zF C D R cc nL Ts own ret cyI cyB) {x : Value} (d : decode cc pc = .ok (.pop, 1)) (pc' : Nat) (e : pc + 1 = pc') (hc : x.category = 1) (g : zX C D nL k n ws pc' lv (st)) : zX C D nL k n ws pc lv (x :: st) := by
  subst e; exact fun H locs ls hP hD hS hl => lv_pop F.1.1 F.1.2.1 d hc (g H locs ls hP hD hS hl)
theorem z_null (F : zF C D R cc nL Ts own ret cyI cyB)  (d : decode cc pc = .ok (.aconst_null, 1)) (pc' : Nat) (e : pc + 1 = pc') (g : zX C D nL k n ws pc' lv (.null :: st)) : zX C D nL k n ws pc lv (st) := by
  subst e; exact fun H locs ls hP hD hS hl => lv_null F.1.1 F.1.2.1 d (g H locs ls hP hD hS hl)
theorem z_goto (F : zF C D R cc nL Ts own ret cyI cyB) {off : Int} (d : decode cc pc = .ok (.goto off, 3)) (tgt : Nat) (ht : (pc : Int) + off = (tgt : Int)) (g : zX C D nL k n ws tgt lv st) : zX C D nL k n ws pc lv st := fun H locs ls hP hD hS hl => lv_goto F.1.1 F.1.2.1 d ht (g H locs ls hP hD hS hl)
theorem z_ifeq (F : zF C D R cc nL Ts own ret cyI cyB) {x : Int32} {off : Int} (d : decode cc pc = .ok (.ifCond .eq off, 3)) (tgt : Nat) (ht : (pc : Int) + off = (tgt : Int)) (pc' : Nat) (e : pc + 3 = pc') (gt : x = 0 → zX C D nL k n ws tgt lv st) (gf : ¬ x = 0 → zX C D nL k n ws pc' lv st) : zX C D nL k n ws pc lv (.int x :: st) := by
  subst e; exact fun H locs ls hP hD hS hl => lv_if_eq F.1.1 F.1.2.1 d ht (fun c => gt c H locs ls hP hD hS hl) (fun c => gf c H locs ls hP hD hS hl)
theorem z_ifne (F : zF C D R cc nL Ts own ret cyI cyB) {x : Int32} {off : Int} (d : decode cc pc = .ok (.ifCond .ne off, 3)) (tgt : Nat) (ht : (pc : Int) + off = (tgt : Int)) (pc' : Nat) (e : pc + 3 = pc') (gt : ¬ x = 0 → zX C D nL k n ws tgt lv st) (gf : x = 0 → zX C D nL k n ws pc' lv st) : zX C D nL k n ws pc lv (.int x :: st) := by
  subst e; exact fun H locs ls hP hD hS hl => lv_if_ne F.1.1 F.1.2.1 d ht (fun c => gt c H locs ls hP hD hS hl) (fun c => gf c H locs ls hP hD hS hl)
theorem z_iflt (F : zF C D R cc nL Ts own ret cyI cyB) {x : Int32} {off : Int} (d : decode cc pc = .ok (.ifCond .lt off, 3)) (tgt : Nat) (ht : (pc : Int) + off = (tgt : Int)) (pc' : Nat) (e : pc + 3 = pc') (gt : x < 0 → zX C D nL k n ws tgt lv st) (gf : ¬ x < 0 → zX C D nL k n ws pc' lv st) : zX C D nL k n ws pc lv (.int x :: st) := by
  subst e; exact fun H locs ls hP hD hS hl => lv_if_lt F.1.1 F.1.2.1 d ht (fun c => gt c H locs ls hP hD hS hl) (fun c => gf c H locs ls hP hD hS hl)
theorem z_ifge (F : zF C D R cc nL Ts own ret cyI cyB) {x : Int32} {off : Int} (d : decode cc pc = .ok (.ifCond .ge off, 3)) (tgt : Nat) (ht : (pc : Int) + off = (tgt : Int)) (pc' : Nat) (e : pc + 3 = pc') (gt : 0 ≤ x → zX C D nL k n ws tgt lv st) (gf : ¬ 0 ≤ x → zX C D nL k n ws pc' lv st) : zX C D nL k n ws pc lv (.int x :: st) := by
  subst e; exact fun H locs ls hP hD hS hl => lv_if_ge F.1.1 F.1.2.1 d ht (fun c => gt c H locs ls hP hD hS hl) (fun c => gf c H locs ls hP hD hS hl)
theorem z_icmpeq (F : zF C D R cc nL Ts own ret cyI cyB) {x y : Int32} {off : Int} (d : decode cc pc = .ok (.if_icmp .eq off, 3)) (tgt : Nat) (ht : (pc : Int) + off = (tgt : Int)) (pc' : Nat) (e : pc + 3 = pc') (gt : x = y → zX C D nL k n ws tgt lv st) (gf : ¬ x = y → zX C D nL k n ws pc' lv st) : zX C D nL k n ws pc lv (.int y :: .int x :: st) := by
  subst e; exact fun H locs ls hP hD hS hl => lv_icmp_eq F.1.1 F.1.2.1 d ht (fun c => gt c H locs ls hP hD hS hl) (fun c => gf c H locs ls hP hD hS hl)
theorem z_icmpne (F : zF C D R cc nL Ts own ret cyI cyB) {x y : Int32} {off : Int} (d : decode cc pc = .ok (.if_icmp .ne off, 3)) (tgt : Nat) (ht : (pc : Int) + off = (tgt : Int)) (pc' : Nat) (e : pc + 3 = pc') (gt : ¬ x = y → zX C D nL k n ws tgt lv st) (gf : x = y → zX C D nL k n ws pc' lv st) : zX C D nL k n ws pc lv (.int y :: .int x :: st) := by
  subst e; exact fun H locs ls hP hD hS hl => lv_icmp_ne F.1.1 F.1.2.1 d ht (fun c => gt c H locs ls hP hD hS hl) (fun c => gf c H locs ls hP hD hS hl)
theorem z_icmplt (F : zF C D R cc nL Ts own ret cyI cyB) {x y : Int32} {off : Int} (d : decode cc pc = .ok (.if_icmp .lt off, 3)) (tgt : Nat) (ht : (pc : Int) + off = (tgt : Int)) (pc' : Nat) (e : pc + 3 = pc') (gt : x < y → zX C D nL k n ws tgt lv st) (gf : ¬ x < y → zX C D nL k n ws pc' lv st) : zX C D nL k n ws pc lv (.int y :: .int x :: st) := by
  subst e; exact fun H locs ls hP hD hS hl => lv_icmp_lt F.1.1 F.1.2.1 d ht (fun c => gt c H locs ls hP hD hS hl) (fun c => gf c H locs ls hP hD hS hl)
theorem z_icmpge (F : zF C D R cc nL Ts own ret cyI cyB) {x y : Int32} {off : Int} (d : decode cc pc = .ok (.if_icmp .ge off, 3)) (tgt : Nat) (ht : (pc : Int) + off = (tgt : Int)) (pc' : Nat) (e : pc + 3 = pc') (gt : y ≤ x → zX C D nL k n ws tgt lv st) (gf : ¬ y ≤ x → zX C D nL k n ws pc' lv st) : zX C D nL k n ws pc lv (.int y :: .int x :: st) := by
  subst e; exact fun H locs ls hP hD hS hl => lv_icmp_ge F.1.1 F.1.2.1 d ht (fun c => gt c H locs ls hP hD hS hl) (fun c => gf c H locs ls hP hD hS hl)
theorem z_icmpgt (F : zF C D R cc nL Ts own ret cyI cyB) {x y : Int32} {off : Int} (d : decode cc pc = .ok (.if_icmp .gt off, 3)) (tgt : Nat) (ht : (pc : Int) + off = (tgt : Int)) (pc' : Nat) (e : pc + 3 = pc') (gt : y < x → zX C D nL k n ws tgt lv st) (gf : ¬ y < x → zX C D nL k n ws pc' lv st) : zX C D nL k n ws pc lv (.int y :: .int x :: st) := by
  subst e; exact fun H locs ls hP hD hS hl => lv_icmp_gt F.1.1 F.1.2.1 d ht (fun c => gt c H locs ls hP hD hS hl) (fun c => gf c H locs ls hP hD hS hl)
theorem z_icmple (F : zF C D R cc nL Ts own ret cyI cyB) {x y : Int32} {off : Int} (d : decode cc pc = .ok (.if_icmp .le off, 3)) (tgt : Nat) (ht : (pc : Int) + off = (tgt : Int)) (pc' : Nat) (e : pc + 3 = pc') (gt : x ≤ y → zX C D nL k n ws tgt lv st) (gf : ¬ x ≤ y → zX C D nL k n ws pc' lv st) : zX C D nL k n ws pc lv (.int y :: .int x :: st) := by
  subst e; exact fun H locs ls hP hD hS hl => lv_icmp_le F.1.1 F.1.2.1 d ht (fun c => gt c H locs ls hP hD hS hl) (fun c => gf c H locs ls hP hD hS hl)
theorem z_get (F : zF C D R cc nL Ts own ret cyI cyB) {index ci fk a : Nat} {ty : FieldType} {fin : Bool} {fs : List Value} {v : Value} (d : decode cc pc = .ok (.getfield index, 3)) (pc' : Nat) (e : pc + 3 = pc') (K : zL Ts own index ci fk ty fin) (q0 : Nat) (he : ws[q0]? = some (a, .inr (ci, fs))) (hv : fs[fk]? = some v) (g : zX C D nL k n ws pc' lv (v :: st)) : zX C D nL k n ws pc lv (.ref a :: st) := by
  subst e
  obtain ⟨Cn, T, N, ty0, h1, h2, h3, h4, h5, h6, h7, h8⟩ := K
  exact fun H locs ls hP hD hS hl => va_get F.1.1 F.1.2.1 F.1.2.2.2.2 h2 F.1.2.2.2.1 F.2.1 hP q0 he h1 fk h3 (F.1.2.2.2.2 _ h4) (fun _ h => h) hv d (g H locs ls hP hD hS hl)
theorem z_put (F : zF C D R cc nL Ts own ret cyI cyB) {index ci fk a : Nat} {ty : FieldType} {fs : List Value} {v : Value} (d : decode cc pc = .ok (.putfield index, 3)) (pc' : Nat) (e : pc + 3 = pc') (K : zL Ts own index ci fk ty false) (q0 : Nat) (he : ws[q0]? = some (a, .inr (ci, fs))) (hn : narrow ty v = v) (hf : fits ty v = true) (hl : fk < fs.length) (ws' : va_W) (hw : ws.set q0 (a, .inr (ci, fs.set fk v)) = ws') (g : zX C D nL k n ws' pc' lv st) : zX C D nL k n ws pc lv (v :: .ref a :: st) := by
  subst e; subst hw
  obtain ⟨Cn, T, N, ty0, h1, h2, h3, h4, h5, h6, h7, h8⟩ := K
  exact fun H locs ls hP hD hS hl' => va_put F.1.1 F.1.2.1 F.1.2.2.2.2 h2 ty0 h5 h6 F.1.2.2.2.1 F.2.1 hP hD hS q0 he h1 fk h3 (F.1.2.2.2.2 _ h4) (fun _ h => h) h8 (h7 ▸ h5 fk h3) hn hf hl d (fun H1 locs1 hP1 hD1 hS1 => g H1 locs1 ls hP1 hD1 hS1 hl')
theorem z_putF (F : zF C D R cc nL Ts own ret cyI cyB) {index ci fk a : Nat} {ty : FieldType} {fs : List Value} {v : Value} (hin : C.2.2.1.2.1.name = "<init>") (d : decode cc pc = .ok (.putfield index, 3)) (pc' : Nat) (e : pc + 3 = pc') (K : zL Ts own index ci fk ty true) (hO : vwCl[ci]?.map (fun q => (q.2.1 fk).1) = some own) (q0 : Nat) (he : ws[q0]? = some (a, .inr (ci, fs))) (hn : narrow ty v = v) (hf : fits ty v = true) (hl : fk < fs.length) (ws' : va_W) (hw : ws.set q0 (a, .inr (ci, fs.set fk v)) = ws') (g : zX C D nL k n ws' pc' lv st) : zX C D nL k n ws pc lv (v :: .ref a :: st) := by
  subst e; subst hw
  obtain ⟨Cn, T, N, ty0, h1, h2, h3, h4, h5, h6, h7, h8⟩ := K
  rw [h1] at hO
  exact fun H locs ls hP hD hS hl' => va_putF F.1.1 F.1.2.1 F.1.2.2.2.2 h2 ty0 h5 h6 F.1.2.2.2.1 F.2.1 hP hD hS q0 he h1 fk h3 (F.1.2.2.2.2 _ h4) (fun _ h => h) h8 hin (Option.some.inj hO) (h7 ▸ h5 fk h3) hn hf hl d (fun H1 locs1 hP1 hD1 hS1 => g H1 locs1 ls hP1 hD1 hS1 hl')
theorem z_iald (F : zF C D R cc nL Ts own ret cyI cyB) {a len : Nat} {f : Nat → Int32} {i : Int32} (d : decode cc pc = .ok (.iaload, 1)) (pc' : Nat) (e : pc + 1 = pc') (q0 : Nat) (he : ws[q0]? = some (a, .inl (cyI, len, .inl f))) (h31 : len < 2 ^ 31) (j : Nat) (ei : i = nI j) (hj : j < len) (g : zX C D nL k n ws pc' lv (.int (f j) :: st)) : zX C D nL k n ws pc lv (.int i :: .ref a :: st) := by
  subst e; subst ei
  refine fun H locs ls hP hD hS hl => va_iald F.1.1 F.1.2.1 F.2.1 hP q0 0 he rfl (vp_in_nI hj h31) d ?_
  rw [nI_clamp (Nat.lt_trans hj h31)]
  exact g H locs ls hP hD hS hl
theorem z_bald (F : zF C D R cc nL Ts own ret cyI cyB) {a len : Nat} {f : Nat → Int32} {i : Int32} (d : decode cc pc = .ok (.baload, 1)) (pc' : Nat) (e : pc + 1 = pc') (q0 : Nat) (he : ws[q0]? = some (a, .inl (cyB, len, .inl f))) (h31 : len < 2 ^ 31) (j : Nat) (ei : i = nI j) (hj : j < len) (g : zX C D nL k n ws pc' lv (.int (f j) :: st)) : zX C D nL k n ws pc lv (.int i :: .ref a :: st) := by
  subst e; subst ei
  refine fun H locs ls hP hD hS hl => va_bald F.1.1 F.1.2.1 F.2.1 hP q0 1 he rfl (vp_in_nI hj h31) d ?_
  rw [nI_clamp (Nat.lt_trans hj h31)]
  exact g H locs ls hP hD hS hl
theorem z_iast (F : zF C D R cc nL Ts own ret cyI cyB) {a len : Nat} {f : Nat → Int32} {i x : Int32} (d : decode cc pc = .ok (.iastore, 1)) (pc' : Nat) (e : pc + 1 = pc') (q0 : Nat) (he : ws[q0]? = some (a, .inl (cyI, len, .inl f))) (h31 : len < 2 ^ 31) (j : Nat) (ei : i = nI j) (hj : j < len) (ws' : va_W) (hw : ws.set q0 (a, .inl (cyI, len, .inl (upd f j x))) = ws') (g : zX C D nL k n ws' pc' lv st) : zX C D nL k n ws pc lv (.int x :: .int i :: .ref a :: st) := by
  subst e; subst ei; subst hw
  refine fun H locs ls hP hD hS hl => va_iast F.1.1 F.1.2.1 F.2.1 hP hD hS q0 0 he rfl (vp_in_nI hj h31) d (fun H1 locs1 hP1 hD1 hS1 => ?_)
  rw [nI_clamp (Nat.lt_trans hj h31)] at hP1 hD1
  exact g H1 locs1 ls hP1 hD1 hS1 hl
theorem z_bast (F : zF C D R cc nL Ts own ret cyI cyB) {a len : Nat} {f : Nat → Int32} {i x : Int32} (d : decode cc pc = .ok (.bastore, 1)) (pc' : Nat) (e : pc + 1 = pc') (q0 : Nat) (he : ws[q0]? = some (a, .inl (cyB, len, .inl f))) (h31 : len < 2 ^ 31) (j : Nat) (ei : i = nI j) (hj : j < len) (ws' : va_W) (hw : ws.set q0 (a, .inl (cyB, len, .inl (upd f j (vp_nar .byte x)))) = ws') (g : zX C D nL k n ws' pc' lv st) : zX C D nL k n ws pc lv (.int x :: .int i :: .ref a :: st) := by
  subst e; subst ei; subst hw
  refine fun H locs ls hP hD hS hl => va_bast F.1.1 F.1.2.1 F.2.1 hP hD hS q0 1 he rfl (vp_in_nI hj h31) d (fun H1 locs1 hP1 hD1 hS1 => ?_)
  rw [nI_clamp (Nat.lt_trans hj h31)] at hP1 hD1
  exact g H1 locs1 ls hP1 hD1 hS1 hl
theorem z_alen (F : zF C D R cc nL Ts own ret cyI cyB) {a len : Nat} {f : Nat → Int32} (d : decode cc pc = .ok (.arraylength, 1)) (pc' : Nat) (e : pc + 1 = pc') (q0 : Nat) (he : ws[q0]? = some (a, .inl (cyI, len, .inl f))) (g : zX C D nL k n ws pc' lv (.int (nI len) :: st)) : zX C D nL k n ws pc lv (.ref a :: st) := by
  subst e
  exact fun H locs ls hP hD hS hl => va_alen F.1.1 F.1.2.1 F.2.1 hP q0 0 he (ty := .int) rfl (v := nI len) rfl d (g H locs ls hP hD hS hl)

def zPc (D : va_G) (cyI cyB : ClassId) (av : List Value) (wc : va_W) (sz : Nat) : Array Value → State → Prop := va_Pc av (fun U => U.heap.size = sz ∧ va_P D vwCl wc U.heap ∧ va_K D vwCl (zT cyI cyB) U ∧ zN U ∧ va_D (fun _ => True) wc)
theorem zPc_blind (D : va_G) (cyI cyB : ClassId) (av : List Value) (wc : va_W) (sz : Nat) : FrameBlind (zPc D cyI cyB av wc sz) := fun a U g mk q => by
  obtain ⟨q0, q1, qP, qK, qN, qD⟩ := q
  exact ⟨q0, q1, qP, va_K.moved (u := U) (U := U.calling g mk a) (Vm.Alike.refl U.vm) qK, zN.same (u := U) (U := U.calling g mk a) rfl qN, qD⟩
def zB (D : va_G) {S : Type} (wc : va_W) (wf : S → va_W) (sz : Nat) : S → State → Prop := fun u t => va_P D vwCl (wf u) t.heap ∧ va_D (va_A wc sz) (wf u)
/-- a contract that makes no cells: int, long or no answer -/
def zMi (l : Launch) (y : MethodName) (Tc : List Cond) (fr lo : Nat) (D : va_G) (cyI cyB : ClassId) (av : List Value) (wc : va_W) {S : Type} (wf : S → va_W) (post : Int32 → S → Prop) : Prop :=
  ∀ sz : Nat, Met l y Tc { frames := fr, cells := 0, slots := 0, locals := lo } (zPc D cyI cyB av wc sz) (va_Qi post (zB D wc wf sz) (va_A wc sz)) 0 0 (va_A wc sz)
def zMl (l : Launch) (y : MethodName) (Tc : List Cond) (fr lo : Nat) (D : va_G) (cyI cyB : ClassId) (av : List Value) (wc : va_W) {S : Type} (wf : S → va_W) (post : Int64 → S → Prop) : Prop :=
  ∀ sz : Nat, Met l y Tc { frames := fr, cells := 0, slots := 0, locals := lo } (zPc D cyI cyB av wc sz) (va_Ql post (zB D wc wf sz) (va_A wc sz)) 0 0 (va_A wc sz)
def zMv (l : Launch) (y : MethodName) (Tc : List Cond) (fr lo : Nat) (D : va_G) (cyI cyB : ClassId) (av : List Value) (wc : va_W) {S : Type} (wf : S → va_W) (post : S → Prop) : Prop :=
  ∀ sz : Nat, Met l y Tc { frames := fr, cells := 0, slots := 0, locals := lo } (zPc D cyI cyB av wc sz) (va_Qv post (zB D wc wf sz) (va_A wc sz)) 0 0 (va_A wc sz)
/-- cells put at places -/
def zUp : va_W → List Nat → va_W → va_W
  | ws, [], _ => ws
  | ws, _ :: _, [] => ws
  | ws, i :: is, e :: w => zUp (ws.set i e) is w
theorem zUp_at : ∀ (is : List Nat) (w1 ws : va_W), is.length = w1.length → ∀ (k : Nat) (q : Nat × va_E), (zUp ws is w1)[k]? = some q → (∃ j : Nat, is[j]? = some k ∧ w1[j]? = some q) ∨ (k ∉ is ∧ ws[k]? = some q)
  | [], w1, ws, _, k, q, h => by simp only [zUp] at h; exact Or.inr ⟨List.not_mem_nil, h⟩
  | i :: is, [], ws, hl, k, q, h => by simp at hl
  | i :: is, e :: w1, ws, hl, k, q, h => by
    rcases zUp_at is w1 (ws.set i e) (by simpa using hl) k q h with ⟨j, h1, h2⟩ | ⟨h1, h2⟩
    · exact Or.inl ⟨j + 1, by simpa using h1, by simpa using h2⟩
    · by_cases hk : k = i
      · subst hk
        by_cases hb : k < ws.length
        · rw [List.getElem?_set_self hb] at h2
          exact Or.inl ⟨0, rfl, by simpa using h2⟩
        · exact absurd (List.getElem?_eq_some_iff.mp h2).1 (by simpa using hb)
      · rw [List.getElem?_set_ne (Ne.symm hk)] at h2
        exact Or.inr ⟨by simp [hk, h1], h2⟩
theorem z_map {ws : va_W} {is : List Nat} {w : va_W} (hs : is.map (fun i => ws[i]?) = w.map some) {k : Nat} {q : Nat × va_E} (hq : w[k]? = some q) : ∃ i : Nat, is[k]? = some i ∧ ws[i]? = some q := by
  have h1 : (is.map (fun i => ws[i]?))[k]? = some (some q) := by rw [hs, List.getElem?_map, hq]; rfl
  rw [List.getElem?_map] at h1
  cases hi : is[k]? with
  | none => rw [hi] at h1; cases h1
  | some i => rw [hi] at h1; exact ⟨i, rfl, Option.some.inj h1⟩
/-- the world behind a call -/
theorem z_back {A0 : Nat → Prop} {D : va_G} {ws wc w1 : va_W} {H H1 : Heap} (hP : va_P D vwCl ws H) (hD : va_D A0 ws) (is : List Nat) (hC : is.map (fun i => ws[i]?) = wc.map some) (ha : w1.map (fun q => q.1) = wc.map (fun q => q.1))
    (hk : ∀ q : Nat, q < H.size → ¬ va_A wc H.size q → H1[q]? = H[q]?) (hP1 : va_P D vwCl w1 H1) : va_P D vwCl (zUp ws is w1) H1 ∧ va_D A0 (zUp ws is w1) := by
  have hlen : is.length = w1.length := by
    have h1 := congrArg List.length hC
    have h2 := congrArg List.length ha
    simp only [List.length_map] at h1 h2
    omega
  have key : ∀ (k : Nat) (q : Nat × va_E), (zUp ws is w1)[k]? = some q → ∃ q0 : Nat × va_E, ws[k]? = some q0 ∧ q0.1 = q.1 := by
    intro k q hq
    rcases zUp_at is w1 ws hlen k q hq with ⟨j, h1, h2⟩ | ⟨h1, h2⟩
    · have h3 : (wc.map (fun q => q.1))[j]? = some q.1 := by rw [← ha, List.getElem?_map, h2]; rfl
      rw [List.getElem?_map] at h3
      cases hc : wc[j]? with
      | none => rw [hc] at h3; cases h3
      | some q0 =>
        rw [hc] at h3
        obtain ⟨i, h4, h5⟩ := z_map hC hc
        rw [h1] at h4
        cases h4
        exact ⟨q0, h5, Option.some.inj h3⟩
    · exact ⟨q, h2, rfl⟩
  refine ⟨fun k q hq => ?_, fun i j x y hi hj hxy => ?_, fun k q hq => ?_⟩
  · rcases zUp_at is w1 ws hlen k q hq with ⟨j, h1, h2⟩ | ⟨h1, h2⟩
    · exact hP1 j q h2
    · have hl := (hP k q h2).lt
      refine (hP k q h2).kept (hk q.1 hl (fun h => ?_))
      rcases h with ⟨k2, e, h⟩ | h
      · obtain ⟨i, h3, h4⟩ := z_map hC h
        have := hD.1 k i q (q.1, e) h2 h4 rfl
        subst this
        exact h1 (List.mem_of_getElem? h3)
      · omega
  · obtain ⟨x0, h1, h2⟩ := key i x hi
    obtain ⟨y0, h3, h4⟩ := key j y hj
    exact hD.1 i j x0 y0 h1 h3 (h2.trans (hxy.trans h4.symm))
  · obtain ⟨q0, h1, h2⟩ := key k q hq
    rw [← h2]
    exact hD.2 k q0 h1
theorem z_subD {A : Nat → Prop} {ws wc : va_W} (hD : va_D A ws) (is : List Nat) (hn : va_nd is = true) (hs : is.map (fun i => ws[i]?) = wc.map some) : va_D (fun _ => True) wc := (hD.sub is hn hs).weaken (fun _ _ _ _ => trivial)
theorem z_subP {D : va_G} {ws wc : va_W} {H : Heap} (hP : va_P D vwCl ws H) (is : List Nat) (hs : is.map (fun i => ws[i]?) = wc.map some) : va_P D vwCl wc H := fun k q hq => by
  obtain ⟨i, -, h2⟩ := z_map hs hq
  exact hP i q h2
theorem z_pre {C : zC} {D : va_G} {cyI cyB : ClassId} {av : List Value} {wc : va_W} {H : Heap} (hK : va_K D vwCl (zT cyI cyB) C.2.1.1) (hN : zN C.2.1.1) (hP : va_P D vwCl wc H) (hD : va_D (fun _ => True) wc) : ∀ U : State, U.heap = H → C.2.1.1.WarmedH U.vm → zPc D cyI cyB av wc H.size av.toArray U := fun U hU hW => ⟨rfl, by rw [hU], by rw [hU]; exact hP, va_K.moved hW.alike hK, zN.warm hW hN, hD⟩
/-- static facts of a callee: its words, names, number of arguments -/
def zY (y : MethodName) (Tc : List Cond) (bytes : ByteArray) (maxL : Nat) (rt : Option FieldType) (na : Nat) : Prop := (∃ Tc', Tc = Cond.code y bytes maxL rt :: Tc') ∧ (y.cls ≠ "java/lang/invoke/MethodHandle" ∧ y.cls ≠ "java/lang/invoke/VarHandle" ∧ (parseMethodDescriptor y.desc).map (fun d => d.parameters.length) = some na)

theorem z_callVi (F : zF C D R cc nL Ts own ret cyI cyB) {index : Nat} {b : Addr} {Cn : String} {y : MethodName} {Tc : List Cond} {fr lo maxL na : Nat} {bytes : ByteArray} {rt : Option FieldType} {As : List Value} {wc : va_W} {S : Type} {wf : S → va_W} {post : Int32 → S → Prop} (d : decode cc pc = .ok (.invokevirtual index, 3)) (pc' : Nat) (e : pc + 3 = pc') (hM : zMi C.1.2.1 y Tc fr lo D cyI cyB (.ref b :: As) wc wf post) (hY : zY y Tc bytes maxL rt na) (hna : As.length = na) (hG : GoodIn Ts (wsV own index Cn y Tc)) (hCn : y.cls = Cn) {ci rq : Nat} {fs : List Value} (hrc : vwCl[ci]?.map (fun q => q.1) = some Cn) (hrq : wc[rq]? = some (b, .inr (ci, fs))) (hR : fr + 1 ≤ R.frames ∧ 8 + (maxL + 11) + lo ≤ R.locals) (hk : k ≤ R.cells ∧ n ≤ R.slots) (hst : (st.map fun v => v.category).sum ≤ 8) (is : List Nat) (hn : va_nd is = true) (hC : is.map (fun i => ws[i]?) = wc.map some) (ha : ∀ u : S, (wf u).map (fun q => q.1) = wc.map (fun q => q.1)) (ws' : S → va_W) (hw' : ∀ u : S, zUp ws is (wf u) = ws' u) (g : ∀ (r : Int32) (u : S), post r u → zX C D nL k n (ws' u) pc' lv (.int r :: st)) : zX C D nL k n ws pc lv (As.reverse ++ .ref b :: st) := by
  subst e
  obtain ⟨⟨Tc', hTc⟩, hd⟩ := hY
  obtain ⟨F1, hK, hN, hA, -, -, rfl⟩ := F
  subst hna
  intro H locs ls hP hD hS hl
  have hPc := z_subP hP is hC
  have hDc := z_subD hD is hn hC
  have hFc := va_free (wc := wc) hD hS hA is hC
  subst hCn
  cases hq : vwCl[ci]? with
  | none => rw [hq] at hrc; cases hrc
  | some q =>
  rw [hq] at hrc
  have hrc : q.1 = y.cls := Option.some.inj hrc
  refine va_calli (va_runV (As := As) (rest := st) F1 (hM H.size) (cwV As.length F1.2.2.2.2 hG hTc rfl rfl ⟨rfl, hd⟩ hR) ⟨zPc_blind D cyI cyB _ wc H.size, hrc ▸ va_recv hK hPc hq hrq, z_pre hK hN hPc hDc⟩ rfl rfl hl.1 rfl (lv_room hst) d hk) hS (fun q _ h => hFc q h) hFc (fun r u t H1 locs1 ht hvm hw hB hz1 hk1 hS1 => ?_)
  obtain ⟨hP1, hD1⟩ := hB
  rw [ht] at hP1
  have hb := z_back hP hD is hC (ha u) hk1 hP1
  rw [hw' u] at hb
  exact g r u hw H1 locs1 ls hb.1 hb.2 hS1 hl
theorem z_callSi (F : zF C D R cc nL Ts own ret cyI cyB) {index : Nat} {y : MethodName} {Tc : List Cond} {fr lo maxL na : Nat} {bytes : ByteArray} {rt : Option FieldType} {As : List Value} {wc : va_W} {S : Type} {wf : S → va_W} {post : Int32 → S → Prop} (d : decode cc pc = .ok (.invokestatic index, 3)) (pc' : Nat) (e : pc + 3 = pc') (hM : zMi C.1.2.1 y Tc fr lo D cyI cyB As wc wf post) (hY : zY y Tc bytes maxL rt na) (hna : As.length = na) (hG : GoodIn Ts (va_wsS own index y Tc)) (hR : fr + 1 ≤ R.frames ∧ 8 + (maxL + 11) + lo ≤ R.locals) (hk : k ≤ R.cells ∧ n ≤ R.slots) (hst : (st.map fun v => v.category).sum ≤ 8) (is : List Nat) (hn : va_nd is = true) (hC : is.map (fun i => ws[i]?) = wc.map some) (ha : ∀ u : S, (wf u).map (fun q => q.1) = wc.map (fun q => q.1)) (ws' : S → va_W) (hw' : ∀ u : S, zUp ws is (wf u) = ws' u) (g : ∀ (r : Int32) (u : S), post r u → zX C D nL k n (ws' u) pc' lv (.int r :: st)) : zX C D nL k n ws pc lv (As.reverse ++ st) := by
  subst e
  obtain ⟨⟨Tc', hTc⟩, hd⟩ := hY
  obtain ⟨F1, hK, hN, hA, -, -, rfl⟩ := F
  subst hna
  intro H locs ls hP hD hS hl
  have hPc := z_subP hP is hC
  have hDc := z_subD hD is hn hC
  have hFc := va_free (wc := wc) hD hS hA is hC
  refine va_calli (va_runS (As := As) (rest := st) F1 (hM H.size) (va_cwS As.length F1.2.2.2.2 hG hTc rfl rfl hd hR) ⟨zPc_blind D cyI cyB _ wc H.size, z_pre hK hN hPc hDc⟩ rfl rfl hl.1 rfl (lv_room hst) d hk) hS (fun q _ h => hFc q h) hFc (fun r u t H1 locs1 ht hvm hw hB hz1 hk1 hS1 => ?_)
  obtain ⟨hP1, hD1⟩ := hB
  rw [ht] at hP1
  have hb := z_back hP hD is hC (ha u) hk1 hP1
  rw [hw' u] at hb
  exact g r u hw H1 locs1 ls hb.1 hb.2 hS1 hl
theorem z_callSNi (F : zF C D R cc nL Ts own ret cyI cyB) {index : Nat} {y : MethodName} {Tc : List Cond} {fr lo maxL na : Nat} {bytes : ByteArray} {rt : Option FieldType} {As : List Value} {wc : va_W} {S : Type} {wf : S → va_W} {post : Int32 → S → Prop} (d : decode cc pc = .ok (.invokestatic index, 3)) (pc' : Nat) (e : pc + 3 = pc') (hM : zMi C.1.2.1 y Tc fr lo D cyI cyB As wc wf post) (hY : zY y Tc bytes maxL rt na) (hna : As.length = na) (hG : GoodIn Ts Tc) {host : String} (hl0 : va_Nw (.methodLinkNest own index y host) C.2.1.1) (hini : Cond.initialized y.cls ∈ Ts) (hsta : Cond.static y ∈ Ts) (hR : fr + 1 ≤ R.frames ∧ 8 + (maxL + 11) + lo ≤ R.locals) (hk : k ≤ R.cells ∧ n ≤ R.slots) (hst : (st.map fun v => v.category).sum ≤ 8) (is : List Nat) (hn : va_nd is = true) (hC : is.map (fun i => ws[i]?) = wc.map some) (ha : ∀ u : S, (wf u).map (fun q => q.1) = wc.map (fun q => q.1)) (ws' : S → va_W) (hw' : ∀ u : S, zUp ws is (wf u) = ws' u) (g : ∀ (r : Int32) (u : S), post r u → zX C D nL k n (ws' u) pc' lv (.int r :: st)) : zX C D nL k n ws pc lv (As.reverse ++ st) := by
  subst e
  obtain ⟨⟨Tc', hTc⟩, hd⟩ := hY
  obtain ⟨F1, hK, hN, hA, -, -, rfl⟩ := F
  subst hna
  intro H locs ls hP hD hS hl
  have hPc := z_subP hP is hC
  have hDc := z_subD hD is hn hC
  have hFc := va_free (wc := wc) hD hS hA is hC
  refine va_calli (va_runSN (As := As) (rest := st) F1 (hM H.size) ⟨va_cnB As.length F1.2.2.2.2 hG hTc rfl rfl hl0 (F1.2.2.2.2 _ hini) hd hR, F1.2.2.2.2 _ hsta, trivial⟩ ⟨zPc_blind D cyI cyB _ wc H.size, z_pre hK hN hPc hDc⟩ rfl rfl hl.1 rfl (lv_room hst) d hk) hS (fun q _ h => hFc q h) hFc (fun r u t H1 locs1 ht hvm hw hB hz1 hk1 hS1 => ?_)
  obtain ⟨hP1, hD1⟩ := hB
  rw [ht] at hP1
  have hb := z_back hP hD is hC (ha u) hk1 hP1
  rw [hw' u] at hb
  exact g r u hw H1 locs1 ls hb.1 hb.2 hS1 hl
theorem z_callVl (F : zF C D R cc nL Ts own ret cyI cyB) {index : Nat} {b : Addr} {Cn : String} {y : MethodName} {Tc : List Cond} {fr lo maxL na : Nat} {bytes : ByteArray} {rt : Option FieldType} {As : List Value} {wc : va_W} {S : Type} {wf : S → va_W} {post : Int64 → S → Prop} (d : decode cc pc = .ok (.invokevirtual index, 3)) (pc' : Nat) (e : pc + 3 = pc') (hM : zMl C.1.2.1 y Tc fr lo D cyI cyB (.ref b :: As) wc wf post) (hY : zY y Tc bytes maxL rt na) (hna : As.length = na) (hG : GoodIn Ts (wsV own index Cn y Tc)) (hCn : y.cls = Cn) {ci rq : Nat} {fs : List Value} (hrc : vwCl[ci]?.map (fun q => q.1) = some Cn) (hrq : wc[rq]? = some (b, .inr (ci, fs))) (hR : fr + 1 ≤ R.frames ∧ 8 + (maxL + 11) + lo ≤ R.locals) (hk : k ≤ R.cells ∧ n ≤ R.slots) (hst : (st.map fun v => v.category).sum ≤ 8) (is : List Nat) (hn : va_nd is = true) (hC : is.map (fun i => ws[i]?) = wc.map some) (ha : ∀ u : S, (wf u).map (fun q => q.1) = wc.map (fun q => q.1)) (ws' : S → va_W) (hw' : ∀ u : S, zUp ws is (wf u) = ws' u) (g : ∀ (r : Int64) (u : S), post r u → zX C D nL k n (ws' u) pc' lv (.long r :: st)) : zX C D nL k n ws pc lv (As.reverse ++ .ref b :: st) := by
  subst e
  obtain ⟨⟨Tc', hTc⟩, hd⟩ := hY
  obtain ⟨F1, hK, hN, hA, -, -, rfl⟩ := F
  subst hna
  intro H locs ls hP hD hS hl
  have hPc := z_subP hP is hC
  have hDc := z_subD hD is hn hC
  have hFc := va_free (wc := wc) hD hS hA is hC
  subst hCn
  cases hq : vwCl[ci]? with
  | none => rw [hq] at hrc; cases hrc
  | some q =>
  rw [hq] at hrc
  have hrc : q.1 = y.cls := Option.some.inj hrc
  refine va_calll (va_runV (As := As) (rest := st) F1 (hM H.size) (cwV As.length F1.2.2.2.2 hG hTc rfl rfl ⟨rfl, hd⟩ hR) ⟨zPc_blind D cyI cyB _ wc H.size, hrc ▸ va_recv hK hPc hq hrq, z_pre hK hN hPc hDc⟩ rfl rfl hl.1 rfl (lv_room hst) d hk) hS (fun q _ h => hFc q h) hFc (fun r u t H1 locs1 ht hvm hw hB hz1 hk1 hS1 => ?_)
  obtain ⟨hP1, hD1⟩ := hB
  rw [ht] at hP1
  have hb := z_back hP hD is hC (ha u) hk1 hP1
  rw [hw' u] at hb
  exact g r u hw H1 locs1 ls hb.1 hb.2 hS1 hl
theorem z_callSl (F : zF C D R cc nL Ts own ret cyI cyB) {index : Nat} {y : MethodName} {Tc : List Cond} {fr lo maxL na : Nat} {bytes : ByteArray} {rt : Option FieldType} {As : List Value} {wc : va_W} {S : Type} {wf : S → va_W} {post : Int64 → S → Prop} (d : decode cc pc = .ok (.invokestatic index, 3)) (pc' : Nat) (e : pc + 3 = pc') (hM : zMl C.1.2.1 y Tc fr lo D cyI cyB As wc wf post) (hY : zY y Tc bytes maxL rt na) (hna : As.length = na) (hG : GoodIn Ts (va_wsS own index y Tc)) (hR : fr + 1 ≤ R.frames ∧ 8 + (maxL + 11) + lo ≤ R.locals) (hk : k ≤ R.cells ∧ n ≤ R.slots) (hst : (st.map fun v => v.category).sum ≤ 8) (is : List Nat) (hn : va_nd is = true) (hC : is.map (fun i => ws[i]?) = wc.map some) (ha : ∀ u : S, (wf u).map (fun q => q.1) = wc.map (fun q => q.1)) (ws' : S → va_W) (hw' : ∀ u : S, zUp ws is (wf u) = ws' u) (g : ∀ (r : Int64) (u : S), post r u → zX C D nL k n (ws' u) pc' lv (.long r :: st)) : zX C D nL k n ws pc lv (As.reverse ++ st) := by
  subst e
  obtain ⟨⟨Tc', hTc⟩, hd⟩ := hY
  obtain ⟨F1, hK, hN, hA, -, -, rfl⟩ := F
  subst hna
  intro H locs ls hP hD hS hl
  have hPc := z_subP hP is hC
  have hDc := z_subD hD is hn hC
  have hFc := va_free (wc := wc) hD hS hA is hC
  refine va_calll (va_runS (As := As) (rest := st) F1 (hM H.size) (va_cwS As.length F1.2.2.2.2 hG hTc rfl rfl hd hR) ⟨zPc_blind D cyI cyB _ wc H.size, z_pre hK hN hPc hDc⟩ rfl rfl hl.1 rfl (lv_room hst) d hk) hS (fun q _ h => hFc q h) hFc (fun r u t H1 locs1 ht hvm hw hB hz1 hk1 hS1 => ?_)
  obtain ⟨hP1, hD1⟩ := hB
  rw [ht] at hP1
  have hb := z_back hP hD is hC (ha u) hk1 hP1
  rw [hw' u] at hb
  exact g r u hw H1 locs1 ls hb.1 hb.2 hS1 hl
theorem z_callSNl (F : zF C D R cc nL Ts own ret cyI cyB) {index : Nat} {y : MethodName} {Tc : List Cond} {fr lo maxL na : Nat} {bytes : ByteArray} {rt : Option FieldType} {As : List Value} {wc : va_W} {S : Type} {wf : S → va_W} {post : Int64 → S → Prop} (d : decode cc pc = .ok (.invokestatic index, 3)) (pc' : Nat) (e : pc + 3 = pc') (hM : zMl C.1.2.1 y Tc fr lo D cyI cyB As wc wf post) (hY : zY y Tc bytes maxL rt na) (hna : As.length = na) (hG : GoodIn Ts Tc) {host : String} (hl0 : va_Nw (.methodLinkNest own index y host) C.2.1.1) (hini : Cond.initialized y.cls ∈ Ts) (hsta : Cond.static y ∈ Ts) (hR : fr + 1 ≤ R.frames ∧ 8 + (maxL + 11) + lo ≤ R.locals) (hk : k ≤ R.cells ∧ n ≤ R.slots) (hst : (st.map fun v => v.category).sum ≤ 8) (is : List Nat) (hn : va_nd is = true) (hC : is.map (fun i => ws[i]?) = wc.map some) (ha : ∀ u : S, (wf u).map (fun q => q.1) = wc.map (fun q => q.1)) (ws' : S → va_W) (hw' : ∀ u : S, zUp ws is (wf u) = ws' u) (g : ∀ (r : Int64) (u : S), post r u → zX C D nL k n (ws' u) pc' lv (.long r :: st)) : zX C D nL k n ws pc lv (As.reverse ++ st) := by
  subst e
  obtain ⟨⟨Tc', hTc⟩, hd⟩ := hY
  obtain ⟨F1, hK, hN, hA, -, -, rfl⟩ := F
  subst hna
  intro H locs ls hP hD hS hl
  have hPc := z_subP hP is hC
  have hDc := z_subD hD is hn hC
  have hFc := va_free (wc := wc) hD hS hA is hC
  refine va_calll (va_runSN (As := As) (rest := st) F1 (hM H.size) ⟨va_cnB As.length F1.2.2.2.2 hG hTc rfl rfl hl0 (F1.2.2.2.2 _ hini) hd hR, F1.2.2.2.2 _ hsta, trivial⟩ ⟨zPc_blind D cyI cyB _ wc H.size, z_pre hK hN hPc hDc⟩ rfl rfl hl.1 rfl (lv_room hst) d hk) hS (fun q _ h => hFc q h) hFc (fun r u t H1 locs1 ht hvm hw hB hz1 hk1 hS1 => ?_)
  obtain ⟨hP1, hD1⟩ := hB
  rw [ht] at hP1
  have hb := z_back hP hD is hC (ha u) hk1 hP1
  rw [hw' u] at hb
  exact g r u hw H1 locs1 ls hb.1 hb.2 hS1 hl
theorem z_callVv (F : zF C D R cc nL Ts own ret cyI cyB) {index : Nat} {b : Addr} {Cn : String} {y : MethodName} {Tc : List Cond} {fr lo maxL na : Nat} {bytes : ByteArray} {rt : Option FieldType} {As : List Value} {wc : va_W} {S : Type} {wf : S → va_W} {post : S → Prop} (d : decode cc pc = .ok (.invokevirtual index, 3)) (pc' : Nat) (e : pc + 3 = pc') (hM : zMv C.1.2.1 y Tc fr lo D cyI cyB (.ref b :: As) wc wf post) (hY : zY y Tc bytes maxL rt na) (hna : As.length = na) (hG : GoodIn Ts (wsV own index Cn y Tc)) (hCn : y.cls = Cn) {ci rq : Nat} {fs : List Value} (hrc : vwCl[ci]?.map (fun q => q.1) = some Cn) (hrq : wc[rq]? = some (b, .inr (ci, fs))) (hR : fr + 1 ≤ R.frames ∧ 8 + (maxL + 11) + lo ≤ R.locals) (hk : k ≤ R.cells ∧ n ≤ R.slots) (hst : (st.map fun v => v.category).sum ≤ 8) (is : List Nat) (hn : va_nd is = true) (hC : is.map (fun i => ws[i]?) = wc.map some) (ha : ∀ u : S, (wf u).map (fun q => q.1) = wc.map (fun q => q.1)) (ws' : S → va_W) (hw' : ∀ u : S, zUp ws is (wf u) = ws' u) (g : ∀ u : S, post u → zX C D nL k n (ws' u) pc' lv st) : zX C D nL k n ws pc lv (As.reverse ++ .ref b :: st) := by
  subst e
  obtain ⟨⟨Tc', hTc⟩, hd⟩ := hY
  obtain ⟨F1, hK, hN, hA, -, -, rfl⟩ := F
  subst hna
  intro H locs ls hP hD hS hl
  have hPc := z_subP hP is hC
  have hDc := z_subD hD is hn hC
  have hFc := va_free (wc := wc) hD hS hA is hC
  subst hCn
  cases hq : vwCl[ci]? with
  | none => rw [hq] at hrc; cases hrc
  | some q =>
  rw [hq] at hrc
  have hrc : q.1 = y.cls := Option.some.inj hrc
  refine va_callv (va_runV (As := As) (rest := st) F1 (hM H.size) (cwV As.length F1.2.2.2.2 hG hTc rfl rfl ⟨rfl, hd⟩ hR) ⟨zPc_blind D cyI cyB _ wc H.size, hrc ▸ va_recv hK hPc hq hrq, z_pre hK hN hPc hDc⟩ rfl rfl hl.1 rfl (lv_room hst) d hk) hS (fun q _ h => hFc q h) hFc (fun u t H1 locs1 ht hvm hw hB hz1 hk1 hS1 => ?_)
  obtain ⟨hP1, hD1⟩ := hB
  rw [ht] at hP1
  have hb := z_back hP hD is hC (ha u) hk1 hP1
  rw [hw' u] at hb
  exact g u hw H1 locs1 ls hb.1 hb.2 hS1 hl
theorem z_callSv (F : zF C D R cc nL Ts own ret cyI cyB) {index : Nat} {y : MethodName} {Tc : List Cond} {fr lo maxL na : Nat} {bytes : ByteArray} {rt : Option FieldType} {As : List Value} {wc : va_W} {S : Type} {wf : S → va_W} {post : S → Prop} (d : decode cc pc = .ok (.invokestatic index, 3)) (pc' : Nat) (e : pc + 3 = pc') (hM : zMv C.1.2.1 y Tc fr lo D cyI cyB As wc wf post) (hY : zY y Tc bytes maxL rt na) (hna : As.length = na) (hG : GoodIn Ts (va_wsS own index y Tc)) (hR : fr + 1 ≤ R.frames ∧ 8 + (maxL + 11) + lo ≤ R.locals) (hk : k ≤ R.cells ∧ n ≤ R.slots) (hst : (st.map fun v => v.category).sum ≤ 8) (is : List Nat) (hn : va_nd is = true) (hC : is.map (fun i => ws[i]?) = wc.map some) (ha : ∀ u : S, (wf u).map (fun q => q.1) = wc.map (fun q => q.1)) (ws' : S → va_W) (hw' : ∀ u : S, zUp ws is (wf u) = ws' u) (g : ∀ u : S, post u → zX C D nL k n (ws' u) pc' lv st) : zX C D nL k n ws pc lv (As.reverse ++ st) := by
  subst e
  obtain ⟨⟨Tc', hTc⟩, hd⟩ := hY
  obtain ⟨F1, hK, hN, hA, -, -, rfl⟩ := F
  subst hna
  intro H locs ls hP hD hS hl
  have hPc := z_subP hP is hC
  have hDc := z_subD hD is hn hC
  have hFc := va_free (wc := wc) hD hS hA is hC
  refine va_callv (va_runS (As := As) (rest := st) F1 (hM H.size) (va_cwS As.length F1.2.2.2.2 hG hTc rfl rfl hd hR) ⟨zPc_blind D cyI cyB _ wc H.size, z_pre hK hN hPc hDc⟩ rfl rfl hl.1 rfl (lv_room hst) d hk) hS (fun q _ h => hFc q h) hFc (fun u t H1 locs1 ht hvm hw hB hz1 hk1 hS1 => ?_)
  obtain ⟨hP1, hD1⟩ := hB
  rw [ht] at hP1
  have hb := z_back hP hD is hC (ha u) hk1 hP1
  rw [hw' u] at hb
  exact g u hw H1 locs1 ls hb.1 hb.2 hS1 hl
theorem z_callSNv (F : zF C D R cc nL Ts own ret cyI cyB) {index : Nat} {y : MethodName} {Tc : List Cond} {fr lo maxL na : Nat} {bytes : ByteArray} {rt : Option FieldType} {As : List Value} {wc : va_W} {S : Type} {wf : S → va_W} {post : S → Prop} (d : decode cc pc = .ok (.invokestatic index, 3)) (pc' : Nat) (e : pc + 3 = pc') (hM : zMv C.1.2.1 y Tc fr lo D cyI cyB As wc wf post) (hY : zY y Tc bytes maxL rt na) (hna : As.length = na) (hG : GoodIn Ts Tc) {host : String} (hl0 : va_Nw (.methodLinkNest own index y host) C.2.1.1) (hini : Cond.initialized y.cls ∈ Ts) (hsta : Cond.static y ∈ Ts) (hR : fr + 1 ≤ R.frames ∧ 8 + (maxL + 11) + lo ≤ R.locals) (hk : k ≤ R.cells ∧ n ≤ R.slots) (hst : (st.map fun v => v.category).sum ≤ 8) (is : List Nat) (hn : va_nd is = true) (hC : is.map (fun i => ws[i]?) = wc.map some) (ha : ∀ u : S, (wf u).map (fun q => q.1) = wc.map (fun q => q.1)) (ws' : S → va_W) (hw' : ∀ u : S, zUp ws is (wf u) = ws' u) (g : ∀ u : S, post u → zX C D nL k n (ws' u) pc' lv st) : zX C D nL k n ws pc lv (As.reverse ++ st) := by
  subst e
  obtain ⟨⟨Tc', hTc⟩, hd⟩ := hY
  obtain ⟨F1, hK, hN, hA, -, -, rfl⟩ := F
  subst hna
  intro H locs ls hP hD hS hl
  have hPc := z_subP hP is hC
  have hDc := z_subD hD is hn hC
  have hFc := va_free (wc := wc) hD hS hA is hC
  refine va_callv (va_runSN (As := As) (rest := st) F1 (hM H.size) ⟨va_cnB As.length F1.2.2.2.2 hG hTc rfl rfl hl0 (F1.2.2.2.2 _ hini) hd hR, F1.2.2.2.2 _ hsta, trivial⟩ ⟨zPc_blind D cyI cyB _ wc H.size, z_pre hK hN hPc hDc⟩ rfl rfl hl.1 rfl (lv_room hst) d hk) hS (fun q _ h => hFc q h) hFc (fun u t H1 locs1 ht hvm hw hB hz1 hk1 hS1 => ?_)
  obtain ⟨hP1, hD1⟩ := hB
  rw [ht] at hP1
  have hb := z_back hP hD is hC (ha u) hk1 hP1
  rw [hw' u] at hb
  exact g u hw H1 locs1 ls hb.1 hb.2 hS1 hl
end
/-- a contract out of a walk, for a method that no native row replaces -/
theorem z_ofW {l : Launch} {y : MethodName} {Tc Tc' : List Cond} {rm : Room} {Pc : Array Value → State → Prop} {Qc : Array Value → State → Outcome → State → Prop} {mc ms : Nat} {free : Addr → Prop} {cc : ByteArray} {nL : Nat} {rt : Option FieldType} (hy : plainFor y = true) (hw : Tc = Cond.code y cc nL rt :: Tc')
    (body : ∀ p e s m args below meth c s₁, BodyLoose p l y (headSpec Tc rm) cc nL rt e s m args below meth c s₁ → c.maxLocals = nL → Pc args s → W p l e (headSpec Tc rm).room s m args below meth c s.heap [] 0 0 (MQ below Qc args s mc ms free) (entryFrame m args nL)) : Met l y Tc rm Pc Qc mc ms free := by
  refine MetFree.of_bodySF (code := cc) (maxLocals := nL) (ret := rt) hy (fun args s m h hn => ?_) (fun p e s m args below meth c s₁ B hml hP _ => ?_)
  · obtain ⟨meth, c, h1, h2, h3, h4, h5, h6, -, -⟩ := Cond.code_spec hn (atoms_spec (ws := Tc) h _ (by rw [hw]; exact List.mem_cons_self))
    exact ⟨meth, c, h1, h2, h3, h4, h5, h6⟩
  · obtain ⟨t, a1, o, b1, b2, b3⟩ := body p e s m args below meth c s₁ B hml hP s₁ (by rw [B.state]; rfl) (Stand.of_body B)
    exact ⟨t, o, a1, b1, b2, ⟨b3.1, b3.2⟩⟩
def zRi (C : zC) (D : va_G) (cc : ByteArray) (nL : Nat) {S : Type} (wf : S → va_W) (post : Int32 → S → Prop) : Prop := ∀ (pc : Nat) (lv : List (Nat × Value)) (r : Int32) (u : S), decode cc pc = .ok (.ireturn, 1) → post r u → zX C D nL 0 0 (wf u) pc lv [.int r]
theorem z_meti {l : Launch} {y : MethodName} {Tc : List Cond} {fr lo : Nat} {D : va_G} {cyI cyB : ClassId} {av : List Value} {wc : va_W} {S : Type} {wf : S → va_W} {post : Int32 → S → Prop} {cc : ByteArray} {nL : Nat} {Tc' : List Cond} (hy : plainFor y = true) (hw : Tc = Cond.code y cc nL (some .int) :: Tc') (hlen : (lg_sl av).length ≤ nL) (body : ∀ C : zC, C.1.2.1 = l → zF C D { frames := fr, cells := 0, slots := 0, locals := lo } cc nL Tc y.cls (some .int) cyI cyB → zRi C D cc nL wf post → zX C D nL 0 0 wc 0 (lv_args 0 av) []) : zMi l y Tc fr lo D cyI cyB av wc wf post := by
  intro sz
  refine z_ofW (cc := cc) (nL := nL) (rt := (some .int)) hy hw ?_
  intro p e s m args below meth c s₁ B hml hv
  obtain ⟨rfl, hsz, hP, hK, hN, hD0⟩ := hv
  subst hsz
  have hX := body ((p, l, e, { frames := fr, cells := 0, slots := 0, locals := lo }), (s, m, av.toArray), (below, meth, c), (MQ below (va_Qi post (zB D wc wf s.heap.size) (va_A wc s.heap.size)) av.toArray s 0 0 (va_A wc s.heap.size)), (va_A wc s.heap.size)) rfl ⟨⟨B.exec, B.bytes, hml, findClass_of_methodNamed B.named, atoms_spec (ws := Tc) B.pre⟩, hK, hN, fun q h => Or.inr h, B.returns, B.notSynchronized, rfl⟩ (fun pc lv r u d hp => fun H locs ls hP hD hS hl => W.iret B.exec B.bytes B.returns (fun t ht hW => ⟨⟨r, u, rfl, hp, by rw [ht]; exact hP, hD⟩, hS.F ht⟩) hS.2.2 d B.notSynchronized)
  rw [lg_entry_eq]
  exact hX s.heap [] _ hP (hD0.self (sz := s.heap.size)) va_S.rf (lv_entry av hlen)
def zb (b : Bool) : Int32 := if b then 1 else 0
theorem zb_nar (b : Bool) : narrow .boolean (.int (zb b)) = .int (zb b) := by cases b <;> rfl
def zRz (C : zC) (D : va_G) (cc : ByteArray) (nL : Nat) {S : Type} (wf : S → va_W) (post : Int32 → S → Prop) : Prop := ∀ (pc : Nat) (lv : List (Nat × Value)) (b : Bool) (u : S), decode cc pc = .ok (.ireturn, 1) → post (zb b) u → zX C D nL 0 0 (wf u) pc lv [.int (zb b)]
theorem z_metz {l : Launch} {y : MethodName} {Tc : List Cond} {fr lo : Nat} {D : va_G} {cyI cyB : ClassId} {av : List Value} {wc : va_W} {S : Type} {wf : S → va_W} {post : Int32 → S → Prop} {cc : ByteArray} {nL : Nat} {Tc' : List Cond} (hy : plainFor y = true) (hw : Tc = Cond.code y cc nL (some .boolean) :: Tc') (hlen : (lg_sl av).length ≤ nL) (body : ∀ C : zC, C.1.2.1 = l → zF C D { frames := fr, cells := 0, slots := 0, locals := lo } cc nL Tc y.cls (some .boolean) cyI cyB → zRz C D cc nL wf post → zX C D nL 0 0 wc 0 (lv_args 0 av) []) : zMi l y Tc fr lo D cyI cyB av wc wf post := by
  intro sz
  refine z_ofW (cc := cc) (nL := nL) (rt := (some .boolean)) hy hw ?_
  intro p e s m args below meth c s₁ B hml hv
  obtain ⟨rfl, hsz, hP, hK, hN, hD0⟩ := hv
  subst hsz
  have hX := body ((p, l, e, { frames := fr, cells := 0, slots := 0, locals := lo }), (s, m, av.toArray), (below, meth, c), (MQ below (va_Qi post (zB D wc wf s.heap.size) (va_A wc s.heap.size)) av.toArray s 0 0 (va_A wc s.heap.size)), (va_A wc s.heap.size)) rfl ⟨⟨B.exec, B.bytes, hml, findClass_of_methodNamed B.named, atoms_spec (ws := Tc) B.pre⟩, hK, hN, fun q h => Or.inr h, B.returns, B.notSynchronized, rfl⟩ (fun pc lv b u d hp => fun H locs ls hP hD hS hl => W.zret B.exec B.bytes B.returns (zb_nar b) (fun t ht hW => ⟨⟨zb b, u, rfl, hp, by rw [ht]; exact hP, hD⟩, hS.F ht⟩) hS.2.2 d B.notSynchronized)
  rw [lg_entry_eq]
  exact hX s.heap [] _ hP (hD0.self (sz := s.heap.size)) va_S.rf (lv_entry av hlen)
def zRl (C : zC) (D : va_G) (cc : ByteArray) (nL : Nat) {S : Type} (wf : S → va_W) (post : Int64 → S → Prop) : Prop := ∀ (pc : Nat) (lv : List (Nat × Value)) (r : Int64) (u : S), decode cc pc = .ok (.lreturn, 1) → post r u → zX C D nL 0 0 (wf u) pc lv [.long r]
theorem z_metl {l : Launch} {y : MethodName} {Tc : List Cond} {fr lo : Nat} {D : va_G} {cyI cyB : ClassId} {av : List Value} {wc : va_W} {S : Type} {wf : S → va_W} {post : Int64 → S → Prop} {cc : ByteArray} {nL : Nat} {Tc' : List Cond} (hy : plainFor y = true) (hw : Tc = Cond.code y cc nL (some .long) :: Tc') (hlen : (lg_sl av).length ≤ nL) (body : ∀ C : zC, C.1.2.1 = l → zF C D { frames := fr, cells := 0, slots := 0, locals := lo } cc nL Tc y.cls (some .long) cyI cyB → zRl C D cc nL wf post → zX C D nL 0 0 wc 0 (lv_args 0 av) []) : zMl l y Tc fr lo D cyI cyB av wc wf post := by
  intro sz
  refine z_ofW (cc := cc) (nL := nL) (rt := (some .long)) hy hw ?_
  intro p e s m args below meth c s₁ B hml hv
  obtain ⟨rfl, hsz, hP, hK, hN, hD0⟩ := hv
  subst hsz
  have hX := body ((p, l, e, { frames := fr, cells := 0, slots := 0, locals := lo }), (s, m, av.toArray), (below, meth, c), (MQ below (va_Ql post (zB D wc wf s.heap.size) (va_A wc s.heap.size)) av.toArray s 0 0 (va_A wc s.heap.size)), (va_A wc s.heap.size)) rfl ⟨⟨B.exec, B.bytes, hml, findClass_of_methodNamed B.named, atoms_spec (ws := Tc) B.pre⟩, hK, hN, fun q h => Or.inr h, B.returns, B.notSynchronized, rfl⟩ (fun pc lv r u d hp => fun H locs ls hP hD hS hl => W.lret B.exec B.bytes B.returns (fun t ht hW => ⟨⟨r, u, rfl, hp, by rw [ht]; exact hP, hD⟩, hS.F ht⟩) hS.2.2 d B.notSynchronized)
  rw [lg_entry_eq]
  exact hX s.heap [] _ hP (hD0.self (sz := s.heap.size)) va_S.rf (lv_entry av hlen)
def zRv (C : zC) (D : va_G) (cc : ByteArray) (nL : Nat) {S : Type} (wf : S → va_W) (post : S → Prop) : Prop := ∀ (pc : Nat) (lv : List (Nat × Value)) (u : S), decode cc pc = .ok (.return_, 1) → post u → zX C D nL 0 0 (wf u) pc lv []
theorem z_metv {l : Launch} {y : MethodName} {Tc : List Cond} {fr lo : Nat} {D : va_G} {cyI cyB : ClassId} {av : List Value} {wc : va_W} {S : Type} {wf : S → va_W} {post : S → Prop} {cc : ByteArray} {nL : Nat} {Tc' : List Cond} (hy : plainFor y = true) (hw : Tc = Cond.code y cc nL none :: Tc') (hlen : (lg_sl av).length ≤ nL) (body : ∀ C : zC, C.1.2.1 = l → zF C D { frames := fr, cells := 0, slots := 0, locals := lo } cc nL Tc y.cls none cyI cyB → zRv C D cc nL wf post → zX C D nL 0 0 wc 0 (lv_args 0 av) []) : zMv l y Tc fr lo D cyI cyB av wc wf post := by
  intro sz
  refine z_ofW (cc := cc) (nL := nL) (rt := none) hy hw ?_
  intro p e s m args below meth c s₁ B hml hv
  obtain ⟨rfl, hsz, hP, hK, hN, hD0⟩ := hv
  subst hsz
  have hX := body ((p, l, e, { frames := fr, cells := 0, slots := 0, locals := lo }), (s, m, av.toArray), (below, meth, c), (MQ below (va_Qv post (zB D wc wf s.heap.size) (va_A wc s.heap.size)) av.toArray s 0 0 (va_A wc s.heap.size)), (va_A wc s.heap.size)) rfl ⟨⟨B.exec, B.bytes, hml, findClass_of_methodNamed B.named, atoms_spec (ws := Tc) B.pre⟩, hK, hN, fun q h => Or.inr h, B.returns, B.notSynchronized, rfl⟩ (fun pc lv u d hp => fun H locs ls hP hD hS hl => W.vret B.exec B.bytes B.returns (fun t ht hW => ⟨⟨u, rfl, hp, by rw [ht]; exact hP, hD⟩, hS.F ht⟩) hS.2.2 d B.notSynchronized)
  rw [lg_entry_eq]
  exact hX s.heap [] _ hP (hD0.self (sz := s.heap.size)) va_S.rf (lv_entry av hlen)
