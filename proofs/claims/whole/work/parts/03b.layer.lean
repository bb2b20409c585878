section
variable {C : zC} {D : va_G} {R : Room} {cc : ByteArray} {nL k n : Nat} {Ts : List Cond} {own : String} {ret : Option FieldType} {cyI cyB : ClassId} {ws : va_W} {pc : Nat} {lv : List (Nat × Value)} {st : List Value}
theorem zb0 {b : Bool} : zb b = 0 ↔ b = false := by cases b <;> decide
theorem zbn0 {b : Bool} : ¬ zb b = 0 ↔ b = true := by cases b <;> decide
theorem z_ifeqB (F : zF C D R cc nL Ts own ret cyI cyB) {b : Bool} {off : Int} (d : decode cc pc = .ok (.ifCond .eq off, 3)) (tgt : Nat) (ht : (pc : Int) + off = (tgt : Int)) (pc' : Nat) (e : pc + 3 = pc') (gt : b = false → zX C D nL k n ws tgt lv st) (gf : b = true → zX C D nL k n ws pc' lv st) : zX C D nL k n ws pc lv (.int (zb b) :: st) :=
  z_ifeq F d tgt ht pc' e (fun c => gt (zb0.mp c)) (fun c => gf (zbn0.mp c))
theorem z_ifneB (F : zF C D R cc nL Ts own ret cyI cyB) {b : Bool} {off : Int} (d : decode cc pc = .ok (.ifCond .ne off, 3)) (tgt : Nat) (ht : (pc : Int) + off = (tgt : Int)) (pc' : Nat) (e : pc + 3 = pc') (gt : b = true → zX C D nL k n ws tgt lv st) (gf : b = false → zX C D nL k n ws pc' lv st) : zX C D nL k n ws pc lv (.int (zb b) :: st) :=
  z_ifne F d tgt ht pc' e (fun c => gt (zbn0.mp c)) (fun c => gf (zb0.mp c))
theorem z_ifnonnull (F : zF C D R cc nL Ts own ret cyI cyB) {a : Nat} {off : Int} (d : decode cc pc = .ok (.ifnonnull off, 3)) (tgt : Nat) (ht : (pc : Int) + off = (tgt : Int)) (g : zX C D nL k n ws tgt lv st) : zX C D nL k n ws pc lv (.ref a :: st) :=
  fun H locs ls hP hD hS hl => lv_ifnonnull F.1.1 F.1.2.1 d ht (g H locs ls hP hD hS hl)
theorem z_ifnonnullN (F : zF C D R cc nL Ts own ret cyI cyB) {off : Int} (d : decode cc pc = .ok (.ifnonnull off, 3)) (pc' : Nat) (e : pc + 3 = pc') (g : zX C D nL k n ws pc' lv st) : zX C D nL k n ws pc lv (.null :: st) := by
  subst e; exact fun H locs ls hP hD hS hl => lv_ifnonnullN F.1.1 F.1.2.1 d (g H locs ls hP hD hS hl)
theorem z_tab (F : zF C D R cc nL Ts own ret cyI cyB) {dflt lo hi : Int} {offs : Array Int} {len : Nat} {x : Int32} {off : Int} (d : decode cc pc = .ok (.tableswitch dflt lo hi offs, len)) (tgt : Nat) (h1 : ¬ x.toInt < lo) (h2 : ¬ hi < x.toInt) (ho : offs[(x.toInt - lo).toNat]? = some off) (ht : (pc : Int) + off = (tgt : Int)) (g : zX C D nL k n ws tgt lv st) : zX C D nL k n ws pc lv (.int x :: st) :=
  fun H locs ls hP hD hS hl => lv_tableIn F.1.1 F.1.2.1 d h1 h2 ho ht (g H locs ls hP hD hS hl)
theorem z_tabD (F : zF C D R cc nL Ts own ret cyI cyB) {dflt lo hi : Int} {offs : Array Int} {len : Nat} {x : Int32} (d : decode cc pc = .ok (.tableswitch dflt lo hi offs, len)) (tgt : Nat) (h : x.toInt < lo ∨ hi < x.toInt) (ht : (pc : Int) + dflt = (tgt : Int)) (g : zX C D nL k n ws tgt lv st) : zX C D nL k n ws pc lv (.int x :: st) :=
  fun H locs ls hP hD hS hl => lv_tableOut F.1.1 F.1.2.1 d h ht (g H locs ls hP hD hS hl)
theorem z_look (F : zF C D R cc nL Ts own ret cyI cyB) {dflt : Int} {ps : Array (Int × Int)} {len : Nat} {x : Int32} {off : Int} (d : decode cc pc = .ok (.lookupswitch dflt ps, len)) (tgt : Nat) (hp : (ps.toList.zip (ps.toList.drop 1)).all (fun (a, next) => a.1 < next.1) = true) (ho : Op.lookupswitch.offset ps.toList dflt x.toInt = off) (ht : (pc : Int) + off = (tgt : Int)) (g : zX C D nL k n ws tgt lv st) : zX C D nL k n ws pc lv (.int x :: st) :=
  fun H locs ls hP hD hS hl => lv_lookup F.1.1 F.1.2.1 d hp ho ht (g H locs ls hP hD hS hl)
theorem z_min (F : zF C D R cc nL Ts own ret cyI cyB) {index : Nat} {x y : Int32} (d : decode cc pc = .ok (.invokestatic index, 3)) (pc' : Nat) (e : pc + 3 = pc') (hl1 : Cond.methodLink own index Lib.Math.min.name ∈ Ts) (hl2 : Cond.static Lib.Math.min.name ∈ Ts) (hl3 : Cond.initialized "java/lang/Math" ∈ Ts) (hl4 : Cond.code Lib.Math.min.name Lib.Math.min.code 2 (some .int) ∈ Ts) (hf : 1 ≤ R.frames) (hlo : (st.map fun v => v.category).sum + 13 ≤ R.locals) (hk : k ≤ R.cells ∧ n ≤ R.slots) (g : zX C D nL k n ws pc' lv (.int (if y < x then y else x) :: st)) : zX C D nL k n ws pc lv (.int y :: .int x :: st) := by
  subst e
  obtain ⟨F1, hK, hN, hA, -, -, rfl⟩ := F
  exact fun H locs ls hP hD hS hl => va_mmin F1.1 F1.2.1 (by rw [hl.1]; exact F1.2.2.1) F1.2.2.2.1 (F1.2.2.2.2 _ hl1) (F1.2.2.2.2 _ hl2) (F1.2.2.2.2 _ hl3) (F1.2.2.2.2 _ hl4) hf hlo hk.1 hk.2 d (g H locs ls hP hD hS hl)
theorem z_copy (F : zF C D R cc nL Ts own ret cyI cyB) {index a0 a1 len0 len1 N : Nat} {f f1 : Nat → Int32} {x : Int32} (d : decode cc pc = .ok (.invokestatic index, 3)) (pc' : Nat) (e : pc + 3 = pc') (hl1 : Cond.methodLink own index arraycopyName ∈ Ts) (hl2 : Cond.native arraycopyName ∈ Ts) (hl3 : Cond.static arraycopyName ∈ Ts) (hl4 : Cond.initialized "java/lang/System" ∈ Ts) (q0 q1 : Nat) (he0 : ws[q0]? = some (a0, .inl (cyI, len0, .inl f))) (he1 : ws[q1]? = some (a1, .inl (cyI, len1, .inl f1))) (hx : ¬ x < 0) (hN : x.toNatClampNeg = N) (h4 : N ≤ len0) (h5 : N ≤ len1) (hf : 1 ≤ R.frames) (hlo : (st.map fun v => v.category).sum + (nativeFrameWords "java/lang/System" "arraycopy" 5 + 11) ≤ R.locals) (ws' : va_W) (hw : ws.set q1 (a1, .inl (cyI, len1, .inl (va_cpy f f1 0 0 N))) = ws') (g : zX C D nL k n ws' pc' lv st) : zX C D nL k n ws pc lv (.int x :: .int 0 :: .ref a1 :: .int 0 :: .ref a0 :: st) := by
  subst e; subst hw; subst hN
  obtain ⟨F1, hK, hN, hA, -, -, rfl⟩ := F
  exact fun H locs ls hP hD hS hl => va_copyi F1.1 F1.2.1 (by rw [hl.1]; exact F1.2.2.1) F1.2.2.2.1 (F1.2.2.2.2 _ hl1) (F1.2.2.2.2 _ hl2) (F1.2.2.2.2 _ hl3) (F1.2.2.2.2 _ hl4) hK hP hD hS q0 q1 0 0 (ty := .int) he0 he1 rfl rfl rfl (by decide) (by decide) hx (by rw [sb_cl0, Nat.zero_add]; exact h4) (by rw [sb_cl0, Nat.zero_add]; exact h5) (fun i _ => rfl) hf hlo d (fun H1 locs1 hP1 hD1 hS1 => g H1 locs1 ls hP1 hD1 hS1 hl)
end
theorem z_toInt {x : Int32} {m : Nat} (hm : m < 2 ^ 31) (h : ¬ x = nI m) : ¬ x.toInt = (m : Int) := fun e => h (Int32.toInt_inj.mp (by rw [e, nI_toInt hm]))
theorem z_out3 {x : Int32} (h0 : ¬ x = 0) (h1 : ¬ x = 1) (h2 : ¬ x = 2) : x.toInt < 0 ∨ 2 < x.toInt := by
  have a0 := z_toInt (m := 0) (by decide) h0
  have a1 := z_toInt (m := 1) (by decide) h1
  have a2 := z_toInt (m := 2) (by decide) h2
  omega
theorem z_out9 {x : Int32} (h0 : ¬ x = 0) (h1 : ¬ x = 1) (h2 : ¬ x = 2) (h3 : ¬ x = 3) (h4 : ¬ x = 4) (h5 : ¬ x = 5) (h6 : ¬ x = 6) (h7 : ¬ x = 7) (h8 : ¬ x = 8) : x.toInt < 0 ∨ 8 < x.toInt := by
  have a0 := z_toInt (m := 0) (by decide) h0
  have a1 := z_toInt (m := 1) (by decide) h1
  have a2 := z_toInt (m := 2) (by decide) h2
  have a3 := z_toInt (m := 3) (by decide) h3
  have a4 := z_toInt (m := 4) (by decide) h4
  have a5 := z_toInt (m := 5) (by decide) h5
  have a6 := z_toInt (m := 6) (by decide) h6
  have a7 := z_toInt (m := 7) (by decide) h7
  have a8 := z_toInt (m := 8) (by decide) h8
  omega
theorem z_lk4 {x : Int32} {o1 o2 o3 o4 df : Int} (h1 : ¬ x = 103) (h2 : ¬ x = 104) (h3 : ¬ x = 115) (h4 : ¬ x = 116) : Op.lookupswitch.offset [(103, o1), (104, o2), (115, o3), (116, o4)] df x.toInt = df := by
  have a1 := z_toInt (m := 103) (by decide) h1
  have a2 := z_toInt (m := 104) (by decide) h2
  have a3 := z_toInt (m := 115) (by decide) h3
  have a4 := z_toInt (m := 116) (by decide) h4
  rw [Op.lookupswitch.offset_cons, if_neg (fun h => a1 h.symm), Op.lookupswitch.offset_cons, if_neg (fun h => a2 h.symm), Op.lookupswitch.offset_cons, if_neg (fun h => a3 h.symm), Op.lookupswitch.offset_cons, if_neg (fun h => a4 h.symm), Op.lookupswitch.offset_nil]
