/-! making cells: constructors -/
def zMc (l : Launch) (y : MethodName) (Tc : List Cond) (fr lo mc ms : Nat) (D : va_G) (cyI cyB : ClassId) (av : List Value) (wc : va_W) {S : Type} (wf : S → va_W) (post : S → Prop) : Prop :=
  ∀ sz : Nat, Met l y Tc { frames := fr, cells := mc, slots := ms, locals := lo } (zPc D cyI cyB av wc sz) (va_Qv post (zB D wc wf sz) (va_A wc sz)) mc ms (va_A wc sz)
def zMci (l : Launch) (y : MethodName) (Tc : List Cond) (fr lo mc ms : Nat) (D : va_G) (cyI cyB : ClassId) (av : List Value) (wc : va_W) {S : Type} (wf : S → va_W) (post : Int32 → S → Prop) : Prop :=
  ∀ sz : Nat, Met l y Tc { frames := fr, cells := mc, slots := ms, locals := lo } (zPc D cyI cyB av wc sz) (va_Qi post (zB D wc wf sz) (va_A wc sz)) mc ms (va_A wc sz)
def zRc (C : zC) (D : va_G) (cc : ByteArray) (nL mc ms : Nat) {S : Type} (wf : S → va_W) (post : S → Prop) : Prop := ∀ (pc : Nat) (lv : List (Nat × Value)) (u : S), decode cc pc = .ok (.return_, 1) → post u → zX C D nL mc ms (wf u) pc lv []
def zRci (C : zC) (D : va_G) (cc : ByteArray) (nL mc ms : Nat) {S : Type} (wf : S → va_W) (post : Int32 → S → Prop) : Prop := ∀ (pc : Nat) (lv : List (Nat × Value)) (r : Int32) (u : S), decode cc pc = .ok (.ireturn, 1) → post r u → zX C D nL mc ms (wf u) pc lv [.int r]
theorem z_metc {l : Launch} {y : MethodName} {Tc : List Cond} {fr lo mc ms : Nat} {D : va_G} {cyI cyB : ClassId} {av : List Value} {wc : va_W} {S : Type} {wf : S → va_W} {post : S → Prop} {cc : ByteArray} {nL : Nat} {Tc' : List Cond} (hy : plainFor y = true) (hw : Tc = Cond.code y cc nL none :: Tc') (hlen : (lg_sl av).length ≤ nL) (body : ∀ C : zC, C.1.2.1 = l → C.2.2.1.2.1.name = y.name → zF C D { frames := fr, cells := mc, slots := ms, locals := lo } cc nL Tc y.cls none cyI cyB → zRc C D cc nL mc ms wf post → zX C D nL 0 0 wc 0 (lv_args 0 av) []) : zMc l y Tc fr lo mc ms D cyI cyB av wc wf post := by
  intro sz
  refine z_ofW (cc := cc) (nL := nL) (rt := none) hy hw ?_
  intro p e s m args below meth c s₁ B hml hv
  obtain ⟨rfl, hsz, hP, hK, hN, hD0⟩ := hv
  subst hsz
  have hX := body ((p, l, e, { frames := fr, cells := mc, slots := ms, locals := lo }), (s, m, av.toArray), (below, meth, c), (MQ below (va_Qv post (zB D wc wf s.heap.size) (va_A wc s.heap.size)) av.toArray s mc ms (va_A wc s.heap.size)), (va_A wc s.heap.size)) rfl (name_of_methodNamed B.named B.method).1 ⟨⟨B.exec, B.bytes, hml, findClass_of_methodNamed B.named, atoms_spec (ws := Tc) B.pre⟩, hK, hN, fun q h => Or.inr h, B.returns, B.notSynchronized, rfl⟩ (fun pc lv u d hp => fun H locs ls hP hD hS hl => W.vret B.exec B.bytes B.returns (fun t ht hW => ⟨⟨u, rfl, hp, by rw [ht]; exact hP, hD⟩, hS.F ht⟩) hS.2.2 d B.notSynchronized)
  rw [lg_entry_eq]
  exact hX s.heap [] _ hP (hD0.self (sz := s.heap.size)) va_S.rf (lv_entry av hlen)
theorem z_metci {l : Launch} {y : MethodName} {Tc : List Cond} {fr lo mc ms : Nat} {D : va_G} {cyI cyB : ClassId} {av : List Value} {wc : va_W} {S : Type} {wf : S → va_W} {post : Int32 → S → Prop} {cc : ByteArray} {nL : Nat} {Tc' : List Cond} (hy : plainFor y = true) (hw : Tc = Cond.code y cc nL (some .int) :: Tc') (hlen : (lg_sl av).length ≤ nL) (body : ∀ C : zC, C.1.2.1 = l → zF C D { frames := fr, cells := mc, slots := ms, locals := lo } cc nL Tc y.cls (some .int) cyI cyB → zRci C D cc nL mc ms wf post → zX C D nL 0 0 wc 0 (lv_args 0 av) []) : zMci l y Tc fr lo mc ms D cyI cyB av wc wf post := by
  intro sz
  refine z_ofW (cc := cc) (nL := nL) (rt := (some .int)) hy hw ?_
  intro p e s m args below meth c s₁ B hml hv
  obtain ⟨rfl, hsz, hP, hK, hN, hD0⟩ := hv
  subst hsz
  have hX := body ((p, l, e, { frames := fr, cells := mc, slots := ms, locals := lo }), (s, m, av.toArray), (below, meth, c), (MQ below (va_Qi post (zB D wc wf s.heap.size) (va_A wc s.heap.size)) av.toArray s mc ms (va_A wc s.heap.size)), (va_A wc s.heap.size)) rfl ⟨⟨B.exec, B.bytes, hml, findClass_of_methodNamed B.named, atoms_spec (ws := Tc) B.pre⟩, hK, hN, fun q h => Or.inr h, B.returns, B.notSynchronized, rfl⟩ (fun pc lv r u d hp => fun H locs ls hP hD hS hl => W.iret B.exec B.bytes B.returns (fun t ht hW => ⟨⟨r, u, rfl, hp, by rw [ht]; exact hP, hD⟩, hS.F ht⟩) hS.2.2 d B.notSynchronized)
  rw [lg_entry_eq]
  exact hX s.heap [] _ hP (hD0.self (sz := s.heap.size)) va_S.rf (lv_entry av hlen)
/-- a class that can be made, and the fields of a new one -/
def zKn (Ts : List Cond) (ci N : Nat) (Cn : String) (fs : List Value) : Prop := ∃ (T : u_T) (ty : Nat → FieldType), vwCl[ci]? = some (Cn, T, N) ∧ (∀ w ∈ u_ws Cn T N, w ∈ Ts) ∧ (∀ k, k < N → parseFieldDescriptor (T k).2.2.1 = some (ty k)) ∧ ∀ j, j < N → defaultValue (ty j) = vp_V fs j
section
variable {C : zC} {D : va_G} {R : Room} {cc : ByteArray} {nL k n : Nat} {Ts : List Cond} {own : String} {ret : Option FieldType} {cyI cyB : ClassId} {ws : va_W} {pc : Nat} {lv : List (Nat × Value)} {st : List Value}
/-- the world in another order -/
theorem z_ws (ws' : va_W) (is : List Nat) (hn : va_nd is = true) (hs : is.map (fun i => ws[i]?) = ws'.map some) (g : zX C D nL k n ws' pc lv st) : zX C D nL k n ws pc lv st := fun H locs ls hP hD hS hl => g H locs ls (z_subP hP is hs) (hD.sub is hn hs) hS hl
theorem z_widen {k' n' : Nat} (hk : k ≤ k') (hn : n ≤ n') (g : zX C D nL k' n' ws pc lv st) : zX C D nL k n ws pc lv st := fun H locs ls hP hD hS hl => W.widen hk hn (g H locs ls hP hD hS hl)
theorem z_new (F : zF C D R cc nL Ts own ret cyI cyB) {index ci N : Nat} {Cn : String} {fs : List Value} (d : decode cc pc = .ok (.new index, 3)) (pc' : Nat) (e : pc + 3 = pc') (hKn : zKn Ts ci N Cn fs) (hl1 : Cond.classLink own index Cn ∈ Ts) (hl2 : Cond.instantiable Cn N ∈ Ts) (hl3 : Cond.initialized Cn ∈ Ts) (hk : k + 1 ≤ R.cells) (hn : n + N ≤ R.slots) (g : ∀ q : Nat, zX C D nL (k + 1) (n + N) (ws ++ [(q, .inr (ci, fs))]) pc' lv (.ref q :: st)) : zX C D nL k n ws pc lv st := by
  subst e
  obtain ⟨T, ty, h1, h2, h3, h4⟩ := hKn
  obtain ⟨F1, hK, hN, hA, -, -, rfl⟩ := F
  exact fun H locs ls hP hD hS hl => va_new F1.1 F1.2.1 F1.2.2.2.2 h2 ty h3 F1.2.2.2.1 (F1.2.2.2.2 _ hl1) (F1.2.2.2.2 _ hl2) (F1.2.2.2.2 _ hl3) hK hP hD hS hA h1 h4 hk hn d (fun q H1 hP1 hD1 hS1 => g q H1 locs ls hP1 hD1 hS1 hl)
theorem z_newi (F : zF C D R cc nL Ts own ret cyI cyB) {x : Int32} {N : Nat} (d : decode cc pc = .ok (.newarray .int, 2)) (pc' : Nat) (e : pc + 2 = pc') (hl1 : Cond.arrayClass .int ∈ Ts) (hx : ¬ x < 0) (hN : x.toNatClampNeg = N) (hb : N * componentBytes .int ≤ 536870912) (hk : k + 1 ≤ R.cells) (hn : n + N ≤ R.slots) (g : ∀ q : Nat, zX C D nL (k + 1) (n + N) (ws ++ [(q, .inl (cyI, N, .inl (fun _ => 0)))]) pc' lv (.ref q :: st)) : zX C D nL k n ws pc lv (.int x :: st) := by
  subst e
  obtain ⟨F1, hK, hN0, hA, -, -, rfl⟩ := F
  refine fun H locs ls hP hD hS hl => va_newa (atype := .int) F1.1 F1.2.1 (F1.2.2.2.2 _ hl1) (ty := .int) rfl hK hP hD hS hA (a0 := (N, .inl (fun _ => 0))) (fun _ => rfl) hx hN hb hk hn d (fun q cA H1 hK1 hP1 hD1 hS1 => ?_)
  have e1 : C.2.1.1.vm.findClass _ = some cA := (hK1.2 2 (cA, .int) rfl).2
  have e2 : C.2.1.1.vm.findClass _ = some cyI := (hK.2 0 (cyI, .int) rfl).2
  have e3 : cA = cyI := Option.some.inj (e1.symm.trans e2)
  subst e3
  exact g q H1 locs ls hP1 hD1 hS1 hl
theorem z_newb (F : zF C D R cc nL Ts own ret cyI cyB) {x : Int32} {N : Nat} (d : decode cc pc = .ok (.newarray .byte, 2)) (pc' : Nat) (e : pc + 2 = pc') (hl1 : Cond.arrayClass .byte ∈ Ts) (hx : ¬ x < 0) (hN : x.toNatClampNeg = N) (hb : N * componentBytes .byte ≤ 536870912) (hk : k + 1 ≤ R.cells) (hn : n + N ≤ R.slots) (g : ∀ q : Nat, zX C D nL (k + 1) (n + N) (ws ++ [(q, .inl (cyB, N, .inl (fun _ => 0)))]) pc' lv (.ref q :: st)) : zX C D nL k n ws pc lv (.int x :: st) := by
  subst e
  obtain ⟨F1, hK, hN0, hA, -, -, rfl⟩ := F
  refine fun H locs ls hP hD hS hl => va_newa (atype := .byte) F1.1 F1.2.1 (F1.2.2.2.2 _ hl1) (ty := .byte) rfl hK hP hD hS hA (a0 := (N, .inl (fun _ => 0))) (fun _ => rfl) hx hN hb hk hn d (fun q cA H1 hK1 hP1 hD1 hS1 => ?_)
  have e1 : C.2.1.1.vm.findClass _ = some cA := (hK1.2 2 (cA, .byte) rfl).2
  have e2 : C.2.1.1.vm.findClass _ = some cyB := (hK.2 1 (cyB, .byte) rfl).2
  have e3 : cA = cyB := Option.some.inj (e1.symm.trans e2)
  subst e3
  exact g q H1 locs ls hP1 hD1 hS1 hl
theorem z_obj (F : zF C D R cc nL Ts own ret cyI cyB) {index a : Nat} (d : decode cc pc = .ok (.invokespecial index, 3)) (pc' : Nat) (e : pc + 3 = pc') (hl1 : Cond.methodLink own index objectInit ∈ Ts) (hl2 : Cond.instanceMethod objectInit ∈ Ts) (hl3 : Cond.code objectInit ⟨#[0xb1]⟩ 1 none ∈ Ts) (hf : 1 ≤ R.frames) (hlo : (st.map fun v => v.category).sum + 12 ≤ R.locals) (g : zX C D nL k n ws pc' lv st) : zX C D nL k n ws pc lv (.ref a :: st) := by
  subst e
  obtain ⟨F1, hK, hN0, hA, -, -, rfl⟩ := F
  exact fun H locs ls hP hD hS hl => W.objInit F1.1 F1.2.1 F1.2.2.2.1 (F1.2.2.2.2 _ hl1) (F1.2.2.2.2 _ hl2) (F1.2.2.2.2 _ hl3) rfl (by rw [F1.2.2.1]; exact hl.1) rfl d hf (by show 2 * 0 + _ + 12 ≤ _; omega) (g H locs ls hP hD hS hl)
theorem z_rg_lt : ∀ (n a x : Nat), x ∈ z_rg a n → x < a + n
  | 0, a, x, h => by simp [z_rg] at h
  | n + 1, a, x, h => by
    simp only [z_rg, List.mem_cons] at h
    rcases h with h | h
    · omega
    · have := z_rg_lt n (a + 1) x h; omega
/-- behind a call that makes cells: A's cells stay -/
theorem z_made {A0 : Nat → Prop} {D : va_G} {A wc w1 : va_W} {H H1 : Heap} (hP : va_P D vwCl (A ++ wc) H) (hD : va_D A0 (A ++ wc)) (hk : ∀ q : Nat, q < H.size → ¬ va_A wc H.size q → H1[q]? = H[q]?) (hF : ∀ q, va_A wc H.size q → A0 q) (hP1 : va_P D vwCl w1 H1) (hD1 : va_D (va_A wc H.size) w1) : va_P D vwCl (A ++ w1) H1 ∧ va_D A0 (A ++ w1) := by
  have hC : (z_rg A.length wc.length).map (fun i => (A ++ wc)[i]?) = wc.map some := by
    have := z_rg_map wc A []
    rwa [List.append_nil] at this
  have hR : (z_rg 0 A.length).map (fun i => (A ++ wc)[i]?) = A.map some := z_rg_map A [] wc
  exact va_join hP hD (z_rg A.length wc.length) (z_rg 0 A.length) hC hR (z_rg_nd _ _) (fun i h1 h2 => by
    have a1 := z_rg_lt _ _ _ h1
    have a2 := z_rg_mem _ _ _ h2
    omega) hk hF hP1 hD1
theorem z_ctorN (F : zF C D R cc nL Ts own ret cyI cyB) {index fr lo mc ms maxL na : Nat} {b : Addr} {y : MethodName} {Tc : List Cond} {bytes : ByteArray} {As : List Value} {A wc : va_W} {S : Type} {wf : S → va_W} {post : S → Prop} (d : decode cc pc = .ok (.invokespecial index, 3)) (pc' : Nat) (e : pc + 3 = pc') (hM : zMc C.1.2.1 y Tc fr lo mc ms D cyI cyB (.ref b :: As) wc wf post) (hY : zY y Tc bytes maxL none na) (hna : As.length = na) (hy1 : y.name = "<init>") (hG : GoodIn Ts Tc) {host : String} (hl0 : va_Nw (.methodLinkNest own index y host) C.2.1.1) (hini : Cond.initialized y.cls ∈ Ts) (hins : Cond.instanceMethod y ∈ Ts) (hR : fr + 1 ≤ R.frames ∧ 8 + (maxL + 11) + lo ≤ R.locals) (hk : k + mc ≤ R.cells ∧ n + ms ≤ R.slots) (hst : (st.map fun v => v.category).sum ≤ 8) (hws : ws = A ++ wc) (g : ∀ u : S, post u → zX C D nL (k + mc) (n + ms) (A ++ wf u) pc' lv st) : zX C D nL k n ws pc lv (As.reverse ++ .ref b :: st) := by
  subst e; subst hws
  obtain ⟨⟨Tc', hTc⟩, hd⟩ := hY
  obtain ⟨F1, hK, hN, hA, -, -, rfl⟩ := F
  subst hna
  intro H locs ls hP hD hS hl
  have hC : (z_rg A.length wc.length).map (fun i => (A ++ wc)[i]?) = wc.map some := by
    have := z_rg_map wc A []
    rwa [List.append_nil] at this
  have hPc := z_subP hP _ hC
  have hDc := z_subD hD _ (z_rg_nd _ _) hC
  have hFc := va_free (wc := wc) hD hS hA _ hC
  refine va_callv (va_runIN (As := As) (rest := st) F1 (hM H.size) ⟨va_cnB As.length F1.2.2.2.2 hG hTc rfl rfl hl0 (F1.2.2.2.2 _ hini) hd hR, hy1, F1.2.2.2.2 _ hins⟩ ⟨zPc_blind D cyI cyB _ wc H.size, z_pre hK hN hPc hDc⟩ rfl rfl hl.1 rfl (lv_room hst) d hk) hS (fun q _ h => hFc q h) hFc (fun u t H1 locs1 ht hvm hw hB hz1 hk1 hS1 => ?_)
  obtain ⟨hP1, hD1⟩ := hB
  rw [ht] at hP1
  have hb := z_made hP hD hk1 hFc hP1 hD1
  exact g u hw H1 locs1 ls hb.1 hb.2 hS1 hl
theorem z_ctor (F : zF C D R cc nL Ts own ret cyI cyB) {index fr lo mc ms maxL na : Nat} {b : Addr} {y : MethodName} {Tc : List Cond} {bytes : ByteArray} {As : List Value} {A wc : va_W} {S : Type} {wf : S → va_W} {post : S → Prop} (d : decode cc pc = .ok (.invokespecial index, 3)) (pc' : Nat) (e : pc + 3 = pc') (hM : zMc C.1.2.1 y Tc fr lo mc ms D cyI cyB (.ref b :: As) wc wf post) (hY : zY y Tc bytes maxL none na) (hna : As.length = na) (hy1 : y.name = "<init>") (hG : GoodIn Ts Tc) (hl0 : Cond.methodLink own index y ∈ Ts) (hini : Cond.initialized y.cls ∈ Ts) (hins : Cond.instanceMethod y ∈ Ts) (hR : fr + 1 ≤ R.frames ∧ 8 + (maxL + 11) + lo ≤ R.locals) (hk : k + mc ≤ R.cells ∧ n + ms ≤ R.slots) (hst : (st.map fun v => v.category).sum ≤ 8) (hws : ws = A ++ wc) (g : ∀ u : S, post u → zX C D nL (k + mc) (n + ms) (A ++ wf u) pc' lv st) : zX C D nL k n ws pc lv (As.reverse ++ .ref b :: st) := by
  subst e; subst hws
  obtain ⟨⟨Tc', hTc⟩, hd⟩ := hY
  obtain ⟨F1, hK, hN, hA, -, -, rfl⟩ := F
  subst hna
  intro H locs ls hP hD hS hl
  have hC : (z_rg A.length wc.length).map (fun i => (A ++ wc)[i]?) = wc.map some := by
    have := z_rg_map wc A []
    rwa [List.append_nil] at this
  have hPc := z_subP hP _ hC
  have hDc := z_subD hD _ (z_rg_nd _ _) hC
  have hFc := va_free (wc := wc) hD hS hA _ hC
  refine va_callv (va_runI (As := As) (rest := st) F1 (hM H.size) (cwI As.length F1.2.2.2.2 hG hTc rfl rfl (F1.2.2.2.2 _ hini) (F1.2.2.2.2 _ hl0) (F1.2.2.2.2 _ hins) hy1 hd hR) ⟨zPc_blind D cyI cyB _ wc H.size, z_pre hK hN hPc hDc⟩ rfl rfl hl.1 rfl (lv_room hst) d hk) hS (fun q _ h => hFc q h) hFc (fun u t H1 locs1 ht hvm hw hB hz1 hk1 hS1 => ?_)
  obtain ⟨hP1, hD1⟩ := hB
  rw [ht] at hP1
  have hb := z_made hP hD hk1 hFc hP1 hD1
  exact g u hw H1 locs1 ls hb.1 hb.2 hS1 hl
end
