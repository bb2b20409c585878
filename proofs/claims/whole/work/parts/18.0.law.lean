/-! the world in another order, the script's rows, image's first call -/
theorem z_nd_app : ∀ (l1 l2 : List Nat), va_nd l1 = true → va_nd l2 = true → (∀ x ∈ l1, x ∉ l2) → va_nd (l1 ++ l2) = true
  | [], l2, _, h2, _ => h2
  | a :: l1, l2, h1, h2, h3 => by
    simp only [va_nd, Bool.and_eq_true, decide_eq_true_eq] at h1
    simp only [List.cons_append, va_nd, Bool.and_eq_true, decide_eq_true_eq, List.mem_append, not_or]
    exact ⟨⟨h1.1, h3 a List.mem_cons_self⟩, z_nd_app l1 l2 h1.2 h2 (fun x hx => h3 x (List.mem_cons_of_mem _ hx))⟩
section
variable {C : zC} {D : va_G} {R : Room} {cc : ByteArray} {nL k n : Nat} {Ts : List Cond} {own : String} {ret : Option FieldType} {cyI cyB : ClassId} {ws : va_W} {pc : Nat} {lv : List (Nat × Value)} {st : List Value}
theorem z_swap {ws' : va_W} (A B E G : va_W) (h1 : ws = A ++ (B ++ (E ++ G))) (h2 : ws' = A ++ (E ++ (B ++ G))) (g : zX C D nL k n ws' pc lv st) : zX C D nL k n ws pc lv st := by
  subst h1; subst h2
  refine z_ws _ (z_rg 0 A.length ++ (z_rg (A.length + B.length) E.length ++ (z_rg A.length B.length ++ z_rg (A.length + (B.length + E.length)) G.length))) ?_ ?_ g
  · refine z_nd_app _ _ (z_rg_nd _ _) (z_nd_app _ _ (z_rg_nd _ _) (z_nd_app _ _ (z_rg_nd _ _) (z_rg_nd _ _) ?_) ?_) ?_
    · intro x hx hy
      have a1 := z_rg_lt _ _ _ hx
      have a2 := z_rg_mem _ _ _ hy
      omega
    · intro x hx hy
      have a1 := z_rg_lt _ _ _ hx
      have a2 := z_rg_mem _ _ _ hx
      rcases List.mem_append.mp hy with hy | hy
      · have a3 := z_rg_lt _ _ _ hy
        omega
      · have a3 := z_rg_mem _ _ _ hy
        omega
    · intro x hx hy
      have a1 := z_rg_lt _ _ _ hx
      rcases List.mem_append.mp hy with hy | hy
      · have a3 := z_rg_mem _ _ _ hy
        omega
      · rcases List.mem_append.mp hy with hy | hy
        · have a3 := z_rg_mem _ _ _ hy
          omega
        · have a3 := z_rg_mem _ _ _ hy
          omega
  · rw [List.map_append, List.map_append, List.map_append, List.map_append, List.map_append, List.map_append]
    have p1 := z_rg_map A [] (B ++ (E ++ G))
    have p2 := z_rg_map E (A ++ B) G
    have p3 := z_rg_map B A (E ++ G)
    have p4 := z_rg_map G (A ++ (B ++ E)) []
    simp only [List.append_nil, List.nil_append, List.append_assoc, List.length_append, List.length_nil] at p1 p2 p3 p4
    rw [p1, p2, p3, p4]
theorem z_sld (F : zF C D R cc nL Ts own ret cyI cyB) {b L : Nat} {xs : Nat → Int32} {i : Int32} (hX : va_X b L xs C.2.1.1 C.2.1.1.heap ∧ b < C.2.1.1.heap.size ∧ ¬ C.2.2.2.2 b ∧ L ≤ 2048) (d : decode cc pc = .ok (.iaload, 1)) (pc' : Nat) (e : pc + 1 = pc') (j : Nat) (ei : i = nI j) (hj : j < L) (g : zX C D nL k n ws pc' lv (.int (xs j) :: st)) : zX C D nL k n ws pc lv (.int i :: .ref b :: st) := by
  subst e; subst ei
  refine fun H locs ls hP hD hS hl => va_sld F.1.1 F.1.2.1 hX.1 hX.2.1 hX.2.2.1 hS (vp_in_nI hj (by have := hX.2.2.2; omega)) d ?_
  rw [nI_clamp (by have := hX.2.2.2; omega)]
  exact g H locs ls hP hD hS hl
theorem z_slen (F : zF C D R cc nL Ts own ret cyI cyB) {b L : Nat} {xs : Nat → Int32} (hX : va_X b L xs C.2.1.1 C.2.1.1.heap ∧ b < C.2.1.1.heap.size ∧ ¬ C.2.2.2.2 b ∧ L ≤ 2048) (d : decode cc pc = .ok (.arraylength, 1)) (pc' : Nat) (e : pc + 1 = pc') (g : zX C D nL k n ws pc' lv (.int (nI L) :: st)) : zX C D nL k n ws pc lv (.ref b :: st) := by
  subst e
  exact fun H locs ls hP hD hS hl => va_slen F.1.1 F.1.2.1 hX.1 hX.2.1 hX.2.2.1 hS d (g H locs ls hP hD hS hl)
end
/-- a call of a method that makes cells and answers an int; its world is a stretch of the caller's -/
theorem z_segMi {C : zC} {D : va_G} {R : Room} {cc : ByteArray} {nL k n : Nat} {Ts : List Cond} {own : String} {ret : Option FieldType} {cyI cyB : ClassId} {ws : va_W} {pc : Nat} {lv : List (Nat × Value)} {st : List Value} (F : zF C D R cc nL Ts own ret cyI cyB) {index : Nat} {b : Addr} {Cn : String} {y : MethodName} {Tc : List Cond} {fr lo mc ms maxL na : Nat} {bytes : ByteArray} {rt : Option FieldType} {As : List Value} {wc : va_W} {S : Type} {wf : S → va_W} {post : Int32 → S → Prop} (d : decode cc pc = .ok (.invokevirtual index, 3)) (pc' : Nat) (e : pc + 3 = pc') (hM : zMci C.1.2.1 y Tc fr lo mc ms D cyI cyB (.ref b :: As) wc wf post) (hY : zY y Tc bytes maxL rt na) (hna : As.length = na) (hG : GoodIn Ts (wsV own index Cn y Tc)) (hCn : y.cls = Cn) {ci rq : Nat} {fs : List Value} (hrc : vwCl[ci]?.map (fun q => q.1) = some Cn) (hrq : wc[rq]? = some (b, .inr (ci, fs))) (hR : fr + 1 ≤ R.frames ∧ 8 + (maxL + 11) + lo ≤ R.locals) (hk : k + mc ≤ R.cells ∧ n + ms ≤ R.slots) (hst : (st.map fun v => v.category).sum ≤ 8) (B : va_W) (hws : ws = B ++ wc) (g : ∀ (r : Int32) (u : S), post r u → zX C D nL (k + mc) (n + ms) (B ++ wf u) pc' lv (.int r :: st)) : zX C D nL k n ws pc lv (As.reverse ++ .ref b :: st) := by
  subst e; subst hws
  obtain ⟨⟨Tc', hTc⟩, hd⟩ := hY
  obtain ⟨F1, hK, hN, hA, -, -, rfl⟩ := F
  subst hna
  intro H locs ls hP hD hS hl
  have hC : (z_rg B.length wc.length).map (fun i => (B ++ wc)[i]?) = wc.map some := by
    have := z_rg_map wc B []
    rwa [List.append_nil] at this
  have hPc := z_subP hP _ hC
  have hDc := z_subD hD _ (z_rg_nd _ _) hC
  have hFc := va_free (wc := wc) hD hS hA _ hC
  subst hCn
  cases hq : vwCl[ci]? with
  | none => rw [hq] at hrc; cases hrc
  | some q =>
  rw [hq] at hrc
  have hrc : q.1 = y.cls := Option.some.inj hrc
  refine va_calli (va_runV (As := As) (rest := st) F1 (hM H.size) (cwV As.length F1.2.2.2.2 hG hTc rfl rfl ⟨rfl, hd⟩ hR) ⟨zPc_blind D cyI cyB _ wc H.size, hrc ▸ va_recv hK hPc hq hrq, z_pre hK hN hPc hDc⟩ rfl rfl hl.1 rfl (lv_room hst) d hk) hS (fun q _ h => hFc q h) hFc (fun r u t H1 locs1 ht hvm hw hB hz1 hk1 hS1 => ?_)
  obtain ⟨hP1, hD1⟩ := hB
  rw [ht] at hP1
  have hb := z_made hP hD hk1 hFc hP1 hD1
  exact g r u hw H1 locs1 ls hb.1 hb.2 hS1 hl
theorem iX5_image_N_1 : ∀ w ∈ wsX10, w ∈ wsX5_image := fun w h => iX5_image_S_1 w h
theorem nX5_image_1 : zKn wsX5_image 1 9 RX1 [.null, .null, .null, .null, .null, .int 0, .int 0, .int 0, .int 0] := ⟨TX1, tyX1, rfl, iX5_image_N_1, tyX1_ok, by decide +kernel⟩
def pX5_image_N (hI : Nat → Int32) (hR : Nat → Nat → Int32) (post : Int32 → (Nat → Int32) → (Nat → Nat → Int32) → Prop) : Prop := pX1_copyFrom_R hI hR (va_up (fun _ => 0) 0 4) (fun _ _ => 0) (fun (gI : Nat → Int32) (gR : Nat → Nat → Int32) => post (gI 1) gI gR)
set_option maxHeartbeats 4000000 in
set_option maxRecDepth 100000 in
theorem mX5_image_N (l : Launch) (D : va_G) (cyI cyB : ClassId) (aS aT aH aM : Nat → Nat) (sI : Nat → Int32) (sR : Nat → Nat → Int32) (tI : Nat → Int32) (tR : Nat → Nat → Int32) (hI : Nat → Int32) (hR : Nat → Nat → Int32) (mI : Nat → Int32) (mR : Nat → Nat → Int32) {post : Int32 → (Nat → Int32) → (Nat → Nat → Int32) → Prop} (hw : pX5_image_N hI hR post) : zMci l yX5_image wsX5_image 3 100 12 106 D cyI cyB [.ref (aS 0)] (wSt aH aM aT aS .null cyI sI sR ++ wTe aT cyB tI tR ++ wHo aH cyI hI hR ++ wMi aH aM cyI mI mR) (S := ((Nat → Nat) × (Nat → Int32) × (Nat → Nat → Int32))) (fun u => wSt aH aM aT aS (.ref (u.1 0)) cyI sI sR ++ wTe aT cyB tI tR ++ wHo aH cyI hI hR ++ wHo u.1 cyI u.2.1 u.2.2 ++ wMi aH aM cyI mI mR) (fun r u => post r u.2.1 u.2.2) := by
  refine z_metci (cc := cX5_image) (nL := 1) (by decide +kernel) rfl (Nat.le_of_ble_eq_true rfl) (fun C hl F hRt => ?_)
  show zX C D 1 0 0 (wSt aH aM aT aS .null cyI sI sR ++ wTe aT cyB tI tR ++ wHo aH cyI hI hR ++ wMi aH aM cyI mI mR) 0 [(0, .ref (aS 0))] []
  refine z_aload_n F dX5_image_0 1 rfl 0 rfl ?_
  refine z_get F dX5_image_1 4 rfl kX5_image_S_46 0 rfl rfl ?_
  refine z_ifnonnullN F dX5_image_4 7 rfl ?_
  refine z_aload_n F dX5_image_7 8 rfl 0 rfl ?_
  refine z_new F dX5_image_8 11 rfl nX5_image_1 (List.mem_of_getElem? (i := 2) rfl) (List.mem_of_getElem? (i := 3) rfl) (List.mem_of_getElem? (i := 4) rfl) (by decide +kernel) (by decide +kernel) (fun q => ?_)
  refine z_dup F dX5_image_11 12 rfl rfl ?_
  refine z_ctorN (As := []) (st := [.ref q, .ref (aS 0)]) (A := (wSt aH aM aT aS .null cyI sI sR ++ wTe aT cyB tI tR ++ wHo aH cyI hI hR ++ wMi aH aM cyI mI mR)) (wc := [(q, .inr (1, [.null, .null, .null, .null, .null, .int 0, .int 0, .int 0, .int 0]))]) F dX5_image_12 15 rfl (mX1_init C.1.2.1 D cyI cyB q) y_X1_init rfl rfl gX5_image_X1_init_n11 F.2.2.1.1 (List.mem_of_getElem? (i := 4) rfl) (List.mem_of_getElem? (i := 7) rfl) (by decide +kernel) (by decide +kernel) (Nat.le_of_ble_eq_true rfl) rfl (fun u hp => ?_)
  have hp : u 0 = q := hp
  subst hp
  refine z_put F dX5_image_15 18 rfl kX5_image_S_46 0 rfl rfl rfl (Nat.le_of_ble_eq_true rfl) (wSt aH aM aT aS (.ref (u 0)) cyI sI sR ++ wTe aT cyB tI tR ++ wHo aH cyI hI hR ++ wMi aH aM cyI mI mR ++ wHo u cyI (va_up (fun _ => 0) 0 4) (fun _ _ => 0)) rfl ?_
  refine z_swap (ws' := (wSt aH aM aT aS (.ref (u 0)) cyI sI sR ++ wTe aT cyB tI tR ++ wHo aH cyI hI hR ++ wHo u cyI (va_up (fun _ => 0) 0 4) (fun _ _ => 0) ++ wMi aH aM cyI mI mR)) (wSt aH aM aT aS (.ref (u 0)) cyI sI sR ++ wTe aT cyB tI tR ++ wHo aH cyI hI hR) (wMi aH aM cyI mI mR) (wHo u cyI (va_up (fun _ => 0) 0 4) (fun _ _ => 0)) [] (by simp only [List.append_assoc, List.append_nil]) (by simp only [List.append_assoc, List.append_nil]) ?_
  refine z_aload_n F dX5_image_18 19 rfl 0 rfl ?_
  refine z_get F dX5_image_19 22 rfl kX5_image_S_46 0 rfl rfl ?_
  refine z_aload_n F dX5_image_22 23 rfl 0 rfl ?_
  refine z_get F dX5_image_23 26 rfl kX5_image_S_12 0 rfl rfl ?_
  refine z_segVv (As := [.ref (aH 0)]) (st := []) F dX5_image_26 29 rfl (mX1_copyFrom_R C.1.2.1 D cyI cyB aH u hI hR (va_up (fun _ => 0) 0 4) (fun _ _ => 0) hw) y_X1_copyFrom_R rfl gX5_image_X1_copyFrom rfl (ci := 1) (rq := 12) rfl rfl (by decide +kernel) (by decide +kernel) (Nat.le_of_ble_eq_true rfl) (wSt aH aM aT aS (.ref (u 0)) cyI sI sR ++ wTe aT cyB tI tR) (wMi aH aM cyI mI mR) (by simp only [List.append_assoc, List.nil_append, List.append_nil]) (fun _ => rfl) (fun v => (wSt aH aM aT aS (.ref (u 0)) cyI sI sR ++ wTe aT cyB tI tR ++ wHo aH cyI hI hR ++ wHo u cyI v.1 v.2 ++ wMi aH aM cyI mI mR)) (fun v => (by simp only [List.append_assoc, List.nil_append, List.append_nil])) (fun v hp => ?_)
  obtain ⟨gI, gR⟩ := v
  replace hw := hp
  refine z_aload_n F dX5_image_29 30 rfl 0 rfl ?_
  refine z_get F dX5_image_30 33 rfl kX5_image_S_46 0 rfl rfl ?_
  refine z_get F dX5_image_33 36 rfl kX5_image_S_79 18 rfl rfl ?_
  refine z_widen (k' := 12) (n' := 106) (by decide +kernel) (by decide +kernel) ?_
  exact hRt 36 _ (gI 1) (u, gI, gR) dX5_image_36 hw
theorem y_X5_image_N : zY yX5_image wsX5_image cX5_image 1 (some .int) 0 := ⟨⟨_, rfl⟩, by decide +kernel⟩
