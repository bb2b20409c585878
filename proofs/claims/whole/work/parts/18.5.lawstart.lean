theorem z_arr {args : Array Value} {s : State} {ty : FieldType} (h : (Cond.arrayClass ty).before args s = true) : ∃ cA : ClassId, ArrOfT s cA ty ∧ s.vm.findClass ("[" ++ ty.toString) = some cA := by
  obtain ⟨cA, kA, comp, h1, h2, h3⟩ := Cond.arrayClass_spec h
  exact ⟨cA, fun n z => ⟨fun k h => (by cases h), kA, h2, comp, h3⟩, h1⟩
theorem iL_5 : ∀ w ∈ wsX50, w ∈ wsL_law := fun w h => List.mem_append_left _ (List.mem_append_left _ (List.mem_append_left _ (List.mem_append_left _ (List.mem_append_left _ (List.mem_append_left _ (List.mem_append_left _ (List.mem_append_right _ h)))))))
theorem nL_5 : zKn wsL_law 5 8 RX5 [.null, .null, .null, .null, .null, .null, .int 0, .null] := ⟨TX5, tyX5, rfl, iL_5, tyX5_ok, by decide +kernel⟩
theorem iL_6 : ∀ w ∈ wsX60, w ∈ wsL_law := fun w h => List.mem_append_left _ (List.mem_append_left _ (List.mem_append_left _ (List.mem_append_left _ (List.mem_append_left _ (List.mem_append_left _ (List.mem_append_right _ h))))))
theorem nL_6 : zKn wsL_law 6 31 RX6 [.null, .null, .null, .null, .null, .null, .null, .null, .null, .null, .int 0, .int 0, .int 0, .int 0, .int 0, .int 0, .null, .int 0, .int 0, .null, .null, .null, .int 0, .null, .null, .null, .int 0, .null, .int 0, .int 0, .int 0] := ⟨TX6, tyX6, rfl, iL_6, tyX6_ok, by decide +kernel⟩
set_option maxHeartbeats 8000000 in
set_option maxRecDepth 100000 in
theorem z_start {p : Program} {e : Env} {s : State} {m : MethodId} {below : List Frame} {meth : Method} {c : Code} (l : Launch) {b L : Nat} {xs : Nat → Int32} (hL : L ≤ 2048) (C0 : lw_At p s m meth c b L xs) (Inv : zIv) (hI0 : zLw L xs Inv) (h00 : Inv none (fun _ => 0) (fun _ _ => 0) (fun _ => 0) (fun _ _ => 0) (va_up (fun _ => 0) 0 4) (fun _ _ => 0) (fun _ => 0) (fun _ _ => 0) (va_up (fun _ => 0) 10 4) (fun _ _ => 0)) : W p l e room_1 s m #[Value.ref b] below meth c s.heap [] 0 0 (lw_Z below #[Value.ref b] s) (entryFrame m ([Value.ref b] : List Value).toArray 4) := by
  obtain ⟨hx, hb, hr, hml, hown, hts, hXs, hbl, hlocks, hgv⟩ := id C0
  obtain ⟨c0, iS0, hKn0⟩ := u_known (C := RX0) (T := TX0) (N := 3) (n := 3) hts inX0 (hts (.instantiable RX0 3) (List.mem_append_right _ (List.mem_append_left _ (List.mem_of_getElem? (i := 105) rfl))))
  obtain ⟨c1, iS1, hKn1⟩ := u_known (C := RX1) (T := TX1) (N := 9) (n := 9) hts inX1 (hts (.instantiable RX1 9) (List.mem_append_right _ (List.mem_append_left _ (List.mem_of_getElem? (i := 20) rfl))))
  obtain ⟨c2, iS2, hKn2⟩ := u_known (C := RX2) (T := TX2) (N := 11) (n := 11) hts inX2 (hts (.instantiable RX2 11) (List.mem_append_right _ (List.mem_append_left _ (List.mem_of_getElem? (i := 99) rfl))))
  obtain ⟨c3, iS3, hKn3⟩ := u_known (C := RX3) (T := TX3) (N := 3) (n := 3) hts inX3 (hts (.instantiable RX3 3) (List.mem_append_right _ (List.mem_append_left _ (List.mem_of_getElem? (i := 26) rfl))))
  obtain ⟨c4, iS4, hKn4⟩ := u_known (C := RX4) (T := TX4) (N := 3) (n := 3) hts inX4 (hts (.instantiable RX4 3) (List.mem_append_right _ (List.mem_append_left _ (List.mem_of_getElem? (i := 160) rfl))))
  obtain ⟨c5, iS5, hKn5⟩ := u_known (C := RX5) (T := TX5) (N := 8) (n := 8) hts inX5 (hts (.instantiable RX5 8) (List.mem_append_right _ (List.mem_append_left _ (List.mem_of_getElem? (i := 12) rfl))))
  obtain ⟨c6, iS6, hKn6⟩ := u_known (C := RX6) (T := TX6) (N := 31) (n := 31) hts inX6 (hts (.instantiable RX6 31) (List.mem_append_right _ (List.mem_append_right _ (List.mem_append_right _ (List.mem_append_left _ (List.mem_of_getElem? (i := 163) rfl))))))
  obtain ⟨dC, dI, hKc⟩ : ∃ (dC : Nat → ClassId) (dI : Nat → Nat → Nat), ∀ (k : Nat) (q : vw_C), vwCl[k]? = some q → u_Kn s q.1 q.2.1 q.2.2 (dC k) (dI k) := by
    refine ⟨fun k => [c0, c1, c2, c3, c4, c5, c6].getD k c0, fun k => [iS0, iS1, iS2, iS3, iS4, iS5, iS6].getD k iS0, ?_⟩
    intro k q hq
    match k, hq with
    | 0, hq => cases hq; exact hKn0
    | 1, hq => cases hq; exact hKn1
    | 2, hq => cases hq; exact hKn2
    | 3, hq => cases hq; exact hKn3
    | 4, hq => cases hq; exact hKn4
    | 5, hq => cases hq; exact hKn5
    | 6, hq => cases hq; exact hKn6
    | k + 7, hq => simp [vwCl] at hq
  obtain ⟨cyI, hcI, hcI2⟩ := z_arr (hts (.arrayClass .int) (List.mem_append_right _ (List.mem_append_left _ (List.mem_of_getElem? (i := 48) rfl))))
  obtain ⟨cyB, hcB, hcB2⟩ := z_arr (hts (.arrayClass .byte) (List.mem_append_right _ (List.mem_append_left _ (List.mem_of_getElem? (i := 176) rfl))))
  have hK : va_K (dC, dI) vwCl (zT cyI cyB) s := ⟨hKc, fun k q h => by
    match k, h with
    | 0, h => cases h; exact ⟨hcI, hcI2⟩
    | 1, h => cases h; exact ⟨hcB, hcB2⟩
    | k + 2, h => simp at h⟩
  have hN : zN s := ⟨va_Nw.of rfl (hts (.methodLinkNest RX5 11 yX1_init "StillRoom") (List.mem_append_right _ (List.mem_append_left _ (List.mem_of_getElem? (i := 21) rfl)))), va_Nw.of rfl (hts (.methodLinkNest RX1 20 yX3_init "StillRoom") (List.mem_append_right _ (List.mem_append_left _ (List.mem_of_getElem? (i := 27) rfl)))), va_Nw.of rfl (hts (.methodLinkNest RX2 26 yX0_init "StillRoom") (List.mem_append_right _ (List.mem_append_left _ (List.mem_of_getElem? (i := 106) rfl)))), va_Nw.of rfl (hts (.methodLinkNest RX5 27 yX4_init "StillRoom") (List.mem_append_right _ (List.mem_append_left _ (List.mem_of_getElem? (i := 161) rfl)))), va_Nw.of rfl (hts (.methodLinkNest RX4 94 yX5_contains "StillRoom") (List.mem_append_right _ (List.mem_append_right _ (List.mem_append_left _ (List.mem_of_getElem? (i := 41) rfl))))), va_Nw.of rfl (hts (.methodLinkNest RX2 92 yX5_contains "StillRoom") (List.mem_append_right _ (List.mem_append_right _ (List.mem_append_left _ (List.mem_of_getElem? (i := 141) rfl))))), va_Nw.of rfl (hts (.methodLinkNest RX2 138 yX5_with "StillRoom") (List.mem_append_right _ (List.mem_append_right _ (List.mem_append_right _ (List.mem_append_left _ (List.mem_of_getElem? (i := 42) rfl)))))), va_Nw.of rfl (hts (.methodLinkNest RX1 83 yX5_contains "StillRoom") (List.mem_append_right _ (List.mem_append_right _ (List.mem_append_right _ (List.mem_append_left _ (List.mem_of_getElem? (i := 103) rfl))))))⟩
  have hP : va_P (dC, dI) vwCl [] s.heap := fun k q h => by simp at h
  have hD : va_D (fun q : Nat => s.heap.size ≤ q) [] := ⟨fun i j p q h => by simp at h, fun k q h => by simp at h⟩
  generalize hCe : (((p, l, e, room_1), (s, m, #[Value.ref b]), (below, meth, c), (lw_Z below #[Value.ref b] s), (fun q => s.heap.size ≤ q)) : zC) = C
  have F : zF C (dC, dI) room_1 cL_law 4 wsL_law RL ret cyI cyB := by
    subst hCe
    exact ⟨⟨hx, hb, hml, hown, fun w h => hts w (wsL_law_in w h)⟩, hK, hN, fun q h => h, hr, hlocks, rfl⟩
  have hX : va_X b L xs C.2.1.1 C.2.1.1.heap ∧ b < C.2.1.1.heap.size ∧ ¬ C.2.2.2.2 b ∧ L ≤ 2048 := by
    subst hCe
    exact ⟨hXs, hbl, Nat.not_le.mpr hbl, hL⟩
  have main : zX C (dC, dI) 4 0 0 [] 0 [(0, .ref b)] [] := by
    refine z_new F dL_law_0 3 rfl nL_5 (List.mem_of_getElem? (i := 0) rfl) (List.mem_of_getElem? (i := 1) rfl) (List.mem_of_getElem? (i := 2) rfl) (by decide +kernel) (by decide +kernel) (fun q => ?_)
    refine z_dup F dL_law_3 4 rfl rfl ?_
    refine z_ctor (As := []) (st := [.ref q]) (A := []) (wc := [(q, .inr (5, [.null, .null, .null, .null, .null, .null, .int 0, .null]))]) F dL_law_4 7 rfl (mX5_init C.1.2.1 (dC, dI) cyI cyB q) y_X5_init rfl rfl gL_law_X5_init (List.mem_of_getElem? (i := 7) rfl) (List.mem_of_getElem? (i := 2) rfl) (List.mem_of_getElem? (i := 8) rfl) (by decide +kernel) (by decide +kernel) (Nat.le_of_ble_eq_true rfl) rfl (fun u hp => ?_)
    obtain ⟨aS, aT, aH, aM⟩ := u
    have hp : aS 0 = q := hp
    subst hp
    refine z_astore_n (lv' := [(1, .ref (aS 0)), (0, .ref b)]) F dL_law_7 8 rfl (by decide) rfl ?_
    refine z_new F dL_law_8 11 rfl nL_6 (List.mem_of_getElem? (i := 3) rfl) (List.mem_of_getElem? (i := 4) rfl) (List.mem_of_getElem? (i := 5) rfl) (by decide +kernel) (by decide +kernel) (fun q => ?_)
    refine z_dup F dL_law_11 12 rfl rfl ?_
    refine z_ctor (As := []) (st := [.ref q]) (A := (wSt aH aM aT aS .null cyI (fun _ => 0) (fun _ _ => 0) ++ wTe aT cyB (fun _ => 0) (fun _ _ => 0) ++ wHo aH cyI (va_up (fun _ => 0) 0 4) (fun _ _ => 0) ++ wMi aH aM cyI (fun _ => 0) (fun _ _ => 0))) (wc := [(q, .inr (6, [.null, .null, .null, .null, .null, .null, .null, .null, .null, .null, .int 0, .int 0, .int 0, .int 0, .int 0, .int 0, .null, .int 0, .int 0, .null, .null, .null, .int 0, .null, .null, .null, .int 0, .null, .int 0, .int 0, .int 0]))]) F dL_law_12 15 rfl (mX6_init C.1.2.1 (dC, dI) cyI cyB q) y_X6_init rfl rfl gL_law_X6_init (List.mem_of_getElem? (i := 83) rfl) (List.mem_of_getElem? (i := 5) rfl) (List.mem_of_getElem? (i := 84) rfl) (by decide +kernel) (by decide +kernel) (Nat.le_of_ble_eq_true rfl) rfl (fun aO hp => ?_)
    have hp : aO 0 = q := hp
    subst hp
    refine z_astore_n (lv' := [(2, .ref (aO 0)), (1, .ref (aS 0)), (0, .ref b)]) F dL_law_15 16 rfl (by decide) rfl ?_
    refine z_iconst F dL_law_16 17 rfl zki_0 ?_
    refine z_istore_n (lv' := [(3, .int 0), (2, .ref (aO 0)), (1, .ref (aS 0)), (0, .ref b)]) F dL_law_17 18 rfl (by decide) rfl ?_
    refine z_lv (lv' := [(0, .ref b), (1, .ref (aS 0)), (2, .ref (aO 0)), (3, .int 0)]) [3, 2, 1, 0] rfl ?_
    refine z_widen (k' := 46) (n' := 779) (by decide +kernel) (by decide +kernel) ?_
    refine z_eq (ws' := (wSt aH aM aT aS .null cyI (fun _ => 0) (fun _ _ => 0) ++ wTe aT cyB (fun _ => 0) (fun _ _ => 0) ++ wHo aH cyI (va_up (fun _ => 0) 0 4) (fun _ _ => 0) ++ wMi aH aM cyI (fun _ => 0) (fun _ _ => 0) ++ wMo aO cyI (va_up (fun _ => 0) 10 4) (fun _ _ => 0) ++ zKw cyI none (fun _ => 0))) (List.append_nil _).symm rfl rfl ?_
    have hlp := z_loop (aS := aS) (aT := aT) (aH := aH) (aM := aM) (aO := aO) Inv hI0 C0 C hCe.symm F hX L 0 none (fun _ => 0) 46 779 (fun _ => 0) (fun _ _ => 0) (fun _ => 0) (fun _ _ => 0) (va_up (fun _ => 0) 0 4) (fun _ _ => 0) (fun _ => 0) (fun _ _ => 0) (va_up (fun _ => 0) 10 4) (fun _ _ => 0) (by omega) (Nat.zero_le _) (fun _ => ⟨by decide, by decide +kernel⟩) (by decide) (by decide +kernel) h00
    exact hlp
  subst hCe
  rw [lg_entry_eq]
  exact main s.heap [] _ hP hD va_S.rf (lv_entry [.ref b] (Nat.le_of_ble_eq_true rfl))
