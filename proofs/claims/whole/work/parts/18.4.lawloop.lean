/-- what the law's loop carries: the kept house, and the eleven states -/
abbrev zIv : Type := Option ((Nat → Int32) × (Nat → Nat → Int32)) → (Nat → Int32) → (Nat → Nat → Int32) → (Nat → Int32) → (Nat → Nat → Int32) → (Nat → Int32) → (Nat → Nat → Int32) → (Nat → Int32) → (Nat → Nat → Int32) → (Nat → Int32) → (Nat → Nat → Int32) → Prop
def pL_29N (hI : Nat → Int32) (hR : Nat → Nat → Int32) (oI : Nat → Int32) (oR : Nat → Nat → Int32) (kont : (Nat → Int32) → (Nat → Nat → Int32) → (Nat → Int32) → (Nat → Nat → Int32) → Prop) : Prop := pX5_image_N hI hR (fun (r1 : Int32) (gI : Nat → Int32) (gR : Nat → Nat → Int32) => pX6_image oI oR (fun (r2 : Int32) (oI_1 : Nat → Int32) (oR_1 : Nat → Nat → Int32) => (r1 = r2 → kont gI gR oI_1 oR_1) ∧ (¬ r1 = r2 → False)))
set_option maxHeartbeats 4000000 in
set_option maxRecDepth 100000 in
theorem xL_29N {C : zC} {D : va_G} {cyI cyB : ClassId} {b k n : Nat} {aS aT aH aM aO : Nat → Nat} (x3 : Int32) (sI : Nat → Int32) (sR : Nat → Nat → Int32) (tI : Nat → Int32) (tR : Nat → Nat → Int32) (hI : Nat → Int32) (hR : Nat → Nat → Int32) (mI : Nat → Int32) (mR : Nat → Nat → Int32) (oI : Nat → Int32) (oR : Nat → Nat → Int32) (F : zF C D room_1 cL_law 4 wsL_law RL ret cyI cyB) (hkn : k + 12 ≤ room_1.cells ∧ n + 106 ≤ room_1.slots) {kont : (Nat → Int32) → (Nat → Nat → Int32) → (Nat → Int32) → (Nat → Nat → Int32) → Prop} (hkont : ∀ (u : Nat → Nat) (gI : Nat → Int32) (gR : Nat → Nat → Int32) (oI_1 : Nat → Int32) (oR_1 : Nat → Nat → Int32), kont gI gR oI_1 oR_1 → zX C D 4 (k + 12) (n + 106) (wSt aH aM aT aS (.ref (u 0)) cyI sI sR ++ wTe aT cyB tI tR ++ wHo aH cyI hI hR ++ wMi aH aM cyI mI mR ++ wMo aO cyI oI_1 oR_1 ++ wHo u cyI gI gR) 1102 [(0, .ref b), (1, .ref (aS 0)), (2, .ref (aO 0)), (3, .int x3)] []) (hw : pL_29N hI hR oI oR kont) : zX C D 4 k n (wSt aH aM aT aS .null cyI sI sR ++ wTe aT cyB tI tR ++ wHo aH cyI hI hR ++ wMi aH aM cyI mI mR ++ wMo aO cyI oI oR) 1053 [(0, .ref b), (1, .ref (aS 0)), (2, .ref (aO 0)), (3, .int x3)] [] := by
  refine z_swap (ws' := (wMo aO cyI oI oR ++ (wSt aH aM aT aS .null cyI sI sR ++ wTe aT cyB tI tR ++ wHo aH cyI hI hR ++ wMi aH aM cyI mI mR))) [] (wSt aH aM aT aS .null cyI sI sR ++ wTe aT cyB tI tR ++ wHo aH cyI hI hR ++ wMi aH aM cyI mI mR) (wMo aO cyI oI oR) [] (by simp only [List.append_assoc, List.nil_append, List.append_nil]) (by simp only [List.append_assoc, List.nil_append, List.append_nil]) ?_
  refine z_aload_n F dL_law_1053 1054 rfl 1 rfl ?_
  refine z_segMi (As := []) (st := []) F dL_law_1054 1057 rfl (mX5_image_N C.1.2.1 D cyI cyB aS aT aH aM sI sR tI tR hI hR mI mR hw) y_X5_image_N rfl gL_law_X5_image rfl (ci := 5) (rq := 0) rfl rfl (by decide +kernel) hkn (Nat.le_of_ble_eq_true rfl) (wMo aO cyI oI oR) rfl (fun r1 v hp => ?_)
  obtain ⟨u, gI, gR⟩ := v
  replace hw := hp
  refine z_swap (ws' := (wSt aH aM aT aS (.ref (u 0)) cyI sI sR ++ wTe aT cyB tI tR ++ wHo aH cyI hI hR ++ wHo u cyI gI gR ++ wMi aH aM cyI mI mR ++ wMo aO cyI oI oR)) [] (wMo aO cyI oI oR) (wSt aH aM aT aS (.ref (u 0)) cyI sI sR ++ wTe aT cyB tI tR ++ wHo aH cyI hI hR ++ wHo u cyI gI gR ++ wMi aH aM cyI mI mR) [] (by simp only [List.append_assoc, List.nil_append, List.append_nil]) (by simp only [List.append_assoc, List.nil_append, List.append_nil]) ?_
  refine z_aload_n F dL_law_1057 1058 rfl 2 rfl ?_
  refine z_segVi (As := []) (st := [.int r1]) F dL_law_1058 1061 rfl (mX6_image C.1.2.1 D cyI cyB aO oI oR hw) y_X6_image rfl gL_law_X6_image rfl (ci := 6) (rq := 0) rfl rfl (by decide +kernel) hkn (Nat.le_of_ble_eq_true rfl) (wSt aH aM aT aS (.ref (u 0)) cyI sI sR ++ wTe aT cyB tI tR ++ wHo aH cyI hI hR ++ wHo u cyI gI gR ++ wMi aH aM cyI mI mR) [] (by simp only [List.append_assoc, List.nil_append, List.append_nil]) (fun _ => rfl) (fun v => (wSt aH aM aT aS (.ref (u 0)) cyI sI sR ++ wTe aT cyB tI tR ++ wHo aH cyI hI hR ++ wHo u cyI gI gR ++ wMi aH aM cyI mI mR ++ wMo aO cyI v.1 v.2)) (fun v => (by simp only [List.append_assoc, List.nil_append, List.append_nil])) (fun r2 v hp => ?_)
  obtain ⟨oI_1, oR_1⟩ := v
  replace hw := hp
  obtain ⟨hwt, hwf⟩ := hw
  refine z_icmpeq F dL_law_1061 1102 rfl 1064 rfl (fun c1 => ?_) (fun c1 => (hwf c1).elim)
  refine z_swap (ws' := (wSt aH aM aT aS (.ref (u 0)) cyI sI sR ++ wTe aT cyB tI tR ++ wHo aH cyI hI hR ++ wMi aH aM cyI mI mR ++ wMo aO cyI oI_1 oR_1 ++ wHo u cyI gI gR)) (wSt aH aM aT aS (.ref (u 0)) cyI sI sR ++ wTe aT cyB tI tR ++ wHo aH cyI hI hR) (wHo u cyI gI gR) (wMi aH aM cyI mI mR ++ wMo aO cyI oI_1 oR_1) [] (by simp only [List.append_assoc, List.nil_append, List.append_nil]) (by simp only [List.append_assoc, List.nil_append, List.append_nil]) ?_
  exact hkont u gI gR oI_1 oR_1 (hwt c1)
/-- each case of the law keeps the invariant -/
def zLw (L : Nat) (xs : Nat → Int32) (Inv : zIv) : Prop :=
  (∀ (i : Nat) (ko : Option ((Nat → Int32) × (Nat → Nat → Int32))) (sI : Nat → Int32) (sR : Nat → Nat → Int32) (tI : Nat → Int32) (tR : Nat → Nat → Int32) (hI : Nat → Int32) (hR : Nat → Nat → Int32) (mI : Nat → Int32) (mR : Nat → Nat → Int32) (oI : Nat → Int32) (oR : Nat → Nat → Int32), i + 4 ≤ L → xs i &&& 31 = 0 → Inv ko sI sR tI tR hI hR mI mR oI oR → pL_0 L xs (nI i) sI sR tI tR hI hR mI mR oI oR (fun sI_ sR_ tI_ tR_ hI_ hR_ mI_ mR_ oI_ oR_ => Inv ko sI_ sR_ tI_ tR_ hI_ hR_ mI_ mR_ oI_ oR_)) ∧
  (∀ (i : Nat) (ko : Option ((Nat → Int32) × (Nat → Nat → Int32))) (sI : Nat → Int32) (sR : Nat → Nat → Int32) (tI : Nat → Int32) (tR : Nat → Nat → Int32) (hI : Nat → Int32) (hR : Nat → Nat → Int32) (mI : Nat → Int32) (mR : Nat → Nat → Int32) (oI : Nat → Int32) (oR : Nat → Nat → Int32), i + 4 ≤ L → xs i &&& 31 = 1 → Inv ko sI sR tI tR hI hR mI mR oI oR → pL_1 L xs (nI i) sI sR tI tR hI hR mI mR oI oR (fun sI_ sR_ tI_ tR_ hI_ hR_ mI_ mR_ oI_ oR_ => Inv ko sI_ sR_ tI_ tR_ hI_ hR_ mI_ mR_ oI_ oR_)) ∧
  (∀ (i : Nat) (ko : Option ((Nat → Int32) × (Nat → Nat → Int32))) (sI : Nat → Int32) (sR : Nat → Nat → Int32) (tI : Nat → Int32) (tR : Nat → Nat → Int32) (hI : Nat → Int32) (hR : Nat → Nat → Int32) (mI : Nat → Int32) (mR : Nat → Nat → Int32) (oI : Nat → Int32) (oR : Nat → Nat → Int32), i + 4 ≤ L → xs i &&& 31 = 2 → Inv ko sI sR tI tR hI hR mI mR oI oR → pL_2 L xs (nI i) sI sR tI tR hI hR mI mR oI oR (fun sI_ sR_ tI_ tR_ hI_ hR_ mI_ mR_ oI_ oR_ => Inv ko sI_ sR_ tI_ tR_ hI_ hR_ mI_ mR_ oI_ oR_)) ∧
  (∀ (i : Nat) (ko : Option ((Nat → Int32) × (Nat → Nat → Int32))) (sI : Nat → Int32) (sR : Nat → Nat → Int32) (tI : Nat → Int32) (tR : Nat → Nat → Int32) (hI : Nat → Int32) (hR : Nat → Nat → Int32) (mI : Nat → Int32) (mR : Nat → Nat → Int32) (oI : Nat → Int32) (oR : Nat → Nat → Int32), i + 4 ≤ L → xs i &&& 31 = 3 → Inv ko sI sR tI tR hI hR mI mR oI oR → pL_3 L xs (nI i) sI sR tI tR hI hR mI mR oI oR (fun sI_ sR_ tI_ tR_ hI_ hR_ mI_ mR_ oI_ oR_ => Inv ko sI_ sR_ tI_ tR_ hI_ hR_ mI_ mR_ oI_ oR_)) ∧
  (∀ (i : Nat) (ko : Option ((Nat → Int32) × (Nat → Nat → Int32))) (sI : Nat → Int32) (sR : Nat → Nat → Int32) (tI : Nat → Int32) (tR : Nat → Nat → Int32) (hI : Nat → Int32) (hR : Nat → Nat → Int32) (mI : Nat → Int32) (mR : Nat → Nat → Int32) (oI : Nat → Int32) (oR : Nat → Nat → Int32), i + 4 ≤ L → xs i &&& 31 = 4 → Inv ko sI sR tI tR hI hR mI mR oI oR → pL_4 L xs (nI i) sI sR tI tR hI hR mI mR oI oR (fun sI_ sR_ tI_ tR_ hI_ hR_ mI_ mR_ oI_ oR_ => Inv ko sI_ sR_ tI_ tR_ hI_ hR_ mI_ mR_ oI_ oR_)) ∧
  (∀ (i : Nat) (ko : Option ((Nat → Int32) × (Nat → Nat → Int32))) (sI : Nat → Int32) (sR : Nat → Nat → Int32) (tI : Nat → Int32) (tR : Nat → Nat → Int32) (hI : Nat → Int32) (hR : Nat → Nat → Int32) (mI : Nat → Int32) (mR : Nat → Nat → Int32) (oI : Nat → Int32) (oR : Nat → Nat → Int32), i + 4 ≤ L → xs i &&& 31 = 5 → Inv ko sI sR tI tR hI hR mI mR oI oR → pL_5 L xs (nI i) sI sR tI tR hI hR mI mR oI oR (fun sI_ sR_ tI_ tR_ hI_ hR_ mI_ mR_ oI_ oR_ => Inv ko sI_ sR_ tI_ tR_ hI_ hR_ mI_ mR_ oI_ oR_)) ∧
  (∀ (i : Nat) (ko : Option ((Nat → Int32) × (Nat → Nat → Int32))) (sI : Nat → Int32) (sR : Nat → Nat → Int32) (tI : Nat → Int32) (tR : Nat → Nat → Int32) (hI : Nat → Int32) (hR : Nat → Nat → Int32) (mI : Nat → Int32) (mR : Nat → Nat → Int32) (oI : Nat → Int32) (oR : Nat → Nat → Int32), i + 4 ≤ L → xs i &&& 31 = 6 → Inv ko sI sR tI tR hI hR mI mR oI oR → pL_6 L xs (nI i) sI sR tI tR hI hR mI mR oI oR (fun sI_ sR_ tI_ tR_ hI_ hR_ mI_ mR_ oI_ oR_ => Inv ko sI_ sR_ tI_ tR_ hI_ hR_ mI_ mR_ oI_ oR_)) ∧
  (∀ (i : Nat) (ko : Option ((Nat → Int32) × (Nat → Nat → Int32))) (sI : Nat → Int32) (sR : Nat → Nat → Int32) (tI : Nat → Int32) (tR : Nat → Nat → Int32) (hI : Nat → Int32) (hR : Nat → Nat → Int32) (mI : Nat → Int32) (mR : Nat → Nat → Int32) (oI : Nat → Int32) (oR : Nat → Nat → Int32), i + 4 ≤ L → xs i &&& 31 = 7 → Inv ko sI sR tI tR hI hR mI mR oI oR → pL_7 L xs (nI i) sI sR tI tR hI hR mI mR oI oR (fun sI_ sR_ tI_ tR_ hI_ hR_ mI_ mR_ oI_ oR_ => Inv ko sI_ sR_ tI_ tR_ hI_ hR_ mI_ mR_ oI_ oR_)) ∧
  (∀ (i : Nat) (ko : Option ((Nat → Int32) × (Nat → Nat → Int32))) (sI : Nat → Int32) (sR : Nat → Nat → Int32) (tI : Nat → Int32) (tR : Nat → Nat → Int32) (hI : Nat → Int32) (hR : Nat → Nat → Int32) (mI : Nat → Int32) (mR : Nat → Nat → Int32) (oI : Nat → Int32) (oR : Nat → Nat → Int32), i + 4 ≤ L → xs i &&& 31 = 8 → Inv ko sI sR tI tR hI hR mI mR oI oR → pL_8 L xs (nI i) sI sR tI tR hI hR mI mR oI oR (fun sI_ sR_ tI_ tR_ hI_ hR_ mI_ mR_ oI_ oR_ => Inv ko sI_ sR_ tI_ tR_ hI_ hR_ mI_ mR_ oI_ oR_)) ∧
  (∀ (i : Nat) (ko : Option ((Nat → Int32) × (Nat → Nat → Int32))) (sI : Nat → Int32) (sR : Nat → Nat → Int32) (tI : Nat → Int32) (tR : Nat → Nat → Int32) (hI : Nat → Int32) (hR : Nat → Nat → Int32) (mI : Nat → Int32) (mR : Nat → Nat → Int32) (oI : Nat → Int32) (oR : Nat → Nat → Int32), i + 4 ≤ L → xs i &&& 31 = 9 → Inv ko sI sR tI tR hI hR mI mR oI oR → pL_9 L xs (nI i) sI sR tI tR hI hR mI mR oI oR (fun sI_ sR_ tI_ tR_ hI_ hR_ mI_ mR_ oI_ oR_ => Inv ko sI_ sR_ tI_ tR_ hI_ hR_ mI_ mR_ oI_ oR_)) ∧
  (∀ (i : Nat) (ko : Option ((Nat → Int32) × (Nat → Nat → Int32))) (sI : Nat → Int32) (sR : Nat → Nat → Int32) (tI : Nat → Int32) (tR : Nat → Nat → Int32) (hI : Nat → Int32) (hR : Nat → Nat → Int32) (mI : Nat → Int32) (mR : Nat → Nat → Int32) (oI : Nat → Int32) (oR : Nat → Nat → Int32), i + 4 ≤ L → xs i &&& 31 = 10 → Inv ko sI sR tI tR hI hR mI mR oI oR → pL_10 L xs (nI i) sI sR tI tR hI hR mI mR oI oR (fun sI_ sR_ tI_ tR_ hI_ hR_ mI_ mR_ oI_ oR_ => Inv ko sI_ sR_ tI_ tR_ hI_ hR_ mI_ mR_ oI_ oR_)) ∧
  (∀ (i : Nat) (ko : Option ((Nat → Int32) × (Nat → Nat → Int32))) (sI : Nat → Int32) (sR : Nat → Nat → Int32) (tI : Nat → Int32) (tR : Nat → Nat → Int32) (hI : Nat → Int32) (hR : Nat → Nat → Int32) (mI : Nat → Int32) (mR : Nat → Nat → Int32) (oI : Nat → Int32) (oR : Nat → Nat → Int32), i + 4 ≤ L → xs i &&& 31 = 11 → Inv ko sI sR tI tR hI hR mI mR oI oR → pL_11 L xs (nI i) sI sR tI tR hI hR mI mR oI oR (fun sI_ sR_ tI_ tR_ hI_ hR_ mI_ mR_ oI_ oR_ => Inv ko sI_ sR_ tI_ tR_ hI_ hR_ mI_ mR_ oI_ oR_)) ∧
  (∀ (i : Nat) (ko : Option ((Nat → Int32) × (Nat → Nat → Int32))) (sI : Nat → Int32) (sR : Nat → Nat → Int32) (tI : Nat → Int32) (tR : Nat → Nat → Int32) (hI : Nat → Int32) (hR : Nat → Nat → Int32) (mI : Nat → Int32) (mR : Nat → Nat → Int32) (oI : Nat → Int32) (oR : Nat → Nat → Int32), i + 4 ≤ L → xs i &&& 31 = 12 → Inv ko sI sR tI tR hI hR mI mR oI oR → pL_12 L xs (nI i) sI sR tI tR hI hR mI mR oI oR (fun sI_ sR_ tI_ tR_ hI_ hR_ mI_ mR_ oI_ oR_ => Inv ko sI_ sR_ tI_ tR_ hI_ hR_ mI_ mR_ oI_ oR_)) ∧
  (∀ (i : Nat) (ko : Option ((Nat → Int32) × (Nat → Nat → Int32))) (sI : Nat → Int32) (sR : Nat → Nat → Int32) (tI : Nat → Int32) (tR : Nat → Nat → Int32) (hI : Nat → Int32) (hR : Nat → Nat → Int32) (mI : Nat → Int32) (mR : Nat → Nat → Int32) (oI : Nat → Int32) (oR : Nat → Nat → Int32), i + 4 ≤ L → xs i &&& 31 = 13 → Inv ko sI sR tI tR hI hR mI mR oI oR → pL_13 L xs (nI i) sI sR tI tR hI hR mI mR oI oR (fun sI_ sR_ tI_ tR_ hI_ hR_ mI_ mR_ oI_ oR_ => Inv ko sI_ sR_ tI_ tR_ hI_ hR_ mI_ mR_ oI_ oR_)) ∧
  (∀ (i : Nat) (ko : Option ((Nat → Int32) × (Nat → Nat → Int32))) (sI : Nat → Int32) (sR : Nat → Nat → Int32) (tI : Nat → Int32) (tR : Nat → Nat → Int32) (hI : Nat → Int32) (hR : Nat → Nat → Int32) (mI : Nat → Int32) (mR : Nat → Nat → Int32) (oI : Nat → Int32) (oR : Nat → Nat → Int32), i + 4 ≤ L → xs i &&& 31 = 14 → Inv ko sI sR tI tR hI hR mI mR oI oR → pL_14 L xs (nI i) sI sR tI tR hI hR mI mR oI oR (fun sI_ sR_ tI_ tR_ hI_ hR_ mI_ mR_ oI_ oR_ => Inv ko sI_ sR_ tI_ tR_ hI_ hR_ mI_ mR_ oI_ oR_)) ∧
  (∀ (i : Nat) (ko : Option ((Nat → Int32) × (Nat → Nat → Int32))) (sI : Nat → Int32) (sR : Nat → Nat → Int32) (tI : Nat → Int32) (tR : Nat → Nat → Int32) (hI : Nat → Int32) (hR : Nat → Nat → Int32) (mI : Nat → Int32) (mR : Nat → Nat → Int32) (oI : Nat → Int32) (oR : Nat → Nat → Int32), i + 4 ≤ L → xs i &&& 31 = 15 → Inv ko sI sR tI tR hI hR mI mR oI oR → pL_15 L xs (nI i) sI sR tI tR hI hR mI mR oI oR (fun sI_ sR_ tI_ tR_ hI_ hR_ mI_ mR_ oI_ oR_ => Inv ko sI_ sR_ tI_ tR_ hI_ hR_ mI_ mR_ oI_ oR_)) ∧
  (∀ (i : Nat) (ko : Option ((Nat → Int32) × (Nat → Nat → Int32))) (sI : Nat → Int32) (sR : Nat → Nat → Int32) (tI : Nat → Int32) (tR : Nat → Nat → Int32) (hI : Nat → Int32) (hR : Nat → Nat → Int32) (mI : Nat → Int32) (mR : Nat → Nat → Int32) (oI : Nat → Int32) (oR : Nat → Nat → Int32), i + 4 ≤ L → xs i &&& 31 = 16 → Inv ko sI sR tI tR hI hR mI mR oI oR → pL_16 L xs (nI i) sI sR tI tR hI hR mI mR oI oR (fun sI_ sR_ tI_ tR_ hI_ hR_ mI_ mR_ oI_ oR_ => Inv ko sI_ sR_ tI_ tR_ hI_ hR_ mI_ mR_ oI_ oR_)) ∧
  (∀ (i : Nat) (ko : Option ((Nat → Int32) × (Nat → Nat → Int32))) (sI : Nat → Int32) (sR : Nat → Nat → Int32) (tI : Nat → Int32) (tR : Nat → Nat → Int32) (hI : Nat → Int32) (hR : Nat → Nat → Int32) (mI : Nat → Int32) (mR : Nat → Nat → Int32) (oI : Nat → Int32) (oR : Nat → Nat → Int32), i + 4 ≤ L → xs i &&& 31 = 17 → Inv ko sI sR tI tR hI hR mI mR oI oR → pL_17 L xs (nI i) sI sR tI tR hI hR mI mR oI oR (fun sI_ sR_ tI_ tR_ hI_ hR_ mI_ mR_ oI_ oR_ => Inv ko sI_ sR_ tI_ tR_ hI_ hR_ mI_ mR_ oI_ oR_)) ∧
  (∀ (i : Nat) (ko : Option ((Nat → Int32) × (Nat → Nat → Int32))) (sI : Nat → Int32) (sR : Nat → Nat → Int32) (tI : Nat → Int32) (tR : Nat → Nat → Int32) (hI : Nat → Int32) (hR : Nat → Nat → Int32) (mI : Nat → Int32) (mR : Nat → Nat → Int32) (oI : Nat → Int32) (oR : Nat → Nat → Int32), i + 4 ≤ L → xs i &&& 31 = 18 → Inv ko sI sR tI tR hI hR mI mR oI oR → pL_18 L xs (nI i) sI sR tI tR hI hR mI mR oI oR (fun sI_ sR_ tI_ tR_ hI_ hR_ mI_ mR_ oI_ oR_ => Inv ko sI_ sR_ tI_ tR_ hI_ hR_ mI_ mR_ oI_ oR_)) ∧
  (∀ (i : Nat) (ko : Option ((Nat → Int32) × (Nat → Nat → Int32))) (sI : Nat → Int32) (sR : Nat → Nat → Int32) (tI : Nat → Int32) (tR : Nat → Nat → Int32) (hI : Nat → Int32) (hR : Nat → Nat → Int32) (mI : Nat → Int32) (mR : Nat → Nat → Int32) (oI : Nat → Int32) (oR : Nat → Nat → Int32), i + 4 ≤ L → xs i &&& 31 = 19 → Inv ko sI sR tI tR hI hR mI mR oI oR → pL_19 L xs (nI i) sI sR tI tR hI hR mI mR oI oR (fun sI_ sR_ tI_ tR_ hI_ hR_ mI_ mR_ oI_ oR_ => Inv ko sI_ sR_ tI_ tR_ hI_ hR_ mI_ mR_ oI_ oR_)) ∧
  (∀ (i : Nat) (ko : Option ((Nat → Int32) × (Nat → Nat → Int32))) (sI : Nat → Int32) (sR : Nat → Nat → Int32) (tI : Nat → Int32) (tR : Nat → Nat → Int32) (hI : Nat → Int32) (hR : Nat → Nat → Int32) (mI : Nat → Int32) (mR : Nat → Nat → Int32) (oI : Nat → Int32) (oR : Nat → Nat → Int32), i + 4 ≤ L → xs i &&& 31 = 20 → Inv ko sI sR tI tR hI hR mI mR oI oR → pL_20 L xs (nI i) sI sR tI tR hI hR mI mR oI oR (fun sI_ sR_ tI_ tR_ hI_ hR_ mI_ mR_ oI_ oR_ => Inv ko sI_ sR_ tI_ tR_ hI_ hR_ mI_ mR_ oI_ oR_)) ∧
  (∀ (i : Nat) (ko : Option ((Nat → Int32) × (Nat → Nat → Int32))) (sI : Nat → Int32) (sR : Nat → Nat → Int32) (tI : Nat → Int32) (tR : Nat → Nat → Int32) (hI : Nat → Int32) (hR : Nat → Nat → Int32) (mI : Nat → Int32) (mR : Nat → Nat → Int32) (oI : Nat → Int32) (oR : Nat → Nat → Int32), i + 4 ≤ L → xs i &&& 31 = 21 → Inv ko sI sR tI tR hI hR mI mR oI oR → pL_21 L xs (nI i) sI sR tI tR hI hR mI mR oI oR (fun sI_ sR_ tI_ tR_ hI_ hR_ mI_ mR_ oI_ oR_ => Inv ko sI_ sR_ tI_ tR_ hI_ hR_ mI_ mR_ oI_ oR_)) ∧
  (∀ (i : Nat) (ko : Option ((Nat → Int32) × (Nat → Nat → Int32))) (sI : Nat → Int32) (sR : Nat → Nat → Int32) (tI : Nat → Int32) (tR : Nat → Nat → Int32) (hI : Nat → Int32) (hR : Nat → Nat → Int32) (mI : Nat → Int32) (mR : Nat → Nat → Int32) (oI : Nat → Int32) (oR : Nat → Nat → Int32), i + 4 ≤ L → xs i &&& 31 = 22 → Inv ko sI sR tI tR hI hR mI mR oI oR → pL_22 L xs (nI i) sI sR tI tR hI hR mI mR oI oR (fun sI_ sR_ tI_ tR_ hI_ hR_ mI_ mR_ oI_ oR_ => Inv ko sI_ sR_ tI_ tR_ hI_ hR_ mI_ mR_ oI_ oR_)) ∧
  (∀ (i : Nat) (ko : Option ((Nat → Int32) × (Nat → Nat → Int32))) (sI : Nat → Int32) (sR : Nat → Nat → Int32) (tI : Nat → Int32) (tR : Nat → Nat → Int32) (hI : Nat → Int32) (hR : Nat → Nat → Int32) (mI : Nat → Int32) (mR : Nat → Nat → Int32) (oI : Nat → Int32) (oR : Nat → Nat → Int32), i + 4 ≤ L → xs i &&& 31 = 23 → Inv ko sI sR tI tR hI hR mI mR oI oR → pL_23 L xs (nI i) sI sR tI tR hI hR mI mR oI oR (fun sI_ sR_ tI_ tR_ hI_ hR_ mI_ mR_ oI_ oR_ => Inv ko sI_ sR_ tI_ tR_ hI_ hR_ mI_ mR_ oI_ oR_)) ∧
  (∀ (i : Nat) (ko : Option ((Nat → Int32) × (Nat → Nat → Int32))) (sI : Nat → Int32) (sR : Nat → Nat → Int32) (tI : Nat → Int32) (tR : Nat → Nat → Int32) (hI : Nat → Int32) (hR : Nat → Nat → Int32) (mI : Nat → Int32) (mR : Nat → Nat → Int32) (oI : Nat → Int32) (oR : Nat → Nat → Int32), i + 4 ≤ L → xs i &&& 31 = 24 → Inv ko sI sR tI tR hI hR mI mR oI oR → pL_24 L xs (nI i) sI sR tI tR hI hR mI mR oI oR (fun sI_ sR_ tI_ tR_ hI_ hR_ mI_ mR_ oI_ oR_ => Inv ko sI_ sR_ tI_ tR_ hI_ hR_ mI_ mR_ oI_ oR_)) ∧
  (∀ (i : Nat) (ko : Option ((Nat → Int32) × (Nat → Nat → Int32))) (sI : Nat → Int32) (sR : Nat → Nat → Int32) (tI : Nat → Int32) (tR : Nat → Nat → Int32) (hI : Nat → Int32) (hR : Nat → Nat → Int32) (mI : Nat → Int32) (mR : Nat → Nat → Int32) (oI : Nat → Int32) (oR : Nat → Nat → Int32), i + 4 ≤ L → xs i &&& 31 = 25 → Inv ko sI sR tI tR hI hR mI mR oI oR → pL_25 L xs (nI i) sI sR tI tR hI hR mI mR oI oR (fun sI_ sR_ tI_ tR_ hI_ hR_ mI_ mR_ oI_ oR_ => Inv ko sI_ sR_ tI_ tR_ hI_ hR_ mI_ mR_ oI_ oR_)) ∧
  (∀ (i : Nat) (ko : Option ((Nat → Int32) × (Nat → Nat → Int32))) (sI : Nat → Int32) (sR : Nat → Nat → Int32) (tI : Nat → Int32) (tR : Nat → Nat → Int32) (hI : Nat → Int32) (hR : Nat → Nat → Int32) (mI : Nat → Int32) (mR : Nat → Nat → Int32) (oI : Nat → Int32) (oR : Nat → Nat → Int32), i + 4 ≤ L → xs i &&& 31 = 26 → Inv ko sI sR tI tR hI hR mI mR oI oR → pL_26 L xs (nI i) sI sR tI tR hI hR mI mR oI oR (fun sI_ sR_ tI_ tR_ hI_ hR_ mI_ mR_ oI_ oR_ => Inv ko sI_ sR_ tI_ tR_ hI_ hR_ mI_ mR_ oI_ oR_)) ∧
  (∀ (i : Nat) (ko : Option ((Nat → Int32) × (Nat → Nat → Int32))) (sI : Nat → Int32) (sR : Nat → Nat → Int32) (tI : Nat → Int32) (tR : Nat → Nat → Int32) (hI : Nat → Int32) (hR : Nat → Nat → Int32) (mI : Nat → Int32) (mR : Nat → Nat → Int32) (oI : Nat → Int32) (oR : Nat → Nat → Int32), i + 4 ≤ L → xs i &&& 31 = 27 → Inv ko sI sR tI tR hI hR mI mR oI oR → pL_27 L xs (nI i) sI sR tI tR hI hR mI mR oI oR (fun sI_ sR_ tI_ tR_ hI_ hR_ mI_ mR_ oI_ oR_ => Inv ko sI_ sR_ tI_ tR_ hI_ hR_ mI_ mR_ oI_ oR_)) ∧
  (∀ (i : Nat) (ko : Option ((Nat → Int32) × (Nat → Nat → Int32))) (sI : Nat → Int32) (sR : Nat → Nat → Int32) (tI : Nat → Int32) (tR : Nat → Nat → Int32) (hI : Nat → Int32) (hR : Nat → Nat → Int32) (mI : Nat → Int32) (mR : Nat → Nat → Int32) (oI : Nat → Int32) (oR : Nat → Nat → Int32), i + 4 ≤ L → xs i &&& 31 = 28 → Inv ko sI sR tI tR hI hR mI mR oI oR → pL_28 L xs (nI i) sI sR tI tR hI hR mI mR oI oR (fun sI_ sR_ tI_ tR_ hI_ hR_ mI_ mR_ oI_ oR_ => Inv ko sI_ sR_ tI_ tR_ hI_ hR_ mI_ mR_ oI_ oR_)) ∧
  (∀ (i : Nat) (ko : Option ((Nat → Int32) × (Nat → Nat → Int32))) (sI : Nat → Int32) (sR : Nat → Nat → Int32) (tI : Nat → Int32) (tR : Nat → Nat → Int32) (hI : Nat → Int32) (hR : Nat → Nat → Int32) (mI : Nat → Int32) (mR : Nat → Nat → Int32) (oI : Nat → Int32) (oR : Nat → Nat → Int32), i + 4 ≤ L → xs i &&& 31 = 31 → Inv ko sI sR tI tR hI hR mI mR oI oR → pL_31 L xs (nI i) sI sR tI tR hI hR mI mR oI oR (fun sI_ sR_ tI_ tR_ hI_ hR_ mI_ mR_ oI_ oR_ => Inv ko sI_ sR_ tI_ tR_ hI_ hR_ mI_ mR_ oI_ oR_)) ∧
  (∀ (i : Nat) (sI : Nat → Int32) (sR : Nat → Nat → Int32) (tI : Nat → Int32) (tR : Nat → Nat → Int32) (hI : Nat → Int32) (hR : Nat → Nat → Int32) (gI : Nat → Int32) (gR : Nat → Nat → Int32) (mI : Nat → Int32) (mR : Nat → Nat → Int32) (oI : Nat → Int32) (oR : Nat → Nat → Int32), i + 4 ≤ L → xs i &&& 31 = 29 → Inv (some (gI, gR)) sI sR tI tR hI hR mI mR oI oR → pL_29S L xs (nI i) sI sR tI tR hI hR gI gR mI mR oI oR (fun sI_ sR_ tI_ tR_ hI_ hR_ gI_ gR_ mI_ mR_ oI_ oR_ => Inv (some (gI_, gR_)) sI_ sR_ tI_ tR_ hI_ hR_ mI_ mR_ oI_ oR_)) ∧
  (∀ (i : Nat) (sI : Nat → Int32) (sR : Nat → Nat → Int32) (tI : Nat → Int32) (tR : Nat → Nat → Int32) (hI : Nat → Int32) (hR : Nat → Nat → Int32) (mI : Nat → Int32) (mR : Nat → Nat → Int32) (oI : Nat → Int32) (oR : Nat → Nat → Int32), i + 4 ≤ L → xs i &&& 31 = 29 → Inv none sI sR tI tR hI hR mI mR oI oR → pL_29N hI hR oI oR (fun gI gR oI_ oR_ => Inv (some (gI, gR)) sI sR tI tR hI hR mI mR oI_ oR_)) ∧
  (∀ (i : Nat) (sI : Nat → Int32) (sR : Nat → Nat → Int32) (tI : Nat → Int32) (tR : Nat → Nat → Int32) (hI : Nat → Int32) (hR : Nat → Nat → Int32) (gI : Nat → Int32) (gR : Nat → Nat → Int32) (mI : Nat → Int32) (mR : Nat → Nat → Int32) (oI : Nat → Int32) (oR : Nat → Nat → Int32), i + 4 ≤ L → xs i &&& 31 = 30 → Inv (some (gI, gR)) sI sR tI tR hI hR mI mR oI oR → pL_30S L xs (nI i) sI sR tI tR hI hR gI gR mI mR oI oR (fun sI_ sR_ tI_ tR_ hI_ hR_ gI_ gR_ mI_ mR_ oI_ oR_ => Inv (some (gI_, gR_)) sI_ sR_ tI_ tR_ hI_ hR_ mI_ mR_ oI_ oR_)) ∧
  (∀ (i : Nat) (sI : Nat → Int32) (sR : Nat → Nat → Int32) (tI : Nat → Int32) (tR : Nat → Nat → Int32) (hI : Nat → Int32) (hR : Nat → Nat → Int32) (mI : Nat → Int32) (mR : Nat → Nat → Int32) (oI : Nat → Int32) (oR : Nat → Nat → Int32), i + 4 ≤ L → xs i &&& 31 = 30 → Inv none sI sR tI tR hI hR mI mR oI oR → pL_30N L xs (nI i) sI sR tI tR hI hR mI mR oI oR (fun sI_ sR_ tI_ tR_ hI_ hR_ mI_ mR_ oI_ oR_ => Inv none sI_ sR_ tI_ tR_ hI_ hR_ mI_ mR_ oI_ oR_))
/-- the kept house's part of the world -/
def zKw (cyI : ClassId) (ko : Option ((Nat → Int32) × (Nat → Nat → Int32))) (aK : Nat → Nat) : va_W := match ko with
  | none => []
  | some g => wHo aK cyI g.1 g.2
def zKp (ko : Option ((Nat → Int32) × (Nat → Nat → Int32))) (aK : Nat → Nat) : Value := match ko with
  | none => .null
  | some _ => .ref (aK 0)
theorem z_c32 (x : Int32) : ∃ c : Nat, c < 32 ∧ x &&& 31 = nI c := pk_andE x 5 (by decide +kernel)
theorem z_lt4 {L i : Nat} (hL : L ≤ 2048) (hi : i ≤ 2048) : nI L - 4 < nI i ↔ ¬ i + 4 ≤ L := by
  have h1 : (nI L - nI 4).toInt = (L : Int) - 4 := pk_sub_toInt (by omega) (by omega)
  have h2 : (nI i).toInt = (i : Int) := nI_toInt (by omega)
  show nI L - nI 4 < nI i ↔ _
  rw [Int32.lt_iff_toInt_lt, h1, h2]
  omega
set_option maxHeartbeats 8000000 in
set_option maxRecDepth 100000 in
theorem z_loop {p : Program} {l : Launch} {e : Env} {s : State} {m : MethodId} {below : List Frame} {meth : Method} {c : Code} {D : va_G} {cyI cyB : ClassId} {b L : Nat} {xs : Nat → Int32} {aS aT aH aM aO : Nat → Nat} (Inv : zIv) (hI0 : zLw L xs Inv) (C0 : lw_At p s m meth c b L xs)
    (C : zC) (hC : C = ((p, l, e, room_1), (s, m, #[Value.ref b]), (below, meth, c), (lw_Z below #[Value.ref b] s), (fun q => s.heap.size ≤ q))) (F : zF C D room_1 cL_law 4 wsL_law RL ret cyI cyB) (hX : va_X b L xs C.2.1.1 C.2.1.1.heap ∧ b < C.2.1.1.heap.size ∧ ¬ C.2.2.2.2 b ∧ L ≤ 2048) :
    ∀ (f i : Nat) (ko : Option ((Nat → Int32) × (Nat → Nat → Int32))) (aK : Nat → Nat) (k n : Nat) (sI : Nat → Int32) (sR : Nat → Nat → Int32) (tI : Nat → Int32) (tR : Nat → Nat → Int32) (hI : Nat → Int32) (hR : Nat → Nat → Int32) (mI : Nat → Int32) (mR : Nat → Nat → Int32) (oI : Nat → Int32) (oR : Nat → Nat → Int32), L ≤ i + f → i ≤ L → (ko = none → k ≤ 100 ∧ n ≤ 1000) → k ≤ 200 → n ≤ 2000 → Inv ko sI sR tI tR hI hR mI mR oI oR → zX C D 4 k n (wSt aH aM aT aS (zKp ko aK) cyI sI sR ++ wTe aT cyB tI tR ++ wHo aH cyI hI hR ++ wMi aH aM cyI mI mR ++ wMo aO cyI oI oR ++ zKw cyI ko aK) 18 [(0, .ref b), (1, .ref (aS 0)), (2, .ref (aO 0)), (3, .int (nI i))] [] := by
  intro f
  induction f with
  | zero =>
    intro i ko aK k n sI sR tI tR hI hR mI mR oI oR h1 h2 h3 h4 h5 hinv
    refine z_iload_n F dL_law_18 19 rfl 3 rfl ?_
    refine z_aload_n F dL_law_19 20 rfl 0 rfl ?_
    refine z_slen F hX dL_law_20 21 rfl ?_
    refine z_iconst F dL_law_21 22 rfl zki_4 ?_
    refine z_isub F dL_law_22 23 rfl ?_
    refine z_icmpgt F dL_law_23 1108 rfl 26 rfl (fun c1 => ?_) (fun c1 => absurd ((z_lt4 hX.2.2.2 (by have := hX.2.2.2; omega)).mpr (by omega)) c1)
    refine z_iconst F dL_law_1108 1109 rfl zki_1 ?_
    subst hC
    exact fun H locs ls hP hD hS hl => va_forget (fun q hq => hS.2.2 q hq) (W.widen (k := 600000) (n := 7302250) (by omega) (by omega) (lw_ret F.1.1 F.1.2.1 C0.2.2.1 C0.2.2.2.2.2.2.2.2.1 dL_law_1109))
  | succ f ih =>
    intro i ko aK k n sI sR tI tR hI hR mI mR oI oR h1 h2 h3 h4 h5 hinv
    refine z_iload_n F dL_law_18 19 rfl 3 rfl ?_
    refine z_aload_n F dL_law_19 20 rfl 0 rfl ?_
    refine z_slen F hX dL_law_20 21 rfl ?_
    refine z_iconst F dL_law_21 22 rfl zki_4 ?_
    refine z_isub F dL_law_22 23 rfl ?_
    refine z_icmpgt F dL_law_23 1108 rfl 26 rfl (fun c1 => ?_) (fun c1 => ?_)
    · refine z_iconst F dL_law_1108 1109 rfl zki_1 ?_
      subst hC
      exact fun H locs ls hP hD hS hl => va_forget (fun q hq => hS.2.2 q hq) (W.widen (k := 600000) (n := 7302250) (by omega) (by omega) (lw_ret F.1.1 F.1.2.1 C0.2.2.1 C0.2.2.2.2.2.2.2.2.1 dL_law_1109))
    · have hi4 : i + 4 ≤ L := Decidable.not_not.mp (fun h => c1 ((z_lt4 hX.2.2.2 (by have := hX.2.2.2; omega)).mpr h))
      have hkn : k ≤ room_1.cells ∧ n ≤ room_1.slots := ⟨Nat.le_trans h4 (by decide +kernel), Nat.le_trans h5 (by decide +kernel)⟩
      refine z_aload_n F dL_law_26 27 rfl 0 rfl ?_
      refine z_iload_n F dL_law_27 28 rfl 3 rfl ?_
      refine z_sld F hX dL_law_28 29 rfl i rfl (by omega) ?_
      refine z_bipush F dL_law_29 31 rfl zkb_31 ?_
      refine z_iand F dL_law_31 32 rfl ?_
      have back : ∀ (ko : Option ((Nat → Int32) × (Nat → Nat → Int32))) (aK : Nat → Nat) (k n : Nat) (sI : Nat → Int32) (sR : Nat → Nat → Int32) (tI : Nat → Int32) (tR : Nat → Nat → Int32) (hI : Nat → Int32) (hR : Nat → Nat → Int32) (mI : Nat → Int32) (mR : Nat → Nat → Int32) (oI : Nat → Int32) (oR : Nat → Nat → Int32), (ko = none → k ≤ 100 ∧ n ≤ 1000) → k ≤ 200 → n ≤ 2000 → Inv ko sI sR tI tR hI hR mI mR oI oR → zX C D 4 k n (wSt aH aM aT aS (zKp ko aK) cyI sI sR ++ wTe aT cyB tI tR ++ wHo aH cyI hI hR ++ wMi aH aM cyI mI mR ++ wMo aO cyI oI oR ++ zKw cyI ko aK) 1102 [(0, .ref b), (1, .ref (aS 0)), (2, .ref (aO 0)), (3, .int (nI i))] [] := by
        intro ko aK k n sI sR tI tR hI hR mI mR oI oR h3 h4 h5 hinv
        refine z_iinc F dL_law_1102 1105 rfl 3 rfl (by decide) zki_4 (fun v => [(3, .int v), (0, .ref b), (1, .ref (aS 0)), (2, .ref (aO 0))]) (fun _ => rfl) (fun v ev => ?_)
        refine z_goto F dL_law_1105 18 rfl ?_
        have ev2 : v = nI (i + 4) := by rw [ev]; exact nI_add i 4
        subst ev2
        refine z_lv (lv' := [(0, .ref b), (1, .ref (aS 0)), (2, .ref (aO 0)), (3, .int (nI (i + 4)))]) [1, 2, 3, 0] rfl ?_
        exact ih (i + 4) ko aK k n sI sR tI tR hI hR mI mR oI oR (by omega) hi4 h3 h4 h5 hinv
      obtain ⟨cs, hcs, ec⟩ := z_c32 (xs i)
      match cs, hcs, ec with
      | 0, _, ec =>
        refine z_tab (off := 144) F dL_law_32 176 (by rw [ec]; decide +kernel) (by rw [ec]; decide +kernel) (by rw [ec]; decide +kernel) rfl ?_
        exact xL_0 (nI i) sI sR tI tR hI hR mI mR oI oR F hX hkn (fun sI_ sR_ tI_ tR_ hI_ hR_ mI_ mR_ oI_ oR_ hv => back ko aK k n sI_ sR_ tI_ tR_ hI_ hR_ mI_ mR_ oI_ oR_ h3 h4 h5 hv) (hI0.1 i ko sI sR tI tR hI hR mI mR oI oR hi4 ec hinv)
      | 1, _, ec =>
        refine z_tab (off := 207) F dL_law_32 239 (by rw [ec]; decide +kernel) (by rw [ec]; decide +kernel) (by rw [ec]; decide +kernel) rfl ?_
        exact xL_1 (nI i) sI sR tI tR hI hR mI mR oI oR F hX hkn (fun sI_ sR_ tI_ tR_ hI_ hR_ mI_ mR_ oI_ oR_ hv => back ko aK k n sI_ sR_ tI_ tR_ hI_ hR_ mI_ mR_ oI_ oR_ h3 h4 h5 hv) (hI0.2.1 i ko sI sR tI tR hI hR mI mR oI oR hi4 ec hinv)
      | 2, _, ec =>
        refine z_tab (off := 220) F dL_law_32 252 (by rw [ec]; decide +kernel) (by rw [ec]; decide +kernel) (by rw [ec]; decide +kernel) rfl ?_
        exact xL_2 (nI i) sI sR tI tR hI hR mI mR oI oR F hX hkn (fun sI_ sR_ tI_ tR_ hI_ hR_ mI_ mR_ oI_ oR_ hv => back ko aK k n sI_ sR_ tI_ tR_ hI_ hR_ mI_ mR_ oI_ oR_ h3 h4 h5 hv) (hI0.2.2.1 i ko sI sR tI tR hI hR mI mR oI oR hi4 ec hinv)
      | 3, _, ec =>
        refine z_tab (off := 243) F dL_law_32 275 (by rw [ec]; decide +kernel) (by rw [ec]; decide +kernel) (by rw [ec]; decide +kernel) rfl ?_
        exact xL_3 (nI i) sI sR tI tR hI hR mI mR oI oR F hX hkn (fun sI_ sR_ tI_ tR_ hI_ hR_ mI_ mR_ oI_ oR_ hv => back ko aK k n sI_ sR_ tI_ tR_ hI_ hR_ mI_ mR_ oI_ oR_ h3 h4 h5 hv) (hI0.2.2.2.1 i ko sI sR tI tR hI hR mI mR oI oR hi4 ec hinv)
      | 4, _, ec =>
        refine z_tab (off := 266) F dL_law_32 298 (by rw [ec]; decide +kernel) (by rw [ec]; decide +kernel) (by rw [ec]; decide +kernel) rfl ?_
        exact xL_4 (nI i) sI sR tI tR hI hR mI mR oI oR F hX hkn (fun sI_ sR_ tI_ tR_ hI_ hR_ mI_ mR_ oI_ oR_ hv => back ko aK k n sI_ sR_ tI_ tR_ hI_ hR_ mI_ mR_ oI_ oR_ h3 h4 h5 hv) (hI0.2.2.2.2.1 i ko sI sR tI tR hI hR mI mR oI oR hi4 ec hinv)
      | 5, _, ec =>
        refine z_tab (off := 325) F dL_law_32 357 (by rw [ec]; decide +kernel) (by rw [ec]; decide +kernel) (by rw [ec]; decide +kernel) rfl ?_
        exact xL_5 (nI i) sI sR tI tR hI hR mI mR oI oR F hX hkn (fun sI_ sR_ tI_ tR_ hI_ hR_ mI_ mR_ oI_ oR_ hv => back ko aK k n sI_ sR_ tI_ tR_ hI_ hR_ mI_ mR_ oI_ oR_ h3 h4 h5 hv) (hI0.2.2.2.2.2.1 i ko sI sR tI tR hI hR mI mR oI oR hi4 ec hinv)
      | 6, _, ec =>
        refine z_tab (off := 358) F dL_law_32 390 (by rw [ec]; decide +kernel) (by rw [ec]; decide +kernel) (by rw [ec]; decide +kernel) rfl ?_
        exact xL_6 (nI i) sI sR tI tR hI hR mI mR oI oR F hX hkn (fun sI_ sR_ tI_ tR_ hI_ hR_ mI_ mR_ oI_ oR_ hv => back ko aK k n sI_ sR_ tI_ tR_ hI_ hR_ mI_ mR_ oI_ oR_ h3 h4 h5 hv) (hI0.2.2.2.2.2.2.1 i ko sI sR tI tR hI hR mI mR oI oR hi4 ec hinv)
      | 7, _, ec =>
        refine z_tab (off := 407) F dL_law_32 439 (by rw [ec]; decide +kernel) (by rw [ec]; decide +kernel) (by rw [ec]; decide +kernel) rfl ?_
        exact xL_7 (nI i) sI sR tI tR hI hR mI mR oI oR F hX hkn (fun sI_ sR_ tI_ tR_ hI_ hR_ mI_ mR_ oI_ oR_ hv => back ko aK k n sI_ sR_ tI_ tR_ hI_ hR_ mI_ mR_ oI_ oR_ h3 h4 h5 hv) (hI0.2.2.2.2.2.2.2.1 i ko sI sR tI tR hI hR mI mR oI oR hi4 ec hinv)
      | 8, _, ec =>
        refine z_tab (off := 440) F dL_law_32 472 (by rw [ec]; decide +kernel) (by rw [ec]; decide +kernel) (by rw [ec]; decide +kernel) rfl ?_
        exact xL_8 (nI i) sI sR tI tR hI hR mI mR oI oR F hX hkn (fun sI_ sR_ tI_ tR_ hI_ hR_ mI_ mR_ oI_ oR_ hv => back ko aK k n sI_ sR_ tI_ tR_ hI_ hR_ mI_ mR_ oI_ oR_ h3 h4 h5 hv) (hI0.2.2.2.2.2.2.2.2.1 i ko sI sR tI tR hI hR mI mR oI oR hi4 ec hinv)
      | 9, _, ec =>
        refine z_tab (off := 473) F dL_law_32 505 (by rw [ec]; decide +kernel) (by rw [ec]; decide +kernel) (by rw [ec]; decide +kernel) rfl ?_
        exact xL_9 (nI i) sI sR tI tR hI hR mI mR oI oR F hX hkn (fun sI_ sR_ tI_ tR_ hI_ hR_ mI_ mR_ oI_ oR_ hv => back ko aK k n sI_ sR_ tI_ tR_ hI_ hR_ mI_ mR_ oI_ oR_ h3 h4 h5 hv) (hI0.2.2.2.2.2.2.2.2.2.1 i ko sI sR tI tR hI hR mI mR oI oR hi4 ec hinv)
      | 10, _, ec =>
        refine z_tab (off := 506) F dL_law_32 538 (by rw [ec]; decide +kernel) (by rw [ec]; decide +kernel) (by rw [ec]; decide +kernel) rfl ?_
        exact xL_10 (nI i) sI sR tI tR hI hR mI mR oI oR F hX hkn (fun sI_ sR_ tI_ tR_ hI_ hR_ mI_ mR_ oI_ oR_ hv => back ko aK k n sI_ sR_ tI_ tR_ hI_ hR_ mI_ mR_ oI_ oR_ h3 h4 h5 hv) (hI0.2.2.2.2.2.2.2.2.2.2.1 i ko sI sR tI tR hI hR mI mR oI oR hi4 ec hinv)
      | 11, _, ec =>
        refine z_tab (off := 529) F dL_law_32 561 (by rw [ec]; decide +kernel) (by rw [ec]; decide +kernel) (by rw [ec]; decide +kernel) rfl ?_
        exact xL_11 (nI i) sI sR tI tR hI hR mI mR oI oR F hX hkn (fun sI_ sR_ tI_ tR_ hI_ hR_ mI_ mR_ oI_ oR_ hv => back ko aK k n sI_ sR_ tI_ tR_ hI_ hR_ mI_ mR_ oI_ oR_ h3 h4 h5 hv) (hI0.2.2.2.2.2.2.2.2.2.2.2.1 i ko sI sR tI tR hI hR mI mR oI oR hi4 ec hinv)
      | 12, _, ec =>
        refine z_tab (off := 562) F dL_law_32 594 (by rw [ec]; decide +kernel) (by rw [ec]; decide +kernel) (by rw [ec]; decide +kernel) rfl ?_
        exact xL_12 (nI i) sI sR tI tR hI hR mI mR oI oR F hX hkn (fun sI_ sR_ tI_ tR_ hI_ hR_ mI_ mR_ oI_ oR_ hv => back ko aK k n sI_ sR_ tI_ tR_ hI_ hR_ mI_ mR_ oI_ oR_ h3 h4 h5 hv) (hI0.2.2.2.2.2.2.2.2.2.2.2.2.1 i ko sI sR tI tR hI hR mI mR oI oR hi4 ec hinv)
      | 13, _, ec =>
        refine z_tab (off := 611) F dL_law_32 643 (by rw [ec]; decide +kernel) (by rw [ec]; decide +kernel) (by rw [ec]; decide +kernel) rfl ?_
        exact xL_13 (nI i) sI sR tI tR hI hR mI mR oI oR F hX hkn (fun sI_ sR_ tI_ tR_ hI_ hR_ mI_ mR_ oI_ oR_ hv => back ko aK k n sI_ sR_ tI_ tR_ hI_ hR_ mI_ mR_ oI_ oR_ h3 h4 h5 hv) (hI0.2.2.2.2.2.2.2.2.2.2.2.2.2.1 i ko sI sR tI tR hI hR mI mR oI oR hi4 ec hinv)
      | 14, _, ec =>
        refine z_tab (off := 634) F dL_law_32 666 (by rw [ec]; decide +kernel) (by rw [ec]; decide +kernel) (by rw [ec]; decide +kernel) rfl ?_
        exact xL_14 (nI i) sI sR tI tR hI hR mI mR oI oR F hX hkn (fun sI_ sR_ tI_ tR_ hI_ hR_ mI_ mR_ oI_ oR_ hv => back ko aK k n sI_ sR_ tI_ tR_ hI_ hR_ mI_ mR_ oI_ oR_ h3 h4 h5 hv) (hI0.2.2.2.2.2.2.2.2.2.2.2.2.2.2.1 i ko sI sR tI tR hI hR mI mR oI oR hi4 ec hinv)
      | 15, _, ec =>
        refine z_tab (off := 657) F dL_law_32 689 (by rw [ec]; decide +kernel) (by rw [ec]; decide +kernel) (by rw [ec]; decide +kernel) rfl ?_
        exact xL_15 (nI i) sI sR tI tR hI hR mI mR oI oR F hX hkn (fun sI_ sR_ tI_ tR_ hI_ hR_ mI_ mR_ oI_ oR_ hv => back ko aK k n sI_ sR_ tI_ tR_ hI_ hR_ mI_ mR_ oI_ oR_ h3 h4 h5 hv) (hI0.2.2.2.2.2.2.2.2.2.2.2.2.2.2.2.1 i ko sI sR tI tR hI hR mI mR oI oR hi4 ec hinv)
      | 16, _, ec =>
        refine z_tab (off := 670) F dL_law_32 702 (by rw [ec]; decide +kernel) (by rw [ec]; decide +kernel) (by rw [ec]; decide +kernel) rfl ?_
        exact xL_16 (nI i) sI sR tI tR hI hR mI mR oI oR F hX hkn (fun sI_ sR_ tI_ tR_ hI_ hR_ mI_ mR_ oI_ oR_ hv => back ko aK k n sI_ sR_ tI_ tR_ hI_ hR_ mI_ mR_ oI_ oR_ h3 h4 h5 hv) (hI0.2.2.2.2.2.2.2.2.2.2.2.2.2.2.2.2.1 i ko sI sR tI tR hI hR mI mR oI oR hi4 ec hinv)
      | 17, _, ec =>
        refine z_tab (off := 683) F dL_law_32 715 (by rw [ec]; decide +kernel) (by rw [ec]; decide +kernel) (by rw [ec]; decide +kernel) rfl ?_
        exact xL_17 (nI i) sI sR tI tR hI hR mI mR oI oR F hX hkn (fun sI_ sR_ tI_ tR_ hI_ hR_ mI_ mR_ oI_ oR_ hv => back ko aK k n sI_ sR_ tI_ tR_ hI_ hR_ mI_ mR_ oI_ oR_ h3 h4 h5 hv) (hI0.2.2.2.2.2.2.2.2.2.2.2.2.2.2.2.2.2.1 i ko sI sR tI tR hI hR mI mR oI oR hi4 ec hinv)
      | 18, _, ec =>
        refine z_tab (off := 696) F dL_law_32 728 (by rw [ec]; decide +kernel) (by rw [ec]; decide +kernel) (by rw [ec]; decide +kernel) rfl ?_
        exact xL_18 (nI i) sI sR tI tR hI hR mI mR oI oR F hX hkn (fun sI_ sR_ tI_ tR_ hI_ hR_ mI_ mR_ oI_ oR_ hv => back ko aK k n sI_ sR_ tI_ tR_ hI_ hR_ mI_ mR_ oI_ oR_ h3 h4 h5 hv) (hI0.2.2.2.2.2.2.2.2.2.2.2.2.2.2.2.2.2.2.1 i ko sI sR tI tR hI hR mI mR oI oR hi4 ec hinv)
      | 19, _, ec =>
        refine z_tab (off := 739) F dL_law_32 771 (by rw [ec]; decide +kernel) (by rw [ec]; decide +kernel) (by rw [ec]; decide +kernel) rfl ?_
        exact xL_19 (nI i) sI sR tI tR hI hR mI mR oI oR F hX hkn (fun sI_ sR_ tI_ tR_ hI_ hR_ mI_ mR_ oI_ oR_ hv => back ko aK k n sI_ sR_ tI_ tR_ hI_ hR_ mI_ mR_ oI_ oR_ h3 h4 h5 hv) (hI0.2.2.2.2.2.2.2.2.2.2.2.2.2.2.2.2.2.2.2.1 i ko sI sR tI tR hI hR mI mR oI oR hi4 ec hinv)
      | 20, _, ec =>
        refine z_tab (off := 782) F dL_law_32 814 (by rw [ec]; decide +kernel) (by rw [ec]; decide +kernel) (by rw [ec]; decide +kernel) rfl ?_
        exact xL_20 (nI i) sI sR tI tR hI hR mI mR oI oR F hX hkn (fun sI_ sR_ tI_ tR_ hI_ hR_ mI_ mR_ oI_ oR_ hv => back ko aK k n sI_ sR_ tI_ tR_ hI_ hR_ mI_ mR_ oI_ oR_ h3 h4 h5 hv) (hI0.2.2.2.2.2.2.2.2.2.2.2.2.2.2.2.2.2.2.2.2.1 i ko sI sR tI tR hI hR mI mR oI oR hi4 ec hinv)
      | 21, _, ec =>
        refine z_tab (off := 805) F dL_law_32 837 (by rw [ec]; decide +kernel) (by rw [ec]; decide +kernel) (by rw [ec]; decide +kernel) rfl ?_
        exact xL_21 (nI i) sI sR tI tR hI hR mI mR oI oR F hX hkn (fun sI_ sR_ tI_ tR_ hI_ hR_ mI_ mR_ oI_ oR_ hv => back ko aK k n sI_ sR_ tI_ tR_ hI_ hR_ mI_ mR_ oI_ oR_ h3 h4 h5 hv) (hI0.2.2.2.2.2.2.2.2.2.2.2.2.2.2.2.2.2.2.2.2.2.1 i ko sI sR tI tR hI hR mI mR oI oR hi4 ec hinv)
      | 22, _, ec =>
        refine z_tab (off := 828) F dL_law_32 860 (by rw [ec]; decide +kernel) (by rw [ec]; decide +kernel) (by rw [ec]; decide +kernel) rfl ?_
        exact xL_22 (nI i) sI sR tI tR hI hR mI mR oI oR F hX hkn (fun sI_ sR_ tI_ tR_ hI_ hR_ mI_ mR_ oI_ oR_ hv => back ko aK k n sI_ sR_ tI_ tR_ hI_ hR_ mI_ mR_ oI_ oR_ h3 h4 h5 hv) (hI0.2.2.2.2.2.2.2.2.2.2.2.2.2.2.2.2.2.2.2.2.2.2.1 i ko sI sR tI tR hI hR mI mR oI oR hi4 ec hinv)
      | 23, _, ec =>
        refine z_tab (off := 871) F dL_law_32 903 (by rw [ec]; decide +kernel) (by rw [ec]; decide +kernel) (by rw [ec]; decide +kernel) rfl ?_
        exact xL_23 (nI i) sI sR tI tR hI hR mI mR oI oR F hX hkn (fun sI_ sR_ tI_ tR_ hI_ hR_ mI_ mR_ oI_ oR_ hv => back ko aK k n sI_ sR_ tI_ tR_ hI_ hR_ mI_ mR_ oI_ oR_ h3 h4 h5 hv) (hI0.2.2.2.2.2.2.2.2.2.2.2.2.2.2.2.2.2.2.2.2.2.2.2.1 i ko sI sR tI tR hI hR mI mR oI oR hi4 ec hinv)
      | 24, _, ec =>
        refine z_tab (off := 904) F dL_law_32 936 (by rw [ec]; decide +kernel) (by rw [ec]; decide +kernel) (by rw [ec]; decide +kernel) rfl ?_
        exact xL_24 (nI i) sI sR tI tR hI hR mI mR oI oR F hX hkn (fun sI_ sR_ tI_ tR_ hI_ hR_ mI_ mR_ oI_ oR_ hv => back ko aK k n sI_ sR_ tI_ tR_ hI_ hR_ mI_ mR_ oI_ oR_ h3 h4 h5 hv) (hI0.2.2.2.2.2.2.2.2.2.2.2.2.2.2.2.2.2.2.2.2.2.2.2.2.1 i ko sI sR tI tR hI hR mI mR oI oR hi4 ec hinv)
      | 25, _, ec =>
        refine z_tab (off := 918) F dL_law_32 950 (by rw [ec]; decide +kernel) (by rw [ec]; decide +kernel) (by rw [ec]; decide +kernel) rfl ?_
        exact xL_25 (nI i) sI sR tI tR hI hR mI mR oI oR F hX hkn (fun sI_ sR_ tI_ tR_ hI_ hR_ mI_ mR_ oI_ oR_ hv => back ko aK k n sI_ sR_ tI_ tR_ hI_ hR_ mI_ mR_ oI_ oR_ h3 h4 h5 hv) (hI0.2.2.2.2.2.2.2.2.2.2.2.2.2.2.2.2.2.2.2.2.2.2.2.2.2.1 i ko sI sR tI tR hI hR mI mR oI oR hi4 ec hinv)
      | 26, _, ec =>
        refine z_tab (off := 932) F dL_law_32 964 (by rw [ec]; decide +kernel) (by rw [ec]; decide +kernel) (by rw [ec]; decide +kernel) rfl ?_
        exact xL_26 (nI i) sI sR tI tR hI hR mI mR oI oR F hX hkn (fun sI_ sR_ tI_ tR_ hI_ hR_ mI_ mR_ oI_ oR_ hv => back ko aK k n sI_ sR_ tI_ tR_ hI_ hR_ mI_ mR_ oI_ oR_ h3 h4 h5 hv) (hI0.2.2.2.2.2.2.2.2.2.2.2.2.2.2.2.2.2.2.2.2.2.2.2.2.2.2.1 i ko sI sR tI tR hI hR mI mR oI oR hi4 ec hinv)
      | 27, _, ec =>
        refine z_tab (off := 975) F dL_law_32 1007 (by rw [ec]; decide +kernel) (by rw [ec]; decide +kernel) (by rw [ec]; decide +kernel) rfl ?_
        exact xL_27 (nI i) sI sR tI tR hI hR mI mR oI oR F hX hkn (fun sI_ sR_ tI_ tR_ hI_ hR_ mI_ mR_ oI_ oR_ hv => back ko aK k n sI_ sR_ tI_ tR_ hI_ hR_ mI_ mR_ oI_ oR_ h3 h4 h5 hv) (hI0.2.2.2.2.2.2.2.2.2.2.2.2.2.2.2.2.2.2.2.2.2.2.2.2.2.2.2.1 i ko sI sR tI tR hI hR mI mR oI oR hi4 ec hinv)
      | 28, _, ec =>
        refine z_tab (off := 998) F dL_law_32 1030 (by rw [ec]; decide +kernel) (by rw [ec]; decide +kernel) (by rw [ec]; decide +kernel) rfl ?_
        exact xL_28 (nI i) sI sR tI tR hI hR mI mR oI oR F hX hkn (fun sI_ sR_ tI_ tR_ hI_ hR_ mI_ mR_ oI_ oR_ hv => back ko aK k n sI_ sR_ tI_ tR_ hI_ hR_ mI_ mR_ oI_ oR_ h3 h4 h5 hv) (hI0.2.2.2.2.2.2.2.2.2.2.2.2.2.2.2.2.2.2.2.2.2.2.2.2.2.2.2.2.1 i ko sI sR tI tR hI hR mI mR oI oR hi4 ec hinv)
      | 29, _, ec =>
        refine z_tab (off := 1021) F dL_law_32 1053 (by rw [ec]; decide +kernel) (by rw [ec]; decide +kernel) (by rw [ec]; decide +kernel) rfl ?_
        cases ko with
        | none =>
          have h3 := h3 rfl
          have e0 : (wSt aH aM aT aS (zKp none aK) cyI sI sR ++ wTe aT cyB tI tR ++ wHo aH cyI hI hR ++ wMi aH aM cyI mI mR ++ wMo aO cyI oI oR ++ zKw cyI none aK) = (wSt aH aM aT aS .null cyI sI sR ++ wTe aT cyB tI tR ++ wHo aH cyI hI hR ++ wMi aH aM cyI mI mR ++ wMo aO cyI oI oR) := List.append_nil _
          rw [e0]
          exact xL_29N (nI i) sI sR tI tR hI hR mI mR oI oR F ⟨Nat.le_trans (Nat.add_le_add_right h3.1 12) (by decide +kernel), Nat.le_trans (Nat.add_le_add_right h3.2 106) (by decide +kernel)⟩ (fun u gI gR oI_ oR_ hv => back (some (gI, gR)) u (k + 12) (n + 106) sI sR tI tR hI hR mI mR oI_ oR_ (fun h => by cases h) (by omega) (by omega) hv) (hI0.2.2.2.2.2.2.2.2.2.2.2.2.2.2.2.2.2.2.2.2.2.2.2.2.2.2.2.2.2.2.2.1 i sI sR tI tR hI hR mI mR oI oR hi4 ec hinv)
        | some g =>
          obtain ⟨gI, gR⟩ := g
          refine z_swap (ws' := (wSt aH aM aT aS (.ref (aK 0)) cyI sI sR ++ wTe aT cyB tI tR ++ wHo aH cyI hI hR ++ wHo aK cyI gI gR ++ wMi aH aM cyI mI mR ++ wMo aO cyI oI oR)) (wSt aH aM aT aS (.ref (aK 0)) cyI sI sR ++ wTe aT cyB tI tR ++ wHo aH cyI hI hR) (wMi aH aM cyI mI mR ++ wMo aO cyI oI oR) (wHo aK cyI gI gR) [] (by show (wSt aH aM aT aS (.ref (aK 0)) cyI sI sR ++ wTe aT cyB tI tR ++ wHo aH cyI hI hR ++ wMi aH aM cyI mI mR ++ wMo aO cyI oI oR ++ wHo aK cyI gI gR) = _; simp only [List.append_assoc, List.nil_append, List.append_nil]) (by simp only [List.append_assoc, List.nil_append, List.append_nil]) ?_
          refine xL_29S (nI i) sI sR tI tR hI hR gI gR mI mR oI oR F hX hkn (fun sI_ sR_ tI_ tR_ hI_ hR_ gI_ gR_ mI_ mR_ oI_ oR_ hv => ?_) (hI0.2.2.2.2.2.2.2.2.2.2.2.2.2.2.2.2.2.2.2.2.2.2.2.2.2.2.2.2.2.2.1 i sI sR tI tR hI hR gI gR mI mR oI oR hi4 ec hinv)
          refine z_swap (ws' := (wSt aH aM aT aS (.ref (aK 0)) cyI sI_ sR_ ++ wTe aT cyB tI_ tR_ ++ wHo aH cyI hI_ hR_ ++ wMi aH aM cyI mI_ mR_ ++ wMo aO cyI oI_ oR_ ++ wHo aK cyI gI_ gR_)) (wSt aH aM aT aS (.ref (aK 0)) cyI sI_ sR_ ++ wTe aT cyB tI_ tR_ ++ wHo aH cyI hI_ hR_) (wHo aK cyI gI_ gR_) (wMi aH aM cyI mI_ mR_ ++ wMo aO cyI oI_ oR_) [] (by simp only [List.append_assoc, List.nil_append, List.append_nil]) (by simp only [List.append_assoc, List.nil_append, List.append_nil]) ?_
          exact back (some (gI_, gR_)) aK k n sI_ sR_ tI_ tR_ hI_ hR_ mI_ mR_ oI_ oR_ (fun h => by cases h) h4 h5 hv
      | 30, _, ec =>
        refine z_tab (off := 1034) F dL_law_32 1066 (by rw [ec]; decide +kernel) (by rw [ec]; decide +kernel) (by rw [ec]; decide +kernel) rfl ?_
        cases ko with
        | none =>
          exact xL_30N (nI i) sI sR tI tR hI hR mI mR oI oR F hX hkn (fun sI_ sR_ tI_ tR_ hI_ hR_ mI_ mR_ oI_ oR_ hv => back none aK k n sI_ sR_ tI_ tR_ hI_ hR_ mI_ mR_ oI_ oR_ h3 h4 h5 hv) (hI0.2.2.2.2.2.2.2.2.2.2.2.2.2.2.2.2.2.2.2.2.2.2.2.2.2.2.2.2.2.2.2.2.2 i sI sR tI tR hI hR mI mR oI oR hi4 ec hinv)
        | some g =>
          obtain ⟨gI, gR⟩ := g
          refine z_swap (ws' := (wSt aH aM aT aS (.ref (aK 0)) cyI sI sR ++ wTe aT cyB tI tR ++ wHo aH cyI hI hR ++ wHo aK cyI gI gR ++ wMi aH aM cyI mI mR ++ wMo aO cyI oI oR)) (wSt aH aM aT aS (.ref (aK 0)) cyI sI sR ++ wTe aT cyB tI tR ++ wHo aH cyI hI hR) (wMi aH aM cyI mI mR ++ wMo aO cyI oI oR) (wHo aK cyI gI gR) [] (by show (wSt aH aM aT aS (.ref (aK 0)) cyI sI sR ++ wTe aT cyB tI tR ++ wHo aH cyI hI hR ++ wMi aH aM cyI mI mR ++ wMo aO cyI oI oR ++ wHo aK cyI gI gR) = _; simp only [List.append_assoc, List.nil_append, List.append_nil]) (by simp only [List.append_assoc, List.nil_append, List.append_nil]) ?_
          refine xL_30S (nI i) sI sR tI tR hI hR gI gR mI mR oI oR F hX hkn (fun sI_ sR_ tI_ tR_ hI_ hR_ gI_ gR_ mI_ mR_ oI_ oR_ hv => ?_) (hI0.2.2.2.2.2.2.2.2.2.2.2.2.2.2.2.2.2.2.2.2.2.2.2.2.2.2.2.2.2.2.2.2.1 i sI sR tI tR hI hR gI gR mI mR oI oR hi4 ec hinv)
          refine z_swap (ws' := (wSt aH aM aT aS (.ref (aK 0)) cyI sI_ sR_ ++ wTe aT cyB tI_ tR_ ++ wHo aH cyI hI_ hR_ ++ wMi aH aM cyI mI_ mR_ ++ wMo aO cyI oI_ oR_ ++ wHo aK cyI gI_ gR_)) (wSt aH aM aT aS (.ref (aK 0)) cyI sI_ sR_ ++ wTe aT cyB tI_ tR_ ++ wHo aH cyI hI_ hR_) (wHo aK cyI gI_ gR_) (wMi aH aM cyI mI_ mR_ ++ wMo aO cyI oI_ oR_) [] (by simp only [List.append_assoc, List.nil_append, List.append_nil]) (by simp only [List.append_assoc, List.nil_append, List.append_nil]) ?_
          exact back (some (gI_, gR_)) aK k n sI_ sR_ tI_ tR_ hI_ hR_ mI_ mR_ oI_ oR_ (fun h => by cases h) h4 h5 hv
      | 31, _, ec =>
        refine z_tab (off := 1047) F dL_law_32 1079 (by rw [ec]; decide +kernel) (by rw [ec]; decide +kernel) (by rw [ec]; decide +kernel) rfl ?_
        exact xL_31 (nI i) sI sR tI tR hI hR mI mR oI oR F hX hkn (fun sI_ sR_ tI_ tR_ hI_ hR_ mI_ mR_ oI_ oR_ hv => back ko aK k n sI_ sR_ tI_ tR_ hI_ hR_ mI_ mR_ oI_ oR_ h3 h4 h5 hv) (hI0.2.2.2.2.2.2.2.2.2.2.2.2.2.2.2.2.2.2.2.2.2.2.2.2.2.2.2.2.2.1 i ko sI sR tI tR hI hR mI mR oI oR hi4 ec hinv)
      | q + 32, hq, _ => omega
