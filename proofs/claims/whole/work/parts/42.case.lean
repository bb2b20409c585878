/-! questions: known, stays, safe, keys -/
theorem knownZ {g : Nat → Nat} {r : Nat → Nat → Nat} {ko : Option ((Nat → Int32) × (Nat → Nat → Int32))} {sI : Nat → Int32} {sR : Nat → Nat → Int32} {tI : Nat → Int32} {tR : Nat → Nat → Int32} {hI : Nat → Int32} {hR : Nat → Nat → Int32} {mI : Nat → Int32} {mR : Nat → Nat → Int32} {oI : Nat → Int32} {oR : Nat → Nat → Int32} (hg : HG g r) (hh : HR_ hI hR g r) (ho : OM oI oR g r) (hr : RM ko sI sR tI tR oI oR) (x : Int32) (z : Bool) {post : Int32 → (Nat → Int32) → (Nat → Nat → Int32) → (Nat → Int32) → (Nat → Nat → Int32) → Prop} (h : ∀ v sR' mI' mR', (∀ Q : Int32 → (Nat → Int32) → (Nat → Nat → Int32) → Prop, (∀ oR', zIn ko sI sR' tI tR hI hR mI' mR' oI oR' → Q v oI oR') → pX6_known x z oI oR Q) → post v sI sR' mI' mR') : pX5_known x z sI sR tI tR hI hR mI mR post := by
  have b0 := hg.1
  have b1 := hg.2.1
  have e1 : hI 1 = nI (g 1) := hh.1 1 (by decide)
  have o1 : oI 11 = nI (g 1) := ho.1.1.2.1
  have t0 := tg0 hg
  unfold pX5_known pX1_isHandSet
  rw [e1]
  have st := stp (n := g 1) (by omega) x
  refine ⟨fun c => ⟨fun w => (by cases w), fun _ => refC (k := 1) (by decide) (by decide) (h _ _ _ _ (fun Q hQ => ?_))⟩, fun c => ⟨fun _ => ?_, fun w => (by cases w)⟩⟩
  · unfold pX6_known
    rw [o1]
    exact ⟨fun _ => refM (k := 1) (by decide) (by decide) (hQ _ (fzK hg hh ho hr (by decide))), fun _ => ⟨fun q => absurd q c, fun _ => refM (k := 1) (by decide) (by decide) (hQ _ (fzK hg hh ho hr (by decide)))⟩⟩
  · obtain ⟨S, hS, eS⟩ := st.mp c
    subst eS
    refine sX2_begin hg hh (fun mI' mR' hm => sX2_knownTo hg hm hS ?_)
    have hk := kn_lt hg t0.1 0 hS
    have rf : ∀ Q : Int32 → (Nat → Int32) → (Nat → Nat → Int32) → Prop, (∀ oR', zIn ko sI sR tI tR hI hR mI' mR' oI oR' → Q (nI (cl g r (kn g r (r 0) 0 S ||| (if z then g 3 else 0)))) oI oR') → pX6_known (nI S) z oI oR Q := by
      intro Q hQ
      unfold pX6_known
      rw [o1]
      exact ⟨fun q => absurd q (nI_pos (lt31 hS (by omega))), fun _ => ⟨fun _ => fk6 hg ho (fun a' b' c' h1 h2 h3 => sX6_knownBy hg h3 t0.1 t0.2.1 hS (hQ _ (zK3 hg hh ho hr a' b' c'))), fun q => absurd c q⟩⟩
    cases z with
    | false =>
      refine ⟨fun _ => ?_, fun w => (by cases w)⟩
      rw [show (0 : Int32) = nI 0 from rfl, q_or, Nat.or_zero]
      refine sX2_guessedFrom hg hh hk hm.2.2.1 (h _ _ _ _ ?_)
      have e : kn g r (r 0) 0 S ||| (if false then g 3 else 0) = kn g r (r 0) 0 S := Nat.or_zero _
      rw [e] at rf
      exact rf
    | true =>
      refine ⟨fun w => (by cases w), fun _ => ?_⟩
      rw [hh.1 3 (by decide), q_or]
      exact sX2_guessedFrom hg hh (or_lt hk t0.2.1) hm.2.2.1 (h _ _ _ _ rf)
theorem zc_12 {L : Nat} {xs : Nat → Int32} {i : Nat} (hi : i + 4 ≤ L) {ko : Option ((Nat → Int32) × (Nat → Nat → Int32))} {sI : Nat → Int32} {sR : Nat → Nat → Int32} {tI : Nat → Int32} {tR : Nat → Nat → Int32} {hI : Nat → Int32} {hR : Nat → Nat → Int32} {mI : Nat → Int32} {mR : Nat → Nat → Int32} {oI : Nat → Int32} {oR : Nat → Nat → Int32} (h : zIn ko sI sR tI tR hI hR mI mR oI oR) : pL_12 L xs (nI i) sI sR tI tR hI hR mI mR oI oR (zIn ko) := by
  obtain ⟨g, r, hg, hh, ho, hr⟩ := h
  have b0 := hg.1
  have b1 := hg.2.1
  have e0 : hI 0 = nI (g 0) := hh.1 0 (by decide)
  have e1 : hI 1 = nI (g 1) := hh.1 1 (by decide)
  have o0 : oI 10 = nI (g 0) := ho.1.1.1
  have o1 : oI 11 = nI (g 1) := ho.1.1.2.1
  refine ⟨i + 1, nI_1 i, by omega, i + 2, nI_add i 2, by omega, ?_⟩
  generalize xs (i + 1) = x
  generalize xs (i + 2) = u
  exact ⟨fun c => knownZ hg hh ho hr x false (fun v sR' mI' mR' h => ⟨fun _ => h _ (fun oR' z => fin2 rfl z), fun q => absurd c q⟩), fun c => knownZ hg hh ho hr x true (fun v sR' mI' mR' h => ⟨fun q => absurd q c, fun _ => h _ (fun oR' z => fin2 rfl z)⟩)⟩
/-- yes or no, alike -/
theorem yn2 {ko : Option ((Nat → Int32) × (Nat → Nat → Int32))} {sI : Nat → Int32} {sR : Nat → Nat → Int32} {tI : Nat → Int32} {tR : Nat → Nat → Int32} {hI : Nat → Int32} {hR : Nat → Nat → Int32} {b : Bool} {mI' : Nat → Int32} {mR' : Nat → Nat → Int32} {F : (Int32 → (Nat → Int32) → (Nat → Nat → Int32) → Prop) → Prop} (h : ∀ Q : Int32 → (Nat → Int32) → (Nat → Nat → Int32) → Prop, (∀ oI' oR', zIn ko sI sR tI tR hI hR mI' mR' oI' oR' → Q (zb b) oI' oR') → F Q) : ((b = false → F (fun r2 oI_1 oR_1 => (((0 : Int32) = r2 → zIn ko sI sR tI tR hI hR mI' mR' oI_1 oR_1) ∧ (¬ (0 : Int32) = r2 → False)))) ∧ (b = true → F (fun r2 oI_1 oR_1 => (((1 : Int32) = r2 → zIn ko sI sR tI tR hI hR mI' mR' oI_1 oR_1) ∧ (¬ (1 : Int32) = r2 → False))))) := by
  refine ⟨fun e => ?_, fun e => ?_⟩
  · subst e; exact h _ (fun _ _ z => fin2 rfl z)
  · subst e; exact h _ (fun _ _ z => fin2 rfl z)
theorem yn6 {b : Bool} {P : Int32 → Prop} (h : P (zb b)) : (b = false → P 0) ∧ (b = true → P 1) := by
  cases b
  · exact ⟨fun _ => h, fun z => (by cases z)⟩
  · exact ⟨fun z => (by cases z), fun _ => h⟩
theorem bIff {b c : Bool} {P : Prop} (h1 : b = true ↔ P) (h2 : c = true ↔ P) : b = c := by
  cases b <;> cases c
  · rfl
  · exact h1.mpr (h2.mp rfl)
  · exact (h2.mpr (h1.mp rfl)).symm
  · rfl
theorem zc_13 {L : Nat} {xs : Nat → Int32} {i : Nat} (hi : i + 4 ≤ L) {ko : Option ((Nat → Int32) × (Nat → Nat → Int32))} {sI : Nat → Int32} {sR : Nat → Nat → Int32} {tI : Nat → Int32} {tR : Nat → Nat → Int32} {hI : Nat → Int32} {hR : Nat → Nat → Int32} {mI : Nat → Int32} {mR : Nat → Nat → Int32} {oI : Nat → Int32} {oR : Nat → Nat → Int32} (h : zIn ko sI sR tI tR hI hR mI mR oI oR) : pL_13 L xs (nI i) sI sR tI tR hI hR mI mR oI oR (zIn ko) := by
  obtain ⟨g, r, hg, hh, ho, hr⟩ := h
  have b0 := hg.1
  have b1 := hg.2.1
  have e0 : hI 0 = nI (g 0) := hh.1 0 (by decide)
  have e1 : hI 1 = nI (g 1) := hh.1 1 (by decide)
  have o0 : oI 10 = nI (g 0) := ho.1.1.1
  have o1 : oI 11 = nI (g 1) := ho.1.1.2.1
  refine ⟨i + 1, nI_1 i, by omega, ?_⟩
  generalize xs (i + 1) = x
  have t0 := tg0 hg
  unfold pX5_stays pX6_stays
  rcases bnd x (a := 0) (b := 8) (by decide) (by decide) with c | c | ⟨v, v1, v2, ev⟩
  · exact oLo c ⟨fun q => absurd q (by decide), fun _ => refC (k := 4) (by decide) (by decide) (bLo c ⟨fun q => absurd q (by decide), fun _ => refM (k := 4) (by decide) (by decide) (fin2 rfl (fzK hg hh ho hr (by decide)))⟩)⟩
  · have c0 := lt_hi (a := 0) (by decide) (by decide) c
    exact oHi c0 c ⟨fun q => absurd q (by decide), fun _ => refC (k := 6) (by decide) (by decide) (bHi c0 c ⟨fun q => absurd q (by decide), fun _ => refM (k := 6) (by decide) (by decide) (fin2 rfl (fzK hg hh ho hr (by decide)))⟩)⟩
  subst ev
  refine oIn (nI_pos' (by omega)) (nI_le (b := 8) v2 (by decide)) ⟨fun _ => sX2_begin hg hh (fun mI' mR' hm => ?_), fun q => absurd rfl q⟩
  refine sX2_chooseLeavers hg hm t0.2.2 v2 (fun zz st f hch => ?_)
  refine sX2_isKept (j := v) hg hh (MB.up5 (MB.up5 (MB.up4 hm 4 (by decide) f) 4 (by decide) zz) 5 (by decide) st) t0 hch (fun b st2 hb _ => ?_)
  refine yn2 (F := fun Q => pX6_bound (nI v) 0 8 (fun r1 => ((r1 = 0 → (pX6_findKnown oI oR (fun oI_1 oR_1 => (pX6_holdsAgainst (nI v) false oI_1 oR_1 (fun b1 => ((b1 = false → (Q 0 oI_1 oR_1)) ∧ (b1 = true → (Q 1 oI_1 oR_1)))))))) ∧ (¬ r1 = 0 → (pX6_no r1 oI oR (fun r2 oI_2 oR_2 => (Q r2 oI_2 oR_2))))))) (fun Q hQ => ?_)
  refine bIn (nI_pos' (by omega)) (nI_le (b := 8) v2 (by decide)) ⟨fun _ => fk6 hg ho (fun a' b' c' h1 h2 h3 => sX6_holdsAgainst (z := false) hg h3 t0 v2 (fun b2 hb2 => yn6 (P := fun w => Q w oI (K3 oR a' b' c')) ?_)), fun q => absurd rfl q⟩
  rw [bIff hb2 hb]
  exact hQ _ _ (zK3 hg hh ho hr a' b' c')
theorem zc_14 {L : Nat} {xs : Nat → Int32} {i : Nat} (hi : i + 4 ≤ L) {ko : Option ((Nat → Int32) × (Nat → Nat → Int32))} {sI : Nat → Int32} {sR : Nat → Nat → Int32} {tI : Nat → Int32} {tR : Nat → Nat → Int32} {hI : Nat → Int32} {hR : Nat → Nat → Int32} {mI : Nat → Int32} {mR : Nat → Nat → Int32} {oI : Nat → Int32} {oR : Nat → Nat → Int32} (h : zIn ko sI sR tI tR hI hR mI mR oI oR) : pL_14 L xs (nI i) sI sR tI tR hI hR mI mR oI oR (zIn ko) := by
  obtain ⟨g, r, hg, hh, ho, hr⟩ := h
  have b0 := hg.1
  have b1 := hg.2.1
  have e0 : hI 0 = nI (g 0) := hh.1 0 (by decide)
  have e1 : hI 1 = nI (g 1) := hh.1 1 (by decide)
  have o0 : oI 10 = nI (g 0) := ho.1.1.1
  have o1 : oI 11 = nI (g 1) := ho.1.1.2.1
  refine ⟨i + 1, nI_1 i, by omega, ?_⟩
  generalize xs (i + 1) = x
  have t0 := tg0 hg
  unfold pX5_safe pX6_safe
  rcases bnd x (a := 0) (b := 8) (by decide) (by decide) with c | c | ⟨v, v1, v2, ev⟩
  · exact oLo c ⟨fun q => absurd q (by decide), fun _ => refC (k := 4) (by decide) (by decide) (bLo c ⟨fun q => absurd q (by decide), fun _ => refM (k := 4) (by decide) (by decide) (fin2 rfl (fzK hg hh ho hr (by decide)))⟩)⟩
  · have c0 := lt_hi (a := 0) (by decide) (by decide) c
    exact oHi c0 c ⟨fun q => absurd q (by decide), fun _ => refC (k := 6) (by decide) (by decide) (bHi c0 c ⟨fun q => absurd q (by decide), fun _ => refM (k := 6) (by decide) (by decide) (fin2 rfl (fzK hg hh ho hr (by decide)))⟩)⟩
  subst ev
  refine oIn (nI_pos' (by omega)) (nI_le (b := 8) v2 (by decide)) ⟨fun _ => sX2_begin hg hh (fun mI' mR' hm => ?_), fun q => absurd rfl q⟩
  refine sX2_chooseTakers hg hm t0.2.2 v2 (fun zz st f hch => ?_)
  refine sX2_isSafe (j := v) hg hh (MB.up5 (MB.up5 (MB.up4 hm 5 (by decide) f) 6 (by decide) zz) 7 (by decide) st) t0 hch (fun b st2 hb _ => ?_)
  refine yn2 (F := fun Q => pX6_bound (nI v) 0 8 (fun r1 => ((r1 = 0 → (pX6_findKnown oI oR (fun oI_1 oR_1 => (pX6_holdsAgainst (nI v) true oI_1 oR_1 (fun b1 => ((b1 = false → (Q 0 oI_1 oR_1)) ∧ (b1 = true → (Q 1 oI_1 oR_1)))))))) ∧ (¬ r1 = 0 → (pX6_no r1 oI oR (fun r2 oI_2 oR_2 => (Q r2 oI_2 oR_2))))))) (fun Q hQ => ?_)
  refine bIn (nI_pos' (by omega)) (nI_le (b := 8) v2 (by decide)) ⟨fun _ => fk6 hg ho (fun a' b' c' h1 h2 h3 => sX6_holdsAgainst (z := true) hg h3 t0 v2 (fun b2 hb2 => yn6 (P := fun w => Q w oI (K3 oR a' b' c')) ?_)), fun q => absurd rfl q⟩
  rw [bIff hb2 hb]
  exact hQ _ _ (zK3 hg hh ho hr a' b' c')
