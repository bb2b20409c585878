/-! questions: knows, known, stays, safe, keys -/
theorem tg0 {g : Nat → Nat} {r : Nat → Nat → Nat} (hg : HG g r) : TG g (r 0) (g 3) (hs0 g) := ⟨fun i hi => (hg.2.2.2.2.2.2.2.1 i hi).1, hg.2.2.2.1, nd_lt (by have := Nat.two_pow_pos (g 1); omega)⟩
/-- after a question -/
theorem zK3 {g : Nat → Nat} {r : Nat → Nat → Nat} {ko : Option ((Nat → Int32) × (Nat → Nat → Int32))} {sI : Nat → Int32} {sR : Nat → Nat → Int32} {tI : Nat → Int32} {tR : Nat → Nat → Int32} {hI : Nat → Int32} {hR : Nat → Nat → Int32} {mI : Nat → Int32} {mR : Nat → Nat → Int32} {oI : Nat → Int32} {oR : Nat → Nat → Int32} (hg : HG g r) (hh : HR_ hI hR g r) (ho : OM oI oR g r) (hr : RM ko sI sR tI tR oI oR) (a b c : Nat → Int32) : zIn ko sI sR tI tR hI hR mI mR oI (K3 oR a b c) := ⟨g, r, hg, hh, ho.same (fun _ _ => rfl) (rO_K3 oR a b c), hr.sameO (fun _ _ => rfl) (rO_K3 oR a b c)⟩
/-- the reference looks up what is known -/
theorem fk6 {g : Nat → Nat} {r : Nat → Nat → Nat} {oI : Nat → Int32} {oR : Nat → Nat → Int32} (hg : HG g r) (ho : OM oI oR g r) {post : (Nat → Int32) → (Nat → Nat → Int32) → Prop} (h : ∀ a b c : Nat → Int32, (∀ j, j < g 1 → a j = nI (un (r 0) (sn r 0 (g 4) j) 8)) → (∀ j, j < g 1 → b j = nI (un (r 0) (sc r 0 (g 4) (g 5) j) 8)) → OK_ oI (K3 oR a b c) g r (r 0) 0 (g 3) → post oI (K3 oR a b c)) : pX6_findKnown oI oR post := sX6_findKnown hg ho.1 (by decide) (fun a b c ha hb => h a b c ha hb ⟨ho.1.K3 a b c, hb⟩)
theorem fzK {g : Nat → Nat} {r : Nat → Nat → Nat} {ko : Option ((Nat → Int32) × (Nat → Nat → Int32))} {sI : Nat → Int32} {sR : Nat → Nat → Int32} {tI : Nat → Int32} {tR : Nat → Nat → Int32} {hI : Nat → Int32} {hR : Nat → Nat → Int32} {mI : Nat → Int32} {mR : Nat → Nat → Int32} {oI : Nat → Int32} {oR : Nat → Nat → Int32} (hg : HG g r) (hh : HR_ hI hR g r) (ho : OM oI oR g r) (hr : RM ko sI sR tI tR oI oR) {k : Nat} (hk : k < 7) : zIn ko sI (va_up sR 1 (upd (sR 1) k (sR 1 k + 1))) tI tR hI hR mI mR oI (va_up oR 0 (upd (oR 0) k (oR 0 k + 1))) := ⟨g, r, hg, hh, ho.ref _, hr.ref hk⟩
theorem sX2_knownTo {g : Nat → Nat} {r : Nat → Nat → Nat} {hI : Nat → Int32} {hR : Nat → Nat → Int32} {mI : Nat → Int32} {mR : Nat → Nat → Int32} {t : Nat → Nat} {w p hs : Nat} (hg : HG g r) (hm : MB mI mR g r t w p hs) {S : Nat} (hS : S < 2 ^ (g 1)) {post : Int32 → Prop} (h : post (nI (kn g r t w S))) : pX2_knownTo (nI S) hI hR mI mR post := by
  have b1 := hg.2.1
  unfold pX2_knownTo
  refine sX2_union (f := sc r w (g 4) (g 5)) (fun i _ hb => hm.2.2.2.2.2.2.2 i (tb_lt' hS hb)) (lt31 hS (by omega)) ?_
  exact sX2_union (f := t) (fun i hi _ => hm.2.2.2.2.1 i hi) (lt31 (scS_lt hg w hS) (by omega)) h
theorem kn_one {g : Nat → Nat} {r : Nat → Nat → Nat} {t : Nat → Nat} {w a : Nat} (ha : a < 8) : kn g r t w (2 ^ a) = un t (sc r w (g 4) (g 5) a) 8 := by
  unfold kn
  rw [un_one ha]
theorem zc_11 {L : Nat} {xs : Nat → Int32} {i : Nat} (hi : i + 4 ≤ L) {ko : Option ((Nat → Int32) × (Nat → Nat → Int32))} {sI : Nat → Int32} {sR : Nat → Nat → Int32} {tI : Nat → Int32} {tR : Nat → Nat → Int32} {hI : Nat → Int32} {hR : Nat → Nat → Int32} {mI : Nat → Int32} {mR : Nat → Nat → Int32} {oI : Nat → Int32} {oR : Nat → Nat → Int32} (h : zIn ko sI sR tI tR hI hR mI mR oI oR) : pL_11 L xs (nI i) sI sR tI tR hI hR mI mR oI oR (zIn ko) := by
  obtain ⟨g, r, hg, hh, ho, hr⟩ := h
  have b0 := hg.1
  have b1 := hg.2.1
  have e0 : hI 0 = nI (g 0) := hh.1 0 (by decide)
  have e1 : hI 1 = nI (g 1) := hh.1 1 (by decide)
  have o0 : oI 10 = nI (g 0) := ho.1.1.1
  have o1 : oI 11 = nI (g 1) := ho.1.1.2.1
  refine ⟨i + 1, nI_1 i, by omega, i + 2, nI_add i 2, by omega, ?_⟩
  generalize xs (i + 1) = x
  generalize xs (i + 2) = y
  unfold pX5_knows pX6_knows
  refine sX1_isHand e1 b1 (fun q => ⟨fun z => (by cases z), fun _ => refC (k := 1) (by decide) (by decide) ?_⟩) (fun a ha ea => ⟨fun _ => ?_, fun z => (by cases z)⟩)
  · exact sX6_isHand o1 b1 (fun _ => ⟨fun z => (by cases z), fun _ => refM (k := 1) (by decide) (by decide) (fin2 rfl (fzK hg hh ho hr (by decide)))⟩) (fun a ha ea => absurd ⟨a, ha, ea⟩ q)
  subst ea
  have o2 : ∀ P : Bool → Prop, P true → pX6_isHand (nI a) oI oR P := fun P hp => sX6_isHand o1 b1 (fun q => absurd ⟨a, ha, rfl⟩ q) (fun _ _ _ => hp)
  have rfs : (¬ ∃ v, 0 ≤ v ∧ v ≤ 3 ∧ y = nI v) → pX6_isIn y 0 3 (fun b2 => ((b2 = true → (pX6_findKnown oI oR (fun oI_1 oR_1 => False))) ∧ (b2 = false → True))) := fun q => in16 (a := 0) (b := 3) (by decide) (by decide) (fun _ => ⟨fun z => (by cases z), fun _ => trivial⟩) (fun v v1 v2 v3 => absurd ⟨v, v1, v2, v3⟩ q)
  clear rfs
  rcases bnd y (a := 0) (b := 3) (by decide) (by decide) with c | c | ⟨v, v1, v2, ev⟩
  · refine ⟨fun _ => refC (k := 2) (by decide) (by decide) (o2 _ ⟨fun _ => ⟨fun _ => ⟨fun z => (by cases z), fun _ => refM (k := 2) (by decide) (by decide) (fin2 rfl (fzK hg hh ho hr (by decide)))⟩, fun q => absurd c q⟩, fun z => (by cases z)⟩), fun q => absurd c q⟩
  · have c0 := lt_hi (a := 0) (by decide) (by decide) c
    refine ⟨fun q => absurd q (Int32.not_lt.mpr c0), fun _ => ⟨fun q => absurd c (Int32.not_lt.mpr q), fun _ => refC (k := 2) (by decide) (by decide) (o2 _ ⟨fun _ => ⟨fun q => absurd q (Int32.not_lt.mpr c0), fun _ => ⟨fun _ => ⟨fun z => (by cases z), fun _ => refM (k := 2) (by decide) (by decide) (fin2 rfl (fzK hg hh ho hr (by decide)))⟩, fun q => absurd c q⟩⟩, fun z => (by cases z)⟩)⟩⟩
  subst ev
  have in3 : ∀ P : Bool → Prop, P true → pX6_isIn (nI v) 0 3 P := fun P hP => in16 (a := 0) (b := 3) (by decide) (by decide) (fun q => absurd ⟨v, v1, v2, rfl⟩ q) (fun _ _ _ _ => hP)
  have l3 : nI v ≤ (3 : Int32) := nI_le (b := 3) v2 (by decide)
  refine ⟨fun q => absurd q (nI_pos (by omega)), fun _ => ⟨fun _ => sX2_begin hg hh (fun mI' mR' hm => ?_), fun q => absurd l3 q⟩⟩
  have two : (1 : Int32) <<< (nI a &&& 31) = nI (2 ^ a) := q_shl1 (by omega)
  have h2a : 2 ^ a < 2 ^ (g 1) := Nat.pow_lt_pow_right (by decide) ha
  rw [two]
  have rf : ∀ {Q : Int32 → (Nat → Int32) → (Nat → Nat → Int32) → Prop}, (∀ a' b' c', (∀ j, j < g 1 → a' j = nI (un (r 0) (sn r 0 (g 4) j) 8)) → (∀ j, j < g 1 → b' j = nI (un (r 0) (sc r 0 (g 4) (g 5) j) 8)) → OK_ oI (K3 oR a' b' c') g r (r 0) 0 (g 3) → ((¬ nI v = 0 → ((¬ nI v = 1 → ((¬ nI v = 2 → (∃ j1 : Nat, nI a = nI j1 ∧ j1 < 8 ∧ (pX6_guessedFrom (((K3 oR a' b' c') 20) j1) oI (K3 oR a' b' c') (fun r1 => (Q r1 oI (K3 oR a' b' c')))))) ∧ (nI v = 2 → (∃ j2 : Nat, nI a = nI j2 ∧ j2 < 8 ∧ (Q (((K3 oR a' b' c') 20) j2) oI (K3 oR a' b' c')))))) ∧ (nI v = 1 → (∃ j3 : Nat, nI a = nI j3 ∧ j3 < 8 ∧ (Q (((K3 oR a' b' c') 19) j3) oI (K3 oR a' b' c')))))) ∧ (nI v = 0 → (∃ j4 : Nat, nI a = nI j4 ∧ j4 < 8 ∧ (Q (((K3 oR a' b' c') 1) j4) oI (K3 oR a' b' c')))))) → pX6_knows (nI a) (nI v) oI oR Q := by
    intro Q h
    unfold pX6_knows
    exact o2 _ ⟨fun _ => in3 _ ⟨fun _ => fk6 hg ho (fun a' b' c' h1 h2 h3 => h a' b' c' h1 h2 h3), fun z => (by cases z)⟩, fun z => (by cases z)⟩
  have hv : v = 0 ∨ v = 1 ∨ v = 2 ∨ v = 3 := by omega
  have fin : ∀ (x y : Int32) a' b' c', x = y → ((x = y → zIn ko sI sR tI tR hI hR mI' mR' oI (K3 oR a' b' c')) ∧ (¬ x = y → False)) := fun x y a' b' c' e => fin2 e (zK3 hg hh ho hr a' b' c')
  rcases hv with e | e | e | e <;> subst e
  · refine ⟨fun _ => ⟨a, rfl, by omega, rf (fun a' b' c' h1 h2 h3 => ⟨fun q => absurd rfl q, fun _ => ⟨a, rfl, by omega, fin _ _ _ _ _ ?_⟩⟩)⟩, fun q => absurd q (by decide), fun q => absurd q (by decide), fun q => absurd rfl q⟩
    rw [hh.2.1 0 (by decide) a (by omega), K3_ne _ _ _ _ (by decide), ho.1.2.1 a (by omega)]
  · refine ⟨fun q => absurd q (by decide), fun _ => ?_, fun q => absurd q (by decide), fun _ q => absurd rfl q⟩
    unfold pX2_seenBy
    refine ⟨a, rfl, by omega, ?_⟩
    rw [hm.2.2.2.2.2.2.1 a (by omega)]
    refine sX2_union (f := r 0) (fun i hi _ => hm.2.2.2.2.1 i hi) (lt31 (sn_lt _ hg.2.2.2.2.2.2.2.2.1 a ha) (by omega)) (rf (fun a' b' c' h1 h2 h3 => ⟨fun _ => ⟨fun q => absurd rfl q, fun _ => ⟨a, rfl, by omega, fin _ _ _ _ _ ?_⟩⟩, fun q => absurd q (by decide)⟩))
    show _ = a' a
    rw [h1 a ha]
  · refine ⟨fun q => absurd q (by decide), fun q => absurd q (by decide), fun _ => sX2_knownTo hg hm h2a (rf (fun a' b' c' h1 h2 h3 => ⟨fun _ => ⟨fun _ => ⟨fun q => absurd rfl q, fun _ => ⟨a, rfl, by omega, fin _ _ _ _ _ ?_⟩⟩, fun q => absurd q (by decide)⟩, fun q => absurd q (by decide)⟩)), fun _ _ q => absurd rfl q⟩
    show _ = b' a
    rw [h2 a ha, kn_one (by omega)]
  · have hk := kn_lt hg (tg0 hg).1 0 h2a
    refine ⟨fun q => absurd q (by decide), fun q => absurd q (by decide), fun q => absurd q (by decide), fun _ _ _ => sX2_knownTo hg hm h2a (sX2_guessedFrom hg hh hk hm.2.2.1 (rf (fun a' b' c' h1 h2 h3 => ⟨fun _ => ⟨fun _ => ⟨fun _ => ⟨a, rfl, by omega, ?_⟩, fun q => absurd q (by decide)⟩, fun q => absurd q (by decide)⟩, fun q => absurd q (by decide)⟩)))⟩
    show pX6_guessedFrom (b' a) _ _ _
    rw [h2 a ha, ← kn_one (g := g) (r := r) (t := r 0) (w := 0) (by omega)]
    exact sX6_guessedFrom hg h3.1 hk (fin _ _ _ _ _ rfl)
