/-! the text: all of it -/
theorem st_all {n p : Nat} {c : Nat → Nat} {g : Nat → Nat} {r : Nat → Nat → Nat} {hI : Nat → Int32} {hR : Nat → Nat → Int32} {tI : Nat → Int32} {tR : Nat → Nat → Int32} {oI : Nat → Int32} {oR : Nat → Nat → Int32} (hg : HG g r) (hh : HR_ hI hR g r) (ho : OM oI oR g r) (hx : TX n c tI tR) (hy : OX n c oI oR) (hp : p < n) {post : Bool → (Nat → Int32) → (Nat → Nat → Int32) → (Nat → Int32) → (Nat → Nat → Int32) → Prop} (hl : Lf n p oI oR tI tR post) : pX4_readStatement (va_up tI 1 (nI p)) tR hI hR post := by
  have b1 := hg.2.1
  have b4 := hg.2.2.2.2.1
  have b5 := hg.2.2.2.2.2.1
  have b6 := hg.2.2.2.2.2.2.1
  have n8 := hx.2.1
  have hc := (hx.2.2 p hp).1
  have no : ¬ (c p = 104 ∧ g 1 < 8 ∨ c p = 115 ∧ g 4 < 12 ∨ c p = 116 ∧ g 5 < 12 ∨ c p = 103 ∧ g 6 < 12 ∨ c p = 112) → post false (va_up tI 1 (nI p)) tR hI hR := fun q => hl false p g r hI hR (va_up oI 18 (nI p)) oR (fun z => (by cases z)) (by omega) hg hh (ho.p18 _) (EO.p18 _) rfl (fun K hK => op_no hg ho hy hp q hK)
  unfold pX4_readStatement pX4_hasRoom
  refine ⟨p, va_at' _ _ _, by omega, nm_r (hx.2.2 p hp).2 ?_⟩
  rw [va_at', nI_1]
  by_cases e3 : c p = 103
  · rw [show sbt (c p) = 103 from (sb_eq _ hc 103 (by decide)).mpr e3]
    refine ⟨fun _ => ?_, fun q => absurd q (by decide), fun q => absurd q (by decide), fun q => absurd q (by decide), fun q => absurd rfl q⟩
    rw [hh.1 6 (by decide)]
    refine sX3_full b6 (fun hr => ⟨fun z => (by cases z), fun _ => ⟨fun _ => nm_e ?_, fun z => (by cases z)⟩⟩) (fun hr => ⟨fun _ => ⟨fun z => (by cases z), fun _ => no (by omega)⟩, fun z => (by cases z)⟩)
    rw [bx_uu]
    exact ⟨fun _ => st_guess hg hh ho hx hy hp e3 hr hl, fun q => absurd q (by decide), fun q => absurd q (by decide), fun q => absurd q (by decide), fun q => absurd rfl q⟩
  by_cases e4 : c p = 104
  · rw [show sbt (c p) = 104 from (sb_eq _ hc 104 (by decide)).mpr e4]
    refine ⟨fun q => absurd q (by decide), fun _ => ?_, fun q => absurd q (by decide), fun q => absurd q (by decide), fun _ q => absurd rfl q⟩
    rw [hh.1 1 (by decide)]
    refine pk_le 8 (g 1) (fun hr => ⟨fun z => (by cases z), fun _ => no (by omega)⟩) (fun hr => ⟨fun _ => nm_e ?_, fun z => (by cases z)⟩)
    rw [bx_uu]
    exact ⟨fun q => absurd q (by decide), fun _ => st_hand hg hh ho hx hy hp e4 hr hl, fun q => absurd q (by decide), fun q => absurd q (by decide), fun _ q => absurd rfl q⟩
  by_cases e5 : c p = 115
  · rw [show sbt (c p) = 115 from (sb_eq _ hc 115 (by decide)).mpr e5]
    refine ⟨fun q => absurd q (by decide), fun q => absurd q (by decide), fun _ => ?_, fun q => absurd q (by decide), fun _ _ q => absurd rfl q⟩
    rw [hh.1 4 (by decide)]
    refine sX3_full b4 (fun hr => ⟨fun z => (by cases z), fun _ => ⟨fun _ => nm_e ?_, fun z => (by cases z)⟩⟩) (fun hr => ⟨fun _ => ⟨fun z => (by cases z), fun _ => no (by omega)⟩, fun z => (by cases z)⟩)
    rw [bx_uu]
    exact ⟨fun q => absurd q (by decide), fun q => absurd q (by decide), fun _ => st_sight hg hh ho hx hy hp e5 hr hl, fun q => absurd q (by decide), fun _ _ q => absurd rfl q⟩
  by_cases e6 : c p = 116
  · rw [show sbt (c p) = 116 from (sb_eq _ hc 116 (by decide)).mpr e6]
    refine ⟨fun q => absurd q (by decide), fun q => absurd q (by decide), fun q => absurd q (by decide), fun _ => ?_, fun _ _ _ q => absurd rfl q⟩
    rw [hh.1 5 (by decide)]
    refine sX3_full b5 (fun hr => ⟨fun z => (by cases z), fun _ => ⟨fun _ => nm_e ?_, fun z => (by cases z)⟩⟩) (fun hr => ⟨fun _ => ⟨fun z => (by cases z), fun _ => no (by omega)⟩, fun z => (by cases z)⟩)
    rw [bx_uu]
    exact ⟨fun q => absurd q (by decide), fun q => absurd q (by decide), fun q => absurd q (by decide), fun _ => st_tie hg hh ho hx hy hp e6 hr hl, fun _ _ _ q => absurd rfl q⟩
  have d3 : ¬ sbt (c p) = 103 := fun q => e3 ((sb_eq _ hc 103 (by decide)).mp q)
  have d4 : ¬ sbt (c p) = 104 := fun q => e4 ((sb_eq _ hc 104 (by decide)).mp q)
  have d5 : ¬ sbt (c p) = 115 := fun q => e5 ((sb_eq _ hc 115 (by decide)).mp q)
  have d6 : ¬ sbt (c p) = 116 := fun q => e6 ((sb_eq _ hc 116 (by decide)).mp q)
  refine ⟨fun q => absurd q d3, fun q => absurd q d4, fun q => absurd q d5, fun q => absurd q d6, fun _ _ _ _ => ⟨fun q => ⟨fun z => (by cases z), fun _ => no ?_⟩, fun q => ⟨fun _ => nm_e ?_, fun z => (by cases z)⟩⟩⟩
  · intro z
    have : c p = 112 := by omega
    exact q ((sb_eq _ hc 112 (by decide)).mpr this)
  · rw [bx_uu]
    exact ⟨fun q => absurd q d3, fun q => absurd q d4, fun q => absurd q d5, fun q => absurd q d6, fun _ _ _ _ => st_paper hg hh ho hx hy hp ((sb_eq _ hc 112 (by decide)).mp q) hl⟩
theorem EO.tr {oI : Nat → Int32} {oR : Nat → Nat → Int32} {oI' : Nat → Int32} {oR' : Nat → Nat → Int32} {oI2 : Nat → Int32} {oR2 : Nat → Nat → Int32} (h : EO oI oR oI' oR') (h2 : EO oI' oR' oI2 oR2) : EO oI oR oI2 oR2 := ⟨⟨h2.1.1.trans h.1.1, h2.1.2.1.trans h.1.2.1, h2.1.2.2.trans h.1.2.2⟩, h2.2.1.trans h.2.1, h2.2.2.1.trans h.2.2.1, h2.2.2.2.1.trans h.2.2.2.1, h2.2.2.2.2.trans h.2.2.2.2⟩
theorem OX.eo {n : Nat} {c : Nat → Nat} {oI : Nat → Int32} {oR : Nat → Nat → Int32} {oI' : Nat → Int32} {oR' : Nat → Nat → Int32} (h : OX n c oI oR) (h2 : EO oI oR oI' oR') : OX n c oI' oR' := ⟨by rw [h2.1.1]; exact h.1, h.2.1, by rw [h2.2.2.1]; exact h.2.2⟩
theorem rd_loop {n : Nat} {c : Nat → Nat} {tI : Nat → Int32} {tR : Nat → Nat → Int32} (hx : TX n c tI tR) {post : Int32 → (Nat → Int32) → (Nat → Nat → Int32) → (Nat → Int32) → (Nat → Nat → Int32) → Prop} : ∀ (d p m : Nat) {g : Nat → Nat} {r : Nat → Nat → Nat} {hI : Nat → Int32} {hR : Nat → Nat → Int32} {oI : Nat → Int32} {oR : Nat → Nat → Int32}, n - p ≤ d → m ≤ p → p ≤ n → HG g r → HR_ hI hR g r → OM oI oR g r → OX n c oI oR → oI 18 = nI p → (∀ (x : Int32) (p' : Nat) (g' : Nat → Nat) (r' : Nat → Nat → Nat) hI' hR' oI' oR', HG g' r' → HR_ hI' hR' g' r' → OM oI' oR' g' r' → EO oI oR oI' oR' → (∀ K : Int32 → (Nat → Int32) → (Nat → Nat → Int32) → Prop, K x (va_up oI' 17 0) oR' → ∃ N, bX6_house_9 K (fun w1 w2 a b => bX6_house_44 w1 w2 a b K) N (nI m) 1 oI oR) → post x (va_up tI 1 (nI p')) tR hI' hR') → bX4_readInto_7 post (d + 1) (nI m) (va_up tI 1 (nI p)) tR hI hR := by
  intro d
  have n8 := hx.2.1
  induction d with
  | zero =>
    intro p m g r hI hR oI oR hd hm hp hg hh ho hy h18 h
    unfold bX4_readInto_7
    rw [show va_up tI 1 (nI p) 0 = nI n from hx.1, va_at']
    refine pk_le n p (fun _ => h _ p g r hI hR oI oR hg hh ho ⟨⟨rfl, rfl, rfl⟩, rfl, rfl, rfl, rfl⟩ (fun K hK => ⟨1, ?_⟩)) (fun q => absurd q (by omega))
    unfold bX6_house_9
    rw [hy.1, h18]
    refine ⟨fun q => absurd q (by decide), fun _ => pk_le n p (fun _ => ?_) (fun q => absurd q (by omega))⟩
    unfold bX6_house_44
    exact ⟨fun q => absurd q (by decide), fun _ => hK⟩
  | succ d ih =>
    intro p m g r hI hR oI oR hd hm hp hg hh ho hy h18 h
    unfold bX4_readInto_7
    rw [show va_up tI 1 (nI p) 0 = nI n from hx.1, va_at']
    refine pk_le n p (fun hnp => h _ p g r hI hR oI oR hg hh ho ⟨⟨rfl, rfl, rfl⟩, rfl, rfl, rfl, rfl⟩ (fun K hK => ⟨1, ?_⟩)) (fun hpn => pk_le 80 m (fun q => absurd q (by omega)) (fun _ => ?_))
    · unfold bX6_house_9
      rw [hy.1, h18]
      refine ⟨fun q => absurd q (by decide), fun _ => pk_le n p (fun _ => ?_) (fun q => absurd q (by omega))⟩
      unfold bX6_house_44
      exact ⟨fun q => absurd q (by decide), fun _ => hK⟩
    · have e18 : va_up oI 18 (nI p) = oI := by rw [← h18, va_eta]
      refine st_all hg hh ho hx hy hpn (fun b p' g' r' hI' hR' oI' oR' h1 h2 h3 h4 h5 h6 h7 h8 => ⟨fun eb => nm_r (nI_1 m) ?_, fun eb => ?_⟩)
      · subst eb
        rw [e18] at h8
        have h1' := h1 rfl
        refine ih p' (m + 1) (oI := oI') (oR := oR') (by omega) (by omega) h2 h3 h4 h5 (hy.eo h6) h7 (fun x p2 g2 r2 hI2 hR2 oI2 oR2 k1 k2 k3 k4 k5 => h x p2 g2 r2 hI2 hR2 oI2 oR2 k1 k2 k3 (h6.tr k4) (fun K hK => ?_))
        obtain ⟨N, hN⟩ := k5 K hK
        refine ⟨N + 1, ?_⟩
        unfold bX6_house_9
        rw [hy.1, h18]
        refine ⟨fun q => absurd q (by decide), fun _ => pk_le n p (fun q => absurd q (by omega)) (fun _ => h8 _ ⟨fun z => (by cases z), fun _ => nm_r (nI_1 m) hN⟩)⟩
      · subst eb
        rw [e18] at h8
        rw [va_at']
        refine h _ p' g' r' hI' hR' oI' oR' h3 h4 h5 h6 (fun K hK => ⟨2, ?_⟩)
        unfold bX6_house_9
        rw [hy.1, h18]
        refine ⟨fun q => absurd q (by decide), fun _ => pk_le n p (fun q => absurd q (by omega)) (fun _ => h8 _ ⟨fun _ => nm_e ?_, fun z => (by cases z)⟩)⟩
        unfold bX6_house_9
        refine ⟨fun _ => ?_, fun q => absurd rfl q⟩
        unfold bX6_house_44
        rw [h7]
        exact ⟨fun _ => hK, fun q => absurd rfl q⟩
theorem zc_1 {L : Nat} {xs : Nat → Int32} {i : Nat} (hi : i + 4 ≤ L) {ko : Option ((Nat → Int32) × (Nat → Nat → Int32))} {sI : Nat → Int32} {sR : Nat → Nat → Int32} {tI : Nat → Int32} {tR : Nat → Nat → Int32} {hI : Nat → Int32} {hR : Nat → Nat → Int32} {mI : Nat → Int32} {mR : Nat → Nat → Int32} {oI : Nat → Int32} {oR : Nat → Nat → Int32} (h : zIn ko sI sR tI tR hI hR mI mR oI oR) : pL_1 L xs (nI i) sI sR tI tR hI hR mI mR oI oR (zIn ko) := by
  obtain ⟨g, r, hg, hh, ho, hr⟩ := h
  have b0 := hg.1
  have b1 := hg.2.1
  have e0 : hI 0 = nI (g 0) := hh.1 0 (by decide)
  have e1 : hI 1 = nI (g 1) := hh.1 1 (by decide)
  have o0 : oI 10 = nI (g 0) := ho.1.1.1
  have o1 : oI 11 = nI (g 1) := ho.1.1.2.1
  obtain ⟨n, n8, t0, o17, htx⟩ := hr.2.1
  obtain ⟨c, hc⟩ : ∃ c : Nat → Nat, ∀ i, i < n → c i < 256 ∧ oR 16 i = nI (c i) ∧ tR 0 i = sbt (c i) := by
    refine ⟨fun i => if h : i < n then (htx i h).choose else 0, fun i hi => ?_⟩
    dsimp only
    rw [dif_pos hi]
    exact (htx i hi).choose_spec
  unfold pL_1 pX5_house pX4_readInto
  refine ⟨n + 1, ?_⟩
  refine rd_loop (n := n) (c := c) ⟨t0, n8, fun i hi => ⟨(hc i hi).1, (hc i hi).2.2⟩⟩ n 0 0 (oI := va_up oI 18 0) (oR := oR) (by omega) (by omega) (by omega) hg hh (ho.p18 _) ⟨o17, n8, fun i hi => ⟨(hc i hi).1, (hc i hi).2.1⟩⟩ rfl (fun x p' g' r' hI' hR' oI' oR' h1 h2 h3 h4 h5 => ?_)
  refine h5 _ (fin2 rfl ⟨g', r', h1, h2, ⟨⟨h3.1.1, h3.1.2⟩, h3.2⟩, ?_, ⟨0, by decide, rfl, rfl, fun q hq => absurd hq (by omega)⟩, ?_⟩)
  · exact hr.1.same h4.1.2.1 h4.2.2.2.1 h4.2.1
  · exact hr.2.2.same h4.1.2.2 h4.2.2.2.2
