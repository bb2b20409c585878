/-! the text: the readers together -/
theorem st_hand {n p : Nat} {c : Nat → Nat} {g : Nat → Nat} {r : Nat → Nat → Nat} {hI : Nat → Int32} {hR : Nat → Nat → Int32} {tI : Nat → Int32} {tR : Nat → Nat → Int32} {oI : Nat → Int32} {oR : Nat → Nat → Int32} (hg : HG g r) (hh : HR_ hI hR g r) (ho : OM oI oR g r) (hx : TX n c tI tR) (hy : OX n c oI oR) (hp : p < n) {post : Bool → (Nat → Int32) → (Nat → Nat → Int32) → (Nat → Int32) → (Nat → Nat → Int32) → Prop} (ec : c p = 104) (hr : g 1 < 8) (hl : Lf n p oI oR tI tR post) : pX4_readHand (va_up tI 1 (nI (p + 1))) tR hI hR post := by
  have b0 := hg.1
  have e0 : hI 0 = nI (g 0) := hh.1 0 (by decide)
  have o0 : oI 10 = nI (g 0) := ho.1.1.1
  unfold pX4_readHand
  refine sX4_readSteps b0.2 e0 hx (by omega) ?_
  have hs := rl_lt (g 0) n c (n - (p + 1)) 0 0 (p + 1) (Nat.two_pow_pos _)
  have hq := rl_pl (g 0) n c (n - (p + 1)) 0 0 (p + 1) (by omega)
  have rf : ∀ K : Bool → (Nat → Int32) → (Nat → Nat → Int32) → Prop, pX6_takes 59 (va_up oI 18 (nI (rl (g 0) n c (n - (p + 1)) 0 0 (p + 1)).2)) oR (fun b3 oI_4 oR_4 => (b3 = true → pX6_comesHand (nI (rl (g 0) n c (n - (p + 1)) 0 0 (p + 1)).1) oI_4 oR_4 (fun _ oI_5 oR_5 => K true oI_5 oR_5)) ∧ (b3 = false → K false oI_4 oR_4)) → pX6_statement (va_up oI 18 (nI p)) oR K := fun K hK => op_hand ho hy hp ec hr (sX6_letters b0.2 o0 hy (by omega) hK)
  generalize (rl (g 0) n c (n - (p + 1)) 0 0 (p + 1)).1 = s at hs rf ⊢
  generalize (rl (g 0) n c (n - (p + 1)) 0 0 (p + 1)).2 = q at hq rf ⊢
  refine sX4_sign hx (k := 59) (by decide) hq.2 (fun q1 q2 => ⟨fun _ => ?_, fun z => (by cases z)⟩) (fun q1 => ⟨fun z => (by cases z), fun _ => ?_⟩)
  · refine sX1_addHand hg hh hr (fun hI' hR' hh' => ?_)
    obtain ⟨oI', oR', h1, h2, h3, h4⟩ := sX6_comesHand hg (ho.p18 (nI (q + 1))) hr s
    exact hl true (q + 1) _ _ _ _ oI' oR' (fun _ => by omega) (by omega) (HG_hand hg hr hs) hh' h1 h2 h3 (fun K hK => rf K (sX6_takes hy (k := 59) (by decide) hq.2 (fun _ _ => ⟨fun _ => h4 _ (fun _ => hK), fun z => (by cases z)⟩) (fun z => absurd ⟨q1, q2⟩ z)))
  · exact hl false q g r hI hR (va_up oI 18 (nI q)) oR (fun z => (by cases z)) hq.2 hg hh (ho.p18 _) (EO.p18 _) rfl (fun K hK => rf K (sX6_takes hy (k := 59) (by decide) hq.2 (fun z1 z2 => absurd ⟨z1, z2⟩ q1) (fun _ => ⟨fun z => (by cases z), fun _ => hK⟩)))
theorem st_paper {n p : Nat} {c : Nat → Nat} {g : Nat → Nat} {r : Nat → Nat → Nat} {hI : Nat → Int32} {hR : Nat → Nat → Int32} {tI : Nat → Int32} {tR : Nat → Nat → Int32} {oI : Nat → Int32} {oR : Nat → Nat → Int32} (hg : HG g r) (hh : HR_ hI hR g r) (ho : OM oI oR g r) (hx : TX n c tI tR) (hy : OX n c oI oR) (hp : p < n) {post : Bool → (Nat → Int32) → (Nat → Nat → Int32) → (Nat → Int32) → (Nat → Nat → Int32) → Prop} (ec : c p = 112) (hl : Lf n p oI oR tI tR post) : pX4_readPaper (va_up tI 1 (nI (p + 1))) tR hI hR post := by
  have b0 := hg.1
  have e0 : hI 0 = nI (g 0) := hh.1 0 (by decide)
  have o0 : oI 10 = nI (g 0) := ho.1.1.1
  unfold pX4_readPaper
  refine sX4_readSteps b0.2 e0 hx (by omega) ?_
  have hs := rl_lt (g 0) n c (n - (p + 1)) 0 0 (p + 1) (Nat.two_pow_pos _)
  have hq := rl_pl (g 0) n c (n - (p + 1)) 0 0 (p + 1) (by omega)
  have rf : ∀ K : Bool → (Nat → Int32) → (Nat → Nat → Int32) → Prop, pX6_takes 59 (va_up oI 18 (nI (rl (g 0) n c (n - (p + 1)) 0 0 (p + 1)).2)) oR (fun b3 oI_4 oR_4 => (b3 = true → K true (va_up oI_4 15 (nI (rl (g 0) n c (n - (p + 1)) 0 0 (p + 1)).1)) oR_4) ∧ (b3 = false → K false oI_4 oR_4)) → pX6_statement (va_up oI 18 (nI p)) oR K := fun K hK => op_paper hy hp ec (sX6_letters b0.2 o0 hy (by omega) hK)
  generalize (rl (g 0) n c (n - (p + 1)) 0 0 (p + 1)).1 = s at hs rf ⊢
  generalize (rl (g 0) n c (n - (p + 1)) 0 0 (p + 1)).2 = q at hq rf ⊢
  refine sX4_sign hx (k := 59) (by decide) hq.2 (fun q1 q2 => ⟨fun _ => ?_, fun z => (by cases z)⟩) (fun q1 => ⟨fun z => (by cases z), fun _ => ?_⟩)
  · exact hl true (q + 1) (va_up g 3 s) r _ _ (va_up (va_up oI 18 (nI (q + 1))) 15 (nI s)) oR (fun _ => by omega) (by omega) (HG_paper hg hs) (hh.upI 3 s) (OM_paper (ho.p18 _) s) ⟨⟨rfl, rfl, rfl⟩, rfl, rfl, rfl, rfl⟩ rfl (fun K hK => rf K (sX6_takes hy (k := 59) (by decide) hq.2 (fun _ _ => ⟨fun _ => hK, fun z => (by cases z)⟩) (fun z => absurd ⟨q1, q2⟩ z)))
  · exact hl false q g r hI hR (va_up oI 18 (nI q)) oR (fun z => (by cases z)) hq.2 hg hh (ho.p18 _) (EO.p18 _) rfl (fun K hK => rf K (sX6_takes hy (k := 59) (by decide) hq.2 (fun z1 z2 => absurd ⟨z1, z2⟩ q1) (fun _ => ⟨fun z => (by cases z), fun _ => hK⟩)))
theorem st_guess {n p : Nat} {c : Nat → Nat} {g : Nat → Nat} {r : Nat → Nat → Nat} {hI : Nat → Int32} {hR : Nat → Nat → Int32} {tI : Nat → Int32} {tR : Nat → Nat → Int32} {oI : Nat → Int32} {oR : Nat → Nat → Int32} (hg : HG g r) (hh : HR_ hI hR g r) (ho : OM oI oR g r) (hx : TX n c tI tR) (hy : OX n c oI oR) (hp : p < n) {post : Bool → (Nat → Int32) → (Nat → Nat → Int32) → (Nat → Int32) → (Nat → Nat → Int32) → Prop} (ec : c p = 103) (hr : g 6 < 12) (hl : Lf n p oI oR tI tR post) : pX4_readGuess (va_up tI 1 (nI (p + 1))) tR hI hR post := by
  have b0 := hg.1
  have n8 := hx.2.1
  have e0 : hI 0 = nI (g 0) := hh.1 0 (by decide)
  have o0 : oI 10 = nI (g 0) := ho.1.1.1
  unfold pX4_readGuess
  refine sX4_readSteps b0.2 e0 hx (by omega) ?_
  have hs := rl_lt (g 0) n c (n - (p + 1)) 0 0 (p + 1) (Nat.two_pow_pos _)
  have hq := rl_pl (g 0) n c (n - (p + 1)) 0 0 (p + 1) (by omega)
  have rf0 : ∀ K : Bool → (Nat → Int32) → (Nat → Nat → Int32) → Prop, pX6_readsGuess (va_up oI 18 (nI (p + 1))) oR (fun b a q => K b a q) → pX6_statement (va_up oI 18 (nI p)) oR K := fun K hK => op_guess ho hy hp ec hr hK
  unfold pX6_readsGuess at rf0
  have rf := fun K hK => rf0 K (sX6_letters b0.2 o0 hy (by omega) hK)
  generalize (rl (g 0) n c (n - (p + 1)) 0 0 (p + 1)).1 = s at hs rf ⊢
  generalize (rl (g 0) n c (n - (p + 1)) 0 0 (p + 1)).2 = q at hq rf ⊢
  have s31 : s < 2 ^ 31 := lt31 hs (by omega)
  refine ⟨fun z0 => ?_, fun z0 => ?_⟩
  · exact hl false q g r hI hR (va_up oI 18 (nI q)) oR (fun z => (by cases z)) hq.2 hg hh (ho.p18 _) (EO.p18 _) rfl (fun K hK => rf K ⟨fun _ => hK, fun z => absurd z0 z⟩)
  refine sX4_sign hx (k := 62) (by decide) hq.2 (fun q1 q2 => ⟨fun _ => ?_, fun z => (by cases z)⟩) (fun q1 => ⟨fun z => (by cases z), fun _ => ?_⟩)
  rotate_left
  · exact hl false q g r hI hR (va_up oI 18 (nI q)) oR (fun z => (by cases z)) hq.2 hg hh (ho.p18 _) (EO.p18 _) rfl (fun K hK => rf K ⟨fun z => absurd z z0, fun _ => sX6_takes hy (k := 62) (by decide) hq.2 (fun z1 z2 => absurd ⟨z1, z2⟩ q1) (fun _ => ⟨fun z => (by cases z), fun _ => hK⟩)⟩)
  have rf2 := fun K hK => rf K ⟨fun z => absurd z z0, fun _ => sX6_takes hy (k := 62) (by decide) hq.2 (fun _ _ => ⟨fun _ => hK, fun z => (by cases z)⟩) (fun z => absurd ⟨q1, q2⟩ z)⟩
  clear rf rf0
  rw [show va_up tI 1 (nI (q + 1)) 0 = nI n from hx.1, va_at']
  unfold bX4_readGuess_48
  refine pk_le n (q + 1) (fun c1 => ?_) (fun c1 => ⟨q + 1, rfl, by omega, ?_⟩)
  · refine sX1_isStep e0 b0.2 (fun _ => ⟨fun _ => ?_, fun z => (by cases z)⟩) (fun j j1 j2 => absurd j2 (mb_1 j (by omega)))
    exact hl false (q + 1) g r hI hR (va_up oI 18 (nI (q + 1))) oR (fun z => (by cases z)) (by omega) hg hh (ho.p18 _) (EO.p18 _) rfl (fun K hK => rf2 K (sX6_sign hy (by omega) (fun z => absurd c1 (by omega)) (fun _ => nm_e (sX6_isStep (n := g 0) (oI := va_up oI 18 (nI (q + 1))) o0 b0.2 (fun _ => ⟨fun _ => hK, fun z => (by cases z)⟩) (fun j j1 j2 => absurd j2 (mb_st j (by omega)))))))
  · have hc := (hx.2.2 (q + 1) c1).1
    rw [(hx.2.2 (q + 1) c1).2]
    refine sX1_isStep e0 b0.2 (fun ex => ⟨fun _ => ?_, fun z => (by cases z)⟩) (fun j j1 j2 => ⟨fun z => (by cases z), fun _ => ?_⟩)
    · refine hl false (q + 1) g r hI hR (va_up oI 18 (nI (q + 1))) oR (fun z => (by cases z)) (by omega) hg hh (ho.p18 _) (EO.p18 _) rfl (fun K hK => rf2 K (sX6_sign hy (by omega) (fun _ => nm_e (sX6_isStep (n := g 0) (oI := va_up oI 18 (nI (q + 1))) o0 b0.2 (fun _ => ⟨fun _ => hK, fun z => (by cases z)⟩) (fun j j1 j2 => absurd ?_ ex))) (fun z => absurd c1 z)))
      exact ⟨j, j1, (sb_st _ hc j (by omega)).mpr ((nb_st _ hc j (by omega)).mp j2)⟩
    · have ej := (sb_st _ hc j (by omega)).mp j2
      have ej2 := (nb_st _ hc j (by omega)).mpr ej
      rw [j2]
      have rf3 := fun K hK => rf2 K (sX6_sign hy (by omega) (fun _ => nm_r ej2 (sX6_isStep (n := g 0) (oI := va_up oI 18 (nI (q + 1))) o0 b0.2 (fun z => absurd ⟨j, j1, rfl⟩ z) (fun _ _ _ => ⟨fun z => (by cases z), fun _ => hK⟩))) (fun z => absurd c1 z))
      clear rf2
      refine sX5_contains s31 (by omega) ⟨fun d => ?_, fun d => ?_⟩
      · rw [va_at', nI_1]
        refine nm_e ?_
        rw [bx_uu]
        have rf4 := fun K hK => rf3 K ⟨fun _ => hK, fun z => absurd z (by rw [q_bit1 s31 (by omega), d]; decide)⟩
        clear rf3
        rw [va_at', nI_1] at rf4
        refine sX4_sign hx (k := 59) (by decide) (by omega) (fun q3 q4 => ⟨fun _ => ?_, fun z => (by cases z)⟩) (fun q3 => ⟨fun z => (by cases z), fun _ => ?_⟩)
        · rw [hh.1 6 (by decide)]
          refine sX3_add hr ?_
          obtain ⟨oI', oR', h1, h2, h3, h4⟩ := sX6_comesGuess (ho.p18 (nI (q + 1 + 1 + 1))) hr s j
          refine hl true (q + 1 + 1 + 1) _ _ _ _ oI' oR' (fun _ => by omega) (by omega) (HG_guess hg hr hs j1) (((hh.upI 6 (g 6 + 1)).upR 6 (g 6) s).upR 7 (g 6) j) h1 h2 h3 (fun K hK => rf4 K (nm_e ?_))
          rw [bx_uu]
          exact sX6_takes hy (k := 59) (by decide) (by omega) (fun _ _ => ⟨fun _ => h4 _ (fun _ => hK), fun z => (by cases z)⟩) (fun z => absurd ⟨q3, q4⟩ z)
        · refine hl false (q + 1 + 1) g r hI hR (va_up oI 18 (nI (q + 1 + 1))) oR (fun z => (by cases z)) (by omega) hg hh (ho.p18 _) (EO.p18 _) rfl (fun K hK => rf4 K (nm_e ?_))
          rw [bx_uu]
          exact sX6_takes hy (k := 59) (by decide) (by omega) (fun z1 z2 => absurd ⟨z1, z2⟩ q3) (fun _ => ⟨fun z => (by cases z), fun _ => hK⟩)
      · exact hl false (q + 1) g r hI hR (va_up oI 18 (nI (q + 1))) oR (fun z => (by cases z)) (by omega) hg hh (ho.p18 _) (EO.p18 _) rfl (fun K hK => rf3 K ⟨fun z => absurd ((q_bit1 s31 (by omega)).mpr d) z, fun _ => hK⟩)
