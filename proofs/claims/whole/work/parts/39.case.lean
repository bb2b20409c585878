/-! the text: sights and ties, and the whole of it -/
theorem dig6 {n q m : Nat} {c : Nat → Nat} {oI : Nat → Int32} {oR : Nat → Nat → Int32} (hy : OX n c oI oR) (e1 : oI 11 = nI m) (hm : m ≤ 8) (hq : q ≤ n) {P : Int32 → Bool → Prop} (h1 : ∀ j, j < m → q < n → c q = 48 + j → P (nI j) true) (h2 : (¬ ∃ j, j < m ∧ q < n ∧ c q = 48 + j) → ∀ v, P v false) : pX6_sign (va_up oI 18 (nI q)) oR (fun r1 => ∀ v2 : Int32, v2 = r1 - 48 → pX6_isHand v2 (va_up oI 18 (nI q)) oR (P v2)) := by
  refine sX6_sign hy hq (fun z => nm_e ?_) (fun z => nm_e ?_)
  · have hc := (hy.2.2 q z).1
    refine sX6_isHand (n := m) (oI := va_up oI 18 (nI q)) e1 hm (fun ex => h2 ?_ _) (fun j j1 j2 => ?_)
    · rintro ⟨j, j1, _, j2⟩
      exact ex ⟨j, j1, (nb_dg _ hc j (by omega)).mpr j2⟩
    · rw [j2]; exact h1 j j1 z ((nb_dg _ hc j (by omega)).mp j2)
  · exact sX6_isHand (n := m) (oI := va_up oI 18 (nI q)) e1 hm (fun _ => h2 (fun ⟨_, _, z2, _⟩ => z z2) _) (fun j j1 j2 => absurd j2 (mb_dg j (by omega)))
/-- two different hands, or not: the reference -/
theorem two6 {n p : Nat} {c : Nat → Nat} {g : Nat → Nat} {r : Nat → Nat → Nat} {oI : Nat → Int32} {oR : Nat → Nat → Int32} (hg : HG g r) (ho : OM oI oR g r) (hy : OX n c oI oR) (hp : p < n) (z : Bool) {K : Bool → (Nat → Int32) → (Nat → Nat → Int32) → Prop} (h0 : (¬ ∃ j, j < g 1 ∧ p + 1 < n ∧ c (p + 1) = 48 + j) → K false (va_up oI 18 (nI (p + 1))) oR) (h1 : ∀ a, a < g 1 → p + 1 < n → c (p + 1) = 48 + a → (¬ ∃ j, j < g 1 ∧ p + 1 + 1 < n ∧ c (p + 1 + 1) = 48 + j ∧ nI j ≠ nI a) → K false (va_up oI 18 (nI (p + 1 + 1))) oR) (h2 : ∀ a b, a < g 1 → b < g 1 → a ≠ b → p + 1 + 1 < n → c (p + 1) = 48 + a → c (p + 1 + 1) = 48 + b → ((z = false → (bX6_readsTwo_92 (zb z) (nI a) (nI b) (va_up oI 18 (nI (p + 1 + 1 + 1))) oR K)) ∧ (z = true → (pX6_hasSight (nI a) (nI b) (va_up oI 18 (nI (p + 1 + 1 + 1))) oR (fun b3 => ((b3 = false → (bX6_readsTwo_92 (zb z) (nI a) (nI b) (va_up oI 18 (nI (p + 1 + 1 + 1))) oR K)) ∧ (b3 = true → (K false (va_up oI 18 (nI p)) oR)))))))) : pX6_readsTwo z (va_up oI 18 (nI (p + 1))) oR K := by
  have b1 := hg.2.1
  have o1 : oI 11 = nI (g 1) := ho.1.1.2.1
  unfold pX6_readsTwo
  rw [va_at', nI_pred, nI_1]
  refine nm_e (dig6 hy o1 b1 (by omega) (fun a a1 a2 a3 => ⟨fun _ => nm_e ?_, fun z => (by cases z)⟩) (fun q _ => ⟨fun z => (by cases z), fun _ => h0 q⟩))
  rw [bx_uu]
  refine dig6 hy o1 b1 (by omega) (fun b b1 b2 b3 => ⟨fun z => (by cases z), fun _ => ⟨fun e => nm_r (nI_1 _) ?_, fun e => h1 a a1 a2 a3 ?_⟩⟩) (fun q _ => ⟨fun _ => h1 a a1 a2 a3 (fun ⟨j, j1, j2, j3, _⟩ => q ⟨j, j1, j2, j3⟩), fun z => (by cases z)⟩)
  · rw [bx_uu, bx_uu]
    exact h2 a b a1 b1 (fun e2 => e (by rw [e2])) b2 a3 b3
  · rintro ⟨j, j1, _, j3, j4⟩
    have : j = b := by omega
    subst this
    exact j4 e.symm
theorem st_sight {n p : Nat} {c : Nat → Nat} {g : Nat → Nat} {r : Nat → Nat → Nat} {hI : Nat → Int32} {hR : Nat → Nat → Int32} {tI : Nat → Int32} {tR : Nat → Nat → Int32} {oI : Nat → Int32} {oR : Nat → Nat → Int32} (hg : HG g r) (hh : HR_ hI hR g r) (ho : OM oI oR g r) (hx : TX n c tI tR) (hy : OX n c oI oR) (hp : p < n) {post : Bool → (Nat → Int32) → (Nat → Nat → Int32) → (Nat → Int32) → (Nat → Nat → Int32) → Prop} (ec : c p = 115) (hr : g 4 < 12) (hl : Lf n p oI oR tI tR post) : pX4_readSight (nI p) (va_up tI 1 (nI (p + 1))) tR hI hR post := by
  have b0 := hg.1
  have b1 := hg.2.1
  have n8 := hx.2.1
  have e1 : hI 1 = nI (g 1) := hh.1 1 (by decide)
  have rf := fun (K : Bool → (Nat → Int32) → (Nat → Nat → Int32) → Prop) hK => op_sight (K := K) ho hy hp ec hr hK
  have sg := hg.2.2.2.2.2.2.2.2.1
  unfold pX4_readSight
  refine sX4_digit b1 e1 hx (by omega) (fun a a1 a2 a3 _ => ⟨fun _ => ?_, fun z => absurd (nI_pos' (by omega)) z⟩) (fun q => ⟨fun z => absurd z (by decide), fun _ => ?_⟩)
  · refine sX4_digit b1 e1 hx (by omega) (fun b bb1 b2 b3 b4 => ?_) (fun q => ?_)
    · have hab : a ≠ b := fun e => b4 (by rw [e])
      unfold bX4_readSight_21
      refine ⟨fun _ => ?_, fun z => absurd (nI_pos' (by omega)) z⟩
      rw [hh.1 4 (by decide)]
      have rf2 : ∀ K : Bool → (Nat → Int32) → (Nat → Nat → Int32) → Prop, (hasP (r 2) (r 3) (g 4) a b → K false (va_up oI 18 (nI p)) oR) → (¬ hasP (r 2) (r 3) (g 4) a b → pX6_takes 59 (va_up oI 18 (nI (p + 1 + 1 + 1))) oR (fun b3 oI_1 oR_1 => ((b3 = true → pX6_comesSight (nI a) (nI b) oI_1 oR_1 (fun _ a b => K true a b)) ∧ (b3 = false → K false oI_1 oR_1)))) → pX6_statement (va_up oI 18 (nI p)) oR K := by
        intro K k1 k2
        refine rf K (two6 hg ho hy hp true (fun q => absurd ⟨a, a1, a2, a3⟩ q) (fun a' x1 x2 x3 q => absurd ⟨b, bb1, b2, b3, fun e => b4 (e.trans (congrArg nI (show a' = a by omega)))⟩ q) (fun a' b' x1 x2 x3 x4 x5 x6 => ?_))
        · have : a' = a := by omega
          subst this
          have : b' = b := by omega
          subst this
          refine ⟨fun z => (by cases z), fun _ => sX6_hasSight (oI := va_up oI 18 (nI (p + 1 + 1 + 1))) hg.2.2.2.2.1 ho.1.1.2.2.1 (fun k hk => ⟨ho.1.2.2.2 2 (by decide) (by decide) k (by have := hg.2.2.2.2.1; omega), by have := sg k hk; omega⟩) (fun k hk => ⟨ho.1.2.2.2 3 (by decide) (by decide) k (by have := hg.2.2.2.2.1; omega), by have := sg k hk; omega⟩) (by omega) (by omega) (fun z => ⟨fun _ => ?_, fun z => (by cases z)⟩) (fun z => ⟨fun z => (by cases z), fun _ => k1 z⟩)⟩
          have k3 := k2 z
          unfold bX6_readsTwo_92
          have e1 : ∀ A B : Prop, ((zb true = 0 → A) ∧ (¬ zb true = 0 → B)) = B := fun A B => propext ⟨fun z => z.2 (by decide), fun z => ⟨fun q => absurd q (by decide), fun _ => z⟩⟩
          simp only [e1]
          exact k3
      refine sX3_has hg.2.2.2.2.1 (fun k hk => ⟨hh.2.2 2 (by decide) (by decide) k (by have := hg.2.2.2.2.1; omega), by have := sg k hk; omega⟩) (fun k hk => ⟨hh.2.2 3 (by decide) (by decide) k (by have := hg.2.2.2.2.1; omega), by have := sg k hk; omega⟩) (by omega) (by omega) (fun z => ⟨fun _ => ?_, fun z => (by cases z)⟩) (fun z => ⟨fun z => (by cases z), fun _ => ?_⟩)
      · refine sX4_sign hx (k := 59) (by decide) (by omega) (fun q3 q4 => ⟨fun _ => ?_, fun z => (by cases z)⟩) (fun q3 => ⟨fun z => (by cases z), fun _ => ?_⟩)
        · refine sX3_add hr ?_
          obtain ⟨oI', oR', h1, h2, h3, h4⟩ := sX6_comesSight (ho.p18 (nI (p + 1 + 1 + 1 + 1))) hr a b
          exact hl true (p + 1 + 1 + 1 + 1) _ _ _ _ oI' oR' (fun _ => by omega) (by omega) (HG_sight hg hr a1 bb1) (((hh.upI 4 (g 4 + 1)).upR 2 (g 4) a).upR 3 (g 4) b) h1 h2 h3 (fun K hK => rf2 K (fun z2 => absurd z2 z) (fun _ => sX6_takes hy (k := 59) (by decide) (by omega) (fun _ _ => ⟨fun _ => h4 _ (fun _ => hK), fun z => (by cases z)⟩) (fun z => absurd ⟨q3, q4⟩ z)))
        · exact hl false (p + 1 + 1 + 1) g r hI hR (va_up oI 18 (nI (p + 1 + 1 + 1))) oR (fun z => (by cases z)) (by omega) hg hh (ho.p18 _) (EO.p18 _) rfl (fun K hK => rf2 K (fun z2 => absurd z2 z) (fun _ => sX6_takes hy (k := 59) (by decide) (by omega) (fun z1 z2 => absurd ⟨z1, z2⟩ q3) (fun _ => ⟨fun z => (by cases z), fun _ => hK⟩)))
      · rw [bx_uu]
        exact hl false p g r hI hR (va_up oI 18 (nI p)) oR (fun z => (by cases z)) (by omega) hg hh (ho.p18 _) (EO.p18 _) rfl (fun K hK => rf2 K (fun _ => hK) (fun z2 => absurd z z2))
    · unfold bX4_readSight_21
      refine ⟨fun z => absurd z (by decide), fun _ => ?_⟩
      refine hl false (p + 1 + 1) g r hI hR (va_up oI 18 (nI (p + 1 + 1))) oR (fun z => (by cases z)) (by omega) hg hh (ho.p18 _) (EO.p18 _) rfl (fun K hK => rf K (two6 hg ho hy hp true (fun q => absurd ⟨a, a1, a2, a3⟩ q) (fun _ _ _ _ _ => hK) (fun a' b' x1 x2 x3 x4 x5 x6 => absurd ⟨b', x2, x4, x6, ?_⟩ q)))
      rw [Ne, nI_eq (by omega) (by omega)]; omega
  · unfold bX4_readSight_21
    refine ⟨fun z => absurd z (by decide), fun _ => ?_⟩
    have q' : ¬ ∃ j, j < g 1 ∧ p + 1 < n ∧ c (p + 1) = 48 + j := fun ⟨j, j1, j2, j3⟩ => q ⟨j, j1, j2, j3, fun e => mb_1 j (by omega) e.symm⟩
    exact hl false (p + 1) g r hI hR (va_up oI 18 (nI (p + 1))) oR (fun z => (by cases z)) (by omega) hg hh (ho.p18 _) (EO.p18 _) rfl (fun K hK => rf K (two6 hg ho hy hp true (fun _ => hK) (fun a a1 a2 a3 _ => absurd ⟨a, a1, a2, a3⟩ q') (fun a b a1 _ _ a2 a3 _ => absurd ⟨a, a1, by omega, a3⟩ q')))
theorem st_tie {n p : Nat} {c : Nat → Nat} {g : Nat → Nat} {r : Nat → Nat → Nat} {hI : Nat → Int32} {hR : Nat → Nat → Int32} {tI : Nat → Int32} {tR : Nat → Nat → Int32} {oI : Nat → Int32} {oR : Nat → Nat → Int32} (hg : HG g r) (hh : HR_ hI hR g r) (ho : OM oI oR g r) (hx : TX n c tI tR) (hy : OX n c oI oR) (hp : p < n) {post : Bool → (Nat → Int32) → (Nat → Nat → Int32) → (Nat → Int32) → (Nat → Nat → Int32) → Prop} (ec : c p = 116) (hr : g 5 < 12) (hl : Lf n p oI oR tI tR post) : pX4_readTie (va_up tI 1 (nI (p + 1))) tR hI hR post := by
  have b0 := hg.1
  have b1 := hg.2.1
  have n8 := hx.2.1
  have e1 : hI 1 = nI (g 1) := hh.1 1 (by decide)
  have rf := fun (K : Bool → (Nat → Int32) → (Nat → Nat → Int32) → Prop) hK => op_tie (K := K) ho hy hp ec hr hK
  unfold pX4_readTie
  refine sX4_digit b1 e1 hx (by omega) (fun a a1 a2 a3 _ => ⟨fun _ => ?_, fun z => absurd (nI_pos' (by omega)) z⟩) (fun q => ⟨fun z => absurd z (by decide), fun _ => ?_⟩)
  · refine sX4_digit b1 e1 hx (by omega) (fun b bb1 b2 b3 b4 => ?_) (fun q => ?_)
    · have hab : a ≠ b := fun e => b4 (by rw [e])
      unfold bX4_readTie_21
      refine ⟨fun z => absurd z (nI_pos (by omega)), fun _ => ?_⟩
      rw [hh.1 5 (by decide)]
      have rf2 : ∀ K : Bool → (Nat → Int32) → (Nat → Nat → Int32) → Prop, (pX6_takes 59 (va_up oI 18 (nI (p + 1 + 1 + 1))) oR (fun b3 oI_1 oR_1 => ((b3 = true → pX6_comesTie (nI a) (nI b) oI_1 oR_1 (fun _ a b => K true a b)) ∧ (b3 = false → K false oI_1 oR_1)))) → pX6_statement (va_up oI 18 (nI p)) oR K := by
        intro K k2
        refine rf K (two6 hg ho hy hp false (fun q => absurd ⟨a, a1, a2, a3⟩ q) (fun a' x1 x2 x3 q => absurd ⟨b, bb1, b2, b3, fun e => b4 (e.trans (congrArg nI (show a' = a by omega)))⟩ q) (fun a' b' x1 x2 x3 x4 x5 x6 => ?_))
        · have : a' = a := by omega
          subst this
          have : b' = b := by omega
          subst this
          refine ⟨fun _ => ?_, fun z => (by cases z)⟩
          unfold bX6_readsTwo_92
          have e1 : ∀ A B : Prop, ((zb false = 0 → A) ∧ (¬ zb false = 0 → B)) = A := fun A B => propext ⟨fun z => z.1 (by decide), fun z => ⟨fun _ => z, fun q => absurd (by decide) q⟩⟩
          simp only [e1]
          exact k2
      refine sX4_sign hx (k := 59) (by decide) (by omega) (fun q3 q4 => ⟨fun _ => ?_, fun z => (by cases z)⟩) (fun q3 => ⟨fun z => (by cases z), fun _ => ?_⟩)
      · refine sX3_add hr ?_
        obtain ⟨oI', oR', h1, h2, h3, h4⟩ := sX6_comesTie (ho.p18 (nI (p + 1 + 1 + 1 + 1))) hr a b
        exact hl true (p + 1 + 1 + 1 + 1) _ _ _ _ oI' oR' (fun _ => by omega) (by omega) (HG_tie hg hr a1 bb1) (((hh.upI 5 (g 5 + 1)).upR 4 (g 5) a).upR 5 (g 5) b) h1 h2 h3 (fun K hK => rf2 K (sX6_takes hy (k := 59) (by decide) (by omega) (fun _ _ => ⟨fun _ => h4 _ (fun _ => hK), fun z => (by cases z)⟩) (fun z => absurd ⟨q3, q4⟩ z)))
      · exact hl false (p + 1 + 1 + 1) g r hI hR (va_up oI 18 (nI (p + 1 + 1 + 1))) oR (fun z => (by cases z)) (by omega) hg hh (ho.p18 _) (EO.p18 _) rfl (fun K hK => rf2 K (sX6_takes hy (k := 59) (by decide) (by omega) (fun z1 z2 => absurd ⟨z1, z2⟩ q3) (fun _ => ⟨fun z => (by cases z), fun _ => hK⟩)))
    · unfold bX4_readTie_21
      refine ⟨fun _ => ?_, fun z => absurd (by decide) z⟩
      refine hl false (p + 1 + 1) g r hI hR (va_up oI 18 (nI (p + 1 + 1))) oR (fun z => (by cases z)) (by omega) hg hh (ho.p18 _) (EO.p18 _) rfl (fun K hK => rf K (two6 hg ho hy hp false (fun q => absurd ⟨a, a1, a2, a3⟩ q) (fun _ _ _ _ _ => hK) (fun a' b' x1 x2 x3 x4 x5 x6 => absurd ⟨b', x2, x4, x6, ?_⟩ q)))
      rw [Ne, nI_eq (by omega) (by omega)]; omega
  · unfold bX4_readTie_21
    refine ⟨fun _ => ?_, fun z => absurd (by decide) z⟩
    have q' : ¬ ∃ j, j < g 1 ∧ p + 1 < n ∧ c (p + 1) = 48 + j := fun ⟨j, j1, j2, j3⟩ => q ⟨j, j1, j2, j3, fun e => mb_1 j (by omega) e.symm⟩
    exact hl false (p + 1) g r hI hR (va_up oI 18 (nI (p + 1))) oR (fun z => (by cases z)) (by omega) hg hh (ho.p18 _) (EO.p18 _) rfl (fun K hK => rf K (two6 hg ho hy hp false (fun _ => hK) (fun a a1 a2 a3 _ => absurd ⟨a, a1, a2, a3⟩ q') (fun a b a1 _ _ a2 a3 _ => absurd ⟨a, a1, by omega, a3⟩ q')))
