/-! giving out: the reference, and both calls -/
def G2 (oR : Nat → Nat → Int32) (a b : Nat → Int32) : Nat → Nat → Int32 := va_up (va_up oR 24 a) 1 b
theorem G2_24 (oR : Nat → Nat → Int32) (a b a' : Nat → Int32) : va_up (G2 oR a b) 24 a' = G2 oR a' b := by
  funext j; unfold G2 va_up
  by_cases h : j = 24
  · subst h; rfl
  · rw [if_neg h, if_neg h, if_neg h]
theorem G2_1 (oR : Nat → Nat → Int32) (a b b' : Nat → Int32) : va_up (G2 oR a b) 1 b' = G2 oR a b' := by
  unfold G2; rw [bx_uu]
theorem G2_eta (oR : Nat → Nat → Int32) : G2 oR (oR 24) (oR 1) = oR := by
  unfold G2
  rw [va_eta, va_eta]
theorem QT.told2 {g : Nat → Nat} {r : Nat → Nat → Nat} {oI : Nat → Int32} {oR : Nat → Nat → Int32} {oI' : Nat → Int32} {oR' : Nat → Nat → Int32} {t t' : Nat → Nat} {w p : Nat} (h : QT oI oR oI' oR' g r t w p) {f : Nat → Int32} (hf : ∀ i, i < 8 → f i = nI (t' i)) : QT oI oR oI' (va_up oR' 1 f) g r t' w p := by
  obtain ⟨⟨⟨c0, c1, c2, c3⟩, c4⟩, h2, h3⟩ := h
  exact ⟨⟨⟨c0, hf, c2, rows_lo' c3 (by decide) _⟩, c4⟩, h2, h3⟩
theorem MB.told2 {g : Nat → Nat} {r : Nat → Nat → Nat} {mI : Nat → Int32} {mR : Nat → Nat → Int32} {t t' : Nat → Nat} {w p hs : Nat} (h : MB mI mR g r t w p hs) {f : Nat → Int32} (hf : ∀ i, i < 8 → f i = nI (t' i)) : MB mI (va_up mR 0 f) g r t' w p hs := by
  obtain ⟨m0, m1, m2, m3, m4, m5, m6, m7⟩ := h
  exact ⟨m0, m1, m2, m3, hf, m5, m6, m7⟩
theorem MQ_.told2 {g : Nat → Nat} {r : Nat → Nat → Nat} {mI : Nat → Int32} {mR : Nat → Nat → Int32} {t t' : Nat → Nat} {w p hs jL jT : Nat} (h : MQ_ mI mR g r t w p hs jL jT) {f : Nat → Int32} (hf : ∀ i, i < 8 → f i = nI (t' i)) : MQ_ mI (va_up mR 0 f) g r t' w p hs jL jT := ⟨h.1.told2 hf, h.2⟩
theorem sX6_gives {g : Nat → Nat} {r : Nat → Nat → Nat} {oI : Nat → Int32} {oR : Nat → Nat → Int32} (hg : HG g r) {oI' : Nat → Int32} {oR' : Nat → Nat → Int32} (hq : QT oI oR oI' oR' g r (r 0) 0 (g 3)) {k : Nat} (hk : k < 5) {post : Int32 → (Nat → Int32) → (Nat → Nat → Int32) → Prop} (h : ∀ oR2, QT oI oR oI' oR2 g r (gT g r k) 0 (g 3) → (∀ i, i < g 1 → oR2 24 i = nI (r 0 i)) → post (nI (gn g r k (g 1))) oI' oR2) : pX6_gives (nI k) oI' oR' post := by
  have b0 := hg.1
  have b1 := hg.2.1
  have o0 : oI' 10 = nI (g 0) := hq.1.1.1.1
  have o1 : oI' 11 = nI (g 1) := hq.1.1.1.2.1
  have p8 : 2 ^ (g 1) ≤ 2 ^ 8 := Nat.pow_le_pow_right (by decide) b1
  have p10 : 2 ^ (g 0) ≤ 2 ^ 10 := Nat.pow_le_pow_right (by decide) b0.2
  have hl := hs0_lt g
  have pm := pcH hg
  have key : ∀ d j (a b : Nat → Int32), j + d = g 1 → (∀ i, i < 8 → b i = nI (if i < j then gT g r k i else r 0 i)) → (∀ i, i < j → a i = nI (r 0 i)) → bX6_gives_16 (nI k) (nI (pc (hs0 g))) post (d + 1) (nI (pcn (hs0 g) j)) (nI (gn g r k j)) (nI j) oI' (G2 oR' a b) := by
    intro d
    induction d with
    | zero =>
      intro j a b hj hb ha
      have hj : j = g 1 := by omega
      subst hj
      unfold bX6_gives_16
      rw [o1]
      refine pk_le (g 1) (g 1) (fun _ => h _ ?_ (fun i hi => ?_)) (fun c => absurd c (by omega))
      · refine (hq.row (k := 24) (by unfold rO; omega) a).told2 (fun i hi => ?_)
        rw [hb i hi]
        by_cases c : i < g 1
        · rw [if_pos c]
        · rw [if_neg c, gT_f (tb_lt hl (show g 1 ≤ i by omega))]
      · exact ha i hi
    | succ d ih =>
      intro j a b hj hb ha
      unfold bX6_gives_16
      rw [o1]
      have q1 : G2 oR' a b 1 = b := rfl
      have q24 : G2 oR' a b 24 = a := rfl
      have q3 : G2 oR' a b 3 j = nI ((g 2).testBit j).toNat := hq.1.1.2.2.1 j (by omega)
      have bj : b j = nI (r 0 j) := by rw [hb j (by omega), if_neg (by omega)]
      have ha2 : ∀ i, i < j + 1 → upd a j (nI (r 0 j)) i = nI (r 0 i) := fun i hi => by
        by_cases e : i = j
        · subst e; exact upd_at
        · rw [upd_ne e]; exact ha i (by omega)
      refine pk_le (g 1) j (fun c => absurd c (by omega)) (fun _ => ⟨j, rfl, by omega, ?_⟩)
      rw [q1, bj]
      refine nm_e ?_
      rw [q3, q24, G2_24]
      have e := hs0_tb (show j < g 1 by omega)
      cases c : (g 2).testBit j
      · rw [c] at e
        have c2 : (hs0 g).testBit j = true := e
        have hlt := pcn_ltc (show j < 31 by omega) c2
        refine ⟨fun _ => sX6_given o0 b0.2 hk pm hlt ?_, fun q => absurd q (by decide)⟩
        rw [← gT_t (r := r) (k := k) c2, upd_at, G2_1]
        have gl := gT_lt hg (k := k) (show j < g 1 by omega)
        refine sX6_bits (by omega) (nm_r (nI_add _ _) (nm_r (nI_1 _) (nm_r (nI_1 j) ?_)))
        have hn := ih (j + 1) (upd a j (nI (r 0 j))) (upd b j (nI (gT g r k j))) (by omega) (fun i hi => by
          by_cases e : i = j
          · subst e; rw [upd_at, if_pos (by omega)]
          · rw [upd_ne e, hb i hi]
            have : (i < j + 1) = (i < j) := by apply propext; omega
            simp only [this]) ha2
        rw [pcn_t c2, gn_t c2] at hn
        exact hn
      · rw [c] at e
        have c2 : (hs0 g).testBit j = false := e
        refine ⟨fun q => absurd rfl q, fun _ => nm_r (nI_1 j) ?_⟩
        have hn := ih (j + 1) (upd a j (nI (r 0 j))) b (by omega) (fun i hi => by
          rw [hb i hi]
          by_cases e : i = j
          · subst e; rw [if_neg (by omega), if_pos (by omega), gT_f c2]
          · have : (i < j + 1) = (i < j) := by apply propext; omega
            simp only [this]) ha2
        rw [pcn_f c2, gn_f c2] at hn
        exact hn
  unfold pX6_gives
  refine sX6_houseSet hg o1 hq.1.1.2.2.1 (sX6_bits (by omega) ⟨g 1 + 1, ?_⟩)
  have := key (g 1) 0 (oR' 24) (oR' 1) (by omega) (fun i hi => by rw [if_neg (by omega)]; exact hq.1.1.2.1 i hi) (fun i hi => absurd hi (by omega))
  rw [G2_eta] at this
  exact this
theorem sX6_givesBack {g : Nat → Nat} {r : Nat → Nat → Nat} {oI : Nat → Int32} {oR : Nat → Nat → Int32} (hg : HG g r) {oI' : Nat → Int32} {oR' : Nat → Nat → Int32} {k : Nat} (hq : QT oI oR oI' oR' g r (gT g r k) 0 (g 3)) (h24 : ∀ i, i < g 1 → oR' 24 i = nI (r 0 i)) {post : (Nat → Int32) → (Nat → Nat → Int32) → Prop} (h : ∀ oR2, QT oI oR oI' oR2 g r (r 0) 0 (g 3) → post oI' oR2) : pX6_givesBack oI' oR' post := by
  have b1 := hg.2.1
  have o1 : oI' 11 = nI (g 1) := hq.1.1.1.2.1
  have hl := hs0_lt g
  have key : ∀ d j (f : Nat → Int32), j + d = g 1 → (∀ i, i < 8 → f i = nI (if i < j then r 0 i else gT g r k i)) → bX6_givesBack_2 post (d + 1) (nI j) oI' (va_up oR' 1 f) := by
    intro d
    induction d with
    | zero =>
      intro j f hj hf
      have hj : j = g 1 := by omega
      subst hj
      unfold bX6_givesBack_2
      rw [o1]
      refine pk_le (g 1) (g 1) (fun _ => h _ (hq.told2 (fun i hi => ?_))) (fun c => absurd c (by omega))
      rw [hf i hi]
      by_cases c : i < g 1
      · rw [if_pos c]
      · rw [if_neg c, gT_f (tb_lt hl (show g 1 ≤ i by omega))]
    | succ d ih =>
      intro j f hj hf
      unfold bX6_givesBack_2
      rw [o1]
      have q24 : va_up oR' 1 f 24 j = nI (r 0 j) := h24 j (by omega)
      refine pk_le (g 1) j (fun c => absurd c (by omega)) (fun _ => ⟨j, rfl, by omega, nm_r q24 (nm_r (nI_1 j) ?_)⟩)
      rw [bx_uu, va_at']
      refine ih (j + 1) _ (by omega) (fun i hi => ?_)
      by_cases e : i = j
      · subst e; rw [upd_at, if_pos (by omega)]
      · rw [upd_ne e, hf i hi]
        have : (i < j + 1) = (i < j) := by apply propext; omega
        simp only [this]
  have := key (g 1) 0 (oR' 1) (by omega) (fun i hi => by rw [if_neg (by omega)]; exact hq.1.1.2.1 i hi)
  rw [va_eta] at this
  exact ⟨_, this⟩
theorem inH {g : Nat → Nat} {r : Nat → Nat → Nat} {hI : Nat → Int32} {hR : Nat → Nat → Int32} (hg : HG g r) (hh : HR_ hI hR g r) {post : Int32 → Prop} (h : post (nI (hs0 g))) : pX1_inHouse hI hR post := by
  have b1 := hg.2.1
  unfold pX1_inHouse
  rw [hh.1 1 (by decide), hh.1 2 (by decide), q_all (by omega), q_nd]
  exact h
theorem gt4 {x : Int32} (h : nI 4 < x) : ¬ x < 5 := by
  intro z
  have h1 := Int32.lt_iff_toInt_lt.mp h
  have h2 := Int32.lt_iff_toInt_lt.mp z
  have h3 : (nI 4).toInt = 4 := by decide
  have h4 : (5 : Int32).toInt = 5 := by decide
  omega
theorem lt5 {k : Nat} (h : k < 5) : nI k < (5 : Int32) := nI_lt (b := 5) h (by decide)
theorem in4 {k : Nat} (hk : k ≤ 4) {P : Bool → Prop} (hP : P true) : pX6_isIn (nI k) 0 4 P := in16 (a := 0) (b := 4) (by decide) (by decide) (fun q => absurd ⟨k, Nat.zero_le _, hk, rfl⟩ q) (fun _ _ _ _ => hP)
theorem in2 {k : Nat} (hk : k ≤ 2) {P : Bool → Prop} (hP : P true) : pX6_isIn (nI k) 0 2 P := in16 (a := 0) (b := 2) (by decide) (by decide) (fun q => absurd ⟨k, Nat.zero_le _, hk, rfl⟩ q) (fun _ _ _ _ => hP)
theorem inB {x a b : Int32} (h : x < a ∨ b < x) {P : Bool → Prop} (hP : P false) : pX6_isIn x a b P := ⟨fun _ => hP, fun c => ⟨fun _ => hP, fun c2 => absurd (h.resolve_left c) c2⟩⟩
theorem gv6_1 {oI : Nat → Int32} {oR : Nat → Nat → Int32} {x y u : Int32} (h : x < 0 ∨ 4 < x) {post : Int32 → (Nat → Int32) → (Nat → Nat → Int32) → Prop} (hp : post (-1) oI (va_up oR 0 (upd (oR 0) 1 (oR 0 1 + 1)))) : pX6_giving x y u oI oR post := by
  unfold pX6_giving
  exact inB h ⟨fun z => (by cases z), fun _ => refM (k := 1) (by decide) (by decide) hp⟩
theorem gv6_2 {oI : Nat → Int32} {oR : Nat → Nat → Int32} {k : Nat} (hk : k ≤ 4) {y u : Int32} (h : y < 0 ∨ 2 < y) {post : Int32 → (Nat → Int32) → (Nat → Nat → Int32) → Prop} (hp : post (-2) oI (va_up oR 0 (upd (oR 0) 2 (oR 0 2 + 1)))) : pX6_giving (nI k) y u oI oR post := by
  unfold pX6_giving
  exact in4 hk ⟨fun _ => inB h ⟨fun z => (by cases z), fun _ => refM (k := 2) (by decide) (by decide) hp⟩, fun z => (by cases z)⟩
theorem gv6_4 {oI : Nat → Int32} {oR : Nat → Nat → Int32} {k v : Nat} (hk : k ≤ 4) (hv : v ≤ 2) {u : Int32} (h : u < 0) {post : Int32 → (Nat → Int32) → (Nat → Nat → Int32) → Prop} (hp : post (-4) oI (va_up oR 0 (upd (oR 0) 4 (oR 0 4 + 1)))) : pX6_giving (nI k) (nI v) u oI oR post := by
  unfold pX6_giving
  exact in4 hk ⟨fun _ => in2 hv ⟨fun _ => bLo h ⟨fun _ => ⟨fun q => absurd q (by decide), fun _ => refM (k := 4) (by decide) (by decide) hp⟩, fun q => absurd q (by decide)⟩, fun z => (by cases z)⟩, fun z => (by cases z)⟩
theorem gv6_6 {oI : Nat → Int32} {oR : Nat → Nat → Int32} {k v : Nat} (hk : k ≤ 4) (hv : v ≤ 2) {u : Int32} (h0 : 0 ≤ u) (h : 8 < u) {post : Int32 → (Nat → Int32) → (Nat → Nat → Int32) → Prop} (hp : post (-6) oI (va_up oR 0 (upd (oR 0) 6 (oR 0 6 + 1)))) : pX6_giving (nI k) (nI v) u oI oR post := by
  unfold pX6_giving
  exact in4 hk ⟨fun _ => in2 hv ⟨fun _ => bHi h0 h ⟨fun _ => ⟨fun q => absurd q (by decide), fun _ => refM (k := 6) (by decide) (by decide) hp⟩, fun q => absurd q (by decide)⟩, fun z => (by cases z)⟩, fun z => (by cases z)⟩
theorem gv6_3 {g : Nat → Nat} {r : Nat → Nat → Nat} {oI : Nat → Int32} {oR : Nat → Nat → Int32} (hg : HG g r) (ho : OM oI oR g r) {k v n : Nat} (hk : k ≤ 4) (hv : v ≤ 2) (hn : n ≤ 8) (h : nI (hs0 g) = 0) {post : Int32 → (Nat → Int32) → (Nat → Nat → Int32) → Prop} (hp : post (-3) oI (va_up oR 0 (upd (oR 0) 3 (oR 0 3 + 1)))) : pX6_giving (nI k) (nI v) (nI n) oI oR post := by
  unfold pX6_giving
  exact in4 hk ⟨fun _ => in2 hv ⟨fun _ => bIn (nI_pos' (by omega)) (nI_le (b := 8) hn (by decide)) ⟨fun q => absurd rfl q, fun _ => sX6_houseSet hg ho.1.1.2.1 ho.1.2.2.1 ⟨fun q => absurd h q, fun _ => ⟨fun q => absurd q (by decide), fun _ => refM (k := 3) (by decide) (by decide) hp⟩⟩⟩, fun z => (by cases z)⟩, fun z => (by cases z)⟩
theorem gv6_a {g : Nat → Nat} {r : Nat → Nat → Nat} {oI : Nat → Int32} {oR : Nat → Nat → Int32} (hg : HG g r) (ho : OM oI oR g r) {k n : Nat} (hk : k ≤ 4) (hn : n ≤ 8) (h : ¬ nI (hs0 g) = 0) {post : Int32 → (Nat → Int32) → (Nat → Nat → Int32) → Prop} (hp : ∀ oI' oR', QT oI oR oI' oR' g r (r 0) 0 (g 3) → post (nI (gn g r k (g 1))) oI' oR') : pX6_giving (nI k) (nI 0) (nI n) oI oR post := by
  unfold pX6_giving
  exact in4 hk ⟨fun _ => in2 (by decide) ⟨fun _ => bIn (nI_pos' (by omega)) (nI_le (b := 8) hn (by decide)) ⟨fun q => absurd rfl q, fun _ => sX6_houseSet hg ho.1.1.2.1 ho.1.2.2.1 ⟨fun _ => ⟨fun _ => sX6_gives hg (QT.rf ho) (by omega) (fun oR2 hq2 h24 => fkT hg hq2 (by decide) (fun a' b' c' hk' hq3 => ⟨fun q => absurd rfl q, fun _ => sX6_givesBack hg hq3 h24 (fun oR4 hq4 => hp _ _ hq4)⟩)), fun q => absurd rfl q⟩, fun q => absurd q h⟩⟩, fun z => (by cases z)⟩, fun z => (by cases z)⟩
theorem gv6_b {g : Nat → Nat} {r : Nat → Nat → Nat} {oI : Nat → Int32} {oR : Nat → Nat → Int32} (hg : HG g r) (ho : OM oI oR g r) {k n : Nat} (hk : k ≤ 4) (hn : n ≤ 8) (h : ¬ nI (hs0 g) = 0) {b : Bool} (hb : b = true ↔ Ag g r (gT g r k) 0 (g 3) (hs0 g) 0 n) {post : Int32 → (Nat → Int32) → (Nat → Nat → Int32) → Prop} (hp : ∀ oI' oR', QT oI oR oI' oR' g r (r 0) 0 (g 3) → post (zb b) oI' oR') : pX6_giving (nI k) (nI 1) (nI n) oI oR post := by
  unfold pX6_giving
  refine in4 hk ⟨fun _ => in2 (by decide) ⟨fun _ => bIn (nI_pos' (by omega)) (nI_le (b := 8) hn (by decide)) ⟨fun q => absurd rfl q, fun _ => sX6_houseSet hg ho.1.1.2.1 ho.1.2.2.1 ⟨fun _ => ⟨fun _ => sX6_gives hg (QT.rf ho) (by omega) (fun oR2 hq2 h24 => fkT hg hq2 (by decide) (fun a' b' c' hk' hq3 => ⟨fun _ => ⟨fun _ => sX6_holdsAgainst (z := false) hg hk' (tgG hg k) hn (fun b2 hb2 => ⟨fun z => sX6_givesBack hg hq3 h24 (fun oR4 hq4 => ?_), fun z => sX6_givesBack hg hq3 h24 (fun oR4 hq4 => ?_)⟩), fun q => absurd q (by decide)⟩, fun q => absurd q (by decide)⟩)), fun q => absurd rfl q⟩, fun q => absurd q h⟩⟩, fun z => (by cases z)⟩, fun z => (by cases z)⟩
  · have e : b = false := (bIff hb hb2).trans z
    have := hp _ _ hq4
    rw [e] at this; exact this
  · have e : b = true := (bIff hb hb2).trans z
    have := hp _ _ hq4
    rw [e] at this; exact this
theorem gv6_c {g : Nat → Nat} {r : Nat → Nat → Nat} {oI : Nat → Int32} {oR : Nat → Nat → Int32} (hg : HG g r) (ho : OM oI oR g r) {k n : Nat} (hk : k ≤ 4) (hn : n ≤ 8) (h : ¬ nI (hs0 g) = 0) {b : Bool} (hb : b = true ↔ Ag g r (gT g r k) 0 (g 3) (hs0 g) 1 n) {post : Int32 → (Nat → Int32) → (Nat → Nat → Int32) → Prop} (hp : ∀ oI' oR', QT oI oR oI' oR' g r (r 0) 0 (g 3) → post (zb b) oI' oR') : pX6_giving (nI k) (nI 2) (nI n) oI oR post := by
  unfold pX6_giving
  refine in4 hk ⟨fun _ => in2 (by decide) ⟨fun _ => bIn (nI_pos' (by omega)) (nI_le (b := 8) hn (by decide)) ⟨fun q => absurd rfl q, fun _ => sX6_houseSet hg ho.1.1.2.1 ho.1.2.2.1 ⟨fun _ => ⟨fun _ => sX6_gives hg (QT.rf ho) (by omega) (fun oR2 hq2 h24 => fkT hg hq2 (by decide) (fun a' b' c' hk' hq3 => ⟨fun _ => ⟨fun q => absurd rfl q, fun _ => sX6_holdsAgainst (z := true) hg hk' (tgG hg k) hn (fun b2 hb2 => ⟨fun z => sX6_givesBack hg hq3 h24 (fun oR4 hq4 => ?_), fun z => sX6_givesBack hg hq3 h24 (fun oR4 hq4 => ?_)⟩)⟩, fun q => absurd q (by decide)⟩)), fun q => absurd rfl q⟩, fun q => absurd q h⟩⟩, fun z => (by cases z)⟩, fun z => (by cases z)⟩
  · have e : b = false := (bIff hb hb2).trans z
    have := hp _ _ hq4
    rw [e] at this; exact this
  · have e : b = true := (bIff hb hb2).trans z
    have := hp _ _ hq4
    rw [e] at this; exact this
theorem zc_22 {L : Nat} {xs : Nat → Int32} {i : Nat} (hi : i + 4 ≤ L) {ko : Option ((Nat → Int32) × (Nat → Nat → Int32))} {sI : Nat → Int32} {sR : Nat → Nat → Int32} {tI : Nat → Int32} {tR : Nat → Nat → Int32} {hI : Nat → Int32} {hR : Nat → Nat → Int32} {mI : Nat → Int32} {mR : Nat → Nat → Int32} {oI : Nat → Int32} {oR : Nat → Nat → Int32} (h : zIn ko sI sR tI tR hI hR mI mR oI oR) : pL_22 L xs (nI i) sI sR tI tR hI hR mI mR oI oR (zIn ko) := by
  obtain ⟨g, r, hg, hh, ho, hr⟩ := h
  have b0 := hg.1
  have b1 := hg.2.1
  have e0 : hI 0 = nI (g 0) := hh.1 0 (by decide)
  have e1 : hI 1 = nI (g 1) := hh.1 1 (by decide)
  have o0 : oI 10 = nI (g 0) := ho.1.1.1
  have o1 : oI 11 = nI (g 1) := ho.1.1.2.1
  refine ⟨i + 1, nI_1 i, by omega, i + 2, nI_add i 2, by omega, i + 3, nI_add i 3, by omega, ?_⟩
  generalize xs (i + 1) = x
  generalize xs (i + 2) = y
  generalize xs (i + 3) = u
  have t0 := tg0 hg
  have hl31 : hs0 g < 2 ^ 31 := lt31 (hs0_lt g) (by omega)
  unfold pX5_giving
  rcases bnd x (a := 0) (b := 4) (by decide) (by decide) with c | c | ⟨k, k1, k2, ek⟩
  · exact ⟨fun _ => refC (k := 1) (by decide) (by decide) (gv6_1 (Or.inl c) (fin2 rfl (fzK hg hh ho hr (by decide)))), fun q => absurd c q⟩
  · have c0 := lt_hi (a := 0) (by decide) (by decide) c
    exact ⟨fun q => absurd q (Int32.not_lt.mpr c0), fun _ => ⟨fun q => absurd q (gt4 c), fun _ => refC (k := 1) (by decide) (by decide) (gv6_1 (Or.inr c) (fin2 rfl (fzK hg hh ho hr (by decide))))⟩⟩
  subst ek
  refine ⟨fun q => absurd q (nI_pos (by omega)), fun _ => ⟨fun _ => ?_, fun q => absurd (lt5 (by omega)) q⟩⟩
  rcases bnd y (a := 0) (b := 2) (by decide) (by decide) with c | c | ⟨v, v1, v2, ev⟩
  · exact ⟨fun _ => refC (k := 2) (by decide) (by decide) (gv6_2 k2 (Or.inl c) (fin2 rfl (fzK hg hh ho hr (by decide)))), fun q => absurd c q⟩
  · have c0 := lt_hi (a := 0) (by decide) (by decide) c
    exact ⟨fun q => absurd q (Int32.not_lt.mpr c0), fun _ => ⟨fun q => absurd c (Int32.not_lt.mpr q), fun _ => refC (k := 2) (by decide) (by decide) (gv6_2 k2 (Or.inr c) (fin2 rfl (fzK hg hh ho hr (by decide))))⟩⟩
  subst ev
  have l3 : nI v ≤ (2 : Int32) := nI_le (b := 2) v2 (by decide)
  refine ⟨fun q => absurd q (nI_pos (by omega)), fun _ => ⟨fun _ => ?_, fun q => absurd l3 q⟩⟩
  rcases bnd u (a := 0) (b := 8) (by decide) (by decide) with c | c | ⟨n, n1, n2, en⟩
  · exact oLo c ⟨fun q => absurd q (by decide), fun _ => refC (k := 4) (by decide) (by decide) (gv6_4 k2 v2 c (fin2 rfl (fzK hg hh ho hr (by decide))))⟩
  · have c0 := lt_hi (a := 0) (by decide) (by decide) c
    exact oHi c0 c ⟨fun q => absurd q (by decide), fun _ => refC (k := 6) (by decide) (by decide) (gv6_6 k2 v2 c0 c (fin2 rfl (fzK hg hh ho hr (by decide))))⟩
  subst en
  have n0' : (0 : Int32) ≤ nI n := nI_pos' (by omega)
  have n8' : nI n ≤ (8 : Int32) := nI_le (b := 8) n2 (by decide)
  refine oIn n0' n8' ⟨fun _ => inH hg hh ⟨fun c => ?_, fun c => refC (k := 3) (by decide) (by decide) (gv6_3 hg ho k2 v2 n2 c (fin2 rfl (fzK hg hh ho hr (by decide))))⟩, fun q => absurd rfl q⟩
  refine sX2_begin hg hh (fun mI' mR' hm => sX2_giveOut (r := r) (t := r 0) hg hh hm.2.1 hm.2.2.2.2.1 (fun _ _ => rfl) (k := k) (by omega) (fun f hf => ?_))
  have hm2 := hm.told2 hf
  have tG := tgG hg k
  have hv : v = 0 ∨ v = 1 ∨ v = 2 := by omega
  rcases hv with e | e | e <;> subst e
  · exact ⟨fun q => absurd rfl q, fun _ => gv6_a hg ho k2 n2 c (fun oI' oR' hq => fin2 rfl (zQT hg hh hr hq))⟩
  · refine ⟨fun _ => qX2_choose hg hm2 t0.2.2 n2 n2 (fun mI3 mR3 hm3 _ => ⟨fun q => absurd rfl q, fun _ => qX2_isKept hg hh hm3 tG (fun b mI4 hb hm4 => ?_)⟩), fun q => absurd q (by decide)⟩
    cases b
    · exact ⟨fun _ => gv6_b hg ho k2 n2 c hb (fun oI' oR' hq => fin2 rfl (zQT hg hh hr hq)), fun z => (by cases z)⟩
    · exact ⟨fun z => (by cases z), fun _ => gv6_b hg ho k2 n2 c hb (fun oI' oR' hq => fin2 rfl (zQT hg hh hr hq))⟩
  · refine ⟨fun _ => qX2_choose hg hm2 t0.2.2 n2 n2 (fun mI3 mR3 hm3 _ => ⟨fun _ => qX2_isSafe hg hh hm3 tG (fun b mI4 hb hm4 => ?_), fun q => absurd q (by decide)⟩), fun q => absurd q (by decide)⟩
    cases b
    · exact ⟨fun _ => gv6_c hg ho k2 n2 c hb (fun oI' oR' hq => fin2 rfl (zQT hg hh hr hq)), fun z => (by cases z)⟩
    · exact ⟨fun z => (by cases z), fun _ => gv6_c hg ho k2 n2 c hb (fun oI' oR' hq => fin2 rfl (zQT hg hh hr hq))⟩
