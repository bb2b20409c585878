/-! mend: the reference -/
theorem hs0_tb {g : Nat → Nat} {h : Nat} (hh : h < g 1) : (hs0 g).testBit h = !(g 2).testBit h := by
  unfold hs0
  rw [nd_tb, tb_all, decide_eq_true hh, Bool.true_and]
theorem sX6_mayTell {g : Nat → Nat} {r : Nat → Nat → Nat} {oI : Nat → Int32} {oR : Nat → Nat → Int32} (hg : HG g r) {t : Nat → Nat} {w p : Nat} (ho : OQ oI oR g r t w p) (ht : TG g t p (hs0 g)) {a : Nat} (ha : a < 80) {post : Bool → Prop} (h1 : may g t a → post true) (h2 : ¬ may g t a → post false) : pX6_mayTell (nI a) oI oR post := by
  have b0 := hg.1
  have b1 := hg.2.1
  unfold pX6_mayTell
  rw [rm10 ha, dv10 ha, ho.1.1, ho.1.2.1]
  refine pk_le (g 0) (a % 10) (fun c => h2 (fun z => absurd z.2.1 (by omega))) (fun c => pk_le (g 1) (a / 10) (fun c2 => h2 (fun z => absurd (may_lt z) (by omega))) (fun c2 => ⟨a / 10, rfl, by omega, ?_⟩))
  rw [ho.2.2.1 _ (by omega), ho.2.1 _ (by omega), q_bit0 (lt31 (ht.1 _ c2) (by omega)) (by omega)]
  have e := hs0_tb c2
  cases d : (g 2).testBit (a / 10)
  · rw [d] at e
    refine ⟨fun q => absurd rfl q, fun _ => ⟨fun q => h2 (fun z => q z.2.2), fun q => h1 ⟨e, c, q⟩⟩⟩
  · rw [d] at e
    refine ⟨fun _ => h2 (fun z => ?_), fun q => absurd q (by decide)⟩
    have := z.1
    rw [e] at this; cases this
theorem xor1 {x s : Nat} (h : x.testBit s = false) : nI x ^^^ nI (2 ^ s) = nI (wi true x s) := by
  rw [q_xor, wi_xor (z := true) (by rw [h]; decide)]
theorem xor2 {x s : Nat} (h : x.testBit s = false) : nI (wi true x s) ^^^ nI (2 ^ s) = nI x := by
  rw [q_xor, wi_xor (z := false) (by rw [wi_tb, if_pos rfl]; decide), wi_un h]
theorem sX6_find13 {g : Nat → Nat} {r : Nat → Nat → Nat} {oI : Nat → Int32} {oR : Nat → Nat → Int32} (hg : HG g r) (ho : OM oI oR g r) {jL jT : Nat} (hL : jL ≤ 8) (hT : jT ≤ 8) {post : Int32 → (Nat → Int32) → (Nat → Nat → Int32) → Prop} {k94 : (Nat → Int32) → (Nat → Nat → Int32) → Prop} (hp : ∀ a oI' oR', a < 80 → F1 g r jL jT (r 0) a → (∀ j, j < a → ¬ F1 g r jL jT (r 0) j) → QT oI oR oI' oR' g r (r 0) 0 (g 3) → oR' 23 0 = nI a → post 1 oI' oR') (hk : ∀ oI' oR', (∀ j, j < 80 → ¬ F1 g r jL jT (r 0) j) → QT oI oR oI' oR' g r (r 0) 0 (g 3) → k94 oI' oR') {oI1 : Nat → Int32} {oR1 : Nat → Nat → Int32} (hq : QT oI oR oI1 oR1 g r (r 0) 0 (g 3)) : ∃ n, bX6_findMend_13 (nI jL) (nI jT) post k94 n 0 oI1 oR1 := by
  have t0 := tg0 hg
  have b1 := hg.2.1
  have key : ∀ d i oI' oR', i + d = 80 → (∀ j, j < i → ¬ F1 g r jL jT (r 0) j) → QT oI oR oI' oR' g r (r 0) 0 (g 3) → bX6_findMend_13 (nI jL) (nI jT) post k94 (d + 1) (nI i) oI' oR' := by
    intro d
    induction d with
    | zero =>
      intro i oI' oR' hi hn hq
      have hi : i = 80 := by omega
      subst hi
      unfold bX6_findMend_13
      exact pk_le 80 80 (fun _ => hk oI' oR' hn hq) (fun c => absurd c (by omega))
    | succ d ih =>
      intro i oI' oR' hi hn hq
      have nx : ∀ oI2 oR2, ¬ F1 g r jL jT (r 0) i → QT oI oR oI2 oR2 g r (r 0) 0 (g 3) → bX6_findMend_13 (nI jL) (nI jT) post k94 (d + 1) (nI (i + 1)) oI2 oR2 := by
        intro oI2 oR2 hno hq2
        refine ih (i + 1) oI2 oR2 (by omega) (fun j j1 => ?_) hq2
        by_cases e : j = i
        · subst e; exact hno
        · exact hn j (by omega)
      unfold bX6_findMend_13
      refine pk_le 80 i (fun c => absurd c (by omega)) (fun c => sX6_mayTell hg hq.1.1 t0 c (fun hmay => ⟨fun _ => ⟨i / 10, dv10 c, by omega, ?_⟩, fun z => (by cases z)⟩) (fun hmay => ⟨fun z => (by cases z), fun _ => nm_r (nI_1 i) (nx _ _ (fun z => hmay z.1) hq)⟩))
      rw [rm10 c, q_shl1 (by omega), hq.1.1.2.1 _ (by omega)]
      refine nm_r (xor1 hmay.2.2) ?_
      have hq2 : QT oI oR oI' (va_up oR' 1 (upd (oR' 1) (i / 10) (nI (wi true (r 0 (i / 10)) (i % 10))))) g r (tl (r 0) i) 0 (g 3) := hq.tell _ _
      refine sX6_holdsT hg hq2 (by decide) (tl_tg t0 hmay) hL hT (fun b oR2 hb hq3 e1 e23 _ => nm_r (e' := nI (r 0 (i / 10))) ?_ ⟨0, rfl, by decide, ?_⟩)
      · rw [hq3.1.1.2.1 _ (by omega), tl_at, xor2 hmay.2.2]
      · have hq4 := hq3.tell (i / 10) (r 0 (i / 10))
        rw [tl_un] at hq4
        have hq5 := hq4.row (k := 23) (by unfold rO; omega) (upd (oR2 23) 0 (nI i))
        refine ⟨fun z => nm_r (nI_1 i) (nx _ _ (fun q => ?_) hq5), fun z => hp i _ _ c ⟨hmay, hb.mp z⟩ hn hq5 (show upd (oR2 23) 0 (nI i) 0 = nI i from upd_at)⟩
        have := hb.mpr q.2
        rw [z] at this; cases this
  exact ⟨_, key 80 0 oI1 oR1 (by omega) (fun j hj => absurd hj (by omega)) hq⟩
theorem sX6_find107 {g : Nat → Nat} {r : Nat → Nat → Nat} {oI : Nat → Int32} {oR : Nat → Nat → Int32} (hg : HG g r) {jL jT : Nat} (hL : jL ≤ 8) (hT : jT ≤ 8) {a : Nat} (ha : a < 80) {post : Int32 → (Nat → Int32) → (Nat → Nat → Int32) → Prop} {k246 : (Nat → Int32) → (Nat → Nat → Int32) → Prop} (hp : ∀ b oI' oR', a < b → b < 80 → F2 g r jL jT (r 0) a b → (∀ j, a < j → j < b → ¬ F2 g r jL jT (r 0) a j) → QT oI oR oI' oR' g r (r 0) 0 (g 3) → oR' 23 0 = nI a → oR' 23 1 = nI b → post 2 oI' oR') (hk : ∀ oI' oR', (∀ j, a < j → j < 80 → ¬ F2 g r jL jT (r 0) a j) → QT oI oR oI' oR' g r (r 0) 0 (g 3) → k246 oI' oR') {oI1 : Nat → Int32} {oR1 : Nat → Nat → Int32} (hq : QT oI oR oI1 oR1 g r (r 0) 0 (g 3)) : ∃ n, bX6_findMend_107 (nI jL) (nI jT) (nI a) post k246 n (nI (a + 1)) oI1 oR1 := by
  have t0 := tg0 hg
  have b1 := hg.2.1
  have key : ∀ d i oI' oR', i + d = 80 → a < i → (∀ j, a < j → j < i → ¬ F2 g r jL jT (r 0) a j) → QT oI oR oI' oR' g r (r 0) 0 (g 3) → bX6_findMend_107 (nI jL) (nI jT) (nI a) post k246 (d + 1) (nI i) oI' oR' := by
    intro d
    induction d with
    | zero =>
      intro i oI' oR' hi hai hn hq
      have hi : i = 80 := by omega
      subst hi
      unfold bX6_findMend_107
      exact pk_le 80 80 (fun _ => hk oI' oR' hn hq) (fun c => absurd c (by omega))
    | succ d ih =>
      intro i oI' oR' hi hai hn hq
      have nx : ∀ oI2 oR2, ¬ F2 g r jL jT (r 0) a i → QT oI oR oI2 oR2 g r (r 0) 0 (g 3) → bX6_findMend_107 (nI jL) (nI jT) (nI a) post k246 (d + 1) (nI (i + 1)) oI2 oR2 := by
        intro oI2 oR2 hno hq2
        refine ih (i + 1) oI2 oR2 (by omega) (by omega) (fun j j1 j2 => ?_) hq2
        by_cases e : j = i
        · subst e; exact hno
        · exact hn j j1 (by omega)
      unfold bX6_findMend_107
      refine pk_le 80 i (fun c => absurd c (by omega)) (fun c => sX6_mayTell hg hq.1.1 t0 ha (fun hma => ⟨fun z => (by cases z), fun _ => sX6_mayTell hg hq.1.1 t0 c (fun hmay => ⟨fun _ => ⟨a / 10, dv10 ha, by omega, ?_⟩, fun z => (by cases z)⟩) (fun hmay => ⟨fun z => (by cases z), fun _ => nm_r (nI_1 i) (nx _ _ (fun z => hmay z.2.1) hq)⟩)⟩) (fun hma => ⟨fun _ => nm_r (nI_1 i) (nx _ _ (fun z => hma z.1) hq), fun z => (by cases z)⟩))
      have hmi := (may_tl (t := r 0) (g := g) (a := a) (b := i) (by omega)).mpr hmay
      rw [rm10 ha, rm10 c, q_shl1 (j := a % 10) (by omega), q_shl1 (j := i % 10) (by omega), hq.1.1.2.1 (a / 10) (by omega)]
      refine nm_r (xor1 hma.2.2) ⟨i / 10, dv10 c, by omega, ?_⟩
      have e2 : upd (oR' 1) (a / 10) (nI (wi true (r 0 (a / 10)) (a % 10))) (i / 10) = nI (tl (r 0) a (i / 10)) := updN hq.1.1.2.1 _ (by omega)
      rw [e2]
      refine nm_r (xor1 hmi.2.2) ?_
      have hq2 := (hq.tell (a / 10) (wi true (r 0 (a / 10)) (a % 10))).tell (i / 10) (wi true (tl (r 0) a (i / 10)) (i % 10))
      rw [bx_uu oR', va_at' oR'] at hq2
      have hq2 : QT oI oR oI' (va_up oR' 1 (upd (upd (oR' 1) (a / 10) (nI (wi true (r 0 (a / 10)) (a % 10)))) (i / 10) (nI (wi true (tl (r 0) a (i / 10)) (i % 10))))) g r (tl (tl (r 0) a) i) 0 (g 3) := hq2
      refine sX6_holdsT hg hq2 (by decide) (tl_tg (tl_tg t0 hma) hmi) hL hT (fun b oR2 hb hq3 e1 e23 _ => nm_r (e' := nI (tl (r 0) a (i / 10))) ?_ (nm_r (e' := nI (r 0 (a / 10))) ?_ ⟨0, rfl, by decide, 1, rfl, by decide, ?_⟩))
      · rw [hq3.1.1.2.1 _ (by omega), tl_at, xor2 hmi.2.2]
      · have := updN (j := i / 10) (v := tl (r 0) a (i / 10)) hq3.1.1.2.1 (a / 10) (by omega)
        rw [this, tl_un, tl_at, xor2 hma.2.2]
      · have hq4 := hq3.tell (i / 10) (tl (r 0) a (i / 10))
        rw [tl_un] at hq4
        have hq5 := hq4.tell (a / 10) (r 0 (a / 10))
        rw [tl_un, bx_uu oR2, va_at' oR2] at hq5
        have hq6 := hq5.row (k := 23) (by unfold rO; omega) (upd (upd (oR2 23) 0 (nI a)) 1 (nI i))
        refine ⟨fun z => nm_r (nI_1 i) (nx _ _ (fun q => ?_) hq6), fun z => hp i _ _ hai c ⟨hma, hmay, hb.mp z⟩ hn hq6 ?_ (show upd (upd (oR2 23) 0 (nI a)) 1 (nI i) 1 = nI i from upd_at)⟩
        · have := hb.mpr q.2.2
          rw [z] at this; cases this
        · show upd (upd (oR2 23) 0 (nI a)) 1 (nI i) 0 = _
          rw [upd_ne (by decide), upd_at]
  exact ⟨_, key (79 - a) (a + 1) oI1 oR1 (by omega) (by omega) (fun j h1 h2 => absurd h1 (by omega)) hq⟩
theorem sX6_findMend {g : Nat → Nat} {r : Nat → Nat → Nat} {oI : Nat → Int32} {oR : Nat → Nat → Int32} (hg : HG g r) (ho : OM oI oR g r) {jL jT : Nat} (hL : jL ≤ 8) (hT : jT ≤ 8) {post : Int32 → (Nat → Int32) → (Nat → Nat → Int32) → Prop} (hp : ∀ n oI' oR', MS g r jL jT (r 0) n (oR' 23) → QT oI oR oI' oR' g r (r 0) 0 (g 3) → post n oI' oR') : pX6_findMend (nI jL) (nI jT) oI oR post := by
  have t0 := tg0 hg
  unfold pX6_findMend
  refine sX6_holdsT hg (QT.rf ho) (by decide) t0 hL hT (fun b oR1 hb hq _ _ _ => ⟨fun s1 => ?_, fun s1 => hp 0 _ _ (Or.inl ⟨rfl, hb.mp s1⟩) hq⟩)
  have nh : ¬ Hd g r jL jT (r 0) := fun z => by
    have := hb.mpr z
    rw [s1] at this; cases this
  refine sX6_find13 hg ho hL hT (fun a oI' oR' ha hF hno hq2 e => hp 1 _ _ (Or.inr (Or.inl ⟨rfl, nh, a, ha, hF, hno, e⟩)) hq2) (fun oI' oR' hno hq2 => ?_) hq
  have key : ∀ d i oI' oR', i + d = 80 → (∀ a b, a < i → a < b → b < 80 → ¬ F2 g r jL jT (r 0) a b) → QT oI oR oI' oR' g r (r 0) 0 (g 3) → bX6_findMend_96 (nI jL) (nI jT) post (d + 1) (nI i) oI' oR' := by
    intro d
    induction d with
    | zero =>
      intro i oI' oR' hi hn hq
      have hi : i = 80 := by omega
      subst hi
      unfold bX6_findMend_96
      exact pk_le 80 80 (fun _ => hp (-9) _ _ (Or.inr (Or.inr (Or.inr ⟨rfl, nh, hno, fun a b h1 h2 => hn a b (by omega) h1 h2⟩))) hq) (fun c => absurd c (by omega))
    | succ d ih =>
      intro i oI' oR' hi hn hq
      unfold bX6_findMend_96
      refine pk_le 80 i (fun c => absurd c (by omega)) (fun c => nm_r (nI_1 i) (sX6_find107 hg hL hT c (fun b oI2 oR2 h1 h2 hF hn2 hq3 e0 e1 => hp 2 _ _ (Or.inr (Or.inr (Or.inl ⟨rfl, nh, hno, i, b, h1, h2, hF, hn, hn2, e0, e1⟩))) hq3) (fun oI2 oR2 hn2 hq3 => nm_r (nI_1 i) (ih (i + 1) oI2 oR2 (by omega) (fun a b h1 h2 h3 => ?_) hq3)) hq))
      by_cases e : a = i
      · subst e; exact hn2 b h2 h3
      · exact hn a b (by omega) h2 h3
  exact ⟨_, key 80 0 oI' oR' (by omega) (fun a b h1 => absurd h1 (by omega)) hq2⟩
theorem MS.uniq {g : Nat → Nat} {r : Nat → Nat → Nat} {jL jT : Nat} {t : Nat → Nat} {n n' : Int32} {f f' : Nat → Int32} (h : MS g r jL jT t n f) (h' : MS g r jL jT t n' f') : n = n' ∧ (n = 1 ∨ n = 2 → f 0 = f' 0) ∧ (n = 2 → f 1 = f' 1) := by
  rcases h with ⟨e, h1⟩ | ⟨e, h1, a, a1, a2, a3, a4⟩ | ⟨e, h1, h2, a, b, a1, a2, a3, a4, a5, a6, a7⟩ | ⟨e, h1, h2, h3⟩
  · rcases h' with ⟨e', h1'⟩ | ⟨e', h1', _⟩ | ⟨e', h1', _⟩ | ⟨e', h1', _⟩
    · exact ⟨by rw [e, e'], fun z => (by rw [e] at z; rcases z with z | z <;> exact absurd z (by decide)), fun z => (by rw [e] at z; exact absurd z (by decide))⟩
    · exact absurd h1 h1'
    · exact absurd h1 h1'
    · exact absurd h1 h1'
  · rcases h' with ⟨e', h1'⟩ | ⟨e', h1', b, b1, b2, b3, b4⟩ | ⟨e', h1', h2', _⟩ | ⟨e', h1', h2', _⟩
    · exact absurd h1' h1
    · have : a = b := by
        rcases Nat.lt_trichotomy a b with z | z | z
        · exact absurd a2 (b3 a z)
        · exact z
        · exact absurd b2 (a3 b z)
      subst this
      exact ⟨by rw [e, e'], fun _ => by rw [a4, b4], fun z => (by rw [e] at z; exact absurd z (by decide))⟩
    · exact absurd a2 (h2' a a1)
    · exact absurd a2 (h2' a a1)
  · rcases h' with ⟨e', h1'⟩ | ⟨e', h1', c, c1, c2, _⟩ | ⟨e', h1', h2', c, d, c1, c2, c3, c4, c5, c6, c7⟩ | ⟨e', h1', h2', h3'⟩
    · exact absurd h1' h1
    · exact absurd c2 (h2 c c1)
    · have : a = c := by
        rcases Nat.lt_trichotomy a c with z | z | z
        · exact absurd a3 (c4 a b z a1 a2)
        · exact z
        · exact absurd c3 (a4 c d z c1 c2)
      subst this
      have : b = d := by
        rcases Nat.lt_trichotomy b d with z | z | z
        · exact absurd a3 (c5 b a1 z)
        · exact z
        · exact absurd c3 (a5 d c1 z)
      subst this
      exact ⟨by rw [e, e'], fun _ => by rw [a6, c6], fun _ => by rw [a7, c7]⟩
    · exact absurd a3 (h3' a b a1 a2)
  · rcases h' with ⟨e', h1'⟩ | ⟨e', h1', c, c1, c2, _⟩ | ⟨e', h1', h2', c, d, c1, c2, c3, _⟩ | ⟨e', h1', h2', h3'⟩
    · exact absurd h1' h1
    · exact absurd c2 (h2 c c1)
    · exact absurd c3 (h3 c d c1 c2)
    · exact ⟨by rw [e, e'], fun z => (by rw [e] at z; rcases z with z | z <;> exact absurd z (by decide)), fun z => (by rw [e] at z; exact absurd z (by decide))⟩
theorem MS.val {g : Nat → Nat} {r : Nat → Nat → Nat} {jL jT : Nat} {t : Nat → Nat} {n : Int32} {f : Nat → Int32} (h : MS g r jL jT t n f) : n = 0 ∨ n = 1 ∨ n = 2 ∨ n = -9 := by
  rcases h with ⟨e, _⟩ | ⟨e, _⟩ | ⟨e, _⟩ | ⟨e, _⟩
  · exact Or.inl e
  · exact Or.inr (Or.inl e)
  · exact Or.inr (Or.inr (Or.inl e))
  · exact Or.inr (Or.inr (Or.inr e))
theorem m9_le {j : Nat} (h : j < 2 ^ 31) : (-9 : Int32) ≤ nI j := by
  apply Int32.le_of_lt
  exact Int32.lt_of_lt_of_le (by decide : (-9 : Int32) < 0) (nI_pos' h)
theorem m1_cases {x : Int32} (h : (-1) ≤ x) : x = -1 ∨ ∃ j, j < 2 ^ 31 ∧ x = nI j := by
  by_cases c : x < 0
  · left
    apply Int32.toInt_inj.mp
    have h1 : x.toInt < 0 := by simpa using Int32.lt_iff_toInt_lt.mp c
    have h2 : (-1 : Int32).toInt ≤ x.toInt := Int32.le_iff_toInt_le.mp h
    have h3 : (-1 : Int32).toInt = -1 := by decide
    omega
  · exact Or.inr (nI_of c)
theorem zc_19 {L : Nat} {xs : Nat → Int32} {i : Nat} (hi : i + 4 ≤ L) {ko : Option ((Nat → Int32) × (Nat → Nat → Int32))} {sI : Nat → Int32} {sR : Nat → Nat → Int32} {tI : Nat → Int32} {tR : Nat → Nat → Int32} {hI : Nat → Int32} {hR : Nat → Nat → Int32} {mI : Nat → Int32} {mR : Nat → Nat → Int32} {oI : Nat → Int32} {oR : Nat → Nat → Int32} (h : zIn ko sI sR tI tR hI hR mI mR oI oR) : pL_19 L xs (nI i) sI sR tI tR hI hR mI mR oI oR (zIn ko) := by
  obtain ⟨g, r, hg, hh, ho, hr⟩ := h
  have b0 := hg.1
  have b1 := hg.2.1
  have e0 : hI 0 = nI (g 0) := hh.1 0 (by decide)
  have e1 : hI 1 = nI (g 1) := hh.1 1 (by decide)
  have o0 : oI 10 = nI (g 0) := ho.1.1.1
  have o1 : oI 11 = nI (g 1) := ho.1.1.2.1
  refine ⟨i + 1, nI_1 i, by omega, i + 2, nI_add i 2, by omega, i + 3, nI_add i 3, by omega, ?_⟩
  generalize xs (i + 1) = x
  generalize xs (i + 2) = y
  generalize xs (i + 3) = u
  have t0 := tg0 hg
  unfold pX5_mend pX6_mend
  refine ⟨fun c => ?_, fun c => ?_⟩
  · rcases ohC x y with c2 | c2 | ⟨jL, jT, hL, hT, eL, eT⟩
    · exact oh4 c2 ⟨fun q => absurd q (by decide), fun _ => refC (k := 4) (by decide) (by decide) ⟨fun _ => nt4 c2 ⟨fun q => absurd q (by decide), fun _ => refM (k := 4) (by decide) (by decide) (fin2 rfl (fzK hg hh ho hr (by decide)))⟩, fun q => absurd c q⟩⟩
    · exact oh6 c2 ⟨fun q => absurd q (by decide), fun _ => refC (k := 6) (by decide) (by decide) ⟨fun _ => nt6 c2 ⟨fun q => absurd q (by decide), fun _ => refM (k := 6) (by decide) (by decide) (fin2 rfl (fzK hg hh ho hr (by decide)))⟩, fun q => absurd c q⟩⟩
    subst eL; subst eT
    refine oh0 hL hT ⟨fun _ => sX2_begin hg hh (fun mI' mR' hm => qX2_choose hg hm t0.2.2 hL hT (fun mI2 mR2 hm2 _ => sX5_fewestTellings hg hh hm2 t0 (fun n f mI3 mR3 hs1 => ?_))), fun q => absurd rfl q⟩
    have rf : ∀ (Q : Int32 → (Nat → Int32) → (Nat → Nat → Int32) → Prop), (∀ oI' oR', QT oI oR oI' oR' g r (r 0) 0 (g 3) → (n = 1 ∨ n = 2 → oR' 23 0 = f 0) → (n = 2 → oR' 23 1 = f 1) → ((¬ u = (-1) → ((n ≤ u → (Q (-9) oI' oR')) ∧ (¬ n ≤ u → (∃ j1 : Nat, u = nI j1 ∧ j1 < 2 ∧ (Q ((oR' 23) j1) oI' oR'))))) ∧ (u = (-1) → (Q n oI' oR')))) → (((-1) ≤ u → (pX6_notTwo (nI jL) (nI jT) (fun r1 => (bX6_mend_15 (nI jL) (nI jT) u r1 oI oR Q)))) ∧ (¬ (-1) ≤ u → (bX6_mend_15 (nI jL) (nI jT) u (-4) oI oR Q))) := by
      intro Q hQ
      refine ⟨fun _ => nt0 hL hT ⟨fun _ => sX6_findMend hg ho hL hT (fun n' oI' oR' hs2 hq => ?_), fun q => absurd rfl q⟩, fun q => absurd c q⟩
      obtain ⟨u1, u2, u3⟩ := hs1.uniq hs2
      rw [← u1]
      exact hQ oI' oR' hq (fun z => (u2 z).symm) (fun z => (u3 z).symm)
    have hr2 : RM ko sI (va_up sR 2 f) tI tR oI oR := ⟨⟨hr.1.1, hr.1.2⟩, hr.2⟩
    have zz : ∀ oI' oR', QT oI oR oI' oR' g r (r 0) 0 (g 3) → zIn ko sI (va_up sR 2 f) tI tR hI hR mI3 mR3 oI' oR' := fun oI' oR' hq => zQT (mI := mI3) (mR := mR3) hg hh hr2 hq
    rcases m1_cases c with e | ⟨j, j1, e⟩
    · subst e
      exact ⟨fun q => absurd rfl q, fun _ => rf _ (fun oI' oR' hq _ _ => ⟨fun q => absurd rfl q, fun _ => fin2 rfl (zz oI' oR' hq)⟩)⟩
    · subst e
      have ne : ¬ nI j = (-1) := fun e => m1_ne j1 e.symm
      refine ⟨fun _ => ⟨fun le => rf _ (fun oI' oR' hq _ _ => ⟨fun _ => ⟨fun _ => fin2 rfl (zz oI' oR' hq), fun q => absurd le q⟩, fun q => absurd q ne⟩), fun nle => ?_⟩, fun q => absurd q ne⟩
      have hv : (n = 1 ∨ n = 2) ∧ (j = 0 ∨ (j = 1 ∧ n = 2)) := by
        rcases hs1.val with e | e | e | e
        · subst e; exact absurd (nI_pos' j1) nle
        · subst e
          have : ¬ 1 ≤ j := fun z => nle (nI_le (a := 1) z j1)
          exact ⟨Or.inl rfl, Or.inl (by omega)⟩
        · subst e
          have : ¬ 2 ≤ j := fun z => nle (nI_le (a := 2) z j1)
          refine ⟨Or.inr rfl, ?_⟩
          by_cases z : j = 0
          · exact Or.inl z
          · exact Or.inr ⟨by omega, rfl⟩
        · subst e; exact absurd (m9_le j1) nle
      have j2 : j < 2 := by omega
      refine pk_le 2 j (fun q => absurd q (by omega)) (fun _ => ⟨j, rfl, j2, rf _ (fun oI' oR' hq u2 u3 => ⟨fun _ => ⟨fun q => absurd q nle, fun _ => ⟨j, rfl, j2, fin2 ?_ (zz oI' oR' hq)⟩⟩, fun q => absurd q ne⟩)⟩)
      show f j = oR' 23 j
      rcases hv.2 with z | ⟨z, z2⟩
      · subst z; exact (u2 hv.1).symm
      · subst z; exact (u3 z2).symm
  · exact ⟨fun q => absurd q (by decide), fun _ => refC (k := 4) (by decide) (by decide) ⟨fun q => absurd q c, fun _ => ⟨fun q => absurd q (by decide), fun _ => refM (k := 4) (by decide) (by decide) (fin2 rfl (fzK hg hh ho hr (by decide)))⟩⟩⟩
