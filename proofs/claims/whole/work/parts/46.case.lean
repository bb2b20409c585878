/-! walls, bank -/
theorem pcn_cut {x n : Nat} (hx : x < 2 ^ n) : ∀ d, pcn x (n + d) = pcn x n
  | 0 => rfl
  | d + 1 => by
    have e : pcn x (n + (d + 1)) = pcn x (n + d) + (x.testBit (n + d)).toNat := rfl
    rw [e, pcn_cut hx d, tb_lt hx (by omega)]
    rfl
theorem pc_n {x n : Nat} (hx : x < 2 ^ n) (hn : n ≤ 31) : pc x = pcn x n := by
  have := pcn_cut hx (31 - n)
  rw [show n + (31 - n) = 31 by omega] at this
  exact this
theorem pcn_full {x : Nat} : ∀ k, pcn x k = k → ∀ i, i < k → x.testBit i = true
  | 0, _, i, hi => absurd hi (by omega)
  | k + 1, h, i, hi => by
    have e : pcn x (k + 1) = pcn x k + (x.testBit k).toNat := rfl
    have h1 := pcn_le x k
    have h2 : (x.testBit k).toNat ≤ 1 := by cases x.testBit k <;> decide
    rw [e] at h
    by_cases c : i = k
    · subst c
      cases z : x.testBit i
      · rw [z] at h; simp at h; omega
      · rfl
    · exact pcn_full k (by omega) i (by omega)
theorem pc_len {x n : Nat} (hx : x < 2 ^ n) (hn : n ≤ 31) : pc x ≤ n := by rw [pc_n hx hn]; exact pcn_le x n
theorem pc_ltn {x n : Nat} (hx : x < 2 ^ n - 1) (hn : n ≤ 31) : pc x < n := by
  have hx2 : x < 2 ^ n := by omega
  rcases Nat.lt_or_eq_of_le (pc_len hx2 hn) with z | z
  · exact z
  · rw [pc_n hx2 hn] at z
    have := pcn_full n z
    have e : x = 2 ^ n - 1 := by
      apply q_ext; intro i
      rw [tb_all]
      by_cases c : i < n
      · rw [this i c, decide_eq_true c]
      · rw [tb_lt hx2 (by omega), decide_eq_false c]
    omega
theorem pcn_all (n : Nat) : ∀ k, k ≤ n → pcn (2 ^ n - 1) k = k
  | 0, _ => rfl
  | k + 1, h => by
    have e : pcn (2 ^ n - 1) (k + 1) = pcn (2 ^ n - 1) k + ((2 ^ n - 1).testBit k).toNat := rfl
    rw [e, pcn_all n k (by omega), tb_all, decide_eq_true (show k < n by omega)]
    rfl
theorem pc_all {n : Nat} (hn : n ≤ 31) : pc (2 ^ n - 1) = n := by
  rw [pc_n (by have := Nat.two_pow_pos n; omega) hn]
  exact pcn_all n n (Nat.le_refl _)
def enc2 (N : Nat) : Option Nat → Nat
  | none => 2 ^ N - 1
  | some b => b
def wn2 (N : Nat) : Option Nat → Nat
  | none => N
  | some b => pc b
theorem wn2_le {N : Nat} {o : Option Nat} {i : Nat} (hN : N ≤ 31) (hi : i < 2 ^ N - 1) (h : wn2 N o ≤ pc i) : wn o ≤ pc i := by
  cases o with
  | none => have h : N ≤ pc i := h; have := pc_ltn hi hN; omega
  | some b => exact h
theorem wn2_lt {N : Nat} {o : Option Nat} {i : Nat} (h : pc i < wn2 N o) : pc i < wn o := by
  cases o with
  | none => have := pc_le i; show pc i < 99; omega
  | some b => exact h
theorem wn2_31 {N : Nat} (hN : N ≤ 31) (o : Option Nat) : wn2 N o < 2 ^ 31 := by
  cases o with
  | none => show N < 2 ^ 31; omega
  | some b => have := pc_le b; show pc b < 2 ^ 31; omega
theorem BS.fin {P : Nat → Prop} {N : Nat} {o : Option Nat} (hN : N ≤ 31) (hP : P (2 ^ N - 1)) (h : BS P (2 ^ N - 1) o) : ∃ o', BS P (2 ^ N) o' ∧ nI (enc2 N o) = enc o' := by
  have pp := Nat.two_pow_pos N
  have e : 2 ^ N - 1 + 1 = 2 ^ N := by omega
  cases o with
  | none =>
    refine ⟨some (2 ^ N - 1), ?_, rfl⟩
    have := h.better (by have := pc_le (2 ^ N - 1); show _ < 99; omega) hP
    rw [e] at this; exact this
  | some b =>
    refine ⟨some b, ?_, rfl⟩
    have hb := h.1
    have := h.heavy (by rw [pc_all hN]; exact pc_len (by omega) hN)
    rw [e] at this; exact this
-- walls
theorem MB.wall {g : Nat → Nat} {r : Nat → Nat → Nat} {mI : Nat → Int32} {mR : Nat → Nat → Int32} {t : Nat → Nat} {w p hs : Nat} (h : MB mI mR g r t w p hs) {w' : Nat} {f q : Nat → Int32} (hf : ∀ i, i < 8 → f i = nI (sn r w' (g 4) i)) (hq : ∀ i, i < g 1 → q i = nI (sc r w' (g 4) (g 5) i)) : MB mI (va_up (va_up mR 2 f) 3 q) g r t w' p hs := by
  obtain ⟨m0, m1, m2, m3, m4, m5, m6, m7⟩ := h
  exact ⟨m0, m1, m2, m3, m4, m5, hf, hq⟩
def PW (g : Nat → Nat) (r : Nat → Nat → Nat) (jT s : Nat) : Prop := Ag g r (r 0) s (g 3) (hs0 g) 1 jT
theorem sX5_fewestWalls {g : Nat → Nat} {r : Nat → Nat → Nat} {sI : Nat → Int32} {sR : Nat → Nat → Int32} {tI : Nat → Int32} {tR : Nat → Nat → Int32} {hI : Nat → Int32} {hR : Nat → Nat → Int32} {mI : Nat → Int32} {mR : Nat → Nat → Int32} (hg : HG g r) (hh : HR_ hI hR g r) {jT : Nat} (hm : MB mI mR g r (r 0) 0 (g 3) (hs0 g)) (hc : CH (g 1) (mI 6) (mI 7) (mR 5) (hs0 g) (min jT (pc (hs0 g)))) {post : Int32 → (Nat → Int32) → (Nat → Nat → Int32) → Prop} (hp : ∀ o mI' mR', BS (PW g r jT) (2 ^ (g 4)) o → post (enc o) mI' mR') : pX5_fewestWalls sI sR tI tR hI hR mI mR post := by
  have b4 := hg.2.2.2.2.1
  have t0 := tg0 hg
  have e4 : hI 4 = nI (g 4) := hh.1 4 (by decide)
  have pp := Nat.two_pow_pos (g 4)
  have p12 : 2 ^ (g 4) ≤ 2 ^ 12 := Nat.pow_le_pow_right (by decide) b4
  unfold pX5_fewestWalls
  rw [e4, q_all (by omega)]
  refine nm_e (sX2_lookAround hg hh (by omega) hm.2.2.2.2.2.1 (fun f q hf hq => ?_))
  refine sX2_isSafe (j := jT) hg hh (hm.wall hf hq) t0 hc (fun b st hb hc2 => ⟨fun e => ?_, fun e => hp none _ _ (fun s hs hP => ?_)⟩)
  · have key : ∀ d i o w mI' mR', i + d = 2 ^ (g 4) - 1 → BS (PW g r jT) i o → MB mI' mR' g r (r 0) w (g 3) (hs0 g) → CH (g 1) (mI' 6) (mI' 7) (mR' 5) (hs0 g) (min jT (pc (hs0 g))) → bX5_fewestWalls_52 (nI (2 ^ (g 4) - 1)) sI sR tI tR hI hR post (d + 1) (nI (enc2 (g 4) o)) (nI (wn2 (g 4) o)) (nI i) mI' mR' := by
      intro d
      induction d with
      | zero =>
        intro i o w mI' mR' hi hbs hm' hc'
        have hi : i = 2 ^ (g 4) - 1 := by omega
        subst hi
        unfold bX5_fewestWalls_52
        obtain ⟨o', h1, h2⟩ := hbs.fin (by omega) (hb.mp e)
        rw [h2]
        exact pk_le (2 ^ (g 4) - 1) (2 ^ (g 4) - 1) (fun _ => hp o' mI' mR' h1) (fun c => absurd c (by omega))
      | succ d ih =>
        intro i o w mI' mR' hi hbs hm' hc'
        have hpi := pc_le i
        unfold bX5_fewestWalls_52
        refine pk_le (2 ^ (g 4) - 1) i (fun c => absurd c (by omega)) (fun _ => sJ6 (by omega) ?_)
        refine pk_le (wn2 (g 4) o) (pc i) (fun c => nm_r (nI_1 i) (ih (i + 1) o w mI' mR' (by omega) (hbs.heavy (wn2_le (N := g 4) (by omega) (by omega) c)) hm' hc')) (fun c => ?_) rfl rfl (wn2_31 (by omega) o) (by omega)
        refine sX2_lookAround hg hh (by omega) hm'.2.2.2.2.2.1 (fun f q hf hq => ?_)
        refine sX2_isSafe (j := jT) hg hh (hm'.wall hf hq) t0 hc' (fun b2 st2 hb2 hc2 => ⟨fun z => nm_r (nI_1 i) (ih (i + 1) o i _ _ (by omega) (hbs.skip (fun q => ?_)) ((hm'.wall hf hq).up5 7 (by decide) st2) hc2), fun z => nm_r (nI_1 i) (ih (i + 1) (some i) i _ _ (by omega) (hbs.better (wn2_lt c) (hb2.mp z)) ((hm'.wall hf hq).up5 7 (by decide) st2) hc2)⟩)
        have := hb2.mpr q
        rw [z] at this; cases this
    exact ⟨_, key (2 ^ (g 4) - 1) 0 none _ _ _ (by omega) (BS.zero _) ((hm.wall hf hq).up5 7 (by decide) st) hc2⟩
  · have := hb.mpr (Ag1_mono hg (fun i _ => sb_rfl _) t0.1 (sb_all hs) hP)
    rw [e] at this; cases this
theorem sX6_walls24 {g : Nat → Nat} {r : Nat → Nat → Nat} {oI : Nat → Int32} {oR : Nat → Nat → Int32} (hg : HG g r) (ho : OM oI oR g r) {jT : Nat} (hT : jT ≤ 8) {post : Int32 → (Nat → Int32) → (Nat → Nat → Int32) → Prop} (hp : ∀ o oI' oR', BS (PW g r jT) (2 ^ (g 4)) o → QT oI oR oI' oR' g r (r 0) 0 (g 3) → post (enc o) oI' oR') : ∃ n, bX6_walls_24 (nI jT) post n (-9) 0 oI oR := by
  have b4 := hg.2.2.2.2.1
  have t0 := tg0 hg
  have p12 : 2 ^ (g 4) ≤ 2 ^ 12 := Nat.pow_le_pow_right (by decide) b4
  have key : ∀ d i o w oI' oR', i + d = 2 ^ (g 4) → BS (PW g r jT) i o → QT oI oR oI' oR' g r (r 0) w (g 3) → bX6_walls_24 (nI jT) post (d + 1) (enc o) (nI i) oI' oR' := by
    intro d
    induction d with
    | zero =>
      intro i o w oI' oR' hi hb hq
      have hi : i = 2 ^ (g 4) := by omega
      subst hi
      unfold bX6_walls_24
      rw [hq.1.1.1.2.2.1, q_shl1 (by omega)]
      exact pk_le (2 ^ (g 4)) (2 ^ (g 4)) (fun _ => hp o _ _ hb (hq.wall 0)) (fun c => absurd c (by omega))
    | succ d ih =>
      intro i o w oI' oR' hi hb hq
      have hi31 : i < 2 ^ 31 := by omega
      unfold bX6_walls_24
      rw [hq.1.1.1.2.2.1, q_shl1 (by omega)]
      refine pk_le (2 ^ (g 4)) i (fun c => absurd c (by omega)) (fun _ => cmp6 (fun b e => by have := hb.lt b e; omega) hi31 (fun c => ?_) (fun c => nm_r (nI_1 i) (ih (i + 1) o w oI' oR' (by omega) (hb.heavy c) hq)))
      refine fkT hg (hq.wall i) hi31 (fun a' b' c' hk hq2 => sX6_holdsAgainst (z := true) hg hk t0 hT (fun b2 hb2 => ⟨fun z => nm_r (nI_1 i) (ih (i + 1) o i _ _ (by omega) (hb.skip (fun q => ?_)) hq2), fun z => nm_r (nI_1 i) (ih (i + 1) (some i) i _ _ (by omega) (hb.better c (hb2.mp z)) hq2)⟩))
      have := hb2.mpr q
      rw [z] at this; cases this
  exact ⟨_, key (2 ^ (g 4)) 0 none 0 oI oR (by omega) (BS.zero _) (QT.rf ho)⟩
theorem zc_20 {L : Nat} {xs : Nat → Int32} {i : Nat} (hi : i + 4 ≤ L) {ko : Option ((Nat → Int32) × (Nat → Nat → Int32))} {sI : Nat → Int32} {sR : Nat → Nat → Int32} {tI : Nat → Int32} {tR : Nat → Nat → Int32} {hI : Nat → Int32} {hR : Nat → Nat → Int32} {mI : Nat → Int32} {mR : Nat → Nat → Int32} {oI : Nat → Int32} {oR : Nat → Nat → Int32} (h : zIn ko sI sR tI tR hI hR mI mR oI oR) : pL_20 L xs (nI i) sI sR tI tR hI hR mI mR oI oR (zIn ko) := by
  obtain ⟨g, r, hg, hh, ho, hr⟩ := h
  have b0 := hg.1
  have b1 := hg.2.1
  have e0 : hI 0 = nI (g 0) := hh.1 0 (by decide)
  have e1 : hI 1 = nI (g 1) := hh.1 1 (by decide)
  have o0 : oI 10 = nI (g 0) := ho.1.1.1
  have o1 : oI 11 = nI (g 1) := ho.1.1.2.1
  refine ⟨i + 1, nI_1 i, by omega, ?_⟩
  generalize xs (i + 1) = x
  have t0 := tg0 hg
  unfold pX5_walls pX6_walls
  rcases bnd x (a := 0) (b := 8) (by decide) (by decide) with c | c | ⟨v, v1, v2, ev⟩
  · exact oLo c ⟨fun q => absurd q (by decide), fun _ => refC (k := 4) (by decide) (by decide) (bLo c ⟨fun q => absurd q (by decide), fun _ => refM (k := 4) (by decide) (by decide) (fin2 rfl (fzK hg hh ho hr (by decide)))⟩)⟩
  · have c0 := lt_hi (a := 0) (by decide) (by decide) c
    exact oHi c0 c ⟨fun q => absurd q (by decide), fun _ => refC (k := 6) (by decide) (by decide) (bHi c0 c ⟨fun q => absurd q (by decide), fun _ => refM (k := 6) (by decide) (by decide) (fin2 rfl (fzK hg hh ho hr (by decide)))⟩)⟩
  subst ev
  refine oIn (nI_pos' (by omega)) (nI_le (b := 8) v2 (by decide)) ⟨fun _ => sX2_begin hg hh (fun mI' mR' hm => ?_), fun q => absurd rfl q⟩
  refine sX2_chooseTakers hg hm t0.2.2 v2 (fun zz st f hch => ?_)
  refine sX5_fewestWalls (jT := v) hg hh (MB.up5 (MB.up5 (MB.up4 hm 5 (by decide) f) 6 (by decide) zz) 7 (by decide) st) hch (fun o mI2 mR2 hb1 => ?_)
  refine bIn (nI_pos' (by omega)) (nI_le (b := 8) v2 (by decide)) ⟨fun _ => sX6_walls24 hg ho v2 (fun o' oI' oR' hb2 hq => fin2 ?_ (zQT hg hh hr hq)), fun q => absurd rfl q⟩
  rw [hb1.uniq hb2]
-- bank
theorem MB.paper {g : Nat → Nat} {r : Nat → Nat → Nat} {mI : Nat → Int32} {mR : Nat → Nat → Int32} {t : Nat → Nat} {w p hs : Nat} (h : MB mI mR g r t w p hs) (p' : Nat) : MB (va_up mI 3 (nI p')) mR g r t w p' hs := by
  obtain ⟨m0, m1, m2, m3, m4⟩ := h
  exact ⟨m0, m1, m2, rfl, m4⟩
def PB (g : Nat → Nat) (r : Nat → Nat → Nat) (jL s : Nat) : Prop := Ag g r (r 0) 0 s (hs0 g) 0 jL
theorem PB_all {g : Nat → Nat} {r : Nat → Nat → Nat} (hg : HG g r) (jL : Nat) : PB g r jL (2 ^ (g 0) - 1) := by
  intro s h1 h2 h3
  have t0 := tg0 hg
  have pp := Nat.two_pow_pos (g 0)
  unfold bd
  rw [if_pos rfl]
  have hk := kn_lt hg t0.1 0 (S := nd (hs0 g) s) (nd_lt t0.2.2)
  have e : kn g r (r 0) 0 (nd (hs0 g) s) ||| (2 ^ (g 0) - 1) = 2 ^ (g 0) - 1 := by
    apply sb_anti
    · exact sb_all (or_lt hk (by omega))
    · rw [Nat.or_comm]; exact sb_l _ _
  rw [e, cl_all hg, beq_self_eq_true]
  rfl
theorem tgP {g : Nat → Nat} {t : Nat → Nat} {p hs p' : Nat} (ht : TG g t p hs) (hp : p' < 2 ^ (g 0)) : TG g t p' hs := ⟨ht.1, hp, ht.2.2⟩
theorem sX5_fewestOnPaper {g : Nat → Nat} {r : Nat → Nat → Nat} {sI : Nat → Int32} {sR : Nat → Nat → Int32} {tI : Nat → Int32} {tR : Nat → Nat → Int32} {hI : Nat → Int32} {hR : Nat → Nat → Int32} {mI : Nat → Int32} {mR : Nat → Nat → Int32} (hg : HG g r) (hh : HR_ hI hR g r) {jL : Nat} (hm : MB mI mR g r (r 0) 0 (g 3) (hs0 g)) (hc : CH (g 1) (mI 4) (mI 5) (mR 4) (hs0 g) (min jL (pc (hs0 g)))) {post : Int32 → (Nat → Int32) → (Nat → Nat → Int32) → Prop} (hp : ∀ o mI' mR', BS (PB g r jL) (2 ^ (g 0)) o → post (enc o) mI' mR') : pX5_fewestOnPaper sI sR tI tR hI hR mI mR post := by
  have b0 := hg.1
  have t0 := tg0 hg
  have e0 : hI 0 = nI (g 0) := hh.1 0 (by decide)
  have pp := Nat.two_pow_pos (g 0)
  have p10 : 2 ^ (g 0) ≤ 2 ^ 10 := Nat.pow_le_pow_right (by decide) b0.2
  have key : ∀ d i o p mI' mR', i + d = 2 ^ (g 0) - 1 → BS (PB g r jL) i o → MB mI' mR' g r (r 0) 0 p (hs0 g) → CH (g 1) (mI' 4) (mI' 5) (mR' 4) (hs0 g) (min jL (pc (hs0 g))) → bX5_fewestOnPaper_18 sI sR tI tR hI hR post (d + 1) (nI (enc2 (g 0) o)) (nI (wn2 (g 0) o)) (nI i) mI' mR' := by
    intro d
    induction d with
    | zero =>
      intro i o p mI' mR' hi hbs hm' hc'
      have hi : i = 2 ^ (g 0) - 1 := by omega
      subst hi
      unfold bX5_fewestOnPaper_18 pX1_it
      obtain ⟨o', h1, h2⟩ := hbs.fin (by omega) (PB_all hg jL)
      rw [h2, e0, q_all (by omega)]
      exact pk_le (2 ^ (g 0) - 1) (2 ^ (g 0) - 1) (fun _ => hp o' mI' mR' h1) (fun c => absurd c (by omega))
    | succ d ih =>
      intro i o p mI' mR' hi hbs hm' hc'
      have hpi := pc_le i
      unfold bX5_fewestOnPaper_18 pX1_it
      rw [e0, q_all (by omega)]
      refine pk_le (2 ^ (g 0) - 1) i (fun c => absurd c (by omega)) (fun _ => sJ6 (by omega) ?_)
      refine pk_le (wn2 (g 0) o) (pc i) (fun c => nm_r (nI_1 i) (ih (i + 1) o p mI' mR' (by omega) (hbs.heavy (wn2_le (N := g 0) (by omega) (by omega) c)) hm' hc')) (fun c => ?_) rfl rfl (wn2_31 (by omega) o) (by omega)
      refine sX2_isKept (j := jL) hg hh (hm'.paper i) (tgP t0 (by omega)) hc' (fun b2 st2 hb2 hc2 => ⟨fun z => nm_r (nI_1 i) (ih (i + 1) o i _ _ (by omega) (hbs.skip (fun q => ?_)) ((hm'.paper i).up5 5 (by decide) st2) hc2), fun z => nm_r (nI_1 i) (ih (i + 1) (some i) i _ _ (by omega) (hbs.better (wn2_lt c) (hb2.mp z)) ((hm'.paper i).up5 5 (by decide) st2) hc2)⟩)
      have := hb2.mpr q
      rw [z] at this; cases this
  unfold pX5_fewestOnPaper pX1_it
  rw [e0, q_all (by omega)]
  exact ⟨_, key (2 ^ (g 0) - 1) 0 none (g 3) mI mR (by omega) (BS.zero _) hm hc⟩
theorem sX6_bank34 {g : Nat → Nat} {r : Nat → Nat → Nat} {oI : Nat → Int32} {oR : Nat → Nat → Int32} (hg : HG g r) {oR1 : Nat → Nat → Int32} {jL : Nat} (hL : jL ≤ 8) (hq0 : QT oI oR oI oR1 g r (r 0) 0 (g 3)) (h20 : ∀ j, j < g 1 → oR1 20 j = nI (un (r 0) (sc r 0 (g 4) (g 5) j) 8)) {post : Int32 → (Nat → Int32) → (Nat → Nat → Int32) → Prop} (hp : ∀ o oI' oR', BS (PB g r jL) (2 ^ (g 0)) o → QT oI oR oI' oR' g r (r 0) 0 (g 3) → post (enc o) oI' oR') : ∃ n, bX6_bank_34 (nI jL) (nI (g 3)) post n (-9) 0 oI oR1 := by
  have b0 := hg.1
  have t0 := tg0 hg
  have pp := Nat.two_pow_pos (g 0)
  have p10 : 2 ^ (g 0) ≤ 2 ^ 10 := Nat.pow_le_pow_right (by decide) b0.2
  have key : ∀ d i o p oI', i + d = 2 ^ (g 0) → BS (PB g r jL) i o → QT oI oR oI' oR1 g r (r 0) 0 p → bX6_bank_34 (nI jL) (nI (g 3)) post (d + 1) (enc o) (nI i) oI' oR1 := by
    intro d
    induction d with
    | zero =>
      intro i o p oI' hi hb hq
      have hi : i = 2 ^ (g 0) := by omega
      subst hi
      unfold bX6_bank_34 pX6_all
      rw [hq.1.1.1.1, q_all (by omega)]
      exact pk_lt (2 ^ (g 0) - 1) (2 ^ (g 0)) (fun _ => hp o _ _ hb (hq.paper (g 3))) (fun c => absurd c (by omega))
    | succ d ih =>
      intro i o p oI' hi hb hq
      have hi31 : i < 2 ^ 31 := by omega
      unfold bX6_bank_34 pX6_all
      rw [hq.1.1.1.1, q_all (by omega)]
      refine pk_lt (2 ^ (g 0) - 1) i (fun c => absurd c (by omega)) (fun _ => cmp6 (fun b e => by have := hb.lt b e; omega) hi31 (fun c => ?_) (fun c => nm_r (nI_1 i) (ih (i + 1) o p oI' (by omega) (hb.heavy c) hq)))
      refine sX6_holdsAgainst (z := false) hg ⟨(hq.paper i).1.1, h20⟩ (tgP t0 (by omega)) hL (fun b2 hb2 => ⟨fun z => nm_r (nI_1 i) (ih (i + 1) o i _ (by omega) (hb.skip (fun q => ?_)) (hq.paper i)), fun z => nm_r (nI_1 i) (ih (i + 1) (some i) i _ (by omega) (hb.better c (hb2.mp z)) (hq.paper i))⟩)
      have := hb2.mpr q
      rw [z] at this; cases this
  exact ⟨_, key (2 ^ (g 0)) 0 none (g 3) oI (by omega) (BS.zero _) hq0⟩
theorem zc_21 {L : Nat} {xs : Nat → Int32} {i : Nat} (hi : i + 4 ≤ L) {ko : Option ((Nat → Int32) × (Nat → Nat → Int32))} {sI : Nat → Int32} {sR : Nat → Nat → Int32} {tI : Nat → Int32} {tR : Nat → Nat → Int32} {hI : Nat → Int32} {hR : Nat → Nat → Int32} {mI : Nat → Int32} {mR : Nat → Nat → Int32} {oI : Nat → Int32} {oR : Nat → Nat → Int32} (h : zIn ko sI sR tI tR hI hR mI mR oI oR) : pL_21 L xs (nI i) sI sR tI tR hI hR mI mR oI oR (zIn ko) := by
  obtain ⟨g, r, hg, hh, ho, hr⟩ := h
  have b0 := hg.1
  have b1 := hg.2.1
  have e0 : hI 0 = nI (g 0) := hh.1 0 (by decide)
  have e1 : hI 1 = nI (g 1) := hh.1 1 (by decide)
  have o0 : oI 10 = nI (g 0) := ho.1.1.1
  have o1 : oI 11 = nI (g 1) := ho.1.1.2.1
  refine ⟨i + 1, nI_1 i, by omega, ?_⟩
  generalize xs (i + 1) = x
  have t0 := tg0 hg
  unfold pX5_bank pX6_bank
  rcases bnd x (a := 0) (b := 8) (by decide) (by decide) with c | c | ⟨v, v1, v2, ev⟩
  · exact oLo c ⟨fun q => absurd q (by decide), fun _ => refC (k := 4) (by decide) (by decide) (bLo c ⟨fun q => absurd q (by decide), fun _ => refM (k := 4) (by decide) (by decide) (fin2 rfl (fzK hg hh ho hr (by decide)))⟩)⟩
  · have c0 := lt_hi (a := 0) (by decide) (by decide) c
    exact oHi c0 c ⟨fun q => absurd q (by decide), fun _ => refC (k := 6) (by decide) (by decide) (bHi c0 c ⟨fun q => absurd q (by decide), fun _ => refM (k := 6) (by decide) (by decide) (fin2 rfl (fzK hg hh ho hr (by decide)))⟩)⟩
  subst ev
  refine oIn (nI_pos' (by omega)) (nI_le (b := 8) v2 (by decide)) ⟨fun _ => sX2_begin hg hh (fun mI' mR' hm => ?_), fun q => absurd rfl q⟩
  refine sX2_chooseLeavers hg hm t0.2.2 v2 (fun zz st f hch => ?_)
  refine sX5_fewestOnPaper (jL := v) hg hh (MB.up5 (MB.up5 (MB.up4 hm 4 (by decide) f) 4 (by decide) zz) 5 (by decide) st) hch (fun o mI2 mR2 hb1 => ?_)
  refine bIn (nI_pos' (by omega)) (nI_le (b := 8) v2 (by decide)) ⟨fun _ => fkT hg (QT.rf ho) (by decide) (fun a' b' c' hk hq => ?_), fun q => absurd rfl q⟩
  rw [ho.1.1.2.2.2.2.2.1]
  refine sX6_bank34 hg v2 hq hk.2 (fun o' oI' oR' hb2 hq => fin2 ?_ (zQT hg hh hr hq))
  rw [hb1.uniq hb2]
