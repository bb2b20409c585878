/-! questions that suppose: the reference's state, the class's mind -/
def QT (oI : Nat → Int32) (oR : Nat → Nat → Int32) (oI' : Nat → Int32) (oR' : Nat → Nat → Int32) (g : Nat → Nat) (r : Nat → Nat → Nat) (t : Nat → Nat) (w p : Nat) : Prop := (OQ oI' oR' g r t w p ∧ ∀ i, i < 8 → oR' 2 i = nI (r 1 i)) ∧ (oI' 26 = oI 26 ∧ oI' 17 = oI 17 ∧ oI' 28 = oI 28) ∧ (oR' 25 = oR 25 ∧ oR' 0 = oR 0 ∧ oR' 16 = oR 16 ∧ oR' 27 = oR 27)
theorem QT.rf {g : Nat → Nat} {r : Nat → Nat → Nat} {oI : Nat → Int32} {oR : Nat → Nat → Int32} (ho : OM oI oR g r) : QT oI oR oI oR g r (r 0) 0 (g 3) := ⟨ho, ⟨rfl, rfl, rfl⟩, rfl, rfl, rfl, rfl⟩
theorem QT.row {g : Nat → Nat} {r : Nat → Nat → Nat} {oI : Nat → Int32} {oR : Nat → Nat → Int32} {oI' : Nat → Int32} {oR' : Nat → Nat → Int32} {t : Nat → Nat} {w p : Nat} (h : QT oI oR oI' oR' g r t w p) {k : Nat} (hk : ¬ rO k) (f : Nat → Int32) : QT oI oR oI' (va_up oR' k f) g r t w p := by
  have u : ∀ j, rO j → va_up oR' k f j = oR' j := fun j hj => va_ne' _ _ (fun e => hk (e ▸ hj))
  refine ⟨⟨h.1.1.same (fun _ _ => rfl) u, ?_⟩, h.2.1, ?_, ?_, ?_, ?_⟩
  · rw [u 2 (by unfold rO; omega)]; exact h.1.2
  · rw [u 25 (by unfold rO; omega)]; exact h.2.2.1
  · rw [u 0 (by unfold rO; omega)]; exact h.2.2.2.1
  · rw [u 16 (by unfold rO; omega)]; exact h.2.2.2.2.1
  · rw [u 27 (by unfold rO; omega)]; exact h.2.2.2.2.2
theorem QT.K3 {g : Nat → Nat} {r : Nat → Nat → Nat} {oI : Nat → Int32} {oR : Nat → Nat → Int32} {oI' : Nat → Int32} {oR' : Nat → Nat → Int32} {t : Nat → Nat} {w p : Nat} (h : QT oI oR oI' oR' g r t w p) (a b c : Nat → Int32) : QT oI oR oI' (K3 oR' a b c) g r t w p := ((h.row (k := 19) (by unfold rO; omega) a).row (k := 20) (by unfold rO; omega) b).row (k := 21) (by unfold rO; omega) c
theorem QT.tell {g : Nat → Nat} {r : Nat → Nat → Nat} {oI : Nat → Int32} {oR : Nat → Nat → Int32} {oI' : Nat → Int32} {oR' : Nat → Nat → Int32} {t : Nat → Nat} {w p : Nat} (h : QT oI oR oI' oR' g r t w p) (j x : Nat) : QT oI oR oI' (va_up oR' 1 (upd (oR' 1) j (nI x))) g r (va_up t j x) w p := by
  obtain ⟨⟨⟨c0, c1, c2, c3⟩, c4⟩, h2, h3⟩ := h
  exact ⟨⟨⟨c0, updN c1, c2, rows_lo' c3 (by decide) _⟩, c4⟩, h2, h3⟩
theorem QT.wall {g : Nat → Nat} {r : Nat → Nat → Nat} {oI : Nat → Int32} {oR : Nat → Nat → Int32} {oI' : Nat → Int32} {oR' : Nat → Nat → Int32} {t : Nat → Nat} {w p : Nat} (h : QT oI oR oI' oR' g r t w p) (w' : Nat) : QT oI oR (va_up oI' 22 (nI w')) oR' g r t w' p := by
  obtain ⟨⟨⟨⟨a0, a1, a2, a3, a4, a5, a6⟩, c1⟩, c4⟩, h2, h3⟩ := h
  exact ⟨⟨⟨⟨a0, a1, a2, a3, a4, a5, rfl⟩, c1⟩, c4⟩, h2, h3⟩
theorem QT.paper {g : Nat → Nat} {r : Nat → Nat → Nat} {oI : Nat → Int32} {oR : Nat → Nat → Int32} {oI' : Nat → Int32} {oR' : Nat → Nat → Int32} {t : Nat → Nat} {w p : Nat} (h : QT oI oR oI' oR' g r t w p) (p' : Nat) : QT oI oR (va_up oI' 15 (nI p')) oR' g r t w p' := by
  obtain ⟨⟨⟨⟨a0, a1, a2, a3, a4, a5, a6⟩, c1⟩, c4⟩, h2, h3⟩ := h
  exact ⟨⟨⟨⟨a0, a1, a2, a3, a4, rfl, a6⟩, c1⟩, c4⟩, h2, h3⟩
theorem QT.told {g : Nat → Nat} {r : Nat → Nat → Nat} {oI : Nat → Int32} {oR : Nat → Nat → Int32} {oI' : Nat → Int32} {oR' : Nat → Nat → Int32} {t t' : Nat → Nat} {w p : Nat} (h : QT oI oR oI' oR' g r t w p) (e : ∀ i, i < 8 → t i = t' i) : QT oI oR oI' oR' g r t' w p := ⟨⟨⟨h.1.1.1, fun i hi => by rw [← e i hi]; exact h.1.1.2.1 i hi, h.1.1.2.2⟩, h.1.2⟩, h.2⟩
theorem zQT {g : Nat → Nat} {r : Nat → Nat → Nat} {ko : Option ((Nat → Int32) × (Nat → Nat → Int32))} {sI : Nat → Int32} {sR : Nat → Nat → Int32} {tI : Nat → Int32} {tR : Nat → Nat → Int32} {hI : Nat → Int32} {hR : Nat → Nat → Int32} {mI : Nat → Int32} {mR : Nat → Nat → Int32} {oI : Nat → Int32} {oR : Nat → Nat → Int32} (hg : HG g r) (hh : HR_ hI hR g r) (hr : RM ko sI sR tI tR oI oR) {oI' : Nat → Int32} {oR' : Nat → Nat → Int32} (h : QT oI oR oI' oR' g r (r 0) 0 (g 3)) : zIn ko sI sR tI tR hI hR mI mR oI' oR' := ⟨g, r, hg, hh, h.1, hr.same h.2.1 h.2.2⟩
theorem fkT {g : Nat → Nat} {r : Nat → Nat → Nat} {oI : Nat → Int32} {oR : Nat → Nat → Int32} (hg : HG g r) {oI' : Nat → Int32} {oR' : Nat → Nat → Int32} {t : Nat → Nat} {w p : Nat} (hq : QT oI oR oI' oR' g r t w p) (hw : w < 2 ^ 31) {post : (Nat → Int32) → (Nat → Nat → Int32) → Prop} (h : ∀ a b c, OK_ oI' (K3 oR' a b c) g r t w p → QT oI oR oI' (K3 oR' a b c) g r t w p → post oI' (K3 oR' a b c)) : pX6_findKnown oI' oR' post := sX6_findKnown hg hq.1.1 hw (fun a b c ha hb => h a b c ⟨hq.1.1.K3 a b c, hb⟩ (hq.K3 a b c))
theorem sX6_holdsT {g : Nat → Nat} {r : Nat → Nat → Nat} {oI : Nat → Int32} {oR : Nat → Nat → Int32} (hg : HG g r) {oI' : Nat → Int32} {oR' : Nat → Nat → Int32} {t : Nat → Nat} {w p jL jT : Nat} (hq : QT oI oR oI' oR' g r t w p) (hw : w < 2 ^ 31) (ht : TG g t p (hs0 g)) (hL : jL ≤ 8) (hT : jT ≤ 8) {post : Bool → (Nat → Int32) → (Nat → Nat → Int32) → Prop} (h : ∀ (b : Bool) oR2, (b = true ↔ Ag g r t w p (hs0 g) 0 jL ∧ Ag g r t w p (hs0 g) 1 jT) → QT oI oR oI' oR2 g r t w p → oR2 1 = oR' 1 → oR2 23 = oR' 23 → oR2 24 = oR' 24 → post b oI' oR2) : pX6_holds (nI jL) (nI jT) oI' oR' post := by
  unfold pX6_holds
  refine fkT hg hq hw (fun a b c hk hq2 => sX6_holdsAgainst (z := false) hg hk ht hL (fun b1 hb1 => ⟨fun e => ?_, fun e => sX6_holdsAgainst (z := true) hg hk ht hT (fun b2 hb2 => ⟨fun e2 => ?_, fun e2 => ?_⟩)⟩))
  · subst e
    exact h false _ ⟨fun z => (by cases z), fun z => hb1.mpr z.1⟩ hq2 rfl rfl rfl
  · subst e; subst e2
    exact h false _ ⟨fun z => (by cases z), fun z => hb2.mpr z.2⟩ hq2 rfl rfl rfl
  · subst e; subst e2
    exact h true _ ⟨fun _ => ⟨hb1.mp rfl, hb2.mp rfl⟩, fun _ => rfl⟩ hq2 rfl rfl rfl
theorem MB.tell {g : Nat → Nat} {r : Nat → Nat → Nat} {mI : Nat → Int32} {mR : Nat → Nat → Int32} {t : Nat → Nat} {w p hs : Nat} (h : MB mI mR g r t w p hs) (j x : Nat) : MB mI (va_up mR 0 (upd (mR 0) j (nI x))) g r (va_up t j x) w p hs := by
  obtain ⟨m0, m1, m2, m3, m4, m5, m6, m7⟩ := h
  exact ⟨m0, m1, m2, m3, updN m4, m5, m6, m7⟩
theorem MQ_.tell {g : Nat → Nat} {r : Nat → Nat → Nat} {mI : Nat → Int32} {mR : Nat → Nat → Int32} {t : Nat → Nat} {w p hs jL jT : Nat} (h : MQ_ mI mR g r t w p hs jL jT) (j x : Nat) : MQ_ mI (va_up mR 0 (upd (mR 0) j (nI x))) g r (va_up t j x) w p hs jL jT := ⟨h.1.tell j x, h.2⟩
-- two numbers of hands
theorem ohC (x y : Int32) : (x < 0 ∨ y < 0) ∨ (¬ x < 0 ∧ 0 ≤ y ∧ (8 < x ∨ 8 < y)) ∨ ∃ a b, a ≤ 8 ∧ b ≤ 8 ∧ x = nI a ∧ y = nI b := by
  rcases bnd x (a := 0) (b := 8) (by decide) (by decide) with c | c | ⟨a, _, a2, a3⟩
  · exact Or.inl (Or.inl c)
  · rcases bnd y (a := 0) (b := 8) (by decide) (by decide) with d | d | ⟨b, _, b2, b3⟩
    · exact Or.inl (Or.inr d)
    · exact Or.inr (Or.inl ⟨Int32.not_lt.mpr (lt_hi (a := 0) (by decide) (by decide) c), lt_hi (a := 0) (by decide) (by decide) d, Or.inl c⟩)
    · refine Or.inr (Or.inl ⟨Int32.not_lt.mpr (lt_hi (a := 0) (by decide) (by decide) c), ?_, Or.inl c⟩)
      rw [b3]; exact nI_pos' (by omega)
  · rcases bnd y (a := 0) (b := 8) (by decide) (by decide) with d | d | ⟨b, _, b2, b3⟩
    · exact Or.inl (Or.inr d)
    · refine Or.inr (Or.inl ⟨?_, lt_hi (a := 0) (by decide) (by decide) d, Or.inr d⟩)
      rw [a3]; exact nI_pos (by omega)
    · exact Or.inr (Or.inr ⟨a, b, a2, b2, a3, b3⟩)
theorem oh4 {x y : Int32} (h : x < 0 ∨ y < 0) {post : Int32 → Prop} (hp : post (-4)) : pX5_outsideHands x y post := ⟨fun _ => hp, fun c => ⟨fun c2 => absurd (h.resolve_left c) (Int32.not_lt.mpr c2), fun _ => hp⟩⟩
theorem oh6 {x y : Int32} (h : ¬ x < 0 ∧ 0 ≤ y ∧ (8 < x ∨ 8 < y)) {post : Int32 → Prop} (hp : post (-6)) : pX5_outsideHands x y post := ⟨fun c => absurd c h.1, fun _ => ⟨fun _ => ⟨fun _ => hp, fun c => ⟨fun c2 => absurd (h.2.2.resolve_left c) (Int32.not_lt.mpr c2), fun _ => hp⟩⟩, fun c => absurd h.2.1 c⟩⟩
theorem oh0 {a b : Nat} (ha : a ≤ 8) (hb : b ≤ 8) {post : Int32 → Prop} (hp : post 0) : pX5_outsideHands (nI a) (nI b) post := ⟨fun c => absurd c (nI_pos (by omega)), fun _ => ⟨fun _ => ⟨fun c => absurd c (Int32.not_lt.mpr (nI_le (b := 8) ha (by decide))), fun _ => ⟨fun _ => hp, fun c => absurd (nI_le (b := 8) hb (by decide)) c⟩⟩, fun c => absurd (nI_pos' (by omega)) c⟩⟩
theorem nt4 {x y : Int32} (h : x < 0 ∨ y < 0) {post : Int32 → Prop} (hp : post (-4)) : pX6_notTwo x y post := oh4 h hp
theorem nt6 {x y : Int32} (h : ¬ x < 0 ∧ 0 ≤ y ∧ (8 < x ∨ 8 < y)) {post : Int32 → Prop} (hp : post (-6)) : pX6_notTwo x y post := oh6 h hp
theorem nt0 {a b : Nat} (ha : a ≤ 8) (hb : b ≤ 8) {post : Int32 → Prop} (hp : post 0) : pX6_notTwo (nI a) (nI b) post := oh0 ha hb hp
-- monday
def PM (g : Nat → Nat) (r : Nat → Nat → Nat) (h jL jT s : Nat) : Prop := s &&& r 0 h = 0 ∧ Ag g r (va_up (r 0) h (r 0 h ||| s)) 0 (g 3) (hs0 g) 0 jL ∧ Ag g r (va_up (r 0) h (r 0 h ||| s)) 0 (g 3) (hs0 g) 1 jT
theorem tgU {g : Nat → Nat} {t : Nat → Nat} {p hs : Nat} (ht : TG g t p hs) {j x : Nat} (hx : x < 2 ^ (g 0)) : TG g (va_up t j x) p hs := by
  refine ⟨fun i hi => ?_, ht.2⟩
  by_cases e : i = j
  · subst e; rw [va_at']; exact hx
  · rw [va_ne' _ _ e]; exact ht.1 i hi
theorem sbU {t : Nat → Nat} {j x : Nat} (h : sb (t j) x) : ∀ i, sb (t i) (va_up t j x i) := by
  intro i
  by_cases e : i = j
  · subst e; rw [va_at']; exact h
  · rw [va_ne' _ _ e]; exact sb_rfl _
theorem sX5_fewestToTell {g : Nat → Nat} {r : Nat → Nat → Nat} {sI : Nat → Int32} {sR : Nat → Nat → Int32} {tI : Nat → Int32} {tR : Nat → Nat → Int32} {hI : Nat → Int32} {hR : Nat → Nat → Int32} {mI : Nat → Int32} {mR : Nat → Nat → Int32} (hg : HG g r) (hh : HR_ hI hR g r) {jL jT : Nat} (hm : MQ_ mI mR g r (r 0) 0 (g 3) (hs0 g) jL jT) {h : Nat} (h1 : h < g 1) {post : Int32 → (Nat → Int32) → (Nat → Nat → Int32) → Prop} (hp : ∀ o mI' mR', BS (PM g r h jL jT) (2 ^ (g 0)) o → post (enc o) mI' mR') : pX5_fewestToTell (nI h) sI sR tI tR hI hR mI mR post := by
  have b0 := hg.1
  have b1 := hg.2.1
  have t0 := tg0 hg
  have e0 : hI 0 = nI (g 0) := hh.1 0 (by decide)
  have p10 : 2 ^ (g 0) ≤ 2 ^ 10 := Nat.pow_le_pow_right (by decide) b0.2
  have lt := t0.1 h h1
  unfold pX5_fewestToTell
  refine qX2_isSafe hg hh hm t0 (fun b mI1 hb hm1 => ⟨fun e => ⟨h, rfl, by omega, nm_r (hh.2.1 0 (by decide) h (by omega)) ?_⟩, fun e => hp none _ _ (fun s hs hP => ?_)⟩)
  · have key : ∀ d i o x mI' mR', i + d = 2 ^ (g 0) → BS (PM g r h jL jT) i o → MQ_ mI' mR' g r (va_up (r 0) h x) 0 (g 3) (hs0 g) jL jT → bX5_fewestToTell_33 (nI h) (nI (r 0 h)) sI sR tI tR hI hR post (d + 1) (enc o) (nI (wn o)) (nI i) mI' mR' := by
      intro d
      induction d with
      | zero =>
        intro i o x mI' mR' hi hb hm'
        have hi : i = 2 ^ (g 0) := by omega
        subst hi
        unfold bX5_fewestToTell_33
        rw [e0, q_shl1 (by omega)]
        exact pk_le (2 ^ (g 0)) (2 ^ (g 0)) (fun _ => hp o mI' mR' hb) (fun c => absurd c (by omega))
      | succ d ih =>
        intro i o x mI' mR' hi hb hm'
        have hpi := pc_le i
        unfold bX5_fewestToTell_33
        rw [e0, q_shl1 (by omega), q_and, nI_z (by have := Nat.and_le_left (n := i) (m := r 0 h); omega)]
        refine pk_le (2 ^ (g 0)) i (fun c => absurd c (by omega)) (fun _ => sJ6 (by omega) ?_)
        refine pk_le (wn o) (pc i) (fun c => nm_r (nI_1 i) (ih (i + 1) o x mI' mR' (by omega) (hb.heavy c) hm')) (fun c => ?_) rfl rfl (wn_lt o) (by omega)
        refine ⟨fun c2 => nm_r (nI_1 i) (ih (i + 1) o x mI' mR' (by omega) (hb.skip (fun z => c2 z.1)) hm'), fun c2 => nm_r (q_or _ _) ⟨h, rfl, by omega, ?_⟩⟩
        have hm2 := hm'.tell h (r 0 h ||| i)
        rw [bx_uu] at hm2
        refine qX2_holds hg hh hm2 (tgU t0 (or_lt lt (by omega))) (fun b2 mI2 hb2 hm3 => ⟨fun z => nm_r (nI_1 i) (ih (i + 1) o _ mI2 _ (by omega) (hb.skip (fun q => ?_)) hm3), fun z => nm_r (nI_1 i) (ih (i + 1) (some i) _ mI2 _ (by omega) (hb.better c ⟨c2, hb2.mp z⟩) hm3)⟩)
        have := hb2.mpr q.2
        rw [z] at this; cases this
    have := key (2 ^ (g 0)) 0 none (r 0 h) mI1 mR (by omega) (BS.zero _) (by rw [va_eta]; exact hm1)
    exact ⟨_, this⟩
  · have := hb.mpr (Ag1_mono hg (fun i _ => sbU (sb_l _ _) i) (tgU t0 (or_lt lt hs)).1 (sb_rfl 0) hP.2.2)
    rw [e] at this; cases this
theorem sX6_monday63 {g : Nat → Nat} {r : Nat → Nat → Nat} {oI : Nat → Int32} {oR : Nat → Nat → Int32} (hg : HG g r) (ho : OM oI oR g r) {jL jT : Nat} (hL : jL ≤ 8) (hT : jT ≤ 8) {h : Nat} (h1 : h < g 1) {post : Int32 → (Nat → Int32) → (Nat → Nat → Int32) → Prop} (hp : ∀ o oI' oR', BS (PM g r h jL jT) (2 ^ (g 0)) o → QT oI oR oI' oR' g r (r 0) 0 (g 3) → post (enc o) oI' oR') : ∃ n, bX6_monday_63 (nI h) (nI jL) (nI jT) (nI (r 0 h)) post n (-9) 0 oI oR := by
  have b0 := hg.1
  have b1 := hg.2.1
  have t0 := tg0 hg
  have p10 : 2 ^ (g 0) ≤ 2 ^ 10 := Nat.pow_le_pow_right (by decide) b0.2
  have pp := Nat.two_pow_pos (g 0)
  have lt := t0.1 h h1
  have key : ∀ d i o x oI' oR', i + d = 2 ^ (g 0) → BS (PM g r h jL jT) i o → QT oI oR oI' oR' g r (va_up (r 0) h x) 0 (g 3) → bX6_monday_63 (nI h) (nI jL) (nI jT) (nI (r 0 h)) post (d + 1) (enc o) (nI i) oI' oR' := by
    intro d
    induction d with
    | zero =>
      intro i o x oI' oR' hi hb hq
      have hi : i = 2 ^ (g 0) := by omega
      subst hi
      unfold bX6_monday_63 pX6_all
      rw [hq.1.1.1.1, q_all (by omega)]
      refine pk_lt (2 ^ (g 0) - 1) (2 ^ (g 0)) (fun _ => ⟨h, rfl, by omega, hp o _ _ hb ?_⟩) (fun c => absurd c (by omega))
      have := hq.tell h (r 0 h)
      rw [bx_uu, va_eta] at this
      exact this
    | succ d ih =>
      intro i o x oI' oR' hi hb hq
      have hi31 : i < 2 ^ 31 := by omega
      unfold bX6_monday_63 pX6_all
      rw [hq.1.1.1.1, q_all (by omega), q_and, nI_z (by have := Nat.and_le_left (n := i) (m := r 0 h); omega)]
      refine pk_lt (2 ^ (g 0) - 1) i (fun c => absurd c (by omega)) (fun _ => ⟨fun c2 => nm_r (nI_1 i) (ih (i + 1) o x oI' oR' (by omega) (hb.skip (fun z => c2 z.1)) hq), fun c2 => cmp6 (fun b e => by have := hb.lt b e; omega) hi31 (fun c => nm_r (q_or _ _) ⟨h, rfl, by omega, ?_⟩) (fun c => nm_r (nI_1 i) (ih (i + 1) o x oI' oR' (by omega) (hb.heavy c) hq))⟩)
      have hq2 := hq.tell h (r 0 h ||| i)
      rw [bx_uu] at hq2
      refine sX6_holdsT hg hq2 (by decide) (tgU t0 (or_lt lt (by omega))) hL hT (fun b2 oR2 hb2 hq3 _ _ _ => ⟨fun z => nm_r (nI_1 i) (ih (i + 1) o _ _ _ (by omega) (hb.skip (fun q => ?_)) hq3), fun z => nm_r (nI_1 i) (ih (i + 1) (some i) _ _ _ (by omega) (hb.better c ⟨c2, hb2.mp z⟩) hq3)⟩)
      have := hb2.mpr q.2
      rw [z] at this; cases this
  exact ⟨_, key (2 ^ (g 0)) 0 none (r 0 h) oI oR (by omega) (BS.zero _) (by rw [va_eta]; exact QT.rf ho)⟩
theorem zc_18 {L : Nat} {xs : Nat → Int32} {i : Nat} (hi : i + 4 ≤ L) {ko : Option ((Nat → Int32) × (Nat → Nat → Int32))} {sI : Nat → Int32} {sR : Nat → Nat → Int32} {tI : Nat → Int32} {tR : Nat → Nat → Int32} {hI : Nat → Int32} {hR : Nat → Nat → Int32} {mI : Nat → Int32} {mR : Nat → Nat → Int32} {oI : Nat → Int32} {oR : Nat → Nat → Int32} (h : zIn ko sI sR tI tR hI hR mI mR oI oR) : pL_18 L xs (nI i) sI sR tI tR hI hR mI mR oI oR (zIn ko) := by
  obtain ⟨g, r, hg, hh, ho, hr⟩ := h
  have b0 := hg.1
  have b1 := hg.2.1
  have e0 : hI 0 = nI (g 0) := hh.1 0 (by decide)
  have e1 : hI 1 = nI (g 1) := hh.1 1 (by decide)
  have o0 : oI 10 = nI (g 0) := ho.1.1.1
  have o1 : oI 11 = nI (g 1) := ho.1.1.2.1
  refine ⟨i + 1, nI_1 i, by omega, i + 2, nI_add i 2, by omega, i + 3, nI_add i 3, by omega, ?_⟩
  generalize xs (i + 1) = x
  generalize xs (i + 2) = y
  generalize xs (i + 3) = u
  have t0 := tg0 hg
  unfold pX5_monday pX6_monday
  refine sX1_isHand e1 b1 (fun q => ⟨fun c => (by cases c), fun _ => refC (k := 1) (by decide) (by decide) ?_⟩) (fun a ha ea => ⟨fun _ => ?_, fun c => (by cases c)⟩)
  · exact sX6_isHand o1 b1 (fun _ => ⟨fun z => (by cases z), fun _ => refM (k := 1) (by decide) (by decide) (fin2 rfl (fzK hg hh ho hr (by decide)))⟩) (fun a ha ea => absurd ⟨a, ha, ea⟩ q)
  subst ea
  have o2 : ∀ P : Bool → Prop, P true → pX6_isHand (nI a) oI oR P := fun P hp => sX6_isHand o1 b1 (fun q => absurd ⟨a, ha, rfl⟩ q) (fun _ _ _ => hp)
  have l2 : g 2 < 2 ^ 31 := lt31 hg.2.2.1 (by omega)
  have e3 : oR 3 a = nI ((g 2).testBit a).toNat := ho.1.2.2.1 a (by omega)
  rw [hh.1 2 (by decide)]
  refine sX5_contains l2 (by omega) ⟨fun c => ?_, fun c => refC (k := 3) (by decide) (by decide) (o2 _ ⟨fun _ => ⟨a, rfl, by omega, fun q => absurd (by rw [e3, c]; rfl) q, fun _ => ⟨fun q => absurd q (by decide), fun _ => refM (k := 3) (by decide) (by decide) (fin2 rfl (fzK hg hh ho hr (by decide)))⟩⟩, fun z => (by cases z)⟩)⟩
  have n3 : ¬ oR 3 a = 1 := by rw [e3, c]; decide
  have rf : ∀ (Q : Int32 → (Nat → Int32) → (Nat → Nat → Int32) → Prop), pX6_notTwo y u (fun r1 => (bX6_monday_34 (nI a) y u r1 oI oR Q)) → pX6_isHand (nI a) oI oR (fun b1 => ((b1 = true → (∃ j1 : Nat, (nI a) = nI j1 ∧ j1 < 8 ∧ ((¬ ((oR 3) j1) = 1 → (pX6_notTwo y u (fun r1 => (bX6_monday_34 (nI a) y u r1 oI oR Q)))) ∧ (((oR 3) j1) = 1 → (bX6_monday_34 (nI a) y u (-3) oI oR Q))))) ∧ (b1 = false → (pX6_no (-1) oI oR (fun r2 oI_1 oR_1 => (Q r2 oI_1 oR_1)))))) := fun Q hQ => o2 _ ⟨fun _ => ⟨a, rfl, by omega, fun _ => hQ, fun q => absurd q n3⟩, fun z => (by cases z)⟩
  rcases ohC y u with c2 | c2 | ⟨jL, jT, hL, hT, eL, eT⟩
  · exact oh4 c2 ⟨fun q => absurd q (by decide), fun _ => refC (k := 4) (by decide) (by decide) (rf _ (nt4 c2 ⟨fun q => absurd q (by decide), fun _ => refM (k := 4) (by decide) (by decide) (fin2 rfl (fzK hg hh ho hr (by decide)))⟩))⟩
  · exact oh6 c2 ⟨fun q => absurd q (by decide), fun _ => refC (k := 6) (by decide) (by decide) (rf _ (nt6 c2 ⟨fun q => absurd q (by decide), fun _ => refM (k := 6) (by decide) (by decide) (fin2 rfl (fzK hg hh ho hr (by decide)))⟩))⟩
  subst eL; subst eT
  refine oh0 hL hT ⟨fun _ => sX2_begin hg hh (fun mI' mR' hm => qX2_choose hg hm t0.2.2 hL hT (fun mI2 mR2 hm2 _ => sX5_fewestToTell hg hh hm2 ha (fun o mI3 mR3 hb1 => rf _ (nt0 hL hT ⟨fun _ => ⟨a, rfl, by omega, nm_r (ho.1.2.1 a (by omega)) (sX6_monday63 hg ho hL hT ha (fun o' oI' oR' hb2 hq => fin2 ?_ (zQT hg hh hr hq)))⟩, fun q => absurd rfl q⟩)))), fun q => absurd rfl q⟩
  rw [hb1.uniq hb2]
