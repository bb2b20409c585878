/-! mend -/
def Hd (g : Nat → Nat) (r : Nat → Nat → Nat) (jL jT : Nat) (t : Nat → Nat) : Prop := Ag g r t 0 (g 3) (hs0 g) 0 jL ∧ Ag g r t 0 (g 3) (hs0 g) 1 jT
def may (g : Nat → Nat) (t : Nat → Nat) (a : Nat) : Prop := (hs0 g).testBit (a / 10) = true ∧ a % 10 < g 0 ∧ (t (a / 10)).testBit (a % 10) = false
def tl (t : Nat → Nat) (a : Nat) : Nat → Nat := va_up t (a / 10) (wi true (t (a / 10)) (a % 10))
def F1 (g : Nat → Nat) (r : Nat → Nat → Nat) (jL jT : Nat) (t : Nat → Nat) (a : Nat) : Prop := may g t a ∧ Hd g r jL jT (tl t a)
def F2 (g : Nat → Nat) (r : Nat → Nat → Nat) (jL jT : Nat) (t : Nat → Nat) (a b : Nat) : Prop := may g t a ∧ may g t b ∧ Hd g r jL jT (tl (tl t a) b)
theorem dv10 {a : Nat} (ha : a < 80) : nI a / 10 = nI (a / 10) := pk_div (d := 10) (by omega) (by decide) (by decide)
theorem rm10 {a : Nat} (ha : a < 80) : nI a - nI a / 10 * 10 = nI (a % 10) := pk_rem (d := 10) (by omega) (by decide) (by decide)
theorem may_lt {g t : Nat → Nat} {a : Nat} (h : may g t a) : a / 10 < g 1 := tb_lt' (hs0_lt g) h.1
theorem wi_un {x s : Nat} (h : x.testBit s = false) : wi false (wi true x s) s = x := by
  apply q_ext; intro i
  rw [wi_tb, wi_tb]
  by_cases e : s = i
  · subst e; rw [if_pos rfl, h]
  · rw [if_neg e, if_neg e]
theorem tl_at (t : Nat → Nat) (a : Nat) : tl t a (a / 10) = wi true (t (a / 10)) (a % 10) := va_at' _ _ _
theorem tl_un (t : Nat → Nat) (a : Nat) : va_up (tl t a) (a / 10) (t (a / 10)) = t := by
  unfold tl
  rw [bx_uu, va_eta]
theorem tl_back {t : Nat → Nat} {a : Nat} (h : (t (a / 10)).testBit (a % 10) = false) : va_up (tl t a) (a / 10) (wi false (tl t a (a / 10)) (a % 10)) = t := by
  rw [tl_at, wi_un h, tl_un]
theorem tl_sb (t : Nat → Nat) (a : Nat) : ∀ i, sb (t i) (tl t a i) := sbU (by
  unfold wi; rw [if_pos rfl]; exact sb_l _ _)
theorem tl_tg {g : Nat → Nat} {t : Nat → Nat} {p hs a : Nat} (ht : TG g t p hs) (h : may g t a) : TG g (tl t a) p hs := tgU ht (wi_lt (ht.1 _ (may_lt h)) h.2.1)
theorem may_tl {g t : Nat → Nat} {a b : Nat} (h : a ≠ b) : may g (tl t a) b ↔ may g t b := by
  unfold may
  have e : (tl t a (b / 10)).testBit (b % 10) = (t (b / 10)).testBit (b % 10) := by
    unfold tl
    by_cases c : b / 10 = a / 10
    · rw [c, va_at', wi_tb, if_neg (by omega)]
    · rw [va_ne' _ _ c]
  rw [e]
theorem Hd.mono {g : Nat → Nat} {r : Nat → Nat → Nat} (hg : HG g r) {jL jT p : Nat} {t t' : Nat → Nat} (hs : ∀ i, sb (t i) (t' i)) (ht : TG g t' p (hs0 g)) (h : Hd g r jL jT t') : Ag g r t 0 (g 3) (hs0 g) 1 jT := Ag1_mono hg (fun i _ => hs i) ht.1 (sb_rfl 0) h.2
theorem sX2_canTell {g : Nat → Nat} {r : Nat → Nat → Nat} {hI : Nat → Int32} {hR : Nat → Nat → Int32} {mI : Nat → Int32} {mR : Nat → Nat → Int32} (hg : HG g r) (hh : HR_ hI hR g r) {t : Nat → Nat} {w p : Nat} (hm : MB mI mR g r t w p (hs0 g)) (ht : TG g t p (hs0 g)) {a : Nat} (ha : a < 80) {post : Bool → Prop} (h1 : may g t a → post true) (h2 : ¬ may g t a → post false) : pX2_canTell (nI a) hI hR mI mR post := by
  have b0 := hg.1
  have b1 := hg.2.1
  have e0 : hI 0 = nI (g 0) := hh.1 0 (by decide)
  have hl : hs0 g < 2 ^ 31 := lt31 (hs0_lt g) (by omega)
  unfold pX2_canTell pX2_isHere
  refine nm_r (dv10 ha) (nm_r (rm10 ha) ?_)
  rw [hm.2.1]
  refine sX5_contains hl (by omega) ⟨fun c => h2 (fun z => by rw [z.1] at c; cases c), fun c => ?_⟩
  have hlt : a / 10 < g 1 := tb_lt' (hs0_lt g) c
  refine sX1_isStep e0 b0.2 (fun q => ⟨fun _ => h2 (fun z => q ⟨_, z.2.1, rfl⟩), fun z => (by cases z)⟩) (fun j j1 j2 => ⟨fun z => (by cases z), fun _ => ⟨a / 10, rfl, by omega, ?_⟩⟩)
  rw [nI_eq (by omega) (by omega)] at j2
  rw [hm.2.2.2.2.1 _ (by omega)]
  exact sX5_contains (lt31 (ht.1 _ hlt) (by omega)) (by omega) ⟨fun d => h2 (fun z => by rw [z.2.2] at d; cases d), fun d => h1 ⟨c, by omega, d⟩⟩
theorem sX2_setTelling {hI : Nat → Int32} {hR : Nat → Nat → Int32} {mI : Nat → Int32} {mR : Nat → Nat → Int32} {a : Nat} (ha : a < 80) {t : Nat → Nat} (hm : ∀ i, i < 8 → mR 0 i = nI (t i)) {z : Bool} {post : (Nat → Int32) → (Nat → Nat → Int32) → Prop} (h : post mI (va_up mR 0 (upd (mR 0) (a / 10) (nI (wi z (t (a / 10)) (a % 10)))))) : pX2_setTelling (nI a) z hI hR mI mR post := by
  unfold pX2_setTelling
  refine nm_r (dv10 ha) ⟨a / 10, rfl, by omega, ?_⟩
  rw [rm10 ha, hm _ (by omega)]
  exact sX5_with (by omega) h
theorem sX5_findTellingFrom {g : Nat → Nat} {r : Nat → Nat → Nat} {sI : Nat → Int32} {sR : Nat → Nat → Int32} {tI : Nat → Int32} {tR : Nat → Nat → Int32} {hI : Nat → Int32} {hR : Nat → Nat → Int32} {mI : Nat → Int32} {mR : Nat → Nat → Int32} (hg : HG g r) (hh : HR_ hI hR g r) {t : Nat → Nat} {jL jT : Nat} (hm : MQ_ mI mR g r t 0 (g 3) (hs0 g) jL jT) (ht : TG g t (g 3) (hs0 g)) {l k : Nat} (hl : l ≤ 80) (hk : k < 2) {post : Bool → (Nat → Int32) → (Nat → Nat → Int32) → (Nat → Int32) → (Nat → Nat → Int32) → Prop} (h1 : ∀ a mI' mR', l ≤ a → a < 80 → F1 g r jL jT t a → (∀ i, l ≤ i → i < a → ¬ F1 g r jL jT t i) → MQ_ mI' mR' g r t 0 (g 3) (hs0 g) jL jT → post true sI (va_up sR 2 (upd (sR 2) k (nI a))) mI' mR') (h2 : ∀ mI' mR', (∀ i, l ≤ i → i < 80 → ¬ F1 g r jL jT t i) → MQ_ mI' mR' g r t 0 (g 3) (hs0 g) jL jT → post false sI sR mI' mR') : pX5_findTellingFrom (nI l) (nI k) sI sR tI tR hI hR mI mR post := by
  have key : ∀ d i mI' mR', i + d = 80 → l ≤ i → (∀ j, l ≤ j → j < i → ¬ F1 g r jL jT t j) → MQ_ mI' mR' g r t 0 (g 3) (hs0 g) jL jT → bX5_findTellingFrom_2 (nI k) tI tR hI hR post (d + 1) (nI i) sI sR mI' mR' := by
    intro d
    induction d with
    | zero =>
      intro i mI' mR' hi hli hn hm'
      have hi : i = 80 := by omega
      subst hi
      unfold bX5_findTellingFrom_2
      exact pk_le 80 80 (fun _ => h2 mI' mR' hn hm') (fun c => absurd c (by omega))
    | succ d ih =>
      intro i mI' mR' hi hli hn hm'
      have nx : ∀ mI2 mR2, ¬ F1 g r jL jT t i → MQ_ mI2 mR2 g r t 0 (g 3) (hs0 g) jL jT → bX5_findTellingFrom_2 (nI k) tI tR hI hR post (d + 1) (nI (i + 1)) sI sR mI2 mR2 := by
        intro mI2 mR2 hno hm2
        refine ih (i + 1) mI2 mR2 (by omega) (by omega) (fun j j1 j2 => ?_) hm2
        by_cases e : j = i
        · subst e; exact hno
        · exact hn j j1 (by omega)
      unfold bX5_findTellingFrom_2
      refine pk_le 80 i (fun c => absurd c (by omega)) (fun c => sX2_canTell hg hh hm'.1 ht c (fun hmay => ⟨fun z => (by cases z), fun _ => ?_⟩) (fun hmay => ⟨fun _ => nm_r (nI_1 i) (nx _ _ (fun z => hmay z.1) hm'), fun z => (by cases z)⟩))
      refine sX2_setTelling c hm'.1.2.2.2.2.1 ?_
      have hm2 : MQ_ mI' (va_up mR' 0 (upd (mR' 0) (i / 10) (nI (wi true (t (i / 10)) (i % 10))))) g r (tl t i) 0 (g 3) (hs0 g) jL jT := hm'.tell _ _
      refine qX2_holds hg hh hm2 (tl_tg ht hmay) (fun b mI2 hb hm3 => sX2_setTelling c hm3.1.2.2.2.2.1 ?_)
      have hm4 := hm3.tell (i / 10) (wi false (tl t i (i / 10)) (i % 10))
      rw [tl_back hmay.2.2] at hm4
      refine ⟨fun z => nm_r (nI_1 i) (nx _ _ (fun q => ?_) hm4), fun z => ⟨k, rfl, hk, h1 i _ _ hli c ⟨hmay, hb.mp z⟩ hn hm4⟩⟩
      have := hb.mpr q.2
      rw [z] at this; cases this
  exact ⟨_, key (80 - l) l mI mR (by omega) (Nat.le_refl _) (fun j j1 j2 => absurd j1 (by omega)) hm⟩
/-- what mends it -/
def MS (g : Nat → Nat) (r : Nat → Nat → Nat) (jL jT : Nat) (t : Nat → Nat) (n : Int32) (f : Nat → Int32) : Prop :=
  (n = 0 ∧ Hd g r jL jT t) ∨
  (n = 1 ∧ ¬ Hd g r jL jT t ∧ ∃ a, a < 80 ∧ F1 g r jL jT t a ∧ (∀ i, i < a → ¬ F1 g r jL jT t i) ∧ f 0 = nI a) ∨
  (n = 2 ∧ ¬ Hd g r jL jT t ∧ (∀ i, i < 80 → ¬ F1 g r jL jT t i) ∧ ∃ a b, a < b ∧ b < 80 ∧ F2 g r jL jT t a b ∧ (∀ i j, i < a → i < j → j < 80 → ¬ F2 g r jL jT t i j) ∧ (∀ j, a < j → j < b → ¬ F2 g r jL jT t a j) ∧ f 0 = nI a ∧ f 1 = nI b) ∨
  (n = -9 ∧ ¬ Hd g r jL jT t ∧ (∀ i, i < 80 → ¬ F1 g r jL jT t i) ∧ ∀ i j, i < j → j < 80 → ¬ F2 g r jL jT t i j)
theorem sX5_fewestTellings {g : Nat → Nat} {r : Nat → Nat → Nat} {sI : Nat → Int32} {sR : Nat → Nat → Int32} {tI : Nat → Int32} {tR : Nat → Nat → Int32} {hI : Nat → Int32} {hR : Nat → Nat → Int32} {mI : Nat → Int32} {mR : Nat → Nat → Int32} (hg : HG g r) (hh : HR_ hI hR g r) {t : Nat → Nat} {jL jT : Nat} (hm : MQ_ mI mR g r t 0 (g 3) (hs0 g) jL jT) (ht : TG g t (g 3) (hs0 g)) {post : Int32 → (Nat → Int32) → (Nat → Nat → Int32) → (Nat → Int32) → (Nat → Nat → Int32) → Prop} (hp : ∀ n f mI' mR', MS g r jL jT t n f → post n sI (va_up sR 2 f) mI' mR') : pX5_fewestTellings sI sR tI tR hI hR mI mR post := by
  unfold pX5_fewestTellings
  refine qX2_isSafe hg hh hm ht (fun b1 mI1 hb1 hm1 => ⟨fun s1 => qX2_isKept hg hh hm1 ht (fun b2 mI2 hb2 hm2 => ⟨fun s2 => ?_, fun s2 => ?_⟩), fun s1 => ?_⟩)
  · have nh : ¬ Hd g r jL jT t := fun z => by
      have := hb2.mpr z.1
      rw [s2] at this; cases this
    refine sX5_findTellingFrom (l := 0) (k := 0) hg hh hm2 ht (by decide) (by decide) (fun a mI3 mR3 _ ha hF hno hm3 => ⟨fun z => (by cases z), fun _ => hp 1 _ _ _ (Or.inr (Or.inl ⟨rfl, nh, a, ha, hF, fun i hi => hno i (by omega) hi, upd_at⟩))⟩) (fun mI3 mR3 hno hm3 => ⟨fun _ => ?_, fun z => (by cases z)⟩)
    have hno : ∀ i, i < 80 → ¬ F1 g r jL jT t i := fun i hi => hno i (by omega) hi
    have key : ∀ d i mI' mR', i + d = 80 → (∀ a b, a < i → a < b → b < 80 → ¬ F2 g r jL jT t a b) → MQ_ mI' mR' g r t 0 (g 3) (hs0 g) jL jT → bX5_fewestTellings_38 tI tR hI hR post (d + 1) (nI i) sI sR mI' mR' := by
      intro d
      induction d with
      | zero =>
        intro i mI' mR' hi hn hm'
        have hi : i = 80 := by omega
        subst hi
        unfold bX5_fewestTellings_38
        refine pk_le 80 80 (fun _ => ?_) (fun c => absurd c (by omega))
        have := hp (-9) (sR 2) mI' mR' (Or.inr (Or.inr (Or.inr ⟨rfl, nh, hno, fun a b h1 h2 => hn a b (by omega) h1 h2⟩)))
        rw [va_eta] at this; exact this
      | succ d ih =>
        intro i mI' mR' hi hn hm'
        have nx : ∀ mI2 mR2, (∀ b, i < b → b < 80 → ¬ F2 g r jL jT t i b) → MQ_ mI2 mR2 g r t 0 (g 3) (hs0 g) jL jT → bX5_fewestTellings_38 tI tR hI hR post (d + 1) (nI (i + 1)) sI sR mI2 mR2 := by
          intro mI2 mR2 hno2 hm2
          refine ih (i + 1) mI2 mR2 (by omega) (fun a b h1 h2 h3 => ?_) hm2
          by_cases e : a = i
          · subst e; exact hno2 b h2 h3
          · exact hn a b (by omega) h2 h3
        unfold bX5_fewestTellings_38
        refine pk_le 80 i (fun c => absurd c (by omega)) (fun c => sX2_canTell hg hh hm'.1 ht c (fun hmay => ⟨fun z => (by cases z), fun _ => ?_⟩) (fun hmay => ⟨fun _ => nm_r (nI_1 i) (nx _ _ (fun b _ _ z => hmay z.1) hm'), fun z => (by cases z)⟩))
        refine sX2_setTelling c hm'.1.2.2.2.2.1 ?_
        have hm2 : MQ_ mI' (va_up mR' 0 (upd (mR' 0) (i / 10) (nI (wi true (t (i / 10)) (i % 10))))) g r (tl t i) 0 (g 3) (hs0 g) jL jT := hm'.tell _ _
        have ht2 := tl_tg ht hmay
        have f21 : ∀ b, i < b → (F2 g r jL jT t i b ↔ F1 g r jL jT (tl t i) b) := fun b hb => ⟨fun z => ⟨(may_tl (by omega)).mpr z.2.1, z.2.2⟩, fun z => ⟨hmay, (may_tl (by omega)).mp z.1, z.2⟩⟩
        refine qX2_isSafe hg hh hm2 ht2 (fun b5 mI5 hb5 hm5 => ⟨fun s5 => ?_, fun s5 => ?_⟩)
        · unfold bX5_fewestTellings_90
          refine sX2_setTelling c hm5.1.2.2.2.2.1 ?_
          have hm6 := hm5.tell (i / 10) (wi false (tl t i (i / 10)) (i % 10))
          rw [tl_back hmay.2.2] at hm6
          refine ⟨fun _ => nm_r (nI_1 i) (nx _ _ (fun b b1 b2 z => ?_) hm6), fun q => absurd rfl q⟩
          have z1 := (f21 b b1).mp z
          have := hb5.mpr (Hd.mono hg (tl_sb (tl t i) b) (tl_tg ht2 z1.1) z1.2)
          rw [s5] at this; cases this
        · rw [nI_1]
          refine sX5_findTellingFrom (l := i + 1) (k := 1) hg hh hm5 ht2 (by omega) (by decide) (fun b mI6 mR6 b1 b2 hF hno2 hm6 => ⟨fun z => (by cases z), fun _ => ?_⟩) (fun mI6 mR6 hno2 hm6 => ⟨fun _ => ?_, fun z => (by cases z)⟩)
          · unfold bX5_fewestTellings_90
            refine sX2_setTelling c hm6.1.2.2.2.2.1 ⟨fun q => absurd q (by decide), fun _ => ⟨0, rfl, by decide, ?_⟩⟩
            rw [bx_uu, va_at']
            refine hp 2 _ _ _ (Or.inr (Or.inr (Or.inl ⟨rfl, nh, hno, i, b, by omega, b2, (f21 b (by omega)).mpr hF, hn, fun j j1 j2 z => hno2 j (by omega) j2 ((f21 j j1).mp z), upd_at, ?_⟩)))
            rw [upd_ne (by decide), upd_at]
          · unfold bX5_fewestTellings_90
            refine sX2_setTelling c hm6.1.2.2.2.2.1 ?_
            have hm7 := hm6.tell (i / 10) (wi false (tl t i (i / 10)) (i % 10))
            rw [tl_back hmay.2.2] at hm7
            exact ⟨fun _ => nm_r (nI_1 i) (nx _ _ (fun b b1 b2 z => hno2 b (by omega) b2 ((f21 b b1).mp z)) hm7), fun q => absurd rfl q⟩
    exact ⟨_, key 80 0 mI3 mR3 (by omega) (fun a b h1 => absurd h1 (by omega)) hm3⟩
  · have := hp 0 (sR 2) mI2 mR (Or.inl ⟨rfl, hb2.mp s2, hb1.mp s1⟩)
    rw [va_eta] at this; exact this
  · have ns : ¬ Ag g r t 0 (g 3) (hs0 g) 1 jT := fun z => by
      have := hb1.mpr z
      rw [s1] at this; cases this
    have := hp (-9) (sR 2) mI1 mR (Or.inr (Or.inr (Or.inr ⟨rfl, fun z => ns z.2, fun i _ z => ns (Hd.mono hg (tl_sb t i) (tl_tg ht z.1) z.2), fun i j hij _ z => ns (Hd.mono hg (fun k => sb_tr (tl_sb t i k) (tl_sb (tl t i) j k)) (tl_tg (tl_tg ht z.1) ((may_tl (by omega)).mpr z.2.1)) z.2.2)⟩)))
    rw [va_eta] at this; exact this
