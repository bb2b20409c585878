/-! finest -/
def BW (w : Nat → Nat) (P : Nat → Prop) (k : Nat) : Option Nat → Prop
  | none => ∀ i, i < k → ¬ P i
  | some b => b < k ∧ P b ∧ (∀ i, i < k → P i → w b ≤ w i) ∧ ∀ i, i < b → P i → w b < w i
def ww (w : Nat → Nat) : Option Nat → Nat
  | none => 99
  | some b => w b
def w0 (w : Nat → Nat) : Option Nat → Nat
  | none => 0
  | some b => w b
theorem BW.uniq {w : Nat → Nat} {P : Nat → Prop} {k : Nat} {o o' : Option Nat} (h : BW w P k o) (h' : BW w P k o') : o = o' := by
  cases o with
  | none =>
    cases o' with
    | none => rfl
    | some c => exact absurd h'.2.1 (h c h'.1)
  | some b =>
    cases o' with
    | none => exact absurd h.2.1 (h' b h.1)
    | some c =>
      have e : b = c := by
        rcases Nat.lt_trichotomy b c with z | z | z
        · have h1 := h'.2.2.2 b z h.2.1
          have h2 := h.2.2.1 c h'.1 h'.2.1
          omega
        · exact z
        · have h1 := h.2.2.2 c z h'.2.1
          have h2 := h'.2.2.1 b h.1 h.2.1
          omega
      rw [e]
theorem BW.zero (w : Nat → Nat) (P : Nat → Prop) : BW w P 0 none := fun i hi => absurd hi (by omega)
theorem BW.skip {w : Nat → Nat} {P : Nat → Prop} {k : Nat} {o : Option Nat} (h : BW w P k o) (hn : ¬ P k) : BW w P (k + 1) o := by
  cases o with
  | none =>
    intro i hi
    by_cases e : i = k
    · subst e; exact hn
    · exact h i (by omega)
  | some b =>
    refine ⟨Nat.lt_succ_of_lt h.1, h.2.1, fun i hi hp => ?_, h.2.2.2⟩
    by_cases e : i = k
    · subst e; exact absurd hp hn
    · exact h.2.2.1 i (by omega) hp
theorem BW.heavy {w : Nat → Nat} {P : Nat → Prop} {k : Nat} {o : Option Nat} (h : BW w P k o) (h9 : w k < 99) (hw : ww w o ≤ w k) : BW w P (k + 1) o := by
  cases o with
  | none =>
    have hw : 99 ≤ w k := hw
    omega
  | some b =>
    refine ⟨Nat.lt_succ_of_lt h.1, h.2.1, fun i hi hp => ?_, h.2.2.2⟩
    by_cases e : i = k
    · subst e; exact hw
    · exact h.2.2.1 i (by omega) hp
theorem BW.better {w : Nat → Nat} {P : Nat → Prop} {k : Nat} {o : Option Nat} (h : BW w P k o) (hw : w k < ww w o) (hp : P k) : BW w P (k + 1) (some k) := by
  cases o with
  | none =>
    refine ⟨Nat.lt_succ_self k, hp, fun i hi hi2 => ?_, fun i hi hi2 => absurd hi2 (h i hi)⟩
    by_cases e : i = k
    · subst e; exact Nat.le_refl _
    · exact absurd hi2 (h i (by omega))
  | some b =>
    have hw : w k < w b := hw
    refine ⟨Nat.lt_succ_self k, hp, fun i hi hi2 => ?_, fun i hi hi2 => ?_⟩
    · by_cases e : i = k
      · subst e; exact Nat.le_refl _
      · have := h.2.2.1 i (by omega) hi2
        omega
    · have := h.2.2.1 i hi hi2
      omega
theorem gn99 {g : Nat → Nat} {r : Nat → Nat → Nat} (hg : HG g r) (k : Nat) : gn g r k (g 1) < 99 := by
  have h1 := gn_le hg k (g 1) (Nat.le_refl _)
  have b1 := hg.2.1
  omega
theorem ww31 {g : Nat → Nat} {r : Nat → Nat → Nat} (hg : HG g r) (o : Option Nat) : ww (fun k => gn g r k (g 1)) o < 2 ^ 31 := by
  cases o with
  | none => show 99 < 2 ^ 31; decide
  | some b => have := gn99 hg b; show gn g r b (g 1) < 2 ^ 31; omega
def PF (g : Nat → Nat) (r : Nat → Nat → Nat) (jL jT k : Nat) : Prop := Hd g r jL jT (gT g r k)
theorem sX5_finestKind {g : Nat → Nat} {r : Nat → Nat → Nat} {sI : Nat → Int32} {sR : Nat → Nat → Int32} {tI : Nat → Int32} {tR : Nat → Nat → Int32} {hI : Nat → Int32} {hR : Nat → Nat → Int32} {mI : Nat → Int32} {mR : Nat → Nat → Int32} (hg : HG g r) (hh : HR_ hI hR g r) {jL jT : Nat} (hm : MQ_ mI mR g r (r 0) 0 (g 3) (hs0 g) jL jT) {post : Int32 → (Nat → Int32) → (Nat → Nat → Int32) → Prop} (hp : ∀ o mI' mR', BW (fun k => gn g r k (g 1)) (PF g r jL jT) 5 o → post (enc o) mI' mR') : pX5_finestKind sI sR tI tR hI hR mI mR post := by
  have key : ∀ d i o t mI' mR', i + d = 5 → BW (fun k => gn g r k (g 1)) (PF g r jL jT) i o → MQ_ mI' mR' g r t 0 (g 3) (hs0 g) jL jT → (∀ j, (hs0 g).testBit j = false → t j = r 0 j) → bX5_finestKind_8 sI sR tI tR hI hR post (d + 1) (enc o) (nI (ww (fun k => gn g r k (g 1)) o)) (nI i) mI' mR' := by
    intro d
    induction d with
    | zero =>
      intro i o t mI' mR' hi hb hm' ht
      have hi : i = 5 := by omega
      subst hi
      unfold bX5_finestKind_8
      exact pk_le 5 5 (fun _ => hp o mI' mR' hb) (fun c => absurd c (by omega))
    | succ d ih =>
      intro i o t mI' mR' hi hb hm' ht
      have h9 := gn99 hg i
      unfold bX5_finestKind_8
      refine pk_le 5 i (fun c => absurd c (by omega)) (fun c5 => sX2_giveOut (r := r) hg hh hm'.1.2.1 hm'.1.2.2.2.2.1 ht c5 (fun f hf => ?_))
      have hm2 := hm'.told2 hf
      have nt : ∀ j, (hs0 g).testBit j = false → gT g r i j = r 0 j := fun j e => gT_f e
      refine pk_le (ww (fun k => gn g r k (g 1)) o) (gn g r i (g 1)) (fun c => nm_r (nI_1 i) (ih (i + 1) o _ _ _ (by omega) (hb.heavy h9 c) hm2 nt)) (fun c => ?_) rfl rfl (ww31 hg o) (by omega)
      refine qX2_holds hg hh hm2 (tgG hg i) (fun b2 mI2 hb2 hm3 => ⟨fun z => nm_r (nI_1 i) (ih (i + 1) o _ _ _ (by omega) (hb.skip (fun q => ?_)) hm3 nt), fun z => nm_r (nI_1 i) (ih (i + 1) (some i) _ _ _ (by omega) (hb.better c (hb2.mp z)) hm3 nt)⟩)
      have := hb2.mpr q
      rw [z] at this; cases this
  exact ⟨_, key 5 0 none (r 0) mI mR (by omega) (BW.zero _ _) hm (fun _ _ => rfl)⟩
theorem sX6_finest40 {g : Nat → Nat} {r : Nat → Nat → Nat} {oI : Nat → Int32} {oR : Nat → Nat → Int32} (hg : HG g r) (ho : OM oI oR g r) {jL jT : Nat} (hL : jL ≤ 8) (hT : jT ≤ 8) {post : Int32 → (Nat → Int32) → (Nat → Nat → Int32) → Prop} (hp : ∀ o oI' oR', BW (fun k => gn g r k (g 1)) (PF g r jL jT) 5 o → QT oI oR oI' oR' g r (r 0) 0 (g 3) → post (enc o) oI' oR') : ∃ n, bX6_finest_40 (nI jL) (nI jT) post n (-9) 0 0 oI oR := by
  have key : ∀ d i o oI' oR', i + d = 5 → BW (fun k => gn g r k (g 1)) (PF g r jL jT) i o → QT oI oR oI' oR' g r (r 0) 0 (g 3) → bX6_finest_40 (nI jL) (nI jT) post (d + 1) (enc o) (nI (w0 (fun k => gn g r k (g 1)) o)) (nI i) oI' oR' := by
    intro d
    induction d with
    | zero =>
      intro i o oI' oR' hi hb hq
      have hi : i = 5 := by omega
      subst hi
      unfold bX6_finest_40
      exact pk_le 5 5 (fun _ => hp o oI' oR' hb hq) (fun c => absurd c (by omega))
    | succ d ih =>
      intro i o oI' oR' hi hb hq
      have h9 := gn99 hg i
      unfold bX6_finest_40
      refine pk_le 5 i (fun c => absurd c (by omega)) (fun c5 => sX6_gives hg hq c5 (fun oR2 hq2 h24 => sX6_holdsT hg hq2 (by decide) (tgG hg i) hL hT (fun b2 oR3 hb2 hq3 _ _ e24 => sX6_givesBack hg hq3 (fun j hj => by rw [e24]; exact h24 j hj) (fun oR4 hq4 => ⟨fun z => nm_r (nI_1 i) (ih (i + 1) o _ _ (by omega) (hb.skip (fun q => ?_)) hq4), fun z => ?_⟩))))
      · have := hb2.mpr q
        rw [z] at this; cases this
      · have hP : PF g r jL jT i := hb2.mp z
        cases o with
        | none => exact ⟨fun _ => nm_r (nI_1 i) (ih (i + 1) (some i) _ _ (by omega) (hb.better h9 hP) hq4), fun q => absurd (by decide) q⟩
        | some b =>
          have hb5 := hb.1
          have h9b := gn99 hg b
          refine ⟨fun q => absurd q (nI_pos (by omega)), fun _ => ?_⟩
          exact pk_lt (gn g r i (g 1)) (gn g r b (g 1)) (fun c => nm_r (nI_1 i) (ih (i + 1) (some i) _ _ (by omega) (hb.better c hP) hq4)) (fun c => nm_r (nI_1 i) (ih (i + 1) (some b) _ _ (by omega) (hb.heavy h9 c) hq4))
  exact ⟨_, key 5 0 none oI oR (by omega) (BW.zero _ _) (QT.rf ho)⟩
theorem zc_23 {L : Nat} {xs : Nat → Int32} {i : Nat} (hi : i + 4 ≤ L) {ko : Option ((Nat → Int32) × (Nat → Nat → Int32))} {sI : Nat → Int32} {sR : Nat → Nat → Int32} {tI : Nat → Int32} {tR : Nat → Nat → Int32} {hI : Nat → Int32} {hR : Nat → Nat → Int32} {mI : Nat → Int32} {mR : Nat → Nat → Int32} {oI : Nat → Int32} {oR : Nat → Nat → Int32} (h : zIn ko sI sR tI tR hI hR mI mR oI oR) : pL_23 L xs (nI i) sI sR tI tR hI hR mI mR oI oR (zIn ko) := by
  obtain ⟨g, r, hg, hh, ho, hr⟩ := h
  have b0 := hg.1
  have b1 := hg.2.1
  have e0 : hI 0 = nI (g 0) := hh.1 0 (by decide)
  have e1 : hI 1 = nI (g 1) := hh.1 1 (by decide)
  have o0 : oI 10 = nI (g 0) := ho.1.1.1
  have o1 : oI 11 = nI (g 1) := ho.1.1.2.1
  refine ⟨i + 1, nI_1 i, by omega, i + 2, nI_add i 2, by omega, ?_⟩
  generalize xs (i + 1) = x
  generalize xs (i + 2) = y
  have t0 := tg0 hg
  unfold pX5_finest pX6_finest
  rcases ohC x y with c2 | c2 | ⟨jL, jT, hL, hT, eL, eT⟩
  · exact oh4 c2 ⟨fun q => absurd q (by decide), fun _ => refC (k := 4) (by decide) (by decide) (nt4 c2 ⟨fun _ => ⟨fun q => absurd q (by decide), fun _ => refM (k := 4) (by decide) (by decide) (fin2 rfl (fzK hg hh ho hr (by decide)))⟩, fun q => absurd q (by decide)⟩)⟩
  · exact oh6 c2 ⟨fun q => absurd q (by decide), fun _ => refC (k := 6) (by decide) (by decide) (nt6 c2 ⟨fun _ => ⟨fun q => absurd q (by decide), fun _ => refM (k := 6) (by decide) (by decide) (fin2 rfl (fzK hg hh ho hr (by decide)))⟩, fun q => absurd q (by decide)⟩)⟩
  subst eL; subst eT
  refine oh0 hL hT ⟨fun _ => inH hg hh ⟨fun c => ?_, fun c => refC (k := 3) (by decide) (by decide) (nt0 hL hT ⟨fun q => absurd rfl q, fun _ => sX6_houseSet hg o1 ho.1.2.2.1 ⟨fun q => absurd c q, fun _ => ⟨fun q => absurd q (by decide), fun _ => refM (k := 3) (by decide) (by decide) (fin2 rfl (fzK hg hh ho hr (by decide)))⟩⟩⟩)⟩, fun q => absurd rfl q⟩
  refine sX2_begin hg hh (fun mI' mR' hm => qX2_choose hg hm t0.2.2 hL hT (fun mI2 mR2 hm2 _ => sX5_finestKind hg hh hm2 (fun o mI3 mR3 hb1 => nt0 hL hT ⟨fun q => absurd rfl q, fun _ => sX6_houseSet hg o1 ho.1.2.2.1 ⟨fun _ => ⟨fun _ => sX6_finest40 hg ho hL hT (fun o' oI' oR' hb2 hq => fin2 ?_ (zQT hg hh hr hq)), fun q => absurd rfl q⟩, fun q => absurd q c⟩⟩)))
  rw [hb1.uniq hb2]
