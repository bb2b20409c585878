/-! the class's questions: kept, safe, holds -/
theorem sX2_never_T {g : Nat → Nat} {r : Nat → Nat → Nat} {hI : Nat → Int32} {hR : Nat → Nat → Int32} (hg : HG g r) (hh : HR_ hI hR g r) {mI : Nat → Int32} {mR : Nat → Nat → Int32} {t : Nat → Nat} {w p hs : Nat} (hm : MB mI mR g r t w p hs) (ht : TG g t p hs) {what j : Nat} (hw : what < 2) (hc : CH (g 1) (mI 6) (mI 7) (mR 5) hs (min j (pc hs))) {post : Bool → (Nat → Int32) → (Nat → Nat → Int32) → Prop} (h : ∀ (b : Bool) (st : Int32), (b = true ↔ Ag g r t w p hs what j) → CH (g 1) (mI 6) st (mR 5) hs (min j (pc hs)) → post b (va_up mI 7 st) mR) : pX2_neverHappens_T (nI what) hI hR mI mR post := by
  obtain ⟨n, a, ez, ea, hn, han, h1, h2⟩ := id hc
  unfold pX2_neverHappens_T
  rw [ea]
  have key : ∀ d i, i + d = n → (a < n ∨ n = 0) → (∀ k, k < i → ∀ s, s < 2 ^ (g 1) → mR 5 (cy a n k) = nI s → bd g r t w p hs what s = false) → bX2_neverHappens_T_8 (nI what) hI hR post (d + 1) (nI (cy a n i)) (nI i) mI mR := by
    intro d
    induction d with
    | zero =>
      intro i hi ha hf
      have hi : i = n := by omega
      subst hi
      unfold bX2_neverHappens_T_8
      rw [ez]
      refine pk_le i i (fun _ => ?_) (fun c => absurd c (by omega))
      have hp := h true (mI 7) ⟨fun _ => ?_, fun _ => rfl⟩ hc
      · rw [va_eta] at hp; exact hp
      · intro s s1 s2 s3
        obtain ⟨k, k1, k2⟩ := h2 s s1 s2 s3
        have ha : a < i := by omega
        by_cases c : a ≤ k
        · refine hf (k - a) (by omega) s s1 ?_
          have : cy a i (k - a) = k := by unfold cy; rw [if_pos (by omega)]; omega
          rw [this]; exact k2
        · refine hf (k + i - a) (by omega) s s1 ?_
          have : cy a i (k + i - a) = k := by unfold cy; rw [if_neg (by omega)]; omega
          rw [this]; exact k2
    | succ d ih =>
      intro i hi ha hf
      have ha : a < n := by omega
      have hcy : cy a n i < n := by unfold cy; split <;> omega
      unfold bX2_neverHappens_T_8
      rw [ez]
      refine pk_le n i (fun c => absurd c (by omega)) (fun _ => ⟨cy a n i, rfl, by omega, ?_⟩)
      obtain ⟨s, s1, s2, s3, s4⟩ := h1 (cy a n i) hcy
      rw [s1]
      refine sX2_happens hg hh hm ht hw s2 ?_
      constructor
      · intro c
        unfold pX0_next
        rw [nI_1]
        have hn2 := ih (i + 1) (by omega) (Or.inl ha) (fun k hk s' hl hs' => by
          by_cases e : k = i
          · subst e
            rw [s1, nI_eq (lt31 s2 (by have := hg.2.1; omega)) (lt31 hl (by have := hg.2.1; omega))] at hs'
            rw [← hs']; exact c
          · exact hf k (by omega) s' hl hs')
        refine pk_le n (cy a n i + 1) (fun q => nm_r (nI_1 i) ?_) (fun q => nm_r (nI_1 i) ?_)
        · have e : cy a n (i + 1) = 0 := by unfold cy at q ⊢; split at q <;> split <;> omega
          rw [e] at hn2; exact hn2
        · have e : cy a n (i + 1) = cy a n i + 1 := by unfold cy at q ⊢; split at q <;> (rename_i u; first | rw [if_pos u] | rw [if_neg u]) <;> split <;> omega
          rw [e] at hn2; exact hn2
      · intro c
        refine h false _ ⟨fun e => (by cases e), fun hA => ?_⟩ ⟨n, cy a n i, ez, rfl, hn, Or.inl hcy, h1, h2⟩
        have := hA s s2 s3 s4
        rw [c] at this; exact this.symm
  have := key n 0 (by omega) (by omega) (fun k hk => absurd hk (by omega))
  have e : cy a n 0 = a := by unfold cy; split <;> omega
  rw [e] at this
  exact ⟨_, this⟩

theorem sX2_isKept {g : Nat → Nat} {r : Nat → Nat → Nat} {hI : Nat → Int32} {hR : Nat → Nat → Int32} (hg : HG g r) (hh : HR_ hI hR g r) {mI : Nat → Int32} {mR : Nat → Nat → Int32} {t : Nat → Nat} {w p hs : Nat} (hm : MB mI mR g r t w p hs) (ht : TG g t p hs) {j : Nat} (hc : CH (g 1) (mI 4) (mI 5) (mR 4) hs (min j (pc hs))) {post : Bool → (Nat → Int32) → (Nat → Nat → Int32) → Prop} (h : ∀ (b : Bool) (st : Int32), (b = true ↔ Ag g r t w p hs 0 j) → CH (g 1) (mI 4) st (mR 4) hs (min j (pc hs)) → post b (va_up mI 5 st) mR) : pX2_isKept hI hR mI mR post := sX2_never_L (what := 0) hg hh hm ht (by decide) hc h
theorem sX2_isSafe {g : Nat → Nat} {r : Nat → Nat → Nat} {hI : Nat → Int32} {hR : Nat → Nat → Int32} (hg : HG g r) (hh : HR_ hI hR g r) {mI : Nat → Int32} {mR : Nat → Nat → Int32} {t : Nat → Nat} {w p hs : Nat} (hm : MB mI mR g r t w p hs) (ht : TG g t p hs) {j : Nat} (hc : CH (g 1) (mI 6) (mI 7) (mR 5) hs (min j (pc hs))) {post : Bool → (Nat → Int32) → (Nat → Nat → Int32) → Prop} (h : ∀ (b : Bool) (st : Int32), (b = true ↔ Ag g r t w p hs 1 j) → CH (g 1) (mI 6) st (mR 5) hs (min j (pc hs)) → post b (va_up mI 7 st) mR) : pX2_isSafe hI hR mI mR post := sX2_never_T (what := 1) hg hh hm ht (by decide) hc h
theorem MQ_.up5 {mI : Nat → Int32} {mR : Nat → Nat → Int32} {g : Nat → Nat} {r : Nat → Nat → Nat} {t : Nat → Nat} {w p hs jL jT : Nat} (h : MQ_ mI mR g r t w p hs jL jT) {st : Int32} (hc : CH (g 1) (mI 4) st (mR 4) hs (min jL (pc hs))) : MQ_ (va_up mI 5 st) mR g r t w p hs jL jT := ⟨h.1.up5 5 (by decide) st, hc, h.2.2⟩
theorem MQ_.up7 {mI : Nat → Int32} {mR : Nat → Nat → Int32} {g : Nat → Nat} {r : Nat → Nat → Nat} {t : Nat → Nat} {w p hs jL jT : Nat} (h : MQ_ mI mR g r t w p hs jL jT) {st : Int32} (hc : CH (g 1) (mI 6) st (mR 5) hs (min jT (pc hs))) : MQ_ (va_up mI 7 st) mR g r t w p hs jL jT := ⟨h.1.up5 7 (by decide) st, h.2.1, hc⟩
theorem qX2_isKept {g : Nat → Nat} {r : Nat → Nat → Nat} {hI : Nat → Int32} {hR : Nat → Nat → Int32} (hg : HG g r) (hh : HR_ hI hR g r) {mI : Nat → Int32} {mR : Nat → Nat → Int32} {t : Nat → Nat} {w p hs jL jT : Nat} (hm : MQ_ mI mR g r t w p hs jL jT) (ht : TG g t p hs) {post : Bool → (Nat → Int32) → (Nat → Nat → Int32) → Prop} (h : ∀ (b : Bool) mI', (b = true ↔ Ag g r t w p hs 0 jL) → MQ_ mI' mR g r t w p hs jL jT → post b mI' mR) : pX2_isKept hI hR mI mR post := sX2_isKept hg hh hm.1 ht hm.2.1 (fun b st hb hc => h b _ hb (hm.up5 hc))
theorem qX2_isSafe {g : Nat → Nat} {r : Nat → Nat → Nat} {hI : Nat → Int32} {hR : Nat → Nat → Int32} (hg : HG g r) (hh : HR_ hI hR g r) {mI : Nat → Int32} {mR : Nat → Nat → Int32} {t : Nat → Nat} {w p hs jL jT : Nat} (hm : MQ_ mI mR g r t w p hs jL jT) (ht : TG g t p hs) {post : Bool → (Nat → Int32) → (Nat → Nat → Int32) → Prop} (h : ∀ (b : Bool) mI', (b = true ↔ Ag g r t w p hs 1 jT) → MQ_ mI' mR g r t w p hs jL jT → post b mI' mR) : pX2_isSafe hI hR mI mR post := sX2_isSafe hg hh hm.1 ht hm.2.2 (fun b st hb hc => h b _ hb (hm.up7 hc))
theorem qX2_holds {g : Nat → Nat} {r : Nat → Nat → Nat} {hI : Nat → Int32} {hR : Nat → Nat → Int32} (hg : HG g r) (hh : HR_ hI hR g r) {mI : Nat → Int32} {mR : Nat → Nat → Int32} {t : Nat → Nat} {w p hs jL jT : Nat} (hm : MQ_ mI mR g r t w p hs jL jT) (ht : TG g t p hs) {post : Bool → (Nat → Int32) → (Nat → Nat → Int32) → Prop} (h : ∀ (b : Bool) mI', (b = true ↔ Ag g r t w p hs 0 jL ∧ Ag g r t w p hs 1 jT) → MQ_ mI' mR g r t w p hs jL jT → post b mI' mR) : pX2_holds hI hR mI mR post := by
  unfold pX2_holds
  refine sX2_never_L (what := 0) hg hh hm.1 ht (by decide) hm.2.1 (fun b st hb hc => ⟨fun e => ?_, fun e => ?_⟩)
  · subst e
    exact h false _ ⟨fun z => (by cases z), fun z => hb.mpr z.1⟩ (hm.up5 hc)
  · subst e
    have hm2 := hm.up5 hc
    refine sX2_never_T (what := 1) hg hh hm2.1 ht (by decide) hm2.2.2 (fun b st hb2 hc2 => ⟨fun e => ?_, fun e => ?_⟩)
    · subst e
      exact h false _ ⟨fun z => (by cases z), fun z => hb2.mpr z.2⟩ (hm2.up7 hc2)
    · subst e
      exact h true _ ⟨fun _ => ⟨hb.mp rfl, hb2.mp rfl⟩, fun _ => rfl⟩ (hm2.up7 hc2)
/-- the mind, begun and with both choices -/
theorem qX2_choose {g : Nat → Nat} {r : Nat → Nat → Nat} {hI : Nat → Int32} {hR : Nat → Nat → Int32} (hg : HG g r) {mI : Nat → Int32} {mR : Nat → Nat → Int32} {t : Nat → Nat} {w p hs : Nat} (hm : MB mI mR g r t w p hs) (hh : hs < 2 ^ (g 1)) {jL jT : Nat} (hL : jL ≤ 8) (hT : jT ≤ 8) {post : (Nat → Int32) → (Nat → Nat → Int32) → Prop} (h : ∀ mI' mR', MQ_ mI' mR' g r t w p hs jL jT → (∀ k, k < 4 → mR' k = mR k) → post mI' mR') : pX2_chooseLeavers (nI jL) hI hR mI mR (fun mI_1 mR_1 => pX2_chooseTakers (nI jT) hI hR mI_1 mR_1 post) := by
  refine sX2_chooseLeavers hg hm hh hL (fun z st f hc => ?_)
  have hm1 : MB (va_up (va_up mI 4 z) 5 st) (va_up mR 4 f) g r t w p hs := ((hm.up5 4 (by decide) z).up5 5 (by decide) st).up4 4 (by decide) f
  refine sX2_chooseTakers hg hm1 hh hT (fun z2 st2 f2 hc2 => h _ _ ⟨?_, ?_, ?_⟩ (fun k hk => ?_))
  · exact ((hm1.up5 6 (by decide) z2).up5 7 (by decide) st2).up4 5 (by decide) f2
  · exact hc
  · exact hc2
  · rw [va_ne' _ _ (by omega), va_ne' _ _ (by omega)]
