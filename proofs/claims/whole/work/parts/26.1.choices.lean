theorem sJ6 {x : Nat} (hx : x < 4096) {post : Int32 → Prop} (h : post (nI (pc x))) : pJ6_bitCount_0f7a4 (nI x) post := by
  have e := bcf_ok (x / 64) (by omega) (x % 64) (by omega)
  rw [show 64 * (x / 64) + x % 64 = x by omega] at e
  rw [← e] at h
  unfold pJ6_bitCount_0f7a4
  intro v1 h1 v2 h2 v3 h3 v4 h4 v5 h5
  subst h1; subst h2; subst h3; subst h4; subst h5
  exact h
/-- the sets of j out of hs, listed -/
def CH (m : Nat) (z st : Int32) (f : Nat → Int32) (hs j : Nat) : Prop := ∃ n a : Nat, z = nI n ∧ st = nI a ∧ n ≤ 70 ∧ (a < n ∨ a = 0) ∧ (∀ k, k < n → ∃ s, f k = nI s ∧ s < 2 ^ m ∧ sb s hs ∧ pc s = j) ∧ ∀ s, s < 2 ^ m → sb s hs → pc s = j → ∃ k, k < n ∧ f k = nI s
theorem cw_mono (j : Nat) : ∀ d i, cw j i ≤ cw j (i + d)
  | 0, i => Nat.le_refl _
  | d + 1, i => by
    have := cw_mono j d i
    have e : cw j (i + (d + 1)) = cw j (i + d) + (if pc (i + d) = j then 1 else 0) := rfl
    omega
theorem cw_le {j i : Nat} (hj : j ≤ 8) (hi : i ≤ 256) : cw j i ≤ 70 := by
  have h1 := cw_mono j (256 - i) i
  rw [show i + (256 - i) = 256 by omega] at h1
  have := cw_70 j (by omega)
  omega
theorem sb_le {a b : Nat} (h : sb a b) : a ≤ b := Nat.le_of_testBit h
theorem sX0_choose {m hs many : Nat} (hm : m ≤ 8) (hh : hs < 2 ^ m) (hmany : many ≤ 8) {cz ct : Int32} {cf : Nat → Int32} {post : Int32 → Int32 → (Nat → Int32) → Prop} (h : ∀ z st f, CH m z st f hs (min many (pc hs)) → post z st f) : pX0_choose (nI hs) (nI many) cz ct cf post := by
  have p8 : 2 ^ m ≤ 2 ^ 8 := Nat.pow_le_pow_right (by decide) hm
  have hp := pc_le hs
  unfold pX0_choose
  refine sJ6 (by omega) ?_
  have hmin : (if nI (pc hs) < nI many then nI (pc hs) else nI many) = nI (min many (pc hs)) := by
    by_cases c : pc hs < many
    · rw [if_pos ((nI_ltI (by omega) (by omega)).mpr c)]; congr 1; omega
    · rw [if_neg (fun z => c ((nI_ltI (by omega) (by omega)).mp z))]; congr 1; omega
  refine nm_r hmin ?_
  generalize hj : min many (pc hs) = j at h
  have hj8 : j ≤ 8 := by omega
  have key : ∀ d i n (f : Nat → Int32), i + d = hs + 1 → n ≤ cw j i → (∀ k, k < n → ∃ s, f k = nI s ∧ s < i ∧ sb s hs ∧ pc s = j) → (∀ s, s < i → sb s hs → pc s = j → ∃ k, k < n ∧ f k = nI s) → bX0_choose_22 (nI hs) (nI j) post (d + 1) (nI i) (nI n) 0 f := by
    intro d
    induction d with
    | zero =>
      intro i n f hi hn h1 h2
      have hc := cw_le hj8 (show i ≤ 256 by omega)
      unfold bX0_choose_22
      refine pk_lt hs i (fun _ => h _ _ _ ?_) (fun c => absurd c (by omega))
      refine ⟨n, 0, rfl, rfl, by omega, Or.inr rfl, fun k hk => ?_, fun s hs1 hs2 hs3 => h2 s (by have := sb_le hs2; omega) hs2 hs3⟩
      obtain ⟨s, a1, a2, a3⟩ := h1 k hk
      exact ⟨s, a1, by omega, a3⟩
    | succ d ih =>
      intro i n f hi hn h1 h2
      have hi31 : i < 2 ^ 31 := by omega
      have hc := cw_le hj8 (show i + 1 ≤ 256 by omega)
      have ec : cw j (i + 1) = cw j i + (if pc i = j then 1 else 0) := rfl
      have skip : (sb i hs → pc i = j → False) → bX0_choose_22 (nI hs) (nI j) post (d + 1) (nI (i + 1)) (nI n) 0 f := by
        intro hno
        refine ih (i + 1) n f (by omega) (by omega) (fun k hk => ?_) (fun s hs1 hs2 hs3 => ?_)
        · obtain ⟨s, a1, a2, a3⟩ := h1 k hk
          exact ⟨s, a1, by omega, a3⟩
        · by_cases e : s = i
          · subst e; exact (hno hs2 hs3).elim
          · exact h2 s (by omega) hs2 hs3
      unfold bX0_choose_22
      rw [q_nd0 hi31]
      refine pk_lt hs i (fun c => absurd c (by omega)) (fun _ => ⟨fun c => ?_, fun c => ?_⟩)
      · exact nm_r (nI_1 i) (skip (fun z _ => c z))
      · refine sJ6 (by omega) ?_
        refine And.comm.mp (pk_eq (pc i) j (fun e => ?_) (fun e => ?_) rfl rfl (by have := pc_le i; omega) (by omega))
        · rw [if_pos e] at ec
          refine pk_le 70 n (fun q => absurd q (by omega)) (fun q => ⟨n, rfl, by omega, nm_r (nI_1 n) (nm_r (nI_1 i) ?_)⟩)
          refine ih (i + 1) (n + 1) _ (by omega) (by omega) (fun k hk => ?_) (fun s hs1 hs2 hs3 => ?_)
          · by_cases ek : k = n
            · subst ek; exact ⟨i, upd_at, by omega, c, e⟩
            · obtain ⟨s, a1, a2, a3⟩ := h1 k (by omega)
              exact ⟨s, by rw [upd_ne ek]; exact a1, by omega, a3⟩
          · by_cases e2 : s = i
            · subst e2; exact ⟨n, by omega, upd_at⟩
            · obtain ⟨k, a1, a2⟩ := h2 s (by omega) hs2 hs3
              exact ⟨k, by omega, by rw [upd_ne (by omega)]; exact a2⟩
        · exact nm_r (nI_1 i) (skip (fun _ z => e z))
  exact ⟨_, key (hs + 1) 0 0 cf (by omega) (Nat.zero_le _) (fun k hk => absurd hk (by omega)) (fun s hs => absurd hs (by omega))⟩
/-- the mind is ready: who would go, who would carry -/
def MQ_ (mI : Nat → Int32) (mR : Nat → Nat → Int32) (g : Nat → Nat) (r : Nat → Nat → Nat) (t : Nat → Nat) (w p hs jL jT : Nat) : Prop := MB mI mR g r t w p hs ∧ CH (g 1) (mI 4) (mI 5) (mR 4) hs (min jL (pc hs)) ∧ CH (g 1) (mI 6) (mI 7) (mR 5) hs (min jT (pc hs))
theorem MB.up5 {mI : Nat → Int32} {mR : Nat → Nat → Int32} {g : Nat → Nat} {r : Nat → Nat → Nat} {t : Nat → Nat} {w p hs : Nat} (h : MB mI mR g r t w p hs) (k : Nat) (hk : 4 ≤ k) (v : Int32) : MB (va_up mI k v) mR g r t w p hs := by
  obtain ⟨m0, m1, m2, m3, m4⟩ := h
  exact ⟨by rw [va_ne' _ _ (by omega)]; exact m0, by rw [va_ne' _ _ (by omega)]; exact m1, by rw [va_ne' _ _ (by omega)]; exact m2, by rw [va_ne' _ _ (by omega)]; exact m3, m4⟩
theorem MB.up4 {mI : Nat → Int32} {mR : Nat → Nat → Int32} {g : Nat → Nat} {r : Nat → Nat → Nat} {t : Nat → Nat} {w p hs : Nat} (h : MB mI mR g r t w p hs) (k : Nat) (hk : 4 ≤ k) (v : Nat → Int32) : MB mI (va_up mR k v) g r t w p hs := by
  obtain ⟨m0, m1, m2, m3, m4, m5, m6, m7⟩ := h
  exact ⟨m0, m1, m2, m3, by rw [va_ne' _ _ (by omega)]; exact m4, by rw [va_ne' _ _ (by omega)]; exact m5, by rw [va_ne' _ _ (by omega)]; exact m6, by rw [va_ne' _ _ (by omega)]; exact m7⟩
theorem sX2_chooseLeavers {g : Nat → Nat} {r : Nat → Nat → Nat} {hI : Nat → Int32} {hR : Nat → Nat → Int32} (hg : HG g r) {mI : Nat → Int32} {mR : Nat → Nat → Int32} {t : Nat → Nat} {w p hs : Nat} (hm : MB mI mR g r t w p hs) (hh : hs < 2 ^ (g 1)) {j : Nat} (hj : j ≤ 8) {post : (Nat → Int32) → (Nat → Nat → Int32) → Prop} (h : ∀ z st f, CH (g 1) z st f hs (min j (pc hs)) → post (va_up (va_up mI 4 z) 5 st) (va_up mR 4 f)) : pX2_chooseLeavers (nI j) hI hR mI mR post := by
  unfold pX2_chooseLeavers
  rw [hm.2.1]
  exact sX0_choose hg.2.1 hh hj h
theorem sX2_chooseTakers {g : Nat → Nat} {r : Nat → Nat → Nat} {hI : Nat → Int32} {hR : Nat → Nat → Int32} (hg : HG g r) {mI : Nat → Int32} {mR : Nat → Nat → Int32} {t : Nat → Nat} {w p hs : Nat} (hm : MB mI mR g r t w p hs) (hh : hs < 2 ^ (g 1)) {j : Nat} (hj : j ≤ 8) {post : (Nat → Int32) → (Nat → Nat → Int32) → Prop} (h : ∀ z st f, CH (g 1) z st f hs (min j (pc hs)) → post (va_up (va_up mI 6 z) 7 st) (va_up mR 5 f)) : pX2_chooseTakers (nI j) hI hR mI mR post := by
  unfold pX2_chooseTakers
  rw [hm.2.1]
  exact sX0_choose hg.2.1 hh hj h
def cy (a n i : Nat) : Nat := if a + i < n then a + i else a + i - n
theorem sX2_never_L {g : Nat → Nat} {r : Nat → Nat → Nat} {hI : Nat → Int32} {hR : Nat → Nat → Int32} (hg : HG g r) (hh : HR_ hI hR g r) {mI : Nat → Int32} {mR : Nat → Nat → Int32} {t : Nat → Nat} {w p hs : Nat} (hm : MB mI mR g r t w p hs) (ht : TG g t p hs) {what j : Nat} (hw : what < 2) (hc : CH (g 1) (mI 4) (mI 5) (mR 4) hs (min j (pc hs))) {post : Bool → (Nat → Int32) → (Nat → Nat → Int32) → Prop} (h : ∀ (b : Bool) (st : Int32), (b = true ↔ Ag g r t w p hs what j) → CH (g 1) (mI 4) st (mR 4) hs (min j (pc hs)) → post b (va_up mI 5 st) mR) : pX2_neverHappens_L (nI what) hI hR mI mR post := by
  obtain ⟨n, a, ez, ea, hn, han, h1, h2⟩ := id hc
  unfold pX2_neverHappens_L
  rw [ea]
  have key : ∀ d i, i + d = n → (a < n ∨ n = 0) → (∀ k, k < i → ∀ s, s < 2 ^ (g 1) → mR 4 (cy a n k) = nI s → bd g r t w p hs what s = false) → bX2_neverHappens_L_8 (nI what) hI hR post (d + 1) (nI (cy a n i)) (nI i) mI mR := by
    intro d
    induction d with
    | zero =>
      intro i hi ha hf
      have hi : i = n := by omega
      subst hi
      unfold bX2_neverHappens_L_8
      rw [ez]
      refine pk_le i i (fun _ => ?_) (fun c => absurd c (by omega))
      have hp := h true (mI 5) ⟨fun _ => ?_, fun _ => rfl⟩ hc
      · rw [va_eta] at hp; exact hp
      · intro s s1 s2 s3
        obtain ⟨k, k1, k2⟩ := h2 s s1 s2 s3
        have ha : a < i := by omega
        by_cases c : a ≤ k
        · refine hf (k - a) (by omega) s s1 ?_
          have : cy a i (k - a) = k := by unfold cy; rw [if_pos (by omega)]; omega
          rw [this]; exact k2
        · refine hf (k + i - a) (by omega) s s1 ?_
          have : cy a i (k + i - a) = k := by unfold cy; rw [if_neg (by omega)]; omega
          rw [this]; exact k2
    | succ d ih =>
      intro i hi ha hf
      have ha : a < n := by omega
      have hcy : cy a n i < n := by unfold cy; split <;> omega
      unfold bX2_neverHappens_L_8
      rw [ez]
      refine pk_le n i (fun c => absurd c (by omega)) (fun _ => ⟨cy a n i, rfl, by omega, ?_⟩)
      obtain ⟨s, s1, s2, s3, s4⟩ := h1 (cy a n i) hcy
      rw [s1]
      refine sX2_happens hg hh hm ht hw s2 ?_
      constructor
      · intro c
        unfold pX0_next
        rw [nI_1]
        have hn2 := ih (i + 1) (by omega) (Or.inl ha) (fun k hk s' hl hs' => by
          by_cases e : k = i
          · subst e
            rw [s1, nI_eq (lt31 s2 (by have := hg.2.1; omega)) (lt31 hl (by have := hg.2.1; omega))] at hs'
            rw [← hs']; exact c
          · exact hf k (by omega) s' hl hs')
        refine pk_le n (cy a n i + 1) (fun q => nm_r (nI_1 i) ?_) (fun q => nm_r (nI_1 i) ?_)
        · have e : cy a n (i + 1) = 0 := by unfold cy at q ⊢; split at q <;> split <;> omega
          rw [e] at hn2; exact hn2
        · have e : cy a n (i + 1) = cy a n i + 1 := by unfold cy at q ⊢; split at q <;> (rename_i u; first | rw [if_pos u] | rw [if_neg u]) <;> split <;> omega
          rw [e] at hn2; exact hn2
      · intro c
        refine h false _ ⟨fun e => (by cases e), fun hA => ?_⟩ ⟨n, cy a n i, ez, rfl, hn, Or.inl hcy, h1, h2⟩
        have := hA s s2 s3 s4
        rw [c] at this; exact this.symm
  have := key n 0 (by omega) (by omega) (fun k hk => absurd hk (by omega))
  have e : cy a n 0 = a := by unfold cy; split <;> omega
  rw [e] at this
  exact ⟨_, this⟩
