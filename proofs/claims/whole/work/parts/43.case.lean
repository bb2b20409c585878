/-! searches for the fewest -/
def BS (P : Nat → Prop) (k : Nat) : Option Nat → Prop
  | none => ∀ i, i < k → ¬ P i
  | some b => b < k ∧ P b ∧ (∀ i, i < k → P i → pc b ≤ pc i) ∧ ∀ i, i < b → P i → pc b < pc i
def enc : Option Nat → Int32
  | none => -9
  | some b => nI b
def wn : Option Nat → Nat
  | none => 99
  | some b => pc b
theorem wn_lt (o : Option Nat) : wn o < 2 ^ 31 := by
  cases o with
  | none => decide
  | some b => have := pc_le b; show pc b < 2 ^ 31; omega
theorem BS.uniq {P : Nat → Prop} {k : Nat} {o o' : Option Nat} (h : BS P k o) (h' : BS P k o') : o = o' := by
  cases o with
  | none =>
    cases o' with
    | none => rfl
    | some c => exact absurd h'.2.1 (h c h'.1)
  | some b =>
    cases o' with
    | none => exact absurd h.2.1 (h' b h.1)
    | some c =>
      have e : b = c := by
        rcases Nat.lt_trichotomy b c with z | z | z
        · have h1 := h'.2.2.2 b z h.2.1
          have h2 := h.2.2.1 c h'.1 h'.2.1
          omega
        · exact z
        · have h1 := h.2.2.2 c z h'.2.1
          have h2 := h'.2.2.1 b h.1 h.2.1
          omega
      rw [e]
theorem BS.zero (P : Nat → Prop) : BS P 0 none := fun i hi => absurd hi (by omega)
theorem BS.skip {P : Nat → Prop} {k : Nat} {o : Option Nat} (h : BS P k o) (hn : ¬ P k) : BS P (k + 1) o := by
  cases o with
  | none =>
    intro i hi
    by_cases e : i = k
    · subst e; exact hn
    · exact h i (by omega)
  | some b =>
    refine ⟨Nat.lt_succ_of_lt h.1, h.2.1, fun i hi hp => ?_, h.2.2.2⟩
    by_cases e : i = k
    · subst e; exact absurd hp hn
    · exact h.2.2.1 i (by omega) hp
theorem BS.heavy {P : Nat → Prop} {k : Nat} {o : Option Nat} (h : BS P k o) (hw : wn o ≤ pc k) : BS P (k + 1) o := by
  cases o with
  | none =>
    have := pc_le k
    have hw : 99 ≤ pc k := hw
    omega
  | some b =>
    refine ⟨Nat.lt_succ_of_lt h.1, h.2.1, fun i hi hp => ?_, h.2.2.2⟩
    by_cases e : i = k
    · subst e; exact hw
    · exact h.2.2.1 i (by omega) hp
theorem BS.better {P : Nat → Prop} {k : Nat} {o : Option Nat} (h : BS P k o) (hw : pc k < wn o) (hp : P k) : BS P (k + 1) (some k) := by
  cases o with
  | none =>
    refine ⟨Nat.lt_succ_self k, hp, fun i hi hi2 => ?_, fun i hi hi2 => absurd hi2 (h i hi)⟩
    by_cases e : i = k
    · subst e; exact Nat.le_refl _
    · exact absurd hi2 (h i (by omega))
  | some b =>
    have hw : pc k < pc b := hw
    refine ⟨Nat.lt_succ_self k, hp, fun i hi hi2 => ?_, fun i hi hi2 => ?_⟩
    · by_cases e : i = k
      · subst e; exact Nat.le_refl _
      · have := h.2.2.1 i (by omega) hi2
        omega
    · have := h.2.2.1 i hi hi2
      omega
/-- the reference's way to compare -/
theorem cmp6 {o : Option Nat} {i : Nat} (hb : ∀ b, o = some b → b < 2 ^ 31) (hi : i < 2 ^ 31) {A B : Prop} (go : pc i < wn o → A) (no : wn o ≤ pc i → B) : ((enc o < 0 → A) ∧ (¬ enc o < 0 → pX6_bits (nI i) (fun r2 => pX6_bits (enc o) (fun r3 => ((r2 < r3 → A) ∧ (¬ r2 < r3 → B)))))) := by
  have hp := pc_le i
  cases o with
  | none => exact ⟨fun _ => go (by show pc i < 99; omega), fun q => absurd (by decide) q⟩
  | some b =>
    have hp2 := pc_le b
    refine ⟨fun q => absurd q (nI_pos (hb b rfl)), fun _ => sX6_bits hi (sX6_bits (hb b rfl) ?_)⟩
    exact pk_lt (pc i) (pc b) go no
theorem BS.lt {P : Nat → Prop} {k : Nat} {o : Option Nat} (h : BS P k o) : ∀ b, o = some b → b < k := by
  intro b e
  subst e
  exact h.1
theorem sX5_fewestWhoGo {g : Nat → Nat} {r : Nat → Nat → Nat} {sI : Nat → Int32} {sR : Nat → Nat → Int32} {tI : Nat → Int32} {tR : Nat → Nat → Int32} {hI : Nat → Int32} {hR : Nat → Nat → Int32} {mI : Nat → Int32} {mR : Nat → Nat → Int32} (hg : HG g r) (hh : HR_ hI hR g r) {t : Nat → Nat} {w p hs : Nat} (hm : MB mI mR g r t w p hs) (ht : TG g t p hs) {what : Nat} (hw : what < 2) {post : Int32 → Prop} (h : ∀ o, BS (fun s => sb s hs ∧ bd g r t w p hs what s = true) (2 ^ (g 1)) o → post (enc o)) : pX5_fewestWhoGo (nI what) sI sR tI tR hI hR mI mR post := by
  have b1 := hg.2.1
  have e1 : hI 1 = nI (g 1) := hh.1 1 (by decide)
  have p8 : 2 ^ (g 1) ≤ 2 ^ 8 := Nat.pow_le_pow_right (by decide) b1
  have key : ∀ d i o, i + d = 2 ^ (g 1) → BS (fun s => sb s hs ∧ bd g r t w p hs what s = true) i o → bX5_fewestWhoGo_9 (nI what) sI sR tI tR hI hR mI mR post (d + 1) (enc o) (nI (wn o)) (nI i) := by
    intro d
    induction d with
    | zero =>
      intro i o hi hb
      have hi : i = 2 ^ (g 1) := by omega
      subst hi
      unfold bX5_fewestWhoGo_9
      rw [e1, q_shl1 (by omega)]
      exact pk_le (2 ^ (g 1)) (2 ^ (g 1)) (fun _ => h o hb) (fun c => absurd c (by omega))
    | succ d ih =>
      intro i o hi hb
      have hp := pc_le i
      unfold bX5_fewestWhoGo_9
      rw [e1, q_shl1 (by omega)]
      refine pk_le (2 ^ (g 1)) i (fun c => absurd c (by omega)) (fun _ => sJ6 (by omega) ?_)
      refine pk_le (wn o) (pc i) (fun c => nm_r (nI_1 i) (ih (i + 1) o (by omega) (hb.heavy c))) (fun c => ?_) rfl rfl (wn_lt o) (by omega)
      unfold pX2_areHere
      rw [hm.2.1, q_nd0 (by omega)]
      refine ⟨fun c2 => ⟨fun _ => nm_r (nI_1 i) (ih (i + 1) o (by omega) (hb.skip (fun z => c2 z.1))), fun z => (by cases z)⟩, fun c2 => ⟨fun z => (by cases z), fun _ => sX2_happens hg hh hm ht hw (by omega) ?_⟩⟩
      exact ⟨fun z => nm_r (nI_1 i) (ih (i + 1) o (by omega) (hb.skip (fun q => by rw [z] at q; cases q.2))), fun z => nm_r (nI_1 i) (ih (i + 1) (some i) (by omega) (hb.better c ⟨c2, z⟩))⟩
  exact ⟨_, key (2 ^ (g 1)) 0 none (by omega) (BS.zero _)⟩
theorem sX6_fewest {g : Nat → Nat} {r : Nat → Nat → Nat} {oI : Nat → Int32} {oR : Nat → Nat → Int32} (hg : HG g r) (ho : OM oI oR g r) {z : Bool} {post : Int32 → (Nat → Int32) → (Nat → Nat → Int32) → Prop} (h : ∀ o a b c, BS (fun s => sb s (hs0 g) ∧ bd g r (r 0) 0 (g 3) (hs0 g) z.toNat s = true) (2 ^ (g 1)) o → post (enc o) oI (K3 oR a b c)) : pX6_fewest z oI oR post := by
  have b1 := hg.2.1
  have o1 : oI 11 = nI (g 1) := ho.1.1.2.1
  have p8 : 2 ^ (g 1) ≤ 2 ^ 8 := Nat.pow_le_pow_right (by decide) b1
  have t0 := tg0 hg
  unfold pX6_fewest
  refine fk6 hg ho (fun a b c h1 h2 hk => sX6_houseSet hg hk.1.1.2.1 hk.1.2.2.1 ?_)
  have key : ∀ d i o, i + d = 2 ^ (g 1) → BS (fun s => sb s (hs0 g) ∧ bd g r (r 0) 0 (g 3) (hs0 g) z.toNat s = true) i o → bX6_fewest_15 (zb z) (nI (hs0 g)) post (d + 1) (enc o) (nI i) oI (K3 oR a b c) := by
    intro d
    induction d with
    | zero =>
      intro i o hi hb
      have hi : i = 2 ^ (g 1) := by omega
      subst hi
      unfold bX6_fewest_15
      rw [o1, q_shl1 (by omega)]
      exact pk_le (2 ^ (g 1)) (2 ^ (g 1)) (fun _ => h o a b c hb) (fun c => absurd c (by omega))
    | succ d ih =>
      intro i o hi hb
      have hi31 : i < 2 ^ 31 := by omega
      unfold bX6_fewest_15
      rw [o1, q_shl1 (by omega), q_nd0 hi31]
      refine pk_le (2 ^ (g 1)) i (fun c => absurd c (by omega)) (fun _ => ⟨fun c2 => nm_r (nI_1 i) (ih (i + 1) o (by omega) (hb.skip (fun z => c2 z.1))), fun c2 => cmp6 (fun b e => by have := hb.lt b e; omega) hi31 (fun c => ?_) (fun c => nm_r (nI_1 i) (ih (i + 1) o (by omega) (hb.heavy c)))⟩)
      unfold bX6_fewest_54
      cases z
      · refine ⟨fun _ => sX6_losesIt hg hk t0 ?_, fun q => absurd rfl q⟩
        exact ⟨fun z => nm_r (nI_1 i) (ih (i + 1) o (by omega) (hb.skip (fun q => by have q2 := q.2; rw [show Bool.toNat false = 0 from rfl, z] at q2; cases q2))), fun z => nm_r (nI_1 i) (ih (i + 1) (some i) (by omega) (hb.better c ⟨c2, z⟩))⟩
      · refine ⟨fun q => absurd q (by decide), fun _ => sX6_carriesIt hg hk t0 (by omega) ?_⟩
        exact ⟨fun z => nm_r (nI_1 i) (ih (i + 1) o (by omega) (hb.skip (fun q => by have q2 := q.2; rw [show Bool.toNat true = 1 from rfl, z] at q2; cases q2))), fun z => nm_r (nI_1 i) (ih (i + 1) (some i) (by omega) (hb.better c ⟨c2, z⟩))⟩
  exact ⟨_, key (2 ^ (g 1)) 0 none (by omega) (BS.zero _)⟩
theorem zc_15 {L : Nat} {xs : Nat → Int32} {i : Nat} (hi : i + 4 ≤ L) {ko : Option ((Nat → Int32) × (Nat → Nat → Int32))} {sI : Nat → Int32} {sR : Nat → Nat → Int32} {tI : Nat → Int32} {tR : Nat → Nat → Int32} {hI : Nat → Int32} {hR : Nat → Nat → Int32} {mI : Nat → Int32} {mR : Nat → Nat → Int32} {oI : Nat → Int32} {oR : Nat → Nat → Int32} (h : zIn ko sI sR tI tR hI hR mI mR oI oR) : pL_15 L xs (nI i) sI sR tI tR hI hR mI mR oI oR (zIn ko) := by
  obtain ⟨g, r, hg, hh, ho, hr⟩ := h
  have b0 := hg.1
  have b1 := hg.2.1
  have e0 : hI 0 = nI (g 0) := hh.1 0 (by decide)
  have e1 : hI 1 = nI (g 1) := hh.1 1 (by decide)
  have o0 : oI 10 = nI (g 0) := ho.1.1.1
  have o1 : oI 11 = nI (g 1) := ho.1.1.2.1
  have t0 := tg0 hg
  unfold pL_15 pX5_losers pX6_losers
  refine sX2_begin hg hh (fun mI' mR' hm => sX5_fewestWhoGo (what := 0) hg hh hm t0 (by decide) (fun o ho1 => sX6_fewest (z := false) hg ho (fun o' a b c ho2 => ?_)))
  exact fin2 (by rw [ho1.uniq ho2]) (zK3 hg hh ho hr a b c)
theorem zc_16 {L : Nat} {xs : Nat → Int32} {i : Nat} (hi : i + 4 ≤ L) {ko : Option ((Nat → Int32) × (Nat → Nat → Int32))} {sI : Nat → Int32} {sR : Nat → Nat → Int32} {tI : Nat → Int32} {tR : Nat → Nat → Int32} {hI : Nat → Int32} {hR : Nat → Nat → Int32} {mI : Nat → Int32} {mR : Nat → Nat → Int32} {oI : Nat → Int32} {oR : Nat → Nat → Int32} (h : zIn ko sI sR tI tR hI hR mI mR oI oR) : pL_16 L xs (nI i) sI sR tI tR hI hR mI mR oI oR (zIn ko) := by
  obtain ⟨g, r, hg, hh, ho, hr⟩ := h
  have b0 := hg.1
  have b1 := hg.2.1
  have e0 : hI 0 = nI (g 0) := hh.1 0 (by decide)
  have e1 : hI 1 = nI (g 1) := hh.1 1 (by decide)
  have o0 : oI 10 = nI (g 0) := ho.1.1.1
  have o1 : oI 11 = nI (g 1) := ho.1.1.2.1
  have t0 := tg0 hg
  unfold pL_16 pX5_carriers pX6_carriers
  refine sX2_begin hg hh (fun mI' mR' hm => sX5_fewestWhoGo (what := 1) hg hh hm t0 (by decide) (fun o ho1 => sX6_fewest (z := true) hg ho (fun o' a b c ho2 => ?_)))
  exact fin2 (by rw [ho1.uniq ho2]) (zK3 hg hh ho hr a b c)
-- keys
def kf (P : Nat → Bool) : Nat → Nat
  | 0 => 0
  | k + 1 => if P k then kf P k ||| 2 ^ k else kf P k
theorem kf_t {P : Nat → Bool} {k : Nat} (h : P k = true) : kf P (k + 1) = kf P k ||| 2 ^ k := if_pos h
theorem kf_f {P : Nat → Bool} {k : Nat} (h : P k = false) : kf P (k + 1) = kf P k := if_neg (by rw [h]; decide)
theorem zc_17 {L : Nat} {xs : Nat → Int32} {i : Nat} (hi : i + 4 ≤ L) {ko : Option ((Nat → Int32) × (Nat → Nat → Int32))} {sI : Nat → Int32} {sR : Nat → Nat → Int32} {tI : Nat → Int32} {tR : Nat → Nat → Int32} {hI : Nat → Int32} {hR : Nat → Nat → Int32} {mI : Nat → Int32} {mR : Nat → Nat → Int32} {oI : Nat → Int32} {oR : Nat → Nat → Int32} (h : zIn ko sI sR tI tR hI hR mI mR oI oR) : pL_17 L xs (nI i) sI sR tI tR hI hR mI mR oI oR (zIn ko) := by
  obtain ⟨g, r, hg, hh, ho, hr⟩ := h
  have b0 := hg.1
  have b1 := hg.2.1
  have e0 : hI 0 = nI (g 0) := hh.1 0 (by decide)
  have e1 : hI 1 = nI (g 1) := hh.1 1 (by decide)
  have o0 : oI 10 = nI (g 0) := ho.1.1.1
  have o1 : oI 11 = nI (g 1) := ho.1.1.2.1
  have t0 := tg0 hg
  have hl := hs0_lt g
  unfold pL_17 pX5_keys pX6_keys
  refine sX2_begin hg hh (fun mI' mR' hm => ?_)
  have key6 : ∀ (Q : Int32 → (Nat → Int32) → (Nat → Nat → Int32) → Prop), (∀ a b c, Q (nI (kf (fun k => (hs0 g).testBit k && bd g r (r 0) 0 (g 3) (hs0 g) 0 (2 ^ k)) (g 1))) oI (K3 oR a b c)) → pX6_findKnown oI oR (fun oI_1 oR_1 => (pX6_houseSet oI_1 oR_1 (fun r1 => (∃ n1 : Nat, bX6_keys_13 r1 Q n1 0 0 oI_1 oR_1)))) := by
    intro Q hQ
    refine fk6 hg ho (fun a b c h1 h2 hk => sX6_houseSet hg hk.1.1.2.1 hk.1.2.2.1 ?_)
    have key : ∀ d i, i + d = g 1 → bX6_keys_13 (nI (hs0 g)) Q (d + 1) (nI (kf (fun k => (hs0 g).testBit k && bd g r (r 0) 0 (g 3) (hs0 g) 0 (2 ^ k)) i)) (nI i) oI (K3 oR a b c) := by
      intro d
      induction d with
      | zero =>
        intro i hi
        have hi : i = g 1 := by omega
        subst hi
        unfold bX6_keys_13
        rw [o1]
        exact pk_le (g 1) (g 1) (fun _ => hQ a b c) (fun c => absurd c (by omega))
      | succ d ih =>
        intro i hi
        have hn := ih (i + 1) (by omega)
        unfold bX6_keys_13
        rw [o1, q_bit1 (lt31 hl (by omega)) (by omega), q_shl1 (by omega), nI_or0, q_or]
        refine pk_le (g 1) i (fun c => absurd c (by omega)) (fun _ => ⟨fun c => ?_, fun c => sX6_losesIt hg hk t0 ⟨fun z => ?_, fun z => ?_⟩⟩)
        · rw [kf_f (by simp [c])] at hn
          exact nm_e (nm_r (nI_1 i) hn)
        · rw [kf_f (by simp [z])] at hn
          exact nm_e (nm_r (nI_1 i) hn)
        · rw [kf_t (by simp [c, z])] at hn
          exact nm_e (nm_r (nI_1 i) hn)
    exact ⟨_, key (g 1) 0 (by omega)⟩
  have key : ∀ d i, i + d = g 1 → bX5_keys_11 sI sR tI tR hI hR (fun r1 mI_1 mR_1 => (pX6_findKnown oI oR (fun oI_1 oR_1 => (pX6_houseSet oI_1 oR_1 (fun r2 => (∃ n1 : Nat, bX6_keys_13 r2 (fun r2 oI_1 oR_1 => ((r1 = r2 → (zIn ko sI sR tI tR hI hR mI_1 mR_1 oI_1 oR_1)) ∧ (¬ r1 = r2 → False))) n1 0 0 oI_1 oR_1)))))) (d + 1) (nI (kf (fun k => (hs0 g).testBit k && bd g r (r 0) 0 (g 3) (hs0 g) 0 (2 ^ k)) i)) (nI i) mI' mR' := by
    intro d
    induction d with
    | zero =>
      intro i hi
      have hi : i = g 1 := by omega
      subst hi
      unfold bX5_keys_11
      rw [e1]
      exact pk_le (g 1) (g 1) (fun _ => key6 _ (fun a b c => fin2 rfl (zK3 hg hh ho hr a b c))) (fun c => absurd c (by omega))
    | succ d ih =>
      intro i hi
      have hn := ih (i + 1) (by omega)
      unfold bX5_keys_11 pX2_isHere
      rw [e1, hm.2.1, q_shl1 (by omega), q_or]
      refine pk_le (g 1) i (fun c => absurd c (by omega)) (fun _ => sX5_contains (lt31 hl (by omega)) (by omega) ⟨fun c => ?_, fun c => sX2_happens (what := 0) hg hh hm t0 (by decide) (Nat.pow_lt_pow_right (by decide) (by omega)) ⟨fun z => ?_, fun z => ?_⟩⟩)
      · have c : (hs0 g).testBit i = false := c
        rw [kf_f (by simp [c])] at hn
        exact nm_r (nI_1 i) hn
      · have z : bd g r (r 0) 0 (g 3) (hs0 g) 0 (2 ^ i) = false := z
        rw [kf_f (by simp [z])] at hn
        exact nm_r (nI_1 i) hn
      · have c : (hs0 g).testBit i = true := c
        have z : bd g r (r 0) 0 (g 3) (hs0 g) 0 (2 ^ i) = true := z
        rw [kf_t (by simp [c, z])] at hn
        exact nm_e (nm_r (nI_1 i) hn)
  exact ⟨_, key (g 1) 0 (by omega)⟩
