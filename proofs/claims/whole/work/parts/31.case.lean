/-! over, sight, tie, guess, put, count -/
theorem sX5_over {g : Nat → Nat} {r : Nat → Nat → Nat} {sI : Nat → Int32} {sR : Nat → Nat → Int32} {tI : Nat → Int32} {tR : Nat → Nat → Int32} {hI : Nat → Int32} {hR : Nat → Nat → Int32} {mI : Nat → Int32} {mR : Nat → Nat → Int32} (hg : HG g r) (hh : HR_ hI hR g r) {x : Int32} {z : Bool} {post : Int32 → (Nat → Int32) → (Nat → Nat → Int32) → (Nat → Int32) → (Nat → Nat → Int32) → Prop} (h1 : (¬ ∃ a, a < g 1 ∧ x = nI a) → post (-1) sI (va_up sR 1 (upd (sR 1) 1 (sR 1 1 + 1))) hI hR) (h2 : ∀ a, a < g 1 → x = nI a → post (if (g 2).testBit a = z then 0 else 1) sI sR (va_up hI 2 (nI (wi z (g 2) a))) hR) : pX5_over x z sI sR tI tR hI hR mI mR post := by
  have b1 := hg.2.1
  have e1 : hI 1 = nI (g 1) := hh.1 1 (by decide)
  unfold pX5_over
  refine sX1_isHand e1 b1 (fun q => ⟨fun c => (by cases c), fun _ => refC (k := 1) (by decide) (by decide) (h1 q)⟩) (fun a ha ea => ⟨fun _ => ?_, fun c => (by cases c)⟩)
  have h3 := h2 a ha ea
  subst ea
  have l1 : g 2 < 2 ^ 31 := lt31 hg.2.2.1 (by omega)
  have l2 : wi z (g 2) a < 2 ^ 31 := wi_lt l1 (by omega)
  rw [hh.1 2 (by decide)]
  refine sX5_with (by omega) ?_
  rw [nI_eq l2 l1, wi_eq]
  constructor
  · intro c; rw [if_neg c] at h3; exact h3
  · intro c; rw [if_pos c] at h3; exact h3
theorem sX6_over {g : Nat → Nat} {r : Nat → Nat → Nat} {oI : Nat → Int32} {oR : Nat → Nat → Int32} (hg : HG g r) (ho : OM oI oR g r) {x : Int32} {z : Bool} {post : Int32 → (Nat → Int32) → (Nat → Nat → Int32) → Prop} (h1 : (¬ ∃ a, a < g 1 ∧ x = nI a) → post (-1) oI (va_up oR 0 (upd (oR 0) 1 (oR 0 1 + 1)))) (h2 : ∀ a, a < g 1 → x = nI a → post (if (g 2).testBit a = z then 0 else 1) oI (if (g 2).testBit a = z then oR else va_up oR 3 (upd (oR 3) a (nI z.toNat)))) : pX6_over x z oI oR post := by
  have b1 := hg.2.1
  have o1 : oI 11 = nI (g 1) := ho.1.1.2.1
  unfold pX6_over
  refine sX6_isHand o1 b1 (fun q => ⟨fun c => (by cases c), fun _ => refM (k := 1) (by decide) (by decide) (h1 q)⟩) (fun a ha ea => ⟨fun _ => ⟨a, ea, by omega, ?_⟩, fun c => (by cases c)⟩)
  have h3 := h2 a ha ea
  subst ea
  have key : bX6_over_29 (nI a) (zb z) (nI ((g 2).testBit a).toNat) oI oR post := by
    unfold bX6_over_29
    rw [zbz]
    by_cases c : (g 2).testBit a = z
    · rw [if_pos c, if_pos c] at h3
      rw [c]
      exact ⟨fun q => absurd rfl q, fun _ => h3⟩
    · rw [if_neg c, if_neg c] at h3
      have c2 : ¬ nI ((g 2).testBit a).toNat = nI z.toNat := by
        rw [nI_eq (by cases (g 2).testBit a <;> decide) (by cases z <;> decide)]
        revert c; cases (g 2).testBit a <;> cases z <;> decide
      refine ⟨fun _ => ?_, fun q => absurd q c2⟩
      cases z with
      | false => exact ⟨fun _ => ⟨a, rfl, by omega, h3⟩, fun q => absurd rfl q⟩
      | true => exact ⟨fun q => absurd q (by decide), fun _ => ⟨a, rfl, by omega, h3⟩⟩
  rw [ho.1.2.2.1 a (by omega)]
  cases hc : (g 2).testBit a with
  | true => rw [hc] at key; exact ⟨fun q => absurd rfl q, fun _ => key⟩
  | false => rw [hc] at key; exact ⟨fun _ => key, fun q => absurd q (by decide)⟩
theorem overZ {g : Nat → Nat} {r : Nat → Nat → Nat} {ko : Option ((Nat → Int32) × (Nat → Nat → Int32))} {sI : Nat → Int32} {sR : Nat → Nat → Int32} {tI : Nat → Int32} {tR : Nat → Nat → Int32} {hI : Nat → Int32} {hR : Nat → Nat → Int32} {mI : Nat → Int32} {mR : Nat → Nat → Int32} {oI : Nat → Int32} {oR : Nat → Nat → Int32} (hg : HG g r) (hh : HR_ hI hR g r) (ho : OM oI oR g r) (hr : RM ko sI sR tI tR oI oR) {a : Nat} (ha : a < g 1) (z : Bool) : zIn ko sI sR tI tR (va_up hI 2 (nI (wi z (g 2) a))) hR mI mR oI (if (g 2).testBit a = z then oR else va_up oR 3 (upd (oR 3) a (nI z.toNat))) := by
  have b1 := hg.2.1
  have eo : (if (g 2).testBit a = z then oR else va_up oR 3 (upd (oR 3) a (nI z.toNat))) = va_up oR 3 (upd (oR 3) a (nI z.toNat)) := by
    by_cases c : (g 2).testBit a = z
    · rw [if_pos c, ← c, ← ho.1.2.2.1 a (by omega), upd_eta, va_eta]
    · rw [if_neg c]
  rw [eo]
  refine ⟨va_up g 2 (wi z (g 2) a), r, ?_, hh.upI 2 _, ?_, hr.same ⟨rfl, rfl, rfl⟩ ⟨rfl, rfl, rfl, rfl⟩⟩
  · obtain ⟨h0, h1, h2, h3⟩ := hg
    exact ⟨h0, h1, wi_lt h2 ha, h3⟩
  · obtain ⟨⟨c0, c1, c2, c3⟩, c4⟩ := ho
    refine ⟨⟨c0, c1, fun q hq => ?_, rows_lo' c3 (by decide) _⟩, c4⟩
    show upd (oR 3) a (nI z.toNat) q = nI ((wi z (g 2) a).testBit q).toNat
    rw [wi_tb]
    by_cases e : q = a
    · subst e; rw [upd_at, if_pos rfl]
    · rw [upd_ne e, if_neg (fun x => e x.symm)]; exact c2 q hq
theorem zc_6 {L : Nat} {xs : Nat → Int32} {i : Nat} (hi : i + 4 ≤ L) {ko : Option ((Nat → Int32) × (Nat → Nat → Int32))} {sI : Nat → Int32} {sR : Nat → Nat → Int32} {tI : Nat → Int32} {tR : Nat → Nat → Int32} {hI : Nat → Int32} {hR : Nat → Nat → Int32} {mI : Nat → Int32} {mR : Nat → Nat → Int32} {oI : Nat → Int32} {oR : Nat → Nat → Int32} (h : zIn ko sI sR tI tR hI hR mI mR oI oR) : pL_6 L xs (nI i) sI sR tI tR hI hR mI mR oI oR (zIn ko) := by
  obtain ⟨g, r, hg, hh, ho, hr⟩ := h
  have b0 := hg.1
  have b1 := hg.2.1
  have e0 : hI 0 = nI (g 0) := hh.1 0 (by decide)
  have e1 : hI 1 = nI (g 1) := hh.1 1 (by decide)
  have o0 : oI 10 = nI (g 0) := ho.1.1.1
  have o1 : oI 11 = nI (g 1) := ho.1.1.2.1
  refine ⟨i + 1, nI_1 i, by omega, i + 2, nI_add i 2, by omega, ?_⟩
  generalize xs (i + 1) = x
  generalize xs (i + 2) = u
  constructor
  · intro c
    refine sX5_over hg hh (fun q => ⟨fun _ => ?_, fun q => absurd c q⟩) (fun a ha ea => ⟨fun _ => ?_, fun q => absurd c q⟩)
    · exact sX6_over hg ho (fun _ => fin2 rfl ⟨g, r, hg, hh, ho.ref _, hr.ref (by decide)⟩) (fun a ha ea => absurd ⟨a, ha, ea⟩ q)
    · refine sX6_over hg ho (fun q => absurd ⟨a, ha, ea⟩ q) (fun a' ha' ea' => ?_)
      rw [ea, nI_eq (by omega) (by omega)] at ea'
      subst ea'
      exact fin2 rfl (overZ hg hh ho hr ha false)
  · intro c
    refine sX5_over hg hh (fun q => ⟨fun q => absurd q c, fun _ => ?_⟩) (fun a ha ea => ⟨fun q => absurd q c, fun _ => ?_⟩)
    · exact sX6_over hg ho (fun _ => fin2 rfl ⟨g, r, hg, hh, ho.ref _, hr.ref (by decide)⟩) (fun a ha ea => absurd ⟨a, ha, ea⟩ q)
    · refine sX6_over hg ho (fun q => absurd ⟨a, ha, ea⟩ q) (fun a' ha' ea' => ?_)
      rw [ea, nI_eq (by omega) (by omega)] at ea'
      subst ea'
      exact fin2 rfl (overZ hg hh ho hr ha true)
-- lists
def hasP (f q : Nat → Nat) (n a b : Nat) : Prop := ∃ k, k < n ∧ f k = a ∧ q k = b
theorem sX3_has {f q : Nat → Nat} {n a b : Nat} (hn : n ≤ 12) {pf ps : Nat → Int32} (hf : ∀ i, i < n → pf i = nI (f i) ∧ f i < 2 ^ 31) (hq : ∀ i, i < n → ps i = nI (q i) ∧ q i < 2 ^ 31) (ha : a < 2 ^ 31) (hb : b < 2 ^ 31) {post : Bool → Prop} (h1 : ¬ hasP f q n a b → post false) (h2 : hasP f q n a b → post true) : pX3_has (nI a) (nI b) (nI n) pf ps post := by
  have key : ∀ d i, i + d = n → ¬ hasP f q i a b → bX3_has_2 (nI a) (nI b) (nI n) pf ps post (d + 1) (nI i) := by
    intro d
    induction d with
    | zero =>
      intro i hi hp
      have hi : i = n := by omega
      subst hi
      unfold bX3_has_2
      exact pk_le i i (fun _ => h1 hp) (fun c => absurd c (by omega))
    | succ d ih =>
      intro i hi hp
      unfold bX3_has_2
      refine pk_le n i (fun c => absurd c (by omega)) (fun _ => ⟨i, rfl, by omega, ?_⟩)
      obtain ⟨f1, f2⟩ := hf i (by omega)
      obtain ⟨q1, q2⟩ := hq i (by omega)
      rw [f1, q1, nI_eq f2 ha, nI_eq q2 hb]
      have nx : ¬ (f i = a ∧ q i = b) → bX3_has_2 (nI a) (nI b) (nI n) pf ps post (d + 1) (nI (i + 1)) := fun c => ih (i + 1) (by omega) (fun ⟨k, k1, k2, k3⟩ => by
        by_cases e : k = i
        · subst e; exact c ⟨k2, k3⟩
        · exact hp ⟨k, by omega, k2, k3⟩)
      exact ⟨fun c => nm_r (nI_1 i) (nx (fun z => c z.1)), fun c => ⟨fun c2 => nm_r (nI_1 i) (nx (fun z => c2 z.2)), fun c2 => h2 ⟨i, by omega, c, c2⟩⟩⟩
  exact ⟨n + 1, key n 0 (by omega) (fun ⟨k, k1, _⟩ => by omega)⟩
theorem sX6_hasSight {f q : Nat → Nat} {n a b : Nat} (hn : n ≤ 12) {oI : Nat → Int32} {oR : Nat → Nat → Int32} (e : oI 12 = nI n) (hf : ∀ i, i < n → oR 4 i = nI (f i) ∧ f i < 2 ^ 31) (hq : ∀ i, i < n → oR 5 i = nI (q i) ∧ q i < 2 ^ 31) (ha : a < 2 ^ 31) (hb : b < 2 ^ 31) {post : Bool → Prop} (h1 : ¬ hasP f q n a b → post false) (h2 : hasP f q n a b → post true) : pX6_hasSight (nI a) (nI b) oI oR post := by
  have key : ∀ d i, i + d = n → ¬ hasP f q i a b → bX6_hasSight_2 (nI a) (nI b) oI oR post (d + 1) (nI i) := by
    intro d
    induction d with
    | zero =>
      intro i hi hp
      have hi : i = n := by omega
      subst hi
      unfold bX6_hasSight_2
      rw [e]
      exact pk_le i i (fun _ => h1 hp) (fun c => absurd c (by omega))
    | succ d ih =>
      intro i hi hp
      unfold bX6_hasSight_2
      rw [e]
      refine pk_le n i (fun c => absurd c (by omega)) (fun _ => ⟨i, rfl, by omega, ?_⟩)
      obtain ⟨f1, f2⟩ := hf i (by omega)
      obtain ⟨q1, q2⟩ := hq i (by omega)
      rw [f1, q1, nI_eq f2 ha, nI_eq q2 hb]
      have nx : ¬ (f i = a ∧ q i = b) → bX6_hasSight_2 (nI a) (nI b) oI oR post (d + 1) (nI (i + 1)) := fun c => ih (i + 1) (by omega) (fun ⟨k, k1, k2, k3⟩ => by
        by_cases e : k = i
        · subst e; exact c ⟨k2, k3⟩
        · exact hp ⟨k, by omega, k2, k3⟩)
      exact ⟨fun c => nm_r (nI_1 i) (nx (fun z => c z.1)), fun c => ⟨fun c2 => nm_r (nI_1 i) (nx (fun z => c2 z.2)), fun c2 => h2 ⟨i, by omega, c, c2⟩⟩⟩
  exact ⟨n + 1, key n 0 (by omega) (fun ⟨k, k1, _⟩ => by omega)⟩
theorem sX3_full {n : Nat} (hn : n ≤ 12) {pf ps : Nat → Int32} {post : Bool → Prop} (h1 : n < 12 → post false) (h2 : n = 12 → post true) : pX3_isFull (nI n) pf ps post := pk_lt n 12 h1 (fun c => h2 (by omega))
theorem sX3_add {n : Nat} (hn : n < 12) {x y : Int32} {pf ps : Nat → Int32} {post : Int32 → (Nat → Int32) → (Nat → Int32) → Prop} (h : post (nI (n + 1)) (upd pf n x) (upd ps n y)) : pX3_add x y (nI n) pf ps post := pk_le 12 n (fun c => absurd c (by omega)) (fun _ => ⟨n, rfl, hn, nm_r (nI_1 n) h⟩)
theorem pr_add {P : Nat → Nat → Prop} {f q : Nat → Nat} {n x y : Nat} (h : ∀ i, i < n → P (f i) (q i)) (hn : P x y) : ∀ i, i < n + 1 → P (va_up f n x i) (va_up q n y i) := by
  intro i hi
  by_cases e : i = n
  · subst e; rw [va_at', va_at']; exact hn
  · rw [va_ne' _ _ e, va_ne' _ _ e]; exact h i (by omega)
theorem sightZ {g : Nat → Nat} {r : Nat → Nat → Nat} {ko : Option ((Nat → Int32) × (Nat → Nat → Int32))} {sI : Nat → Int32} {sR : Nat → Nat → Int32} {tI : Nat → Int32} {tR : Nat → Nat → Int32} {hI : Nat → Int32} {hR : Nat → Nat → Int32} {mI : Nat → Int32} {mR : Nat → Nat → Int32} {oI : Nat → Int32} {oR : Nat → Nat → Int32} (hg : HG g r) (hh : HR_ hI hR g r) (ho : OM oI oR g r) (hr : RM ko sI sR tI tR oI oR) (hn : g 4 < 12) {a b : Nat} (ha : a < g 1) (hb : b < g 1) : zIn ko sI sR tI tR (va_up hI 4 (nI (g 4 + 1))) (va_up (va_up hR 2 (upd (hR 2) (g 4) (nI a))) 3 (upd (hR 3) (g 4) (nI b))) mI mR (va_up oI 12 (nI (g 4 + 1))) (va_up (va_up oR 4 (upd (oR 4) (g 4) (nI a))) 5 (upd (oR 5) (g 4) (nI b))) := by
  refine ⟨va_up g 4 (g 4 + 1), va_up (va_up r 2 (va_up (r 2) (g 4) a)) 3 (va_up (r 3) (g 4) b), ?_, ((hh.upI 4 (g 4 + 1)).upR 2 (g 4) a).upR 3 (g 4) b, ?_, hr.same ⟨rfl, rfl, rfl⟩ ⟨rfl, rfl, rfl, rfl⟩⟩
  · obtain ⟨h0, h1, h2, h3, h4, h5, h6, h7, h8, h9, h10⟩ := hg
    exact ⟨h0, h1, h2, h3, hn, h5, h6, h7, pr_add (P := fun x y => x < g 1 ∧ y < g 1) h8 ⟨ha, hb⟩, h9, h10⟩
  · obtain ⟨⟨⟨a0, a1, a2, a3, a4, a5, a6⟩, c1, c2, c3⟩, c4⟩ := ho
    exact ⟨⟨⟨a0, a1, rfl, a3, a4, a5, a6⟩, c1, c2, rows_up (rows_up c3 2 (g 4) a) 3 (g 4) b⟩, c4⟩
theorem tieZ {g : Nat → Nat} {r : Nat → Nat → Nat} {ko : Option ((Nat → Int32) × (Nat → Nat → Int32))} {sI : Nat → Int32} {sR : Nat → Nat → Int32} {tI : Nat → Int32} {tR : Nat → Nat → Int32} {hI : Nat → Int32} {hR : Nat → Nat → Int32} {mI : Nat → Int32} {mR : Nat → Nat → Int32} {oI : Nat → Int32} {oR : Nat → Nat → Int32} (hg : HG g r) (hh : HR_ hI hR g r) (ho : OM oI oR g r) (hr : RM ko sI sR tI tR oI oR) (hn : g 5 < 12) {a b : Nat} (ha : a < g 1) (hb : b < g 1) : zIn ko sI sR tI tR (va_up hI 5 (nI (g 5 + 1))) (va_up (va_up hR 4 (upd (hR 4) (g 5) (nI a))) 5 (upd (hR 5) (g 5) (nI b))) mI mR (va_up oI 13 (nI (g 5 + 1))) (va_up (va_up oR 6 (upd (oR 6) (g 5) (nI a))) 7 (upd (oR 7) (g 5) (nI b))) := by
  refine ⟨va_up g 5 (g 5 + 1), va_up (va_up r 4 (va_up (r 4) (g 5) a)) 5 (va_up (r 5) (g 5) b), ?_, ((hh.upI 5 (g 5 + 1)).upR 4 (g 5) a).upR 5 (g 5) b, ?_, hr.same ⟨rfl, rfl, rfl⟩ ⟨rfl, rfl, rfl, rfl⟩⟩
  · obtain ⟨h0, h1, h2, h3, h4, h5, h6, h7, h8, h9, h10⟩ := hg
    exact ⟨h0, h1, h2, h3, h4, hn, h6, h7, h8, pr_add (P := fun x y => x < g 1 ∧ y < g 1) h9 ⟨ha, hb⟩, h10⟩
  · obtain ⟨⟨⟨a0, a1, a2, a3, a4, a5, a6⟩, c1, c2, c3⟩, c4⟩ := ho
    exact ⟨⟨⟨a0, a1, a2, rfl, a4, a5, a6⟩, c1, c2, rows_up (rows_up c3 4 (g 5) a) 5 (g 5) b⟩, c4⟩
theorem guessZ {g : Nat → Nat} {r : Nat → Nat → Nat} {ko : Option ((Nat → Int32) × (Nat → Nat → Int32))} {sI : Nat → Int32} {sR : Nat → Nat → Int32} {tI : Nat → Int32} {tR : Nat → Nat → Int32} {hI : Nat → Int32} {hR : Nat → Nat → Int32} {mI : Nat → Int32} {mR : Nat → Nat → Int32} {oI : Nat → Int32} {oR : Nat → Nat → Int32} (hg : HG g r) (hh : HR_ hI hR g r) (ho : OM oI oR g r) (hr : RM ko sI sR tI tR oI oR) (hn : g 6 < 12) {a b : Nat} (ha : a < 2 ^ (g 0)) (hb : b < g 0) : zIn ko sI sR tI tR (va_up hI 6 (nI (g 6 + 1))) (va_up (va_up hR 6 (upd (hR 6) (g 6) (nI a))) 7 (upd (hR 7) (g 6) (nI b))) mI mR (va_up oI 14 (nI (g 6 + 1))) (va_up (va_up oR 8 (upd (oR 8) (g 6) (nI a))) 9 (upd (oR 9) (g 6) (nI b))) := by
  refine ⟨va_up g 6 (g 6 + 1), va_up (va_up r 6 (va_up (r 6) (g 6) a)) 7 (va_up (r 7) (g 6) b), ?_, ((hh.upI 6 (g 6 + 1)).upR 6 (g 6) a).upR 7 (g 6) b, ?_, hr.same ⟨rfl, rfl, rfl⟩ ⟨rfl, rfl, rfl, rfl⟩⟩
  · obtain ⟨h0, h1, h2, h3, h4, h5, h6, h7, h8, h9, h10⟩ := hg
    exact ⟨h0, h1, h2, h3, h4, h5, hn, h7, h8, h9, pr_add (P := fun x y => x < 2 ^ (g 0) ∧ y < g 0) h10 ⟨ha, hb⟩⟩
  · obtain ⟨⟨⟨a0, a1, a2, a3, a4, a5, a6⟩, c1, c2, c3⟩, c4⟩ := ho
    exact ⟨⟨⟨a0, a1, a2, a3, rfl, a5, a6⟩, c1, c2, rows_up (rows_up c3 6 (g 6) a) 7 (g 6) b⟩, c4⟩
theorem pk_full {n : Nat} (hn : n ≤ 12) {A B : Prop} (f : n < 12 → A) (q : n = 12 → B) : (¬ nI n = 12 → A) ∧ (nI n = 12 → B) := And.comm.mp (pk_eq n 12 q (fun c => f (by omega)))
theorem zc_7 {L : Nat} {xs : Nat → Int32} {i : Nat} (hi : i + 4 ≤ L) {ko : Option ((Nat → Int32) × (Nat → Nat → Int32))} {sI : Nat → Int32} {sR : Nat → Nat → Int32} {tI : Nat → Int32} {tR : Nat → Nat → Int32} {hI : Nat → Int32} {hR : Nat → Nat → Int32} {mI : Nat → Int32} {mR : Nat → Nat → Int32} {oI : Nat → Int32} {oR : Nat → Nat → Int32} (h : zIn ko sI sR tI tR hI hR mI mR oI oR) : pL_7 L xs (nI i) sI sR tI tR hI hR mI mR oI oR (zIn ko) := by
  obtain ⟨g, r, hg, hh, ho, hr⟩ := h
  have b0 := hg.1
  have b1 := hg.2.1
  have e0 : hI 0 = nI (g 0) := hh.1 0 (by decide)
  have e1 : hI 1 = nI (g 1) := hh.1 1 (by decide)
  have o0 : oI 10 = nI (g 0) := ho.1.1.1
  have o1 : oI 11 = nI (g 1) := ho.1.1.2.1
  refine ⟨i + 1, nI_1 i, by omega, i + 2, nI_add i 2, by omega, ?_⟩
  generalize xs (i + 1) = x
  generalize xs (i + 2) = y
  have b4 := hg.2.2.2.2.1
  unfold pX5_sight pX6_sight
  refine sX1_two e1 b1 (fun q => ⟨fun c => (by cases c), fun _ => refC (k := 1) (by decide) (by decide) ?_⟩) (fun q => ⟨fun _ => ?_, fun c => (by cases c)⟩)
  · exact sX6_two o1 b1 (fun _ => ⟨fun c => (by cases c), fun _ => refM (k := 1) (by decide) (by decide) (fin2 rfl ⟨g, r, hg, hh, ho.ref _, hr.ref (by decide)⟩)⟩) (fun z => absurd z q)
  have o2 : ∀ P : Bool → Prop, P true → pX6_areTwo x y oI oR P := fun P hp => sX6_two o1 b1 (fun z => absurd q z) (fun _ => hp)
  obtain ⟨a, b, ha, hb, hab, ea, eb⟩ := q
  subst ea; subst eb
  have sg := hg.2.2.2.2.2.2.2.2.1
  have q1 : ∀ P : Bool → Prop, (¬ hasP (r 2) (r 3) (g 4) a b → P false) → (hasP (r 2) (r 3) (g 4) a b → P true) → pX3_has (nI a) (nI b) (hI 4) (hR 2) (hR 3) P := fun P p1 p2 => by
    rw [hh.1 4 (by decide)]
    exact sX3_has b4 (fun k hk => ⟨hh.2.2 2 (by decide) (by decide) k (by omega), by have := sg k hk; omega⟩) (fun k hk => ⟨hh.2.2 3 (by decide) (by decide) k (by omega), by have := sg k hk; omega⟩) (by omega) (by omega) p1 p2
  have q2 : ∀ P : Bool → Prop, (¬ hasP (r 2) (r 3) (g 4) a b → P false) → (hasP (r 2) (r 3) (g 4) a b → P true) → pX6_hasSight (nI a) (nI b) oI oR P := fun P p1 p2 => sX6_hasSight b4 ho.1.1.2.2.1 (fun k hk => ⟨ho.1.2.2.2 2 (by decide) (by decide) k (by omega), by have := sg k hk; omega⟩) (fun k hk => ⟨ho.1.2.2.2 3 (by decide) (by decide) k (by omega), by have := sg k hk; omega⟩) (by omega) (by omega) p1 p2
  refine q1 _ (fun z => ⟨fun _ => ?_, fun c => (by cases c)⟩) (fun z => ⟨fun c => (by cases c), fun _ => refC (k := 3) (by decide) (by decide) (o2 _ ⟨fun _ => q2 _ (fun z2 => absurd z z2) (fun _ => ⟨fun c => (by cases c), fun _ => refM (k := 3) (by decide) (by decide) (fin2 rfl ⟨g, r, hg, hh, ho.ref _, hr.ref (by decide)⟩)⟩), fun c => (by cases c)⟩)⟩)
  rw [hh.1 4 (by decide), ho.1.1.2.2.1]
  refine sX3_full b4 (fun c4 => ⟨fun _ => sX3_add c4 (o2 _ ⟨fun _ => q2 _ (fun _ => ⟨fun _ => ?_, fun c => (by cases c)⟩) (fun z2 => absurd z2 z), fun c => (by cases c)⟩), fun c => (by cases c)⟩) (fun c4 => ⟨fun c => (by cases c), fun _ => refC (k := 6) (by decide) (by decide) (o2 _ ⟨fun _ => q2 _ (fun _ => ⟨fun _ => pk_full b4 (fun c => absurd c4 (by omega)) (fun _ => refM (k := 6) (by decide) (by decide) (fin2 rfl ⟨g, r, hg, hh, ho.ref _, hr.ref (by decide)⟩)), fun c => (by cases c)⟩) (fun z2 => absurd z2 z), fun c => (by cases c)⟩)⟩)
  refine pk_full b4 (fun _ => ?_) (fun c => absurd c (by omega))
  unfold pX6_comesSight
  rw [ho.1.1.2.2.1]
  exact ⟨g 4, rfl, c4, nm_r (nI_1 _) (fin2 rfl (sightZ hg hh ho hr c4 ha hb))⟩
theorem zc_8 {L : Nat} {xs : Nat → Int32} {i : Nat} (hi : i + 4 ≤ L) {ko : Option ((Nat → Int32) × (Nat → Nat → Int32))} {sI : Nat → Int32} {sR : Nat → Nat → Int32} {tI : Nat → Int32} {tR : Nat → Nat → Int32} {hI : Nat → Int32} {hR : Nat → Nat → Int32} {mI : Nat → Int32} {mR : Nat → Nat → Int32} {oI : Nat → Int32} {oR : Nat → Nat → Int32} (h : zIn ko sI sR tI tR hI hR mI mR oI oR) : pL_8 L xs (nI i) sI sR tI tR hI hR mI mR oI oR (zIn ko) := by
  obtain ⟨g, r, hg, hh, ho, hr⟩ := h
  have b0 := hg.1
  have b1 := hg.2.1
  have e0 : hI 0 = nI (g 0) := hh.1 0 (by decide)
  have e1 : hI 1 = nI (g 1) := hh.1 1 (by decide)
  have o0 : oI 10 = nI (g 0) := ho.1.1.1
  have o1 : oI 11 = nI (g 1) := ho.1.1.2.1
  refine ⟨i + 1, nI_1 i, by omega, i + 2, nI_add i 2, by omega, ?_⟩
  generalize xs (i + 1) = x
  generalize xs (i + 2) = y
  have b5 := hg.2.2.2.2.2.1
  unfold pX5_tie pX6_tie
  refine sX1_two e1 b1 (fun q => ⟨fun c => (by cases c), fun _ => refC (k := 1) (by decide) (by decide) ?_⟩) (fun q => ⟨fun _ => ?_, fun c => (by cases c)⟩)
  · exact sX6_two o1 b1 (fun _ => ⟨fun c => (by cases c), fun _ => refM (k := 1) (by decide) (by decide) (fin2 rfl ⟨g, r, hg, hh, ho.ref _, hr.ref (by decide)⟩)⟩) (fun z => absurd z q)
  have o2 : ∀ P : Bool → Prop, P true → pX6_areTwo x y oI oR P := fun P hp => sX6_two o1 b1 (fun z => absurd q z) (fun _ => hp)
  obtain ⟨a, b, ha, hb, hab, ea, eb⟩ := q
  subst ea; subst eb
  rw [hh.1 5 (by decide), ho.1.1.2.2.2.1]
  refine sX3_full b5 (fun c4 => ⟨fun _ => sX3_add c4 (o2 _ ⟨fun _ => ?_, fun c => (by cases c)⟩), fun c => (by cases c)⟩) (fun c4 => ⟨fun c => (by cases c), fun _ => refC (k := 6) (by decide) (by decide) (o2 _ ⟨fun _ => pk_full b5 (fun c => absurd c4 (by omega)) (fun _ => refM (k := 6) (by decide) (by decide) (fin2 rfl ⟨g, r, hg, hh, ho.ref _, hr.ref (by decide)⟩)), fun c => (by cases c)⟩)⟩)
  refine pk_full b5 (fun _ => ?_) (fun c => absurd c (by omega))
  unfold pX6_comesTie
  rw [ho.1.1.2.2.2.1]
  exact ⟨g 5, rfl, c4, nm_r (nI_1 _) (fin2 rfl (tieZ hg hh ho hr c4 ha hb))⟩
