/-! simple calls -/
theorem fin2 {a b : Int32} {A : Prop} (e : a = b) (h : A) : (a = b → A) ∧ (¬ a = b → False) := ⟨fun _ => h, fun c => c e⟩
theorem updN {f : Nat → Int32} {q : Nat → Nat} {n j v : Nat} (h : ∀ i, i < n → f i = nI (q i)) : ∀ i, i < n → upd f j (nI v) i = nI (va_up q j v i) := by
  intro i hi
  by_cases e : i = j
  · subst e; rw [upd_at, va_at']
  · rw [upd_ne e, va_ne' _ _ e]; exact h i hi
theorem HR_.upI {hI : Nat → Int32} {hR : Nat → Nat → Int32} {g : Nat → Nat} {r : Nat → Nat → Nat} (h : HR_ hI hR g r) (k v : Nat) : HR_ (va_up hI k (nI v)) hR (va_up g k v) r := by
  refine ⟨fun j hj => ?_, h.2⟩
  by_cases e : j = k
  · subst e; rw [va_at', va_at']
  · rw [va_ne' _ _ e, va_ne' _ _ e]; exact h.1 j hj
theorem HR_.upR {hI : Nat → Int32} {hR : Nat → Nat → Int32} {g : Nat → Nat} {r : Nat → Nat → Nat} (h : HR_ hI hR g r) (k j v : Nat) : HR_ hI (va_up hR k (upd (hR k) j (nI v))) g (va_up r k (va_up (r k) j v)) := by
  refine ⟨h.1, fun q hq => ?_, fun q h1 h2 => ?_⟩
  · by_cases e : q = k
    · subst e; rw [va_at', va_at']; exact updN (h.2.1 q hq)
    · rw [va_ne' _ _ e, va_ne' _ _ e]; exact h.2.1 q hq
  · by_cases e : q = k
    · subst e; rw [va_at', va_at']; exact updN (h.2.2 q h1 h2)
    · rw [va_ne' _ _ e, va_ne' _ _ e]; exact h.2.2 q h1 h2
/-- the reference's row k + 2 -/
theorem rows_up {oR : Nat → Nat → Int32} {r : Nat → Nat → Nat} (h : ∀ k, 2 ≤ k → k < 8 → ∀ i, i < 12 → oR (k + 2) i = nI (r k i)) (k j v : Nat) : ∀ q, 2 ≤ q → q < 8 → ∀ i, i < 12 → va_up oR (k + 2) (upd (oR (k + 2)) j (nI v)) (q + 2) i = nI (va_up r k (va_up (r k) j v) q i) := by
  intro q h1 h2
  by_cases e : q = k
  · subst e; rw [va_at', va_at']; exact updN (h q h1 h2)
  · rw [va_ne' _ _ (by omega), va_ne' _ _ e]; exact h q h1 h2
theorem rows_lo {oR : Nat → Nat → Int32} {r : Nat → Nat → Nat} (h : ∀ k, 2 ≤ k → k < 8 → ∀ i, i < 12 → oR (k + 2) i = nI (r k i)) {a b : Nat} (ha : a < 4) (hb : b < 2) (x : Nat → Int32) (y : Nat → Nat) : ∀ q, 2 ≤ q → q < 8 → ∀ i, i < 12 → va_up oR a x (q + 2) i = nI (va_up r b y q i) := by
  intro q h1 h2
  rw [va_ne' _ _ (by omega), va_ne' _ _ (by omega)]; exact h q h1 h2
theorem rows_lo' {oR : Nat → Nat → Int32} {r : Nat → Nat → Nat} (h : ∀ k, 2 ≤ k → k < 8 → ∀ i, i < 12 → oR (k + 2) i = nI (r k i)) {a : Nat} (ha : a < 4) (x : Nat → Int32) : ∀ q, 2 ≤ q → q < 8 → ∀ i, i < 12 → va_up oR a x (q + 2) i = nI (r q i) := by
  intro q h1 h2
  rw [va_ne' _ _ (by omega)]; exact h q h1 h2
theorem rgT {n j : Nat} {N x : Int32} {A B : Prop} (eN : N = nI n) (hn : n < 2 ^ 31) (hj : j < n) (e : x = nI j) (hb : B) : ((x < 0 → A) ∧ (¬ x < 0 → ((N ≤ x → A) ∧ (¬ N ≤ x → B)))) := by
  subst eN; subst e
  exact ⟨fun c => absurd c (nI_pos (by omega)), fun _ => ⟨fun c => absurd c (nI_ge hj hn), fun _ => hb⟩⟩
theorem rgF {n : Nat} {N x : Int32} {A B : Prop} (eN : N = nI n) (hn : n < 2 ^ 31) (h : ¬ ∃ j, j < n ∧ x = nI j) (ha : A) : ((x < 0 → A) ∧ (¬ x < 0 → ((N ≤ x → A) ∧ (¬ N ≤ x → B)))) := by
  subst eN
  refine ⟨fun _ => ha, fun c => ⟨fun _ => ha, fun c2 => absurd ?_ h⟩⟩
  obtain ⟨j, j1, j2⟩ := nI_of c
  subst j2
  rw [nI_leI hn j1] at c2
  exact ⟨j, by omega, rfl⟩
theorem stp {n : Nat} (hn : n < 31) (x : Int32) : (x >>> (nI n &&& 31) = 0) ↔ ∃ j, j < 2 ^ n ∧ x = nI j := by
  by_cases c : x < 0
  · constructor
    · intro h
      have h1 := pk_shr x (nI n &&& 31) n (q_sm n (by omega))
      rw [h] at h1
      have h2 : x.toInt < 0 := by simpa using Int32.lt_iff_toInt_lt.mp c
      rw [Int.shiftRight_eq_div_pow] at h1
      have h3 : x.toInt / ((2 ^ n : Nat) : Int) * ((2 ^ n : Nat) : Int) ≤ x.toInt := Int.ediv_mul_le _ (by have := Nat.two_pow_pos n; omega)
      rw [← h1] at h3
      simp at h3
      omega
    · rintro ⟨j, h1, h2⟩
      subst h2
      exact absurd c (nI_pos (lt31 h1 (by omega)))
  · obtain ⟨a, a1, a2⟩ := nI_of c
    subst a2
    rw [q_shr a1 (by omega), Nat.shiftRight_eq_div_pow, nI_z (Nat.lt_of_le_of_lt (Nat.div_le_self _ _) a1)]
    constructor
    · intro h
      exact ⟨a, by
        have := (Nat.div_eq_zero_iff).mp h
        rcases this with z | z
        · exact absurd z (by have := Nat.two_pow_pos n; omega)
        · exact z, rfl⟩
    · rintro ⟨j, h1, h2⟩
      rw [nI_eq a1 (lt31 h1 (by omega))] at h2
      subst h2
      exact Nat.div_eq_of_lt h1
theorem sX1_isStepSet {g : Nat → Nat} {hI : Nat → Int32} {hR : Nat → Nat → Int32} (e0 : hI 0 = nI (g 0)) (b0 : g 0 ≤ 10) {x : Int32} {post : Bool → Prop} (h1 : (¬ ∃ j, j < 2 ^ (g 0) ∧ x = nI j) → post false) (h2 : ∀ j, j < 2 ^ (g 0) → x = nI j → post true) : pX1_isStepSet x hI hR post := by
  unfold pX1_isStepSet
  rw [e0, stp (by omega)]
  exact ⟨h1, fun ⟨j, a, b⟩ => h2 j a b⟩
theorem sX6_isSet {g : Nat → Nat} {oI : Nat → Int32} {oR : Nat → Nat → Int32} (e0 : oI 10 = nI (g 0)) (b0 : g 0 ≤ 10) {x : Int32} {post : Bool → Prop} (h1 : (¬ ∃ j, j < 2 ^ (g 0) ∧ x = nI j) → post false) (h2 : ∀ j, j < 2 ^ (g 0) → x = nI j → post true) : pX6_isSet x oI oR post := by
  unfold pX6_isSet pX6_all
  rw [e0, q_all (by omega)]
  refine ⟨fun c => h1 (fun ⟨j, a, b⟩ => ?_), fun c => ?_⟩
  · subst b; exact nI_pos (lt31 a (by omega)) c
  · obtain ⟨a, a1, a2⟩ := nI_of c
    subst a2
    rw [q_nd0 a1]
    refine ⟨fun q => h1 (fun ⟨j, j1, j2⟩ => q ?_), fun q => ?_⟩
    · rw [nI_eq a1 (lt31 j1 (by omega))] at j2
      subst j2; exact sb_all j1
    · refine h2 a (lt_tb (fun i hi => ?_)) rfl
      have := q i hi
      rw [tb_all, decide_eq_true_eq] at this
      exact this
theorem HG.of {g g' : Nat → Nat} {r r' : Nat → Nat → Nat} (h : HG g r) (e : ∀ k, k < 7 → g' k = g k) (e2 : ∀ k, k < 8 → r' k = r k) : HG g' r' := by
  unfold HG at h ⊢
  rw [e 0 (by decide), e 1 (by decide), e 2 (by decide), e 3 (by decide), e 4 (by decide), e 5 (by decide), e 6 (by decide), e2 0 (by decide), e2 1 (by decide), e2 2 (by decide), e2 3 (by decide), e2 4 (by decide), e2 5 (by decide), e2 6 (by decide), e2 7 (by decide)]
  exact h
theorem zc_3 {L : Nat} {xs : Nat → Int32} {i : Nat} (hi : i + 4 ≤ L) {ko : Option ((Nat → Int32) × (Nat → Nat → Int32))} {sI : Nat → Int32} {sR : Nat → Nat → Int32} {tI : Nat → Int32} {tR : Nat → Nat → Int32} {hI : Nat → Int32} {hR : Nat → Nat → Int32} {mI : Nat → Int32} {mR : Nat → Nat → Int32} {oI : Nat → Int32} {oR : Nat → Nat → Int32} (h : zIn ko sI sR tI tR hI hR mI mR oI oR) : pL_3 L xs (nI i) sI sR tI tR hI hR mI mR oI oR (zIn ko) := by
  obtain ⟨g, r, hg, hh, ho, hr⟩ := h
  have b0 := hg.1
  have b1 := hg.2.1
  have e0 : hI 0 = nI (g 0) := hh.1 0 (by decide)
  have e1 : hI 1 = nI (g 1) := hh.1 1 (by decide)
  have o0 : oI 10 = nI (g 0) := ho.1.1.1
  have o1 : oI 11 = nI (g 1) := ho.1.1.2.1
  refine ⟨i + 1, nI_1 i, by omega, ?_⟩
  generalize xs (i + 1) = x
  unfold pX5_hand
  refine sX1_isStepSet e0 b0.2 (fun hx => ?_) (fun j hj ex => ?_)
  · refine ⟨fun c => (by cases c), fun _ => refC (k := 1) (by decide) (by decide) ?_⟩
    unfold pX6_hand
    refine sX6_isSet o0 b0.2 (fun _ => ⟨fun c => (by cases c), fun _ => refM (k := 1) (by decide) (by decide) (fin2 rfl ⟨g, r, hg, hh, ho.ref _, hr.ref (by decide)⟩)⟩) (fun j a b => absurd ⟨j, a, b⟩ hx)
  · subst ex
    refine ⟨fun _ => ?_, fun c => (by cases c)⟩
    rw [e1]
    refine pk_lt (g 1) 8 (fun c => ?_) (fun c => refC (k := 6) (by decide) (by decide) ?_)
    · unfold pX1_addHand
      rw [e1]
      refine pk_le 8 (g 1) (fun c2 => absurd c2 (by omega)) (fun _ => ⟨g 1, rfl, c, ?_⟩)
      refine nm_r (nI_1 (g 1)) ?_
      unfold pX6_hand
      refine sX6_isSet o0 b0.2 (fun q => absurd ⟨j, hj, rfl⟩ q) (fun _ _ _ => ⟨fun _ => ?_, fun c => (by cases c)⟩)
      rw [o1]
      refine And.comm.mp (pk_eq (g 1) 8 (fun c2 => absurd c2 (by omega)) (fun _ => ?_))
      unfold pX6_comesHand
      rw [o1]
      refine ⟨g 1, rfl, c, nm_r (nI_1 (g 1)) (fin2 rfl ?_)⟩
      refine ⟨va_up g 1 (g 1 + 1), va_up (va_up r 0 (va_up (r 0) (g 1) j)) 1 (va_up (r 1) (g 1) 5), ?_, ?_, ?_, ?_⟩
      · obtain ⟨h0, h1, h2, h3, h4, h5, h6, h7, h8, h9, h10⟩ := hg
        refine ⟨h0, by show g 1 + 1 ≤ 8; omega, Nat.lt_of_lt_of_le h2 (Nat.pow_le_pow_right (by decide) (by show g 1 ≤ g 1 + 1; omega)), h3, h4, h5, h6, fun q hq => ?_, fun q hq => ?_, fun q hq => ?_, h10⟩
        · have hq : q < g 1 + 1 := hq
          show va_up (r 0) (g 1) j q < 2 ^ (g 0) ∧ va_up (r 1) (g 1) 5 q ≤ 100
          by_cases e : q = g 1
          · subst e; rw [va_at', va_at']; exact ⟨hj, by decide⟩
          · rw [va_ne' _ _ e, va_ne' _ _ e]; exact h7 q (by omega)
        · have := h8 q hq
          show r 2 q < g 1 + 1 ∧ r 3 q < g 1 + 1
          omega
        · have := h9 q hq
          show r 4 q < g 1 + 1 ∧ r 5 q < g 1 + 1
          omega
      · have s1 := hh.upI 1 (g 1 + 1)
        have s2 := (s1.upR 0 (g 1) j).upR 1 (g 1) 5
        exact s2
      · obtain ⟨⟨⟨a0, a1, a2, a3, a4, a5, a6⟩, c1, c2, c3⟩, c4⟩ := ho
        refine ⟨⟨⟨a0, rfl, a2, a3, a4, a5, a6⟩, updN c1, fun q hq => ?_, ?_⟩, updN c4⟩
        · show upd (oR 3) (g 1) 0 q = nI ((g 2).testBit q).toNat
          by_cases e : q = g 1
          · subst e; rw [upd_at, tb_lt hg.2.2.1 (Nat.le_refl _)]; rfl
          · rw [upd_ne e]; exact c2 q hq
        · have k1 := rows_lo (rows_lo (rows_lo' c3 (a := 3) (by decide) (upd (oR 3) (g 1) 0)) (a := 1) (b := 0) (by decide) (by decide) (upd (oR 1) (g 1) (nI j)) (va_up (r 0) (g 1) j)) (a := 2) (b := 1) (by decide) (by decide) (upd (oR 2) (g 1) 5) (va_up (r 1) (g 1) 5)
          intro q h1 h2 z hz
          have := k1 q h1 h2 z hz
          rw [va_ne' _ _ (by omega), va_ne' _ _ (by omega), va_ne' _ _ (by omega)] at this ⊢
          exact this
      · exact hr.same ⟨rfl, rfl, rfl⟩ ⟨rfl, rfl, rfl, rfl⟩
    · unfold pX6_hand
      refine sX6_isSet o0 b0.2 (fun q => absurd ⟨j, hj, rfl⟩ q) (fun _ _ _ => ⟨fun _ => ?_, fun c => (by cases c)⟩)
      rw [o1]
      refine And.comm.mp (pk_eq (g 1) 8 (fun _ => ?_) (fun c2 => absurd (show g 1 = 8 by omega) c2))
      exact refM (k := 6) (by decide) (by decide) (fin2 rfl ⟨g, r, hg, hh, ho.ref _, hr.ref (by decide)⟩)
