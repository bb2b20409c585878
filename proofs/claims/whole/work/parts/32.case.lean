/-! guess, put, count -/
theorem zc_9 {L : Nat} {xs : Nat → Int32} {i : Nat} (hi : i + 4 ≤ L) {ko : Option ((Nat → Int32) × (Nat → Nat → Int32))} {sI : Nat → Int32} {sR : Nat → Nat → Int32} {tI : Nat → Int32} {tR : Nat → Nat → Int32} {hI : Nat → Int32} {hR : Nat → Nat → Int32} {mI : Nat → Int32} {mR : Nat → Nat → Int32} {oI : Nat → Int32} {oR : Nat → Nat → Int32} (h : zIn ko sI sR tI tR hI hR mI mR oI oR) : pL_9 L xs (nI i) sI sR tI tR hI hR mI mR oI oR (zIn ko) := by
  obtain ⟨g, r, hg, hh, ho, hr⟩ := h
  have b0 := hg.1
  have b1 := hg.2.1
  have e0 : hI 0 = nI (g 0) := hh.1 0 (by decide)
  have e1 : hI 1 = nI (g 1) := hh.1 1 (by decide)
  have o0 : oI 10 = nI (g 0) := ho.1.1.1
  have o1 : oI 11 = nI (g 1) := ho.1.1.2.1
  refine ⟨i + 1, nI_1 i, by omega, i + 2, nI_add i 2, by omega, ?_⟩
  generalize xs (i + 1) = x
  generalize xs (i + 2) = y
  have b6 := hg.2.2.2.2.2.2.1
  have zz : ∀ P : Prop, P → P := fun _ p => p
  have fr : zIn ko sI (va_up sR 1 (upd (sR 1) 1 (sR 1 1 + 1))) tI tR hI hR mI mR oI (va_up oR 0 (upd (oR 0) 1 (oR 0 1 + 1))) := ⟨g, r, hg, hh, ho.ref _, hr.ref (by decide)⟩
  unfold pX5_guess pX6_guess
  refine sX1_isStepSet e0 b0.2 (fun q => ⟨fun _ => refC (k := 1) (by decide) (by decide) ?_, fun c => (by cases c)⟩) (fun a ha ea => ⟨fun c => (by cases c), fun _ => ?_⟩)
  · exact sX6_isSet o0 b0.2 (fun _ => ⟨fun _ => refM (k := 1) (by decide) (by decide) (fin2 rfl fr), fun c => (by cases c)⟩) (fun a ha ea => absurd ⟨a, ha, ea⟩ q)
  have o2 : ∀ P : Bool → Prop, P true → pX6_isSet x oI oR P := fun P hp => sX6_isSet o0 b0.2 (fun q => absurd ⟨a, ha, ea⟩ q) (fun _ _ _ => hp)
  refine ⟨fun c => refC (k := 1) (by decide) (by decide) (o2 _ ⟨fun c => (by cases c), fun _ => ⟨fun _ => refM (k := 1) (by decide) (by decide) (fin2 rfl fr), fun q => absurd c q⟩⟩), fun c => ?_⟩
  refine sX1_isStep e0 b0.2 (fun q => ⟨fun _ => refC (k := 1) (by decide) (by decide) (o2 _ ⟨fun c => (by cases c), fun _ => ⟨fun q => absurd q c, fun _ => ?_⟩⟩), fun c => (by cases c)⟩) (fun j hj ej => ⟨fun c => (by cases c), fun _ => ?_⟩)
  · exact sX6_isStep o0 b0.2 (fun _ => ⟨fun _ => refM (k := 1) (by decide) (by decide) (fin2 rfl fr), fun c => (by cases c)⟩) (fun j hj ej => absurd ⟨j, hj, ej⟩ q)
  have o3 : ∀ P : Bool → Prop, P true → pX6_isStep y oI oR P := fun P hp => sX6_isStep o0 b0.2 (fun q => absurd ⟨j, hj, ej⟩ q) (fun _ _ _ => hp)
  subst ea; subst ej
  have l1 : a < 2 ^ 31 := lt31 ha (by omega)
  refine sX5_contains l1 (by omega) ⟨fun d => ?_, fun d => refC (k := 1) (by decide) (by decide) (o2 _ ⟨fun c => (by cases c), fun _ => ⟨fun q => absurd q c, fun _ => o3 _ ⟨fun c => (by cases c), fun _ => ?_⟩⟩⟩)⟩
  · rw [hh.1 6 (by decide), ho.1.1.2.2.2.2.1]
    refine sX3_full b6 (fun c4 => ⟨fun _ => sX3_add c4 (o2 _ ⟨fun c => (by cases c), fun _ => ⟨fun q => absurd q c, fun _ => o3 _ ⟨fun c => (by cases c), fun _ => ?_⟩⟩⟩), fun c => (by cases c)⟩) (fun c4 => ⟨fun c => (by cases c), fun _ => refC (k := 6) (by decide) (by decide) (o2 _ ⟨fun c => (by cases c), fun _ => ⟨fun q => absurd q c, fun _ => o3 _ ⟨fun c => (by cases c), fun _ => ?_⟩⟩⟩)⟩)
    · rw [q_bit1 l1 (by omega), d]
      refine ⟨fun _ => pk_full b6 (fun _ => ?_) (fun c => absurd c (by omega)), fun c => (by cases c)⟩
      unfold pX6_comesGuess
      rw [ho.1.1.2.2.2.2.1]
      exact ⟨g 6, rfl, c4, nm_r (nI_1 _) (fin2 rfl (guessZ hg hh ho hr c4 ha hj))⟩
    · rw [q_bit1 l1 (by omega), d]
      exact ⟨fun _ => pk_full b6 (fun c => absurd c4 (by omega)) (fun _ => refM (k := 6) (by decide) (by decide) (fin2 rfl ⟨g, r, hg, hh, ho.ref _, hr.ref (by decide)⟩)), fun c => (by cases c)⟩
  · rw [q_bit1 l1 (by omega)]
    exact ⟨fun q => absurd d q, fun _ => refM (k := 1) (by decide) (by decide) (fin2 rfl fr)⟩
theorem zc_27 {L : Nat} {xs : Nat → Int32} {i : Nat} (hi : i + 4 ≤ L) {ko : Option ((Nat → Int32) × (Nat → Nat → Int32))} {sI : Nat → Int32} {sR : Nat → Nat → Int32} {tI : Nat → Int32} {tR : Nat → Nat → Int32} {hI : Nat → Int32} {hR : Nat → Nat → Int32} {mI : Nat → Int32} {mR : Nat → Nat → Int32} {oI : Nat → Int32} {oR : Nat → Nat → Int32} (h : zIn ko sI sR tI tR hI hR mI mR oI oR) : pL_27 L xs (nI i) sI sR tI tR hI hR mI mR oI oR (zIn ko) := by
  obtain ⟨g, r, hg, hh, ho, hr⟩ := h
  have b0 := hg.1
  have b1 := hg.2.1
  have e0 : hI 0 = nI (g 0) := hh.1 0 (by decide)
  have e1 : hI 1 = nI (g 1) := hh.1 1 (by decide)
  have o0 : oI 10 = nI (g 0) := ho.1.1.1
  have o1 : oI 11 = nI (g 1) := ho.1.1.2.1
  refine ⟨i + 1, nI_1 i, by omega, ?_⟩
  generalize xs (i + 1) = x
  unfold pX5_put pX6_put
  obtain ⟨⟨n, n8, s0, o26, hrow⟩, hrf⟩ := hr.1
  rw [s0, o26]
  have f4 : zIn ko sI (va_up sR 1 (upd (sR 1) 4 (sR 1 4 + 1))) tI tR hI hR mI mR oI (va_up oR 0 (upd (oR 0) 4 (oR 0 4 + 1))) := ⟨g, r, hg, hh, ho.ref _, hr.ref (by decide)⟩
  have f6 : zIn ko sI (va_up sR 1 (upd (sR 1) 6 (sR 1 6 + 1))) tI tR hI hR mI mR oI (va_up oR 0 (upd (oR 0) 6 (oR 0 6 + 1))) := ⟨g, r, hg, hh, ho.ref _, hr.ref (by decide)⟩
  rcases bnd x (a := 0) (b := 7) (by decide) (by decide) with c | c | ⟨v, _, v2, ev⟩
  · refine ⟨fun q => absurd c (Int32.not_lt.mpr q), fun _ => refC (k := 4) (by decide) (by decide) (bLo c ⟨fun _ => ?_, fun q => absurd q (by decide)⟩)⟩
    exact ⟨fun q => absurd q (by decide), fun _ => refM (k := 4) (by decide) (by decide) (fin2 rfl f4)⟩
  · have c0 := lt_hi (a := 0) (by decide) (by decide) c
    have c8 : (8 : Int32) ≤ x := by
      rcases Int32.lt_or_le x 8 with z | z
      · exfalso
        obtain ⟨j, j1, j2⟩ := nI_of (Int32.not_lt.mpr c0)
        subst j2
        have z1 := (nI_ltI (b := 8) j1 (by decide)).mp z
        have z2 := (nI_ltI (a := 7) (by decide) j1).mp c
        omega
      · exact z
    refine ⟨fun _ => ⟨fun _ => refC (k := 6) (by decide) (by decide) (bHi c0 c ⟨fun _ => ?_, fun q => absurd q (by decide)⟩), fun q => absurd c8 q⟩, fun q => absurd c0 q⟩
    exact ⟨fun q => absurd q (by decide), fun _ => refM (k := 6) (by decide) (by decide) (fin2 rfl f6)⟩
  · subst ev
    refine ⟨fun _ => ⟨fun q => absurd q (nI_ge (b := 8) (by omega) (by decide)), fun _ => pk_lt n 8 (fun c => ⟨n, rfl, c, nm_r (nI_1 n) (bIn (nI_pos' (by omega)) (nI_le v2 (by decide)) ⟨fun q => absurd rfl q, fun _ => ?_⟩)⟩) (fun c => refC (k := 6) (by decide) (by decide) (bIn (nI_pos' (by omega)) (nI_le v2 (by decide)) ⟨fun q => absurd rfl q, fun _ => ?_⟩))⟩, fun q => absurd (nI_pos' (by omega)) q⟩
    · refine And.comm.mp (pk_eq n 8 (fun q => absurd q (by omega)) (fun _ => ?_))
      unfold bX6_put_24
      rw [o26]
      refine ⟨fun _ => ⟨n, rfl, c, nm_r (nI_1 n) (fin2 rfl ?_)⟩, fun q => absurd rfl q⟩
      refine ⟨g, r, hg, hh, ?_, ⟨⟨⟨n + 1, c, rfl, rfl, fun q hq => ?_⟩, hrf⟩, hr.2.1, ?_⟩⟩
      · obtain ⟨⟨c0, c1, c2, c3⟩, c4⟩ := ho
        exact ⟨⟨c0, c1, c2, fun k k1 k2 => by rw [va_ne' _ _ (by omega)]; exact c3 k k1 k2⟩, c4⟩
      · show ∃ z, z < 8 ∧ upd (sR 0) n (nI v) q = nI z ∧ upd (oR 25) n (nI v) q = nI z
        by_cases e : q = n
        · subst e; exact ⟨v, by omega, upd_at, upd_at⟩
        · rw [upd_ne e, upd_ne e]; exact hrow q (by omega)
      · exact hr.2.2.same rfl rfl
    · refine And.comm.mp (pk_eq n 8 (fun _ => ?_) (fun q => absurd (show n = 8 by omega) q))
      exact ⟨fun q => absurd q (by decide), fun _ => refM (k := 6) (by decide) (by decide) (fin2 rfl f6)⟩
-- count
def pcs (t : Nat → Nat) : Nat → Nat
  | 0 => 0
  | k + 1 => pcs t k + pc (t k)
theorem sX1_toldInAll {g : Nat → Nat} {r : Nat → Nat → Nat} {hI : Nat → Int32} {hR : Nat → Nat → Int32} (hg : HG g r) (hh : HR_ hI hR g r) {post : Int32 → Prop} (h : post (nI (pcs (r 0) (g 1)))) : pX1_toldInAll hI hR post := by
  have b0 := hg.1
  have b1 := hg.2.1
  have e1 : hI 1 = nI (g 1) := hh.1 1 (by decide)
  have key : ∀ d i, i + d = g 1 → bX1_toldInAll_4 hI hR post (d + 1) (nI (pcs (r 0) i)) (nI i) := by
    intro d
    induction d with
    | zero =>
      intro i hi
      have hi : i = g 1 := by omega
      subst hi
      unfold bX1_toldInAll_4
      rw [e1]
      exact pk_le (g 1) (g 1) (fun _ => h) (fun c => absurd c (by omega))
    | succ d ih =>
      intro i hi
      unfold bX1_toldInAll_4
      rw [e1]
      refine pk_le (g 1) i (fun c => absurd c (by omega)) (fun _ => ⟨i, rfl, by omega, ?_⟩)
      rw [hh.2.1 0 (by decide) i (by omega)]
      refine sJ6 (Nat.lt_of_lt_of_le (hg.2.2.2.2.2.2.2.1 i (by omega)).1 (Nat.le_trans (Nat.pow_le_pow_right (by decide) b0.2) (by decide))) (nm_r (nI_add _ _) (nm_r (nI_1 i) (ih (i + 1) (by omega))))
  exact ⟨g 1 + 1, key (g 1) 0 (by omega)⟩
theorem sX6_toldInAll {g : Nat → Nat} {r : Nat → Nat → Nat} {oI : Nat → Int32} {oR : Nat → Nat → Int32} (hg : HG g r) (ho : OM oI oR g r) {post : Int32 → Prop} (h : post (nI (pcs (r 0) (g 1)))) : ∃ n, bX6_count_108 oI oR post n 0 0 := by
  have b0 := hg.1
  have b1 := hg.2.1
  have o1 : oI 11 = nI (g 1) := ho.1.1.2.1
  have key : ∀ d i, i + d = g 1 → bX6_count_108 oI oR post (d + 1) (nI (pcs (r 0) i)) (nI i) := by
    intro d
    induction d with
    | zero =>
      intro i hi
      have hi : i = g 1 := by omega
      subst hi
      unfold bX6_count_108
      rw [o1]
      exact pk_le (g 1) (g 1) (fun _ => h) (fun c => absurd c (by omega))
    | succ d ih =>
      intro i hi
      unfold bX6_count_108
      rw [o1]
      refine pk_le (g 1) i (fun c => absurd c (by omega)) (fun _ => ⟨i, rfl, by omega, ?_⟩)
      rw [ho.1.2.1 i (by omega)]
      refine sX6_bits (lt31 (hg.2.2.2.2.2.2.2.1 i (by omega)).1 (by omega)) (nm_r (nI_add _ _) (nm_r (nI_1 i) (ih (i + 1) (by omega))))
  exact ⟨g 1 + 1, key (g 1) 0 (by omega)⟩
theorem in16 {x : Int32} {a b : Nat} (ha : a < 2 ^ 31) (hb : b < 2 ^ 31) {post : Bool → Prop} (h1 : (¬ ∃ v, a ≤ v ∧ v ≤ b ∧ x = nI v) → post false) (h2 : ∀ v, a ≤ v → v ≤ b → x = nI v → post true) : pX6_isIn x (nI a) (nI b) post := by
  unfold pX6_isIn
  refine ⟨fun c => h1 ?_, fun c => ⟨fun c2 => h1 ?_, fun c2 => ?_⟩⟩
  · rintro ⟨v, v1, v2, v3⟩
    subst v3
    exact absurd c (Int32.not_lt.mpr (nI_le v1 (by omega)))
  · rintro ⟨v, v1, v2, v3⟩
    subst v3
    exact absurd c2 (Int32.not_lt.mpr (nI_le v2 hb))
  · rcases bnd x ha hb with z | z | ⟨v, v1, v2, v3⟩
    · exact absurd z c
    · exact absurd z c2
    · exact h2 v v1 v2 v3
theorem zc_31 {L : Nat} {xs : Nat → Int32} {i : Nat} (hi : i + 4 ≤ L) {ko : Option ((Nat → Int32) × (Nat → Nat → Int32))} {sI : Nat → Int32} {sR : Nat → Nat → Int32} {tI : Nat → Int32} {tR : Nat → Nat → Int32} {hI : Nat → Int32} {hR : Nat → Nat → Int32} {mI : Nat → Int32} {mR : Nat → Nat → Int32} {oI : Nat → Int32} {oR : Nat → Nat → Int32} (h : zIn ko sI sR tI tR hI hR mI mR oI oR) : pL_31 L xs (nI i) sI sR tI tR hI hR mI mR oI oR (zIn ko) := by
  obtain ⟨g, r, hg, hh, ho, hr⟩ := h
  have b0 := hg.1
  have b1 := hg.2.1
  have e0 : hI 0 = nI (g 0) := hh.1 0 (by decide)
  have e1 : hI 1 = nI (g 1) := hh.1 1 (by decide)
  have o0 : oI 10 = nI (g 0) := ho.1.1.1
  have o1 : oI 11 = nI (g 1) := ho.1.1.2.1
  refine ⟨i + 1, nI_1 i, by omega, ?_⟩
  generalize xs (i + 1) = x
  obtain ⟨⟨n, n8, s0, o26, hrow⟩, hrf⟩ := hr.1
  obtain ⟨m, m8, t0, o17, htx⟩ := hr.2.1
  have fz : zIn ko sI sR tI tR hI hR mI mR oI oR := ⟨g, r, hg, hh, ho, hr⟩
  have e2 : hI 2 = nI (g 2) := hh.1 2 (by decide)
  have e4 : hI 4 = nI (g 4) := hh.1 4 (by decide)
  have e5 : hI 5 = nI (g 5) := hh.1 5 (by decide)
  have e6 : hI 6 = nI (g 6) := hh.1 6 (by decide)
  have key : ∀ v1 : Int32, ((¬ ∃ v, 11 ≤ v ∧ v ≤ 16 ∧ x = nI v) → ((x = 0 → v1 = nI (g 0)) ∧ (x = 1 → v1 = nI (g 1)) ∧ (x = 2 → v1 = nI (g 2)) ∧ (x = 3 → v1 = nI (g 4)) ∧ (x = 4 → v1 = nI (g 5)) ∧ (x = 5 → v1 = nI (g 6)) ∧ (x = 6 → v1 = nI (pcs (r 0) (g 1))) ∧ (x = 7 → v1 = nI m) ∧ (x = 8 → v1 = nI n) ∧ (¬ x = 0 → ¬ x = 1 → ¬ x = 2 → ¬ x = 3 → ¬ x = 4 → ¬ x = 5 → ¬ x = 6 → ¬ x = 7 → ¬ x = 8 → v1 = -9))) → (∀ v, 11 ≤ v → v ≤ 16 → x = nI v → v1 = sR 1 (v - 10)) → pX6_count x oI oR (fun (r2 : Int32) => ((v1 = r2 → (zIn ko sI sR tI tR hI hR mI mR oI oR)) ∧ (¬ v1 = r2 → False))) := by
    intro v1 k1 k2
    unfold pX6_count
    refine in16 (a := 11) (b := 16) (by decide) (by decide) (fun q => ⟨fun _ => ?_, fun c => (by cases c)⟩) (fun v w1 w2 ev => ⟨fun c => (by cases c), fun _ => ⟨v - 10, ?_, by omega, ?_⟩⟩)
    · obtain ⟨p0, p1, p2, p3, p4, p5, p6, p7, p8, p9⟩ := k1 q
      refine ⟨fun e => fin2 (by rw [p0 e, o0]) fz, fun e => fin2 (by rw [p1 e, o1]) fz, fun e => sX6_overSet hg o1 ho.1.2.2.1 (fin2 (p2 e) fz), fun e => fin2 (by rw [p3 e, ho.1.1.2.2.1]) fz, fun e => fin2 (by rw [p4 e, ho.1.1.2.2.2.1]) fz, fun e => fin2 (by rw [p5 e, ho.1.1.2.2.2.2.1]) fz, fun e => sX6_toldInAll hg ho (fin2 (p6 e) fz), fun e => fin2 (by rw [p7 e, o17]) fz, fun e => fin2 (by rw [p8 e, o26]) fz, fun a0 a1 a2 a3 a4 a5 a6 a7 a8 => fin2 (p9 a0 a1 a2 a3 a4 a5 a6 a7 a8) fz⟩
    · subst ev
      show nI v - nI 10 = nI (v - 10)
      rw [show v = v - 10 + 10 by omega, ← nI_add, Int32.add_sub_cancel, show v - 10 + 10 - 10 = v - 10 by omega]
    · exact fin2 (by rw [k2 v w1 w2 ev, hrf (v - 10) (by omega)]) fz
  have nn : ∀ {a b : Int32}, a = b → a ≠ b → False := fun p q => q p
  have out : ∀ {c : Nat}, c < 11 → x = nI c → ¬ ∃ v, 11 ≤ v ∧ v ≤ 16 ∧ x = nI v := by
    rintro c hc e ⟨v, w1, w2, w3⟩
    rw [e, nI_eq (by omega) (by omega)] at w3
    omega
  have ne : ∀ {c d : Nat}, c < 20 → d < 20 → c ≠ d → x = nI c → ∀ {P : Prop}, x = nI d → P := by
    intro c d hc hd hn e P e2
    rw [e, nI_eq (by omega) (by omega)] at e2
    exact absurd e2 hn
  have ot : ∀ {c : Nat} {v1 : Int32}, c < 11 → x = nI c → ∀ v, 11 ≤ v → v ≤ 16 → x = nI v → v1 = sR 1 (v - 10) := fun hc e v w1 w2 w3 => absurd ⟨v, w1, w2, w3⟩ (out hc e)
  unfold pX5_count
  refine ⟨fun e => ?_, fun e => ?_, fun e => ?_, fun e => ?_, fun e => ?_, fun e => ?_, fun e => sX1_toldInAll hg hh ?_, fun e => ?_, fun e => ?_, fun a0 a1 a2 a3 a4 a5 a6 a7 a8 => ?_⟩
  · refine key _ (fun _ => ?_) (ot (c := 0) (by decide) e)
    subst e
    exact ⟨fun _ => e0, fun q => absurd q (by decide), fun q => absurd q (by decide), fun q => absurd q (by decide), fun q => absurd q (by decide), fun q => absurd q (by decide), fun q => absurd q (by decide), fun q => absurd q (by decide), fun q => absurd q (by decide), fun q => absurd rfl q⟩
  · refine key _ (fun _ => ?_) (ot (c := 1) (by decide) e)
    subst e
    exact ⟨fun q => absurd q (by decide), fun _ => e1, fun q => absurd q (by decide), fun q => absurd q (by decide), fun q => absurd q (by decide), fun q => absurd q (by decide), fun q => absurd q (by decide), fun q => absurd q (by decide), fun q => absurd q (by decide), fun _ q => absurd rfl q⟩
  · refine key _ (fun _ => ?_) (ot (c := 2) (by decide) e)
    subst e
    exact ⟨fun q => absurd q (by decide), fun q => absurd q (by decide), fun _ => e2, fun q => absurd q (by decide), fun q => absurd q (by decide), fun q => absurd q (by decide), fun q => absurd q (by decide), fun q => absurd q (by decide), fun q => absurd q (by decide), fun _ _ q => absurd rfl q⟩
  · refine key _ (fun _ => ?_) (ot (c := 3) (by decide) e)
    subst e
    exact ⟨fun q => absurd q (by decide), fun q => absurd q (by decide), fun q => absurd q (by decide), fun _ => e4, fun q => absurd q (by decide), fun q => absurd q (by decide), fun q => absurd q (by decide), fun q => absurd q (by decide), fun q => absurd q (by decide), fun _ _ _ q => absurd rfl q⟩
  · refine key _ (fun _ => ?_) (ot (c := 4) (by decide) e)
    subst e
    exact ⟨fun q => absurd q (by decide), fun q => absurd q (by decide), fun q => absurd q (by decide), fun q => absurd q (by decide), fun _ => e5, fun q => absurd q (by decide), fun q => absurd q (by decide), fun q => absurd q (by decide), fun q => absurd q (by decide), fun _ _ _ _ q => absurd rfl q⟩
  · refine key _ (fun _ => ?_) (ot (c := 5) (by decide) e)
    subst e
    exact ⟨fun q => absurd q (by decide), fun q => absurd q (by decide), fun q => absurd q (by decide), fun q => absurd q (by decide), fun q => absurd q (by decide), fun _ => e6, fun q => absurd q (by decide), fun q => absurd q (by decide), fun q => absurd q (by decide), fun _ _ _ _ _ q => absurd rfl q⟩
  · refine key _ (fun _ => ?_) (ot (c := 6) (by decide) e)
    subst e
    exact ⟨fun q => absurd q (by decide), fun q => absurd q (by decide), fun q => absurd q (by decide), fun q => absurd q (by decide), fun q => absurd q (by decide), fun q => absurd q (by decide), fun _ => rfl, fun q => absurd q (by decide), fun q => absurd q (by decide), fun _ _ _ _ _ _ q => absurd rfl q⟩
  · refine key _ (fun _ => ?_) (ot (c := 7) (by decide) e)
    subst e
    exact ⟨fun q => absurd q (by decide), fun q => absurd q (by decide), fun q => absurd q (by decide), fun q => absurd q (by decide), fun q => absurd q (by decide), fun q => absurd q (by decide), fun q => absurd q (by decide), fun _ => t0, fun q => absurd q (by decide), fun _ _ _ _ _ _ _ q => absurd rfl q⟩
  · refine key _ (fun _ => ?_) (ot (c := 8) (by decide) e)
    subst e
    exact ⟨fun q => absurd q (by decide), fun q => absurd q (by decide), fun q => absurd q (by decide), fun q => absurd q (by decide), fun q => absurd q (by decide), fun q => absurd q (by decide), fun q => absurd q (by decide), fun q => absurd q (by decide), fun _ => s0, fun _ _ _ _ _ _ _ _ q => absurd rfl q⟩
  · refine ⟨fun c => key _ (fun _ => ⟨fun e => absurd e a0, fun e => absurd e a1, fun e => absurd e a2, fun e => absurd e a3, fun e => absurd e a4, fun e => absurd e a5, fun e => absurd e a6, fun e => absurd e a7, fun e => absurd e a8, fun _ _ _ _ _ _ _ _ _ => rfl⟩) (fun v w1 w2 ev => ?_), fun c => ⟨fun c2 => key _ (fun _ => ⟨fun e => absurd e a0, fun e => absurd e a1, fun e => absurd e a2, fun e => absurd e a3, fun e => absurd e a4, fun e => absurd e a5, fun e => absurd e a6, fun e => absurd e a7, fun e => absurd e a8, fun _ _ _ _ _ _ _ _ _ => rfl⟩) (fun v w1 w2 ev => ?_), fun c2 => ?_⟩⟩
    · subst ev; exact absurd c (Int32.not_lt.mpr (nI_le (a := 11) w1 (by omega)))
    · subst ev; exact absurd c2 (Int32.not_lt.mpr (nI_le (b := 16) w2 (by decide)))
    · rcases bnd x (a := 11) (b := 16) (by decide) (by decide) with z | z | ⟨v, v1, v2, v3⟩
      · exact absurd z c
      · exact absurd z c2
      · refine ⟨v - 10, ?_, by omega, key _ (fun q => absurd ⟨v, v1, v2, v3⟩ q) (fun v' w1 w2 ev => ?_)⟩
        · subst v3
          show nI v - nI 10 = nI (v - 10)
          rw [show v = v - 10 + 10 by omega, ← nI_add, Int32.add_sub_cancel, show v - 10 + 10 - 10 = v - 10 by omega]
        · rw [v3, nI_eq (by omega) (by omega)] at ev
          rw [ev]
