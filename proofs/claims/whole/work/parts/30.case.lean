/-! simple calls, on -/
def wi (z : Bool) (a j : Nat) : Nat := if z then a ||| 2 ^ j else nd a (2 ^ j)
theorem wi_tb (z : Bool) (a j i : Nat) : (wi z a j).testBit i = if j = i then z else a.testBit i := by
  unfold wi
  cases z with
  | true =>
    rw [if_pos rfl, Nat.testBit_or, tb_pow]
    by_cases e : j = i
    · rw [if_pos e, decide_eq_true e, Bool.or_true]
    · rw [if_neg e, decide_eq_false e, Bool.or_false]
  | false =>
    rw [if_neg (by decide), nd_tb, tb_pow]
    by_cases e : j = i
    · rw [if_pos e, decide_eq_true e]; simp
    · rw [if_neg e, decide_eq_false e]; simp
theorem wi_eq (z : Bool) (a j : Nat) : wi z a j = a ↔ a.testBit j = z := by
  constructor
  · intro h
    have := wi_tb z a j j
    rw [h, if_pos rfl] at this
    exact this
  · intro h
    apply q_ext; intro i
    rw [wi_tb]
    by_cases e : j = i
    · rw [if_pos e, ← e, h]
    · rw [if_neg e]
theorem wi_lt {z : Bool} {a j n : Nat} (ha : a < 2 ^ n) (hj : j < n) : wi z a j < 2 ^ n := by
  apply lt_tb; intro i
  rw [wi_tb]
  by_cases e : j = i
  · intro _; omega
  · rw [if_neg e]; intro h; exact tb_lt' ha h
theorem wi_xor {z : Bool} {a j : Nat} (h : a.testBit j ≠ z) : a ^^^ 2 ^ j = wi z a j := by
  apply q_ext; intro i
  rw [wi_tb, Nat.testBit_xor, tb_pow]
  by_cases e : j = i
  · subst e
    rw [if_pos rfl, decide_eq_true rfl]
    revert h
    cases a.testBit j <;> cases z <;> decide
  · rw [if_neg e, decide_eq_false e, Bool.xor_false]
theorem sX5_with {z : Bool} {a j : Nat} (hj : j < 31) {post : Int32 → Prop} (h : post (nI (wi z a j))) : pX5_with (nI a) (nI j) z post := by
  unfold pX5_with
  rw [q_shl1 hj, q_nd, q_or]
  unfold wi at h
  constructor
  · intro c; subst c; exact h
  · intro c; subst c; exact h
theorem sX1_isHand {n : Nat} {hI : Nat → Int32} {hR : Nat → Nat → Int32} (e1 : hI 1 = nI n) (hn : n ≤ 8) {x : Int32} {post : Bool → Prop} (h1 : (¬ ∃ j, j < n ∧ x = nI j) → post false) (h2 : ∀ j, j < n → x = nI j → post true) : pX1_isHand x hI hR post := by
  unfold pX1_isHand
  by_cases c : ∃ j, j < n ∧ x = nI j
  · obtain ⟨j, j1, j2⟩ := c
    exact rgT e1 (by omega) j1 j2 (h2 j j1 j2)
  · exact rgF e1 (by omega) c (h1 c)
theorem sX6_isHand {n : Nat} {oI : Nat → Int32} {oR : Nat → Nat → Int32} (e1 : oI 11 = nI n) (hn : n ≤ 8) {x : Int32} {post : Bool → Prop} (h1 : (¬ ∃ j, j < n ∧ x = nI j) → post false) (h2 : ∀ j, j < n → x = nI j → post true) : pX6_isHand x oI oR post := by
  unfold pX6_isHand
  by_cases c : ∃ j, j < n ∧ x = nI j
  · obtain ⟨j, j1, j2⟩ := c
    exact rgT e1 (by omega) j1 j2 (h2 j j1 j2)
  · exact rgF e1 (by omega) c (h1 c)
theorem sX1_isStep {n : Nat} {hI : Nat → Int32} {hR : Nat → Nat → Int32} (e1 : hI 0 = nI n) (hn : n ≤ 10) {x : Int32} {post : Bool → Prop} (h1 : (¬ ∃ j, j < n ∧ x = nI j) → post false) (h2 : ∀ j, j < n → x = nI j → post true) : pX1_isStep x hI hR post := by
  unfold pX1_isStep
  by_cases c : ∃ j, j < n ∧ x = nI j
  · obtain ⟨j, j1, j2⟩ := c
    exact rgT e1 (by omega) j1 j2 (h2 j j1 j2)
  · exact rgF e1 (by omega) c (h1 c)
theorem sX6_isStep {n : Nat} {oI : Nat → Int32} {oR : Nat → Nat → Int32} (e1 : oI 10 = nI n) (hn : n ≤ 10) {x : Int32} {post : Bool → Prop} (h1 : (¬ ∃ j, j < n ∧ x = nI j) → post false) (h2 : ∀ j, j < n → x = nI j → post true) : pX6_isStep x oI oR post := by
  unfold pX6_isStep
  by_cases c : ∃ j, j < n ∧ x = nI j
  · obtain ⟨j, j1, j2⟩ := c
    exact rgT e1 (by omega) j1 j2 (h2 j j1 j2)
  · exact rgF e1 (by omega) c (h1 c)
def two (n : Nat) (x y : Int32) : Prop := ∃ a b, a < n ∧ b < n ∧ a ≠ b ∧ x = nI a ∧ y = nI b
theorem sX1_two {n : Nat} {hI : Nat → Int32} {hR : Nat → Nat → Int32} (e1 : hI 1 = nI n) (hn : n ≤ 8) {x y : Int32} {post : Bool → Prop} (h1 : ¬ two n x y → post false) (h2 : two n x y → post true) : pX1_areTwoHands x y hI hR post := by
  unfold pX1_areTwoHands
  refine sX1_isHand e1 hn (fun q => ⟨fun _ => h1 (fun ⟨a, b, c, _, _, d, _⟩ => q ⟨a, c, d⟩), fun c => (by cases c)⟩) (fun a ha ea => ⟨fun c => (by cases c), fun _ => ?_⟩)
  refine sX1_isHand e1 hn (fun q => ⟨fun _ => h1 (fun ⟨a, b, _, c, _, _, d⟩ => q ⟨b, c, d⟩), fun c => (by cases c)⟩) (fun b hb eb => ⟨fun c => (by cases c), fun _ => ⟨fun c => h1 ?_, fun c => h2 ⟨a, b, ha, hb, ?_, ea, eb⟩⟩⟩)
  · rintro ⟨a', b', h3, h4, h5, h6, h7⟩
    rw [c, h7, nI_eq (by omega) (by omega)] at h6
    exact h5 h6.symm
  · intro e; subst e; exact c (by rw [ea, eb])
theorem sX6_two {n : Nat} {oI : Nat → Int32} {oR : Nat → Nat → Int32} (e1 : oI 11 = nI n) (hn : n ≤ 8) {x y : Int32} {post : Bool → Prop} (h1 : ¬ two n x y → post false) (h2 : two n x y → post true) : pX6_areTwo x y oI oR post := by
  unfold pX6_areTwo
  refine sX6_isHand e1 hn (fun q => ⟨fun _ => h1 (fun ⟨a, b, c, _, _, d, _⟩ => q ⟨a, c, d⟩), fun c => (by cases c)⟩) (fun a ha ea => ⟨fun c => (by cases c), fun _ => ?_⟩)
  refine sX6_isHand e1 hn (fun q => ⟨fun _ => h1 (fun ⟨a, b, _, c, _, _, d⟩ => q ⟨b, c, d⟩), fun c => (by cases c)⟩) (fun b hb eb => ⟨fun c => (by cases c), fun _ => ⟨fun c => h1 ?_, fun c => h2 ⟨a, b, ha, hb, ?_, ea, eb⟩⟩⟩)
  · rintro ⟨a', b', h3, h4, h5, h6, h7⟩
    rw [c, h7, nI_eq (by omega) (by omega)] at h6
    exact h5 h6.symm
  · intro e; subst e; exact c (by rw [ea, eb])
-- tell
theorem sX5_tell {g : Nat → Nat} {r : Nat → Nat → Nat} {sI : Nat → Int32} {sR : Nat → Nat → Int32} {tI : Nat → Int32} {tR : Nat → Nat → Int32} {hI : Nat → Int32} {hR : Nat → Nat → Int32} {mI : Nat → Int32} {mR : Nat → Nat → Int32} (hg : HG g r) (hh : HR_ hI hR g r) {x y : Int32} {z : Bool} {post : Int32 → (Nat → Int32) → (Nat → Nat → Int32) → (Nat → Int32) → (Nat → Nat → Int32) → Prop} (h1 : (¬ ∃ a j, a < g 1 ∧ j < g 0 ∧ x = nI a ∧ y = nI j) → post (-1) sI (va_up sR 1 (upd (sR 1) 1 (sR 1 1 + 1))) hI hR) (h2 : ∀ a j, a < g 1 → j < g 0 → x = nI a → y = nI j → post (if (r 0 a).testBit j = z then 0 else 1) sI sR hI (va_up hR 0 (upd (hR 0) a (nI (wi z (r 0 a) j))))) : pX5_tell x y z sI sR tI tR hI hR mI mR post := by
  have b0 := hg.1
  have b1 := hg.2.1
  have e0 : hI 0 = nI (g 0) := hh.1 0 (by decide)
  have e1 : hI 1 = nI (g 1) := hh.1 1 (by decide)
  unfold pX5_tell
  refine sX1_isHand e1 b1 (fun q => ⟨fun _ => refC (by decide) (by decide) (h1 (fun ⟨a, j, c, _, d, _⟩ => q ⟨a, c, d⟩)), fun c => (by cases c)⟩) (fun a ha ea => ⟨fun c => (by cases c), fun _ => ?_⟩)
  refine sX1_isStep e0 b0.2 (fun q => ⟨fun c => (by cases c), fun _ => refC (by decide) (by decide) (h1 (fun ⟨a, j, _, c, _, d⟩ => q ⟨j, c, d⟩))⟩) (fun j hj ej => ⟨fun _ => ⟨a, ea, by omega, nm_r (hh.2.1 0 (by decide) a (by omega)) ?_⟩, fun c => (by cases c)⟩)
  have h3 := h2 a j ha hj ea ej
  subst ea; subst ej
  have l1 : r 0 a < 2 ^ 31 := lt31 (hg.2.2.2.2.2.2.2.1 a ha).1 (by omega)
  have l2 : wi z (r 0 a) j < 2 ^ 31 := wi_lt l1 (by omega)
  refine sX5_with (by omega) ?_
  rw [upd_at, nI_eq l2 l1, wi_eq]
  constructor
  · intro c; rw [if_neg c] at h3; exact h3
  · intro c; rw [if_pos c] at h3; exact h3
theorem zbz (z : Bool) : zb z = nI z.toNat := by cases z <;> decide
theorem sX6_tell {g : Nat → Nat} {r : Nat → Nat → Nat} {oI : Nat → Int32} {oR : Nat → Nat → Int32} (hg : HG g r) (ho : OM oI oR g r) {x y : Int32} {z : Bool} {post : Int32 → (Nat → Int32) → (Nat → Nat → Int32) → Prop} (h1 : (¬ ∃ a j, a < g 1 ∧ j < g 0 ∧ x = nI a ∧ y = nI j) → post (-1) oI (va_up oR 0 (upd (oR 0) 1 (oR 0 1 + 1)))) (h2 : ∀ a j, a < g 1 → j < g 0 → x = nI a → y = nI j → post (if (r 0 a).testBit j = z then 0 else 1) oI (if (r 0 a).testBit j = z then oR else va_up oR 1 (upd (oR 1) a (nI (wi z (r 0 a) j))))) : pX6_tell x y z oI oR post := by
  have b0 := hg.1
  have b1 := hg.2.1
  have o0 : oI 10 = nI (g 0) := ho.1.1.1
  have o1 : oI 11 = nI (g 1) := ho.1.1.2.1
  unfold pX6_tell
  refine sX6_isHand o1 b1 (fun q => ⟨fun _ => refM (by decide) (by decide) (h1 (fun ⟨a, j, c, _, d, _⟩ => q ⟨a, c, d⟩)), fun c => (by cases c)⟩) (fun a ha ea => ⟨fun c => (by cases c), fun _ => ?_⟩)
  refine sX6_isStep o0 b0.2 (fun q => ⟨fun c => (by cases c), fun _ => refM (by decide) (by decide) (h1 (fun ⟨a, j, _, c, _, d⟩ => q ⟨j, c, d⟩))⟩) (fun j hj ej => ⟨fun _ => ⟨a, ea, by omega, ?_⟩, fun c => (by cases c)⟩)
  have h3 := h2 a j ha hj ea ej
  subst ea; subst ej
  have l1 : r 0 a < 2 ^ 31 := lt31 (hg.2.2.2.2.2.2.2.1 a ha).1 (by omega)
  have l2 : wi z (r 0 a) j < 2 ^ 31 := wi_lt l1 (by omega)
  have lo := ho.1.2.1 a (by omega)
  have key : bX6_tell_41 (nI a) (nI j) (zb z) (nI ((r 0 a).testBit j).toNat) oI oR post := by
    unfold bX6_tell_41
    rw [zbz]
    by_cases c : (r 0 a).testBit j = z
    · rw [if_pos c, if_pos c] at h3
      rw [c]
      exact ⟨fun q => absurd rfl q, fun _ => h3⟩
    · rw [if_neg c, if_neg c] at h3
      have c2 : ¬ nI ((r 0 a).testBit j).toNat = nI z.toNat := by
        rw [nI_eq (by cases (r 0 a).testBit j <;> decide) (by cases z <;> decide)]
        revert c; cases (r 0 a).testBit j <;> cases z <;> decide
      refine ⟨fun _ => ⟨a, rfl, by omega, ?_⟩, fun q => absurd q c2⟩
      rw [lo, q_shl1 (by omega), q_xor, wi_xor c]
      exact nm_e h3
  rw [lo, q_bit1 l1 (by omega)]
  cases hc : (r 0 a).testBit j with
  | true => rw [hc] at key; exact ⟨fun q => absurd rfl q, fun _ => key⟩
  | false => rw [hc] at key; exact ⟨fun _ => key, fun q => (by cases q)⟩
theorem upd_eta (f : Nat → Int32) (k : Nat) : upd f k (f k) = f := by
  funext j
  by_cases e : j = k
  · subst e; rw [upd_at]
  · rw [upd_ne e]
/-- told anew, both sides -/
theorem tellZ {g : Nat → Nat} {r : Nat → Nat → Nat} {ko : Option ((Nat → Int32) × (Nat → Nat → Int32))} {sI : Nat → Int32} {sR : Nat → Nat → Int32} {tI : Nat → Int32} {tR : Nat → Nat → Int32} {hI : Nat → Int32} {hR : Nat → Nat → Int32} {mI : Nat → Int32} {mR : Nat → Nat → Int32} {oI : Nat → Int32} {oR : Nat → Nat → Int32} (hg : HG g r) (hh : HR_ hI hR g r) (ho : OM oI oR g r) (hr : RM ko sI sR tI tR oI oR) {a j : Nat} (ha : a < g 1) (hj : j < g 0) (z : Bool) : zIn ko sI sR tI tR hI (va_up hR 0 (upd (hR 0) a (nI (wi z (r 0 a) j)))) mI mR oI (if (r 0 a).testBit j = z then oR else va_up oR 1 (upd (oR 1) a (nI (wi z (r 0 a) j)))) := by
  have b1 := hg.2.1
  have eo : (if (r 0 a).testBit j = z then oR else va_up oR 1 (upd (oR 1) a (nI (wi z (r 0 a) j)))) = va_up oR 1 (upd (oR 1) a (nI (wi z (r 0 a) j))) := by
    by_cases c : (r 0 a).testBit j = z
    · rw [if_pos c, (wi_eq z (r 0 a) j).mpr c, ← ho.1.2.1 a (by omega), upd_eta, va_eta]
    · rw [if_neg c]
  rw [eo]
  refine ⟨g, va_up r 0 (va_up (r 0) a (wi z (r 0 a) j)), ?_, hh.upR 0 a _, ?_, hr.same ⟨rfl, rfl, rfl⟩ ⟨rfl, rfl, rfl, rfl⟩⟩
  · obtain ⟨h0, h1, h2, h3, h4, h5, h6, h7, h8, h9, h10⟩ := hg
    refine ⟨h0, h1, h2, h3, h4, h5, h6, fun q hq => ⟨?_, (h7 q hq).2⟩, h8, h9, h10⟩
    show va_up (r 0) a (wi z (r 0 a) j) q < 2 ^ (g 0)
    by_cases e : q = a
    · subst e; rw [va_at']; exact wi_lt (h7 q hq).1 hj
    · rw [va_ne' _ _ e]; exact (h7 q hq).1
  · obtain ⟨⟨c0, c1, c2, c3⟩, c4⟩ := ho
    exact ⟨⟨c0, updN c1, c2, rows_lo c3 (by decide) (by decide) _ _⟩, c4⟩
theorem zc_4 {L : Nat} {xs : Nat → Int32} {i : Nat} (hi : i + 4 ≤ L) {ko : Option ((Nat → Int32) × (Nat → Nat → Int32))} {sI : Nat → Int32} {sR : Nat → Nat → Int32} {tI : Nat → Int32} {tR : Nat → Nat → Int32} {hI : Nat → Int32} {hR : Nat → Nat → Int32} {mI : Nat → Int32} {mR : Nat → Nat → Int32} {oI : Nat → Int32} {oR : Nat → Nat → Int32} (h : zIn ko sI sR tI tR hI hR mI mR oI oR) : pL_4 L xs (nI i) sI sR tI tR hI hR mI mR oI oR (zIn ko) := by
  obtain ⟨g, r, hg, hh, ho, hr⟩ := h
  have b0 := hg.1
  have b1 := hg.2.1
  have e0 : hI 0 = nI (g 0) := hh.1 0 (by decide)
  have e1 : hI 1 = nI (g 1) := hh.1 1 (by decide)
  have o0 : oI 10 = nI (g 0) := ho.1.1.1
  have o1 : oI 11 = nI (g 1) := ho.1.1.2.1
  refine ⟨i + 1, nI_1 i, by omega, i + 2, nI_add i 2, by omega, i + 3, nI_add i 3, by omega, ?_⟩
  generalize xs (i + 1) = x
  generalize xs (i + 2) = y
  generalize xs (i + 3) = u
  constructor
  · intro c
    refine sX5_tell hg hh (fun q => ⟨fun _ => ?_, fun q => absurd c q⟩) (fun a j ha hj ea ej => ⟨fun _ => ?_, fun q => absurd c q⟩)
    · exact sX6_tell hg ho (fun _ => fin2 rfl ⟨g, r, hg, hh, ho.ref _, hr.ref (by decide)⟩) (fun a j ha hj ea ej => absurd ⟨a, j, ha, hj, ea, ej⟩ q)
    · refine sX6_tell hg ho (fun q => absurd ⟨a, j, ha, hj, ea, ej⟩ q) (fun a' j' ha' hj' ea' ej' => ?_)
      rw [ea, nI_eq (by omega) (by omega)] at ea'
      rw [ej, nI_eq (by omega) (by omega)] at ej'
      subst ea'; subst ej'
      exact fin2 rfl (tellZ hg hh ho hr ha hj false)
  · intro c
    refine sX5_tell hg hh (fun q => ⟨fun q => absurd q c, fun _ => ?_⟩) (fun a j ha hj ea ej => ⟨fun q => absurd q c, fun _ => ?_⟩)
    · exact sX6_tell hg ho (fun _ => fin2 rfl ⟨g, r, hg, hh, ho.ref _, hr.ref (by decide)⟩) (fun a j ha hj ea ej => absurd ⟨a, j, ha, hj, ea, ej⟩ q)
    · refine sX6_tell hg ho (fun q => absurd ⟨a, j, ha, hj, ea, ej⟩ q) (fun a' j' ha' hj' ea' ej' => ?_)
      rw [ea, nI_eq (by omega) (by omega)] at ea'
      rw [ej, nI_eq (by omega) (by omega)] at ej'
      subst ea'; subst ej'
      exact fin2 rfl (tellZ hg hh ho hr ha hj true)
-- chance
theorem zc_5 {L : Nat} {xs : Nat → Int32} {i : Nat} (hi : i + 4 ≤ L) {ko : Option ((Nat → Int32) × (Nat → Nat → Int32))} {sI : Nat → Int32} {sR : Nat → Nat → Int32} {tI : Nat → Int32} {tR : Nat → Nat → Int32} {hI : Nat → Int32} {hR : Nat → Nat → Int32} {mI : Nat → Int32} {mR : Nat → Nat → Int32} {oI : Nat → Int32} {oR : Nat → Nat → Int32} (h : zIn ko sI sR tI tR hI hR mI mR oI oR) : pL_5 L xs (nI i) sI sR tI tR hI hR mI mR oI oR (zIn ko) := by
  obtain ⟨g, r, hg, hh, ho, hr⟩ := h
  have b0 := hg.1
  have b1 := hg.2.1
  have e0 : hI 0 = nI (g 0) := hh.1 0 (by decide)
  have e1 : hI 1 = nI (g 1) := hh.1 1 (by decide)
  have o0 : oI 10 = nI (g 0) := ho.1.1.1
  have o1 : oI 11 = nI (g 1) := ho.1.1.2.1
  refine ⟨i + 1, nI_1 i, by omega, i + 2, nI_add i 2, by omega, ?_⟩
  generalize xs (i + 1) = x
  generalize xs (i + 2) = y
  unfold pX5_chance pX6_chance
  refine sX1_isHand e1 b1 (fun q => ⟨fun c => (by cases c), fun _ => refC (k := 1) (by decide) (by decide) ?_⟩) (fun a ha ea => ⟨fun _ => ?_, fun c => (by cases c)⟩)
  · exact sX6_isHand o1 b1 (fun _ => ⟨fun c => (by cases c), fun _ => refM (k := 1) (by decide) (by decide) (fin2 rfl ⟨g, r, hg, hh, ho.ref _, hr.ref (by decide)⟩)⟩) (fun a ha ea => absurd ⟨a, ha, ea⟩ q)
  subst ea
  have o2 : ∀ P : Bool → Prop, P true → pX6_isHand (nI a) oI oR P := fun P hp => sX6_isHand o1 b1 (fun q => absurd ⟨a, ha, rfl⟩ q) (fun _ _ _ => hp)
  rcases bnd y (a := 0) (b := 100) (by decide) (by decide) with c | c | ⟨v, _, v2, ev⟩
  · exact oLo c ⟨fun q => absurd q (by decide), fun _ => refC (k := 4) (by decide) (by decide) (o2 _ ⟨fun _ => bLo c ⟨fun q => absurd q (by decide), fun _ => refM (k := 4) (by decide) (by decide) (fin2 rfl ⟨g, r, hg, hh, ho.ref _, hr.ref (by decide)⟩)⟩, fun c => (by cases c)⟩)⟩
  · have c0 := lt_hi (a := 0) (by decide) (by decide) c
    exact oHi c0 c ⟨fun q => absurd q (by decide), fun _ => refC (k := 6) (by decide) (by decide) (o2 _ ⟨fun _ => bHi c0 c ⟨fun q => absurd q (by decide), fun _ => refM (k := 6) (by decide) (by decide) (fin2 rfl ⟨g, r, hg, hh, ho.ref _, hr.ref (by decide)⟩)⟩, fun c => (by cases c)⟩)⟩
  · subst ev
    refine oIn (nI_pos' (by omega)) (nI_le v2 (by decide)) ⟨fun _ => ⟨a, rfl, by omega, nm_r (hh.2.1 1 (by decide) a (by omega)) (o2 _ ⟨fun _ => bIn (nI_pos' (by omega)) (nI_le v2 (by decide)) ⟨fun _ => ⟨a, rfl, by omega, nm_r (ho.2 a (by omega)) (fin2 rfl ?_)⟩, fun c => absurd rfl c⟩, fun c => (by cases c)⟩)⟩, fun c => absurd rfl c⟩
    refine ⟨g, va_up r 1 (va_up (r 1) a v), ?_, hh.upR 1 a _, ?_, hr.same ⟨rfl, rfl, rfl⟩ ⟨rfl, rfl, rfl, rfl⟩⟩
    · obtain ⟨h0, h1, h2, h3, h4, h5, h6, h7, h8, h9, h10⟩ := hg
      refine ⟨h0, h1, h2, h3, h4, h5, h6, fun q hq => ⟨(h7 q hq).1, ?_⟩, h8, h9, h10⟩
      show va_up (r 1) a v q ≤ 100
      by_cases e : q = a
      · subst e; rw [va_at']; exact v2
      · rw [va_ne' _ _ e]; exact (h7 q hq).2
    · obtain ⟨⟨c0, c1, c2, c3⟩, c4⟩ := ho
      exact ⟨⟨c0, c1, c2, rows_lo c3 (by decide) (by decide) _ _⟩, updN c4⟩
-- paper
theorem zc_10 {L : Nat} {xs : Nat → Int32} {i : Nat} (hi : i + 4 ≤ L) {ko : Option ((Nat → Int32) × (Nat → Nat → Int32))} {sI : Nat → Int32} {sR : Nat → Nat → Int32} {tI : Nat → Int32} {tR : Nat → Nat → Int32} {hI : Nat → Int32} {hR : Nat → Nat → Int32} {mI : Nat → Int32} {mR : Nat → Nat → Int32} {oI : Nat → Int32} {oR : Nat → Nat → Int32} (h : zIn ko sI sR tI tR hI hR mI mR oI oR) : pL_10 L xs (nI i) sI sR tI tR hI hR mI mR oI oR (zIn ko) := by
  obtain ⟨g, r, hg, hh, ho, hr⟩ := h
  have b0 := hg.1
  have b1 := hg.2.1
  have e0 : hI 0 = nI (g 0) := hh.1 0 (by decide)
  have e1 : hI 1 = nI (g 1) := hh.1 1 (by decide)
  have o0 : oI 10 = nI (g 0) := ho.1.1.1
  have o1 : oI 11 = nI (g 1) := ho.1.1.2.1
  refine ⟨i + 1, nI_1 i, by omega, ?_⟩
  generalize xs (i + 1) = x
  unfold pX5_paper pX6_paper
  refine sX1_isStepSet e0 b0.2 (fun q => ⟨fun c => (by cases c), fun _ => refC (k := 1) (by decide) (by decide) ?_⟩) (fun v hv ev => ⟨fun _ => ?_, fun c => (by cases c)⟩)
  · exact sX6_isSet o0 b0.2 (fun _ => ⟨fun c => (by cases c), fun _ => refM (k := 1) (by decide) (by decide) (fin2 rfl ⟨g, r, hg, hh, ho.ref _, hr.ref (by decide)⟩)⟩) (fun a ha ea => absurd ⟨a, ha, ea⟩ q)
  · refine sX6_isSet o0 b0.2 (fun q => absurd ⟨v, hv, ev⟩ q) (fun _ _ _ => ⟨fun _ => ?_, fun c => (by cases c)⟩)
    subst ev
    rw [hh.1 3 (by decide), ho.1.1.2.2.2.2.2.1]
    refine fin2 rfl ⟨va_up g 3 v, r, ?_, hh.upI 3 v, ?_, hr.same ⟨rfl, rfl, rfl⟩ ⟨rfl, rfl, rfl, rfl⟩⟩
    · obtain ⟨h0, h1, h2, h3, h4⟩ := hg
      exact ⟨h0, h1, h2, hv, h4⟩
    · obtain ⟨⟨⟨a0, a1, a2, a3, a4, a5, a6⟩, c1⟩, c4⟩ := ho
      exact ⟨⟨⟨a0, a1, a2, a3, a4, rfl, a6⟩, c1⟩, c4⟩
