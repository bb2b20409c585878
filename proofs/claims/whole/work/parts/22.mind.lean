/-! the class's small methods and its mind -/
theorem z01 : ¬ (1 : Int32) = 0 := by decide
theorem sX5_contains {a j : Nat} (ha : a < 2 ^ 31) (hj : j < 32) {post : Bool → Prop} (h : post (a.testBit j)) : pX5_contains (nI a) (nI j) post := by
  unfold pX5_contains
  rw [q_bit0 ha hj]
  exact ⟨fun c => c ▸ h, fun c => by
    have c : a.testBit j = true := by cases z : a.testBit j; exact absurd z c; rfl
    exact c ▸ h⟩
theorem sX2_union {f : Nat → Nat} {m : Nat} {rf : Nat → Int32} (hf : ∀ i, i < 8 → m.testBit i = true → rf i = nI (f i)) (hm : m < 2 ^ 31) {post : Int32 → Prop} (h : post (nI (un f m 8))) : pX2_union (nI m) rf post := by
  have key : ∀ d i, i + d = 8 → bX2_union_4 (nI m) rf post (d + 1) (nI (un f m i)) (nI i) := by
    intro d
    induction d with
    | zero =>
      intro i hi
      have hi : i = 8 := by omega
      subst hi
      exact pk_le 8 8 (fun _ => h) (fun c => absurd c (by omega))
    | succ d ih =>
      intro i hi
      refine pk_le 8 i (fun c => absurd c (by omega)) (fun _ => ?_)
      rw [q_bit0 hm (by omega)]
      have hn := ih (i + 1) (by omega)
      constructor
      · intro c
        refine nm_r (nI_1 i) ?_
        unfold un at hn
        rw [if_neg (by rw [c]; decide)] at hn
        exact hn
      · intro c
        have c : m.testBit i = true := by cases z : m.testBit i; exact absurd z c; rfl
        refine ⟨i, rfl, by omega, ?_⟩
        refine nm_r (e' := nI (un f m (i + 1))) ?_ (nm_r (nI_1 i) hn)
        rw [hf i (by omega) c, q_or]
        conv => rhs; unfold un
        rw [if_pos c]
  exact ⟨9, key 8 0 rfl⟩
-- guesses
theorem sX2_guess48 {g : Nat → Nat} {r : Nat → Nat → Nat} {hI : Nat → Int32} {hR : Nat → Nat → Int32} (hg : HG g r) (hh : HR_ hI hR g r) {v : Nat} (hv : v < 2 ^ (g 0)) {x5 x6 : Int32} {mI : Nat → Int32} {mR : Nat → Nat → Int32} {post : Int32 → Prop} {k89 : Int32 → Prop} (h : k89 (nI (rd r (g 6) v))) : ∃ n, bX2_guessedFrom_48 x5 x6 hI hR mI mR post k89 n (nI v) 0 := by
  have b0 := hg.1
  have b6 := hg.2.2.2.2.2.2.1
  have bg := hg.2.2.2.2.2.2.2.2.2.2
  have e6 : hI 6 = nI (g 6) := hh.1 6 (by decide)
  have key : ∀ d i, i + d = g 6 → bX2_guessedFrom_48 x5 x6 hI hR mI mR post k89 (d + 1) (nI (rd r i v)) (nI i) := by
    intro d
    induction d with
    | zero =>
      intro i hi
      have hi : i = g 6 := by omega
      subst hi
      unfold bX2_guessedFrom_48
      rw [e6]
      exact pk_le (g 6) (g 6) (fun _ => h) (fun c => absurd c (by omega))
    | succ d ih =>
      intro i hi
      have hn := ih (i + 1) (by omega)
      have hlt : rd r i v < 2 ^ (g 0) := rd_lt i v (fun j hj => (bg j (by omega)).2) hv
      unfold bX2_guessedFrom_48
      rw [e6]
      refine pk_le (g 6) i (fun c => absurd c (by omega)) (fun _ => ⟨i, rfl, by omega, ?_⟩)
      rw [hh.2.2 6 (by decide) (by decide) i (by omega), hh.2.2 7 (by decide) (by decide) i (by omega), q_nd, nI_z (lt31 (nd_lt (bg i (by omega)).1) (by omega))]
      unfold rd at hn
      constructor
      · intro c
        rw [if_neg c] at hn
        exact nm_r (nI_1 i) hn
      · intro c
        rw [if_pos c] at hn
        refine nm_r (e' := nI (rd r i v ||| 2 ^ (r 7 i))) ?_ (nm_r (nI_1 i) hn)
        rw [q_shl1 (by have := (bg i (by omega)).2; omega), q_or]
  exact ⟨g 6 + 1, key (g 6) 0 (by omega)⟩
theorem sX2_guessedFrom {g : Nat → Nat} {r : Nat → Nat → Nat} {hI : Nat → Int32} {hR : Nat → Nat → Int32} (hg : HG g r) (hh : HR_ hI hR g r) {v : Nat} (hv : v < 2 ^ (g 0)) {mI : Nat → Int32} {mR : Nat → Nat → Int32} (hm : mI 2 = nI (2 ^ (g 0) - 1)) {post : Int32 → Prop} (h : post (nI (cl g r v))) : pX2_guessedFrom (nI v) hI hR mI mR post := by
  have b0 := hg.1
  have b6 := hg.2.2.2.2.2.2.1
  have bg := hg.2.2.2.2.2.2.2.2.2.2
  have e6 : hI 6 = nI (g 6) := hh.1 6 (by decide)
  have hF : ∀ i, i < g 6 → r 7 i < g 0 := fun i hi => (bg i hi).2
  -- the loop, from round j on: either still, or going on
  have key : ∀ d j, j + d = g 6 + 1 → (bX2_guessedFrom_28 hI hR mI mR post (d + 1) (nI (itr (rd r (g 6)) j v)) 1 (nI j)) ∧ (rd r (g 6) (itr (rd r (g 6)) j v) = itr (rd r (g 6)) j v → ∀ m, bX2_guessedFrom_28 hI hR mI mR post (m + 1) (nI (itr (rd r (g 6)) j v)) 0 (nI j)) := by
    intro d
    induction d with
    | zero =>
      intro j hj
      have hj : j = g 6 + 1 := by omega
      subst hj
      constructor
      · unfold bX2_guessedFrom_28
        refine ⟨fun c => absurd c z01, fun _ => ?_⟩
        rw [e6]
        exact pk_lt (g 6) (g 6 + 1) (fun _ => h) (fun c => absurd c (by omega))
      · intro hs m
        unfold bX2_guessedFrom_28
        exact ⟨fun _ => h, fun c => absurd rfl c⟩
    | succ d ih =>
      intro j hj
      obtain ⟨ih1, ih2⟩ := ih (j + 1) (by omega)
      have hlt := itr_lt hF j v hv
      have es : itr (rd r (g 6)) (j + 1) v = rd r (g 6) (itr (rd r (g 6)) j v) := itr_add (rd r (g 6)) j 1 v
      rw [es] at ih1 ih2
      constructor
      · unfold bX2_guessedFrom_28
        refine ⟨fun c => absurd c z01, fun _ => ?_⟩
        rw [e6]
        refine pk_lt (g 6) j (fun c => absurd c (by omega)) (fun _ => ?_)
        refine sX2_guess48 hg hh hlt ?_
        have hlt2 := rd_lt (g 6) _ hF hlt
        rw [nI_eq (lt31 hlt2 (by omega)) (lt31 hlt (by omega))]
        constructor
        · intro c
          refine nm_r (nI_1 j) ?_
          have := ih2 (by rw [c]; exact c) d
          exact this
        · intro c
          exact nm_r (nI_1 j) ih1
      · intro hs m
        unfold bX2_guessedFrom_28
        refine ⟨fun _ => ?_, fun c => absurd rfl c⟩
        rw [cl_of hs]; exact h
  unfold pX2_guessedFrom
  rw [hm, nI_eq (lt31 hv (by omega)) (lt31 (Nat.sub_lt (Nat.two_pow_pos (g 0)) (by decide)) (by omega))]
  constructor
  · intro c
    refine ⟨1, ?_⟩
    unfold bX2_guessedFrom_28
    refine ⟨fun _ => ?_, fun c => absurd rfl c⟩
    rw [c, cl_all hg, ← c] at h
    exact h
  · intro c
    exact ⟨_, (key (g 6 + 1) 0 (by omega)).1⟩
theorem sX2_happens {g : Nat → Nat} {r : Nat → Nat → Nat} {hI : Nat → Int32} {hR : Nat → Nat → Int32} (hg : HG g r) (hh : HR_ hI hR g r) {mI : Nat → Int32} {mR : Nat → Nat → Int32} {t : Nat → Nat} {w p hs : Nat} (hm : MB mI mR g r t w p hs) (ht : TG g t p hs) {what s : Nat} (hw : what < 2) (hs' : s < 2 ^ (g 1)) {post : Bool → Prop} (h : post (bd g r t w p hs what s)) : pX2_happens (nI what) (nI s) hI hR mI mR post := by
  have b0 := hg.1
  have b1 := hg.2.1
  obtain ⟨m0, m1, m2, m3, mt, mj, ms, mc⟩ := hm
  have ph : 2 ^ (g 1) - 1 < 2 ^ (g 1) := Nat.sub_lt (Nat.two_pow_pos (g 1)) (by decide)
  have pt : 2 ^ (g 0) - 1 < 2 ^ (g 0) := Nat.sub_lt (Nat.two_pow_pos (g 0)) (by decide)
  -- what a set knows
  have two : ∀ {S : Nat} (hS : S < 2 ^ (g 1)) {post : Int32 → Prop}, post (nI (kn g r t w S)) → pX2_union (nI S) (mR 3) (fun r1 => pX2_union r1 (mR 0) post) := by
    intro S hS post hp
    refine sX2_union (f := sc r w (g 4) (g 5)) (fun i _ hi => mc i (tb_lt' hS hi)) (lt31 hS (by omega)) ?_
    exact sX2_union (f := t) (fun i hi _ => mt i hi) (lt31 (scS_lt hg w hS) (by omega)) hp
  unfold pX2_happens
  have hz : (nI what = 0) ↔ what = 0 := nI_z (by omega)
  rw [hz]
  constructor
  · intro c
    have hS : s ||| nd (2 ^ (g 1) - 1) hs < 2 ^ (g 1) := or_lt hs' (nd_lt ph)
    rw [m0, m1, q_nd, q_or]
    refine two hS ?_
    have hk := kn_lt hg ht.1 w hS
    refine sX2_guessedFrom hg hh hk m2 ?_
    rw [m2, nI_eq (lt31 (cl_lt hg hk) (by omega)) (lt31 pt (by omega))]
    unfold bd at h
    rw [if_neg c] at h
    constructor
    · intro z
      rw [beq_false_of_ne z] at h; exact h
    · intro z
      rw [z, beq_self_eq_true] at h; exact h
  · intro c
    have hS : nd hs s < 2 ^ (g 1) := nd_lt ht.2.2
    rw [m1, q_nd]
    refine two hS ?_
    have hk := or_lt (kn_lt hg ht.1 w hS) ht.2.1
    rw [m3, q_or]
    refine sX2_guessedFrom hg hh hk m2 ?_
    rw [m2, nI_eq (lt31 (cl_lt hg hk) (by omega)) (lt31 pt (by omega))]
    unfold bd at h
    rw [if_pos c] at h
    constructor
    · intro z
      rw [z, beq_self_eq_true] at h; exact h
    · intro z
      rw [beq_false_of_ne z] at h; exact h
