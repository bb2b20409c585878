/-! the mind: join, lookAround, begin -/
theorem va_eta {α : Type} (f : Nat → α) (k : Nat) : va_up f k (f k) = f := by
  funext j
  unfold va_up
  split
  · next h => rw [h]
  · rfl
theorem va_at' {α : Type} (f : Nat → α) (k : Nat) (v : α) : va_up f k v k = v := by unfold va_up; rw [if_pos rfl]
theorem va_ne' {α : Type} (f : Nat → α) {k j : Nat} (v : α) (h : j ≠ k) : va_up f k v j = f j := by unfold va_up; rw [if_neg h]
theorem upd_ne {f : Nat → Int32} {k j : Nat} {v : Int32} (h : j ≠ k) : upd f k v j = f j := by unfold upd; rw [if_neg h]
theorem upd_at {f : Nat → Int32} {k : Nat} {v : Int32} : upd f k v k = v := by unfold upd; rw [if_pos rfl]
theorem sX2_join2 {hI : Nat → Int32} {hR : Nat → Nat → Int32} {post k23 : (Nat → Int32) → (Nat → Nat → Int32) → Prop} {mI : Nat → Int32} {mR : Nat → Nat → Int32} (h : ∀ f : Nat → Int32, (∀ i, i < 8 → f i = nI (2 ^ i)) → k23 mI (va_up mR 1 f)) : ∃ n, bX2_join_2 hI hR post k23 n 0 mI mR := by
  have key : ∀ d i (f : Nat → Int32), i + d = 8 → (∀ j, j < i → f j = nI (2 ^ j)) → bX2_join_2 hI hR post k23 (d + 1) (nI i) mI (va_up mR 1 f) := by
    intro d
    induction d with
    | zero =>
      intro i f hi hf
      have hi : i = 8 := by omega
      subst hi
      exact pk_le 8 8 (fun _ => h f hf) (fun c => absurd c (by omega))
    | succ d ih =>
      intro i f hi hf
      refine pk_le 8 i (fun c => absurd c (by omega)) (fun _ => nm_r (q_shl1 (by omega)) ⟨i, rfl, by omega, nm_r (nI_1 i) ?_⟩)
      rw [bx_uu, va_at']
      refine ih (i + 1) _ (by omega) (fun j hj => ?_)
      by_cases e : j = i
      · subst e; exact upd_at
      · rw [upd_ne e]; exact hf j (by omega)
  have := key 8 0 (mR 1) rfl (fun j hj => absurd hj (by omega))
  rw [va_eta] at this
  exact ⟨9, this⟩
theorem sX2_join77 {hI : Nat → Int32} {hR : Nat → Nat → Int32} {post k104 : (Nat → Int32) → (Nat → Nat → Int32) → Prop} {mI : Nat → Int32} {mR : Nat → Nat → Int32} {x1 : Int32} {a : Nat} (ha : a < 2 ^ 31) {J : Nat → Nat} {f0 : Nat → Int32} (hf0 : ∀ i, i < 8 → f0 i = nI (J i)) (h : ∀ f : Nat → Int32, (∀ i, i < 8 → f i = nI (if a.testBit i then a else J i)) → k104 mI (va_up mR 1 f)) : ∃ n, bX2_join_77 x1 (nI a) hI hR post k104 n 0 mI (va_up mR 1 f0) := by
  have key : ∀ d i (f : Nat → Int32), i + d = 8 → (∀ j, j < 8 → f j = nI (if a.testBit j ∧ j < i then a else J j)) → bX2_join_77 x1 (nI a) hI hR post k104 (d + 1) (nI i) mI (va_up mR 1 f) := by
    intro d
    induction d with
    | zero =>
      intro i f hi hf
      have hi : i = 8 := by omega
      subst hi
      refine pk_le 8 8 (fun _ => h f (fun j hj => ?_)) (fun c => absurd c (by omega))
      rw [hf j hj]
      congr 1
      simp [hj]
    | succ d ih =>
      intro i f hi hf
      refine pk_le 8 i (fun c => absurd c (by omega)) (fun _ => sX5_contains ha (by omega) ?_)
      constructor
      · intro c
        refine nm_r (nI_1 i) (ih (i + 1) f (by omega) (fun j hj => ?_))
        rw [hf j hj]
        congr 1
        by_cases e : j = i
        · subst e; simp [c]
        · have : (j < i + 1) = (j < i) := by apply propext; omega
          simp [this]
      · intro c
        refine ⟨i, rfl, by omega, nm_r (nI_1 i) ?_⟩
        rw [bx_uu, va_at']
        refine ih (i + 1) _ (by omega) (fun j hj => ?_)
        by_cases e : j = i
        · subst e
          rw [upd_at]
          simp [c]
        · rw [upd_ne e, hf j hj]
          congr 1
          have : (j < i + 1) = (j < i) := by apply propext; omega
          simp [this]
  exact ⟨9, key 8 0 f0 rfl (fun j hj => by rw [hf0 j hj]; simp)⟩
theorem sX2_join {g : Nat → Nat} {r : Nat → Nat → Nat} {hI : Nat → Int32} {hR : Nat → Nat → Int32} (hg : HG g r) (hh : HR_ hI hR g r) {mI : Nat → Int32} {mR : Nat → Nat → Int32} {post : (Nat → Int32) → (Nat → Nat → Int32) → Prop} (h : ∀ f : Nat → Int32, (∀ i, i < 8 → f i = nI (jn r (g 5) i)) → post mI (va_up mR 1 f)) : pX2_join hI hR mI mR post := by
  have b1 := hg.2.1
  have b5 := hg.2.2.2.2.2.1
  have bt := hg.2.2.2.2.2.2.2.2.2.1
  have e5 : hI 5 = nI (g 5) := hh.1 5 (by decide)
  unfold pX2_join
  refine sX2_join2 (fun f hf => ?_)
  have key : ∀ d i (f : Nat → Int32), i + d = g 5 → (∀ j, j < 8 → f j = nI (jn r i j)) → bX2_join_25 hI hR post (d + 1) (nI i) mI (va_up mR 1 f) := by
    intro d
    induction d with
    | zero =>
      intro i f hi hf
      have hi : i = g 5 := by omega
      subst hi
      unfold bX2_join_25
      rw [e5]
      exact pk_le (g 5) (g 5) (fun _ => h f hf) (fun c => absurd c (by omega))
    | succ d ih =>
      intro i f hi hf
      unfold bX2_join_25
      rw [e5]
      have bi := bt i (by omega)
      refine pk_le (g 5) i (fun c => absurd c (by omega)) (fun _ => ⟨i, rfl, by omega, r 4 i, hh.2.2 4 (by decide) (by decide) i (by omega), by omega, r 5 i, hh.2.2 5 (by decide) (by decide) i (by omega), by omega, ?_⟩)
      rw [va_at', hf _ (by omega), hf _ (by omega), q_or]
      have hl : ja r (jn r i) i < 2 ^ (g 1) := or_lt (jn_lt i (fun j hj => bt j (by omega)) _ bi.1) (jn_lt i (fun j hj => bt j (by omega)) _ bi.2)
      refine nm_e (sX2_join77 (a := ja r (jn r i) i) (lt31 hl (by omega)) hf (fun f2 hf2 => nm_r (nI_1 i) (ih (i + 1) f2 (by omega) hf2)))
  exact ⟨g 5 + 1, key (g 5) 0 f (by omega) hf⟩
theorem sX2_look2 {x1 : Int32} {hI : Nat → Int32} {hR : Nat → Nat → Int32} {post k23 : (Nat → Int32) → (Nat → Nat → Int32) → Prop} {mI : Nat → Int32} {mR : Nat → Nat → Int32} (h : ∀ f : Nat → Int32, (∀ i, i < 8 → f i = nI (2 ^ i)) → k23 mI (va_up mR 2 f)) : ∃ n, bX2_lookAround_2 x1 hI hR post k23 n 0 mI mR := by
  have key : ∀ d i (f : Nat → Int32), i + d = 8 → (∀ j, j < i → f j = nI (2 ^ j)) → bX2_lookAround_2 x1 hI hR post k23 (d + 1) (nI i) mI (va_up mR 2 f) := by
    intro d
    induction d with
    | zero =>
      intro i f hi hf
      have hi : i = 8 := by omega
      subst hi
      exact pk_le 8 8 (fun _ => h f hf) (fun c => absurd c (by omega))
    | succ d ih =>
      intro i f hi hf
      refine pk_le 8 i (fun c => absurd c (by omega)) (fun _ => nm_r (q_shl1 (by omega)) ⟨i, rfl, by omega, nm_r (nI_1 i) ?_⟩)
      rw [bx_uu, va_at']
      refine ih (i + 1) _ (by omega) (fun j hj => ?_)
      by_cases e : j = i
      · subst e; exact upd_at
      · rw [upd_ne e]; exact hf j (by omega)
  have := key 8 0 (mR 2) rfl (fun j hj => absurd hj (by omega))
  rw [va_eta] at this
  exact ⟨9, this⟩
theorem sX2_lookAround {g : Nat → Nat} {r : Nat → Nat → Nat} {hI : Nat → Int32} {hR : Nat → Nat → Int32} (hg : HG g r) (hh : HR_ hI hR g r) {mI : Nat → Int32} {mR : Nat → Nat → Int32} {w : Nat} (hw : w < 2 ^ 31) (hj : ∀ i, i < 8 → mR 1 i = nI (jn r (g 5) i)) {post : (Nat → Int32) → (Nat → Nat → Int32) → Prop} (h : ∀ f q : Nat → Int32, (∀ i, i < 8 → f i = nI (sn r w (g 4) i)) → (∀ i, i < g 1 → q i = nI (sc r w (g 4) (g 5) i)) → post mI (va_up (va_up mR 2 f) 3 q)) : pX2_lookAround (nI w) hI hR mI mR post := by
  have b1 := hg.2.1
  have b4 := hg.2.2.2.2.1
  have bs := hg.2.2.2.2.2.2.2.2.1
  have bt := hg.2.2.2.2.2.2.2.2.2.1
  have e4 : hI 4 = nI (g 4) := hh.1 4 (by decide)
  have e1 : hI 1 = nI (g 1) := hh.1 1 (by decide)
  unfold pX2_lookAround
  refine sX2_look2 (fun f0 hf0 => ?_)
  have key3 : ∀ (f : Nat → Int32), (∀ i, i < 8 → f i = nI (sn r w (g 4) i)) → ∀ d i (q : Nat → Int32), i + d = g 1 → (∀ j, j < i → q j = nI (sc r w (g 4) (g 5) j)) → bX2_lookAround_89 hI hR post (d + 1) (nI i) mI (va_up (va_up mR 2 f) 3 q) := by
    intro f hf d
    induction d with
    | zero =>
      intro i q hi hq
      have hi : i = g 1 := by omega
      subst hi
      unfold bX2_lookAround_89
      rw [e1]
      exact pk_le (g 1) (g 1) (fun _ => h f q hf hq) (fun c => absurd c (by omega))
    | succ d ih =>
      intro i q hi hq
      unfold bX2_lookAround_89
      rw [e1]
      refine pk_le (g 1) i (fun c => absurd c (by omega)) (fun _ => ⟨i, rfl, by omega, ?_⟩)
      have a1 : va_up (va_up mR 2 f) 3 q 1 i = nI (jn r (g 5) i) := hj i (by omega)
      have a2 : va_up (va_up mR 2 f) 3 q 2 = f := rfl
      rw [a1, a2]
      refine sX2_union (f := sn r w (g 4)) (fun j hj _ => hf j hj) (lt31 (jn_lt _ bt i (by omega)) (by omega)) (nm_r (nI_1 i) ?_)
      rw [bx_uu, va_at']
      refine ih (i + 1) _ (by omega) (fun j hj => ?_)
      by_cases e : j = i
      · subst e; exact upd_at
      · rw [upd_ne e]; exact hq j (by omega)
  have key2 : ∀ d i (f : Nat → Int32), i + d = g 4 → (∀ j, j < 8 → f j = nI (sn r w i j)) → bX2_lookAround_25 (nI w) hI hR post (fun mI_2 mR_2 => ∃ n3, bX2_lookAround_89 hI hR post n3 0 mI_2 mR_2) (d + 1) (nI i) mI (va_up mR 2 f) := by
    intro d
    induction d with
    | zero =>
      intro i f hi hf
      have hi : i = g 4 := by omega
      subst hi
      unfold bX2_lookAround_25
      rw [e4]
      refine pk_le (g 4) (g 4) (fun _ => ⟨g 1 + 1, ?_⟩) (fun c => absurd c (by omega))
      have := key3 f hf (g 1) 0 (va_up mR 2 f 3) (by omega) (fun j hj => absurd hj (by omega))
      rw [va_eta] at this
      exact this
    | succ d ih =>
      intro i f hi hf
      unfold bX2_lookAround_25
      rw [e4]
      have bi := bs i (by omega)
      refine pk_le (g 4) i (fun c => absurd c (by omega)) (fun _ => sX5_contains hw (by omega) ?_)
      constructor
      · intro c
        refine nm_r (nI_1 i) (ih (i + 1) f (by omega) (fun j hj => ?_))
        rw [hf j hj]
        congr 1
        conv => rhs; unfold sn
        rw [if_pos c]
      · intro c
        refine ⟨i, rfl, by omega, r 2 i, hh.2.2 2 (by decide) (by decide) i (by omega), by omega, ?_⟩
        rw [va_at', hf _ (by omega), hh.2.2 3 (by decide) (by decide) i (by omega), q_shl1 (by omega), q_or]
        refine nm_e (nm_r (nI_1 i) ?_)
        rw [bx_uu]
        refine ih (i + 1) _ (by omega) (fun j hj => ?_)
        have es : sn r w (i + 1) = va_up (sn r w i) (r 2 i) (sn r w i (r 2 i) ||| 2 ^ (r 3 i)) := by
          show (if w.testBit i then sn r w i else _) = _
          rw [if_neg (by rw [c]; decide)]
        rw [es]
        by_cases e : j = r 2 i
        · subst e
          rw [upd_at, va_at']
        · rw [upd_ne e, va_ne' _ _ e]; exact hf j hj
  exact ⟨g 4 + 1, key2 (g 4) 0 f0 (by omega) hf0⟩
theorem sX2_begin {g : Nat → Nat} {r : Nat → Nat → Nat} {hI : Nat → Int32} {hR : Nat → Nat → Int32} (hg : HG g r) (hh : HR_ hI hR g r) {mI : Nat → Int32} {mR : Nat → Nat → Int32} {post : (Nat → Int32) → (Nat → Nat → Int32) → Prop} (h : ∀ mI' mR', MB mI' mR' g r (r 0) 0 (g 3) (nd (2 ^ (g 1) - 1) (g 2)) → post mI' mR') : pX2_begin hI hR mI mR post := by
  have b0 := hg.1
  have b1 := hg.2.1
  have e1 : hI 1 = nI (g 1) := hh.1 1 (by decide)
  have e2 : hI 2 = nI (g 2) := hh.1 2 (by decide)
  have e0 : hI 0 = nI (g 0) := hh.1 0 (by decide)
  have e3 : hI 3 = nI (g 3) := hh.1 3 (by decide)
  unfold pX2_begin pX1_inHouse pX1_it
  rw [e0, e1, e2, e3, q_all (by omega), q_all (by omega), q_nd]
  refine nm_e (sX2_join hg hh (fun f hf => ?_))
  refine sX2_lookAround (w := 0) hg hh (by decide) (fun i hi => ?_) (fun f2 q hf2 hq => h _ _ ?_)
  · rw [va_at']; exact hf i hi
  · refine ⟨rfl, rfl, rfl, rfl, fun i hi => ?_, hf, hf2, hq⟩
    show va_cpy (hR 0) (mR 0) 0 0 8 i = _
    rw [pk_cpy_in (Nat.zero_le _) (by omega)]
    simp only [Nat.sub_zero, Nat.zero_add]
    exact hh.2.1 0 (by decide) i hi
