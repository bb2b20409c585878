/-! the reference: what is known -/
def OQ (oI : Nat → Int32) (oR : Nat → Nat → Int32) (g : Nat → Nat) (r : Nat → Nat → Nat) (t : Nat → Nat) (w p : Nat) : Prop := (oI 10 = nI (g 0) ∧ oI 11 = nI (g 1) ∧ oI 12 = nI (g 4) ∧ oI 13 = nI (g 5) ∧ oI 14 = nI (g 6) ∧ oI 15 = nI p ∧ oI 22 = nI w) ∧ (∀ i, i < 8 → oR 1 i = nI (t i)) ∧ (∀ i, i < 8 → oR 3 i = nI ((g 2).testBit i).toNat) ∧ ∀ k, 2 ≤ k → k < 8 → ∀ i, i < 12 → oR (k + 2) i = nI (r k i)
def K3 (oR : Nat → Nat → Int32) (a b c : Nat → Int32) : Nat → Nat → Int32 := va_up (va_up (va_up oR 19 a) 20 b) 21 c
theorem K3_19 (oR : Nat → Nat → Int32) (a b c a' : Nat → Int32) : va_up (K3 oR a b c) 19 a' = K3 oR a' b c := by
  funext j; unfold K3 va_up
  by_cases h : j = 19
  · subst h; rfl
  · rw [if_neg h, if_neg h, if_neg h]
theorem K3_20 (oR : Nat → Nat → Int32) (a b c b' : Nat → Int32) : va_up (K3 oR a b c) 20 b' = K3 oR a b' c := by
  funext j; unfold K3 va_up
  by_cases h : j = 20
  · subst h; rfl
  · rw [if_neg h, if_neg h, if_neg h]
theorem K3_21 (oR : Nat → Nat → Int32) (a b c c' : Nat → Int32) : va_up (K3 oR a b c) 21 c' = K3 oR a b c' := by
  funext j; unfold K3 va_up
  by_cases h : j = 21
  · subst h; rfl
  · rw [if_neg h, if_neg h, if_neg h]
theorem K3_eta (oR : Nat → Nat → Int32) : K3 oR (oR 19) (oR 20) (oR 21) = oR := by
  funext j; unfold K3 va_up
  by_cases h : j = 21
  · subst h; rfl
  · rw [if_neg h]
    by_cases h : j = 20
    · subst h; rfl
    · rw [if_neg h]
      by_cases h : j = 19
      · subst h; rfl
      · rw [if_neg h]
theorem K3_ne (oR : Nat → Nat → Int32) (a b c : Nat → Int32) {j : Nat} (h : j < 19) : K3 oR a b c j = oR j := by
  unfold K3 va_up
  rw [if_neg (by omega), if_neg (by omega), if_neg (by omega)]
theorem K3_K3 (oR : Nat → Nat → Int32) (a b c a' b' c' : Nat → Int32) : K3 (K3 oR a b c) a' b' c' = K3 oR a' b' c' := by
  show va_up (va_up (va_up (K3 oR a b c) 19 a') 20 b') 21 c' = _
  rw [K3_19, K3_20, K3_21]
theorem OQ.K3 {oI : Nat → Int32} {oR : Nat → Nat → Int32} {g : Nat → Nat} {r : Nat → Nat → Nat} {t : Nat → Nat} {w p : Nat} (h : OQ oI oR g r t w p) (a b c : Nat → Int32) : OQ oI (K3 oR a b c) g r t w p := ⟨h.1, by rw [K3_ne _ _ _ _ (by decide)]; exact h.2.1, by rw [K3_ne _ _ _ _ (by decide)]; exact h.2.2.1, fun k h1 h2 => by rw [K3_ne _ _ _ _ (by omega)]; exact h.2.2.2 k h1 h2⟩
theorem un_one {f : Nat → Nat} {h : Nat} (hh : h < 8) : un f (2 ^ h) 8 = f h := by
  apply sb_anti
  · intro b hb
    obtain ⟨i, h1, h2, h3⟩ := (un_tb _ _ _ _).mp hb
    rw [tb_pow, decide_eq_true_eq] at h2
    rw [h2]; exact h3
  · intro b hb
    exact (un_tb _ _ _ _).mpr ⟨h, hh, by rw [tb_pow]; simp, hb⟩
theorem un_or {f : Nat → Nat} {m q : Nat} (hq : q < 8) : un f (m ||| 2 ^ q) 8 = un f m 8 ||| f q := by
  apply q_ext
  intro b
  rw [Bool.eq_iff_iff, Nat.testBit_or, Bool.or_eq_true, un_tb, un_tb]
  constructor
  · rintro ⟨i, h1, h2, h3⟩
    rw [Nat.testBit_or, Bool.or_eq_true, tb_pow, decide_eq_true_eq] at h2
    rcases h2 with h2 | h2
    · exact Or.inl ⟨i, h1, h2, h3⟩
    · subst h2; exact Or.inr h3
  · rintro (⟨i, h1, h2, h3⟩ | h3)
    · exact ⟨i, h1, by rw [Nat.testBit_or, h2]; rfl, h3⟩
    · exact ⟨q, hq, by rw [Nat.testBit_or, tb_pow]; simp, h3⟩
theorem un_un (f t : Nat → Nat) (m : Nat) : un (fun o => un t (f o) 8) m 8 = un t (un f m 8) 8 := by
  apply q_ext
  intro b
  rw [Bool.eq_iff_iff, un_tb, un_tb]
  constructor
  · rintro ⟨i, h1, h2, h3⟩
    obtain ⟨j, h4, h5, h6⟩ := (un_tb _ _ _ _).mp h3
    exact ⟨j, h4, (un_tb _ _ _ _).mpr ⟨i, h1, h2, h5⟩, h6⟩
  · rintro ⟨j, h4, h5, h6⟩
    obtain ⟨i, h1, h2, h3⟩ := (un_tb _ _ _ _).mp h5
    exact ⟨i, h1, h2, (un_tb _ _ _ _).mpr ⟨j, h4, h3, h6⟩⟩
theorem un_cut {f : Nat → Nat} {m n k : Nat} (hm : m < 2 ^ n) (hn : n ≤ k) : un f m n = un f m k := by
  apply q_ext
  intro b
  rw [Bool.eq_iff_iff, un_tb, un_tb]
  constructor
  · rintro ⟨i, h1, h2⟩; exact ⟨i, by omega, h2⟩
  · rintro ⟨i, h1, h2, h3⟩; exact ⟨i, tb_lt' hm h2, h2, h3⟩
theorem nI_or0 (a : Nat) : nI a ||| 0 = nI a := by
  show nI a ||| nI 0 = _
  rw [q_or, Nat.or_zero]
theorem sX6_find2 {g : Nat → Nat} {oI : Nat → Int32} {oR : Nat → Nat → Int32} {t : Nat → Nat} (b1 : g 1 ≤ 8) (e1 : oI 11 = nI (g 1)) (et : ∀ i, i < 8 → oR 1 i = nI (t i)) {post k35 : (Nat → Int32) → (Nat → Nat → Int32) → Prop} (h : ∀ a b c : Nat → Int32, (∀ j, j < g 1 → a j = nI (t j)) → (∀ j, j < g 1 → c j = nI j) → k35 oI (K3 oR a b c)) : ∃ n, bX6_findKnown_2 post k35 n 0 oI oR := by
  have key : ∀ d i (a b c : Nat → Int32), i + d = g 1 → (∀ j, j < i → a j = nI (t j)) → (∀ j, j < i → c j = nI j) → bX6_findKnown_2 post k35 (d + 1) (nI i) oI (K3 oR a b c) := by
    intro d
    induction d with
    | zero =>
      intro i a b c hi ha hc
      have hi : i = g 1 := by omega
      subst hi
      unfold bX6_findKnown_2
      rw [e1]
      exact pk_le (g 1) (g 1) (fun _ => h a b c ha hc) (fun c => absurd c (by omega))
    | succ d ih =>
      intro i a b c hi ha hc
      unfold bX6_findKnown_2
      rw [e1]
      refine pk_le (g 1) i (fun c => absurd c (by omega)) (fun _ => ⟨i, rfl, by omega, ?_⟩)
      have q1 : K3 oR a b c 1 i = nI (t i) := by rw [K3_ne _ _ _ _ (by decide)]; exact et i (by omega)
      rw [q1]
      refine nm_e (nm_r (nI_1 i) ?_)
      rw [K3_19, K3_21]
      refine ih (i + 1) _ _ _ (by omega) (fun j hj => ?_) (fun j hj => ?_)
      · show upd a i _ j = _
        by_cases e : j = i
        · subst e; exact upd_at
        · rw [upd_ne e]; exact ha j (by omega)
      · show upd c i _ j = _
        by_cases e : j = i
        · subst e; exact upd_at
        · rw [upd_ne e]; exact hc j (by omega)
  have := key (g 1) 0 (oR 19) (oR 20) (oR 21) (by omega) (fun j hj => absurd hj (by omega)) (fun j hj => absurd hj (by omega))
  rw [K3_eta] at this
  exact ⟨_, this⟩
theorem sX6_find37 {g : Nat → Nat} {r : Nat → Nat → Nat} {oI : Nat → Int32} {oR : Nat → Nat → Int32} {t : Nat → Nat} {w p : Nat} (hg : HG g r) (ho : OQ oI oR g r t w p) (hw : w < 2 ^ 31) {post k92 : (Nat → Int32) → (Nat → Nat → Int32) → Prop} {a b c : Nat → Int32} (ha : ∀ j, j < g 1 → a j = nI (t j)) (h : ∀ a : Nat → Int32, (∀ j, j < g 1 → a j = nI (un t (sn r w (g 4) j) 8)) → k92 oI (K3 oR a b c)) : ∃ n, bX6_findKnown_37 post k92 n 0 oI (K3 oR a b c) := by
  have b1 := hg.2.1
  have b4 := hg.2.2.2.2.1
  have bs := hg.2.2.2.2.2.2.2.2.1
  have e4 : oI 12 = nI (g 4) := ho.1.2.2.1
  have ew : oI 22 = nI w := ho.1.2.2.2.2.2.2
  have key : ∀ d i (a : Nat → Int32), i + d = g 4 → (∀ j, j < g 1 → a j = nI (un t (sn r w i j) 8)) → bX6_findKnown_37 post k92 (d + 1) (nI i) oI (K3 oR a b c) := by
    intro d
    induction d with
    | zero =>
      intro i a hi ha
      have hi : i = g 4 := by omega
      subst hi
      unfold bX6_findKnown_37
      rw [e4]
      exact pk_le (g 4) (g 4) (fun _ => h a ha) (fun c => absurd c (by omega))
    | succ d ih =>
      intro i a hi ha
      have bi := bs i (by omega)
      unfold bX6_findKnown_37
      rw [e4, ew, q_bit1 hw (by omega)]
      have q4 : K3 oR a b c 4 i = nI (r 2 i) := by rw [K3_ne _ _ _ _ (by decide)]; exact ho.2.2.2 2 (by decide) (by decide) i (by omega)
      have q5 : K3 oR a b c 5 i = nI (r 3 i) := by rw [K3_ne _ _ _ _ (by decide)]; exact ho.2.2.2 3 (by decide) (by decide) i (by omega)
      have q1 : K3 oR a b c 1 (r 3 i) = nI (t (r 3 i)) := by rw [K3_ne _ _ _ _ (by decide)]; exact ho.2.1 _ (by omega)
      have q19 : K3 oR a b c 19 = a := rfl
      refine pk_le (g 4) i (fun c => absurd c (by omega)) (fun _ => ⟨i, rfl, by omega, r 2 i, q4, by omega, ?_, ?_⟩)
      · intro cw
        have cw : w.testBit i = false := by cases z : w.testBit i; rfl; exact absurd z cw
        refine ⟨r 3 i, q5, by omega, ?_⟩
        rw [q1, q19, ha _ bi.1, q_or]
        refine nm_e (nm_r (nI_1 i) ?_)
        rw [K3_19]
        refine ih (i + 1) _ (by omega) (fun j hj => ?_)
        have es : sn r w (i + 1) = va_up (sn r w i) (r 2 i) (sn r w i (r 2 i) ||| 2 ^ (r 3 i)) := by
          show (if w.testBit i then sn r w i else _) = _
          rw [if_neg (by rw [cw]; decide)]
        rw [es]
        by_cases e : j = r 2 i
        · subst e
          rw [upd_at, va_at', un_or (by omega)]
        · rw [upd_ne e, va_ne' _ _ e]; exact ha j hj
      · intro cw
        rw [q19, ha _ bi.1, nI_or0]
        refine nm_e (nm_r (nI_1 i) ?_)
        rw [K3_19]
        refine ih (i + 1) _ (by omega) (fun j hj => ?_)
        have es : sn r w (i + 1) = sn r w i := by
          show (if w.testBit i then sn r w i else _) = _
          rw [if_pos cw]
        rw [es]
        by_cases e : j = r 2 i
        · subst e; rw [upd_at]
        · rw [upd_ne e]; exact ha j hj
  exact ⟨g 4 + 1, key (g 4) 0 a (by omega) (fun j hj => by rw [ha j hj]; congr 1; exact (un_one (by omega)).symm)⟩
theorem sX6_find129 {g : Nat → Nat} {oI : Nat → Int32} {oR : Nat → Nat → Int32} (b1 : g 1 ≤ 8) (e1 : oI 11 = nI (g 1)) {post k173 : (Nat → Int32) → (Nat → Nat → Int32) → Prop} {x1 : Int32} {A B : Nat} (hA : A < 8) {lab : Nat → Nat} (hl : ∀ j, j < g 1 → lab j < 8) {a b c : Nat → Int32} (hc : ∀ j, j < g 1 → c j = nI (lab j)) (h : ∀ c : Nat → Int32, (∀ j, j < g 1 → c j = nI (if lab j = A then B else lab j)) → k173 oI (K3 oR a b c)) : ∃ n, bX6_findKnown_129 x1 (nI A) (nI B) post k173 n 0 oI (K3 oR a b c) := by
  have key : ∀ d i (c : Nat → Int32), i + d = g 1 → (∀ j, j < g 1 → c j = nI (if lab j = A ∧ j < i then B else lab j)) → bX6_findKnown_129 x1 (nI A) (nI B) post k173 (d + 1) (nI i) oI (K3 oR a b c) := by
    intro d
    induction d with
    | zero =>
      intro i c hi hc
      have hi : i = g 1 := by omega
      subst hi
      unfold bX6_findKnown_129
      rw [e1]
      refine pk_le (g 1) (g 1) (fun _ => h c (fun j hj => ?_)) (fun c => absurd c (by omega))
      rw [hc j hj]; simp [hj]
    | succ d ih =>
      intro i c hi hc
      unfold bX6_findKnown_129
      rw [e1]
      have q21 : K3 oR a b c 21 = c := rfl
      have ci : c i = nI (lab i) := by rw [hc i (by omega)]; simp
      refine pk_le (g 1) i (fun c => absurd c (by omega)) (fun _ => ⟨i, rfl, by omega, ?_⟩)
      have hli := hl i (by omega)
      rw [q21, ci, nI_eq (by omega) (by omega)]
      have nx : ∀ j, j ≠ i → (j < i + 1) = (j < i) := fun j hj => by apply propext; omega
      constructor
      · intro z
        refine nm_e (nm_r (nI_1 i) ?_)
        rw [K3_21]
        refine ih (i + 1) _ (by omega) (fun j hj => ?_)
        by_cases e : j = i
        · subst e; rw [upd_at]; simp [z]
        · rw [upd_ne e, hc j hj]; simp [nx j e]
      · intro z
        refine nm_r (nI_1 i) ?_
        rw [K3_21]
        refine ih (i + 1) _ (by omega) (fun j hj => ?_)
        by_cases e : j = i
        · subst e; rw [upd_at]; simp [z]
        · rw [upd_ne e, hc j hj]; simp [nx j e]
  exact ⟨g 1 + 1, key (g 1) 0 c (by omega) (fun j hj => by rw [hc j hj]; simp)⟩
/-- labels and joined sets say the same -/
theorem lab_step {r : Nat → Nat → Nat} {lab : Nat → Nat} {m i : Nat} (hx : r 4 i < m) (hy : r 5 i < m) (h : ∀ a b, a < m → b < m → (lab a = lab b ↔ (jn r i a).testBit b = true)) : ∀ a b, a < m → b < m → ((if lab a = lab (r 4 i) then lab (r 5 i) else lab a) = (if lab b = lab (r 4 i) then lab (r 5 i) else lab b) ↔ (jn r (i + 1) a).testBit b = true) := by
  intro a b ha hb
  have hall : ∀ q, q < m → ((ja r (jn r i) i).testBit q = true ↔ lab (r 4 i) = lab q ∨ lab (r 5 i) = lab q) := by
    intro q hq
    unfold ja
    rw [Nat.testBit_or, Bool.or_eq_true, ← h _ _ hx hq, ← h _ _ hy hq]
  have e : (jn r (i + 1) a).testBit b = true ↔ (if (ja r (jn r i) i).testBit a then (ja r (jn r i) i).testBit b = true else (jn r i a).testBit b = true) := by
    show (if (ja r (jn r i) i).testBit a then ja r (jn r i) i else jn r i a).testBit b = true ↔ _
    split <;> exact Iff.rfl
  rw [e]
  by_cases c : (ja r (jn r i) i).testBit a = true
  · rw [if_pos c, hall b hb]
    have c := (hall a ha).mp c
    by_cases h1 : lab a = lab (r 4 i) <;> by_cases h2 : lab b = lab (r 4 i)
    · simp [h1, h2]
    · simp only [h1, h2, if_true, if_false]
      constructor
      · intro z; exact Or.inr z
      · rintro (z | z)
        · exact absurd z.symm h2
        · exact z
    · simp only [h1, h2, if_true, if_false]
      have : lab (r 5 i) = lab a := c.resolve_left (fun z => h1 z.symm)
      simp [this]
    · simp only [h1, h2, if_false]
      have : lab (r 5 i) = lab a := c.resolve_left (fun z => h1 z.symm)
      rw [← this]
      constructor
      · intro z; exact Or.inr z
      · rintro (z | z)
        · exact absurd z.symm h2
        · exact z
  · rw [if_neg c, ← h a b ha hb]
    have c : ¬ (lab (r 4 i) = lab a ∨ lab (r 5 i) = lab a) := fun z => c ((hall a ha).mpr z)
    have h1 : ¬ lab a = lab (r 4 i) := fun z => c (Or.inl z.symm)
    have h3 : ¬ lab (r 5 i) = lab a := fun z => c (Or.inr z)
    rw [if_neg h1]
    by_cases h2 : lab b = lab (r 4 i)
    · rw [if_pos h2, h2]
      exact ⟨fun z => absurd z.symm h3, fun z => absurd z h1⟩
    · rw [if_neg h2]
theorem sX6_find94 {g : Nat → Nat} {r : Nat → Nat → Nat} {oI : Nat → Int32} {oR : Nat → Nat → Int32} {t : Nat → Nat} {w p : Nat} (hg : HG g r) (ho : OQ oI oR g r t w p) {post k179 : (Nat → Int32) → (Nat → Nat → Int32) → Prop} {a b c : Nat → Int32} (hc : ∀ j, j < g 1 → c j = nI j) (h : ∀ (c : Nat → Int32) (lab : Nat → Nat), (∀ j, j < g 1 → c j = nI (lab j) ∧ lab j < 8) → (∀ x y, x < g 1 → y < g 1 → (lab x = lab y ↔ (jn r (g 5) x).testBit y = true)) → k179 oI (K3 oR a b c)) : ∃ n, bX6_findKnown_94 post k179 n 0 oI (K3 oR a b c) := by
  have b1 := hg.2.1
  have b5 := hg.2.2.2.2.2.1
  have bt := hg.2.2.2.2.2.2.2.2.2.1
  have e5 : oI 13 = nI (g 5) := ho.1.2.2.2.1
  have key : ∀ d i (c : Nat → Int32) (lab : Nat → Nat), i + d = g 5 → (∀ j, j < g 1 → c j = nI (lab j) ∧ lab j < 8) → (∀ x y, x < g 1 → y < g 1 → (lab x = lab y ↔ (jn r i x).testBit y = true)) → bX6_findKnown_94 post k179 (d + 1) (nI i) oI (K3 oR a b c) := by
    intro d
    induction d with
    | zero =>
      intro i c lab hi hc hl
      have hi : i = g 5 := by omega
      subst hi
      unfold bX6_findKnown_94
      rw [e5]
      exact pk_le (g 5) (g 5) (fun _ => h c lab hc hl) (fun c => absurd c (by omega))
    | succ d ih =>
      intro i c lab hi hc hl
      have bi := bt i (by omega)
      unfold bX6_findKnown_94
      rw [e5]
      have q6 : K3 oR a b c 6 i = nI (r 4 i) := by rw [K3_ne _ _ _ _ (by decide)]; exact ho.2.2.2 4 (by decide) (by decide) i (by omega)
      have q7 : K3 oR a b c 7 i = nI (r 5 i) := by rw [K3_ne _ _ _ _ (by decide)]; exact ho.2.2.2 5 (by decide) (by decide) i (by omega)
      have q21 : K3 oR a b c 21 = c := rfl
      refine pk_le (g 5) i (fun c => absurd c (by omega)) (fun _ => ⟨i, rfl, by omega, r 4 i, q6, by omega, ?_⟩)
      rw [q21, (hc _ bi.1).1]
      refine nm_e ⟨r 5 i, q7, by omega, ?_⟩
      rw [(hc _ bi.2).1]
      refine nm_e (sX6_find129 b1 ho.1.2.1 (hc _ bi.1).2 (fun j hj => (hc j hj).2) (fun j hj => (hc j hj).1) (fun c2 hc2 => nm_r (nI_1 i) ?_))
      refine ih (i + 1) c2 (fun j => if lab j = lab (r 4 i) then lab (r 5 i) else lab j) (by omega) (fun j hj => ⟨hc2 j hj, ?_⟩) (lab_step bi.1 bi.2 hl)
      show (if lab j = lab (r 4 i) then lab (r 5 i) else lab j) < 8
      split
      · exact (hc _ bi.2).2
      · exact (hc j hj).2
  refine ⟨g 5 + 1, key (g 5) 0 c id (by omega) (fun j hj => ⟨hc j hj, by show j < 8; omega⟩) (fun x y _ _ => ?_)⟩
  show x = y ↔ (2 ^ x).testBit y = true
  rw [tb_pow, decide_eq_true_eq]
theorem sX6_find198 {g : Nat → Nat} {r : Nat → Nat → Nat} {oI : Nat → Int32} {oR : Nat → Nat → Int32} {t : Nat → Nat} {w : Nat} (b1 : g 1 ≤ 8) (e1 : oI 11 = nI (g 1)) {post k246 : (Nat → Int32) → (Nat → Nat → Int32) → Prop} {a b c : Nat → Int32} {lab : Nat → Nat} (ha : ∀ j, j < g 1 → a j = nI (un t (sn r w (g 4) j) 8)) (hc : ∀ j, j < g 1 → c j = nI (lab j) ∧ lab j < 8) (hl : ∀ x y, x < g 1 → y < g 1 → (lab x = lab y ↔ (jn r (g 5) x).testBit y = true)) {h0 : Nat} (hh : h0 < g 1) (hb0 : b h0 = 0) (h : ∀ b' : Nat → Int32, (∀ j, j ≠ h0 → b' j = b j) → b' h0 = nI (un (fun o => un t (sn r w (g 4) o) 8) (jn r (g 5) h0) (g 1)) → k246 oI (K3 oR a b' c)) : ∃ n, bX6_findKnown_198 (nI h0) post k246 n 0 oI (K3 oR a b c) := by
  have key : ∀ d i (b' : Nat → Int32), i + d = g 1 → (∀ j, j ≠ h0 → b' j = b j) → b' h0 = nI (un (fun o => un t (sn r w (g 4) o) 8) (jn r (g 5) h0) i) → bX6_findKnown_198 (nI h0) post k246 (d + 1) (nI i) oI (K3 oR a b' c) := by
    intro d
    induction d with
    | zero =>
      intro i b' hi h1 h2
      have hi : i = g 1 := by omega
      subst hi
      unfold bX6_findKnown_198
      rw [e1]
      exact pk_le (g 1) (g 1) (fun _ => h b' h1 h2) (fun c => absurd c (by omega))
    | succ d ih =>
      intro i b' hi h1 h2
      unfold bX6_findKnown_198
      rw [e1]
      have q21 : K3 oR a b' c 21 = c := rfl
      have q20 : K3 oR a b' c 20 = b' := rfl
      have q19 : K3 oR a b' c 19 = a := rfl
      refine pk_le (g 1) i (fun c => absurd c (by omega)) (fun _ => ⟨h0, rfl, by omega, i, rfl, by omega, ?_⟩)
      rw [q21, q20, q19, (hc i (by omega)).1, (hc h0 hh).1, nI_eq (by have := (hc i (by omega)).2; omega) (by have := (hc h0 hh).2; omega), h2, ha i (by omega)]
      have eb := hl h0 i hh (by omega)
      constructor
      · intro z
        have z : ¬ (jn r (g 5) h0).testBit i = true := fun q => z (eb.mpr q).symm
        rw [nI_or0]
        refine nm_e (nm_r (nI_1 i) ?_)
        rw [K3_20]
        refine ih (i + 1) _ (by omega) (fun j hj => by rw [upd_ne hj]; exact h1 j hj) ?_
        rw [upd_at]
        congr 1
        conv => rhs; unfold un
        rw [if_neg z]
      · intro z
        have z := eb.mp z.symm
        rw [q_or]
        refine nm_e (nm_r (nI_1 i) ?_)
        rw [K3_20]
        refine ih (i + 1) _ (by omega) (fun j hj => by rw [upd_ne hj]; exact h1 j hj) ?_
        rw [upd_at]
        congr 1
        have eu : un (fun o => un t (sn r w (g 4) o) 8) (jn r (g 5) h0) (i + 1) = if (jn r (g 5) h0).testBit i then un (fun o => un t (sn r w (g 4) o) 8) (jn r (g 5) h0) i ||| un t (sn r w (g 4) i) 8 else un (fun o => un t (sn r w (g 4) o) 8) (jn r (g 5) h0) i := rfl
        rw [eu, if_pos z]
  exact ⟨g 1 + 1, key (g 1) 0 b (by omega) (fun _ _ => rfl) hb0⟩
theorem sX6_findKnown {g : Nat → Nat} {r : Nat → Nat → Nat} {oI : Nat → Int32} {oR : Nat → Nat → Int32} {t : Nat → Nat} {w p : Nat} (hg : HG g r) (ho : OQ oI oR g r t w p) (hw : w < 2 ^ 31) {post : (Nat → Int32) → (Nat → Nat → Int32) → Prop} (h : ∀ a b c : Nat → Int32, (∀ j, j < g 1 → a j = nI (un t (sn r w (g 4) j) 8)) → (∀ j, j < g 1 → b j = nI (un t (sc r w (g 4) (g 5) j) 8)) → post oI (K3 oR a b c)) : pX6_findKnown oI oR post := by
  have b1 := hg.2.1
  have bt := hg.2.2.2.2.2.2.2.2.2.1
  have e1 : oI 11 = nI (g 1) := ho.1.2.1
  unfold pX6_findKnown
  refine sX6_find2 b1 e1 ho.2.1 (fun a b c ha hc => ?_)
  refine sX6_find37 hg ho hw ha (fun a ha => ?_)
  refine sX6_find94 hg ho hc (fun c lab hc hl => ?_)
  have key : ∀ d i (b : Nat → Int32), i + d = g 1 → (∀ j, j < i → b j = nI (un t (sc r w (g 4) (g 5) j) 8)) → bX6_findKnown_181 post (d + 1) (nI i) oI (K3 oR a b c) := by
    intro d
    induction d with
    | zero =>
      intro i b hi hb
      have hi : i = g 1 := by omega
      subst hi
      unfold bX6_findKnown_181
      rw [e1]
      exact pk_le (g 1) (g 1) (fun _ => h a b c ha hb) (fun c => absurd c (by omega))
    | succ d ih =>
      intro i b hi hb
      unfold bX6_findKnown_181
      rw [e1]
      refine pk_le (g 1) i (fun c => absurd c (by omega)) (fun _ => ⟨i, rfl, by omega, ?_⟩)
      rw [K3_20]
      have q20 : K3 oR a b c 20 = b := rfl
      refine sX6_find198 (r := r) (t := t) (w := w) b1 e1 ha hc hl (by omega) upd_at (fun b' h1 h2 => nm_r (nI_1 i) ?_)
      refine ih (i + 1) b' (by omega) (fun j hj => ?_)
      by_cases e : j = i
      · subst e
        rw [h2, un_cut (jn_lt _ bt j (by omega)) b1]
        congr 1
        exact un_un (sn r w (g 4)) t (jn r (g 5) j)
      · rw [h1 j e, q20, upd_ne e]; exact hb j (by omega)
  exact ⟨g 1 + 1, key (g 1) 0 b (by omega) (fun j hj => absurd hj (by omega))⟩
