/-! steps, feed -/
theorem va_self {α : Type} (f : Nat → α) (k : Nat) : f = va_up f k (f k) := (va_eta f k).symm
theorem sX1_steps7 {N m : Nat} (hN : N ≤ 10) (hm : m ≤ 8) {hI : Nat → Int32} {hR : Nat → Nat → Int32} (e0 : hI 0 = nI N) (e1 : hI 1 = nI m) {t : Nat → Nat} {f : Nat → Int32} (hf : ∀ i, i < 8 → f i = nI (t i)) {post k34 : (Nat → Int32) → (Nat → Nat → Int32) → Prop} (h : ∀ f : Nat → Int32, (∀ i, i < 8 → f i = nI (if i < m then t i &&& (2 ^ N - 1) else t i)) → k34 hI (va_up hR 0 f)) : ∃ n, bX1_setSteps_7 post k34 n 0 hI (va_up hR 0 f) := by
  have key : ∀ d i (f : Nat → Int32), i + d = m → (∀ j, j < 8 → f j = nI (if j < i then t j &&& (2 ^ N - 1) else t j)) → bX1_setSteps_7 post k34 (d + 1) (nI i) hI (va_up hR 0 f) := by
    intro d
    induction d with
    | zero =>
      intro i f hi hf
      have hi : i = m := by omega
      subst hi
      unfold bX1_setSteps_7
      rw [e1]
      exact pk_le i i (fun _ => h f hf) (fun c => absurd c (by omega))
    | succ d ih =>
      intro i f hi hf
      unfold bX1_setSteps_7 pX1_it
      rw [e0, e1]
      refine pk_le m i (fun c => absurd c (by omega)) (fun _ => ⟨i, rfl, by omega, ?_⟩)
      rw [q_all (by omega), va_at', hf i (by omega), if_neg (by omega)]
      refine nm_r (q_and _ _) (nm_r (nI_1 i) ?_)
      rw [bx_uu]
      refine ih (i + 1) _ (by omega) (fun j hj => ?_)
      by_cases e : j = i
      · subst e; rw [upd_at, if_pos (by omega)]
      · rw [upd_ne e, hf j hj]
        by_cases c : j < i
        · rw [if_pos c, if_pos (by omega)]
        · rw [if_neg c, if_neg (by omega)]
  exact ⟨m + 1, key m 0 f (by omega) (fun j hj => by rw [if_neg (by omega)]; exact hf j hj)⟩
theorem sX6_steps31 {N m : Nat} (hN : N ≤ 10) (hm : m ≤ 8) {oI : Nat → Int32} {oR : Nat → Nat → Int32} (e0 : oI 10 = nI N) (e1 : oI 11 = nI m) {t : Nat → Nat} {f : Nat → Int32} (hf : ∀ i, i < 8 → f i = nI (t i)) {x3 : Int32} {post : Int32 → (Nat → Int32) → (Nat → Nat → Int32) → Prop} {k60 : (Nat → Int32) → (Nat → Nat → Int32) → Prop} (h : ∀ f : Nat → Int32, (∀ i, i < 8 → f i = nI (if i < m then t i &&& (2 ^ N - 1) else t i)) → k60 oI (va_up oR 1 f)) : ∃ n, bX6_steps_31 x3 post k60 n 0 oI (va_up oR 1 f) := by
  have key : ∀ d i (f : Nat → Int32), i + d = m → (∀ j, j < 8 → f j = nI (if j < i then t j &&& (2 ^ N - 1) else t j)) → bX6_steps_31 x3 post k60 (d + 1) (nI i) oI (va_up oR 1 f) := by
    intro d
    induction d with
    | zero =>
      intro i f hi hf
      have hi : i = m := by omega
      subst hi
      unfold bX6_steps_31
      rw [e1]
      exact pk_le i i (fun _ => h f hf) (fun c => absurd c (by omega))
    | succ d ih =>
      intro i f hi hf
      unfold bX6_steps_31 pX6_all
      rw [e0, e1]
      refine pk_le m i (fun c => absurd c (by omega)) (fun _ => ⟨i, rfl, by omega, ?_⟩)
      rw [q_all (by omega), va_at', hf i (by omega), if_neg (by omega)]
      refine nm_r (q_and _ _) (nm_r (nI_1 i) ?_)
      rw [bx_uu]
      refine ih (i + 1) _ (by omega) (fun j hj => ?_)
      by_cases e : j = i
      · subst e; rw [upd_at, if_pos (by omega)]
      · rw [upd_ne e, hf j hj]
        by_cases c : j < i
        · rw [if_pos c, if_pos (by omega)]
        · rw [if_neg c, if_neg (by omega)]
  exact ⟨m + 1, key m 0 f (by omega) (fun j hj => by rw [if_neg (by omega)]; exact hf j hj)⟩
/-- the guesses that stay -/
def fgt (N : Nat) (a b : Nat → Nat) : Nat → Nat × (Nat → Nat) × (Nat → Nat)
  | 0 => (0, a, b)
  | k + 1 => if (fgt N a b k).2.1 k < 2 ^ N ∧ (fgt N a b k).2.2 k < N then ((fgt N a b k).1 + 1, va_up (fgt N a b k).2.1 (fgt N a b k).1 ((fgt N a b k).2.1 k), va_up (fgt N a b k).2.2 (fgt N a b k).1 ((fgt N a b k).2.2 k)) else fgt N a b k
theorem fgt_s (N : Nat) (a b : Nat → Nat) (k : Nat) : fgt N a b (k + 1) = if (fgt N a b k).2.1 k < 2 ^ N ∧ (fgt N a b k).2.2 k < N then ((fgt N a b k).1 + 1, va_up (fgt N a b k).2.1 (fgt N a b k).1 ((fgt N a b k).2.1 k), va_up (fgt N a b k).2.2 (fgt N a b k).1 ((fgt N a b k).2.2 k)) else fgt N a b k := rfl
theorem fgt_le (N : Nat) (a b : Nat → Nat) : ∀ k, (fgt N a b k).1 ≤ k
  | 0 => Nat.le_refl 0
  | k + 1 => by
    have := fgt_le N a b k
    rw [fgt_s]
    split
    · show (fgt N a b k).1 + 1 ≤ k + 1; omega
    · omega
theorem fgt_ok (N : Nat) (a b : Nat → Nat) : ∀ k i, i < (fgt N a b k).1 → (fgt N a b k).2.1 i < 2 ^ N ∧ (fgt N a b k).2.2 i < N
  | 0, i, h => absurd h (Nat.not_lt_zero i)
  | k + 1, i, h => by
    have ih := fgt_ok N a b k
    rw [fgt_s] at h ⊢
    split at h
    · next c =>
      rw [if_pos c]
      exact pr_add (P := fun x y => x < 2 ^ N ∧ y < N) ih c i h
    · next c =>
      rw [if_neg c]; exact ih i h
theorem fgt_31 {N n : Nat} {a b : Nat → Nat} (h : ∀ i, i < n → a i < 2 ^ 31 ∧ b i < 2 ^ 31) : ∀ k, k ≤ n → ∀ i, i < n → (fgt N a b k).2.1 i < 2 ^ 31 ∧ (fgt N a b k).2.2 i < 2 ^ 31
  | 0, _, i, hi => h i hi
  | k + 1, hk, i, hi => by
    have ih := fgt_31 (N := N) h k (by omega)
    rw [fgt_s]
    split
    · show va_up (fgt N a b k).2.1 (fgt N a b k).1 _ i < 2 ^ 31 ∧ va_up (fgt N a b k).2.2 (fgt N a b k).1 _ i < 2 ^ 31
      by_cases e : i = (fgt N a b k).1
      · rw [← e, va_at', va_at']; exact ih k (by omega)
      · rw [va_ne' _ _ e, va_ne' _ _ e]; exact ih i hi
    · exact ih i hi
theorem exN {N a : Nat} (hN : N < 31) (ha : a < 2 ^ 31) : (∃ j, j < 2 ^ N ∧ nI a = nI j) ↔ a < 2 ^ N := ⟨fun ⟨j, j1, j2⟩ => by rw [nI_eq ha (lt31 j1 (by omega))] at j2; omega, fun h => ⟨a, h, rfl⟩⟩
theorem exN' {N a : Nat} (hN : N < 2 ^ 31) (ha : a < 2 ^ 31) : (∃ j, j < N ∧ nI a = nI j) ↔ a < N := ⟨fun ⟨j, j1, j2⟩ => by rw [nI_eq ha (by omega)] at j2; omega, fun h => ⟨a, h, rfl⟩⟩
theorem sX1_drop {N n : Nat} (hN : N ≤ 10) (hn : n ≤ 12) {hI : Nat → Int32} {hR : Nat → Nat → Int32} (e0 : hI 0 = nI N) (e6 : hI 6 = nI n) {a b : Nat → Nat} (hab : ∀ i, i < n → a i < 2 ^ 31 ∧ b i < 2 ^ 31) (ha : ∀ i, i < 12 → hR 6 i = nI (a i)) (hb : ∀ i, i < 12 → hR 7 i = nI (b i)) {post : (Nat → Int32) → (Nat → Nat → Int32) → Prop} (h : ∀ pf ps : Nat → Int32, (∀ i, i < 12 → pf i = nI ((fgt N a b n).2.1 i)) → (∀ i, i < 12 → ps i = nI ((fgt N a b n).2.2 i)) → post (va_up hI 6 (nI (fgt N a b n).1)) (va_up (va_up hR 6 pf) 7 ps)) : pX1_dropGuesses hI hR post := by
  have key : ∀ d i (pf ps : Nat → Int32), i + d = n → (∀ j, j < 12 → pf j = nI ((fgt N a b i).2.1 j)) → (∀ j, j < 12 → ps j = nI ((fgt N a b i).2.2 j)) → bX1_dropGuesses_18 (nI n) post (d + 1) (nI i) (va_up hI 6 (nI (fgt N a b i).1)) (va_up (va_up hR 6 pf) 7 ps) := by
    intro d
    induction d with
    | zero =>
      intro i pf ps hi hf hs
      have hi : i = n := by omega
      subst hi
      unfold bX1_dropGuesses_18
      exact pk_le i i (fun _ => h pf ps hf hs) (fun c => absurd c (by omega))
    | succ d ih =>
      intro i pf ps hi hf hs
      have hn1 := ih (i + 1)
      rw [fgt_s] at hn1
      have l := fgt_31 (N := N) hab i (by omega) i (by omega)
      have l1 := fgt_le N a b i
      unfold bX1_dropGuesses_18
      refine pk_le n i (fun c => absurd c (by omega)) (fun _ => ⟨i, rfl, by omega, ?_⟩)
      refine nm_r (show va_up (va_up hR 6 pf) 7 ps 6 i = nI ((fgt N a b i).2.1 i) from hf i (by omega)) (nm_r (show va_up (va_up hR 6 pf) 7 ps 7 i = nI ((fgt N a b i).2.2 i) from hs i (by omega)) ?_)
      refine sX1_isStepSet (g := fun _ => N) (hI := va_up hI 6 (nI (fgt N a b i).1)) e0 hN (fun q => ⟨fun _ => nm_r (nI_1 i) ?_, fun c => (by cases c)⟩) (fun j hj ej => ⟨fun c => (by cases c), fun _ => ?_⟩)
      · rw [exN (by omega) l.1] at q
        rw [if_neg (fun z => q z.1)] at hn1
        exact hn1 pf ps (by omega) hf hs
      · have q1 := (exN (by omega) l.1).mp ⟨j, hj, ej⟩
        refine sX1_isStep (n := N) (hI := va_up hI 6 (nI (fgt N a b i).1)) e0 hN (fun q => ⟨fun _ => nm_r (nI_1 i) ?_, fun c => (by cases c)⟩) (fun j2 hj2 ej2 => ⟨fun c => (by cases c), fun _ => ?_⟩)
        · rw [exN' (by omega) l.2] at q
          rw [if_neg (fun z => q z.2)] at hn1
          exact hn1 pf ps (by omega) hf hs
        · have q2 := (exN' (by omega) l.2).mp ⟨j2, hj2, ej2⟩
          rw [if_pos ⟨q1, q2⟩] at hn1
          refine sX3_add (show (fgt N a b i).1 < 12 by omega) (nm_r (nI_1 i) ?_)
          rw [bx_uu]
          have e : va_up (va_up (va_up (va_up hR 6 pf) 7 ps) 6 (upd pf (fgt N a b i).1 (nI ((fgt N a b i).2.1 i)))) 7 (upd ps (fgt N a b i).1 (nI ((fgt N a b i).2.2 i))) = va_up (va_up hR 6 (upd pf (fgt N a b i).1 (nI ((fgt N a b i).2.1 i)))) 7 (upd ps (fgt N a b i).1 (nI ((fgt N a b i).2.2 i))) := by
            funext k
            by_cases e7 : k = 7
            · subst e7; rw [va_at', va_at']
            · rw [va_ne' _ _ e7, va_ne' _ _ e7]
              by_cases e6 : k = 6
              · subst e6; rw [va_at', va_at']
              · rw [va_ne' _ _ e6, va_ne' _ _ e7, va_ne' _ _ e6, va_ne' _ _ e6]
          have := hn1 (upd pf (fgt N a b i).1 (nI ((fgt N a b i).2.1 i))) (upd ps (fgt N a b i).1 (nI ((fgt N a b i).2.2 i))) (by omega) (updN hf) (updN hs)
          rw [← e] at this
          exact this
  refine ⟨n + 1, ?_⟩
  rw [e6]
  have := key n 0 (hR 6) (hR 7) (by omega) ha hb
  rw [va_eta, va_eta] at this
  exact this
theorem sX6_drop {N n : Nat} (hN : N ≤ 10) (hn : n ≤ 12) {oI : Nat → Int32} {oR : Nat → Nat → Int32} (e0 : oI 10 = nI N) (e6 : oI 14 = nI n) {a b : Nat → Nat} (hab : ∀ i, i < n → a i < 2 ^ 31 ∧ b i < 2 ^ 31) (ha : ∀ i, i < 12 → oR 8 i = nI (a i)) (hb : ∀ i, i < 12 → oR 9 i = nI (b i)) {x3 : Int32} {post : Int32 → (Nat → Int32) → (Nat → Nat → Int32) → Prop} (h : ∀ pf ps : Nat → Int32, (∀ i, i < 12 → pf i = nI ((fgt N a b n).2.1 i)) → (∀ i, i < 12 → ps i = nI ((fgt N a b n).2.2 i)) → post x3 (va_up oI 14 (nI (fgt N a b n).1)) (va_up (va_up oR 8 pf) 9 ps)) : ∃ m, bX6_steps_79 x3 post m 0 0 oI oR := by
  have key : ∀ d i (pf ps : Nat → Int32), i + d = n → (∀ j, j < 12 → pf j = nI ((fgt N a b i).2.1 j)) → (∀ j, j < 12 → ps j = nI ((fgt N a b i).2.2 j)) → bX6_steps_79 x3 post (d + 1) (nI (fgt N a b i).1) (nI i) oI (va_up (va_up oR 8 pf) 9 ps) := by
    intro d
    induction d with
    | zero =>
      intro i pf ps hi hf hs
      have hi : i = n := by omega
      subst hi
      unfold bX6_steps_79
      rw [e6]
      exact pk_le i i (fun _ => h pf ps hf hs) (fun c => absurd c (by omega))
    | succ d ih =>
      intro i pf ps hi hf hs
      have hn1 := ih (i + 1)
      rw [fgt_s] at hn1
      have l := fgt_31 (N := N) hab i (by omega) i (by omega)
      have l1 := fgt_le N a b i
      unfold bX6_steps_79
      rw [e6]
      refine pk_le n i (fun c => absurd c (by omega)) (fun _ => ⟨i, rfl, by omega, ?_⟩)
      rw [show va_up (va_up oR 8 pf) 9 ps 8 i = nI ((fgt N a b i).2.1 i) from hf i (by omega), show va_up (va_up oR 8 pf) 9 ps 9 i = nI ((fgt N a b i).2.2 i) from hs i (by omega)]
      refine sX6_isSet (g := fun _ => N) e0 hN (fun q => ⟨fun _ => nm_r (nI_1 i) ?_, fun c => (by cases c)⟩) (fun j hj ej => ⟨fun c => (by cases c), fun _ => ?_⟩)
      · rw [exN (by omega) l.1] at q
        rw [if_neg (fun z => q z.1)] at hn1
        exact hn1 pf ps (by omega) hf hs
      · have q1 := (exN (by omega) l.1).mp ⟨j, hj, ej⟩
        refine sX6_isStep (n := N) e0 hN (fun q => ⟨fun c => (by cases c), fun _ => nm_r (nI_1 i) ?_⟩) (fun j2 hj2 ej2 => ⟨fun _ => nm_e ⟨(fgt N a b i).1, rfl, by omega, nm_e (nm_r (nI_1 _) (nm_r (nI_1 i) ?_))⟩, fun c => (by cases c)⟩)
        · rw [exN' (by omega) l.2] at q
          rw [if_neg (fun z => q z.2)] at hn1
          exact hn1 pf ps (by omega) hf hs
        · have q2 := (exN' (by omega) l.2).mp ⟨j2, hj2, ej2⟩
          rw [if_pos ⟨q1, q2⟩] at hn1
          have e : va_up (va_up (va_up (va_up oR 8 pf) 9 ps) 8 (upd pf (fgt N a b i).1 (nI ((fgt N a b i).2.1 i)))) 9 (upd ps (fgt N a b i).1 (nI ((fgt N a b i).2.2 i))) = va_up (va_up oR 8 (upd pf (fgt N a b i).1 (nI ((fgt N a b i).2.1 i)))) 9 (upd ps (fgt N a b i).1 (nI ((fgt N a b i).2.2 i))) := by
            funext k
            by_cases e7 : k = 9
            · subst e7; rw [va_at', va_at']
            · rw [va_ne' _ _ e7, va_ne' _ _ e7]
              by_cases e6 : k = 8
              · subst e6; rw [va_at', va_at']
              · rw [va_ne' _ _ e6, va_ne' _ _ e7, va_ne' _ _ e6, va_ne' _ _ e6]
          have := hn1 (upd pf (fgt N a b i).1 (nI ((fgt N a b i).2.1 i))) (upd ps (fgt N a b i).1 (nI ((fgt N a b i).2.2 i))) (by omega) (updN hf) (updN hs)
          rw [← e] at this
          exact this
  refine ⟨n + 1, ?_⟩
  have := key n 0 (oR 8) (oR 9) (by omega) ha hb
  rw [va_eta, va_eta] at this
  exact this
