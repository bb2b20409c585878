/-! what is known: sights, ties, guesses, over Nat. r 2, r 3: sights; r 4, r 5: ties; r 6, r 7: guesses -/
def sn (r : Nat → Nat → Nat) (w : Nat) : Nat → Nat → Nat
  | 0 => fun h => 2 ^ h
  | k + 1 => if w.testBit k then sn r w k else va_up (sn r w k) (r 2 k) (sn r w k (r 2 k) ||| 2 ^ (r 3 k))
def ja (r : Nat → Nat → Nat) (j : Nat → Nat) (k : Nat) : Nat := j (r 4 k) ||| j (r 5 k)
def jn (r : Nat → Nat → Nat) : Nat → Nat → Nat
  | 0 => fun h => 2 ^ h
  | k + 1 => fun h => if (ja r (jn r k) k).testBit h then ja r (jn r k) k else jn r k h
def sc (r : Nat → Nat → Nat) (w nS nT h : Nat) : Nat := un (sn r w nS) (jn r nT h) 8
def kn (g : Nat → Nat) (r : Nat → Nat → Nat) (t : Nat → Nat) (w S : Nat) : Nat := un t (un (sc r w (g 4) (g 5)) S 8) 8
def rd (r : Nat → Nat → Nat) : Nat → Nat → Nat
  | 0, v => v
  | k + 1, v => if nd (r 6 k) (rd r k v) = 0 then rd r k v ||| 2 ^ (r 7 k) else rd r k v
def itr (f : Nat → Nat) : Nat → Nat → Nat
  | 0, v => v
  | n + 1, v => itr f n (f v)
def cl (g : Nat → Nat) (r : Nat → Nat → Nat) (v : Nat) : Nat := itr (rd r (g 6)) (g 6 + 1) v
def bd (g : Nat → Nat) (r : Nat → Nat → Nat) (t : Nat → Nat) (w p hs what s : Nat) : Bool :=
  if what = 0 then !(cl g r (kn g r t w (nd hs s) ||| p) == 2 ^ (g 0) - 1) else cl g r (kn g r t w (s ||| nd (2 ^ (g 1) - 1) hs)) == 2 ^ (g 0) - 1
def pcn (x : Nat) : Nat → Nat
  | 0 => 0
  | k + 1 => pcn x k + (x.testBit k).toNat
def pc (x : Nat) : Nat := pcn x 31
/-- no set of just so many does it -/
def Ag (g : Nat → Nat) (r : Nat → Nat → Nat) (t : Nat → Nat) (w p hs what many : Nat) : Prop := ∀ s, s < 2 ^ (g 1) → sb s hs → pc s = min many (pc hs) → bd g r t w p hs what s = false
/-- the house's numbers are sound -/
def HG (g : Nat → Nat) (r : Nat → Nat → Nat) : Prop := (1 ≤ g 0 ∧ g 0 ≤ 10) ∧ g 1 ≤ 8 ∧ g 2 < 2 ^ (g 1) ∧ g 3 < 2 ^ (g 0) ∧ g 4 ≤ 12 ∧ g 5 ≤ 12 ∧ g 6 ≤ 12 ∧
  (∀ i, i < g 1 → r 0 i < 2 ^ (g 0) ∧ r 1 i ≤ 100) ∧ (∀ i, i < g 4 → r 2 i < g 1 ∧ r 3 i < g 1) ∧ (∀ i, i < g 5 → r 4 i < g 1 ∧ r 5 i < g 1) ∧ ∀ i, i < g 6 → r 6 i < 2 ^ (g 0) ∧ r 7 i < g 0
/-- the class's house -/
def HR_ (hI : Nat → Int32) (hR : Nat → Nat → Int32) (g : Nat → Nat) (r : Nat → Nat → Nat) : Prop := (∀ k, k < 7 → hI k = nI (g k)) ∧ (∀ k, k < 2 → ∀ i, i < 8 → hR k i = nI (r k i)) ∧ ∀ k, 2 ≤ k → k < 8 → ∀ i, i < 12 → hR k i = nI (r k i)
/-- the class's mind -/
def MB (mI : Nat → Int32) (mR : Nat → Nat → Int32) (g : Nat → Nat) (r : Nat → Nat → Nat) (t : Nat → Nat) (w p hs : Nat) : Prop := mI 0 = nI (2 ^ (g 1) - 1) ∧ mI 1 = nI hs ∧ mI 2 = nI (2 ^ (g 0) - 1) ∧ mI 3 = nI p ∧ (∀ i, i < 8 → mR 0 i = nI (t i)) ∧ (∀ i, i < 8 → mR 1 i = nI (jn r (g 5) i)) ∧ (∀ i, i < 8 → mR 2 i = nI (sn r w (g 4) i)) ∧ ∀ i, i < g 1 → mR 3 i = nI (sc r w (g 4) (g 5) i)
/-- what a question supposes is sound -/
def TG (g : Nat → Nat) (t : Nat → Nat) (p hs : Nat) : Prop := (∀ i, i < g 1 → t i < 2 ^ (g 0)) ∧ p < 2 ^ (g 0) ∧ hs < 2 ^ (g 1)
-- sights
theorem sn_lt {r : Nat → Nat → Nat} {w m : Nat} : ∀ (k : Nat), (∀ i, i < k → r 2 i < m ∧ r 3 i < m) → ∀ h, h < m → sn r w k h < 2 ^ m
  | 0, _, h, hh => Nat.pow_lt_pow_right (by decide) hh
  | k + 1, hr, h, hh => by
    have ih := sn_lt (w := w) k (fun i hi => hr i (by omega))
    unfold sn
    by_cases hw : w.testBit k = true
    · rw [if_pos hw]; exact ih h hh
    · rw [if_neg hw]
      unfold va_up
      by_cases e : h = r 2 k
      · rw [if_pos e]
        exact or_lt (ih _ (hr k (by omega)).1) (Nat.pow_lt_pow_right (by decide) (hr k (by omega)).2)
      · rw [if_neg e]; exact ih h hh
theorem sn_tb {r : Nat → Nat → Nat} {w : Nat} : ∀ (k h q : Nat), (sn r w k h).testBit q = true ↔ h = q ∨ ∃ i, i < k ∧ w.testBit i = false ∧ r 2 i = h ∧ r 3 i = q
  | 0, h, q => by
    show (2 ^ h).testBit q = true ↔ _
    rw [tb_pow, decide_eq_true_eq]
    exact ⟨Or.inl, fun z => z.elim id (fun ⟨i, a, _⟩ => by omega)⟩
  | k + 1, h, q => by
    have ih := sn_tb (r := r) (w := w) k
    unfold sn
    by_cases hw : w.testBit k = true
    · rw [if_pos hw, ih]
      constructor
      · rintro (z | ⟨i, a, b⟩)
        · exact Or.inl z
        · exact Or.inr ⟨i, by omega, b⟩
      · rintro (z | ⟨i, a, b, c⟩)
        · exact Or.inl z
        · have : i ≠ k := fun e => by rw [e, hw] at b; cases b
          exact Or.inr ⟨i, by omega, b, c⟩
    · rw [if_neg hw]
      have hwf : w.testBit k = false := by cases z : w.testBit k; rfl; exact absurd z hw
      unfold va_up
      by_cases e : h = r 2 k
      · rw [if_pos e, Nat.testBit_or, Bool.or_eq_true, ih, tb_pow, decide_eq_true_eq]
        subst e
        constructor
        · rintro ((z | ⟨i, a, b⟩) | z)
          · exact Or.inl z
          · exact Or.inr ⟨i, by omega, b⟩
          · exact Or.inr ⟨k, by omega, hwf, rfl, z⟩
        · rintro (z | ⟨i, a, b, c, d⟩)
          · exact Or.inl (Or.inl z)
          · by_cases hk : i = k
            · subst hk; exact Or.inr d
            · exact Or.inl (Or.inr ⟨i, by omega, b, c, d⟩)
      · rw [if_neg e, ih]
        constructor
        · rintro (z | ⟨i, a, b⟩)
          · exact Or.inl z
          · exact Or.inr ⟨i, by omega, b⟩
        · rintro (z | ⟨i, a, b, c, d⟩)
          · exact Or.inl z
          · have : i ≠ k := fun e2 => e (e2 ▸ c.symm)
            exact Or.inr ⟨i, by omega, b, c, d⟩
/-- more walls, less seen -/
theorem sn_sb {r : Nat → Nat → Nat} {w w' : Nat} (h : sb w w') (k a : Nat) : sb (sn r w' k a) (sn r w k a) := by
  intro q hq
  rcases (sn_tb k a q).mp hq with z | ⟨i, h1, h2, h3⟩
  · exact (sn_tb k a q).mpr (Or.inl z)
  · refine (sn_tb k a q).mpr (Or.inr ⟨i, h1, ?_, h3⟩)
    cases z : w.testBit i
    · rfl
    · rw [h i z] at h2; cases h2
-- ties: jn k is an equivalence
theorem jn_eqv {r : Nat → Nat → Nat} : ∀ (k : Nat), (∀ a, (jn r k a).testBit a = true) ∧ (∀ a b, (jn r k a).testBit b = true → jn r k b = jn r k a)
  | 0 => by
    refine ⟨fun a => ?_, fun a b h => ?_⟩
    · show (2 ^ a).testBit a = true
      rw [tb_pow]; simp
    · have h : (2 ^ a).testBit b = true := h
      rw [tb_pow, decide_eq_true_eq] at h
      rw [h]
  | k + 1 => by
    obtain ⟨h1, h2⟩ := jn_eqv (r := r) k
    have key : ∀ a, (ja r (jn r k) k).testBit a = true → ∀ b, (jn r k a).testBit b = true → (ja r (jn r k) k).testBit b = true := by
      intro a ha b hb
      unfold ja at ha ⊢
      rw [Nat.testBit_or, Bool.or_eq_true] at ha ⊢
      rcases ha with z | z
      · rw [h2 _ _ z] at hb; exact Or.inl hb
      · rw [h2 _ _ z] at hb; exact Or.inr hb
    refine ⟨fun a => ?_, fun a b h => ?_⟩
    · unfold jn
      by_cases c : (ja r (jn r k) k).testBit a = true
      · rw [if_pos c]; exact c
      · rw [if_neg c]; exact h1 a
    · unfold jn at h ⊢
      by_cases c : (ja r (jn r k) k).testBit a = true
      · rw [if_pos c] at h
        rw [if_pos c, if_pos h]
      · rw [if_neg c] at h
        have hb : ¬ (ja r (jn r k) k).testBit b = true := by
          intro hb
          have e := h2 a b h
          have := key b hb a (by rw [e]; exact h1 a)
          exact c this
        rw [if_neg c, if_neg hb]
        exact h2 a b h
theorem jn_lt {r : Nat → Nat → Nat} {m : Nat} : ∀ (k : Nat), (∀ i, i < k → r 4 i < m ∧ r 5 i < m) → ∀ h, h < m → jn r k h < 2 ^ m
  | 0, _, h, hh => Nat.pow_lt_pow_right (by decide) hh
  | k + 1, hr, h, hh => by
    have ih := jn_lt k (fun i hi => hr i (by omega))
    unfold jn
    by_cases c : (ja r (jn r k) k).testBit h = true
    · rw [if_pos c]
      exact or_lt (ih _ (hr k (by omega)).1) (ih _ (hr k (by omega)).2)
    · rw [if_neg c]; exact ih h hh
-- guesses
theorem rd_sb (r : Nat → Nat → Nat) : ∀ (k v : Nat), sb v (rd r k v)
  | 0, v => sb_rfl v
  | k + 1, v => by
    unfold rd
    split
    · exact sb_tr (rd_sb r k v) (sb_l _ _)
    · exact rd_sb r k v
theorem rd_mono (r : Nat → Nat → Nat) : ∀ (k : Nat) {v v' : Nat}, sb v v' → sb (rd r k v) (rd r k v')
  | 0, v, v', h => h
  | k + 1, v, v', h => by
    have ih := rd_mono r k h
    unfold rd
    by_cases c : nd (r 6 k) (rd r k v) = 0
    · have c' : nd (r 6 k) (rd r k v') = 0 := sb_nd.mpr (sb_tr (sb_nd.mp c) ih)
      rw [if_pos c, if_pos c']
      exact sb_or ih (sb_rfl _)
    · rw [if_neg c]
      split
      · exact sb_tr ih (sb_l _ _)
      · exact ih
theorem rd_lt {r : Nat → Nat → Nat} {m : Nat} : ∀ (k v : Nat), (∀ i, i < k → r 7 i < m) → v < 2 ^ m → rd r k v < 2 ^ m
  | 0, v, _, h => h
  | k + 1, v, hr, h => by
    have ih := rd_lt k v (fun i hi => hr i (by omega)) h
    unfold rd
    split
    · exact or_lt ih (Nat.pow_lt_pow_right (by decide) (hr k (by omega)))
    · exact ih
theorem rd_new {r : Nat → Nat → Nat} : ∀ (k v b : Nat), (rd r k v).testBit b = true → v.testBit b = true ∨ ∃ i, i < k ∧ b = r 7 i
  | 0, v, b, h => Or.inl h
  | k + 1, v, b, h => by
    unfold rd at h
    have go : (rd r k v).testBit b = true → v.testBit b = true ∨ ∃ i, i < k + 1 ∧ b = r 7 i := fun h => by
      rcases rd_new k v b h with z | ⟨i, h1, h2⟩
      · exact Or.inl z
      · exact Or.inr ⟨i, by omega, h2⟩
    split at h
    · rw [Nat.testBit_or, Bool.or_eq_true, tb_pow, decide_eq_true_eq] at h
      rcases h with h | h
      · exact go h
      · exact Or.inr ⟨k, by omega, h.symm⟩
    · exact go h
def cnt (r : Nat → Nat → Nat) (v : Nat) : Nat → Nat
  | 0 => 0
  | k + 1 => cnt r v k + (if v.testBit (r 7 k) then 0 else 1)
theorem cnt_le (r : Nat → Nat → Nat) (v : Nat) : ∀ k, cnt r v k ≤ k
  | 0 => Nat.le_refl _
  | k + 1 => by
    have := cnt_le r v k
    unfold cnt
    split <;> omega
theorem cnt_mono {r : Nat → Nat → Nat} {v v' : Nat} (h : sb v v') : ∀ k, cnt r v' k ≤ cnt r v k
  | 0 => Nat.le_refl _
  | k + 1 => by
    have := cnt_mono (r := r) h k
    unfold cnt
    by_cases c : v.testBit (r 7 k) = true
    · rw [if_pos c, if_pos (h _ c)]; omega
    · rw [if_neg c]; split <;> omega
theorem cnt_lt {r : Nat → Nat → Nat} {v v' : Nat} (h : sb v v') : ∀ (k i : Nat), i < k → v.testBit (r 7 i) = false → v'.testBit (r 7 i) = true → cnt r v' k < cnt r v k
  | 0, i, hi, _, _ => by omega
  | k + 1, i, hi, h1, h2 => by
    unfold cnt
    by_cases e : i = k
    · subst e
      have := cnt_mono (r := r) h i
      rw [if_pos h2, if_neg (by rw [h1]; decide)]
      omega
    · have := cnt_lt h k i (by omega) h1 h2
      by_cases c : v.testBit (r 7 k) = true
      · rw [if_pos c, if_pos (h _ c)]; omega
      · rw [if_neg c]; split <;> omega
theorem rd_dec {r : Nat → Nat → Nat} {k v : Nat} (h : rd r k v ≠ v) : cnt r (rd r k v) k < cnt r v k := by
  have hs := rd_sb r k v
  have : ∃ b, (rd r k v).testBit b = true ∧ v.testBit b = false := by
    refine Classical.byContradiction (fun hn => h (sb_anti (fun b hb => ?_) hs))
    cases z : v.testBit b
    · exact absurd ⟨b, hb, z⟩ hn
    · rfl
  obtain ⟨b, h1, h2⟩ := this
  rcases rd_new k v b h1 with z | ⟨i, h3, h4⟩
  · rw [z] at h2; cases h2
  · subst h4
    exact cnt_lt hs k i h3 h2 h1
theorem itr_fix {f : Nat → Nat} {v : Nat} (h : f v = v) : ∀ n, itr f n v = v
  | 0 => rfl
  | n + 1 => by unfold itr; rw [h]; exact itr_fix h n
theorem itr_end (r : Nat → Nat → Nat) (k : Nat) : ∀ (n v : Nat), rd r k (itr (rd r k) n v) = itr (rd r k) n v ∨ cnt r (itr (rd r k) n v) k + n ≤ cnt r v k
  | 0, v => Or.inr (Nat.le_refl _)
  | n + 1, v => by
    by_cases h : rd r k v = v
    · left
      rw [itr_fix h (n + 1)]; exact h
    · have h1 := rd_dec h
      rcases itr_end r k n (rd r k v) with z | z
      · exact Or.inl z
      · right
        show cnt r (itr (rd r k) n (rd r k v)) k + (n + 1) ≤ _
        omega
theorem cl_fix (g : Nat → Nat) (r : Nat → Nat → Nat) (v : Nat) : rd r (g 6) (cl g r v) = cl g r v := by
  rcases itr_end r (g 6) (g 6 + 1) v with z | z
  · exact z
  · have := cnt_le r v (g 6)
    omega
theorem itr_add (f : Nat → Nat) : ∀ (a b v : Nat), itr f (a + b) v = itr f b (itr f a v)
  | 0, b, v => by rw [Nat.zero_add]; rfl
  | a + 1, b, v => by
    rw [Nat.add_right_comm]
    show itr f (a + b) (f v) = itr f b (itr f a (f v))
    exact itr_add f a b (f v)
/-- any still point of the row is the closure -/
theorem cl_of {g : Nat → Nat} {r : Nat → Nat → Nat} {v n : Nat} (h : rd r (g 6) (itr (rd r (g 6)) n v) = itr (rd r (g 6)) n v) : itr (rd r (g 6)) n v = cl g r v := by
  rcases Nat.le_total n (g 6 + 1) with z | z
  · have e := itr_add (rd r (g 6)) n (g 6 + 1 - n) v
    rw [show n + (g 6 + 1 - n) = g 6 + 1 by omega] at e
    unfold cl
    rw [e, itr_fix h]
  · have e := itr_add (rd r (g 6)) (g 6 + 1) (n - (g 6 + 1)) v
    rw [show g 6 + 1 + (n - (g 6 + 1)) = n by omega] at e
    rw [e]
    exact itr_fix (cl_fix g r v) _
theorem itr_mono (r : Nat → Nat → Nat) (k : Nat) : ∀ (n : Nat) {v v' : Nat}, sb v v' → sb (itr (rd r k) n v) (itr (rd r k) n v')
  | 0, _, _, h => h
  | n + 1, _, _, h => itr_mono r k n (rd_mono r k h)
theorem cl_mono (g : Nat → Nat) (r : Nat → Nat → Nat) {v v' : Nat} (h : sb v v') : sb (cl g r v) (cl g r v') := itr_mono r (g 6) _ h
theorem itr_lt {r : Nat → Nat → Nat} {k m : Nat} (hr : ∀ i, i < k → r 7 i < m) : ∀ (n v : Nat), v < 2 ^ m → itr (rd r k) n v < 2 ^ m
  | 0, v, h => h
  | n + 1, v, h => itr_lt hr n (rd r k v) (rd_lt k v hr h)
theorem cl_lt {g : Nat → Nat} {r : Nat → Nat → Nat} (h : HG g r) {v : Nat} (hv : v < 2 ^ (g 0)) : cl g r v < 2 ^ (g 0) := itr_lt (fun i hi => (h.2.2.2.2.2.2.2.2.2.2 i hi).2) _ _ hv
theorem sb_all {a n : Nat} (h : a < 2 ^ n) : sb a (2 ^ n - 1) := fun i hi => by rw [tb_all, decide_eq_true_eq]; exact tb_lt' h hi
/-- all known: nothing more to guess -/
theorem cl_all {g : Nat → Nat} {r : Nat → Nat → Nat} (h : HG g r) : cl g r (2 ^ (g 0) - 1) = 2 ^ (g 0) - 1 := by
  have h1 : rd r (g 6) (2 ^ (g 0) - 1) = 2 ^ (g 0) - 1 := sb_anti (sb_all (rd_lt _ _ (fun i hi => (h.2.2.2.2.2.2.2.2.2.2 i hi).2) (Nat.sub_lt (Nat.two_pow_pos _) (by decide)))) (rd_sb r _ _)
  exact itr_fix h1 _
-- known by telling, sights, ties
theorem sc_lt {g : Nat → Nat} {r : Nat → Nat → Nat} (h : HG g r) (w : Nat) {a : Nat} (ha : a < g 1) : sc r w (g 4) (g 5) a < 2 ^ (g 1) := un_lt (fun i _ hi => sn_lt _ h.2.2.2.2.2.2.2.2.1 i (tb_lt' (jn_lt _ h.2.2.2.2.2.2.2.2.2.1 a ha) hi))
theorem scS_lt {g : Nat → Nat} {r : Nat → Nat → Nat} (h : HG g r) (w : Nat) {S : Nat} (hS : S < 2 ^ (g 1)) : un (sc r w (g 4) (g 5)) S 8 < 2 ^ (g 1) := un_lt (fun i _ hi => sc_lt h w (tb_lt' hS hi))
theorem kn_lt {g : Nat → Nat} {r : Nat → Nat → Nat} (h : HG g r) {t : Nat → Nat} (ht : ∀ i, i < g 1 → t i < 2 ^ (g 0)) (w : Nat) {S : Nat} (hS : S < 2 ^ (g 1)) : kn g r t w S < 2 ^ (g 0) := un_lt (fun i _ hi => ht i (tb_lt' (scS_lt h w hS) hi))
theorem kn_mono {g : Nat → Nat} {r : Nat → Nat → Nat} (h : HG g r) {t t' : Nat → Nat} {w w' S : Nat} (hS : S < 2 ^ (g 1)) (ht : ∀ i, i < g 1 → sb (t i) (t' i)) (hw : sb w' w) : sb (kn g r t w S) (kn g r t' w' S) := by
  refine un_sb (un_sb (sb_rfl S) (fun i _ _ => ?_)) (fun i _ hi => ht i (tb_lt' (scS_lt h w hS) hi))
  exact un_sb (sb_rfl _) (fun j _ _ => sn_sb hw _ _)
/-- who is told more, or sees more, carries no less -/
theorem bd1_mono {g : Nat → Nat} {r : Nat → Nat → Nat} (h : HG g r) {t t' : Nat → Nat} {w w' p p' hs s : Nat} (ht : ∀ i, i < g 1 → sb (t i) (t' i)) (ht' : ∀ i, i < g 1 → t' i < 2 ^ (g 0)) (hw : sb w' w) (hs' : s < 2 ^ (g 1)) (hb : bd g r t w p hs 1 s = true) : bd g r t' w' p' hs 1 s = true := by
  unfold bd at hb ⊢
  rw [if_neg (by decide), beq_iff_eq] at hb ⊢
  have hS : s ||| nd (2 ^ (g 1) - 1) hs < 2 ^ (g 1) := or_lt hs' (nd_lt (Nat.sub_lt (Nat.two_pow_pos _) (by decide)))
  apply sb_anti
  · exact sb_all (cl_lt h (kn_lt h ht' w' hS))
  · rw [← hb]
    exact cl_mono g r (kn_mono h hS ht hw)
theorem Ag1_mono {g : Nat → Nat} {r : Nat → Nat → Nat} (h : HG g r) {t t' : Nat → Nat} {w w' p p' hs j : Nat} (ht : ∀ i, i < g 1 → sb (t i) (t' i)) (ht' : ∀ i, i < g 1 → t' i < 2 ^ (g 0)) (hw : sb w' w) (ha : Ag g r t' w' p' hs 1 j) : Ag g r t w p hs 1 j := by
  intro s h1 h2 h3
  cases z : bd g r t w p hs 1 s
  · rfl
  · have := ha s h1 h2 h3
    rw [bd1_mono h ht ht' hw h1 z] at this
    cases this
