/-! masks of few bits as Nat -/
theorem q_ext {a b : Nat} (h : ∀ i, a.testBit i = b.testBit i) : a = b := Nat.eq_of_testBit_eq h
theorem q_and (a b : Nat) : nI a &&& nI b = nI (a &&& b) := by
  apply Int32.toBitVec_inj.1
  show BitVec.ofNat 32 a &&& BitVec.ofNat 32 b = BitVec.ofNat 32 (a &&& b)
  apply BitVec.eq_of_getLsbD_eq
  intro i hi
  simp [hi]
theorem q_or (a b : Nat) : nI a ||| nI b = nI (a ||| b) := by
  apply Int32.toBitVec_inj.1
  show BitVec.ofNat 32 a ||| BitVec.ofNat 32 b = BitVec.ofNat 32 (a ||| b)
  apply BitVec.eq_of_getLsbD_eq
  intro i hi
  simp [hi]
theorem q_xor (a b : Nat) : nI a ^^^ nI b = nI (a ^^^ b) := by
  apply Int32.toBitVec_inj.1
  show BitVec.ofNat 32 a ^^^ BitVec.ofNat 32 b = BitVec.ofNat 32 (a ^^^ b)
  apply BitVec.eq_of_getLsbD_eq
  intro i hi
  simp [hi]
/-- a without b -/
def nd (a b : Nat) : Nat := a ^^^ (a &&& b)
theorem nd_tb (a b i : Nat) : (nd a b).testBit i = (a.testBit i && !b.testBit i) := by
  unfold nd
  rw [Nat.testBit_xor, Nat.testBit_and]
  cases a.testBit i <;> cases b.testBit i <;> rfl
theorem q_m1 : ∀ i, i < 32 → (-1 : Int32).toBitVec.getLsbD i = true := by decide +kernel
theorem q_nd (a b : Nat) : nI a &&& (nI b ^^^ (-1)) = nI (nd a b) := by
  apply Int32.toBitVec_inj.1
  rw [Int32.toBitVec_and, Int32.toBitVec_xor]
  apply BitVec.eq_of_getLsbD_eq
  intro i hi
  rw [BitVec.getLsbD_and, BitVec.getLsbD_xor, q_m1 i hi]
  show ((BitVec.ofNat 32 a).getLsbD i && ((BitVec.ofNat 32 b).getLsbD i ^^ true)) = (BitVec.ofNat 32 (nd a b)).getLsbD i
  rw [BitVec.getLsbD_ofNat, BitVec.getLsbD_ofNat, BitVec.getLsbD_ofNat, nd_tb]
  simp [hi]
theorem nd_le (a b : Nat) : nd a b ≤ a := by
  apply Nat.le_of_testBit
  intro i h
  rw [nd_tb] at h
  cases ha : a.testBit i
  · rw [ha] at h; exact h
  · rfl
theorem q_sm : ∀ n, n < 32 → ((nI n &&& 31).toBitVec.smod 32).toNat = n := by decide +kernel
theorem q_shl1 {j : Nat} (h : j < 31) : (1 : Int32) <<< (nI j &&& 31) = nI (2 ^ j) := by
  have := pk_shlN (n := 1) (nI j &&& 31) j (q_sm j (by omega)) (by rw [Nat.one_mul]; exact Nat.pow_lt_pow_right (by decide) (by omega))
  rw [Nat.one_mul] at this
  exact this
theorem q_shr {a j : Nat} (ha : a < 2 ^ 31) (h : j < 32) : nI a >>> (nI j &&& 31) = nI (a >>> j) := by
  rw [pk_shrN ha (nI j &&& 31) j (q_sm j h), Nat.shiftRight_eq_div_pow]
theorem q_bit {a j : Nat} (ha : a < 2 ^ 31) (h : j < 32) : (nI a >>> (nI j &&& 31)) &&& 1 = nI (a.testBit j).toNat := by
  rw [q_shr ha h]
  show nI (a >>> j) &&& nI 1 = _
  rw [q_and, Nat.and_one_is_mod, Nat.testBit_eq_decide_div_mod_eq, Nat.shiftRight_eq_div_pow]
  rcases Nat.mod_two_eq_zero_or_one (a / 2 ^ j) with e | e <;> simp [e]
theorem q_bit0 {a j : Nat} (ha : a < 2 ^ 31) (h : j < 32) : ((nI a >>> (nI j &&& 31)) &&& 1 = 0) ↔ a.testBit j = false := by
  rw [q_bit ha h]
  cases a.testBit j <;> decide
theorem q_bit1 {a j : Nat} (ha : a < 2 ^ 31) (h : j < 32) : ((nI a >>> (nI j &&& 31)) &&& 1 = 1) ↔ a.testBit j = true := by
  rw [q_bit ha h]
  cases a.testBit j <;> decide
theorem q_all {n : Nat} (h : n < 31) : (1 : Int32) <<< (nI n &&& 31) - 1 = nI (2 ^ n - 1) := by
  rw [q_shl1 h]
  show nI (2 ^ n) - nI 1 = _
  exact pk_sub (Nat.one_le_two_pow)
theorem tb_all (n i : Nat) : (2 ^ n - 1).testBit i = decide (i < n) := Nat.testBit_two_pow_sub_one n i
theorem tb_pow (n i : Nat) : (2 ^ n).testBit i = decide (n = i) := Nat.testBit_two_pow
theorem tb_lt {a n i : Nat} (h : a < 2 ^ n) (hi : n ≤ i) : a.testBit i = false := Nat.testBit_lt_two_pow (Nat.lt_of_lt_of_le h (Nat.pow_le_pow_right (by decide) hi))
theorem tb_lt' {a n i : Nat} (h : a < 2 ^ n) (hi : a.testBit i = true) : i < n := by
  rcases Nat.lt_or_ge i n with z | z
  · exact z
  · rw [tb_lt h z] at hi; cases hi
theorem lt_tb {a n : Nat} (h : ∀ i, a.testBit i = true → i < n) : a < 2 ^ n := by
  apply Nat.lt_pow_two_of_testBit
  intro i hi
  cases hb : a.testBit i
  · rfl
  · exact absurd (h i hb) (by omega)
theorem or_lt {a b n : Nat} (ha : a < 2 ^ n) (hb : b < 2 ^ n) : a ||| b < 2 ^ n := Nat.or_lt_two_pow ha hb
theorem and_lt {a b n : Nat} (ha : a < 2 ^ n) : a &&& b < 2 ^ n := Nat.lt_of_le_of_lt Nat.and_le_left ha
theorem nd_lt {a b n : Nat} (ha : a < 2 ^ n) : nd a b < 2 ^ n := Nat.lt_of_le_of_lt (nd_le a b) ha
theorem p31 {n : Nat} (h : n ≤ 30) : 2 ^ n < 2 ^ 31 := Nat.pow_lt_pow_right (by decide) (by omega)
theorem lt31 {a n : Nat} (ha : a < 2 ^ n) (h : n ≤ 31) : a < 2 ^ 31 := Nat.lt_of_lt_of_le ha (Nat.pow_le_pow_right (by decide) h)
/-- a is within b -/
def sb (a b : Nat) : Prop := ∀ i, a.testBit i = true → b.testBit i = true
theorem sb_nd {a b : Nat} : nd a b = 0 ↔ sb a b := by
  constructor
  · intro h i hi
    have := nd_tb a b i
    rw [h, Nat.zero_testBit, hi] at this
    cases hb : b.testBit i
    · rw [hb] at this; cases this
    · rfl
  · intro h
    apply q_ext
    intro i
    rw [nd_tb, Nat.zero_testBit]
    cases ha : a.testBit i
    · rfl
    · rw [h i ha]; rfl
theorem sb_rfl (a : Nat) : sb a a := fun _ h => h
theorem sb_tr {a b c : Nat} (h1 : sb a b) (h2 : sb b c) : sb a c := fun i h => h2 i (h1 i h)
theorem sb_anti {a b : Nat} (h1 : sb a b) (h2 : sb b a) : a = b := q_ext (fun i => by
  cases ha : a.testBit i <;> cases hb : b.testBit i
  · rfl
  · rw [h2 i hb] at ha; cases ha
  · rw [h1 i ha] at hb; cases hb
  · rfl)
theorem sb_or {a b c d : Nat} (h1 : sb a c) (h2 : sb b d) : sb (a ||| b) (c ||| d) := fun i h => by
  rw [Nat.testBit_or, Bool.or_eq_true] at h ⊢
  rcases h with h | h
  · exact Or.inl (h1 i h)
  · exact Or.inr (h2 i h)
theorem sb_l (a b : Nat) : sb a (a ||| b) := fun i h => by rw [Nat.testBit_or, h]; rfl
theorem nI_z {a : Nat} (h : a < 2 ^ 31) : nI a = 0 ↔ a = 0 := by
  rw [← nI_0]; exact nI_eq h (by decide)
theorem q_nd0 {a b : Nat} (ha : a < 2 ^ 31) : (nI a &&& (nI b ^^^ (-1)) = 0) ↔ sb a b := by
  rw [q_nd, nI_z (Nat.lt_of_le_of_lt (nd_le a b) ha), sb_nd]
/-- joining the sets f i, i below k, that m has -/
def un (f : Nat → Nat) (m : Nat) : Nat → Nat
  | 0 => 0
  | k + 1 => if m.testBit k then un f m k ||| f k else un f m k
theorem un_tb (f : Nat → Nat) (m : Nat) : ∀ (k b : Nat), (un f m k).testBit b = true ↔ ∃ i, i < k ∧ m.testBit i = true ∧ (f i).testBit b = true
  | 0, b => by simp [un]
  | k + 1, b => by
    have ih := un_tb f m k b
    unfold un
    constructor
    · intro h
      by_cases hm : m.testBit k = true
      · rw [if_pos hm, Nat.testBit_or, Bool.or_eq_true] at h
        rcases h with h | h
        · obtain ⟨i, h1, h2⟩ := ih.mp h
          exact ⟨i, by omega, h2⟩
        · exact ⟨k, by omega, hm, h⟩
      · rw [if_neg hm] at h
        obtain ⟨i, h1, h2⟩ := ih.mp h
        exact ⟨i, by omega, h2⟩
    · rintro ⟨i, h1, h2, h3⟩
      by_cases hm : m.testBit k = true
      · rw [if_pos hm, Nat.testBit_or, Bool.or_eq_true]
        by_cases hk : i = k
        · subst hk; exact Or.inr h3
        · exact Or.inl (ih.mpr ⟨i, by omega, h2, h3⟩)
      · rw [if_neg hm]
        have hk : i ≠ k := fun e => hm (e ▸ h2)
        exact ih.mpr ⟨i, by omega, h2, h3⟩
theorem un_lt {f : Nat → Nat} {m n k : Nat} (h : ∀ i, i < k → m.testBit i = true → f i < 2 ^ n) : un f m k < 2 ^ n := by
  apply lt_tb
  intro b hb
  obtain ⟨i, h1, h2, h3⟩ := (un_tb f m k b).mp hb
  exact tb_lt' (h i h1 h2) h3
theorem un_eq {f f' : Nat → Nat} {m k : Nat} (h : ∀ i, i < k → m.testBit i = true → f i = f' i) : un f m k = un f' m k := by
  apply sb_anti
  · intro b hb
    obtain ⟨i, h1, h2, h3⟩ := (un_tb f m k b).mp hb
    exact (un_tb f' m k b).mpr ⟨i, h1, h2, h i h1 h2 ▸ h3⟩
  · intro b hb
    obtain ⟨i, h1, h2, h3⟩ := (un_tb f' m k b).mp hb
    exact (un_tb f m k b).mpr ⟨i, h1, h2, (h i h1 h2).symm ▸ h3⟩
theorem un_sb {f f' : Nat → Nat} {m m' k : Nat} (hm : sb m m') (h : ∀ i, i < k → m.testBit i = true → sb (f i) (f' i)) : sb (un f m k) (un f' m' k) := by
  intro b hb
  obtain ⟨i, h1, h2, h3⟩ := (un_tb f m k b).mp hb
  exact (un_tb f' m' k b).mpr ⟨i, h1, hm i h2, h i h1 h2 b h3⟩
