/-! the text: what one statement does -/
theorem sb_eq : ∀ c, c < 256 → ∀ k, k ∈ [59, 62, 103, 104, 112, 115, 116] → (sbt c = nI k ↔ c = k) := by decide +kernel
theorem sb_st : ∀ c, c < 256 → ∀ j, j < 10 → (sbt c - 97 = nI j ↔ c = 97 + j) := by decide +kernel
theorem sb_di : ∀ c, c < 256 → ∀ j, j < 8 → (sbt c - 48 = nI j ↔ c = 48 + j) := by decide +kernel
theorem nb_st : ∀ c, c < 256 → ∀ j, j < 10 → (nI c - 97 = nI j ↔ c = 97 + j) := by decide +kernel
theorem nb_dg : ∀ c, c < 256 → ∀ j, j < 8 → (nI c - 48 = nI j ↔ c = 48 + j) := by decide +kernel
theorem mb_st : ∀ j, j < 10 → ¬ ((-1 : Int32) - 97 = nI j) := by decide +kernel
theorem mb_dg : ∀ j, j < 10 → ¬ ((-1 : Int32) - 48 = nI j) := by decide +kernel
theorem mb_1 : ∀ j, j < 10 → ¬ ((-1 : Int32) = nI j) := by decide +kernel
def TX (n : Nat) (c : Nat → Nat) (tI : Nat → Int32) (tR : Nat → Nat → Int32) : Prop := tI 0 = nI n ∧ n ≤ 80 ∧ ∀ i, i < n → c i < 256 ∧ tR 0 i = sbt (c i)
def OX (n : Nat) (c : Nat → Nat) (oI : Nat → Int32) (oR : Nat → Nat → Int32) : Prop := oI 17 = nI n ∧ n ≤ 80 ∧ ∀ i, i < n → c i < 256 ∧ oR 16 i = nI (c i)
/-- rising letters -/
def rl (N n : Nat) (c : Nat → Nat) : Nat → Nat → Nat → Nat → Nat × Nat
  | 0, s, _, p => (s, p)
  | k + 1, s, l, p => if p < n ∧ 97 ≤ c p ∧ c p - 97 < N ∧ l ≤ c p - 97 then rl N n c k (s ||| 2 ^ (c p - 97)) (c p - 97 + 1) (p + 1) else (s, p)
theorem rl_lt (N n : Nat) (c : Nat → Nat) : ∀ k s l p, s < 2 ^ N → (rl N n c k s l p).1 < 2 ^ N
  | 0, s, _, p, h => h
  | k + 1, s, l, p, h => by
    unfold rl
    split
    · next q => exact rl_lt N n c k _ _ _ (or_lt h (Nat.pow_lt_pow_right (by decide) q.2.2.1))
    · exact h
theorem rl_pl (N n : Nat) (c : Nat → Nat) : ∀ k s l p, p + k = n → p ≤ (rl N n c k s l p).2 ∧ (rl N n c k s l p).2 ≤ n
  | 0, s, _, p, h => ⟨Nat.le_refl _, by show p ≤ n; omega⟩
  | k + 1, s, l, p, h => by
    unfold rl
    split
    · have := rl_pl N n c k (s ||| 2 ^ (c p - 97)) (c p - 97 + 1) (p + 1) (by omega)
      omega
    · exact ⟨Nat.le_refl _, by show p ≤ n; omega⟩
theorem sX4_sign {n p : Nat} {c : Nat → Nat} {tI : Nat → Int32} {tR : Nat → Nat → Int32} (hx : TX n c tI tR) {k : Nat} (hk : k ∈ [59, 62, 103, 104, 112, 115, 116]) {post : Bool → (Nat → Int32) → (Nat → Nat → Int32) → Prop} (hp : p ≤ n) (h1 : p < n → c p = k → post true (va_up tI 1 (nI (p + 1))) tR) (h2 : ¬ (p < n ∧ c p = k) → post false (va_up tI 1 (nI p)) tR) : pX4_readSign (nI k) (va_up tI 1 (nI p)) tR post := by
  unfold pX4_readSign
  rw [show va_up tI 1 (nI p) 0 = nI n from hx.1, va_at']
  have n8 := hx.2.1
  refine pk_le n p (fun q => h2 (by omega)) (fun q => ⟨p, rfl, by omega, ?_⟩)
  rw [(hx.2.2 p q).2, sb_eq _ (hx.2.2 p q).1 k hk]
  refine ⟨fun e => h2 (fun z => e z.2), fun e => nm_r (nI_1 p) ?_⟩
  rw [bx_uu]; exact h1 q e
theorem sX6_sign {n p : Nat} {c : Nat → Nat} {oI : Nat → Int32} {oR : Nat → Nat → Int32} (hx : OX n c oI oR) {post : Int32 → Prop} (hp : p ≤ n) (h1 : p < n → post (nI (c p))) (h2 : ¬ p < n → post (-1)) : pX6_sign (va_up oI 18 (nI p)) oR post := by
  unfold pX6_sign
  rw [show va_up oI 18 (nI p) 17 = nI n from hx.1, va_at']
  have n8 := hx.2.1
  refine pk_le n p (fun q => h2 (by omega)) (fun q => ⟨p, rfl, by omega, ?_⟩)
  rw [(hx.2.2 p q).2]; exact h1 q
theorem sX6_takes {n p : Nat} {c : Nat → Nat} {oI : Nat → Int32} {oR : Nat → Nat → Int32} (hx : OX n c oI oR) {k : Nat} (hk : k < 256) {post : Bool → (Nat → Int32) → (Nat → Nat → Int32) → Prop} (hp : p ≤ n) (h1 : p < n → c p = k → post true (va_up oI 18 (nI (p + 1))) oR) (h2 : ¬ (p < n ∧ c p = k) → post false (va_up oI 18 (nI p)) oR) : pX6_takes (nI k) (va_up oI 18 (nI p)) oR post := by
  unfold pX6_takes
  refine sX6_sign hx hp (fun q => ?_) (fun q => ⟨fun e => absurd e (m1_ne (by omega)), fun _ => h2 (fun z => q z.1)⟩)
  have := (hx.2.2 p q).1
  rw [nI_eq (by omega) (by omega), va_at', nI_1]
  refine ⟨fun e => nm_e ?_, fun e => h2 (fun z => e z.2)⟩
  rw [bx_uu]; exact h1 q e
theorem sX4_readSteps {n p : Nat} {c : Nat → Nat} {N : Nat} (hN : N ≤ 10) {hI : Nat → Int32} {hR : Nat → Nat → Int32} (e0 : hI 0 = nI N) {tI : Nat → Int32} {tR : Nat → Nat → Int32} (hx : TX n c tI tR) {post : Int32 → (Nat → Int32) → (Nat → Nat → Int32) → Prop} (hp : p ≤ n) (h : post (nI (rl N n c (n - p) 0 0 p).1) (va_up tI 1 (nI (rl N n c (n - p) 0 0 p).2)) tR) : pX4_readSteps (va_up tI 1 (nI p)) tR hI hR post := by
  have n8 := hx.2.1
  have key : ∀ k s l p, p + k = n → l ≤ 10 → post (nI (rl N n c k s l p).1) (va_up tI 1 (nI (rl N n c k s l p).2)) tR → bX4_readSteps_4 hI hR post (k + 1) (nI s) (nI l) (va_up tI 1 (nI p)) tR := by
    intro k
    induction k with
    | zero =>
      intro s l p hk hl h
      unfold bX4_readSteps_4
      rw [show va_up tI 1 (nI p) 0 = nI n from hx.1, va_at']
      exact pk_le n p (fun _ => h) (fun q => absurd q (by omega))
    | succ k ih =>
      intro s l p hk hl h
      unfold bX4_readSteps_4
      rw [show va_up tI 1 (nI p) 0 = nI n from hx.1, va_at']
      refine pk_le n p (fun q => absurd q (by omega)) (fun q => ⟨p, rfl, by omega, nm_e ?_⟩)
      have hc := (hx.2.2 p q).1
      rw [(hx.2.2 p q).2]
      unfold rl at h
      by_cases ex : ∃ j, j < N ∧ sbt (c p) - 97 = nI j
      · obtain ⟨j, j1, j2⟩ := ex
        have ec := (sb_st _ hc j (by omega)).mp j2
        rw [j2]
        have ec2 : c p - 97 = j := by omega
        rw [ec2] at h
        refine pk_lt j l (fun jl => ?_) (fun jl => sX1_isStep e0 hN (fun z => absurd ⟨j, j1, rfl⟩ z) (fun _ _ _ => ⟨fun _ => ?_, fun z => (by cases z)⟩))
        · rw [if_neg (by omega)] at h; exact h
        · rw [if_pos (by omega)] at h
          rw [q_shl1 (by omega), q_or]
          refine nm_e (nm_r (nI_1 j) (nm_r (nI_1 p) ?_))
          rw [bx_uu]
          exact ih _ _ _ (by omega) (by omega) h
      · rw [if_neg (fun z => ex ⟨c p - 97, z.2.2.1, (sb_st _ hc _ (by omega)).mpr (by omega)⟩)] at h
        exact ⟨fun _ => h, fun _ => sX1_isStep e0 hN (fun _ => ⟨fun z => (by cases z), fun _ => h⟩) (fun j j1 j2 => absurd ⟨j, j1, j2⟩ ex)⟩
  exact ⟨n - p + 1, key (n - p) 0 0 p (by omega) (by omega) h⟩
theorem sX6_letters {n p : Nat} {c : Nat → Nat} {N : Nat} (hN : N ≤ 10) {oI : Nat → Int32} {oR : Nat → Nat → Int32} (e0 : oI 10 = nI N) (hx : OX n c oI oR) {post : Int32 → (Nat → Int32) → (Nat → Nat → Int32) → Prop} (hp : p ≤ n) (h : post (nI (rl N n c (n - p) 0 0 p).1) (va_up oI 18 (nI (rl N n c (n - p) 0 0 p).2)) oR) : pX6_letters (va_up oI 18 (nI p)) oR post := by
  have n8 := hx.2.1
  have key : ∀ k s l p, p + k = n → l ≤ N → s < 2 ^ l → (s = 0 ∧ l = 0 ∨ 1 ≤ l ∧ 2 ^ (l - 1) ≤ s) → post (nI (rl N n c k s l p).1) (va_up oI 18 (nI (rl N n c k s l p).2)) oR → bX6_letters_2 post (k + 1) (nI s) (va_up oI 18 (nI p)) oR := by
    intro k
    induction k with
    | zero =>
      intro s l p hk hl hs hs2 h
      unfold bX6_letters_2
      refine sX6_sign hx (by omega) (fun q => absurd q (by omega)) (fun _ => ?_)
      exact sX6_isStep (n := N) (oI := va_up oI 18 (nI p)) e0 hN (fun _ => ⟨fun _ => h, fun z => (by cases z)⟩) (fun j j1 j2 => absurd j2 (mb_st j (by omega)))
    | succ k ih =>
      intro s l p hk hl hs hs2 h
      unfold bX6_letters_2
      have q : p < n := by omega
      have hc := (hx.2.2 p q).1
      refine sX6_sign hx (by omega) (fun _ => ?_) (fun z => absurd q z)
      unfold rl at h
      refine sX6_isStep (n := N) (oI := va_up oI 18 (nI p)) e0 hN (fun ex => ⟨fun _ => ?_, fun z => (by cases z)⟩) (fun j j1 j2 => ⟨fun z => (by cases z), fun _ => sX6_sign hx (by omega) (fun _ => ?_) (fun z => absurd q z)⟩)
      · rw [if_neg (fun z => ex ⟨c p - 97, z.2.2.1, (nb_st _ hc _ (by omega)).mpr (by omega)⟩)] at h
        exact h
      · have ec := (nb_st _ hc j (by omega)).mp j2
        have ec2 : c p - 97 = j := by omega
        rw [ec2] at h
        rw [j2, q_shl1 (by omega)]
        have s31 : s < 2 ^ 31 := lt31 hs (by omega)
        have le : 2 ^ j ≤ s ↔ j < l := by
          constructor
          · intro z
            exact (Nat.pow_lt_pow_iff_right (by decide)).mp (Nat.lt_of_le_of_lt z hs)
          · intro z
            rcases hs2 with ⟨_, z2⟩ | ⟨_, z2⟩
            · omega
            · exact Nat.le_trans (Nat.pow_le_pow_right (by decide) (by omega)) z2
        rw [nI_leI (p31 (by omega)) s31, le]
        refine ⟨fun z => ?_, fun z => sX6_sign hx (by omega) (fun _ => ?_) (fun z => absurd q z)⟩
        · rw [if_neg (by omega)] at h; exact h
        · rw [if_pos (by omega)] at h
          rw [j2, q_shl1 (by omega), q_or, va_at', nI_1]
          refine nm_e (nm_e ?_)
          rw [bx_uu]
          refine ih _ _ _ (by omega) (by omega) ?_ (Or.inr ⟨by omega, ?_⟩) h
          · exact or_lt (Nat.lt_of_lt_of_le hs (Nat.pow_le_pow_right (by decide) (by omega))) (Nat.pow_lt_pow_right (by decide) (by omega))
          · rw [Nat.add_sub_cancel]; exact Nat.right_le_or
  exact ⟨n - p + 1, key (n - p) 0 0 p (by omega) (by omega) (by decide) (Or.inl ⟨rfl, rfl⟩) h⟩
theorem sX4_digit {n p : Nat} {c : Nat → Nat} {m : Nat} (hm : m ≤ 8) {hI : Nat → Int32} {hR : Nat → Nat → Int32} (e1 : hI 1 = nI m) {tI : Nat → Int32} {tR : Nat → Nat → Int32} (hx : TX n c tI tR) {x : Int32} {post : Int32 → (Nat → Int32) → (Nat → Nat → Int32) → Prop} (hp : p ≤ n) (h1 : ∀ j, j < m → p < n → c p = 48 + j → nI j ≠ x → post (nI j) (va_up tI 1 (nI (p + 1))) tR) (h2 : (¬ ∃ j, j < m ∧ p < n ∧ c p = 48 + j ∧ nI j ≠ x) → post (-1) (va_up tI 1 (nI p)) tR) : pX4_readDigit x (va_up tI 1 (nI p)) tR hI hR post := by
  unfold pX4_readDigit bX4_readDigit_27
  rw [show va_up tI 1 (nI p) 0 = nI n from hx.1, va_at']
  have n8 := hx.2.1
  refine pk_le n p (fun q => ?_) (fun q => ⟨p, rfl, by omega, ?_⟩)
  · exact sX1_isHand e1 hm (fun _ => ⟨fun _ => h2 (fun ⟨j, _, z, _⟩ => by omega), fun z => (by cases z)⟩) (fun j j1 j2 => absurd j2 (mb_1 j (by omega)))
  · have hc := (hx.2.2 p q).1
    rw [(hx.2.2 p q).2]
    refine sX1_isHand e1 hm (fun ex => ⟨fun _ => h2 ?_, fun z => (by cases z)⟩) (fun j j1 j2 => ⟨fun z => (by cases z), fun _ => ?_⟩)
    · rintro ⟨j, j1, _, j2, _⟩
      exact ex ⟨j, j1, (sb_di _ hc j (by omega)).mpr j2⟩
    · have ec := (sb_di _ hc j (by omega)).mp j2
      rw [j2]
      refine ⟨fun z => nm_r (nI_1 p) ?_, fun z => h2 ?_⟩
      · rw [bx_uu]; exact h1 j j1 q ec z
      · rintro ⟨j', j1', _, j2', j3'⟩
        have : j' = j := by omega
        subst this
        exact j3' z
