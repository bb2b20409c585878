/-! the reference's questions -/
def OK_ (oI : Nat → Int32) (oR : Nat → Nat → Int32) (g : Nat → Nat) (r : Nat → Nat → Nat) (t : Nat → Nat) (w p : Nat) : Prop := OQ oI oR g r t w p ∧ ∀ j, j < g 1 → oR 20 j = nI (un t (sc r w (g 4) (g 5) j) 8)
theorem sX6_guess14 {g : Nat → Nat} {r : Nat → Nat → Nat} {oI : Nat → Int32} {oR : Nat → Nat → Int32} {t : Nat → Nat} {w p : Nat} (hg : HG g r) (ho : OQ oI oR g r t w p) {v : Nat} (hv : v < 2 ^ (g 0)) {x3 : Int32} {post : Int32 → Prop} {k59 : Int32 → Prop} (h : k59 (nI (rd r (g 6) v))) : ∃ n, bX6_guessedFrom_14 x3 oI oR post k59 n (nI v) 0 := by
  have b0 := hg.1
  have b6 := hg.2.2.2.2.2.2.1
  have bg := hg.2.2.2.2.2.2.2.2.2.2
  have e6 : oI 14 = nI (g 6) := ho.1.2.2.2.2.1
  have key : ∀ d i, i + d = g 6 → bX6_guessedFrom_14 x3 oI oR post k59 (d + 1) (nI (rd r i v)) (nI i) := by
    intro d
    induction d with
    | zero =>
      intro i hi
      have hi : i = g 6 := by omega
      subst hi
      unfold bX6_guessedFrom_14
      rw [e6]
      exact pk_le (g 6) (g 6) (fun _ => h) (fun c => absurd c (by omega))
    | succ d ih =>
      intro i hi
      have hn := ih (i + 1) (by omega)
      unfold bX6_guessedFrom_14
      rw [e6]
      refine pk_le (g 6) i (fun c => absurd c (by omega)) (fun _ => ⟨i, rfl, by omega, ?_⟩)
      rw [ho.2.2.2 6 (by decide) (by decide) i (by omega), ho.2.2.2 7 (by decide) (by decide) i (by omega), q_nd, nI_z (lt31 (nd_lt (bg i (by omega)).1) (by omega)), nI_or0]
      unfold rd at hn
      constructor
      · intro c
        rw [if_neg c] at hn
        exact nm_e (nm_r (nI_1 i) hn)
      · intro c
        rw [if_pos c] at hn
        refine nm_r (e' := nI (rd r i v ||| 2 ^ (r 7 i))) ?_ (nm_r (nI_1 i) hn)
        rw [q_shl1 (by have := (bg i (by omega)).2; omega), q_or]
  exact ⟨g 6 + 1, key (g 6) 0 (by omega)⟩
theorem m1_ne {a : Nat} (h : a < 2 ^ 31) : ¬ (-1 : Int32) = nI a := fun e => by
  have h1 := nI_pos h
  rw [← e] at h1
  exact h1 (by decide)
theorem sX6_guessedFrom {g : Nat → Nat} {r : Nat → Nat → Nat} {oI : Nat → Int32} {oR : Nat → Nat → Int32} {t : Nat → Nat} {w p : Nat} (hg : HG g r) (ho : OQ oI oR g r t w p) {v : Nat} (hv : v < 2 ^ (g 0)) {post : Int32 → Prop} (h : post (nI (cl g r v))) : pX6_guessedFrom (nI v) oI oR post := by
  have b0 := hg.1
  have bg := hg.2.2.2.2.2.2.2.2.2.2
  have hF : ∀ i, i < g 6 → r 7 i < g 0 := fun i hi => (bg i hi).2
  have lt := fun j => lt31 (itr_lt hF j v hv) (show g 0 ≤ 31 by omega)
  have key : ∀ d j, j + d = g 6 + 1 → bX6_guessedFrom_4 oI oR post (d + 1) (nI (itr (rd r (g 6)) (j + 1) v)) (nI (itr (rd r (g 6)) j v)) := by
    intro d
    induction d with
    | zero =>
      intro j hj
      have es : itr (rd r (g 6)) (j + 1) v = rd r (g 6) (itr (rd r (g 6)) j v) := itr_add (rd r (g 6)) j 1 v
      have hj : j = g 6 + 1 := by omega
      subst hj
      have hf := cl_fix g r v
      unfold bX6_guessedFrom_4
      rw [es]
      have e : rd r (g 6) (itr (rd r (g 6)) (g 6 + 1) v) = itr (rd r (g 6)) (g 6 + 1) v := hf
      rw [e]
      exact ⟨fun _ => h, fun c => absurd rfl c⟩
    | succ d ih =>
      intro j hj
      have es : itr (rd r (g 6)) (j + 1) v = rd r (g 6) (itr (rd r (g 6)) j v) := itr_add (rd r (g 6)) j 1 v
      have es2 : itr (rd r (g 6)) (j + 1 + 1) v = rd r (g 6) (itr (rd r (g 6)) (j + 1) v) := itr_add (rd r (g 6)) (j + 1) 1 v
      have hn := ih (j + 1) (by omega)
      unfold bX6_guessedFrom_4
      rw [nI_eq (lt j) (lt (j + 1))]
      constructor
      · intro c
        rw [← c, cl_of (by rw [← es]; exact c.symm)]
        exact h
      · intro c
        refine sX6_guess14 hg ho (itr_lt hF (j + 1) v hv) ?_
        rw [← es2]; exact hn
  refine ⟨g 6 + 1 + 2, ?_⟩
  unfold bX6_guessedFrom_4
  refine ⟨fun c => absurd c (m1_ne (lt31 hv (by omega))), fun _ => sX6_guess14 hg ho hv ?_⟩
  exact key (g 6 + 1) 0 (by omega)
theorem sX6_knownBy {g : Nat → Nat} {r : Nat → Nat → Nat} {oI : Nat → Int32} {oR : Nat → Nat → Int32} {t : Nat → Nat} {w p : Nat} (hg : HG g r) (ho : OK_ oI oR g r t w p) (ht : ∀ i, i < g 1 → t i < 2 ^ (g 0)) (hp : p < 2 ^ (g 0)) {S : Nat} (hS : S < 2 ^ (g 1)) {z : Bool} {post : Int32 → Prop} (h : post (nI (cl g r (kn g r t w S ||| (if z then p else 0))))) : pX6_knownBy (nI S) z oI oR post := by
  have b0 := hg.1
  have b1 := hg.2.1
  have e1 : oI 11 = nI (g 1) := ho.1.1.2.1
  have hk := kn_lt hg ht w hS
  have ek : un (fun h => un t (sc r w (g 4) (g 5) h) 8) S (g 1) = kn g r t w S := by
    rw [un_cut hS b1]; exact un_un (sc r w (g 4) (g 5)) t S
  have key : ∀ (q : Nat) (k55 : Int32 → Prop), k55 (nI (q ||| kn g r t w S)) → ∃ n, bX6_knownBy_16 (nI S) oI oR post k55 n (nI q) 0 := by
    intro q k55 hk55
    have key : ∀ d i, i + d = g 1 → bX6_knownBy_16 (nI S) oI oR post k55 (d + 1) (nI (q ||| un (fun h => un t (sc r w (g 4) (g 5) h) 8) S i)) (nI i) := by
      intro d
      induction d with
      | zero =>
        intro i hi
        have hi : i = g 1 := by omega
        subst hi
        unfold bX6_knownBy_16
        rw [e1, ek]
        exact pk_le (g 1) (g 1) (fun _ => hk55) (fun c => absurd c (by omega))
      | succ d ih =>
        intro i hi
        have hn := ih (i + 1) (by omega)
        have eu : un (fun h => un t (sc r w (g 4) (g 5) h) 8) S (i + 1) = if S.testBit i then un (fun h => un t (sc r w (g 4) (g 5) h) 8) S i ||| un t (sc r w (g 4) (g 5) i) 8 else un (fun h => un t (sc r w (g 4) (g 5) h) 8) S i := rfl
        rw [eu] at hn
        unfold bX6_knownBy_16
        rw [e1, q_bit1 (lt31 hS (by omega)) (by omega)]
        refine pk_le (g 1) i (fun c => absurd c (by omega)) (fun _ => ⟨fun c => ?_, fun c => ⟨i, rfl, by omega, ?_⟩⟩)
        · rw [if_neg c] at hn
          rw [nI_or0]
          exact nm_e (nm_r (nI_1 i) hn)
        · rw [if_pos c, ← Nat.or_assoc] at hn
          rw [ho.2 i (by omega), q_or]
          exact nm_e (nm_r (nI_1 i) hn)
    have := key (g 1) 0 (by omega)
    have e0 : q ||| un (fun h => un t (sc r w (g 4) (g 5) h) 8) S 0 = q := Nat.or_zero q
    rw [e0] at this
    exact ⟨_, this⟩
  unfold pX6_knownBy
  constructor
  · intro c
    subst c
    refine key 0 _ ?_
    rw [Nat.zero_or]
    refine sX6_guessedFrom hg ho.1 hk ?_
    rw [if_neg (by decide), Nat.or_zero] at h
    exact h
  · intro c
    subst c
    rw [ho.1.1.2.2.2.2.2.1]
    refine key p _ ?_
    rw [Nat.or_comm]
    refine sX6_guessedFrom hg ho.1 (or_lt hk hp) ?_
    rw [if_pos rfl] at h
    exact h
theorem pcn_le (x : Nat) : ∀ k, pcn x k ≤ k
  | 0 => Nat.le_refl _
  | k + 1 => by
    have := pcn_le x k
    unfold pcn
    cases x.testBit k <;> simp <;> omega
theorem pc_le (x : Nat) : pc x ≤ 31 := pcn_le x 31
theorem sX6_bits {x : Nat} (hx : x < 2 ^ 31) {post : Int32 → Prop} (h : post (nI (pc x))) : pX6_bits (nI x) post := by
  have key : ∀ d i, i + d = 31 → bX6_bits_4 (nI x) post (d + 1) (nI (pcn x i)) (nI i) := by
    intro d
    induction d with
    | zero =>
      intro i hi
      have hi : i = 31 := by omega
      subst hi
      exact pk_le 31 31 (fun _ => h) (fun c => absurd c (by omega))
    | succ d ih =>
      intro i hi
      have hn := ih (i + 1) (by omega)
      unfold bX6_bits_4
      rw [q_bit hx (by omega), nI_add]
      refine pk_le 31 i (fun c => absurd c (by omega)) (fun _ => nm_e (nm_r (nI_1 i) hn))
  exact ⟨32, key 31 0 rfl⟩
theorem sX6_overSet {g : Nat → Nat} {r : Nat → Nat → Nat} {oI : Nat → Int32} {oR : Nat → Nat → Int32} (hg : HG g r) (e1 : oI 11 = nI (g 1)) (e3 : ∀ i, i < 8 → oR 3 i = nI ((g 2).testBit i).toNat) {post : Int32 → Prop} (h : post (nI (g 2))) : pX6_overSet oI oR post := by
  have b1 := hg.2.1
  have b2 := hg.2.2.1
  have key : ∀ d i, i + d = g 1 → bX6_overSet_4 oI oR post (d + 1) (nI (g 2 % 2 ^ i)) (nI i) := by
    intro d
    induction d with
    | zero =>
      intro i hi
      have hi : i = g 1 := by omega
      subst hi
      unfold bX6_overSet_4
      rw [e1, Nat.mod_eq_of_lt b2]
      exact pk_le (g 1) (g 1) (fun _ => h) (fun c => absurd c (by omega))
    | succ d ih =>
      intro i hi
      have hn := ih (i + 1) (by omega)
      unfold bX6_overSet_4
      rw [e1]
      refine pk_le (g 1) i (fun c => absurd c (by omega)) (fun _ => ⟨i, rfl, by omega, ?_⟩)
      have hb : ((g 2).testBit i).toNat ≤ 1 := by cases (g 2).testBit i <;> decide
      have hp : 2 ^ i ≤ 2 ^ 8 := Nat.pow_le_pow_right (by decide) (by omega)
      have hm : ((g 2).testBit i).toNat * 2 ^ i < 2 ^ 32 := by
        have : ((g 2).testBit i).toNat * 2 ^ i ≤ 1 * 2 ^ 8 := Nat.mul_le_mul hb hp
        exact Nat.lt_of_le_of_lt this (by decide)
      rw [e3 i (by omega), pk_shlN (nI i &&& 31) i (q_sm i (by omega)) hm, q_or]
      refine nm_r (e' := nI (g 2 % 2 ^ (i + 1))) ?_ (nm_r (nI_1 i) hn)
      congr 1
      apply q_ext
      intro b
      rw [Nat.testBit_or, Nat.testBit_mod_two_pow, Nat.testBit_mod_two_pow]
      cases c : (g 2).testBit i
      · simp only [Bool.toNat_false, Nat.zero_mul, Nat.zero_testBit, Bool.or_false]
        by_cases e : b = i
        · subst e; simp [c]
        · have : (decide (b < i + 1)) = (decide (b < i)) := by congr 1; apply propext; omega
          rw [this]
      · simp only [Bool.toNat_true, Nat.one_mul, tb_pow]
        by_cases e : b = i
        · subst e; simp [c]
        · have : (decide (b < i + 1)) = (decide (b < i)) := by congr 1; apply propext; omega
          rw [this]
          have : decide (i = b) = false := decide_eq_false (fun z => e z.symm)
          rw [this, Bool.or_false]
  have := key (g 1) 0 (by omega)
  rw [Nat.pow_zero, Nat.mod_one] at this
  exact ⟨_, this⟩
def hs0 (g : Nat → Nat) : Nat := nd (2 ^ (g 1) - 1) (g 2)
theorem hs0_lt (g : Nat → Nat) : hs0 g < 2 ^ (g 1) := nd_lt (Nat.sub_lt (Nat.two_pow_pos (g 1)) (by decide))
theorem sX6_houseSet {g : Nat → Nat} {r : Nat → Nat → Nat} {oI : Nat → Int32} {oR : Nat → Nat → Int32} (hg : HG g r) (e1 : oI 11 = nI (g 1)) (e3 : ∀ i, i < 8 → oR 3 i = nI ((g 2).testBit i).toNat) {post : Int32 → Prop} (h : post (nI (hs0 g))) : pX6_houseSet oI oR post := by
  have b1 := hg.2.1
  unfold pX6_houseSet
  refine sX6_overSet hg e1 e3 ?_
  rw [e1, q_all (by omega), q_nd]
  exact h
theorem sX6_losesIt {g : Nat → Nat} {r : Nat → Nat → Nat} {oI : Nat → Int32} {oR : Nat → Nat → Int32} {t : Nat → Nat} {w p hs : Nat} (hg : HG g r) (ho : OK_ oI oR g r t w p) (ht : TG g t p hs) {s : Nat} {post : Bool → Prop} (h : post (bd g r t w p hs 0 s)) : pX6_losesIt (nI s) (nI hs) oI oR post := by
  have b0 := hg.1
  unfold pX6_losesIt
  rw [q_nd]
  have hS : nd hs s < 2 ^ (g 1) := nd_lt ht.2.2
  refine sX6_knownBy hg ho ht.1 ht.2.1 hS ?_
  unfold pX6_all
  have hk := cl_lt hg (or_lt (kn_lt hg ht.1 w hS) ht.2.1)
  have pt : 2 ^ (g 0) - 1 < 2 ^ (g 0) := Nat.sub_lt (Nat.two_pow_pos (g 0)) (by decide)
  rw [ho.1.1.1, q_all (by omega), if_pos rfl]
  dsimp only
  rw [nI_eq (lt31 hk (by omega)) (lt31 pt (by omega))]
  unfold bd at h
  rw [if_pos rfl] at h
  constructor
  · intro z
    rw [z, beq_self_eq_true] at h; exact h
  · intro z
    rw [beq_false_of_ne z] at h; exact h
theorem sX6_carriesIt {g : Nat → Nat} {r : Nat → Nat → Nat} {oI : Nat → Int32} {oR : Nat → Nat → Int32} {t : Nat → Nat} {w p hs : Nat} (hg : HG g r) (ho : OK_ oI oR g r t w p) (ht : TG g t p hs) {s : Nat} (hs' : s < 2 ^ (g 1)) {post : Bool → Prop} (h : post (bd g r t w p hs 1 s)) : pX6_carriesIt (nI s) (nI hs) oI oR post := by
  have b0 := hg.1
  have b1 := hg.2.1
  unfold pX6_carriesIt
  rw [ho.1.1.2.1, q_all (by omega), q_nd, q_or]
  have ph : 2 ^ (g 1) - 1 < 2 ^ (g 1) := Nat.sub_lt (Nat.two_pow_pos (g 1)) (by decide)
  have hS : s ||| nd (2 ^ (g 1) - 1) hs < 2 ^ (g 1) := or_lt hs' (nd_lt ph)
  refine sX6_knownBy hg ho ht.1 ht.2.1 hS ?_
  unfold pX6_all
  have hk := cl_lt hg (kn_lt hg ht.1 w hS)
  have pt : 2 ^ (g 0) - 1 < 2 ^ (g 0) := Nat.sub_lt (Nat.two_pow_pos (g 0)) (by decide)
  rw [ho.1.1.1, q_all (by omega), if_neg (by decide), Nat.or_zero]
  dsimp only
  rw [nI_eq (lt31 hk (by omega)) (lt31 pt (by omega))]
  unfold bd at h
  rw [if_neg (by decide)] at h
  constructor
  · intro z
    rw [beq_false_of_ne z] at h; exact h
  · intro z
    rw [z, beq_self_eq_true] at h; exact h
theorem sX6_holdsAgainst {g : Nat → Nat} {r : Nat → Nat → Nat} {oI : Nat → Int32} {oR : Nat → Nat → Int32} {t : Nat → Nat} {w p : Nat} (hg : HG g r) (ho : OK_ oI oR g r t w p) (ht : TG g t p (hs0 g)) {many : Nat} (hm : many ≤ 8) {z : Bool} {post : Bool → Prop} (h : ∀ b : Bool, (b = true ↔ Ag g r t w p (hs0 g) z.toNat many) → post b) : pX6_holdsAgainst (nI many) z oI oR post := by
  have b0 := hg.1
  have b1 := hg.2.1
  have e1 : oI 11 = nI (g 1) := ho.1.1.2.1
  have hl := hs0_lt g
  have hp := pc_le (hs0 g)
  have p8 : 2 ^ (g 1) ≤ 2 ^ 8 := Nat.pow_le_pow_right (by decide) b1
  unfold pX6_holdsAgainst
  refine sX6_houseSet hg e1 ho.1.2.2.1 ?_
  have key : ∀ j, j = min many (pc (hs0 g)) → ∃ n, bX6_holdsAgainst_26 (zb z) (nI (hs0 g)) (nI j) oI oR post (post false) n 0 := by
    intro j hj
    have hj31 : j < 2 ^ 31 := by omega
    have key : ∀ d i, i + d = 2 ^ (g 1) → (∀ s, s < i → sb s (hs0 g) → pc s = j → bd g r t w p (hs0 g) z.toNat s = false) → bX6_holdsAgainst_26 (zb z) (nI (hs0 g)) (nI j) oI oR post (post false) (d + 1) (nI i) := by
      intro d
      induction d with
      | zero =>
        intro i hi hf
        have hi : i = 2 ^ (g 1) := by omega
        subst hi
        unfold bX6_holdsAgainst_26
        rw [e1, q_shl1 (by omega)]
        refine pk_le (2 ^ (g 1)) (2 ^ (g 1)) (fun _ => h true ⟨fun _ => ?_, fun _ => rfl⟩) (fun c => absurd c (by omega))
        intro s h1 h2 h3
        exact hf s h1 h2 (by rw [h3, hj])
      | succ d ih =>
        intro i hi hf
        have hi31 : i < 2 ^ 31 := by omega
        have nx : ∀ {P : Prop}, (P → bd g r t w p (hs0 g) z.toNat i = false) → (sb i (hs0 g) → pc i = j → P) → bX6_holdsAgainst_26 (zb z) (nI (hs0 g)) (nI j) oI oR post (post false) (d + 1) (nI (i + 1)) := by
          intro P h1 h2
          refine ih (i + 1) (by omega) (fun s hs h3 h4 => ?_)
          by_cases e : s = i
          · subst e; exact h1 (h2 h3 h4)
          · exact hf s (by omega) h3 h4
        have bad : sb i (hs0 g) → pc i = j → bd g r t w p (hs0 g) z.toNat i = true → post false := by
          intro h1 h2 h3
          refine h false ⟨fun e => (by cases e), fun ha => ?_⟩
          have := ha i (by omega) h1 (by rw [h2, hj])
          rw [h3] at this; exact this.symm
        unfold bX6_holdsAgainst_26
        rw [e1, q_shl1 (by omega), q_nd0 hi31]
        refine pk_le (2 ^ (g 1)) i (fun c => absurd c (by omega)) (fun _ => ⟨fun c => ?_, fun c => ?_⟩)
        · exact nm_r (nI_1 i) (nx (P := False) False.elim (fun h1 _ => c h1))
        · refine sX6_bits hi31 ?_
          refine pk_eq (pc i) j (fun e => ?_) (fun e => ?_) rfl rfl (by have := pc_le i; omega) hj31
          · cases z
            · refine ⟨fun _ => sX6_losesIt hg ho ht ?_, fun q => absurd rfl q⟩
              constructor
              · intro q; exact nm_r (nI_1 i) (nx (P := True) (fun _ => q) (fun _ _ => trivial))
              · intro q; exact bad c e q
            · refine ⟨fun q => absurd q (by decide), fun _ => sX6_carriesIt hg ho ht (by omega) ?_⟩
              constructor
              · intro q; exact nm_r (nI_1 i) (nx (P := True) (fun _ => q) (fun _ _ => trivial))
              · intro q; exact bad c e q
          · exact nm_r (nI_1 i) (nx (P := False) False.elim (fun _ h2 => e h2))
    exact ⟨_, key (2 ^ (g 1)) 0 (by omega) (fun s hs => absurd hs (by omega))⟩
  refine sX6_bits (lt31 hl (by omega)) ?_
  refine pk_le (pc (hs0 g)) many (fun c => ?_) (fun c => ?_)
  · refine sX6_bits (lt31 hl (by omega)) ?_
    exact key _ (by omega)
  · exact key _ (by omega)
