/-! giving out -/
def gvM (k i m s : Nat) : Bool := s % m == i || (decide (1 < k) && (s + 1) % m == i) || (decide (2 < k) && (s + 2) % m == i)
def gv (N k i m s : Nat) : Bool := if k = 0 then true else if k = 4 then (decide (s < N / 2) == decide (i < m / 2)) else gvM k i m s
def fmI (x0 x1 : Int32) : Int32 := if 0 ≤ (x0 ^^^ x1) then x0 - x0 / x1 * x1 else if x0 - x0 / x1 * x1 = 0 then x0 - x0 / x1 * x1 else x0 - x0 / x1 * x1 + x1
def fmB (m i s k : Nat) : Bool := decide (m = 0) || decide (m ≤ i) || decide (k = 0) || (decide (nI k ≤ fmI (nI i - nI s) (nI m)) == !gvM k i m s)
def fmA : Bool := (List.range 9).all fun m => (List.range 8).all fun i => (List.range 10).all fun s => (List.range 4).all fun k => fmB m i s k
theorem fmA_ok : fmA = true := by decide +kernel
theorem fm_ok {m i s k : Nat} (hm : m < 9) (hi : i < 8) (hs : s < 10) (hk : k < 4) : fmB m i s k = true := by
  have h := fmA_ok
  unfold fmA at h
  simp only [List.all_eq_true, List.mem_range] at h
  exact h m hm i hi s hs k hk
theorem sJ9 {x0 x1 : Int32} (h0 : ¬ x1 = 0) {post : Int32 → Prop} (h : post (fmI x0 x1)) : pJ9_floorMod_7cf53 x0 x1 post := by
  unfold fmI at h
  refine ⟨h0, nm_e ⟨fun c => ?_, fun c => ⟨fun d => ?_, fun d => ?_⟩⟩⟩
  · rw [if_pos c] at h; exact h
  · rw [if_neg c, if_pos d] at h; exact h
  · rw [if_neg c, if_neg d] at h; exact h
theorem kf_lt (P : Nat → Bool) : ∀ k, kf P k < 2 ^ k
  | 0 => by show (0 : Nat) < 2 ^ 0; decide
  | k + 1 => by
    have ih := kf_lt P k
    have h1 : 2 ^ k < 2 ^ (k + 1) := Nat.pow_lt_pow_right (by decide) (by omega)
    unfold kf
    split
    · exact or_lt (by omega) h1
    · omega
theorem gv4 {N i m s : Nat} : gv N 4 i m s = (decide (s < N / 2) == decide (i < m / 2)) := rfl
theorem dv2 {a : Nat} (ha : a < 2 ^ 31) : nI a / 2 = nI (a / 2) := pk_div (d := 2) ha (by decide) (by decide)
theorem sX2_isGiven {hI : Nat → Int32} {hR : Nat → Nat → Int32} {mI : Nat → Int32} {mR : Nat → Nat → Int32} {N k i m s : Nat} (e0 : hI 0 = nI N) (hN : N ≤ 10) (hk : k < 5) (hm : m ≤ 8) (him : i < m) (hs : s < 10) {post : Bool → Prop} (h : post (gv N k i m s)) : pX2_isGiven (nI s) (nI i) (nI m) (nI k) hI hR mI mR post := by
  have ge1 : (1 : Int32) ≤ nI m := nI_le (a := 1) (by omega) (by omega)
  have m0 : ¬ nI m = 0 := fun e => by rw [nI_z (by omega)] at e; omega
  unfold pX2_isGiven
  by_cases k0 : k = 0
  · subst k0
    exact ⟨fun _ => h, fun q => absurd rfl q⟩
  · have n0 : ¬ nI k = 0 := fun e => by rw [nI_z (by omega)] at e; omega
    refine ⟨fun q => absurd q n0, fun _ => ⟨fun _ => ?_, fun q => absurd ge1 q⟩⟩
    by_cases k4 : k = 4
    · subst k4
      refine ⟨fun q => absurd rfl q, fun _ => ?_⟩
      unfold bX2_isGiven_36
      rw [e0, dv2 (by omega), dv2 (by omega)]
      rw [gv4] at h
      refine pk_le (N / 2) s (fun c => pk_le (m / 2) i (fun c2 => ⟨fun q => absurd rfl q, fun _ => ?_⟩) (fun c2 => ⟨fun _ => ?_, fun q => absurd q (by decide)⟩)) (fun c => pk_le (m / 2) i (fun c2 => ⟨fun _ => ?_, fun q => absurd q (by decide)⟩) (fun c2 => ⟨fun q => absurd rfl q, fun _ => ?_⟩))
      · rw [decide_eq_false (show ¬ s < N / 2 by omega), decide_eq_false (show ¬ i < m / 2 by omega)] at h; exact h
      · rw [decide_eq_false (show ¬ s < N / 2 by omega), decide_eq_true (show i < m / 2 by omega)] at h; exact h
      · rw [decide_eq_true (show s < N / 2 by omega), decide_eq_false (show ¬ i < m / 2 by omega)] at h; exact h
      · rw [decide_eq_true (show s < N / 2 by omega), decide_eq_true (show i < m / 2 by omega)] at h; exact h
    · have n4 : ¬ nI k = 4 := fun e => k4 ((nI_eq (b := 4) (by omega) (by decide)).mp e)
      have eg : gv N k i m s = gvM k i m s := by unfold gv; rw [if_neg k0, if_neg k4]
      rw [eg] at h
      refine ⟨fun _ => sJ9 m0 ?_, fun q => absurd q n4⟩
      have z := fm_ok (m := m) (i := i) (s := s) (k := k) (by omega) (by omega) hs (by omega)
      unfold fmB at z
      rw [decide_eq_false (show ¬ m = 0 by omega), decide_eq_false (show ¬ m ≤ i by omega), decide_eq_false k0, Bool.false_or, Bool.false_or, Bool.false_or, beq_iff_eq] at z
      refine ⟨fun c => ?_, fun c => ?_⟩
      · rw [decide_eq_true c] at z
        have c : gvM k i m s = false := by cases q : gvM k i m s; rfl; rw [q] at z; cases z
        rw [c] at h; exact h
      · rw [decide_eq_false c] at z
        have c : gvM k i m s = true := by cases q : gvM k i m s; rw [q] at z; cases z; rfl
        rw [c] at h; exact h
theorem sX2_givenTo {hI : Nat → Int32} {hR : Nat → Nat → Int32} {mI : Nat → Int32} {mR : Nat → Nat → Int32} {N k i m : Nat} (e0 : hI 0 = nI N) (hN : N ≤ 10) (hk : k < 5) (hm : m ≤ 8) (him : i < m) {post : Int32 → Prop} (h : post (nI (kf (gv N k i m) N))) : pX2_givenTo (nI i) (nI m) (nI k) hI hR mI mR post := by
  have key : ∀ d s, s + d = N → bX2_givenTo_6 (nI i) (nI m) (nI k) hI hR mI mR post (d + 1) (nI (kf (gv N k i m) s)) (nI s) := by
    intro d
    induction d with
    | zero =>
      intro s hs
      have hs : s = N := by omega
      subst hs
      unfold bX2_givenTo_6
      rw [e0]
      exact pk_le s s (fun _ => h) (fun c => absurd c (by omega))
    | succ d ih =>
      intro s hs
      have hn := ih (s + 1) (by omega)
      unfold bX2_givenTo_6
      rw [e0, q_shl1 (by omega), q_or]
      refine pk_le N s (fun c => absurd c (by omega)) (fun _ => sX2_isGiven e0 hN hk hm him (by omega) ⟨fun c => ?_, fun c => ?_⟩)
      · rw [kf_f c] at hn
        exact nm_r (nI_1 s) hn
      · rw [kf_t c] at hn
        exact nm_e (nm_r (nI_1 s) hn)
  exact ⟨_, key N 0 (by omega)⟩
theorem s116 {oI : Nat → Int32} {oR : Nat → Nat → Int32} {P : Nat → Bool} {s : Nat} (hs : s < 31) {x1 x2 x3 : Int32} {post : Int32 → Prop} {q6 : Int32 → Int32 → Prop} (hn : q6 (nI (kf P (s + 1))) (nI (s + 1))) {b : Bool} (hb : P s = b) : bX6_given_116 x1 x2 x3 (nI (kf P s)) (nI s) (zb b) oI oR post q6 := by
  unfold bX6_given_116
  rw [q_shl1 hs, q_or, nI_or0]
  cases b
  · rw [kf_f hb] at hn
    exact ⟨fun _ => nm_e (nm_r (nI_1 s) hn), fun q => absurd rfl q⟩
  · rw [kf_t hb] at hn
    exact ⟨fun q => absurd q (by decide), fun _ => nm_e (nm_r (nI_1 s) hn)⟩
theorem sX6_given {oI : Nat → Int32} {oR : Nat → Nat → Int32} {N k i m : Nat} (e0 : oI 10 = nI N) (hN : N ≤ 10) (hk : k < 5) (hm : m ≤ 8) (him : i < m) {post : Int32 → Prop} (h : post (nI (kf (gv N k i m) N))) : pX6_given (nI k) (nI i) (nI m) oI oR post := by
  have m0 : ¬ nI m = 0 := fun e => by rw [nI_z (by omega)] at e; omega
  have key : ∀ d s, s + d = N → bX6_given_6 (nI k) (nI i) (nI m) oI oR post (d + 1) (nI (kf (gv N k i m) s)) (nI s) := by
    intro d
    induction d with
    | zero =>
      intro s hs
      have hs : s = N := by omega
      subst hs
      unfold bX6_given_6
      rw [e0]
      exact pk_le s s (fun _ => h) (fun c => absurd c (by omega))
    | succ d ih =>
      intro s hs
      have hn := ih (s + 1) (by omega)
      have r0 : nI s - nI s / nI m * nI m = nI (s % m) := pk_rem (by omega) (by omega) (by omega)
      have r1 : (nI s + 1) - (nI s + 1) / nI m * nI m = nI ((s + 1) % m) := by rw [nI_1]; exact pk_rem (by omega) (by omega) (by omega)
      have r2 : (nI s + 2) - (nI s + 2) / nI m * nI m = nI ((s + 2) % m) := by
        rw [show nI s + 2 = nI (s + 2) from nI_add s 2]; exact pk_rem (by omega) (by omega) (by omega)
      have l0 := Nat.mod_lt s (show 0 < m by omega)
      have l1 := Nat.mod_lt (s + 1) (show 0 < m by omega)
      have l2 := Nat.mod_lt (s + 2) (show 0 < m by omega)
      have st : ∀ {b : Bool}, gv N k i m s = b → bX6_given_116 (nI k) (nI i) (nI m) (nI (kf (gv N k i m) s)) (nI s) (zb b) oI oR post (bX6_given_6 (nI k) (nI i) (nI m) oI oR post (d + 1)) := fun hb => s116 (by omega) hn hb
      unfold bX6_given_6
      rw [e0]
      refine pk_le N s (fun c => absurd c (by omega)) (fun _ => ?_)
      have hk5 : k = 0 ∨ k = 1 ∨ k = 2 ∨ k = 3 ∨ k = 4 := by omega
      rcases hk5 with e | e | e | e | e <;> subst e
      · exact ⟨fun q => absurd rfl q, fun _ => st (b := true) rfl⟩
      · have eg : gv N 1 i m s = gvM 1 i m s := rfl
        refine ⟨fun _ => ⟨fun _ => ⟨m0, pk_eq (s % m) i (fun c => st (b := true) ?_) (fun c => ⟨fun _ => ⟨fun _ => st (b := false) ?_, fun q => absurd (by decide) q⟩, fun q => absurd (by decide) q⟩) r0 rfl⟩, fun q => absurd q (by decide)⟩, fun q => absurd q (by decide)⟩
        · rw [eg]; simp [gvM, c]
        · rw [eg]; simp [gvM, c]
      · have eg : gv N 2 i m s = gvM 2 i m s := rfl
        refine ⟨fun _ => ⟨fun _ => ⟨m0, pk_eq (s % m) i (fun c => st (b := true) ?_) (fun c => ⟨fun q => absurd q (by decide), fun _ => ⟨m0, pk_eq ((s + 1) % m) i (fun c2 => st (b := true) ?_) (fun c2 => ⟨fun _ => st (b := false) ?_, fun q => absurd (by decide) q⟩) r1 rfl⟩⟩) r0 rfl⟩, fun q => absurd q (by decide)⟩, fun q => absurd q (by decide)⟩
        · rw [eg]; simp [gvM, c]
        · rw [eg]; simp [gvM, c2]
        · rw [eg]; simp [gvM, c, c2]
      · have eg : gv N 3 i m s = gvM 3 i m s := rfl
        refine ⟨fun _ => ⟨fun _ => ⟨m0, pk_eq (s % m) i (fun c => st (b := true) ?_) (fun c => ⟨fun q => absurd q (by decide), fun _ => ⟨m0, pk_eq ((s + 1) % m) i (fun c2 => st (b := true) ?_) (fun c2 => ⟨fun q => absurd q (by decide), fun _ => ⟨m0, And.comm.mp (pk_eq ((s + 2) % m) i (fun c3 => st (b := true) ?_) (fun c3 => st (b := false) ?_) r2 rfl)⟩⟩) r1 rfl⟩⟩) r0 rfl⟩, fun q => absurd q (by decide)⟩, fun q => absurd q (by decide)⟩
        · rw [eg]; simp [gvM, c]
        · rw [eg]; simp [gvM, c2]
        · rw [eg]; simp [gvM, c3]
        · rw [eg]; simp [gvM, c, c2, c3]
      · refine ⟨fun _ => ⟨fun q => absurd rfl q, fun _ => ?_⟩, fun q => absurd q (by decide)⟩
        unfold bX6_given_46
        rw [dv2 (by omega), dv2 (by omega)]
        refine pk_le (N / 2) s (fun c => pk_le (m / 2) i (fun c2 => ⟨fun q => absurd rfl q, fun _ => st (b := true) ?_⟩) (fun c2 => ⟨fun _ => st (b := false) ?_, fun q => absurd q (by decide)⟩)) (fun c => pk_le (m / 2) i (fun c2 => ⟨fun _ => st (b := false) ?_, fun q => absurd q (by decide)⟩) (fun c2 => ⟨fun q => absurd rfl q, fun _ => st (b := true) ?_⟩))
        · rw [gv4, decide_eq_false (show ¬ s < N / 2 by omega), decide_eq_false (show ¬ i < m / 2 by omega)]; rfl
        · rw [gv4, decide_eq_false (show ¬ s < N / 2 by omega), decide_eq_true (show i < m / 2 by omega)]; rfl
        · rw [gv4, decide_eq_true (show s < N / 2 by omega), decide_eq_false (show ¬ i < m / 2 by omega)]; rfl
        · rw [gv4, decide_eq_true (show s < N / 2 by omega), decide_eq_true (show i < m / 2 by omega)]; rfl
  exact ⟨_, key N 0 (by omega)⟩
-- who is told what
def gT (g : Nat → Nat) (r : Nat → Nat → Nat) (k h : Nat) : Nat := if (hs0 g).testBit h then kf (gv (g 0) k (pcn (hs0 g) h) (pc (hs0 g))) (g 0) else r 0 h
def gn (g : Nat → Nat) (r : Nat → Nat → Nat) (k : Nat) : Nat → Nat
  | 0 => 0
  | h + 1 => if (hs0 g).testBit h then gn g r k h + pc (gT g r k h) else gn g r k h
theorem gT_f {g : Nat → Nat} {r : Nat → Nat → Nat} {k h : Nat} (e : (hs0 g).testBit h = false) : gT g r k h = r 0 h := if_neg (by rw [e]; decide)
theorem gT_t {g : Nat → Nat} {r : Nat → Nat → Nat} {k h : Nat} (e : (hs0 g).testBit h = true) : gT g r k h = kf (gv (g 0) k (pcn (hs0 g) h) (pc (hs0 g))) (g 0) := if_pos e
theorem gn_f {g : Nat → Nat} {r : Nat → Nat → Nat} {k h : Nat} (e : (hs0 g).testBit h = false) : gn g r k (h + 1) = gn g r k h := if_neg (by rw [e]; decide)
theorem gn_t {g : Nat → Nat} {r : Nat → Nat → Nat} {k h : Nat} (e : (hs0 g).testBit h = true) : gn g r k (h + 1) = gn g r k h + pc (gT g r k h) := if_pos e
theorem pcn_mono (x : Nat) : ∀ d k, pcn x k ≤ pcn x (k + d)
  | 0, k => Nat.le_refl _
  | d + 1, k => by
    have := pcn_mono x d k
    have e : pcn x (k + (d + 1)) = pcn x (k + d) + (x.testBit (k + d)).toNat := rfl
    omega
theorem pcn_t {x k : Nat} (e : x.testBit k = true) : pcn x (k + 1) = pcn x k + 1 := by
  show pcn x k + (x.testBit k).toNat = _
  rw [e]; rfl
theorem pcn_f {x k : Nat} (e : x.testBit k = false) : pcn x (k + 1) = pcn x k := by
  show pcn x k + (x.testBit k).toNat = _
  rw [e]; rfl
theorem pcn_ltc {x k : Nat} (hk : k < 31) (e : x.testBit k = true) : pcn x k < pc x := by
  have h1 := pcn_mono x (31 - (k + 1)) (k + 1)
  rw [show k + 1 + (31 - (k + 1)) = 31 by omega, pcn_t e] at h1
  exact h1
theorem gT_lt {g : Nat → Nat} {r : Nat → Nat → Nat} (hg : HG g r) {k h : Nat} (hh : h < g 1) : gT g r k h < 2 ^ (g 0) := by
  unfold gT
  split
  · exact kf_lt _ _
  · exact (hg.2.2.2.2.2.2.2.1 h hh).1
theorem tgG {g : Nat → Nat} {r : Nat → Nat → Nat} (hg : HG g r) (k : Nat) : TG g (gT g r k) (g 3) (hs0 g) := ⟨fun _ hi => gT_lt hg hi, (tg0 hg).2⟩
theorem pcH {g : Nat → Nat} {r : Nat → Nat → Nat} (hg : HG g r) : pc (hs0 g) ≤ 8 := by
  have b1 := hg.2.1
  have := pc_len (hs0_lt g) (show g 1 ≤ 31 by omega)
  omega
theorem gn_le {g : Nat → Nat} {r : Nat → Nat → Nat} (hg : HG g r) (k : Nat) : ∀ h, h ≤ g 1 → gn g r k h ≤ 10 * h
  | 0, _ => Nat.le_refl _
  | h + 1, hh => by
    have ih := gn_le hg k h (by omega)
    have b0 := hg.1
    have := pc_len (gT_lt hg (k := k) (h := h) (by omega)) (show g 0 ≤ 31 by omega)
    unfold gn
    split <;> omega
theorem sX2_giveOut {g : Nat → Nat} {r : Nat → Nat → Nat} {hI : Nat → Int32} {hR : Nat → Nat → Int32} {mI : Nat → Int32} {mR : Nat → Nat → Int32} (hg : HG g r) (hh : HR_ hI hR g r) (hm1 : mI 1 = nI (hs0 g)) {t : Nat → Nat} (h0 : ∀ i, i < 8 → mR 0 i = nI (t i)) (ht : ∀ i, (hs0 g).testBit i = false → t i = r 0 i) {k : Nat} (hk : k < 5) {post : Int32 → (Nat → Int32) → (Nat → Nat → Int32) → Prop} (h : ∀ f : Nat → Int32, (∀ i, i < 8 → f i = nI (gT g r k i)) → post (nI (gn g r k (g 1))) mI (va_up mR 0 f)) : pX2_giveOut (nI k) hI hR mI mR post := by
  have b0 := hg.1
  have b1 := hg.2.1
  have e0 : hI 0 = nI (g 0) := hh.1 0 (by decide)
  have e1 : hI 1 = nI (g 1) := hh.1 1 (by decide)
  have p8 : 2 ^ (g 1) ≤ 2 ^ 8 := Nat.pow_le_pow_right (by decide) b1
  have p10 : 2 ^ (g 0) ≤ 2 ^ 10 := Nat.pow_le_pow_right (by decide) b0.2
  have hl := hs0_lt g
  have pm := pcH hg
  have key : ∀ d j (f : Nat → Int32), j + d = g 1 → (∀ i, i < 8 → f i = nI (if i < j then gT g r k i else t i)) → bX2_giveOut_16 (nI k) (nI (pc (hs0 g))) hI hR post (d + 1) (nI (pcn (hs0 g) j)) (nI (gn g r k j)) (nI j) mI (va_up mR 0 f) := by
    intro d
    induction d with
    | zero =>
      intro j f hj hf
      have hj : j = g 1 := by omega
      subst hj
      unfold bX2_giveOut_16
      rw [e1]
      refine pk_le (g 1) (g 1) (fun _ => h f (fun i hi => ?_)) (fun c => absurd c (by omega))
      rw [hf i hi]
      by_cases c : i < g 1
      · rw [if_pos c]
      · have e := tb_lt hl (show g 1 ≤ i by omega)
        rw [if_neg c, gT_f e, ht i e]
    | succ d ih =>
      intro j f hj hf
      unfold bX2_giveOut_16 pX2_isHere
      rw [e1, hm1, va_at']
      refine pk_le (g 1) j (fun c => absurd c (by omega)) (fun _ => sX5_contains (lt31 hl (by omega)) (by omega) ⟨fun c => ?_, fun c => ?_⟩)
      · have hn := ih (j + 1) f (by omega) (fun i hi => by
          rw [hf i hi]
          by_cases e : i = j
          · subst e; rw [if_neg (by omega), if_pos (by omega), gT_f c, ht i c]
          · have : (i < j + 1) = (i < j) := by apply propext; omega
            simp only [this])
        rw [pcn_f c, gn_f c] at hn
        exact nm_r (nI_1 j) hn
      · have hlt := pcn_ltc (show j < 31 by omega) c
        refine sX2_givenTo e0 b0.2 hk pm hlt ?_
        rw [← gT_t (r := r) (k := k) c]
        have gl := gT_lt hg (k := k) (show j < g 1 by omega)
        refine ⟨j, rfl, by omega, ?_⟩
        rw [upd_at, bx_uu]
        refine sJ6 (by omega) (nm_r (nI_add _ _) (nm_r (nI_1 _) (nm_r (nI_1 j) ?_)))
        have hn := ih (j + 1) (upd f j (nI (gT g r k j))) (by omega) (fun i hi => by
          by_cases e : i = j
          · subst e; rw [upd_at, if_pos (by omega)]
          · rw [upd_ne e, hf i hi]
            have : (i < j + 1) = (i < j) := by apply propext; omega
            simp only [this])
        rw [pcn_t c, gn_t c] at hn
        exact hn
  unfold pX2_giveOut
  rw [hm1]
  refine sJ6 (by omega) ⟨g 1 + 1, ?_⟩
  have := key (g 1) 0 (mR 0) (by omega) (fun i hi => by rw [if_neg (by omega)]; exact h0 i hi)
  rw [va_eta] at this
  exact this
