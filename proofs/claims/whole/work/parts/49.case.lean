/-! years by seeds, and those who go one behind the other -/
def drw (s : Int32) : Int32 := ((s &&& 2147483647) / 65536) - ((s &&& 2147483647) / 65536) / 100 * 100
def nxt (s : Int32) : Int32 := (s * 1103515245) + 12345
theorem nxt_e (s : Int32) : (s * 1103515245) + 12345 = nxt s := rfl
theorem drw_e (s : Int32) : ((s &&& 2147483647) / 65536) - ((s &&& 2147483647) / 65536) / 100 * 100 = drw s := rfl
/-- one year: who is here, how many went, the seed -/
def hl (r : Nat → Nat → Nat) (s : Nat × Nat × Int32) : Nat → Nat × Nat × Int32
  | 0 => s
  | k + 1 => if (hl r s k).1.testBit k then (if nI (r 1 k) ≤ drw (nxt (hl r s k).2.2) then ((hl r s k).1, (hl r s k).2.1, nxt (hl r s k).2.2) else (nd (hl r s k).1 (2 ^ k), (hl r s k).2.1 + 1, nxt (hl r s k).2.2)) else hl r s k
theorem hl_0 {r : Nat → Nat → Nat} {s : Nat × Nat × Int32} {k : Nat} (h : (hl r s k).1.testBit k = false) : hl r s (k + 1) = hl r s k := if_neg (by rw [h]; decide)
theorem hl_1 {r : Nat → Nat → Nat} {s : Nat × Nat × Int32} {k : Nat} (h : (hl r s k).1.testBit k = true) (h2 : nI (r 1 k) ≤ drw (nxt (hl r s k).2.2)) : hl r s (k + 1) = ((hl r s k).1, (hl r s k).2.1, nxt (hl r s k).2.2) := (if_pos h).trans (if_pos h2)
theorem hl_2 {r : Nat → Nat → Nat} {s : Nat × Nat × Int32} {k : Nat} (h : (hl r s k).1.testBit k = true) (h2 : ¬ nI (r 1 k) ≤ drw (nxt (hl r s k).2.2)) : hl r s (k + 1) = (nd (hl r s k).1 (2 ^ k), (hl r s k).2.1 + 1, nxt (hl r s k).2.2) := (if_pos h).trans (if_neg h2)
theorem hl_lt {r : Nat → Nat → Nat} {s : Nat × Nat × Int32} {m : Nat} (h : s.1 < 2 ^ m) : ∀ k, (hl r s k).1 < 2 ^ m
  | 0 => h
  | k + 1 => by
    have ih := hl_lt (r := r) h k
    unfold hl
    split
    · split
      · exact ih
      · exact nd_lt ih
    · exact ih
theorem hl_0' {r : Nat → Nat → Nat} {s : Nat × Nat × Int32} {k a w : Nat} {q : Int32} (e : hl r s k = (a, w, q)) (h : a.testBit k = false) : hl r s (k + 1) = (a, w, q) := by
  have h3 := hl_0 (r := r) (s := s) (k := k) (by rw [e]; exact h)
  rw [e] at h3; exact h3
theorem hl_1' {r : Nat → Nat → Nat} {s : Nat × Nat × Int32} {k a w : Nat} {q : Int32} (e : hl r s k = (a, w, q)) (h : a.testBit k = true) (h2 : nI (r 1 k) ≤ drw (nxt q)) : hl r s (k + 1) = (a, w, nxt q) := by
  have h3 := hl_1 (r := r) (s := s) (k := k) (by rw [e]; exact h) (by rw [e]; exact h2)
  rw [e] at h3; exact h3
theorem hl_2' {r : Nat → Nat → Nat} {s : Nat × Nat × Int32} {k a w : Nat} {q : Int32} (e : hl r s k = (a, w, q)) (h : a.testBit k = true) (h2 : ¬ nI (r 1 k) ≤ drw (nxt q)) : hl r s (k + 1) = (nd a (2 ^ k), w + 1, nxt q) := by
  have h3 := hl_2 (r := r) (s := s) (k := k) (by rw [e]; exact h) (by rw [e]; exact h2)
  rw [e] at h3; exact h3
theorem MB.leave {g : Nat → Nat} {r : Nat → Nat → Nat} {mI : Nat → Int32} {mR : Nat → Nat → Int32} {t : Nat → Nat} {w p hs : Nat} (h : MB mI mR g r t w p hs) (hs' : Nat) : MB (va_up mI 1 (nI hs')) mR g r t w p hs' := by
  obtain ⟨m0, m1, m2, m3, m4⟩ := h
  exact ⟨m0, rfl, m2, m3, m4⟩
theorem sX5_run18 {g : Nat → Nat} {r : Nat → Nat → Nat} {sI : Nat → Int32} {sR : Nat → Nat → Int32} {tI : Nat → Int32} {tR : Nat → Nat → Int32} {hI : Nat → Int32} {hR : Nat → Nat → Int32} {mI : Nat → Int32} {mR : Nat → Nat → Int32} (hg : HG g r) (hh : HR_ hI hR g r) {a0 w0 : Nat} {q0 : Int32} (hs : a0 < 2 ^ (g 1)) (hm : MB mI mR g r (r 0) 0 (g 3) a0) {x1 x3 x6 : Int32} {post : Int32 → (Nat → Int32) → (Nat → Nat → Int32) → Prop} {k95 : Int32 → Int32 → (Nat → Int32) → (Nat → Nat → Int32) → Prop} (h : ∀ a w q mI', hl r (a0, w0, q0) (g 1) = (a, w, q) → a < 2 ^ (g 1) → MB mI' mR g r (r 0) 0 (g 3) a → k95 q (nI w) mI' mR) : ∃ n, bX5_runYears_18 x1 x3 x6 sI sR tI tR hI hR post k95 n q0 (nI w0) 0 mI mR := by
  have b1 := hg.2.1
  have e1 : hI 1 = nI (g 1) := hh.1 1 (by decide)
  have key : ∀ d i a w q mI', i + d = g 1 → hl r (a0, w0, q0) i = (a, w, q) → a < 2 ^ (g 1) → MB mI' mR g r (r 0) 0 (g 3) a → bX5_runYears_18 x1 x3 x6 sI sR tI tR hI hR post k95 (d + 1) q (nI w) (nI i) mI' mR := by
    intro d
    induction d with
    | zero =>
      intro i a w q mI' hi he ha hm'
      have hi : i = g 1 := by omega
      subst hi
      unfold bX5_runYears_18
      rw [e1]
      exact pk_le (g 1) (g 1) (fun _ => h a w q mI' he ha hm') (fun c => absurd c (by omega))
    | succ d ih =>
      intro i a w q mI' hi he ha hm'
      unfold bX5_runYears_18 pX2_isHere
      rw [e1, hm'.2.1]
      refine pk_le (g 1) i (fun c => absurd c (by omega)) (fun _ => sX5_contains (lt31 ha (by omega)) (by omega) ⟨fun c => nm_r (nI_1 i) (ih (i + 1) a w q mI' (by omega) (hl_0' he c) ha hm'), fun c => nm_r (nxt_e _) ⟨i, rfl, by omega, ?_⟩⟩)
      rw [hh.2.1 1 (by decide) i (by omega), drw_e]
      refine ⟨fun c2 => nm_r (nI_1 i) (ih (i + 1) a w (nxt q) mI' (by omega) (hl_1' he c c2) ha hm'), fun c2 => ?_⟩
      unfold pX2_leave
      rw [hm'.2.1, q_shl1 (by omega), q_nd]
      exact nm_e (nm_r (nI_1 _) (nm_r (nI_1 i) (ih (i + 1) (nd a (2 ^ i)) (w + 1) (nxt q) _ (by omega) (hl_2' he c c2) (nd_lt ha) (hm'.leave _))))
  exact ⟨_, key (g 1) 0 a0 w0 q0 mI (by omega) rfl hs hm⟩
theorem sX6_run65 {g : Nat → Nat} {r : Nat → Nat → Nat} {oI : Nat → Int32} (hg : HG g r) {oR' : Nat → Nat → Int32} (o1 : oI 11 = nI (g 1)) (o2 : ∀ i, i < 8 → oR' 2 i = nI (r 1 i)) {a0 w0 : Nat} {q0 : Int32} (hs : a0 < 2 ^ (g 1)) {x1 x3 x8 : Int32} {post : Int32 → (Nat → Int32) → (Nat → Nat → Int32) → Prop} {k142 : Int32 → Int32 → Int32 → (Nat → Int32) → (Nat → Nat → Int32) → Prop} (h : ∀ a w q, hl r (a0, w0, q0) (g 1) = (a, w, q) → a < 2 ^ (g 1) → k142 (nI a) (nI w) q oI oR') : ∃ n, bX6_run_65 x1 x3 x8 post k142 n (nI a0) (nI w0) q0 0 oI oR' := by
  have b1 := hg.2.1
  have key : ∀ d i a w q, i + d = g 1 → hl r (a0, w0, q0) i = (a, w, q) → a < 2 ^ (g 1) → bX6_run_65 x1 x3 x8 post k142 (d + 1) (nI a) (nI w) q (nI i) oI oR' := by
    intro d
    induction d with
    | zero =>
      intro i a w q hi he ha
      have hi : i = g 1 := by omega
      subst hi
      unfold bX6_run_65
      rw [o1]
      exact pk_le (g 1) (g 1) (fun _ => h a w q he ha) (fun c => absurd c (by omega))
    | succ d ih =>
      intro i a w q hi he ha
      unfold bX6_run_65
      rw [o1, q_bit0 (lt31 ha (by omega)) (by omega), q_shl1 (by omega), q_nd]
      refine pk_le (g 1) i (fun c => absurd c (by omega)) (fun _ => ⟨fun c => nm_r (nxt_e _) ⟨i, rfl, by omega, ?_⟩, fun c => nm_r (nI_1 i) (ih (i + 1) a w q (by omega) (hl_0' he c) ha)⟩)
      have c : a.testBit i = true := by cases z : a.testBit i; exact absurd z c; rfl
      rw [o2 i (by omega), drw_e]
      exact ⟨fun c2 => nm_e (nm_r (nI_1 _) (nm_r (nI_1 i) (ih (i + 1) (nd a (2 ^ i)) (w + 1) (nxt q) (by omega) (hl_2' he c (Int32.not_le.mpr c2)) (nd_lt ha)))), fun c2 => nm_r (nI_1 i) (ih (i + 1) a w (nxt q) (by omega) (hl_1' he c (Int32.not_lt.mp c2)) ha)⟩
  exact ⟨_, key (g 1) 0 a0 w0 q0 (by omega) rfl hs⟩
/-- the years -/
def yl (g : Nat → Nat) (r : Nat → Nat → Nat) (what : Nat) : Nat → Nat → Nat × Nat × Int32 → Int32
  | 0, _, s => if what = 2 then nI s.2.1 else -9
  | d + 1, y, s => if what ≠ 2 ∧ bd g r (r 0) 0 (g 3) (hl r s (g 1)).1 what 0 = true then nI y else yl g r what d (y + 1) (hl r s (g 1))
theorem yl_t {g : Nat → Nat} {r : Nat → Nat → Nat} {what d y a w : Nat} {q : Int32} {s : Nat × Nat × Int32} (e : hl r s (g 1) = (a, w, q)) (h : what ≠ 2) (h2 : bd g r (r 0) 0 (g 3) a what 0 = true) : yl g r what (d + 1) y s = nI y := by
  unfold yl
  rw [e, if_pos ⟨h, h2⟩]
theorem yl_f {g : Nat → Nat} {r : Nat → Nat → Nat} {what d y a w : Nat} {q : Int32} {s : Nat × Nat × Int32} (e : hl r s (g 1) = (a, w, q)) (h2 : bd g r (r 0) 0 (g 3) a what 0 = false) : yl g r what (d + 1) y s = yl g r what d (y + 1) (a, w, q) := by
  have z : ¬ (what ≠ 2 ∧ bd g r (r 0) 0 (g 3) a what 0 = true) := fun z => by
    have := z.2
    rw [h2] at this; cases this
  conv => lhs; unfold yl
  rw [e, if_neg z]
theorem yl_2 {g : Nat → Nat} {r : Nat → Nat → Nat} {d y a w : Nat} {q : Int32} {s : Nat × Nat × Int32} (e : hl r s (g 1) = (a, w, q)) : yl g r 2 (d + 1) y s = yl g r 2 d (y + 1) (a, w, q) := by
  have z : ¬ ((2 : Nat) ≠ 2 ∧ bd g r (r 0) 0 (g 3) a 2 0 = true) := fun z => z.1 rfl
  conv => lhs; unfold yl
  rw [e, if_neg z]
theorem tgH {g : Nat → Nat} {t : Nat → Nat} {p hs hs' : Nat} (ht : TG g t p hs) (h : hs' < 2 ^ (g 1)) : TG g t p hs' := ⟨ht.1, ht.2.1, h⟩
theorem sX5_runYears {g : Nat → Nat} {r : Nat → Nat → Nat} {sI : Nat → Int32} {sR : Nat → Nat → Int32} {tI : Nat → Int32} {tR : Nat → Nat → Int32} {hI : Nat → Int32} {hR : Nat → Nat → Int32} {mI : Nat → Int32} {mR : Nat → Nat → Int32} (hg : HG g r) (hh : HR_ hI hR g r) (hm : MB mI mR g r (r 0) 0 (g 3) (hs0 g)) {N what : Nat} (hN : N ≤ 50) (hw : what ≤ 2) {z : Int32} {post : Int32 → (Nat → Int32) → (Nat → Nat → Int32) → Prop} (h : ∀ mI', post (yl g r what N 1 (hs0 g, 0, z)) mI' mR) : pX5_runYears (nI N) z (nI what) sI sR tI tR hI hR mI mR post := by
  have t0 := tg0 hg
  have w2 : (nI what = 2) ↔ what = 2 := nI_eq (b := 2) (by omega) (by decide)
  have key : ∀ d y a w q mI', y + d = N + 1 → a < 2 ^ (g 1) → MB mI' mR g r (r 0) 0 (g 3) a → (∀ mI', post (yl g r what d y (a, w, q)) mI' mR) → bX5_runYears_9 (nI N) (nI what) sI sR tI tR hI hR post (fun w1 mI_1 mR_1 => ((¬ nI what = 2 → (post (-9) mI_1 mR_1)) ∧ (nI what = 2 → (post w1 mI_1 mR_1)))) (d + 1) q (nI w) (nI y) mI' mR := by
    intro d
    induction d with
    | zero =>
      intro y a w q mI' hy hs hm' hp
      unfold bX5_runYears_9
      refine pk_lt N y (fun _ => ?_) (fun c => absurd c (by omega))
      rw [w2]
      have hp := hp mI'
      constructor
      · intro c
        have e : yl g r what 0 y (a, w, q) = -9 := if_neg c
        rw [e] at hp; exact hp
      · intro c
        have e : yl g r what 0 y (a, w, q) = nI w := if_pos c
        rw [e] at hp; exact hp
    | succ d ih =>
      intro y a w q mI' hy hs hm' hp
      unfold bX5_runYears_9
      refine pk_lt N y (fun c => absurd c (by omega)) (fun _ => sX5_run18 hg hh hs hm' (fun a2 w' q2 mI2 he ha2 hm2 => ?_))
      refine ⟨fun c => nm_r (nI_1 y) (ih (y + 1) a2 w' q2 mI2 (by omega) ha2 hm2 (fun mI3 => ?_)), fun c => sX2_happens (s := 0) hg hh hm2 (tgH t0 ha2) (by have : what ≠ 2 := fun e => c (w2.mpr e); omega) (Nat.two_pow_pos _) ⟨fun z => nm_r (nI_1 y) (ih (y + 1) a2 w' q2 mI2 (by omega) ha2 hm2 (fun mI3 => ?_)), fun z => ?_⟩⟩
      · have hp := hp mI3
        have c := w2.mp c
        subst c
        rw [yl_2 he] at hp; exact hp
      · have hp := hp mI3
        rw [yl_f he z] at hp; exact hp
      · have hp := hp mI2
        rw [yl_t he (fun e => c (w2.mpr e)) z] at hp; exact hp
  exact ⟨_, key N 1 (hs0 g) 0 z mI (by omega) (hs0_lt g) hm h⟩
theorem sX6_runYears {g : Nat → Nat} {r : Nat → Nat → Nat} {oI : Nat → Int32} (hg : HG g r) {oR' : Nat → Nat → Int32} (hk : OK_ oI oR' g r (r 0) 0 (g 3)) (o2 : ∀ i, i < 8 → oR' 2 i = nI (r 1 i)) {N what : Nat} (hN : N ≤ 50) (hw : what ≤ 2) {z : Int32} {post : Int32 → (Nat → Int32) → (Nat → Nat → Int32) → Prop} (h : post (yl g r what N 1 (hs0 g, 0, z)) oI oR') : ∃ n, bX6_run_56 (nI N) (nI what) post (fun w1 oI_2 oR_2 => ((¬ nI what = 2 → (post (-9) oI_2 oR_2)) ∧ (nI what = 2 → (post w1 oI_2 oR_2)))) n (nI (hs0 g)) 0 z 1 oI oR' := by
  have t0 := tg0 hg
  have w2 : (nI what = 2) ↔ what = 2 := nI_eq (b := 2) (by omega) (by decide)
  have w1 : (nI what = 1) ↔ what = 1 := nI_eq (b := 1) (by omega) (by decide)
  have w0 : (nI what = 0) ↔ what = 0 := nI_eq (b := 0) (by omega) (by decide)
  have key : ∀ d y a w q, y + d = N + 1 → a < 2 ^ (g 1) → post (yl g r what d y (a, w, q)) oI oR' → bX6_run_56 (nI N) (nI what) post (fun w1 oI_2 oR_2 => ((¬ nI what = 2 → (post (-9) oI_2 oR_2)) ∧ (nI what = 2 → (post w1 oI_2 oR_2)))) (d + 1) (nI a) (nI w) q (nI y) oI oR' := by
    intro d
    induction d with
    | zero =>
      intro y a w q hy hs hp
      unfold bX6_run_56
      refine pk_lt N y (fun _ => ?_) (fun c => absurd c (by omega))
      rw [w2]
      constructor
      · intro c
        have e : yl g r what 0 y (a, w, q) = -9 := if_neg c
        rw [e] at hp; exact hp
      · intro c
        have e : yl g r what 0 y (a, w, q) = nI w := if_pos c
        rw [e] at hp; exact hp
    | succ d ih =>
      intro y a w q hy hs hp
      unfold bX6_run_56
      refine pk_lt N y (fun c => absurd c (by omega)) (fun _ => sX6_run65 hg hk.1.1.2.1 o2 hs (fun a2 w' q2 he ha2 => ?_))
      unfold bX6_run_156
      rw [w0, w1]
      refine ⟨fun c0 => ⟨fun c1 => ?_, fun c1 => ?_⟩, fun c0 => sX6_losesIt (s := 0) hg hk (tgH t0 ha2) ⟨fun z => ?_, fun z => ⟨fun c1 => ?_, fun c1 => absurd c1 (by omega)⟩⟩⟩
      · have c2 : what = 2 := by omega
        subst c2
        rw [yl_2 he] at hp
        exact nm_r (nI_1 y) (ih (y + 1) a2 w' q2 (by omega) ha2 hp)
      · subst c1
        refine sX6_carriesIt (s := 0) hg hk (tgH t0 ha2) (Nat.two_pow_pos _) ⟨fun z => ?_, fun z => ?_⟩
        · rw [yl_f he z] at hp
          exact nm_r (nI_1 y) (ih (y + 1) a2 w' q2 (by omega) ha2 hp)
        · rw [yl_t he (by decide) z] at hp; exact hp
      · subst c0
        rw [yl_t he (by decide) z] at hp; exact hp
      · subst c0
        rw [yl_f he z] at hp
        exact nm_r (nI_1 y) (ih (y + 1) a2 w' q2 (by omega) ha2 hp)
  exact ⟨_, key N 1 (hs0 g) 0 z (by omega) (hs0_lt g) h⟩
theorem zc_26 {L : Nat} {xs : Nat → Int32} {i : Nat} (hi : i + 4 ≤ L) {ko : Option ((Nat → Int32) × (Nat → Nat → Int32))} {sI : Nat → Int32} {sR : Nat → Nat → Int32} {tI : Nat → Int32} {tR : Nat → Nat → Int32} {hI : Nat → Int32} {hR : Nat → Nat → Int32} {mI : Nat → Int32} {mR : Nat → Nat → Int32} {oI : Nat → Int32} {oR : Nat → Nat → Int32} (h : zIn ko sI sR tI tR hI hR mI mR oI oR) : pL_26 L xs (nI i) sI sR tI tR hI hR mI mR oI oR (zIn ko) := by
  obtain ⟨g, r, hg, hh, ho, hr⟩ := h
  have b0 := hg.1
  have b1 := hg.2.1
  have e0 : hI 0 = nI (g 0) := hh.1 0 (by decide)
  have e1 : hI 1 = nI (g 1) := hh.1 1 (by decide)
  have o0 : oI 10 = nI (g 0) := ho.1.1.1
  have o1 : oI 11 = nI (g 1) := ho.1.1.2.1
  refine ⟨i + 1, nI_1 i, by omega, i + 2, nI_add i 2, by omega, i + 3, nI_add i 3, by omega, ?_⟩
  generalize xs (i + 1) = x
  generalize xs (i + 2) = y
  generalize xs (i + 3) = u
  unfold pX5_run pX6_run
  rcases bnd u (a := 0) (b := 2) (by decide) (by decide) with c | c | ⟨v, v1, v2, ev⟩
  · exact ⟨fun _ => refC (k := 2) (by decide) (by decide) ⟨fun _ => ⟨fun z => (by cases z), fun _ => refM (k := 2) (by decide) (by decide) (fin2 rfl (fzK hg hh ho hr (by decide)))⟩, fun q => absurd c q⟩, fun q => absurd c q⟩
  · have c0 := lt_hi (a := 0) (by decide) (by decide) c
    exact ⟨fun q => absurd q (Int32.not_lt.mpr c0), fun _ => ⟨fun q => absurd c (Int32.not_lt.mpr q), fun _ => refC (k := 2) (by decide) (by decide) ⟨fun q => absurd q (Int32.not_lt.mpr c0), fun _ => ⟨fun _ => ⟨fun z => (by cases z), fun _ => refM (k := 2) (by decide) (by decide) (fin2 rfl (fzK hg hh ho hr (by decide)))⟩, fun q => absurd c q⟩⟩⟩⟩
  subst ev
  have in3 : ∀ P : Bool → Prop, P true → pX6_isIn (nI v) 0 2 P := fun P hP => in16 (a := 0) (b := 2) (by decide) (by decide) (fun q => absurd ⟨v, v1, v2, rfl⟩ q) (fun _ _ _ _ => hP)
  have l3 : nI v ≤ (2 : Int32) := nI_le (b := 2) v2 (by decide)
  refine ⟨fun q => absurd q (nI_pos (by omega)), fun _ => ⟨fun _ => ?_, fun q => absurd l3 q⟩⟩
  rcases bnd x (a := 1) (b := 50) (by decide) (by decide) with c | c | ⟨N, n1, n2, en⟩
  · exact oLo c ⟨fun q => absurd q (by decide), fun _ => refC (k := 4) (by decide) (by decide) (in3 _ ⟨fun _ => bLo c ⟨fun q => absurd q (by decide), fun _ => refM (k := 4) (by decide) (by decide) (fin2 rfl (fzK hg hh ho hr (by decide)))⟩, fun z => (by cases z)⟩)⟩
  · have c0 := lt_hi (a := 1) (by decide) (by decide) c
    exact oHi c0 c ⟨fun q => absurd q (by decide), fun _ => refC (k := 6) (by decide) (by decide) (in3 _ ⟨fun _ => bHi c0 c ⟨fun q => absurd q (by decide), fun _ => refM (k := 6) (by decide) (by decide) (fin2 rfl (fzK hg hh ho hr (by decide)))⟩, fun z => (by cases z)⟩)⟩
  subst en
  have ge1 : (1 : Int32) ≤ nI N := nI_le (a := 1) n1 (by omega)
  have le50 : nI N ≤ (50 : Int32) := nI_le (b := 50) n2 (by decide)
  refine oIn ge1 le50 ⟨fun _ => sX2_begin hg hh (fun mI' mR' hm => sX5_runYears hg hh hm n2 v2 (fun mI2 => in3 _ ⟨fun _ => bIn ge1 le50 ⟨fun _ => fkT hg (QT.rf ho) (by decide) (fun a b c hk hq => sX6_houseSet hg hk.1.1.2.1 hk.1.2.2.1 (sX6_runYears hg hk hq.1.2 n2 v2 (fin2 rfl (zK3 hg hh ho hr a b c)))), fun q => absurd rfl q⟩, fun z => (by cases z)⟩)), fun q => absurd rfl q⟩
-- those who go one behind the other
def jl (g : Nat → Nat) (r : Nat → Nat → Nat) (what : Nat) (q : Nat → Nat) : Nat → Nat → Nat → Int32
  | 0, _, _ => -9
  | d + 1, k, hs => if hs.testBit (q k) then (if what ≠ 2 ∧ bd g r (r 0) 0 (g 3) (nd hs (2 ^ (q k))) what 0 = true then nI k else jl g r what q d (k + 1) (nd hs (2 ^ (q k)))) else (if what = 2 then nI k else -9)
theorem jl_no {g : Nat → Nat} {r : Nat → Nat → Nat} {what d k hs : Nat} {q : Nat → Nat} (h : hs.testBit (q k) = false) : jl g r what q (d + 1) k hs = if what = 2 then nI k else -9 := if_neg (by rw [h]; decide)
theorem jl_t {g : Nat → Nat} {r : Nat → Nat → Nat} {what d k hs : Nat} {q : Nat → Nat} (h : hs.testBit (q k) = true) (h1 : what ≠ 2) (h2 : bd g r (r 0) 0 (g 3) (nd hs (2 ^ (q k))) what 0 = true) : jl g r what q (d + 1) k hs = nI k := (if_pos h).trans (if_pos ⟨h1, h2⟩)
theorem jl_f {g : Nat → Nat} {r : Nat → Nat → Nat} {what d k hs : Nat} {q : Nat → Nat} (h : hs.testBit (q k) = true) (h2 : bd g r (r 0) 0 (g 3) (nd hs (2 ^ (q k))) what 0 = false) : jl g r what q (d + 1) k hs = jl g r what q d (k + 1) (nd hs (2 ^ (q k))) := (if_pos h).trans (if_neg (fun z => by rw [h2] at z; cases z.2))
theorem jl_2 {g : Nat → Nat} {r : Nat → Nat → Nat} {d k hs : Nat} {q : Nat → Nat} (h : hs.testBit (q k) = true) : jl g r 2 q (d + 1) k hs = jl g r 2 q d (k + 1) (nd hs (2 ^ (q k))) := (if_pos h).trans (if_neg (fun z => z.1 rfl))
theorem sX5_placeInRow {g : Nat → Nat} {r : Nat → Nat → Nat} {sI : Nat → Int32} {sR : Nat → Nat → Int32} {tI : Nat → Int32} {tR : Nat → Nat → Int32} {hI : Nat → Int32} {hR : Nat → Nat → Int32} {mI : Nat → Int32} {mR : Nat → Nat → Int32} (hg : HG g r) (hh : HR_ hI hR g r) (hm : MB mI mR g r (r 0) 0 (g 3) (hs0 g)) {n what : Nat} (hn : n ≤ 8) (hw : what ≤ 2) {q : Nat → Nat} (s0 : sI 0 = nI n) (sq : ∀ i, i < n → q i < 8 ∧ sR 0 i = nI (q i)) {post : Int32 → (Nat → Int32) → (Nat → Nat → Int32) → Prop} (h : ∀ mI', post (jl g r what q n 0 (hs0 g)) mI' mR) : pX5_placeInRow (nI what) sI sR tI tR hI hR mI mR post := by
  have b1 := hg.2.1
  have t0 := tg0 hg
  have w2 : (nI what = 2) ↔ what = 2 := nI_eq (b := 2) (by omega) (by decide)
  have key : ∀ d k hs mI', k + d = n → hs < 2 ^ (g 1) → MB mI' mR g r (r 0) 0 (g 3) hs → (∀ mI', post (jl g r what q d k hs) mI' mR) → bX5_placeInRow_2 (nI what) sI sR tI tR hI hR post (fun w1 mI_1 mR_1 => ((¬ nI what = 2 → (post (-9) mI_1 mR_1)) ∧ (nI what = 2 → (post w1 mI_1 mR_1)))) (d + 1) (nI k) mI' mR := by
    intro d
    induction d with
    | zero =>
      intro k hs mI' hk hs1 hm' hp
      unfold bX5_placeInRow_2
      rw [s0]
      exact pk_le n k (fun _ => hp mI') (fun c => absurd c (by omega))
    | succ d ih =>
      intro k hs mI' hk hs1 hm' hp
      obtain ⟨q1, q2⟩ := sq k (by omega)
      have hs2 : nd hs (2 ^ (q k)) < 2 ^ (g 1) := nd_lt hs1
      unfold bX5_placeInRow_2 pX2_isHere pX2_leave
      rw [s0]
      refine pk_le n k (fun c => absurd c (by omega)) (fun _ => ⟨k, rfl, by omega, ?_⟩)
      rw [q2, hm'.2.1, q_shl1 (by omega), q_nd]
      refine sX5_contains (lt31 hs1 (by omega)) (by omega) ⟨fun c => nm_e ?_, fun c => ?_⟩
      · refine ⟨fun c2 => nm_r (nI_1 k) (ih (k + 1) _ _ (by omega) hs2 (hm'.leave _) (fun mI3 => ?_)), fun c2 => sX2_happens (s := 0) hg hh (hm'.leave _) (tgH t0 hs2) (by have : what ≠ 2 := fun e => c2 (w2.mpr e); omega) (Nat.two_pow_pos _) ⟨fun z => nm_r (nI_1 k) (ih (k + 1) _ _ (by omega) hs2 (hm'.leave _) (fun mI3 => ?_)), fun z => ?_⟩⟩
        · have hp := hp mI3
          have c2 := w2.mp c2
          subst c2
          rw [jl_2 c] at hp; exact hp
        · have hp := hp mI3
          rw [jl_f c z] at hp; exact hp
        · have hp := hp (va_up mI' 1 (nI (nd hs (2 ^ (q k)))))
          rw [jl_t c (fun e => c2 (w2.mpr e)) z] at hp; exact hp
      · have hp := hp mI'
        rw [jl_no c] at hp
        rw [w2]
        constructor
        · intro c2; rw [if_neg c2] at hp; exact hp
        · intro c2; rw [if_pos c2] at hp; exact hp
  exact ⟨_, key n 0 (hs0 g) mI (by omega) (hs0_lt g) hm h⟩
theorem sX6_judge38 {g : Nat → Nat} {r : Nat → Nat → Nat} {oI : Nat → Int32} (hg : HG g r) {oR' : Nat → Nat → Int32} (hk : OK_ oI oR' g r (r 0) 0 (g 3)) {n what : Nat} (hn : n ≤ 8) (hw : what ≤ 2) {q : Nat → Nat} (sq : ∀ i, i < n → q i < 8 ∧ oR' 25 i = nI (q i)) {post : Int32 → (Nat → Int32) → (Nat → Nat → Int32) → Prop} (h : post (jl g r what q n 0 (hs0 g)) oI oR') : ∃ m, bX6_judge_38 (nI what) (nI n) post (fun w1 oI_2 oR_2 => ((¬ nI what = 2 → (post (-9) oI_2 oR_2)) ∧ (nI what = 2 → (post w1 oI_2 oR_2)))) m (nI (hs0 g)) 0 oI oR' := by
  have b1 := hg.2.1
  have t0 := tg0 hg
  have w2 : (nI what = 2) ↔ what = 2 := nI_eq (b := 2) (by omega) (by decide)
  have w1 : (nI what = 1) ↔ what = 1 := nI_eq (b := 1) (by omega) (by decide)
  have w0 : (nI what = 0) ↔ what = 0 := nI_eq (b := 0) (by omega) (by decide)
  have key : ∀ d k hs, k + d = n → hs < 2 ^ (g 1) → post (jl g r what q d k hs) oI oR' → bX6_judge_38 (nI what) (nI n) post (fun w1 oI_2 oR_2 => ((¬ nI what = 2 → (post (-9) oI_2 oR_2)) ∧ (nI what = 2 → (post w1 oI_2 oR_2)))) (d + 1) (nI hs) (nI k) oI oR' := by
    intro d
    induction d with
    | zero =>
      intro k hs hk2 hs1 hp
      unfold bX6_judge_38
      exact pk_le n k (fun _ => hp) (fun c => absurd c (by omega))
    | succ d ih =>
      intro k hs hk2 hs1 hp
      obtain ⟨q1, q2⟩ := sq k (by omega)
      have hs2 : nd hs (2 ^ (q k)) < 2 ^ (g 1) := nd_lt hs1
      unfold bX6_judge_38
      refine pk_le n k (fun c => absurd c (by omega)) (fun _ => ⟨k, rfl, by omega, ?_⟩)
      rw [q2, q_bit0 (lt31 hs1 (by omega)) (by omega), q_shl1 (by omega), q_nd]
      refine ⟨fun c => nm_e ?_, fun c => ?_⟩
      · have c : hs.testBit (q k) = true := by cases z : hs.testBit (q k); exact absurd z c; rfl
        unfold bX6_judge_98
        rw [w0, w1]
        refine ⟨fun c0 => ⟨fun c1 => ?_, fun c1 => ?_⟩, fun c0 => sX6_losesIt (s := 0) hg hk (tgH t0 hs2) ⟨fun z => ?_, fun z => ⟨fun c1 => ?_, fun c1 => absurd c1 (by omega)⟩⟩⟩
        · have c2 : what = 2 := by omega
          subst c2
          rw [jl_2 c] at hp
          exact nm_r (nI_1 k) (ih (k + 1) _ (by omega) hs2 hp)
        · subst c1
          refine sX6_carriesIt (s := 0) hg hk (tgH t0 hs2) (Nat.two_pow_pos _) ⟨fun z => ?_, fun z => ?_⟩
          · rw [jl_f c z] at hp
            exact nm_r (nI_1 k) (ih (k + 1) _ (by omega) hs2 hp)
          · rw [jl_t c (by decide) z] at hp; exact hp
        · subst c0
          rw [jl_t c (by decide) z] at hp; exact hp
        · subst c0
          rw [jl_f c z] at hp
          exact nm_r (nI_1 k) (ih (k + 1) _ (by omega) hs2 hp)
      · rw [jl_no c] at hp
        rw [w2]
        constructor
        · intro c2; rw [if_neg c2] at hp; exact hp
        · intro c2; rw [if_pos c2] at hp; exact hp
  exact ⟨_, key n 0 (hs0 g) (by omega) (hs0_lt g) h⟩
theorem zc_28 {L : Nat} {xs : Nat → Int32} {i : Nat} (hi : i + 4 ≤ L) {ko : Option ((Nat → Int32) × (Nat → Nat → Int32))} {sI : Nat → Int32} {sR : Nat → Nat → Int32} {tI : Nat → Int32} {tR : Nat → Nat → Int32} {hI : Nat → Int32} {hR : Nat → Nat → Int32} {mI : Nat → Int32} {mR : Nat → Nat → Int32} {oI : Nat → Int32} {oR : Nat → Nat → Int32} (h : zIn ko sI sR tI tR hI hR mI mR oI oR) : pL_28 L xs (nI i) sI sR tI tR hI hR mI mR oI oR (zIn ko) := by
  obtain ⟨g, r, hg, hh, ho, hr⟩ := h
  have b0 := hg.1
  have b1 := hg.2.1
  have e0 : hI 0 = nI (g 0) := hh.1 0 (by decide)
  have e1 : hI 1 = nI (g 1) := hh.1 1 (by decide)
  have o0 : oI 10 = nI (g 0) := ho.1.1.1
  have o1 : oI 11 = nI (g 1) := ho.1.1.2.1
  refine ⟨i + 1, nI_1 i, by omega, ?_⟩
  generalize xs (i + 1) = x
  unfold pX5_judge pX6_judge
  rcases bnd x (a := 0) (b := 2) (by decide) (by decide) with c | c | ⟨v, v1, v2, ev⟩
  · exact ⟨fun _ => refC (k := 2) (by decide) (by decide) ⟨fun _ => ⟨fun z => (by cases z), fun _ => refM (k := 2) (by decide) (by decide) (fin2 rfl (fzK hg hh ho hr (by decide)))⟩, fun q => absurd c q⟩, fun q => absurd c q⟩
  · have c0 := lt_hi (a := 0) (by decide) (by decide) c
    exact ⟨fun q => absurd q (Int32.not_lt.mpr c0), fun _ => ⟨fun q => absurd c (Int32.not_lt.mpr q), fun _ => refC (k := 2) (by decide) (by decide) ⟨fun q => absurd q (Int32.not_lt.mpr c0), fun _ => ⟨fun _ => ⟨fun z => (by cases z), fun _ => refM (k := 2) (by decide) (by decide) (fin2 rfl (fzK hg hh ho hr (by decide)))⟩, fun q => absurd c q⟩⟩⟩⟩
  subst ev
  have in3 : ∀ P : Bool → Prop, P true → pX6_isIn (nI v) 0 2 P := fun P hP => in16 (a := 0) (b := 2) (by decide) (by decide) (fun q => absurd ⟨v, v1, v2, rfl⟩ q) (fun _ _ _ _ => hP)
  have l3 : nI v ≤ (2 : Int32) := nI_le (b := 2) v2 (by decide)
  obtain ⟨n, n8, s0, o26, hrow⟩ := hr.1.1
  obtain ⟨q, hq⟩ : ∃ q : Nat → Nat, ∀ i, i < n → q i < 8 ∧ sR 0 i = nI (q i) ∧ oR 25 i = nI (q i) := by
    refine ⟨fun i => if h : i < n then (hrow i h).choose else 0, fun i hi => ?_⟩
    dsimp only
    rw [dif_pos hi]
    exact (hrow i hi).choose_spec
  have ho2 : OM (va_up oI 26 0) oR g r := ⟨⟨ho.1.1, ho.1.2⟩, ho.2⟩
  refine ⟨fun q => absurd q (nI_pos (by omega)), fun _ => ⟨fun _ => sX2_begin hg hh (fun mI' mR' hm => sX5_placeInRow hg hh hm n8 v2 s0 (fun i hi => ⟨(hq i hi).1, (hq i hi).2.1⟩) (fun mI2 => in3 _ ⟨fun _ => fkT hg (QT.rf ho2) (by decide) (fun a b c hk hqt => sX6_houseSet hg hk.1.1.2.1 hk.1.2.2.1 ?_), fun z => (by cases z)⟩)), fun q => absurd l3 q⟩⟩
  rw [o26]
  refine sX6_judge38 hg hk n8 v2 (q := q) (fun i hi => ⟨(hq i hi).1, ?_⟩) (fin2 rfl ⟨g, r, hg, hh, hqt.1, ?_, ?_, ?_⟩)
  · rw [hqt.2.2.1]; exact (hq i hi).2.2
  · refine ⟨⟨0, by decide, rfl, hqt.2.1.1, fun i hi => absurd hi (by omega)⟩, fun i hi => ?_⟩
    rw [hqt.2.2.2.1]; exact hr.1.2 i hi
  · exact hr.2.1.same hqt.2.1.2.1 hqt.2.2.2.2.1
  · exact hr.2.2.same hqt.2.1.2.2 hqt.2.2.2.2.2
