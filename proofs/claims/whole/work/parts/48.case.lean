/-! how likely -/
def wf (g : Nat → Nat) (r : Nat → Nat → Nat) (s : Nat) : Nat → Int64
  | 0 => 1
  | k + 1 => if (hs0 g).testBit k then wf g r s k * (if s.testBit k then (nI (r 1 k)).toInt64 else (100 - nI (r 1 k)).toInt64) else wf g r s k
theorem wf_0 {g : Nat → Nat} {r : Nat → Nat → Nat} {s k : Nat} (h : (hs0 g).testBit k = false) : wf g r s (k + 1) = wf g r s k := if_neg (by rw [h]; decide)
theorem wf_1 {g : Nat → Nat} {r : Nat → Nat → Nat} {s k : Nat} (h : (hs0 g).testBit k = true) (h2 : s.testBit k = true) : wf g r s (k + 1) = wf g r s k * (nI (r 1 k)).toInt64 := by
  show (if (hs0 g).testBit k then wf g r s k * (if s.testBit k then (nI (r 1 k)).toInt64 else (100 - nI (r 1 k)).toInt64) else wf g r s k) = _
  rw [if_pos h, if_pos h2]
theorem wf_2 {g : Nat → Nat} {r : Nat → Nat → Nat} {s k : Nat} (h : (hs0 g).testBit k = true) (h2 : s.testBit k = false) : wf g r s (k + 1) = wf g r s k * (100 - nI (r 1 k)).toInt64 := by
  show (if (hs0 g).testBit k then wf g r s k * (if s.testBit k then (nI (r 1 k)).toInt64 else (100 - nI (r 1 k)).toInt64) else wf g r s k) = _
  rw [if_pos h, if_neg (by rw [h2]; decide)]
def lk (g : Nat → Nat) (r : Nat → Nat → Nat) (what : Nat) : Nat → Int64
  | 0 => 0
  | k + 1 => if nd k (hs0 g) = 0 ∧ bd g r (r 0) 0 (g 3) (hs0 g) what k = true then lk g r what k + wf g r k (g 1) else lk g r what k
theorem lk_1 {g : Nat → Nat} {r : Nat → Nat → Nat} {what k : Nat} (h : sb k (hs0 g)) (h2 : bd g r (r 0) 0 (g 3) (hs0 g) what k = true) : lk g r what (k + 1) = lk g r what k + wf g r k (g 1) := if_pos ⟨sb_nd.mpr h, h2⟩
theorem lk_0 {g : Nat → Nat} {r : Nat → Nat → Nat} {what k : Nat} (h : ¬ sb k (hs0 g)) : lk g r what (k + 1) = lk g r what k := if_neg (fun z => h (sb_nd.mp z.1))
theorem lk_2 {g : Nat → Nat} {r : Nat → Nat → Nat} {what k : Nat} (h : bd g r (r 0) 0 (g 3) (hs0 g) what k = false) : lk g r what (k + 1) = lk g r what k := if_neg (fun z => by rw [h] at z; cases z.2)
theorem sX1_weightOf {g : Nat → Nat} {r : Nat → Nat → Nat} {hI : Nat → Int32} {hR : Nat → Nat → Int32} (hg : HG g r) (hh : HR_ hI hR g r) {s : Nat} (hs : s < 2 ^ 31) {post : Int64 → Prop} (h : post (wf g r s (g 1))) : pX1_weightOf (nI s) hI hR post := by
  have b1 := hg.2.1
  have e1 : hI 1 = nI (g 1) := hh.1 1 (by decide)
  have e2 : hI 2 = nI (g 2) := hh.1 2 (by decide)
  have hl : hs0 g < 2 ^ 31 := lt31 (hs0_lt g) (by omega)
  have key : ∀ d i, i + d = g 1 → bX1_weightOf_5 (nI s) hI hR post (d + 1) (wf g r s i) (nI i) := by
    intro d
    induction d with
    | zero =>
      intro i hi
      have hi : i = g 1 := by omega
      subst hi
      unfold bX1_weightOf_5
      rw [e1]
      exact pk_le (g 1) (g 1) (fun _ => h) (fun c => absurd c (by omega))
    | succ d ih =>
      intro i hi
      have hn := ih (i + 1) (by omega)
      unfold bX1_weightOf_5 pX1_inHouse
      rw [e1, e2, q_all (by omega), q_nd]
      refine pk_le (g 1) i (fun c => absurd c (by omega)) (fun _ => sX5_contains (a := hs0 g) hl (by omega) ⟨fun c => ?_, fun c => ⟨i, rfl, by omega, nm_r (hh.2.1 1 (by decide) i (by omega)) (sX5_contains hs (by omega) ⟨fun c2 => ?_, fun c2 => ?_⟩)⟩⟩)
      · rw [wf_0 c] at hn
        exact nm_r (nI_1 i) hn
      · rw [wf_2 c c2] at hn
        exact nm_e (nm_r (nI_1 i) hn)
      · rw [wf_1 c c2] at hn
        exact nm_e (nm_r (nI_1 i) hn)
  exact nm_e ⟨_, key (g 1) 0 (by omega)⟩
theorem sX5_likely {g : Nat → Nat} {r : Nat → Nat → Nat} {sI : Nat → Int32} {sR : Nat → Nat → Int32} {tI : Nat → Int32} {tR : Nat → Nat → Int32} {hI : Nat → Int32} {hR : Nat → Nat → Int32} {mI : Nat → Int32} {mR : Nat → Nat → Int32} (hg : HG g r) (hh : HR_ hI hR g r) (hm : MB mI mR g r (r 0) 0 (g 3) (hs0 g)) {what : Nat} (hw : what < 2) {post : Int64 → Prop} (h : post (lk g r what (2 ^ (g 1)))) : pX5_likely (nI what) sI sR tI tR hI hR mI mR post := by
  have b1 := hg.2.1
  have t0 := tg0 hg
  have e1 : hI 1 = nI (g 1) := hh.1 1 (by decide)
  have p8 : 2 ^ (g 1) ≤ 2 ^ 8 := Nat.pow_le_pow_right (by decide) b1
  have key : ∀ d i, i + d = 2 ^ (g 1) → bX5_likely_5 (nI what) sI sR tI tR hI hR mI mR post (d + 1) (lk g r what i) (nI i) := by
    intro d
    induction d with
    | zero =>
      intro i hi
      have hi : i = 2 ^ (g 1) := by omega
      subst hi
      unfold bX5_likely_5
      rw [e1, q_shl1 (by omega)]
      exact pk_le (2 ^ (g 1)) (2 ^ (g 1)) (fun _ => h) (fun c => absurd c (by omega))
    | succ d ih =>
      intro i hi
      have hn := ih (i + 1) (by omega)
      unfold bX5_likely_5 pX2_areHere
      rw [e1, q_shl1 (by omega), hm.2.1, q_nd0 (by omega)]
      refine pk_le (2 ^ (g 1)) i (fun c => absurd c (by omega)) (fun _ => ⟨fun c => ⟨fun _ => ?_, fun z => (by cases z)⟩, fun c => ⟨fun z => (by cases z), fun _ => sX2_happens hg hh hm t0 hw (by omega) ⟨fun z => ?_, fun z => sX1_weightOf hg hh (by omega) (nm_e ?_)⟩⟩⟩)
      · rw [lk_0 c] at hn
        exact nm_r (nI_1 i) hn
      · rw [lk_2 z] at hn
        exact nm_r (nI_1 i) hn
      · rw [lk_1 c z] at hn
        exact nm_r (nI_1 i) hn
  exact nm_e ⟨_, key (2 ^ (g 1)) 0 (by omega)⟩
theorem sX6_likely70 {g : Nat → Nat} {r : Nat → Nat → Nat} {oI : Nat → Int32} (hg : HG g r) {oR' : Nat → Nat → Int32} (o1 : oI 11 = nI (g 1)) (o2 : ∀ i, i < 8 → oR' 2 i = nI (r 1 i)) {s : Nat} (hs : s < 2 ^ 31) {x1 : Int32} {y3 : Int64} {post : Int64 → (Nat → Int32) → (Nat → Nat → Int32) → Prop} {k136 : Int64 → (Nat → Int32) → (Nat → Nat → Int32) → Prop} (h : k136 (wf g r s (g 1)) oI oR') : ∃ n, bX6_likely_70 x1 (nI (hs0 g)) y3 (nI s) post k136 n 1 0 oI oR' := by
  have b1 := hg.2.1
  have hl : hs0 g < 2 ^ 31 := lt31 (hs0_lt g) (by omega)
  have key : ∀ d i, i + d = g 1 → bX6_likely_70 x1 (nI (hs0 g)) y3 (nI s) post k136 (d + 1) (wf g r s i) (nI i) oI oR' := by
    intro d
    induction d with
    | zero =>
      intro i hi
      have hi : i = g 1 := by omega
      subst hi
      unfold bX6_likely_70
      rw [o1]
      exact pk_le (g 1) (g 1) (fun _ => h) (fun c => absurd c (by omega))
    | succ d ih =>
      intro i hi
      have hn := ih (i + 1) (by omega)
      unfold bX6_likely_70
      rw [o1, q_bit0 hl (by omega), q_bit1 hs (by omega)]
      refine pk_le (g 1) i (fun c => absurd c (by omega)) (fun _ => ⟨fun c => ⟨fun c2 => ⟨i, rfl, by omega, ?_⟩, fun c2 => ⟨i, rfl, by omega, ?_⟩⟩, fun c => ?_⟩)
      · have c : (hs0 g).testBit i = true := by cases z : (hs0 g).testBit i; exact absurd z c; rfl
        have c2 : s.testBit i = false := by cases z : s.testBit i; rfl; exact absurd z c2
        rw [wf_2 c c2] at hn
        rw [o2 i (by omega)]
        exact nm_e (nm_r (nI_1 i) hn)
      · have c : (hs0 g).testBit i = true := by cases z : (hs0 g).testBit i; exact absurd z c; rfl
        rw [wf_1 c c2] at hn
        rw [o2 i (by omega)]
        exact nm_e (nm_r (nI_1 i) hn)
      · rw [wf_0 c] at hn
        exact nm_r (Int64.mul_one _) (nm_r (nI_1 i) hn)
  exact ⟨_, key (g 1) 0 (by omega)⟩
theorem sX6_likely {g : Nat → Nat} {r : Nat → Nat → Nat} {oI : Nat → Int32} {oR : Nat → Nat → Int32} (hg : HG g r) (ho : OM oI oR g r) {z : Bool} {post : Int64 → (Nat → Int32) → (Nat → Nat → Int32) → Prop} (h : ∀ a b c, post (lk g r z.toNat (2 ^ (g 1))) oI (K3 oR a b c)) : pX6_likely z oI oR post := by
  have b1 := hg.2.1
  have t0 := tg0 hg
  have o1 : oI 11 = nI (g 1) := ho.1.1.2.1
  have p8 : 2 ^ (g 1) ≤ 2 ^ 8 := Nat.pow_le_pow_right (by decide) b1
  unfold pX6_likely
  refine fkT hg (QT.rf ho) (by decide) (fun a b c hk hq => sX6_houseSet hg hk.1.1.2.1 hk.1.2.2.1 (nm_e ?_))
  have key : ∀ d i, i + d = 2 ^ (g 1) → bX6_likely_14 (zb z) (nI (hs0 g)) post (d + 1) (lk g r z.toNat i) (nI i) oI (K3 oR a b c) := by
    intro d
    induction d with
    | zero =>
      intro i hi
      have hi : i = 2 ^ (g 1) := by omega
      subst hi
      unfold bX6_likely_14
      rw [o1, q_shl1 (by omega)]
      exact pk_le (2 ^ (g 1)) (2 ^ (g 1)) (fun _ => h a b c) (fun c => absurd c (by omega))
    | succ d ih =>
      intro i hi
      have hn := ih (i + 1) (by omega)
      have hi31 : i < 2 ^ 31 := by omega
      unfold bX6_likely_14
      rw [o1, q_shl1 (by omega), q_nd0 hi31]
      refine pk_le (2 ^ (g 1)) i (fun c => absurd c (by omega)) (fun _ => ⟨fun c => ?_, fun c => ?_⟩)
      · rw [lk_0 c] at hn
        exact nm_r (nI_1 i) hn
      · cases z
        · refine ⟨fun _ => sX6_losesIt hg hk t0 ⟨fun z => nm_e (sX6_likely70 hg o1 hq.1.2 hi31 (nm_e ?_)), fun z => ?_⟩, fun q => absurd rfl q⟩
          · rw [lk_1 (what := Bool.toNat false) c z] at hn
            exact nm_r (nI_1 i) hn
          · rw [lk_2 (what := Bool.toNat false) z] at hn
            exact nm_r (nI_1 i) hn
        · refine ⟨fun q => absurd q (by decide), fun _ => sX6_carriesIt hg hk t0 (by omega) ⟨fun z => ?_, fun z => nm_e (sX6_likely70 hg o1 hq.1.2 hi31 (nm_e ?_))⟩⟩
          · rw [lk_2 (what := Bool.toNat true) z] at hn
            exact nm_r (nI_1 i) hn
          · rw [lk_1 (what := Bool.toNat true) c z] at hn
            exact nm_r (nI_1 i) hn
  exact ⟨_, key (2 ^ (g 1)) 0 (by omega)⟩
theorem lgz (x : Int64) {A B : Prop} (h : A) : (lg_cmp x x = 0 → A) ∧ (¬ lg_cmp x x = 0 → B) := ⟨fun _ => h, fun q => absurd ((lg_cmp_eq x x).mpr rfl) q⟩
theorem zc_24 {L : Nat} {xs : Nat → Int32} {i : Nat} (hi : i + 4 ≤ L) {ko : Option ((Nat → Int32) × (Nat → Nat → Int32))} {sI : Nat → Int32} {sR : Nat → Nat → Int32} {tI : Nat → Int32} {tR : Nat → Nat → Int32} {hI : Nat → Int32} {hR : Nat → Nat → Int32} {mI : Nat → Int32} {mR : Nat → Nat → Int32} {oI : Nat → Int32} {oR : Nat → Nat → Int32} (h : zIn ko sI sR tI tR hI hR mI mR oI oR) : pL_24 L xs (nI i) sI sR tI tR hI hR mI mR oI oR (zIn ko) := by
  obtain ⟨g, r, hg, hh, ho, hr⟩ := h
  have b0 := hg.1
  have b1 := hg.2.1
  have e0 : hI 0 = nI (g 0) := hh.1 0 (by decide)
  have e1 : hI 1 = nI (g 1) := hh.1 1 (by decide)
  have o0 : oI 10 = nI (g 0) := ho.1.1.1
  have o1 : oI 11 = nI (g 1) := ho.1.1.2.1
  unfold pL_24 pX5_loses pX6_loses
  exact sX2_begin hg hh (fun mI' mR' hm => sX5_likely (what := 0) hg hh hm (by decide) (sX6_likely (z := false) hg ho (fun a b c => lgz _ (zK3 hg hh ho hr a b c))))
theorem zc_25 {L : Nat} {xs : Nat → Int32} {i : Nat} (hi : i + 4 ≤ L) {ko : Option ((Nat → Int32) × (Nat → Nat → Int32))} {sI : Nat → Int32} {sR : Nat → Nat → Int32} {tI : Nat → Int32} {tR : Nat → Nat → Int32} {hI : Nat → Int32} {hR : Nat → Nat → Int32} {mI : Nat → Int32} {mR : Nat → Nat → Int32} {oI : Nat → Int32} {oR : Nat → Nat → Int32} (h : zIn ko sI sR tI tR hI hR mI mR oI oR) : pL_25 L xs (nI i) sI sR tI tR hI hR mI mR oI oR (zIn ko) := by
  obtain ⟨g, r, hg, hh, ho, hr⟩ := h
  have b0 := hg.1
  have b1 := hg.2.1
  have e0 : hI 0 = nI (g 0) := hh.1 0 (by decide)
  have e1 : hI 1 = nI (g 1) := hh.1 1 (by decide)
  have o0 : oI 10 = nI (g 0) := ho.1.1.1
  have o1 : oI 11 = nI (g 1) := ho.1.1.2.1
  unfold pL_25 pX5_carries pX6_carries
  exact sX2_begin hg hh (fun mI' mR' hm => sX5_likely (what := 1) hg hh hm (by decide) (sX6_likely (z := true) hg ho (fun a b c => lgz _ (zK3 hg hh ho hr a b c))))
