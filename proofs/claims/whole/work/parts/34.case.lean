/-! steps, feed: the cases -/
theorem HR_.setR {hI : Nat → Int32} {hR : Nat → Nat → Int32} {g : Nat → Nat} {r : Nat → Nat → Nat} (h : HR_ hI hR g r) (k : Nat) {f : Nat → Int32} {a : Nat → Nat} (h1 : k < 2 → ∀ i, i < 8 → f i = nI (a i)) (h2 : 2 ≤ k → k < 8 → ∀ i, i < 12 → f i = nI (a i)) : HR_ hI (va_up hR k f) g (va_up r k a) := by
  refine ⟨h.1, fun q hq => ?_, fun q q1 q2 => ?_⟩
  · by_cases e : q = k
    · subst e; rw [va_at', va_at']; exact h1 hq
    · rw [va_ne' _ _ e, va_ne' _ _ e]; exact h.2.1 q hq
  · by_cases e : q = k
    · subst e; rw [va_at', va_at']; exact h2 q1 q2
    · rw [va_ne' _ _ e, va_ne' _ _ e]; exact h.2.2 q q1 q2
theorem rows_set {oR : Nat → Nat → Int32} {r : Nat → Nat → Nat} (h : ∀ k, 2 ≤ k → k < 8 → ∀ i, i < 12 → oR (k + 2) i = nI (r k i)) (k : Nat) {f : Nat → Int32} {a : Nat → Nat} (hf : ∀ i, i < 12 → f i = nI (a i)) : ∀ q, 2 ≤ q → q < 8 → ∀ i, i < 12 → va_up oR (k + 2) f (q + 2) i = nI (va_up r k a q i) := by
  intro q h1 h2
  by_cases e : q = k
  · subst e; rw [va_at', va_at']; exact hf
  · rw [va_ne' _ _ (by omega), va_ne' _ _ e]; exact h q h1 h2
theorem and_all {a N : Nat} : a &&& (2 ^ N - 1) < 2 ^ N := Nat.lt_of_le_of_lt Nat.and_le_right (by have := Nat.two_pow_pos N; omega)
theorem zc_2 {L : Nat} {xs : Nat → Int32} {i : Nat} (hi : i + 4 ≤ L) {ko : Option ((Nat → Int32) × (Nat → Nat → Int32))} {sI : Nat → Int32} {sR : Nat → Nat → Int32} {tI : Nat → Int32} {tR : Nat → Nat → Int32} {hI : Nat → Int32} {hR : Nat → Nat → Int32} {mI : Nat → Int32} {mR : Nat → Nat → Int32} {oI : Nat → Int32} {oR : Nat → Nat → Int32} (h : zIn ko sI sR tI tR hI hR mI mR oI oR) : pL_2 L xs (nI i) sI sR tI tR hI hR mI mR oI oR (zIn ko) := by
  obtain ⟨g, r, hg, hh, ho, hr⟩ := h
  have b0 := hg.1
  have b1 := hg.2.1
  have e0 : hI 0 = nI (g 0) := hh.1 0 (by decide)
  have e1 : hI 1 = nI (g 1) := hh.1 1 (by decide)
  have o0 : oI 10 = nI (g 0) := ho.1.1.1
  have o1 : oI 11 = nI (g 1) := ho.1.1.2.1
  refine ⟨i + 1, nI_1 i, by omega, ?_⟩
  generalize xs (i + 1) = x
  have b6 := hg.2.2.2.2.2.2.1
  unfold pX5_steps pX6_steps
  rcases bnd x (a := 1) (b := 10) (by decide) (by decide) with c | c | ⟨N, n1, n2, ev⟩
  · exact oLo c ⟨fun q => absurd q (by decide), fun _ => refC (k := 4) (by decide) (by decide) (bLo c ⟨fun q => absurd q (by decide), fun _ => refM (k := 4) (by decide) (by decide) (fin2 rfl ⟨g, r, hg, hh, ho.ref _, hr.ref (by decide)⟩)⟩)⟩
  · have c0 := lt_hi (a := 1) (by decide) (by decide) c
    exact oHi c0 c ⟨fun q => absurd q (by decide), fun _ => refC (k := 6) (by decide) (by decide) (bHi c0 c ⟨fun q => absurd q (by decide), fun _ => refM (k := 6) (by decide) (by decide) (fin2 rfl ⟨g, r, hg, hh, ho.ref _, hr.ref (by decide)⟩)⟩)⟩
  subst ev
  refine oIn (nI_le (a := 1) n1 (by omega)) (nI_le (b := 10) n2 (by decide)) ⟨fun _ => ?_, fun c => absurd rfl c⟩
  have gb : ∀ k, k < g 6 → r 6 k < 2 ^ 31 ∧ r 7 k < 2 ^ 31 := fun k hk => by
    have := hg.2.2.2.2.2.2.2.2.2.2 k hk
    exact ⟨lt31 this.1 (by omega), by omega⟩
  unfold pX1_setSteps pX1_it
  rw [va_self hR 0]
  refine sX1_steps7 (N := N) (m := g 1) n2 b1 (hI := va_up hI 0 (nI N)) rfl e1 (t := r 0) (hh.2.1 0 (by decide)) (fun f hf => ?_)
  have a3 : va_up hI 0 (nI N) 3 &&& (1 <<< (va_up hI 0 (nI N) 0 &&& 31) - 1) = nI (g 3 &&& (2 ^ N - 1)) := by
    show hI 3 &&& (1 <<< (nI N &&& 31) - 1) = nI (g 3 &&& (2 ^ N - 1))
    rw [q_all (by omega), hh.1 3 (by decide), q_and]
  refine nm_r a3 ?_
  refine sX1_drop (N := N) (n := g 6) n2 b6 (hI := va_up (va_up hI 0 (nI N)) 3 (nI (g 3 &&& (2 ^ N - 1)))) (hR := va_up hR 0 f) rfl (hh.1 6 (by decide)) gb (hh.2.2 6 (by decide) (by decide)) (hh.2.2 7 (by decide) (by decide)) (fun pf ps hpf hps => ?_)
  refine bIn (nI_le (a := 1) n1 (by omega)) (nI_le (b := 10) n2 (by decide)) ⟨fun _ => ?_, fun c => absurd rfl c⟩
  unfold pX6_all
  rw [va_self oR 1]
  refine sX6_steps31 (N := N) (m := g 1) n2 b1 (oI := va_up oI 10 (nI N)) rfl o1 (t := r 0) ho.1.2.1 (fun f2 hf2 => ?_)
  have a4 : va_up oI 10 (nI N) 15 &&& (1 <<< (va_up oI 10 (nI N) 10 &&& 31) - 1) = nI (g 3 &&& (2 ^ N - 1)) := by
    show oI 15 &&& (1 <<< (nI N &&& 31) - 1) = nI (g 3 &&& (2 ^ N - 1))
    rw [q_all (by omega), ho.1.1.2.2.2.2.2.1, q_and]
  refine nm_r a4 ?_
  refine sX6_drop (N := N) (n := g 6) n2 b6 (oI := va_up (va_up oI 10 (nI N)) 15 (nI (g 3 &&& (2 ^ N - 1)))) (oR := va_up oR 1 f2) rfl ho.1.1.2.2.2.2.1 gb (ho.1.2.2.2 6 (by decide) (by decide)) (ho.1.2.2.2 7 (by decide) (by decide)) (fun pf2 ps2 hpf2 hps2 => ?_)
  refine fin2 (by rw [e0, o0]) ?_
  refine ⟨va_up (va_up (va_up g 0 N) 3 (g 3 &&& (2 ^ N - 1))) 6 (fgt N (r 6) (r 7) (g 6)).1, va_up (va_up (va_up r 0 (fun q => if q < g 1 then r 0 q &&& (2 ^ N - 1) else r 0 q)) 6 (fgt N (r 6) (r 7) (g 6)).2.1) 7 (fgt N (r 6) (r 7) (g 6)).2.2, ?_, ?_, ?_, hr.same ⟨rfl, rfl, rfl⟩ ⟨rfl, rfl, rfl, rfl⟩⟩
  · obtain ⟨h0, h1, h2, h3, h4, h5, h6, h7, h8, h9, h10⟩ := hg
    have l := fgt_le N (r 6) (r 7) (g 6)
    refine ⟨⟨n1, n2⟩, h1, h2, and_all, h4, h5, Nat.le_trans l h6, fun q hq => ⟨?_, (h7 q hq).2⟩, h8, h9, fgt_ok N (r 6) (r 7) (g 6)⟩
    show (if q < g 1 then r 0 q &&& (2 ^ N - 1) else r 0 q) < 2 ^ N
    have hq : q < g 1 := hq
    rw [if_pos hq]; exact and_all
  · exact (((((hh.upI 0 N).upI 3 _).upI 6 _).setR 0 (fun _ => hf) (fun c => absurd c (by decide))).setR 6 (fun c => absurd c (by decide)) (fun _ _ => hpf)).setR 7 (fun c => absurd c (by decide)) (fun _ _ => hps)
  · obtain ⟨⟨⟨a0, a1, a2, a3, a4, a5, a6⟩, c1, c2, c3⟩, c4⟩ := ho
    exact ⟨⟨⟨rfl, a1, a2, a3, rfl, rfl, a6⟩, hf2, c2, rows_set (rows_set (rows_lo c3 (a := 1) (b := 0) (by decide) (by decide) f2 _) 6 hpf2) 7 hps2⟩, c4⟩
-- feed
theorem f_sh : ∀ i, i < 8 → ((((8 : Int32) * nI i).toInt64 &&& 63).toBitVec.smod 64).toNat = 8 * i := by decide +kernel
theorem f_sh2 : ∀ i, i < 8 → ((((8 : Int32) * nI i).toInt64.toUInt64 &&& Int64.toUInt64 63).toBitVec % 64).toNat = 8 * i := by decide +kernel
theorem f_a (y : Int64) {i : Nat} (hi : i < 8) : ∀ j, j < 32 → ((y >>> (((8 : Int32) * nI i).toInt64 &&& 63)) &&& (255 : Int64)).toInt32.toBitVec.getLsbD j = (decide (j < 8) && y.toBitVec.getLsbD (8 * i + j)) := by
  intro j hj
  have h255 : ∀ j, j < 32 → (255 : Int64).toBitVec.getLsbD j = decide (j < 8) := by decide +kernel
  rw [Int64.toBitVec_toInt32, BitVec.getLsbD_signExtend, Int64.toBitVec_and, BitVec.getLsbD_and, h255 j hj, Int64.toBitVec_shiftRight, BitVec.sshiftRight_eq', f_sh i hi, decide_eq_true hj, Bool.true_and, if_pos (by omega)]
  by_cases c : j < 8
  · rw [decide_eq_true c, Bool.and_true, Bool.true_and, BitVec.getLsbD_sshiftRight, if_pos (by omega), decide_eq_false (by omega)]
    rfl
  · rw [decide_eq_false c, Bool.and_false, Bool.false_and]
theorem f_b (y : Int64) {i : Nat} (hi : i < 8) : ∀ j, j < 8 → (y.toUInt64 >>> (((8 : Int32) * nI i).toInt64.toUInt64 &&& Int64.toUInt64 63)).toInt64.toInt32.toBitVec.getLsbD j = y.toBitVec.getLsbD (8 * i + j) := by
  intro j hj
  rw [Int64.toBitVec_toInt32, BitVec.getLsbD_signExtend, UInt64.toBitVec_toInt64, UInt64.toBitVec_shiftRight, BitVec.ushiftRight_eq', f_sh2 i hi, BitVec.getLsbD_ushiftRight, decide_eq_true (show j < 32 by omega), if_pos (by omega)]
  rfl
theorem f_c (y : Int64) {i : Nat} (hi : i < 8) : ∃ c, c < 256 ∧ ((y >>> (((8 : Int32) * nI i).toInt64 &&& 63)) &&& (255 : Int64)).toInt32 = nI c ∧ vp_nar .byte (y.toUInt64 >>> (((8 : Int32) * nI i).toInt64.toUInt64 &&& Int64.toUInt64 63)).toInt64.toInt32.toInt8.toInt32 = sbt c := by
  have bt : ∀ j, (y.toBitVec.toNat >>> (8 * i) % 2 ^ 8).testBit j = (decide (j < 8) && y.toBitVec.getLsbD (8 * i + j)) := by
    intro j
    rw [Nat.testBit_mod_two_pow, Nat.testBit_shiftRight]; rfl
  have hr : ((y >>> (((8 : Int32) * nI i).toInt64 &&& 63)) &&& (255 : Int64)).toInt32 = nI (y.toBitVec.toNat >>> (8 * i) % 2 ^ 8) := by
    apply Int32.toBitVec_inj.mp
    apply BitVec.eq_of_getLsbD_eq
    intro j hj
    rw [f_a y hi j hj, ← bt j]
    show _ = (BitVec.ofNat 32 _).getLsbD j
    rw [BitVec.getLsbD_ofNat, decide_eq_true hj, Bool.true_and]
  refine ⟨y.toBitVec.toNat >>> (8 * i) % 2 ^ 8, Nat.mod_lt _ (by decide), hr, ?_⟩
  rw [vp_nar_byte, Int8.toInt8_toInt32]
  unfold sbt
  congr 1
  apply Int8.toBitVec_inj.mp
  apply BitVec.eq_of_getLsbD_eq
  intro j hj
  rw [Int32.toBitVec_toInt8, Int32.toBitVec_toInt8, BitVec.getLsbD_signExtend, BitVec.getLsbD_signExtend, if_pos (by omega), if_pos (by omega), f_b y hi j hj]
  show _ = (decide (j < 8) && (BitVec.ofNat 32 _).getLsbD j)
  rw [BitVec.getLsbD_ofNat, bt j, decide_eq_true hj, decide_eq_true (show j < 32 by omega)]
  simp
theorem sX4_take {v n : Nat} (hv : v ≤ 8) (hn : n + v ≤ 80) {y : Int64} {tI : Nat → Int32} {tR : Nat → Nat → Int32} (e0 : tI 0 = nI n) {c : Nat → Nat} (hc : ∀ i, i < 8 → ((y >>> (((8 : Int32) * nI i).toInt64 &&& 63)) &&& (255 : Int64)).toInt32 = nI (c i) ∧ vp_nar .byte (y.toUInt64 >>> (((8 : Int32) * nI i).toInt64.toUInt64 &&& Int64.toUInt64 63)).toInt64.toInt32.toInt8.toInt32 = sbt (c i)) {post : (Nat → Int32) → (Nat → Nat → Int32) → Prop} (h : ∀ f : Nat → Int32, (∀ i, i < n → f i = tR 0 i) → (∀ i, i < v → f (n + i) = sbt (c i)) → post (va_up tI 0 (nI (n + v))) (va_up tR 0 f)) : pX4_take (nI v) y tI tR post := by
  have key : ∀ d i (f : Nat → Int32), i + d = v → (∀ j, j < n → f j = tR 0 j) → (∀ j, j < i → f (n + j) = sbt (c j)) → bX4_take_3 (nI v) y post (d + 1) (nI i) (va_up tI 0 (nI (n + i))) (va_up tR 0 f) := by
    intro d
    induction d with
    | zero =>
      intro i f hi h1 h2
      have hi : i = v := by omega
      subst hi
      unfold bX4_take_3
      exact pk_le i i (fun _ => h f h1 h2) (fun c => absurd c (by omega))
    | succ d ih =>
      intro i f hi h1 h2
      unfold bX4_take_3
      refine pk_le v i (fun c => absurd c (by omega)) (fun _ => pk_le 80 (n + i) (fun c => absurd c (by omega)) (fun _ => nm_e ⟨n + i, rfl, by omega, nm_r (nI_1 (n + i)) (nm_r (nI_1 i) ?_)⟩))
      rw [(hc i (by omega)).2, bx_uu, bx_uu]
      refine ih (i + 1) _ (by omega) (fun j hj => ?_) (fun j hj => ?_)
      · rw [upd_ne (by omega)]; exact h1 j hj
      · by_cases e : j = i
        · subst e; rw [upd_at]
        · rw [upd_ne (by omega)]; exact h2 j (by omega)
  have := key v 0 (tR 0) (by omega) (fun _ _ => rfl) (fun j hj => by omega)
  rw [va_eta, Nat.add_zero n, ← e0, va_eta] at this
  exact ⟨v + 1, this⟩
theorem sX6_feed44 {v n : Nat} (hv : v ≤ 8) (hn : n + v ≤ 80) {y : Int64} {oI : Nat → Int32} {oR : Nat → Nat → Int32} (e0 : oI 17 = nI n) {c : Nat → Nat} (hc : ∀ i, i < 8 → ((y >>> (((8 : Int32) * nI i).toInt64 &&& 63)) &&& (255 : Int64)).toInt32 = nI (c i)) {post : Int32 → (Nat → Int32) → (Nat → Nat → Int32) → Prop} (h : ∀ f : Nat → Int32, (∀ i, i < n → f i = oR 16 i) → (∀ i, i < v → f (n + i) = nI (c i)) → post (nI (n + v)) (va_up oI 17 (nI (n + v))) (va_up oR 16 f)) : ∃ m, bX6_feed_44 (nI v) y post m 0 oI oR := by
  have key : ∀ d i (f : Nat → Int32), i + d = v → (∀ j, j < n → f j = oR 16 j) → (∀ j, j < i → f (n + j) = nI (c j)) → bX6_feed_44 (nI v) y post (d + 1) (nI i) (va_up oI 17 (nI (n + i))) (va_up oR 16 f) := by
    intro d
    induction d with
    | zero =>
      intro i f hi h1 h2
      have hi : i = v := by omega
      subst hi
      unfold bX6_feed_44
      exact pk_le i i (fun _ => h f h1 h2) (fun c => absurd c (by omega))
    | succ d ih =>
      intro i f hi h1 h2
      unfold bX6_feed_44
      refine pk_le v i (fun c => absurd c (by omega)) (fun _ => nm_r (hc i (by omega)) ⟨n + i, rfl, by omega, nm_r (nI_1 (n + i)) (nm_r (nI_1 i) ?_)⟩)
      rw [bx_uu, bx_uu]
      refine ih (i + 1) _ (by omega) (fun j hj => ?_) (fun j hj => ?_)
      · rw [upd_ne (by omega)]; exact h1 j hj
      · by_cases e : j = i
        · subst e; rw [upd_at]
        · rw [upd_ne (by omega)]; exact h2 j (by omega)
  have := key v 0 (oR 16) (by omega) (fun _ _ => rfl) (fun j hj => by omega)
  rw [va_eta, Nat.add_zero n, ← e0, va_eta] at this
  exact ⟨v + 1, this⟩
theorem zc_0 {L : Nat} {xs : Nat → Int32} {i : Nat} (hi : i + 4 ≤ L) {ko : Option ((Nat → Int32) × (Nat → Nat → Int32))} {sI : Nat → Int32} {sR : Nat → Nat → Int32} {tI : Nat → Int32} {tR : Nat → Nat → Int32} {hI : Nat → Int32} {hR : Nat → Nat → Int32} {mI : Nat → Int32} {mR : Nat → Nat → Int32} {oI : Nat → Int32} {oR : Nat → Nat → Int32} (h : zIn ko sI sR tI tR hI hR mI mR oI oR) : pL_0 L xs (nI i) sI sR tI tR hI hR mI mR oI oR (zIn ko) := by
  obtain ⟨g, r, hg, hh, ho, hr⟩ := h
  have b0 := hg.1
  have b1 := hg.2.1
  have e0 : hI 0 = nI (g 0) := hh.1 0 (by decide)
  have e1 : hI 1 = nI (g 1) := hh.1 1 (by decide)
  have o0 : oI 10 = nI (g 0) := ho.1.1.1
  have o1 : oI 11 = nI (g 1) := ho.1.1.2.1
  refine ⟨i + 1, nI_1 i, by omega, i + 2, nI_add i 2, by omega, i + 3, nI_add i 3, by omega, ?_⟩
  generalize xs (i + 1) = x
  generalize (((((xs (i + 2))).toInt64) <<< (((32 : Int32)).toInt64 &&& 63)) ||| ((((xs (i + 3))).toInt64) &&& (4294967295 : Int64))) = y
  obtain ⟨n, n8, t0, o17, htx⟩ := hr.2.1
  have f4 : zIn ko sI (va_up sR 1 (upd (sR 1) 4 (sR 1 4 + 1))) tI tR hI hR mI mR oI (va_up oR 0 (upd (oR 0) 4 (oR 0 4 + 1))) := ⟨g, r, hg, hh, ho.ref _, hr.ref (by decide)⟩
  have f6 : zIn ko sI (va_up sR 1 (upd (sR 1) 6 (sR 1 6 + 1))) tI tR hI hR mI mR oI (va_up oR 0 (upd (oR 0) 6 (oR 0 6 + 1))) := ⟨g, r, hg, hh, ho.ref _, hr.ref (by decide)⟩
  unfold pX5_feed pX6_feed
  rcases bnd x (a := 1) (b := 8) (by decide) (by decide) with c | c | ⟨v, v1, v2, ev⟩
  · refine ⟨fun q => absurd c (Int32.not_lt.mpr q), fun _ => refC (k := 4) (by decide) (by decide) (bLo c ⟨fun _ => ⟨fun q => absurd q (by decide), fun _ => refM (k := 4) (by decide) (by decide) (fin2 rfl f4)⟩, fun q => absurd q (by decide)⟩)⟩
  · have c0 := lt_hi (a := 1) (by decide) (by decide) c
    refine ⟨fun _ => ⟨fun _ => refC (k := 6) (by decide) (by decide) (bHi c0 c ⟨fun _ => ⟨fun q => absurd q (by decide), fun _ => refM (k := 6) (by decide) (by decide) (fin2 rfl f6)⟩, fun q => absurd q (by decide)⟩), fun q => absurd c q⟩, fun q => absurd c0 q⟩
  · subst ev
    have l1 : (1 : Int32) ≤ nI v := nI_le (a := 1) v1 (by omega)
    have l2 : nI v ≤ (8 : Int32) := nI_le (b := 8) v2 (by decide)
    have e80 : (80 : Int32) - tI 0 = nI (80 - n) := by
      rw [t0]
      show nI 80 - nI n = nI (80 - n)
      rw [show (80 : Nat) = 80 - n + n by omega, ← nI_add, Int32.add_sub_cancel, show 80 - n + n - n = 80 - n by omega]
    rw [e80]
    refine ⟨fun _ => ⟨fun q => absurd q (Int32.not_lt.mpr l2), fun _ => pk_le v (80 - n) (fun c => ?_) (fun c => refC (k := 6) (by decide) (by decide) (bIn l1 l2 ⟨fun q => absurd rfl q, fun _ => ?_⟩))⟩, fun q => absurd l1 q⟩
    · obtain ⟨w, hw⟩ : ∃ w : Nat → Nat, ∀ i, i < 8 → w i < 256 ∧ ((y >>> (((8 : Int32) * nI i).toInt64 &&& 63)) &&& (255 : Int64)).toInt32 = nI (w i) ∧ vp_nar .byte (y.toUInt64 >>> (((8 : Int32) * nI i).toInt64.toUInt64 &&& Int64.toUInt64 63)).toInt64.toInt32.toInt8.toInt32 = sbt (w i) := by
        refine ⟨fun i => if h : i < 8 then (f_c y h).choose else 0, fun i hi => ?_⟩
        dsimp only
        rw [dif_pos hi]
        exact (f_c y hi).choose_spec
      refine sX4_take v2 (by omega) t0 (fun i hi => (hw i hi).2) (fun f hf1 hf2 => bIn l1 l2 ⟨fun q => absurd rfl q, fun _ => ?_⟩)
      rw [o17, nI_add]
      refine pk_le (n + v) 80 (fun _ => ⟨fun _ => ?_, fun q => absurd rfl q⟩) (fun c => absurd c (by omega))
      refine sX6_feed44 v2 (by omega) o17 (fun i hi => (hw i hi).2.1) (fun f' hf1' hf2' => fin2 rfl ?_)
      refine ⟨g, r, hg, hh, ?_, hr.1.same rfl rfl rfl, ⟨n + v, by omega, rfl, rfl, fun q hq => ?_⟩, hr.2.2.same rfl rfl⟩
      · obtain ⟨⟨c0, c1, c2, c3⟩, c4⟩ := ho
        exact ⟨⟨c0, c1, c2, fun k k1 k2 => by rw [va_ne' _ _ (by omega)]; exact c3 k k1 k2⟩, c4⟩
      · show ∃ c, c < 256 ∧ f' q = nI c ∧ f q = sbt c
        by_cases e : q < n
        · rw [hf1 q e, hf1' q e]; exact htx q e
        · have h1 := hf2 (q - n) (by omega)
          have h2 := hf2' (q - n) (by omega)
          rw [show n + (q - n) = q by omega] at h1 h2
          exact ⟨w (q - n), (hw (q - n) (by omega)).1, h2, h1⟩
    · rw [o17, nI_add]
      refine pk_le (n + v) 80 (fun c => absurd c (by omega)) (fun _ => ⟨fun q => absurd q (by decide), fun _ => refM (k := 6) (by decide) (by decide) (fin2 rfl f6)⟩)
