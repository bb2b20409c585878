/-! the text: one statement on both sides -/
def EO (oI : Nat → Int32) (oR : Nat → Nat → Int32) (oI' : Nat → Int32) (oR' : Nat → Nat → Int32) : Prop := (oI' 17 = oI 17 ∧ oI' 26 = oI 26 ∧ oI' 28 = oI 28) ∧ oR' 0 = oR 0 ∧ oR' 16 = oR 16 ∧ oR' 25 = oR 25 ∧ oR' 27 = oR 27
theorem OM.p18 {oI : Nat → Int32} {oR : Nat → Nat → Int32} {g : Nat → Nat} {r : Nat → Nat → Nat} (h : OM oI oR g r) (v : Int32) : OM (va_up oI 18 v) oR g r := ⟨⟨h.1.1, h.1.2⟩, h.2⟩
def handG (g : Nat → Nat) : Nat → Nat := va_up g 1 (g 1 + 1)
def handR (g : Nat → Nat) (r : Nat → Nat → Nat) (s : Nat) : Nat → Nat → Nat := va_up (va_up r 0 (va_up (r 0) (g 1) s)) 1 (va_up (r 1) (g 1) 5)
def addR (r : Nat → Nat → Nat) (k m a b : Nat) : Nat → Nat → Nat := va_up (va_up r k (va_up (r k) m a)) (k + 1) (va_up (r (k + 1)) m b)
theorem HG_hand {g : Nat → Nat} {r : Nat → Nat → Nat} (hg : HG g r) (c : g 1 < 8) {s : Nat} (hs : s < 2 ^ (g 0)) : HG (handG g) (handR g r s) := by
  obtain ⟨h0, h1, h2, h3, h4, h5, h6, h7, h8, h9, h10⟩ := hg
  refine ⟨h0, by show g 1 + 1 ≤ 8; omega, Nat.lt_of_lt_of_le h2 (Nat.pow_le_pow_right (by decide) (by show g 1 ≤ g 1 + 1; omega)), h3, h4, h5, h6, fun q hq => ?_, fun q hq => ?_, fun q hq => ?_, h10⟩
  · have hq : q < g 1 + 1 := hq
    show va_up (r 0) (g 1) s q < 2 ^ (g 0) ∧ va_up (r 1) (g 1) 5 q ≤ 100
    by_cases e : q = g 1
    · subst e; rw [va_at', va_at']; exact ⟨hs, by decide⟩
    · rw [va_ne' _ _ e, va_ne' _ _ e]; exact h7 q (by omega)
  · have := h8 q hq
    show r 2 q < g 1 + 1 ∧ r 3 q < g 1 + 1
    omega
  · have := h9 q hq
    show r 4 q < g 1 + 1 ∧ r 5 q < g 1 + 1
    omega
theorem sX1_addHand {g : Nat → Nat} {r : Nat → Nat → Nat} {hI : Nat → Int32} {hR : Nat → Nat → Int32} (hg : HG g r) (hh : HR_ hI hR g r) (c : g 1 < 8) {s : Nat} {post : (Nat → Int32) → (Nat → Nat → Int32) → Prop} (h : ∀ hI' hR', HR_ hI' hR' (handG g) (handR g r s) → post hI' hR') : pX1_addHand (nI s) hI hR post := by
  have e1 : hI 1 = nI (g 1) := hh.1 1 (by decide)
  unfold pX1_addHand
  rw [e1]
  refine pk_le 8 (g 1) (fun c2 => absurd c2 (by omega)) (fun _ => ⟨g 1, rfl, c, ?_⟩)
  refine nm_r (nI_1 (g 1)) (h _ _ ?_)
  have s1 := hh.upI 1 (g 1 + 1)
  exact (s1.upR 0 (g 1) s).upR 1 (g 1) 5
theorem sX6_comesHand {g : Nat → Nat} {r : Nat → Nat → Nat} {oI : Nat → Int32} {oR : Nat → Nat → Int32} (hg : HG g r) (ho : OM oI oR g r) (c : g 1 < 8) (s : Nat) : ∃ oI' oR', OM oI' oR' (handG g) (handR g r s) ∧ EO oI oR oI' oR' ∧ oI' 18 = oI 18 ∧ ∀ post : Int32 → (Nat → Int32) → (Nat → Nat → Int32) → Prop, (∀ x, post x oI' oR') → pX6_comesHand (nI s) oI oR post := by
  have o1 : oI 11 = nI (g 1) := ho.1.1.2.1
  unfold pX6_comesHand
  rw [o1]
  refine ⟨_, _, ?_, ?_, ?_, fun post h => ⟨g 1, rfl, c, nm_r (nI_1 (g 1)) (h _)⟩⟩
  case refine_2 => exact ⟨⟨rfl, rfl, rfl⟩, rfl, rfl, rfl, rfl⟩
  case refine_3 => rfl
  obtain ⟨⟨⟨a0, a1, a2, a3, a4, a5, a6⟩, c1, c2, c3⟩, c4⟩ := ho
  refine ⟨⟨⟨a0, rfl, a2, a3, a4, a5, a6⟩, updN c1, fun q hq => ?_, ?_⟩, updN c4⟩
  · show upd (oR 3) (g 1) 0 q = nI ((g 2).testBit q).toNat
    by_cases e : q = g 1
    · subst e; rw [upd_at, tb_lt hg.2.2.1 (Nat.le_refl _)]; rfl
    · rw [upd_ne e]; exact c2 q hq
  · have k1 := rows_lo (rows_lo (rows_lo' c3 (a := 3) (by decide) (upd (oR 3) (g 1) 0)) (a := 1) (b := 0) (by decide) (by decide) (upd (oR 1) (g 1) (nI s)) (va_up (r 0) (g 1) s)) (a := 2) (b := 1) (by decide) (by decide) (upd (oR 2) (g 1) 5) (va_up (r 1) (g 1) 5)
    intro q h1 h2 z hz
    have := k1 q h1 h2 z hz
    rw [va_ne' _ _ (by omega), va_ne' _ _ (by omega), va_ne' _ _ (by omega)] at this ⊢
    exact this
-- the three lists
theorem HG_sight {g : Nat → Nat} {r : Nat → Nat → Nat} (hg : HG g r) (hn : g 4 < 12) {a b : Nat} (ha : a < g 1) (hb : b < g 1) : HG (va_up g 4 (g 4 + 1)) (addR r 2 (g 4) a b) := by
  obtain ⟨h0, h1, h2, h3, h4, h5, h6, h7, h8, h9, h10⟩ := hg
  exact ⟨h0, h1, h2, h3, hn, h5, h6, h7, pr_add (P := fun x y => x < g 1 ∧ y < g 1) h8 ⟨ha, hb⟩, h9, h10⟩
theorem HG_tie {g : Nat → Nat} {r : Nat → Nat → Nat} (hg : HG g r) (hn : g 5 < 12) {a b : Nat} (ha : a < g 1) (hb : b < g 1) : HG (va_up g 5 (g 5 + 1)) (addR r 4 (g 5) a b) := by
  obtain ⟨h0, h1, h2, h3, h4, h5, h6, h7, h8, h9, h10⟩ := hg
  exact ⟨h0, h1, h2, h3, h4, hn, h6, h7, h8, pr_add (P := fun x y => x < g 1 ∧ y < g 1) h9 ⟨ha, hb⟩, h10⟩
theorem HG_guess {g : Nat → Nat} {r : Nat → Nat → Nat} (hg : HG g r) (hn : g 6 < 12) {a b : Nat} (ha : a < 2 ^ (g 0)) (hb : b < g 0) : HG (va_up g 6 (g 6 + 1)) (addR r 6 (g 6) a b) := by
  obtain ⟨h0, h1, h2, h3, h4, h5, h6, h7, h8, h9, h10⟩ := hg
  exact ⟨h0, h1, h2, h3, h4, h5, hn, h7, h8, h9, pr_add (P := fun x y => x < 2 ^ (g 0) ∧ y < g 0) h10 ⟨ha, hb⟩⟩
theorem HG_paper {g : Nat → Nat} {r : Nat → Nat → Nat} (hg : HG g r) {s : Nat} (hs : s < 2 ^ (g 0)) : HG (va_up g 3 s) r := by
  obtain ⟨h0, h1, h2, h3, h4⟩ := hg
  exact ⟨h0, h1, h2, hs, h4⟩
theorem OM_paper {g : Nat → Nat} {r : Nat → Nat → Nat} {oI : Nat → Int32} {oR : Nat → Nat → Int32} (ho : OM oI oR g r) (s : Nat) : OM (va_up oI 15 (nI s)) oR (va_up g 3 s) r := by
  obtain ⟨⟨⟨a0, a1, a2, a3, a4, a5, a6⟩, c1⟩, c4⟩ := ho
  exact ⟨⟨⟨a0, a1, a2, a3, a4, rfl, a6⟩, c1⟩, c4⟩
theorem sX6_comesSight {g : Nat → Nat} {r : Nat → Nat → Nat} {oI : Nat → Int32} {oR : Nat → Nat → Int32} (ho : OM oI oR g r) (c : g 4 < 12) (a b : Nat) : ∃ oI' oR', OM oI' oR' (va_up g 4 (g 4 + 1)) (addR r 2 (g 4) a b) ∧ EO oI oR oI' oR' ∧ oI' 18 = oI 18 ∧ ∀ post : Int32 → (Nat → Int32) → (Nat → Nat → Int32) → Prop, (∀ x, post x oI' oR') → pX6_comesSight (nI a) (nI b) oI oR post := by
  unfold pX6_comesSight
  rw [ho.1.1.2.2.1]
  refine ⟨_, _, ?_, ?_, ?_, fun post h => ⟨g 4, rfl, c, nm_r (nI_1 _) (h _)⟩⟩
  case refine_2 => exact ⟨⟨rfl, rfl, rfl⟩, rfl, rfl, rfl, rfl⟩
  case refine_3 => rfl
  obtain ⟨⟨⟨a0, a1, a2, a3, a4, a5, a6⟩, c1, c2, c3⟩, c4⟩ := ho
  exact ⟨⟨⟨a0, a1, rfl, a3, a4, a5, a6⟩, c1, c2, rows_up (rows_up c3 2 (g 4) a) 3 (g 4) b⟩, c4⟩
theorem sX6_comesTie {g : Nat → Nat} {r : Nat → Nat → Nat} {oI : Nat → Int32} {oR : Nat → Nat → Int32} (ho : OM oI oR g r) (c : g 5 < 12) (a b : Nat) : ∃ oI' oR', OM oI' oR' (va_up g 5 (g 5 + 1)) (addR r 4 (g 5) a b) ∧ EO oI oR oI' oR' ∧ oI' 18 = oI 18 ∧ ∀ post : Int32 → (Nat → Int32) → (Nat → Nat → Int32) → Prop, (∀ x, post x oI' oR') → pX6_comesTie (nI a) (nI b) oI oR post := by
  unfold pX6_comesTie
  rw [ho.1.1.2.2.2.1]
  refine ⟨_, _, ?_, ?_, ?_, fun post h => ⟨g 5, rfl, c, nm_r (nI_1 _) (h _)⟩⟩
  case refine_2 => exact ⟨⟨rfl, rfl, rfl⟩, rfl, rfl, rfl, rfl⟩
  case refine_3 => rfl
  obtain ⟨⟨⟨a0, a1, a2, a3, a4, a5, a6⟩, c1, c2, c3⟩, c4⟩ := ho
  exact ⟨⟨⟨a0, a1, a2, rfl, a4, a5, a6⟩, c1, c2, rows_up (rows_up c3 4 (g 5) a) 5 (g 5) b⟩, c4⟩
theorem sX6_comesGuess {g : Nat → Nat} {r : Nat → Nat → Nat} {oI : Nat → Int32} {oR : Nat → Nat → Int32} (ho : OM oI oR g r) (c : g 6 < 12) (a b : Nat) : ∃ oI' oR', OM oI' oR' (va_up g 6 (g 6 + 1)) (addR r 6 (g 6) a b) ∧ EO oI oR oI' oR' ∧ oI' 18 = oI 18 ∧ ∀ post : Int32 → (Nat → Int32) → (Nat → Nat → Int32) → Prop, (∀ x, post x oI' oR') → pX6_comesGuess (nI a) (nI b) oI oR post := by
  unfold pX6_comesGuess
  rw [ho.1.1.2.2.2.2.1]
  refine ⟨_, _, ?_, ?_, ?_, fun post h => ⟨g 6, rfl, c, nm_r (nI_1 _) (h _)⟩⟩
  case refine_2 => exact ⟨⟨rfl, rfl, rfl⟩, rfl, rfl, rfl, rfl⟩
  case refine_3 => rfl
  obtain ⟨⟨⟨a0, a1, a2, a3, a4, a5, a6⟩, c1, c2, c3⟩, c4⟩ := ho
  exact ⟨⟨⟨a0, a1, a2, a3, rfl, a5, a6⟩, c1, c2, rows_up (rows_up c3 6 (g 6) a) 7 (g 6) b⟩, c4⟩
