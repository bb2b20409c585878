/-! the invariant of the law's loop -/
def OM (oI : Nat → Int32) (oR : Nat → Nat → Int32) (g : Nat → Nat) (r : Nat → Nat → Nat) : Prop := OQ oI oR g r (r 0) 0 (g 3) ∧ ∀ i, i < 8 → oR 2 i = nI (r 1 i)
def SM (sI : Nat → Int32) (sR : Nat → Nat → Int32) (oI : Nat → Int32) (oR : Nat → Nat → Int32) : Prop := (∃ n, n ≤ 8 ∧ sI 0 = nI n ∧ oI 26 = nI n ∧ ∀ i, i < n → ∃ q, q < 8 ∧ sR 0 i = nI q ∧ oR 25 i = nI q) ∧ ∀ i, i < 7 → sR 1 i = oR 0 i
def sbt (c : Nat) : Int32 := (nI c).toInt8.toInt32
def TM (tI : Nat → Int32) (tR : Nat → Nat → Int32) (oI : Nat → Int32) (oR : Nat → Nat → Int32) : Prop := ∃ n, n ≤ 80 ∧ tI 0 = nI n ∧ oI 17 = nI n ∧ ∀ i, i < n → ∃ c, c < 256 ∧ oR 16 i = nI c ∧ tR 0 i = sbt c
def KE (k : Nat → Int32) (g : Nat → Nat) (r : Nat → Nat → Nat) : Prop := (∀ i, i < 8 → k i = nI (r 0 i) ∧ k (8 + i) = nI (r 1 i) ∧ k (16 + i) = nI ((g 2).testBit i).toNat) ∧ (∀ i, i < 12 → k (24 + i) = nI (r 2 i) ∧ k (36 + i) = nI (r 3 i) ∧ k (48 + i) = nI (r 4 i) ∧ k (60 + i) = nI (r 5 i) ∧ k (72 + i) = nI (r 6 i) ∧ k (84 + i) = nI (r 7 i)) ∧ k 96 = nI (g 0) ∧ k 97 = nI (g 1) ∧ k 98 = nI (g 4) ∧ k 99 = nI (g 5) ∧ k 100 = nI (g 6) ∧ k 101 = nI (g 3)
def KM (ko : Option ((Nat → Int32) × (Nat → Nat → Int32))) (oI : Nat → Int32) (oR : Nat → Nat → Int32) : Prop := match ko with
  | none => oI 28 = 0
  | some q => oI 28 = 1 ∧ ∃ g r, HG g r ∧ HR_ q.1 q.2 g r ∧ KE (oR 27) g r
/-- class and reference say the same, but for the house -/
def RM (ko : Option ((Nat → Int32) × (Nat → Nat → Int32))) (sI : Nat → Int32) (sR : Nat → Nat → Int32) (tI : Nat → Int32) (tR : Nat → Nat → Int32) (oI : Nat → Int32) (oR : Nat → Nat → Int32) : Prop := SM sI sR oI oR ∧ TM tI tR oI oR ∧ KM ko oI oR
def zIn : zIv := fun ko sI sR tI tR hI hR _ _ oI oR => ∃ g r, HG g r ∧ HR_ hI hR g r ∧ OM oI oR g r ∧ RM ko sI sR tI tR oI oR
/-- which of the reference's numbers and rows count -/
def iO (k : Nat) : Prop := (10 ≤ k ∧ k ≤ 15) ∨ k = 17 ∨ k = 22 ∨ k = 26 ∨ k = 28
def rO (k : Nat) : Prop := k ≤ 9 ∨ k = 16 ∨ k = 25 ∨ k = 27
theorem OQ.same {oI oI' : Nat → Int32} {oR oR' : Nat → Nat → Int32} {g : Nat → Nat} {r : Nat → Nat → Nat} {t : Nat → Nat} {w p : Nat} (h : OQ oI oR g r t w p) (h1 : ∀ k, iO k → oI' k = oI k) (h2 : ∀ k, rO k → oR' k = oR k) : OQ oI' oR' g r t w p := by
  obtain ⟨⟨a0, a1, a2, a3, a4, a5, a6⟩, b1, b2, b3⟩ := h
  refine ⟨⟨?_, ?_, ?_, ?_, ?_, ?_, ?_⟩, ?_, ?_, ?_⟩
  · rw [h1 10 (by unfold iO; omega)]; exact a0
  · rw [h1 11 (by unfold iO; omega)]; exact a1
  · rw [h1 12 (by unfold iO; omega)]; exact a2
  · rw [h1 13 (by unfold iO; omega)]; exact a3
  · rw [h1 14 (by unfold iO; omega)]; exact a4
  · rw [h1 15 (by unfold iO; omega)]; exact a5
  · rw [h1 22 (by unfold iO; omega)]; exact a6
  · rw [h2 1 (by unfold rO; omega)]; exact b1
  · rw [h2 3 (by unfold rO; omega)]; exact b2
  · intro k k1 k2
    rw [h2 (k + 2) (by unfold rO; omega)]; exact b3 k k1 k2
theorem OM.same {oI oI' : Nat → Int32} {oR oR' : Nat → Nat → Int32} {g : Nat → Nat} {r : Nat → Nat → Nat} (h : OM oI oR g r) (h1 : ∀ k, iO k → oI' k = oI k) (h2 : ∀ k, rO k → oR' k = oR k) : OM oI' oR' g r := ⟨h.1.same h1 h2, by rw [h2 2 (by unfold rO; omega)]; exact h.2⟩
theorem SM.same {sI : Nat → Int32} {sR : Nat → Nat → Int32} {oI oI' : Nat → Int32} {oR oR' : Nat → Nat → Int32} (h : SM sI sR oI oR) (h1 : oI' 26 = oI 26) (h2 : oR' 25 = oR 25) (h3 : oR' 0 = oR 0) : SM sI sR oI' oR' := by
  unfold SM at h ⊢
  rw [h1, h2, h3]; exact h
theorem TM.same {tI : Nat → Int32} {tR : Nat → Nat → Int32} {oI oI' : Nat → Int32} {oR oR' : Nat → Nat → Int32} (h : TM tI tR oI oR) (h1 : oI' 17 = oI 17) (h2 : oR' 16 = oR 16) : TM tI tR oI' oR' := by
  unfold TM at h ⊢
  rw [h1, h2]; exact h
theorem KM.same {ko : Option ((Nat → Int32) × (Nat → Nat → Int32))} {oI oI' : Nat → Int32} {oR oR' : Nat → Nat → Int32} (h : KM ko oI oR) (h1 : oI' 28 = oI 28) (h2 : oR' 27 = oR 27) : KM ko oI' oR' := by
  unfold KM at h ⊢
  rw [h1, h2]; exact h
theorem RM.same {ko : Option ((Nat → Int32) × (Nat → Nat → Int32))} {sI : Nat → Int32} {sR : Nat → Nat → Int32} {tI : Nat → Int32} {tR : Nat → Nat → Int32} {oI oI' : Nat → Int32} {oR oR' : Nat → Nat → Int32} (h : RM ko sI sR tI tR oI oR) (h1 : oI' 26 = oI 26 ∧ oI' 17 = oI 17 ∧ oI' 28 = oI 28) (h2 : oR' 25 = oR 25 ∧ oR' 0 = oR 0 ∧ oR' 16 = oR 16 ∧ oR' 27 = oR 27) : RM ko sI sR tI tR oI' oR' := ⟨h.1.same h1.1 h2.1 h2.2.1, h.2.1.same h1.2.1 h2.2.2.1, h.2.2.same h1.2.2 h2.2.2.2⟩
theorem RM.sameO {ko : Option ((Nat → Int32) × (Nat → Nat → Int32))} {sI : Nat → Int32} {sR : Nat → Nat → Int32} {tI : Nat → Int32} {tR : Nat → Nat → Int32} {oI oI' : Nat → Int32} {oR oR' : Nat → Nat → Int32} (h : RM ko sI sR tI tR oI oR) (h1 : ∀ k, iO k → oI' k = oI k) (h2 : ∀ k, rO k → oR' k = oR k) : RM ko sI sR tI tR oI' oR' := h.same ⟨h1 26 (by unfold iO; omega), h1 17 (by unfold iO; omega), h1 28 (by unfold iO; omega)⟩ ⟨h2 25 (by unfold rO; omega), h2 0 (by unfold rO; omega), h2 16 (by unfold rO; omega), h2 27 (by unfold rO; omega)⟩
theorem rO_K3 (oR : Nat → Nat → Int32) (a b c : Nat → Int32) : ∀ k, rO k → K3 oR a b c k = oR k := by
  intro k hk
  unfold rO at hk
  unfold K3
  rw [va_ne' _ _ (by omega), va_ne' _ _ (by omega), va_ne' _ _ (by omega)]
-- refusals
theorem refC {x : Int32} {k : Nat} (hx : -x = nI k) (hk : k < 7) {sI : Nat → Int32} {sR : Nat → Nat → Int32} {post : Int32 → (Nat → Int32) → (Nat → Nat → Int32) → Prop} (h : post x sI (va_up sR 1 (upd (sR 1) k (sR 1 k + 1)))) : pX5_refuse x sI sR post := by
  unfold pX5_refuse
  rw [hx]
  refine nm_e ⟨fun c => absurd c (nI_pos (by omega)), fun _ => ?_⟩
  exact pk_le 7 k (fun c => absurd c (by omega)) (fun _ => ⟨k, rfl, hk, nm_e h⟩)
theorem refM {x : Int32} {k : Nat} (hx : -x = nI k) (hk : k < 7) {oI : Nat → Int32} {oR : Nat → Nat → Int32} {post : Int32 → (Nat → Int32) → (Nat → Nat → Int32) → Prop} (h : post x oI (va_up oR 0 (upd (oR 0) k (oR 0 k + 1)))) : pX6_no x oI oR post := ⟨k, hx, hk, nm_e h⟩
theorem RM.ref {ko : Option ((Nat → Int32) × (Nat → Nat → Int32))} {sI : Nat → Int32} {sR : Nat → Nat → Int32} {tI : Nat → Int32} {tR : Nat → Nat → Int32} {oI : Nat → Int32} {oR : Nat → Nat → Int32} (h : RM ko sI sR tI tR oI oR) {k : Nat} (hk : k < 7) : RM ko sI (va_up sR 1 (upd (sR 1) k (sR 1 k + 1))) tI tR oI (va_up oR 0 (upd (oR 0) k (oR 0 k + 1))) := by
  obtain ⟨⟨h1, h2⟩, h3, h4⟩ := h
  refine ⟨⟨h1, fun i hi => ?_⟩, h3, h4⟩
  show upd (sR 1) k (sR 1 k + 1) i = upd (oR 0) k (oR 0 k + 1) i
  by_cases e : i = k
  · subst e; rw [upd_at, upd_at, h2 i hi]
  · rw [upd_ne e, upd_ne e]; exact h2 i hi
theorem OM.ref {oI : Nat → Int32} {oR : Nat → Nat → Int32} {g : Nat → Nat} {r : Nat → Nat → Nat} (h : OM oI oR g r) (v : Nat → Int32) : OM oI (va_up oR 0 v) g r := ⟨⟨h.1.1, h.1.2.1, h.1.2.2.1, fun k k1 k2 => by rw [va_ne' _ _ (by omega)]; exact h.1.2.2.2 k k1 k2⟩, h.2⟩
/-- both refuse alike -/
theorem ref2 {x : Int32} {k : Nat} (hx : -x = nI k) (hk : k < 7) {ko : Option ((Nat → Int32) × (Nat → Nat → Int32))} {sI : Nat → Int32} {sR : Nat → Nat → Int32} {tI : Nat → Int32} {tR : Nat → Nat → Int32} {oI : Nat → Int32} {oR : Nat → Nat → Int32} {g : Nat → Nat} {r : Nat → Nat → Nat} (ho : OM oI oR g r) (hr : RM ko sI sR tI tR oI oR) {P : Int32 → (Nat → Int32) → (Nat → Nat → Int32) → (Int32 → (Nat → Int32) → (Nat → Nat → Int32) → Prop) → Prop} {Q : Prop} (h : ∀ sR' oR', OM oI oR' g r → RM ko sI sR' tI tR oI oR' → sR' = va_up sR 1 (upd (sR 1) k (sR 1 k + 1)) → oR' = va_up oR 0 (upd (oR 0) k (oR 0 k + 1)) → Q) : Q := h _ _ (ho.ref _) (hr.ref hk) rfl rfl
-- bounds
theorem bnd (x : Int32) {a b : Nat} (ha : a < 2 ^ 31) (hb : b < 2 ^ 31) : x < nI a ∨ nI b < x ∨ ∃ j, a ≤ j ∧ j ≤ b ∧ x = nI j := by
  rcases Int32.lt_or_le x (nI a) with h | h
  · exact Or.inl h
  · rcases Int32.lt_or_le (nI b) x with h2 | h2
    · exact Or.inr (Or.inl h2)
    · refine Or.inr (Or.inr ?_)
      have h1 : ¬ x < 0 := fun z => by
        have := Int32.lt_of_le_of_lt h z
        exact nI_pos ha this
      obtain ⟨j, j1, j2⟩ := nI_of h1
      subst j2
      rw [nI_leI ha j1] at h
      rw [nI_leI j1 hb] at h2
      exact ⟨j, h, h2, rfl⟩
theorem oLo {x a b : Int32} (h : x < a) {post : Int32 → Prop} (hp : post (-4)) : pX5_outside x a b post := ⟨fun c => absurd h (Int32.not_lt.mpr c), fun _ => hp⟩
theorem oHi {x a b : Int32} (h0 : a ≤ x) (h : b < x) {post : Int32 → Prop} (hp : post (-6)) : pX5_outside x a b post := ⟨fun _ => ⟨fun c => absurd h (Int32.not_lt.mpr c), fun _ => hp⟩, fun c => absurd h0 c⟩
theorem oIn {x a b : Int32} (h0 : a ≤ x) (h : x ≤ b) {post : Int32 → Prop} (hp : post 0) : pX5_outside x a b post := ⟨fun _ => ⟨fun _ => hp, fun c => absurd h c⟩, fun c => absurd h0 c⟩
theorem bLo {x a b : Int32} (h : x < a) {post : Int32 → Prop} (hp : post (-4)) : pX6_bound x a b post := oLo h hp
theorem bHi {x a b : Int32} (h0 : a ≤ x) (h : b < x) {post : Int32 → Prop} (hp : post (-6)) : pX6_bound x a b post := oHi h0 h hp
theorem bIn {x a b : Int32} (h0 : a ≤ x) (h : x ≤ b) {post : Int32 → Prop} (hp : post 0) : pX6_bound x a b post := oIn h0 h hp
theorem lt_hi {x : Int32} {a b : Nat} (hab : a ≤ b) (hb : b < 2 ^ 31) (h : nI b < x) : nI a ≤ x := Int32.le_of_lt (Int32.lt_of_le_of_lt (nI_le hab hb) h)
