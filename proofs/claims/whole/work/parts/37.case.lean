/-! the text: one statement -/
def Lf (n p : Nat) (oI : Nat → Int32) (oR : Nat → Nat → Int32) (tI : Nat → Int32) (tR : Nat → Nat → Int32) (post : Bool → (Nat → Int32) → (Nat → Nat → Int32) → (Nat → Int32) → (Nat → Nat → Int32) → Prop) : Prop := ∀ (b : Bool) (p' : Nat) (g' : Nat → Nat) (r' : Nat → Nat → Nat) hI' hR' oI' oR', (b = true → p < p') → p' ≤ n → HG g' r' → HR_ hI' hR' g' r' → OM oI' oR' g' r' → EO oI oR oI' oR' → oI' 18 = nI p' → (∀ K : Bool → (Nat → Int32) → (Nat → Nat → Int32) → Prop, K b oI' oR' → pX6_statement (va_up oI 18 (nI p)) oR K) → post b (va_up tI 1 (nI p')) tR hI' hR'
theorem EO.p18 {oI : Nat → Int32} {oR : Nat → Nat → Int32} (v : Int32) : EO oI oR (va_up oI 18 v) oR := ⟨⟨rfl, rfl, rfl⟩, rfl, rfl, rfl, rfl⟩
theorem EO.of18 {oI : Nat → Int32} {oR : Nat → Nat → Int32} {oI' : Nat → Int32} {oR' : Nat → Nat → Int32} {v : Int32} (h : EO (va_up oI 18 v) oR oI' oR') : EO oI oR oI' oR' := h
theorem op_hand {n p : Nat} {c : Nat → Nat} {g : Nat → Nat} {r : Nat → Nat → Nat} {oI : Nat → Int32} {oR : Nat → Nat → Int32} (ho : OM oI oR g r) (hx : OX n c oI oR) (hp : p < n) (ec : c p = 104) (hr : g 1 < 8) {K : Bool → (Nat → Int32) → (Nat → Nat → Int32) → Prop} (h : pX6_letters (va_up oI 18 (nI (p + 1))) oR (fun r2 oI_3 oR_3 => pX6_takes 59 oI_3 oR_3 (fun b3 oI_4 oR_4 => (b3 = true → pX6_comesHand r2 oI_4 oR_4 (fun _ oI_5 oR_5 => K true oI_5 oR_5)) ∧ (b3 = false → K false oI_4 oR_4)))) : pX6_statement (va_up oI 18 (nI p)) oR K := by
  unfold pX6_statement
  refine sX6_sign hx (by omega) (fun _ => ?_) (fun z => absurd hp z)
  rw [ec]
  refine ⟨fun q => absurd rfl q, fun _ => ?_⟩
  rw [show va_up oI 18 (nI p) 11 = nI (g 1) from ho.1.1.2.1]
  refine pk_le 8 (g 1) (fun z => absurd z (by omega)) (fun _ => ?_)
  unfold bX6_statement_108
  refine ⟨fun _ => ?_, fun q => absurd q (by decide)⟩
  rw [va_at', nI_1]
  refine nm_e ?_
  rw [bx_uu]
  refine ⟨fun q => absurd q (by decide), fun _ => ⟨fun _ => ⟨fun _ => ?_, fun q => absurd q (by decide)⟩, fun q => absurd q (by decide)⟩⟩
  have e1 : ∀ A B : Prop, ((¬ nI 104 = 104 → A) ∧ (nI 104 = 104 → B)) = B := fun A B => propext ⟨fun z => z.2 rfl, fun z => ⟨fun q => absurd rfl q, fun _ => z⟩⟩
  simp only [e1]
  exact h
theorem op_paper {n p : Nat} {c : Nat → Nat} {oI : Nat → Int32} {oR : Nat → Nat → Int32} (hx : OX n c oI oR) (hp : p < n) (ec : c p = 112) {K : Bool → (Nat → Int32) → (Nat → Nat → Int32) → Prop} (h : pX6_letters (va_up oI 18 (nI (p + 1))) oR (fun r2 oI_3 oR_3 => pX6_takes 59 oI_3 oR_3 (fun b3 oI_4 oR_4 => (b3 = true → K true (va_up oI_4 15 r2) oR_4) ∧ (b3 = false → K false oI_4 oR_4)))) : pX6_statement (va_up oI 18 (nI p)) oR K := by
  unfold pX6_statement
  refine sX6_sign hx (by omega) (fun _ => ?_) (fun z => absurd hp z)
  rw [ec]
  refine ⟨fun _ => ⟨fun _ => ⟨fun _ => ⟨fun _ => ⟨fun q => absurd rfl q, fun _ => ?_⟩, fun q => absurd q (by decide)⟩, fun q => absurd q (by decide)⟩, fun q => absurd q (by decide)⟩, fun q => absurd q (by decide)⟩
  unfold bX6_statement_108
  refine ⟨fun _ => ?_, fun q => absurd q (by decide)⟩
  rw [va_at', nI_1]
  refine nm_e ?_
  rw [bx_uu]
  refine ⟨fun q => absurd q (by decide), fun _ => ⟨fun _ => ⟨fun _ => ?_, fun q => absurd q (by decide)⟩, fun q => absurd q (by decide)⟩⟩
  have e0 : ¬ nI 112 = 104 := by decide
  have e1 : ∀ A B : Prop, ((¬ nI 112 = 104 → A) ∧ (nI 112 = 104 → B)) = A := fun A B => propext ⟨fun z => z.1 e0, fun z => ⟨fun _ => z, fun q => absurd q e0⟩⟩
  simp only [e1]
  exact h
theorem op_guess {n p : Nat} {c : Nat → Nat} {g : Nat → Nat} {r : Nat → Nat → Nat} {oI : Nat → Int32} {oR : Nat → Nat → Int32} (ho : OM oI oR g r) (hx : OX n c oI oR) (hp : p < n) (ec : c p = 103) (hr : g 6 < 12) {K : Bool → (Nat → Int32) → (Nat → Nat → Int32) → Prop} (h : pX6_readsGuess (va_up oI 18 (nI (p + 1))) oR (fun b a q => K b a q)) : pX6_statement (va_up oI 18 (nI p)) oR K := by
  unfold pX6_statement
  refine sX6_sign hx (by omega) (fun _ => ?_) (fun z => absurd hp z)
  rw [ec]
  refine ⟨fun _ => ⟨fun _ => ⟨fun _ => ⟨fun q => absurd rfl q, fun _ => ?_⟩, fun q => absurd q (by decide)⟩, fun q => absurd q (by decide)⟩, fun q => absurd q (by decide)⟩
  rw [show va_up oI 18 (nI p) 14 = nI (g 6) from ho.1.1.2.2.2.2.1]
  refine pk_le 12 (g 6) (fun z => absurd z (by omega)) (fun _ => ?_)
  unfold bX6_statement_108
  refine ⟨fun _ => ?_, fun q => absurd q (by decide)⟩
  rw [va_at', nI_1]
  refine nm_e ?_
  rw [bx_uu]
  exact ⟨fun q => absurd q (by decide), fun _ => ⟨fun _ => ⟨fun q => absurd rfl q, fun _ => h⟩, fun q => absurd q (by decide)⟩⟩
theorem op_sight {n p : Nat} {c : Nat → Nat} {g : Nat → Nat} {r : Nat → Nat → Nat} {oI : Nat → Int32} {oR : Nat → Nat → Int32} (ho : OM oI oR g r) (hx : OX n c oI oR) (hp : p < n) (ec : c p = 115) (hr : g 4 < 12) {K : Bool → (Nat → Int32) → (Nat → Nat → Int32) → Prop} (h : pX6_readsTwo true (va_up oI 18 (nI (p + 1))) oR (fun b a q => K b a q)) : pX6_statement (va_up oI 18 (nI p)) oR K := by
  unfold pX6_statement
  refine sX6_sign hx (by omega) (fun _ => ?_) (fun z => absurd hp z)
  rw [ec]
  refine ⟨fun _ => ⟨fun q => absurd rfl q, fun _ => ?_⟩, fun q => absurd q (by decide)⟩
  rw [show va_up oI 18 (nI p) 12 = nI (g 4) from ho.1.1.2.2.1]
  refine pk_le 12 (g 4) (fun z => absurd z (by omega)) (fun _ => ?_)
  unfold bX6_statement_108
  refine ⟨fun _ => ?_, fun q => absurd q (by decide)⟩
  rw [va_at', nI_1]
  refine nm_e ?_
  rw [bx_uu]
  exact ⟨fun _ => ⟨fun q => absurd rfl q, fun _ => h⟩, fun q => absurd rfl q⟩
theorem op_tie {n p : Nat} {c : Nat → Nat} {g : Nat → Nat} {r : Nat → Nat → Nat} {oI : Nat → Int32} {oR : Nat → Nat → Int32} (ho : OM oI oR g r) (hx : OX n c oI oR) (hp : p < n) (ec : c p = 116) (hr : g 5 < 12) {K : Bool → (Nat → Int32) → (Nat → Nat → Int32) → Prop} (h : pX6_readsTwo false (va_up oI 18 (nI (p + 1))) oR (fun b a q => K b a q)) : pX6_statement (va_up oI 18 (nI p)) oR K := by
  unfold pX6_statement
  refine sX6_sign hx (by omega) (fun _ => ?_) (fun z => absurd hp z)
  rw [ec]
  refine ⟨fun _ => ⟨fun _ => ⟨fun q => absurd rfl q, fun _ => ?_⟩, fun q => absurd q (by decide)⟩, fun q => absurd q (by decide)⟩
  rw [show va_up oI 18 (nI p) 13 = nI (g 5) from ho.1.1.2.2.2.1]
  refine pk_le 12 (g 5) (fun z => absurd z (by omega)) (fun _ => ?_)
  unfold bX6_statement_108
  refine ⟨fun _ => ?_, fun q => absurd q (by decide)⟩
  rw [va_at', nI_1]
  refine nm_e ?_
  rw [bx_uu]
  exact ⟨fun q => absurd q (by decide), fun _ => ⟨fun q => absurd rfl q, fun _ => ⟨fun _ => h, fun q => absurd q (by decide)⟩⟩⟩
theorem op_no {n p : Nat} {c : Nat → Nat} {g : Nat → Nat} {r : Nat → Nat → Nat} {oI : Nat → Int32} {oR : Nat → Nat → Int32} (hg : HG g r) (ho : OM oI oR g r) (hx : OX n c oI oR) (hp : p < n) (hno : ¬ (c p = 104 ∧ g 1 < 8 ∨ c p = 115 ∧ g 4 < 12 ∨ c p = 116 ∧ g 5 < 12 ∨ c p = 103 ∧ g 6 < 12 ∨ c p = 112)) {K : Bool → (Nat → Int32) → (Nat → Nat → Int32) → Prop} (h : K false (va_up oI 18 (nI p)) oR) : pX6_statement (va_up oI 18 (nI p)) oR K := by
  have hc := (hx.2.2 p hp).1
  have z : ∀ x, bX6_statement_108 x 0 (va_up oI 18 (nI p)) oR K := fun x => by
    unfold bX6_statement_108
    exact ⟨fun q => absurd rfl q, fun _ => h⟩
  have ne : ∀ k, k < 256 → nI (c p) = nI k → c p = k := fun k hk e => (nI_eq (by omega) (by omega)).mp e
  unfold pX6_statement
  refine sX6_sign hx (by omega) (fun _ => ?_) (fun z => absurd hp z)
  rw [show va_up oI 18 (nI p) 11 = nI (g 1) from ho.1.1.2.1, show va_up oI 18 (nI p) 12 = nI (g 4) from ho.1.1.2.2.1, show va_up oI 18 (nI p) 13 = nI (g 5) from ho.1.1.2.2.2.1, show va_up oI 18 (nI p) 14 = nI (g 6) from ho.1.1.2.2.2.2.1]
  have b4 := hg.2.2.2.2.1
  have b5 := hg.2.2.2.2.2.1
  have b6 := hg.2.2.2.2.2.2.1
  have b1 := hg.2.1
  refine ⟨fun _ => ⟨fun _ => ⟨fun _ => ⟨fun _ => ⟨fun _ => z _, fun e => ?_⟩, fun e => ?_⟩, fun e => ?_⟩, fun e => ?_⟩, fun e => ?_⟩
  · exact absurd (ne 112 (by decide) e) (by omega)
  · have := ne 103 (by decide) e
    exact pk_le 12 (g 6) (fun _ => z _) (fun q => absurd this (by omega))
  · have := ne 116 (by decide) e
    exact pk_le 12 (g 5) (fun _ => z _) (fun q => absurd this (by omega))
  · have := ne 115 (by decide) e
    exact pk_le 12 (g 4) (fun _ => z _) (fun q => absurd this (by omega))
  · have := ne 104 (by decide) e
    exact pk_le 8 (g 1) (fun _ => z _) (fun q => absurd this (by omega))
