/-! the text: sights and ties, and the whole of it -/
theorem dig6 {n q m : Nat} {c : Nat → Nat} {oI : Nat → Int32} {oR : Nat → Nat → Int32} (hy : OX n c oI oR) (e1 : oI 11 = nI m) (hm : m ≤ 8) (hq : q ≤ n) {P : Int32 → Bool → Prop} (h1 : ∀ j, j < m → q < n → c q = 48 + j → P (nI j) true) (h2 : (¬ ∃ j, j < m ∧ q < n ∧ c q = 48 + j) → ∀ v, P v false) : pX6_sign (va_up oI 18 (nI q)) oR (fun r1 => ∀ v2 : Int32, v2 = r1 - 48 → pX6_isHand v2 (va_up oI 18 (nI q)) oR (P v2)) := by
  refine sX6_sign hy hq (fun z => nm_e ?_) (fun z => nm_e ?_)
  · have hc := (hy.2.2 q z).1
    refine sX6_isHand (n := m) (oI := va_up oI 18 (nI q)) e1 hm (fun ex => h2 ?_ _) (fun j j1 j2 => ?_)
    · rintro ⟨j, j1, _, j2⟩
      exact ex ⟨j, j1, (nb_dg _ hc j (by omega)).mpr j2⟩
    · rw [j2]; exact h1 j j1 z ((nb_dg _ hc j (by omega)).mp j2)
  · exact sX6_isHand (n := m) (oI := va_up oI 18 (nI q)) e1 hm (fun _ => h2 (fun ⟨_, _, z2, _⟩ => z z2) _) (fun j j1 j2 => absurd j2 (mb_dg j (by omega)))
