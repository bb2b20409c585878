/-! the class's choices -/
def bcf (x : Int32) : Int32 :=
  (fun v1 : Int32 => (fun v2 : Int32 => (fun v3 : Int32 => (fun v4 : Int32 => (fun v5 : Int32 => v5 &&& 63) (v4 + (((v4).toUInt32 >>> ((16 : Int32).toUInt32 &&& Int32.toUInt32 31)).toInt32))) (v3 + (((v3).toUInt32 >>> ((8 : Int32).toUInt32 &&& Int32.toUInt32 31)).toInt32))) ((v2 + (((v2).toUInt32 >>> ((4 : Int32).toUInt32 &&& Int32.toUInt32 31)).toInt32)) &&& 252645135)) ((v1 &&& 858993459) + ((((v1).toUInt32 >>> ((2 : Int32).toUInt32 &&& Int32.toUInt32 31)).toInt32) &&& 858993459))) (x - ((((x).toUInt32 >>> ((1 : Int32).toUInt32 &&& Int32.toUInt32 31)).toInt32) &&& 1431655765))
theorem bcf_ok : ∀ a, a < 64 → ∀ b, b < 64 → bcf (nI (64 * a + b)) = nI (pc (64 * a + b)) := by decide +kernel
def cw (j : Nat) : Nat → Nat
  | 0 => 0
  | i + 1 => cw j i + (if pc i = j then 1 else 0)
theorem cw_70 : ∀ j, j < 9 → cw j 256 ≤ 70 := by decide +kernel
