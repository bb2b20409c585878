/-! worlds -/
def wPa (aP : Nat → Nat) (cyI : ClassId) (pn : Int32) (pf ps : Nat → Int32) : va_W := [(aP 0, .inr (3, [.ref (aP 1), .ref (aP 2), .int pn])), (aP 1, .inl (cyI, 12, .inl pf)), (aP 2, .inl (cyI, 12, .inl ps))]
def wCh (aC : Nat → Nat) (cyI : ClassId) (cz ct : Int32) (cf : Nat → Int32) : va_W := [(aC 0, .inr (0, [.ref (aC 1), .int cz, .int ct])), (aC 1, .inl (cyI, 70, .inl cf))]
def wAr (aA : Nat) (cyI : ClassId) (rf : Nat → Int32) : va_W := [(aA, .inl (cyI, 8, .inl rf))]
def wHo (aH : Nat → Nat) (cyI : ClassId) (hI : Nat → Int32) (hR : Nat → Nat → Int32) : va_W := [(aH 0, .inr (1, [.ref (aH 1), .ref (aH 2), .ref (aH 3), .ref (aH 6), .ref (aH 9), .int (hI 0), .int (hI 1), .int (hI 2), .int (hI 3)])), (aH 1, .inl (cyI, 8, .inl (hR 0))), (aH 2, .inl (cyI, 8, .inl (hR 1))), (aH 3, .inr (3, [.ref (aH 4), .ref (aH 5), .int (hI 4)])), (aH 4, .inl (cyI, 12, .inl (hR 2))), (aH 5, .inl (cyI, 12, .inl (hR 3))), (aH 6, .inr (3, [.ref (aH 7), .ref (aH 8), .int (hI 5)])), (aH 7, .inl (cyI, 12, .inl (hR 4))), (aH 8, .inl (cyI, 12, .inl (hR 5))), (aH 9, .inr (3, [.ref (aH 10), .ref (aH 11), .int (hI 6)])), (aH 10, .inl (cyI, 12, .inl (hR 6))), (aH 11, .inl (cyI, 12, .inl (hR 7)))]
def wMi (aH aM : Nat → Nat) (cyI : ClassId) (mI : Nat → Int32) (mR : Nat → Nat → Int32) : va_W := [(aM 0, .inr (2, [.ref (aH 0), .ref (aM 1), .ref (aM 2), .ref (aM 3), .ref (aM 4), .ref (aM 5), .ref (aM 7), .int (mI 0), .int (mI 1), .int (mI 2), .int (mI 3)])), (aM 1, .inl (cyI, 8, .inl (mR 0))), (aM 2, .inl (cyI, 8, .inl (mR 1))), (aM 3, .inl (cyI, 8, .inl (mR 2))), (aM 4, .inl (cyI, 8, .inl (mR 3))), (aM 5, .inr (0, [.ref (aM 6), .int (mI 4), .int (mI 5)])), (aM 6, .inl (cyI, 70, .inl (mR 4))), (aM 7, .inr (0, [.ref (aM 8), .int (mI 6), .int (mI 7)])), (aM 8, .inl (cyI, 70, .inl (mR 5)))]
def wTe (aT : Nat → Nat) (cyB : ClassId) (tI : Nat → Int32) (tR : Nat → Nat → Int32) : va_W := [(aT 0, .inr (4, [.ref (aT 1), .int (tI 0), .int (tI 1)])), (aT 1, .inl (cyB, 80, .inl (tR 0)))]
def wSt (aH aM aT aS : Nat → Nat) (kp : Value) (cyI : ClassId) (sI : Nat → Int32) (sR : Nat → Nat → Int32) : va_W := [(aS 0, .inr (5, [.ref (aH 0), .ref (aM 0), .ref (aT 0), .ref (aS 1), .ref (aS 2), .ref (aS 3), .int (sI 0), kp])), (aS 1, .inl (cyI, 8, .inl (sR 0))), (aS 2, .inl (cyI, 7, .inl (sR 1))), (aS 3, .inl (cyI, 2, .inl (sR 2)))]
def wMo (aO : Nat → Nat) (cyI : ClassId) (oI : Nat → Int32) (oR : Nat → Nat → Int32) : va_W := [(aO 0, .inr (6, [.ref (aO 1), .ref (aO 2), .ref (aO 3), .ref (aO 4), .ref (aO 5), .ref (aO 6), .ref (aO 7), .ref (aO 8), .ref (aO 9), .ref (aO 10), .int (oI 10), .int (oI 11), .int (oI 12), .int (oI 13), .int (oI 14), .int (oI 15), .ref (aO 11), .int (oI 17), .int (oI 18), .ref (aO 12), .ref (aO 13), .ref (aO 14), .int (oI 22), .ref (aO 15), .ref (aO 16), .ref (aO 17), .int (oI 26), .ref (aO 18), .int (oI 28), .int (oI 29), .int (oI 30)])), (aO 1, .inl (cyI, 7, .inl (oR 0))), (aO 2, .inl (cyI, 8, .inl (oR 1))), (aO 3, .inl (cyI, 8, .inl (oR 2))), (aO 4, .inl (cyI, 8, .inl (oR 3))), (aO 5, .inl (cyI, 12, .inl (oR 4))), (aO 6, .inl (cyI, 12, .inl (oR 5))), (aO 7, .inl (cyI, 12, .inl (oR 6))), (aO 8, .inl (cyI, 12, .inl (oR 7))), (aO 9, .inl (cyI, 12, .inl (oR 8))), (aO 10, .inl (cyI, 12, .inl (oR 9))), (aO 11, .inl (cyI, 80, .inl (oR 16))), (aO 12, .inl (cyI, 8, .inl (oR 19))), (aO 13, .inl (cyI, 8, .inl (oR 20))), (aO 14, .inl (cyI, 8, .inl (oR 21))), (aO 15, .inl (cyI, 2, .inl (oR 23))), (aO 16, .inl (cyI, 8, .inl (oR 24))), (aO 17, .inl (cyI, 8, .inl (oR 25))), (aO 18, .inl (cyI, 120, .inl (oR 27)))]
theorem zkb_m20 : (Int8.ofInt (-20)).toInt32 = (-20) := by decide +kernel
theorem zkb_m9 : (Int8.ofInt (-9)).toInt32 = (-9) := by decide +kernel
theorem zkb_m6 : (Int8.ofInt (-6)).toInt32 = (-6) := by decide +kernel
theorem zkb_m4 : (Int8.ofInt (-4)).toInt32 = (-4) := by decide +kernel
theorem zkb_m3 : (Int8.ofInt (-3)).toInt32 = (-3) := by decide +kernel
theorem zkb_m2 : (Int8.ofInt (-2)).toInt32 = (-2) := by decide +kernel
theorem zkb_7 : (Int8.ofInt 7).toInt32 = 7 := by decide +kernel
theorem zkb_8 : (Int8.ofInt 8).toInt32 = 8 := by decide +kernel
theorem zkb_10 : (Int8.ofInt 10).toInt32 = 10 := by decide +kernel
theorem zkb_11 : (Int8.ofInt 11).toInt32 = 11 := by decide +kernel
theorem zkb_12 : (Int8.ofInt 12).toInt32 = 12 := by decide +kernel
theorem zkb_16 : (Int8.ofInt 16).toInt32 = 16 := by decide +kernel
theorem zkb_31 : (Int8.ofInt 31).toInt32 = 31 := by decide +kernel
theorem zkb_48 : (Int8.ofInt 48).toInt32 = 48 := by decide +kernel
theorem zkb_50 : (Int8.ofInt 50).toInt32 = 50 := by decide +kernel
theorem zkb_59 : (Int8.ofInt 59).toInt32 = 59 := by decide +kernel
theorem zkb_62 : (Int8.ofInt 62).toInt32 = 62 := by decide +kernel
theorem zkb_63 : (Int8.ofInt 63).toInt32 = 63 := by decide +kernel
theorem zkb_70 : (Int8.ofInt 70).toInt32 = 70 := by decide +kernel
theorem zkb_80 : (Int8.ofInt 80).toInt32 = 80 := by decide +kernel
theorem zkb_97 : (Int8.ofInt 97).toInt32 = 97 := by decide +kernel
theorem zkb_99 : (Int8.ofInt 99).toInt32 = 99 := by decide +kernel
theorem zkb_100 : (Int8.ofInt 100).toInt32 = 100 := by decide +kernel
theorem zkb_103 : (Int8.ofInt 103).toInt32 = 103 := by decide +kernel
theorem zkb_104 : (Int8.ofInt 104).toInt32 = 104 := by decide +kernel
theorem zkb_112 : (Int8.ofInt 112).toInt32 = 112 := by decide +kernel
theorem zkb_115 : (Int8.ofInt 115).toInt32 = 115 := by decide +kernel
theorem zkb_116 : (Int8.ofInt 116).toInt32 = 116 := by decide +kernel
theorem zki_m1 : Int32.ofInt (-1) = (-1) := by decide +kernel
theorem zki_0 : Int32.ofInt 0 = 0 := by decide +kernel
theorem zki_1 : Int32.ofInt 1 = 1 := by decide +kernel
theorem zki_2 : Int32.ofInt 2 = 2 := by decide +kernel
theorem zki_3 : Int32.ofInt 3 = 3 := by decide +kernel
theorem zki_4 : Int32.ofInt 4 = 4 := by decide +kernel
theorem zki_5 : Int32.ofInt 5 = 5 := by decide +kernel
theorem zks_12345 : (Int16.ofInt 12345).toInt32 = 12345 := by decide +kernel
