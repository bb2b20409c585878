/-! every case, and the start -/
theorem zIn_law {L : Nat} {xs : Nat → Int32} (hL : L ≤ 2048) : zLw L xs zIn := ⟨fun i ko sI sR tI tR hI hR mI mR oI oR hi _ h => zc_0 hi h,
  fun i ko sI sR tI tR hI hR mI mR oI oR hi _ h => zc_1 hi h,
  fun i ko sI sR tI tR hI hR mI mR oI oR hi _ h => zc_2 hi h,
  fun i ko sI sR tI tR hI hR mI mR oI oR hi _ h => zc_3 hi h,
  fun i ko sI sR tI tR hI hR mI mR oI oR hi _ h => zc_4 hi h,
  fun i ko sI sR tI tR hI hR mI mR oI oR hi _ h => zc_5 hi h,
  fun i ko sI sR tI tR hI hR mI mR oI oR hi _ h => zc_6 hi h,
  fun i ko sI sR tI tR hI hR mI mR oI oR hi _ h => zc_7 hi h,
  fun i ko sI sR tI tR hI hR mI mR oI oR hi _ h => zc_8 hi h,
  fun i ko sI sR tI tR hI hR mI mR oI oR hi _ h => zc_9 hi h,
  fun i ko sI sR tI tR hI hR mI mR oI oR hi _ h => zc_10 hi h,
  fun i ko sI sR tI tR hI hR mI mR oI oR hi _ h => zc_11 hi h,
  fun i ko sI sR tI tR hI hR mI mR oI oR hi _ h => zc_12 hi h,
  fun i ko sI sR tI tR hI hR mI mR oI oR hi _ h => zc_13 hi h,
  fun i ko sI sR tI tR hI hR mI mR oI oR hi _ h => zc_14 hi h,
  fun i ko sI sR tI tR hI hR mI mR oI oR hi _ h => zc_15 hi h,
  fun i ko sI sR tI tR hI hR mI mR oI oR hi _ h => zc_16 hi h,
  fun i ko sI sR tI tR hI hR mI mR oI oR hi _ h => zc_17 hi h,
  fun i ko sI sR tI tR hI hR mI mR oI oR hi _ h => zc_18 hi h,
  fun i ko sI sR tI tR hI hR mI mR oI oR hi _ h => zc_19 hi h,
  fun i ko sI sR tI tR hI hR mI mR oI oR hi _ h => zc_20 hi h,
  fun i ko sI sR tI tR hI hR mI mR oI oR hi _ h => zc_21 hi h,
  fun i ko sI sR tI tR hI hR mI mR oI oR hi _ h => zc_22 hi h,
  fun i ko sI sR tI tR hI hR mI mR oI oR hi _ h => zc_23 hi h,
  fun i ko sI sR tI tR hI hR mI mR oI oR hi _ h => zc_24 hi h,
  fun i ko sI sR tI tR hI hR mI mR oI oR hi _ h => zc_25 hi h,
  fun i ko sI sR tI tR hI hR mI mR oI oR hi _ h => zc_26 hi h,
  fun i ko sI sR tI tR hI hR mI mR oI oR hi _ h => zc_27 hi h,
  fun i ko sI sR tI tR hI hR mI mR oI oR hi _ h => zc_28 hi h,
  fun i ko sI sR tI tR hI hR mI mR oI oR hi _ h => zc_31 hi h,
  fun i sI sR tI tR hI hR gI gR mI mR oI oR _ _ h => zc_29S h,
  fun i sI sR tI tR hI hR mI mR oI oR _ _ h => zc_29N h,
  fun i sI sR tI tR hI hR gI gR mI mR oI oR _ _ h => zc_30S h,
  fun i sI sR tI tR hI hR mI mR oI oR _ _ h => zc_30N h⟩
theorem zIn_start : zIn none (fun _ => 0) (fun _ _ => 0) (fun _ => 0) (fun _ _ => 0) (va_up (fun _ => 0) 0 4) (fun _ _ => 0) (fun _ => 0) (fun _ _ => 0) (va_up (fun _ => 0) 10 4) (fun _ _ => 0) := by
  refine ⟨va_up (fun _ => 0) 0 4, fun _ _ => 0, ?_, ?_, ?_, ?_, ?_, ?_⟩
  · refine ⟨⟨by decide, by decide⟩, by decide, by decide, by decide, by decide, by decide, by decide, fun i hi => ?_, fun i hi => ?_, fun i hi => ?_, fun i hi => ?_⟩
    · exact absurd (show i < 0 from hi) (by omega)
    · exact absurd (show i < 0 from hi) (by omega)
    · exact absurd (show i < 0 from hi) (by omega)
    · exact absurd (show i < 0 from hi) (by omega)
  · refine ⟨fun k hk => ?_, fun k hk i hi => rfl, fun k h1 h2 i hi => rfl⟩
    by_cases e : k = 0
    · subst e; rfl
    · rw [va_ne' _ _ e, va_ne' _ _ e]; rfl
  · refine ⟨⟨⟨rfl, rfl, rfl, rfl, rfl, rfl, rfl⟩, fun i hi => rfl, fun i hi => ?_, fun k h1 h2 i hi => rfl⟩, fun i hi => rfl⟩
    show (0 : Int32) = nI (Nat.testBit 0 i).toNat
    rw [Nat.zero_testBit]; rfl
  · exact ⟨⟨0, by decide, rfl, rfl, fun i hi => absurd hi (by omega)⟩, fun i hi => rfl⟩
  · exact ⟨0, by decide, rfl, rfl, fun i hi => absurd hi (by omega)⟩
  · exact rfl
