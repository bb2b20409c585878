set_option maxHeartbeats 4000000 in
set_option maxRecDepth 100000 in
theorem xL_0 {C : zC} {D : va_G} {cyI cyB : ClassId} {b L k n : Nat} {xs : Nat → Int32} {aS : Nat → Nat} {aT : Nat → Nat} {aH : Nat → Nat} {aM : Nat → Nat} {aO : Nat → Nat} {kp : Value} {K : va_W} (x3 : Int32) (sI : Nat → Int32) (sR : Nat → Nat → Int32) (tI : Nat → Int32) (tR : Nat → Nat → Int32) (hI : Nat → Int32) (hR : Nat → Nat → Int32) (mI : Nat → Int32) (mR : Nat → Nat → Int32) (oI : Nat → Int32) (oR : Nat → Nat → Int32) (F : zF C D room_1 cL_law 4 wsL_law RL ret cyI cyB) (hX : va_X b L xs C.2.1.1 C.2.1.1.heap ∧ b < C.2.1.1.heap.size ∧ ¬ C.2.2.2.2 b ∧ L ≤ 2048) (hkn : k ≤ room_1.cells ∧ n ≤ room_1.slots) {kont : (Nat → Int32) → (Nat → Nat → Int32) → (Nat → Int32) → (Nat → Nat → Int32) → (Nat → Int32) → (Nat → Nat → Int32) → (Nat → Int32) → (Nat → Nat → Int32) → (Nat → Int32) → (Nat → Nat → Int32) → Prop} (hkont : ∀ (sI : Nat → Int32) (sR : Nat → Nat → Int32) (tI : Nat → Int32) (tR : Nat → Nat → Int32) (hI : Nat → Int32) (hR : Nat → Nat → Int32) (mI : Nat → Int32) (mR : Nat → Nat → Int32) (oI : Nat → Int32) (oR : Nat → Nat → Int32), kont sI sR tI tR hI hR mI mR oI oR → zX C D 4 k n (wSt aH aM aT aS kp cyI sI sR ++ wTe aT cyB tI tR ++ wHo aH cyI hI hR ++ wMi aH aM cyI mI mR ++ wMo aO cyI oI oR ++ K) 1102 [(0, .ref b), (1, .ref (aS 0)), (2, .ref (aO 0)), (3, .int x3)] []) (hw : pL_0 L xs x3 sI sR tI tR hI hR mI mR oI oR kont) : zX C D 4 k n (wSt aH aM aT aS kp cyI sI sR ++ wTe aT cyB tI tR ++ wHo aH cyI hI hR ++ wMi aH aM cyI mI mR ++ wMo aO cyI oI oR ++ K) 176 [(0, .ref b), (1, .ref (aS 0)), (2, .ref (aO 0)), (3, .int x3)] [] := by
  refine z_aload_n F dL_law_176 177 rfl 1 rfl ?_
  refine z_aload_n F dL_law_177 178 rfl 0 rfl ?_
  refine z_iload_n F dL_law_178 179 rfl 3 rfl ?_
  refine z_iconst F dL_law_179 180 rfl zki_1 ?_
  refine z_iadd F dL_law_180 181 rfl ?_
  obtain ⟨j1, ej1, hj1, hw⟩ := hw
  refine z_sld F hX dL_law_181 182 rfl j1 ej1 hj1 ?_
  refine z_aload_n F dL_law_182 183 rfl 0 rfl ?_
  refine z_iload_n F dL_law_183 184 rfl 3 rfl ?_
  refine z_iconst F dL_law_184 185 rfl zki_2 ?_
  refine z_iadd F dL_law_185 186 rfl ?_
  obtain ⟨j2, ej2, hj2, hw⟩ := hw
  refine z_sld F hX dL_law_186 187 rfl j2 ej2 hj2 ?_
  refine z_i2l F dL_law_187 188 rfl ?_
  refine z_bipush F dL_law_188 190 rfl zkb_32 ?_
  refine z_lshl F dL_law_190 191 rfl ?_
  refine z_aload_n F dL_law_191 192 rfl 0 rfl ?_
  refine z_iload_n F dL_law_192 193 rfl 3 rfl ?_
  refine z_iconst F dL_law_193 194 rfl zki_3 ?_
  refine z_iadd F dL_law_194 195 rfl ?_
  obtain ⟨j3, ej3, hj3, hw⟩ := hw
  refine z_sld F hX dL_law_195 196 rfl j3 ej3 hj3 ?_
  refine z_i2l F dL_law_196 197 rfl ?_
  refine z_ldc2 F dL_law_197 200 rfl (List.mem_of_getElem? (i := 6) rfl) ?_
  refine z_land F dL_law_200 201 rfl ?_
  refine z_lor F dL_law_201 202 rfl ?_
  refine z_segVi (As := [.int (xs j1), .long (((((xs j2)).toInt64) <<< (((32 : Int32)).toInt64 &&& 63)) ||| ((((xs j3)).toInt64) &&& (4294967295 : Int64)))]) (st := []) F dL_law_202 205 rfl (mX5_feed C.1.2.1 D cyI cyB aS aT aH aM kp (xs j1) (((((xs j2)).toInt64) <<< (((32 : Int32)).toInt64 &&& 63)) ||| ((((xs j3)).toInt64) &&& (4294967295 : Int64))) sI sR tI tR hI hR mI mR hw) y_X5_feed rfl gL_law_X5_feed rfl (ci := 5) (rq := 0) rfl rfl (by decide +kernel) hkn (Nat.le_of_ble_eq_true rfl) [] (wMo aO cyI oI oR ++ K) (by simp only [List.append_assoc, List.nil_append, List.append_nil]) (fun _ => rfl) (fun u => (wSt aH aM aT aS kp cyI u.1 u.2.1 ++ wTe aT cyB u.2.2.1 u.2.2.2 ++ wHo aH cyI hI hR ++ wMi aH aM cyI mI mR ++ wMo aO cyI oI oR ++ K)) (fun u => (by simp only [List.append_assoc, List.nil_append, List.append_nil])) (fun r1 u hp => ?_)
  obtain ⟨sI_1, sR_1, tI_1, tR_1⟩ := u
  replace hw := hp
  clear hp
  refine z_aload_n F dL_law_205 206 rfl 2 rfl ?_
  refine z_aload_n F dL_law_206 207 rfl 0 rfl ?_
  refine z_iload_n F dL_law_207 208 rfl 3 rfl ?_
  refine z_iconst F dL_law_208 209 rfl zki_1 ?_
  refine z_iadd F dL_law_209 210 rfl ?_
  refine z_sld F hX dL_law_210 211 rfl j1 ej1 hj1 ?_
  refine z_aload_n F dL_law_211 212 rfl 0 rfl ?_
  refine z_iload_n F dL_law_212 213 rfl 3 rfl ?_
  refine z_iconst F dL_law_213 214 rfl zki_2 ?_
  refine z_iadd F dL_law_214 215 rfl ?_
  refine z_sld F hX dL_law_215 216 rfl j2 ej2 hj2 ?_
  refine z_i2l F dL_law_216 217 rfl ?_
  refine z_bipush F dL_law_217 219 rfl zkb_32 ?_
  refine z_lshl F dL_law_219 220 rfl ?_
  refine z_aload_n F dL_law_220 221 rfl 0 rfl ?_
  refine z_iload_n F dL_law_221 222 rfl 3 rfl ?_
  refine z_iconst F dL_law_222 223 rfl zki_3 ?_
  refine z_iadd F dL_law_223 224 rfl ?_
  refine z_sld F hX dL_law_224 225 rfl j3 ej3 hj3 ?_
  refine z_i2l F dL_law_225 226 rfl ?_
  refine z_ldc2 F dL_law_226 229 rfl (List.mem_of_getElem? (i := 6) rfl) ?_
  refine z_land F dL_law_229 230 rfl ?_
  refine z_lor F dL_law_230 231 rfl ?_
  refine z_segVi (As := [.int (xs j1), .long (((((xs j2)).toInt64) <<< (((32 : Int32)).toInt64 &&& 63)) ||| ((((xs j3)).toInt64) &&& (4294967295 : Int64)))]) (st := [.int r1]) F dL_law_231 234 rfl (mX6_feed C.1.2.1 D cyI cyB aO (xs j1) (((((xs j2)).toInt64) <<< (((32 : Int32)).toInt64 &&& 63)) ||| ((((xs j3)).toInt64) &&& (4294967295 : Int64))) oI oR hw) y_X6_feed rfl gL_law_X6_feed rfl (ci := 6) (rq := 0) rfl rfl (by decide +kernel) hkn (Nat.le_of_ble_eq_true rfl) (wSt aH aM aT aS kp cyI sI_1 sR_1 ++ wTe aT cyB tI_1 tR_1 ++ wHo aH cyI hI hR ++ wMi aH aM cyI mI mR) K (by simp only [List.append_assoc, List.nil_append, List.append_nil]) (fun _ => rfl) (fun u => (wSt aH aM aT aS kp cyI sI_1 sR_1 ++ wTe aT cyB tI_1 tR_1 ++ wHo aH cyI hI hR ++ wMi aH aM cyI mI mR ++ wMo aO cyI u.1 u.2 ++ K)) (fun u => (by simp only [List.append_assoc, List.nil_append, List.append_nil])) (fun r2 u hp => ?_)
  obtain ⟨oI_1, oR_1⟩ := u
  replace hw := hp
  clear hp
  obtain ⟨hwt, hwf⟩ := hw
  refine z_icmpeq F dL_law_234 1102 rfl 237 rfl (fun c1 => ?_) (fun c1 => ?_)
  · have hw := hwt c1; clear hwt hwf
    exact hkont sI_1 sR_1 tI_1 tR_1 hI hR mI mR oI_1 oR_1 hw
  · have hw := hwf c1; clear hwt hwf
    refine z_iconst F dL_law_237 238 rfl zki_0 ?_
    exact hw.elim
set_option maxHeartbeats 4000000 in
set_option maxRecDepth 100000 in
theorem xL_1 {C : zC} {D : va_G} {cyI cyB : ClassId} {b L k n : Nat} {xs : Nat → Int32} {aS : Nat → Nat} {aT : Nat → Nat} {aH : Nat → Nat} {aM : Nat → Nat} {aO : Nat → Nat} {kp : Value} {K : va_W} (x3 : Int32) (sI : Nat → Int32) (sR : Nat → Nat → Int32) (tI : Nat → Int32) (tR : Nat → Nat → Int32) (hI : Nat → Int32) (hR : Nat → Nat → Int32) (mI : Nat → Int32) (mR : Nat → Nat → Int32) (oI : Nat → Int32) (oR : Nat → Nat → Int32) (F : zF C D room_1 cL_law 4 wsL_law RL ret cyI cyB) (hX : va_X b L xs C.2.1.1 C.2.1.1.heap ∧ b < C.2.1.1.heap.size ∧ ¬ C.2.2.2.2 b ∧ L ≤ 2048) (hkn : k ≤ room_1.cells ∧ n ≤ room_1.slots) {kont : (Nat → Int32) → (Nat → Nat → Int32) → (Nat → Int32) → (Nat → Nat → Int32) → (Nat → Int32) → (Nat → Nat → Int32) → (Nat → Int32) → (Nat → Nat → Int32) → (Nat → Int32) → (Nat → Nat → Int32) → Prop} (hkont : ∀ (sI : Nat → Int32) (sR : Nat → Nat → Int32) (tI : Nat → Int32) (tR : Nat → Nat → Int32) (hI : Nat → Int32) (hR : Nat → Nat → Int32) (mI : Nat → Int32) (mR : Nat → Nat → Int32) (oI : Nat → Int32) (oR : Nat → Nat → Int32), kont sI sR tI tR hI hR mI mR oI oR → zX C D 4 k n (wSt aH aM aT aS kp cyI sI sR ++ wTe aT cyB tI tR ++ wHo aH cyI hI hR ++ wMi aH aM cyI mI mR ++ wMo aO cyI oI oR ++ K) 1102 [(0, .ref b), (1, .ref (aS 0)), (2, .ref (aO 0)), (3, .int x3)] []) (hw : pL_1 L xs x3 sI sR tI tR hI hR mI mR oI oR kont) : zX C D 4 k n (wSt aH aM aT aS kp cyI sI sR ++ wTe aT cyB tI tR ++ wHo aH cyI hI hR ++ wMi aH aM cyI mI mR ++ wMo aO cyI oI oR ++ K) 239 [(0, .ref b), (1, .ref (aS 0)), (2, .ref (aO 0)), (3, .int x3)] [] := by
  refine z_aload_n F dL_law_239 240 rfl 1 rfl ?_
  refine z_segVi (As := []) (st := []) F dL_law_240 243 rfl (mX5_house C.1.2.1 D cyI cyB aS aT aH aM kp sI sR tI tR hI hR mI mR hw) y_X5_house rfl gL_law_X5_house rfl (ci := 5) (rq := 0) rfl rfl (by decide +kernel) hkn (Nat.le_of_ble_eq_true rfl) [] (wMo aO cyI oI oR ++ K) (by simp only [List.append_assoc, List.nil_append, List.append_nil]) (fun _ => rfl) (fun u => (wSt aH aM aT aS kp cyI sI sR ++ wTe aT cyB u.2.2.1 u.2.2.2 ++ wHo aH cyI u.1 u.2.1 ++ wMi aH aM cyI mI mR ++ wMo aO cyI oI oR ++ K)) (fun u => (by simp only [List.append_assoc, List.nil_append, List.append_nil])) (fun r1 u hp => ?_)
  obtain ⟨hI_1, hR_1, tI_1, tR_1⟩ := u
  replace hw := hp
  clear hp
  refine z_aload_n F dL_law_243 244 rfl 2 rfl ?_
  refine z_segVi (As := []) (st := [.int r1]) F dL_law_244 247 rfl (mX6_house C.1.2.1 D cyI cyB aO oI oR hw) y_X6_house rfl gL_law_X6_house rfl (ci := 6) (rq := 0) rfl rfl (by decide +kernel) hkn (Nat.le_of_ble_eq_true rfl) (wSt aH aM aT aS kp cyI sI sR ++ wTe aT cyB tI_1 tR_1 ++ wHo aH cyI hI_1 hR_1 ++ wMi aH aM cyI mI mR) K (by simp only [List.append_assoc, List.nil_append, List.append_nil]) (fun _ => rfl) (fun u => (wSt aH aM aT aS kp cyI sI sR ++ wTe aT cyB tI_1 tR_1 ++ wHo aH cyI hI_1 hR_1 ++ wMi aH aM cyI mI mR ++ wMo aO cyI u.1 u.2 ++ K)) (fun u => (by simp only [List.append_assoc, List.nil_append, List.append_nil])) (fun r2 u hp => ?_)
  obtain ⟨oI_1, oR_1⟩ := u
  replace hw := hp
  clear hp
  obtain ⟨hwt, hwf⟩ := hw
  refine z_icmpeq F dL_law_247 1102 rfl 250 rfl (fun c1 => ?_) (fun c1 => ?_)
  · have hw := hwt c1; clear hwt hwf
    exact hkont sI sR tI_1 tR_1 hI_1 hR_1 mI mR oI_1 oR_1 hw
  · have hw := hwf c1; clear hwt hwf
    refine z_iconst F dL_law_250 251 rfl zki_0 ?_
    exact hw.elim
set_option maxHeartbeats 4000000 in
set_option maxRecDepth 100000 in
theorem xL_2 {C : zC} {D : va_G} {cyI cyB : ClassId} {b L k n : Nat} {xs : Nat → Int32} {aS : Nat → Nat} {aT : Nat → Nat} {aH : Nat → Nat} {aM : Nat → Nat} {aO : Nat → Nat} {kp : Value} {K : va_W} (x3 : Int32) (sI : Nat → Int32) (sR : Nat → Nat → Int32) (tI : Nat → Int32) (tR : Nat → Nat → Int32) (hI : Nat → Int32) (hR : Nat → Nat → Int32) (mI : Nat → Int32) (mR : Nat → Nat → Int32) (oI : Nat → Int32) (oR : Nat → Nat → Int32) (F : zF C D room_1 cL_law 4 wsL_law RL ret cyI cyB) (hX : va_X b L xs C.2.1.1 C.2.1.1.heap ∧ b < C.2.1.1.heap.size ∧ ¬ C.2.2.2.2 b ∧ L ≤ 2048) (hkn : k ≤ room_1.cells ∧ n ≤ room_1.slots) {kont : (Nat → Int32) → (Nat → Nat → Int32) → (Nat → Int32) → (Nat → Nat → Int32) → (Nat → Int32) → (Nat → Nat → Int32) → (Nat → Int32) → (Nat → Nat → Int32) → (Nat → Int32) → (Nat → Nat → Int32) → Prop} (hkont : ∀ (sI : Nat → Int32) (sR : Nat → Nat → Int32) (tI : Nat → Int32) (tR : Nat → Nat → Int32) (hI : Nat → Int32) (hR : Nat → Nat → Int32) (mI : Nat → Int32) (mR : Nat → Nat → Int32) (oI : Nat → Int32) (oR : Nat → Nat → Int32), kont sI sR tI tR hI hR mI mR oI oR → zX C D 4 k n (wSt aH aM aT aS kp cyI sI sR ++ wTe aT cyB tI tR ++ wHo aH cyI hI hR ++ wMi aH aM cyI mI mR ++ wMo aO cyI oI oR ++ K) 1102 [(0, .ref b), (1, .ref (aS 0)), (2, .ref (aO 0)), (3, .int x3)] []) (hw : pL_2 L xs x3 sI sR tI tR hI hR mI mR oI oR kont) : zX C D 4 k n (wSt aH aM aT aS kp cyI sI sR ++ wTe aT cyB tI tR ++ wHo aH cyI hI hR ++ wMi aH aM cyI mI mR ++ wMo aO cyI oI oR ++ K) 252 [(0, .ref b), (1, .ref (aS 0)), (2, .ref (aO 0)), (3, .int x3)] [] := by
  refine z_aload_n F dL_law_252 253 rfl 1 rfl ?_
  refine z_aload_n F dL_law_253 254 rfl 0 rfl ?_
  refine z_iload_n F dL_law_254 255 rfl 3 rfl ?_
  refine z_iconst F dL_law_255 256 rfl zki_1 ?_
  refine z_iadd F dL_law_256 257 rfl ?_
  obtain ⟨j1, ej1, hj1, hw⟩ := hw
  refine z_sld F hX dL_law_257 258 rfl j1 ej1 hj1 ?_
  refine z_segVi (As := [.int (xs j1)]) (st := []) F dL_law_258 261 rfl (mX5_steps C.1.2.1 D cyI cyB aS aT aH aM kp (xs j1) sI sR tI tR hI hR mI mR hw) y_X5_steps rfl gL_law_X5_steps rfl (ci := 5) (rq := 0) rfl rfl (by decide +kernel) hkn (Nat.le_of_ble_eq_true rfl) [] (wMo aO cyI oI oR ++ K) (by simp only [List.append_assoc, List.nil_append, List.append_nil]) (fun _ => rfl) (fun u => (wSt aH aM aT aS kp cyI u.1 u.2.1 ++ wTe aT cyB tI tR ++ wHo aH cyI u.2.2.1 u.2.2.2 ++ wMi aH aM cyI mI mR ++ wMo aO cyI oI oR ++ K)) (fun u => (by simp only [List.append_assoc, List.nil_append, List.append_nil])) (fun r1 u hp => ?_)
  obtain ⟨sI_1, sR_1, hI_1, hR_1⟩ := u
  replace hw := hp
  clear hp
  refine z_aload_n F dL_law_261 262 rfl 2 rfl ?_
  refine z_aload_n F dL_law_262 263 rfl 0 rfl ?_
  refine z_iload_n F dL_law_263 264 rfl 3 rfl ?_
  refine z_iconst F dL_law_264 265 rfl zki_1 ?_
  refine z_iadd F dL_law_265 266 rfl ?_
  refine z_sld F hX dL_law_266 267 rfl j1 ej1 hj1 ?_
  refine z_segVi (As := [.int (xs j1)]) (st := [.int r1]) F dL_law_267 270 rfl (mX6_steps C.1.2.1 D cyI cyB aO (xs j1) oI oR hw) y_X6_steps rfl gL_law_X6_steps rfl (ci := 6) (rq := 0) rfl rfl (by decide +kernel) hkn (Nat.le_of_ble_eq_true rfl) (wSt aH aM aT aS kp cyI sI_1 sR_1 ++ wTe aT cyB tI tR ++ wHo aH cyI hI_1 hR_1 ++ wMi aH aM cyI mI mR) K (by simp only [List.append_assoc, List.nil_append, List.append_nil]) (fun _ => rfl) (fun u => (wSt aH aM aT aS kp cyI sI_1 sR_1 ++ wTe aT cyB tI tR ++ wHo aH cyI hI_1 hR_1 ++ wMi aH aM cyI mI mR ++ wMo aO cyI u.1 u.2 ++ K)) (fun u => (by simp only [List.append_assoc, List.nil_append, List.append_nil])) (fun r2 u hp => ?_)
  obtain ⟨oI_1, oR_1⟩ := u
  replace hw := hp
  clear hp
  obtain ⟨hwt, hwf⟩ := hw
  refine z_icmpeq F dL_law_270 1102 rfl 273 rfl (fun c1 => ?_) (fun c1 => ?_)
  · have hw := hwt c1; clear hwt hwf
    exact hkont sI_1 sR_1 tI tR hI_1 hR_1 mI mR oI_1 oR_1 hw
  · have hw := hwf c1; clear hwt hwf
    refine z_iconst F dL_law_273 274 rfl zki_0 ?_
    exact hw.elim
set_option maxHeartbeats 4000000 in
set_option maxRecDepth 100000 in
theorem xL_3 {C : zC} {D : va_G} {cyI cyB : ClassId} {b L k n : Nat} {xs : Nat → Int32} {aS : Nat → Nat} {aT : Nat → Nat} {aH : Nat → Nat} {aM : Nat → Nat} {aO : Nat → Nat} {kp : Value} {K : va_W} (x3 : Int32) (sI : Nat → Int32) (sR : Nat → Nat → Int32) (tI : Nat → Int32) (tR : Nat → Nat → Int32) (hI : Nat → Int32) (hR : Nat → Nat → Int32) (mI : Nat → Int32) (mR : Nat → Nat → Int32) (oI : Nat → Int32) (oR : Nat → Nat → Int32) (F : zF C D room_1 cL_law 4 wsL_law RL ret cyI cyB) (hX : va_X b L xs C.2.1.1 C.2.1.1.heap ∧ b < C.2.1.1.heap.size ∧ ¬ C.2.2.2.2 b ∧ L ≤ 2048) (hkn : k ≤ room_1.cells ∧ n ≤ room_1.slots) {kont : (Nat → Int32) → (Nat → Nat → Int32) → (Nat → Int32) → (Nat → Nat → Int32) → (Nat → Int32) → (Nat → Nat → Int32) → (Nat → Int32) → (Nat → Nat → Int32) → (Nat → Int32) → (Nat → Nat → Int32) → Prop} (hkont : ∀ (sI : Nat → Int32) (sR : Nat → Nat → Int32) (tI : Nat → Int32) (tR : Nat → Nat → Int32) (hI : Nat → Int32) (hR : Nat → Nat → Int32) (mI : Nat → Int32) (mR : Nat → Nat → Int32) (oI : Nat → Int32) (oR : Nat → Nat → Int32), kont sI sR tI tR hI hR mI mR oI oR → zX C D 4 k n (wSt aH aM aT aS kp cyI sI sR ++ wTe aT cyB tI tR ++ wHo aH cyI hI hR ++ wMi aH aM cyI mI mR ++ wMo aO cyI oI oR ++ K) 1102 [(0, .ref b), (1, .ref (aS 0)), (2, .ref (aO 0)), (3, .int x3)] []) (hw : pL_3 L xs x3 sI sR tI tR hI hR mI mR oI oR kont) : zX C D 4 k n (wSt aH aM aT aS kp cyI sI sR ++ wTe aT cyB tI tR ++ wHo aH cyI hI hR ++ wMi aH aM cyI mI mR ++ wMo aO cyI oI oR ++ K) 275 [(0, .ref b), (1, .ref (aS 0)), (2, .ref (aO 0)), (3, .int x3)] [] := by
  refine z_aload_n F dL_law_275 276 rfl 1 rfl ?_
  refine z_aload_n F dL_law_276 277 rfl 0 rfl ?_
  refine z_iload_n F dL_law_277 278 rfl 3 rfl ?_
  refine z_iconst F dL_law_278 279 rfl zki_1 ?_
  refine z_iadd F dL_law_279 280 rfl ?_
  obtain ⟨j1, ej1, hj1, hw⟩ := hw
  refine z_sld F hX dL_law_280 281 rfl j1 ej1 hj1 ?_
  refine z_segVi (As := [.int (xs j1)]) (st := []) F dL_law_281 284 rfl (mX5_hand C.1.2.1 D cyI cyB aS aT aH aM kp (xs j1) sI sR tI tR hI hR mI mR hw) y_X5_hand rfl gL_law_X5_hand rfl (ci := 5) (rq := 0) rfl rfl (by decide +kernel) hkn (Nat.le_of_ble_eq_true rfl) [] (wMo aO cyI oI oR ++ K) (by simp only [List.append_assoc, List.nil_append, List.append_nil]) (fun _ => rfl) (fun u => (wSt aH aM aT aS kp cyI u.1 u.2.1 ++ wTe aT cyB tI tR ++ wHo aH cyI u.2.2.1 u.2.2.2 ++ wMi aH aM cyI mI mR ++ wMo aO cyI oI oR ++ K)) (fun u => (by simp only [List.append_assoc, List.nil_append, List.append_nil])) (fun r1 u hp => ?_)
  obtain ⟨sI_1, sR_1, hI_1, hR_1⟩ := u
  replace hw := hp
  clear hp
  refine z_aload_n F dL_law_284 285 rfl 2 rfl ?_
  refine z_aload_n F dL_law_285 286 rfl 0 rfl ?_
  refine z_iload_n F dL_law_286 287 rfl 3 rfl ?_
  refine z_iconst F dL_law_287 288 rfl zki_1 ?_
  refine z_iadd F dL_law_288 289 rfl ?_
  refine z_sld F hX dL_law_289 290 rfl j1 ej1 hj1 ?_
  refine z_segVi (As := [.int (xs j1)]) (st := [.int r1]) F dL_law_290 293 rfl (mX6_hand C.1.2.1 D cyI cyB aO (xs j1) oI oR hw) y_X6_hand rfl gL_law_X6_hand rfl (ci := 6) (rq := 0) rfl rfl (by decide +kernel) hkn (Nat.le_of_ble_eq_true rfl) (wSt aH aM aT aS kp cyI sI_1 sR_1 ++ wTe aT cyB tI tR ++ wHo aH cyI hI_1 hR_1 ++ wMi aH aM cyI mI mR) K (by simp only [List.append_assoc, List.nil_append, List.append_nil]) (fun _ => rfl) (fun u => (wSt aH aM aT aS kp cyI sI_1 sR_1 ++ wTe aT cyB tI tR ++ wHo aH cyI hI_1 hR_1 ++ wMi aH aM cyI mI mR ++ wMo aO cyI u.1 u.2 ++ K)) (fun u => (by simp only [List.append_assoc, List.nil_append, List.append_nil])) (fun r2 u hp => ?_)
  obtain ⟨oI_1, oR_1⟩ := u
  replace hw := hp
  clear hp
  obtain ⟨hwt, hwf⟩ := hw
  refine z_icmpeq F dL_law_293 1102 rfl 296 rfl (fun c1 => ?_) (fun c1 => ?_)
  · have hw := hwt c1; clear hwt hwf
    exact hkont sI_1 sR_1 tI tR hI_1 hR_1 mI mR oI_1 oR_1 hw
  · have hw := hwf c1; clear hwt hwf
    refine z_iconst F dL_law_296 297 rfl zki_0 ?_
    exact hw.elim
set_option maxHeartbeats 4000000 in
set_option maxRecDepth 100000 in
theorem xL_4 {C : zC} {D : va_G} {cyI cyB : ClassId} {b L k n : Nat} {xs : Nat → Int32} {aS : Nat → Nat} {aT : Nat → Nat} {aH : Nat → Nat} {aM : Nat → Nat} {aO : Nat → Nat} {kp : Value} {K : va_W} (x3 : Int32) (sI : Nat → Int32) (sR : Nat → Nat → Int32) (tI : Nat → Int32) (tR : Nat → Nat → Int32) (hI : Nat → Int32) (hR : Nat → Nat → Int32) (mI : Nat → Int32) (mR : Nat → Nat → Int32) (oI : Nat → Int32) (oR : Nat → Nat → Int32) (F : zF C D room_1 cL_law 4 wsL_law RL ret cyI cyB) (hX : va_X b L xs C.2.1.1 C.2.1.1.heap ∧ b < C.2.1.1.heap.size ∧ ¬ C.2.2.2.2 b ∧ L ≤ 2048) (hkn : k ≤ room_1.cells ∧ n ≤ room_1.slots) {kont : (Nat → Int32) → (Nat → Nat → Int32) → (Nat → Int32) → (Nat → Nat → Int32) → (Nat → Int32) → (Nat → Nat → Int32) → (Nat → Int32) → (Nat → Nat → Int32) → (Nat → Int32) → (Nat → Nat → Int32) → Prop} (hkont : ∀ (sI : Nat → Int32) (sR : Nat → Nat → Int32) (tI : Nat → Int32) (tR : Nat → Nat → Int32) (hI : Nat → Int32) (hR : Nat → Nat → Int32) (mI : Nat → Int32) (mR : Nat → Nat → Int32) (oI : Nat → Int32) (oR : Nat → Nat → Int32), kont sI sR tI tR hI hR mI mR oI oR → zX C D 4 k n (wSt aH aM aT aS kp cyI sI sR ++ wTe aT cyB tI tR ++ wHo aH cyI hI hR ++ wMi aH aM cyI mI mR ++ wMo aO cyI oI oR ++ K) 1102 [(0, .ref b), (1, .ref (aS 0)), (2, .ref (aO 0)), (3, .int x3)] []) (hw : pL_4 L xs x3 sI sR tI tR hI hR mI mR oI oR kont) : zX C D 4 k n (wSt aH aM aT aS kp cyI sI sR ++ wTe aT cyB tI tR ++ wHo aH cyI hI hR ++ wMi aH aM cyI mI mR ++ wMo aO cyI oI oR ++ K) 298 [(0, .ref b), (1, .ref (aS 0)), (2, .ref (aO 0)), (3, .int x3)] [] := by
  refine z_aload_n F dL_law_298 299 rfl 1 rfl ?_
  refine z_aload_n F dL_law_299 300 rfl 0 rfl ?_
  refine z_iload_n F dL_law_300 301 rfl 3 rfl ?_
  refine z_iconst F dL_law_301 302 rfl zki_1 ?_
  refine z_iadd F dL_law_302 303 rfl ?_
  obtain ⟨j1, ej1, hj1, hw⟩ := hw
  refine z_sld F hX dL_law_303 304 rfl j1 ej1 hj1 ?_
  refine z_aload_n F dL_law_304 305 rfl 0 rfl ?_
  refine z_iload_n F dL_law_305 306 rfl 3 rfl ?_
  refine z_iconst F dL_law_306 307 rfl zki_2 ?_
  refine z_iadd F dL_law_307 308 rfl ?_
  obtain ⟨j2, ej2, hj2, hw⟩ := hw
  refine z_sld F hX dL_law_308 309 rfl j2 ej2 hj2 ?_
  refine z_aload_n F dL_law_309 310 rfl 0 rfl ?_
  refine z_iload_n F dL_law_310 311 rfl 3 rfl ?_
  refine z_iconst F dL_law_311 312 rfl zki_3 ?_
  refine z_iadd F dL_law_312 313 rfl ?_
  obtain ⟨j3, ej3, hj3, hw⟩ := hw
  refine z_sld F hX dL_law_313 314 rfl j3 ej3 hj3 ?_
  obtain ⟨hwt, hwf⟩ := hw
  refine z_ifeq F dL_law_314 321 rfl 317 rfl (fun c1 => ?_) (fun c1 => ?_)
  · have hw := hwt c1; clear hwt hwf
    refine z_iconst F dL_law_321 322 rfl zki_0 ?_
    refine z_segVi (As := [.int (xs j1), .int (xs j2), .int 0]) (st := []) F dL_law_322 325 rfl (mX5_tell C.1.2.1 D cyI cyB aS aT aH aM kp (xs j1) (xs j2) false sI sR tI tR hI hR mI mR hw) y_X5_tell rfl gL_law_X5_tell rfl (ci := 5) (rq := 0) rfl rfl (by decide +kernel) hkn (Nat.le_of_ble_eq_true rfl) [] (wMo aO cyI oI oR ++ K) (by simp only [List.append_assoc, List.nil_append, List.append_nil]) (fun _ => rfl) (fun u => (wSt aH aM aT aS kp cyI u.1 u.2.1 ++ wTe aT cyB tI tR ++ wHo aH cyI u.2.2.1 u.2.2.2 ++ wMi aH aM cyI mI mR ++ wMo aO cyI oI oR ++ K)) (fun u => (by simp only [List.append_assoc, List.nil_append, List.append_nil])) (fun r1 u hp => ?_)
    obtain ⟨sI_1, sR_1, hI_1, hR_1⟩ := u
    replace hw := hp
    clear hp
    refine z_aload_n F dL_law_325 326 rfl 2 rfl ?_
    refine z_aload_n F dL_law_326 327 rfl 0 rfl ?_
    refine z_iload_n F dL_law_327 328 rfl 3 rfl ?_
    refine z_iconst F dL_law_328 329 rfl zki_1 ?_
    refine z_iadd F dL_law_329 330 rfl ?_
    refine z_sld F hX dL_law_330 331 rfl j1 ej1 hj1 ?_
    refine z_aload_n F dL_law_331 332 rfl 0 rfl ?_
    refine z_iload_n F dL_law_332 333 rfl 3 rfl ?_
    refine z_iconst F dL_law_333 334 rfl zki_2 ?_
    refine z_iadd F dL_law_334 335 rfl ?_
    refine z_sld F hX dL_law_335 336 rfl j2 ej2 hj2 ?_
    refine z_aload_n F dL_law_336 337 rfl 0 rfl ?_
    refine z_iload_n F dL_law_337 338 rfl 3 rfl ?_
    refine z_iconst F dL_law_338 339 rfl zki_3 ?_
    refine z_iadd F dL_law_339 340 rfl ?_
    refine z_sld F hX dL_law_340 341 rfl j3 ej3 hj3 ?_
    obtain ⟨hwt, hwf⟩ := hw
    refine z_ifeq F dL_law_341 348 rfl 344 rfl (fun c2 => ?_) (fun c2 => ?_)
    · have hw := hwt c2; clear hwt hwf
      refine z_iconst F dL_law_348 349 rfl zki_0 ?_
      refine z_segVi (As := [.int (xs j1), .int (xs j2), .int 0]) (st := [.int r1]) F dL_law_349 352 rfl (mX6_tell C.1.2.1 D cyI cyB aO (xs j1) (xs j2) false oI oR hw) y_X6_tell rfl gL_law_X6_tell rfl (ci := 6) (rq := 0) rfl rfl (by decide +kernel) hkn (Nat.le_of_ble_eq_true rfl) (wSt aH aM aT aS kp cyI sI_1 sR_1 ++ wTe aT cyB tI tR ++ wHo aH cyI hI_1 hR_1 ++ wMi aH aM cyI mI mR) K (by simp only [List.append_assoc, List.nil_append, List.append_nil]) (fun _ => rfl) (fun u => (wSt aH aM aT aS kp cyI sI_1 sR_1 ++ wTe aT cyB tI tR ++ wHo aH cyI hI_1 hR_1 ++ wMi aH aM cyI mI mR ++ wMo aO cyI u.1 u.2 ++ K)) (fun u => (by simp only [List.append_assoc, List.nil_append, List.append_nil])) (fun r2 u hp => ?_)
      obtain ⟨oI_1, oR_1⟩ := u
      replace hw := hp
      clear hp
      obtain ⟨hwt, hwf⟩ := hw
      refine z_icmpeq F dL_law_352 1102 rfl 355 rfl (fun c3 => ?_) (fun c3 => ?_)
      · have hw := hwt c3; clear hwt hwf
        exact hkont sI_1 sR_1 tI tR hI_1 hR_1 mI mR oI_1 oR_1 hw
      · have hw := hwf c3; clear hwt hwf
        refine z_iconst F dL_law_355 356 rfl zki_0 ?_
        exact hw.elim
    · have hw := hwf c2; clear hwt hwf
      refine z_iconst F dL_law_344 345 rfl zki_1 ?_
      refine z_goto F dL_law_345 349 rfl ?_
      refine z_segVi (As := [.int (xs j1), .int (xs j2), .int 1]) (st := [.int r1]) F dL_law_349 352 rfl (mX6_tell C.1.2.1 D cyI cyB aO (xs j1) (xs j2) true oI oR hw) y_X6_tell rfl gL_law_X6_tell rfl (ci := 6) (rq := 0) rfl rfl (by decide +kernel) hkn (Nat.le_of_ble_eq_true rfl) (wSt aH aM aT aS kp cyI sI_1 sR_1 ++ wTe aT cyB tI tR ++ wHo aH cyI hI_1 hR_1 ++ wMi aH aM cyI mI mR) K (by simp only [List.append_assoc, List.nil_append, List.append_nil]) (fun _ => rfl) (fun u => (wSt aH aM aT aS kp cyI sI_1 sR_1 ++ wTe aT cyB tI tR ++ wHo aH cyI hI_1 hR_1 ++ wMi aH aM cyI mI mR ++ wMo aO cyI u.1 u.2 ++ K)) (fun u => (by simp only [List.append_assoc, List.nil_append, List.append_nil])) (fun r3 u hp => ?_)
      obtain ⟨oI_2, oR_2⟩ := u
      replace hw := hp
      clear hp
      obtain ⟨hwt, hwf⟩ := hw
      refine z_icmpeq F dL_law_352 1102 rfl 355 rfl (fun c4 => ?_) (fun c4 => ?_)
      · have hw := hwt c4; clear hwt hwf
        exact hkont sI_1 sR_1 tI tR hI_1 hR_1 mI mR oI_2 oR_2 hw
      · have hw := hwf c4; clear hwt hwf
        refine z_iconst F dL_law_355 356 rfl zki_0 ?_
        exact hw.elim
  · have hw := hwf c1; clear hwt hwf
    refine z_iconst F dL_law_317 318 rfl zki_1 ?_
    refine z_goto F dL_law_318 322 rfl ?_
    refine z_segVi (As := [.int (xs j1), .int (xs j2), .int 1]) (st := []) F dL_law_322 325 rfl (mX5_tell C.1.2.1 D cyI cyB aS aT aH aM kp (xs j1) (xs j2) true sI sR tI tR hI hR mI mR hw) y_X5_tell rfl gL_law_X5_tell rfl (ci := 5) (rq := 0) rfl rfl (by decide +kernel) hkn (Nat.le_of_ble_eq_true rfl) [] (wMo aO cyI oI oR ++ K) (by simp only [List.append_assoc, List.nil_append, List.append_nil]) (fun _ => rfl) (fun u => (wSt aH aM aT aS kp cyI u.1 u.2.1 ++ wTe aT cyB tI tR ++ wHo aH cyI u.2.2.1 u.2.2.2 ++ wMi aH aM cyI mI mR ++ wMo aO cyI oI oR ++ K)) (fun u => (by simp only [List.append_assoc, List.nil_append, List.append_nil])) (fun r4 u hp => ?_)
    obtain ⟨sI_2, sR_2, hI_2, hR_2⟩ := u
    replace hw := hp
    clear hp
    refine z_aload_n F dL_law_325 326 rfl 2 rfl ?_
    refine z_aload_n F dL_law_326 327 rfl 0 rfl ?_
    refine z_iload_n F dL_law_327 328 rfl 3 rfl ?_
    refine z_iconst F dL_law_328 329 rfl zki_1 ?_
    refine z_iadd F dL_law_329 330 rfl ?_
    refine z_sld F hX dL_law_330 331 rfl j1 ej1 hj1 ?_
    refine z_aload_n F dL_law_331 332 rfl 0 rfl ?_
    refine z_iload_n F dL_law_332 333 rfl 3 rfl ?_
    refine z_iconst F dL_law_333 334 rfl zki_2 ?_
    refine z_iadd F dL_law_334 335 rfl ?_
    refine z_sld F hX dL_law_335 336 rfl j2 ej2 hj2 ?_
    refine z_aload_n F dL_law_336 337 rfl 0 rfl ?_
    refine z_iload_n F dL_law_337 338 rfl 3 rfl ?_
    refine z_iconst F dL_law_338 339 rfl zki_3 ?_
    refine z_iadd F dL_law_339 340 rfl ?_
    refine z_sld F hX dL_law_340 341 rfl j3 ej3 hj3 ?_
    obtain ⟨hwt, hwf⟩ := hw
    refine z_ifeq F dL_law_341 348 rfl 344 rfl (fun c5 => ?_) (fun c5 => ?_)
    · have hw := hwt c5; clear hwt hwf
      refine z_iconst F dL_law_348 349 rfl zki_0 ?_
      refine z_segVi (As := [.int (xs j1), .int (xs j2), .int 0]) (st := [.int r4]) F dL_law_349 352 rfl (mX6_tell C.1.2.1 D cyI cyB aO (xs j1) (xs j2) false oI oR hw) y_X6_tell rfl gL_law_X6_tell rfl (ci := 6) (rq := 0) rfl rfl (by decide +kernel) hkn (Nat.le_of_ble_eq_true rfl) (wSt aH aM aT aS kp cyI sI_2 sR_2 ++ wTe aT cyB tI tR ++ wHo aH cyI hI_2 hR_2 ++ wMi aH aM cyI mI mR) K (by simp only [List.append_assoc, List.nil_append, List.append_nil]) (fun _ => rfl) (fun u => (wSt aH aM aT aS kp cyI sI_2 sR_2 ++ wTe aT cyB tI tR ++ wHo aH cyI hI_2 hR_2 ++ wMi aH aM cyI mI mR ++ wMo aO cyI u.1 u.2 ++ K)) (fun u => (by simp only [List.append_assoc, List.nil_append, List.append_nil])) (fun r5 u hp => ?_)
      obtain ⟨oI_3, oR_3⟩ := u
      replace hw := hp
      clear hp
      obtain ⟨hwt, hwf⟩ := hw
      refine z_icmpeq F dL_law_352 1102 rfl 355 rfl (fun c6 => ?_) (fun c6 => ?_)
      · have hw := hwt c6; clear hwt hwf
        exact hkont sI_2 sR_2 tI tR hI_2 hR_2 mI mR oI_3 oR_3 hw
      · have hw := hwf c6; clear hwt hwf
        refine z_iconst F dL_law_355 356 rfl zki_0 ?_
        exact hw.elim
    · have hw := hwf c5; clear hwt hwf
      refine z_iconst F dL_law_344 345 rfl zki_1 ?_
      refine z_goto F dL_law_345 349 rfl ?_
      refine z_segVi (As := [.int (xs j1), .int (xs j2), .int 1]) (st := [.int r4]) F dL_law_349 352 rfl (mX6_tell C.1.2.1 D cyI cyB aO (xs j1) (xs j2) true oI oR hw) y_X6_tell rfl gL_law_X6_tell rfl (ci := 6) (rq := 0) rfl rfl (by decide +kernel) hkn (Nat.le_of_ble_eq_true rfl) (wSt aH aM aT aS kp cyI sI_2 sR_2 ++ wTe aT cyB tI tR ++ wHo aH cyI hI_2 hR_2 ++ wMi aH aM cyI mI mR) K (by simp only [List.append_assoc, List.nil_append, List.append_nil]) (fun _ => rfl) (fun u => (wSt aH aM aT aS kp cyI sI_2 sR_2 ++ wTe aT cyB tI tR ++ wHo aH cyI hI_2 hR_2 ++ wMi aH aM cyI mI mR ++ wMo aO cyI u.1 u.2 ++ K)) (fun u => (by simp only [List.append_assoc, List.nil_append, List.append_nil])) (fun r6 u hp => ?_)
      obtain ⟨oI_4, oR_4⟩ := u
      replace hw := hp
      clear hp
      obtain ⟨hwt, hwf⟩ := hw
      refine z_icmpeq F dL_law_352 1102 rfl 355 rfl (fun c7 => ?_) (fun c7 => ?_)
      · have hw := hwt c7; clear hwt hwf
        exact hkont sI_2 sR_2 tI tR hI_2 hR_2 mI mR oI_4 oR_4 hw
      · have hw := hwf c7; clear hwt hwf
        refine z_iconst F dL_law_355 356 rfl zki_0 ?_
        exact hw.elim
set_option maxHeartbeats 4000000 in
set_option maxRecDepth 100000 in
theorem xL_5 {C : zC} {D : va_G} {cyI cyB : ClassId} {b L k n : Nat} {xs : Nat → Int32} {aS : Nat → Nat} {aT : Nat → Nat} {aH : Nat → Nat} {aM : Nat → Nat} {aO : Nat → Nat} {kp : Value} {K : va_W} (x3 : Int32) (sI : Nat → Int32) (sR : Nat → Nat → Int32) (tI : Nat → Int32) (tR : Nat → Nat → Int32) (hI : Nat → Int32) (hR : Nat → Nat → Int32) (mI : Nat → Int32) (mR : Nat → Nat → Int32) (oI : Nat → Int32) (oR : Nat → Nat → Int32) (F : zF C D room_1 cL_law 4 wsL_law RL ret cyI cyB) (hX : va_X b L xs C.2.1.1 C.2.1.1.heap ∧ b < C.2.1.1.heap.size ∧ ¬ C.2.2.2.2 b ∧ L ≤ 2048) (hkn : k ≤ room_1.cells ∧ n ≤ room_1.slots) {kont : (Nat → Int32) → (Nat → Nat → Int32) → (Nat → Int32) → (Nat → Nat → Int32) → (Nat → Int32) → (Nat → Nat → Int32) → (Nat → Int32) → (Nat → Nat → Int32) → (Nat → Int32) → (Nat → Nat → Int32) → Prop} (hkont : ∀ (sI : Nat → Int32) (sR : Nat → Nat → Int32) (tI : Nat → Int32) (tR : Nat → Nat → Int32) (hI : Nat → Int32) (hR : Nat → Nat → Int32) (mI : Nat → Int32) (mR : Nat → Nat → Int32) (oI : Nat → Int32) (oR : Nat → Nat → Int32), kont sI sR tI tR hI hR mI mR oI oR → zX C D 4 k n (wSt aH aM aT aS kp cyI sI sR ++ wTe aT cyB tI tR ++ wHo aH cyI hI hR ++ wMi aH aM cyI mI mR ++ wMo aO cyI oI oR ++ K) 1102 [(0, .ref b), (1, .ref (aS 0)), (2, .ref (aO 0)), (3, .int x3)] []) (hw : pL_5 L xs x3 sI sR tI tR hI hR mI mR oI oR kont) : zX C D 4 k n (wSt aH aM aT aS kp cyI sI sR ++ wTe aT cyB tI tR ++ wHo aH cyI hI hR ++ wMi aH aM cyI mI mR ++ wMo aO cyI oI oR ++ K) 357 [(0, .ref b), (1, .ref (aS 0)), (2, .ref (aO 0)), (3, .int x3)] [] := by
  refine z_aload_n F dL_law_357 358 rfl 1 rfl ?_
  refine z_aload_n F dL_law_358 359 rfl 0 rfl ?_
  refine z_iload_n F dL_law_359 360 rfl 3 rfl ?_
  refine z_iconst F dL_law_360 361 rfl zki_1 ?_
  refine z_iadd F dL_law_361 362 rfl ?_
  obtain ⟨j1, ej1, hj1, hw⟩ := hw
  refine z_sld F hX dL_law_362 363 rfl j1 ej1 hj1 ?_
  refine z_aload_n F dL_law_363 364 rfl 0 rfl ?_
  refine z_iload_n F dL_law_364 365 rfl 3 rfl ?_
  refine z_iconst F dL_law_365 366 rfl zki_2 ?_
  refine z_iadd F dL_law_366 367 rfl ?_
  obtain ⟨j2, ej2, hj2, hw⟩ := hw
  refine z_sld F hX dL_law_367 368 rfl j2 ej2 hj2 ?_
  refine z_segVi (As := [.int (xs j1), .int (xs j2)]) (st := []) F dL_law_368 371 rfl (mX5_chance C.1.2.1 D cyI cyB aS aT aH aM kp (xs j1) (xs j2) sI sR tI tR hI hR mI mR hw) y_X5_chance rfl gL_law_X5_chance rfl (ci := 5) (rq := 0) rfl rfl (by decide +kernel) hkn (Nat.le_of_ble_eq_true rfl) [] (wMo aO cyI oI oR ++ K) (by simp only [List.append_assoc, List.nil_append, List.append_nil]) (fun _ => rfl) (fun u => (wSt aH aM aT aS kp cyI u.1 u.2.1 ++ wTe aT cyB tI tR ++ wHo aH cyI u.2.2.1 u.2.2.2 ++ wMi aH aM cyI mI mR ++ wMo aO cyI oI oR ++ K)) (fun u => (by simp only [List.append_assoc, List.nil_append, List.append_nil])) (fun r1 u hp => ?_)
  obtain ⟨sI_1, sR_1, hI_1, hR_1⟩ := u
  replace hw := hp
  clear hp
  refine z_aload_n F dL_law_371 372 rfl 2 rfl ?_
  refine z_aload_n F dL_law_372 373 rfl 0 rfl ?_
  refine z_iload_n F dL_law_373 374 rfl 3 rfl ?_
  refine z_iconst F dL_law_374 375 rfl zki_1 ?_
  refine z_iadd F dL_law_375 376 rfl ?_
  refine z_sld F hX dL_law_376 377 rfl j1 ej1 hj1 ?_
  refine z_aload_n F dL_law_377 378 rfl 0 rfl ?_
  refine z_iload_n F dL_law_378 379 rfl 3 rfl ?_
  refine z_iconst F dL_law_379 380 rfl zki_2 ?_
  refine z_iadd F dL_law_380 381 rfl ?_
  refine z_sld F hX dL_law_381 382 rfl j2 ej2 hj2 ?_
  refine z_segVi (As := [.int (xs j1), .int (xs j2)]) (st := [.int r1]) F dL_law_382 385 rfl (mX6_chance C.1.2.1 D cyI cyB aO (xs j1) (xs j2) oI oR hw) y_X6_chance rfl gL_law_X6_chance rfl (ci := 6) (rq := 0) rfl rfl (by decide +kernel) hkn (Nat.le_of_ble_eq_true rfl) (wSt aH aM aT aS kp cyI sI_1 sR_1 ++ wTe aT cyB tI tR ++ wHo aH cyI hI_1 hR_1 ++ wMi aH aM cyI mI mR) K (by simp only [List.append_assoc, List.nil_append, List.append_nil]) (fun _ => rfl) (fun u => (wSt aH aM aT aS kp cyI sI_1 sR_1 ++ wTe aT cyB tI tR ++ wHo aH cyI hI_1 hR_1 ++ wMi aH aM cyI mI mR ++ wMo aO cyI u.1 u.2 ++ K)) (fun u => (by simp only [List.append_assoc, List.nil_append, List.append_nil])) (fun r2 u hp => ?_)
  obtain ⟨oI_1, oR_1⟩ := u
  replace hw := hp
  clear hp
  obtain ⟨hwt, hwf⟩ := hw
  refine z_icmpeq F dL_law_385 1102 rfl 388 rfl (fun c1 => ?_) (fun c1 => ?_)
  · have hw := hwt c1; clear hwt hwf
    exact hkont sI_1 sR_1 tI tR hI_1 hR_1 mI mR oI_1 oR_1 hw
  · have hw := hwf c1; clear hwt hwf
    refine z_iconst F dL_law_388 389 rfl zki_0 ?_
    exact hw.elim
set_option maxHeartbeats 4000000 in
set_option maxRecDepth 100000 in
theorem xL_6 {C : zC} {D : va_G} {cyI cyB : ClassId} {b L k n : Nat} {xs : Nat → Int32} {aS : Nat → Nat} {aT : Nat → Nat} {aH : Nat → Nat} {aM : Nat → Nat} {aO : Nat → Nat} {kp : Value} {K : va_W} (x3 : Int32) (sI : Nat → Int32) (sR : Nat → Nat → Int32) (tI : Nat → Int32) (tR : Nat → Nat → Int32) (hI : Nat → Int32) (hR : Nat → Nat → Int32) (mI : Nat → Int32) (mR : Nat → Nat → Int32) (oI : Nat → Int32) (oR : Nat → Nat → Int32) (F : zF C D room_1 cL_law 4 wsL_law RL ret cyI cyB) (hX : va_X b L xs C.2.1.1 C.2.1.1.heap ∧ b < C.2.1.1.heap.size ∧ ¬ C.2.2.2.2 b ∧ L ≤ 2048) (hkn : k ≤ room_1.cells ∧ n ≤ room_1.slots) {kont : (Nat → Int32) → (Nat → Nat → Int32) → (Nat → Int32) → (Nat → Nat → Int32) → (Nat → Int32) → (Nat → Nat → Int32) → (Nat → Int32) → (Nat → Nat → Int32) → (Nat → Int32) → (Nat → Nat → Int32) → Prop} (hkont : ∀ (sI : Nat → Int32) (sR : Nat → Nat → Int32) (tI : Nat → Int32) (tR : Nat → Nat → Int32) (hI : Nat → Int32) (hR : Nat → Nat → Int32) (mI : Nat → Int32) (mR : Nat → Nat → Int32) (oI : Nat → Int32) (oR : Nat → Nat → Int32), kont sI sR tI tR hI hR mI mR oI oR → zX C D 4 k n (wSt aH aM aT aS kp cyI sI sR ++ wTe aT cyB tI tR ++ wHo aH cyI hI hR ++ wMi aH aM cyI mI mR ++ wMo aO cyI oI oR ++ K) 1102 [(0, .ref b), (1, .ref (aS 0)), (2, .ref (aO 0)), (3, .int x3)] []) (hw : pL_6 L xs x3 sI sR tI tR hI hR mI mR oI oR kont) : zX C D 4 k n (wSt aH aM aT aS kp cyI sI sR ++ wTe aT cyB tI tR ++ wHo aH cyI hI hR ++ wMi aH aM cyI mI mR ++ wMo aO cyI oI oR ++ K) 390 [(0, .ref b), (1, .ref (aS 0)), (2, .ref (aO 0)), (3, .int x3)] [] := by
  refine z_aload_n F dL_law_390 391 rfl 1 rfl ?_
  refine z_aload_n F dL_law_391 392 rfl 0 rfl ?_
  refine z_iload_n F dL_law_392 393 rfl 3 rfl ?_
  refine z_iconst F dL_law_393 394 rfl zki_1 ?_
  refine z_iadd F dL_law_394 395 rfl ?_
  obtain ⟨j1, ej1, hj1, hw⟩ := hw
  refine z_sld F hX dL_law_395 396 rfl j1 ej1 hj1 ?_
  refine z_aload_n F dL_law_396 397 rfl 0 rfl ?_
  refine z_iload_n F dL_law_397 398 rfl 3 rfl ?_
  refine z_iconst F dL_law_398 399 rfl zki_2 ?_
  refine z_iadd F dL_law_399 400 rfl ?_
  obtain ⟨j2, ej2, hj2, hw⟩ := hw
  refine z_sld F hX dL_law_400 401 rfl j2 ej2 hj2 ?_
  obtain ⟨hwt, hwf⟩ := hw
  refine z_ifeq F dL_law_401 408 rfl 404 rfl (fun c1 => ?_) (fun c1 => ?_)
  · have hw := hwt c1; clear hwt hwf
    refine z_iconst F dL_law_408 409 rfl zki_0 ?_
    refine z_segVi (As := [.int (xs j1), .int 0]) (st := []) F dL_law_409 412 rfl (mX5_over C.1.2.1 D cyI cyB aS aT aH aM kp (xs j1) false sI sR tI tR hI hR mI mR hw) y_X5_over rfl gL_law_X5_over rfl (ci := 5) (rq := 0) rfl rfl (by decide +kernel) hkn (Nat.le_of_ble_eq_true rfl) [] (wMo aO cyI oI oR ++ K) (by simp only [List.append_assoc, List.nil_append, List.append_nil]) (fun _ => rfl) (fun u => (wSt aH aM aT aS kp cyI u.1 u.2.1 ++ wTe aT cyB tI tR ++ wHo aH cyI u.2.2.1 u.2.2.2 ++ wMi aH aM cyI mI mR ++ wMo aO cyI oI oR ++ K)) (fun u => (by simp only [List.append_assoc, List.nil_append, List.append_nil])) (fun r1 u hp => ?_)
    obtain ⟨sI_1, sR_1, hI_1, hR_1⟩ := u
    replace hw := hp
    clear hp
    refine z_aload_n F dL_law_412 413 rfl 2 rfl ?_
    refine z_aload_n F dL_law_413 414 rfl 0 rfl ?_
    refine z_iload_n F dL_law_414 415 rfl 3 rfl ?_
    refine z_iconst F dL_law_415 416 rfl zki_1 ?_
    refine z_iadd F dL_law_416 417 rfl ?_
    refine z_sld F hX dL_law_417 418 rfl j1 ej1 hj1 ?_
    refine z_aload_n F dL_law_418 419 rfl 0 rfl ?_
    refine z_iload_n F dL_law_419 420 rfl 3 rfl ?_
    refine z_iconst F dL_law_420 421 rfl zki_2 ?_
    refine z_iadd F dL_law_421 422 rfl ?_
    refine z_sld F hX dL_law_422 423 rfl j2 ej2 hj2 ?_
    obtain ⟨hwt, hwf⟩ := hw
    refine z_ifeq F dL_law_423 430 rfl 426 rfl (fun c2 => ?_) (fun c2 => ?_)
    · have hw := hwt c2; clear hwt hwf
      refine z_iconst F dL_law_430 431 rfl zki_0 ?_
      refine z_segVi (As := [.int (xs j1), .int 0]) (st := [.int r1]) F dL_law_431 434 rfl (mX6_over C.1.2.1 D cyI cyB aO (xs j1) false oI oR hw) y_X6_over rfl gL_law_X6_over rfl (ci := 6) (rq := 0) rfl rfl (by decide +kernel) hkn (Nat.le_of_ble_eq_true rfl) (wSt aH aM aT aS kp cyI sI_1 sR_1 ++ wTe aT cyB tI tR ++ wHo aH cyI hI_1 hR_1 ++ wMi aH aM cyI mI mR) K (by simp only [List.append_assoc, List.nil_append, List.append_nil]) (fun _ => rfl) (fun u => (wSt aH aM aT aS kp cyI sI_1 sR_1 ++ wTe aT cyB tI tR ++ wHo aH cyI hI_1 hR_1 ++ wMi aH aM cyI mI mR ++ wMo aO cyI u.1 u.2 ++ K)) (fun u => (by simp only [List.append_assoc, List.nil_append, List.append_nil])) (fun r2 u hp => ?_)
      obtain ⟨oI_1, oR_1⟩ := u
      replace hw := hp
      clear hp
      obtain ⟨hwt, hwf⟩ := hw
      refine z_icmpeq F dL_law_434 1102 rfl 437 rfl (fun c3 => ?_) (fun c3 => ?_)
      · have hw := hwt c3; clear hwt hwf
        exact hkont sI_1 sR_1 tI tR hI_1 hR_1 mI mR oI_1 oR_1 hw
      · have hw := hwf c3; clear hwt hwf
        refine z_iconst F dL_law_437 438 rfl zki_0 ?_
        exact hw.elim
    · have hw := hwf c2; clear hwt hwf
      refine z_iconst F dL_law_426 427 rfl zki_1 ?_
      refine z_goto F dL_law_427 431 rfl ?_
      refine z_segVi (As := [.int (xs j1), .int 1]) (st := [.int r1]) F dL_law_431 434 rfl (mX6_over C.1.2.1 D cyI cyB aO (xs j1) true oI oR hw) y_X6_over rfl gL_law_X6_over rfl (ci := 6) (rq := 0) rfl rfl (by decide +kernel) hkn (Nat.le_of_ble_eq_true rfl) (wSt aH aM aT aS kp cyI sI_1 sR_1 ++ wTe aT cyB tI tR ++ wHo aH cyI hI_1 hR_1 ++ wMi aH aM cyI mI mR) K (by simp only [List.append_assoc, List.nil_append, List.append_nil]) (fun _ => rfl) (fun u => (wSt aH aM aT aS kp cyI sI_1 sR_1 ++ wTe aT cyB tI tR ++ wHo aH cyI hI_1 hR_1 ++ wMi aH aM cyI mI mR ++ wMo aO cyI u.1 u.2 ++ K)) (fun u => (by simp only [List.append_assoc, List.nil_append, List.append_nil])) (fun r3 u hp => ?_)
      obtain ⟨oI_2, oR_2⟩ := u
      replace hw := hp
      clear hp
      obtain ⟨hwt, hwf⟩ := hw
      refine z_icmpeq F dL_law_434 1102 rfl 437 rfl (fun c4 => ?_) (fun c4 => ?_)
      · have hw := hwt c4; clear hwt hwf
        exact hkont sI_1 sR_1 tI tR hI_1 hR_1 mI mR oI_2 oR_2 hw
      · have hw := hwf c4; clear hwt hwf
        refine z_iconst F dL_law_437 438 rfl zki_0 ?_
        exact hw.elim
  · have hw := hwf c1; clear hwt hwf
    refine z_iconst F dL_law_404 405 rfl zki_1 ?_
    refine z_goto F dL_law_405 409 rfl ?_
    refine z_segVi (As := [.int (xs j1), .int 1]) (st := []) F dL_law_409 412 rfl (mX5_over C.1.2.1 D cyI cyB aS aT aH aM kp (xs j1) true sI sR tI tR hI hR mI mR hw) y_X5_over rfl gL_law_X5_over rfl (ci := 5) (rq := 0) rfl rfl (by decide +kernel) hkn (Nat.le_of_ble_eq_true rfl) [] (wMo aO cyI oI oR ++ K) (by simp only [List.append_assoc, List.nil_append, List.append_nil]) (fun _ => rfl) (fun u => (wSt aH aM aT aS kp cyI u.1 u.2.1 ++ wTe aT cyB tI tR ++ wHo aH cyI u.2.2.1 u.2.2.2 ++ wMi aH aM cyI mI mR ++ wMo aO cyI oI oR ++ K)) (fun u => (by simp only [List.append_assoc, List.nil_append, List.append_nil])) (fun r4 u hp => ?_)
    obtain ⟨sI_2, sR_2, hI_2, hR_2⟩ := u
    replace hw := hp
    clear hp
    refine z_aload_n F dL_law_412 413 rfl 2 rfl ?_
    refine z_aload_n F dL_law_413 414 rfl 0 rfl ?_
    refine z_iload_n F dL_law_414 415 rfl 3 rfl ?_
    refine z_iconst F dL_law_415 416 rfl zki_1 ?_
    refine z_iadd F dL_law_416 417 rfl ?_
    refine z_sld F hX dL_law_417 418 rfl j1 ej1 hj1 ?_
    refine z_aload_n F dL_law_418 419 rfl 0 rfl ?_
    refine z_iload_n F dL_law_419 420 rfl 3 rfl ?_
    refine z_iconst F dL_law_420 421 rfl zki_2 ?_
    refine z_iadd F dL_law_421 422 rfl ?_
    refine z_sld F hX dL_law_422 423 rfl j2 ej2 hj2 ?_
    obtain ⟨hwt, hwf⟩ := hw
    refine z_ifeq F dL_law_423 430 rfl 426 rfl (fun c5 => ?_) (fun c5 => ?_)
    · have hw := hwt c5; clear hwt hwf
      refine z_iconst F dL_law_430 431 rfl zki_0 ?_
      refine z_segVi (As := [.int (xs j1), .int 0]) (st := [.int r4]) F dL_law_431 434 rfl (mX6_over C.1.2.1 D cyI cyB aO (xs j1) false oI oR hw) y_X6_over rfl gL_law_X6_over rfl (ci := 6) (rq := 0) rfl rfl (by decide +kernel) hkn (Nat.le_of_ble_eq_true rfl) (wSt aH aM aT aS kp cyI sI_2 sR_2 ++ wTe aT cyB tI tR ++ wHo aH cyI hI_2 hR_2 ++ wMi aH aM cyI mI mR) K (by simp only [List.append_assoc, List.nil_append, List.append_nil]) (fun _ => rfl) (fun u => (wSt aH aM aT aS kp cyI sI_2 sR_2 ++ wTe aT cyB tI tR ++ wHo aH cyI hI_2 hR_2 ++ wMi aH aM cyI mI mR ++ wMo aO cyI u.1 u.2 ++ K)) (fun u => (by simp only [List.append_assoc, List.nil_append, List.append_nil])) (fun r5 u hp => ?_)
      obtain ⟨oI_3, oR_3⟩ := u
      replace hw := hp
      clear hp
      obtain ⟨hwt, hwf⟩ := hw
      refine z_icmpeq F dL_law_434 1102 rfl 437 rfl (fun c6 => ?_) (fun c6 => ?_)
      · have hw := hwt c6; clear hwt hwf
        exact hkont sI_2 sR_2 tI tR hI_2 hR_2 mI mR oI_3 oR_3 hw
      · have hw := hwf c6; clear hwt hwf
        refine z_iconst F dL_law_437 438 rfl zki_0 ?_
        exact hw.elim
    · have hw := hwf c5; clear hwt hwf
      refine z_iconst F dL_law_426 427 rfl zki_1 ?_
      refine z_goto F dL_law_427 431 rfl ?_
      refine z_segVi (As := [.int (xs j1), .int 1]) (st := [.int r4]) F dL_law_431 434 rfl (mX6_over C.1.2.1 D cyI cyB aO (xs j1) true oI oR hw) y_X6_over rfl gL_law_X6_over rfl (ci := 6) (rq := 0) rfl rfl (by decide +kernel) hkn (Nat.le_of_ble_eq_true rfl) (wSt aH aM aT aS kp cyI sI_2 sR_2 ++ wTe aT cyB tI tR ++ wHo aH cyI hI_2 hR_2 ++ wMi aH aM cyI mI mR) K (by simp only [List.append_assoc, List.nil_append, List.append_nil]) (fun _ => rfl) (fun u => (wSt aH aM aT aS kp cyI sI_2 sR_2 ++ wTe aT cyB tI tR ++ wHo aH cyI hI_2 hR_2 ++ wMi aH aM cyI mI mR ++ wMo aO cyI u.1 u.2 ++ K)) (fun u => (by simp only [List.append_assoc, List.nil_append, List.append_nil])) (fun r6 u hp => ?_)
      obtain ⟨oI_4, oR_4⟩ := u
      replace hw := hp
      clear hp
      obtain ⟨hwt, hwf⟩ := hw
      refine z_icmpeq F dL_law_434 1102 rfl 437 rfl (fun c7 => ?_) (fun c7 => ?_)
      · have hw := hwt c7; clear hwt hwf
        exact hkont sI_2 sR_2 tI tR hI_2 hR_2 mI mR oI_4 oR_4 hw
      · have hw := hwf c7; clear hwt hwf
        refine z_iconst F dL_law_437 438 rfl zki_0 ?_
        exact hw.elim
set_option maxHeartbeats 4000000 in
set_option maxRecDepth 100000 in
theorem xL_7 {C : zC} {D : va_G} {cyI cyB : ClassId} {b L k n : Nat} {xs : Nat → Int32} {aS : Nat → Nat} {aT : Nat → Nat} {aH : Nat → Nat} {aM : Nat → Nat} {aO : Nat → Nat} {kp : Value} {K : va_W} (x3 : Int32) (sI : Nat → Int32) (sR : Nat → Nat → Int32) (tI : Nat → Int32) (tR : Nat → Nat → Int32) (hI : Nat → Int32) (hR : Nat → Nat → Int32) (mI : Nat → Int32) (mR : Nat → Nat → Int32) (oI : Nat → Int32) (oR : Nat → Nat → Int32) (F : zF C D room_1 cL_law 4 wsL_law RL ret cyI cyB) (hX : va_X b L xs C.2.1.1 C.2.1.1.heap ∧ b < C.2.1.1.heap.size ∧ ¬ C.2.2.2.2 b ∧ L ≤ 2048) (hkn : k ≤ room_1.cells ∧ n ≤ room_1.slots) {kont : (Nat → Int32) → (Nat → Nat → Int32) → (Nat → Int32) → (Nat → Nat → Int32) → (Nat → Int32) → (Nat → Nat → Int32) → (Nat → Int32) → (Nat → Nat → Int32) → (Nat → Int32) → (Nat → Nat → Int32) → Prop} (hkont : ∀ (sI : Nat → Int32) (sR : Nat → Nat → Int32) (tI : Nat → Int32) (tR : Nat → Nat → Int32) (hI : Nat → Int32) (hR : Nat → Nat → Int32) (mI : Nat → Int32) (mR : Nat → Nat → Int32) (oI : Nat → Int32) (oR : Nat → Nat → Int32), kont sI sR tI tR hI hR mI mR oI oR → zX C D 4 k n (wSt aH aM aT aS kp cyI sI sR ++ wTe aT cyB tI tR ++ wHo aH cyI hI hR ++ wMi aH aM cyI mI mR ++ wMo aO cyI oI oR ++ K) 1102 [(0, .ref b), (1, .ref (aS 0)), (2, .ref (aO 0)), (3, .int x3)] []) (hw : pL_7 L xs x3 sI sR tI tR hI hR mI mR oI oR kont) : zX C D 4 k n (wSt aH aM aT aS kp cyI sI sR ++ wTe aT cyB tI tR ++ wHo aH cyI hI hR ++ wMi aH aM cyI mI mR ++ wMo aO cyI oI oR ++ K) 439 [(0, .ref b), (1, .ref (aS 0)), (2, .ref (aO 0)), (3, .int x3)] [] := by
  refine z_aload_n F dL_law_439 440 rfl 1 rfl ?_
  refine z_aload_n F dL_law_440 441 rfl 0 rfl ?_
  refine z_iload_n F dL_law_441 442 rfl 3 rfl ?_
  refine z_iconst F dL_law_442 443 rfl zki_1 ?_
  refine z_iadd F dL_law_443 444 rfl ?_
  obtain ⟨j1, ej1, hj1, hw⟩ := hw
  refine z_sld F hX dL_law_444 445 rfl j1 ej1 hj1 ?_
  refine z_aload_n F dL_law_445 446 rfl 0 rfl ?_
  refine z_iload_n F dL_law_446 447 rfl 3 rfl ?_
  refine z_iconst F dL_law_447 448 rfl zki_2 ?_
  refine z_iadd F dL_law_448 449 rfl ?_
  obtain ⟨j2, ej2, hj2, hw⟩ := hw
  refine z_sld F hX dL_law_449 450 rfl j2 ej2 hj2 ?_
  refine z_segVi (As := [.int (xs j1), .int (xs j2)]) (st := []) F dL_law_450 453 rfl (mX5_sight C.1.2.1 D cyI cyB aS aT aH aM kp (xs j1) (xs j2) sI sR tI tR hI hR mI mR hw) y_X5_sight rfl gL_law_X5_sight rfl (ci := 5) (rq := 0) rfl rfl (by decide +kernel) hkn (Nat.le_of_ble_eq_true rfl) [] (wMo aO cyI oI oR ++ K) (by simp only [List.append_assoc, List.nil_append, List.append_nil]) (fun _ => rfl) (fun u => (wSt aH aM aT aS kp cyI u.1 u.2.1 ++ wTe aT cyB tI tR ++ wHo aH cyI u.2.2.1 u.2.2.2 ++ wMi aH aM cyI mI mR ++ wMo aO cyI oI oR ++ K)) (fun u => (by simp only [List.append_assoc, List.nil_append, List.append_nil])) (fun r1 u hp => ?_)
  obtain ⟨sI_1, sR_1, hI_1, hR_1⟩ := u
  replace hw := hp
  clear hp
  refine z_aload_n F dL_law_453 454 rfl 2 rfl ?_
  refine z_aload_n F dL_law_454 455 rfl 0 rfl ?_
  refine z_iload_n F dL_law_455 456 rfl 3 rfl ?_
  refine z_iconst F dL_law_456 457 rfl zki_1 ?_
  refine z_iadd F dL_law_457 458 rfl ?_
  refine z_sld F hX dL_law_458 459 rfl j1 ej1 hj1 ?_
  refine z_aload_n F dL_law_459 460 rfl 0 rfl ?_
  refine z_iload_n F dL_law_460 461 rfl 3 rfl ?_
  refine z_iconst F dL_law_461 462 rfl zki_2 ?_
  refine z_iadd F dL_law_462 463 rfl ?_
  refine z_sld F hX dL_law_463 464 rfl j2 ej2 hj2 ?_
  refine z_segVi (As := [.int (xs j1), .int (xs j2)]) (st := [.int r1]) F dL_law_464 467 rfl (mX6_sight C.1.2.1 D cyI cyB aO (xs j1) (xs j2) oI oR hw) y_X6_sight rfl gL_law_X6_sight rfl (ci := 6) (rq := 0) rfl rfl (by decide +kernel) hkn (Nat.le_of_ble_eq_true rfl) (wSt aH aM aT aS kp cyI sI_1 sR_1 ++ wTe aT cyB tI tR ++ wHo aH cyI hI_1 hR_1 ++ wMi aH aM cyI mI mR) K (by simp only [List.append_assoc, List.nil_append, List.append_nil]) (fun _ => rfl) (fun u => (wSt aH aM aT aS kp cyI sI_1 sR_1 ++ wTe aT cyB tI tR ++ wHo aH cyI hI_1 hR_1 ++ wMi aH aM cyI mI mR ++ wMo aO cyI u.1 u.2 ++ K)) (fun u => (by simp only [List.append_assoc, List.nil_append, List.append_nil])) (fun r2 u hp => ?_)
  obtain ⟨oI_1, oR_1⟩ := u
  replace hw := hp
  clear hp
  obtain ⟨hwt, hwf⟩ := hw
  refine z_icmpeq F dL_law_467 1102 rfl 470 rfl (fun c1 => ?_) (fun c1 => ?_)
  · have hw := hwt c1; clear hwt hwf
    exact hkont sI_1 sR_1 tI tR hI_1 hR_1 mI mR oI_1 oR_1 hw
  · have hw := hwf c1; clear hwt hwf
    refine z_iconst F dL_law_470 471 rfl zki_0 ?_
    exact hw.elim
set_option maxHeartbeats 4000000 in
set_option maxRecDepth 100000 in
theorem xL_8 {C : zC} {D : va_G} {cyI cyB : ClassId} {b L k n : Nat} {xs : Nat → Int32} {aS : Nat → Nat} {aT : Nat → Nat} {aH : Nat → Nat} {aM : Nat → Nat} {aO : Nat → Nat} {kp : Value} {K : va_W} (x3 : Int32) (sI : Nat → Int32) (sR : Nat → Nat → Int32) (tI : Nat → Int32) (tR : Nat → Nat → Int32) (hI : Nat → Int32) (hR : Nat → Nat → Int32) (mI : Nat → Int32) (mR : Nat → Nat → Int32) (oI : Nat → Int32) (oR : Nat → Nat → Int32) (F : zF C D room_1 cL_law 4 wsL_law RL ret cyI cyB) (hX : va_X b L xs C.2.1.1 C.2.1.1.heap ∧ b < C.2.1.1.heap.size ∧ ¬ C.2.2.2.2 b ∧ L ≤ 2048) (hkn : k ≤ room_1.cells ∧ n ≤ room_1.slots) {kont : (Nat → Int32) → (Nat → Nat → Int32) → (Nat → Int32) → (Nat → Nat → Int32) → (Nat → Int32) → (Nat → Nat → Int32) → (Nat → Int32) → (Nat → Nat → Int32) → (Nat → Int32) → (Nat → Nat → Int32) → Prop} (hkont : ∀ (sI : Nat → Int32) (sR : Nat → Nat → Int32) (tI : Nat → Int32) (tR : Nat → Nat → Int32) (hI : Nat → Int32) (hR : Nat → Nat → Int32) (mI : Nat → Int32) (mR : Nat → Nat → Int32) (oI : Nat → Int32) (oR : Nat → Nat → Int32), kont sI sR tI tR hI hR mI mR oI oR → zX C D 4 k n (wSt aH aM aT aS kp cyI sI sR ++ wTe aT cyB tI tR ++ wHo aH cyI hI hR ++ wMi aH aM cyI mI mR ++ wMo aO cyI oI oR ++ K) 1102 [(0, .ref b), (1, .ref (aS 0)), (2, .ref (aO 0)), (3, .int x3)] []) (hw : pL_8 L xs x3 sI sR tI tR hI hR mI mR oI oR kont) : zX C D 4 k n (wSt aH aM aT aS kp cyI sI sR ++ wTe aT cyB tI tR ++ wHo aH cyI hI hR ++ wMi aH aM cyI mI mR ++ wMo aO cyI oI oR ++ K) 472 [(0, .ref b), (1, .ref (aS 0)), (2, .ref (aO 0)), (3, .int x3)] [] := by
  refine z_aload_n F dL_law_472 473 rfl 1 rfl ?_
  refine z_aload_n F dL_law_473 474 rfl 0 rfl ?_
  refine z_iload_n F dL_law_474 475 rfl 3 rfl ?_
  refine z_iconst F dL_law_475 476 rfl zki_1 ?_
  refine z_iadd F dL_law_476 477 rfl ?_
  obtain ⟨j1, ej1, hj1, hw⟩ := hw
  refine z_sld F hX dL_law_477 478 rfl j1 ej1 hj1 ?_
  refine z_aload_n F dL_law_478 479 rfl 0 rfl ?_
  refine z_iload_n F dL_law_479 480 rfl 3 rfl ?_
  refine z_iconst F dL_law_480 481 rfl zki_2 ?_
  refine z_iadd F dL_law_481 482 rfl ?_
  obtain ⟨j2, ej2, hj2, hw⟩ := hw
  refine z_sld F hX dL_law_482 483 rfl j2 ej2 hj2 ?_
  refine z_segVi (As := [.int (xs j1), .int (xs j2)]) (st := []) F dL_law_483 486 rfl (mX5_tie C.1.2.1 D cyI cyB aS aT aH aM kp (xs j1) (xs j2) sI sR tI tR hI hR mI mR hw) y_X5_tie rfl gL_law_X5_tie rfl (ci := 5) (rq := 0) rfl rfl (by decide +kernel) hkn (Nat.le_of_ble_eq_true rfl) [] (wMo aO cyI oI oR ++ K) (by simp only [List.append_assoc, List.nil_append, List.append_nil]) (fun _ => rfl) (fun u => (wSt aH aM aT aS kp cyI u.1 u.2.1 ++ wTe aT cyB tI tR ++ wHo aH cyI u.2.2.1 u.2.2.2 ++ wMi aH aM cyI mI mR ++ wMo aO cyI oI oR ++ K)) (fun u => (by simp only [List.append_assoc, List.nil_append, List.append_nil])) (fun r1 u hp => ?_)
  obtain ⟨sI_1, sR_1, hI_1, hR_1⟩ := u
  replace hw := hp
  clear hp
  refine z_aload_n F dL_law_486 487 rfl 2 rfl ?_
  refine z_aload_n F dL_law_487 488 rfl 0 rfl ?_
  refine z_iload_n F dL_law_488 489 rfl 3 rfl ?_
  refine z_iconst F dL_law_489 490 rfl zki_1 ?_
  refine z_iadd F dL_law_490 491 rfl ?_
  refine z_sld F hX dL_law_491 492 rfl j1 ej1 hj1 ?_
  refine z_aload_n F dL_law_492 493 rfl 0 rfl ?_
  refine z_iload_n F dL_law_493 494 rfl 3 rfl ?_
  refine z_iconst F dL_law_494 495 rfl zki_2 ?_
  refine z_iadd F dL_law_495 496 rfl ?_
  refine z_sld F hX dL_law_496 497 rfl j2 ej2 hj2 ?_
  refine z_segVi (As := [.int (xs j1), .int (xs j2)]) (st := [.int r1]) F dL_law_497 500 rfl (mX6_tie C.1.2.1 D cyI cyB aO (xs j1) (xs j2) oI oR hw) y_X6_tie rfl gL_law_X6_tie rfl (ci := 6) (rq := 0) rfl rfl (by decide +kernel) hkn (Nat.le_of_ble_eq_true rfl) (wSt aH aM aT aS kp cyI sI_1 sR_1 ++ wTe aT cyB tI tR ++ wHo aH cyI hI_1 hR_1 ++ wMi aH aM cyI mI mR) K (by simp only [List.append_assoc, List.nil_append, List.append_nil]) (fun _ => rfl) (fun u => (wSt aH aM aT aS kp cyI sI_1 sR_1 ++ wTe aT cyB tI tR ++ wHo aH cyI hI_1 hR_1 ++ wMi aH aM cyI mI mR ++ wMo aO cyI u.1 u.2 ++ K)) (fun u => (by simp only [List.append_assoc, List.nil_append, List.append_nil])) (fun r2 u hp => ?_)
  obtain ⟨oI_1, oR_1⟩ := u
  replace hw := hp
  clear hp
  obtain ⟨hwt, hwf⟩ := hw
  refine z_icmpeq F dL_law_500 1102 rfl 503 rfl (fun c1 => ?_) (fun c1 => ?_)
  · have hw := hwt c1; clear hwt hwf
    exact hkont sI_1 sR_1 tI tR hI_1 hR_1 mI mR oI_1 oR_1 hw
  · have hw := hwf c1; clear hwt hwf
    refine z_iconst F dL_law_503 504 rfl zki_0 ?_
    exact hw.elim
set_option maxHeartbeats 4000000 in
set_option maxRecDepth 100000 in
theorem xL_9 {C : zC} {D : va_G} {cyI cyB : ClassId} {b L k n : Nat} {xs : Nat → Int32} {aS : Nat → Nat} {aT : Nat → Nat} {aH : Nat → Nat} {aM : Nat → Nat} {aO : Nat → Nat} {kp : Value} {K : va_W} (x3 : Int32) (sI : Nat → Int32) (sR : Nat → Nat → Int32) (tI : Nat → Int32) (tR : Nat → Nat → Int32) (hI : Nat → Int32) (hR : Nat → Nat → Int32) (mI : Nat → Int32) (mR : Nat → Nat → Int32) (oI : Nat → Int32) (oR : Nat → Nat → Int32) (F : zF C D room_1 cL_law 4 wsL_law RL ret cyI cyB) (hX : va_X b L xs C.2.1.1 C.2.1.1.heap ∧ b < C.2.1.1.heap.size ∧ ¬ C.2.2.2.2 b ∧ L ≤ 2048) (hkn : k ≤ room_1.cells ∧ n ≤ room_1.slots) {kont : (Nat → Int32) → (Nat → Nat → Int32) → (Nat → Int32) → (Nat → Nat → Int32) → (Nat → Int32) → (Nat → Nat → Int32) → (Nat → Int32) → (Nat → Nat → Int32) → (Nat → Int32) → (Nat → Nat → Int32) → Prop} (hkont : ∀ (sI : Nat → Int32) (sR : Nat → Nat → Int32) (tI : Nat → Int32) (tR : Nat → Nat → Int32) (hI : Nat → Int32) (hR : Nat → Nat → Int32) (mI : Nat → Int32) (mR : Nat → Nat → Int32) (oI : Nat → Int32) (oR : Nat → Nat → Int32), kont sI sR tI tR hI hR mI mR oI oR → zX C D 4 k n (wSt aH aM aT aS kp cyI sI sR ++ wTe aT cyB tI tR ++ wHo aH cyI hI hR ++ wMi aH aM cyI mI mR ++ wMo aO cyI oI oR ++ K) 1102 [(0, .ref b), (1, .ref (aS 0)), (2, .ref (aO 0)), (3, .int x3)] []) (hw : pL_9 L xs x3 sI sR tI tR hI hR mI mR oI oR kont) : zX C D 4 k n (wSt aH aM aT aS kp cyI sI sR ++ wTe aT cyB tI tR ++ wHo aH cyI hI hR ++ wMi aH aM cyI mI mR ++ wMo aO cyI oI oR ++ K) 505 [(0, .ref b), (1, .ref (aS 0)), (2, .ref (aO 0)), (3, .int x3)] [] := by
  refine z_aload_n F dL_law_505 506 rfl 1 rfl ?_
  refine z_aload_n F dL_law_506 507 rfl 0 rfl ?_
  refine z_iload_n F dL_law_507 508 rfl 3 rfl ?_
  refine z_iconst F dL_law_508 509 rfl zki_1 ?_
  refine z_iadd F dL_law_509 510 rfl ?_
  obtain ⟨j1, ej1, hj1, hw⟩ := hw
  refine z_sld F hX dL_law_510 511 rfl j1 ej1 hj1 ?_
  refine z_aload_n F dL_law_511 512 rfl 0 rfl ?_
  refine z_iload_n F dL_law_512 513 rfl 3 rfl ?_
  refine z_iconst F dL_law_513 514 rfl zki_2 ?_
  refine z_iadd F dL_law_514 515 rfl ?_
  obtain ⟨j2, ej2, hj2, hw⟩ := hw
  refine z_sld F hX dL_law_515 516 rfl j2 ej2 hj2 ?_
  refine z_segVi (As := [.int (xs j1), .int (xs j2)]) (st := []) F dL_law_516 519 rfl (mX5_guess C.1.2.1 D cyI cyB aS aT aH aM kp (xs j1) (xs j2) sI sR tI tR hI hR mI mR hw) y_X5_guess rfl gL_law_X5_guess rfl (ci := 5) (rq := 0) rfl rfl (by decide +kernel) hkn (Nat.le_of_ble_eq_true rfl) [] (wMo aO cyI oI oR ++ K) (by simp only [List.append_assoc, List.nil_append, List.append_nil]) (fun _ => rfl) (fun u => (wSt aH aM aT aS kp cyI u.1 u.2.1 ++ wTe aT cyB tI tR ++ wHo aH cyI u.2.2.1 u.2.2.2 ++ wMi aH aM cyI mI mR ++ wMo aO cyI oI oR ++ K)) (fun u => (by simp only [List.append_assoc, List.nil_append, List.append_nil])) (fun r1 u hp => ?_)
  obtain ⟨sI_1, sR_1, hI_1, hR_1⟩ := u
  replace hw := hp
  clear hp
  refine z_aload_n F dL_law_519 520 rfl 2 rfl ?_
  refine z_aload_n F dL_law_520 521 rfl 0 rfl ?_
  refine z_iload_n F dL_law_521 522 rfl 3 rfl ?_
  refine z_iconst F dL_law_522 523 rfl zki_1 ?_
  refine z_iadd F dL_law_523 524 rfl ?_
  refine z_sld F hX dL_law_524 525 rfl j1 ej1 hj1 ?_
  refine z_aload_n F dL_law_525 526 rfl 0 rfl ?_
  refine z_iload_n F dL_law_526 527 rfl 3 rfl ?_
  refine z_iconst F dL_law_527 528 rfl zki_2 ?_
  refine z_iadd F dL_law_528 529 rfl ?_
  refine z_sld F hX dL_law_529 530 rfl j2 ej2 hj2 ?_
  refine z_segVi (As := [.int (xs j1), .int (xs j2)]) (st := [.int r1]) F dL_law_530 533 rfl (mX6_guess C.1.2.1 D cyI cyB aO (xs j1) (xs j2) oI oR hw) y_X6_guess rfl gL_law_X6_guess rfl (ci := 6) (rq := 0) rfl rfl (by decide +kernel) hkn (Nat.le_of_ble_eq_true rfl) (wSt aH aM aT aS kp cyI sI_1 sR_1 ++ wTe aT cyB tI tR ++ wHo aH cyI hI_1 hR_1 ++ wMi aH aM cyI mI mR) K (by simp only [List.append_assoc, List.nil_append, List.append_nil]) (fun _ => rfl) (fun u => (wSt aH aM aT aS kp cyI sI_1 sR_1 ++ wTe aT cyB tI tR ++ wHo aH cyI hI_1 hR_1 ++ wMi aH aM cyI mI mR ++ wMo aO cyI u.1 u.2 ++ K)) (fun u => (by simp only [List.append_assoc, List.nil_append, List.append_nil])) (fun r2 u hp => ?_)
  obtain ⟨oI_1, oR_1⟩ := u
  replace hw := hp
  clear hp
  obtain ⟨hwt, hwf⟩ := hw
  refine z_icmpeq F dL_law_533 1102 rfl 536 rfl (fun c1 => ?_) (fun c1 => ?_)
  · have hw := hwt c1; clear hwt hwf
    exact hkont sI_1 sR_1 tI tR hI_1 hR_1 mI mR oI_1 oR_1 hw
  · have hw := hwf c1; clear hwt hwf
    refine z_iconst F dL_law_536 537 rfl zki_0 ?_
    exact hw.elim
set_option maxHeartbeats 4000000 in
set_option maxRecDepth 100000 in
theorem xL_10 {C : zC} {D : va_G} {cyI cyB : ClassId} {b L k n : Nat} {xs : Nat → Int32} {aS : Nat → Nat} {aT : Nat → Nat} {aH : Nat → Nat} {aM : Nat → Nat} {aO : Nat → Nat} {kp : Value} {K : va_W} (x3 : Int32) (sI : Nat → Int32) (sR : Nat → Nat → Int32) (tI : Nat → Int32) (tR : Nat → Nat → Int32) (hI : Nat → Int32) (hR : Nat → Nat → Int32) (mI : Nat → Int32) (mR : Nat → Nat → Int32) (oI : Nat → Int32) (oR : Nat → Nat → Int32) (F : zF C D room_1 cL_law 4 wsL_law RL ret cyI cyB) (hX : va_X b L xs C.2.1.1 C.2.1.1.heap ∧ b < C.2.1.1.heap.size ∧ ¬ C.2.2.2.2 b ∧ L ≤ 2048) (hkn : k ≤ room_1.cells ∧ n ≤ room_1.slots) {kont : (Nat → Int32) → (Nat → Nat → Int32) → (Nat → Int32) → (Nat → Nat → Int32) → (Nat → Int32) → (Nat → Nat → Int32) → (Nat → Int32) → (Nat → Nat → Int32) → (Nat → Int32) → (Nat → Nat → Int32) → Prop} (hkont : ∀ (sI : Nat → Int32) (sR : Nat → Nat → Int32) (tI : Nat → Int32) (tR : Nat → Nat → Int32) (hI : Nat → Int32) (hR : Nat → Nat → Int32) (mI : Nat → Int32) (mR : Nat → Nat → Int32) (oI : Nat → Int32) (oR : Nat → Nat → Int32), kont sI sR tI tR hI hR mI mR oI oR → zX C D 4 k n (wSt aH aM aT aS kp cyI sI sR ++ wTe aT cyB tI tR ++ wHo aH cyI hI hR ++ wMi aH aM cyI mI mR ++ wMo aO cyI oI oR ++ K) 1102 [(0, .ref b), (1, .ref (aS 0)), (2, .ref (aO 0)), (3, .int x3)] []) (hw : pL_10 L xs x3 sI sR tI tR hI hR mI mR oI oR kont) : zX C D 4 k n (wSt aH aM aT aS kp cyI sI sR ++ wTe aT cyB tI tR ++ wHo aH cyI hI hR ++ wMi aH aM cyI mI mR ++ wMo aO cyI oI oR ++ K) 538 [(0, .ref b), (1, .ref (aS 0)), (2, .ref (aO 0)), (3, .int x3)] [] := by
  refine z_aload_n F dL_law_538 539 rfl 1 rfl ?_
  refine z_aload_n F dL_law_539 540 rfl 0 rfl ?_
  refine z_iload_n F dL_law_540 541 rfl 3 rfl ?_
  refine z_iconst F dL_law_541 542 rfl zki_1 ?_
  refine z_iadd F dL_law_542 543 rfl ?_
  obtain ⟨j1, ej1, hj1, hw⟩ := hw
  refine z_sld F hX dL_law_543 544 rfl j1 ej1 hj1 ?_
  refine z_segVi (As := [.int (xs j1)]) (st := []) F dL_law_544 547 rfl (mX5_paper C.1.2.1 D cyI cyB aS aT aH aM kp (xs j1) sI sR tI tR hI hR mI mR hw) y_X5_paper rfl gL_law_X5_paper rfl (ci := 5) (rq := 0) rfl rfl (by decide +kernel) hkn (Nat.le_of_ble_eq_true rfl) [] (wMo aO cyI oI oR ++ K) (by simp only [List.append_assoc, List.nil_append, List.append_nil]) (fun _ => rfl) (fun u => (wSt aH aM aT aS kp cyI u.1 u.2.1 ++ wTe aT cyB tI tR ++ wHo aH cyI u.2.2.1 u.2.2.2 ++ wMi aH aM cyI mI mR ++ wMo aO cyI oI oR ++ K)) (fun u => (by simp only [List.append_assoc, List.nil_append, List.append_nil])) (fun r1 u hp => ?_)
  obtain ⟨sI_1, sR_1, hI_1, hR_1⟩ := u
  replace hw := hp
  clear hp
  refine z_aload_n F dL_law_547 548 rfl 2 rfl ?_
  refine z_aload_n F dL_law_548 549 rfl 0 rfl ?_
  refine z_iload_n F dL_law_549 550 rfl 3 rfl ?_
  refine z_iconst F dL_law_550 551 rfl zki_1 ?_
  refine z_iadd F dL_law_551 552 rfl ?_
  refine z_sld F hX dL_law_552 553 rfl j1 ej1 hj1 ?_
  refine z_segVi (As := [.int (xs j1)]) (st := [.int r1]) F dL_law_553 556 rfl (mX6_paper C.1.2.1 D cyI cyB aO (xs j1) oI oR hw) y_X6_paper rfl gL_law_X6_paper rfl (ci := 6) (rq := 0) rfl rfl (by decide +kernel) hkn (Nat.le_of_ble_eq_true rfl) (wSt aH aM aT aS kp cyI sI_1 sR_1 ++ wTe aT cyB tI tR ++ wHo aH cyI hI_1 hR_1 ++ wMi aH aM cyI mI mR) K (by simp only [List.append_assoc, List.nil_append, List.append_nil]) (fun _ => rfl) (fun u => (wSt aH aM aT aS kp cyI sI_1 sR_1 ++ wTe aT cyB tI tR ++ wHo aH cyI hI_1 hR_1 ++ wMi aH aM cyI mI mR ++ wMo aO cyI u.1 u.2 ++ K)) (fun u => (by simp only [List.append_assoc, List.nil_append, List.append_nil])) (fun r2 u hp => ?_)
  obtain ⟨oI_1, oR_1⟩ := u
  replace hw := hp
  clear hp
  obtain ⟨hwt, hwf⟩ := hw
  refine z_icmpeq F dL_law_556 1102 rfl 559 rfl (fun c1 => ?_) (fun c1 => ?_)
  · have hw := hwt c1; clear hwt hwf
    exact hkont sI_1 sR_1 tI tR hI_1 hR_1 mI mR oI_1 oR_1 hw
  · have hw := hwf c1; clear hwt hwf
    refine z_iconst F dL_law_559 560 rfl zki_0 ?_
    exact hw.elim
set_option maxHeartbeats 4000000 in
set_option maxRecDepth 100000 in
theorem xL_11 {C : zC} {D : va_G} {cyI cyB : ClassId} {b L k n : Nat} {xs : Nat → Int32} {aS : Nat → Nat} {aT : Nat → Nat} {aH : Nat → Nat} {aM : Nat → Nat} {aO : Nat → Nat} {kp : Value} {K : va_W} (x3 : Int32) (sI : Nat → Int32) (sR : Nat → Nat → Int32) (tI : Nat → Int32) (tR : Nat → Nat → Int32) (hI : Nat → Int32) (hR : Nat → Nat → Int32) (mI : Nat → Int32) (mR : Nat → Nat → Int32) (oI : Nat → Int32) (oR : Nat → Nat → Int32) (F : zF C D room_1 cL_law 4 wsL_law RL ret cyI cyB) (hX : va_X b L xs C.2.1.1 C.2.1.1.heap ∧ b < C.2.1.1.heap.size ∧ ¬ C.2.2.2.2 b ∧ L ≤ 2048) (hkn : k ≤ room_1.cells ∧ n ≤ room_1.slots) {kont : (Nat → Int32) → (Nat → Nat → Int32) → (Nat → Int32) → (Nat → Nat → Int32) → (Nat → Int32) → (Nat → Nat → Int32) → (Nat → Int32) → (Nat → Nat → Int32) → (Nat → Int32) → (Nat → Nat → Int32) → Prop} (hkont : ∀ (sI : Nat → Int32) (sR : Nat → Nat → Int32) (tI : Nat → Int32) (tR : Nat → Nat → Int32) (hI : Nat → Int32) (hR : Nat → Nat → Int32) (mI : Nat → Int32) (mR : Nat → Nat → Int32) (oI : Nat → Int32) (oR : Nat → Nat → Int32), kont sI sR tI tR hI hR mI mR oI oR → zX C D 4 k n (wSt aH aM aT aS kp cyI sI sR ++ wTe aT cyB tI tR ++ wHo aH cyI hI hR ++ wMi aH aM cyI mI mR ++ wMo aO cyI oI oR ++ K) 1102 [(0, .ref b), (1, .ref (aS 0)), (2, .ref (aO 0)), (3, .int x3)] []) (hw : pL_11 L xs x3 sI sR tI tR hI hR mI mR oI oR kont) : zX C D 4 k n (wSt aH aM aT aS kp cyI sI sR ++ wTe aT cyB tI tR ++ wHo aH cyI hI hR ++ wMi aH aM cyI mI mR ++ wMo aO cyI oI oR ++ K) 561 [(0, .ref b), (1, .ref (aS 0)), (2, .ref (aO 0)), (3, .int x3)] [] := by
  refine z_aload_n F dL_law_561 562 rfl 1 rfl ?_
  refine z_aload_n F dL_law_562 563 rfl 0 rfl ?_
  refine z_iload_n F dL_law_563 564 rfl 3 rfl ?_
  refine z_iconst F dL_law_564 565 rfl zki_1 ?_
  refine z_iadd F dL_law_565 566 rfl ?_
  obtain ⟨j1, ej1, hj1, hw⟩ := hw
  refine z_sld F hX dL_law_566 567 rfl j1 ej1 hj1 ?_
  refine z_aload_n F dL_law_567 568 rfl 0 rfl ?_
  refine z_iload_n F dL_law_568 569 rfl 3 rfl ?_
  refine z_iconst F dL_law_569 570 rfl zki_2 ?_
  refine z_iadd F dL_law_570 571 rfl ?_
  obtain ⟨j2, ej2, hj2, hw⟩ := hw
  refine z_sld F hX dL_law_571 572 rfl j2 ej2 hj2 ?_
  refine z_segVi (As := [.int (xs j1), .int (xs j2)]) (st := []) F dL_law_572 575 rfl (mX5_knows C.1.2.1 D cyI cyB aS aT aH aM kp (xs j1) (xs j2) sI sR tI tR hI hR mI mR hw) y_X5_knows rfl gL_law_X5_knows rfl (ci := 5) (rq := 0) rfl rfl (by decide +kernel) hkn (Nat.le_of_ble_eq_true rfl) [] (wMo aO cyI oI oR ++ K) (by simp only [List.append_assoc, List.nil_append, List.append_nil]) (fun _ => rfl) (fun u => (wSt aH aM aT aS kp cyI u.1 u.2.1 ++ wTe aT cyB tI tR ++ wHo aH cyI hI hR ++ wMi aH aM cyI u.2.2.1 u.2.2.2 ++ wMo aO cyI oI oR ++ K)) (fun u => (by simp only [List.append_assoc, List.nil_append, List.append_nil])) (fun r1 u hp => ?_)
  obtain ⟨sI_1, sR_1, mI_1, mR_1⟩ := u
  replace hw := hp
  clear hp
  refine z_aload_n F dL_law_575 576 rfl 2 rfl ?_
  refine z_aload_n F dL_law_576 577 rfl 0 rfl ?_
  refine z_iload_n F dL_law_577 578 rfl 3 rfl ?_
  refine z_iconst F dL_law_578 579 rfl zki_1 ?_
  refine z_iadd F dL_law_579 580 rfl ?_
  refine z_sld F hX dL_law_580 581 rfl j1 ej1 hj1 ?_
  refine z_aload_n F dL_law_581 582 rfl 0 rfl ?_
  refine z_iload_n F dL_law_582 583 rfl 3 rfl ?_
  refine z_iconst F dL_law_583 584 rfl zki_2 ?_
  refine z_iadd F dL_law_584 585 rfl ?_
  refine z_sld F hX dL_law_585 586 rfl j2 ej2 hj2 ?_
  refine z_segVi (As := [.int (xs j1), .int (xs j2)]) (st := [.int r1]) F dL_law_586 589 rfl (mX6_knows C.1.2.1 D cyI cyB aO (xs j1) (xs j2) oI oR hw) y_X6_knows rfl gL_law_X6_knows rfl (ci := 6) (rq := 0) rfl rfl (by decide +kernel) hkn (Nat.le_of_ble_eq_true rfl) (wSt aH aM aT aS kp cyI sI_1 sR_1 ++ wTe aT cyB tI tR ++ wHo aH cyI hI hR ++ wMi aH aM cyI mI_1 mR_1) K (by simp only [List.append_assoc, List.nil_append, List.append_nil]) (fun _ => rfl) (fun u => (wSt aH aM aT aS kp cyI sI_1 sR_1 ++ wTe aT cyB tI tR ++ wHo aH cyI hI hR ++ wMi aH aM cyI mI_1 mR_1 ++ wMo aO cyI u.1 u.2 ++ K)) (fun u => (by simp only [List.append_assoc, List.nil_append, List.append_nil])) (fun r2 u hp => ?_)
  obtain ⟨oI_1, oR_1⟩ := u
  replace hw := hp
  clear hp
  obtain ⟨hwt, hwf⟩ := hw
  refine z_icmpeq F dL_law_589 1102 rfl 592 rfl (fun c1 => ?_) (fun c1 => ?_)
  · have hw := hwt c1; clear hwt hwf
    exact hkont sI_1 sR_1 tI tR hI hR mI_1 mR_1 oI_1 oR_1 hw
  · have hw := hwf c1; clear hwt hwf
    refine z_iconst F dL_law_592 593 rfl zki_0 ?_
    exact hw.elim
set_option maxHeartbeats 4000000 in
set_option maxRecDepth 100000 in
theorem xL_12 {C : zC} {D : va_G} {cyI cyB : ClassId} {b L k n : Nat} {xs : Nat → Int32} {aS : Nat → Nat} {aT : Nat → Nat} {aH : Nat → Nat} {aM : Nat → Nat} {aO : Nat → Nat} {kp : Value} {K : va_W} (x3 : Int32) (sI : Nat → Int32) (sR : Nat → Nat → Int32) (tI : Nat → Int32) (tR : Nat → Nat → Int32) (hI : Nat → Int32) (hR : Nat → Nat → Int32) (mI : Nat → Int32) (mR : Nat → Nat → Int32) (oI : Nat → Int32) (oR : Nat → Nat → Int32) (F : zF C D room_1 cL_law 4 wsL_law RL ret cyI cyB) (hX : va_X b L xs C.2.1.1 C.2.1.1.heap ∧ b < C.2.1.1.heap.size ∧ ¬ C.2.2.2.2 b ∧ L ≤ 2048) (hkn : k ≤ room_1.cells ∧ n ≤ room_1.slots) {kont : (Nat → Int32) → (Nat → Nat → Int32) → (Nat → Int32) → (Nat → Nat → Int32) → (Nat → Int32) → (Nat → Nat → Int32) → (Nat → Int32) → (Nat → Nat → Int32) → (Nat → Int32) → (Nat → Nat → Int32) → Prop} (hkont : ∀ (sI : Nat → Int32) (sR : Nat → Nat → Int32) (tI : Nat → Int32) (tR : Nat → Nat → Int32) (hI : Nat → Int32) (hR : Nat → Nat → Int32) (mI : Nat → Int32) (mR : Nat → Nat → Int32) (oI : Nat → Int32) (oR : Nat → Nat → Int32), kont sI sR tI tR hI hR mI mR oI oR → zX C D 4 k n (wSt aH aM aT aS kp cyI sI sR ++ wTe aT cyB tI tR ++ wHo aH cyI hI hR ++ wMi aH aM cyI mI mR ++ wMo aO cyI oI oR ++ K) 1102 [(0, .ref b), (1, .ref (aS 0)), (2, .ref (aO 0)), (3, .int x3)] []) (hw : pL_12 L xs x3 sI sR tI tR hI hR mI mR oI oR kont) : zX C D 4 k n (wSt aH aM aT aS kp cyI sI sR ++ wTe aT cyB tI tR ++ wHo aH cyI hI hR ++ wMi aH aM cyI mI mR ++ wMo aO cyI oI oR ++ K) 594 [(0, .ref b), (1, .ref (aS 0)), (2, .ref (aO 0)), (3, .int x3)] [] := by
  refine z_aload_n F dL_law_594 595 rfl 1 rfl ?_
  refine z_aload_n F dL_law_595 596 rfl 0 rfl ?_
  refine z_iload_n F dL_law_596 597 rfl 3 rfl ?_
  refine z_iconst F dL_law_597 598 rfl zki_1 ?_
  refine z_iadd F dL_law_598 599 rfl ?_
  obtain ⟨j1, ej1, hj1, hw⟩ := hw
  refine z_sld F hX dL_law_599 600 rfl j1 ej1 hj1 ?_
  refine z_aload_n F dL_law_600 601 rfl 0 rfl ?_
  refine z_iload_n F dL_law_601 602 rfl 3 rfl ?_
  refine z_iconst F dL_law_602 603 rfl zki_2 ?_
  refine z_iadd F dL_law_603 604 rfl ?_
  obtain ⟨j2, ej2, hj2, hw⟩ := hw
  refine z_sld F hX dL_law_604 605 rfl j2 ej2 hj2 ?_
  obtain ⟨hwt, hwf⟩ := hw
  refine z_ifeq F dL_law_605 612 rfl 608 rfl (fun c1 => ?_) (fun c1 => ?_)
  · have hw := hwt c1; clear hwt hwf
    refine z_iconst F dL_law_612 613 rfl zki_0 ?_
    refine z_segVi (As := [.int (xs j1), .int 0]) (st := []) F dL_law_613 616 rfl (mX5_known C.1.2.1 D cyI cyB aS aT aH aM kp (xs j1) false sI sR tI tR hI hR mI mR hw) y_X5_known rfl gL_law_X5_known rfl (ci := 5) (rq := 0) rfl rfl (by decide +kernel) hkn (Nat.le_of_ble_eq_true rfl) [] (wMo aO cyI oI oR ++ K) (by simp only [List.append_assoc, List.nil_append, List.append_nil]) (fun _ => rfl) (fun u => (wSt aH aM aT aS kp cyI u.1 u.2.1 ++ wTe aT cyB tI tR ++ wHo aH cyI hI hR ++ wMi aH aM cyI u.2.2.1 u.2.2.2 ++ wMo aO cyI oI oR ++ K)) (fun u => (by simp only [List.append_assoc, List.nil_append, List.append_nil])) (fun r1 u hp => ?_)
    obtain ⟨sI_1, sR_1, mI_1, mR_1⟩ := u
    replace hw := hp
    clear hp
    refine z_aload_n F dL_law_616 617 rfl 2 rfl ?_
    refine z_aload_n F dL_law_617 618 rfl 0 rfl ?_
    refine z_iload_n F dL_law_618 619 rfl 3 rfl ?_
    refine z_iconst F dL_law_619 620 rfl zki_1 ?_
    refine z_iadd F dL_law_620 621 rfl ?_
    refine z_sld F hX dL_law_621 622 rfl j1 ej1 hj1 ?_
    refine z_aload_n F dL_law_622 623 rfl 0 rfl ?_
    refine z_iload_n F dL_law_623 624 rfl 3 rfl ?_
    refine z_iconst F dL_law_624 625 rfl zki_2 ?_
    refine z_iadd F dL_law_625 626 rfl ?_
    refine z_sld F hX dL_law_626 627 rfl j2 ej2 hj2 ?_
    obtain ⟨hwt, hwf⟩ := hw
    refine z_ifeq F dL_law_627 634 rfl 630 rfl (fun c2 => ?_) (fun c2 => ?_)
    · have hw := hwt c2; clear hwt hwf
      refine z_iconst F dL_law_634 635 rfl zki_0 ?_
      refine z_segVi (As := [.int (xs j1), .int 0]) (st := [.int r1]) F dL_law_635 638 rfl (mX6_known C.1.2.1 D cyI cyB aO (xs j1) false oI oR hw) y_X6_known rfl gL_law_X6_known rfl (ci := 6) (rq := 0) rfl rfl (by decide +kernel) hkn (Nat.le_of_ble_eq_true rfl) (wSt aH aM aT aS kp cyI sI_1 sR_1 ++ wTe aT cyB tI tR ++ wHo aH cyI hI hR ++ wMi aH aM cyI mI_1 mR_1) K (by simp only [List.append_assoc, List.nil_append, List.append_nil]) (fun _ => rfl) (fun u => (wSt aH aM aT aS kp cyI sI_1 sR_1 ++ wTe aT cyB tI tR ++ wHo aH cyI hI hR ++ wMi aH aM cyI mI_1 mR_1 ++ wMo aO cyI u.1 u.2 ++ K)) (fun u => (by simp only [List.append_assoc, List.nil_append, List.append_nil])) (fun r2 u hp => ?_)
      obtain ⟨oI_1, oR_1⟩ := u
      replace hw := hp
      clear hp
      obtain ⟨hwt, hwf⟩ := hw
      refine z_icmpeq F dL_law_638 1102 rfl 641 rfl (fun c3 => ?_) (fun c3 => ?_)
      · have hw := hwt c3; clear hwt hwf
        exact hkont sI_1 sR_1 tI tR hI hR mI_1 mR_1 oI_1 oR_1 hw
      · have hw := hwf c3; clear hwt hwf
        refine z_iconst F dL_law_641 642 rfl zki_0 ?_
        exact hw.elim
    · have hw := hwf c2; clear hwt hwf
      refine z_iconst F dL_law_630 631 rfl zki_1 ?_
      refine z_goto F dL_law_631 635 rfl ?_
      refine z_segVi (As := [.int (xs j1), .int 1]) (st := [.int r1]) F dL_law_635 638 rfl (mX6_known C.1.2.1 D cyI cyB aO (xs j1) true oI oR hw) y_X6_known rfl gL_law_X6_known rfl (ci := 6) (rq := 0) rfl rfl (by decide +kernel) hkn (Nat.le_of_ble_eq_true rfl) (wSt aH aM aT aS kp cyI sI_1 sR_1 ++ wTe aT cyB tI tR ++ wHo aH cyI hI hR ++ wMi aH aM cyI mI_1 mR_1) K (by simp only [List.append_assoc, List.nil_append, List.append_nil]) (fun _ => rfl) (fun u => (wSt aH aM aT aS kp cyI sI_1 sR_1 ++ wTe aT cyB tI tR ++ wHo aH cyI hI hR ++ wMi aH aM cyI mI_1 mR_1 ++ wMo aO cyI u.1 u.2 ++ K)) (fun u => (by simp only [List.append_assoc, List.nil_append, List.append_nil])) (fun r3 u hp => ?_)
      obtain ⟨oI_2, oR_2⟩ := u
      replace hw := hp
      clear hp
      obtain ⟨hwt, hwf⟩ := hw
      refine z_icmpeq F dL_law_638 1102 rfl 641 rfl (fun c4 => ?_) (fun c4 => ?_)
      · have hw := hwt c4; clear hwt hwf
        exact hkont sI_1 sR_1 tI tR hI hR mI_1 mR_1 oI_2 oR_2 hw
      · have hw := hwf c4; clear hwt hwf
        refine z_iconst F dL_law_641 642 rfl zki_0 ?_
        exact hw.elim
  · have hw := hwf c1; clear hwt hwf
    refine z_iconst F dL_law_608 609 rfl zki_1 ?_
    refine z_goto F dL_law_609 613 rfl ?_
    refine z_segVi (As := [.int (xs j1), .int 1]) (st := []) F dL_law_613 616 rfl (mX5_known C.1.2.1 D cyI cyB aS aT aH aM kp (xs j1) true sI sR tI tR hI hR mI mR hw) y_X5_known rfl gL_law_X5_known rfl (ci := 5) (rq := 0) rfl rfl (by decide +kernel) hkn (Nat.le_of_ble_eq_true rfl) [] (wMo aO cyI oI oR ++ K) (by simp only [List.append_assoc, List.nil_append, List.append_nil]) (fun _ => rfl) (fun u => (wSt aH aM aT aS kp cyI u.1 u.2.1 ++ wTe aT cyB tI tR ++ wHo aH cyI hI hR ++ wMi aH aM cyI u.2.2.1 u.2.2.2 ++ wMo aO cyI oI oR ++ K)) (fun u => (by simp only [List.append_assoc, List.nil_append, List.append_nil])) (fun r4 u hp => ?_)
    obtain ⟨sI_2, sR_2, mI_2, mR_2⟩ := u
    replace hw := hp
    clear hp
    refine z_aload_n F dL_law_616 617 rfl 2 rfl ?_
    refine z_aload_n F dL_law_617 618 rfl 0 rfl ?_
    refine z_iload_n F dL_law_618 619 rfl 3 rfl ?_
    refine z_iconst F dL_law_619 620 rfl zki_1 ?_
    refine z_iadd F dL_law_620 621 rfl ?_
    refine z_sld F hX dL_law_621 622 rfl j1 ej1 hj1 ?_
    refine z_aload_n F dL_law_622 623 rfl 0 rfl ?_
    refine z_iload_n F dL_law_623 624 rfl 3 rfl ?_
    refine z_iconst F dL_law_624 625 rfl zki_2 ?_
    refine z_iadd F dL_law_625 626 rfl ?_
    refine z_sld F hX dL_law_626 627 rfl j2 ej2 hj2 ?_
    obtain ⟨hwt, hwf⟩ := hw
    refine z_ifeq F dL_law_627 634 rfl 630 rfl (fun c5 => ?_) (fun c5 => ?_)
    · have hw := hwt c5; clear hwt hwf
      refine z_iconst F dL_law_634 635 rfl zki_0 ?_
      refine z_segVi (As := [.int (xs j1), .int 0]) (st := [.int r4]) F dL_law_635 638 rfl (mX6_known C.1.2.1 D cyI cyB aO (xs j1) false oI oR hw) y_X6_known rfl gL_law_X6_known rfl (ci := 6) (rq := 0) rfl rfl (by decide +kernel) hkn (Nat.le_of_ble_eq_true rfl) (wSt aH aM aT aS kp cyI sI_2 sR_2 ++ wTe aT cyB tI tR ++ wHo aH cyI hI hR ++ wMi aH aM cyI mI_2 mR_2) K (by simp only [List.append_assoc, List.nil_append, List.append_nil]) (fun _ => rfl) (fun u => (wSt aH aM aT aS kp cyI sI_2 sR_2 ++ wTe aT cyB tI tR ++ wHo aH cyI hI hR ++ wMi aH aM cyI mI_2 mR_2 ++ wMo aO cyI u.1 u.2 ++ K)) (fun u => (by simp only [List.append_assoc, List.nil_append, List.append_nil])) (fun r5 u hp => ?_)
      obtain ⟨oI_3, oR_3⟩ := u
      replace hw := hp
      clear hp
      obtain ⟨hwt, hwf⟩ := hw
      refine z_icmpeq F dL_law_638 1102 rfl 641 rfl (fun c6 => ?_) (fun c6 => ?_)
      · have hw := hwt c6; clear hwt hwf
        exact hkont sI_2 sR_2 tI tR hI hR mI_2 mR_2 oI_3 oR_3 hw
      · have hw := hwf c6; clear hwt hwf
        refine z_iconst F dL_law_641 642 rfl zki_0 ?_
        exact hw.elim
    · have hw := hwf c5; clear hwt hwf
      refine z_iconst F dL_law_630 631 rfl zki_1 ?_
      refine z_goto F dL_law_631 635 rfl ?_
      refine z_segVi (As := [.int (xs j1), .int 1]) (st := [.int r4]) F dL_law_635 638 rfl (mX6_known C.1.2.1 D cyI cyB aO (xs j1) true oI oR hw) y_X6_known rfl gL_law_X6_known rfl (ci := 6) (rq := 0) rfl rfl (by decide +kernel) hkn (Nat.le_of_ble_eq_true rfl) (wSt aH aM aT aS kp cyI sI_2 sR_2 ++ wTe aT cyB tI tR ++ wHo aH cyI hI hR ++ wMi aH aM cyI mI_2 mR_2) K (by simp only [List.append_assoc, List.nil_append, List.append_nil]) (fun _ => rfl) (fun u => (wSt aH aM aT aS kp cyI sI_2 sR_2 ++ wTe aT cyB tI tR ++ wHo aH cyI hI hR ++ wMi aH aM cyI mI_2 mR_2 ++ wMo aO cyI u.1 u.2 ++ K)) (fun u => (by simp only [List.append_assoc, List.nil_append, List.append_nil])) (fun r6 u hp => ?_)
      obtain ⟨oI_4, oR_4⟩ := u
      replace hw := hp
      clear hp
      obtain ⟨hwt, hwf⟩ := hw
      refine z_icmpeq F dL_law_638 1102 rfl 641 rfl (fun c7 => ?_) (fun c7 => ?_)
      · have hw := hwt c7; clear hwt hwf
        exact hkont sI_2 sR_2 tI tR hI hR mI_2 mR_2 oI_4 oR_4 hw
      · have hw := hwf c7; clear hwt hwf
        refine z_iconst F dL_law_641 642 rfl zki_0 ?_
        exact hw.elim
set_option maxHeartbeats 4000000 in
set_option maxRecDepth 100000 in
theorem xL_13 {C : zC} {D : va_G} {cyI cyB : ClassId} {b L k n : Nat} {xs : Nat → Int32} {aS : Nat → Nat} {aT : Nat → Nat} {aH : Nat → Nat} {aM : Nat → Nat} {aO : Nat → Nat} {kp : Value} {K : va_W} (x3 : Int32) (sI : Nat → Int32) (sR : Nat → Nat → Int32) (tI : Nat → Int32) (tR : Nat → Nat → Int32) (hI : Nat → Int32) (hR : Nat → Nat → Int32) (mI : Nat → Int32) (mR : Nat → Nat → Int32) (oI : Nat → Int32) (oR : Nat → Nat → Int32) (F : zF C D room_1 cL_law 4 wsL_law RL ret cyI cyB) (hX : va_X b L xs C.2.1.1 C.2.1.1.heap ∧ b < C.2.1.1.heap.size ∧ ¬ C.2.2.2.2 b ∧ L ≤ 2048) (hkn : k ≤ room_1.cells ∧ n ≤ room_1.slots) {kont : (Nat → Int32) → (Nat → Nat → Int32) → (Nat → Int32) → (Nat → Nat → Int32) → (Nat → Int32) → (Nat → Nat → Int32) → (Nat → Int32) → (Nat → Nat → Int32) → (Nat → Int32) → (Nat → Nat → Int32) → Prop} (hkont : ∀ (sI : Nat → Int32) (sR : Nat → Nat → Int32) (tI : Nat → Int32) (tR : Nat → Nat → Int32) (hI : Nat → Int32) (hR : Nat → Nat → Int32) (mI : Nat → Int32) (mR : Nat → Nat → Int32) (oI : Nat → Int32) (oR : Nat → Nat → Int32), kont sI sR tI tR hI hR mI mR oI oR → zX C D 4 k n (wSt aH aM aT aS kp cyI sI sR ++ wTe aT cyB tI tR ++ wHo aH cyI hI hR ++ wMi aH aM cyI mI mR ++ wMo aO cyI oI oR ++ K) 1102 [(0, .ref b), (1, .ref (aS 0)), (2, .ref (aO 0)), (3, .int x3)] []) (hw : pL_13 L xs x3 sI sR tI tR hI hR mI mR oI oR kont) : zX C D 4 k n (wSt aH aM aT aS kp cyI sI sR ++ wTe aT cyB tI tR ++ wHo aH cyI hI hR ++ wMi aH aM cyI mI mR ++ wMo aO cyI oI oR ++ K) 643 [(0, .ref b), (1, .ref (aS 0)), (2, .ref (aO 0)), (3, .int x3)] [] := by
  refine z_aload_n F dL_law_643 644 rfl 1 rfl ?_
  refine z_aload_n F dL_law_644 645 rfl 0 rfl ?_
  refine z_iload_n F dL_law_645 646 rfl 3 rfl ?_
  refine z_iconst F dL_law_646 647 rfl zki_1 ?_
  refine z_iadd F dL_law_647 648 rfl ?_
  obtain ⟨j1, ej1, hj1, hw⟩ := hw
  refine z_sld F hX dL_law_648 649 rfl j1 ej1 hj1 ?_
  refine z_segVi (As := [.int (xs j1)]) (st := []) F dL_law_649 652 rfl (mX5_stays C.1.2.1 D cyI cyB aS aT aH aM kp (xs j1) sI sR tI tR hI hR mI mR hw) y_X5_stays rfl gL_law_X5_stays rfl (ci := 5) (rq := 0) rfl rfl (by decide +kernel) hkn (Nat.le_of_ble_eq_true rfl) [] (wMo aO cyI oI oR ++ K) (by simp only [List.append_assoc, List.nil_append, List.append_nil]) (fun _ => rfl) (fun u => (wSt aH aM aT aS kp cyI u.1 u.2.1 ++ wTe aT cyB tI tR ++ wHo aH cyI hI hR ++ wMi aH aM cyI u.2.2.1 u.2.2.2 ++ wMo aO cyI oI oR ++ K)) (fun u => (by simp only [List.append_assoc, List.nil_append, List.append_nil])) (fun r1 u hp => ?_)
  obtain ⟨sI_1, sR_1, mI_1, mR_1⟩ := u
  replace hw := hp
  clear hp
  refine z_aload_n F dL_law_652 653 rfl 2 rfl ?_
  refine z_aload_n F dL_law_653 654 rfl 0 rfl ?_
  refine z_iload_n F dL_law_654 655 rfl 3 rfl ?_
  refine z_iconst F dL_law_655 656 rfl zki_1 ?_
  refine z_iadd F dL_law_656 657 rfl ?_
  refine z_sld F hX dL_law_657 658 rfl j1 ej1 hj1 ?_
  refine z_segVi (As := [.int (xs j1)]) (st := [.int r1]) F dL_law_658 661 rfl (mX6_stays C.1.2.1 D cyI cyB aO (xs j1) oI oR hw) y_X6_stays rfl gL_law_X6_stays rfl (ci := 6) (rq := 0) rfl rfl (by decide +kernel) hkn (Nat.le_of_ble_eq_true rfl) (wSt aH aM aT aS kp cyI sI_1 sR_1 ++ wTe aT cyB tI tR ++ wHo aH cyI hI hR ++ wMi aH aM cyI mI_1 mR_1) K (by simp only [List.append_assoc, List.nil_append, List.append_nil]) (fun _ => rfl) (fun u => (wSt aH aM aT aS kp cyI sI_1 sR_1 ++ wTe aT cyB tI tR ++ wHo aH cyI hI hR ++ wMi aH aM cyI mI_1 mR_1 ++ wMo aO cyI u.1 u.2 ++ K)) (fun u => (by simp only [List.append_assoc, List.nil_append, List.append_nil])) (fun r2 u hp => ?_)
  obtain ⟨oI_1, oR_1⟩ := u
  replace hw := hp
  clear hp
  obtain ⟨hwt, hwf⟩ := hw
  refine z_icmpeq F dL_law_661 1102 rfl 664 rfl (fun c1 => ?_) (fun c1 => ?_)
  · have hw := hwt c1; clear hwt hwf
    exact hkont sI_1 sR_1 tI tR hI hR mI_1 mR_1 oI_1 oR_1 hw
  · have hw := hwf c1; clear hwt hwf
    refine z_iconst F dL_law_664 665 rfl zki_0 ?_
    exact hw.elim
set_option maxHeartbeats 4000000 in
set_option maxRecDepth 100000 in
theorem xL_14 {C : zC} {D : va_G} {cyI cyB : ClassId} {b L k n : Nat} {xs : Nat → Int32} {aS : Nat → Nat} {aT : Nat → Nat} {aH : Nat → Nat} {aM : Nat → Nat} {aO : Nat → Nat} {kp : Value} {K : va_W} (x3 : Int32) (sI : Nat → Int32) (sR : Nat → Nat → Int32) (tI : Nat → Int32) (tR : Nat → Nat → Int32) (hI : Nat → Int32) (hR : Nat → Nat → Int32) (mI : Nat → Int32) (mR : Nat → Nat → Int32) (oI : Nat → Int32) (oR : Nat → Nat → Int32) (F : zF C D room_1 cL_law 4 wsL_law RL ret cyI cyB) (hX : va_X b L xs C.2.1.1 C.2.1.1.heap ∧ b < C.2.1.1.heap.size ∧ ¬ C.2.2.2.2 b ∧ L ≤ 2048) (hkn : k ≤ room_1.cells ∧ n ≤ room_1.slots) {kont : (Nat → Int32) → (Nat → Nat → Int32) → (Nat → Int32) → (Nat → Nat → Int32) → (Nat → Int32) → (Nat → Nat → Int32) → (Nat → Int32) → (Nat → Nat → Int32) → (Nat → Int32) → (Nat → Nat → Int32) → Prop} (hkont : ∀ (sI : Nat → Int32) (sR : Nat → Nat → Int32) (tI : Nat → Int32) (tR : Nat → Nat → Int32) (hI : Nat → Int32) (hR : Nat → Nat → Int32) (mI : Nat → Int32) (mR : Nat → Nat → Int32) (oI : Nat → Int32) (oR : Nat → Nat → Int32), kont sI sR tI tR hI hR mI mR oI oR → zX C D 4 k n (wSt aH aM aT aS kp cyI sI sR ++ wTe aT cyB tI tR ++ wHo aH cyI hI hR ++ wMi aH aM cyI mI mR ++ wMo aO cyI oI oR ++ K) 1102 [(0, .ref b), (1, .ref (aS 0)), (2, .ref (aO 0)), (3, .int x3)] []) (hw : pL_14 L xs x3 sI sR tI tR hI hR mI mR oI oR kont) : zX C D 4 k n (wSt aH aM aT aS kp cyI sI sR ++ wTe aT cyB tI tR ++ wHo aH cyI hI hR ++ wMi aH aM cyI mI mR ++ wMo aO cyI oI oR ++ K) 666 [(0, .ref b), (1, .ref (aS 0)), (2, .ref (aO 0)), (3, .int x3)] [] := by
  refine z_aload_n F dL_law_666 667 rfl 1 rfl ?_
  refine z_aload_n F dL_law_667 668 rfl 0 rfl ?_
  refine z_iload_n F dL_law_668 669 rfl 3 rfl ?_
  refine z_iconst F dL_law_669 670 rfl zki_1 ?_
  refine z_iadd F dL_law_670 671 rfl ?_
  obtain ⟨j1, ej1, hj1, hw⟩ := hw
  refine z_sld F hX dL_law_671 672 rfl j1 ej1 hj1 ?_
  refine z_segVi (As := [.int (xs j1)]) (st := []) F dL_law_672 675 rfl (mX5_safe C.1.2.1 D cyI cyB aS aT aH aM kp (xs j1) sI sR tI tR hI hR mI mR hw) y_X5_safe rfl gL_law_X5_safe rfl (ci := 5) (rq := 0) rfl rfl (by decide +kernel) hkn (Nat.le_of_ble_eq_true rfl) [] (wMo aO cyI oI oR ++ K) (by simp only [List.append_assoc, List.nil_append, List.append_nil]) (fun _ => rfl) (fun u => (wSt aH aM aT aS kp cyI u.1 u.2.1 ++ wTe aT cyB tI tR ++ wHo aH cyI hI hR ++ wMi aH aM cyI u.2.2.1 u.2.2.2 ++ wMo aO cyI oI oR ++ K)) (fun u => (by simp only [List.append_assoc, List.nil_append, List.append_nil])) (fun r1 u hp => ?_)
  obtain ⟨sI_1, sR_1, mI_1, mR_1⟩ := u
  replace hw := hp
  clear hp
  refine z_aload_n F dL_law_675 676 rfl 2 rfl ?_
  refine z_aload_n F dL_law_676 677 rfl 0 rfl ?_
  refine z_iload_n F dL_law_677 678 rfl 3 rfl ?_
  refine z_iconst F dL_law_678 679 rfl zki_1 ?_
  refine z_iadd F dL_law_679 680 rfl ?_
  refine z_sld F hX dL_law_680 681 rfl j1 ej1 hj1 ?_
  refine z_segVi (As := [.int (xs j1)]) (st := [.int r1]) F dL_law_681 684 rfl (mX6_safe C.1.2.1 D cyI cyB aO (xs j1) oI oR hw) y_X6_safe rfl gL_law_X6_safe rfl (ci := 6) (rq := 0) rfl rfl (by decide +kernel) hkn (Nat.le_of_ble_eq_true rfl) (wSt aH aM aT aS kp cyI sI_1 sR_1 ++ wTe aT cyB tI tR ++ wHo aH cyI hI hR ++ wMi aH aM cyI mI_1 mR_1) K (by simp only [List.append_assoc, List.nil_append, List.append_nil]) (fun _ => rfl) (fun u => (wSt aH aM aT aS kp cyI sI_1 sR_1 ++ wTe aT cyB tI tR ++ wHo aH cyI hI hR ++ wMi aH aM cyI mI_1 mR_1 ++ wMo aO cyI u.1 u.2 ++ K)) (fun u => (by simp only [List.append_assoc, List.nil_append, List.append_nil])) (fun r2 u hp => ?_)
  obtain ⟨oI_1, oR_1⟩ := u
  replace hw := hp
  clear hp
  obtain ⟨hwt, hwf⟩ := hw
  refine z_icmpeq F dL_law_684 1102 rfl 687 rfl (fun c1 => ?_) (fun c1 => ?_)
  · have hw := hwt c1; clear hwt hwf
    exact hkont sI_1 sR_1 tI tR hI hR mI_1 mR_1 oI_1 oR_1 hw
  · have hw := hwf c1; clear hwt hwf
    refine z_iconst F dL_law_687 688 rfl zki_0 ?_
    exact hw.elim
set_option maxHeartbeats 4000000 in
set_option maxRecDepth 100000 in
theorem xL_15 {C : zC} {D : va_G} {cyI cyB : ClassId} {b L k n : Nat} {xs : Nat → Int32} {aS : Nat → Nat} {aT : Nat → Nat} {aH : Nat → Nat} {aM : Nat → Nat} {aO : Nat → Nat} {kp : Value} {K : va_W} (x3 : Int32) (sI : Nat → Int32) (sR : Nat → Nat → Int32) (tI : Nat → Int32) (tR : Nat → Nat → Int32) (hI : Nat → Int32) (hR : Nat → Nat → Int32) (mI : Nat → Int32) (mR : Nat → Nat → Int32) (oI : Nat → Int32) (oR : Nat → Nat → Int32) (F : zF C D room_1 cL_law 4 wsL_law RL ret cyI cyB) (hX : va_X b L xs C.2.1.1 C.2.1.1.heap ∧ b < C.2.1.1.heap.size ∧ ¬ C.2.2.2.2 b ∧ L ≤ 2048) (hkn : k ≤ room_1.cells ∧ n ≤ room_1.slots) {kont : (Nat → Int32) → (Nat → Nat → Int32) → (Nat → Int32) → (Nat → Nat → Int32) → (Nat → Int32) → (Nat → Nat → Int32) → (Nat → Int32) → (Nat → Nat → Int32) → (Nat → Int32) → (Nat → Nat → Int32) → Prop} (hkont : ∀ (sI : Nat → Int32) (sR : Nat → Nat → Int32) (tI : Nat → Int32) (tR : Nat → Nat → Int32) (hI : Nat → Int32) (hR : Nat → Nat → Int32) (mI : Nat → Int32) (mR : Nat → Nat → Int32) (oI : Nat → Int32) (oR : Nat → Nat → Int32), kont sI sR tI tR hI hR mI mR oI oR → zX C D 4 k n (wSt aH aM aT aS kp cyI sI sR ++ wTe aT cyB tI tR ++ wHo aH cyI hI hR ++ wMi aH aM cyI mI mR ++ wMo aO cyI oI oR ++ K) 1102 [(0, .ref b), (1, .ref (aS 0)), (2, .ref (aO 0)), (3, .int x3)] []) (hw : pL_15 L xs x3 sI sR tI tR hI hR mI mR oI oR kont) : zX C D 4 k n (wSt aH aM aT aS kp cyI sI sR ++ wTe aT cyB tI tR ++ wHo aH cyI hI hR ++ wMi aH aM cyI mI mR ++ wMo aO cyI oI oR ++ K) 689 [(0, .ref b), (1, .ref (aS 0)), (2, .ref (aO 0)), (3, .int x3)] [] := by
  refine z_aload_n F dL_law_689 690 rfl 1 rfl ?_
  refine z_segVi (As := []) (st := []) F dL_law_690 693 rfl (mX5_losers C.1.2.1 D cyI cyB aS aT aH aM kp sI sR tI tR hI hR mI mR hw) y_X5_losers rfl gL_law_X5_losers rfl (ci := 5) (rq := 0) rfl rfl (by decide +kernel) hkn (Nat.le_of_ble_eq_true rfl) [] (wMo aO cyI oI oR ++ K) (by simp only [List.append_assoc, List.nil_append, List.append_nil]) (fun _ => rfl) (fun u => (wSt aH aM aT aS kp cyI sI sR ++ wTe aT cyB tI tR ++ wHo aH cyI hI hR ++ wMi aH aM cyI u.1 u.2 ++ wMo aO cyI oI oR ++ K)) (fun u => (by simp only [List.append_assoc, List.nil_append, List.append_nil])) (fun r1 u hp => ?_)
  obtain ⟨mI_1, mR_1⟩ := u
  replace hw := hp
  clear hp
  refine z_aload_n F dL_law_693 694 rfl 2 rfl ?_
  refine z_segVi (As := []) (st := [.int r1]) F dL_law_694 697 rfl (mX6_losers C.1.2.1 D cyI cyB aO oI oR hw) y_X6_losers rfl gL_law_X6_losers rfl (ci := 6) (rq := 0) rfl rfl (by decide +kernel) hkn (Nat.le_of_ble_eq_true rfl) (wSt aH aM aT aS kp cyI sI sR ++ wTe aT cyB tI tR ++ wHo aH cyI hI hR ++ wMi aH aM cyI mI_1 mR_1) K (by simp only [List.append_assoc, List.nil_append, List.append_nil]) (fun _ => rfl) (fun u => (wSt aH aM aT aS kp cyI sI sR ++ wTe aT cyB tI tR ++ wHo aH cyI hI hR ++ wMi aH aM cyI mI_1 mR_1 ++ wMo aO cyI u.1 u.2 ++ K)) (fun u => (by simp only [List.append_assoc, List.nil_append, List.append_nil])) (fun r2 u hp => ?_)
  obtain ⟨oI_1, oR_1⟩ := u
  replace hw := hp
  clear hp
  obtain ⟨hwt, hwf⟩ := hw
  refine z_icmpeq F dL_law_697 1102 rfl 700 rfl (fun c1 => ?_) (fun c1 => ?_)
  · have hw := hwt c1; clear hwt hwf
    exact hkont sI sR tI tR hI hR mI_1 mR_1 oI_1 oR_1 hw
  · have hw := hwf c1; clear hwt hwf
    refine z_iconst F dL_law_700 701 rfl zki_0 ?_
    exact hw.elim
set_option maxHeartbeats 4000000 in
set_option maxRecDepth 100000 in
theorem xL_16 {C : zC} {D : va_G} {cyI cyB : ClassId} {b L k n : Nat} {xs : Nat → Int32} {aS : Nat → Nat} {aT : Nat → Nat} {aH : Nat → Nat} {aM : Nat → Nat} {aO : Nat → Nat} {kp : Value} {K : va_W} (x3 : Int32) (sI : Nat → Int32) (sR : Nat → Nat → Int32) (tI : Nat → Int32) (tR : Nat → Nat → Int32) (hI : Nat → Int32) (hR : Nat → Nat → Int32) (mI : Nat → Int32) (mR : Nat → Nat → Int32) (oI : Nat → Int32) (oR : Nat → Nat → Int32) (F : zF C D room_1 cL_law 4 wsL_law RL ret cyI cyB) (hX : va_X b L xs C.2.1.1 C.2.1.1.heap ∧ b < C.2.1.1.heap.size ∧ ¬ C.2.2.2.2 b ∧ L ≤ 2048) (hkn : k ≤ room_1.cells ∧ n ≤ room_1.slots) {kont : (Nat → Int32) → (Nat → Nat → Int32) → (Nat → Int32) → (Nat → Nat → Int32) → (Nat → Int32) → (Nat → Nat → Int32) → (Nat → Int32) → (Nat → Nat → Int32) → (Nat → Int32) → (Nat → Nat → Int32) → Prop} (hkont : ∀ (sI : Nat → Int32) (sR : Nat → Nat → Int32) (tI : Nat → Int32) (tR : Nat → Nat → Int32) (hI : Nat → Int32) (hR : Nat → Nat → Int32) (mI : Nat → Int32) (mR : Nat → Nat → Int32) (oI : Nat → Int32) (oR : Nat → Nat → Int32), kont sI sR tI tR hI hR mI mR oI oR → zX C D 4 k n (wSt aH aM aT aS kp cyI sI sR ++ wTe aT cyB tI tR ++ wHo aH cyI hI hR ++ wMi aH aM cyI mI mR ++ wMo aO cyI oI oR ++ K) 1102 [(0, .ref b), (1, .ref (aS 0)), (2, .ref (aO 0)), (3, .int x3)] []) (hw : pL_16 L xs x3 sI sR tI tR hI hR mI mR oI oR kont) : zX C D 4 k n (wSt aH aM aT aS kp cyI sI sR ++ wTe aT cyB tI tR ++ wHo aH cyI hI hR ++ wMi aH aM cyI mI mR ++ wMo aO cyI oI oR ++ K) 702 [(0, .ref b), (1, .ref (aS 0)), (2, .ref (aO 0)), (3, .int x3)] [] := by
  refine z_aload_n F dL_law_702 703 rfl 1 rfl ?_
  refine z_segVi (As := []) (st := []) F dL_law_703 706 rfl (mX5_carriers C.1.2.1 D cyI cyB aS aT aH aM kp sI sR tI tR hI hR mI mR hw) y_X5_carriers rfl gL_law_X5_carriers rfl (ci := 5) (rq := 0) rfl rfl (by decide +kernel) hkn (Nat.le_of_ble_eq_true rfl) [] (wMo aO cyI oI oR ++ K) (by simp only [List.append_assoc, List.nil_append, List.append_nil]) (fun _ => rfl) (fun u => (wSt aH aM aT aS kp cyI sI sR ++ wTe aT cyB tI tR ++ wHo aH cyI hI hR ++ wMi aH aM cyI u.1 u.2 ++ wMo aO cyI oI oR ++ K)) (fun u => (by simp only [List.append_assoc, List.nil_append, List.append_nil])) (fun r1 u hp => ?_)
  obtain ⟨mI_1, mR_1⟩ := u
  replace hw := hp
  clear hp
  refine z_aload_n F dL_law_706 707 rfl 2 rfl ?_
  refine z_segVi (As := []) (st := [.int r1]) F dL_law_707 710 rfl (mX6_carriers C.1.2.1 D cyI cyB aO oI oR hw) y_X6_carriers rfl gL_law_X6_carriers rfl (ci := 6) (rq := 0) rfl rfl (by decide +kernel) hkn (Nat.le_of_ble_eq_true rfl) (wSt aH aM aT aS kp cyI sI sR ++ wTe aT cyB tI tR ++ wHo aH cyI hI hR ++ wMi aH aM cyI mI_1 mR_1) K (by simp only [List.append_assoc, List.nil_append, List.append_nil]) (fun _ => rfl) (fun u => (wSt aH aM aT aS kp cyI sI sR ++ wTe aT cyB tI tR ++ wHo aH cyI hI hR ++ wMi aH aM cyI mI_1 mR_1 ++ wMo aO cyI u.1 u.2 ++ K)) (fun u => (by simp only [List.append_assoc, List.nil_append, List.append_nil])) (fun r2 u hp => ?_)
  obtain ⟨oI_1, oR_1⟩ := u
  replace hw := hp
  clear hp
  obtain ⟨hwt, hwf⟩ := hw
  refine z_icmpeq F dL_law_710 1102 rfl 713 rfl (fun c1 => ?_) (fun c1 => ?_)
  · have hw := hwt c1; clear hwt hwf
    exact hkont sI sR tI tR hI hR mI_1 mR_1 oI_1 oR_1 hw
  · have hw := hwf c1; clear hwt hwf
    refine z_iconst F dL_law_713 714 rfl zki_0 ?_
    exact hw.elim
