/-! calls whose callee's world is a stretch of the caller's -/
def z_rg : Nat → Nat → List Nat
  | _, 0 => []
  | a, n + 1 => a :: z_rg (a + 1) n
theorem z_rg_mem : ∀ (n a x : Nat), x ∈ z_rg a n → a ≤ x
  | 0, a, x, h => by simp [z_rg] at h
  | n + 1, a, x, h => by
    simp only [z_rg, List.mem_cons] at h
    rcases h with h | h
    · omega
    · have := z_rg_mem n (a + 1) x h; omega
theorem z_rg_nd : ∀ (n a : Nat), va_nd (z_rg a n) = true
  | 0, a => rfl
  | n + 1, a => by
    simp only [z_rg, va_nd, Bool.and_eq_true, decide_eq_true_eq]
    exact ⟨fun h => by have := z_rg_mem n (a + 1) a h; omega, z_rg_nd n (a + 1)⟩
theorem z_rg_map : ∀ (wc A B : va_W), (z_rg A.length wc.length).map (fun i => (A ++ (wc ++ B))[i]?) = wc.map some
  | [], A, B => rfl
  | c :: cs, A, B => by
    have h := z_rg_map cs (A ++ [c]) B
    simp only [List.length_append, List.length_cons, List.length_nil, Nat.zero_add, List.append_assoc, List.cons_append, List.nil_append] at h
    simp only [List.length_cons, z_rg, List.map_cons, List.cons_append]
    rw [h]
    congr 1
    rw [List.getElem?_append_right (Nat.le_refl _), Nat.sub_self]
    rfl
theorem z_rg_up : ∀ (wc A B w1 : va_W), w1.length = wc.length → zUp (A ++ (wc ++ B)) (z_rg A.length wc.length) w1 = A ++ (w1 ++ B)
  | [], A, B, [], _ => rfl
  | [], A, B, x :: xs, h => by simp at h
  | c :: cs, A, B, [], h => by simp at h
  | c :: cs, A, B, x :: xs, h => by
    have h1 := z_rg_up cs (A ++ [x]) B xs (by simpa using h)
    simp only [List.length_append, List.length_cons, List.length_nil, Nat.zero_add, List.append_assoc, List.cons_append, List.nil_append] at h1
    simp only [List.length_cons, z_rg, zUp, List.cons_append]
    rw [List.set_append_right _ _ (Nat.le_refl _), Nat.sub_self, List.set_cons_zero]
    exact h1
theorem z_rg_len {w1 wc : va_W} (h : w1.map (fun q => q.1) = wc.map (fun q => q.1)) : w1.length = wc.length := by
  have := congrArg List.length h
  simpa using this
section
variable {C : zC} {D : va_G} {R : Room} {cc : ByteArray} {nL k n : Nat} {Ts : List Cond} {own : String} {ret : Option FieldType} {cyI cyB : ClassId} {ws : va_W} {pc : Nat} {lv : List (Nat × Value)} {st : List Value}
theorem z_segVi (F : zF C D R cc nL Ts own ret cyI cyB) {index : Nat} {b : Addr} {Cn : String} {y : MethodName} {Tc : List Cond} {fr lo maxL na : Nat} {bytes : ByteArray} {rt : Option FieldType} {As : List Value} {wc : va_W} {S : Type} {wf : S → va_W} {post : Int32 → S → Prop} (d : decode cc pc = .ok (.invokevirtual index, 3)) (pc' : Nat) (e : pc + 3 = pc') (hM : zMi C.1.2.1 y Tc fr lo D cyI cyB (.ref b :: As) wc wf post) (hY : zY y Tc bytes maxL rt na) (hna : As.length = na) (hG : GoodIn Ts (wsV own index Cn y Tc)) (hCn : y.cls = Cn) {ci rq : Nat} {fs : List Value} (hrc : vwCl[ci]?.map (fun q => q.1) = some Cn) (hrq : wc[rq]? = some (b, .inr (ci, fs))) (hR : fr + 1 ≤ R.frames ∧ 8 + (maxL + 11) + lo ≤ R.locals) (hk : k ≤ R.cells ∧ n ≤ R.slots) (hst : (st.map fun v => v.category).sum ≤ 8) (A B : va_W) (hws : ws = A ++ (wc ++ B)) (ha : ∀ u : S, (wf u).map (fun q => q.1) = wc.map (fun q => q.1)) (ws' : S → va_W) (hw' : ∀ u : S, A ++ (wf u ++ B) = ws' u) (g : ∀ (r : Int32) (u : S), post r u → zX C D nL k n (ws' u) pc' lv (.int r :: st)) : zX C D nL k n ws pc lv (As.reverse ++ .ref b :: st) := by
  subst hws
  exact z_callVi F d pc' e hM hY hna hG hCn hrc hrq hR hk hst (z_rg A.length wc.length) (z_rg_nd _ _) (z_rg_map wc A B) ha ws' (fun u => (z_rg_up wc A B (wf u) (z_rg_len (ha u))).trans (hw' u)) g
theorem z_segSi (F : zF C D R cc nL Ts own ret cyI cyB) {index : Nat} {y : MethodName} {Tc : List Cond} {fr lo maxL na : Nat} {bytes : ByteArray} {rt : Option FieldType} {As : List Value} {wc : va_W} {S : Type} {wf : S → va_W} {post : Int32 → S → Prop} (d : decode cc pc = .ok (.invokestatic index, 3)) (pc' : Nat) (e : pc + 3 = pc') (hM : zMi C.1.2.1 y Tc fr lo D cyI cyB As wc wf post) (hY : zY y Tc bytes maxL rt na) (hna : As.length = na) (hG : GoodIn Ts (va_wsS own index y Tc)) (hR : fr + 1 ≤ R.frames ∧ 8 + (maxL + 11) + lo ≤ R.locals) (hk : k ≤ R.cells ∧ n ≤ R.slots) (hst : (st.map fun v => v.category).sum ≤ 8) (A B : va_W) (hws : ws = A ++ (wc ++ B)) (ha : ∀ u : S, (wf u).map (fun q => q.1) = wc.map (fun q => q.1)) (ws' : S → va_W) (hw' : ∀ u : S, A ++ (wf u ++ B) = ws' u) (g : ∀ (r : Int32) (u : S), post r u → zX C D nL k n (ws' u) pc' lv (.int r :: st)) : zX C D nL k n ws pc lv (As.reverse ++ st) := by
  subst hws
  exact z_callSi F d pc' e hM hY hna hG hR hk hst (z_rg A.length wc.length) (z_rg_nd _ _) (z_rg_map wc A B) ha ws' (fun u => (z_rg_up wc A B (wf u) (z_rg_len (ha u))).trans (hw' u)) g
theorem z_segVl (F : zF C D R cc nL Ts own ret cyI cyB) {index : Nat} {b : Addr} {Cn : String} {y : MethodName} {Tc : List Cond} {fr lo maxL na : Nat} {bytes : ByteArray} {rt : Option FieldType} {As : List Value} {wc : va_W} {S : Type} {wf : S → va_W} {post : Int64 → S → Prop} (d : decode cc pc = .ok (.invokevirtual index, 3)) (pc' : Nat) (e : pc + 3 = pc') (hM : zMl C.1.2.1 y Tc fr lo D cyI cyB (.ref b :: As) wc wf post) (hY : zY y Tc bytes maxL rt na) (hna : As.length = na) (hG : GoodIn Ts (wsV own index Cn y Tc)) (hCn : y.cls = Cn) {ci rq : Nat} {fs : List Value} (hrc : vwCl[ci]?.map (fun q => q.1) = some Cn) (hrq : wc[rq]? = some (b, .inr (ci, fs))) (hR : fr + 1 ≤ R.frames ∧ 8 + (maxL + 11) + lo ≤ R.locals) (hk : k ≤ R.cells ∧ n ≤ R.slots) (hst : (st.map fun v => v.category).sum ≤ 8) (A B : va_W) (hws : ws = A ++ (wc ++ B)) (ha : ∀ u : S, (wf u).map (fun q => q.1) = wc.map (fun q => q.1)) (ws' : S → va_W) (hw' : ∀ u : S, A ++ (wf u ++ B) = ws' u) (g : ∀ (r : Int64) (u : S), post r u → zX C D nL k n (ws' u) pc' lv (.long r :: st)) : zX C D nL k n ws pc lv (As.reverse ++ .ref b :: st) := by
  subst hws
  exact z_callVl F d pc' e hM hY hna hG hCn hrc hrq hR hk hst (z_rg A.length wc.length) (z_rg_nd _ _) (z_rg_map wc A B) ha ws' (fun u => (z_rg_up wc A B (wf u) (z_rg_len (ha u))).trans (hw' u)) g
theorem z_segSl (F : zF C D R cc nL Ts own ret cyI cyB) {index : Nat} {y : MethodName} {Tc : List Cond} {fr lo maxL na : Nat} {bytes : ByteArray} {rt : Option FieldType} {As : List Value} {wc : va_W} {S : Type} {wf : S → va_W} {post : Int64 → S → Prop} (d : decode cc pc = .ok (.invokestatic index, 3)) (pc' : Nat) (e : pc + 3 = pc') (hM : zMl C.1.2.1 y Tc fr lo D cyI cyB As wc wf post) (hY : zY y Tc bytes maxL rt na) (hna : As.length = na) (hG : GoodIn Ts (va_wsS own index y Tc)) (hR : fr + 1 ≤ R.frames ∧ 8 + (maxL + 11) + lo ≤ R.locals) (hk : k ≤ R.cells ∧ n ≤ R.slots) (hst : (st.map fun v => v.category).sum ≤ 8) (A B : va_W) (hws : ws = A ++ (wc ++ B)) (ha : ∀ u : S, (wf u).map (fun q => q.1) = wc.map (fun q => q.1)) (ws' : S → va_W) (hw' : ∀ u : S, A ++ (wf u ++ B) = ws' u) (g : ∀ (r : Int64) (u : S), post r u → zX C D nL k n (ws' u) pc' lv (.long r :: st)) : zX C D nL k n ws pc lv (As.reverse ++ st) := by
  subst hws
  exact z_callSl F d pc' e hM hY hna hG hR hk hst (z_rg A.length wc.length) (z_rg_nd _ _) (z_rg_map wc A B) ha ws' (fun u => (z_rg_up wc A B (wf u) (z_rg_len (ha u))).trans (hw' u)) g
theorem z_segVv (F : zF C D R cc nL Ts own ret cyI cyB) {index : Nat} {b : Addr} {Cn : String} {y : MethodName} {Tc : List Cond} {fr lo maxL na : Nat} {bytes : ByteArray} {rt : Option FieldType} {As : List Value} {wc : va_W} {S : Type} {wf : S → va_W} {post : S → Prop} (d : decode cc pc = .ok (.invokevirtual index, 3)) (pc' : Nat) (e : pc + 3 = pc') (hM : zMv C.1.2.1 y Tc fr lo D cyI cyB (.ref b :: As) wc wf post) (hY : zY y Tc bytes maxL rt na) (hna : As.length = na) (hG : GoodIn Ts (wsV own index Cn y Tc)) (hCn : y.cls = Cn) {ci rq : Nat} {fs : List Value} (hrc : vwCl[ci]?.map (fun q => q.1) = some Cn) (hrq : wc[rq]? = some (b, .inr (ci, fs))) (hR : fr + 1 ≤ R.frames ∧ 8 + (maxL + 11) + lo ≤ R.locals) (hk : k ≤ R.cells ∧ n ≤ R.slots) (hst : (st.map fun v => v.category).sum ≤ 8) (A B : va_W) (hws : ws = A ++ (wc ++ B)) (ha : ∀ u : S, (wf u).map (fun q => q.1) = wc.map (fun q => q.1)) (ws' : S → va_W) (hw' : ∀ u : S, A ++ (wf u ++ B) = ws' u) (g : ∀ u : S, post u → zX C D nL k n (ws' u) pc' lv st) : zX C D nL k n ws pc lv (As.reverse ++ .ref b :: st) := by
  subst hws
  exact z_callVv F d pc' e hM hY hna hG hCn hrc hrq hR hk hst (z_rg A.length wc.length) (z_rg_nd _ _) (z_rg_map wc A B) ha ws' (fun u => (z_rg_up wc A B (wf u) (z_rg_len (ha u))).trans (hw' u)) g
theorem z_segSv (F : zF C D R cc nL Ts own ret cyI cyB) {index : Nat} {y : MethodName} {Tc : List Cond} {fr lo maxL na : Nat} {bytes : ByteArray} {rt : Option FieldType} {As : List Value} {wc : va_W} {S : Type} {wf : S → va_W} {post : S → Prop} (d : decode cc pc = .ok (.invokestatic index, 3)) (pc' : Nat) (e : pc + 3 = pc') (hM : zMv C.1.2.1 y Tc fr lo D cyI cyB As wc wf post) (hY : zY y Tc bytes maxL rt na) (hna : As.length = na) (hG : GoodIn Ts (va_wsS own index y Tc)) (hR : fr + 1 ≤ R.frames ∧ 8 + (maxL + 11) + lo ≤ R.locals) (hk : k ≤ R.cells ∧ n ≤ R.slots) (hst : (st.map fun v => v.category).sum ≤ 8) (A B : va_W) (hws : ws = A ++ (wc ++ B)) (ha : ∀ u : S, (wf u).map (fun q => q.1) = wc.map (fun q => q.1)) (ws' : S → va_W) (hw' : ∀ u : S, A ++ (wf u ++ B) = ws' u) (g : ∀ u : S, post u → zX C D nL k n (ws' u) pc' lv st) : zX C D nL k n ws pc lv (As.reverse ++ st) := by
  subst hws
  exact z_callSv F d pc' e hM hY hna hG hR hk hst (z_rg A.length wc.length) (z_rg_nd _ _) (z_rg_map wc A B) ha ws' (fun u => (z_rg_up wc A B (wf u) (z_rg_len (ha u))).trans (hw' u)) g
end
