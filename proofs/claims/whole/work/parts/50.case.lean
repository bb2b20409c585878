/-! image, restore -/
theorem pk_1 {oI : Nat → Int32} {oR : Nat → Nat → Int32} {c : Nat} (h29 : ¬ oI 29 = 0) (h30 : oI 30 = nI c) (hc : c + 8 ≤ 120) {post : (Nat → Int32) → (Nat → Nat → Int32) → Prop} (h : ∀ f : Nat → Int32, (∀ i, i < c → f i = oR 27 i) → (∀ i, i < 8 → f (c + i) = oR 1 i) → post (va_up oI 30 (nI (c + 8))) (va_up oR 27 f)) : pX6_passes_1 oI oR post := by
  have key : ∀ d i (f : Nat → Int32), i + d = 8 → (∀ j, j < c → f j = oR 27 j) → (∀ j, j < i → f (c + j) = oR 1 j) → bX6_passes_1_2 post (d + 1) (nI i) (va_up oI 30 (nI (c + i))) (va_up oR 27 f) := by
    intro d
    induction d with
    | zero =>
      intro i f hi h1 h2
      have hi : i = 8 := by omega
      subst hi
      unfold bX6_passes_1_2
      exact pk_le 8 8 (fun _ => h f h1 h2) (fun c => absurd c (by omega))
    | succ d ih =>
      intro i f hi h1 h2
      unfold bX6_passes_1_2
      refine pk_le 8 i (fun c => absurd c (by omega)) (fun _ => ⟨fun q => absurd q h29, fun _ => ⟨i, rfl, by omega, nm_e ⟨c + i, va_at' _ _ _, by omega, ?_⟩⟩⟩)
      rw [va_at', nI_1, nI_1]
      refine nm_e (nm_e ?_)
      rw [bx_uu, bx_uu, va_at']
      refine ih (i + 1) _ (by omega) (fun j hj => ?_) (fun j hj => ?_)
      · rw [upd_ne (by omega)]; exact h1 j hj
      · by_cases e : j = i
        · subst e; exact upd_at
        · rw [upd_ne (by omega)]; exact h2 j (by omega)
  have := key 8 0 (oR 27) (by omega) (fun _ _ => rfl) (fun j hj => absurd hj (by omega))
  rw [va_eta] at this
  have z : bX6_passes_1_2 post (8 + 1) (nI 0) (va_up oI 30 (nI c)) oR := this
  rw [← h30, va_eta] at z
  exact ⟨_, z⟩
theorem pr_1 {oI : Nat → Int32} {oR : Nat → Nat → Int32} {c : Nat} (h29 : oI 29 = 0) (h30 : oI 30 = nI c) (hc : c + 8 ≤ 120) {post : (Nat → Int32) → (Nat → Nat → Int32) → Prop} (h : ∀ f : Nat → Int32, (∀ i, i < 8 → f i = oR 27 (c + i)) → post (va_up oI 30 (nI (c + 8))) (va_up oR 1 f)) : pX6_passes_1 oI oR post := by
  have key : ∀ d i (f : Nat → Int32), i + d = 8 → (∀ j, j < i → f j = oR 27 (c + j)) → bX6_passes_1_2 post (d + 1) (nI i) (va_up oI 30 (nI (c + i))) (va_up oR 1 f) := by
    intro d
    induction d with
    | zero =>
      intro i f hi h2
      have hi : i = 8 := by omega
      subst hi
      unfold bX6_passes_1_2
      exact pk_le 8 8 (fun _ => h f h2) (fun c => absurd c (by omega))
    | succ d ih =>
      intro i f hi h2
      unfold bX6_passes_1_2
      refine pk_le 8 i (fun c => absurd c (by omega)) (fun _ => ⟨fun _ => ⟨c + i, va_at' _ _ _, by omega, nm_e ⟨i, rfl, by omega, ?_⟩⟩, fun q => absurd h29 q⟩)
      rw [va_at', nI_1, nI_1]
      refine nm_e (nm_e ?_)
      rw [bx_uu, bx_uu, va_at']
      refine ih (i + 1) _ (by omega) (fun j hj => ?_)
      by_cases e : j = i
      · subst e; exact upd_at
      · rw [upd_ne e]; exact h2 j (by omega)
  have := key 8 0 (oR 1) (by omega) (fun j hj => absurd hj (by omega))
  rw [va_eta] at this
  have z : bX6_passes_1_2 post (8 + 1) (nI 0) (va_up oI 30 (nI c)) oR := this
  rw [← h30, va_eta] at z
  exact ⟨_, z⟩
theorem pk_2 {oI : Nat → Int32} {oR : Nat → Nat → Int32} {c : Nat} (h29 : ¬ oI 29 = 0) (h30 : oI 30 = nI c) (hc : c + 8 ≤ 120) {post : (Nat → Int32) → (Nat → Nat → Int32) → Prop} (h : ∀ f : Nat → Int32, (∀ i, i < c → f i = oR 27 i) → (∀ i, i < 8 → f (c + i) = oR 2 i) → post (va_up oI 30 (nI (c + 8))) (va_up oR 27 f)) : pX6_passes_2 oI oR post := by
  have key : ∀ d i (f : Nat → Int32), i + d = 8 → (∀ j, j < c → f j = oR 27 j) → (∀ j, j < i → f (c + j) = oR 2 j) → bX6_passes_2_2 post (d + 1) (nI i) (va_up oI 30 (nI (c + i))) (va_up oR 27 f) := by
    intro d
    induction d with
    | zero =>
      intro i f hi h1 h2
      have hi : i = 8 := by omega
      subst hi
      unfold bX6_passes_2_2
      exact pk_le 8 8 (fun _ => h f h1 h2) (fun c => absurd c (by omega))
    | succ d ih =>
      intro i f hi h1 h2
      unfold bX6_passes_2_2
      refine pk_le 8 i (fun c => absurd c (by omega)) (fun _ => ⟨fun q => absurd q h29, fun _ => ⟨i, rfl, by omega, nm_e ⟨c + i, va_at' _ _ _, by omega, ?_⟩⟩⟩)
      rw [va_at', nI_1, nI_1]
      refine nm_e (nm_e ?_)
      rw [bx_uu, bx_uu, va_at']
      refine ih (i + 1) _ (by omega) (fun j hj => ?_) (fun j hj => ?_)
      · rw [upd_ne (by omega)]; exact h1 j hj
      · by_cases e : j = i
        · subst e; exact upd_at
        · rw [upd_ne (by omega)]; exact h2 j (by omega)
  have := key 8 0 (oR 27) (by omega) (fun _ _ => rfl) (fun j hj => absurd hj (by omega))
  rw [va_eta] at this
  have z : bX6_passes_2_2 post (8 + 1) (nI 0) (va_up oI 30 (nI c)) oR := this
  rw [← h30, va_eta] at z
  exact ⟨_, z⟩
theorem pr_2 {oI : Nat → Int32} {oR : Nat → Nat → Int32} {c : Nat} (h29 : oI 29 = 0) (h30 : oI 30 = nI c) (hc : c + 8 ≤ 120) {post : (Nat → Int32) → (Nat → Nat → Int32) → Prop} (h : ∀ f : Nat → Int32, (∀ i, i < 8 → f i = oR 27 (c + i)) → post (va_up oI 30 (nI (c + 8))) (va_up oR 2 f)) : pX6_passes_2 oI oR post := by
  have key : ∀ d i (f : Nat → Int32), i + d = 8 → (∀ j, j < i → f j = oR 27 (c + j)) → bX6_passes_2_2 post (d + 1) (nI i) (va_up oI 30 (nI (c + i))) (va_up oR 2 f) := by
    intro d
    induction d with
    | zero =>
      intro i f hi h2
      have hi : i = 8 := by omega
      subst hi
      unfold bX6_passes_2_2
      exact pk_le 8 8 (fun _ => h f h2) (fun c => absurd c (by omega))
    | succ d ih =>
      intro i f hi h2
      unfold bX6_passes_2_2
      refine pk_le 8 i (fun c => absurd c (by omega)) (fun _ => ⟨fun _ => ⟨c + i, va_at' _ _ _, by omega, nm_e ⟨i, rfl, by omega, ?_⟩⟩, fun q => absurd h29 q⟩)
      rw [va_at', nI_1, nI_1]
      refine nm_e (nm_e ?_)
      rw [bx_uu, bx_uu, va_at']
      refine ih (i + 1) _ (by omega) (fun j hj => ?_)
      by_cases e : j = i
      · subst e; exact upd_at
      · rw [upd_ne e]; exact h2 j (by omega)
  have := key 8 0 (oR 2) (by omega) (fun j hj => absurd hj (by omega))
  rw [va_eta] at this
  have z : bX6_passes_2_2 post (8 + 1) (nI 0) (va_up oI 30 (nI c)) oR := this
  rw [← h30, va_eta] at z
  exact ⟨_, z⟩
theorem pk_3 {oI : Nat → Int32} {oR : Nat → Nat → Int32} {c : Nat} (h29 : ¬ oI 29 = 0) (h30 : oI 30 = nI c) (hc : c + 8 ≤ 120) {post : (Nat → Int32) → (Nat → Nat → Int32) → Prop} (h : ∀ f : Nat → Int32, (∀ i, i < c → f i = oR 27 i) → (∀ i, i < 8 → f (c + i) = oR 3 i) → post (va_up oI 30 (nI (c + 8))) (va_up oR 27 f)) : pX6_passes_3 oI oR post := by
  have key : ∀ d i (f : Nat → Int32), i + d = 8 → (∀ j, j < c → f j = oR 27 j) → (∀ j, j < i → f (c + j) = oR 3 j) → bX6_passes_3_2 post (d + 1) (nI i) (va_up oI 30 (nI (c + i))) (va_up oR 27 f) := by
    intro d
    induction d with
    | zero =>
      intro i f hi h1 h2
      have hi : i = 8 := by omega
      subst hi
      unfold bX6_passes_3_2
      exact pk_le 8 8 (fun _ => h f h1 h2) (fun c => absurd c (by omega))
    | succ d ih =>
      intro i f hi h1 h2
      unfold bX6_passes_3_2
      refine pk_le 8 i (fun c => absurd c (by omega)) (fun _ => ⟨fun q => absurd q h29, fun _ => ⟨i, rfl, by omega, nm_e ⟨c + i, va_at' _ _ _, by omega, ?_⟩⟩⟩)
      rw [va_at', nI_1, nI_1]
      refine nm_e (nm_e ?_)
      rw [bx_uu, bx_uu, va_at']
      refine ih (i + 1) _ (by omega) (fun j hj => ?_) (fun j hj => ?_)
      · rw [upd_ne (by omega)]; exact h1 j hj
      · by_cases e : j = i
        · subst e; exact upd_at
        · rw [upd_ne (by omega)]; exact h2 j (by omega)
  have := key 8 0 (oR 27) (by omega) (fun _ _ => rfl) (fun j hj => absurd hj (by omega))
  rw [va_eta] at this
  have z : bX6_passes_3_2 post (8 + 1) (nI 0) (va_up oI 30 (nI c)) oR := this
  rw [← h30, va_eta] at z
  exact ⟨_, z⟩
theorem pr_3 {oI : Nat → Int32} {oR : Nat → Nat → Int32} {c : Nat} (h29 : oI 29 = 0) (h30 : oI 30 = nI c) (hc : c + 8 ≤ 120) {post : (Nat → Int32) → (Nat → Nat → Int32) → Prop} (h : ∀ f : Nat → Int32, (∀ i, i < 8 → f i = oR 27 (c + i)) → post (va_up oI 30 (nI (c + 8))) (va_up oR 3 f)) : pX6_passes_3 oI oR post := by
  have key : ∀ d i (f : Nat → Int32), i + d = 8 → (∀ j, j < i → f j = oR 27 (c + j)) → bX6_passes_3_2 post (d + 1) (nI i) (va_up oI 30 (nI (c + i))) (va_up oR 3 f) := by
    intro d
    induction d with
    | zero =>
      intro i f hi h2
      have hi : i = 8 := by omega
      subst hi
      unfold bX6_passes_3_2
      exact pk_le 8 8 (fun _ => h f h2) (fun c => absurd c (by omega))
    | succ d ih =>
      intro i f hi h2
      unfold bX6_passes_3_2
      refine pk_le 8 i (fun c => absurd c (by omega)) (fun _ => ⟨fun _ => ⟨c + i, va_at' _ _ _, by omega, nm_e ⟨i, rfl, by omega, ?_⟩⟩, fun q => absurd h29 q⟩)
      rw [va_at', nI_1, nI_1]
      refine nm_e (nm_e ?_)
      rw [bx_uu, bx_uu, va_at']
      refine ih (i + 1) _ (by omega) (fun j hj => ?_)
      by_cases e : j = i
      · subst e; exact upd_at
      · rw [upd_ne e]; exact h2 j (by omega)
  have := key 8 0 (oR 3) (by omega) (fun j hj => absurd hj (by omega))
  rw [va_eta] at this
  have z : bX6_passes_3_2 post (8 + 1) (nI 0) (va_up oI 30 (nI c)) oR := this
  rw [← h30, va_eta] at z
  exact ⟨_, z⟩
theorem pk_4 {oI : Nat → Int32} {oR : Nat → Nat → Int32} {c : Nat} (h29 : ¬ oI 29 = 0) (h30 : oI 30 = nI c) (hc : c + 12 ≤ 120) {post : (Nat → Int32) → (Nat → Nat → Int32) → Prop} (h : ∀ f : Nat → Int32, (∀ i, i < c → f i = oR 27 i) → (∀ i, i < 12 → f (c + i) = oR 4 i) → post (va_up oI 30 (nI (c + 12))) (va_up oR 27 f)) : pX6_passes_4 oI oR post := by
  have key : ∀ d i (f : Nat → Int32), i + d = 12 → (∀ j, j < c → f j = oR 27 j) → (∀ j, j < i → f (c + j) = oR 4 j) → bX6_passes_4_2 post (d + 1) (nI i) (va_up oI 30 (nI (c + i))) (va_up oR 27 f) := by
    intro d
    induction d with
    | zero =>
      intro i f hi h1 h2
      have hi : i = 12 := by omega
      subst hi
      unfold bX6_passes_4_2
      exact pk_le 12 12 (fun _ => h f h1 h2) (fun c => absurd c (by omega))
    | succ d ih =>
      intro i f hi h1 h2
      unfold bX6_passes_4_2
      refine pk_le 12 i (fun c => absurd c (by omega)) (fun _ => ⟨fun q => absurd q h29, fun _ => ⟨i, rfl, by omega, nm_e ⟨c + i, va_at' _ _ _, by omega, ?_⟩⟩⟩)
      rw [va_at', nI_1, nI_1]
      refine nm_e (nm_e ?_)
      rw [bx_uu, bx_uu, va_at']
      refine ih (i + 1) _ (by omega) (fun j hj => ?_) (fun j hj => ?_)
      · rw [upd_ne (by omega)]; exact h1 j hj
      · by_cases e : j = i
        · subst e; exact upd_at
        · rw [upd_ne (by omega)]; exact h2 j (by omega)
  have := key 12 0 (oR 27) (by omega) (fun _ _ => rfl) (fun j hj => absurd hj (by omega))
  rw [va_eta] at this
  have z : bX6_passes_4_2 post (12 + 1) (nI 0) (va_up oI 30 (nI c)) oR := this
  rw [← h30, va_eta] at z
  exact ⟨_, z⟩
theorem pr_4 {oI : Nat → Int32} {oR : Nat → Nat → Int32} {c : Nat} (h29 : oI 29 = 0) (h30 : oI 30 = nI c) (hc : c + 12 ≤ 120) {post : (Nat → Int32) → (Nat → Nat → Int32) → Prop} (h : ∀ f : Nat → Int32, (∀ i, i < 12 → f i = oR 27 (c + i)) → post (va_up oI 30 (nI (c + 12))) (va_up oR 4 f)) : pX6_passes_4 oI oR post := by
  have key : ∀ d i (f : Nat → Int32), i + d = 12 → (∀ j, j < i → f j = oR 27 (c + j)) → bX6_passes_4_2 post (d + 1) (nI i) (va_up oI 30 (nI (c + i))) (va_up oR 4 f) := by
    intro d
    induction d with
    | zero =>
      intro i f hi h2
      have hi : i = 12 := by omega
      subst hi
      unfold bX6_passes_4_2
      exact pk_le 12 12 (fun _ => h f h2) (fun c => absurd c (by omega))
    | succ d ih =>
      intro i f hi h2
      unfold bX6_passes_4_2
      refine pk_le 12 i (fun c => absurd c (by omega)) (fun _ => ⟨fun _ => ⟨c + i, va_at' _ _ _, by omega, nm_e ⟨i, rfl, by omega, ?_⟩⟩, fun q => absurd h29 q⟩)
      rw [va_at', nI_1, nI_1]
      refine nm_e (nm_e ?_)
      rw [bx_uu, bx_uu, va_at']
      refine ih (i + 1) _ (by omega) (fun j hj => ?_)
      by_cases e : j = i
      · subst e; exact upd_at
      · rw [upd_ne e]; exact h2 j (by omega)
  have := key 12 0 (oR 4) (by omega) (fun j hj => absurd hj (by omega))
  rw [va_eta] at this
  have z : bX6_passes_4_2 post (12 + 1) (nI 0) (va_up oI 30 (nI c)) oR := this
  rw [← h30, va_eta] at z
  exact ⟨_, z⟩
theorem pk_5 {oI : Nat → Int32} {oR : Nat → Nat → Int32} {c : Nat} (h29 : ¬ oI 29 = 0) (h30 : oI 30 = nI c) (hc : c + 12 ≤ 120) {post : (Nat → Int32) → (Nat → Nat → Int32) → Prop} (h : ∀ f : Nat → Int32, (∀ i, i < c → f i = oR 27 i) → (∀ i, i < 12 → f (c + i) = oR 5 i) → post (va_up oI 30 (nI (c + 12))) (va_up oR 27 f)) : pX6_passes_5 oI oR post := by
  have key : ∀ d i (f : Nat → Int32), i + d = 12 → (∀ j, j < c → f j = oR 27 j) → (∀ j, j < i → f (c + j) = oR 5 j) → bX6_passes_5_2 post (d + 1) (nI i) (va_up oI 30 (nI (c + i))) (va_up oR 27 f) := by
    intro d
    induction d with
    | zero =>
      intro i f hi h1 h2
      have hi : i = 12 := by omega
      subst hi
      unfold bX6_passes_5_2
      exact pk_le 12 12 (fun _ => h f h1 h2) (fun c => absurd c (by omega))
    | succ d ih =>
      intro i f hi h1 h2
      unfold bX6_passes_5_2
      refine pk_le 12 i (fun c => absurd c (by omega)) (fun _ => ⟨fun q => absurd q h29, fun _ => ⟨i, rfl, by omega, nm_e ⟨c + i, va_at' _ _ _, by omega, ?_⟩⟩⟩)
      rw [va_at', nI_1, nI_1]
      refine nm_e (nm_e ?_)
      rw [bx_uu, bx_uu, va_at']
      refine ih (i + 1) _ (by omega) (fun j hj => ?_) (fun j hj => ?_)
      · rw [upd_ne (by omega)]; exact h1 j hj
      · by_cases e : j = i
        · subst e; exact upd_at
        · rw [upd_ne (by omega)]; exact h2 j (by omega)
  have := key 12 0 (oR 27) (by omega) (fun _ _ => rfl) (fun j hj => absurd hj (by omega))
  rw [va_eta] at this
  have z : bX6_passes_5_2 post (12 + 1) (nI 0) (va_up oI 30 (nI c)) oR := this
  rw [← h30, va_eta] at z
  exact ⟨_, z⟩
theorem pr_5 {oI : Nat → Int32} {oR : Nat → Nat → Int32} {c : Nat} (h29 : oI 29 = 0) (h30 : oI 30 = nI c) (hc : c + 12 ≤ 120) {post : (Nat → Int32) → (Nat → Nat → Int32) → Prop} (h : ∀ f : Nat → Int32, (∀ i, i < 12 → f i = oR 27 (c + i)) → post (va_up oI 30 (nI (c + 12))) (va_up oR 5 f)) : pX6_passes_5 oI oR post := by
  have key : ∀ d i (f : Nat → Int32), i + d = 12 → (∀ j, j < i → f j = oR 27 (c + j)) → bX6_passes_5_2 post (d + 1) (nI i) (va_up oI 30 (nI (c + i))) (va_up oR 5 f) := by
    intro d
    induction d with
    | zero =>
      intro i f hi h2
      have hi : i = 12 := by omega
      subst hi
      unfold bX6_passes_5_2
      exact pk_le 12 12 (fun _ => h f h2) (fun c => absurd c (by omega))
    | succ d ih =>
      intro i f hi h2
      unfold bX6_passes_5_2
      refine pk_le 12 i (fun c => absurd c (by omega)) (fun _ => ⟨fun _ => ⟨c + i, va_at' _ _ _, by omega, nm_e ⟨i, rfl, by omega, ?_⟩⟩, fun q => absurd h29 q⟩)
      rw [va_at', nI_1, nI_1]
      refine nm_e (nm_e ?_)
      rw [bx_uu, bx_uu, va_at']
      refine ih (i + 1) _ (by omega) (fun j hj => ?_)
      by_cases e : j = i
      · subst e; exact upd_at
      · rw [upd_ne e]; exact h2 j (by omega)
  have := key 12 0 (oR 5) (by omega) (fun j hj => absurd hj (by omega))
  rw [va_eta] at this
  have z : bX6_passes_5_2 post (12 + 1) (nI 0) (va_up oI 30 (nI c)) oR := this
  rw [← h30, va_eta] at z
  exact ⟨_, z⟩
theorem pk_6 {oI : Nat → Int32} {oR : Nat → Nat → Int32} {c : Nat} (h29 : ¬ oI 29 = 0) (h30 : oI 30 = nI c) (hc : c + 12 ≤ 120) {post : (Nat → Int32) → (Nat → Nat → Int32) → Prop} (h : ∀ f : Nat → Int32, (∀ i, i < c → f i = oR 27 i) → (∀ i, i < 12 → f (c + i) = oR 6 i) → post (va_up oI 30 (nI (c + 12))) (va_up oR 27 f)) : pX6_passes_6 oI oR post := by
  have key : ∀ d i (f : Nat → Int32), i + d = 12 → (∀ j, j < c → f j = oR 27 j) → (∀ j, j < i → f (c + j) = oR 6 j) → bX6_passes_6_2 post (d + 1) (nI i) (va_up oI 30 (nI (c + i))) (va_up oR 27 f) := by
    intro d
    induction d with
    | zero =>
      intro i f hi h1 h2
      have hi : i = 12 := by omega
      subst hi
      unfold bX6_passes_6_2
      exact pk_le 12 12 (fun _ => h f h1 h2) (fun c => absurd c (by omega))
    | succ d ih =>
      intro i f hi h1 h2
      unfold bX6_passes_6_2
      refine pk_le 12 i (fun c => absurd c (by omega)) (fun _ => ⟨fun q => absurd q h29, fun _ => ⟨i, rfl, by omega, nm_e ⟨c + i, va_at' _ _ _, by omega, ?_⟩⟩⟩)
      rw [va_at', nI_1, nI_1]
      refine nm_e (nm_e ?_)
      rw [bx_uu, bx_uu, va_at']
      refine ih (i + 1) _ (by omega) (fun j hj => ?_) (fun j hj => ?_)
      · rw [upd_ne (by omega)]; exact h1 j hj
      · by_cases e : j = i
        · subst e; exact upd_at
        · rw [upd_ne (by omega)]; exact h2 j (by omega)
  have := key 12 0 (oR 27) (by omega) (fun _ _ => rfl) (fun j hj => absurd hj (by omega))
  rw [va_eta] at this
  have z : bX6_passes_6_2 post (12 + 1) (nI 0) (va_up oI 30 (nI c)) oR := this
  rw [← h30, va_eta] at z
  exact ⟨_, z⟩
theorem pr_6 {oI : Nat → Int32} {oR : Nat → Nat → Int32} {c : Nat} (h29 : oI 29 = 0) (h30 : oI 30 = nI c) (hc : c + 12 ≤ 120) {post : (Nat → Int32) → (Nat → Nat → Int32) → Prop} (h : ∀ f : Nat → Int32, (∀ i, i < 12 → f i = oR 27 (c + i)) → post (va_up oI 30 (nI (c + 12))) (va_up oR 6 f)) : pX6_passes_6 oI oR post := by
  have key : ∀ d i (f : Nat → Int32), i + d = 12 → (∀ j, j < i → f j = oR 27 (c + j)) → bX6_passes_6_2 post (d + 1) (nI i) (va_up oI 30 (nI (c + i))) (va_up oR 6 f) := by
    intro d
    induction d with
    | zero =>
      intro i f hi h2
      have hi : i = 12 := by omega
      subst hi
      unfold bX6_passes_6_2
      exact pk_le 12 12 (fun _ => h f h2) (fun c => absurd c (by omega))
    | succ d ih =>
      intro i f hi h2
      unfold bX6_passes_6_2
      refine pk_le 12 i (fun c => absurd c (by omega)) (fun _ => ⟨fun _ => ⟨c + i, va_at' _ _ _, by omega, nm_e ⟨i, rfl, by omega, ?_⟩⟩, fun q => absurd h29 q⟩)
      rw [va_at', nI_1, nI_1]
      refine nm_e (nm_e ?_)
      rw [bx_uu, bx_uu, va_at']
      refine ih (i + 1) _ (by omega) (fun j hj => ?_)
      by_cases e : j = i
      · subst e; exact upd_at
      · rw [upd_ne e]; exact h2 j (by omega)
  have := key 12 0 (oR 6) (by omega) (fun j hj => absurd hj (by omega))
  rw [va_eta] at this
  have z : bX6_passes_6_2 post (12 + 1) (nI 0) (va_up oI 30 (nI c)) oR := this
  rw [← h30, va_eta] at z
  exact ⟨_, z⟩
theorem pk_7 {oI : Nat → Int32} {oR : Nat → Nat → Int32} {c : Nat} (h29 : ¬ oI 29 = 0) (h30 : oI 30 = nI c) (hc : c + 12 ≤ 120) {post : (Nat → Int32) → (Nat → Nat → Int32) → Prop} (h : ∀ f : Nat → Int32, (∀ i, i < c → f i = oR 27 i) → (∀ i, i < 12 → f (c + i) = oR 7 i) → post (va_up oI 30 (nI (c + 12))) (va_up oR 27 f)) : pX6_passes_7 oI oR post := by
  have key : ∀ d i (f : Nat → Int32), i + d = 12 → (∀ j, j < c → f j = oR 27 j) → (∀ j, j < i → f (c + j) = oR 7 j) → bX6_passes_7_2 post (d + 1) (nI i) (va_up oI 30 (nI (c + i))) (va_up oR 27 f) := by
    intro d
    induction d with
    | zero =>
      intro i f hi h1 h2
      have hi : i = 12 := by omega
      subst hi
      unfold bX6_passes_7_2
      exact pk_le 12 12 (fun _ => h f h1 h2) (fun c => absurd c (by omega))
    | succ d ih =>
      intro i f hi h1 h2
      unfold bX6_passes_7_2
      refine pk_le 12 i (fun c => absurd c (by omega)) (fun _ => ⟨fun q => absurd q h29, fun _ => ⟨i, rfl, by omega, nm_e ⟨c + i, va_at' _ _ _, by omega, ?_⟩⟩⟩)
      rw [va_at', nI_1, nI_1]
      refine nm_e (nm_e ?_)
      rw [bx_uu, bx_uu, va_at']
      refine ih (i + 1) _ (by omega) (fun j hj => ?_) (fun j hj => ?_)
      · rw [upd_ne (by omega)]; exact h1 j hj
      · by_cases e : j = i
        · subst e; exact upd_at
        · rw [upd_ne (by omega)]; exact h2 j (by omega)
  have := key 12 0 (oR 27) (by omega) (fun _ _ => rfl) (fun j hj => absurd hj (by omega))
  rw [va_eta] at this
  have z : bX6_passes_7_2 post (12 + 1) (nI 0) (va_up oI 30 (nI c)) oR := this
  rw [← h30, va_eta] at z
  exact ⟨_, z⟩
theorem pr_7 {oI : Nat → Int32} {oR : Nat → Nat → Int32} {c : Nat} (h29 : oI 29 = 0) (h30 : oI 30 = nI c) (hc : c + 12 ≤ 120) {post : (Nat → Int32) → (Nat → Nat → Int32) → Prop} (h : ∀ f : Nat → Int32, (∀ i, i < 12 → f i = oR 27 (c + i)) → post (va_up oI 30 (nI (c + 12))) (va_up oR 7 f)) : pX6_passes_7 oI oR post := by
  have key : ∀ d i (f : Nat → Int32), i + d = 12 → (∀ j, j < i → f j = oR 27 (c + j)) → bX6_passes_7_2 post (d + 1) (nI i) (va_up oI 30 (nI (c + i))) (va_up oR 7 f) := by
    intro d
    induction d with
    | zero =>
      intro i f hi h2
      have hi : i = 12 := by omega
      subst hi
      unfold bX6_passes_7_2
      exact pk_le 12 12 (fun _ => h f h2) (fun c => absurd c (by omega))
    | succ d ih =>
      intro i f hi h2
      unfold bX6_passes_7_2
      refine pk_le 12 i (fun c => absurd c (by omega)) (fun _ => ⟨fun _ => ⟨c + i, va_at' _ _ _, by omega, nm_e ⟨i, rfl, by omega, ?_⟩⟩, fun q => absurd h29 q⟩)
      rw [va_at', nI_1, nI_1]
      refine nm_e (nm_e ?_)
      rw [bx_uu, bx_uu, va_at']
      refine ih (i + 1) _ (by omega) (fun j hj => ?_)
      by_cases e : j = i
      · subst e; exact upd_at
      · rw [upd_ne e]; exact h2 j (by omega)
  have := key 12 0 (oR 7) (by omega) (fun j hj => absurd hj (by omega))
  rw [va_eta] at this
  have z : bX6_passes_7_2 post (12 + 1) (nI 0) (va_up oI 30 (nI c)) oR := this
  rw [← h30, va_eta] at z
  exact ⟨_, z⟩
theorem pk_8 {oI : Nat → Int32} {oR : Nat → Nat → Int32} {c : Nat} (h29 : ¬ oI 29 = 0) (h30 : oI 30 = nI c) (hc : c + 12 ≤ 120) {post : (Nat → Int32) → (Nat → Nat → Int32) → Prop} (h : ∀ f : Nat → Int32, (∀ i, i < c → f i = oR 27 i) → (∀ i, i < 12 → f (c + i) = oR 8 i) → post (va_up oI 30 (nI (c + 12))) (va_up oR 27 f)) : pX6_passes_8 oI oR post := by
  have key : ∀ d i (f : Nat → Int32), i + d = 12 → (∀ j, j < c → f j = oR 27 j) → (∀ j, j < i → f (c + j) = oR 8 j) → bX6_passes_8_2 post (d + 1) (nI i) (va_up oI 30 (nI (c + i))) (va_up oR 27 f) := by
    intro d
    induction d with
    | zero =>
      intro i f hi h1 h2
      have hi : i = 12 := by omega
      subst hi
      unfold bX6_passes_8_2
      exact pk_le 12 12 (fun _ => h f h1 h2) (fun c => absurd c (by omega))
    | succ d ih =>
      intro i f hi h1 h2
      unfold bX6_passes_8_2
      refine pk_le 12 i (fun c => absurd c (by omega)) (fun _ => ⟨fun q => absurd q h29, fun _ => ⟨i, rfl, by omega, nm_e ⟨c + i, va_at' _ _ _, by omega, ?_⟩⟩⟩)
      rw [va_at', nI_1, nI_1]
      refine nm_e (nm_e ?_)
      rw [bx_uu, bx_uu, va_at']
      refine ih (i + 1) _ (by omega) (fun j hj => ?_) (fun j hj => ?_)
      · rw [upd_ne (by omega)]; exact h1 j hj
      · by_cases e : j = i
        · subst e; exact upd_at
        · rw [upd_ne (by omega)]; exact h2 j (by omega)
  have := key 12 0 (oR 27) (by omega) (fun _ _ => rfl) (fun j hj => absurd hj (by omega))
  rw [va_eta] at this
  have z : bX6_passes_8_2 post (12 + 1) (nI 0) (va_up oI 30 (nI c)) oR := this
  rw [← h30, va_eta] at z
  exact ⟨_, z⟩
theorem pr_8 {oI : Nat → Int32} {oR : Nat → Nat → Int32} {c : Nat} (h29 : oI 29 = 0) (h30 : oI 30 = nI c) (hc : c + 12 ≤ 120) {post : (Nat → Int32) → (Nat → Nat → Int32) → Prop} (h : ∀ f : Nat → Int32, (∀ i, i < 12 → f i = oR 27 (c + i)) → post (va_up oI 30 (nI (c + 12))) (va_up oR 8 f)) : pX6_passes_8 oI oR post := by
  have key : ∀ d i (f : Nat → Int32), i + d = 12 → (∀ j, j < i → f j = oR 27 (c + j)) → bX6_passes_8_2 post (d + 1) (nI i) (va_up oI 30 (nI (c + i))) (va_up oR 8 f) := by
    intro d
    induction d with
    | zero =>
      intro i f hi h2
      have hi : i = 12 := by omega
      subst hi
      unfold bX6_passes_8_2
      exact pk_le 12 12 (fun _ => h f h2) (fun c => absurd c (by omega))
    | succ d ih =>
      intro i f hi h2
      unfold bX6_passes_8_2
      refine pk_le 12 i (fun c => absurd c (by omega)) (fun _ => ⟨fun _ => ⟨c + i, va_at' _ _ _, by omega, nm_e ⟨i, rfl, by omega, ?_⟩⟩, fun q => absurd h29 q⟩)
      rw [va_at', nI_1, nI_1]
      refine nm_e (nm_e ?_)
      rw [bx_uu, bx_uu, va_at']
      refine ih (i + 1) _ (by omega) (fun j hj => ?_)
      by_cases e : j = i
      · subst e; exact upd_at
      · rw [upd_ne e]; exact h2 j (by omega)
  have := key 12 0 (oR 8) (by omega) (fun j hj => absurd hj (by omega))
  rw [va_eta] at this
  have z : bX6_passes_8_2 post (12 + 1) (nI 0) (va_up oI 30 (nI c)) oR := this
  rw [← h30, va_eta] at z
  exact ⟨_, z⟩
theorem pk_9 {oI : Nat → Int32} {oR : Nat → Nat → Int32} {c : Nat} (h29 : ¬ oI 29 = 0) (h30 : oI 30 = nI c) (hc : c + 12 ≤ 120) {post : (Nat → Int32) → (Nat → Nat → Int32) → Prop} (h : ∀ f : Nat → Int32, (∀ i, i < c → f i = oR 27 i) → (∀ i, i < 12 → f (c + i) = oR 9 i) → post (va_up oI 30 (nI (c + 12))) (va_up oR 27 f)) : pX6_passes_9 oI oR post := by
  have key : ∀ d i (f : Nat → Int32), i + d = 12 → (∀ j, j < c → f j = oR 27 j) → (∀ j, j < i → f (c + j) = oR 9 j) → bX6_passes_9_2 post (d + 1) (nI i) (va_up oI 30 (nI (c + i))) (va_up oR 27 f) := by
    intro d
    induction d with
    | zero =>
      intro i f hi h1 h2
      have hi : i = 12 := by omega
      subst hi
      unfold bX6_passes_9_2
      exact pk_le 12 12 (fun _ => h f h1 h2) (fun c => absurd c (by omega))
    | succ d ih =>
      intro i f hi h1 h2
      unfold bX6_passes_9_2
      refine pk_le 12 i (fun c => absurd c (by omega)) (fun _ => ⟨fun q => absurd q h29, fun _ => ⟨i, rfl, by omega, nm_e ⟨c + i, va_at' _ _ _, by omega, ?_⟩⟩⟩)
      rw [va_at', nI_1, nI_1]
      refine nm_e (nm_e ?_)
      rw [bx_uu, bx_uu, va_at']
      refine ih (i + 1) _ (by omega) (fun j hj => ?_) (fun j hj => ?_)
      · rw [upd_ne (by omega)]; exact h1 j hj
      · by_cases e : j = i
        · subst e; exact upd_at
        · rw [upd_ne (by omega)]; exact h2 j (by omega)
  have := key 12 0 (oR 27) (by omega) (fun _ _ => rfl) (fun j hj => absurd hj (by omega))
  rw [va_eta] at this
  have z : bX6_passes_9_2 post (12 + 1) (nI 0) (va_up oI 30 (nI c)) oR := this
  rw [← h30, va_eta] at z
  exact ⟨_, z⟩
theorem pr_9 {oI : Nat → Int32} {oR : Nat → Nat → Int32} {c : Nat} (h29 : oI 29 = 0) (h30 : oI 30 = nI c) (hc : c + 12 ≤ 120) {post : (Nat → Int32) → (Nat → Nat → Int32) → Prop} (h : ∀ f : Nat → Int32, (∀ i, i < 12 → f i = oR 27 (c + i)) → post (va_up oI 30 (nI (c + 12))) (va_up oR 9 f)) : pX6_passes_9 oI oR post := by
  have key : ∀ d i (f : Nat → Int32), i + d = 12 → (∀ j, j < i → f j = oR 27 (c + j)) → bX6_passes_9_2 post (d + 1) (nI i) (va_up oI 30 (nI (c + i))) (va_up oR 9 f) := by
    intro d
    induction d with
    | zero =>
      intro i f hi h2
      have hi : i = 12 := by omega
      subst hi
      unfold bX6_passes_9_2
      exact pk_le 12 12 (fun _ => h f h2) (fun c => absurd c (by omega))
    | succ d ih =>
      intro i f hi h2
      unfold bX6_passes_9_2
      refine pk_le 12 i (fun c => absurd c (by omega)) (fun _ => ⟨fun _ => ⟨c + i, va_at' _ _ _, by omega, nm_e ⟨i, rfl, by omega, ?_⟩⟩, fun q => absurd h29 q⟩)
      rw [va_at', nI_1, nI_1]
      refine nm_e (nm_e ?_)
      rw [bx_uu, bx_uu, va_at']
      refine ih (i + 1) _ (by omega) (fun j hj => ?_)
      by_cases e : j = i
      · subst e; exact upd_at
      · rw [upd_ne e]; exact h2 j (by omega)
  have := key 12 0 (oR 9) (by omega) (fun j hj => absurd hj (by omega))
  rw [va_eta] at this
  have z : bX6_passes_9_2 post (12 + 1) (nI 0) (va_up oI 30 (nI c)) oR := this
  rw [← h30, va_eta] at z
  exact ⟨_, z⟩
theorem po_k {oI : Nat → Int32} {oR : Nat → Nat → Int32} {c : Nat} {x : Int32} (h29 : ¬ oI 29 = 0) (h30 : oI 30 = nI c) (hc : c < 120) {post : Int32 → (Nat → Int32) → (Nat → Nat → Int32) → Prop} (h : post x (va_up oI 30 (nI (c + 1))) (va_up oR 27 (upd (oR 27) c x))) : pX6_passOne x oI oR post := ⟨fun q => absurd q h29, fun _ => ⟨fun q => absurd q h29, fun _ => ⟨c, h30, hc, by rw [h30, nI_1]; exact nm_e h⟩⟩⟩
theorem po_r {oI : Nat → Int32} {oR : Nat → Nat → Int32} {c : Nat} {x : Int32} (h29 : oI 29 = 0) (h30 : oI 30 = nI c) (hc : c < 120) {post : Int32 → (Nat → Int32) → (Nat → Nat → Int32) → Prop} (h : post (oR 27 c) (va_up oI 30 (nI (c + 1))) oR) : pX6_passOne x oI oR post := ⟨fun _ => ⟨c, h30, hc, fun _ => by rw [h30, nI_1]; exact nm_e h, fun q => absurd h29 q⟩, fun q => absurd h29 q⟩
theorem ke_30 {f oI : Nat → Int32} (h : ∀ k, k ≤ 27 → f k = oI k) (v : Int32) : ∀ k, k ≤ 27 → va_up f 30 v k = oI k := fun k hk => by rw [va_ne' _ _ (by omega)]; exact h k hk
theorem ke_s {f oI : Nat → Int32} (h : ∀ k, k ≤ 27 → f k = oI k) {j : Nat} {x : Int32} (hx : x = oI j) : ∀ k, k ≤ 27 → va_up f j x k = oI k := fun k hk => by
  by_cases e : k = j
  · subst e; rw [va_at', hx]
  · rw [va_ne' _ _ e]; exact h k hk
theorem ke_0 (oI : Nat → Int32) (a b : Int32) : ∀ k, k ≤ 27 → va_up (va_up oI 29 a) 28 b k = oI k := fun k hk => by rw [va_ne' _ _ (by omega), va_ne' _ _ (by omega)]
theorem img_fin {g : Nat → Nat} {r : Nat → Nat → Nat} {oI : Nat → Int32} {oR : Nat → Nat → Int32} {oI' F : Nat → Int32} {post : Int32 → (Nat → Int32) → (Nat → Nat → Int32) → Prop} (P : ∀ k, k ≤ 27 → oI' k = oI k) (e28 : oI' 28 = 1) (ke : KE F g r) (o1 : oI 11 = nI (g 1)) (h : ∀ oI' F, (∀ k, k ≤ 27 → oI' k = oI k) → oI' 28 = 1 → KE F g r → post (nI (g 1)) oI' (va_up oR 27 F)) : post (oI' 11) oI' (va_up oR 27 F) := by
  rw [P 11 (by decide), o1]
  exact h oI' F P e28 ke
theorem F6 {f : Nat → Int32} {x0 x1 x2 x3 x4 x5 : Int32} {j : Nat} (h : j < 96) : upd (upd (upd (upd (upd (upd f 96 x0) 97 x1) 98 x2) 99 x3) 100 x4) 101 x5 j = f j := by
  rw [upd_ne (by omega), upd_ne (by omega), upd_ne (by omega), upd_ne (by omega), upd_ne (by omega), upd_ne (by omega)]
theorem KE_of {g : Nat → Nat} {r : Nat → Nat → Nat} {oI : Nat → Int32} {oR : Nat → Nat → Int32} (ho : OM oI oR g r) {f1 f2 f3 f4 f5 f6 f7 f8 f9 : Nat → Int32} (b1 : ∀ i, i < 8 → f1 (0 + i) = oR 1 i) (a2 : ∀ i, i < 8 → f2 i = f1 i) (b2 : ∀ i, i < 8 → f2 (8 + i) = oR 2 i) (a3 : ∀ i, i < 16 → f3 i = f2 i) (b3 : ∀ i, i < 8 → f3 (16 + i) = oR 3 i) (a4 : ∀ i, i < 24 → f4 i = f3 i) (b4 : ∀ i, i < 12 → f4 (24 + i) = oR 4 i) (a5 : ∀ i, i < 36 → f5 i = f4 i) (b5 : ∀ i, i < 12 → f5 (36 + i) = oR 5 i) (a6 : ∀ i, i < 48 → f6 i = f5 i) (b6 : ∀ i, i < 12 → f6 (48 + i) = oR 6 i) (a7 : ∀ i, i < 60 → f7 i = f6 i) (b7 : ∀ i, i < 12 → f7 (60 + i) = oR 7 i) (a8 : ∀ i, i < 72 → f8 i = f7 i) (b8 : ∀ i, i < 12 → f8 (72 + i) = oR 8 i) (a9 : ∀ i, i < 84 → f9 i = f8 i) (b9 : ∀ i, i < 12 → f9 (84 + i) = oR 9 i) {x0 x1 x2 x3 x4 x5 : Int32} (e0 : x0 = oI 10) (e1 : x1 = oI 11) (e2 : x2 = oI 12) (e3 : x3 = oI 13) (e4 : x4 = oI 14) (e5 : x5 = oI 15) : KE (upd (upd (upd (upd (upd (upd f9 96 x0) 97 x1) 98 x2) 99 x3) 100 x4) 101 x5) g r := by
  obtain ⟨⟨⟨o0, o1, o2, o3, o4, o5, o6⟩, c1, c2, c3⟩, c4⟩ := ho
  subst e0; subst e1; subst e2; subst e3; subst e4; subst e5
  have k1 : ∀ i, i < 8 → upd (upd (upd (upd (upd (upd f9 96 (oI 10)) 97 (oI 11)) 98 (oI 12)) 99 (oI 13)) 100 (oI 14)) 101 (oI 15) i = nI (r 0 i) := fun i hi => by
    have z := b1 i hi
    rw [Nat.zero_add] at z
    rw [F6 (by omega), a9 _ (by omega), a8 _ (by omega), a7 _ (by omega), a6 _ (by omega), a5 _ (by omega), a4 _ (by omega), a3 _ (by omega), a2 _ (by omega), z]; exact c1 i hi
  have k2 : ∀ i, i < 8 → upd (upd (upd (upd (upd (upd f9 96 (oI 10)) 97 (oI 11)) 98 (oI 12)) 99 (oI 13)) 100 (oI 14)) 101 (oI 15) (8 + i) = nI (r 1 i) := fun i hi => by
    rw [F6 (by omega), a9 _ (by omega), a8 _ (by omega), a7 _ (by omega), a6 _ (by omega), a5 _ (by omega), a4 _ (by omega), a3 _ (by omega), b2 i hi]; exact c4 i hi
  have k3 : ∀ i, i < 8 → upd (upd (upd (upd (upd (upd f9 96 (oI 10)) 97 (oI 11)) 98 (oI 12)) 99 (oI 13)) 100 (oI 14)) 101 (oI 15) (16 + i) = nI ((g 2).testBit i).toNat := fun i hi => by
    rw [F6 (by omega), a9 _ (by omega), a8 _ (by omega), a7 _ (by omega), a6 _ (by omega), a5 _ (by omega), a4 _ (by omega), b3 i hi]; exact c2 i hi
  have k4 : ∀ i, i < 12 → upd (upd (upd (upd (upd (upd f9 96 (oI 10)) 97 (oI 11)) 98 (oI 12)) 99 (oI 13)) 100 (oI 14)) 101 (oI 15) (24 + i) = nI (r 2 i) := fun i hi => by
    rw [F6 (by omega), a9 _ (by omega), a8 _ (by omega), a7 _ (by omega), a6 _ (by omega), a5 _ (by omega), b4 i hi]; exact c3 2 (by decide) (by decide) i hi
  have k5 : ∀ i, i < 12 → upd (upd (upd (upd (upd (upd f9 96 (oI 10)) 97 (oI 11)) 98 (oI 12)) 99 (oI 13)) 100 (oI 14)) 101 (oI 15) (36 + i) = nI (r 3 i) := fun i hi => by
    rw [F6 (by omega), a9 _ (by omega), a8 _ (by omega), a7 _ (by omega), a6 _ (by omega), b5 i hi]; exact c3 3 (by decide) (by decide) i hi
  have k6 : ∀ i, i < 12 → upd (upd (upd (upd (upd (upd f9 96 (oI 10)) 97 (oI 11)) 98 (oI 12)) 99 (oI 13)) 100 (oI 14)) 101 (oI 15) (48 + i) = nI (r 4 i) := fun i hi => by
    rw [F6 (by omega), a9 _ (by omega), a8 _ (by omega), a7 _ (by omega), b6 i hi]; exact c3 4 (by decide) (by decide) i hi
  have k7 : ∀ i, i < 12 → upd (upd (upd (upd (upd (upd f9 96 (oI 10)) 97 (oI 11)) 98 (oI 12)) 99 (oI 13)) 100 (oI 14)) 101 (oI 15) (60 + i) = nI (r 5 i) := fun i hi => by
    rw [F6 (by omega), a9 _ (by omega), a8 _ (by omega), b7 i hi]; exact c3 5 (by decide) (by decide) i hi
  have k8 : ∀ i, i < 12 → upd (upd (upd (upd (upd (upd f9 96 (oI 10)) 97 (oI 11)) 98 (oI 12)) 99 (oI 13)) 100 (oI 14)) 101 (oI 15) (72 + i) = nI (r 6 i) := fun i hi => by
    rw [F6 (by omega), a9 _ (by omega), b8 i hi]; exact c3 6 (by decide) (by decide) i hi
  have k9 : ∀ i, i < 12 → upd (upd (upd (upd (upd (upd f9 96 (oI 10)) 97 (oI 11)) 98 (oI 12)) 99 (oI 13)) 100 (oI 14)) 101 (oI 15) (84 + i) = nI (r 7 i) := fun i hi => by
    rw [F6 (by omega), b9 i hi]; exact c3 7 (by decide) (by decide) i hi
  refine ⟨fun i hi => ⟨k1 i hi, k2 i hi, k3 i hi⟩, fun i hi => ⟨k4 i hi, k5 i hi, k6 i hi, k7 i hi, k8 i hi, k9 i hi⟩, ?_, ?_, ?_, ?_, ?_, ?_⟩
  · rw [upd_ne (by decide), upd_ne (by decide), upd_ne (by decide), upd_ne (by decide), upd_ne (by decide), upd_at]; exact o0
  · rw [upd_ne (by decide), upd_ne (by decide), upd_ne (by decide), upd_ne (by decide), upd_at]; exact o1
  · rw [upd_ne (by decide), upd_ne (by decide), upd_ne (by decide), upd_at]; exact o2
  · rw [upd_ne (by decide), upd_ne (by decide), upd_at]; exact o3
  · rw [upd_ne (by decide), upd_at]; exact o4
  · rw [upd_at]; exact o5
theorem sX6_image {g : Nat → Nat} {r : Nat → Nat → Nat} {oI : Nat → Int32} {oR : Nat → Nat → Int32} (ho : OM oI oR g r) {post : Int32 → (Nat → Int32) → (Nat → Nat → Int32) → Prop} (h : ∀ oI' F, (∀ k, k ≤ 27 → oI' k = oI k) → oI' 28 = 1 → KE F g r → post (nI (g 1)) oI' (va_up oR 27 F)) : pX6_image oI oR post := by
  unfold pX6_image pX6_passesAll
  refine pk_1 (c := 0) (show ¬ (1 : Int32) = 0 by decide) rfl (by decide) (fun f1 a1 b1 => ?_)
  rw [bx_uu]
  refine pk_2 (c := 8) (show ¬ (1 : Int32) = 0 by decide) rfl (by decide) (fun f2 a2 b2 => ?_)
  rw [bx_uu, bx_uu]
  refine pk_3 (c := 16) (show ¬ (1 : Int32) = 0 by decide) rfl (by decide) (fun f3 a3 b3 => ?_)
  rw [bx_uu, bx_uu]
  refine pk_4 (c := 24) (show ¬ (1 : Int32) = 0 by decide) rfl (by decide) (fun f4 a4 b4 => ?_)
  rw [bx_uu, bx_uu]
  refine pk_5 (c := 36) (show ¬ (1 : Int32) = 0 by decide) rfl (by decide) (fun f5 a5 b5 => ?_)
  rw [bx_uu, bx_uu]
  refine pk_6 (c := 48) (show ¬ (1 : Int32) = 0 by decide) rfl (by decide) (fun f6 a6 b6 => ?_)
  rw [bx_uu, bx_uu]
  refine pk_7 (c := 60) (show ¬ (1 : Int32) = 0 by decide) rfl (by decide) (fun f7 a7 b7 => ?_)
  rw [bx_uu, bx_uu]
  refine pk_8 (c := 72) (show ¬ (1 : Int32) = 0 by decide) rfl (by decide) (fun f8 a8 b8 => ?_)
  rw [bx_uu, bx_uu]
  refine pk_9 (c := 84) (show ¬ (1 : Int32) = 0 by decide) rfl (by decide) (fun f9 a9 b9 => ?_)
  rw [bx_uu, bx_uu]
  refine po_k (c := 96) (show ¬ (1 : Int32) = 0 by decide) rfl (by decide) ?_
  rw [bx_uu, bx_uu]
  refine po_k (c := 97) (show ¬ (1 : Int32) = 0 by decide) rfl (by decide) ?_
  rw [bx_uu]
  refine po_k (c := 98) (show ¬ (1 : Int32) = 0 by decide) rfl (by decide) ?_
  rw [bx_uu]
  refine po_k (c := 99) (show ¬ (1 : Int32) = 0 by decide) rfl (by decide) ?_
  rw [bx_uu]
  refine po_k (c := 100) (show ¬ (1 : Int32) = 0 by decide) rfl (by decide) ?_
  rw [bx_uu]
  refine po_k (c := 101) (show ¬ (1 : Int32) = 0 by decide) rfl (by decide) ?_
  rw [bx_uu]
  exact img_fin (ke_s (ke_30 (ke_s (ke_30 (ke_s (ke_30 (ke_s (ke_30 (ke_s (ke_30 (ke_s (ke_30 (ke_0 oI 1 1) _) (j := 10) rfl) _) (j := 11) rfl) _) (j := 12) rfl) _) (j := 13) rfl) _) (j := 14) rfl) _) (j := 15) rfl) rfl (KE_of ho b1 a2 b2 a3 b3 a4 b4 a5 b5 a6 b6 a7 b7 a8 b8 a9 b9 rfl rfl rfl rfl rfl rfl) ho.1.1.2.1 h
theorem RS_of {g : Nat → Nat} {r : Nat → Nat → Nat} {oI' : Nat → Int32} {oR' : Nat → Nat → Int32} {K : Nat → Int32} (ke : KE K g r) (e10 : oI' 10 = K 96) (e11 : oI' 11 = K 97) (e12 : oI' 12 = K 98) (e13 : oI' 13 = K 99) (e14 : oI' 14 = K 100) (e15 : oI' 15 = K 101) (e22 : oI' 22 = nI 0) (q1 : ∀ i, i < 8 → oR' 1 i = K (0 + i)) (q2 : ∀ i, i < 8 → oR' 2 i = K (8 + i)) (q3 : ∀ i, i < 8 → oR' 3 i = K (16 + i)) (q4 : ∀ i, i < 12 → oR' 4 i = K (24 + i)) (q5 : ∀ i, i < 12 → oR' 5 i = K (36 + i)) (q6 : ∀ i, i < 12 → oR' 6 i = K (48 + i)) (q7 : ∀ i, i < 12 → oR' 7 i = K (60 + i)) (q8 : ∀ i, i < 12 → oR' 8 i = K (72 + i)) (q9 : ∀ i, i < 12 → oR' 9 i = K (84 + i)) : OM oI' oR' g r := by
  obtain ⟨k1, k2, k3, k4, k5, k6, k7, k8⟩ := ke
  refine ⟨⟨⟨e10.trans k3, e11.trans k4, e12.trans k5, e13.trans k6, e14.trans k7, e15.trans k8, e22⟩, fun i hi => ?_, fun i hi => (q3 i hi).trans (k1 i hi).2.2, fun k h1 h2 i hi => ?_⟩, fun i hi => (q2 i hi).trans (k1 i hi).2.1⟩
  · rw [q1 i hi, Nat.zero_add]; exact (k1 i hi).1
  · have hk : k = 2 ∨ k = 3 ∨ k = 4 ∨ k = 5 ∨ k = 6 ∨ k = 7 := by omega
    rcases hk with e | e | e | e | e | e <;> subst e
    · exact (q4 i hi).trans (k2 i hi).1
    · exact (q5 i hi).trans (k2 i hi).2.1
    · exact (q6 i hi).trans (k2 i hi).2.2.1
    · exact (q7 i hi).trans (k2 i hi).2.2.2.1
    · exact (q8 i hi).trans (k2 i hi).2.2.2.2.1
    · exact (q9 i hi).trans (k2 i hi).2.2.2.2.2
theorem rst_fin {g : Nat → Nat} {r : Nat → Nat → Nat} {oI : Nat → Int32} {oR : Nat → Nat → Int32} {oI' : Nat → Int32} {oR' : Nat → Nat → Int32} {post : Int32 → (Nat → Int32) → (Nat → Nat → Int32) → Prop} (hq : QT oI oR oI' oR' g r (r 0) 0 (g 3)) (h : ∀ oI' oR', QT oI oR oI' oR' g r (r 0) 0 (g 3) → post (nI (g 1)) oI' oR') : post (oI' 11) oI' oR' := by
  rw [hq.1.1.1.2.1]
  exact h oI' oR' hq
theorem sX6_restore {g : Nat → Nat} {r : Nat → Nat → Nat} {oI : Nat → Int32} {oR : Nat → Nat → Int32} (h28 : oI 28 = 1) (h22 : oI 22 = nI 0) (ke : KE (oR 27) g r) {post : Int32 → (Nat → Int32) → (Nat → Nat → Int32) → Prop} (h : ∀ oI' oR', QT oI oR oI' oR' g r (r 0) 0 (g 3) → post (nI (g 1)) oI' oR') : pX6_restore oI oR post := by
  unfold pX6_restore pX6_passesAll
  refine ⟨fun _ => ?_, fun q => absurd (h28.symm.trans q) (by decide)⟩
  refine pr_1 (c := 0) rfl rfl (by decide) (fun f1 b1 => ?_)
  rw [bx_uu]
  refine pr_2 (c := 8) rfl rfl (by decide) (fun f2 b2 => ?_)
  rw [bx_uu]
  refine pr_3 (c := 16) rfl rfl (by decide) (fun f3 b3 => ?_)
  rw [bx_uu]
  refine pr_4 (c := 24) rfl rfl (by decide) (fun f4 b4 => ?_)
  rw [bx_uu]
  refine pr_5 (c := 36) rfl rfl (by decide) (fun f5 b5 => ?_)
  rw [bx_uu]
  refine pr_6 (c := 48) rfl rfl (by decide) (fun f6 b6 => ?_)
  rw [bx_uu]
  refine pr_7 (c := 60) rfl rfl (by decide) (fun f7 b7 => ?_)
  rw [bx_uu]
  refine pr_8 (c := 72) rfl rfl (by decide) (fun f8 b8 => ?_)
  rw [bx_uu]
  refine pr_9 (c := 84) rfl rfl (by decide) (fun f9 b9 => ?_)
  rw [bx_uu]
  refine po_r (c := 96) rfl rfl (by decide) ?_
  rw [bx_uu]
  refine po_r (c := 97) rfl rfl (by decide) ?_
  refine po_r (c := 98) rfl rfl (by decide) ?_
  refine po_r (c := 99) rfl rfl (by decide) ?_
  refine po_r (c := 100) rfl rfl (by decide) ?_
  refine po_r (c := 101) rfl rfl (by decide) ?_
  exact rst_fin ⟨RS_of ke rfl rfl rfl rfl rfl rfl h22 b1 b2 b3 b4 b5 b6 b7 b8 b9, ⟨rfl, rfl, rfl⟩, rfl, rfl, rfl, rfl⟩ h
theorem cpy0 {f g : Nat → Int32} {n i : Nat} (h : i < n) : va_cpy f g 0 0 n i = f i := by
  rw [pk_cpy_in (Nat.zero_le _) (by omega)]
  congr 1
  omega
theorem cpHR {g : Nat → Nat} {r : Nat → Nat → Nat} {hI : Nat → Int32} {hR : Nat → Nat → Int32} {gI : Nat → Int32} {gR : Nat → Nat → Int32} (h : HR_ gI gR g r) : HR_ (va_up (va_up (va_up (va_up (va_up (va_up (va_up hI 4 (gI 4)) 5 (gI 5)) 6 (gI 6)) 0 (gI 0)) 1 (gI 1)) 2 (gI 2)) 3 (gI 3)) (va_up (va_up (va_up (va_up (va_up (va_up (va_up (va_up hR 0 (va_cpy (gR 0) (hR 0) 0 0 8)) 1 (va_cpy (gR 1) (hR 1) 0 0 8)) 2 (va_cpy (gR 2) (hR 2) 0 0 12)) 3 (va_cpy (gR 3) (hR 3) 0 0 12)) 4 (va_cpy (gR 4) (hR 4) 0 0 12)) 5 (va_cpy (gR 5) (hR 5) 0 0 12)) 6 (va_cpy (gR 6) (hR 6) 0 0 12)) 7 (va_cpy (gR 7) (hR 7) 0 0 12)) g r := by
  refine ⟨fun k hk => ?_, fun k hk i hi => ?_, fun k h1 h2 i hi => ?_⟩
  · have hk : k = 0 ∨ k = 1 ∨ k = 2 ∨ k = 3 ∨ k = 4 ∨ k = 5 ∨ k = 6 := by omega
    rcases hk with e | e | e | e | e | e | e <;> subst e
    · exact h.1 0 (by decide)
    · exact h.1 1 (by decide)
    · exact h.1 2 (by decide)
    · exact h.1 3 (by decide)
    · exact h.1 4 (by decide)
    · exact h.1 5 (by decide)
    · exact h.1 6 (by decide)
  · have hk : k = 0 ∨ k = 1 := by omega
    rcases hk with e | e <;> subst e
    · exact (cpy0 hi).trans (h.2.1 0 (by decide) i hi)
    · exact (cpy0 hi).trans (h.2.1 1 (by decide) i hi)
  · have hk : k = 2 ∨ k = 3 ∨ k = 4 ∨ k = 5 ∨ k = 6 ∨ k = 7 := by omega
    rcases hk with e | e | e | e | e | e <;> subst e
    · exact (cpy0 hi).trans (h.2.2 2 (by decide) (by decide) i hi)
    · exact (cpy0 hi).trans (h.2.2 3 (by decide) (by decide) i hi)
    · exact (cpy0 hi).trans (h.2.2 4 (by decide) (by decide) i hi)
    · exact (cpy0 hi).trans (h.2.2 5 (by decide) (by decide) i hi)
    · exact (cpy0 hi).trans (h.2.2 6 (by decide) (by decide) i hi)
    · exact (cpy0 hi).trans (h.2.2 7 (by decide) (by decide) i hi)
theorem sX1_copyFrom {g : Nat → Nat} {r : Nat → Nat → Nat} {hI : Nat → Int32} {hR : Nat → Nat → Int32} {gI : Nat → Int32} {gR : Nat → Nat → Int32} (hh : HR_ gI gR g r) {post : (Nat → Int32) → (Nat → Nat → Int32) → Prop} (h : ∀ hI' hR', HR_ hI' hR' g r → post hI' hR') : pX1_copyFrom hI hR gI gR post := h _ _ (cpHR hh)
theorem sX1_copyFrom_R {g : Nat → Nat} {r : Nat → Nat → Nat} {hI : Nat → Int32} {hR : Nat → Nat → Int32} {gI : Nat → Int32} {gR : Nat → Nat → Int32} (hh : HR_ hI hR g r) {post : (Nat → Int32) → (Nat → Nat → Int32) → Prop} (h : ∀ gI' gR', HR_ gI' gR' g r → post gI' gR') : pX1_copyFrom_R hI hR gI gR post := h _ _ (cpHR (hI := gI) (hR := gR) hh)
theorem imgZ {g : Nat → Nat} {r : Nat → Nat → Nat} {ko : Option ((Nat → Int32) × (Nat → Nat → Int32))} {sI : Nat → Int32} {sR : Nat → Nat → Int32} {tI : Nat → Int32} {tR : Nat → Nat → Int32} {hI : Nat → Int32} {hR : Nat → Nat → Int32} {mI : Nat → Int32} {mR : Nat → Nat → Int32} {oI : Nat → Int32} {oR : Nat → Nat → Int32} (hg : HG g r) (hh : HR_ hI hR g r) (ho : OM oI oR g r) (hr : RM ko sI sR tI tR oI oR) {gI : Nat → Int32} {gR : Nat → Nat → Int32} (hh' : HR_ gI gR g r) {oI' F : Nat → Int32} (P : ∀ k, k ≤ 27 → oI' k = oI k) (e28 : oI' 28 = 1) (ke : KE F g r) : zIn (some (gI, gR)) sI sR tI tR hI hR mI mR oI' (va_up oR 27 F) := by
  refine ⟨g, r, hg, hh, ?_, ?_, ?_, ⟨e28, g, r, hg, hh', ke⟩⟩
  · obtain ⟨⟨⟨a0, a1, a2, a3, a4, a5, a6⟩, c1, c2, c3⟩, c4⟩ := ho
    exact ⟨⟨⟨(P 10 (by decide)).trans a0, (P 11 (by decide)).trans a1, (P 12 (by decide)).trans a2, (P 13 (by decide)).trans a3, (P 14 (by decide)).trans a4, (P 15 (by decide)).trans a5, (P 22 (by decide)).trans a6⟩, c1, c2, fun k h1 h2 => by rw [va_ne' _ _ (by omega)]; exact c3 k h1 h2⟩, c4⟩
  · exact hr.1.same (P 26 (by decide)) rfl rfl
  · exact hr.2.1.same (P 17 (by decide)) rfl
theorem zc_29S {L : Nat} {xs : Nat → Int32} {i : Nat} {sI : Nat → Int32} {sR : Nat → Nat → Int32} {tI : Nat → Int32} {tR : Nat → Nat → Int32} {hI : Nat → Int32} {hR : Nat → Nat → Int32} {mI : Nat → Int32} {mR : Nat → Nat → Int32} {gI : Nat → Int32} {gR : Nat → Nat → Int32} {oI : Nat → Int32} {oR : Nat → Nat → Int32} (h : zIn (some (gI, gR)) sI sR tI tR hI hR mI mR oI oR) : pL_29S L xs (nI i) sI sR tI tR hI hR gI gR mI mR oI oR (fun sI_ sR_ tI_ tR_ hI_ hR_ gI_ gR_ mI_ mR_ oI_ oR_ => zIn (some (gI_, gR_)) sI_ sR_ tI_ tR_ hI_ hR_ mI_ mR_ oI_ oR_) := by
  obtain ⟨g, r, hg, hh, ho, hr⟩ := h
  unfold pL_29S pX5_image_S
  refine sX1_copyFrom_R hh (fun gI' gR' hh' => sX6_image ho (fun oI' F P e28 ke => fin2 (hh'.1 1 (by decide)) (imgZ hg hh ho hr hh' P e28 ke)))
theorem zc_29N {sI : Nat → Int32} {sR : Nat → Nat → Int32} {tI : Nat → Int32} {tR : Nat → Nat → Int32} {hI : Nat → Int32} {hR : Nat → Nat → Int32} {mI : Nat → Int32} {mR : Nat → Nat → Int32} {oI : Nat → Int32} {oR : Nat → Nat → Int32} (h : zIn none sI sR tI tR hI hR mI mR oI oR) : pL_29N hI hR oI oR (fun gI gR oI_ oR_ => zIn (some (gI, gR)) sI sR tI tR hI hR mI mR oI_ oR_) := by
  obtain ⟨g, r, hg, hh, ho, hr⟩ := h
  unfold pL_29N pX5_image_N
  refine sX1_copyFrom_R hh (fun gI' gR' hh' => sX6_image ho (fun oI' F P e28 ke => fin2 (hh'.1 1 (by decide)) (imgZ hg hh ho hr hh' P e28 ke)))
theorem zc_30S {L : Nat} {xs : Nat → Int32} {i : Nat} {sI : Nat → Int32} {sR : Nat → Nat → Int32} {tI : Nat → Int32} {tR : Nat → Nat → Int32} {hI : Nat → Int32} {hR : Nat → Nat → Int32} {mI : Nat → Int32} {mR : Nat → Nat → Int32} {gI : Nat → Int32} {gR : Nat → Nat → Int32} {oI : Nat → Int32} {oR : Nat → Nat → Int32} (h : zIn (some (gI, gR)) sI sR tI tR hI hR mI mR oI oR) : pL_30S L xs (nI i) sI sR tI tR hI hR gI gR mI mR oI oR (fun sI_ sR_ tI_ tR_ hI_ hR_ gI_ gR_ mI_ mR_ oI_ oR_ => zIn (some (gI_, gR_)) sI_ sR_ tI_ tR_ hI_ hR_ mI_ mR_ oI_ oR_) := by
  obtain ⟨g, r, hg, hh, ho, hr⟩ := h
  obtain ⟨h28, g', r', hg', hh', ke⟩ := id hr.2.2
  unfold pL_30S pX5_restore_S
  refine sX1_copyFrom hh' (fun hI' hR' hh2 => sX6_restore h28 ho.1.1.2.2.2.2.2.2 ke (fun oI' oR' hq => fin2 (hh2.1 1 (by decide)) ⟨g', r', hg', hh2, hq.1, hr.same hq.2.1 hq.2.2⟩))
theorem zc_30N {L : Nat} {xs : Nat → Int32} {i : Nat} {sI : Nat → Int32} {sR : Nat → Nat → Int32} {tI : Nat → Int32} {tR : Nat → Nat → Int32} {hI : Nat → Int32} {hR : Nat → Nat → Int32} {mI : Nat → Int32} {mR : Nat → Nat → Int32} {oI : Nat → Int32} {oR : Nat → Nat → Int32} (h : zIn none sI sR tI tR hI hR mI mR oI oR) : pL_30N L xs (nI i) sI sR tI tR hI hR mI mR oI oR (fun sI_ sR_ tI_ tR_ hI_ hR_ mI_ mR_ oI_ oR_ => zIn none sI_ sR_ tI_ tR_ hI_ hR_ mI_ mR_ oI_ oR_) := by
  obtain ⟨g, r, hg, hh, ho, hr⟩ := h
  have h28 : oI 28 = 0 := hr.2.2
  unfold pL_30N pX5_restore_N pX6_restore
  exact refC (k := 3) (by decide) (by decide) ⟨fun q => absurd h28 q, fun _ => refM (k := 3) (by decide) (by decide) (fin2 rfl (fzK hg hh ho hr (by decide)))⟩
