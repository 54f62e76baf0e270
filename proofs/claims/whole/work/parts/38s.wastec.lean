/-! THE CLASS' WASTE AS IT IS BUILT -/
def WsC (u : Nat) (I : Im) (W Y : Nat) (fu gi hr : Nat → Nat) : Prop := I u 0 = nI W ∧ I u 1 = nI Y ∧ (∀ k, k < 5 → I (u + 1) k = nI (fu k) ∧ I (u + 2) k = nI (gi k)) ∧ ∀ k, k < 6 → I (u + 3) k = nI (hr k)
/-- only this waste's cells (but for its drunk) have changed, and of its own the fields F -/
def OW (u : Nat) (F : List Nat) (I I1 : Im) : Prop := (∀ z, z ≠ u → z ≠ u + 1 → z ≠ u + 2 → z ≠ u + 3 → I1 z = I z) ∧ ∀ k, k ∉ F → I1 u k = I u k
section
variable {u : Nat} {K : Sh} {R : Rf} {I I1 I2 : Im} {F F' : List Nat}
theorem OW.refl : OW u F I I := ⟨fun _ _ _ _ _ => rfl, fun _ _ => rfl⟩
theorem OW.trans (h : OW u F I I1) (h2 : OW u F I1 I2) : OW u F I I2 := ⟨fun z a b c d => (h2.1 z a b c d).trans (h.1 z a b c d), fun k hk => (h2.2 k hk).trans (h.2 k hk)⟩
theorem OW.mono (h : OW u F I I1) (hF : ∀ k ∈ F, k ∈ F') : OW u F' I I1 := ⟨h.1, fun k hk => h.2 k (fun z => hk (hF k z))⟩
theorem OW.st (h : OW u F I I1) {i j : Nat} {v : Int32} (hi : i = 1 ∨ i = 2 ∨ i = 3) : OW u F I (u2 I1 (u + i) j v) := ⟨fun z a b c d => by rw [u2_row (by rcases hi with rfl | rfl | rfl <;> assumption)]; exact h.1 z a b c d, fun k hk => by rw [u2_row (by omega)]; exact h.2 k hk⟩
theorem OW.pf (h : OW u F I I1) {j : Nat} {v : Int32} (hj : j ∈ F) : OW u F I (u2 I1 u j v) := ⟨fun z a b c d => by rw [u2_row a]; exact h.1 z a b c d, fun k hk => by rw [u2_ne (fun e => hk (by rw [e]; exact hj))]; exact h.2 k hk⟩
theorem c_clear55 (hS : S9 u K R) {P : Im → Prop} : ∀ (m k f : Nat) (I : Im), k + m = 6 → m < f → (∀ j, j < k → I (u + 3) j = nI 3) → (∀ I1, (∀ z, z ≠ u + 3 → I1 z = I z) → (∀ j, j < 6 → I1 (u + 3) j = nI 3) → P I1) → Ok (f_X9_clear_55 K R u f (nI k) I) P := by
  intro m
  induction m with
  | zero =>
    intro k f I hk hf hz kk
    obtain ⟨f, rfl⟩ : ∃ f', f = f' + 1 := ⟨f - 1, by omega⟩
    have : k = 6 := by omega
    subst this
    unfold f_X9_clear_55
    rw [if_pos (by decide)]
    exact Ok.ret (kk I (fun _ _ => rfl) hz)
  | succ m ih =>
    intro k f I hk hf hz kk
    obtain ⟨f, rfl⟩ : ∃ f', f = f' + 1 := ⟨f - 1, by omega⟩
    have n6 : ¬ ((6 : Int32) ≤ nI k) := by rw [L6, nI_leI (by omega) (by omega)]; omega
    unfold f_X9_clear_55
    rw [if_neg n6, L3, s9_7 hS (by omega), obs, L1, nI_add]
    refine ih (k + 1) f _ (by omega) (by omega) (fun j hj => ?_) (fun I1 g1 g2 => kk I1 (fun z hz => by rw [g1 z hz, u2_row hz]) g2)
    by_cases c : j = k
    · subst c; rw [u2_eq]
    · rw [u2_ne c]; exact hz j (by omega)
theorem c_clear28 (hS : S9 u K R) {P : Im → Prop} : ∀ (m k f : Nat) (I : Im), k + m = 5 → m < f → (∀ j, j < k → I (u + 1) j = nI 0 ∧ I (u + 2) j = nI 0) → (∀ I1, (∀ z, z ≠ u + 1 → z ≠ u + 2 → z ≠ u + 3 → I1 z = I z) → (∀ j, j < 5 → I1 (u + 1) j = nI 0 ∧ I1 (u + 2) j = nI 0) → (∀ j, j < 6 → I1 (u + 3) j = nI 3) → P I1) → Ok (f_X9_clear_28 K R u f (nI k) I) P := by
  intro m
  induction m with
  | zero =>
    intro k f I hk hf hz kk
    obtain ⟨f, rfl⟩ : ∃ f', f = f' + 1 := ⟨f - 1, by omega⟩
    have : k = 5 := by omega
    subst this
    unfold f_X9_clear_28
    rw [if_pos (by decide), L0]
    exact c_clear55 hS 6 0 FU I rfl (FU_lt (by omega)) (fun j hj => by omega) (fun I1 g1 g2 => kk I1 (fun z z1 z2 z3 => g1 z z3) (fun j hj => by rw [g1 _ (by omega), g1 _ (by omega)]; exact hz j hj) g2)
  | succ m ih =>
    intro k f I hk hf hz kk
    obtain ⟨f, rfl⟩ : ∃ f', f = f' + 1 := ⟨f - 1, by omega⟩
    have n5 : ¬ ((5 : Int32) ≤ nI k) := by rw [L5, nI_leI (by omega) (by omega)]; omega
    unfold f_X9_clear_28
    rw [if_neg n5, L0, s9_5 hS (by omega), obs, s9_6 hS (by omega), obs, L1, nI_add]
    refine ih (k + 1) f _ (by omega) (by omega) (fun j hj => ?_) (fun I1 g1 g2 g3 => kk I1 (fun z z1 z2 z3 => by rw [g1 z z1 z2 z3, u2_row z2, u2_row z1]) g2 g3)
    by_cases c : j = k
    · subst c; rw [u2_row (by omega), u2_eq, u2_eq]; exact ⟨rfl, rfl⟩
    · rw [u2_row (by omega), u2_ne c, u2_ne c, u2_row (by omega)]; exact hz j (by omega)
theorem c_clear (hS : S9 u K R) {P : Im → Prop} {I : Im} (kk : ∀ I1, OW u [0, 1, 2, 3, 4] I I1 → WsC u I1 0 0 (fun _ => 0) (fun _ => 0) (fun _ => 3) → I1 u 2 = nI 10 → I1 u 3 = nI 1 → I1 u 4 = nI 0 → P I1) : Ok (f_X9_clear K R u I) P := by
  unfold f_X9_clear
  rw [obs, obs, obs, obs, obs, L0, L10, L1]
  refine c_clear28 hS 5 0 FU _ rfl (FU_lt (by omega)) (fun j hj => by omega) (fun I1 g1 g2 g3 => kk I1 ⟨fun z a b c d => by rw [g1 z b c d, u2_row a, u2_row a, u2_row a, u2_row a, u2_row a], fun k hk => ?_⟩ ⟨?_, ?_, g2, g3⟩ ?_ ?_ ?_)
  · rw [g1 u (by omega) (by omega) (by omega), u2_ne (fun e => hk (by rw [e]; decide)), u2_ne (fun e => hk (by rw [e]; decide)), u2_ne (fun e => hk (by rw [e]; decide)), u2_ne (fun e => hk (by rw [e]; decide)), u2_ne (fun e => hk (by rw [e]; decide))]
  · rw [g1 u (by omega) (by omega) (by omega), u2_ne (by decide), u2_ne (by decide), u2_ne (by decide), u2_ne (by decide), u2_eq]
  · rw [g1 u (by omega) (by omega) (by omega), u2_ne (by decide), u2_ne (by decide), u2_ne (by decide), u2_eq]
  · rw [g1 u (by omega) (by omega) (by omega), u2_ne (by decide), u2_ne (by decide), u2_eq]
  · rw [g1 u (by omega) (by omega) (by omega), u2_ne (by decide), u2_eq]
  · rw [g1 u (by omega) (by omega) (by omega), u2_eq]
theorem c_addWell (hS : S9 u K R) {W Y f g : Nat} {fu gi hr : Nat → Nat} (h : WsC u I W Y fu gi hr) (hW : W ≤ 5) : ∃ I1, f_X9_addWell K R u (nI f) (nI g) I = some I1 ∧ OW u [0] I I1 ∧ WsC u I1 (if W < 5 then W + 1 else W) Y (if W < 5 then u1 fu W f else fu) (if W < 5 then u1 gi W g else gi) hr := by
  obtain ⟨h1, h2, h3, h4⟩ := h
  unfold f_X9_addWell
  rw [h1]
  by_cases c : W < 5
  · refine ⟨u2 (u2 (u2 I (u + 1) W (nI f)) (u + 2) W (nI g)) u 0 (nI (W + 1)), ?_, ((OW.refl.st (by omega)).st (by omega)).pf (by decide), ?_⟩
    · rw [if_neg (by rw [L5, nI_leI (by omega) (by omega)]; omega), s9_5 hS c, obs, u2_row (by omega), h1, s9_6 hS c, obs, u2_row (by omega), u2_row (by omega), h1, obs, L1, nI_add]
    · rw [if_pos c, if_pos c, if_pos c]
      refine ⟨u2_eq _ _ _ _, by rw [u2_ne (by decide), u2_row (by omega), u2_row (by omega)]; exact h2, fun k hk => ⟨?_, ?_⟩, fun k hk => ?_⟩
      · rw [u2_row (by omega), u2_row (by omega)]
        exact nI_u (h3 k hk).1
      · rw [u2_row (by omega)]
        refine nI_u ?_
        rw [u2_row (by omega)]
        exact (h3 k hk).2
      · rw [u2_row (by omega), u2_row (by omega), u2_row (by omega)]
        exact h4 k hk
  · refine ⟨I, ?_, OW.refl, ?_⟩
    · rw [if_pos (by rw [L5, nI_leI (by omega) (by omega)]; omega)]
    · rw [if_neg c, if_neg c, if_neg c]
      exact ⟨h1, h2, h3, h4⟩
theorem c_addWay (hS : S9 u K R) {W Y a : Nat} {fu gi hr : Nat → Nat} (h : WsC u I W Y fu gi hr) (hY : Y ≤ 6) (ha : a ≤ 100) : ∃ I1, f_X9_addWay K R u (nI a) I = some I1 ∧ OW u [1] I I1 ∧ WsC u I1 W (if Y < 6 then Y + 1 else Y) fu gi (if Y < 6 then u1 hr Y (max a 1) else hr) := by
  obtain ⟨h1, h2, h3, h4⟩ := h
  unfold f_X9_addWay
  rw [h2]
  by_cases c : Y < 6
  · refine ⟨u2 (u2 I (u + 3) Y (nI (max a 1))) u 1 (nI (Y + 1)), ?_, (OW.refl.st (by omega)).pf (by decide), ?_⟩
    · rw [if_neg (by rw [L6, nI_leI (by omega) (by omega)]; omega), L1, imax_nI (by omega) (by omega), s9_7 hS c, obs, u2_row (by omega), h2, nI_add, obs]
    · rw [if_pos c, if_pos c]
      refine ⟨by rw [u2_ne (by decide), u2_row (by omega)]; exact h1, u2_eq _ _ _ _, fun k hk => ⟨?_, ?_⟩, fun k hk => ?_⟩
      · rw [u2_row (by omega), u2_row (by omega)]
        exact (h3 k hk).1
      · rw [u2_row (by omega), u2_row (by omega)]
        exact (h3 k hk).2
      · rw [u2_row (by omega)]
        exact nI_u (h4 k hk)
  · refine ⟨I, ?_, OW.refl, ?_⟩
    · rw [if_pos (by rw [L6, nI_leI (by omega) (by omega)]; omega)]
    · rw [if_neg c, if_neg c]
      exact ⟨h1, h2, h3, h4⟩
/-- wells filled from a waste -/
theorem c_fill2 {v : Nat} (hu : S10 u K R) (hv : S9 v K R) (huv : ∀ i j, i < 5 → j < 5 → u + i ≠ v + j) {P : Im → Prop} : ∀ (m k f : Nat) (I : Im), k + m = 5 → m < f → (∀ I1, (∀ z, z ≠ u + 1 → z ≠ u + 2 → z ≠ u + 3 → z ≠ u + 4 → I1 z = I z) → (∀ j, j < k → I1 (u + 1) j = I (u + 1) j ∧ I1 (u + 2) j = I (u + 2) j ∧ I1 (u + 3) j = I (u + 3) j ∧ I1 (u + 4) j = I (u + 4) j) → (∀ j, k ≤ j → j < 5 → I1 (u + 1) j = I (v + 1) j ∧ I1 (u + 2) j = I (v + 2) j ∧ I1 (u + 3) j = I (v + 1) j ∧ I1 (u + 4) j = nI 0) → P I1) → Ok (f_X10_fill_2 K R u f (some v) (nI k) I) P := by
  intro m
  induction m with
  | zero =>
    intro k f I hk hf kk
    obtain ⟨f, rfl⟩ : ∃ f', f = f' + 1 := ⟨f - 1, by omega⟩
    have : k = 5 := by omega
    subst this
    unfold f_X10_fill_2
    rw [if_pos (by decide)]
    exact Ok.ret (kk I (fun _ _ _ _ _ => rfl) (fun _ _ => ⟨rfl, rfl, rfl, rfl⟩) (fun j h1 h2 => by omega))
  | succ m ih =>
    intro k f I hk hf kk
    obtain ⟨f, rfl⟩ : ∃ f', f = f' + 1 := ⟨f - 1, by omega⟩
    have o1 : ob K 10 (some v) = some v := ob9 hv
    have w1 := fun i (hi : i < 5) => huv i 1 hi (by decide)
    have w2 := fun i (hi : i < 5) => huv i 2 hi (by decide)
    have n5 : ¬ ((5 : Int32) ≤ nI k) := by rw [L5, nI_leI (by omega) (by omega)]; omega
    unfold f_X10_fill_2
    rw [if_neg n5, o1, obs, l9_5 hv (by omega), obs, s10_0 hu (by omega), obs, l9_6 hv (by omega), obs, s10_1 hu (by omega), obs, l9_5 hv (by omega), obs, s10_2 hu (by omega), obs, L0, s10_3 hu (by omega), obs, L1, nI_add]
    rw [u2_row (w2 1 (by decide)).symm, u2_row (w1 2 (by decide)).symm, u2_row (w1 1 (by decide)).symm]
    generalize hI4 : u2 (u2 (u2 (u2 I (u + 1) k (I (v + 1) k)) (u + 2) k (I (v + 2) k)) (u + 3) k (I (v + 1) k)) (u + 4) k (nI 0) = I4
    have fr : ∀ z, z ≠ u + 1 → z ≠ u + 2 → z ≠ u + 3 → z ≠ u + 4 → I4 z = I z := fun z z1 z2 z3 z4 => by rw [← hI4, u2_row z4, u2_row z3, u2_row z2, u2_row z1]
    have e1 : ∀ j, I4 (u + 1) j = if j = k then I (v + 1) k else I (u + 1) j := fun j => by
      rw [← hI4, u2_row (by omega), u2_row (by omega), u2_row (by omega)]
      by_cases c : j = k
      · subst c; rw [u2_eq, if_pos rfl]
      · rw [u2_ne c, if_neg c]
    have e2 : ∀ j, I4 (u + 2) j = if j = k then I (v + 2) k else I (u + 2) j := fun j => by
      rw [← hI4, u2_row (by omega), u2_row (by omega)]
      by_cases c : j = k
      · subst c; rw [u2_eq, if_pos rfl]
      · rw [u2_ne c, if_neg c, u2_row (by omega)]
    have e3 : ∀ j, I4 (u + 3) j = if j = k then I (v + 1) k else I (u + 3) j := fun j => by
      rw [← hI4, u2_row (by omega)]
      by_cases c : j = k
      · subst c; rw [u2_eq, if_pos rfl]
      · rw [u2_ne c, if_neg c, u2_row (by omega), u2_row (by omega)]
    have e4 : ∀ j, I4 (u + 4) j = if j = k then nI 0 else I (u + 4) j := fun j => by
      rw [← hI4]
      by_cases c : j = k
      · subst c; rw [u2_eq, if_pos rfl]
      · rw [u2_ne c, if_neg c, u2_row (by omega), u2_row (by omega), u2_row (by omega)]
    have fv : ∀ i, i < 5 → 0 < i → I4 (v + i) = I (v + i) := fun i hi _ => fr _ (huv 1 i (by decide) hi).symm (huv 2 i (by decide) hi).symm (huv 3 i (by decide) hi).symm (huv 4 i (by decide) hi).symm
    refine ih (k + 1) f I4 (by omega) (by omega) (fun I1 g1 g2 g3 => kk I1 (fun z z1 z2 z3 z4 => (g1 z z1 z2 z3 z4).trans (fr z z1 z2 z3 z4)) (fun j hj => ?_) (fun j h1 h2 => ?_))
    · obtain ⟨y1, y2, y3, y4⟩ := g2 j (by omega)
      rw [y1, y2, y3, y4, e1, e2, e3, e4, if_neg (by omega), if_neg (by omega), if_neg (by omega), if_neg (by omega)]
      exact ⟨rfl, rfl, rfl, rfl⟩
    · by_cases c : j = k
      · subst c
        obtain ⟨y1, y2, y3, y4⟩ := g2 j (by omega)
        rw [y1, y2, y3, y4, e1, e2, e3, e4, if_pos rfl, if_pos rfl, if_pos rfl, if_pos rfl]
        exact ⟨rfl, rfl, rfl, rfl⟩
      · obtain ⟨y1, y2, y3, y4⟩ := g3 j (by omega) h2
        rw [y1, y2, y3, y4, fv 1 (by decide) (by decide), fv 2 (by decide) (by decide)]
        exact ⟨rfl, rfl, rfl, rfl⟩
theorem c_fill {v : Nat} (hu : S10 u K R) (hv : S9 v K R) (huv : ∀ i j, i < 5 → j < 5 → u + i ≠ v + j) {P : Im → Prop} {I : Im} (kk : ∀ I1, (∀ z, z ≠ u + 1 → z ≠ u + 2 → z ≠ u + 3 → z ≠ u + 4 → I1 z = I z) → (∀ j, j < 5 → I1 (u + 1) j = I (v + 1) j ∧ I1 (u + 2) j = I (v + 2) j ∧ I1 (u + 3) j = I (v + 1) j ∧ I1 (u + 4) j = nI 0) → P I1) : Ok (f_X10_fill K R u (some v) I) P := by
  unfold f_X10_fill
  rw [L0]
  exact c_fill2 hu hv huv 5 0 FU I rfl (FU_lt (by omega)) (fun I1 g1 _ g3 => kk I1 g1 (fun j hj => g3 j (Nat.zero_le _) hj))
end
