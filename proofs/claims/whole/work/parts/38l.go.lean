theorem trN_b {cost : Nat → Nat → Nat} {hr rw fu gi : Nat → Nat} {sd rm kind v W M : Nat} (hhr : ∀ k, k ≤ W → hr k ≤ 9) (hv : v ≤ 6) (hrw : ∀ k, rw k ≤ 6) (hfu : ∀ k, k < W → fu k ≤ 99) : ∀ (f k h wt : Nat) (le la : Nat → Nat) (st ca : Nat → Option Nat), W - k < f → k ≤ W → (∀ j, j < W → le j ≤ 99 ∧ la j ≤ M + 15 * W) → (∀ j, k ≤ j → j < W → la j ≤ M) → h ≤ M + 15 * k →
    ∀ T, T = trN cost hr sd rm kind v rw fu gi W f k h wt le la st ca → (∀ t, T.1.1 = some t → t ≤ M + 15 * W + 9) ∧ (∀ t, T.1.2 = some t → t ≤ W) ∧ ∀ j, j < W → T.2.2.2.1 j ≤ 99 ∧ T.2.2.2.2 j ≤ M + 15 * W := by
  intro f
  induction f with
  | zero => intro k h wt le la st ca q; omega
  | succ f ih =>
    intro k h wt le la st ca hf hk hle hla hh T hT
    simp only [trN] at hT
    by_cases c0 : W ≤ k
    · have : k = W := by omega
      subst this
      have hw := hhr k (Nat.le_refl _)
      rw [if_pos c0] at hT
      split at hT
      · subst hT
        exact ⟨fun t ht => by cases ht; omega, fun t ht => (by cases ht), hle⟩
      · subst hT
        exact ⟨fun t ht => (by cases ht), fun t ht => by cases ht; exact Nat.le_refl _, hle⟩
    · rw [if_neg c0] at hT
      have hw := hhr k hk
      have hlak := hla k (Nat.le_refl _) (by omega)
      split at hT
      · subst hT
        exact ⟨fun t ht => (by cases ht), fun t ht => by cases ht; omega, hle⟩
      · split at hT
        · subst hT
          exact ⟨fun t ht => (by cases ht), fun t ht => by cases ht; omega, hle⟩
        · split at hT
          · subst hT
            exact ⟨fun t ht => (by cases ht), fun t ht => by cases ht; omega, hle⟩
          · have hs := stN_le (kind := kind) (v := v) (rw := rw) (g := fun n => heldN fu gi le la k (max (h + hr k) (la k) + n)) (k := k) (h := max (h + hr k) (la k)) (wt := wt - cost k h - (la k - (h + hr k)) * sd) (rm := rm) hv (hrw k)
            generalize stN kind v rw (fun n => heldN fu gi le la k (max (h + hr k) (la k) + n)) k (max (h + hr k) (la k)) (wt - cost k h - (la k - (h + hr k)) * sd) rm = s at hs hT
            have hl := heldN_le (fu := fu) (gi := gi) (le := le) (la := la) (k := k) (h := max (h + hr k) (la k) + s) (hfu k (by omega)) (hle k (by omega)).1
            have e15 : M + 15 * (k + 1) ≤ M + 15 * W := by omega
            refine ih (k + 1) _ _ _ _ _ _ (by omega) (by omega) (fun j hj => ?_) (fun j h1 h2 => ?_) (by omega) T hT
            · by_cases e : j = k
              · subst e; rw [u1_eq, u1_eq]; omega
              · rw [u1_ne e, u1_ne e]; exact hle j hj
            · rw [u1_ne (by omega)]
              exact hla j (by omega) h2
section
variable {x u v : Nat} {K : Sh} {R : Rf}
theorem c_become2 (hu : S10 u K R) (hv : S10 v K R) (huv : ∀ i j, i < 5 → j < 5 → u + i ≠ v + j) {P : Im → Prop} : ∀ (m k f : Nat) (I : Im), k + m = 5 → m < f → (∀ I1, (∀ z, z ≠ u + 1 → z ≠ u + 2 → z ≠ u + 3 → z ≠ u + 4 → I1 z = I z) → (∀ j, j < k → I1 (u + 1) j = I (u + 1) j ∧ I1 (u + 2) j = I (u + 2) j ∧ I1 (u + 3) j = I (u + 3) j ∧ I1 (u + 4) j = I (u + 4) j) → (∀ j, k ≤ j → j < 5 → I1 (u + 1) j = I (v + 1) j ∧ I1 (u + 2) j = I (v + 2) j ∧ I1 (u + 3) j = I (v + 3) j ∧ I1 (u + 4) j = I (v + 4) j) → P I1) → Ok (f_X10_become_2 K R u f (some v) (nI k) I) P := by
  intro m
  induction m with
  | zero =>
    intro k f I hk hf kk
    obtain ⟨f, rfl⟩ : ∃ f', f = f' + 1 := ⟨f - 1, by omega⟩
    have : k = 5 := by omega
    subst this
    unfold f_X10_become_2
    rw [if_pos (by decide)]
    exact Ok.ret (kk I (fun _ _ _ _ _ => rfl) (fun _ _ => ⟨rfl, rfl, rfl, rfl⟩) (fun j h1 h2 => by omega))
  | succ m ih =>
    intro k f I hk hf kk
    obtain ⟨f, rfl⟩ : ∃ f', f = f' + 1 := ⟨f - 1, by omega⟩
    have o1 : ob K 11 (some v) = some v := ob10 hv
    have w1 := fun i (hi : i < 5) => huv i 1 hi (by decide)
    have w2 := fun i (hi : i < 5) => huv i 2 hi (by decide)
    have w3 := fun i (hi : i < 5) => huv i 3 hi (by decide)
    have w4 := fun i (hi : i < 5) => huv i 4 hi (by decide)
    have n5 : ¬ ((5 : Int32) ≤ nI k) := by rw [L5, nI_leI (by omega) (by omega)]; omega
    unfold f_X10_become_2
    rw [if_neg n5, o1, obs, l10_0 hv (by omega), obs, s10_0 hu (by omega), obs, l10_1 hv (by omega), obs, s10_1 hu (by omega), obs, l10_2 hv (by omega), obs, s10_2 hu (by omega), obs, l10_3 hv (by omega), obs, s10_3 hu (by omega), obs, L1, nI_add]
    rw [u2_row (w2 1 (by decide)).symm, u2_row (w3 2 (by decide)).symm, u2_row (w3 1 (by decide)).symm, u2_row (w4 3 (by decide)).symm, u2_row (w4 2 (by decide)).symm, u2_row (w4 1 (by decide)).symm]
    generalize hI4 : u2 (u2 (u2 (u2 I (u + 1) k (I (v + 1) k)) (u + 2) k (I (v + 2) k)) (u + 3) k (I (v + 3) k)) (u + 4) k (I (v + 4) k) = I4
    have fr : ∀ z, z ≠ u + 1 → z ≠ u + 2 → z ≠ u + 3 → z ≠ u + 4 → I4 z = I z := fun z z1 z2 z3 z4 => by rw [← hI4, u2_row z4, u2_row z3, u2_row z2, u2_row z1]
    have e1 : ∀ j, I4 (u + 1) j = if j = k then I (v + 1) k else I (u + 1) j := fun j => by
      rw [← hI4, u2_row (by omega), u2_row (by omega), u2_row (by omega)]
      by_cases c : j = k
      · subst c; rw [u2_eq, if_pos rfl]
      · rw [u2_ne c, if_neg c]
    have e2 : ∀ j, I4 (u + 2) j = if j = k then I (v + 2) k else I (u + 2) j := fun j => by
      rw [← hI4, u2_row (by omega), u2_row (by omega)]
      by_cases c : j = k
      · subst c; rw [u2_eq, if_pos rfl]
      · rw [u2_ne c, if_neg c, u2_row (by omega)]
    have e3 : ∀ j, I4 (u + 3) j = if j = k then I (v + 3) k else I (u + 3) j := fun j => by
      rw [← hI4, u2_row (by omega)]
      by_cases c : j = k
      · subst c; rw [u2_eq, if_pos rfl]
      · rw [u2_ne c, if_neg c, u2_row (by omega), u2_row (by omega)]
    have e4 : ∀ j, I4 (u + 4) j = if j = k then I (v + 4) k else I (u + 4) j := fun j => by
      rw [← hI4]
      by_cases c : j = k
      · subst c; rw [u2_eq, if_pos rfl]
      · rw [u2_ne c, if_neg c, u2_row (by omega), u2_row (by omega), u2_row (by omega)]
    have fv : ∀ i, i < 5 → 0 < i → I4 (v + i) = I (v + i) := fun i hi _ => fr _ (huv 1 i (by decide) hi).symm (huv 2 i (by decide) hi).symm (huv 3 i (by decide) hi).symm (huv 4 i (by decide) hi).symm
    refine ih (k + 1) f I4 (by omega) (by omega) (fun I1 g1 g2 g3 => kk I1 (fun z z1 z2 z3 z4 => (g1 z z1 z2 z3 z4).trans (fr z z1 z2 z3 z4)) (fun j hj => ?_) (fun j h1 h2 => ?_))
    · obtain ⟨y1, y2, y3, y4⟩ := g2 j (by omega)
      rw [y1, y2, y3, y4, e1, e2, e3, e4, if_neg (by omega), if_neg (by omega), if_neg (by omega), if_neg (by omega)]
      exact ⟨rfl, rfl, rfl, rfl⟩
    · by_cases c : j = k
      · subst c
        obtain ⟨y1, y2, y3, y4⟩ := g2 j (by omega)
        rw [y1, y2, y3, y4, e1, e2, e3, e4, if_pos rfl, if_pos rfl, if_pos rfl, if_pos rfl]
        exact ⟨rfl, rfl, rfl, rfl⟩
      · obtain ⟨y1, y2, y3, y4⟩ := g3 j (by omega) h2
        rw [y1, y2, y3, y4, fv 1 (by decide) (by decide), fv 2 (by decide) (by decide), fv 3 (by decide) (by decide), fv 4 (by decide) (by decide)]
        exact ⟨rfl, rfl, rfl, rfl⟩
theorem c_become (hu : S10 u K R) (hv : S10 v K R) (huv : ∀ i j, i < 5 → j < 5 → u + i ≠ v + j) {P : Im → Prop} {I : Im} (kk : ∀ I1, (∀ z, z ≠ u + 1 → z ≠ u + 2 → z ≠ u + 3 → z ≠ u + 4 → I1 z = I z) → (∀ j, j < 5 → I1 (u + 1) j = I (v + 1) j ∧ I1 (u + 2) j = I (v + 2) j ∧ I1 (u + 3) j = I (v + 3) j ∧ I1 (u + 4) j = I (v + 4) j) → P I1) : Ok (f_X10_become K R u (some v) I) P := by
  unfold f_X10_become
  rw [L0]
  exact c_become2 hu hv huv 5 0 FU I rfl (FU_lt (by omega)) (fun I1 g1 _ g3 => kk I1 g1 (fun j hj => g3 j (Nat.zero_le _) hj))
end
/-- there is a row for each rule -/
theorem rw_ex {e : PE} (he : e.rm < 1000000) (W h kd : Nat) (rwr : Nat → Nat) (hr : ∀ k, rwr k ≤ 6) : ∃ rw : Nat → Nat, (∀ k, rw k ≤ 6) ∧ (kd = 3 → ∀ k, rw k = rwr k) ∧ (kd = 5 → ∃ t, bsT e W h t ∧ ∀ j, rw j = bsR e W h t j) := by
  by_cases c5 : kd = 5
  · obtain ⟨t, ht⟩ := bsT_ex he W h
    exact ⟨bsR e W h t, fun k => bsR_le, fun z => by omega, fun _ => ⟨t, ht, fun _ => rfl⟩⟩
  · exact ⟨rwr, hr, fun _ _ => rfl, fun z => absurd z c5⟩
def tellV (T : TR) (W ld b m : Nat) : Int32 :=
  if m = 0 then oI T.1.1 else if m = 1 then oI T.1.2 else if m = 2 then (match T.1.1 with
    | none => 0
    | some _ => nI (b * ld)) else if W ≤ m % 10 then -1 else if m < 20 then oI (T.2.1 (m % 10)) else oI (T.2.2.1 (m % 10))
theorem oI_neg5 {x : Option Nat} (hx : ∀ t, x = some t → t ≤ 900000) : oI x = -5 ↔ x = none := by
  cases x with
  | none => exact ⟨fun _ => rfl, fun _ => rfl⟩
  | some t => exact ⟨fun h => absurd h (nI_no5 (by have := hx t rfl; omega)), fun h => by cases h⟩
theorem oI_pos {x : Option Nat} (hx : ∀ t, x = some t → t ≤ 900000) : nI 0 ≤ oI x ↔ x ≠ none := by
  cases x with
  | none => exact ⟨fun h => by revert h; decide, fun h => absurd rfl h⟩
  | some t =>
    have := hx t rfl
    exact ⟨fun _ h => (by cases h), fun _ => (nI_leI (by omega) (by omega)).mpr (Nat.zero_le _)⟩
section
variable {x q i N : Nat} {K : Sh} {R : Rf} {I : Im} {w c d : Nat → Nat} {cs : Nat → List Nat}
theorem c_worth (hC : CSH x K R) (hw : WasteR x i q N w c d cs K I R) (hs : R (x + 8) 0 = some q) {T : TR} {b : Nat} (h0 : I (x + 29) 0 = oI T.1.1) (hb : ∀ t, T.1.1 = some t → t ≤ 900000) : f_X11_worthOf K I R x (nI b) = some (match T.1.1 with
    | none => 0
    | some _ => nI (b * laV w c 4 1 N)) := by
  have hS := cS11 hC
  have o9 : ob K 9 (R x 12) = some (x + 29) := o11_12 hS
  have o7 : ob K 7 (R x 7) = some (x + 8) := o11_7 hS
  have oq : ob K 10 (R (x + 8) 0) = some q := by rw [hs]; exact ob9 hw.2.2.2.1.1
  unfold f_X11_worthOf
  rw [o9, obs, h0]
  cases hT : T.1.1 with
  | none => rw [if_pos (show oI none = -5 from rfl)]
  | some t =>
    rw [if_neg (show ¬ (oI (some t) = -5) from nI_no5 (by have := hb t hT; omega)), o7, obs, oq, obs, hw.2.2.2.2.2.1, pk_mul, Nat.mul_comm]
theorem c_tell (hC : CSH x K R) (hw : WasteR x i q N w c d cs K I R) (hs : R (x + 8) 0 = some q) {T : TR} {b m : Nat} {u : Nat} (hT : TripC (x + 29) u (wlN w N) I T) (hb : ∀ t, T.1.1 = some t → t ≤ 900000) (hm : m ≤ 2 ∨ 10 ≤ m ∧ m ≤ 14 ∨ 20 ≤ m ∧ m ≤ 24) : f_X11_tellTrip K I R x (nI m) (nI b) = some (tellV T (wlN w N) (laV w c 4 1 N) b m) := by
  have hS := cS11 hC
  have o9 : ob K 9 (R x 12) = some (x + 29) := o11_12 hS
  have o7 : ob K 7 (R x 7) = some (x + 8) := o11_7 hS
  have oq : ob K 10 (R (x + 8) 0) = some q := by rw [hs]; exact ob9 hw.2.2.2.1.1
  have hW5 := wlN_le w N
  obtain ⟨t0, t1, t2, t3⟩ := hT
  have q0 : I q 0 = nI (wlN w N) := hw.2.2.2.1.2.1
  have cw := c_worth hC hw hs (T := T) (b := b) t0 hb
  unfold f_X11_tellTrip tellV
  by_cases c0 : m = 0
  · subst c0
    rw [if_pos (show nI 0 = 0 from rfl), if_pos rfl, o9, obs, t0]
  · have n0 : ¬ (nI m = 0) := by rw [L0, nI_eq (by omega) (by omega)]; exact c0
    rw [if_neg n0, if_neg c0]
    by_cases c1 : m = 1
    · subst c1
      rw [if_pos (show nI 1 = 1 from rfl), if_pos rfl, o9, obs, t1]
    · have n1 : ¬ (nI m = 1) := by rw [L1, nI_eq (by omega) (by omega)]; exact c1
      rw [if_neg n1, if_neg c1]
      by_cases c2 : m = 2
      · subst c2
        rw [if_pos (show nI 2 = 2 from rfl), if_pos rfl, cw, obs]
      · have n2 : ¬ (nI m = 2) := by rw [L2, nI_eq (by omega) (by omega)]; exact c2
        have hm10 : m % 10 < 5 := by omega
        obtain ⟨s1, s2⟩ := t2 (m % 10) hm10
        rw [if_neg n2, if_neg c2, o7, obs, oq, obs, q0, L10, irem_nI (by omega) (by omega) (by omega)]
        by_cases c3 : wlN w N ≤ m % 10
        · rw [if_neg (by rw [nI_ltI (by omega) (by omega)]; omega), if_pos c3]
        · rw [if_pos (by rw [nI_ltI (by omega) (by omega)]; omega), if_neg c3]
          by_cases c4 : m < 20
          · rw [if_neg (by rw [L20, nI_leI (by omega) (by omega)]; omega), if_pos c4, o9, obs, l8_2 (cS8 hC) hm10, obs, s1]
          · rw [if_pos (by rw [L20, nI_leI (by omega) (by omega)]; omega), if_neg c4, o9, obs, l8_3 (cS8 hC) hm10, obs, s2]
theorem m_tell (hM : S12 (x + 62) K R) (hi : i < 5) (hw : MW (x + 62) i N w c d I) (ht : I (x + 62) 1 = nI i) {T : TR} {k b m W : Nat} (hW : I (x + 62) 21 = nI W) (hW5 : W ≤ 5) (hk : k < 6) (hbk : I (x + 85) k = nI b) (hT : TripM (x + 62) W I T) (hb : ∀ t, T.1.1 = some t → t ≤ 900000) (hm : m ≤ 2 ∨ 10 ≤ m ∧ m ≤ 14 ∨ 20 ≤ m ∧ m ≤ 24) : f_X12_toldOf K I R (x + 62) (nI k) (nI m) = some (tellV T W (laV w c 4 1 N) b m) := by
  obtain ⟨t0, t1, t2, t3⟩ := hT
  have h50 := oI_pos hb
  have hl : f_X12_last K I R (x + 62) 4 1 = some (nI (laV w c 4 1 N)) := by
    rw [L4, L1]
    exact m_last hM (s := 4) (e := 1) (by omega) hi hw ht
  have lb : ldI K I (R (x + 62) 34) (nI k) = some (nI b) := by
    rw [l12_34 hM (by omega)]
    exact congrArg some hbk
  unfold f_X12_toldOf tellV f_X12_toldOf_19
  rcases hm with hm | ⟨h1, h2⟩ | ⟨h1, h2⟩
  · rw [if_pos (show nI m ≤ 9 by rw [L9, nI_leI (by omega) (by omega)]; omega), if_pos (show nI m ≤ 19 by rw [L19, nI_leI (by omega) (by omega)]; omega)]
    by_cases c0 : m = 0
    · subst c0
      rw [if_pos (show nI 0 = 0 from rfl), if_pos rfl, t0]
      rw [if_pos (show nI 0 ≤ 9 by decide)]
    · have n0 : ¬ (nI m = 0) := by rw [L0, nI_eq (by omega) (by omega)]; exact c0
      rw [if_pos (show nI m ≤ 9 by rw [L9, nI_leI (by omega) (by omega)]; omega), if_neg n0, if_neg c0]
      by_cases c1 : m = 1
      · subst c1
        rw [if_pos (show nI 1 = 1 from rfl), if_pos rfl, t1]
      · have n1 : ¬ (nI m = 1) := by rw [L1, nI_eq (by omega) (by omega)]; exact c1
        have c2 : m = 2 := by omega
        rw [if_neg n1, if_neg c1, if_pos c2, t0]
        cases hT1 : T.1.1 with
        | none => rw [if_neg (by decide)]
        | some t =>
          rw [hT1] at h50
          rw [if_pos (show (0 : Int32) ≤ oI (some t) from h50.mpr (by simp)), lb, obs, hl, obs, pk_mul]
  · have hm10 : m - 10 = m % 10 := by omega
    obtain ⟨s1, s2⟩ := t2 (m % 10) (by omega)
    rw [if_neg (show ¬ nI m ≤ 9 by rw [L9, nI_leI (by omega) (by omega)]; omega), L10, irem_nI (by omega) (by omega) (by omega), hW, if_neg (show ¬ m = 0 by omega), if_neg (show ¬ m = 1 by omega), if_neg (show ¬ m = 2 by omega)]
    by_cases c3 : W ≤ m % 10
    · rw [if_neg (by rw [nI_ltI (by omega) (by omega)]; omega), if_pos c3]
    · rw [if_pos (by rw [nI_ltI (by omega) (by omega)]; omega), if_neg c3, if_pos (show nI m ≤ 19 by rw [L19, nI_leI (by omega) (by omega)]; omega), if_neg (show ¬ nI m ≤ 9 by rw [L9, nI_leI (by omega) (by omega)]; omega), pk_sub (by omega), hm10, l12_39 hM (by omega), obs, s1, if_pos (show m < 20 by omega)]
  · have hm10 : m - 20 = m % 10 := by omega
    obtain ⟨s1, s2⟩ := t2 (m % 10) (by omega)
    rw [if_neg (show ¬ nI m ≤ 9 by rw [L9, nI_leI (by omega) (by omega)]; omega), L10, irem_nI (by omega) (by omega) (by omega), hW, if_neg (show ¬ m = 0 by omega), if_neg (show ¬ m = 1 by omega), if_neg (show ¬ m = 2 by omega)]
    by_cases c3 : W ≤ m % 10
    · rw [if_neg (by rw [nI_ltI (by omega) (by omega)]; omega), if_pos c3]
    · rw [if_pos (by rw [nI_ltI (by omega) (by omega)]; omega), if_neg c3, if_neg (show ¬ nI m ≤ 19 by rw [L19, nI_leI (by omega) (by omega)]; omega), L20, pk_sub (by omega), hm10, l12_40 hM (by omega), obs, s2, if_neg (show ¬ m < 20 by omega)]
end
