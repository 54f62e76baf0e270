/-! THE SCENE CHANGED: odds, hand, several, image, undo -/
def cpR (b a m : Nat) (I : Im) : Im := fun z j => if z = b ∧ j < m then I a j else I z j
theorem cpR_0 (b a : Nat) (I : Im) : cpR b a 0 I = I := by
  funext z j
  simp only [cpR]
  rw [if_neg (by omega)]
theorem cpR_row {b a m z : Nat} {I : Im} (h : z ≠ b) : cpR b a m I z = I z := by
  funext j
  simp only [cpR]
  rw [if_neg (fun c => h c.1)]
theorem cpR_lt {b a m j : Nat} {I : Im} (h : j < m) : cpR b a m I b j = I a j := by
  exact if_pos ⟨rfl, h⟩
theorem cpR_ge {b a m j : Nat} {I : Im} (h : m ≤ j) : cpR b a m I b j = I b j := by
  simp only [cpR]
  rw [if_neg (by omega)]
theorem cpR_st {b a k : Nat} {I : Im} : u2 (cpR b a k I) b k (I a k) = cpR b a (k + 1) I := by
  funext z j
  by_cases z1 : z = b
  · subst z1
    by_cases j1 : j = k
    · subst j1
      rw [u2_eq, cpR_lt (by omega)]
    · rw [u2_ne j1]
      by_cases j2 : j < k
      · rw [cpR_lt j2, cpR_lt (by omega)]
      · rw [cpR_ge (by omega), cpR_ge (by omega)]
  · rw [u2_row z1, cpR_row z1, cpR_row z1]
theorem cpR_cm {b a m b' k' : Nat} {v : Int32} {I : Im} (h1 : b' ≠ b) (h2 : b' ≠ a) : u2 (cpR b a m I) b' k' v = cpR b a m (u2 I b' k' v) := by
  funext z j
  by_cases z1 : z = b
  · subst z1
    rw [u2_row h1.symm]
    by_cases j2 : j < m
    · rw [cpR_lt j2, cpR_lt j2, u2_row h2.symm]
    · rw [cpR_ge (by omega), cpR_ge (by omega), u2_row h1.symm]
  · rw [cpR_row z1]
    by_cases z2 : z = b'
    · subst z2
      by_cases j1 : j = k'
      · subst j1; rw [u2_eq, u2_eq]
      · rw [u2_ne j1, u2_ne j1, cpR_row z1]
    · rw [u2_row z2, u2_row z2, cpR_row z1]
def zR (b m : Nat) (I : Im) : Im := fun z j => if z = b ∧ j < m then 0 else I z j
theorem zR_0 (b : Nat) (I : Im) : zR b 0 I = I := by
  funext z j
  simp only [zR]
  rw [if_neg (by omega)]
theorem zR_row {b m z : Nat} {I : Im} (h : z ≠ b) : zR b m I z = I z := by
  funext j
  simp only [zR]
  rw [if_neg (fun c => h c.1)]
theorem zR_lt {b m j : Nat} {I : Im} (h : j < m) : zR b m I b j = 0 := by
  exact if_pos ⟨rfl, h⟩
theorem zR_ge {b m j : Nat} {I : Im} (h : m ≤ j) : zR b m I b j = I b j := by
  simp only [zR]
  rw [if_neg (by omega)]
theorem zR_st {b k : Nat} {I : Im} : u2 (zR b k I) b k 0 = zR b (k + 1) I := by
  funext z j
  by_cases z1 : z = b
  · subst z1
    by_cases j1 : j = k
    · subst j1
      rw [u2_eq, zR_lt (by omega)]
    · rw [u2_ne j1]
      by_cases j2 : j < k
      · rw [zR_lt j2, zR_lt (by omega)]
      · rw [zR_ge (by omega), zR_ge (by omega)]
  · rw [u2_row z1, zR_row z1, zR_row z1]
section
variable {x n M nr nc NW i q N u v o : Nat} {K : Sh} {I I' : Im} {J : Jm} {R R' : Rf} {w c d le la : Nat → Nat} {cs : Nat → List Nat} {E : List Nat} {P : List (Nat × Nat)}
theorem AF.cp (h : AF x E P I I') {j a m : Nat} (hj : j ∈ E) : AF x E P I (cpR (x + j) a m I') := by
  refine ⟨fun z z1 z2 => ?_, fun j' k h1 h2 => ?_⟩
  · rw [cpR_row (z1 j hj)]; exact h.1 z z1 z2
  · rw [cpR_row (fun e => h1 (by rw [show j' = j by omega]; exact hj))]; exact h.2 j' k h1 h2
theorem AF.zr (h : AF x E P I I') {j m : Nat} (hj : j ∈ E) : AF x E P I (zR (x + j) m I') := by
  refine ⟨fun z z1 z2 => ?_, fun j' k h1 h2 => ?_⟩
  · rw [zR_row (z1 j hj)]; exact h.1 z z1 z2
  · rw [zR_row (fun e => h1 (by rw [show j' = j by omega]; exact hj))]; exact h.2 j' k h1 h2
theorem m_copy2 {a b m : Nat} (ha : K a = (21, m)) (hb : K b = (21, m)) (hm : m < 1000) (hab : b ≠ a) : ∀ (r k f : Nat), k + r = m → r < f → f_X12_copy_2 K o f (some a) (some b) (nI k) (cpR b a k I) = some (cpR b a m I) := by
  have al : alen K (some b) = some (nI m) := by
    have := alen_ok (K := K) (a := b) (by rw [hb]; omega) (by rw [hb]; omega)
    rw [this, hb]
  intro r
  induction r with
  | zero =>
    intro k f e1 e2
    obtain ⟨f, rfl⟩ : ∃ f', f = f' + 1 := ⟨f - 1, by omega⟩
    have : k = m := by omega
    subst this
    unfold f_X12_copy_2
    rw [al, obs, if_pos (Int32.le_refl _)]
  | succ r ih =>
    intro k f e1 e2
    obtain ⟨f, rfl⟩ : ∃ f', f = f' + 1 := ⟨f - 1, by omega⟩
    unfold f_X12_copy_2
    rw [al, obs, if_neg (by rw [nI_leI (by omega) (by omega)]; omega), ldI_ok (by rw [ha]) (by rw [ha]; show k < m; omega) (by rw [ha]; show m < 2 ^ 31; omega), obs, stI_ok (by rw [hb]) (by rw [hb]; show k < m; omega) (by rw [hb]; show m < 2 ^ 31; omega), obs, cpR_row hab.symm, cpR_st, L1, nI_add]
    exact ih (k + 1) f (by omega) (by omega)
theorem m_copy {a b m : Nat} (ha : K a = (21, m)) (hb : K b = (21, m)) (hm : m < 1000) (hab : b ≠ a) (I : Im) : f_X12_copy K o (some a) (some b) I = some (cpR b a m I) := by
  have := m_copy2 (o := o) (I := I) ha hb hm hab m 0 FU (by omega) (FU_lt (by omega))
  rw [cpR_0] at this
  unfold f_X12_copy
  exact this
theorem c6_74 (hu : S6 u K R) (hv : S6 v K R) (huv : u ≠ v) : ∀ (r k f : Nat), k + r = 3 → r < f → f_X6_become_74 K u f (some v) (nI k) (cpR (u + 7) (v + 7) k I) R = some (cpR (u + 7) (v + 7) 3 I, R) := by
  have o1 : ob K 7 (some v) = some v := ob_ok (by rw [hv.1])
  intro r
  induction r with
  | zero =>
    intro k f e1 e2
    obtain ⟨f, rfl⟩ : ∃ f', f = f' + 1 := ⟨f - 1, by omega⟩
    have : k = 3 := by omega
    subst this
    unfold f_X6_become_74
    rw [if_pos (by decide)]
  | succ r ih =>
    intro k f e1 e2
    obtain ⟨f, rfl⟩ : ∃ f', f = f' + 1 := ⟨f - 1, by omega⟩
    unfold f_X6_become_74
    rw [if_neg (by rw [L3, nI_leI (by omega) (by omega)]; omega), o1, obs, l6_3 hv (by omega), obs, s6_3 hu (by omega), obs, cpR_row (by omega), cpR_st, L1, nI_add]
    exact ih (k + 1) f (by omega) (by omega)
theorem c6_37 (hu : S6 u K R) (hv : S6 v K R) (huv : u + 8 < v ∨ v + 8 < u) : ∀ (r k f : Nat), k + r = 5 → r < f → f_X6_become_37 K u f (some v) (nI k) (cpR (u + 6) (v + 6) k (cpR (u + 8) (v + 8) k I)) R = some (cpR (u + 7) (v + 7) 3 (cpR (u + 6) (v + 6) 5 (cpR (u + 8) (v + 8) 5 I)), R) := by
  have o1 : ob K 7 (some v) = some v := ob_ok (by rw [hv.1])
  intro r
  induction r with
  | zero =>
    intro k f e1 e2
    obtain ⟨f, rfl⟩ : ∃ f', f = f' + 1 := ⟨f - 1, by omega⟩
    have : k = 5 := by omega
    subst this
    unfold f_X6_become_37
    rw [if_pos (by decide)]
    have g := c6_74 (I := cpR (u + 6) (v + 6) 5 (cpR (u + 8) (v + 8) 5 I)) hu hv (by omega) 3 0 FU (by omega) (FU_lt (by omega))
    rw [cpR_0] at g
    exact g
  | succ r ih =>
    intro k f e1 e2
    obtain ⟨f, rfl⟩ : ∃ f', f = f' + 1 := ⟨f - 1, by omega⟩
    unfold f_X6_become_37
    rw [if_neg (by rw [L5, nI_leI (by omega) (by omega)]; omega), o1, obs, l6_2 hv (by omega), obs, s6_2 hu (by omega), obs, l6_5 hv (by omega), obs, s6_5 hu (by omega), obs]
    have q1 : cpR (u + 6) (v + 6) k (cpR (u + 8) (v + 8) k I) (v + 6) k = cpR (u + 8) (v + 8) k I (v + 6) k := by rw [cpR_row (by omega)]
    rw [q1, cpR_st]
    have q2 : cpR (u + 6) (v + 6) (k + 1) (cpR (u + 8) (v + 8) k I) (v + 8) k = I (v + 8) k := by rw [cpR_row (by omega), cpR_row (by omega)]
    rw [q2, cpR_cm (by omega) (by omega), cpR_st, L1, nI_add]
    exact ih (k + 1) f (by omega) (by omega)
theorem c6_become (hu : S6 u K (u2 R u 0 (R v 0))) (hv : S6 v K (u2 R u 0 (R v 0))) (hu1 : S10 (u + 1) K (u2 R u 0 (R v 0))) (hv1 : S10 (v + 1) K (u2 R u 0 (R v 0))) (huv : u + 8 < v ∨ v + 8 < u) (I : Im) : ∃ I1, f_X6_become K u (some v) I R = some (I1, u2 R u 0 (R v 0)) ∧ (∀ z, z ≠ u → (z < u + 2 ∨ u + 8 < z) → I1 z = I z) ∧ (∀ k, k ≠ 4 → k ≠ 6 → I1 u k = I u k) ∧ I1 u 4 = I v 4 ∧ I1 u 6 = I v 6 ∧ (∀ j, j < 5 → I1 (u + 2) j = I (v + 2) j ∧ I1 (u + 3) j = I (v + 3) j ∧ I1 (u + 4) j = I (v + 4) j ∧ I1 (u + 5) j = I (v + 5) j ∧ I1 (u + 6) j = I (v + 6) j ∧ I1 (u + 8) j = I (v + 8) j) ∧ ∀ j, j < 3 → I1 (u + 7) j = I (v + 7) j := by
  have o1 : ob K 7 (some v) = some v := ob_ok (by rw [hv.1])
  obtain ⟨I2, g0, g1, g2⟩ := c_become (P := fun I2 => (∀ z, z ≠ u + 2 → z ≠ u + 3 → z ≠ u + 4 → z ≠ u + 5 → I2 z = I z) ∧ ∀ j, j < 5 → I2 (u + 2) j = I (v + 2) j ∧ I2 (u + 3) j = I (v + 3) j ∧ I2 (u + 4) j = I (v + 4) j ∧ I2 (u + 5) j = I (v + 5) j) (I := I) hu1 hv1 (fun i j hi hj => by omega) (fun I2 a b => ⟨a, b⟩)
  have g := c6_37 (I := u2 (u2 I2 u 4 (I2 v 4)) u 6 (u2 I2 u 4 (I2 v 4) v 6)) hu hv huv 5 0 FU (by omega) (FU_lt (by omega))
  rw [cpR_0, cpR_0] at g
  refine ⟨cpR (u + 7) (v + 7) 3 (cpR (u + 6) (v + 6) 5 (cpR (u + 8) (v + 8) 5 (u2 (u2 I2 u 4 (I2 v 4)) u 6 (u2 I2 u 4 (I2 v 4) v 6)))), ?_, fun z z1 z2 => ?_, fun k k1 k2 => ?_, ?_, ?_, fun j hj => ⟨?_, ?_, ?_, ?_, ?_, ?_⟩, fun j hj => ?_⟩
  · unfold f_X6_become
    rw [o1, obs, obs, o6_1 hu, obs, r6_1 hv, g0, obs, obs, obs]
    exact g
  · rw [cpR_row (by omega), cpR_row (by omega), cpR_row (by omega), u2_row z1, u2_row z1, g1 z (by omega) (by omega) (by omega) (by omega)]
  · rw [cpR_row (by omega), cpR_row (by omega), cpR_row (by omega), u2_ne k2, u2_ne k1, g1 u (by omega) (by omega) (by omega) (by omega)]
  · rw [cpR_row (by omega), cpR_row (by omega), cpR_row (by omega), u2_ne (by omega), u2_eq, g1 v (by omega) (by omega) (by omega) (by omega)]
  · rw [cpR_row (by omega), cpR_row (by omega), cpR_row (by omega), u2_eq, u2_row (by omega), g1 v (by omega) (by omega) (by omega) (by omega)]
  · rw [cpR_row (by omega), cpR_row (by omega), cpR_row (by omega), u2_row (by omega), u2_row (by omega), (g2 j hj).1]
  · rw [cpR_row (by omega), cpR_row (by omega), cpR_row (by omega), u2_row (by omega), u2_row (by omega), (g2 j hj).2.1]
  · rw [cpR_row (by omega), cpR_row (by omega), cpR_row (by omega), u2_row (by omega), u2_row (by omega), (g2 j hj).2.2.1]
  · rw [cpR_row (by omega), cpR_row (by omega), cpR_row (by omega), u2_row (by omega), u2_row (by omega), (g2 j hj).2.2.2]
  · rw [cpR_row (by omega), cpR_lt hj, cpR_row (by omega), u2_row (by omega), u2_row (by omega), g1 _ (by omega) (by omega) (by omega) (by omega)]
  · rw [cpR_row (by omega), cpR_row (by omega), cpR_lt hj, u2_row (by omega), u2_row (by omega), g1 _ (by omega) (by omega) (by omega) (by omega)]
  · rw [cpR_lt hj, cpR_row (by omega), cpR_row (by omega), u2_row (by omega), u2_row (by omega), g1 _ (by omega) (by omega) (by omega) (by omega)]
end
