/-! THE CALLS. Numbers in a range -/
theorem rg (v : Int32) (a b : Nat) (ha : a < 2 ^ 31) (hb : b < 2 ^ 31) : (∃ m, v = nI m ∧ a ≤ m ∧ m ≤ b ∧ f_X11_within v (nI a) (nI b) = some (nI 1) ∧ ∀ o, f_X12_in o v (nI a) (nI b) = some (nI 1)) ∨ (f_X11_within v (nI a) (nI b) = some (nI 0) ∧ (∀ o, f_X12_in o v (nI a) (nI b) = some (nI 0)) ∧ ∀ m, v = nI m → m < 2 ^ 31 → ¬ (a ≤ m ∧ m ≤ b)) := by
  have hv := j_of v
  have b1 := Int32.le_toInt v
  have b2 := Int32.toInt_lt v
  generalize hz : v.toInt = z at hv b1 b2
  have c1 : v < nI a ↔ z < a := by rw [hv, nI_jI, jlt (by omega) (by omega)]
  have c2 : nI b < v ↔ (b : Int) < z := by rw [hv, nI_jI, jlt (by omega) (by omega)]
  unfold f_X11_within f_X12_in
  by_cases q1 : z < a
  · refine Or.inr ⟨by rw [if_pos (c1.mpr q1)]; rfl, fun o => by rw [if_pos (c1.mpr q1)]; rfl, fun m hm hm2 => ?_⟩
    have : z = m := by rw [← hz, hm, nI_toInt hm2]
    omega
  · by_cases q2 : (b : Int) < z
    · refine Or.inr ⟨by rw [if_neg (fun c => q1 (c1.mp c)), if_pos (c2.mpr q2)]; rfl, fun o => by rw [if_neg (fun c => q1 (c1.mp c)), if_pos (c2.mpr q2)]; rfl, fun m hm hm2 => ?_⟩
      have : z = m := by rw [← hz, hm, nI_toInt hm2]
      omega
    · refine Or.inl ⟨z.toNat, ?_, by omega, by omega, by rw [if_neg (fun c => q1 (c1.mp c)), if_neg (fun c => q2 (c2.mp c))]; rfl, fun o => by rw [if_neg (fun c => q1 (c1.mp c)), if_neg (fun c => q2 (c2.mp c))]; rfl⟩
      rw [hv, nI_jI, Int.toNat_of_nonneg (by omega)]
theorem one_and : (if nI 1 &&& 1 = nI 1 then some (nI 1) else none) = some (nI 1) := rfl
theorem zero_and : (if nI 0 &&& 1 = nI 0 then some (nI 0) else none) = some (nI 0) := rfl
theorem one_andN : (if nI 1 &&& nI 1 = nI 1 then some (nI 1) else none) = some (nI 1) := rfl
theorem zero_andN : (if nI 0 &&& nI 1 = nI 0 then some (nI 0) else none) = some (nI 0) := rfl
theorem jneg1 : (-1 : Int32) = jI (-1) := rfl
section
variable {Z : Nat → Nat} {x n M nr nc NW : Nat} {K : Sh} {I : Im} {J : Jm} {R : Rf}
/-- is it the number of one of m things -/
theorem at_lt (v : Int32) (m : Nat) (hm : m < 1000) : (∃ k, v = nI k ∧ k < m ∧ ¬ (v < nI 0) ∧ ¬ (nI m ≤ v) ∧ ∀ o, f_X12_in o v (nI 0) (nI m - nI 1) = some (nI 1)) ∨ ((v < nI 0 ∨ (¬ (v < nI 0) ∧ nI m ≤ v)) ∧ ∀ o, f_X12_in o v (nI 0) (nI m - nI 1) = some (nI 0)) := by
  have hv := j_of v
  have b1 := Int32.le_toInt v
  have b2 := Int32.toInt_lt v
  generalize hz : v.toInt = z at hv b1 b2
  have c1 : v < nI 0 ↔ z < 0 := by rw [hv, nI_jI, jlt (by omega) (by omega)]; rfl
  have c2 : nI m ≤ v ↔ (m : Int) ≤ z := by rw [hv, nI_jI, jle (by omega) (by omega)]
  have c3 : nI m - nI 1 < v ↔ (m : Int) - 1 < z := by rw [hv, nI_jI, nI_jI, jsub, jlt (by omega) (by omega)]; omega
  unfold f_X12_in
  by_cases q1 : z < 0
  · exact Or.inr ⟨Or.inl (c1.mpr q1), fun o => by rw [if_pos (c1.mpr q1)]; rfl⟩
  · by_cases q2 : (m : Int) ≤ z
    · exact Or.inr ⟨Or.inr ⟨fun c => q1 (c1.mp c), c2.mpr q2⟩, fun o => by rw [if_neg (fun c => q1 (c1.mp c)), if_pos (c3.mpr (by omega))]; rfl⟩
    · refine Or.inl ⟨z.toNat, ?_, by omega, fun c => q1 (c1.mp c), fun c => q2 (c2.mp c), fun o => ?_⟩
      · rw [hv, nI_jI, Int.toNat_of_nonneg (by omega)]
      · rw [if_neg (fun c => q1 (c1.mp c)), if_neg (fun c => by have := c3.mp c; omega)]; rfl
theorem car_at (hC : CSH x K R) (h : RelG Z x n M nr nc NW K I J R) (v : Int32) : (∃ k a b st r ra, v = nI k ∧ k < nc ∧ CarR x nr k n a b st r ra K I R ∧ f_X11_caravanAt K I R x v = some (some a) ∧ f_X12_isCaravan K I (x + 62) v = some (nI 1)) ∨ (f_X11_caravanAt K I R x v = some none ∧ f_X12_isCaravan K I (x + 62) v = some (nI 0)) := by
  obtain ⟨⟨h1, h2, h3, h4, h5, h6, h7, h8, h9⟩, hr, hc, -⟩ := h
  rcases at_lt v nc (by omega) with ⟨k, q1, q2, q3, q4, q5⟩ | ⟨q1, q2⟩
  · obtain ⟨a, b, st, r, ra, hz⟩ := hc k q2
    refine Or.inl ⟨k, a, b, st, r, ra, q1, q2, hz, ?_, ?_⟩
    · unfold f_X11_caravanAt
      rw [h8, L0, if_neg q3, if_neg q4, q1, l11_5 (cS11 hC) (by omega), obs, hz.1]
    · unfold f_X12_isCaravan
      rw [h9, L0, L1, q5, obs, one_andN]
      rfl
  · refine Or.inr ⟨?_, ?_⟩
    · unfold f_X11_caravanAt
      rw [h8, L0]
      rcases q1 with q1 | ⟨q1, q3⟩
      · rw [if_pos q1]
      · rw [if_neg q1, if_pos q3]
    · unfold f_X12_isCaravan
      rw [h9, L0, L1, q2, obs, zero_andN]
      rfl
theorem rule_at (hC : CSH x K R) (h : RelG Z x n M nr nc NW K I J R) (v : Int32) : (∃ r a kd vv rn rw_, v = nI r ∧ r < nr ∧ RuleR x r n a kd vv rn rw_ K I R ∧ f_X11_ruleAt K I R x v = some (some a) ∧ f_X12_isRule K I (x + 62) v = some (nI 1)) ∨ (f_X11_ruleAt K I R x v = some none ∧ f_X12_isRule K I (x + 62) v = some (nI 0)) := by
  obtain ⟨⟨h1, h2, h3, h4, h5, h6, h7, h8, h9⟩, hr, hc, -⟩ := h
  rcases at_lt v nr (by omega) with ⟨k, q1, q2, q3, q4, q5⟩ | ⟨q1, q2⟩
  · obtain ⟨a, kd, vv, rn, rw_, hz⟩ := hr k q2
    refine Or.inl ⟨k, a, kd, vv, rn, rw_, q1, q2, hz, ?_, ?_⟩
    · unfold f_X11_ruleAt
      rw [h6, L0, if_neg q3, if_neg q4, q1, l11_3 (cS11 hC) (by omega), obs, hz.1]
    · unfold f_X12_isRule
      rw [h7, L0, L1, q5, obs, one_andN]
      rfl
  · refine Or.inr ⟨?_, ?_⟩
    · unfold f_X11_ruleAt
      rw [h6, L0]
      rcases q1 with q1 | ⟨q1, q3⟩
      · rw [if_pos q1]
      · rw [if_neg q1, if_pos q3]
    · unfold f_X12_isRule
      rw [h7, L0, L1, q2, obs, zero_andN]
      rfl
theorem hour_at (v : Int32) : (∃ m, v = nI m ∧ m ≤ 999 ∧ f_X11_within v 0 999 = some (nI 1) ∧ ∀ o, f_X12_isHour K o v = some (nI 1)) ∨ (f_X11_within v 0 999 = some (nI 0) ∧ ∀ o, f_X12_isHour K o v = some (nI 0)) := by
  rcases rg v 0 999 (by omega) (by omega) with ⟨m, q1, q2, q3, q4, q5⟩ | ⟨q1, q2, q3⟩
  · refine Or.inl ⟨m, q1, q3, q4, fun o => ?_⟩
    unfold f_X12_isHour
    have := q5 o
    rw [show (0 : Int32) = nI 0 from rfl, show (999 : Int32) = nI 999 from rfl, this, obs, one_and]
    rfl
  · refine Or.inr ⟨q1, fun o => ?_⟩
    unfold f_X12_isHour
    have := q2 o
    rw [show (0 : Int32) = nI 0 from rfl, show (999 : Int32) = nI 999 from rfl, this, obs, zero_and]
    rfl
/-- what lies behind lay() -/
theorem lay_R (hM : S12 (x + 62) K R) {s i q N : Nat} {w c d le la : Nat → Nat} {cs : Nat → List Nat} {P : Im → Prop} (hi : i < 5) (ht : I (x + 62) 1 = nI i) (h : NowR x s i q n M N (x + 73) (x + 74) w c d cs le la K I R) (kk : ∀ I1, FM (x + 62) layS [21] I I1 → LayG (x + 62) (wlN w N) M I1 (wlV w c N) (wlV w d N) (wyV w c N) le la → P I1) : Ok (f_X12_lay K R (x + 62) I) P := by
  obtain ⟨h1, ⟨g1, g2, g3, g4, g5, g6, g7⟩, h3, h4, h5⟩ := h
  refine m_lay hM hi g1 ht (fun I1 F L1 L2 => kk I1 F ⟨L1.1, wlN_le _ _, fun k hk => ?_, fun k hk => ⟨L1.2.2 k (by have := wlN_le w N; omega), (wyV_b (fun m hm hw => (g1.2.2.2 m hm).2.2.2.2.1 hw) k).2⟩⟩)
  obtain ⟨z1, z2, z3, z4, z5, z6, z7, z8⟩ := h5 k hk
  obtain ⟨y1, y2⟩ := L1.2.1 k hk
  obtain ⟨e1, e2⟩ := L2 k hk
  exact ⟨y1, wlV_le (fun m hm _ => (g1.2.2.2 m hm).2.2.2.1) k, y2, wlV_le (fun m hm hw => ((g1.2.2.2 m hm).2.2.2.2.2 hw).2) k, by rw [e1]; exact z4, z5, by rw [e2]; exact z7, z8⟩
end
