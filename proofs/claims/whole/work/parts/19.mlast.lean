def heldN (fu gi le la : Nat → Nat) (k h : Nat) : Nat := if la k < h then min (fu k) (le k + gi k * (h - la k)) else le k
section
variable {o : Nat} {K : Sh} {R : Rf}
theorem m_last8 (hM : S12 o K R) {i N : Nat} {w c d : Nat → Nat} {I : Im} {s e : Nat} (hs : s ≤ 5) (hi : i < 5) (hW : MW o i N w c d I) (ht : I o 1 = nI i) : ∀ (k n : Nat), N - n < k → n ≤ N → f_X12_last_8 K I R o k (nI s) (nI (laV w c s e n)) (nI (12 * i + n)) = some (nI (laV w c s e N)) := by
  intro k
  induction k with
  | zero => intro n h; omega
  | succ k ih =>
    intro n hk hn
    have hN := hW.2.2.1
    unfold f_X12_last_8
    rw [m_behind hM hi ht hW]
    by_cases h : n = N
    · subst h
      simp (disch := omega) only [L0, L1, L2, L3, L4, L5, L6, L7, L8, L9, L10, L11, L12, L13, L14, L15, L16, L17, L18, L19, L20, L21, L22, L23, L24, L25, L26, L27, L28, L29, L30, L31, L32, L33, L34, L35, L36, L37, L38, L39, L40, L48, L57, L59, L60, L62, L96, L97, L98, L99, L100, L104, L110, L119, L124, L500, L999, L1000, L2000, L3000, nI_add, pk_mul, pk_sub, nI_leI, nI_ltI, nI_eq, obs, u2_eq, u2_row, u2_ne, if_pos, if_neg, if_true, if_false, eq_self]
    · obtain ⟨h3, h3b, h4, -⟩ := hW.2.2.2 n (by omega)
      have hx := ih (n + 1) (by omega) (by omega)
      simp only [laV] at hx
      by_cases q : w n = s
      · rw [if_pos q] at hx
        unfold f_X12_last_39
        simp (disch := omega) only [L0, L1, L2, L3, L4, L5, L6, L7, L8, L9, L10, L11, L12, L13, L14, L15, L16, L17, L18, L19, L20, L21, L22, L23, L24, L25, L26, L27, L28, L29, L30, L31, L32, L33, L34, L35, L36, L37, L38, L39, L40, L48, L57, L59, L60, L62, L96, L97, L98, L99, L100, L104, L110, L119, L124, L500, L999, L1000, L2000, L3000, nI_add, pk_mul, pk_sub, nI_leI, nI_ltI, nI_eq, obs, u2_eq, u2_row, u2_ne, if_pos, if_neg, if_true, if_false, eq_self, l12_7 hM, l12_8 hM, h3, h4, Nat.add_assoc]
        exact hx
      · rw [if_neg q] at hx
        unfold f_X12_last_39
        simp (disch := omega) only [L0, L1, L2, L3, L4, L5, L6, L7, L8, L9, L10, L11, L12, L13, L14, L15, L16, L17, L18, L19, L20, L21, L22, L23, L24, L25, L26, L27, L28, L29, L30, L31, L32, L33, L34, L35, L36, L37, L38, L39, L40, L48, L57, L59, L60, L62, L96, L97, L98, L99, L100, L104, L110, L119, L124, L500, L999, L1000, L2000, L3000, nI_add, pk_mul, pk_sub, nI_leI, nI_ltI, nI_eq, obs, u2_eq, u2_row, u2_ne, if_pos, if_neg, if_true, if_false, eq_self, l12_7 hM, l12_8 hM, h3, h4, Nat.add_assoc]
        exact hx
theorem m_last (hM : S12 o K R) {i N : Nat} {w c d : Nat → Nat} {I : Im} {s e : Nat} (hs : s ≤ 5) (hi : i < 5) (hW : MW o i N w c d I) (ht : I o 1 = nI i) : f_X12_last K I R o (nI s) (nI e) = some (nI (laV w c s e N)) := by
  unfold f_X12_last
  rw [m_first hi ht, obs]
  have h := m_last8 hM (e := e) hs hi hW ht FU 0 (FU_lt (by have := hW.2.2.1; omega)) (by omega)
  simp only [laV, Nat.add_zero] at h
  exact h
theorem m_heldBy (hM : S12 o K R) {I : Im} {fu gi le la : Nat → Nat} {k h : Nat} (hk : k < 6) (h1 : I (o + 14) k = nI (fu k)) (h2 : I (o + 15) k = nI (gi k)) (h3 : I (o + 17) k = nI (le k)) (h4 : I (o + 18) k = nI (la k)) (b1 : fu k ≤ 99) (b2 : gi k ≤ 99) (b3 : le k ≤ 99) (b4 : la k ≤ 1000000) (b5 : h ≤ 1000000) : f_X12_heldBy K I R o (nI k) (nI h) = some (nI (heldN fu gi le la k h)) := by
  unfold f_X12_heldBy heldN
  by_cases q : la k < h
  · have hp : gi k * (h - la k) ≤ 99 * 1000000 := Nat.mul_le_mul b2 (by omega)
    rw [if_pos q]
    simp (disch := omega) only [L0, L1, L2, L3, L4, L5, L6, L7, L8, L9, L10, L11, L12, L13, L14, L15, L16, L17, L18, L19, L20, L21, L22, L23, L24, L25, L26, L27, L28, L29, L30, L31, L32, L33, L34, L35, L36, L37, L38, L39, L40, L48, L57, L59, L60, L62, L96, L97, L98, L99, L100, L104, L110, L119, L124, L500, L999, L1000, L2000, L3000, nI_add, pk_mul, pk_sub, nI_leI, nI_ltI, nI_eq, obs, u2_eq, u2_row, u2_ne, if_pos, if_neg, if_true, if_false, eq_self, l12_26 hM, l12_22 hM, l12_25 hM, l12_23 hM, h1, h2, h3, h4, m_min]
  · rw [if_neg q]
    simp (disch := omega) only [L0, L1, L2, L3, L4, L5, L6, L7, L8, L9, L10, L11, L12, L13, L14, L15, L16, L17, L18, L19, L20, L21, L22, L23, L24, L25, L26, L27, L28, L29, L30, L31, L32, L33, L34, L35, L36, L37, L38, L39, L40, L48, L57, L59, L60, L62, L96, L97, L98, L99, L100, L104, L110, L119, L124, L500, L999, L1000, L2000, L3000, nI_add, pk_mul, pk_sub, nI_leI, nI_ltI, nI_eq, obs, u2_eq, u2_row, u2_ne, if_pos, if_neg, if_true, if_false, eq_self, l12_26 hM, l12_25 hM, h3, h4]
end
