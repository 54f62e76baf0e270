/-! THE CLASS: wells, rules -/
def WellsC (o : Nat) (I : Im) (W : Nat) (fu gi le la : Nat → Nat) : Prop := ∀ k, k < W → I (o + 1) k = nI (fu k) ∧ fu k ≤ 99 ∧ I (o + 2) k = nI (gi k) ∧ gi k ≤ 99 ∧ I (o + 3) k = nI (le k) ∧ le k ≤ 99 ∧ I (o + 4) k = nI (la k)
section
variable {o : Nat} {K : Sh} {R : Rf} {I : Im}
theorem c_held (hS : S10 o K R) {k h : Nat} {fu gi le la : Nat → Nat} (hk : k < 5) (h1 : I (o + 1) k = nI (fu k)) (h2 : I (o + 2) k = nI (gi k)) (h3 : I (o + 3) k = nI (le k)) (h4 : I (o + 4) k = nI (la k)) (b1 : fu k ≤ 99) (b2 : gi k ≤ 99) (b3 : le k ≤ 99) (b4 : la k ≤ 1000000) (b5 : h ≤ 1000000) : f_X10_heldAt K I R o (nI k) (nI h) = some (nI (heldN fu gi le la k h)) := by
  unfold f_X10_heldAt heldN
  by_cases q : la k < h
  · have hp : gi k * (h - la k) ≤ 99 * 1000000 := Nat.mul_le_mul b2 (by omega)
    rw [if_pos q]
    by_cases q2 : fu k ≤ le k + gi k * (h - la k)
    · rw [Nat.min_eq_left q2]
      simp (disch := omega) only [L0, L1, L2, L3, L4, L5, L6, L7, L8, L9, L10, L11, L12, L13, L14, L15, L16, L17, L18, L19, L20, L21, L22, L23, L24, L25, L26, L27, L28, L29, L30, L31, L32, L33, L34, L35, L36, L37, L38, L39, L40, L48, L57, L59, L60, L62, L96, L97, L98, L99, L100, L104, L110, L119, L124, L500, L999, L1000, L2000, L3000, nI_add, pk_mul, pk_sub, nI_leI, nI_ltI, nI_eq, obs, u2_eq, u2_row, u2_ne, if_pos, if_neg, if_true, if_false, eq_self, l10_3 hS, l10_2 hS, l10_1 hS, l10_0 hS, h1, h2, h3, h4]
    · rw [Nat.min_eq_right (by omega)]
      simp (disch := omega) only [L0, L1, L2, L3, L4, L5, L6, L7, L8, L9, L10, L11, L12, L13, L14, L15, L16, L17, L18, L19, L20, L21, L22, L23, L24, L25, L26, L27, L28, L29, L30, L31, L32, L33, L34, L35, L36, L37, L38, L39, L40, L48, L57, L59, L60, L62, L96, L97, L98, L99, L100, L104, L110, L119, L124, L500, L999, L1000, L2000, L3000, nI_add, pk_mul, pk_sub, nI_leI, nI_ltI, nI_eq, obs, u2_eq, u2_row, u2_ne, if_pos, if_neg, if_true, if_false, eq_self, l10_3 hS, l10_2 hS, l10_1 hS, l10_0 hS, h1, h2, h3, h4]
  · rw [if_neg q]
    simp (disch := omega) only [L0, L1, L2, L3, L4, L5, L6, L7, L8, L9, L10, L11, L12, L13, L14, L15, L16, L17, L18, L19, L20, L21, L22, L23, L24, L25, L26, L27, L28, L29, L30, L31, L32, L33, L34, L35, L36, L37, L38, L39, L40, L48, L57, L59, L60, L62, L96, L97, L98, L99, L100, L104, L110, L119, L124, L500, L999, L1000, L2000, L3000, nI_add, pk_mul, pk_sub, nI_leI, nI_ltI, nI_eq, obs, u2_eq, u2_row, u2_ne, if_pos, if_neg, if_true, if_false, eq_self, l10_3 hS, l10_2 hS, h3, h4]
theorem imin_nI {a b : Nat} (ha : a < 2 ^ 31) (hb : b < 2 ^ 31) : imin (nI a) (nI b) = nI (min a b) := by
  unfold imin
  by_cases h : b < a
  · simp (disch := omega) only [L0, L1, L2, L3, L4, L5, L6, L7, L8, L9, L10, L11, L12, L13, L14, L15, L16, L17, L18, L19, L20, L21, L22, L23, L24, L25, L26, L27, L28, L29, L30, L31, L32, L33, L34, L35, L36, L37, L38, L39, L40, L48, L57, L59, L60, L62, L96, L97, L98, L99, L100, L104, L110, L119, L124, L500, L999, L1000, L2000, L3000, nI_add, pk_mul, pk_sub, nI_leI, nI_ltI, nI_eq, obs, u2_eq, u2_row, u2_ne, if_pos, if_neg, if_true, if_false, eq_self]
    rw [Nat.min_eq_right (by omega)]
  · simp (disch := omega) only [L0, L1, L2, L3, L4, L5, L6, L7, L8, L9, L10, L11, L12, L13, L14, L15, L16, L17, L18, L19, L20, L21, L22, L23, L24, L25, L26, L27, L28, L29, L30, L31, L32, L33, L34, L35, L36, L37, L38, L39, L40, L48, L57, L59, L60, L62, L96, L97, L98, L99, L100, L104, L110, L119, L124, L500, L999, L1000, L2000, L3000, nI_add, pk_mul, pk_sub, nI_leI, nI_ltI, nI_eq, obs, u2_eq, u2_row, u2_ne, if_pos, if_neg, if_true, if_false, eq_self]
    rw [Nat.min_eq_left (by omega)]
theorem c_draw (hS : S10 o K R) {k h n : Nat} {fu gi le la : Nat → Nat} (hk : k < 5) (h1 : I (o + 1) k = nI (fu k)) (h2 : I (o + 2) k = nI (gi k)) (h3 : I (o + 3) k = nI (le k)) (h4 : I (o + 4) k = nI (la k)) (b1 : fu k ≤ 99) (b2 : gi k ≤ 99) (b3 : le k ≤ 99) (b4 : la k ≤ 1000000) (b5 : h ≤ 1000000) (b6 : n ≤ 1000000) : f_X10_draw K R o (nI k) (nI h) (nI n) I = some (nI (min (heldN fu gi le la k h) n), u2 (u2 I (o + 3) k (nI (heldN fu gi le la k h - min (heldN fu gi le la k h) n))) (o + 4) k (nI h)) := by
  have hl := heldN_le (gi := gi) (la := la) (h := h) b1 b3
  unfold f_X10_draw
  simp (disch := omega) only [L0, L1, L2, L3, L4, L5, L6, L7, L8, L9, L10, L11, L12, L13, L14, L15, L16, L17, L18, L19, L20, L21, L22, L23, L24, L25, L26, L27, L28, L29, L30, L31, L32, L33, L34, L35, L36, L37, L38, L39, L40, L48, L57, L59, L60, L62, L96, L97, L98, L99, L100, L104, L110, L119, L124, L500, L999, L1000, L2000, L3000, nI_add, pk_mul, pk_sub, nI_leI, nI_ltI, nI_eq, obs, u2_eq, u2_row, u2_ne, if_pos, if_neg, if_true, if_false, eq_self, c_held hS hk h1 h2 h3 h4 b1 b2 b3 b4 b5, imin_nI, s10_2 hS, s10_3 hS]
end
