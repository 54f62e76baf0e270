/-! THE REFERENCE'S TABLES: what it keeps of a waste i -/
def MW (o i N : Nat) (w c d : Nat → Nat) (I : Im) : Prop :=
  I (o + 2) i = nI N ∧ 1 ≤ N ∧ N ≤ 12 ∧ ∀ n, n < N → I (o + 3) (12 * i + n) = nI (w n) ∧ w n ≤ 5 ∧ I (o + 4) (12 * i + n) = nI (c n) ∧ c n ≤ 99 ∧ (w n = 1 → c n ≤ 9) ∧ (w n = 0 → I (o + 5) (12 * i + n) = nI (d n) ∧ d n ≤ 99)
section
variable {o : Nat} {K : Sh} {R : Rf}
theorem m_first {I : Im} {i : Nat} (hi : i < 5) (ht : I o 1 = nI i) : f_X12_first K I o = some (nI (12 * i)) := by
  unfold f_X12_first
  rw [ht]
  simp (disch := omega) only [L0, L1, L2, L3, L4, L5, L6, L7, L8, L9, L10, L11, L12, L13, L14, L15, L16, L17, L18, L19, L20, L21, L22, L23, L24, L25, L26, L27, L28, L29, L30, L31, L32, L33, L34, L35, L36, L37, L38, L39, L40, L48, L57, L59, L60, L62, L96, L97, L98, L99, L100, L104, L110, L119, L124, L500, L999, L1000, nI_add, pk_mul, pk_sub, nI_leI, nI_ltI, nI_eq, Option.bind_some, if_pos, if_neg]
theorem m_behind (hM : S12 o K R) {I : Im} {i N : Nat} {w c d : Nat → Nat} (hi : i < 5) (ht : I o 1 = nI i) (hW : MW o i N w c d I) : f_X12_behind K I R o = some (nI (12 * i + N)) := by
  unfold f_X12_behind
  rw [ht]
  simp (disch := omega) only [L0, L1, L2, L3, L4, L5, L6, L7, L8, L9, L10, L11, L12, L13, L14, L15, L16, L17, L18, L19, L20, L21, L22, L23, L24, L25, L26, L27, L28, L29, L30, L31, L32, L33, L34, L35, L36, L37, L38, L39, L40, L48, L57, L59, L60, L62, L96, L97, L98, L99, L100, L104, L110, L119, L124, L500, L999, L1000, nI_add, pk_mul, pk_sub, nI_leI, nI_ltI, nI_eq, Option.bind_some, if_pos, if_neg, l12_6 hM hi, hW.1]
theorem m_min {a b : Nat} (ha : a < 2 ^ 31) (hb : b < 2 ^ 31) : f_X12_min o (nI a) (nI b) = some (nI (min a b)) := by
  unfold f_X12_min
  by_cases h : b ≤ a
  · simp (disch := omega) only [L0, L1, L2, L3, L4, L5, L6, L7, L8, L9, L10, L11, L12, L13, L14, L15, L16, L17, L18, L19, L20, L21, L22, L23, L24, L25, L26, L27, L28, L29, L30, L31, L32, L33, L34, L35, L36, L37, L38, L39, L40, L48, L57, L59, L60, L62, L96, L97, L98, L99, L100, L104, L110, L119, L124, L500, L999, L1000, nI_add, pk_mul, pk_sub, nI_leI, nI_ltI, nI_eq, Option.bind_some, if_pos, if_neg]
    rw [Nat.min_eq_right h]
  · simp (disch := omega) only [L0, L1, L2, L3, L4, L5, L6, L7, L8, L9, L10, L11, L12, L13, L14, L15, L16, L17, L18, L19, L20, L21, L22, L23, L24, L25, L26, L27, L28, L29, L30, L31, L32, L33, L34, L35, L36, L37, L38, L39, L40, L48, L57, L59, L60, L62, L96, L97, L98, L99, L100, L104, L110, L119, L124, L500, L999, L1000, nI_add, pk_mul, pk_sub, nI_leI, nI_ltI, nI_eq, Option.bind_some, if_pos, if_neg]
    rw [Nat.min_eq_left (by omega)]
theorem m_lay9 (hM : S12 o K R) : ∀ (k j : Nat) (I I' : Im) (x : Int32), 7 - j < k → j ≤ 7 → (∀ q, q < j → I (o + 16) q = nI 3) → (∀ I1, FM o [16] [] I I1 → (∀ q, q < 7 → I1 (o + 16) q = nI 3) → ∀ q, f_X12_first K I1 o = some q → f_X12_lay_33 K R o FU x q I1 = some I') → (∃ q, ∀ I1, I1 o = I o → f_X12_first K I1 o = some q) → f_X12_lay_9 K R o k x (nI j) I = some I' := by
  intro k
  induction k with
  | zero => intro j I I' x h; omega
  | succ k ih =>
    intro j I I' x hk hj hz kk hf
    unfold f_X12_lay_9
    by_cases h : j = 7
    · obtain ⟨q, hq⟩ := hf
      subst h
      simp (disch := omega) only [L0, L1, L2, L3, L4, L5, L6, L7, L8, L9, L10, L11, L12, L13, L14, L15, L16, L17, L18, L19, L20, L21, L22, L23, L24, L25, L26, L27, L28, L29, L30, L31, L32, L33, L34, L35, L36, L37, L38, L39, L40, L48, L57, L59, L60, L62, L96, L97, L98, L99, L100, L104, L110, L119, L124, L500, L999, L1000, nI_add, pk_mul, pk_sub, nI_leI, nI_ltI, nI_eq, Option.bind_some, if_pos, if_neg, hq I rfl]
      exact kk I FM.refl hz q (hq I rfl)
    · simp (disch := omega) only [L0, L1, L2, L3, L4, L5, L6, L7, L8, L9, L10, L11, L12, L13, L14, L15, L16, L17, L18, L19, L20, L21, L22, L23, L24, L25, L26, L27, L28, L29, L30, L31, L32, L33, L34, L35, L36, L37, L38, L39, L40, L48, L57, L59, L60, L62, L96, L97, L98, L99, L100, L104, L110, L119, L124, L500, L999, L1000, nI_add, pk_mul, pk_sub, nI_leI, nI_ltI, nI_eq, Option.bind_some, if_pos, if_neg, s12_24 hM]
      refine ih (j + 1) _ I' x (by omega) (by omega) (fun q hq => ?_) (fun I1 h1 h2 => ?_) ?_
      · by_cases e : q = j
        · subst e; exact u2_eq _ _ _ _
        · rw [u2_ne e]; exact hz q (by omega)
      · exact kk I1 ((FM.st FM.refl (by decide)).trans h1) h2
      · obtain ⟨q, hq⟩ := hf
        exact ⟨q, fun I1 h1 => hq I1 (h1.trans (u2_row (by omega)))⟩
end
