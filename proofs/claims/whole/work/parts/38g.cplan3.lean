theorem grN_out {e : PE} {t : Nat} : ∀ f k h w j, k + f ≤ j → grN e t f k h w j = 0 := by
  intro f
  induction f with
  | zero => intro k h w j _; rfl
  | succ f ih =>
    intro k h w j hj
    simp only [grN]
    rw [if_neg (by omega)]
    split
    · exact ih _ _ _ _ (by omega)
    · rfl
section
variable {p q u b start sdw cy W M : Nat} {K : Sh} {R : Rf} {hr fu gi le la : Nat → Nat} {d1 : Nat → Nat → Nat → Nat}
def OnlyP (p i : Nat) (I I1 : Im) : Prop := ∀ z, z ≠ p + i → I1 z = I z
theorem PLs.op {I I1 : Im} {i : Nat} (h : PLs p q u b start sdw cy W M K I R hr fu gi le la d1) (ho : OnlyP p i I I1) (hi : i = 1 ∨ i = 3 ∨ i = 4) : PLs p q u b start sdw cy W M K I1 R hr fu gi le la d1 :=
  h.congr (fun z z1 z2 z3 z4 => ho z (by rcases hi with rfl | rfl | rfl <;> assumption)) (by rw [ho p (by omega)]) (by rw [ho p (by omega)]) (by rw [ho p (by omega)])
theorem c_plan118 {t k : Nat} {r112 : Int32 → Im → Option Im} {P : Im → Prop} (hk : k < W) : ∀ (n i f : Nat) (I : Im), i + n = 6 * k + 1 → n < f → PLs p q u b start sdw cy W M K I R hr fu gi le la d1 → (∀ k', k < k' → k' ≤ W → RowL p k' W t (peC la hr fu gi le d1 b sdw cy) (FN la hr start k') (6 * k') I) → (∀ j, j < i → I (p + 4) (k * 31 + j) = nI (LN (peC la hr fu gi le d1 b sdw cy) t (W - k) k (FN la hr start k + j))) →
    (∀ I1, OnlyP p 4 I I1 → (∀ k', k ≤ k' → k' ≤ W → RowL p k' W t (peC la hr fu gi le d1 b sdw cy) (FN la hr start k') (6 * k') I1) → Ok (r112 (nI k - nI 1) I1) P) →
    Ok (f_X3_plan_118 K R p r112 f (nI k) (nI i) I) P := by
  intro n
  induction n with
  | zero =>
    intro i f I hs hf hL hRL hz kk
    obtain ⟨f, rfl⟩ : ∃ f', f = f' + 1 := ⟨f - 1, by omega⟩
    have hW5 : W ≤ 5 := hL.1.2.2.2.2.1.2.2.1
    have g := kk I (fun _ _ => rfl) (fun k' h1 h2 => by
      by_cases c : k' = k
      · subst c; exact fun j hj => hz j (by omega)
      · exact hRL k' (by omega) h2)
    unfold f_X3_plan_118
    (repeat (first | ((with_reducible apply Ok.st); (focus (first | (simp (disch := omega) only [L0, L1, L2, L3, L4, L5, L6, L7, L8, L9, L10, L11, L12, L13, L14, L15, L16, L17, L18, L19, L20, L21, L22, L23, L24, L25, L26, L27, L28, L29, L30, L31, L32, L33, L34, L35, L36, L37, L38, L39, L40, L48, L57, L59, L60, L62, L96, L97, L98, L99, L100, L104, L110, L119, L124, L500, L999, L1000, L2000, L3000, nI_add, pk_mul, pk_sub, nI_leI, nI_ltI, nI_eq, obs, u2_eq, u2_row, u2_ne, if_pos, if_neg, if_true, if_false, eq_self, ne_eq, not_true_eq_false, not_false_eq_true]; with_reducible exact rfl) | (with_reducible exact rfl)))) | ((with_reducible apply Ok.itT); (focus (simp (disch := omega) only [L0, L1, L2, L3, L4, L5, L6, L7, L8, L9, L10, L11, L12, L13, L14, L15, L16, L17, L18, L19, L20, L21, L22, L23, L24, L25, L26, L27, L28, L29, L30, L31, L32, L33, L34, L35, L36, L37, L38, L39, L40, L48, L57, L59, L60, L62, L96, L97, L98, L99, L100, L104, L110, L119, L124, L500, L999, L1000, L2000, L3000, nI_add, pk_mul, pk_sub, nI_leI, nI_ltI, nI_eq, obs, u2_eq, u2_row, u2_ne, if_pos, if_neg, if_true, if_false, eq_self, ne_eq, not_true_eq_false, not_false_eq_true] <;> omega))) | ((with_reducible apply Ok.itF); (focus (simp (disch := omega) only [L0, L1, L2, L3, L4, L5, L6, L7, L8, L9, L10, L11, L12, L13, L14, L15, L16, L17, L18, L19, L20, L21, L22, L23, L24, L25, L26, L27, L28, L29, L30, L31, L32, L33, L34, L35, L36, L37, L38, L39, L40, L48, L57, L59, L60, L62, L96, L97, L98, L99, L100, L104, L110, L119, L124, L500, L999, L1000, L2000, L3000, nI_add, pk_mul, pk_sub, nI_leI, nI_ltI, nI_eq, obs, u2_eq, u2_row, u2_ne, if_pos, if_neg, if_true, if_false, eq_self, ne_eq, not_true_eq_false, not_false_eq_true] <;> omega)))))
    rw [L1]
    exact g
  | succ n ih =>
    intro i f I hs hf hL hRL hz kk
    obtain ⟨f, rfl⟩ : ∃ f', f = f' + 1 := ⟨f - 1, by omega⟩
    have hW5 : W ≤ 5 := hL.1.2.2.2.2.1.2.2.1
    have hS3 := hL.1.1
    have h6 := c_leastAt6 hL hk (by omega : i ≤ 6 * k) (Nat.le_refl _) (hRL (k + 1) (by omega) (by omega)) 7 0 FU rfl (FU_lt (by omega))
    have hLN : LN (peC la hr fu gi le d1 b sdw cy) t (W - k) k (FN la hr start k + i) = mlN (needS (peC la hr fu gi le d1 b sdw cy) (LN (peC la hr fu gi le d1 b sdw cy) t (W - (k + 1)) (k + 1)) k (FN la hr start k + i)) 7 := by
      rw [show W - k = (W - (k + 1)) + 1 by omega]
      rfl
    rw [← hLN] at h6
    have h6 : f_X3_leastAt K I R p (nI k) (nI i) = some (nI (LN (peC la hr fu gi le d1 b sdw cy) t (W - k) k (FN la hr start k + i))) := by
      unfold f_X3_leastAt
      simp only [mlN] at h6
      rw [show (1000000 : Int32) = nI 1000000 from rfl, L0]
      exact h6
    have ho : OnlyP p 4 I (u2 I (p + 4) (k * 31 + i) (nI (LN (peC la hr fu gi le d1 b sdw cy) t (W - k) k (FN la hr start k + i)))) := fun z hz => u2_row hz
    have g := ih (i + 1) f _ (by omega) (by omega) (hL.op ho (by omega)) (fun k' h1 h2 j hj => by rw [u2_ne (by omega)]; exact hRL k' h1 h2 j hj) (fun j hj => by
      by_cases c : j = i
      · subst c; rw [u2_eq]
      · rw [u2_ne (by omega)]; exact hz j (by omega)) (fun I1 g1 g2 => kk I1 (fun z hz => (g1 z hz).trans (ho z hz)) g2)
    unfold f_X3_plan_118
    (repeat (first | ((with_reducible apply Ok.st); (focus (first | (simp (disch := omega) only [L0, L1, L2, L3, L4, L5, L6, L7, L8, L9, L10, L11, L12, L13, L14, L15, L16, L17, L18, L19, L20, L21, L22, L23, L24, L25, L26, L27, L28, L29, L30, L31, L32, L33, L34, L35, L36, L37, L38, L39, L40, L48, L57, L59, L60, L62, L96, L97, L98, L99, L100, L104, L110, L119, L124, L500, L999, L1000, L2000, L3000, nI_add, pk_mul, pk_sub, nI_leI, nI_ltI, nI_eq, obs, u2_eq, u2_row, u2_ne, if_pos, if_neg, if_true, if_false, eq_self, ne_eq, not_true_eq_false, not_false_eq_true, h6, s3_3 hS3]; with_reducible exact rfl) | (with_reducible exact rfl)))) | ((with_reducible apply Ok.itT); (focus (simp (disch := omega) only [L0, L1, L2, L3, L4, L5, L6, L7, L8, L9, L10, L11, L12, L13, L14, L15, L16, L17, L18, L19, L20, L21, L22, L23, L24, L25, L26, L27, L28, L29, L30, L31, L32, L33, L34, L35, L36, L37, L38, L39, L40, L48, L57, L59, L60, L62, L96, L97, L98, L99, L100, L104, L110, L119, L124, L500, L999, L1000, L2000, L3000, nI_add, pk_mul, pk_sub, nI_leI, nI_ltI, nI_eq, obs, u2_eq, u2_row, u2_ne, if_pos, if_neg, if_true, if_false, eq_self, ne_eq, not_true_eq_false, not_false_eq_true, h6, s3_3 hS3] <;> omega))) | ((with_reducible apply Ok.itF); (focus (simp (disch := omega) only [L0, L1, L2, L3, L4, L5, L6, L7, L8, L9, L10, L11, L12, L13, L14, L15, L16, L17, L18, L19, L20, L21, L22, L23, L24, L25, L26, L27, L28, L29, L30, L31, L32, L33, L34, L35, L36, L37, L38, L39, L40, L48, L57, L59, L60, L62, L96, L97, L98, L99, L100, L104, L110, L119, L124, L500, L999, L1000, L2000, L3000, nI_add, pk_mul, pk_sub, nI_leI, nI_ltI, nI_eq, obs, u2_eq, u2_row, u2_ne, if_pos, if_neg, if_true, if_false, eq_self, ne_eq, not_true_eq_false, not_false_eq_true, h6, s3_3 hS3] <;> omega)))))
    simp only [L1, nI_add]
    exact g
theorem c_plan46 {t : Nat} {P : Im → Prop} (ht : t ≤ 900000) : ∀ (n i f : Nat) (I : Im), i + n = 31 → n < f → PLs p q u b start sdw cy W M K I R hr fu gi le la d1 → I p 9 = nI t → (∀ j, j < i → I (p + 4) (W * 31 + j) = nI (LN (peC la hr fu gi le d1 b sdw cy) t 0 W (FN la hr start W + j))) →
    (∀ I1, OnlyP p 4 I I1 → RowL p W W t (peC la hr fu gi le d1 b sdw cy) (FN la hr start W) 30 I1 → Ok (f_X3_plan_112 K R p FU (nI W - nI 1) I1) P) →
    Ok (f_X3_plan_46 K R p f (nI i) I) P := by
  intro n
  induction n with
  | zero =>
    intro i f I hs hf hL h9 hz kk
    obtain ⟨f, rfl⟩ : ∃ f', f = f' + 1 := ⟨f - 1, by omega⟩
    have o1 : ob K 10 (R p 4) = some q := by rw [hL.1.2.1]; exact ob9 hL.1.2.2.2.2.1.1
    have q0 : I q 0 = nI W := hL.1.2.2.2.2.1.2.1
    have g := kk I (fun _ _ => rfl) (fun j hj => by rw [Nat.sub_self]; exact hz j (by omega))
    unfold f_X3_plan_46
    (repeat (first | ((with_reducible apply Ok.st); (focus (first | (simp (disch := omega) only [L0, L1, L2, L3, L4, L5, L6, L7, L8, L9, L10, L11, L12, L13, L14, L15, L16, L17, L18, L19, L20, L21, L22, L23, L24, L25, L26, L27, L28, L29, L30, L31, L32, L33, L34, L35, L36, L37, L38, L39, L40, L48, L57, L59, L60, L62, L96, L97, L98, L99, L100, L104, L110, L119, L124, L500, L999, L1000, L2000, L3000, nI_add, pk_mul, pk_sub, nI_leI, nI_ltI, nI_eq, obs, u2_eq, u2_row, u2_ne, if_pos, if_neg, if_true, if_false, eq_self, ne_eq, not_true_eq_false, not_false_eq_true, o1]; with_reducible exact rfl) | (with_reducible exact rfl)))) | ((with_reducible apply Ok.itT); (focus (simp (disch := omega) only [L0, L1, L2, L3, L4, L5, L6, L7, L8, L9, L10, L11, L12, L13, L14, L15, L16, L17, L18, L19, L20, L21, L22, L23, L24, L25, L26, L27, L28, L29, L30, L31, L32, L33, L34, L35, L36, L37, L38, L39, L40, L48, L57, L59, L60, L62, L96, L97, L98, L99, L100, L104, L110, L119, L124, L500, L999, L1000, L2000, L3000, nI_add, pk_mul, pk_sub, nI_leI, nI_ltI, nI_eq, obs, u2_eq, u2_row, u2_ne, if_pos, if_neg, if_true, if_false, eq_self, ne_eq, not_true_eq_false, not_false_eq_true, o1] <;> omega))) | ((with_reducible apply Ok.itF); (focus (simp (disch := omega) only [L0, L1, L2, L3, L4, L5, L6, L7, L8, L9, L10, L11, L12, L13, L14, L15, L16, L17, L18, L19, L20, L21, L22, L23, L24, L25, L26, L27, L28, L29, L30, L31, L32, L33, L34, L35, L36, L37, L38, L39, L40, L48, L57, L59, L60, L62, L96, L97, L98, L99, L100, L104, L110, L119, L124, L500, L999, L1000, L2000, L3000, nI_add, pk_mul, pk_sub, nI_leI, nI_ltI, nI_eq, obs, u2_eq, u2_row, u2_ne, if_pos, if_neg, if_true, if_false, eq_self, ne_eq, not_true_eq_false, not_false_eq_true, o1] <;> omega)))))
    rw [q0, L1]
    exact g
  | succ n ih =>
    intro i f I hs hf hL h9 hz kk
    obtain ⟨f, rfl⟩ : ∃ f', f = f' + 1 := ⟨f - 1, by omega⟩
    have hW5 : W ≤ 5 := hL.1.2.2.2.2.1.2.2.1
    have hfb := FN_b hL.1 W (Nat.le_refl _)
    have hM := hL.1.2.2.2.2.2.2.2.2.2.2.2.1
    have hS3 := hL.1.1
    have o1 : ob K 10 (R p 4) = some q := by rw [hL.1.2.1]; exact ob9 hL.1.2.2.2.2.1.1
    have q0 : I q 0 = nI W := hL.1.2.2.2.2.1.2.1
    have hF := hL.2 W (Nat.le_refl _)
    have nx : ∀ v, v = LN (peC la hr fu gi le d1 b sdw cy) t 0 W (FN la hr start W + i) → Ok (f_X3_plan_46 K R p f (nI (i + 1)) (u2 I (p + 4) (W * 31 + i) (nI v))) P := by
      intro v hv
      have ho : OnlyP p 4 I (u2 I (p + 4) (W * 31 + i) (nI v)) := fun z hz => u2_row hz
      refine ih (i + 1) f _ (by omega) (by omega) (hL.op ho (by omega)) (by rw [ho p (by omega)]; exact h9) (fun j hj => ?_) (fun I1 g1 g2 => kk I1 (fun z hz => (g1 z hz).trans (ho z hz)) g2)
      by_cases c : j = i
      · subst c; rw [u2_eq, hv]
      · rw [u2_ne (by omega)]; exact hz j (by omega)
    unfold f_X3_plan_46 f_X3_plan_95
    by_cases c : FN la hr start W + i = t
    · have g := nx 0 (by simp only [LN]; rw [if_pos c])
      (repeat (first | ((with_reducible apply Ok.st); (focus (first | (simp (disch := omega) only [L0, L1, L2, L3, L4, L5, L6, L7, L8, L9, L10, L11, L12, L13, L14, L15, L16, L17, L18, L19, L20, L21, L22, L23, L24, L25, L26, L27, L28, L29, L30, L31, L32, L33, L34, L35, L36, L37, L38, L39, L40, L48, L57, L59, L60, L62, L96, L97, L98, L99, L100, L104, L110, L119, L124, L500, L999, L1000, L2000, L3000, nI_add, pk_mul, pk_sub, nI_leI, nI_ltI, nI_eq, obs, u2_eq, u2_row, u2_ne, if_pos, if_neg, if_true, if_false, eq_self, ne_eq, not_true_eq_false, not_false_eq_true, o1, q0, l3_1 hS3, hF, h9, s3_3 hS3]; with_reducible exact rfl) | (with_reducible exact rfl)))) | ((with_reducible apply Ok.itT); (focus (simp (disch := omega) only [L0, L1, L2, L3, L4, L5, L6, L7, L8, L9, L10, L11, L12, L13, L14, L15, L16, L17, L18, L19, L20, L21, L22, L23, L24, L25, L26, L27, L28, L29, L30, L31, L32, L33, L34, L35, L36, L37, L38, L39, L40, L48, L57, L59, L60, L62, L96, L97, L98, L99, L100, L104, L110, L119, L124, L500, L999, L1000, L2000, L3000, nI_add, pk_mul, pk_sub, nI_leI, nI_ltI, nI_eq, obs, u2_eq, u2_row, u2_ne, if_pos, if_neg, if_true, if_false, eq_self, ne_eq, not_true_eq_false, not_false_eq_true, o1, q0, l3_1 hS3, hF, h9, s3_3 hS3] <;> omega))) | ((with_reducible apply Ok.itF); (focus (simp (disch := omega) only [L0, L1, L2, L3, L4, L5, L6, L7, L8, L9, L10, L11, L12, L13, L14, L15, L16, L17, L18, L19, L20, L21, L22, L23, L24, L25, L26, L27, L28, L29, L30, L31, L32, L33, L34, L35, L36, L37, L38, L39, L40, L48, L57, L59, L60, L62, L96, L97, L98, L99, L100, L104, L110, L119, L124, L500, L999, L1000, L2000, L3000, nI_add, pk_mul, pk_sub, nI_leI, nI_ltI, nI_eq, obs, u2_eq, u2_row, u2_ne, if_pos, if_neg, if_true, if_false, eq_self, ne_eq, not_true_eq_false, not_false_eq_true, o1, q0, l3_1 hS3, hF, h9, s3_3 hS3] <;> omega)))))
      simp only [L0, L1, nI_add]
      exact g
    · have g := nx 1000000 (by simp only [LN]; rw [if_neg c])
      have n6 : (1000000 : Int32) = nI 1000000 := rfl
      (repeat (first | ((with_reducible apply Ok.st); (focus (first | (simp (disch := omega) only [L0, L1, L2, L3, L4, L5, L6, L7, L8, L9, L10, L11, L12, L13, L14, L15, L16, L17, L18, L19, L20, L21, L22, L23, L24, L25, L26, L27, L28, L29, L30, L31, L32, L33, L34, L35, L36, L37, L38, L39, L40, L48, L57, L59, L60, L62, L96, L97, L98, L99, L100, L104, L110, L119, L124, L500, L999, L1000, L2000, L3000, nI_add, pk_mul, pk_sub, nI_leI, nI_ltI, nI_eq, obs, u2_eq, u2_row, u2_ne, if_pos, if_neg, if_true, if_false, eq_self, ne_eq, not_true_eq_false, not_false_eq_true, o1, q0, l3_1 hS3, hF, h9, s3_3 hS3]; with_reducible exact rfl) | (with_reducible exact rfl)))) | ((with_reducible apply Ok.itT); (focus (simp (disch := omega) only [L0, L1, L2, L3, L4, L5, L6, L7, L8, L9, L10, L11, L12, L13, L14, L15, L16, L17, L18, L19, L20, L21, L22, L23, L24, L25, L26, L27, L28, L29, L30, L31, L32, L33, L34, L35, L36, L37, L38, L39, L40, L48, L57, L59, L60, L62, L96, L97, L98, L99, L100, L104, L110, L119, L124, L500, L999, L1000, L2000, L3000, nI_add, pk_mul, pk_sub, nI_leI, nI_ltI, nI_eq, obs, u2_eq, u2_row, u2_ne, if_pos, if_neg, if_true, if_false, eq_self, ne_eq, not_true_eq_false, not_false_eq_true, o1, q0, l3_1 hS3, hF, h9, s3_3 hS3] <;> omega))) | ((with_reducible apply Ok.itF); (focus (simp (disch := omega) only [L0, L1, L2, L3, L4, L5, L6, L7, L8, L9, L10, L11, L12, L13, L14, L15, L16, L17, L18, L19, L20, L21, L22, L23, L24, L25, L26, L27, L28, L29, L30, L31, L32, L33, L34, L35, L36, L37, L38, L39, L40, L48, L57, L59, L60, L62, L96, L97, L98, L99, L100, L104, L110, L119, L124, L500, L999, L1000, L2000, L3000, nI_add, pk_mul, pk_sub, nI_leI, nI_ltI, nI_eq, obs, u2_eq, u2_row, u2_ne, if_pos, if_neg, if_true, if_false, eq_self, ne_eq, not_true_eq_false, not_false_eq_true, o1, q0, l3_1 hS3, hF, h9, s3_3 hS3] <;> omega)))))
      simp only [n6, L1, nI_add]
      exact g
theorem c_plan112 {t : Nat} {P : Im → Prop} : ∀ (n f : Nat) (I : Im), n ≤ W → n < f → PLs p q u b start sdw cy W M K I R hr fu gi le la d1 → (∀ k', n ≤ k' → k' ≤ W → 0 < k' → RowL p k' W t (peC la hr fu gi le d1 b sdw cy) (FN la hr start k') (6 * k') I) →
    (∀ I1, OnlyP p 4 I I1 → (∀ k', 0 < k' → k' ≤ W → RowL p k' W t (peC la hr fu gi le d1 b sdw cy) (FN la hr start k') (6 * k') I1) → Ok (f_X3_plan_166 K R p FU (nI 0) (I1 (p + 3) 0) (nI 0) I1) P) →
    Ok (f_X3_plan_112 K R p f (nI n - nI 1) I) P := by
  intro n
  induction n with
  | zero =>
    intro f I hn hf hL hRL kk
    obtain ⟨f, rfl⟩ : ∃ f', f = f' + 1 := ⟨f - 1, by omega⟩
    have hS3 := hL.1.1
    have g := kk I (fun _ _ => rfl) (fun k' h1 h2 => hRL k' (by omega) h2 h1)
    unfold f_X3_plan_112
    rw [if_pos (by decide), L0, l3_2 hS3 (by omega), obs]
    exact g
  | succ n ih =>
    intro f I hn hf hL hRL kk
    obtain ⟨f, rfl⟩ : ∃ f', f = f' + 1 := ⟨f - 1, by omega⟩
    have hW5 : W ≤ 5 := hL.1.2.2.2.2.1.2.2.1
    have hS3 := hL.1.1
    rw [pk_sub (by omega), Nat.add_sub_cancel]
    unfold f_X3_plan_112
    by_cases c : n = 0
    · subst c
      have g := kk I (fun _ _ => rfl) (fun k' h1 h2 => hRL k' (by omega) h2 h1)
      rw [if_pos (by decide), L0, l3_2 hS3 (by omega), obs]
      exact g
    · have n0 : ¬ (nI n ≤ 0) := by rw [L0, nI_leI (by omega) (by omega)]; omega
      rw [if_neg n0, L0]
      refine c_plan118 (by omega) (6 * n + 1) 0 FU I (by omega) (FU_lt (by omega)) hL (fun k' h1 h2 => hRL k' (by omega) h2 (by omega)) (fun j hj => by omega) (fun I1 g1 g2 => ?_)
      exact ih f I1 (by omega) (by omega) (hL.op g1 (by omega)) (fun k' h1 h2 h3 => g2 k' h1 h2) (fun I2 k1 k2 => kk I2 (fun z hz => (k1 z hz).trans (g1 z hz)) k2)
set_option maxHeartbeats 1000000 in
theorem c_plan166 {t : Nat} {g0 : Nat → Nat} {P : Im → Prop} : ∀ (n k f : Nat), k + n = W → n < f → ∀ (I : Im) (i w : Nat), PLs p q u b start sdw cy W M K I R hr fu gi le la d1 → (∀ k', 0 < k' → k' ≤ W → RowL p k' W t (peC la hr fu gi le d1 b sdw cy) (FN la hr start k') (6 * k') I) → i ≤ 6 * k → w ≤ b * cy → LN (peC la hr fu gi le d1 b sdw cy) t n k (FN la hr start k + i) ≤ w →
    (∀ j, k ≤ j → g0 j = grN (peC la hr fu gi le d1 b sdw cy) t n k (FN la hr start k + i) w j) → (∀ j, j < 5 → I (p + 1) j = nI (if j < k then g0 j else 0)) →
    (∀ I1, OnlyP p 1 I I1 → (∀ j, j < 5 → I1 (p + 1) j = nI (g0 j)) → P I1) →
    Ok (f_X3_plan_166 K R p f (nI i) (nI w) (nI k) I) P := by
  intro n
  induction n with
  | zero =>
    intro k f hk hf I i w hL hRL hi hw hLw hg hrow kk
    obtain ⟨f, rfl⟩ : ∃ f', f = f' + 1 := ⟨f - 1, by omega⟩
    have hkW : k = W := by omega
    subst hkW
    have hW5 : k ≤ 5 := hL.1.2.2.2.2.1.2.2.1
    have o1 : ob K 10 (R p 4) = some q := by rw [hL.1.2.1]; exact ob9 hL.1.2.2.2.2.1.1
    have q0 : I q 0 = nI k := hL.1.2.2.2.2.1.2.1
    have g := kk I (fun _ _ => rfl) (fun j hj => by
      rw [hrow j hj]
      by_cases c : j < k
      · rw [if_pos c]
      · rw [if_neg c, hg j (by omega)]; rfl)
    unfold f_X3_plan_166
    (repeat (first | ((with_reducible apply Ok.st); (focus (first | (simp (disch := omega) only [L0, L1, L2, L3, L4, L5, L6, L7, L8, L9, L10, L11, L12, L13, L14, L15, L16, L17, L18, L19, L20, L21, L22, L23, L24, L25, L26, L27, L28, L29, L30, L31, L32, L33, L34, L35, L36, L37, L38, L39, L40, L48, L57, L59, L60, L62, L96, L97, L98, L99, L100, L104, L110, L119, L124, L500, L999, L1000, L2000, L3000, nI_add, pk_mul, pk_sub, nI_leI, nI_ltI, nI_eq, obs, u2_eq, u2_row, u2_ne, if_pos, if_neg, if_true, if_false, eq_self, ne_eq, not_true_eq_false, not_false_eq_true, o1, q0]; with_reducible exact rfl) | (with_reducible exact rfl)))) | ((with_reducible apply Ok.itT); (focus (simp (disch := omega) only [L0, L1, L2, L3, L4, L5, L6, L7, L8, L9, L10, L11, L12, L13, L14, L15, L16, L17, L18, L19, L20, L21, L22, L23, L24, L25, L26, L27, L28, L29, L30, L31, L32, L33, L34, L35, L36, L37, L38, L39, L40, L48, L57, L59, L60, L62, L96, L97, L98, L99, L100, L104, L110, L119, L124, L500, L999, L1000, L2000, L3000, nI_add, pk_mul, pk_sub, nI_leI, nI_ltI, nI_eq, obs, u2_eq, u2_row, u2_ne, if_pos, if_neg, if_true, if_false, eq_self, ne_eq, not_true_eq_false, not_false_eq_true, o1, q0] <;> omega))) | ((with_reducible apply Ok.itF); (focus (simp (disch := omega) only [L0, L1, L2, L3, L4, L5, L6, L7, L8, L9, L10, L11, L12, L13, L14, L15, L16, L17, L18, L19, L20, L21, L22, L23, L24, L25, L26, L27, L28, L29, L30, L31, L32, L33, L34, L35, L36, L37, L38, L39, L40, L48, L57, L59, L60, L62, L96, L97, L98, L99, L100, L104, L110, L119, L124, L500, L999, L1000, L2000, L3000, nI_add, pk_mul, pk_sub, nI_leI, nI_ltI, nI_eq, obs, u2_eq, u2_row, u2_ne, if_pos, if_neg, if_true, if_false, eq_self, ne_eq, not_true_eq_false, not_false_eq_true, o1, q0] <;> omega)))))
    exact Ok.ret g
  | succ n ih =>
    intro k f hk hf I i w hL hRL hi hw hLw hg hrow kk
    obtain ⟨f, rfl⟩ : ∃ f', f = f' + 1 := ⟨f - 1, by omega⟩
    have hkW : k < W := by omega
    have hW5 : W ≤ 5 := hL.1.2.2.2.2.1.2.2.1
    have hS3 := hL.1.1
    have hcy := hL.1.2.2.2.2.1.2.2.2.2.2.1
    have bcy : b * cy ≤ 9 * 99 := Nat.mul_le_mul hL.1.2.2.2.2.2.2.1 hcy
    have hrm : (peC la hr fu gi le d1 b sdw cy).rm < 1000000 := by show b * cy < 1000000; omega
    have hwr : w ≤ (peC la hr fu gi le d1 b sdw cy).rm := hw
    have o1 : ob K 10 (R p 4) = some q := by rw [hL.1.2.1]; exact ob9 hL.1.2.2.2.2.1.1
    have q0 : I q 0 = nI W := hL.1.2.2.2.2.1.2.1
    have hn : n = W - (k + 1) := by omega
    have hRn := hRL (k + 1) (by omega) (by omega)
    obtain ⟨s0, hs0, x0, hx0, hc0⟩ := (CB_iff hrm (n + 1) k _ w hwr).mpr hLw
    have hok : okB (peC la hr fu gi le d1 b sdw cy) t n k (FN la hr start k + i) w (fsN (okB (peC la hr fu gi le d1 b sdw cy) t n k (FN la hr start k + i) w) 6 0) = true := fsN_ex 6 0 ⟨s0, Nat.zero_le _, by omega, (okB_iff hrm).mpr ⟨x0, hx0, hc0⟩⟩
    obtain ⟨x, hx, hcx⟩ := (okB_iff hrm).mp hok
    have hfs := (fsN_le (p := okB (peC la hr fu gi le d1 b sdw cy) t n k (FN la hr start k + i) w) 6 0).2
    have inner : ∀ (m s f2 : Nat) (I2 : Im), s + m = 6 → m < f2 → fsN (okB (peC la hr fu gi le d1 b sdw cy) t n k (FN la hr start k + i) w) m s = fsN (okB (peC la hr fu gi le d1 b sdw cy) t n k (FN la hr start k + i) w) 6 0 → OnlyP p 1 I I2 → (∀ j, j ≠ k → j < 5 → I2 (p + 1) j = I (p + 1) j) → I2 (p + 1) k = nI s →
        Ok (f_X3_plan_177 K R p (f_X3_plan_166 K R p f) f2 (nI i) (nI w) (nI k) I2) P := by
      have fin : ∀ (I2 : Im) (s : Nat), s = fsN (okB (peC la hr fu gi le d1 b sdw cy) t n k (FN la hr start k + i) w) 6 0 → OnlyP p 1 I I2 → (∀ j, j ≠ k → j < 5 → I2 (p + 1) j = I (p + 1) j) → I2 (p + 1) k = nI s → Ok (f_X3_plan_217 K R p (f_X3_plan_166 K R p f) (nI i) (nI w) (nI k) I2) P := by
        intro I2 s hs ho hoth hk2
        rw [← hs] at hx hfs
        have hL2 := hL.op ho (by omega)
        have cl := c_leaving hL2 hkW (by omega : i ≤ 30) (by omega : s ≤ 6)
        have cn := c_nextOf hL2 hkW (by omega : i ≤ 30) (by omega : s ≤ 6)
        obtain ⟨z, cb, zb1, zb2, hz⟩ := c_brought hL2 hkW (by omega : i ≤ 30) (by omega : s ≤ 6) hw
        have lb := lv_b hL2 hkW (by omega : i ≤ 30) (by omega : s ≤ 6)
        rw [hx] at hz
        have hz : z = x.2 := hz
        obtain ⟨-, -, hp⟩ := stp_some hx
        have hp1 : x.1 = lvE (peC la hr fu gi le d1 b sdw cy) k (FN la hr start k + i) s + hr (k + 1) := by rw [hp]; rfl
        rw [hz, ← nI_jI] at cb
        rw [← hp1] at cn
        have hxw : x.2 ≤ b * cy := stp_rm hx
        have hF1 : FN la hr start (k + 1) + (x.1 - FN la hr start (k + 1)) = x.1 := by omega
        have g := ih (k + 1) f (by omega) (by omega) I2 (x.1 - FN la hr start (k + 1)) x.2 hL2 (fun k' h1 h2 j hj => by rw [ho _ (by omega)]; exact hRL k' h1 h2 j hj) (by omega) hxw (by rw [hF1]; exact (CB_iff hrm n (k + 1) x.1 x.2 hxw).mp hcx) (fun j hj => by
          rw [hg j (by omega), hF1]
          simp only [grN]
          rw [if_neg (by omega), ← hs, hx]) (fun j hj => by
          by_cases c : j = k
          · subst c
            rw [hk2, if_pos (by omega), hg j (Nat.le_refl _)]
            simp only [grN]
            rw [if_pos trivial, hs]
          · rw [hoth j c hj, hrow j hj]
            by_cases c2 : j < k
            · rw [if_pos c2, if_pos (by omega)]
            · rw [if_neg c2, if_neg (by omega)]) (fun I3 k1 k2 => kk I3 (fun z hz => (k1 z hz).trans (ho z hz)) k2)
        unfold f_X3_plan_217
        rw [l3_0 hS3 (by omega), obs, hk2, cl, obs, cb, obs, cn, obs, L1, nI_add]
        exact g
      intro m
      induction m with
      | zero =>
        intro s f2 I2 hs hf2 hfs2 ho hoth hk2
        obtain ⟨f2, rfl⟩ : ∃ f', f2 = f' + 1 := ⟨f2 - 1, by omega⟩
        have : s = 6 := by omega
        subst this
        have g := fin I2 6 hfs2 ho hoth hk2
        unfold f_X3_plan_177
        rw [l3_0 hS3 (by omega), obs, hk2, if_pos (by decide)]
        exact g
      | succ m ihm =>
        intro s f2 I2 hs hf2 hfs2 ho hoth hk2
        obtain ⟨f2, rfl⟩ : ∃ f', f2 = f' + 1 := ⟨f2 - 1, by omega⟩
        have hL2 := hL.op ho (by omega)
        have cd := c_leadsOn (s := s) hL2 hkW hi (by omega) hw (Nat.le_refl _) (fun j hj => by rw [ho _ (by omega)]; exact hRn j hj : RowL p (k + 1) W t (peC la hr fu gi le d1 b sdw cy) (FN la hr start (k + 1)) (6 * (k + 1)) I2)
        rw [← hn] at cd
        have n6 : ¬ ((6 : Int32) ≤ nI s) := by rw [L6, nI_leI (by omega) (by omega)]; omega
        unfold f_X3_plan_177
        rw [l3_0 hS3 (by omega), obs, hk2, if_neg n6, obs, cd, obs]
        simp only [fsN] at hfs2
        cases q2 : okB (peC la hr fu gi le d1 b sdw cy) t n k (FN la hr start k + i) w s with
        | true =>
          rw [q2, if_pos rfl] at hfs2
          have g := fin I2 s hfs2 ho hoth hk2
          rw [if_neg (by decide)]
          exact g
        | false =>
          rw [q2, if_neg (by decide)] at hfs2
          have g := ihm (s + 1) f2 (u2 I2 (p + 1) k (nI (s + 1))) (by omega) (by omega) hfs2 (fun z hz => by rw [u2_row hz]; exact ho z hz) (fun j h1 h2 => by rw [u2_ne h1]; exact hoth j h1 h2) (u2_eq _ _ _ _)
          rw [if_pos (show bI false = 0 from rfl), obs, L1, nI_add, s3_0 hS3 (by omega), obs]
          exact g
    have g := inner 6 0 FU I rfl (FU_lt (by omega)) rfl (fun _ _ => rfl) (fun _ _ _ => rfl) (by rw [hrow k (by omega), if_neg (by omega)])
    unfold f_X3_plan_166
    (repeat (first | ((with_reducible apply Ok.st); (focus (first | (simp (disch := omega) only [L0, L1, L2, L3, L4, L5, L6, L7, L8, L9, L10, L11, L12, L13, L14, L15, L16, L17, L18, L19, L20, L21, L22, L23, L24, L25, L26, L27, L28, L29, L30, L31, L32, L33, L34, L35, L36, L37, L38, L39, L40, L48, L57, L59, L60, L62, L96, L97, L98, L99, L100, L104, L110, L119, L124, L500, L999, L1000, L2000, L3000, nI_add, pk_mul, pk_sub, nI_leI, nI_ltI, nI_eq, obs, u2_eq, u2_row, u2_ne, if_pos, if_neg, if_true, if_false, eq_self, ne_eq, not_true_eq_false, not_false_eq_true, o1, q0]; with_reducible exact rfl) | (with_reducible exact rfl)))) | ((with_reducible apply Ok.itT); (focus (simp (disch := omega) only [L0, L1, L2, L3, L4, L5, L6, L7, L8, L9, L10, L11, L12, L13, L14, L15, L16, L17, L18, L19, L20, L21, L22, L23, L24, L25, L26, L27, L28, L29, L30, L31, L32, L33, L34, L35, L36, L37, L38, L39, L40, L48, L57, L59, L60, L62, L96, L97, L98, L99, L100, L104, L110, L119, L124, L500, L999, L1000, L2000, L3000, nI_add, pk_mul, pk_sub, nI_leI, nI_ltI, nI_eq, obs, u2_eq, u2_row, u2_ne, if_pos, if_neg, if_true, if_false, eq_self, ne_eq, not_true_eq_false, not_false_eq_true, o1, q0] <;> omega))) | ((with_reducible apply Ok.itF); (focus (simp (disch := omega) only [L0, L1, L2, L3, L4, L5, L6, L7, L8, L9, L10, L11, L12, L13, L14, L15, L16, L17, L18, L19, L20, L21, L22, L23, L24, L25, L26, L27, L28, L29, L30, L31, L32, L33, L34, L35, L36, L37, L38, L39, L40, L48, L57, L59, L60, L62, L96, L97, L98, L99, L100, L104, L110, L119, L124, L500, L999, L1000, L2000, L3000, nI_add, pk_mul, pk_sub, nI_leI, nI_ltI, nI_eq, obs, u2_eq, u2_row, u2_ne, if_pos, if_neg, if_true, if_false, eq_self, ne_eq, not_true_eq_false, not_false_eq_true, o1, q0] <;> omega)))))
    exact g
theorem c_plan2 {t : Option Nat} {P : Im → Prop} (ht : bsT (peC la hr fu gi le d1 b sdw cy) W start t) : ∀ (n j f : Nat) (I : Im), j + n = 5 → n < f → PLs p q u b start sdw cy W M K I R hr fu gi le la d1 → (I p 9 = oI t ∧ ∀ t0, t = some t0 → t0 ≤ 900000) → I (p + 3) 0 = oM (iniW (peC la hr fu gi le d1 b sdw cy) start) → (∀ i, i < j → I (p + 1) i = nI 0) →
    (∀ I1, (∀ z, z ≠ p + 1 → z ≠ p + 4 → I1 z = I z) → (∀ j, j < 5 → I1 (p + 1) j = nI (bsR (peC la hr fu gi le d1 b sdw cy) W start t j)) → P I1) →
    Ok (f_X3_plan_2 K R p f (nI j) I) P := by
  intro n
  induction n with
  | zero =>
    intro j f I hj hf hL h9 h0 hz kk
    obtain ⟨f, rfl⟩ : ∃ f', f = f' + 1 := ⟨f - 1, by omega⟩
    have : j = 5 := by omega
    subst this
    have hW5 : W ≤ 5 := hL.1.2.2.2.2.1.2.2.1
    have hcy := hL.1.2.2.2.2.1.2.2.2.2.2.1
    have bcy : b * cy ≤ 9 * 99 := Nat.mul_le_mul hL.1.2.2.2.2.2.2.1 hcy
    have hrm : (peC la hr fu gi le d1 b sdw cy).rm < 1000000 := by show b * cy < 1000000; omega
    have r4 : R p 4 = some q := hL.1.2.1
    have r5 : R p 5 = some u := hL.1.2.2.1
    have e4 : ¬ (R p 4 = none) := by rw [r4]; simp
    have e5 : ¬ (R p 5 = none) := by rw [r5]; simp
    unfold f_X3_plan_2
    rw [if_pos (by decide), if_neg e4, if_neg e5, h9.1]
    cases t with
    | none =>
      rw [if_pos (show oI none = -5 from rfl)]
      refine Ok.ret (kk I (fun _ _ _ => rfl) (fun j hj => ?_))
      rw [hz j hj]
      unfold bsR
      split <;> rfl
    | some t0 =>
      have bt := h9.2 t0 rfl
      rw [if_neg (show ¬ (oI (some t0) = -5) from nI_no5 (by omega))]
      unfold bsT at ht
      have hc : ¬ (peC la hr fu gi le d1 b sdw cy).rm < (peC la hr fu gi le d1 b sdw cy).co 0 start := fun c => by
        rw [if_pos c] at ht
        cases ht
      rw [if_neg hc] at ht
      have hin : iniW (peC la hr fu gi le d1 b sdw cy) start = some ((peC la hr fu gi le d1 b sdw cy).rm - (peC la hr fu gi le d1 b sdw cy).co 0 start) := by
        unfold iniW
        rw [if_pos (by omega)]
      rw [hin] at h0
      have h0 : I (p + 3) 0 = nI ((peC la hr fu gi le d1 b sdw cy).rm - (peC la hr fu gi le d1 b sdw cy).co 0 start) := h0
      have hw0 : (peC la hr fu gi le d1 b sdw cy).rm - (peC la hr fu gi le d1 b sdw cy).co 0 start ≤ b * cy := Nat.sub_le _ _
      have hg : ∀ j, bsR (peC la hr fu gi le d1 b sdw cy) W start (some t0) j = grN (peC la hr fu gi le d1 b sdw cy) t0 W 0 (FN la hr start 0 + 0) ((peC la hr fu gi le d1 b sdw cy).rm - (peC la hr fu gi le d1 b sdw cy).co 0 start) j := fun j => by
        unfold bsR
        by_cases c : W = 0
        · rw [if_pos (Or.inl c), c]; rfl
        · rw [if_neg (fun z => z.elim c hc)]; rfl
      rw [L0]
      refine c_plan46 bt 31 0 FU I rfl (FU_lt (by omega)) hL h9.1 (fun j hj => by omega) (fun I1 g1 g2 => ?_)
      refine c_plan112 (t := t0) W FU I1 (Nat.le_refl _) (FU_lt (by omega)) (hL.op g1 (by omega)) (fun k' h1 h2 h3 j hj => ?_) (fun I2 k1 k2 => ?_)
      · have : k' = W := by omega
        subst this
        exact g2 j (by omega)
      · rw [k1 _ (by omega), g1 _ (by omega), h0]
        refine c_plan166 (g0 := bsR (peC la hr fu gi le d1 b sdw cy) W start (some t0)) W 0 FU (by omega) (FU_lt (by omega)) I2 0 _ ((hL.op g1 (by omega)).op k1 (by omega)) k2 (by omega) hw0 ((CB_iff hrm W 0 _ _ (Nat.sub_le _ _)).mp ht.1) (fun j _ => hg j) (fun j hj => ?_) (fun I3 m1 m2 => kk I3 (fun z z1 z2 => by rw [m1 z z1, k1 z z2, g1 z z2]) m2)
        rw [if_neg (by omega), k1 _ (by omega), g1 _ (by omega)]
        exact hz j hj
  | succ n ih =>
    intro j f I hj hf hL h9 h0 hz kk
    obtain ⟨f, rfl⟩ : ∃ f', f = f' + 1 := ⟨f - 1, by omega⟩
    have hS3 := hL.1.1
    have ho : OnlyP p 1 I (u2 I (p + 1) j (nI 0)) := fun z hz => u2_row hz
    have g := ih (j + 1) f (u2 I (p + 1) j (nI 0)) (by omega) (by omega) (hL.op ho (by omega)) (by rw [ho p (by omega)]; exact h9) (by rw [ho _ (by omega)]; exact h0) (fun i hi => by
      by_cases c : i = j
      · subst c; rw [u2_eq]
      · rw [u2_ne c]; exact hz i (by omega)) (fun I1 g1 g2 => kk I1 (fun z z1 z2 => by rw [g1 z z1 z2, ho z z1]) g2)
    have n5 : ¬ ((5 : Int32) ≤ nI j) := by rw [L5, nI_leI (by omega) (by omega)]; omega
    unfold f_X3_plan_2
    rw [if_neg n5, s3_0 hS3 (by omega), obs, L1, nI_add]
    exact g
theorem c_plan {t : Option Nat} {P : Im → Prop} {I : Im} (ht : bsT (peC la hr fu gi le d1 b sdw cy) W start t) (hL : PLs p q u b start sdw cy W M K I R hr fu gi le la d1) (h9 : I p 9 = oI t ∧ ∀ t0, t = some t0 → t0 ≤ 900000) (h0 : I (p + 3) 0 = oM (iniW (peC la hr fu gi le d1 b sdw cy) start))
    (kk : ∀ I1, (∀ z, z ≠ p + 1 → z ≠ p + 4 → I1 z = I z) → (∀ j, j < 5 → I1 (p + 1) j = nI (bsR (peC la hr fu gi le d1 b sdw cy) W start t j)) → P I1) :
    Ok (f_X3_plan K R p I) P := by
  unfold f_X3_plan
  rw [L0]
  exact c_plan2 ht 5 0 FU I rfl (FU_lt (by omega)) hL h9 h0 (fun i hi => by omega) kk
end
