section
variable {p q u b start sdw cy W M : Nat} {K : Sh} {R : Rf} {hr fu gi le la : Nat → Nat} {d1 : Nat → Nat → Nat → Nat}
theorem c_e61 {P : Int32 × Im × Rf → Prop} : ∀ (n k f : Nat) (I : Im) (m : Nat → Option Nat), k + n = W → n < f → PLs p q u b start sdw cy W M K I R hr fu gi le la d1 → RowC p k m I → (∀ k', k < k' → k' < 6 → RowC p k' (fun _ => none) I) → (∀ j w, m j = some w → w ≤ b * cy ∧ j ≤ 6 * k) → FWO (peC la hr fu gi le d1 b sdw cy) W (start + hr 0) (iniW (peC la hr fu gi le d1 b sdw cy) start) k (FN la hr start k) m →
    (∀ I1 t, (∀ z, z ≠ p → z ≠ p + 3 → I1 z = I z) → (∀ j, j ≠ 9 → I1 p j = I p j) → I1 (p + 3) 0 = I (p + 3) 0 → bsT (peC la hr fu gi le d1 b sdw cy) W start t → (I1 p 9 = oI t ∧ ∀ t0, t = some t0 → t0 ≤ 900000) → P (oI t, I1, R)) →
    Ok (f_X3_earliest_61 K p f (nI k) I R) P := by
  intro n
  induction n with
  | zero =>
    intro k f I m hk hf hL hR hR2 hmb hF kk
    obtain ⟨f, rfl⟩ : ∃ f', f = f' + 1 := ⟨f - 1, by omega⟩
    have hkW : k = W := by omega
    subst hkW
    have hW5 : k ≤ 5 := hL.1.2.2.2.2.1.2.2.1
    have hcy := hL.1.2.2.2.2.1.2.2.2.2.2.1
    have bcy : b * cy ≤ 9 * 99 := Nat.mul_le_mul hL.1.2.2.2.2.2.2.1 hcy
    have o1 : ob K 10 (R p 4) = some q := by rw [hL.1.2.1]; exact ob9 hL.1.2.2.2.2.1.1
    have q0 : I q 0 = nI k := hL.1.2.2.2.2.1.2.1
    have ht := FWO_end hF (fun i w h => (hmb i w h).2) hW5
    have g := c_e116 (P := P) 31 FU (u2 I p 9 (-5)) (by omega) (FU_lt (by omega)) (hL.congr (fun z z1 _ _ _ => u2_row z1) (u2_ne (by decide)) (u2_ne (by decide)) (u2_ne (by decide))) (fun j hj => by rw [u2_row (by omega)]; exact hR j hj) (fun j w h => by have := (hmb j w h).1; omega) (u2_eq _ _ _ _) (fun I1 g1 g2 g3 => by
      have z := kk I1 (scN m (FN la hr start k) 31 0) (fun z z1 _ => by rw [g1 z z1, u2_row z1]) (fun j hj => by rw [g2 j hj, u2_ne hj]) (by rw [g1 _ (by omega), u2_row (by omega)]) ht ⟨g3, fun t0 h0 => by
        have sp := scN_spec (m := m) (F := FN la hr start k) 31 0
        rw [h0] at sp
        obtain ⟨i', w, h1, h2, h3, h4, h5⟩ := sp
        have := FN_b hL.1 k (Nat.le_refl _)
        have hM := hL.1.2.2.2.2.2.2.2.2.2.2.2.1
        omega⟩
      rw [g3]
      exact z)
    have e30 : nI 31 - nI 1 = (30 : Int32) := by decide
    rw [e30] at g
    unfold f_X3_earliest_61
    (repeat (first | ((with_reducible apply Ok.st); (focus (first | (simp (disch := omega) only [L0, L1, L2, L3, L4, L5, L6, L7, L8, L9, L10, L11, L12, L13, L14, L15, L16, L17, L18, L19, L20, L21, L22, L23, L24, L25, L26, L27, L28, L29, L30, L31, L32, L33, L34, L35, L36, L37, L38, L39, L40, L48, L57, L59, L60, L62, L96, L97, L98, L99, L100, L104, L110, L119, L124, L500, L999, L1000, L2000, L3000, nI_add, pk_mul, pk_sub, nI_leI, nI_ltI, nI_eq, obs, u2_eq, u2_row, u2_ne, if_pos, if_neg, if_true, if_false, eq_self, ne_eq, not_true_eq_false, not_false_eq_true, o1, q0]; with_reducible exact rfl) | (with_reducible exact rfl)))) | ((with_reducible apply Ok.itT); (focus (simp (disch := omega) only [L0, L1, L2, L3, L4, L5, L6, L7, L8, L9, L10, L11, L12, L13, L14, L15, L16, L17, L18, L19, L20, L21, L22, L23, L24, L25, L26, L27, L28, L29, L30, L31, L32, L33, L34, L35, L36, L37, L38, L39, L40, L48, L57, L59, L60, L62, L96, L97, L98, L99, L100, L104, L110, L119, L124, L500, L999, L1000, L2000, L3000, nI_add, pk_mul, pk_sub, nI_leI, nI_ltI, nI_eq, obs, u2_eq, u2_row, u2_ne, if_pos, if_neg, if_true, if_false, eq_self, ne_eq, not_true_eq_false, not_false_eq_true, o1, q0] <;> omega))) | ((with_reducible apply Ok.itF); (focus (simp (disch := omega) only [L0, L1, L2, L3, L4, L5, L6, L7, L8, L9, L10, L11, L12, L13, L14, L15, L16, L17, L18, L19, L20, L21, L22, L23, L24, L25, L26, L27, L28, L29, L30, L31, L32, L33, L34, L35, L36, L37, L38, L39, L40, L48, L57, L59, L60, L62, L96, L97, L98, L99, L100, L104, L110, L119, L124, L500, L999, L1000, L2000, L3000, nI_add, pk_mul, pk_sub, nI_leI, nI_ltI, nI_eq, obs, u2_eq, u2_row, u2_ne, if_pos, if_neg, if_true, if_false, eq_self, ne_eq, not_true_eq_false, not_false_eq_true, o1, q0] <;> omega)))))
    exact g
  | succ n ih =>
    intro k f I m hk hf hL hR hR2 hmb hF kk
    obtain ⟨f, rfl⟩ : ∃ f', f = f' + 1 := ⟨f - 1, by omega⟩
    have hkW : k < W := by omega
    have hW5 : W ≤ 5 := hL.1.2.2.2.2.1.2.2.1
    have o1 : ob K 10 (R p 4) = some q := by rw [hL.1.2.1]; exact ob9 hL.1.2.2.2.2.1.1
    have q0 : I q 0 = nI W := hL.1.2.2.2.2.1.2.1
    have g := c_e76 (P := P) (r61 := f_X3_earliest_61 K p f) hkW (fun j x h => (hmb j x h).1) (6 * k + 1) 0 FU I (fun _ => none) (by omega) (FU_lt (by omega)) hL hR (hR2 (k + 1) (by omega) (by omega)) (fun i s w x h => by unfold DD at h; omega) (fun j w' h => by cases h) (fun I1 m1 g1 g2 g3 g4 => by
      refine ih (k + 1) f I1 m1 (by omega) (by omega) (hL.om g1) g2 (fun k' h1 h2 j hj => ?_) (fun j w h => ?_) ?_ (fun I2 t k1 k2 k3 k4 k5 => kk I2 t (fun z z1 z2 => by rw [k1 z z1 z2, g1.1 z z2]) (fun j hj => by rw [k2 j hj, g1.1 p (by omega)]) (by rw [k3, g1.2 0 (by omega)]) k4 k5)
      · rw [g1.2 _ (by omega)]
        exact hR2 k' (by omega) h2 j hj
      · obtain ⟨i, s, w1, x, h1, h2, h3, h4, h5⟩ := g4 j w h
        have h6 := stp_rm h3
        have h6 : x.2 ≤ b * cy := h6
        refine ⟨by omega, ?_⟩
        have lb := lv_b hL hkW (by omega : i ≤ 30) h1.2
        obtain ⟨-, -, hp⟩ := stp_some h3
        have hp1 : x.1 = lvE (peC la hr fu gi le d1 b sdw cy) k (FN la hr start k + i) s + hr (k + 1) := by rw [hp]; rfl
        have h4 : x.1 = FN la hr start (k + 1) + j := h4
        omega
      · unfold FWO at hF ⊢
        cases hi : iniW (peC la hr fu gi le d1 b sdw cy) start with
        | none =>
          rw [hi] at hF
          intro j
          cases hj : m1 j with
          | none => rfl
          | some w =>
            obtain ⟨i, s, w1, x, h1, h2, h3⟩ := g4 j w hj
            rw [hF i] at h2
            cases h2
        | some w0 =>
          rw [hi] at hF
          exact FW_step hF hkW g3 g4)
    unfold f_X3_earliest_61
    (repeat (first | ((with_reducible apply Ok.st); (focus (first | (simp (disch := omega) only [L0, L1, L2, L3, L4, L5, L6, L7, L8, L9, L10, L11, L12, L13, L14, L15, L16, L17, L18, L19, L20, L21, L22, L23, L24, L25, L26, L27, L28, L29, L30, L31, L32, L33, L34, L35, L36, L37, L38, L39, L40, L48, L57, L59, L60, L62, L96, L97, L98, L99, L100, L104, L110, L119, L124, L500, L999, L1000, L2000, L3000, nI_add, pk_mul, pk_sub, nI_leI, nI_ltI, nI_eq, obs, u2_eq, u2_row, u2_ne, if_pos, if_neg, if_true, if_false, eq_self, ne_eq, not_true_eq_false, not_false_eq_true, o1, q0]; with_reducible exact rfl) | (with_reducible exact rfl)))) | ((with_reducible apply Ok.itT); (focus (simp (disch := omega) only [L0, L1, L2, L3, L4, L5, L6, L7, L8, L9, L10, L11, L12, L13, L14, L15, L16, L17, L18, L19, L20, L21, L22, L23, L24, L25, L26, L27, L28, L29, L30, L31, L32, L33, L34, L35, L36, L37, L38, L39, L40, L48, L57, L59, L60, L62, L96, L97, L98, L99, L100, L104, L110, L119, L124, L500, L999, L1000, L2000, L3000, nI_add, pk_mul, pk_sub, nI_leI, nI_ltI, nI_eq, obs, u2_eq, u2_row, u2_ne, if_pos, if_neg, if_true, if_false, eq_self, ne_eq, not_true_eq_false, not_false_eq_true, o1, q0] <;> omega))) | ((with_reducible apply Ok.itF); (focus (simp (disch := omega) only [L0, L1, L2, L3, L4, L5, L6, L7, L8, L9, L10, L11, L12, L13, L14, L15, L16, L17, L18, L19, L20, L21, L22, L23, L24, L25, L26, L27, L28, L29, L30, L31, L32, L33, L34, L35, L36, L37, L38, L39, L40, L48, L57, L59, L60, L62, L96, L97, L98, L99, L100, L104, L110, L119, L124, L500, L999, L1000, L2000, L3000, nI_add, pk_mul, pk_sub, nI_leI, nI_ltI, nI_eq, obs, u2_eq, u2_row, u2_ne, if_pos, if_neg, if_true, if_false, eq_self, ne_eq, not_true_eq_false, not_false_eq_true, o1, q0] <;> omega)))))
    simp only [L0]
    exact g
theorem c_begin43 {P : Im → Prop} : ∀ (n k f : Nat) (I : Im), k + n = W → n < f → PL0 p q u b start sdw cy W M K I R hr fu gi le la d1 → (∀ i, i ≤ k → I (p + 2) i = nI (FN la hr start i)) →
    (∀ I1, (∀ z, z ≠ p + 2 → z ≠ p + 3 → I1 z = I z) → PLs p q u b start sdw cy W M K I1 R hr fu gi le la d1 → (∀ j, j ≠ 0 → I1 (p + 3) j = I (p + 3) j) → I1 (p + 3) 0 = oM (iniW (peC la hr fu gi le d1 b sdw cy) start) → P I1) →
    Ok (f_X3_begin_43 K R p f (nI start) (nI k) I) P := by
  intro n
  induction n with
  | zero =>
    intro k f I hk hf hL hF kk
    obtain ⟨f, rfl⟩ : ∃ f', f = f' + 1 := ⟨f - 1, by omega⟩
    have hkW : k = W := by omega
    subst hkW
    have hL0 := hL
    obtain ⟨a1, a2, a3, a4, a5, a6, a7, a8, a9, a10, a11, a12, a13, a14⟩ := hL0
    have hW5 := a5.2.2.1
    have hcy := a5.2.2.2.2.2.1
    have bcy : b * cy ≤ 9 * 99 := Nat.mul_le_mul a7 hcy
    have o1 : ob K 10 (R p 4) = some q := by rw [a2]; exact ob9 a5.1
    have q0 : I q 0 = nI k := a5.2.1
    have ca := c_along a5 (by omega : 0 < 6) a6 a7 (by omega : start ≤ 1000000)
    have hd := a5.2.2.2.2.2.2.2.2.1
    obtain ⟨y1, y2, y3⟩ := a5.2.2.2.1 0 (by omega)
    have bA : wayD (fun j => b * d1 b 0 j) start (hr 0) ≤ 10692 * 9 := by
      have := wayD_le (f := fun j => b * d1 b 0 j) (B := 10692) (fun j _ => by
        have := Nat.mul_le_mul a7 (hd b 0 j)
        show b * d1 b 0 j ≤ 10692
        omega) start (hr 0)
      have h2 := Nat.mul_le_mul (Nat.le_refl 10692) y3
      omega
    have hini : iniW (peC la hr fu gi le d1 b sdw cy) start = if wayD (fun j => b * d1 b 0 j) start (hr 0) ≤ b * cy then some (b * cy - wayD (fun j => b * d1 b 0 j) start (hr 0)) else none := rfl
    have e : imax (-1) (nI (b * cy) - nI (wayD (fun j => b * d1 b 0 j) start (hr 0))) = oM (iniW (peC la hr fu gi le d1 b sdw cy) start) := by
      rw [hini]
      generalize wayD (fun j => b * d1 b 0 j) start (hr 0) = A at bA ⊢
      by_cases c : A ≤ b * cy
      · rw [if_pos c, pk_sub c]
        exact imax_pos (x := none) (fun n h => by cases h) (by omega)
      · rw [if_neg c, nI_jI, nI_jI, jsub]
        exact imax_neg (x := none) (fun n h => by cases h) (by omega) (by omega)
    have ho : ∀ z, z ≠ p + 3 → u2 I (p + 3) 0 (oM (iniW (peC la hr fu gi le d1 b sdw cy) start)) z = I z := fun z hz => u2_row hz
    have g := kk (u2 I (p + 3) 0 (oM (iniW (peC la hr fu gi le d1 b sdw cy) start))) (fun z _ z2 => ho z z2) ⟨hL.congr (fun z _ _ _ z3 _ => ho z z3) (by rw [ho p (by omega)]) (by rw [ho p (by omega)]) (by rw [ho p (by omega)]), fun i hi => by rw [ho _ (by omega)]; exact hF i hi⟩ (fun j hj => u2_ne hj) (u2_eq _ _ _ _)
    rw [← e] at g
    unfold f_X3_begin_43
    (repeat (first | ((with_reducible apply Ok.st); (focus (first | (simp (disch := omega) only [L0, L1, L2, L3, L4, L5, L6, L7, L8, L9, L10, L11, L12, L13, L14, L15, L16, L17, L18, L19, L20, L21, L22, L23, L24, L25, L26, L27, L28, L29, L30, L31, L32, L33, L34, L35, L36, L37, L38, L39, L40, L48, L57, L59, L60, L62, L96, L97, L98, L99, L100, L104, L110, L119, L124, L500, L999, L1000, L2000, L3000, nI_add, pk_mul, pk_sub, nI_leI, nI_ltI, nI_eq, obs, u2_eq, u2_row, u2_ne, if_pos, if_neg, if_true, if_false, eq_self, ne_eq, not_true_eq_false, not_false_eq_true, o1, q0, a8, ca]; with_reducible exact rfl) | (with_reducible exact rfl)))) | ((with_reducible apply Ok.itT); (focus (simp (disch := omega) only [L0, L1, L2, L3, L4, L5, L6, L7, L8, L9, L10, L11, L12, L13, L14, L15, L16, L17, L18, L19, L20, L21, L22, L23, L24, L25, L26, L27, L28, L29, L30, L31, L32, L33, L34, L35, L36, L37, L38, L39, L40, L48, L57, L59, L60, L62, L96, L97, L98, L99, L100, L104, L110, L119, L124, L500, L999, L1000, L2000, L3000, nI_add, pk_mul, pk_sub, nI_leI, nI_ltI, nI_eq, obs, u2_eq, u2_row, u2_ne, if_pos, if_neg, if_true, if_false, eq_self, ne_eq, not_true_eq_false, not_false_eq_true, o1, q0, a8, ca] <;> omega))) | ((with_reducible apply Ok.itF); (focus (simp (disch := omega) only [L0, L1, L2, L3, L4, L5, L6, L7, L8, L9, L10, L11, L12, L13, L14, L15, L16, L17, L18, L19, L20, L21, L22, L23, L24, L25, L26, L27, L28, L29, L30, L31, L32, L33, L34, L35, L36, L37, L38, L39, L40, L48, L57, L59, L60, L62, L96, L97, L98, L99, L100, L104, L110, L119, L124, L500, L999, L1000, L2000, L3000, nI_add, pk_mul, pk_sub, nI_leI, nI_ltI, nI_eq, obs, u2_eq, u2_row, u2_ne, if_pos, if_neg, if_true, if_false, eq_self, ne_eq, not_true_eq_false, not_false_eq_true, o1, q0, a8, ca] <;> omega)))))
    rw [L0, s3_2 a1 (by omega), obs, a9]
    exact Ok.ret g
  | succ n ih =>
    intro k f I hk hf hL hF kk
    obtain ⟨f, rfl⟩ : ∃ f', f = f' + 1 := ⟨f - 1, by omega⟩
    have hL0 := hL
    have hbF := FN_b hL k (by omega)
    obtain ⟨a1, a2, a3, a4, a5, a6, a7, a8, a9, a10, a11, a12, a13, a14⟩ := hL0
    have hW5 := a5.2.2.1
    have o1 : ob K 10 (R p 4) = some q := by rw [a2]; exact ob9 a5.1
    have o2 : ob K 11 (R p 5) = some u := by rw [a3]; exact ob10 a4
    have q0 : I q 0 = nI W := a5.2.1
    obtain ⟨w1, w2, w3, w4, w5, w6, w7, w8⟩ := a11 k (by omega)
    obtain ⟨y1, y2, y3⟩ := a5.2.2.2.1 (k + 1) (by omega)
    have hFk := hF k (Nat.le_refl _)
    have ho : ∀ z, z ≠ p + 2 → u2 I (p + 2) (k + 1) (nI (FN la hr start (k + 1))) z = I z := fun z hz => u2_row hz
    have g := ih (k + 1) f (u2 I (p + 2) (k + 1) (nI (FN la hr start (k + 1)))) (by omega) (by omega) (hL.congr (fun z _ _ z2 _ _ => ho z z2) (by rw [ho p (by omega)]) (by rw [ho p (by omega)]) (by rw [ho p (by omega)])) (fun i hi => by
      by_cases c : i = k + 1
      · subst c; rw [u2_eq]
      · rw [u2_ne c]; exact hF i (by omega)) (fun I1 g1 g2 g3 g4 => kk I1 (fun z z1 z2 => by rw [g1 z z1 z2, ho z z1]) g2 (fun j hj => by rw [g3 j hj, ho _ (by omega)]) g4)
    have hFs : max (FN la hr start k) (la k) + hr (k + 1) = FN la hr start (k + 1) := rfl
    unfold f_X3_begin_43
    (repeat (first | ((with_reducible apply Ok.st); (focus (first | (simp (disch := omega) only [L0, L1, L2, L3, L4, L5, L6, L7, L8, L9, L10, L11, L12, L13, L14, L15, L16, L17, L18, L19, L20, L21, L22, L23, L24, L25, L26, L27, L28, L29, L30, L31, L32, L33, L34, L35, L36, L37, L38, L39, L40, L48, L57, L59, L60, L62, L96, L97, L98, L99, L100, L104, L110, L119, L124, L500, L999, L1000, L2000, L3000, nI_add, pk_mul, pk_sub, nI_leI, nI_ltI, nI_eq, obs, u2_eq, u2_row, u2_ne, if_pos, if_neg, if_true, if_false, eq_self, ne_eq, not_true_eq_false, not_false_eq_true, o1, q0, l3_1 a1, hFk, o2, l10_3 a4, w7, l9_7 a5.1, y1, imax_nI, s3_1 a1, hFs]; with_reducible exact rfl) | (with_reducible exact rfl)))) | ((with_reducible apply Ok.itT); (focus (simp (disch := omega) only [L0, L1, L2, L3, L4, L5, L6, L7, L8, L9, L10, L11, L12, L13, L14, L15, L16, L17, L18, L19, L20, L21, L22, L23, L24, L25, L26, L27, L28, L29, L30, L31, L32, L33, L34, L35, L36, L37, L38, L39, L40, L48, L57, L59, L60, L62, L96, L97, L98, L99, L100, L104, L110, L119, L124, L500, L999, L1000, L2000, L3000, nI_add, pk_mul, pk_sub, nI_leI, nI_ltI, nI_eq, obs, u2_eq, u2_row, u2_ne, if_pos, if_neg, if_true, if_false, eq_self, ne_eq, not_true_eq_false, not_false_eq_true, o1, q0, l3_1 a1, hFk, o2, l10_3 a4, w7, l9_7 a5.1, y1, imax_nI, s3_1 a1, hFs] <;> omega))) | ((with_reducible apply Ok.itF); (focus (simp (disch := omega) only [L0, L1, L2, L3, L4, L5, L6, L7, L8, L9, L10, L11, L12, L13, L14, L15, L16, L17, L18, L19, L20, L21, L22, L23, L24, L25, L26, L27, L28, L29, L30, L31, L32, L33, L34, L35, L36, L37, L38, L39, L40, L48, L57, L59, L60, L62, L96, L97, L98, L99, L100, L104, L110, L119, L124, L500, L999, L1000, L2000, L3000, nI_add, pk_mul, pk_sub, nI_leI, nI_ltI, nI_eq, obs, u2_eq, u2_row, u2_ne, if_pos, if_neg, if_true, if_false, eq_self, ne_eq, not_true_eq_false, not_false_eq_true, o1, q0, l3_1 a1, hFk, o2, l10_3 a4, w7, l9_7 a5.1, y1, imax_nI, s3_1 a1, hFs] <;> omega)))))
    simp only [L1, nI_add]
    exact g
theorem c_begin2 {P : Im → Prop} : ∀ (n j f : Nat) (I : Im), j + n = 186 → n < f → PL0 p q u b start sdw cy W M K I R hr fu gi le la d1 → (∀ i, i < j → I (p + 3) i = -1) →
    (∀ I1, (∀ z, z ≠ p + 2 → z ≠ p + 3 → I1 z = I z) → PLs p q u b start sdw cy W M K I1 R hr fu gi le la d1 → (∀ j, j ≠ 0 → j < 186 → I1 (p + 3) j = -1) → I1 (p + 3) 0 = oM (iniW (peC la hr fu gi le d1 b sdw cy) start) → P I1) →
    Ok (f_X3_begin_2 K R p f (nI start) (nI j) I) P := by
  intro n
  induction n with
  | zero =>
    intro j f I hj hf hL hz kk
    obtain ⟨f, rfl⟩ : ∃ f', f = f' + 1 := ⟨f - 1, by omega⟩
    have hj : j = 186 := by omega
    subst hj
    have hL0 := hL
    obtain ⟨a1, a2, a3, a4, a5, a6, a7, a8, a9, a10, a11, a12, a13, a14⟩ := hL0
    have o1 : ob K 10 (R p 4) = some q := by rw [a2]; exact ob9 a5.1
    have o3 : alen K (R p 2) = some (nI 186) := by
      rw [r3_2 a1]
      have := alen_ok (K := K) (a := p + 3) (by rw [k3_2 a1]; omega) (by rw [k3_2 a1]; omega)
      rw [k3_2 a1] at this
      exact this
    obtain ⟨y1, y2, y3⟩ := a5.2.2.2.1 0 (by omega)
    have ho : ∀ z, z ≠ p + 2 → u2 I (p + 2) 0 (nI (start + hr 0)) z = I z := fun z hz => u2_row hz
    have g := c_begin43 (P := P) W 0 FU (u2 I (p + 2) 0 (nI (start + hr 0))) (by omega) (FU_lt (by have := a5.2.2.1; omega)) (hL.congr (fun z _ _ z2 _ _ => ho z z2) (by rw [ho p (by omega)]) (by rw [ho p (by omega)]) (by rw [ho p (by omega)])) (fun i hi => by
      have : i = 0 := by omega
      subst this
      rw [u2_eq]
      rfl) (fun I1 g1 g2 g3 g4 => kk I1 (fun z z1 z2 => by rw [g1 z z1 z2, ho z z1]) g2 (fun j hj hj2 => by rw [g3 j hj, ho _ (by omega)]; exact hz j hj2) g4)
    unfold f_X3_begin_2
    (repeat (first | ((with_reducible apply Ok.st); (focus (first | (simp (disch := omega) only [L0, L1, L2, L3, L4, L5, L6, L7, L8, L9, L10, L11, L12, L13, L14, L15, L16, L17, L18, L19, L20, L21, L22, L23, L24, L25, L26, L27, L28, L29, L30, L31, L32, L33, L34, L35, L36, L37, L38, L39, L40, L48, L57, L59, L60, L62, L96, L97, L98, L99, L100, L104, L110, L119, L124, L500, L999, L1000, L2000, L3000, nI_add, pk_mul, pk_sub, nI_leI, nI_ltI, nI_eq, obs, u2_eq, u2_row, u2_ne, if_pos, if_neg, if_true, if_false, eq_self, ne_eq, not_true_eq_false, not_false_eq_true, o3, o1, l9_7 a5.1, y1, s3_1 a1]; with_reducible exact rfl) | (with_reducible exact rfl)))) | ((with_reducible apply Ok.itT); (focus (simp (disch := omega) only [L0, L1, L2, L3, L4, L5, L6, L7, L8, L9, L10, L11, L12, L13, L14, L15, L16, L17, L18, L19, L20, L21, L22, L23, L24, L25, L26, L27, L28, L29, L30, L31, L32, L33, L34, L35, L36, L37, L38, L39, L40, L48, L57, L59, L60, L62, L96, L97, L98, L99, L100, L104, L110, L119, L124, L500, L999, L1000, L2000, L3000, nI_add, pk_mul, pk_sub, nI_leI, nI_ltI, nI_eq, obs, u2_eq, u2_row, u2_ne, if_pos, if_neg, if_true, if_false, eq_self, ne_eq, not_true_eq_false, not_false_eq_true, o3, o1, l9_7 a5.1, y1, s3_1 a1] <;> omega))) | ((with_reducible apply Ok.itF); (focus (simp (disch := omega) only [L0, L1, L2, L3, L4, L5, L6, L7, L8, L9, L10, L11, L12, L13, L14, L15, L16, L17, L18, L19, L20, L21, L22, L23, L24, L25, L26, L27, L28, L29, L30, L31, L32, L33, L34, L35, L36, L37, L38, L39, L40, L48, L57, L59, L60, L62, L96, L97, L98, L99, L100, L104, L110, L119, L124, L500, L999, L1000, L2000, L3000, nI_add, pk_mul, pk_sub, nI_leI, nI_ltI, nI_eq, obs, u2_eq, u2_row, u2_ne, if_pos, if_neg, if_true, if_false, eq_self, ne_eq, not_true_eq_false, not_false_eq_true, o3, o1, l9_7 a5.1, y1, s3_1 a1] <;> omega)))))
    simp only [L0]
    exact g
  | succ n ih =>
    intro j f I hj hf hL hz kk
    obtain ⟨f, rfl⟩ : ∃ f', f = f' + 1 := ⟨f - 1, by omega⟩
    have a1 := hL.1
    have o3 : alen K (R p 2) = some (nI 186) := by
      rw [r3_2 a1]
      have := alen_ok (K := K) (a := p + 3) (by rw [k3_2 a1]; omega) (by rw [k3_2 a1]; omega)
      rw [k3_2 a1] at this
      exact this
    have ho : ∀ z, z ≠ p + 3 → u2 I (p + 3) j (-1) z = I z := fun z hz => u2_row hz
    have g := ih (j + 1) f (u2 I (p + 3) j (-1)) (by omega) (by omega) (hL.congr (fun z _ _ _ z3 _ => ho z z3) (by rw [ho p (by omega)]) (by rw [ho p (by omega)]) (by rw [ho p (by omega)])) (fun i hi => by
      by_cases c : i = j
      · subst c; rw [u2_eq]
      · rw [u2_ne c]; exact hz i (by omega)) (fun I1 g1 g2 g3 g4 => kk I1 (fun z z1 z2 => by rw [g1 z z1 z2, ho z z2]) g2 g3 g4)
    have n0 : ¬ (nI 186 ≤ nI j) := by rw [nI_leI (by omega) (by omega)]; omega
    unfold f_X3_begin_2
    rw [o3, obs, if_neg n0, s3_2 a1 (by omega), obs, L1, nI_add]
    exact g
/-- the references that the planner keeps -/
def plR (p q u : Nat) (R : Rf) : Rf := u2 (u2 R p 4 (some q)) p 5 (some u)
theorem plR_row {z : Nat} (h : z ≠ p) : plR p q u R z = R z := by unfold plR; rw [u2_row h, u2_row h]
theorem plR_fld {k : Nat} (h4 : k ≠ 4) (h5 : k ≠ 5) : plR p q u R p k = R p k := by unfold plR; rw [u2_ne h5, u2_ne h4]
theorem S3.pl (h : S3 p K R) : S3 p K (plR p q u R) := by
  unfold S3 at h ⊢
  rw [plR_fld (by decide) (by decide), plR_fld (by decide) (by decide), plR_fld (by decide) (by decide), plR_fld (by decide) (by decide)]
  exact h
theorem S10.congr {R' : Rf} (h : S10 u K R) (hR : R' u = R u) : S10 u K R' := by unfold S10 at h ⊢; rw [hR]; exact h
theorem WV.congrR {R' : Rf} {I : Im} (h : WV q K I R W hr cy sdw d1) (hR : R' q = R q) : WV q K I R' W hr cy sdw d1 := by
  unfold WV S9 at h ⊢
  rw [hR]
  exact h
theorem c_earliest {a : Nat} {I : Im} {P : Int32 × Im × Rf → Prop} (hS3 : S3 p K R) (hS : S10 u K R) (hV : WV q K I R W hr cy sdw d1) (ha : (K a).1 = 2) (hap : a ≠ p) (hb1 : 1 ≤ b) (hb9 : b ≤ 9) (ha0 : I a 0 = nI b) (ha1 : I a 1 = nI start) (hwl : WlF u W M I fu gi le la) (hM : M ≤ 800000) (hst : start ≤ M) (hoff : PLoff p q u R) (hqp : q ≠ p) (hup : u ≠ p)
    (kk : ∀ I1 t, (∀ z, z ≠ p → z ≠ p + 2 → z ≠ p + 3 → I1 z = I z) → bsT (peC la hr fu gi le d1 b sdw cy) W start t → PLs p q u b start sdw cy W M K I1 (plR p q u R) hr fu gi le la d1 → (I1 p 9 = oI t ∧ ∀ t0, t = some t0 → t0 ≤ 900000) → I1 (p + 3) 0 = oM (iniW (peC la hr fu gi le d1 b sdw cy) start) → P (oI t, I1, plR p q u R)) :
    Ok (f_X3_earliest K p (some q) (some u) (some a) I R) P := by
  have hcy := hV.2.2.2.2.2.1
  have hsdw := hV.2.2.2.2.2.2.2.1
  have bcy : cy * b ≤ 99 * 9 := Nat.mul_le_mul hcy hb9
  have bsd : sdw * b ≤ 99 * 9 := Nat.mul_le_mul hsdw hb9
  have o2 : ob K 2 (some a) = some a := ob_ok ha
  have o1 : ob K 10 (plR p q u R p 4) = some q := by
    have : plR p q u R p 4 = some q := by unfold plR; rw [u2_ne (by decide), u2_eq]
    rw [this]; exact ob9 hV.1
  have q2 : I q 2 = nI cy := hV.2.2.2.2.1
  have q4 : I q 4 = nI sdw := hV.2.2.2.2.2.2.1
  have hRd : u2 (u2 R p 4 (some q)) p 5 (some u) = plR p q u R := rfl
  have ho : ∀ z, z ≠ p → u2 (u2 (u2 I p 6 (nI b)) p 7 (nI (b * cy))) p 8 (nI (b * sdw)) z = I z := fun z hz => by rw [u2_row hz, u2_row hz, u2_row hz]
  have hoff' : PLoff p q u (plR p q u R) := fun z hz => hoff z (hz.imp (fun h => by unfold WVcells at h ⊢; rw [plR_row hqp] at h; exact h) id)
  have hL : PL0 p q u b start sdw cy W M K (u2 (u2 (u2 I p 6 (nI b)) p 7 (nI (b * cy))) p 8 (nI (b * sdw))) (plR p q u R) hr fu gi le la d1 := by
    refine ⟨hS3.pl, by unfold plR; rw [u2_ne (by decide), u2_eq], by unfold plR; rw [u2_eq], hS.congr (plR_row hup), (hV.congrR (plR_row hqp)).congr (fun z hz => ho z (hoff' z (Or.inl hz)).1), hb1, hb9, by rw [u2_ne (by decide), u2_ne (by decide), u2_eq], by rw [u2_ne (by decide), u2_eq], by rw [u2_eq], fun j hj => ?_, hM, hst, hoff'⟩
    rw [ho _ (hoff _ (Or.inr ⟨1, by decide, rfl⟩)).1, ho _ (hoff _ (Or.inr ⟨2, by decide, rfl⟩)).1, ho _ (hoff _ (Or.inr ⟨3, by decide, rfl⟩)).1, ho _ (hoff _ (Or.inr ⟨4, by decide, rfl⟩)).1]
    exact hwl j hj
  have g : Ok (Option.bind (f_X3_begin K (plR p q u R) p (nI start) (u2 (u2 (u2 I p 6 (nI b)) p 7 (nI (b * cy))) p 8 (nI (b * sdw)))) fun q24 => f_X3_earliest_61 K p FU (nI 0) q24 (plR p q u R)) P := by
    unfold f_X3_begin
    rw [L0]
    refine Ok.bind (c_begin2 (P := fun I1 => (∀ z, z ≠ p → z ≠ p + 2 → z ≠ p + 3 → I1 z = I z) ∧ PLs p q u b start sdw cy W M K I1 (plR p q u R) hr fu gi le la d1 ∧ (∀ j, j ≠ 0 → j < 186 → I1 (p + 3) j = -1) ∧ I1 (p + 3) 0 = oM (iniW (peC la hr fu gi le d1 b sdw cy) start)) 186 0 FU _ (by omega) (FU_lt (by omega)) hL (fun i hi => by omega) (fun I1 g1 g2 g3 g4 => ⟨fun z z1 z2 z3 => by rw [g1 z z2 z3, ho z z1], g2, g3, g4⟩)) (fun I1 hI1 => ?_)
    obtain ⟨g1, g2, g3, g4⟩ := hI1
    have hW5 : W ≤ 5 := hV.2.2.1
    refine c_e61 W 0 FU I1 (fun j => if j = 0 then iniW (peC la hr fu gi le d1 b sdw cy) start else none) (by omega) (FU_lt (by omega)) g2 (fun j hj => ?_) (fun k' h1 h2 j hj => g3 _ (by omega) (by omega)) (fun j w h => ?_) ?_ (fun I2 t k1 k2 k3 k4 k5 => kk I2 t (fun z z1 z2 z3 => by rw [k1 z z1 z3, g1 z z1 z2 z3]) k4 (g2.congr (fun z z1 _ z3 _ => k1 z z1 z3) (k2 6 (by decide)) (k2 7 (by decide)) (k2 8 (by decide))) k5 (by rw [k3, g4]))
    · by_cases c : j = 0
      · subst c; exact g4
      · simp only [if_neg c]; exact g3 _ (by omega) (by omega)
    · by_cases c : j = 0
      · subst c
        rw [if_pos rfl] at h
        unfold iniW at h
        split at h
        · cases h
          exact ⟨Nat.sub_le _ _, by omega⟩
        · cases h
      · rw [if_neg c] at h; cases h
    · unfold FWO
      cases hi : iniW (peC la hr fu gi le d1 b sdw cy) start with
      | none =>
        intro j
        show (if j = 0 then none else none) = none
        split <;> rfl
      | some w0 =>
        intro t
        constructor
        · intro h
          exact ⟨0, w0, by omega, by simp, h⟩
        · rintro ⟨i, w, h1, h2, h3⟩
          have : i = 0 := by omega
          subst this
          simp only [if_true] at h2
          cases h2
          exact h3
  unfold f_X3_earliest
  rw [obs, obs, hRd, o2, obs, ha0, obs, o1, obs]
  have e7 : u2 I p 6 (nI b) q 2 * u2 I p 6 (nI b) p 6 = nI (b * cy) := by rw [u2_row hqp, u2_eq, q2, pk_mul, Nat.mul_comm]
  rw [e7, obs]
  have e8 : u2 (u2 I p 6 (nI b)) p 7 (nI (b * cy)) q 4 * u2 (u2 I p 6 (nI b)) p 7 (nI (b * cy)) p 6 = nI (b * sdw) := by rw [u2_row hqp, u2_row hqp, u2_ne (by decide), u2_eq, q4, pk_mul, Nat.mul_comm]
  rw [e8, obs, ho a hap, ha1, L0]
  exact g
end
