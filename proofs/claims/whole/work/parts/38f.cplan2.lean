section
variable {p q u b start sdw cy W M : Nat} {K : Sh} {R : Rf} {I : Im} {hr fu gi le la : Nat → Nat} {d1 : Nat → Nat → Nat → Nat}
def RowL (p k W t : Nat) (e : PE) (F : Nat) (B : Nat) (I : Im) : Prop := ∀ j, j ≤ B → I (p + 4) (k * 31 + j) = nI (LN e t (W - k) k (F + j))
theorem alen3 (hS3 : S3 p K R) : alen K (R p 3) = some (nI 186) := by
  rw [r3_3 hS3]
  have := alen_ok (K := K) (a := p + 4) (by rw [k3_3 hS3]; omega) (by rw [k3_3 hS3]; omega)
  rw [k3_3 hS3] at this
  exact this
theorem c_leastNext {t : Nat} (h : PLs p q u b start sdw cy W M K I R hr fu gi le la d1) {k i s B : Nat} (hk : k < W) (hi : i ≤ 6 * k) (hs : s ≤ 6) (hB : 6 * (k + 1) ≤ B) (hRL : RowL p (k + 1) W t (peC la hr fu gi le d1 b sdw cy) (FN la hr start (k + 1)) B I) :
    f_X3_leastNext K I R p (nI k) (nI (lvE (peC la hr fu gi le d1 b sdw cy) k (FN la hr start k + i) s)) = some (nI (LN (peC la hr fu gi le d1 b sdw cy) t (W - (k + 1)) (k + 1) (lvE (peC la hr fu gi le d1 b sdw cy) k (FN la hr start k + i) s + hr (k + 1)))) := by
  have hW5 : W ≤ 5 := h.1.2.2.2.2.1.2.2.1
  have cn := c_nextOf h hk (by omega : i ≤ 30) hs
  have lb := lv_b h hk (by omega : i ≤ 30) hs
  have hS3 := h.1.1
  generalize lvE (peC la hr fu gi le d1 b sdw cy) k (FN la hr start k + i) s = lv at cn lb ⊢
  have hrow := hRL (lv + hr (k + 1) - FN la hr start (k + 1)) (by omega)
  rw [show FN la hr start (k + 1) + (lv + hr (k + 1) - FN la hr start (k + 1)) = lv + hr (k + 1) by omega] at hrow
  generalize hj : lv + hr (k + 1) - FN la hr start (k + 1) = j at cn hrow
  have a3 := alen3 hS3
  unfold f_X3_leastNext
  (repeat (first | ((with_reducible apply Est); (focus (first | (simp (disch := omega) only [L0, L1, L2, L3, L4, L5, L6, L7, L8, L9, L10, L11, L12, L13, L14, L15, L16, L17, L18, L19, L20, L21, L22, L23, L24, L25, L26, L27, L28, L29, L30, L31, L32, L33, L34, L35, L36, L37, L38, L39, L40, L48, L57, L59, L60, L62, L96, L97, L98, L99, L100, L104, L110, L119, L124, L500, L999, L1000, L2000, L3000, nI_add, pk_mul, pk_sub, nI_leI, nI_ltI, nI_eq, obs, u2_eq, u2_row, u2_ne, if_pos, if_neg, if_true, if_false, eq_self, ne_eq, not_true_eq_false, not_false_eq_true, cn, a3, l3_3 hS3, hrow]; with_reducible exact rfl) | (with_reducible exact rfl)))) | ((with_reducible apply EitT); (focus (simp (disch := omega) only [L0, L1, L2, L3, L4, L5, L6, L7, L8, L9, L10, L11, L12, L13, L14, L15, L16, L17, L18, L19, L20, L21, L22, L23, L24, L25, L26, L27, L28, L29, L30, L31, L32, L33, L34, L35, L36, L37, L38, L39, L40, L48, L57, L59, L60, L62, L96, L97, L98, L99, L100, L104, L110, L119, L124, L500, L999, L1000, L2000, L3000, nI_add, pk_mul, pk_sub, nI_leI, nI_ltI, nI_eq, obs, u2_eq, u2_row, u2_ne, if_pos, if_neg, if_true, if_false, eq_self, ne_eq, not_true_eq_false, not_false_eq_true, cn, a3, l3_3 hS3, hrow] <;> omega))) | ((with_reducible apply EitF); (focus (simp (disch := omega) only [L0, L1, L2, L3, L4, L5, L6, L7, L8, L9, L10, L11, L12, L13, L14, L15, L16, L17, L18, L19, L20, L21, L22, L23, L24, L25, L26, L27, L28, L29, L30, L31, L32, L33, L34, L35, L36, L37, L38, L39, L40, L48, L57, L59, L60, L62, L96, L97, L98, L99, L100, L104, L110, L119, L124, L500, L999, L1000, L2000, L3000, nI_add, pk_mul, pk_sub, nI_leI, nI_ltI, nI_eq, obs, u2_eq, u2_row, u2_ne, if_pos, if_neg, if_true, if_false, eq_self, ne_eq, not_true_eq_false, not_false_eq_true, cn, a3, l3_3 hS3, hrow] <;> omega)))))
  all_goals rfl
theorem sub_max0 {a c : Nat} (ha : a < 2 ^ 30) (hc : c < 2 ^ 30) : imax (nI 0) (nI a - nI c) = nI (a - c) := by
  by_cases h : c ≤ a
  · rw [pk_sub h, imax_nI (by omega) (by omega), Nat.max_eq_right (by omega)]
  · unfold imax
    rw [if_neg]
    · rw [show a - c = 0 by omega]
    · rw [nI_jI, nI_jI, nI_jI, jsub, jlt (by omega) (by omega)]
      omega
set_option maxHeartbeats 1000000 in
theorem c_leastAt6 {t : Nat} (h : PLs p q u b start sdw cy W M K I R hr fu gi le la d1) {k i B : Nat} (hk : k < W) (hi : i ≤ 6 * k) (hB : 6 * (k + 1) ≤ B) (hRL : RowL p (k + 1) W t (peC la hr fu gi le d1 b sdw cy) (FN la hr start (k + 1)) B I) : ∀ (n s f : Nat), s + n = 7 → n < f →
    f_X3_leastAt_6 K I R p f (nI k) (nI i) (nI (mlN (needS (peC la hr fu gi le d1 b sdw cy) (LN (peC la hr fu gi le d1 b sdw cy) t (W - (k + 1)) (k + 1)) k (FN la hr start k + i)) s)) (nI s) = some (nI (mlN (needS (peC la hr fu gi le d1 b sdw cy) (LN (peC la hr fu gi le d1 b sdw cy) t (W - (k + 1)) (k + 1)) k (FN la hr start k + i)) 7)) := by
  intro n
  induction n with
  | zero =>
    intro s f hs hf
    obtain ⟨f, rfl⟩ : ∃ f', f = f' + 1 := ⟨f - 1, by omega⟩
    have : s = 7 := by omega
    subst this
    unfold f_X3_leastAt_6
    (repeat (first | ((with_reducible apply Est); (focus (first | (simp (disch := omega) only [L0, L1, L2, L3, L4, L5, L6, L7, L8, L9, L10, L11, L12, L13, L14, L15, L16, L17, L18, L19, L20, L21, L22, L23, L24, L25, L26, L27, L28, L29, L30, L31, L32, L33, L34, L35, L36, L37, L38, L39, L40, L48, L57, L59, L60, L62, L96, L97, L98, L99, L100, L104, L110, L119, L124, L500, L999, L1000, L2000, L3000, nI_add, pk_mul, pk_sub, nI_leI, nI_ltI, nI_eq, obs, u2_eq, u2_row, u2_ne, if_pos, if_neg, if_true, if_false, eq_self, ne_eq, not_true_eq_false, not_false_eq_true]; with_reducible exact rfl) | (with_reducible exact rfl)))) | ((with_reducible apply EitT); (focus (simp (disch := omega) only [L0, L1, L2, L3, L4, L5, L6, L7, L8, L9, L10, L11, L12, L13, L14, L15, L16, L17, L18, L19, L20, L21, L22, L23, L24, L25, L26, L27, L28, L29, L30, L31, L32, L33, L34, L35, L36, L37, L38, L39, L40, L48, L57, L59, L60, L62, L96, L97, L98, L99, L100, L104, L110, L119, L124, L500, L999, L1000, L2000, L3000, nI_add, pk_mul, pk_sub, nI_leI, nI_ltI, nI_eq, obs, u2_eq, u2_row, u2_ne, if_pos, if_neg, if_true, if_false, eq_self, ne_eq, not_true_eq_false, not_false_eq_true] <;> omega))) | ((with_reducible apply EitF); (focus (simp (disch := omega) only [L0, L1, L2, L3, L4, L5, L6, L7, L8, L9, L10, L11, L12, L13, L14, L15, L16, L17, L18, L19, L20, L21, L22, L23, L24, L25, L26, L27, L28, L29, L30, L31, L32, L33, L34, L35, L36, L37, L38, L39, L40, L48, L57, L59, L60, L62, L96, L97, L98, L99, L100, L104, L110, L119, L124, L500, L999, L1000, L2000, L3000, nI_add, pk_mul, pk_sub, nI_leI, nI_ltI, nI_eq, obs, u2_eq, u2_row, u2_ne, if_pos, if_neg, if_true, if_false, eq_self, ne_eq, not_true_eq_false, not_false_eq_true] <;> omega)))))
    all_goals rfl
  | succ n ih =>
    intro s f hs hf
    obtain ⟨f, rfl⟩ : ∃ f', f = f' + 1 := ⟨f - 1, by omega⟩
    have hW5 : W ≤ 5 := h.1.2.2.2.2.1.2.2.1
    have hnx := c_leastNext (s := s) h hk hi (by omega) hB hRL
    have cl := c_leaving h hk (by omega : i ≤ 30) (by omega : s ≤ 6)
    have lb := lv_b h hk (by omega : i ≤ 30) (by omega : s ≤ 6)
    have hfb := FN_b h.1 k (by omega)
    have g := ih (s + 1) f (by omega) (by omega)
    have hml := mlN_b (g := needS (peC la hr fu gi le d1 b sdw cy) (LN (peC la hr fu gi le d1 b sdw cy) t (W - (k + 1)) (k + 1)) k (FN la hr start k + i)) s
    simp only [mlN] at g
    have hF := h.2 k (by omega)
    obtain ⟨a1, a2, a3, a4, a5, a6, a7, a8, a9, a10, a11, a12, a13, a14⟩ := h.1
    have hcy := a5.2.2.2.2.2.1
    have hsdw := a5.2.2.2.2.2.2.2.1
    have bcy : b * cy ≤ 9 * 99 := Nat.mul_le_mul a7 hcy
    have bsd : b * sdw ≤ 9 * 99 := Nat.mul_le_mul a7 hsdw
    obtain ⟨w1, w2, w3, w4, w5, w6, w7, w8⟩ := a11 k hk
    have hd := a5.2.2.2.2.2.2.2.2.1
    obtain ⟨y1, y2, y3⟩ := a5.2.2.2.1 (k + 1) (by omega)
    have o1 : ob K 10 (R p 4) = some q := by rw [a2]; exact ob9 a5.1
    have o2 : ob K 11 (R p 5) = some u := by rw [a3]; exact ob10 a4
    have hneed : needS (peC la hr fu gi le d1 b sdw cy) (LN (peC la hr fu gi le d1 b sdw cy) t (W - (k + 1)) (k + 1)) k (FN la hr start k + i) s = if LN (peC la hr fu gi le d1 b sdw cy) t (W - (k + 1)) (k + 1) (lvE (peC la hr fu gi le d1 b sdw cy) k (FN la hr start k + i) s + hr (k + 1)) + wayD (fun j => b * d1 b (k + 1) j) (lvE (peC la hr fu gi le d1 b sdw cy) k (FN la hr start k + i) s) (hr (k + 1)) ≤ b * cy then (lvE (peC la hr fu gi le d1 b sdw cy) k (FN la hr start k + i) s - (FN la hr start k + i)) * (b * sdw) + (LN (peC la hr fu gi le d1 b sdw cy) t (W - (k + 1)) (k + 1) (lvE (peC la hr fu gi le d1 b sdw cy) k (FN la hr start k + i) s + hr (k + 1)) + wayD (fun j => b * d1 b (k + 1) j) (lvE (peC la hr fu gi le d1 b sdw cy) k (FN la hr start k + i) s) (hr (k + 1)) - heldN fu gi le la k (lvE (peC la hr fu gi le d1 b sdw cy) k (FN la hr start k + i) s)) else 1000000 := rfl
    have hLb := LN_b (e := peC la hr fu gi le d1 b sdw cy) (t := t) (W - (k + 1)) (k + 1) (lvE (peC la hr fu gi le d1 b sdw cy) k (FN la hr start k + i) s + hr (k + 1))
    generalize LN (peC la hr fu gi le d1 b sdw cy) t (W - (k + 1)) (k + 1) (lvE (peC la hr fu gi le d1 b sdw cy) k (FN la hr start k + i) s + hr (k + 1)) = L at hnx hneed hLb
    generalize lvE (peC la hr fu gi le d1 b sdw cy) k (FN la hr start k + i) s = lv at hnx cl lb hneed
    generalize mlN (needS (peC la hr fu gi le d1 b sdw cy) (LN (peC la hr fu gi le d1 b sdw cy) t (W - (k + 1)) (k + 1)) k (FN la hr start k + i)) s = ml at g hml ⊢
    have hprod : (lv - (FN la hr start k + i)) * (b * sdw) ≤ 810000 * 891 := Nat.mul_le_mul (by omega) (by omega)
    have ch := c_held (K := K) (R := R) (I := I) (h := lv) a4 (by omega : k < 5) w1 w3 w5 w7 w2 w4 w6 (by omega) (by omega)
    have hl := heldN_le (fu := fu) (gi := gi) (le := le) (la := la) (k := k) (h := lv) w2 w6
    have ca := c_along a5 (by omega : k + 1 < 6) a6 a7 (by omega : lv ≤ 1000000)
    have bA : wayD (fun j => b * d1 b (k + 1) j) lv (hr (k + 1)) ≤ 10692 * 9 := by
      have := wayD_le (f := fun j => b * d1 b (k + 1) j) (B := 10692) (fun j _ => by
        have := Nat.mul_le_mul a7 (hd b (k + 1) j)
        show b * d1 b (k + 1) j ≤ 10692
        omega) lv (hr (k + 1))
      have h2 := Nat.mul_le_mul (Nat.le_refl 10692) y3
      omega
    generalize wayD (fun j => b * d1 b (k + 1) j) lv (hr (k + 1)) = A at ca bA hneed
    generalize heldN fu gi le la k lv = hd0 at ch hl hneed
    have e1 : nI (lv - FN la hr start k - i) * nI (b * sdw) = nI ((lv - (FN la hr start k + i)) * (b * sdw)) := by
      rw [pk_mul, show lv - FN la hr start k - i = lv - (FN la hr start k + i) by omega]
    generalize hT : (lv - (FN la hr start k + i)) * (b * sdw) = T at e1 hprod hneed
    unfold f_X3_leastAt_6
    by_cases c : L + A ≤ b * cy
    · rw [if_pos c] at hneed
      rw [hneed] at g
      (repeat (first | ((with_reducible apply Est); (focus (first | (simp (disch := omega) only [L0, L1, L2, L3, L4, L5, L6, L7, L8, L9, L10, L11, L12, L13, L14, L15, L16, L17, L18, L19, L20, L21, L22, L23, L24, L25, L26, L27, L28, L29, L30, L31, L32, L33, L34, L35, L36, L37, L38, L39, L40, L48, L57, L59, L60, L62, L96, L97, L98, L99, L100, L104, L110, L119, L124, L500, L999, L1000, L2000, L3000, nI_add, pk_mul, pk_sub, nI_leI, nI_ltI, nI_eq, obs, u2_eq, u2_row, u2_ne, if_pos, if_neg, if_true, if_false, eq_self, ne_eq, not_true_eq_false, not_false_eq_true, cl, hnx, o1, a8, ca, a9, l3_1 a1, hF, o2, ch]; with_reducible exact rfl) | (with_reducible exact rfl)))) | ((with_reducible apply EitT); (focus (simp (disch := omega) only [L0, L1, L2, L3, L4, L5, L6, L7, L8, L9, L10, L11, L12, L13, L14, L15, L16, L17, L18, L19, L20, L21, L22, L23, L24, L25, L26, L27, L28, L29, L30, L31, L32, L33, L34, L35, L36, L37, L38, L39, L40, L48, L57, L59, L60, L62, L96, L97, L98, L99, L100, L104, L110, L119, L124, L500, L999, L1000, L2000, L3000, nI_add, pk_mul, pk_sub, nI_leI, nI_ltI, nI_eq, obs, u2_eq, u2_row, u2_ne, if_pos, if_neg, if_true, if_false, eq_self, ne_eq, not_true_eq_false, not_false_eq_true, cl, hnx, o1, a8, ca, a9, l3_1 a1, hF, o2, ch] <;> omega))) | ((with_reducible apply EitF); (focus (simp (disch := omega) only [L0, L1, L2, L3, L4, L5, L6, L7, L8, L9, L10, L11, L12, L13, L14, L15, L16, L17, L18, L19, L20, L21, L22, L23, L24, L25, L26, L27, L28, L29, L30, L31, L32, L33, L34, L35, L36, L37, L38, L39, L40, L48, L57, L59, L60, L62, L96, L97, L98, L99, L100, L104, L110, L119, L124, L500, L999, L1000, L2000, L3000, nI_add, pk_mul, pk_sub, nI_leI, nI_ltI, nI_eq, obs, u2_eq, u2_row, u2_ne, if_pos, if_neg, if_true, if_false, eq_self, ne_eq, not_true_eq_false, not_false_eq_true, cl, hnx, o1, a8, ca, a9, l3_1 a1, hF, o2, ch] <;> omega)))))
      rw [a10, e1, sub_max0 (by omega) (by omega), nI_add, imin_nI (by omega) (by omega), L1, nI_add]
      exact g
    · rw [if_neg c] at hneed
      rw [hneed, Nat.min_eq_left hml] at g
      (repeat (first | ((with_reducible apply Est); (focus (first | (simp (disch := omega) only [L0, L1, L2, L3, L4, L5, L6, L7, L8, L9, L10, L11, L12, L13, L14, L15, L16, L17, L18, L19, L20, L21, L22, L23, L24, L25, L26, L27, L28, L29, L30, L31, L32, L33, L34, L35, L36, L37, L38, L39, L40, L48, L57, L59, L60, L62, L96, L97, L98, L99, L100, L104, L110, L119, L124, L500, L999, L1000, L2000, L3000, nI_add, pk_mul, pk_sub, nI_leI, nI_ltI, nI_eq, obs, u2_eq, u2_row, u2_ne, if_pos, if_neg, if_true, if_false, eq_self, ne_eq, not_true_eq_false, not_false_eq_true, cl, hnx, o1, a8, ca, a9]; with_reducible exact rfl) | (with_reducible exact rfl)))) | ((with_reducible apply EitT); (focus (simp (disch := omega) only [L0, L1, L2, L3, L4, L5, L6, L7, L8, L9, L10, L11, L12, L13, L14, L15, L16, L17, L18, L19, L20, L21, L22, L23, L24, L25, L26, L27, L28, L29, L30, L31, L32, L33, L34, L35, L36, L37, L38, L39, L40, L48, L57, L59, L60, L62, L96, L97, L98, L99, L100, L104, L110, L119, L124, L500, L999, L1000, L2000, L3000, nI_add, pk_mul, pk_sub, nI_leI, nI_ltI, nI_eq, obs, u2_eq, u2_row, u2_ne, if_pos, if_neg, if_true, if_false, eq_self, ne_eq, not_true_eq_false, not_false_eq_true, cl, hnx, o1, a8, ca, a9] <;> omega))) | ((with_reducible apply EitF); (focus (simp (disch := omega) only [L0, L1, L2, L3, L4, L5, L6, L7, L8, L9, L10, L11, L12, L13, L14, L15, L16, L17, L18, L19, L20, L21, L22, L23, L24, L25, L26, L27, L28, L29, L30, L31, L32, L33, L34, L35, L36, L37, L38, L39, L40, L48, L57, L59, L60, L62, L96, L97, L98, L99, L100, L104, L110, L119, L124, L500, L999, L1000, L2000, L3000, nI_add, pk_mul, pk_sub, nI_leI, nI_ltI, nI_eq, obs, u2_eq, u2_row, u2_ne, if_pos, if_neg, if_true, if_false, eq_self, ne_eq, not_true_eq_false, not_false_eq_true, cl, hnx, o1, a8, ca, a9] <;> omega)))))
      rw [L1, nI_add]
      exact g
theorem c_leadsOn {t : Nat} (h : PLs p q u b start sdw cy W M K I R hr fu gi le la d1) {k i s w B : Nat} (hk : k < W) (hi : i ≤ 6 * k) (hs : s ≤ 6) (hw : w ≤ b * cy) (hB : 6 * (k + 1) ≤ B) (hRL : RowL p (k + 1) W t (peC la hr fu gi le d1 b sdw cy) (FN la hr start (k + 1)) B I) :
    f_X3_leadsOn K I R p (nI k) (nI i) (nI s) (nI w) = some (bI (okB (peC la hr fu gi le d1 b sdw cy) t (W - (k + 1)) k (FN la hr start k + i) w s)) := by
  have hW5 : W ≤ 5 := h.1.2.2.2.2.1.2.2.1
  have hnx := c_leastNext (s := s) h hk hi hs hB hRL
  have cl := c_leaving h hk (by omega : i ≤ 30) hs
  obtain ⟨z, cb, zb1, zb2, hz⟩ := c_brought h hk (by omega : i ≤ 30) hs hw
  have hLb := LN_b (e := peC la hr fu gi le d1 b sdw cy) (t := t) (W - (k + 1)) (k + 1) (lvE (peC la hr fu gi le d1 b sdw cy) k (FN la hr start k + i) s + hr (k + 1))
  unfold f_X3_leadsOn
  rw [cl, obs, cb, obs, hnx, obs]
  unfold okB
  cases hx : stp (peC la hr fu gi le d1 b sdw cy) k s (FN la hr start k + i) w with
  | none =>
    rw [hx] at hz
    have hz : z < 0 := hz
    rw [if_pos (by rw [nI_jI, jlt (by omega) (by omega)]; omega)]
    rfl
  | some x =>
    rw [hx] at hz
    have hz : z = x.2 := hz
    obtain ⟨-, -, hp⟩ := stp_some hx
    have hp1 : x.1 = lvE (peC la hr fu gi le d1 b sdw cy) k (FN la hr start k + i) s + hr (k + 1) := by rw [hp]; rfl
    show _ = some (bI (decide (LN (peC la hr fu gi le d1 b sdw cy) t (W - (k + 1)) (k + 1) x.1 ≤ x.2)))
    rw [hp1]
    generalize LN (peC la hr fu gi le d1 b sdw cy) t (W - (k + 1)) (k + 1) (lvE (peC la hr fu gi le d1 b sdw cy) k (FN la hr start k + i) s + hr (k + 1)) = L at hLb ⊢
    by_cases c : L ≤ x.2
    · rw [if_neg (by rw [nI_jI, jlt (by omega) (by omega)]; omega)]
      simp only [decide_eq_true c]
      rfl
    · rw [if_pos (by rw [nI_jI, jlt (by omega) (by omega)]; omega)]
      simp only [decide_eq_false c]
      rfl
end
