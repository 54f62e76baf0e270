/-! THE CLASS' PLANNER -/
def FN (la hr : Nat → Nat) (start : Nat) : Nat → Nat
  | 0 => start + hr 0
  | k + 1 => max (FN la hr start k) (la k) + hr (k + 1)
def peC (la hr fu gi le : Nat → Nat) (d1 : Nat → Nat → Nat → Nat) (b sdw cy : Nat) : PE := peN la hr fu gi le (fun k j => b * d1 b k j) (b * sdw) (b * cy)
def WlF (u W M : Nat) (I : Im) (fu gi le la : Nat → Nat) : Prop := ∀ j, j < W → I (u + 1) j = nI (fu j) ∧ fu j ≤ 99 ∧ I (u + 2) j = nI (gi j) ∧ gi j ≤ 99 ∧ I (u + 3) j = nI (le j) ∧ le j ≤ 99 ∧ I (u + 4) j = nI (la j) ∧ la j ≤ M
def PLoff (p q u : Nat) (R : Rf) : Prop := ∀ z, WVcells q R z ∨ (∃ i, i < 5 ∧ z = u + i) → z ≠ p ∧ z ≠ p + 1 ∧ z ≠ p + 2 ∧ z ≠ p + 3 ∧ z ≠ p + 4
def PL0 (p q u b start sdw cy W M : Nat) (K : Sh) (I : Im) (R : Rf) (hr fu gi le la : Nat → Nat) (d1 : Nat → Nat → Nat → Nat) : Prop :=
  S3 p K R ∧ R p 4 = some q ∧ R p 5 = some u ∧ S10 u K R ∧ WV q K I R W hr cy sdw d1 ∧ 1 ≤ b ∧ b ≤ 9 ∧ I p 6 = nI b ∧ I p 7 = nI (b * cy) ∧ I p 8 = nI (b * sdw) ∧ WlF u W M I fu gi le la ∧ M ≤ 800000 ∧ start ≤ M ∧ PLoff p q u R
def PLs (p q u b start sdw cy W M : Nat) (K : Sh) (I : Im) (R : Rf) (hr fu gi le la : Nat → Nat) (d1 : Nat → Nat → Nat → Nat) : Prop := PL0 p q u b start sdw cy W M K I R hr fu gi le la d1 ∧ ∀ k, k ≤ W → I (p + 2) k = nI (FN la hr start k)
section
variable {p q u b start sdw cy W M : Nat} {K : Sh} {R : Rf} {I I' : Im} {hr fu gi le la : Nat → Nat} {d1 : Nat → Nat → Nat → Nat}
theorem PL0.congr (h : PL0 p q u b start sdw cy W M K I R hr fu gi le la d1) (hI : ∀ z, z ≠ p → z ≠ p + 1 → z ≠ p + 2 → z ≠ p + 3 → z ≠ p + 4 → I' z = I z) (h6 : I' p 6 = I p 6) (h7 : I' p 7 = I p 7) (h8 : I' p 8 = I p 8) : PL0 p q u b start sdw cy W M K I' R hr fu gi le la d1 := by
  obtain ⟨a1, a2, a3, a4, a5, a6, a7, a8, a9, a10, a11, a12, a13, a14⟩ := h
  refine ⟨a1, a2, a3, a4, a5.congr (fun z hz => ?_), a6, a7, by rw [h6]; exact a8, by rw [h7]; exact a9, by rw [h8]; exact a10, fun j hj => ?_, a12, a13, a14⟩
  · obtain ⟨z1, z2, z3, z4, z5⟩ := a14 z (Or.inl hz)
    exact hI z z1 z2 z3 z4 z5
  · have e : ∀ i, i < 5 → I' (u + i) = I (u + i) := fun i hi => by
      obtain ⟨z1, z2, z3, z4, z5⟩ := a14 (u + i) (Or.inr ⟨i, hi, rfl⟩)
      exact hI _ z1 z2 z3 z4 z5
    rw [e 1 (by decide), e 2 (by decide), e 3 (by decide), e 4 (by decide)]
    exact a11 j hj
theorem PLs.congr (h : PLs p q u b start sdw cy W M K I R hr fu gi le la d1) (hI : ∀ z, z ≠ p → z ≠ p + 1 → z ≠ p + 3 → z ≠ p + 4 → I' z = I z) (h6 : I' p 6 = I p 6) (h7 : I' p 7 = I p 7) (h8 : I' p 8 = I p 8) : PLs p q u b start sdw cy W M K I' R hr fu gi le la d1 :=
  ⟨h.1.congr (fun z z1 z2 _ z4 z5 => hI z z1 z2 z4 z5) h6 h7 h8, fun k hk => by rw [hI (p + 2) (by omega) (by omega) (by omega) (by omega)]; exact h.2 k hk⟩
theorem PLs.m (h : PLs p q u b start sdw cy W M K I R hr fu gi le la d1) (i j : Nat) (v : Int32) (hi : i = 1 ∨ i = 3 ∨ i = 4) : PLs p q u b start sdw cy W M K (u2 I (p + i) j v) R hr fu gi le la d1 :=
  h.congr (fun z z1 z2 z3 z4 => u2_row (by rcases hi with rfl | rfl | rfl <;> assumption)) (by rw [u2_row (by omega)]) (by rw [u2_row (by omega)]) (by rw [u2_row (by omega)])
theorem FN_b (h : PL0 p q u b start sdw cy W M K I R hr fu gi le la d1) : ∀ k, k ≤ W → FN la hr start k ≤ M + 9 * (k + 1) := by
  obtain ⟨a1, a2, a3, a4, a5, a6, a7, a8, a9, a10, a11, a12, a13, a14⟩ := h
  have hW5 := a5.2.2.1
  intro k
  induction k with
  | zero =>
    intro _
    have := (a5.2.2.2.1 0 (by omega)).2.2
    simp only [FN]
    omega
  | succ k ih =>
    intro hk
    have h1 := ih (by omega)
    have h2 := (a11 k (by omega)).2.2.2.2.2.2.2
    have h3 := (a5.2.2.2.1 (k + 1) (by omega)).2.2
    simp only [FN]
    omega
theorem imax_nI {a b : Nat} (ha : a < 2 ^ 31) (hb : b < 2 ^ 31) : imax (nI a) (nI b) = nI (max a b) := by
  unfold imax
  by_cases h : a < b
  · rw [if_pos ((nI_ltI ha hb).mpr h), Nat.max_eq_right (by omega)]
  · rw [if_neg (fun c => h ((nI_ltI ha hb).mp c)), Nat.max_eq_left (by omega)]
theorem lvE_is {k i s : Nat} : lvE (peC la hr fu gi le d1 b sdw cy) k (FN la hr start k + i) s = max (FN la hr start k + i) (la k) + s := rfl
theorem c_leaving (h : PLs p q u b start sdw cy W M K I R hr fu gi le la d1) {k i s : Nat} (hk : k < W) (hi : i ≤ 30) (hs : s ≤ 6) : f_X3_leaving K I R p (nI k) (nI i) (nI s) = some (nI (lvE (peC la hr fu gi le d1 b sdw cy) k (FN la hr start k + i) s)) := by
  have hb := FN_b h.1 k (by omega)
  obtain ⟨⟨a1, a2, a3, a4, a5, a6, a7, a8, a9, a10, a11, a12, a13, a14⟩, hF⟩ := h
  have hW5 := a5.2.2.1
  have hf := hF k (by omega)
  obtain ⟨w1, w2, w3, w4, w5, w6, w7, w8⟩ := a11 k hk
  have o1 : ob K 11 (R p 5) = some u := by rw [a3]; exact ob10 a4
  unfold f_X3_leaving
  rw [lvE_is]
  simp (disch := omega) only [L0, L1, L2, L3, L4, L5, L6, L7, L8, L9, L10, L11, L12, L13, L14, L15, L16, L17, L18, L19, L20, L21, L22, L23, L24, L25, L26, L27, L28, L29, L30, L31, L32, L33, L34, L35, L36, L37, L38, L39, L40, L48, L57, L59, L60, L62, L96, L97, L98, L99, L100, L104, L110, L119, L124, L500, L999, L1000, L2000, L3000, nI_add, pk_mul, pk_sub, nI_leI, nI_ltI, nI_eq, obs, u2_eq, u2_row, u2_ne, if_pos, if_neg, if_true, if_false, eq_self, l3_1 a1, hf, o1, l10_3 a4, w7, imax_nI]
theorem lv_b (h : PLs p q u b start sdw cy W M K I R hr fu gi le la d1) {k i s : Nat} (hk : k < W) (hi : i ≤ 30) (hs : s ≤ 6) : lvE (peC la hr fu gi le d1 b sdw cy) k (FN la hr start k + i) s ≤ 810000 ∧ FN la hr start k + i ≤ lvE (peC la hr fu gi le d1 b sdw cy) k (FN la hr start k + i) s ∧ FN la hr start (k + 1) ≤ lvE (peC la hr fu gi le d1 b sdw cy) k (FN la hr start k + i) s + hr (k + 1) ∧ lvE (peC la hr fu gi le d1 b sdw cy) k (FN la hr start k + i) s + hr (k + 1) ≤ FN la hr start (k + 1) + i + s ∧ FN la hr start (k + 1) ≤ 810000 := by
  have hb := FN_b h.1 k (by omega)
  have hb2 := FN_b h.1 (k + 1) (by omega)
  obtain ⟨⟨a1, a2, a3, a4, a5, a6, a7, a8, a9, a10, a11, a12, a13, a14⟩, hF⟩ := h
  have hW5 := a5.2.2.1
  obtain ⟨w1, w2, w3, w4, w5, w6, w7, w8⟩ := a11 k hk
  rw [lvE_is]
  simp only [FN] at hb2 ⊢
  omega
theorem c_nextOf (h : PLs p q u b start sdw cy W M K I R hr fu gi le la d1) {k i s : Nat} (hk : k < W) (hi : i ≤ 30) (hs : s ≤ 6) : f_X3_nextOf K I R p (nI k) (nI (lvE (peC la hr fu gi le d1 b sdw cy) k (FN la hr start k + i) s)) = some (nI (lvE (peC la hr fu gi le d1 b sdw cy) k (FN la hr start k + i) s + hr (k + 1) - FN la hr start (k + 1))) := by
  have hb := lv_b h hk hi hs
  obtain ⟨⟨a1, a2, a3, a4, a5, a6, a7, a8, a9, a10, a11, a12, a13, a14⟩, hF⟩ := h
  have hW5 := a5.2.2.1
  have hf := hF (k + 1) (by omega)
  obtain ⟨y1, y2, y3⟩ := a5.2.2.2.1 (k + 1) (by omega)
  generalize lvE (peC la hr fu gi le d1 b sdw cy) k (FN la hr start k + i) s = lv at hb ⊢
  have o1 : ob K 10 (R p 4) = some q := by rw [a2]; exact ob9 a5.1
  unfold f_X3_nextOf
  simp (disch := omega) only [L0, L1, L2, L3, L4, L5, L6, L7, L8, L9, L10, L11, L12, L13, L14, L15, L16, L17, L18, L19, L20, L21, L22, L23, L24, L25, L26, L27, L28, L29, L30, L31, L32, L33, L34, L35, L36, L37, L38, L39, L40, L48, L57, L59, L60, L62, L96, L97, L98, L99, L100, L104, L110, L119, L124, L500, L999, L1000, L2000, L3000, nI_add, pk_mul, pk_sub, nI_leI, nI_ltI, nI_eq, obs, u2_eq, u2_row, u2_ne, if_pos, if_neg, if_true, if_false, eq_self, o1, l9_7 a5.1, y1, l3_1 a1, hf]
theorem peC_held {k hh : Nat} : (peC la hr fu gi le d1 b sdw cy).he k hh = heldN fu gi le la k hh := rfl
theorem peC_co {k hh : Nat} : (peC la hr fu gi le d1 b sdw cy).co k hh = wayD (fun j => b * d1 b k j) hh (hr k) := rfl
/-- what one brings: the water behind the way, or a number below 0 -/
theorem c_brought (h : PLs p q u b start sdw cy W M K I R hr fu gi le la d1) {k i s w : Nat} (hk : k < W) (hi : i ≤ 30) (hs : s ≤ 6) (hw : w ≤ b * cy) : ∃ z : Int, f_X3_brought K I R p (nI k) (nI i) (nI (lvE (peC la hr fu gi le d1 b sdw cy) k (FN la hr start k + i) s)) (nI w) = some (jI z) ∧ -200000 ≤ z ∧ z ≤ 1000 ∧ (match stp (peC la hr fu gi le d1 b sdw cy) k s (FN la hr start k + i) w with
    | some x => z = x.2
    | none => z < 0) := by
  have hb := lv_b h hk hi hs
  have hfb := FN_b h.1 k (by omega)
  obtain ⟨⟨a1, a2, a3, a4, a5, a6, a7, a8, a9, a10, a11, a12, a13, a14⟩, hF⟩ := h
  have hW5 := a5.2.2.1
  have hcy := a5.2.2.2.2.2.1
  have hsdw := a5.2.2.2.2.2.2.2.1
  have bcy : b * cy ≤ 9 * 99 := Nat.mul_le_mul a7 hcy
  have bsd : b * sdw ≤ 9 * 99 := Nat.mul_le_mul a7 hsdw
  have hf := hF k (by omega)
  obtain ⟨w1, w2, w3, w4, w5, w6, w7, w8⟩ := a11 k hk
  have hd := a5.2.2.2.2.2.2.2.2.1
  obtain ⟨y1, y2, y3⟩ := a5.2.2.2.1 (k + 1) (by omega)
  have o1 : ob K 10 (R p 4) = some q := by rw [a2]; exact ob9 a5.1
  have o2 : ob K 11 (R p 5) = some u := by rw [a3]; exact ob10 a4
  generalize hlv : lvE (peC la hr fu gi le d1 b sdw cy) k (FN la hr start k + i) s = lv at hb ⊢
  have hprod : (lv - (FN la hr start k + i)) * (b * sdw) ≤ 810000 * 891 := Nat.mul_le_mul (by omega) (by omega)
  have ch := c_held (K := K) (R := R) (I := I) (h := lv) a4 (by omega : k < 5) w1 w3 w5 w7 w2 w4 w6 (by omega) (by omega)
  have hl := heldN_le (fu := fu) (gi := gi) (le := le) (la := la) (k := k) (h := lv) w2 w6
  have ca := c_along a5 (by omega : k + 1 < 6) a6 a7 (by omega : lv ≤ 1000000)
  have bA : wayD (fun j => b * d1 b (k + 1) j) lv (hr (k + 1)) ≤ 10692 * 9 := by
    have := wayD_le (f := fun j => b * d1 b (k + 1) j) (B := 10692) (fun j _ => by
      have := Nat.mul_le_mul a7 (hd b (k + 1) j)
      show b * d1 b (k + 1) j ≤ 10692
      omega) lv (hr (k + 1))
    have h2 := Nat.mul_le_mul (Nat.le_refl 10692) y3
    omega
  have hstp : stp (peC la hr fu gi le d1 b sdw cy) k s (FN la hr start k + i) w = if (lv - (FN la hr start k + i)) * (b * sdw) ≤ w ∧ wayD (fun j => b * d1 b (k + 1) j) lv (hr (k + 1)) ≤ min (b * cy) (w - (lv - (FN la hr start k + i)) * (b * sdw) + heldN fu gi le la k lv) then some (lv + hr (k + 1), min (b * cy) (w - (lv - (FN la hr start k + i)) * (b * sdw) + heldN fu gi le la k lv) - wayD (fun j => b * d1 b (k + 1) j) lv (hr (k + 1))) else none := by
    rw [← hlv]
    rfl
  rw [hstp]
  generalize wayD (fun j => b * d1 b (k + 1) j) lv (hr (k + 1)) = A at ca bA ⊢
  generalize heldN fu gi le la k lv = hd0 at ch hl ⊢
  have e1 : nI w - (nI lv - nI (FN la hr start k) - nI i) * nI (b * sdw) = jI ((w : Int) - ((lv - (FN la hr start k + i)) * (b * sdw) : Nat)) := by
    rw [pk_sub (by omega), pk_sub (by omega), pk_mul, nI_jI, nI_jI, jsub, show lv - FN la hr start k - i = lv - (FN la hr start k + i) by omega]
  generalize hT : (lv - (FN la hr start k + i)) * (b * sdw) = T at e1 hprod ⊢
  unfold f_X3_brought
  by_cases c : T ≤ w
  · have e2 : jI ((w : Int) - (T : Nat)) = nI (w - T) := by rw [nI_jI]; congr 1; omega
    rw [e2] at e1
    refine ⟨(min (b * cy) (w - T + hd0) : Nat) - (A : Int), ?_, by omega, by omega, ?_⟩
    · rw [l3_1 a1 (by omega), obs, hf, a10, obs, e1]
      (repeat (first | ((with_reducible apply Est); (focus (first | (simp (disch := omega) only [L0, L1, L2, L3, L4, L5, L6, L7, L8, L9, L10, L11, L12, L13, L14, L15, L16, L17, L18, L19, L20, L21, L22, L23, L24, L25, L26, L27, L28, L29, L30, L31, L32, L33, L34, L35, L36, L37, L38, L39, L40, L48, L57, L59, L60, L62, L96, L97, L98, L99, L100, L104, L110, L119, L124, L500, L999, L1000, L2000, L3000, nI_add, pk_mul, pk_sub, nI_leI, nI_ltI, nI_eq, obs, u2_eq, u2_row, u2_ne, if_pos, if_neg, if_true, if_false, eq_self, ne_eq, not_true_eq_false, not_false_eq_true, o1, o2, ch, a8, ca]; with_reducible exact rfl) | (with_reducible exact rfl)))) | ((with_reducible apply EitT); (focus (simp (disch := omega) only [L0, L1, L2, L3, L4, L5, L6, L7, L8, L9, L10, L11, L12, L13, L14, L15, L16, L17, L18, L19, L20, L21, L22, L23, L24, L25, L26, L27, L28, L29, L30, L31, L32, L33, L34, L35, L36, L37, L38, L39, L40, L48, L57, L59, L60, L62, L96, L97, L98, L99, L100, L104, L110, L119, L124, L500, L999, L1000, L2000, L3000, nI_add, pk_mul, pk_sub, nI_leI, nI_ltI, nI_eq, obs, u2_eq, u2_row, u2_ne, if_pos, if_neg, if_true, if_false, eq_self, ne_eq, not_true_eq_false, not_false_eq_true, o1, o2, ch, a8, ca] <;> omega))) | ((with_reducible apply EitF); (focus (simp (disch := omega) only [L0, L1, L2, L3, L4, L5, L6, L7, L8, L9, L10, L11, L12, L13, L14, L15, L16, L17, L18, L19, L20, L21, L22, L23, L24, L25, L26, L27, L28, L29, L30, L31, L32, L33, L34, L35, L36, L37, L38, L39, L40, L48, L57, L59, L60, L62, L96, L97, L98, L99, L100, L104, L110, L119, L124, L500, L999, L1000, L2000, L3000, nI_add, pk_mul, pk_sub, nI_leI, nI_ltI, nI_eq, obs, u2_eq, u2_row, u2_ne, if_pos, if_neg, if_true, if_false, eq_self, ne_eq, not_true_eq_false, not_false_eq_true, o1, o2, ch, a8, ca] <;> omega)))))
      rw [a9, nI_add, imin_nI (by omega) (by omega), nI_jI, nI_jI, jsub]
    · by_cases c2 : A ≤ min (b * cy) (w - T + hd0)
      · rw [if_pos ⟨c, c2⟩]
        show _ = ((min (b * cy) (w - T + hd0) - A : Nat) : Int)
        omega
      · rw [if_neg (fun z => c2 z.2)]
        show _ < (0 : Int)
        omega
  · refine ⟨-1, ?_, by omega, by omega, ?_⟩
    · have n0 : ¬ ((0 : Int32) ≤ jI ((w : Int) - (T : Nat))) := by
        rw [show (0 : Int32) = jI 0 from rfl, jle (by omega) (by omega)]
        omega
      rw [l3_1 a1 (by omega), obs, hf, a10, obs, e1, if_neg n0]
      rfl
    · rw [if_neg (fun z => c z.1)]
      show (-1 : Int) < 0
      omega
end
