def visR (t u : Nat) (I : Im) (k h w la s sd rm : Nat) (held : Nat → Nat) : Int32 × Im :=
  if (la - h) * sd ≤ w then
    if s * sd ≤ w - (la - h) * sd then
      (1, twI t (u2 (u2 (u2 (u2 I (t + 2) k (nI w)) (t + 1) k (nI s)) (u + 3) k (nI (held (max h la + s) - min (held (max h la + s)) (rm - (w - (la - h) * sd - s * sd))))) (u + 4) k (nI (max h la + s))) (max h la + s) (w - (la - h) * sd - s * sd + min (held (max h la + s)) (rm - (w - (la - h) * sd - s * sd))))
    else (0, twI t (u2 (u2 I (t + 2) k (nI w)) (t + 1) k (nI s)) (max h la) (w - (la - h) * sd))
  else (0, twI t (u2 I (t + 2) k (nI w)) h w)
theorem oI_u {I : Im} {a k s j : Nat} {st : Nat → Option Nat} (h : I a j = oI (st j)) : u2 I a k (nI s) a j = oI (u1 st k (some s) j) := by
  by_cases c : j = k
  · subst c; rw [u2_eq, u1_eq]; rfl
  · rw [u2_ne c, u1_ne c]; exact h
theorem nI_u {I : Im} {a k s j : Nat} {le : Nat → Nat} (h : I a j = nI (le j)) : u2 I a k (nI s) a j = nI (u1 le k s j) := by
  by_cases c : j = k
  · subst c; rw [u2_eq, u1_eq]
  · rw [u2_ne c, u1_ne c]; exact h
theorem nI_no5 {m : Nat} (h : m < 1000000000) : ¬ (nI m = -5) := by
  rw [← Int32.toInt_inj, nI_toInt (by omega)]
  show ¬ ((m : Int) = -5)
  omega
/-- the cells that a trip writes -/
def TD (t u z : Nat) : Prop := z ≠ t ∧ z ≠ t + 1 ∧ z ≠ t + 2 ∧ z ≠ u + 3 ∧ z ≠ u + 4
section
variable {q t u : Nat} {K : Sh} {R : Rf} {I : Im}
theorem c_visit (hT : S8 t K R) (hS : S10 u K R) {k h w v sd rm kind : Nat} {rw fu gi le la : Nat → Nat} {x3 x4 : Option Nat} (hut : ∀ i, i < 5 → u + i ≠ t ∧ u + i ≠ t + 1 ∧ u + i ≠ t + 2) (hX : StC K I R kind v rw x3 x4) (hXD : ∀ z, (x4 = none ∧ x3 = some z) ∨ x4 = some z → TD t u z) (hrw : ∀ k, rw k ≤ 6) (hv6 : v ≤ 6) (h6 : I t 6 = nI rm) (h7 : I t 7 = nI sd) (hk : k < 5) (h1 : I (u + 1) k = nI (fu k)) (h2 : I (u + 2) k = nI (gi k)) (h3 : I (u + 3) k = nI (le k)) (h4 : I (u + 4) k = nI (la k)) (b1 : fu k ≤ 99) (b2 : gi k ≤ 99) (b3 : le k ≤ 99) (b4 : la k ≤ 880000) (bh : h ≤ 880000) (bsd : sd ≤ 1000) (b6 : rm ≤ 1000) (b7 : w ≤ rm) :
    f_X8_visit K R t (some u) (nI k) x3 x4 (twI t I h w) = some (visR t u I k h w (la k) (stN kind v rw (fun n => heldN fu gi le la k (max h (la k) + n)) k (max h (la k)) (w - (la k - h) * sd) rm) sd rm (fun h3 => heldN fu gi le la k h3)) := by
  obtain ⟨e1, f1, g1⟩ := hut 1 (by decide)
  obtain ⟨e2, f2, g2⟩ := hut 2 (by decide)
  obtain ⟨e3, f3, g3⟩ := hut 3 (by decide)
  obtain ⟨e4, f4, g4⟩ := hut 4 (by decide)
  have o1 : ob K 11 (some u) = some u := ob10 hS
  have cl := c_lingerL (K := K) (t := t) (I := u2 I (t + 2) k (nI w)) (l := la k) (h := h) (wt := w) (sd := sd) (by rw [u2_row (by omega)]; exact h7) (by omega) (by omega) (by omega) bsd
  have h4' : I (u + 4) k = nI (la k) := h4
  unfold f_X8_visit visR
  by_cases c : (la k - h) * sd ≤ w
  · rw [if_pos c] at cl ⊢
    generalize hw2 : w - (la k - h) * sd = w2 at cl ⊢
    generalize hh2 : max h (la k) = h2' at cl ⊢
    have hs6 : stN kind v rw (fun n => heldN fu gi le la k (h2' + n)) k h2' w2 rm ≤ 6 := stN_le hv6 (hrw k)
    have c65 := c_visit65 (K := K) (R := R) (I := u2 I (t + 2) k (nI w)) (k := k) (h := h2') (w := w2) (s := stN kind v rw (fun n => heldN fu gi le la k (h2' + n)) k h2' w2 rm) (sd := sd) (rm := rm) (fu := fu) (gi := gi) (le := le) (la := la) hT hS ⟨e1, e2, e3, e4⟩ ⟨f1, f2, f3, f4⟩ (by rw [u2_row (by omega)]; exact h6) (by rw [u2_row (by omega)]; exact h7) hk (by rw [u2_row g1]; exact h1) (by rw [u2_row g2]; exact h2) (by rw [u2_row g3]; exact h3) (by rw [u2_row g4]; exact h4) b1 b2 b3 (by omega) (by omega) hs6 bsd b6 (by omega)
    have e6 : twI t (u2 I (t + 2) k (nI w)) h2' w2 t 6 = nI rm := by rw [tw_fld (by decide) (by decide), u2_row (by omega)]; exact h6
    rcases hX with ⟨hx4, ro, hx3, hS5, k0, k2, k6, k7, k8, k9⟩ | ⟨z, hx4, hz1, hz2, hz3⟩
    · subst hx4 hx3
      obtain ⟨z1, z2, z3, z4, z5⟩ := hXD ro (Or.inl ⟨rfl, rfl⟩)
      have cs := c_standAt (K := K) (R := R) (I := twI t (u2 I (t + 2) k (nI w)) h2' w2) (ro := ro) (rw := rw) (fu := fu) (gi := gi) (le := le) (la := la) (hh := h2') (wt := w2) (rm := rm) hS (by rw [tw_row z1, u2_row z3]; exact k0) k7 k8 k9 (by rw [tw_row z1, u2_row z3]; exact k2) k6 hk (by rw [tw_row e1, u2_row g1]; exact h1) (by rw [tw_row e2, u2_row g2]; exact h2) (by rw [tw_row e3, u2_row g3]; exact h3) (by rw [tw_row e4, u2_row g4]; exact h4) b1 b2 b3 (by omega) (by omega) b6 (by omega)
      have o2 : ob K 6 (some ro) = some ro := ob5 hS5
      have nn : (none : Option Nat) = none := rfl
      (repeat (first | ((with_reducible apply Est); (focus (first | (simp (disch := omega) only [L0, L1, L2, L3, L4, L5, L6, L7, L8, L9, L10, L11, L12, L13, L14, L15, L16, L17, L18, L19, L20, L21, L22, L23, L24, L25, L26, L27, L28, L29, L30, L31, L32, L33, L34, L35, L36, L37, L38, L39, L40, L48, L57, L59, L60, L62, L96, L97, L98, L99, L100, L104, L110, L119, L124, L500, L999, L1000, L2000, L3000, nI_add, pk_mul, pk_sub, nI_leI, nI_ltI, nI_eq, obs, u2_eq, u2_row, u2_ne, if_pos, if_neg, if_true, if_false, eq_self, ne_eq, not_true_eq_false, not_false_eq_true, s8_3 hT, tw_u, tw_5, o1, l10_3 hS, tw_row, u2_row, h4, cl, tw_4, tw_fld, u2_row, h6, o2, cs, nn]; with_reducible exact rfl) | (with_reducible exact rfl)))) | ((with_reducible apply EitT); (focus (simp (disch := omega) only [L0, L1, L2, L3, L4, L5, L6, L7, L8, L9, L10, L11, L12, L13, L14, L15, L16, L17, L18, L19, L20, L21, L22, L23, L24, L25, L26, L27, L28, L29, L30, L31, L32, L33, L34, L35, L36, L37, L38, L39, L40, L48, L57, L59, L60, L62, L96, L97, L98, L99, L100, L104, L110, L119, L124, L500, L999, L1000, L2000, L3000, nI_add, pk_mul, pk_sub, nI_leI, nI_ltI, nI_eq, obs, u2_eq, u2_row, u2_ne, if_pos, if_neg, if_true, if_false, eq_self, ne_eq, not_true_eq_false, not_false_eq_true, s8_3 hT, tw_u, tw_5, o1, l10_3 hS, tw_row, u2_row, h4, cl, tw_4, tw_fld, u2_row, h6, o2, cs, nn] <;> omega))) | ((with_reducible apply EitF); (focus (simp (disch := omega) only [L0, L1, L2, L3, L4, L5, L6, L7, L8, L9, L10, L11, L12, L13, L14, L15, L16, L17, L18, L19, L20, L21, L22, L23, L24, L25, L26, L27, L28, L29, L30, L31, L32, L33, L34, L35, L36, L37, L38, L39, L40, L48, L57, L59, L60, L62, L96, L97, L98, L99, L100, L104, L110, L119, L124, L500, L999, L1000, L2000, L3000, nI_add, pk_mul, pk_sub, nI_leI, nI_ltI, nI_eq, obs, u2_eq, u2_row, u2_ne, if_pos, if_neg, if_true, if_false, eq_self, ne_eq, not_true_eq_false, not_false_eq_true, s8_3 hT, tw_u, tw_5, o1, l10_3 hS, tw_row, u2_row, h4, cl, tw_4, tw_fld, u2_row, h6, o2, cs, nn] <;> omega)))))
      exact c65
    · subst hx4
      obtain ⟨z1, z2, z3, z4, z5⟩ := hXD z (Or.inr rfl)
      have hst : stN kind v rw (fun n => heldN fu gi le la k (h2' + n)) k h2' w2 rm = rw k := by
        unfold stN
        rcases hz3 with y | y | y <;> subst y <;> simp
      rw [hst] at c65 ⊢
      have l1 : ldI K (twI t (u2 I (t + 2) k (nI w)) h2' w2) (some z) (nI k) = some (nI (rw k)) := by
        rw [← hz2 k hk]
        have := ldI_ok (K := K) (I := twI t (u2 I (t + 2) k (nI w)) h2' w2) (a := z) (j := k) (by rw [hz1]) (by rw [hz1]; exact hk) (by rw [hz1]; omega)
        rw [tw_row z1, u2_row z3] at this
        exact this
      have nn : ¬ (some z = none) := by simp
      (repeat (first | ((with_reducible apply Est); (focus (first | (simp (disch := omega) only [L0, L1, L2, L3, L4, L5, L6, L7, L8, L9, L10, L11, L12, L13, L14, L15, L16, L17, L18, L19, L20, L21, L22, L23, L24, L25, L26, L27, L28, L29, L30, L31, L32, L33, L34, L35, L36, L37, L38, L39, L40, L48, L57, L59, L60, L62, L96, L97, L98, L99, L100, L104, L110, L119, L124, L500, L999, L1000, L2000, L3000, nI_add, pk_mul, pk_sub, nI_leI, nI_ltI, nI_eq, obs, u2_eq, u2_row, u2_ne, if_pos, if_neg, if_true, if_false, eq_self, ne_eq, not_true_eq_false, not_false_eq_true, s8_3 hT, tw_u, tw_5, o1, l10_3 hS, tw_row, u2_row, h4, cl, tw_4, tw_fld, u2_row, h6, l1, nn]; with_reducible exact rfl) | (with_reducible exact rfl)))) | ((with_reducible apply EitT); (focus (simp (disch := omega) only [L0, L1, L2, L3, L4, L5, L6, L7, L8, L9, L10, L11, L12, L13, L14, L15, L16, L17, L18, L19, L20, L21, L22, L23, L24, L25, L26, L27, L28, L29, L30, L31, L32, L33, L34, L35, L36, L37, L38, L39, L40, L48, L57, L59, L60, L62, L96, L97, L98, L99, L100, L104, L110, L119, L124, L500, L999, L1000, L2000, L3000, nI_add, pk_mul, pk_sub, nI_leI, nI_ltI, nI_eq, obs, u2_eq, u2_row, u2_ne, if_pos, if_neg, if_true, if_false, eq_self, ne_eq, not_true_eq_false, not_false_eq_true, s8_3 hT, tw_u, tw_5, o1, l10_3 hS, tw_row, u2_row, h4, cl, tw_4, tw_fld, u2_row, h6, l1, nn] <;> omega))) | ((with_reducible apply EitF); (focus (simp (disch := omega) only [L0, L1, L2, L3, L4, L5, L6, L7, L8, L9, L10, L11, L12, L13, L14, L15, L16, L17, L18, L19, L20, L21, L22, L23, L24, L25, L26, L27, L28, L29, L30, L31, L32, L33, L34, L35, L36, L37, L38, L39, L40, L48, L57, L59, L60, L62, L96, L97, L98, L99, L100, L104, L110, L119, L124, L500, L999, L1000, L2000, L3000, nI_add, pk_mul, pk_sub, nI_leI, nI_ltI, nI_eq, obs, u2_eq, u2_row, u2_ne, if_pos, if_neg, if_true, if_false, eq_self, ne_eq, not_true_eq_false, not_false_eq_true, s8_3 hT, tw_u, tw_5, o1, l10_3 hS, tw_row, u2_row, h4, cl, tw_4, tw_fld, u2_row, h6, l1, nn] <;> omega)))))
      exact c65
  · rw [if_neg c] at cl ⊢
    (repeat (first | ((with_reducible apply Est); (focus (first | (simp (disch := omega) only [L0, L1, L2, L3, L4, L5, L6, L7, L8, L9, L10, L11, L12, L13, L14, L15, L16, L17, L18, L19, L20, L21, L22, L23, L24, L25, L26, L27, L28, L29, L30, L31, L32, L33, L34, L35, L36, L37, L38, L39, L40, L48, L57, L59, L60, L62, L96, L97, L98, L99, L100, L104, L110, L119, L124, L500, L999, L1000, L2000, L3000, nI_add, pk_mul, pk_sub, nI_leI, nI_ltI, nI_eq, obs, u2_eq, u2_row, u2_ne, if_pos, if_neg, if_true, if_false, eq_self, ne_eq, not_true_eq_false, not_false_eq_true, s8_3 hT, tw_u, tw_5, o1, l10_3 hS, tw_row, u2_row, h4, cl, tw_4]; with_reducible exact rfl) | (with_reducible exact rfl)))) | ((with_reducible apply EitT); (focus (simp (disch := omega) only [L0, L1, L2, L3, L4, L5, L6, L7, L8, L9, L10, L11, L12, L13, L14, L15, L16, L17, L18, L19, L20, L21, L22, L23, L24, L25, L26, L27, L28, L29, L30, L31, L32, L33, L34, L35, L36, L37, L38, L39, L40, L48, L57, L59, L60, L62, L96, L97, L98, L99, L100, L104, L110, L119, L124, L500, L999, L1000, L2000, L3000, nI_add, pk_mul, pk_sub, nI_leI, nI_ltI, nI_eq, obs, u2_eq, u2_row, u2_ne, if_pos, if_neg, if_true, if_false, eq_self, ne_eq, not_true_eq_false, not_false_eq_true, s8_3 hT, tw_u, tw_5, o1, l10_3 hS, tw_row, u2_row, h4, cl, tw_4] <;> omega))) | ((with_reducible apply EitF); (focus (simp (disch := omega) only [L0, L1, L2, L3, L4, L5, L6, L7, L8, L9, L10, L11, L12, L13, L14, L15, L16, L17, L18, L19, L20, L21, L22, L23, L24, L25, L26, L27, L28, L29, L30, L31, L32, L33, L34, L35, L36, L37, L38, L39, L40, L48, L57, L59, L60, L62, L96, L97, L98, L99, L100, L104, L110, L119, L124, L500, L999, L1000, L2000, L3000, nI_add, pk_mul, pk_sub, nI_leI, nI_ltI, nI_eq, obs, u2_eq, u2_row, u2_ne, if_pos, if_neg, if_true, if_false, eq_self, ne_eq, not_true_eq_false, not_false_eq_true, s8_3 hT, tw_u, tw_5, o1, l10_3 hS, tw_row, u2_row, h4, cl, tw_4] <;> omega)))))
    rfl
set_option maxHeartbeats 1000000 in
theorem c_make9 (hT : S8 t K R) (hS : S10 u K R) {a b kind v sdw cy W M : Nat} {hr rw fu gi : Nat → Nat} {d1 : Nat → Nat → Nat → Nat} {x3 x4 : Option Nat} {P : Im → Prop} (hMb : M ≤ 800000) (hut : ∀ i, i < 5 → u + i ≠ t ∧ u + i ≠ t + 1 ∧ u + i ≠ t + 2) (hq : ∀ z, WVcells q R z → TD t u z) (ha : (K a).1 = 2) (haD : TD t u a) (hx3 : R a 2 = x3) (hb1 : 1 ≤ b) (hb9 : b ≤ 9) (hXD : ∀ z, (x4 = none ∧ x3 = some z) ∨ x4 = some z → TD t u z) (hrw : ∀ k, rw k ≤ 6) (hv6 : v ≤ 6)
    (hfg : ∀ k, k < W → fu k ≤ 99 ∧ gi k ≤ 99) : ∀ (f k p h wt : Nat) (I : Im) (le la : Nat → Nat) (st ca : Nat → Option Nat), W - k < f → W - k < p → k ≤ W → WV q K I R W hr cy sdw d1 → StC K I R kind v rw x3 x4 → I a 0 = nI b →
    (∀ j, j < W → I (u + 1) j = nI (fu j) ∧ I (u + 2) j = nI (gi j)) → (∀ j, j < W → I (u + 3) j = nI (le j) ∧ le j ≤ 99 ∧ I (u + 4) j = nI (la j) ∧ (k ≤ j → la j ≤ M)) → (∀ j, j < 5 → I (t + 1) j = oI (st j) ∧ I (t + 2) j = oI (ca j)) → I t 0 = -5 → I t 1 = -5 → I t 6 = nI (b * cy) → I t 7 = nI (b * sdw) → h ≤ M + 15 * k → wt ≤ b * cy →
    (∀ I1, (∀ z, TD t u z → I1 z = I z) → (∀ T, T = trN (fun k h => wayD (fun j => b * d1 b k j) h (hr k)) hr (b * sdw) (b * cy) kind v rw fu gi W f k h wt le la st ca → I1 t 0 = oI T.1.1 ∧ I1 t 1 = oI T.1.2 ∧ (∀ j, j < 5 → I1 (t + 1) j = oI (T.2.1 j) ∧ I1 (t + 2) j = oI (T.2.2.1 j)) ∧ (∀ j, j < W → I1 (u + 3) j = nI (T.2.2.2.1 j) ∧ I1 (u + 4) j = nI (T.2.2.2.2 j))) → P I1) →
    Ok (f_X8_make_9 K R t p (some q) (some u) (some a) x4 (nI k) (twI t I h wt)) P := by
  intro f
  induction f with
  | zero => intro k p h wt I le la st ca q1; omega
  | succ f ih =>
    intro k p h wt I le la st ca hf hp hk hV hX ha0 hfg2 hll hsc h0 h1 h6 h7 hh hwt kk
    obtain ⟨p, rfl⟩ : ∃ p', p = p' + 1 := ⟨p - 1, by omega⟩
    have hqt : ¬ WVcells q R t := fun z => (hq t z).1 rfl
    have hW5 := hV.2.2.1
    have hcy := hV.2.2.2.2.2.1
    have hsdw := hV.2.2.2.2.2.2.2.1
    have bcy : b * cy ≤ 9 * 99 := Nat.mul_le_mul hb9 hcy
    have bsd : b * sdw ≤ 9 * 99 := Nat.mul_le_mul hb9 hsdw
    have o9 : ob K 10 (some q) = some q := ob9 hV.1
    have o2 : ob K 2 (some a) = some a := ob_ok ha
    obtain ⟨a1, a2, a3, a4, a5⟩ := haD
    have hq0 : q ≠ t := fun e => hqt (Or.inl e.symm)
    have e0 : ∀ h w, twI t I h w q 0 = nI W := fun h w => by rw [tw_row hq0]; exact hV.2.1
    have ea : ∀ h w, twI t I h w a 0 = nI b := fun h w => by rw [tw_row a1]; exact ha0
    have e1 : ∀ h w, twI t I h w t 1 = -5 := fun h w => by rw [tw_fld (by decide) (by decide)]; exact h1
    unfold f_X8_make_9
    by_cases c0 : W ≤ k
    · have hkW : k = W := by omega
      subst hkW
      have cw := c_walk (t := t) (wt := wt) (h := h) hV hqt (by omega : k < 6) hb1 hb9 (by omega) (by omega)
      unfold f_X8_make_80
      by_cases c1 : wayD (fun j => b * d1 b k j) h (hr k) ≤ wt
      · rw [if_pos c1] at cw
        (repeat (first | ((with_reducible apply Ok.st); (focus (first | (simp (disch := omega) only [L0, L1, L2, L3, L4, L5, L6, L7, L8, L9, L10, L11, L12, L13, L14, L15, L16, L17, L18, L19, L20, L21, L22, L23, L24, L25, L26, L27, L28, L29, L30, L31, L32, L33, L34, L35, L36, L37, L38, L39, L40, L48, L57, L59, L60, L62, L96, L97, L98, L99, L100, L104, L110, L119, L124, L500, L999, L1000, L2000, L3000, nI_add, pk_mul, pk_sub, nI_leI, nI_ltI, nI_eq, obs, u2_eq, u2_row, u2_ne, if_pos, if_neg, if_true, if_false, eq_self, ne_eq, not_true_eq_false, not_false_eq_true, o9, e0, e1, o2, ea, cw]; with_reducible exact rfl) | (with_reducible exact rfl)))) | ((with_reducible apply Ok.itT); (focus (simp (disch := omega) only [L0, L1, L2, L3, L4, L5, L6, L7, L8, L9, L10, L11, L12, L13, L14, L15, L16, L17, L18, L19, L20, L21, L22, L23, L24, L25, L26, L27, L28, L29, L30, L31, L32, L33, L34, L35, L36, L37, L38, L39, L40, L48, L57, L59, L60, L62, L96, L97, L98, L99, L100, L104, L110, L119, L124, L500, L999, L1000, L2000, L3000, nI_add, pk_mul, pk_sub, nI_leI, nI_ltI, nI_eq, obs, u2_eq, u2_row, u2_ne, if_pos, if_neg, if_true, if_false, eq_self, ne_eq, not_true_eq_false, not_false_eq_true, o9, e0, e1, o2, ea, cw] <;> omega))) | ((with_reducible apply Ok.itF); (focus (simp (disch := omega) only [L0, L1, L2, L3, L4, L5, L6, L7, L8, L9, L10, L11, L12, L13, L14, L15, L16, L17, L18, L19, L20, L21, L22, L23, L24, L25, L26, L27, L28, L29, L30, L31, L32, L33, L34, L35, L36, L37, L38, L39, L40, L48, L57, L59, L60, L62, L96, L97, L98, L99, L100, L104, L110, L119, L124, L500, L999, L1000, L2000, L3000, nI_add, pk_mul, pk_sub, nI_leI, nI_ltI, nI_eq, obs, u2_eq, u2_row, u2_ne, if_pos, if_neg, if_true, if_false, eq_self, ne_eq, not_true_eq_false, not_false_eq_true, o9, e0, e1, o2, ea, cw] <;> omega)))))
        refine Ok.ret (kk _ (fun z hz => ?_) (fun T hT => ?_))
        · obtain ⟨z1, z2, z3, z4, z5⟩ := hz
          rw [u2_row z1, tw_row z1]
        · simp only [trN] at hT
          rw [if_pos (Nat.le_refl _), if_pos c1] at hT
          subst hT
          refine ⟨by rw [u2_eq, tw_4]; rfl, by rw [u2_ne (by decide), tw_fld (by decide) (by decide)]; exact h1, fun j hj => ?_, fun j hj => ?_⟩
          · rw [u2_row (by omega), u2_row (by omega), tw_row (by omega), tw_row (by omega)]; exact hsc j hj
          · obtain ⟨x3a, x3b, x3c⟩ := hut 3 (by decide)
            obtain ⟨x4a, x4b, x4c⟩ := hut 4 (by decide)
            rw [u2_row x3a, u2_row x4a, tw_row x3a, tw_row x4a]; exact ⟨(hll j hj).1, (hll j hj).2.2.1⟩
      · rw [if_neg c1] at cw
        (repeat (first | ((with_reducible apply Ok.st); (focus (first | (simp (disch := omega) only [L0, L1, L2, L3, L4, L5, L6, L7, L8, L9, L10, L11, L12, L13, L14, L15, L16, L17, L18, L19, L20, L21, L22, L23, L24, L25, L26, L27, L28, L29, L30, L31, L32, L33, L34, L35, L36, L37, L38, L39, L40, L48, L57, L59, L60, L62, L96, L97, L98, L99, L100, L104, L110, L119, L124, L500, L999, L1000, L2000, L3000, nI_add, pk_mul, pk_sub, nI_leI, nI_ltI, nI_eq, obs, u2_eq, u2_row, u2_ne, if_pos, if_neg, if_true, if_false, eq_self, ne_eq, not_true_eq_false, not_false_eq_true, o9, e0, e1, o2, ea, cw]; with_reducible exact rfl) | (with_reducible exact rfl)))) | ((with_reducible apply Ok.itT); (focus (simp (disch := omega) only [L0, L1, L2, L3, L4, L5, L6, L7, L8, L9, L10, L11, L12, L13, L14, L15, L16, L17, L18, L19, L20, L21, L22, L23, L24, L25, L26, L27, L28, L29, L30, L31, L32, L33, L34, L35, L36, L37, L38, L39, L40, L48, L57, L59, L60, L62, L96, L97, L98, L99, L100, L104, L110, L119, L124, L500, L999, L1000, L2000, L3000, nI_add, pk_mul, pk_sub, nI_leI, nI_ltI, nI_eq, obs, u2_eq, u2_row, u2_ne, if_pos, if_neg, if_true, if_false, eq_self, ne_eq, not_true_eq_false, not_false_eq_true, o9, e0, e1, o2, ea, cw] <;> omega))) | ((with_reducible apply Ok.itF); (focus (simp (disch := omega) only [L0, L1, L2, L3, L4, L5, L6, L7, L8, L9, L10, L11, L12, L13, L14, L15, L16, L17, L18, L19, L20, L21, L22, L23, L24, L25, L26, L27, L28, L29, L30, L31, L32, L33, L34, L35, L36, L37, L38, L39, L40, L48, L57, L59, L60, L62, L96, L97, L98, L99, L100, L104, L110, L119, L124, L500, L999, L1000, L2000, L3000, nI_add, pk_mul, pk_sub, nI_leI, nI_ltI, nI_eq, obs, u2_eq, u2_row, u2_ne, if_pos, if_neg, if_true, if_false, eq_self, ne_eq, not_true_eq_false, not_false_eq_true, o9, e0, e1, o2, ea, cw] <;> omega)))))
        refine Ok.ret (kk _ (fun z hz => ?_) (fun T hT => ?_))
        · obtain ⟨z1, z2, z3, z4, z5⟩ := hz
          rw [u2_row z1, tw_row z1]
        · simp only [trN] at hT
          rw [if_pos (Nat.le_refl _), if_neg c1] at hT
          subst hT
          refine ⟨by rw [u2_ne (by decide), tw_fld (by decide) (by decide)]; exact h0, by rw [u2_eq]; rfl, fun j hj => ?_, fun j hj => ?_⟩
          · rw [u2_row (by omega), u2_row (by omega), tw_row (by omega), tw_row (by omega)]; exact hsc j hj
          · obtain ⟨x3a, x3b, x3c⟩ := hut 3 (by decide)
            obtain ⟨x4a, x4b, x4c⟩ := hut 4 (by decide)
            rw [u2_row x3a, u2_row x4a, tw_row x3a, tw_row x4a]; exact ⟨(hll j hj).1, (hll j hj).2.2.1⟩
    · have hk5 : k < 5 := by omega
      have cw := c_walk (t := t) (wt := wt) (h := h) hV hqt (by omega : k < 6) hb1 hb9 (by omega) (by omega)
      obtain ⟨y1, y2, y3⟩ := hV.2.2.2.1 k (by omega)
      have fin : ∀ (I' : Im) (m : Nat), m ≤ 10 → I' q 0 = nI W → I' t 1 = nI m → f_X8_make_9 K R t p (some q) (some u) (some a) x4 (nI (k + 1)) I' = some I' := by
        intro I' m hm g0 g1
        obtain ⟨p, rfl⟩ : ∃ p', p = p' + 1 := ⟨p - 1, by omega⟩
        have nm : ¬ (I' t 1 = -5) := by rw [g1]; exact nI_no5 (by omega)
        unfold f_X8_make_9 f_X8_make_80
        by_cases c : W ≤ k + 1
        · (repeat (first | ((with_reducible apply Est); (focus (first | (simp (disch := omega) only [L0, L1, L2, L3, L4, L5, L6, L7, L8, L9, L10, L11, L12, L13, L14, L15, L16, L17, L18, L19, L20, L21, L22, L23, L24, L25, L26, L27, L28, L29, L30, L31, L32, L33, L34, L35, L36, L37, L38, L39, L40, L48, L57, L59, L60, L62, L96, L97, L98, L99, L100, L104, L110, L119, L124, L500, L999, L1000, L2000, L3000, nI_add, pk_mul, pk_sub, nI_leI, nI_ltI, nI_eq, obs, u2_eq, u2_row, u2_ne, if_pos, if_neg, if_true, if_false, eq_self, ne_eq, not_true_eq_false, not_false_eq_true, o9, g0]; with_reducible exact rfl) | (with_reducible exact rfl)))) | ((with_reducible apply EitT); (focus (simp (disch := omega) only [L0, L1, L2, L3, L4, L5, L6, L7, L8, L9, L10, L11, L12, L13, L14, L15, L16, L17, L18, L19, L20, L21, L22, L23, L24, L25, L26, L27, L28, L29, L30, L31, L32, L33, L34, L35, L36, L37, L38, L39, L40, L48, L57, L59, L60, L62, L96, L97, L98, L99, L100, L104, L110, L119, L124, L500, L999, L1000, L2000, L3000, nI_add, pk_mul, pk_sub, nI_leI, nI_ltI, nI_eq, obs, u2_eq, u2_row, u2_ne, if_pos, if_neg, if_true, if_false, eq_self, ne_eq, not_true_eq_false, not_false_eq_true, o9, g0] <;> omega))) | ((with_reducible apply EitF); (focus (simp (disch := omega) only [L0, L1, L2, L3, L4, L5, L6, L7, L8, L9, L10, L11, L12, L13, L14, L15, L16, L17, L18, L19, L20, L21, L22, L23, L24, L25, L26, L27, L28, L29, L30, L31, L32, L33, L34, L35, L36, L37, L38, L39, L40, L48, L57, L59, L60, L62, L96, L97, L98, L99, L100, L104, L110, L119, L124, L500, L999, L1000, L2000, L3000, nI_add, pk_mul, pk_sub, nI_leI, nI_ltI, nI_eq, obs, u2_eq, u2_row, u2_ne, if_pos, if_neg, if_true, if_false, eq_self, ne_eq, not_true_eq_false, not_false_eq_true, o9, g0] <;> omega)))))
          rw [if_neg nm]
        · (repeat (first | ((with_reducible apply Est); (focus (first | (simp (disch := omega) only [L0, L1, L2, L3, L4, L5, L6, L7, L8, L9, L10, L11, L12, L13, L14, L15, L16, L17, L18, L19, L20, L21, L22, L23, L24, L25, L26, L27, L28, L29, L30, L31, L32, L33, L34, L35, L36, L37, L38, L39, L40, L48, L57, L59, L60, L62, L96, L97, L98, L99, L100, L104, L110, L119, L124, L500, L999, L1000, L2000, L3000, nI_add, pk_mul, pk_sub, nI_leI, nI_ltI, nI_eq, obs, u2_eq, u2_row, u2_ne, if_pos, if_neg, if_true, if_false, eq_self, ne_eq, not_true_eq_false, not_false_eq_true, o9, g0]; with_reducible exact rfl) | (with_reducible exact rfl)))) | ((with_reducible apply EitT); (focus (simp (disch := omega) only [L0, L1, L2, L3, L4, L5, L6, L7, L8, L9, L10, L11, L12, L13, L14, L15, L16, L17, L18, L19, L20, L21, L22, L23, L24, L25, L26, L27, L28, L29, L30, L31, L32, L33, L34, L35, L36, L37, L38, L39, L40, L48, L57, L59, L60, L62, L96, L97, L98, L99, L100, L104, L110, L119, L124, L500, L999, L1000, L2000, L3000, nI_add, pk_mul, pk_sub, nI_leI, nI_ltI, nI_eq, obs, u2_eq, u2_row, u2_ne, if_pos, if_neg, if_true, if_false, eq_self, ne_eq, not_true_eq_false, not_false_eq_true, o9, g0] <;> omega))) | ((with_reducible apply EitF); (focus (simp (disch := omega) only [L0, L1, L2, L3, L4, L5, L6, L7, L8, L9, L10, L11, L12, L13, L14, L15, L16, L17, L18, L19, L20, L21, L22, L23, L24, L25, L26, L27, L28, L29, L30, L31, L32, L33, L34, L35, L36, L37, L38, L39, L40, L48, L57, L59, L60, L62, L96, L97, L98, L99, L100, L104, L110, L119, L124, L500, L999, L1000, L2000, L3000, nI_add, pk_mul, pk_sub, nI_leI, nI_ltI, nI_eq, obs, u2_eq, u2_row, u2_ne, if_pos, if_neg, if_true, if_false, eq_self, ne_eq, not_true_eq_false, not_false_eq_true, o9, g0] <;> omega)))))
          rw [if_neg nm, if_neg nm]
      have hTD : ∀ z, TD t u z → z ≠ t ∧ z ≠ t + 1 ∧ z ≠ t + 2 ∧ z ≠ u + 3 ∧ z ≠ u + 4 := fun z hz => hz
      obtain ⟨p3a, p3b, p3c⟩ := hut 3 (by decide)
      obtain ⟨p4a, p4b, p4c⟩ := hut 4 (by decide)
      obtain ⟨p1a, p1b, p1c⟩ := hut 1 (by decide)
      obtain ⟨p2a, p2b, p2c⟩ := hut 2 (by decide)
      by_cases c1 : wayD (fun j => b * d1 b k j) h (hr k) ≤ wt
      · rw [if_pos c1] at cw
        obtain ⟨l1, l2, l3, l4⟩ := hll k (by omega)
        have l4 := l4 (Nat.le_refl _)
        obtain ⟨m1, m2⟩ := hfg2 k (by omega)
        obtain ⟨m3, m4⟩ := hfg k (by omega)
        have cv := c_visit (K := K) (R := R) (I := I) (h := h + hr k) (w := wt - wayD (fun j => b * d1 b k j) h (hr k)) (sd := b * sdw) (rm := b * cy) (le := le) (la := la) hT hS hut hX hXD hrw hv6 h6 h7 hk5 m1 m2 l1 l3 m3 m4 l2 (by omega) (by omega) (by omega) (by omega) (by omega)
        generalize hT0 : trN (fun k h => wayD (fun j => b * d1 b k j) h (hr k)) hr (b * sdw) (b * cy) kind v rw fu gi W (f + 1) k h wt le la st ca = T0 at kk
        have kk := fun I1 z1 z2 => kk I1 z1 (fun T hT => hT ▸ z2)
        simp only [trN] at hT0
        rw [if_neg c0, if_neg (show ¬ wt < wayD (fun j => b * d1 b k j) h (hr k) by omega)] at hT0
        generalize hw1 : wt - wayD (fun j => b * d1 b k j) h (hr k) = w1 at cv cw hT0
        generalize hh1 : h + hr k = h1' at cv cw hT0
        have hs6 : stN kind v rw (fun n => heldN fu gi le la k (max h1' (la k) + n)) k (max h1' (la k)) (w1 - (la k - h1') * (b * sdw)) (b * cy) ≤ 6 := stN_le hv6 (hrw k)
        generalize hs : stN kind v rw (fun n => heldN fu gi le la k (max h1' (la k) + n)) k (max h1' (la k)) (w1 - (la k - h1') * (b * sdw)) (b * cy) = s at cv hT0 hs6
        unfold visR at cv
        by_cases c2 : (la k - h1') * (b * sdw) ≤ w1
        · rw [if_pos c2] at cv
          rw [if_neg (show ¬ w1 < (la k - h1') * (b * sdw) by omega)] at hT0
          by_cases c3 : s * (b * sdw) ≤ w1 - (la k - h1') * (b * sdw)
          · rw [if_pos c3] at cv
            rw [if_neg (show ¬ w1 - (la k - h1') * (b * sdw) < s * (b * sdw) by omega)] at hT0
            generalize hw3 : w1 - (la k - h1') * (b * sdw) - s * (b * sdw) = w3 at cv hT0
            generalize hh3 : max h1' (la k) + s = h3 at cv hT0
            generalize hIv : u2 (u2 (u2 (u2 I (t + 2) k (nI w1)) (t + 1) k (nI s)) (u + 3) k (nI (heldN fu gi le la k h3 - min (heldN fu gi le la k h3) (b * cy - w3)))) (u + 4) k (nI h3) = Iv at cv
            have fr : ∀ z, TD t u z → Iv z = I z := fun z hz => by
              obtain ⟨z1, z2, z3, z4, z5⟩ := hz
              rw [← hIv, u2_row z5, u2_row z4, u2_row z2, u2_row z3]
            have ft : ∀ j, Iv t j = I t j := fun j => by rw [← hIv, u2_row (by omega), u2_row (by omega), u2_row (by omega), u2_row (by omega)]
            have hl := heldN_le (fu := fu) (gi := gi) (le := le) (la := la) (k := k) (h := h3) m3 l2
            have g := ih (k + 1) p h3 (w3 + min (heldN fu gi le la k h3) (b * cy - w3)) Iv (u1 le k (heldN fu gi le la k h3 - min (heldN fu gi le la k h3) (b * cy - w3))) (u1 la k h3) (u1 st k (some s)) (u1 ca k (some w1)) (by omega) (by omega) (by omega) (hV.congr (fun z hz => fr z (hq z hz))) (hX.congr (fun z hz => fr z (hXD z hz))) (by rw [fr a ⟨a1, a2, a3, a4, a5⟩]; exact ha0)
              (fun j hj => by rw [← hIv, u2_row (by omega), u2_row (by omega), u2_row (by omega), u2_row (by omega), u2_row (by omega), u2_row (by omega), u2_row (by omega), u2_row (by omega)]; exact hfg2 j hj)
              (fun j hj => by
                obtain ⟨q1, q2, q3, q4⟩ := hll j hj
                have r1 : Iv (u + 3) j = nI (u1 le k (heldN fu gi le la k h3 - min (heldN fu gi le la k h3) (b * cy - w3)) j) := by
                  rw [← hIv, u2_row (by omega)]
                  refine nI_u ?_
                  rw [u2_row (by omega), u2_row (by omega)]
                  exact q1
                have r2 : Iv (u + 4) j = nI (u1 la k h3 j) := by
                  rw [← hIv]
                  refine nI_u ?_
                  rw [u2_row (by omega), u2_row (by omega), u2_row (by omega)]
                  exact q3
                refine ⟨r1, ?_, r2, fun hkj => ?_⟩
                · by_cases e : j = k
                  · subst e; rw [u1_eq]; omega
                  · rw [u1_ne e]; exact q2
                · rw [u1_ne (by omega)]; exact q4 (by omega))
              (fun j hj => by
                obtain ⟨q1, q2⟩ := hsc j hj
                refine ⟨?_, ?_⟩
                · rw [← hIv, u2_row (by omega), u2_row (by omega)]
                  refine oI_u ?_
                  rw [u2_row (by omega)]
                  exact q1
                · rw [← hIv, u2_row (by omega), u2_row (by omega), u2_row (by omega)]
                  exact oI_u q2)
              (by rw [ft]; exact h0) (by rw [ft]; exact h1) (by rw [ft]; exact h6) (by rw [ft]; exact h7) (by omega) (by omega)
              (fun I1 z1 z2 => kk I1 (fun z hz => (z1 z hz).trans (fr z hz)) (z2 T0 hT0.symm))
            (repeat (first | ((with_reducible apply Ok.st); (focus (first | (simp (disch := omega) only [L0, L1, L2, L3, L4, L5, L6, L7, L8, L9, L10, L11, L12, L13, L14, L15, L16, L17, L18, L19, L20, L21, L22, L23, L24, L25, L26, L27, L28, L29, L30, L31, L32, L33, L34, L35, L36, L37, L38, L39, L40, L48, L57, L59, L60, L62, L96, L97, L98, L99, L100, L104, L110, L119, L124, L500, L999, L1000, L2000, L3000, nI_add, pk_mul, pk_sub, nI_leI, nI_ltI, nI_eq, obs, u2_eq, u2_row, u2_ne, if_pos, if_neg, if_true, if_false, eq_self, ne_eq, not_true_eq_false, not_false_eq_true, o9, e0, e1, o2, ea, cw, hx3, cv]; with_reducible exact rfl) | (with_reducible exact rfl)))) | ((with_reducible apply Ok.itT); (focus (simp (disch := omega) only [L0, L1, L2, L3, L4, L5, L6, L7, L8, L9, L10, L11, L12, L13, L14, L15, L16, L17, L18, L19, L20, L21, L22, L23, L24, L25, L26, L27, L28, L29, L30, L31, L32, L33, L34, L35, L36, L37, L38, L39, L40, L48, L57, L59, L60, L62, L96, L97, L98, L99, L100, L104, L110, L119, L124, L500, L999, L1000, L2000, L3000, nI_add, pk_mul, pk_sub, nI_leI, nI_ltI, nI_eq, obs, u2_eq, u2_row, u2_ne, if_pos, if_neg, if_true, if_false, eq_self, ne_eq, not_true_eq_false, not_false_eq_true, o9, e0, e1, o2, ea, cw, hx3, cv] <;> omega))) | ((with_reducible apply Ok.itF); (focus (simp (disch := omega) only [L0, L1, L2, L3, L4, L5, L6, L7, L8, L9, L10, L11, L12, L13, L14, L15, L16, L17, L18, L19, L20, L21, L22, L23, L24, L25, L26, L27, L28, L29, L30, L31, L32, L33, L34, L35, L36, L37, L38, L39, L40, L48, L57, L59, L60, L62, L96, L97, L98, L99, L100, L104, L110, L119, L124, L500, L999, L1000, L2000, L3000, nI_add, pk_mul, pk_sub, nI_leI, nI_ltI, nI_eq, obs, u2_eq, u2_row, u2_ne, if_pos, if_neg, if_true, if_false, eq_self, ne_eq, not_true_eq_false, not_false_eq_true, o9, e0, e1, o2, ea, cw, hx3, cv] <;> omega)))))
            simp only [L1, nI_add]
            exact g
          · rw [if_neg c3] at cv
            rw [if_pos (show w1 - (la k - h1') * (b * sdw) < s * (b * sdw) by omega)] at hT0
            subst hT0
            have fi := fin (u2 (twI t (u2 (u2 I (t + 2) k (nI w1)) (t + 1) k (nI s)) (max h1' (la k)) (w1 - (la k - h1') * (b * sdw))) t 1 (nI (k + 1))) (k + 1) (by omega) (by rw [u2_row hq0, tw_row hq0, u2_row (by have := hq q (Or.inl rfl); exact this.2.1), u2_row (by have := hq q (Or.inl rfl); exact this.2.2.1)]; exact hV.2.1) (u2_eq _ _ _ _)
            (repeat (first | ((with_reducible apply Ok.st); (focus (first | (simp (disch := omega) only [L0, L1, L2, L3, L4, L5, L6, L7, L8, L9, L10, L11, L12, L13, L14, L15, L16, L17, L18, L19, L20, L21, L22, L23, L24, L25, L26, L27, L28, L29, L30, L31, L32, L33, L34, L35, L36, L37, L38, L39, L40, L48, L57, L59, L60, L62, L96, L97, L98, L99, L100, L104, L110, L119, L124, L500, L999, L1000, L2000, L3000, nI_add, pk_mul, pk_sub, nI_leI, nI_ltI, nI_eq, obs, u2_eq, u2_row, u2_ne, if_pos, if_neg, if_true, if_false, eq_self, ne_eq, not_true_eq_false, not_false_eq_true, o9, e0, e1, o2, ea, cw, hx3, cv]; with_reducible exact rfl) | (with_reducible exact rfl)))) | ((with_reducible apply Ok.itT); (focus (simp (disch := omega) only [L0, L1, L2, L3, L4, L5, L6, L7, L8, L9, L10, L11, L12, L13, L14, L15, L16, L17, L18, L19, L20, L21, L22, L23, L24, L25, L26, L27, L28, L29, L30, L31, L32, L33, L34, L35, L36, L37, L38, L39, L40, L48, L57, L59, L60, L62, L96, L97, L98, L99, L100, L104, L110, L119, L124, L500, L999, L1000, L2000, L3000, nI_add, pk_mul, pk_sub, nI_leI, nI_ltI, nI_eq, obs, u2_eq, u2_row, u2_ne, if_pos, if_neg, if_true, if_false, eq_self, ne_eq, not_true_eq_false, not_false_eq_true, o9, e0, e1, o2, ea, cw, hx3, cv] <;> omega))) | ((with_reducible apply Ok.itF); (focus (simp (disch := omega) only [L0, L1, L2, L3, L4, L5, L6, L7, L8, L9, L10, L11, L12, L13, L14, L15, L16, L17, L18, L19, L20, L21, L22, L23, L24, L25, L26, L27, L28, L29, L30, L31, L32, L33, L34, L35, L36, L37, L38, L39, L40, L48, L57, L59, L60, L62, L96, L97, L98, L99, L100, L104, L110, L119, L124, L500, L999, L1000, L2000, L3000, nI_add, pk_mul, pk_sub, nI_leI, nI_ltI, nI_eq, obs, u2_eq, u2_row, u2_ne, if_pos, if_neg, if_true, if_false, eq_self, ne_eq, not_true_eq_false, not_false_eq_true, o9, e0, e1, o2, ea, cw, hx3, cv] <;> omega)))))
            simp only [L1, nI_add]
            rw [fi]
            refine Ok.ret (kk _ (fun z hz => ?_) ⟨?_, by rw [u2_eq]; rfl, fun j hj => ⟨?_, ?_⟩, fun j hj => ?_⟩)
            · obtain ⟨z1, z2, z3, z4, z5⟩ := hz
              rw [u2_row z1, tw_row z1, u2_row z2, u2_row z3]
            · rw [u2_ne (by decide), tw_fld (by decide) (by decide), u2_row (by omega), u2_row (by omega)]; exact h0
            · rw [u2_row (by omega), tw_row (by omega)]
              refine oI_u ?_
              rw [u2_row (by omega)]
              exact (hsc j hj).1
            · rw [u2_row (by omega), tw_row (by omega), u2_row (by omega)]
              exact oI_u (hsc j hj).2
            · rw [u2_row (by omega), u2_row (by omega), tw_row (by omega), tw_row (by omega), u2_row (by omega), u2_row (by omega), u2_row (by omega), u2_row (by omega)]
              exact ⟨(hll j hj).1, (hll j hj).2.2.1⟩
        · rw [if_neg c2] at cv
          rw [if_pos (show w1 < (la k - h1') * (b * sdw) by omega)] at hT0
          subst hT0
          have fi := fin (u2 (twI t (u2 I (t + 2) k (nI w1)) h1' w1) t 1 (nI (k + 1))) (k + 1) (by omega) (by rw [u2_row hq0, tw_row hq0, u2_row (by have := hq q (Or.inl rfl); exact this.2.2.1)]; exact hV.2.1) (u2_eq _ _ _ _)
          (repeat (first | ((with_reducible apply Ok.st); (focus (first | (simp (disch := omega) only [L0, L1, L2, L3, L4, L5, L6, L7, L8, L9, L10, L11, L12, L13, L14, L15, L16, L17, L18, L19, L20, L21, L22, L23, L24, L25, L26, L27, L28, L29, L30, L31, L32, L33, L34, L35, L36, L37, L38, L39, L40, L48, L57, L59, L60, L62, L96, L97, L98, L99, L100, L104, L110, L119, L124, L500, L999, L1000, L2000, L3000, nI_add, pk_mul, pk_sub, nI_leI, nI_ltI, nI_eq, obs, u2_eq, u2_row, u2_ne, if_pos, if_neg, if_true, if_false, eq_self, ne_eq, not_true_eq_false, not_false_eq_true, o9, e0, e1, o2, ea, cw, hx3, cv]; with_reducible exact rfl) | (with_reducible exact rfl)))) | ((with_reducible apply Ok.itT); (focus (simp (disch := omega) only [L0, L1, L2, L3, L4, L5, L6, L7, L8, L9, L10, L11, L12, L13, L14, L15, L16, L17, L18, L19, L20, L21, L22, L23, L24, L25, L26, L27, L28, L29, L30, L31, L32, L33, L34, L35, L36, L37, L38, L39, L40, L48, L57, L59, L60, L62, L96, L97, L98, L99, L100, L104, L110, L119, L124, L500, L999, L1000, L2000, L3000, nI_add, pk_mul, pk_sub, nI_leI, nI_ltI, nI_eq, obs, u2_eq, u2_row, u2_ne, if_pos, if_neg, if_true, if_false, eq_self, ne_eq, not_true_eq_false, not_false_eq_true, o9, e0, e1, o2, ea, cw, hx3, cv] <;> omega))) | ((with_reducible apply Ok.itF); (focus (simp (disch := omega) only [L0, L1, L2, L3, L4, L5, L6, L7, L8, L9, L10, L11, L12, L13, L14, L15, L16, L17, L18, L19, L20, L21, L22, L23, L24, L25, L26, L27, L28, L29, L30, L31, L32, L33, L34, L35, L36, L37, L38, L39, L40, L48, L57, L59, L60, L62, L96, L97, L98, L99, L100, L104, L110, L119, L124, L500, L999, L1000, L2000, L3000, nI_add, pk_mul, pk_sub, nI_leI, nI_ltI, nI_eq, obs, u2_eq, u2_row, u2_ne, if_pos, if_neg, if_true, if_false, eq_self, ne_eq, not_true_eq_false, not_false_eq_true, o9, e0, e1, o2, ea, cw, hx3, cv] <;> omega)))))
          simp only [L1, nI_add]
          rw [fi]
          refine Ok.ret (kk _ (fun z hz => ?_) ⟨?_, by rw [u2_eq]; rfl, fun j hj => ⟨?_, ?_⟩, fun j hj => ?_⟩)
          · obtain ⟨z1, z2, z3, z4, z5⟩ := hz
            rw [u2_row z1, tw_row z1, u2_row z3]
          · rw [u2_ne (by decide), tw_fld (by decide) (by decide), u2_row (by omega)]; exact h0
          · rw [u2_row (by omega), tw_row (by omega), u2_row (by omega)]
            exact (hsc j hj).1
          · rw [u2_row (by omega), tw_row (by omega)]
            exact oI_u (hsc j hj).2
          · rw [u2_row (by omega), u2_row (by omega), tw_row (by omega), tw_row (by omega), u2_row (by omega), u2_row (by omega)]
            exact ⟨(hll j hj).1, (hll j hj).2.2.1⟩
      · rw [if_neg c1] at cw
        have kk := fun I1 z1 z2 => kk I1 z1 (fun T hT => hT ▸ z2)
        simp only [trN] at kk
        rw [if_neg c0, if_pos (show wt < wayD (fun j => b * d1 b k j) h (hr k) by omega)] at kk
        have fi := fin (u2 (twI t I h wt) t 1 (nI k)) k (by omega) (by rw [u2_row hq0, tw_row hq0]; exact hV.2.1) (u2_eq _ _ _ _)
        (repeat (first | ((with_reducible apply Ok.st); (focus (first | (simp (disch := omega) only [L0, L1, L2, L3, L4, L5, L6, L7, L8, L9, L10, L11, L12, L13, L14, L15, L16, L17, L18, L19, L20, L21, L22, L23, L24, L25, L26, L27, L28, L29, L30, L31, L32, L33, L34, L35, L36, L37, L38, L39, L40, L48, L57, L59, L60, L62, L96, L97, L98, L99, L100, L104, L110, L119, L124, L500, L999, L1000, L2000, L3000, nI_add, pk_mul, pk_sub, nI_leI, nI_ltI, nI_eq, obs, u2_eq, u2_row, u2_ne, if_pos, if_neg, if_true, if_false, eq_self, ne_eq, not_true_eq_false, not_false_eq_true, o9, e0, e1, o2, ea, cw, hx3]; with_reducible exact rfl) | (with_reducible exact rfl)))) | ((with_reducible apply Ok.itT); (focus (simp (disch := omega) only [L0, L1, L2, L3, L4, L5, L6, L7, L8, L9, L10, L11, L12, L13, L14, L15, L16, L17, L18, L19, L20, L21, L22, L23, L24, L25, L26, L27, L28, L29, L30, L31, L32, L33, L34, L35, L36, L37, L38, L39, L40, L48, L57, L59, L60, L62, L96, L97, L98, L99, L100, L104, L110, L119, L124, L500, L999, L1000, L2000, L3000, nI_add, pk_mul, pk_sub, nI_leI, nI_ltI, nI_eq, obs, u2_eq, u2_row, u2_ne, if_pos, if_neg, if_true, if_false, eq_self, ne_eq, not_true_eq_false, not_false_eq_true, o9, e0, e1, o2, ea, cw, hx3] <;> omega))) | ((with_reducible apply Ok.itF); (focus (simp (disch := omega) only [L0, L1, L2, L3, L4, L5, L6, L7, L8, L9, L10, L11, L12, L13, L14, L15, L16, L17, L18, L19, L20, L21, L22, L23, L24, L25, L26, L27, L28, L29, L30, L31, L32, L33, L34, L35, L36, L37, L38, L39, L40, L48, L57, L59, L60, L62, L96, L97, L98, L99, L100, L104, L110, L119, L124, L500, L999, L1000, L2000, L3000, nI_add, pk_mul, pk_sub, nI_leI, nI_ltI, nI_eq, obs, u2_eq, u2_row, u2_ne, if_pos, if_neg, if_true, if_false, eq_self, ne_eq, not_true_eq_false, not_false_eq_true, o9, e0, e1, o2, ea, cw, hx3] <;> omega)))))
        simp only [L1, nI_add]
        rw [fi]
        refine Ok.ret (kk _ (fun z hz => ?_) ⟨?_, by rw [u2_eq]; rfl, fun j hj => ?_, fun j hj => ?_⟩)
        · obtain ⟨z1, z2, z3, z4, z5⟩ := hz
          rw [u2_row z1, tw_row z1]
        · rw [u2_ne (by decide), tw_fld (by decide) (by decide)]; exact h0
        · rw [u2_row (by omega), u2_row (by omega), tw_row (by omega), tw_row (by omega)]; exact hsc j hj
        · rw [u2_row (by omega), u2_row (by omega), tw_row (by omega), tw_row (by omega)]
          exact ⟨(hll j hj).1, (hll j hj).2.2.1⟩
end
