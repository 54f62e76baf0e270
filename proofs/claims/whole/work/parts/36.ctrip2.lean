def twI (t : Nat) (I : Im) (h w : Nat) : Im := u2 (u2 I t 5 (nI w)) t 4 (nI h)
section
variable {q t u ro : Nat} {K : Sh} {R : Rf} {I : Im}
theorem tw_tw {h w h2 w2 : Nat} : u2 (u2 (twI t I h w) t 5 (nI w2)) t 4 (nI h2) = twI t I h2 w2 := by
  funext a k
  simp only [twI, u2]
  by_cases c : a = t ∧ k = 4
  · simp [c]
  · by_cases c2 : a = t ∧ k = 5
    · simp [c2]
    · simp [c, c2]
theorem tw_mk {h w : Nat} : u2 (u2 I t 4 (nI h)) t 5 (nI w) = twI t I h w := by
  funext a k
  simp only [twI, u2]
  by_cases c : a = t ∧ k = 4
  · simp [c]
  · by_cases c2 : a = t ∧ k = 5
    · simp [c2]
    · simp [c, c2]
theorem tw_I {h w : Nat} (h1 : I t 4 = nI h) (h2 : I t 5 = nI w) : twI t I h w = I := by
  unfold twI
  rw [u2_id h2, u2_id h1]
theorem tw_w {h w w2 : Nat} : u2 (twI t I h w) t 5 (nI w2) = twI t I h w2 := by
  funext a k
  simp only [twI, u2]
  by_cases c2 : a = t ∧ k = 5
  · simp [c2]
  · simp [c2]
theorem tw_h {h w h2 : Nat} : u2 (twI t I h w) t 4 (nI h2) = twI t I h2 w := by
  funext a k
  simp only [twI, u2]
  by_cases c2 : a = t ∧ k = 4
  · simp [c2]
  · simp [c2]
theorem tw_u {h w b k : Nat} {v : Int32} (hb : b ≠ t) : u2 (twI t I h w) b k v = twI t (u2 I b k v) h w := by
  funext a j
  simp only [twI, u2]
  by_cases c : a = b ∧ j = k
  · have : a ≠ t := fun e => hb (by rw [← c.1, e])
    simp [c, hb]
  · simp [c]
theorem tw_f {h w k : Nat} {v : Int32} (q4 : k ≠ 4) (q5 : k ≠ 5) : u2 (twI t I h w) t k v = twI t (u2 I t k v) h w := by
  funext a j
  simp only [twI, u2]
  by_cases c : a = t ∧ j = k
  · simp [c, q4, q5]
  · simp [c]
theorem tw_4 {h w : Nat} : twI t I h w t 4 = nI h := u2_eq _ _ _ _
theorem tw_5 {h w : Nat} : twI t I h w t 5 = nI w := by unfold twI; rw [u2_ne (by omega), u2_eq]
theorem tw_row {h w a : Nat} (c : a ≠ t) : twI t I h w a = I a := by unfold twI; rw [u2_row c, u2_row c]
theorem tw_fld {h w k : Nat} (c : k ≠ 4) (c2 : k ≠ 5) : twI t I h w t k = I t k := by unfold twI; rw [u2_ne c, u2_ne c2]
theorem WV.tw {W cy sd : Nat} {hr : Nat → Nat} {d1 : Nat → Nat → Nat → Nat} {h w : Nat} (hV : WV q K I R W hr cy sd d1) (hq : ¬ WVcells q R t) : WV q K (twI t I h w) R W hr cy sd d1 :=
  hV.congr (fun z hz => tw_row (fun e => hq (e ▸ hz)))
theorem c_walk {W cy sd : Nat} {hr : Nat → Nat} {d1 : Nat → Nat → Nat → Nat} (hV : WV q K I R W hr cy sd d1) (hq : ¬ WVcells q R t) {k b h wt : Nat} (hk : k < 6) (h1 : 1 ≤ b) (h9 : b ≤ 9) (hb : h ≤ 1000000) (hw : wt ≤ 1000000) :
    f_X8_walk K R t (some q) (nI k) (nI b) (twI t I h wt) = some (if wayD (fun j => b * d1 b k j) h (hr k) ≤ wt then (1, twI t I (h + hr k) (wt - wayD (fun j => b * d1 b k j) h (hr k))) else (0, twI t I h wt)) := by
  have ca := c_along (hV.tw (h := h) (w := wt) hq) hk h1 h9 hb
  have hS := hV.1
  obtain ⟨y1, y2, y3⟩ := hV.2.2.2.1 k hk
  have hd := hV.2.2.2.2.2.2.2.2.1
  have bd : wayD (fun j => b * d1 b k j) h (hr k) ≤ 10692 * 9 := by
    have := wayD_le (f := fun j => b * d1 b k j) (B := 10692) (fun j _ => by
      have := Nat.mul_le_mul h9 (hd b k j)
      show b * d1 b k j ≤ 10692
      omega) h (hr k)
    have h2 := Nat.mul_le_mul (Nat.le_refl 10692) y3
    omega
  generalize wayD (fun j => b * d1 b k j) h (hr k) = A at ca bd ⊢
  have q3 : q + 3 ≠ t := fun e => hq (Or.inr (Or.inl e.symm))
  have o1 : ob K 10 (some q) = some q := ob9 hS
  unfold f_X8_walk
  by_cases c : A ≤ wt
  · rw [if_pos c]
    simp (disch := omega) only [L0, L1, L2, L3, L4, L5, L6, L7, L8, L9, L10, L11, L12, L13, L14, L15, L16, L17, L18, L19, L20, L21, L22, L23, L24, L25, L26, L27, L28, L29, L30, L31, L32, L33, L34, L35, L36, L37, L38, L39, L40, L48, L57, L59, L60, L62, L96, L97, L98, L99, L100, L104, L110, L119, L124, L500, L999, L1000, L2000, L3000, nI_add, pk_mul, pk_sub, nI_leI, nI_ltI, nI_eq, obs, u2_eq, u2_row, u2_ne, if_pos, if_neg, if_true, if_false, eq_self, o1, tw_4, tw_5, ca, tw_w, l9_7 hS, tw_row, y1, tw_h]
  · rw [if_neg c]
    simp (disch := omega) only [L0, L1, L2, L3, L4, L5, L6, L7, L8, L9, L10, L11, L12, L13, L14, L15, L16, L17, L18, L19, L20, L21, L22, L23, L24, L25, L26, L27, L28, L29, L30, L31, L32, L33, L34, L35, L36, L37, L38, L39, L40, L48, L57, L59, L60, L62, L96, L97, L98, L99, L100, L104, L110, L119, L124, L500, L999, L1000, L2000, L3000, nI_add, pk_mul, pk_sub, nI_leI, nI_ltI, nI_eq, obs, u2_eq, u2_row, u2_ne, if_pos, if_neg, if_true, if_false, eq_self, o1, tw_4, tw_5, ca]
theorem c_linger {n h wt sd : Nat} (h7 : I t 7 = nI sd) (bh : h ≤ 1000000) (bw : wt ≤ 1000000) (bn : n ≤ 1000000) (bs : sd ≤ 1000) : f_X8_linger K t (nI n) (twI t I h wt) = some (if n * sd ≤ wt then (1, twI t I (h + n) (wt - n * sd)) else (0, twI t I h wt)) := by
  have hp : n * sd ≤ 1000000 * 1000 := Nat.mul_le_mul bn bs
  have e7 : twI t I h wt t 7 = nI sd := by rw [tw_fld (by decide) (by decide)]; exact h7
  unfold f_X8_linger
  by_cases c0 : n = 0
  · subst c0
    rw [Nat.zero_mul, if_pos (Nat.zero_le _), Nat.add_zero, Nat.sub_zero]
    simp (disch := omega) only [L0, L1, L2, L3, L4, L5, L6, L7, L8, L9, L10, L11, L12, L13, L14, L15, L16, L17, L18, L19, L20, L21, L22, L23, L24, L25, L26, L27, L28, L29, L30, L31, L32, L33, L34, L35, L36, L37, L38, L39, L40, L48, L57, L59, L60, L62, L96, L97, L98, L99, L100, L104, L110, L119, L124, L500, L999, L1000, L2000, L3000, nI_add, pk_mul, pk_sub, nI_leI, nI_ltI, nI_eq, obs, u2_eq, u2_row, u2_ne, if_pos, if_neg, if_true, if_false, eq_self]
  · by_cases c : n * sd ≤ wt
    · rw [if_pos c]
      simp (disch := omega) only [L0, L1, L2, L3, L4, L5, L6, L7, L8, L9, L10, L11, L12, L13, L14, L15, L16, L17, L18, L19, L20, L21, L22, L23, L24, L25, L26, L27, L28, L29, L30, L31, L32, L33, L34, L35, L36, L37, L38, L39, L40, L48, L57, L59, L60, L62, L96, L97, L98, L99, L100, L104, L110, L119, L124, L500, L999, L1000, L2000, L3000, nI_add, pk_mul, pk_sub, nI_leI, nI_ltI, nI_eq, obs, u2_eq, u2_row, u2_ne, if_pos, if_neg, if_true, if_false, eq_self, e7, tw_5, tw_w, tw_4, tw_h]
    · rw [if_neg c]
      simp (disch := omega) only [L0, L1, L2, L3, L4, L5, L6, L7, L8, L9, L10, L11, L12, L13, L14, L15, L16, L17, L18, L19, L20, L21, L22, L23, L24, L25, L26, L27, L28, L29, L30, L31, L32, L33, L34, L35, L36, L37, L38, L39, L40, L48, L57, L59, L60, L62, L96, L97, L98, L99, L100, L104, L110, L119, L124, L500, L999, L1000, L2000, L3000, nI_add, pk_mul, pk_sub, nI_leI, nI_ltI, nI_eq, obs, u2_eq, u2_row, u2_ne, if_pos, if_neg, if_true, if_false, eq_self, e7, tw_5]
theorem c_lingerL {l h wt sd : Nat} (h7 : I t 7 = nI sd) (bl : l ≤ 1000000) (bh : h ≤ 1000000) (bw : wt ≤ 1000000) (bs : sd ≤ 1000) : f_X8_linger K t (nI l - nI h) (twI t I h wt) = some (if (l - h) * sd ≤ wt then (1, twI t I (max h l) (wt - (l - h) * sd)) else (0, twI t I h wt)) := by
  by_cases c : l ≤ h
  · rw [show l - h = 0 by omega, Nat.zero_mul, if_pos (Nat.zero_le _), Nat.max_eq_left c, Nat.sub_zero]
    unfold f_X8_linger
    rw [L0, if_neg (nI_subneg (by omega) (by omega) c)]
  · rw [pk_sub (by omega), c_linger h7 bh bw (by omega) bs, show h + (l - h) = max h l by omega]
def StC (K : Sh) (I : Im) (R : Rf) (kind v : Nat) (rw : Nat → Nat) (x3 x4 : Option Nat) : Prop :=
  (x4 = none ∧ ∃ ro, x3 = some ro ∧ S5 ro K R ∧ I ro 0 = nI kind ∧ I ro 2 = nI v ∧ v ≤ 6 ∧ kind ≤ 6 ∧ kind ≠ 3 ∧ kind ≠ 5) ∨ (∃ z, x4 = some z ∧ K z = (21, 5) ∧ (∀ k, k < 5 → I z k = nI (rw k)) ∧ (kind = 3 ∨ kind = 5 ∨ kind = 7))
theorem StC.congr {I' : Im} {kind v : Nat} {rw : Nat → Nat} {x3 x4 : Option Nat} (h : StC K I R kind v rw x3 x4) (hI : ∀ z, (x4 = none ∧ x3 = some z) ∨ x4 = some z → I' z = I z) : StC K I' R kind v rw x3 x4 := by
  rcases h with ⟨h1, ro, h2, h3, h4, h5, h6⟩ | ⟨z, h1, h2, h3, h4⟩
  · have := hI ro (Or.inl ⟨h1, h2⟩)
    exact Or.inl ⟨h1, ro, h2, h3, by rw [this]; exact h4, by rw [this]; exact h5, h6⟩
  · have := hI z (Or.inr h1)
    exact Or.inr ⟨z, h1, h2, fun k hk => by rw [this]; exact h3 k hk, h4⟩
theorem c_visit65 (hT : S8 t K R) (hS : S10 u K R) {k h w s sd rm : Nat} {fu gi le la : Nat → Nat} (d1 : u + 1 ≠ t ∧ u + 2 ≠ t ∧ u + 3 ≠ t ∧ u + 4 ≠ t) (d2 : u + 1 ≠ t + 1 ∧ u + 2 ≠ t + 1 ∧ u + 3 ≠ t + 1 ∧ u + 4 ≠ t + 1) (h6 : I t 6 = nI rm) (h7 : I t 7 = nI sd) (hk : k < 5) (h1 : I (u + 1) k = nI (fu k)) (h2 : I (u + 2) k = nI (gi k)) (h3 : I (u + 3) k = nI (le k)) (h4 : I (u + 4) k = nI (la k)) (b1 : fu k ≤ 99) (b2 : gi k ≤ 99) (b3 : le k ≤ 99) (b4 : la k ≤ 1000000) (bh : h ≤ 900000) (bs : s ≤ 6) (bsd : sd ≤ 1000) (b6 : rm ≤ 1000) (b7 : w ≤ rm) :
    f_X8_visit_65 K R t (some u) (nI k) (R t 2) (nI k) (nI s) (twI t I h w) = some (if s * sd ≤ w then (1, twI t (u2 (u2 (u2 I (t + 1) k (nI s)) (u + 3) k (nI (heldN fu gi le la k (h + s) - min (heldN fu gi le la k (h + s)) (rm - (w - s * sd))))) (u + 4) k (nI (h + s))) (h + s) (w - s * sd + min (heldN fu gi le la k (h + s)) (rm - (w - s * sd)))) else (0, twI t (u2 I (t + 1) k (nI s)) h w)) := by
  obtain ⟨e1, e2, e3, e4⟩ := d1
  obtain ⟨f1, f2, f3, f4⟩ := d2
  have hl := heldN_le (gi := gi) (la := la) (h := h + s) b1 b3
  have o1 : ob K 11 (some u) = some u := ob10 hS
  have cl := c_linger (K := K) (t := t) (I := u2 I (t + 1) k (nI s)) (n := s) (h := h) (wt := w) (sd := sd) (by rw [u2_row (by omega)]; exact h7) (by omega) (by omega) (by omega) bsd
  unfold f_X8_visit_65
  by_cases c : s * sd ≤ w
  · rw [if_pos c] at cl ⊢
    generalize hw3 : w - s * sd = w3 at cl ⊢
    have h6' : twI t (u2 I (t + 1) k (nI s)) (h + s) w3 t 6 = nI rm := by rw [tw_fld (by decide) (by decide), u2_row (by omega)]; exact h6
    have cd := c_draw (K := K) (R := R) (I := twI t (u2 I (t + 1) k (nI s)) (h + s) w3) (fu := fu) (gi := gi) (le := le) (la := la) (h := h + s) (n := rm - w3) hS hk (by rw [tw_row e1, u2_row f1]; exact h1) (by rw [tw_row e2, u2_row f2]; exact h2) (by rw [tw_row e3, u2_row f3]; exact h3) (by rw [tw_row e4, u2_row f4]; exact h4) b1 b2 b3 b4 (by omega) (by omega)
    (repeat (first | ((with_reducible apply Est); (focus (first | (simp (disch := omega) only [L0, L1, L2, L3, L4, L5, L6, L7, L8, L9, L10, L11, L12, L13, L14, L15, L16, L17, L18, L19, L20, L21, L22, L23, L24, L25, L26, L27, L28, L29, L30, L31, L32, L33, L34, L35, L36, L37, L38, L39, L40, L48, L57, L59, L60, L62, L96, L97, L98, L99, L100, L104, L110, L119, L124, L500, L999, L1000, L2000, L3000, nI_add, pk_mul, pk_sub, nI_leI, nI_ltI, nI_eq, obs, u2_eq, u2_row, u2_ne, if_pos, if_neg, if_true, if_false, eq_self, ne_eq, not_true_eq_false, not_false_eq_true, s8_2 hT, l8_2 hT, tw_u, tw_row, cl, o1, tw_4, tw_5, h6', cd, tw_w, u2_eq]; with_reducible exact rfl) | (with_reducible exact rfl)))) | ((with_reducible apply EitT); (focus (simp (disch := omega) only [L0, L1, L2, L3, L4, L5, L6, L7, L8, L9, L10, L11, L12, L13, L14, L15, L16, L17, L18, L19, L20, L21, L22, L23, L24, L25, L26, L27, L28, L29, L30, L31, L32, L33, L34, L35, L36, L37, L38, L39, L40, L48, L57, L59, L60, L62, L96, L97, L98, L99, L100, L104, L110, L119, L124, L500, L999, L1000, L2000, L3000, nI_add, pk_mul, pk_sub, nI_leI, nI_ltI, nI_eq, obs, u2_eq, u2_row, u2_ne, if_pos, if_neg, if_true, if_false, eq_self, ne_eq, not_true_eq_false, not_false_eq_true, s8_2 hT, l8_2 hT, tw_u, tw_row, cl, o1, tw_4, tw_5, h6', cd, tw_w, u2_eq] <;> omega))) | ((with_reducible apply EitF); (focus (simp (disch := omega) only [L0, L1, L2, L3, L4, L5, L6, L7, L8, L9, L10, L11, L12, L13, L14, L15, L16, L17, L18, L19, L20, L21, L22, L23, L24, L25, L26, L27, L28, L29, L30, L31, L32, L33, L34, L35, L36, L37, L38, L39, L40, L48, L57, L59, L60, L62, L96, L97, L98, L99, L100, L104, L110, L119, L124, L500, L999, L1000, L2000, L3000, nI_add, pk_mul, pk_sub, nI_leI, nI_ltI, nI_eq, obs, u2_eq, u2_row, u2_ne, if_pos, if_neg, if_true, if_false, eq_self, ne_eq, not_true_eq_false, not_false_eq_true, s8_2 hT, l8_2 hT, tw_u, tw_row, cl, o1, tw_4, tw_5, h6', cd, tw_w, u2_eq] <;> omega)))))
    rfl
  · rw [if_neg c] at cl ⊢
    (repeat (first | ((with_reducible apply Est); (focus (first | (simp (disch := omega) only [L0, L1, L2, L3, L4, L5, L6, L7, L8, L9, L10, L11, L12, L13, L14, L15, L16, L17, L18, L19, L20, L21, L22, L23, L24, L25, L26, L27, L28, L29, L30, L31, L32, L33, L34, L35, L36, L37, L38, L39, L40, L48, L57, L59, L60, L62, L96, L97, L98, L99, L100, L104, L110, L119, L124, L500, L999, L1000, L2000, L3000, nI_add, pk_mul, pk_sub, nI_leI, nI_ltI, nI_eq, obs, u2_eq, u2_row, u2_ne, if_pos, if_neg, if_true, if_false, eq_self, ne_eq, not_true_eq_false, not_false_eq_true, s8_2 hT, l8_2 hT, tw_u, tw_row, cl, u2_eq]; with_reducible exact rfl) | (with_reducible exact rfl)))) | ((with_reducible apply EitT); (focus (simp (disch := omega) only [L0, L1, L2, L3, L4, L5, L6, L7, L8, L9, L10, L11, L12, L13, L14, L15, L16, L17, L18, L19, L20, L21, L22, L23, L24, L25, L26, L27, L28, L29, L30, L31, L32, L33, L34, L35, L36, L37, L38, L39, L40, L48, L57, L59, L60, L62, L96, L97, L98, L99, L100, L104, L110, L119, L124, L500, L999, L1000, L2000, L3000, nI_add, pk_mul, pk_sub, nI_leI, nI_ltI, nI_eq, obs, u2_eq, u2_row, u2_ne, if_pos, if_neg, if_true, if_false, eq_self, ne_eq, not_true_eq_false, not_false_eq_true, s8_2 hT, l8_2 hT, tw_u, tw_row, cl, u2_eq] <;> omega))) | ((with_reducible apply EitF); (focus (simp (disch := omega) only [L0, L1, L2, L3, L4, L5, L6, L7, L8, L9, L10, L11, L12, L13, L14, L15, L16, L17, L18, L19, L20, L21, L22, L23, L24, L25, L26, L27, L28, L29, L30, L31, L32, L33, L34, L35, L36, L37, L38, L39, L40, L48, L57, L59, L60, L62, L96, L97, L98, L99, L100, L104, L110, L119, L124, L500, L999, L1000, L2000, L3000, nI_add, pk_mul, pk_sub, nI_leI, nI_ltI, nI_eq, obs, u2_eq, u2_row, u2_ne, if_pos, if_neg, if_true, if_false, eq_self, ne_eq, not_true_eq_false, not_false_eq_true, s8_2 hT, l8_2 hT, tw_u, tw_row, cl, u2_eq] <;> omega)))))
    rfl
end
