/-- so long one waits for what is wanted -/
def wtN (g : Nat → Nat) (need v : Nat) : Nat → Nat → Nat
  | 0, n => n
  | f + 1, n => if v ≤ n then n else if need ≤ g n then n else wtN g need v f (n + 1)
def niN (v h : Nat) : Nat := if 12 ≤ h % 24 then 0 else min (12 - h % 24) v
/-- the stand: kind (7: by hand), v, the row, what the well holds so many hours on, place, hour, water, room -/
def stN (kind v : Nat) (rw : Nat → Nat) (g : Nat → Nat) (k h wt rm : Nat) : Nat :=
  if kind = 1 then wtN g (rm - wt) v 7 0
  else if kind = 4 then min 6 (wtN g (rm - wt) v 7 0 + 1)
  else if kind = 2 then niN v h
  else if kind = 6 then (if 2 * wt < rm then 0 else niN v h)
  else if kind = 3 ∨ kind = 5 ∨ kind = 7 then rw k
  else 0
theorem wtN_le (g : Nat → Nat) (need v : Nat) : ∀ f n, n ≤ v → wtN g need v f n ≤ v := by
  intro f
  induction f with
  | zero => intro n h; exact h
  | succ f ih =>
    intro n h
    simp only [wtN]
    split
    · exact h
    · split
      · exact h
      · exact ih (n + 1) (by omega)
theorem niN_le (v h : Nat) : niN v h ≤ v := by
  unfold niN
  split <;> omega
theorem stN_le {kind v : Nat} {rw : Nat → Nat} {g : Nat → Nat} {k h wt rm : Nat} (hv : v ≤ 6) (hr : rw k ≤ 6) : stN kind v rw g k h wt rm ≤ 6 := by
  have h1 := wtN_le g (rm - wt) v 7 0 (by omega)
  have h2 := niN_le v h
  unfold stN
  repeat' split
  all_goals omega
section
variable {o : Nat} {K : Sh} {R : Rf} {I : Im}
theorem m_stand68 (hM : S12 o K R) {r k v h wt rm kind : Nat} {fu gi le la : Nat → Nat} (hk : k < 6) (hr : r < 11) (h20 : I (o + 20) r = nI v) (hv : v ≤ 6) (h46 : I o 46 = nI rm) (h1 : I (o + 14) k = nI (fu k)) (h2 : I (o + 15) k = nI (gi k)) (h3 : I (o + 17) k = nI (le k)) (h4 : I (o + 18) k = nI (la k)) (b1 : fu k ≤ 99) (b2 : gi k ≤ 99) (b3 : le k ≤ 99) (b4 : la k ≤ 1000000) (b5 : h ≤ 900000) (b6 : rm ≤ 1000) (b7 : wt ≤ rm) (hkd : kind = 1 ∨ kind = 4) : ∀ (q f n : Nat), v - n < q → v - n < f → n ≤ v →
    f_X12_standOf_68 K (hwI o I h wt) R o q (nI r) (nI k) (nI kind) (nI n) = some (nI (if kind = 1 then wtN (fun n => heldN fu gi le la k (h + n)) (rm - wt) v f n else min 6 (wtN (fun n => heldN fu gi le la k (h + n)) (rm - wt) v f n + 1))) := by
  have e46 : hwI o I h wt o 46 = nI rm := by rw [hw_fld (by decide) (by decide)]; exact h46
  have e20 : hwI o I h wt (o + 20) r = nI v := by rw [hw_row (by omega)]; exact h20
  have fin : ∀ x : Nat, x ≤ 6 → f_X12_standOf_109 K (hwI o I h wt) R o (nI kind) (nI x) = some (nI (if kind = 1 then x else min 6 (x + 1))) := by
    intro x hx
    unfold f_X12_standOf_109
    by_cases q : kind = 1
    · subst q; simp (disch := omega) only [L0, L1, L2, L3, L4, L5, L6, L7, L8, L9, L10, L11, L12, L13, L14, L15, L16, L17, L18, L19, L20, L21, L22, L23, L24, L25, L26, L27, L28, L29, L30, L31, L32, L33, L34, L35, L36, L37, L38, L39, L40, L48, L57, L59, L60, L62, L96, L97, L98, L99, L100, L104, L110, L119, L124, L500, L999, L1000, L2000, L3000, nI_add, pk_mul, pk_sub, nI_leI, nI_ltI, nI_eq, obs, u2_eq, u2_row, u2_ne, if_pos, if_neg, if_true, if_false, eq_self]
    · simp (disch := omega) only [L0, L1, L2, L3, L4, L5, L6, L7, L8, L9, L10, L11, L12, L13, L14, L15, L16, L17, L18, L19, L20, L21, L22, L23, L24, L25, L26, L27, L28, L29, L30, L31, L32, L33, L34, L35, L36, L37, L38, L39, L40, L48, L57, L59, L60, L62, L96, L97, L98, L99, L100, L104, L110, L119, L124, L500, L999, L1000, L2000, L3000, nI_add, pk_mul, pk_sub, nI_leI, nI_ltI, nI_eq, obs, u2_eq, u2_row, u2_ne, if_pos, if_neg, if_true, if_false, eq_self, m_min]
  intro q
  induction q with
  | zero => intro f n h; omega
  | succ q ih =>
    intro f n hq hf hn
    obtain ⟨f, rfl⟩ : ∃ f', f = f' + 1 := ⟨f - 1, by omega⟩
    have hl := heldN_le (gi := gi) (la := la) (h := h + n) b1 b3
    unfold f_X12_standOf_68
    simp only [wtN]
    by_cases c1 : v ≤ n
    · rw [if_pos c1, ← fin n (by omega)]
      simp (disch := omega) only [L0, L1, L2, L3, L4, L5, L6, L7, L8, L9, L10, L11, L12, L13, L14, L15, L16, L17, L18, L19, L20, L21, L22, L23, L24, L25, L26, L27, L28, L29, L30, L31, L32, L33, L34, L35, L36, L37, L38, L39, L40, L48, L57, L59, L60, L62, L96, L97, L98, L99, L100, L104, L110, L119, L124, L500, L999, L1000, L2000, L3000, nI_add, pk_mul, pk_sub, nI_leI, nI_ltI, nI_eq, obs, u2_eq, u2_row, u2_ne, if_pos, if_neg, if_true, if_false, eq_self, l12_31 hM, e20]
    · rw [if_neg c1]
      by_cases c2 : rm - wt ≤ heldN fu gi le la k (h + n)
      · rw [if_pos c2, ← fin n (by omega)]
        simp (disch := omega) only [L0, L1, L2, L3, L4, L5, L6, L7, L8, L9, L10, L11, L12, L13, L14, L15, L16, L17, L18, L19, L20, L21, L22, L23, L24, L25, L26, L27, L28, L29, L30, L31, L32, L33, L34, L35, L36, L37, L38, L39, L40, L48, L57, L59, L60, L62, L96, L97, L98, L99, L100, L104, L110, L119, L124, L500, L999, L1000, L2000, L3000, nI_add, pk_mul, pk_sub, nI_leI, nI_ltI, nI_eq, obs, u2_eq, u2_row, u2_ne, if_pos, if_neg, if_true, if_false, eq_self, l12_31 hM, e20, hw_47, hw_48, m_held hM hk h1 h2 h3 h4 b1 b2 b3 b4, e46]
      · rw [if_neg c2, ← ih f (n + 1) (by omega) (by omega) (by omega)]
        simp (disch := omega) only [L0, L1, L2, L3, L4, L5, L6, L7, L8, L9, L10, L11, L12, L13, L14, L15, L16, L17, L18, L19, L20, L21, L22, L23, L24, L25, L26, L27, L28, L29, L30, L31, L32, L33, L34, L35, L36, L37, L38, L39, L40, L48, L57, L59, L60, L62, L96, L97, L98, L99, L100, L104, L110, L119, L124, L500, L999, L1000, L2000, L3000, nI_add, pk_mul, pk_sub, nI_leI, nI_ltI, nI_eq, obs, u2_eq, u2_row, u2_ne, if_pos, if_neg, if_true, if_false, eq_self, l12_31 hM, e20, hw_47, hw_48, m_held hM hk h1 h2 h3 h4 b1 b2 b3 b4, e46]
theorem m_stand130 (hM : S12 o K R) {r v h wt rm kind : Nat} (hr : r < 11) (h20 : I (o + 20) r = nI v) (hv : v ≤ 6) (h46 : I o 46 = nI rm) (b5 : h ≤ 900000) (b6 : rm ≤ 1000) (b7 : wt ≤ rm) (hkd : kind = 2 ∨ kind = 6) : ∀ (q n : Nat), v - n < q → n ≤ niN v h →
    f_X12_standOf_130 K (hwI o I h wt) R o q (nI r) (nI kind) (nI n) = some (nI (if kind = 6 then (if 2 * wt < rm then 0 else niN v h) else niN v h)) := by
  have e46 : hwI o I h wt o 46 = nI rm := by rw [hw_fld (by decide) (by decide)]; exact h46
  have e20 : hwI o I h wt (o + 20) r = nI v := by rw [hw_row (by omega)]; exact h20
  have hnv := niN_le v h
  have fin : f_X12_standOf_162 K (hwI o I h wt) R o (nI kind) (nI (niN v h)) = some (nI (if kind = 6 then (if 2 * wt < rm then 0 else niN v h) else niN v h)) := by
    unfold f_X12_standOf_162
    by_cases q : kind = 6
    · subst q
      rw [if_pos rfl]
      by_cases q2 : 2 * wt < rm
      · simp (disch := omega) only [L0, L1, L2, L3, L4, L5, L6, L7, L8, L9, L10, L11, L12, L13, L14, L15, L16, L17, L18, L19, L20, L21, L22, L23, L24, L25, L26, L27, L28, L29, L30, L31, L32, L33, L34, L35, L36, L37, L38, L39, L40, L48, L57, L59, L60, L62, L96, L97, L98, L99, L100, L104, L110, L119, L124, L500, L999, L1000, L2000, L3000, nI_add, pk_mul, pk_sub, nI_leI, nI_ltI, nI_eq, obs, u2_eq, u2_row, u2_ne, if_pos, if_neg, if_true, if_false, eq_self, e46, hw_48]
      · simp (disch := omega) only [L0, L1, L2, L3, L4, L5, L6, L7, L8, L9, L10, L11, L12, L13, L14, L15, L16, L17, L18, L19, L20, L21, L22, L23, L24, L25, L26, L27, L28, L29, L30, L31, L32, L33, L34, L35, L36, L37, L38, L39, L40, L48, L57, L59, L60, L62, L96, L97, L98, L99, L100, L104, L110, L119, L124, L500, L999, L1000, L2000, L3000, nI_add, pk_mul, pk_sub, nI_leI, nI_ltI, nI_eq, obs, u2_eq, u2_row, u2_ne, if_pos, if_neg, if_true, if_false, eq_self, e46, hw_48]
    · simp (disch := omega) only [L0, L1, L2, L3, L4, L5, L6, L7, L8, L9, L10, L11, L12, L13, L14, L15, L16, L17, L18, L19, L20, L21, L22, L23, L24, L25, L26, L27, L28, L29, L30, L31, L32, L33, L34, L35, L36, L37, L38, L39, L40, L48, L57, L59, L60, L62, L96, L97, L98, L99, L100, L104, L110, L119, L124, L500, L999, L1000, L2000, L3000, nI_add, pk_mul, pk_sub, nI_leI, nI_ltI, nI_eq, obs, u2_eq, u2_row, u2_ne, if_pos, if_neg, if_true, if_false, eq_self]
  intro q
  induction q with
  | zero => intro n h; omega
  | succ q ih =>
    intro n hq hn
    unfold f_X12_standOf_130
    by_cases e : n = niN v h
    · rw [← e] at fin ⊢
      rw [← fin]
      by_cases c1 : v ≤ n
      · simp (disch := omega) only [L0, L1, L2, L3, L4, L5, L6, L7, L8, L9, L10, L11, L12, L13, L14, L15, L16, L17, L18, L19, L20, L21, L22, L23, L24, L25, L26, L27, L28, L29, L30, L31, L32, L33, L34, L35, L36, L37, L38, L39, L40, L48, L57, L59, L60, L62, L96, L97, L98, L99, L100, L104, L110, L119, L124, L500, L999, L1000, L2000, L3000, nI_add, pk_mul, pk_sub, nI_leI, nI_ltI, nI_eq, obs, u2_eq, u2_row, u2_ne, if_pos, if_neg, if_true, if_false, eq_self, l12_31 hM, e20]
      · have c2 : 12 ≤ (h + n) % 24 := by
          rw [e]
          rw [e] at c1
          unfold niN at c1 ⊢
          split at c1 <;> rename_i c3
          · rw [if_pos c3]; omega
          · rw [if_neg c3]; omega
        simp (disch := omega) only [L0, L1, L2, L3, L4, L5, L6, L7, L8, L9, L10, L11, L12, L13, L14, L15, L16, L17, L18, L19, L20, L21, L22, L23, L24, L25, L26, L27, L28, L29, L30, L31, L32, L33, L34, L35, L36, L37, L38, L39, L40, L48, L57, L59, L60, L62, L96, L97, L98, L99, L100, L104, L110, L119, L124, L500, L999, L1000, L2000, L3000, nI_add, pk_mul, pk_sub, nI_leI, nI_ltI, nI_eq, obs, u2_eq, u2_row, u2_ne, if_pos, if_neg, if_true, if_false, eq_self, l12_31 hM, e20, hw_47, irem_nI]
    · have c1 : n < v := by omega
      have c2 : ¬ 12 ≤ (h + n) % 24 := by
        have hn2 : n < niN v h := by omega
        unfold niN at hn2
        split at hn2 <;> omega
      rw [← ih (n + 1) (by omega) (by omega)]
      simp (disch := omega) only [L0, L1, L2, L3, L4, L5, L6, L7, L8, L9, L10, L11, L12, L13, L14, L15, L16, L17, L18, L19, L20, L21, L22, L23, L24, L25, L26, L27, L28, L29, L30, L31, L32, L33, L34, L35, L36, L37, L38, L39, L40, L48, L57, L59, L60, L62, L96, L97, L98, L99, L100, L104, L110, L119, L124, L500, L999, L1000, L2000, L3000, nI_add, pk_mul, pk_sub, nI_leI, nI_ltI, nI_eq, obs, u2_eq, u2_row, u2_ne, if_pos, if_neg, if_true, if_false, eq_self, l12_31 hM, e20, hw_47, irem_nI]
/-- what tells the row, by kind -/
def RowM (o : Nat) (I : Im) (kind r k : Nat) (rw : Nat → Nat) : Prop :=
  (kind = 3 → ∃ rn, I (o + 21) r = nI rn ∧ rn ≤ 5 ∧ if k < rn then I (o + 22) (5 * r + k) = nI (rw k) else rw k = 0) ∧
  (kind = 5 → I (o + 30) k = nI (rw k)) ∧ (kind = 7 → ∃ hn, I o 29 = nI hn ∧ hn ≤ 5 ∧ if k < hn then I (o + 26) k = nI (rw k) else rw k = 0)
theorem m_standOf (hM : S12 o K R) {r k v h wt rm kind : Nat} {rw : Nat → Nat} {fu gi le la : Nat → Nat} (hk : k < 5) (hr : r < 11) (h20 : I (o + 20) r = nI v) (hv : v ≤ 6) (h46 : I o 46 = nI rm) (h1 : I (o + 14) k = nI (fu k)) (h2 : I (o + 15) k = nI (gi k)) (h3 : I (o + 17) k = nI (le k)) (h4 : I (o + 18) k = nI (la k)) (b1 : fu k ≤ 99) (b2 : gi k ≤ 99) (b3 : le k ≤ 99) (b4 : la k ≤ 1000000) (b5 : h ≤ 900000) (b6 : rm ≤ 1000) (b7 : wt ≤ rm) (hkd : kind ≤ 7) (hR : RowM o I kind r k rw) :
    f_X12_standOf K (hwI o I h wt) R o (nI r) (nI k) (nI kind) = some (nI (stN kind v rw (fun n => heldN fu gi le la k (h + n)) k h wt rm)) := by
  unfold f_X12_standOf
  rcases (by omega : kind = 0 ∨ kind = 1 ∨ kind = 2 ∨ kind = 3 ∨ kind = 4 ∨ kind = 5 ∨ kind = 6 ∨ kind = 7) with q | q | q | q | q | q | q | q
  · subst q
    simp (disch := omega) only [L0, L1, L2, L3, L4, L5, L6, L7, L8, L9, L10, L11, L12, L13, L14, L15, L16, L17, L18, L19, L20, L21, L22, L23, L24, L25, L26, L27, L28, L29, L30, L31, L32, L33, L34, L35, L36, L37, L38, L39, L40, L48, L57, L59, L60, L62, L96, L97, L98, L99, L100, L104, L110, L119, L124, L500, L999, L1000, L2000, L3000, nI_add, pk_mul, pk_sub, nI_leI, nI_ltI, nI_eq, obs, u2_eq, u2_row, u2_ne, if_pos, if_neg, if_true, if_false, eq_self, stN]
  · subst q
    have g := m_stand68 hM (by omega : k < 6) hr h20 hv h46 h1 h2 h3 h4 b1 b2 b3 b4 b5 b6 b7 (Or.inl rfl) FU 7 0 (FU_lt (by omega)) (by omega) (by omega)
    simp (disch := omega) only [L0, L1, L2, L3, L4, L5, L6, L7, L8, L9, L10, L11, L12, L13, L14, L15, L16, L17, L18, L19, L20, L21, L22, L23, L24, L25, L26, L27, L28, L29, L30, L31, L32, L33, L34, L35, L36, L37, L38, L39, L40, L48, L57, L59, L60, L62, L96, L97, L98, L99, L100, L104, L110, L119, L124, L500, L999, L1000, L2000, L3000, nI_add, pk_mul, pk_sub, nI_leI, nI_ltI, nI_eq, obs, u2_eq, u2_row, u2_ne, if_pos, if_neg, if_true, if_false, eq_self, stN]
    rw [g, if_pos rfl]
  · subst q
    have g := m_stand130 hM hr h20 hv h46 b5 b6 b7 (Or.inl rfl) FU 0 (FU_lt (by omega)) (by omega)
    simp (disch := omega) only [L0, L1, L2, L3, L4, L5, L6, L7, L8, L9, L10, L11, L12, L13, L14, L15, L16, L17, L18, L19, L20, L21, L22, L23, L24, L25, L26, L27, L28, L29, L30, L31, L32, L33, L34, L35, L36, L37, L38, L39, L40, L48, L57, L59, L60, L62, L96, L97, L98, L99, L100, L104, L110, L119, L124, L500, L999, L1000, L2000, L3000, nI_add, pk_mul, pk_sub, nI_leI, nI_ltI, nI_eq, obs, u2_eq, u2_row, u2_ne, if_pos, if_neg, if_true, if_false, eq_self, stN]
    rw [g]
    rfl
  · subst q
    obtain ⟨rn, g1, g2, g3⟩ := hR.1 rfl
    have e21 : hwI o I h wt (o + 21) r = nI rn := by rw [hw_row (by omega)]; exact g1
    by_cases q : k < rn
    · rw [if_pos q] at g3
      have e22 : hwI o I h wt (o + 22) (5 * r + k) = nI (rw k) := by rw [hw_row (by omega)]; exact g3
      simp (disch := omega) only [L0, L1, L2, L3, L4, L5, L6, L7, L8, L9, L10, L11, L12, L13, L14, L15, L16, L17, L18, L19, L20, L21, L22, L23, L24, L25, L26, L27, L28, L29, L30, L31, L32, L33, L34, L35, L36, L37, L38, L39, L40, L48, L57, L59, L60, L62, L96, L97, L98, L99, L100, L104, L110, L119, L124, L500, L999, L1000, L2000, L3000, nI_add, pk_mul, pk_sub, nI_leI, nI_ltI, nI_eq, obs, u2_eq, u2_row, u2_ne, if_pos, if_neg, if_true, if_false, eq_self, l12_32 hM, e21, l12_33 hM, e22]
      rfl
    · rw [if_neg q] at g3
      simp (disch := omega) only [L0, L1, L2, L3, L4, L5, L6, L7, L8, L9, L10, L11, L12, L13, L14, L15, L16, L17, L18, L19, L20, L21, L22, L23, L24, L25, L26, L27, L28, L29, L30, L31, L32, L33, L34, L35, L36, L37, L38, L39, L40, L48, L57, L59, L60, L62, L96, L97, L98, L99, L100, L104, L110, L119, L124, L500, L999, L1000, L2000, L3000, nI_add, pk_mul, pk_sub, nI_leI, nI_ltI, nI_eq, obs, u2_eq, u2_row, u2_ne, if_pos, if_neg, if_true, if_false, eq_self, l12_32 hM, e21, l12_33 hM]
      simp [stN, g3]
  · subst q
    have g := m_stand68 hM (by omega : k < 6) hr h20 hv h46 h1 h2 h3 h4 b1 b2 b3 b4 b5 b6 b7 (Or.inr rfl) FU 7 0 (FU_lt (by omega)) (by omega) (by omega)
    simp (disch := omega) only [L0, L1, L2, L3, L4, L5, L6, L7, L8, L9, L10, L11, L12, L13, L14, L15, L16, L17, L18, L19, L20, L21, L22, L23, L24, L25, L26, L27, L28, L29, L30, L31, L32, L33, L34, L35, L36, L37, L38, L39, L40, L48, L57, L59, L60, L62, L96, L97, L98, L99, L100, L104, L110, L119, L124, L500, L999, L1000, L2000, L3000, nI_add, pk_mul, pk_sub, nI_leI, nI_ltI, nI_eq, obs, u2_eq, u2_row, u2_ne, if_pos, if_neg, if_true, if_false, eq_self, stN]
    rw [g]
    rfl
  · subst q
    have g1 := hR.2.1 rfl
    have e30 : hwI o I h wt (o + 30) k = nI (rw k) := by rw [hw_row (by omega)]; exact g1
    simp (disch := omega) only [L0, L1, L2, L3, L4, L5, L6, L7, L8, L9, L10, L11, L12, L13, L14, L15, L16, L17, L18, L19, L20, L21, L22, L23, L24, L25, L26, L27, L28, L29, L30, L31, L32, L33, L34, L35, L36, L37, L38, L39, L40, L48, L57, L59, L60, L62, L96, L97, L98, L99, L100, L104, L110, L119, L124, L500, L999, L1000, L2000, L3000, nI_add, pk_mul, pk_sub, nI_leI, nI_ltI, nI_eq, obs, u2_eq, u2_row, u2_ne, if_pos, if_neg, if_true, if_false, eq_self, l12_41 hM, e30]
    rfl
  · subst q
    have g := m_stand130 hM hr h20 hv h46 b5 b6 b7 (Or.inr rfl) FU 0 (FU_lt (by omega)) (by omega)
    simp (disch := omega) only [L0, L1, L2, L3, L4, L5, L6, L7, L8, L9, L10, L11, L12, L13, L14, L15, L16, L17, L18, L19, L20, L21, L22, L23, L24, L25, L26, L27, L28, L29, L30, L31, L32, L33, L34, L35, L36, L37, L38, L39, L40, L48, L57, L59, L60, L62, L96, L97, L98, L99, L100, L104, L110, L119, L124, L500, L999, L1000, L2000, L3000, nI_add, pk_mul, pk_sub, nI_leI, nI_ltI, nI_eq, obs, u2_eq, u2_row, u2_ne, if_pos, if_neg, if_true, if_false, eq_self, stN]
    rw [g, if_pos rfl]
  · subst q
    obtain ⟨hn, g1, g2, g3⟩ := hR.2.2 rfl
    have e29 : hwI o I h wt o 29 = nI hn := by rw [hw_fld (by decide) (by decide)]; exact g1
    by_cases q : k < hn
    · rw [if_pos q] at g3
      have e26 : hwI o I h wt (o + 26) k = nI (rw k) := by rw [hw_row (by omega)]; exact g3
      simp (disch := omega) only [L0, L1, L2, L3, L4, L5, L6, L7, L8, L9, L10, L11, L12, L13, L14, L15, L16, L17, L18, L19, L20, L21, L22, L23, L24, L25, L26, L27, L28, L29, L30, L31, L32, L33, L34, L35, L36, L37, L38, L39, L40, L48, L57, L59, L60, L62, L96, L97, L98, L99, L100, L104, L110, L119, L124, L500, L999, L1000, L2000, L3000, nI_add, pk_mul, pk_sub, nI_leI, nI_ltI, nI_eq, obs, u2_eq, u2_row, u2_ne, if_pos, if_neg, if_true, if_false, eq_self, e29, l12_37 hM, e26]
      rfl
    · rw [if_neg q] at g3
      simp (disch := omega) only [L0, L1, L2, L3, L4, L5, L6, L7, L8, L9, L10, L11, L12, L13, L14, L15, L16, L17, L18, L19, L20, L21, L22, L23, L24, L25, L26, L27, L28, L29, L30, L31, L32, L33, L34, L35, L36, L37, L38, L39, L40, L48, L57, L59, L60, L62, L96, L97, L98, L99, L100, L104, L110, L119, L124, L500, L999, L1000, L2000, L3000, nI_add, pk_mul, pk_sub, nI_leI, nI_ltI, nI_eq, obs, u2_eq, u2_row, u2_ne, if_pos, if_neg, if_true, if_false, eq_self, e29]
      simp [stN, g3]
end
