/-! THE REFERENCE'S TABLES: what it keeps of a waste i -/
def MW (o i N : Nat) (w c d : Nat → Nat) (I : Im) : Prop :=
  I (o + 2) i = nI N ∧ 1 ≤ N ∧ N ≤ 12 ∧ ∀ n, n < N → I (o + 3) (12 * i + n) = nI (w n) ∧ w n ≤ 5 ∧ I (o + 4) (12 * i + n) = nI (c n) ∧ c n ≤ 99 ∧ (w n = 1 → c n ≤ 9) ∧ (w n = 0 → I (o + 5) (12 * i + n) = nI (d n) ∧ d n ≤ 99)
def layS : List Nat := [14, 15, 16, 17, 18]
theorem MW.congr {o i N : Nat} {w c d : Nat → Nat} {I I' : Im} (h : MW o i N w c d I) (h2 : I' (o + 2) = I (o + 2)) (h3 : I' (o + 3) = I (o + 3)) (h4 : I' (o + 4) = I (o + 4)) (h5 : I' (o + 5) = I (o + 5)) : MW o i N w c d I' := by
  unfold MW
  rw [h2, h3, h4, h5]
  exact h
theorem MW.fm {o i N : Nat} {w c d : Nat → Nat} {I I' : Im} {S F : List Nat} (h : MW o i N w c d I) (hf : FM o S F I I') (hS : ∀ j ∈ S, 5 < j) : MW o i N w c d I' := by
  refine h.congr (hf.arr ?_ ?_) (hf.arr ?_ ?_) (hf.arr ?_ ?_) (hf.arr ?_ ?_) <;> first | omega | (intro q; have := hS _ q; omega)
section
variable {o : Nat} {K : Sh} {R : Rf}
theorem m_first {I : Im} {i : Nat} (hi : i < 5) (ht : I o 1 = nI i) : f_X12_first K I o = some (nI (12 * i)) := by
  unfold f_X12_first
  rw [ht]
  simp (disch := omega) only [L0, L1, L2, L3, L4, L5, L6, L7, L8, L9, L10, L11, L12, L13, L14, L15, L16, L17, L18, L19, L20, L21, L22, L23, L24, L25, L26, L27, L28, L29, L30, L31, L32, L33, L34, L35, L36, L37, L38, L39, L40, L48, L57, L59, L60, L62, L96, L97, L98, L99, L100, L104, L110, L119, L124, L500, L999, L1000, L2000, L3000, nI_add, pk_mul, pk_sub, nI_leI, nI_ltI, nI_eq, obs, u2_eq, u2_row, u2_ne, if_pos, if_neg, if_true, if_false, eq_self]
theorem m_behind (hM : S12 o K R) {I : Im} {i N : Nat} {w c d : Nat → Nat} (hi : i < 5) (ht : I o 1 = nI i) (hW : MW o i N w c d I) : f_X12_behind K I R o = some (nI (12 * i + N)) := by
  unfold f_X12_behind
  rw [ht]
  simp (disch := omega) only [L0, L1, L2, L3, L4, L5, L6, L7, L8, L9, L10, L11, L12, L13, L14, L15, L16, L17, L18, L19, L20, L21, L22, L23, L24, L25, L26, L27, L28, L29, L30, L31, L32, L33, L34, L35, L36, L37, L38, L39, L40, L48, L57, L59, L60, L62, L96, L97, L98, L99, L100, L104, L110, L119, L124, L500, L999, L1000, L2000, L3000, nI_add, pk_mul, pk_sub, nI_leI, nI_ltI, nI_eq, obs, u2_eq, u2_row, u2_ne, if_pos, if_neg, if_true, if_false, eq_self, l12_6 hM hi, hW.1]
theorem m_min {a b : Nat} (ha : a < 2 ^ 31) (hb : b < 2 ^ 31) : f_X12_min o (nI a) (nI b) = some (nI (min a b)) := by
  unfold f_X12_min
  by_cases h : b ≤ a
  · simp (disch := omega) only [L0, L1, L2, L3, L4, L5, L6, L7, L8, L9, L10, L11, L12, L13, L14, L15, L16, L17, L18, L19, L20, L21, L22, L23, L24, L25, L26, L27, L28, L29, L30, L31, L32, L33, L34, L35, L36, L37, L38, L39, L40, L48, L57, L59, L60, L62, L96, L97, L98, L99, L100, L104, L110, L119, L124, L500, L999, L1000, L2000, L3000, nI_add, pk_mul, pk_sub, nI_leI, nI_ltI, nI_eq, obs, u2_eq, u2_row, u2_ne, if_pos, if_neg, if_true, if_false, eq_self]
    rw [Nat.min_eq_right h]
  · simp (disch := omega) only [L0, L1, L2, L3, L4, L5, L6, L7, L8, L9, L10, L11, L12, L13, L14, L15, L16, L17, L18, L19, L20, L21, L22, L23, L24, L25, L26, L27, L28, L29, L30, L31, L32, L33, L34, L35, L36, L37, L38, L39, L40, L48, L57, L59, L60, L62, L96, L97, L98, L99, L100, L104, L110, L119, L124, L500, L999, L1000, L2000, L3000, nI_add, pk_mul, pk_sub, nI_leI, nI_ltI, nI_eq, obs, u2_eq, u2_row, u2_ne, if_pos, if_neg, if_true, if_false, eq_self]
    rw [Nat.min_eq_left (by omega)]
theorem m_lay9 (hM : S12 o K R) {P : Im → Prop} : ∀ (k j : Nat) (I : Im), 7 - j < k → j ≤ 7 → (∀ q, q < j → I (o + 16) q = nI 3) → (∀ I1, FM o layS [21] I I1 → I1 o = I o → (∀ q, q < 7 → I1 (o + 16) q = nI 3) → Ok (Option.bind (f_X12_first K I1 o) fun q => f_X12_lay_33 K R o FU (nI 0) q I1) P) → Ok (f_X12_lay_9 K R o k (nI 0) (nI j) I) P := by
  intro k
  induction k with
  | zero => intro j I h; omega
  | succ k ih =>
    intro j I hk hj hz kk
    unfold f_X12_lay_9
    by_cases h : j = 7
    · subst h
      simp (disch := omega) only [L0, L1, L2, L3, L4, L5, L6, L7, L8, L9, L10, L11, L12, L13, L14, L15, L16, L17, L18, L19, L20, L21, L22, L23, L24, L25, L26, L27, L28, L29, L30, L31, L32, L33, L34, L35, L36, L37, L38, L39, L40, L48, L57, L59, L60, L62, L96, L97, L98, L99, L100, L104, L110, L119, L124, L500, L999, L1000, L2000, L3000, nI_add, pk_mul, pk_sub, nI_leI, nI_ltI, nI_eq, obs, u2_eq, u2_row, u2_ne, if_pos, if_neg, if_true, if_false, eq_self]
      exact kk I FM.refl rfl hz
    · simp (disch := omega) only [L0, L1, L2, L3, L4, L5, L6, L7, L8, L9, L10, L11, L12, L13, L14, L15, L16, L17, L18, L19, L20, L21, L22, L23, L24, L25, L26, L27, L28, L29, L30, L31, L32, L33, L34, L35, L36, L37, L38, L39, L40, L48, L57, L59, L60, L62, L96, L97, L98, L99, L100, L104, L110, L119, L124, L500, L999, L1000, L2000, L3000, nI_add, pk_mul, pk_sub, nI_leI, nI_ltI, nI_eq, obs, u2_eq, u2_row, u2_ne, if_pos, if_neg, if_true, if_false, eq_self, s12_24 hM]
      refine ih (j + 1) _ (by omega) (by omega) (fun q hq => ?_) (fun I1 h1 h0 h2 => ?_)
      · by_cases e : q = j
        · subst e; exact u2_eq _ _ _ _
        · rw [u2_ne e]; exact hz q (by omega)
      · exact kk I1 ((FM.st FM.refl (by decide)).trans h1) (h0.trans (u2_row (by omega))) h2
theorem m_lay151 (hM : S12 o K R) {W : Nat} (hW : W ≤ 5) {P : Im → Prop} : ∀ (k j : Nat) (I : Im), W - j < k → j ≤ W → I o 21 = nI W → (∀ q, q < j → I (o + 17) q = I (o + 11) q ∧ I (o + 18) q = I (o + 12) q) → (∀ I1, FM o [17, 18] [] I I1 → (∀ q, q < W → I1 (o + 17) q = I (o + 11) q ∧ I1 (o + 18) q = I (o + 12) q) → P I1) → Ok (f_X12_lay_151 K R o k (nI j) I) P := by
  intro k
  induction k with
  | zero => intro j I h; omega
  | succ k ih =>
    intro j I hk hj h21 hz kk
    unfold f_X12_lay_151
    rw [h21]
    by_cases h : j = W
    · subst h
      simp (disch := omega) only [L0, L1, L2, L3, L4, L5, L6, L7, L8, L9, L10, L11, L12, L13, L14, L15, L16, L17, L18, L19, L20, L21, L22, L23, L24, L25, L26, L27, L28, L29, L30, L31, L32, L33, L34, L35, L36, L37, L38, L39, L40, L48, L57, L59, L60, L62, L96, L97, L98, L99, L100, L104, L110, L119, L124, L500, L999, L1000, L2000, L3000, nI_add, pk_mul, pk_sub, nI_leI, nI_ltI, nI_eq, obs, u2_eq, u2_row, u2_ne, if_pos, if_neg, if_true, if_false, eq_self]
      exact Ok.ret (kk I FM.refl hz)
    · have hf : FM o [17, 18] [] I (u2 (u2 I (o + 17) j (I (o + 11) j)) (o + 18) j (I (o + 12) j)) := FM.st (FM.st FM.refl (by decide)) (by decide)
      simp (disch := omega) only [L0, L1, L2, L3, L4, L5, L6, L7, L8, L9, L10, L11, L12, L13, L14, L15, L16, L17, L18, L19, L20, L21, L22, L23, L24, L25, L26, L27, L28, L29, L30, L31, L32, L33, L34, L35, L36, L37, L38, L39, L40, L48, L57, L59, L60, L62, L96, L97, L98, L99, L100, L104, L110, L119, L124, L500, L999, L1000, L2000, L3000, nI_add, pk_mul, pk_sub, nI_leI, nI_ltI, nI_eq, obs, u2_eq, u2_row, u2_ne, if_pos, if_neg, if_true, if_false, eq_self, s12_25 hM, l12_18 hM, l12_19 hM, s12_26 hM]
      have e11 := hf.arr (i := 11) (by decide) (by decide)
      have e12 := hf.arr (i := 12) (by decide) (by decide)
      refine ih (j + 1) _ (by omega) (by omega) ((hf.fld (by decide) (by decide)).trans h21) (fun q hq => ?_) (fun I1 h1 h2 => ?_)
      · rw [e11, e12]
        by_cases e : q = j
        · subst e
          refine ⟨?_, ?_⟩
          · rw [u2_row (by omega), u2_eq]
          · rw [u2_eq]
        · obtain ⟨z1, z2⟩ := hz q (by omega)
          refine ⟨?_, ?_⟩
          · rw [u2_row (by omega), u2_ne e]; exact z1
          · rw [u2_ne e, u2_row (by omega)]; exact z2
      · refine kk I1 (hf.trans h1) (fun q hq => ?_)
        have := h2 q hq
        rw [e11, e12] at this
        exact this
/-- what lies behind n clauses -/
def LayI (o : Nat) (w c d : Nat → Nat) (n : Nat) (I : Im) : Prop :=
  I o 21 = nI (wlN w n) ∧ (∀ q, q < wlN w n → I (o + 14) q = nI (wlV w c n q) ∧ I (o + 15) q = nI (wlV w d n q)) ∧ ∀ q, q < 7 → I (o + 16) q = nI (wyV w c n q)
theorem m_lay98 (hM : S12 o K R) {i N n : Nat} {w c d : Nat → Nat} {I : Im} {r : Int32 → Int32 → Im → Option Im} {P : Im → Prop} (hi : i < 5) (hW : MW o i N w c d I) (hn : n < N)
    (h21 : I o 21 = nI (wlN w (n + 1))) (hl : ∀ q, q < wlN w (n + 1) → I (o + 14) q = nI (wlV w c (n + 1) q) ∧ I (o + 15) q = nI (wlV w d (n + 1) q)) (hh : ∀ q, q < 7 → I (o + 16) q = nI (wyV w c n q))
    (kk : ∀ I1, FM o layS [21] I I1 → I1 o = I o → LayI o w c d (n + 1) I1 → Ok (r (nI (wyN w (n + 1))) (nI (12 * i + (n + 1))) I1) P) : Ok (f_X12_lay_98 K R o r (nI (wyN w n)) (nI (12 * i + n)) I) P := by
  have hN := hW.2.2.1
  obtain ⟨h3, h3b, h4, h4b, h4c, -⟩ := hW.2.2.2 n hn
  have hy := wyN_le w n
  unfold f_X12_lay_98
  by_cases q1 : w n = 1
  · by_cases q6 : 6 ≤ wyN w n
    · have e : wyN w (n + 1) = wyN w n := by simp only [wyN]; rw [if_neg (by omega)]
      simp (disch := omega) only [L0, L1, L2, L3, L4, L5, L6, L7, L8, L9, L10, L11, L12, L13, L14, L15, L16, L17, L18, L19, L20, L21, L22, L23, L24, L25, L26, L27, L28, L29, L30, L31, L32, L33, L34, L35, L36, L37, L38, L39, L40, L48, L57, L59, L60, L62, L96, L97, L98, L99, L100, L104, L110, L119, L124, L500, L999, L1000, L2000, L3000, nI_add, pk_mul, pk_sub, nI_leI, nI_ltI, nI_eq, obs, u2_eq, u2_row, u2_ne, if_pos, if_neg, if_true, if_false, eq_self, l12_7 hM, h3, Nat.add_assoc]
      rw [← e]
      exact kk I FM.refl rfl ⟨h21, hl, fun q hq => by rw [hh q hq]; simp only [wyV]; rw [if_neg (by omega)]⟩
    · have e : wyN w (n + 1) = wyN w n + 1 := by simp only [wyN]; rw [if_pos (by omega)]
      have go : ∀ v : Nat, max (c n) 1 = v → Ok (f_X12_lay_139 K R o r (nI (wyN w n)) (nI (12 * i + n)) (R o 24) (nI (wyN w n)) (nI v) I) P := by
        intro v hv
        unfold f_X12_lay_139
        have hf : FM o layS [21] I (u2 I (o + 16) (wyN w n) (nI v)) := FM.st FM.refl (by decide)
        simp (disch := omega) only [L0, L1, L2, L3, L4, L5, L6, L7, L8, L9, L10, L11, L12, L13, L14, L15, L16, L17, L18, L19, L20, L21, L22, L23, L24, L25, L26, L27, L28, L29, L30, L31, L32, L33, L34, L35, L36, L37, L38, L39, L40, L48, L57, L59, L60, L62, L96, L97, L98, L99, L100, L104, L110, L119, L124, L500, L999, L1000, L2000, L3000, nI_add, pk_mul, pk_sub, nI_leI, nI_ltI, nI_eq, obs, u2_eq, u2_row, u2_ne, if_pos, if_neg, if_true, if_false, eq_self, s12_24 hM, Nat.add_assoc]
        rw [← e]
        refine kk _ hf (u2_row (by omega)) ⟨?_, fun q hq => ?_, fun q hq => ?_⟩
        · rw [u2_row (by omega)]; exact h21
        · rw [u2_row (by omega), u2_row (by omega)]; exact hl q hq
        · simp only [wyV]
          by_cases e2 : q = wyN w n
          · rw [if_pos ⟨q1, by omega, e2⟩, hv, e2, u2_eq]
          · rw [if_neg (fun z => e2 z.2.2), u2_ne e2]; exact hh q hq
      by_cases q0 : 1 ≤ c n
      · simp (disch := omega) only [L0, L1, L2, L3, L4, L5, L6, L7, L8, L9, L10, L11, L12, L13, L14, L15, L16, L17, L18, L19, L20, L21, L22, L23, L24, L25, L26, L27, L28, L29, L30, L31, L32, L33, L34, L35, L36, L37, L38, L39, L40, L48, L57, L59, L60, L62, L96, L97, L98, L99, L100, L104, L110, L119, L124, L500, L999, L1000, L2000, L3000, nI_add, pk_mul, pk_sub, nI_leI, nI_ltI, nI_eq, obs, u2_eq, u2_row, u2_ne, if_pos, if_neg, if_true, if_false, eq_self, l12_7 hM, l12_8 hM, h3, h4]
        exact go _ (by omega)
      · simp (disch := omega) only [L0, L1, L2, L3, L4, L5, L6, L7, L8, L9, L10, L11, L12, L13, L14, L15, L16, L17, L18, L19, L20, L21, L22, L23, L24, L25, L26, L27, L28, L29, L30, L31, L32, L33, L34, L35, L36, L37, L38, L39, L40, L48, L57, L59, L60, L62, L96, L97, L98, L99, L100, L104, L110, L119, L124, L500, L999, L1000, L2000, L3000, nI_add, pk_mul, pk_sub, nI_leI, nI_ltI, nI_eq, obs, u2_eq, u2_row, u2_ne, if_pos, if_neg, if_true, if_false, eq_self, l12_7 hM, l12_8 hM, h3, h4]
        exact go 1 (by omega)
  · have e : wyN w (n + 1) = wyN w n := by simp only [wyN]; rw [if_neg (by omega)]
    simp (disch := omega) only [L0, L1, L2, L3, L4, L5, L6, L7, L8, L9, L10, L11, L12, L13, L14, L15, L16, L17, L18, L19, L20, L21, L22, L23, L24, L25, L26, L27, L28, L29, L30, L31, L32, L33, L34, L35, L36, L37, L38, L39, L40, L48, L57, L59, L60, L62, L96, L97, L98, L99, L100, L104, L110, L119, L124, L500, L999, L1000, L2000, L3000, nI_add, pk_mul, pk_sub, nI_leI, nI_ltI, nI_eq, obs, u2_eq, u2_row, u2_ne, if_pos, if_neg, if_true, if_false, eq_self, l12_7 hM, h3, Nat.add_assoc]
    rw [← e]
    exact kk I FM.refl rfl ⟨h21, hl, fun q hq => by rw [hh q hq]; simp only [wyV]; rw [if_neg (by omega)]⟩
theorem m_lay33 (hM : S12 o K R) {i N : Nat} {w c d : Nat → Nat} {P : Im → Prop} (hi : i < 5) : ∀ (k n : Nat) (I : Im), N - n < k → n ≤ N → MW o i N w c d I → I o 1 = nI i → LayI o w c d n I → (∀ I1, FM o layS [21] I I1 → LayI o w c d N I1 → (∀ q, q < wlN w N → I1 (o + 17) q = I (o + 11) q ∧ I1 (o + 18) q = I (o + 12) q) → P I1) → Ok (f_X12_lay_33 K R o k (nI (wyN w n)) (nI (12 * i + n)) I) P := by
  intro k
  induction k with
  | zero => intro n I h; omega
  | succ k ih =>
    intro n I hk hn hW ht hL kk
    have hN := hW.2.2.1
    have hl5 := wlN_le w n
    unfold f_X12_lay_33
    rw [m_behind hM hi ht hW]
    by_cases h : n = N
    · subst h
      simp (disch := omega) only [L0, L1, L2, L3, L4, L5, L6, L7, L8, L9, L10, L11, L12, L13, L14, L15, L16, L17, L18, L19, L20, L21, L22, L23, L24, L25, L26, L27, L28, L29, L30, L31, L32, L33, L34, L35, L36, L37, L38, L39, L40, L48, L57, L59, L60, L62, L96, L97, L98, L99, L100, L104, L110, L119, L124, L500, L999, L1000, L2000, L3000, nI_add, pk_mul, pk_sub, nI_leI, nI_ltI, nI_eq, obs, u2_eq, u2_row, u2_ne, if_pos, if_neg, if_true, if_false, eq_self]
      refine m_lay151 hM (wlN_le w n) FU 0 I (FU_lt (by omega)) (by omega) hL.1 (fun q hq => by omega) (fun I1 h1 h2 => ?_)
      refine kk I1 (h1.mono (by decide) (by decide)) ⟨(h1.fld (by decide) (by decide)).trans hL.1, fun q hq => ?_, fun q hq => ?_⟩ h2
      · rw [h1.arr (by decide) (by decide), h1.arr (by decide) (by decide)]; exact hL.2.1 q hq
      · rw [h1.arr (by decide) (by decide)]; exact hL.2.2 q hq
    · obtain ⟨h3, h3b, h4, h4b, h4c, h5⟩ := hW.2.2.2 n (by omega)
      have nx : ∀ I1, FM o layS [21] I I1 → I1 o 1 = I o 1 → LayI o w c d (n + 1) I1 → Ok (f_X12_lay_33 K R o k (nI (wyN w (n + 1))) (nI (12 * i + (n + 1))) I1) P := by
        intro I1 h1 h0 h2
        refine ih (n + 1) I1 (by omega) (by omega) (hW.fm h1 (by decide)) (h0.trans ht) h2 (fun I2 g1 g2 g3 => kk I2 (h1.trans g1) g2 (fun q hq => ?_))
        rw [← h1.arr (i := 11) (by decide) (by decide), ← h1.arr (i := 12) (by decide) (by decide)]
        exact g3 q hq
      by_cases q0 : w n = 0
      · obtain ⟨h5, h5b⟩ := h5 q0
        by_cases q5 : 5 ≤ wlN w n
        · have e : wlN w (n + 1) = wlN w n := by simp only [wlN]; rw [if_neg (by omega)]
          simp (disch := omega) only [L0, L1, L2, L3, L4, L5, L6, L7, L8, L9, L10, L11, L12, L13, L14, L15, L16, L17, L18, L19, L20, L21, L22, L23, L24, L25, L26, L27, L28, L29, L30, L31, L32, L33, L34, L35, L36, L37, L38, L39, L40, L48, L57, L59, L60, L62, L96, L97, L98, L99, L100, L104, L110, L119, L124, L500, L999, L1000, L2000, L3000, nI_add, pk_mul, pk_sub, nI_leI, nI_ltI, nI_eq, obs, u2_eq, u2_row, u2_ne, if_pos, if_neg, if_true, if_false, eq_self, l12_7 hM, h3, hL.1]
          refine m_lay98 hM hi hW (by omega) (by rw [e]; exact hL.1) (fun q hq => ?_) hL.2.2 (fun I1 h1 h0 h2 => nx I1 h1 (by rw [h0]) h2)
          have := hL.2.1 q (by omega)
          simp only [wlV]
          rw [if_neg (by omega), if_neg (by omega)]
          exact this
        · have e : wlN w (n + 1) = wlN w n + 1 := by simp only [wlN]; rw [if_pos (by omega)]
          have hf : FM o layS [21] I (u2 (u2 (u2 I (o + 14) (wlN w n) (nI (c n))) (o + 15) (wlN w n) (nI (d n))) o 21 (nI (wlN w n + 1))) := FM.pf (FM.st (FM.st FM.refl (by decide)) (by decide)) (by decide)
          simp (disch := omega) only [L0, L1, L2, L3, L4, L5, L6, L7, L8, L9, L10, L11, L12, L13, L14, L15, L16, L17, L18, L19, L20, L21, L22, L23, L24, L25, L26, L27, L28, L29, L30, L31, L32, L33, L34, L35, L36, L37, L38, L39, L40, L48, L57, L59, L60, L62, L96, L97, L98, L99, L100, L104, L110, L119, L124, L500, L999, L1000, L2000, L3000, nI_add, pk_mul, pk_sub, nI_leI, nI_ltI, nI_eq, obs, u2_eq, u2_row, u2_ne, if_pos, if_neg, if_true, if_false, eq_self, l12_7 hM, h3, hL.1, l12_8 hM, h4, s12_22 hM, l12_9 hM, h5, s12_23 hM]
          refine m_lay98 hM hi (hW.fm hf (by decide)) (by omega) (by rw [e]; simp (disch := omega) only [L0, L1, L2, L3, L4, L5, L6, L7, L8, L9, L10, L11, L12, L13, L14, L15, L16, L17, L18, L19, L20, L21, L22, L23, L24, L25, L26, L27, L28, L29, L30, L31, L32, L33, L34, L35, L36, L37, L38, L39, L40, L48, L57, L59, L60, L62, L96, L97, L98, L99, L100, L104, L110, L119, L124, L500, L999, L1000, L2000, L3000, nI_add, pk_mul, pk_sub, nI_leI, nI_ltI, nI_eq, obs, u2_eq, u2_row, u2_ne]) (fun q hq => ?_) (fun q hq => ?_) (fun I1 h1 h0 h2 => nx I1 (hf.trans h1) (by rw [h0]; simp (disch := omega) only [L0, L1, L2, L3, L4, L5, L6, L7, L8, L9, L10, L11, L12, L13, L14, L15, L16, L17, L18, L19, L20, L21, L22, L23, L24, L25, L26, L27, L28, L29, L30, L31, L32, L33, L34, L35, L36, L37, L38, L39, L40, L48, L57, L59, L60, L62, L96, L97, L98, L99, L100, L104, L110, L119, L124, L500, L999, L1000, L2000, L3000, nI_add, pk_mul, pk_sub, nI_leI, nI_ltI, nI_eq, obs, u2_eq, u2_row, u2_ne]) h2)
          · simp only [wlV]
            by_cases e2 : q = wlN w n
            · subst e2
              rw [if_pos ⟨q0, by omega, rfl⟩, if_pos ⟨q0, by omega, rfl⟩]
              simp (disch := omega) only [L0, L1, L2, L3, L4, L5, L6, L7, L8, L9, L10, L11, L12, L13, L14, L15, L16, L17, L18, L19, L20, L21, L22, L23, L24, L25, L26, L27, L28, L29, L30, L31, L32, L33, L34, L35, L36, L37, L38, L39, L40, L48, L57, L59, L60, L62, L96, L97, L98, L99, L100, L104, L110, L119, L124, L500, L999, L1000, L2000, L3000, nI_add, pk_mul, pk_sub, nI_leI, nI_ltI, nI_eq, obs, u2_eq, u2_row, u2_ne]
              exact ⟨trivial, trivial⟩
            · have := hL.2.1 q (by omega)
              simp (disch := omega) only [L0, L1, L2, L3, L4, L5, L6, L7, L8, L9, L10, L11, L12, L13, L14, L15, L16, L17, L18, L19, L20, L21, L22, L23, L24, L25, L26, L27, L28, L29, L30, L31, L32, L33, L34, L35, L36, L37, L38, L39, L40, L48, L57, L59, L60, L62, L96, L97, L98, L99, L100, L104, L110, L119, L124, L500, L999, L1000, L2000, L3000, nI_add, pk_mul, pk_sub, nI_leI, nI_ltI, nI_eq, obs, u2_eq, u2_row, u2_ne, if_pos, if_neg, if_true, if_false, eq_self]
              exact this
          · simp (disch := omega) only [L0, L1, L2, L3, L4, L5, L6, L7, L8, L9, L10, L11, L12, L13, L14, L15, L16, L17, L18, L19, L20, L21, L22, L23, L24, L25, L26, L27, L28, L29, L30, L31, L32, L33, L34, L35, L36, L37, L38, L39, L40, L48, L57, L59, L60, L62, L96, L97, L98, L99, L100, L104, L110, L119, L124, L500, L999, L1000, L2000, L3000, nI_add, pk_mul, pk_sub, nI_leI, nI_ltI, nI_eq, obs, u2_eq, u2_row, u2_ne]
            exact hL.2.2 q hq
      · have e : wlN w (n + 1) = wlN w n := by simp only [wlN]; rw [if_neg (by omega)]
        simp (disch := omega) only [L0, L1, L2, L3, L4, L5, L6, L7, L8, L9, L10, L11, L12, L13, L14, L15, L16, L17, L18, L19, L20, L21, L22, L23, L24, L25, L26, L27, L28, L29, L30, L31, L32, L33, L34, L35, L36, L37, L38, L39, L40, L48, L57, L59, L60, L62, L96, L97, L98, L99, L100, L104, L110, L119, L124, L500, L999, L1000, L2000, L3000, nI_add, pk_mul, pk_sub, nI_leI, nI_ltI, nI_eq, obs, u2_eq, u2_row, u2_ne, if_pos, if_neg, if_true, if_false, eq_self, l12_7 hM, h3, hL.1]
        refine m_lay98 hM hi hW (by omega) (by rw [e]; exact hL.1) (fun q hq => ?_) hL.2.2 (fun I1 h1 h0 h2 => nx I1 h1 (by rw [h0]) h2)
        have := hL.2.1 q (by omega)
        simp only [wlV]
        rw [if_neg (by omega), if_neg (by omega)]
        exact this
theorem m_lay0 (hM : S12 o K R) {i N : Nat} {w c d : Nat → Nat} {P : Im → Prop} {I I1 : Im} (hi : i < 5) (hW : MW o i N w c d I) (g1 : FM o layS [21] I I1) (t1 : I1 o 1 = nI i) (h0 : I1 o 21 = nI 0) (h2 : ∀ q, q < 7 → I1 (o + 16) q = nI 3) (kk : ∀ I1, FM o layS [21] I I1 → LayI o w c d N I1 → (∀ q, q < wlN w N → I1 (o + 17) q = I (o + 11) q ∧ I1 (o + 18) q = I (o + 12) q) → P I1) : Ok (f_X12_lay_33 K R o FU (nI 0) (nI (12 * i)) I1) P := by
  have e : f_X12_lay_33 K R o FU (nI 0) (nI (12 * i)) I1 = f_X12_lay_33 K R o FU (nI (wyN w 0)) (nI (12 * i + 0)) I1 := by simp only [wyN, Nat.add_zero]
  rw [e]
  refine m_lay33 hM hi FU 0 I1 (FU_lt (by have := hW.2.2.1; omega)) (by omega) (hW.fm g1 (by decide)) t1 ⟨by simp only [wlN]; exact h0, fun q hq => by simp [wlN] at hq, h2⟩ (fun I2 k1 k2 k3 => ?_)
  refine kk I2 (g1.trans k1) k2 (fun q hq => ?_)
  rw [← g1.arr (i := 11) (by decide) (by decide), ← g1.arr (i := 12) (by decide) (by decide)]
  exact k3 q hq
theorem m_lay (hM : S12 o K R) {i N : Nat} {w c d : Nat → Nat} {P : Im → Prop} {I : Im} (hi : i < 5) (hW : MW o i N w c d I) (ht : I o 1 = nI i) (kk : ∀ I1, FM o layS [21] I I1 → LayI o w c d N I1 → (∀ q, q < wlN w N → I1 (o + 17) q = I (o + 11) q ∧ I1 (o + 18) q = I (o + 12) q) → P I1) : Ok (f_X12_lay K R o I) P := by
  have hf : FM o layS [21] I (u2 I o 21 (nI 0)) := FM.pf FM.refl (by decide)
  have e : f_X12_lay K R o I = f_X12_lay_9 K R o FU (nI 0) (nI 0) (u2 I o 21 (nI 0)) := by
    unfold f_X12_lay
    simp (disch := omega) only [L0, L1, L2, L3, L4, L5, L6, L7, L8, L9, L10, L11, L12, L13, L14, L15, L16, L17, L18, L19, L20, L21, L22, L23, L24, L25, L26, L27, L28, L29, L30, L31, L32, L33, L34, L35, L36, L37, L38, L39, L40, L48, L57, L59, L60, L62, L96, L97, L98, L99, L100, L104, L110, L119, L124, L500, L999, L1000, L2000, L3000, nI_add, pk_mul, pk_sub, nI_leI, nI_ltI, nI_eq, obs, u2_eq, u2_row, u2_ne]
  rw [e]
  refine m_lay9 hM FU 0 _ (FU_lt (by omega)) (by omega) (fun q hq => by omega) (fun I1 h1 h0 h2 => ?_)
  have g1 := hf.trans h1
  have t1 : I1 o 1 = nI i := by rw [h0]; simp (disch := omega) only [L0, L1, L2, L3, L4, L5, L6, L7, L8, L9, L10, L11, L12, L13, L14, L15, L16, L17, L18, L19, L20, L21, L22, L23, L24, L25, L26, L27, L28, L29, L30, L31, L32, L33, L34, L35, L36, L37, L38, L39, L40, L48, L57, L59, L60, L62, L96, L97, L98, L99, L100, L104, L110, L119, L124, L500, L999, L1000, L2000, L3000, nI_add, pk_mul, pk_sub, nI_leI, nI_ltI, nI_eq, obs, u2_eq, u2_row, u2_ne]; exact ht
  rw [m_first hi t1, obs]
  exact m_lay0 hM hi hW g1 t1 (by rw [h0]; simp (disch := omega) only [L0, L1, L2, L3, L4, L5, L6, L7, L8, L9, L10, L11, L12, L13, L14, L15, L16, L17, L18, L19, L20, L21, L22, L23, L24, L25, L26, L27, L28, L29, L30, L31, L32, L33, L34, L35, L36, L37, L38, L39, L40, L48, L57, L59, L60, L62, L96, L97, L98, L99, L100, L104, L110, L119, L124, L500, L999, L1000, L2000, L3000, nI_add, pk_mul, pk_sub, nI_leI, nI_ltI, nI_eq, obs, u2_eq, u2_row, u2_ne]) h2 kk
end
