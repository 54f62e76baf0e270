/-- the first place from i on, n places ahead, that can be -/
def scN (m : Nat → Option Nat) (F : Nat) : Nat → Nat → Option Nat
  | 0, _ => none
  | n + 1, i => match m i with
    | some _ => some (F + i)
    | none => scN m F n (i + 1)
theorem scN_spec {m : Nat → Option Nat} {F : Nat} : ∀ n i, match scN m F n i with
    | some t => ∃ i' w, i ≤ i' ∧ i' < i + n ∧ m i' = some w ∧ t = F + i' ∧ ∀ j, i ≤ j → j < i' → m j = none
    | none => ∀ j, i ≤ j → j < i + n → m j = none := by
  intro n
  induction n with
  | zero => intro i j h1 h2; omega
  | succ n ih =>
    intro i
    simp only [scN]
    cases q : m i with
    | some w => exact ⟨i, w, by omega, by omega, q, rfl, fun j h1 h2 => by omega⟩
    | none =>
      have h := ih (i + 1)
      show match scN m F n (i + 1) with
        | some t => _
        | none => _
      cases q2 : scN m F n (i + 1) with
      | some t =>
        rw [q2] at h
        obtain ⟨i', w, h1, h2, h3, h4, h5⟩ := h
        refine ⟨i', w, by omega, by omega, h3, h4, fun j h6 h7 => ?_⟩
        by_cases c : j = i
        · subst c; exact q
        · exact h5 j (by omega) h7
      | none =>
        rw [q2] at h
        intro j h6 h7
        by_cases c : j = i
        · subst c; exact q
        · exact h j (by omega) (by omega)
def FWO (e : PE) (W h0 : Nat) (ow : Option Nat) (k F : Nat) (m : Nat → Option Nat) : Prop := match ow with
  | some w0 => FW e W h0 w0 k F m
  | none => ∀ i, m i = none
def iniW (e : PE) (start : Nat) : Option Nat := if e.co 0 start ≤ e.rm then some (e.rm - e.co 0 start) else none
theorem FWO_end {e : PE} {W start F : Nat} {m : Nat → Option Nat} (h : FWO e W (start + e.hr 0) (iniW e start) W F m) (hm : ∀ i w, m i = some w → i ≤ 6 * W) (hW : W ≤ 5) : bsT e W start (scN m F 31 0) := by
  unfold bsT
  unfold iniW at h
  have sp := scN_spec (m := m) (F := F) 31 0
  by_cases c : e.co 0 start ≤ e.rm
  · rw [if_pos c] at h
    rw [if_neg (by omega)]
    have he := FW_end h
    unfold MinCB
    cases q : scN m F 31 0 with
    | none =>
      rw [q] at sp
      intro t ht
      obtain ⟨i, w, h1, h2, h3⟩ := (he t).mp ht
      rw [sp i (by omega) (by omega)] at h2
      cases h2
    | some t =>
      rw [q] at sp
      obtain ⟨i, w, h1, h2, h3, h4, h5⟩ := sp
      refine ⟨(he t).mpr ⟨i, w, hm i w h3, h3, h4.symm⟩, fun t' ht => ?_⟩
      obtain ⟨j, w', g1, g2, g3⟩ := (he t').mp ht
      by_cases c2 : j < i
      · rw [h5 j (by omega) c2] at g2
        cases g2
      · omega
  · rw [if_neg c] at h
    rw [if_pos (by omega)]
    cases q : scN m F 31 0 with
    | none => rfl
    | some t =>
      rw [q] at sp
      obtain ⟨i, w, h1, h2, h3, h4, h5⟩ := sp
      rw [h i] at h3
      cases h3
section
variable {p q u b start sdw cy W M : Nat} {K : Sh} {R : Rf} {hr fu gi le la : Nat → Nat} {d1 : Nat → Nat → Nat → Nat}
theorem c_spread {k i : Nat} {m m' : Nat → Option Nat} {P : Im → Prop} {I : Im} (hk : k < W) (hi : i ≤ 6 * k) (hmb : ∀ j x, m j = some x → x ≤ b * cy) (hL : PLs p q u b start sdw cy W M K I R hr fu gi le la d1) (hRk : RowC p k m I) (hR : RowC p (k + 1) m' I) (hb : SPb (peC la hr fu gi le d1 b sdw cy) k (FN la hr start k) (DD i 0) m m') (hc : SPc (peC la hr fu gi le d1 b sdw cy) k (FN la hr start k) (DD i 0) m m')
    (kk : ∀ I1 m1, OnlyM p (k + 1) I I1 → RowC p (k + 1) m1 I1 → SPb (peC la hr fu gi le d1 b sdw cy) k (FN la hr start k) (DD (i + 1) 0) m m1 → SPc (peC la hr fu gi le d1 b sdw cy) k (FN la hr start k) (DD (i + 1) 0) m m1 → P I1) :
    Ok (f_X3_spread K R p (nI k) (nI i) I) P := by
  have hW5 : W ≤ 5 := hL.1.2.2.2.2.1.2.2.1
  have hS3 := hL.1.1
  have hrow := hRk i (by omega)
  unfold f_X3_spread
  cases q : m i with
  | some w =>
    have g := c_spread15 (P := P) hk hi q (hmb i w q) hmb 7 0 FU I m' rfl (FU_lt (by omega)) hL hR hb hc kk
    rw [q] at hrow
    have hrow : I (p + 3) (k * 31 + i) = nI w := hrow
    (repeat (first | ((with_reducible apply Ok.st); (focus (first | (simp (disch := omega) only [L0, L1, L2, L3, L4, L5, L6, L7, L8, L9, L10, L11, L12, L13, L14, L15, L16, L17, L18, L19, L20, L21, L22, L23, L24, L25, L26, L27, L28, L29, L30, L31, L32, L33, L34, L35, L36, L37, L38, L39, L40, L48, L57, L59, L60, L62, L96, L97, L98, L99, L100, L104, L110, L119, L124, L500, L999, L1000, L2000, L3000, nI_add, pk_mul, pk_sub, nI_leI, nI_ltI, nI_eq, obs, u2_eq, u2_row, u2_ne, if_pos, if_neg, if_true, if_false, eq_self, ne_eq, not_true_eq_false, not_false_eq_true, l3_2 hS3, hrow]; with_reducible exact rfl) | (with_reducible exact rfl)))) | ((with_reducible apply Ok.itT); (focus (simp (disch := omega) only [L0, L1, L2, L3, L4, L5, L6, L7, L8, L9, L10, L11, L12, L13, L14, L15, L16, L17, L18, L19, L20, L21, L22, L23, L24, L25, L26, L27, L28, L29, L30, L31, L32, L33, L34, L35, L36, L37, L38, L39, L40, L48, L57, L59, L60, L62, L96, L97, L98, L99, L100, L104, L110, L119, L124, L500, L999, L1000, L2000, L3000, nI_add, pk_mul, pk_sub, nI_leI, nI_ltI, nI_eq, obs, u2_eq, u2_row, u2_ne, if_pos, if_neg, if_true, if_false, eq_self, ne_eq, not_true_eq_false, not_false_eq_true, l3_2 hS3, hrow] <;> omega))) | ((with_reducible apply Ok.itF); (focus (simp (disch := omega) only [L0, L1, L2, L3, L4, L5, L6, L7, L8, L9, L10, L11, L12, L13, L14, L15, L16, L17, L18, L19, L20, L21, L22, L23, L24, L25, L26, L27, L28, L29, L30, L31, L32, L33, L34, L35, L36, L37, L38, L39, L40, L48, L57, L59, L60, L62, L96, L97, L98, L99, L100, L104, L110, L119, L124, L500, L999, L1000, L2000, L3000, nI_add, pk_mul, pk_sub, nI_leI, nI_ltI, nI_eq, obs, u2_eq, u2_row, u2_ne, if_pos, if_neg, if_true, if_false, eq_self, ne_eq, not_true_eq_false, not_false_eq_true, l3_2 hS3, hrow] <;> omega)))))
    simp only [L0]
    exact g
  | none =>
    obtain ⟨h1, h2⟩ := SP_skip (D' := DD (i + 1) 0) hb hc (fun a c h => by unfold DD at h ⊢; omega) (fun a c h => by
      by_cases c1 : a = i
      · subst c1; exact Or.inr (fun w hw => by rw [q] at hw; cases hw)
      · refine Or.inl ?_
        unfold DD at h ⊢; omega)
    have g := kk I m' OnlyM.refl hR h1 h2
    rw [q] at hrow
    have hrow : I (p + 3) (k * 31 + i) = -1 := hrow
    obtain ⟨f, hf⟩ : ∃ f, FU = f + 1 := ⟨999999999, rfl⟩
    have e1 : nI k * 31 + nI i = nI (k * 31 + i) := by simp (disch := omega) only [L0, L1, L2, L3, L4, L5, L6, L7, L8, L9, L10, L11, L12, L13, L14, L15, L16, L17, L18, L19, L20, L21, L22, L23, L24, L25, L26, L27, L28, L29, L30, L31, L32, L33, L34, L35, L36, L37, L38, L39, L40, L48, L57, L59, L60, L62, L96, L97, L98, L99, L100, L104, L110, L119, L124, L500, L999, L1000, L2000, L3000, nI_add, pk_mul, pk_sub, nI_leI, nI_ltI, nI_eq, obs, u2_eq, u2_row, u2_ne]
    rw [e1, l3_2 hS3 (by omega), obs, hrow, hf]
    unfold f_X3_spread_15
    rw [if_neg (by decide), if_pos (by decide)]
    exact Ok.ret g
theorem c_e76 {k : Nat} {m : Nat → Option Nat} {r61 : Int32 → Im → Rf → Option (Int32 × Im × Rf)} {P : Int32 × Im × Rf → Prop} (hk : k < W) (hmb : ∀ j x, m j = some x → x ≤ b * cy) : ∀ (n i f : Nat) (I : Im) (m' : Nat → Option Nat), i + n = 6 * k + 1 → n < f → PLs p q u b start sdw cy W M K I R hr fu gi le la d1 → RowC p k m I → RowC p (k + 1) m' I → SPb (peC la hr fu gi le d1 b sdw cy) k (FN la hr start k) (DD i 0) m m' → SPc (peC la hr fu gi le d1 b sdw cy) k (FN la hr start k) (DD i 0) m m' →
    (∀ I1 m1, OnlyM p (k + 1) I I1 → RowC p (k + 1) m1 I1 → SPb (peC la hr fu gi le d1 b sdw cy) k (FN la hr start k) (fun i s => i ≤ 6 * k ∧ s ≤ 6) m m1 → SPc (peC la hr fu gi le d1 b sdw cy) k (FN la hr start k) (fun i s => i ≤ 6 * k ∧ s ≤ 6) m m1 → Ok (r61 (nI (k + 1)) I1 R) P) →
    Ok (f_X3_earliest_76 K p r61 f (nI k) (nI i) I R) P := by
  intro n
  induction n with
  | zero =>
    intro i f I m' hs hf hL hRk hR hb hc kk
    obtain ⟨f, rfl⟩ : ∃ f', f = f' + 1 := ⟨f - 1, by omega⟩
    have hW5 : W ≤ 5 := hL.1.2.2.2.2.1.2.2.1
    obtain ⟨h1, h2⟩ := SP_skip (D' := fun i s => i ≤ 6 * k ∧ s ≤ 6) hb hc (fun a c h => by unfold DD at h; omega) (fun a c h => Or.inl (by unfold DD; omega))
    have g := kk I m' OnlyM.refl hR h1 h2
    unfold f_X3_earliest_76
    (repeat (first | ((with_reducible apply Ok.st); (focus (first | (simp (disch := omega) only [L0, L1, L2, L3, L4, L5, L6, L7, L8, L9, L10, L11, L12, L13, L14, L15, L16, L17, L18, L19, L20, L21, L22, L23, L24, L25, L26, L27, L28, L29, L30, L31, L32, L33, L34, L35, L36, L37, L38, L39, L40, L48, L57, L59, L60, L62, L96, L97, L98, L99, L100, L104, L110, L119, L124, L500, L999, L1000, L2000, L3000, nI_add, pk_mul, pk_sub, nI_leI, nI_ltI, nI_eq, obs, u2_eq, u2_row, u2_ne, if_pos, if_neg, if_true, if_false, eq_self, ne_eq, not_true_eq_false, not_false_eq_true]; with_reducible exact rfl) | (with_reducible exact rfl)))) | ((with_reducible apply Ok.itT); (focus (simp (disch := omega) only [L0, L1, L2, L3, L4, L5, L6, L7, L8, L9, L10, L11, L12, L13, L14, L15, L16, L17, L18, L19, L20, L21, L22, L23, L24, L25, L26, L27, L28, L29, L30, L31, L32, L33, L34, L35, L36, L37, L38, L39, L40, L48, L57, L59, L60, L62, L96, L97, L98, L99, L100, L104, L110, L119, L124, L500, L999, L1000, L2000, L3000, nI_add, pk_mul, pk_sub, nI_leI, nI_ltI, nI_eq, obs, u2_eq, u2_row, u2_ne, if_pos, if_neg, if_true, if_false, eq_self, ne_eq, not_true_eq_false, not_false_eq_true] <;> omega))) | ((with_reducible apply Ok.itF); (focus (simp (disch := omega) only [L0, L1, L2, L3, L4, L5, L6, L7, L8, L9, L10, L11, L12, L13, L14, L15, L16, L17, L18, L19, L20, L21, L22, L23, L24, L25, L26, L27, L28, L29, L30, L31, L32, L33, L34, L35, L36, L37, L38, L39, L40, L48, L57, L59, L60, L62, L96, L97, L98, L99, L100, L104, L110, L119, L124, L500, L999, L1000, L2000, L3000, nI_add, pk_mul, pk_sub, nI_leI, nI_ltI, nI_eq, obs, u2_eq, u2_row, u2_ne, if_pos, if_neg, if_true, if_false, eq_self, ne_eq, not_true_eq_false, not_false_eq_true] <;> omega)))))
    simp only [L1, nI_add]
    exact g
  | succ n ih =>
    intro i f I m' hs hf hL hRk hR hb hc kk
    obtain ⟨f, rfl⟩ : ∃ f', f = f' + 1 := ⟨f - 1, by omega⟩
    have hW5 : W ≤ 5 := hL.1.2.2.2.2.1.2.2.1
    unfold f_X3_earliest_76
    (repeat (first | ((with_reducible apply Ok.st); (focus (first | (simp (disch := omega) only [L0, L1, L2, L3, L4, L5, L6, L7, L8, L9, L10, L11, L12, L13, L14, L15, L16, L17, L18, L19, L20, L21, L22, L23, L24, L25, L26, L27, L28, L29, L30, L31, L32, L33, L34, L35, L36, L37, L38, L39, L40, L48, L57, L59, L60, L62, L96, L97, L98, L99, L100, L104, L110, L119, L124, L500, L999, L1000, L2000, L3000, nI_add, pk_mul, pk_sub, nI_leI, nI_ltI, nI_eq, obs, u2_eq, u2_row, u2_ne, if_pos, if_neg, if_true, if_false, eq_self, ne_eq, not_true_eq_false, not_false_eq_true]; with_reducible exact rfl) | (with_reducible exact rfl)))) | ((with_reducible apply Ok.itT); (focus (simp (disch := omega) only [L0, L1, L2, L3, L4, L5, L6, L7, L8, L9, L10, L11, L12, L13, L14, L15, L16, L17, L18, L19, L20, L21, L22, L23, L24, L25, L26, L27, L28, L29, L30, L31, L32, L33, L34, L35, L36, L37, L38, L39, L40, L48, L57, L59, L60, L62, L96, L97, L98, L99, L100, L104, L110, L119, L124, L500, L999, L1000, L2000, L3000, nI_add, pk_mul, pk_sub, nI_leI, nI_ltI, nI_eq, obs, u2_eq, u2_row, u2_ne, if_pos, if_neg, if_true, if_false, eq_self, ne_eq, not_true_eq_false, not_false_eq_true] <;> omega))) | ((with_reducible apply Ok.itF); (focus (simp (disch := omega) only [L0, L1, L2, L3, L4, L5, L6, L7, L8, L9, L10, L11, L12, L13, L14, L15, L16, L17, L18, L19, L20, L21, L22, L23, L24, L25, L26, L27, L28, L29, L30, L31, L32, L33, L34, L35, L36, L37, L38, L39, L40, L48, L57, L59, L60, L62, L96, L97, L98, L99, L100, L104, L110, L119, L124, L500, L999, L1000, L2000, L3000, nI_add, pk_mul, pk_sub, nI_leI, nI_ltI, nI_eq, obs, u2_eq, u2_row, u2_ne, if_pos, if_neg, if_true, if_false, eq_self, ne_eq, not_true_eq_false, not_false_eq_true] <;> omega)))))
    refine Ok.bind (c_spread (P := fun I1 => ∃ m1, OnlyM p (k + 1) I I1 ∧ RowC p (k + 1) m1 I1 ∧ SPb (peC la hr fu gi le d1 b sdw cy) k (FN la hr start k) (DD (i + 1) 0) m m1 ∧ SPc (peC la hr fu gi le d1 b sdw cy) k (FN la hr start k) (DD (i + 1) 0) m m1) hk (by omega) hmb hL hRk hR hb hc (fun I1 m1 g1 g2 g3 g4 => ⟨m1, g1, g2, g3, g4⟩)) (fun I1 hI1 => ?_)
    obtain ⟨m1, g1, g2, g3, g4⟩ := hI1
    simp only [L1, nI_add]
    exact ih (i + 1) f I1 m1 (by omega) (by omega) (hL.om g1) (fun j hj => by rw [g1.2 _ (by omega)]; exact hRk j hj) g2 g3 g4 (fun I2 m2 k1 k2 k3 k4 => kk I2 m2 (g1.trans k1) k2 k3 k4)
theorem c_e116 {m : Nat → Option Nat} {P : Int32 × Im × Rf → Prop} : ∀ (n f : Nat) (I : Im), n ≤ 31 → n < f → PLs p q u b start sdw cy W M K I R hr fu gi le la d1 → RowC p W m I → (∀ j w, m j = some w → w ≤ 1000000) → I p 9 = oI (scN m (FN la hr start W) (31 - n) n) →
    (∀ I1, (∀ z, z ≠ p → I1 z = I z) → (∀ j, j ≠ 9 → I1 p j = I p j) → I1 p 9 = oI (scN m (FN la hr start W) 31 0) → P (I1 p 9, I1, R)) →
    Ok (f_X3_earliest_116 K p f (nI n - nI 1) I R) P := by
  intro n
  induction n with
  | zero =>
    intro f I hn hf hL hR hmb h9 kk
    obtain ⟨f, rfl⟩ : ∃ f', f = f' + 1 := ⟨f - 1, by omega⟩
    unfold f_X3_earliest_116
    rw [if_pos (by decide)]
    exact Ok.ret (kk I (fun _ _ => rfl) (fun _ _ => rfl) h9)
  | succ n ih =>
    intro f I hn hf hL hR hmb h9 kk
    obtain ⟨f, rfl⟩ : ∃ f', f = f' + 1 := ⟨f - 1, by omega⟩
    have hb := FN_b hL.1 W (Nat.le_refl _)
    have hM := hL.1.2.2.2.2.2.2.2.2.2.2.2.1
    have hW5 : W ≤ 5 := hL.1.2.2.2.2.1.2.2.1
    have hS3 := hL.1.1
    have o1 : ob K 10 (R p 4) = some q := by rw [hL.1.2.1]; exact ob9 hL.1.2.2.2.2.1.1
    have q0 : I q 0 = nI W := hL.1.2.2.2.2.1.2.1
    have hrow := hR n (by omega)
    have hF := hL.2 W (Nat.le_refl _)
    rw [pk_sub (by omega), Nat.add_sub_cancel]
    unfold f_X3_earliest_116
    have e31 : 31 - n = (31 - (n + 1)) + 1 := by omega
    cases qm : m n with
    | some w =>
      rw [qm] at hrow
      have hrow : I (p + 3) (W * 31 + n) = nI w := hrow
      have bw := hmb n w qm
      have hp9 : u2 I p 9 (nI (FN la hr start W + n)) p 9 = oI (scN m (FN la hr start W) (31 - n) n) := by
        rw [e31, u2_eq]
        simp only [scN]
        rw [qm]
        rfl
      have g := ih f (u2 I p 9 (nI (FN la hr start W + n))) (by omega) (by omega) (hL.congr (fun z z1 _ _ _ => u2_row z1) (u2_ne (by decide)) (u2_ne (by decide)) (u2_ne (by decide))) (fun j hj => by rw [u2_row (by omega)]; exact hR j hj) hmb hp9 (fun I1 g1 g2 g3 => kk I1 (fun z hz => by rw [g1 z hz, u2_row hz]) (fun j hj => by rw [g2 j hj, u2_ne hj]) g3)
      (repeat (first | ((with_reducible apply Ok.st); (focus (first | (simp (disch := omega) only [L0, L1, L2, L3, L4, L5, L6, L7, L8, L9, L10, L11, L12, L13, L14, L15, L16, L17, L18, L19, L20, L21, L22, L23, L24, L25, L26, L27, L28, L29, L30, L31, L32, L33, L34, L35, L36, L37, L38, L39, L40, L48, L57, L59, L60, L62, L96, L97, L98, L99, L100, L104, L110, L119, L124, L500, L999, L1000, L2000, L3000, nI_add, pk_mul, pk_sub, nI_leI, nI_ltI, nI_eq, obs, u2_eq, u2_row, u2_ne, if_pos, if_neg, if_true, if_false, eq_self, ne_eq, not_true_eq_false, not_false_eq_true, o1, q0, l3_2 hS3, hrow, l3_1 hS3, hF]; with_reducible exact rfl) | (with_reducible exact rfl)))) | ((with_reducible apply Ok.itT); (focus (simp (disch := omega) only [L0, L1, L2, L3, L4, L5, L6, L7, L8, L9, L10, L11, L12, L13, L14, L15, L16, L17, L18, L19, L20, L21, L22, L23, L24, L25, L26, L27, L28, L29, L30, L31, L32, L33, L34, L35, L36, L37, L38, L39, L40, L48, L57, L59, L60, L62, L96, L97, L98, L99, L100, L104, L110, L119, L124, L500, L999, L1000, L2000, L3000, nI_add, pk_mul, pk_sub, nI_leI, nI_ltI, nI_eq, obs, u2_eq, u2_row, u2_ne, if_pos, if_neg, if_true, if_false, eq_self, ne_eq, not_true_eq_false, not_false_eq_true, o1, q0, l3_2 hS3, hrow, l3_1 hS3, hF] <;> omega))) | ((with_reducible apply Ok.itF); (focus (simp (disch := omega) only [L0, L1, L2, L3, L4, L5, L6, L7, L8, L9, L10, L11, L12, L13, L14, L15, L16, L17, L18, L19, L20, L21, L22, L23, L24, L25, L26, L27, L28, L29, L30, L31, L32, L33, L34, L35, L36, L37, L38, L39, L40, L48, L57, L59, L60, L62, L96, L97, L98, L99, L100, L104, L110, L119, L124, L500, L999, L1000, L2000, L3000, nI_add, pk_mul, pk_sub, nI_leI, nI_ltI, nI_eq, obs, u2_eq, u2_row, u2_ne, if_pos, if_neg, if_true, if_false, eq_self, ne_eq, not_true_eq_false, not_false_eq_true, o1, q0, l3_2 hS3, hrow, l3_1 hS3, hF] <;> omega)))))
      simp only [L1]
      exact g
    | none =>
      rw [qm] at hrow
      have hrow : I (p + 3) (W * 31 + n) = -1 := hrow
      have hp9 : I p 9 = oI (scN m (FN la hr start W) (31 - n) n) := by
        rw [h9, e31]
        simp only [scN]
        rw [qm]
      have g := ih f I (by omega) (by omega) hL hR hmb hp9 kk
      have e1 : nI W * 31 + nI n = nI (W * 31 + n) := by simp (disch := omega) only [L0, L1, L2, L3, L4, L5, L6, L7, L8, L9, L10, L11, L12, L13, L14, L15, L16, L17, L18, L19, L20, L21, L22, L23, L24, L25, L26, L27, L28, L29, L30, L31, L32, L33, L34, L35, L36, L37, L38, L39, L40, L48, L57, L59, L60, L62, L96, L97, L98, L99, L100, L104, L110, L119, L124, L500, L999, L1000, L2000, L3000, nI_add, pk_mul, pk_sub, nI_leI, nI_ltI, nI_eq, obs, u2_eq, u2_row, u2_ne]
      have n0 : ¬ (nI n < 0) := by rw [L0, nI_ltI (by omega) (by omega)]; omega
      rw [if_neg n0, o1, obs, q0, e1, l3_2 hS3 (by omega), obs, hrow, if_pos (by decide), L1]
      exact g
end
