/-! what a way costs from an hour on -/
def wayD (f : Nat → Nat) (h : Nat) : Nat → Nat
  | 0 => 0
  | n + 1 => wayD f h n + f ((h + n) % 24)
theorem wayD_mono (f : Nat → Nat) (h : Nat) {a b : Nat} (q : a ≤ b) : wayD f h a ≤ wayD f h b := by
  induction b with
  | zero => have : a = 0 := by omega
            subst this; exact Nat.le_refl _
  | succ b ih =>
    by_cases e : a = b + 1
    · subst e; exact Nat.le_refl _
    · have := ih (by omega)
      simp only [wayD]
      omega
theorem irem_nI {a b : Nat} (ha : a < 2 ^ 31) (hb : 0 < b) (hb2 : b < 2 ^ 31) : irem (nI a) (nI b) = nI (a % b) := by
  have hd : nI a / nI b = nI (a / b) := by
    apply Int32.toInt_inj.1
    rw [Int32.toInt_div, nI_toInt ha, nI_toInt hb2, nI_toInt (by have := Nat.div_le_self a b; omega), Int.tdiv_eq_ediv_of_nonneg (by omega)]
    rw [Int.bmod_eq_of_le (by have : (0 : Int) ≤ (a : Int) / b := Int.ediv_nonneg (by omega) (by omega); omega) (by have : (a : Int) / b ≤ a := Int.ediv_le_self _ (by omega); omega)]
    exact (Int.natCast_ediv a b).symm
  unfold irem
  rw [hd, pk_mul, pk_sub (by have := Nat.div_mul_le_self a b; omega)]
  congr 1
  have := Nat.div_add_mod a b
  rw [Nat.mul_comm] at this
  omega
def hwI (o : Nat) (I : Im) (h w : Nat) : Im := u2 (u2 I o 48 (nI w)) o 47 (nI h)
section
variable {o : Nat} {K : Sh} {R : Rf} {I : Im}
theorem hw_hw {h w h2 w2 : Nat} : u2 (u2 (hwI o I h w) o 48 (nI w2)) o 47 (nI h2) = hwI o I h2 w2 := by
  funext a k
  simp only [hwI, u2]
  by_cases q : a = o ∧ k = 47
  · simp [q]
  · by_cases q2 : a = o ∧ k = 48
    · simp [q2]
    · simp [q, q2]
theorem hw_I {h w : Nat} (h1 : I o 47 = nI h) (h2 : I o 48 = nI w) : hwI o I h w = I := by
  funext a k
  simp only [hwI, u2]
  by_cases q : a = o ∧ k = 47
  · rw [if_pos q, q.1, q.2, h1]
  · rw [if_neg q]
    by_cases q2 : a = o ∧ k = 48
    · rw [if_pos q2, q2.1, q2.2, h2]
    · rw [if_neg q2]
theorem hw_w {h w w2 : Nat} : u2 (hwI o I h w) o 48 (nI w2) = hwI o I h w2 := by
  funext a k
  simp only [hwI, u2]
  by_cases q2 : a = o ∧ k = 48
  · simp [q2]
  · simp [q2]
theorem hw_u {h w b k : Nat} {v : Int32} (hb : b ≠ o) : u2 (hwI o I h w) b k v = hwI o (u2 I b k v) h w := by
  funext a j
  simp only [hwI, u2]
  by_cases q : a = b ∧ j = k
  · have : a ≠ o := fun e => hb (by rw [← q.1, e])
    simp [q, hb]
  · simp [q]
theorem hw_47 {h w : Nat} : hwI o I h w o 47 = nI h := u2_eq _ _ _ _
theorem hw_48 {h w : Nat} : hwI o I h w o 48 = nI w := by unfold hwI; rw [u2_ne (by omega), u2_eq]
theorem hw_row {h w a : Nat} (q : a ≠ o) : hwI o I h w a = I a := by unfold hwI; rw [u2_row q, u2_row q]
theorem hw_fld {h w k : Nat} (q : k ≠ 47) (q2 : k ≠ 48) : hwI o I h w o k = I o k := by unfold hwI; rw [u2_ne q, u2_ne q2]
theorem m_goesWay2 (hM : S12 o K R) {W h wt H : Nat} {f : Nat → Nat} (hW : W ≤ 6) (h24 : I (o + 16) W = nI H) (hH : H ≤ 9) (hf : ∀ j, j < 24 → I (o + 27) (24 * W + j) = nI (f j) ∧ f j ≤ 100000) (bh : h ≤ 1000000) (bw : wt ≤ 1000000) : ∀ (k j : Nat), H - j < k → j ≤ H → wayD f h j ≤ wt →
    (wayD f h H ≤ wt → f_X12_goesWay_2 K R o k (nI W) (nI j) (hwI o I (h + j) (wt - wayD f h j)) = some (1, hwI o I (h + H) (wt - wayD f h H))) ∧ (wt < wayD f h H → ∃ a b, f_X12_goesWay_2 K R o k (nI W) (nI j) (hwI o I (h + j) (wt - wayD f h j)) = some (0, hwI o I a b)) := by
  intro k
  induction k with
  | zero => intro j h; omega
  | succ k ih =>
    intro j hk hj hd
    unfold f_X12_goesWay_2
    have e24 : hwI o I (h + j) (wt - wayD f h j) (o + 16) W = nI H := by rw [hw_row (by omega)]; exact h24
    by_cases q : j = H
    · subst q
      refine ⟨fun _ => ?_, fun q => by omega⟩
      simp (disch := omega) only [L0, L1, L2, L3, L4, L5, L6, L7, L8, L9, L10, L11, L12, L13, L14, L15, L16, L17, L18, L19, L20, L21, L22, L23, L24, L25, L26, L27, L28, L29, L30, L31, L32, L33, L34, L35, L36, L37, L38, L39, L40, L48, L57, L59, L60, L62, L96, L97, L98, L99, L100, L104, L110, L119, L124, L500, L999, L1000, L2000, L3000, nI_add, pk_mul, pk_sub, nI_leI, nI_ltI, nI_eq, obs, u2_eq, u2_row, u2_ne, if_pos, if_neg, if_true, if_false, eq_self, l12_24 hM, e24]
    · obtain ⟨t1, t2⟩ := hf ((h + j) % 24) (Nat.mod_lt _ (by decide))
      have e27 : hwI o I (h + j) (wt - wayD f h j) (o + 27) (24 * W + (h + j) % 24) = nI (f ((h + j) % 24)) := by rw [hw_row (by omega)]; exact t1
      have hm := Nat.mod_lt (h + j) (show 24 > 0 by decide)
      have hs : wayD f h (j + 1) = wayD f h j + f ((h + j) % 24) := rfl
      have hmo := wayD_mono f h (show j + 1 ≤ H by omega)
      by_cases q2 : f ((h + j) % 24) ≤ wt - wayD f h j
      · obtain ⟨g1, g2⟩ := ih (j + 1) (by omega) (by omega) (by omega)
        have e : hwI o I (h + (j + 1)) (wt - wayD f h (j + 1)) = u2 (u2 (hwI o I (h + j) (wt - wayD f h j)) o 48 (nI (wt - wayD f h j - f ((h + j) % 24)))) o 47 (nI (h + j + 1)) := by
          rw [hw_hw, hs, Nat.sub_sub, Nat.add_assoc]
        rw [e] at g1 g2
        simp (disch := omega) only [L0, L1, L2, L3, L4, L5, L6, L7, L8, L9, L10, L11, L12, L13, L14, L15, L16, L17, L18, L19, L20, L21, L22, L23, L24, L25, L26, L27, L28, L29, L30, L31, L32, L33, L34, L35, L36, L37, L38, L39, L40, L48, L57, L59, L60, L62, L96, L97, L98, L99, L100, L104, L110, L119, L124, L500, L999, L1000, L2000, L3000, nI_add, pk_mul, pk_sub, nI_leI, nI_ltI, nI_eq, obs, u2_eq, u2_row, u2_ne, if_pos, if_neg, if_true, if_false, eq_self, l12_24 hM, e24, hw_47, hw_48, irem_nI, l12_38 hM, e27]
        exact ⟨g1, g2⟩
      · refine ⟨fun q3 => by omega, fun _ => ⟨h + j, wt - wayD f h j, ?_⟩⟩
        simp (disch := omega) only [L0, L1, L2, L3, L4, L5, L6, L7, L8, L9, L10, L11, L12, L13, L14, L15, L16, L17, L18, L19, L20, L21, L22, L23, L24, L25, L26, L27, L28, L29, L30, L31, L32, L33, L34, L35, L36, L37, L38, L39, L40, L48, L57, L59, L60, L62, L96, L97, L98, L99, L100, L104, L110, L119, L124, L500, L999, L1000, L2000, L3000, nI_add, pk_mul, pk_sub, nI_leI, nI_ltI, nI_eq, obs, u2_eq, u2_row, u2_ne, if_pos, if_neg, if_true, if_false, eq_self, l12_24 hM, e24, hw_47, hw_48, irem_nI, l12_38 hM, e27]
theorem m_goesWay (hM : S12 o K R) {W h wt H : Nat} {f : Nat → Nat} (hW : W ≤ 6) (h24 : I (o + 16) W = nI H) (hH : H ≤ 9) (hf : ∀ j, j < 24 → I (o + 27) (24 * W + j) = nI (f j) ∧ f j ≤ 100000) (bh : h ≤ 1000000) (bw : wt ≤ 1000000) :
    (wayD f h H ≤ wt → f_X12_goesWay K R o (nI W) (hwI o I h wt) = some (1, hwI o I (h + H) (wt - wayD f h H))) ∧ (wt < wayD f h H → ∃ a b, f_X12_goesWay K R o (nI W) (hwI o I h wt) = some (0, hwI o I a b)) := by
  have g := m_goesWay2 hM hW h24 hH hf bh bw FU 0 (FU_lt (by omega)) (by omega) (by simp [wayD])
  simp only [Nat.add_zero, wayD, Nat.sub_zero] at g
  exact g
theorem hw_hwI {h w h2 w2 : Nat} : hwI o (hwI o I h w) h2 w2 = hwI o I h2 w2 := hw_hw
theorem m_standsFor {h wt n sd : Nat} (h45 : I o 45 = nI sd) (bh : h ≤ 1000000) (bw : wt ≤ 1000000) (bn : n ≤ 1000000) (bs : sd ≤ 1000) :
    f_X12_standsFor K o (nI n) (hwI o I h wt) = some (if n * sd ≤ wt then (1, hwI o I (h + n) (wt - n * sd)) else (0, hwI o I h wt)) := by
  have hp : n * sd ≤ 1000000 * 1000 := Nat.mul_le_mul bn bs
  have e45 : hwI o I h wt o 45 = nI sd := by rw [hw_fld (by decide) (by decide)]; exact h45
  unfold f_X12_standsFor
  by_cases q : n * sd ≤ wt
  · rw [if_pos q]
    simp (disch := omega) only [L0, L1, L2, L3, L4, L5, L6, L7, L8, L9, L10, L11, L12, L13, L14, L15, L16, L17, L18, L19, L20, L21, L22, L23, L24, L25, L26, L27, L28, L29, L30, L31, L32, L33, L34, L35, L36, L37, L38, L39, L40, L48, L57, L59, L60, L62, L96, L97, L98, L99, L100, L104, L110, L119, L124, L500, L999, L1000, L2000, L3000, nI_add, pk_mul, pk_sub, nI_leI, nI_ltI, nI_eq, obs, u2_eq, u2_row, u2_ne, if_pos, if_neg, if_true, if_false, eq_self, e45, hw_48, hw_47]
    rw [hw_hw]
  · rw [if_neg q]
    simp (disch := omega) only [L0, L1, L2, L3, L4, L5, L6, L7, L8, L9, L10, L11, L12, L13, L14, L15, L16, L17, L18, L19, L20, L21, L22, L23, L24, L25, L26, L27, L28, L29, L30, L31, L32, L33, L34, L35, L36, L37, L38, L39, L40, L48, L57, L59, L60, L62, L96, L97, L98, L99, L100, L104, L110, L119, L124, L500, L999, L1000, L2000, L3000, nI_add, pk_mul, pk_sub, nI_leI, nI_ltI, nI_eq, obs, u2_eq, u2_row, u2_ne, if_pos, if_neg, if_true, if_false, eq_self, e45, hw_48, hw_47]
theorem m_waitsAt (hM : S12 o K R) {h wt k l sd : Nat} (hk : k < 6) (h45 : I o 45 = nI sd) (hl : I (o + 18) k = nI l) (bl : l ≤ 1000000) (bh : h ≤ 1000000) (bw : wt ≤ 1000000) (bs : sd ≤ 1000) :
    f_X12_waitsAt K R o (nI k) (hwI o I h wt) = some (if (l - h) * sd ≤ wt then (1, hwI o I (max h l) (wt - (l - h) * sd)) else (0, hwI o I h wt)) := by
  have e18 : hwI o I h wt (o + 18) k = nI l := by rw [hw_row (by omega)]; exact hl
  unfold f_X12_waitsAt
  by_cases q : l ≤ h
  · have e0 : l - h = 0 := by omega
    rw [e0, Nat.zero_mul, if_pos (by omega), Nat.max_eq_left q]
    simp (disch := omega) only [L0, L1, L2, L3, L4, L5, L6, L7, L8, L9, L10, L11, L12, L13, L14, L15, L16, L17, L18, L19, L20, L21, L22, L23, L24, L25, L26, L27, L28, L29, L30, L31, L32, L33, L34, L35, L36, L37, L38, L39, L40, L48, L57, L59, L60, L62, L96, L97, L98, L99, L100, L104, L110, L119, L124, L500, L999, L1000, L2000, L3000, nI_add, pk_mul, pk_sub, nI_leI, nI_ltI, nI_eq, obs, u2_eq, u2_row, u2_ne, if_pos, if_neg, if_true, if_false, eq_self, l12_26 hM, e18, hw_47]
    rfl
  · simp (disch := omega) only [L0, L1, L2, L3, L4, L5, L6, L7, L8, L9, L10, L11, L12, L13, L14, L15, L16, L17, L18, L19, L20, L21, L22, L23, L24, L25, L26, L27, L28, L29, L30, L31, L32, L33, L34, L35, L36, L37, L38, L39, L40, L48, L57, L59, L60, L62, L96, L97, L98, L99, L100, L104, L110, L119, L124, L500, L999, L1000, L2000, L3000, nI_add, pk_mul, pk_sub, nI_leI, nI_ltI, nI_eq, obs, u2_eq, u2_row, u2_ne, if_pos, if_neg, if_true, if_false, eq_self, l12_26 hM, e18, hw_47, m_standsFor h45]
    have e1 : h + (l - h) = max h l := by omega
    rw [e1]
    by_cases q2 : (l - h) * sd ≤ wt
    · rw [if_pos q2]
      simp (disch := omega) only [L0, L1, L2, L3, L4, L5, L6, L7, L8, L9, L10, L11, L12, L13, L14, L15, L16, L17, L18, L19, L20, L21, L22, L23, L24, L25, L26, L27, L28, L29, L30, L31, L32, L33, L34, L35, L36, L37, L38, L39, L40, L48, L57, L59, L60, L62, L96, L97, L98, L99, L100, L104, L110, L119, L124, L500, L999, L1000, L2000, L3000, nI_add, pk_mul, pk_sub, nI_leI, nI_ltI, nI_eq, obs, u2_eq, u2_row, u2_ne, if_pos, if_neg, if_true, if_false, eq_self]
    · rw [if_neg q2]
      simp (disch := omega) only [L0, L1, L2, L3, L4, L5, L6, L7, L8, L9, L10, L11, L12, L13, L14, L15, L16, L17, L18, L19, L20, L21, L22, L23, L24, L25, L26, L27, L28, L29, L30, L31, L32, L33, L34, L35, L36, L37, L38, L39, L40, L48, L57, L59, L60, L62, L96, L97, L98, L99, L100, L104, L110, L119, L124, L500, L999, L1000, L2000, L3000, nI_add, pk_mul, pk_sub, nI_leI, nI_ltI, nI_eq, obs, u2_eq, u2_row, u2_ne, if_pos, if_neg, if_true, if_false, eq_self]
theorem heldN_le {fu gi le la : Nat → Nat} {k h : Nat} (b1 : fu k ≤ 99) (b3 : le k ≤ 99) : heldN fu gi le la k h ≤ 99 := by
  unfold heldN
  split <;> omega
theorem m_held (hM : S12 o K R) {h wt k hh : Nat} {fu gi le la : Nat → Nat} (hk : k < 6) (h1 : I (o + 14) k = nI (fu k)) (h2 : I (o + 15) k = nI (gi k)) (h3 : I (o + 17) k = nI (le k)) (h4 : I (o + 18) k = nI (la k)) (b1 : fu k ≤ 99) (b2 : gi k ≤ 99) (b3 : le k ≤ 99) (b4 : la k ≤ 1000000) (b5 : hh ≤ 1000000) : f_X12_heldBy K (hwI o I h wt) R o (nI k) (nI hh) = some (nI (heldN fu gi le la k hh)) :=
  m_heldBy hM hk (by rw [hw_row (by omega)]; exact h1) (by rw [hw_row (by omega)]; exact h2) (by rw [hw_row (by omega)]; exact h3) (by rw [hw_row (by omega)]; exact h4) b1 b2 b3 b4 b5
theorem m_draws0 (hM : S12 o K R) {h wt k rm : Nat} {fu gi le la : Nat → Nat} (hk : k < 6) (h46 : I o 46 = nI rm) (h1 : I (o + 14) k = nI (fu k)) (h2 : I (o + 15) k = nI (gi k)) (h3 : I (o + 17) k = nI (le k)) (h4 : I (o + 18) k = nI (la k)) (b1 : fu k ≤ 99) (b2 : gi k ≤ 99) (b3 : le k ≤ 99) (b4 : la k ≤ 1000000) (b5 : h ≤ 1000000) (b6 : rm ≤ 1000) (b7 : wt ≤ rm) :
    f_X12_drawsAt K R o (nI k) (nI 0) (hwI o I h wt) = some (hwI o I h (wt + min (heldN fu gi le la k h) (rm - wt))) := by
  have hl := heldN_le (gi := gi) (la := la) (h := h) b1 b3
  have e46 : hwI o I h wt o 46 = nI rm := by rw [hw_fld (by decide) (by decide)]; exact h46
  unfold f_X12_drawsAt
  simp (disch := omega) only [L0, L1, L2, L3, L4, L5, L6, L7, L8, L9, L10, L11, L12, L13, L14, L15, L16, L17, L18, L19, L20, L21, L22, L23, L24, L25, L26, L27, L28, L29, L30, L31, L32, L33, L34, L35, L36, L37, L38, L39, L40, L48, L57, L59, L60, L62, L96, L97, L98, L99, L100, L104, L110, L119, L124, L500, L999, L1000, L2000, L3000, nI_add, pk_mul, pk_sub, nI_leI, nI_ltI, nI_eq, obs, u2_eq, u2_row, u2_ne, if_pos, if_neg, if_true, if_false, eq_self, hw_47, m_held hM hk h1 h2 h3 h4 b1 b2 b3 b4, e46, hw_48, m_min]
  rw [hw_w]
theorem m_draws1 (hM : S12 o K R) {h wt k rm : Nat} {fu gi le la : Nat → Nat} (hk : k < 6) (h46 : I o 46 = nI rm) (h1 : I (o + 14) k = nI (fu k)) (h2 : I (o + 15) k = nI (gi k)) (h3 : I (o + 17) k = nI (le k)) (h4 : I (o + 18) k = nI (la k)) (b1 : fu k ≤ 99) (b2 : gi k ≤ 99) (b3 : le k ≤ 99) (b4 : la k ≤ 1000000) (b5 : h ≤ 1000000) (b6 : rm ≤ 1000) (b7 : wt ≤ rm) :
    f_X12_drawsAt K R o (nI k) (nI 1) (hwI o I h wt) = some (hwI o (u2 (u2 I (o + 17) k (nI (heldN fu gi le la k h - min (heldN fu gi le la k h) (rm - wt)))) (o + 18) k (nI h)) h (wt + min (heldN fu gi le la k h) (rm - wt))) := by
  have hl := heldN_le (gi := gi) (la := la) (h := h) b1 b3
  have e46 : hwI o I h wt o 46 = nI rm := by rw [hw_fld (by decide) (by decide)]; exact h46
  unfold f_X12_drawsAt
  simp (disch := omega) only [L0, L1, L2, L3, L4, L5, L6, L7, L8, L9, L10, L11, L12, L13, L14, L15, L16, L17, L18, L19, L20, L21, L22, L23, L24, L25, L26, L27, L28, L29, L30, L31, L32, L33, L34, L35, L36, L37, L38, L39, L40, L48, L57, L59, L60, L62, L96, L97, L98, L99, L100, L104, L110, L119, L124, L500, L999, L1000, L2000, L3000, nI_add, pk_mul, pk_sub, nI_leI, nI_ltI, nI_eq, obs, u2_eq, u2_row, u2_ne, if_pos, if_neg, if_true, if_false, eq_self, hw_47, m_held hM hk h1 h2 h3 h4 b1 b2 b3 b4, e46, hw_48, m_min, s12_25 hM, s12_26 hM, hw_w, hw_u]
end
