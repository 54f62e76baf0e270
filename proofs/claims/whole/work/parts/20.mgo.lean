/-! what a way costs from an hour on -/
def wayD (f : Nat → Nat) (h : Nat) : Nat → Nat
  | 0 => 0
  | n + 1 => wayD f h n + f ((h + n) % 24)
theorem wayD_mono (f : Nat → Nat) (h : Nat) {a b : Nat} (q : a ≤ b) : wayD f h a ≤ wayD f h b := by
  induction b with
  | zero => have : a = 0 := by omega
            subst this; exact Nat.le_refl _
  | succ b ih =>
    by_cases e : a = b + 1
    · subst e; exact Nat.le_refl _
    · have := ih (by omega)
      simp only [wayD]
      omega
theorem irem_nI {a b : Nat} (ha : a < 2 ^ 31) (hb : 0 < b) (hb2 : b < 2 ^ 31) : irem (nI a) (nI b) = nI (a % b) := by
  have hd : nI a / nI b = nI (a / b) := by
    apply Int32.toInt_inj.1
    rw [Int32.toInt_div, nI_toInt ha, nI_toInt hb2, nI_toInt (by have := Nat.div_le_self a b; omega), Int.tdiv_eq_ediv_of_nonneg (by omega)]
    rw [Int.bmod_eq_of_le (by have : (0 : Int) ≤ (a : Int) / b := Int.ediv_nonneg (by omega) (by omega); omega) (by have : (a : Int) / b ≤ a := Int.ediv_le_self _ (by omega); omega)]
    exact (Int.natCast_ediv a b).symm
  unfold irem
  rw [hd, pk_mul, pk_sub (by have := Nat.div_mul_le_self a b; omega)]
  congr 1
  have := Nat.div_add_mod a b
  rw [Nat.mul_comm] at this
  omega
def hwI (o : Nat) (I : Im) (h w : Nat) : Im := u2 (u2 I o 48 (nI w)) o 47 (nI h)
section
variable {o : Nat} {K : Sh} {R : Rf} {I : Im}
theorem hw_hw {h w h2 w2 : Nat} : u2 (u2 (hwI o I h w) o 48 (nI w2)) o 47 (nI h2) = hwI o I h2 w2 := by
  funext a k
  simp only [hwI, u2]
  by_cases q : a = o ∧ k = 47
  · simp [q]
  · by_cases q2 : a = o ∧ k = 48
    · simp [q2]
    · simp [q, q2]
theorem hw_I {h w : Nat} (h1 : I o 47 = nI h) (h2 : I o 48 = nI w) : hwI o I h w = I := by
  funext a k
  simp only [hwI, u2]
  by_cases q : a = o ∧ k = 47
  · rw [if_pos q, q.1, q.2, h1]
  · rw [if_neg q]
    by_cases q2 : a = o ∧ k = 48
    · rw [if_pos q2, q2.1, q2.2, h2]
    · rw [if_neg q2]
theorem hw_47 {h w : Nat} : hwI o I h w o 47 = nI h := u2_eq _ _ _ _
theorem hw_48 {h w : Nat} : hwI o I h w o 48 = nI w := by unfold hwI; rw [u2_ne (by omega), u2_eq]
theorem hw_row {h w a : Nat} (q : a ≠ o) : hwI o I h w a = I a := by unfold hwI; rw [u2_row q, u2_row q]
theorem hw_fld {h w k : Nat} (q : k ≠ 47) (q2 : k ≠ 48) : hwI o I h w o k = I o k := by unfold hwI; rw [u2_ne q, u2_ne q2]
theorem m_goesWay2 (hM : S12 o K R) {W h wt H : Nat} {f : Nat → Nat} (hW : W ≤ 6) (h24 : I (o + 16) W = nI H) (hH : H ≤ 9) (hf : ∀ j, j < 24 → I (o + 27) (24 * W + j) = nI (f j) ∧ f j ≤ 100000) (bh : h ≤ 1000000) (bw : wt ≤ 1000000) : ∀ (k j : Nat), H - j < k → j ≤ H → wayD f h j ≤ wt →
    (wayD f h H ≤ wt → f_X12_goesWay_2 K R o k (nI W) (nI j) (hwI o I (h + j) (wt - wayD f h j)) = some (1, hwI o I (h + H) (wt - wayD f h H))) ∧ (wt < wayD f h H → ∃ a b, f_X12_goesWay_2 K R o k (nI W) (nI j) (hwI o I (h + j) (wt - wayD f h j)) = some (0, hwI o I a b)) := by
  intro k
  induction k with
  | zero => intro j h; omega
  | succ k ih =>
    intro j hk hj hd
    unfold f_X12_goesWay_2
    have e24 : hwI o I (h + j) (wt - wayD f h j) (o + 16) W = nI H := by rw [hw_row (by omega)]; exact h24
    by_cases q : j = H
    · subst q
      refine ⟨fun _ => ?_, fun q => by omega⟩
      simp (disch := omega) only [L0, L1, L2, L3, L4, L5, L6, L7, L8, L9, L10, L11, L12, L13, L14, L15, L16, L17, L18, L19, L20, L21, L22, L23, L24, L25, L26, L27, L28, L29, L30, L31, L32, L33, L34, L35, L36, L37, L38, L39, L40, L48, L57, L59, L60, L62, L96, L97, L98, L99, L100, L104, L110, L119, L124, L500, L999, L1000, nI_add, pk_mul, pk_sub, nI_leI, nI_ltI, nI_eq, obs, u2_eq, u2_row, u2_ne, if_pos, if_neg, l12_24 hM, e24]
    · obtain ⟨t1, t2⟩ := hf ((h + j) % 24) (Nat.mod_lt _ (by decide))
      have e27 : hwI o I (h + j) (wt - wayD f h j) (o + 27) (24 * W + (h + j) % 24) = nI (f ((h + j) % 24)) := by rw [hw_row (by omega)]; exact t1
      have hm := Nat.mod_lt (h + j) (show 24 > 0 by decide)
      have hs : wayD f h (j + 1) = wayD f h j + f ((h + j) % 24) := rfl
      have hmo := wayD_mono f h (show j + 1 ≤ H by omega)
      by_cases q2 : f ((h + j) % 24) ≤ wt - wayD f h j
      · obtain ⟨g1, g2⟩ := ih (j + 1) (by omega) (by omega) (by omega)
        have e : hwI o I (h + (j + 1)) (wt - wayD f h (j + 1)) = u2 (u2 (hwI o I (h + j) (wt - wayD f h j)) o 48 (nI (wt - wayD f h j - f ((h + j) % 24)))) o 47 (nI (h + j + 1)) := by
          rw [hw_hw, hs, Nat.sub_sub, Nat.add_assoc]
        rw [e] at g1 g2
        simp (disch := omega) only [L0, L1, L2, L3, L4, L5, L6, L7, L8, L9, L10, L11, L12, L13, L14, L15, L16, L17, L18, L19, L20, L21, L22, L23, L24, L25, L26, L27, L28, L29, L30, L31, L32, L33, L34, L35, L36, L37, L38, L39, L40, L48, L57, L59, L60, L62, L96, L97, L98, L99, L100, L104, L110, L119, L124, L500, L999, L1000, nI_add, pk_mul, pk_sub, nI_leI, nI_ltI, nI_eq, obs, u2_eq, u2_row, u2_ne, if_pos, if_neg, l12_24 hM, e24, hw_47, hw_48, irem_nI, l12_38 hM, e27]
        exact ⟨g1, g2⟩
      · refine ⟨fun q3 => by omega, fun _ => ⟨h + j, wt - wayD f h j, ?_⟩⟩
        simp (disch := omega) only [L0, L1, L2, L3, L4, L5, L6, L7, L8, L9, L10, L11, L12, L13, L14, L15, L16, L17, L18, L19, L20, L21, L22, L23, L24, L25, L26, L27, L28, L29, L30, L31, L32, L33, L34, L35, L36, L37, L38, L39, L40, L48, L57, L59, L60, L62, L96, L97, L98, L99, L100, L104, L110, L119, L124, L500, L999, L1000, nI_add, pk_mul, pk_sub, nI_leI, nI_ltI, nI_eq, obs, u2_eq, u2_row, u2_ne, if_pos, if_neg, l12_24 hM, e24, hw_47, hw_48, irem_nI, l12_38 hM, e27]
end
