/-! ever -/
def evN (fu gi : Nat → Nat) (h : Nat) : Nat → Nat
  | 0 => 0
  | j + 1 => evN fu gi h j + (fu j + h * min (fu j) (gi j))
theorem evN_le {fu gi : Nat → Nat} {h W : Nat} (hf : ∀ k, k < W → fu k ≤ 99) (hh : h ≤ 999) : ∀ j, j ≤ W → evN fu gi h j ≤ 99000 * j := by
  intro j hj
  induction j with
  | zero => exact Nat.le_refl _
  | succ j ih =>
    have := ih (by omega)
    have b := hf j (by omega)
    have p : h * min (fu j) (gi j) ≤ 999 * 99 := Nat.mul_le_mul hh (by omega)
    simp only [evN]
    omega
section
variable {Z : Nat → Nat} {x n M nr nc NW i q N W cy sd h : Nat} {K : Sh} {I I1 : Im} {J : Jm} {R R1 : Rf} {w c d le la hr fu gi : Nat → Nat} {cs : Nat → List Nat} {d1 : Nat → Nat → Nat → Nat}
theorem c_ever34 (hS : S9 q K R) (hW5 : W ≤ 5) (hW : I q 0 = nI W) (hh : h ≤ 999) (hb : ∀ k, k < W → fu k ≤ 99 ∧ gi k ≤ 99 ∧ I (q + 1) k = nI (fu k) ∧ I (q + 2) k = nI (gi k)) : ∀ (m j k : Nat), W - j = m → j ≤ W → m < k → f_X11_ever_34 K I R x k (nI h) (some q) (nI (evN fu gi h j)) (nI j) = some (nI (evN fu gi h W)) := by
  have ev := evN_le (fu := fu) (gi := gi) (h := h) (W := W) (fun k hk => (hb k hk).1) hh
  intro m
  induction m with
  | zero =>
    intro j k e1 e2 e3
    obtain ⟨k, rfl⟩ : ∃ k', k = k' + 1 := ⟨k - 1, by omega⟩
    have : j = W := by omega
    subst this
    rw [f_X11_ever_34, ob9 hS, obs, hW, if_pos (by rw [nI_leI (by omega) (by omega)]; omega)]
  | succ m ih =>
    intro j k e1 e2 e3
    obtain ⟨k, rfl⟩ : ∃ k', k = k' + 1 := ⟨k - 1, by omega⟩
    obtain ⟨b1, b2, b3, b4⟩ := hb j (by omega)
    have p : h * min (fu j) (gi j) ≤ 999 * 99 := Nat.mul_le_mul hh (by omega)
    have bj := ev j (by omega)
    rw [f_X11_ever_34, ob9 hS, obs, hW, if_neg (by rw [nI_leI (by omega) (by omega)]; omega), l9_5 hS (by omega), l9_6 hS (by omega), b3, b4, obs, obs, obs, obs, imin_nI (by omega) (by omega), pk_mul, nI_add, nI_add, L1, nI_add]
    exact ih (j + 1) k (by omega) (by omega) (by omega)
theorem m_ever29 (hM : S12 (x + 62) K R) (hL : LayG (x + 62) W M I fu gi hr le la) (hh : h ≤ 999) : ∀ (m j k : Nat), W - j = m → j ≤ W → m < k → f_X12_ever_29 K R (x + 62) k (nI h) (nI (evN fu gi h j)) (nI j) I = some (nI (evN fu gi h W), I) := by
  have ev := evN_le (fu := fu) (gi := gi) (h := h) (W := W) (fun k hk => (hL.2.2.1 k hk).2.1) hh
  have hW5 := hL.2.1
  intro m
  induction m with
  | zero =>
    intro j k e1 e2 e3
    obtain ⟨k, rfl⟩ : ∃ k', k = k' + 1 := ⟨k - 1, by omega⟩
    have : j = W := by omega
    subst this
    rw [f_X12_ever_29, hL.1, if_pos (by rw [nI_leI (by omega) (by omega)]; omega)]
  | succ m ih =>
    intro j k e1 e2 e3
    obtain ⟨k, rfl⟩ : ∃ k', k = k' + 1 := ⟨k - 1, by omega⟩
    obtain ⟨b3, b1, b4, b2, -⟩ := hL.2.2.1 j (by omega)
    have p : h * min (fu j) (gi j) ≤ 999 * 99 := Nat.mul_le_mul hh (by omega)
    have bj := ev j (by omega)
    rw [f_X12_ever_29, hL.1, if_neg (by rw [nI_leI (by omega) (by omega)]; omega), l12_22 hM (by omega), l12_23 hM (by omega), b3, b4, obs, obs, obs, m_min (by omega) (by omega), obs, pk_mul, nI_add, nI_add, L1, nI_add]
    exact ih (j + 1) k (by omega) (by omega) (by omega)
theorem k_ever (h : Rel Z x n M K I J R) (v1 : Int32) : ∃ r I2, f_X11_ever K I R x v1 = some r ∧ f_X12_ever K R (x + 62) v1 I = some (r, I2) ∧ Rel Z x n M K I2 J R := by
  have h0 := h
  obtain ⟨hC, hS, hn, hMb, hZ, nr, nc, NW, hG⟩ := h
  obtain ⟨hnum, hru, hca, hnow, -⟩ := RelG_iff.mp hG
  have e1' : ¬ (nI 1 = 0) := by decide
  have e0' : nI 0 = 0 := rfl
  have S11 := cS11 hC
  have S12' : S12 (x + 62) K R := hS
  have o7 : ob K 7 (R x 7) = some (x + 8) := o11_7 S11
  unfold f_X11_ever f_X12_ever
  rcases hour_at v1 with ⟨g, s1, s2, s3, s4⟩ | ⟨s3, s4⟩
  · rcases hnow.1 with ⟨t1, t2⟩ | ⟨i, q, N, w, c, d, cs, le, la, t1, t2, t3⟩
    · refine ⟨-3, I, ?_, ?_, h0⟩
      · rw [s3, obs, if_neg e1', o7, obs, if_pos t2]
      · rw [s4, obs, if_neg e1', t1, if_neg no_neg1]
    · have hi5 : i < 5 := by have := hnum.2.2.1; omega
      have nn : ¬ (R (x + 8) 0 = none) := by rw [t3.1]; simp
      have hV := t3.2.1.2.2.2.1
      have hW5 := wlN_le w N
      obtain ⟨I2, f1, f2, f3⟩ := lay_R (P := fun I1 => FM (x + 62) layS [21] I I1 ∧ LayG (x + 62) (wlN w N) M I1 (wlV w c N) (wlV w d N) (wyV w c N) le la) S12' hi5 t1 t3 (fun I1 a b => ⟨a, b⟩)
      have Q2 : QF x I I2 := QF.fm f2 (by decide) (by decide)
      have f3 : LayG (x + 62) (wlN w N) M I2 (wlV w c N) (wlV w d N) (wyV w c N) le la := f3
      have hW := t3.2.1.2.2.2.2.2.2.2
      have c1 := c_ever34 (x := x) (fu := wlV w c N) (gi := wlV w d N) hV.1 hW5 hV.2.1 s2 (fun k hk => ⟨(f3.2.2.1 k hk).2.1, (f3.2.2.1 k hk).2.2.2.1, hW k (by omega)⟩) _ 0 FU rfl (Nat.zero_le _) (FU_lt (by omega))
      have c2 := m_ever29 S12' f3 s2 _ 0 FU rfl (Nat.zero_le _) (FU_lt (by omega))
      refine ⟨nI (evN (wlV w c N) (wlV w d N) g (wlN w N)), I2, ?_, ?_, h0.qf Q2 QR.refl hC hS⟩
      · rw [s3, obs, if_neg e1', o7, obs, if_neg nn, t3.1, s1]
        exact c1
      · rw [s4, obs, if_neg e1', t1, if_pos (yes_nI (by omega)), f1, obs, s1]
        exact c2
  · refine ⟨-2, I, ?_, ?_, h0⟩
    · rw [s3, obs, if_pos e0']
    · rw [s4, obs, if_pos e0']
end
