/-! act: what the kinds do, one after the other. The bodies -/
def bT (k w : Nat) : Nat := ([10, 11, 12, 10, 20, 12, 30, 11, 12, 10, 11, 40, 50, 51, 12, 10, 20, 60, 71, 70, 12] : List Nat).getD (3 * k + w) 0
theorem ldI_Z {Z : Nat → Nat} {x : Nat} {K : Sh} {I : Im} (h : ZZ Z x K I) {i j : Nat} (hi : i < 3) (hj : j < zL i) : ldI K I (some (Z i)) (nI j) = some (zD i j) := by
  obtain ⟨h1, h2⟩ := h.2 i hi
  have hz : zL i ≤ 21 := by unfold zL; split <;> omega
  simp only [ldI, Option.bind_some]
  rw [if_pos ⟨Or.inr (by rw [h1]), by rw [h1]; exact inb_nI hj (show zL i < 2 ^ 31 by omega)⟩, nI_clamp (by omega), h2 j hj]
theorem ZZ.of {Z : Nat → Nat} {x : Nat} {K : Sh} {I I' : Im} (h : ZZ Z x K I) (hz : ∀ z, z < x → I' z = I z) : ZZ Z x K I' := ⟨h.1, fun i hi => ⟨(h.2 i hi).1, fun j hj => by rw [hz _ (h.1.1 i hi)]; exact (h.2 i hi).2 j hj⟩⟩
def upT (k : Nat) : Nat := ([0, 0, 0, 0, 1, 1, 2] : List Nat).getD k 0
def tbT (j : Nat) : Nat := ([10, 11, 12, 0, 20, 0, 30, 0, 0, 0, 0, 40, 50, 51, 0, 0, 0, 60, 71, 70, 0] : List Nat).getD j 0
theorem tbT_z : ∀ j, j < 21 → zD 2 j = nI (tbT j) := by decide
theorem upT_z : ∀ k, k < 7 → 0 < k → zD 0 k = nI (upT k) := by decide
theorem bo_step {Z : Nat → Nat} {x : Nat} {K : Sh} {I : Im} (h : ZZ Z x K I) {k w c f : Nat} (hk : k ≤ 6) (hw : w ≤ 2) (hc : c ≤ 6) : f_X0_bodyOf_4 Z K I (f + 1) (nI w) (nI k) (nI c) = if k = 0 ∨ tbT (3 * k + w) ≠ 0 then some (nI (tbT (3 * k + w))) else f_X0_bodyOf_4 Z K I f (nI w) (nI (upT k)) (nI (c + 1)) := by
  have al : alen K (some (Z 0)) = some (nI 7) := by
    have e := (h.2 0 (by omega)).1
    have := alen_ok (K := K) (a := Z 0) (by rw [e]; omega) (by rw [e]; omega)
    rw [this, e]
    rfl
  have l2 : ldI K I (some (Z 2)) ((nI k * 3) + nI w) = some (nI (tbT (3 * k + w))) := by
    rw [L3, pk_mul, nI_add, show k * 3 + w = 3 * k + w by omega, ldI_Z h (by omega) (show 3 * k + w < zL 2 by show _ < 21; omega), tbT_z _ (by omega)]
  have l0 : 0 < k → ldI K I (some (Z 0)) (nI k) = some (nI (upT k)) := fun h0 => by
    rw [ldI_Z h (by omega) (show k < zL 0 by show _ < 7; omega), upT_z _ (by omega) h0]
  have tb : tbT (3 * k + w) ≤ 71 := by
    have : ∀ j, j < 21 → tbT j ≤ 71 := by decide
    exact this _ (by omega)
  have s40 : f_X0_bodyOf_40 Z K I (nI w) (nI k) = some (nI (tbT (3 * k + w))) := by
    unfold f_X0_bodyOf_40
    rw [l2]
    rfl
  rw [f_X0_bodyOf_4, al, obs, if_neg (show ¬ nI 7 ≤ nI c by rw [nI_leI (by omega) (by omega)]; omega)]
  by_cases k0 : k = 0
  · rw [if_pos (show nI k ≤ 0 by rw [L0, nI_leI (by omega) (by omega)]; omega), if_pos (Or.inl k0), s40]
  · rw [if_neg (show ¬ nI k ≤ 0 by rw [L0, nI_leI (by omega) (by omega)]; omega), l2, obs]
    by_cases t0 : tbT (3 * k + w) = 0
    · rw [if_pos (show nI (tbT (3 * k + w)) = 0 by rw [t0]; rfl), if_neg (show ¬ (k = 0 ∨ tbT (3 * k + w) ≠ 0) by omega), l0 (by omega), obs, L1, nI_add]
    · rw [if_neg (show ¬ nI (tbT (3 * k + w)) = 0 by rw [L0, nI_eq (by omega) (by omega)]; exact t0), if_pos (Or.inr t0), s40]
theorem bo_all {Z : Nat → Nat} {x : Nat} {K : Sh} {I : Im} (h : ZZ Z x K I) {k w : Nat} (hk : k ≤ 6) (hw : w ≤ 2) : f_X0_bodyOf Z K I (nI k) (nI w) = some (nI (bT k w)) := by
  unfold f_X0_bodyOf
  obtain ⟨f, hf⟩ : ∃ f, FU = f + 1 + 1 + 1 := ⟨FU - 3, by have := FU_lt (n := 5) (by omega); omega⟩
  rw [hf, L0]
  have up1 : ∀ k, k ≤ 6 → upT k ≤ 6 := by
    have : ∀ k, k < 7 → upT k ≤ 6 := by decide
    exact fun k hk => this k (by omega)
  rw [bo_step h hk hw (by omega), bo_step h (up1 k hk) hw (by omega), bo_step h (up1 _ (up1 k hk)) hw (by omega)]
  have fin : ∀ k, k < 7 → ∀ w, w < 3 → (if k = 0 ∨ tbT (3 * k + w) ≠ 0 then bT k w = tbT (3 * k + w) else if upT k = 0 ∨ tbT (3 * upT k + w) ≠ 0 then bT k w = tbT (3 * upT k + w) else (upT (upT k) = 0 ∨ tbT (3 * upT (upT k) + w) ≠ 0) ∧ bT k w = tbT (3 * upT (upT k) + w)) := by decide
  have g := fin k (by omega) w (by omega)
  by_cases c1 : k = 0 ∨ tbT (3 * k + w) ≠ 0
  · rw [if_pos c1] at g ⊢
    rw [g]
  · rw [if_neg c1] at g ⊢
    by_cases c2 : upT k = 0 ∨ tbT (3 * upT k + w) ≠ 0
    · rw [if_pos c2] at g ⊢
      rw [g]
    · rw [if_neg c2] at g ⊢
      rw [if_pos g.1, g.2]
/-- the notes -/
theorem gd_l {l m : List Nat} {j : Nat} (h : j < l.length) : (l ++ m).getD j 0 = l.getD j 0 := by rw [List.getD_eq_getElem?_getD, List.getD_eq_getElem?_getD, List.getElem?_append_left h]
theorem gd_m {l : List Nat} {b : Nat} : (l ++ [b]).getD l.length 0 = b := by
  rw [List.getD_eq_getElem?_getD]
  simp
def ntL (row fo fld : Nat) (I : Im) (l : List Nat) : Im := fun z j => if z = fo ∧ j = fld then nI l.length else if z = row ∧ j < l.length ∧ j < 20 then nI (l.getD j 0) else I z j
section
variable {row fo fld : Nat} {I : Im} {l : List Nat}
theorem ntL_nil (h : row ≠ fo) : u2 I fo fld 0 = ntL row fo fld I [] := by
  funext z j
  by_cases c : z = fo ∧ j = fld
  · obtain ⟨rfl, rfl⟩ := c
    rw [u2_eq]
    exact (if_pos ⟨rfl, rfl⟩).symm
  · unfold ntL
    rw [if_neg c, if_neg (by simp)]
    unfold u2
    rw [if_neg c]
theorem ntL_len : ntL row fo fld I l fo fld = nI l.length := if_pos ⟨rfl, rfl⟩
theorem ntL_row {z : Nat} (h1 : z ≠ fo) (h2 : z ≠ row) : ntL row fo fld I l z = I z := by
  funext j
  unfold ntL
  rw [if_neg (fun c => h1 c.1), if_neg (fun c => h2 c.1)]
theorem ntL_fo {k : Nat} (h : row ≠ fo) (h1 : k ≠ fld) : ntL row fo fld I l fo k = I fo k := by
  unfold ntL
  rw [if_neg (fun c => h1 c.2), if_neg (fun c => h c.1.symm)]
theorem ntL_at {j : Nat} (h : row ≠ fo) (h1 : j < l.length) (h2 : j < 20) : ntL row fo fld I l row j = nI (l.getD j 0) := by
  unfold ntL
  rw [if_neg (fun c => h c.1), if_pos ⟨rfl, h1, h2⟩]
theorem ntL_hi {j : Nat} (h : row ≠ fo) (h1 : ¬ (j < l.length ∧ j < 20)) : ntL row fo fld I l row j = I row j := by
  unfold ntL
  rw [if_neg (fun c => h c.1), if_neg (fun c => h1 c.2)]
theorem ntL_more (h : row ≠ fo) (b : Nat) : u2 (if 20 ≤ l.length then ntL row fo fld I l else u2 (ntL row fo fld I l) row l.length (nI b)) fo fld (nI (l.length + 1)) = ntL row fo fld I (l ++ [b]) := by
  have hl : (l ++ [b]).length = l.length + 1 := by simp
  funext z j
  by_cases c : z = fo ∧ j = fld
  · obtain ⟨rfl, rfl⟩ := c
    rw [u2_eq, ntL_len, hl]
  by_cases cf : z = fo
  · subst cf
    have cj : j ≠ fld := fun e => c ⟨rfl, e⟩
    rw [u2_ne cj, ntL_fo h cj]
    by_cases c20 : 20 ≤ l.length
    · rw [if_pos c20, ntL_fo h cj]
    · rw [if_neg c20, u2_row h.symm, ntL_fo h cj]
  rw [u2_row cf]
  by_cases cr : z = row
  · subst cr
    by_cases c20 : 20 ≤ l.length
    · rw [if_pos c20]
      by_cases cj : j < 20
      · rw [ntL_at h (by omega) cj, ntL_at h (by omega) cj]
        rw [gd_l (by omega)]
      · rw [ntL_hi h (by omega), ntL_hi h (by omega)]
    · rw [if_neg c20]
      by_cases cj : j = l.length
      · subst cj
        rw [u2_eq, ntL_at h (by omega) (by omega), gd_m]
      · rw [u2_ne cj]
        by_cases cl : j < l.length
        · rw [ntL_at h cl (by omega), ntL_at h (by omega) (by omega), gd_l cl]
        · rw [ntL_hi h (by omega), ntL_hi h (by omega)]
  · rw [ntL_row cf cr]
    by_cases c20 : 20 ≤ l.length
    · rw [if_pos c20, ntL_row cf cr]
    · rw [if_neg c20, u2_row cr, ntL_row cf cr]
end
section
variable {Z : Nat → Nat} {x : Nat} {K : Sh} {I : Im} {R : Rf} {l : List Nat}
theorem c_note (h : S0 (x + 27) K R) (hl : l.length ≤ 1000) (b : Nat) : f_X0_note K R (x + 27) (nI b) (ntL (x + 28) (x + 27) 1 I l) = some (ntL (x + 28) (x + 27) 1 I (l ++ [b])) := by
  have g := ntL_more (row := x + 28) (fo := x + 27) (fld := 1) (I := I) (l := l) (by omega) b
  unfold f_X0_note
  rw [ntL_len]
  by_cases c : 20 ≤ l.length
  · rw [if_pos (show 20 ≤ nI l.length by rw [L20, nI_leI (by omega) (by omega)]; exact c)]
    rw [if_pos c] at g
    unfold f_X0_note_19
    rw [obs, ntL_len, L1, nI_add, g]
  · rw [if_neg (show ¬ 20 ≤ nI l.length by rw [L20, nI_leI (by omega) (by omega)]; exact c), s0_0 h (by omega), obs]
    rw [if_neg c] at g
    unfold f_X0_note_19
    rw [obs, show ∀ v, u2 (ntL (x + 28) (x + 27) 1 I l) (x + 27 + 1) l.length v (x + 27) 1 = nI l.length from fun v => by rw [u2_row (by omega), ntL_len], L1, nI_add, g]
theorem m_note (h : S12 (x + 62) K R) (hl : l.length ≤ 1000) (b : Nat) : f_X12_body K R (x + 62) (nI b) (ntL (x + 105) (x + 62) 67 I l) = some (ntL (x + 105) (x + 62) 67 I (l ++ [b])) := by
  have g := ntL_more (row := x + 105) (fo := x + 62) (fld := 67) (I := I) (l := l) (by omega) b
  unfold f_X12_body
  rw [ntL_len]
  by_cases c : 20 ≤ l.length
  · rw [if_pos (show 20 ≤ nI l.length by rw [L20, nI_leI (by omega) (by omega)]; exact c)]
    rw [if_pos c] at g
    unfold f_X12_body_19
    rw [obs, ntL_len, L1, nI_add, g]
  · rw [if_neg (show ¬ 20 ≤ nI l.length by rw [L20, nI_leI (by omega) (by omega)]; exact c), s12_68 h (by omega), obs]
    rw [if_neg c] at g
    unfold f_X12_body_19
    rw [obs, show ∀ v, u2 (ntL (x + 105) (x + 62) 67 I l) (x + 62 + 43) l.length v (x + 62) 67 = nI l.length from fun v => by rw [u2_row (by omega), ntL_len], L1, nI_add, g]
end
