/-! feed -/
def byN (v : Int32) (m : Nat) : Int32 := (ishr v (8 * nI m)).toInt8.toInt32
theorem byN_8 (v : Int32) (m : Nat) : (byN v m).toInt8.toInt32 = byN v m := by
  unfold byN
  rw [Int8.toInt8_toInt32]
def fdR (row fo fld : Nat) (v : Int32) : Nat → Nat → Im → Im
  | 0, _, I => I
  | m + 1, len, I => fdR row fo fld v m (len + 1) (u2 (u2 I row len (byN v m)) fo fld (nI (len + 1)))
section
variable {Z : Nat → Nat} {x n n' M M' nr nc NW nc' NW' i q N u o row fo fld : Nat} {v : Int32} {K : Sh} {I I' I1 : Im} {J : Jm} {R R' : Rf} {w c d le la : Nat → Nat} {cs : Nat → List Nat} {E : List Nat} {P : List (Nat × Nat)}
theorem fdR_row (hne : row ≠ fo) {z : Nat} (h1 : z ≠ row) (h2 : z ≠ fo) : ∀ (m len : Nat) (I : Im), fdR row fo fld v m len I z = I z := by
  intro m
  induction m with
  | zero => intro len I; rfl
  | succ m ih =>
    intro len I
    unfold fdR
    rw [ih, u2_row h2, u2_row h1]
theorem fdR_fo (hne : row ≠ fo) {k : Nat} (h2 : k ≠ fld) : ∀ (m len : Nat) (I : Im), fdR row fo fld v m len I fo k = I fo k := by
  intro m
  induction m with
  | zero => intro len I; rfl
  | succ m ih =>
    intro len I
    unfold fdR
    rw [ih, u2_ne h2, u2_row hne.symm]
theorem fdR_fld (hne : row ≠ fo) : ∀ (m len : Nat) (I : Im), I fo fld = nI len → fdR row fo fld v m len I fo fld = nI (len + m) := by
  intro m
  induction m with
  | zero => intro len I h; exact h
  | succ m ih =>
    intro len I h
    unfold fdR
    rw [ih (len + 1) _ (u2_eq _ _ _ _), show len + 1 + m = len + (m + 1) by omega]
theorem fdR_lo (hne : row ≠ fo) : ∀ (m len j : Nat) (I : Im), j < len → fdR row fo fld v m len I row j = I row j := by
  intro m
  induction m with
  | zero => intro len j I h; rfl
  | succ m ih =>
    intro len j I h
    unfold fdR
    rw [ih (len + 1) j _ (by omega), u2_row hne, u2_ne (by omega)]
theorem fdR_hi (hne : row ≠ fo) : ∀ (m len j : Nat) (I : Im), len ≤ j → j < len + m → fdR row fo fld v m len I row j = byN v (len + m - 1 - j) := by
  intro m
  induction m with
  | zero => intro len j I h1 h2; omega
  | succ m ih =>
    intro len j I h1 h2
    unfold fdR
    by_cases c : j = len
    · subst c
      rw [fdR_lo hne m (j + 1) j _ (by omega), u2_row hne, u2_eq, show j + (m + 1) - 1 - j = m by omega]
    · rw [ih (len + 1) j _ (by omega) (by omega), show len + 1 + m - 1 - j = len + (m + 1) - 1 - j by omega]
theorem AF.fd (h : AF x E P I I') {j j' : Nat} (hj : j ∈ E) (hp : (j', fld) ∈ P) (hne : x + j ≠ x + j') (m len : Nat) : AF x E P I (fdR (x + j) (x + j') fld v m len I') := by
  refine ⟨fun z z1 z2 => ?_, fun a k h1 h2 => ?_⟩
  · rw [fdR_row hne (z1 j hj) (z2 _ hp)]; exact h.1 z z1 z2
  · by_cases c : a = j'
    · subst c
      by_cases c2 : k = fld
      · subst c2; exact absurd hp h2
      · rw [fdR_fo hne c2]; exact h.2 a k h1 h2
    · rw [fdR_row hne (fun e => h1 (by rw [show a = j by omega]; exact hj)) (by omega)]; exact h.2 a k h1 h2
theorem down1 (m : Nat) : jI (((m + 1 : Nat) : Int) - 1) = nI m := by
  rw [nI_jI]
  congr 1
  omega
theorem down2 (m : Nat) : nI m - 1 = jI ((m : Int) - 1) := by
  rw [L1, nI_jI, nI_jI, jsub]
  rfl
theorem c_feed33 (hS : S11 x K R) (hS4 : S4 (x + 1) K R) : ∀ (m len k : Nat) (I : Im), m < k → len + m ≤ 100 → I (x + 1) 1 = nI len → f_X11_feed_33 K R x k v (jI ((m : Int) - 1)) I = some (nI (len + m), fdR (x + 2) (x + 1) 1 v m len I) := by
  have o0 := o11_0 hS
  intro m
  induction m with
  | zero =>
    intro len k I hk hl h1
    obtain ⟨k, rfl⟩ : ∃ k', k = k' + 1 := ⟨k - 1, by omega⟩
    unfold f_X11_feed_33
    rw [if_pos (show jI (((0 : Nat) : Int) - 1) < 0 by decide), o0, obs, h1]
    rfl
  | succ m ih =>
    intro len k I hk hl h1
    obtain ⟨k, rfl⟩ : ∃ k', k = k' + 1 := ⟨k - 1, by omega⟩
    have e : f_X4_put K R (x + 1) (byN v m) I = some (u2 (u2 I (x + 2) len (byN v m)) (x + 1) 1 (nI (len + 1))) := by
      unfold f_X4_put
      rw [h1, if_neg (show ¬ 100 ≤ nI len by rw [show (100 : Int32) = nI 100 from rfl, nI_leI (by omega) (by omega)]; omega), s4_0 hS4 (by omega), obs, byN_8, u2_row (show x + 1 ≠ x + 1 + 1 by omega), h1, L1, nI_add]
      rfl
    unfold f_X11_feed_33
    rw [down1, if_neg (show ¬ nI m < 0 by rw [L0, nI_ltI (by omega) (by omega)]; omega), o0, obs]
    show Option.bind (f_X4_put K R (x + 1) (byN v m) I) _ = _
    rw [e, obs, down2, ih (len + 1) k _ (by omega) (by omega) (u2_eq _ _ _ _), show len + 1 + m = len + (m + 1) by omega]
    rfl
theorem m_feed31 (hM : S12 (x + 62) K R) : ∀ (m len k : Nat) (I : Im), m < k → len + m ≤ 100 → I (x + 62) 2 = nI len → f_X12_feed_31 K R (x + 62) k v (jI ((m : Int) - 1)) I = some (nI (len + m), fdR (x + 63) (x + 62) 2 v m len I) := by
  intro m
  induction m with
  | zero =>
    intro len k I hk hl h1
    obtain ⟨k, rfl⟩ : ∃ k', k = k' + 1 := ⟨k - 1, by omega⟩
    unfold f_X12_feed_31
    rw [if_pos (show jI (((0 : Nat) : Int) - 1) < 0 by decide), h1]
    rfl
  | succ m ih =>
    intro len k I hk hl h1
    obtain ⟨k, rfl⟩ : ∃ k', k = k' + 1 := ⟨k - 1, by omega⟩
    unfold f_X12_feed_31
    rw [down1, if_neg (show ¬ nI m < 0 by rw [L0, nI_ltI (by omega) (by omega)]; omega), h1, s12_5 hM (by omega), obs, obs, show ∀ t, u2 I (x + 62 + 1) len t (x + 62) 2 = nI len from fun t => by rw [u2_row (by omega)]; exact h1, L1, nI_add, ← L1, down2]
    show f_X12_feed_31 K R (x + 62) k v (jI ((m : Int) - 1)) (u2 (u2 I (x + 63) len (byN v m)) (x + 62) 2 (nI (len + 1))) = _
    rw [ih (len + 1) k _ (by omega) (by omega) (u2_eq _ _ _ _), show len + 1 + m = len + (m + 1) by omega]
    rfl
theorem k_feed (h : Rel Z x n M K I J R) (v1 v2 : Int32) : ∃ r I1 I2, f_X11_feed K R x v1 v2 I = some (r, I1) ∧ f_X12_feed K R (x + 62) v1 v2 I1 = some (r, I2) ∧ Rel Z x n M K I2 J R := by
  have h0 := h
  obtain ⟨hC, hS, hn, hMb, hZ, nr, nc, NW, hG⟩ := h
  obtain ⟨hnum, hru, hca, hnow, hkept, himg, hact, htap, htex, hunr⟩ := RelG_iff.mp hG
  have e1' : ¬ (nI 1 = 0) := by decide
  have e0' : nI 0 = 0 := rfl
  have S11 := cS11 hC
  have S12' : S12 (x + 62) K R := hS
  unfold f_X11_feed f_X12_feed
  rcases rg v2 0 4 (by omega) (by omega) with ⟨m, p1, p2, p3, p4, p5⟩ | ⟨p4, p5, -⟩
  · have p4 : f_X11_within v2 0 4 = some (nI 1) := p4
    have p5 : ∀ o, f_X12_in o v2 0 4 = some (nI 1) := p5
    obtain ⟨len, l1, l2, l3, l4⟩ := htex
    by_cases c : len + m ≤ 100
    · have F1 : AF x [2, 63] [(1, 1), (62, 2)] I (fdR (x + 2) (x + 1) 1 v1 m len I) := AF.refl.fd (by decide) (by decide) (by omega) m len
      have F2 : AF x [2, 63] [(1, 1), (62, 2)] I (fdR (x + 63) (x + 62) 2 v1 m len (fdR (x + 2) (x + 1) 1 v1 m len I)) := F1.fd (by decide) (by decide) (by omega) m len
      have l3' : fdR (x + 2) (x + 1) 1 v1 m len I (x + 62) 2 = nI len := by rw [fdR_row (by omega) (by omega) (by omega)]; exact l3
      have hd : ∀ z, x + 110 ≤ z → z < n → fdR (x + 63) (x + 62) 2 v1 m len (fdR (x + 2) (x + 1) 1 v1 m len I) z = I z ∧ R z = R z := fun z z1 _ => ⟨F2.d (by decide) (by decide) z1, rfl⟩
      refine ⟨nI (len + m), fdR (x + 2) (x + 1) 1 v1 m len I, fdR (x + 63) (x + 62) 2 v1 m len (fdR (x + 2) (x + 1) 1 v1 m len I), ?_, ?_, hC, hS, hn, hMb, hZ.af F2, nr, nc, NW, RelG_iff.mpr ⟨hnum.af F2 (by decide), hru.af F2 (by decide) hd rfl (Nat.le_refl _), hca.af F2 (by decide) hd rfl rfl (Nat.le_refl _), hnow.af F2 (by decide) hd rfl (Nat.le_refl _) (Nat.le_refl _) (Nat.le_refl _) (Nat.le_refl _), hkept.af F2 (by decide) hd rfl (Nat.le_refl _) (Nat.le_refl _) (Nat.le_refl _) (Nat.le_refl _), himg.af F2 (by decide), hact.af F2 (by decide), htap.af F2 (by decide), ⟨len + m, c, ?_, ?_, fun j hj => ?_⟩, hunr⟩⟩
      · rw [p4, obs, if_neg e1', o11_0 S11, obs, l2, p1, nI_add, if_pos (show nI (len + m) ≤ 100 by rw [show (100 : Int32) = nI 100 from rfl, nI_leI (by omega) (by omega)]; exact c), down2]
        exact c_feed33 S11 (cS4 hC) m len FU I (FU_lt (by omega)) c l2
      · rw [p5, obs, if_neg e1', l3', p1, nI_add, if_pos (show nI (len + m) ≤ 100 by rw [show (100 : Int32) = nI 100 from rfl, nI_leI (by omega) (by omega)]; exact c), down2]
        exact m_feed31 S12' m len FU _ (FU_lt (by omega)) c l3'
      · rw [fdR_row (by omega) (by omega) (by omega)]
        exact fdR_fld (by omega) m len I l2
      · exact fdR_fld (by omega) m len _ l3'
      · rw [fdR_row (z := x + 2) (by omega) (by omega) (by omega)]
        by_cases cj : j < len
        · rw [fdR_lo (by omega) m len j I cj, fdR_lo (by omega) m len j _ cj, fdR_row (z := x + 63) (by omega) (by omega) (by omega)]
          exact l4 j cj
        · rw [fdR_hi (by omega) m len j I (by omega) hj, fdR_hi (by omega) m len j _ (by omega) hj]
    · refine ⟨-4, I, I, ?_, ?_, h0⟩
      · rw [p4, obs, if_neg e1', o11_0 S11, obs, l2, p1, nI_add, if_neg (show ¬ nI (len + m) ≤ 100 by rw [show (100 : Int32) = nI 100 from rfl, nI_leI (by omega) (by omega)]; exact c)]
      · rw [p5, obs, if_neg e1', l3, p1, nI_add, if_neg (show ¬ nI (len + m) ≤ 100 by rw [show (100 : Int32) = nI 100 from rfl, nI_leI (by omega) (by omega)]; exact c)]
  · have p4 : f_X11_within v2 0 4 = some (nI 0) := p4
    have p5 : ∀ o, f_X12_in o v2 0 4 = some (nI 0) := p5
    refine ⟨-2, I, I, ?_, ?_, h0⟩
    · rw [p4, obs, if_pos e0']
    · rw [p5, obs, if_pos e0']
end
