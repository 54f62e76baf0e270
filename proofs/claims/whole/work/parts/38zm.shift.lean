/-! shift -/
def cpO (b a off lo m : Nat) (J : Jm) : Jm := fun z j => if z = b ∧ lo ≤ j ∧ j < lo + m then J a (off + (j - lo)) else J z j
section
variable {b a off lo m z j : Nat} {J : Jm}
theorem cpO_0 : cpO b a off lo 0 J = J := by
  funext z j
  unfold cpO
  rw [if_neg (by omega)]
theorem cpO_row (h : z ≠ b) : cpO b a off lo m J z = J z := by
  funext j
  unfold cpO
  rw [if_neg (fun c => h c.1)]
theorem cpO_in (h : lo ≤ j) (h2 : j < lo + m) : cpO b a off lo m J b j = J a (off + (j - lo)) := if_pos ⟨rfl, h, h2⟩
theorem cpO_out (h : j < lo ∨ lo + m ≤ j) : cpO b a off lo m J b j = J b j := by
  unfold cpO
  rw [if_neg (by omega)]
theorem cpO_st : u2 (cpO b a off lo m J) b (lo + m) (J a (off + m)) = cpO b a off lo (m + 1) J := by
  funext z j
  by_cases c : z = b
  · subst c
    by_cases cj : j = lo + m
    · subst cj; rw [u2_eq, cpO_in (by omega) (by omega), show lo + m - lo = m by omega]
    · rw [u2_ne cj]
      by_cases d : lo ≤ j ∧ j < lo + m
      · rw [cpO_in d.1 d.2, cpO_in d.1 (by omega)]
      · rw [cpO_out (by omega), cpO_out (by omega)]
  · rw [u2_row c, cpO_row c, cpO_row c]
end
section
variable {Z : Nat → Nat} {x n M nr nc NW a t t' p q m k : Nat} {K : Sh} {I I' : Im} {J J' : Jm} {R : Rf} {y : Int32}
theorem isSt {ln : Nat} {v w : Int32} (h : I a 1 = nI ln) (hl : ln ≤ 60) : f_X7_isStretch K I a v w = some (bI (decide (0 ≤ v.toInt ∧ 0 ≤ w.toInt ∧ v.toInt + w.toInt ≤ ln))) := by
  have hv := j_of v
  have b1 := Int32.le_toInt v
  have b2 := Int32.toInt_lt v
  generalize hz : v.toInt = z at hv b1 b2 ⊢
  have hw := j_of w
  have b3 := Int32.le_toInt w
  have b4 := Int32.toInt_lt w
  generalize hz' : w.toInt = z' at hw b3 b4 ⊢
  have c1 : v < 0 ↔ z < 0 := by rw [hv, show (0 : Int32) = jI 0 from rfl, jlt (by omega) (by omega)]
  have c2 : w < 0 ↔ z' < 0 := by rw [hw, show (0 : Int32) = jI 0 from rfl, jlt (by omega) (by omega)]
  have c3 : nI ln < v ↔ (ln : Int) < z := by rw [hv, nI_jI, jlt (by omega) (by omega)]
  unfold f_X7_isStretch
  rw [h]
  by_cases q1 : z < 0
  · rw [if_pos (c1.mpr q1), decide_eq_false (by omega)]; rfl
  rw [if_neg (fun e => q1 (c1.mp e))]
  by_cases q2 : z' < 0
  · rw [if_pos (c2.mpr q2), decide_eq_false (by omega)]; rfl
  rw [if_neg (fun e => q2 (c2.mp e))]
  by_cases q3 : (ln : Int) < z
  · rw [if_pos (c3.mpr q3), decide_eq_false (by omega)]; rfl
  rw [if_neg (fun e => q3 (c3.mp e))]
  have c4 : nI ln - v < w ↔ (ln : Int) - z < z' := by rw [hv, hw, nI_jI, jsub, jlt (by omega) (by omega)]
  by_cases q4 : (ln : Int) - z < z'
  · rw [if_pos (c4.mpr q4), decide_eq_false (by omega)]; rfl
  · rw [if_neg (fun e => q4 (c4.mp e)), decide_eq_true (by omega)]; rfl
theorem m_s141 (hM : S12 (x + 62) K R) (ht : t' < 6) (hq : q + m ≤ 60) : ∀ (r k f : Nat), k + r = m → r < f → f_X12_shift_141 K I R (x + 62) f (nI t') (nI q) (nI m) (nI k) (cpO (x + 108) (x + 109) 0 (60 * t' + q) k J) = some (nI m, cpO (x + 108) (x + 109) 0 (60 * t' + q) m J) := by
  intro r
  induction r with
  | zero =>
    intro k f e1 e2
    obtain ⟨f, rfl⟩ : ∃ f', f = f' + 1 := ⟨f - 1, by omega⟩
    have : k = m := by omega
    subst this
    unfold f_X12_shift_141
    rw [if_pos (Int32.le_refl _)]
  | succ r ih =>
    intro k f e1 e2
    obtain ⟨f, rfl⟩ : ∃ f', f = f' + 1 := ⟨f - 1, by omega⟩
    have st := cpO_st (b := x + 62 + 46) (a := x + 62 + 47) (off := 0) (lo := 60 * t' + q) (m := k) (J := J)
    rw [Nat.zero_add] at st
    unfold f_X12_shift_141
    rw [if_neg (by rw [nI_leI (by omega) (by omega)]; omega), l12_72 hM (by omega), obs, L60, pk_mul, nI_add, nI_add, s12_71 hM (by omega), obs, cpO_row (by omega), L1, nI_add]
    show f_X12_shift_141 K I R (x + 62) f (nI t') (nI q) (nI m) (nI (k + 1)) (u2 (cpO (x + 62 + 46) (x + 62 + 47) 0 (60 * t' + q) k J) (x + 62 + 46) (60 * t' + q + k) (J (x + 62 + 47) k)) = _
    rw [st]
    exact ih (k + 1) f (by omega) (by omega)
theorem m_s104 (hM : S12 (x + 62) K R) (ht : t < 6) (ht' : t' < 6) (hp : p + m ≤ 60) (hq : q + m ≤ 60) : ∀ (r k f : Nat), k + r = m → r < f → f_X12_shift_104 K I R (x + 62) f (nI t) (nI p) (nI t') (nI q) (nI m) (nI k) (cpO (x + 109) (x + 108) (60 * t + p) 0 k J) = some (nI m, cpO (x + 108) (x + 109) 0 (60 * t' + q) m (cpO (x + 109) (x + 108) (60 * t + p) 0 m J)) := by
  intro r
  induction r with
  | zero =>
    intro k f e1 e2
    obtain ⟨f, rfl⟩ : ∃ f', f = f' + 1 := ⟨f - 1, by omega⟩
    have : k = m := by omega
    subst this
    have g := m_s141 (I := I) (J := cpO (x + 109) (x + 108) (60 * t + p) 0 k J) hM ht' hq k 0 FU (by omega) (FU_lt (by omega))
    rw [cpO_0 (b := x + 108)] at g
    unfold f_X12_shift_104
    rw [if_pos (Int32.le_refl _)]
    exact g
  | succ r ih =>
    intro k f e1 e2
    obtain ⟨f, rfl⟩ : ∃ f', f = f' + 1 := ⟨f - 1, by omega⟩
    have st := cpO_st (b := x + 62 + 47) (a := x + 62 + 46) (off := 60 * t + p) (lo := 0) (m := k) (J := J)
    rw [Nat.zero_add] at st
    unfold f_X12_shift_104
    rw [if_neg (by rw [nI_leI (by omega) (by omega)]; omega), L60, pk_mul, nI_add, nI_add, l12_71 hM (by omega), obs, s12_72 hM (by omega), obs, cpO_row (by omega), L1, nI_add]
    show f_X12_shift_104 K I R (x + 62) f (nI t) (nI p) (nI t') (nI q) (nI m) (nI (k + 1)) (u2 (cpO (x + 62 + 47) (x + 62 + 46) (60 * t + p) 0 k J) (x + 62 + 47) k (J (x + 62 + 46) (60 * t + p + k))) = _
    rw [st]
    exact ih (k + 1) f (by omega) (by omega)
theorem k_shift (h : Rel Z x n M K I J R) (v1 v2 v3 v4 v5 : Int32) : ∃ r J1 J2, f_X11_shift K I R x v1 v2 v3 v4 v5 J = some (r, J1) ∧ f_X12_shift K I R (x + 62) v1 v2 v3 v4 v5 J1 = some (r, J2) ∧ Rel Z x n M K I J2 R := by
  have h0 := h
  obtain ⟨hC, hS, hn, hMb, hZ, nr, nc, NW, hG⟩ := h
  obtain ⟨hnum, hru, hca, hnow, hkept, himg, hact, htap, htex, hunr⟩ := RelG_iff.mp hG
  have e1' : ¬ (nI 1 = 0) := by decide
  have e0' : nI 0 = 0 := rfl
  have S12' : S12 (x + 62) K R := hS
  unfold f_X11_shift f_X12_shift
  rcases tape_at hC v1 with ⟨t, t1, t2, t3, t4⟩ | ⟨t3, t4⟩
  · rcases tape_at hC v3 with ⟨u, u1, u2', u3, u4⟩ | ⟨u3, u4⟩
    · have S7t := cS7 hC t2
      have S7u := cS7 hC u2'
      obtain ⟨y1, y2, ⟨ln, y3, y4, y5, y6⟩, y7⟩ := htap t t2
      obtain ⟨w1, w2, ⟨lm, w3, w4, w5, w6⟩, w7⟩ := htap u u2'
      have y5' : I (x + 62 + 45) t = nI ln := y5
      have w5' : I (x + 62 + 45) u = nI lm := w5
      rw [t3, obs, u3, obs, if_neg (by simp), if_neg (by simp), ob_ok (by rw [S7t.1]), obs, ob_ok (by rw [S7u.1]), obs]
      rcases sort_in y1 y2 with ⟨z1, z2, z3⟩ | ⟨z1, z2, z3⟩
      · exact ⟨-11, J, J, by rw [if_pos z1], by rw [t4, obs, if_neg e1', u4, obs, if_neg e1', t1, l12_69 S12' t2, obs, if_pos (show I (x + 62 + 44) t < 0 from z3)], h0⟩
      rcases sort_in w1 w2 with ⟨z4, z5, z6⟩ | ⟨z4, z5, z6⟩
      · exact ⟨-11, J, J, by rw [if_neg z1, if_pos z4], by rw [t4, obs, if_neg e1', u4, obs, if_neg e1', t1, l12_69 S12' t2, obs, if_neg (show ¬ I (x + 62 + 44) t < 0 from z3), u1, l12_69 S12' u2', obs, if_neg (show ¬ 0 ≤ I (x + 62 + 44) u from z5)], h0⟩
      have hd : ∀ J1, (Option.bind (f_X12_isTape K (x + 62) v1) fun q7 =>
  if q7 = 0 then
    some ((-1), J1)
  else
    Option.bind (f_X12_isTape K (x + 62) v3) fun q9 =>
    if q9 = 0 then
      some ((-1), J1)
    else
      Option.bind (ldI K I (R (x + 62) 69) v1) fun v11 =>
      if v11 < 0 then
        some ((-11), J1)
      else
        Option.bind (ldI K I (R (x + 62) 69) v3) fun v12 =>
        if 0 ≤ v12 then
          Option.bind (ldI K I (R (x + 62) 69) v1) fun v13 =>
          Option.bind (ldI K I (R (x + 62) 69) v3) fun v14 =>
          if v13 = v14 then
            if v5 < 0 then
              some ((-13), J1)
            else
              if v2 < 0 then
                some ((-13), J1)
              else
                if v4 < 0 then
                  some ((-13), J1)
                else
                  Option.bind (ldI K I (R (x + 62) 70) v1) fun v15 =>
                  if (v15 - v5) < v2 then
                    some ((-13), J1)
                  else
                    Option.bind (ldI K I (R (x + 62) 70) v3) fun v16 =>
                    if v4 ≤ (v16 - v5) then
                      f_X12_shift_104 K I R (x + 62) FU v1 v2 v3 v4 v5 0 J1
                    else
                      some ((-13), J1)
          else
            some ((-12), J1)
        else
          some ((-11), J1)) = if I (x + 106) t = I (x + 106) u then (if v5 < 0 then some ((-13 : Int32), J1) else if v2 < 0 then some ((-13), J1) else if v4 < 0 then some ((-13), J1) else if nI ln - v5 < v2 then some ((-13), J1) else if v4 ≤ nI lm - v5 then f_X12_shift_104 K I R (x + 62) FU v1 v2 v3 v4 v5 0 J1 else some ((-13), J1)) else some ((-12 : Int32), J1) := fun J1 => by
        rw [t4, obs, if_neg e1', u4, obs, if_neg e1', t1, l12_69 S12' t2, obs, if_neg (show ¬ I (x + 62 + 44) t < 0 from z3), u1, l12_69 S12' u2', obs, if_pos (show 0 ≤ I (x + 62 + 44) u from z5), obs, obs, l12_70 S12' t2, obs, y5', l12_70 S12' u2', obs, w5']
      rw [if_neg z1, if_neg z4, y1, w1]
      by_cases cs : I (x + 106) t = I (x + 106) u
      · rw [if_pos cs, isSt y4 y3, isSt w4 w3]
        have hv2 := j_of v2
        have b1 := Int32.le_toInt v2
        have b2 := Int32.toInt_lt v2
        have hv4 := j_of v4
        have b3 := Int32.le_toInt v4
        have b4 := Int32.toInt_lt v4
        have hv5 := j_of v5
        have b5 := Int32.le_toInt v5
        have b6 := Int32.toInt_lt v5
        generalize hz2 : v2.toInt = i2 at hv2 b1 b2 ⊢
        generalize hz4 : v4.toInt = i4 at hv4 b3 b4 ⊢
        generalize hz5 : v5.toInt = i5 at hv5 b5 b6 ⊢
        have c5 : v5 < 0 ↔ i5 < 0 := by rw [hv5, show (0 : Int32) = jI 0 from rfl, jlt (by omega) (by omega)]
        have c2 : v2 < 0 ↔ i2 < 0 := by rw [hv2, show (0 : Int32) = jI 0 from rfl, jlt (by omega) (by omega)]
        have c4 : v4 < 0 ↔ i4 < 0 := by rw [hv4, show (0 : Int32) = jI 0 from rfl, jlt (by omega) (by omega)]
        by_cases g : 0 ≤ i2 ∧ 0 ≤ i4 ∧ 0 ≤ i5 ∧ i2 + i5 ≤ ln ∧ i4 + i5 ≤ lm
        · obtain ⟨g1, g2, g3, g4, g5⟩ := g
          have ev2 : v2 = nI i2.toNat := by rw [hv2, nI_jI, Int.toNat_of_nonneg g1]
          have ev4 : v4 = nI i4.toNat := by rw [hv4, nI_jI, Int.toNat_of_nonneg g2]
          have ev5 : v5 = nI i5.toNat := by rw [hv5, nI_jI, Int.toNat_of_nonneg g3]
          have d1 : ¬ (nI ln - v5 < v2) := by rw [hv5, hv2, nI_jI, jsub, jlt (by omega) (by omega)]; omega
          have d2 : v4 ≤ nI lm - v5 := by rw [hv5, hv4, nI_jI, jsub, jle (by omega) (by omega)]; omega
          generalize hp : i2.toNat = p at ev2
          generalize hq : i4.toNat = q at ev4
          generalize hm : i5.toNat = m at ev5
          have pm : p + m ≤ 60 := by omega
          have qm : q + m ≤ 60 := by omega
          refine ⟨nI m, fun c j => if c = x + (50 + 2 * u) + 1 then va_cpy (J (x + (50 + 2 * t) + 1)) (J (x + (50 + 2 * u) + 1)) p q m j else J c j, cpO (x + 108) (x + 109) 0 (60 * u + q) m (cpO (x + 109) (x + 108) (60 * t + p) 0 m (fun c j => if c = x + (50 + 2 * u) + 1 then va_cpy (J (x + (50 + 2 * t) + 1)) (J (x + (50 + 2 * u) + 1)) p q m j else J c j)), ?_, ?_, rel_J h0 (fun t' ht' => ?_)⟩
          · rw [obs, decide_eq_true (by omega), if_neg (by decide), obs, decide_eq_true (by omega), if_neg (by decide), r7_2 S7t, r7_2 S7u, ev2, ev4, ev5]
            unfold cpJ
            rw [obs, obs, k7_2 S7t, k7_2 S7u, if_pos]
            · rw [obs, nI_clamp (by omega), nI_clamp (by omega), nI_clamp (by omega)]
            · have nn : ∀ k, k < 100 → ¬ (nI k < 0) := fun k hk => by rw [L0, nI_ltI (by omega) (by omega)]; omega
              rw [nI_clamp (by omega), nI_clamp (by omega), nI_clamp (by omega)]
              exact ⟨⟨rfl, rfl⟩, ⟨nn _ (by omega), nn _ (by omega), nn _ (by omega)⟩, pm, qm⟩
          · rw [hd, if_pos cs, if_neg (fun e => by have := c5.mp e; omega), if_neg (fun e => by have := c2.mp e; omega), if_neg (fun e => by have := c4.mp e; omega), if_neg d1, if_pos d2, t1, u1, ev2, ev4, ev5]
            have gg := m_s104 (I := I) (J := fun c j => if c = x + (50 + 2 * u) + 1 then va_cpy (J (x + (50 + 2 * t) + 1)) (J (x + (50 + 2 * u) + 1)) p q m j else J c j) S12' t2 u2' pm qm m 0 FU (by omega) (FU_lt (by omega))
            rw [cpO_0] at gg
            exact gg
          · obtain ⟨a1, a2, a3, a4⟩ := htap t' ht'
            refine ⟨a1, a2, a3, fun k hk => ?_⟩
            rw [cpO_row (show x + (50 + 2 * t') + 1 ≠ x + 108 by omega), cpO_row (show x + (50 + 2 * t') + 1 ≠ x + 109 by omega)]
            by_cases c : t' = u
            · subst c
              rw [if_pos rfl]
              unfold va_cpy
              by_cases ck : q ≤ k ∧ k < q + m
              · rw [if_pos ck, cpO_in (by omega) (by omega), cpO_in (by omega) (by omega)]
                rw [if_neg (by omega), y7 _ (by omega)]
                congr 1
                omega
              · rw [if_neg ck, cpO_out (by omega), cpO_row (by omega)]
                rw [if_neg (by omega)]
                exact a4 k hk
            · rw [if_neg (by omega), cpO_out (by omega), cpO_row (by omega)]
              rw [if_neg (by omega)]
              exact a4 k hk
        · refine ⟨-13, J, J, ?_, ?_, h0⟩
          · rw [obs]
            by_cases g1 : 0 ≤ i2 ∧ 0 ≤ i5 ∧ i2 + i5 ≤ ln
            · rw [decide_eq_true g1, if_neg (by decide), obs, decide_eq_false (by omega), if_pos (by decide)]
            · rw [decide_eq_false g1, if_pos (by decide)]
          · rw [hd, if_pos cs]
            by_cases a5 : i5 < 0
            · rw [if_pos (c5.mpr a5)]
            rw [if_neg (fun e => a5 (c5.mp e))]
            by_cases a2 : i2 < 0
            · rw [if_pos (c2.mpr a2)]
            rw [if_neg (fun e => a2 (c2.mp e))]
            by_cases a4 : i4 < 0
            · rw [if_pos (c4.mpr a4)]
            rw [if_neg (fun e => a4 (c4.mp e))]
            by_cases a6 : (ln : Int) - i5 < i2
            · rw [if_pos (by rw [hv5, hv2, nI_jI, jsub, jlt (by omega) (by omega)]; exact a6)]
            rw [if_neg (by rw [hv5, hv2, nI_jI, jsub, jlt (by omega) (by omega)]; exact a6), if_neg (by rw [hv5, hv4, nI_jI, jsub, jle (by omega) (by omega)]; omega)]
      · exact ⟨-12, J, J, by rw [if_neg cs], by rw [hd, if_neg cs], h0⟩
    · refine ⟨-1, J, J, ?_, by rw [t4, obs, if_neg e1', u4, obs, if_pos e0'], h0⟩
      rw [t3, obs, u3, obs, if_neg (by simp), if_pos rfl]
  · refine ⟨-1, J, J, ?_, by rw [t4, obs, if_pos e0'], h0⟩
    rcases tape_at hC v3 with ⟨u, u1, u2', u3, u4⟩ | ⟨u3, u4⟩
    · rw [t3, obs, u3, obs, if_pos rfl]
    · rw [t3, obs, u3, obs, if_pos rfl]
end
