/-! tape, item, read -/
theorem rgm (v : Int32) : ((v = -1 ∨ ∃ s, s ≤ 4 ∧ v = nI s) ∧ f_X11_within v (-1) 4 = some (nI 1) ∧ ∀ o, f_X12_in o v (-1) 4 = some (nI 1)) ∨ (f_X11_within v (-1) 4 = some (nI 0) ∧ ∀ o, f_X12_in o v (-1) 4 = some (nI 0)) := by
  have hv := j_of v
  have b1 := Int32.le_toInt v
  have b2 := Int32.toInt_lt v
  generalize hz : v.toInt = z at hv b1 b2
  have c1 : v < -1 ↔ z < -1 := by rw [hv, show (-1 : Int32) = jI (-1) from rfl, jlt (by omega) (by omega)]
  have c2 : 4 < v ↔ (4 : Int) < z := by rw [hv, show (4 : Int32) = jI 4 from rfl, jlt (by omega) (by omega)]
  unfold f_X11_within f_X12_in
  by_cases q1 : z < -1
  · exact Or.inr ⟨by rw [if_pos (c1.mpr q1)]; rfl, fun o => by rw [if_pos (c1.mpr q1)]; rfl⟩
  by_cases q2 : (4 : Int) < z
  · exact Or.inr ⟨by rw [if_neg (fun e => q1 (c1.mp e)), if_pos (c2.mpr q2)]; rfl, fun o => by rw [if_neg (fun e => q1 (c1.mp e)), if_pos (c2.mpr q2)]; rfl⟩
  refine Or.inl ⟨?_, by rw [if_neg (fun e => q1 (c1.mp e)), if_neg (fun e => q2 (c2.mp e))]; rfl, fun o => by rw [if_neg (fun e => q1 (c1.mp e)), if_neg (fun e => q2 (c2.mp e))]; rfl⟩
  by_cases q3 : z = -1
  · exact Or.inl (by rw [hv, q3]; rfl)
  · exact Or.inr ⟨z.toNat, by omega, by rw [hv, nI_jI, Int.toNat_of_nonneg (by omega)]⟩
def zJ (b lo m : Nat) (J : Jm) : Jm := fun z j => if z = b ∧ lo ≤ j ∧ j < lo + m then 0 else J z j
section
variable {b lo m z j : Nat} {J : Jm}
theorem zJ_0 : zJ b lo 0 J = J := by
  funext z j
  unfold zJ
  rw [if_neg (by omega)]
theorem zJ_row (h : z ≠ b) : zJ b lo m J z = J z := by
  funext j
  unfold zJ
  rw [if_neg (fun c => h c.1)]
theorem zJ_in (h : lo ≤ j) (h2 : j < lo + m) : zJ b lo m J b j = 0 := if_pos ⟨rfl, h, h2⟩
theorem zJ_out (h : j < lo ∨ lo + m ≤ j) : zJ b lo m J b j = J b j := by
  unfold zJ
  rw [if_neg (by omega)]
theorem zJ_st : u2 (zJ b lo m J) b (lo + m) 0 = zJ b lo (m + 1) J := by
  funext z j
  by_cases c : z = b
  · subst c
    by_cases cj : j = lo + m
    · subst cj; rw [u2_eq, zJ_in (by omega) (by omega)]
    · rw [u2_ne cj]
      by_cases d : lo ≤ j ∧ j < lo + m
      · rw [zJ_in d.1 d.2, zJ_in d.1 (by omega)]
      · rw [zJ_out (by omega), zJ_out (by omega)]
  · rw [u2_row c, zJ_row c, zJ_row c]
end
section
variable {Z : Nat → Nat} {x n M nr nc NW a t k : Nat} {K : Sh} {I I' : Im} {J J' : Jm} {R : Rf} {y : Int32}
theorem c_tz (hS : S7 a K R) : ∀ (r k f : Nat), k + r = 60 → r < f → f_X7_become_12 K R a f (nI k) I (zJ (a + 1) 0 k J) = some (I, zJ (a + 1) 0 60 J) := by
  intro r
  induction r with
  | zero =>
    intro k f e1 e2
    obtain ⟨f, rfl⟩ : ∃ f', f = f' + 1 := ⟨f - 1, by omega⟩
    have : k = 60 := by omega
    subst this
    unfold f_X7_become_12
    rw [if_pos (by decide)]
  | succ r ih =>
    intro k f e1 e2
    obtain ⟨f, rfl⟩ : ∃ f', f = f' + 1 := ⟨f - 1, by omega⟩
    have st := zJ_st (b := a + 1) (lo := 0) (m := k) (J := J)
    rw [Nat.zero_add] at st
    unfold f_X7_become_12
    rw [if_neg (by rw [L60, nI_leI (by omega) (by omega)]; omega), s7_2 hS (by omega), obs, st, L1, nI_add]
    exact ih (k + 1) f (by omega) (by omega)
theorem m_tz (hM : S12 (x + 62) K R) (ht : t < 6) : ∀ (r k f : Nat), k + r = 60 → r < f → f_X12_tape_69 K R (x + 62) f (nI t) (nI k) I (zJ (x + 108) (60 * t) k J) = some (1, I, zJ (x + 108) (60 * t) 60 J) := by
  intro r
  induction r with
  | zero =>
    intro k f e1 e2
    obtain ⟨f, rfl⟩ : ∃ f', f = f' + 1 := ⟨f - 1, by omega⟩
    have : k = 60 := by omega
    subst this
    unfold f_X12_tape_69
    rw [if_pos (by decide)]
  | succ r ih =>
    intro k f e1 e2
    obtain ⟨f, rfl⟩ : ∃ f', f = f' + 1 := ⟨f - 1, by omega⟩
    have st := zJ_st (b := x + 62 + 46) (lo := 60 * t) (m := k) (J := J)
    unfold f_X12_tape_69
    rw [if_neg (by rw [L60, nI_leI (by omega) (by omega)]; omega), L60, pk_mul, nI_add, s12_71 hM (by omega), obs, L1, nI_add]
    show f_X12_tape_69 K R (x + 62) f (nI t) (nI (k + 1)) I (u2 (zJ (x + 62 + 46) (60 * t) k J) (x + 62 + 46) (60 * t + k) 0) = _
    rw [st]
    exact ih (k + 1) f (by omega) (by omega)
theorem rel_J (h : Rel Z x n M K I J R) (hT : TapesR x I J') : Rel Z x n M K I J' R := by
  obtain ⟨hC, hS, hn, hMb, hZ, nr, nc, NW, hG⟩ := h
  obtain ⟨hnum, hru, hca, hnow, hkept, himg, hact, htap, htex, hunr⟩ := RelG_iff.mp hG
  exact ⟨hC, hS, hn, hMb, hZ, nr, nc, NW, RelG_iff.mpr ⟨hnum, hru, hca, hnow, hkept, himg, hact, hT, htex, hunr⟩⟩
theorem tE : ∀ t, t < 6 → 50 + 2 * t ∈ ([50, 52, 54, 56, 58, 60, 106, 107] : List Nat) := by decide
/-- a tape becomes of a sort and a length -/
theorem tape_set (h : Rel Z x n M K I J R) (ht : t < 6) {s : Int32} {ln : Nat} (hs : s = -1 ∨ ∃ m, m ≤ 4 ∧ s = nI m) (hl : ln ≤ 60) (hl0 : s = -1 → ln = 0) : f_X11_tape_62 K R x (some (x + (50 + 2 * t))) s (nI ln) I J = some (1, u2 (u2 I (x + (50 + 2 * t)) 0 s) (x + (50 + 2 * t)) 1 (nI ln), zJ (x + (50 + 2 * t) + 1) 0 60 J) ∧
    f_X12_tape_69 K R (x + 62) FU (nI t) 0 (u2 (u2 (u2 (u2 I (x + (50 + 2 * t)) 0 s) (x + (50 + 2 * t)) 1 (nI ln)) (x + 106) t s) (x + 107) t (nI ln)) (zJ (x + (50 + 2 * t) + 1) 0 60 J) = some (1, u2 (u2 (u2 (u2 I (x + (50 + 2 * t)) 0 s) (x + (50 + 2 * t)) 1 (nI ln)) (x + 106) t s) (x + 107) t (nI ln), zJ (x + 108) (60 * t) 60 (zJ (x + (50 + 2 * t) + 1) 0 60 J)) ∧
    Rel Z x n M K (u2 (u2 (u2 (u2 I (x + (50 + 2 * t)) 0 s) (x + (50 + 2 * t)) 1 (nI ln)) (x + 106) t s) (x + 107) t (nI ln)) (zJ (x + 108) (60 * t) 60 (zJ (x + (50 + 2 * t) + 1) 0 60 J)) R := by
  obtain ⟨hC, hS, hn, hMb, hZ, nr, nc, NW, hG⟩ := h
  obtain ⟨hnum, hru, hca, hnow, hkept, himg, hact, htap, htex, hunr⟩ := RelG_iff.mp hG
  have S12' : S12 (x + 62) K R := hS
  have S7' := cS7 hC ht
  refine ⟨?_, ?_, ?_⟩
  · have g := c_tz (I := u2 (u2 I (x + (50 + 2 * t)) 0 s) (x + (50 + 2 * t)) 1 (nI ln)) (J := J) S7' 60 0 FU (by omega) (FU_lt (by omega))
    rw [zJ_0] at g
    unfold f_X11_tape_62
    rw [ob_ok (by rw [S7'.1]), obs]
    unfold f_X7_become
    rw [obs, obs, L0, g]
    rfl
  · have g := m_tz (I := u2 (u2 (u2 (u2 I (x + (50 + 2 * t)) 0 s) (x + (50 + 2 * t)) 1 (nI ln)) (x + 106) t s) (x + 107) t (nI ln)) (J := zJ (x + (50 + 2 * t) + 1) 0 60 J) S12' ht 60 0 FU (by omega) (FU_lt (by omega))
    rw [zJ_0] at g
    exact g
  · have F : AF x [50, 52, 54, 56, 58, 60, 106, 107] [] I (u2 (u2 (u2 (u2 I (x + (50 + 2 * t)) 0 s) (x + (50 + 2 * t)) 1 (nI ln)) (x + 106) t s) (x + 107) t (nI ln)) := (((AF.refl.st (tE t ht)).st (tE t ht)).st (by decide)).st (by decide)
    have hd : ∀ z, x + 110 ≤ z → z < n → u2 (u2 (u2 (u2 I (x + (50 + 2 * t)) 0 s) (x + (50 + 2 * t)) 1 (nI ln)) (x + 106) t s) (x + 107) t (nI ln) z = I z ∧ R z = R z := fun z z1 _ => ⟨F.d (by decide) (by decide) z1, rfl⟩
    refine ⟨hC, hS, hn, hMb, hZ.af F, nr, nc, NW, RelG_iff.mpr ⟨hnum.af F (by decide), hru.af F (by decide) hd rfl (Nat.le_refl _), hca.af F (by decide) hd rfl rfl (Nat.le_refl _), hnow.af F (by decide) hd rfl (Nat.le_refl _) (Nat.le_refl _) (Nat.le_refl _) (Nat.le_refl _), hkept.af F (by decide) hd rfl (Nat.le_refl _) (Nat.le_refl _) (Nat.le_refl _) (Nat.le_refl _), himg.af F (by decide), hact.af F (by decide), fun t' ht' => ?_, htex.af F (by decide), hunr⟩⟩
    by_cases c : t' = t
    · subst c
      refine ⟨?_, ?_, ⟨ln, hl, ?_, ?_, fun e => hl0 ?_⟩, fun k hk => ?_⟩
      · rw [u2_row (by omega), u2_row (by omega), u2_ne (by omega), u2_eq, u2_row (by omega), u2_eq]
      · rw [u2_row (by omega), u2_eq]; exact hs
      · rw [u2_row (by omega), u2_row (by omega), u2_eq]
      · rw [u2_eq]
      · rw [u2_row (by omega), u2_eq] at e; exact e
      · rw [zJ_row (by omega), zJ_in (by omega) (by omega), zJ_in (by omega) (by omega)]
    · obtain ⟨y1, y2, ⟨ln', y3, y4, y5, y6⟩, y7⟩ := htap t' ht'
      have r1 : u2 (u2 (u2 (u2 I (x + (50 + 2 * t)) 0 s) (x + (50 + 2 * t)) 1 (nI ln)) (x + 106) t s) (x + 107) t (nI ln) (x + (50 + 2 * t')) = I (x + (50 + 2 * t')) := by rw [u2_row (by omega), u2_row (by omega), u2_row (by omega), u2_row (by omega)]
      have r2 : u2 (u2 (u2 (u2 I (x + (50 + 2 * t)) 0 s) (x + (50 + 2 * t)) 1 (nI ln)) (x + 106) t s) (x + 107) t (nI ln) (x + 106) t' = I (x + 106) t' := by rw [u2_row (by omega), u2_ne c, u2_row (by omega), u2_row (by omega)]
      have r3 : u2 (u2 (u2 (u2 I (x + (50 + 2 * t)) 0 s) (x + (50 + 2 * t)) 1 (nI ln)) (x + 106) t s) (x + 107) t (nI ln) (x + 107) t' = I (x + 107) t' := by rw [u2_ne c, u2_row (by omega), u2_row (by omega), u2_row (by omega)]
      unfold TapeR
      rw [r1, r2, r3]
      refine ⟨y1, y2, ⟨ln', y3, y4, y5, y6⟩, fun k hk => ?_⟩
      rw [zJ_row (by omega), zJ_row (by omega), zJ_out (by omega), zJ_row (by omega)]
      exact y7 k hk
theorem k_tape (h : Rel Z x n M K I J R) (v1 v2 v3 : Int32) : ∃ r I1 J1 I2 J2, f_X11_tape K R x v1 v2 v3 I J = some (r, I1, J1) ∧ f_X12_tape K R (x + 62) v1 v2 v3 I1 J1 = some (r, I2, J2) ∧ Rel Z x n M K I2 J2 R := by
  have h0 := h
  obtain ⟨hC, hS, hn, hMb, hZ, nr, nc, NW, hG⟩ := h
  have e1' : ¬ (nI 1 = 0) := by decide
  have e0' : nI 0 = 0 := rfl
  have S12' : S12 (x + 62) K R := hS
  unfold f_X11_tape f_X12_tape
  rcases tape_at hC v1 with ⟨t, t1, t2, t3, t4⟩ | ⟨t3, t4⟩
  · rw [t3, obs, if_neg (by simp)]
    rcases rgm v2 with ⟨p1, p2, p3⟩ | ⟨p2, p3⟩
    · rw [p2, obs, if_neg e1']
      rcases p1 with p1 | ⟨s, p1, p4⟩
      · obtain ⟨g1, g2, g3⟩ := tape_set h0 t2 (s := -1) (ln := 0) (Or.inl rfl) (by omega) (fun _ => rfl)
        refine ⟨1, (u2 (u2 I (x + (50 + 2 * t)) 0 (-1)) (x + (50 + 2 * t)) 1 (nI 0)), (zJ (x + (50 + 2 * t) + 1) 0 60 J), (u2 (u2 (u2 (u2 I (x + (50 + 2 * t)) 0 (-1)) (x + (50 + 2 * t)) 1 (nI 0)) (x + 106) t (-1)) (x + 107) t (nI 0)), (zJ (x + 108) (60 * t) 60 (zJ (x + (50 + 2 * t) + 1) 0 60 J)), ?_, ?_, g3⟩
        · rw [if_pos p1]
          unfold f_X11_tape_37
          rw [if_pos p1]
          unfold f_X11_tape_49
          rw [if_pos p1, p1]
          exact g1
        · rw [t4, obs, if_neg e1', p3, obs, if_neg e1', if_pos (show v2 < 0 by rw [p1]; decide)]
          unfold f_X12_tape_33
          rw [if_pos (show v2 < 0 by rw [p1]; decide)]
          unfold f_X12_tape_44
          rw [t1, s12_69 S12' t2, obs, if_neg (show ¬ 0 ≤ v2 by rw [p1]; decide), p1]
          unfold f_X12_tape_65
          rw [s12_70 S12' t2, obs]
          exact g2
      · have n1 : ¬ v2 = -1 := by
          have : ∀ s, s < 5 → ¬ nI s = -1 := by decide
          rw [p4]; exact this s (by omega)
        have n2 : ¬ v2 < 0 := by rw [p4, L0, nI_ltI (by omega) (by omega)]; omega
        have n3 : 0 ≤ v2 := by rw [p4, L0, nI_leI (by omega) (by omega)]; omega
        have hd : ∀ I1 J1, (Option.bind (f_X12_isTape K (x + 62) v1) fun q8 => if q8 = 0 then some ((-1 : Int32), I1, J1) else Option.bind (f_X12_in (x + 62) v2 (-1) 4) fun q10 => if q10 = 0 then some ((-2 : Int32), I1, J1) else if v2 < 0 then f_X12_tape_33 K R (x + 62) v1 v2 v3 I1 J1 else if v3 ≤ 60 then f_X12_tape_33 K R (x + 62) v1 v2 v3 I1 J1 else some ((-2 : Int32), I1, J1)) = if v3 ≤ 60 then f_X12_tape_33 K R (x + 62) v1 v2 v3 I1 J1 else some ((-2 : Int32), I1, J1) := fun I1 J1 => by
          rw [t4, obs, if_neg e1', p3, obs, if_neg e1', if_neg n2]
        rw [if_neg n1]
        by_cases c60 : v3 ≤ 60
        · rw [if_pos c60]
          have hc60 := c60
          unfold f_X11_tape_37
          rw [if_neg n1]
          by_cases c0 : 0 ≤ v3
          · have hc0 := c0
            rw [if_pos c0]
            have hv := j_of v3
            have b1 := Int32.le_toInt v3
            have b2 := Int32.toInt_lt v3
            generalize hz : v3.toInt = z at hv b1 b2
            rw [hv, show (60 : Int32) = jI 60 from rfl, jle (by omega) (by omega)] at c60
            rw [hv, show (0 : Int32) = jI 0 from rfl, jle (by omega) (by omega)] at c0
            have ev : v3 = nI z.toNat := by rw [hv, nI_jI, Int.toNat_of_nonneg c0]
            obtain ⟨g1, g2, g3⟩ := tape_set h0 t2 (s := v2) (ln := z.toNat) (Or.inr ⟨s, p1, p4⟩) (by omega) (fun e => absurd e n1)
            refine ⟨1, (u2 (u2 I (x + (50 + 2 * t)) 0 v2) (x + (50 + 2 * t)) 1 (nI z.toNat)), (zJ (x + (50 + 2 * t) + 1) 0 60 J), (u2 (u2 (u2 (u2 I (x + (50 + 2 * t)) 0 v2) (x + (50 + 2 * t)) 1 (nI z.toNat)) (x + 106) t v2) (x + 107) t (nI z.toNat)), (zJ (x + 108) (60 * t) 60 (zJ (x + (50 + 2 * t) + 1) 0 60 J)), ?_, ?_, g3⟩
            · unfold f_X11_tape_49
              rw [if_neg n1, ev]
              exact g1
            · rw [hd, if_pos hc60]
              unfold f_X12_tape_33
              rw [if_neg n2, if_pos hc0]
              unfold f_X12_tape_44
              rw [t1, s12_69 S12' t2, obs, if_pos n3]
              unfold f_X12_tape_65
              rw [s12_70 S12' t2, obs, ev]
              exact g2
          · exact ⟨-14, I, J, I, J, by rw [if_neg c0], by rw [hd, if_pos hc60, f_X12_tape_33, if_neg n2, if_neg c0], h0⟩
        · exact ⟨-2, I, J, I, J, by rw [if_neg c60], by rw [hd, if_neg c60], h0⟩
    · exact ⟨-2, I, J, I, J, by rw [p2, obs, if_pos e0'], by rw [t4, obs, if_neg e1', p3, obs, if_pos e0'], h0⟩
  · exact ⟨-1, I, J, I, J, by rw [t3, obs, if_pos rfl], by rw [t4, obs, if_pos e0'], h0⟩
theorem sort_in (h : I (x + (50 + 2 * t)) 0 = I (x + 106) t) (h2 : I (x + 106) t = -1 ∨ ∃ s, s ≤ 4 ∧ I (x + 106) t = nI s) : (I (x + (50 + 2 * t)) 0 = -1 ∧ ¬ (0 ≤ I (x + 106) t) ∧ I (x + 106) t < 0) ∨ (¬ (I (x + (50 + 2 * t)) 0 = -1) ∧ 0 ≤ I (x + 106) t ∧ ¬ (I (x + 106) t < 0)) := by
  rcases h2 with e | ⟨s, s1, e⟩
  · exact Or.inl ⟨by rw [h, e], by rw [e]; decide, by rw [e]; decide⟩
  · have : ∀ s, s < 5 → ¬ nI s = -1 := by decide
    exact Or.inr ⟨by rw [h, e]; exact this s (by omega), by rw [e, L0, nI_leI (by omega) (by omega)]; omega, by rw [e, L0, nI_ltI (by omega) (by omega)]; omega⟩
theorem narrow_eq (h : I (x + (50 + 2 * t)) 0 = I (x + 106) t) {s : Nat} (hs : s ≤ 4) (h2 : I (x + 106) t = nI s) (u : Int64) (o : Nat) : ∃ w, f_X7_narrowed K I (x + (50 + 2 * t)) u = some w ∧ f_X12_narrow o (I (x + 106) t) u = some w := by
  unfold f_X7_narrowed f_X12_narrow
  rw [h, h2]
  have cc : s = 0 ∨ s = 1 ∨ s = 2 ∨ s = 3 ∨ s = 4 := by omega
  rcases cc with c | c | c | c | c <;> subst c
  · exact ⟨_, if_pos (by decide), if_pos (by decide)⟩
  · exact ⟨_, by rw [if_neg (by decide), if_pos (by decide)], by rw [if_neg (by decide), if_pos (by decide)]⟩
  · exact ⟨_, by rw [if_neg (by decide), if_neg (by decide), if_pos (by decide)], by rw [if_neg (by decide), if_neg (by decide), if_pos (by decide)]⟩
  · exact ⟨_, by rw [if_neg (by decide), if_neg (by decide), if_neg (by decide), if_pos (by decide)], by rw [if_neg (by decide), if_neg (by decide), if_neg (by decide), if_neg (by decide)]⟩
  · by_cases z : lg_cmp u 0 = 0
    · exact ⟨0, by rw [if_neg (by decide), if_neg (by decide), if_neg (by decide), if_neg (by decide), if_pos z], by rw [if_neg (by decide), if_neg (by decide), if_neg (by decide), if_pos (by decide), if_pos z]⟩
    · exact ⟨1, by rw [if_neg (by decide), if_neg (by decide), if_neg (by decide), if_neg (by decide), if_neg z], by rw [if_neg (by decide), if_neg (by decide), if_neg (by decide), if_pos (by decide), if_neg z]⟩
theorem k_item (h : Rel Z x n M K I J R) (v1 v2 : Int32) (u : Int64) : ∃ r J1 J2, f_X11_item K I R x v1 v2 u J = some (r, J1) ∧ f_X12_item K I R (x + 62) v1 v2 u J1 = some (r, J2) ∧ Rel Z x n M K I J2 R := by
  have h0 := h
  obtain ⟨hC, hS, hn, hMb, hZ, nr, nc, NW, hG⟩ := h
  obtain ⟨hnum, hru, hca, hnow, hkept, himg, hact, htap, htex, hunr⟩ := RelG_iff.mp hG
  have e1' : ¬ (nI 1 = 0) := by decide
  have e0' : nI 0 = 0 := rfl
  have S12' : S12 (x + 62) K R := hS
  unfold f_X11_item f_X12_item
  rcases tape_at hC v1 with ⟨t, t1, t2, t3, t4⟩ | ⟨t3, t4⟩
  · have S7' := cS7 hC t2
    obtain ⟨y1, y2, ⟨ln, y3, y4, y5, y6⟩, y7⟩ := htap t t2
    have y5' : I (x + 62 + 45) t = nI ln := y5
    rw [t3, obs, if_neg (by simp), ob_ok (by rw [S7'.1]), obs]
    rcases sort_in y1 y2 with ⟨z1, z2, z3⟩ | ⟨z1, z2, z3⟩
    · exact ⟨-11, J, J, by rw [if_pos z1], by rw [t4, obs, if_neg e1', t1, l12_69 S12' t2, obs, if_neg (show ¬ 0 ≤ I (x + 62 + 44) t from z2)], h0⟩
    · rw [if_neg z1]
      rcases at_lt v2 ln (by omega) with ⟨p, p1, p2, p3, p4, p5⟩ | ⟨p1, p2⟩
      · obtain ⟨s, s1, s2⟩ : ∃ s, s ≤ 4 ∧ I (x + 106) t = nI s := by
          rcases y2 with e | e
          · rw [e] at z2; exact absurd z2 (by decide)
          · exact e
        obtain ⟨w, w1, w2⟩ := narrow_eq (K := K) y1 s1 s2 u (x + 62)
        refine ⟨1, u2 J (x + (50 + 2 * t) + 1) p w, u2 (u2 J (x + (50 + 2 * t) + 1) p w) (x + 108) (60 * t + p) w, ?_, ?_, rel_J h0 (fun t' ht' => ?_)⟩
        · unfold f_X7_isPlace
          rw [y4, if_neg (show ¬ v2 < 0 from p3), if_neg p4, obs, if_neg (by decide), w1, obs, p1, s7_2 S7' (by omega)]
          rfl
        · have p5 : ∀ o, f_X12_in o v2 0 (nI ln - nI 1) = some (nI 1) := p5
          have w2' : f_X12_narrow (x + 62) (I (x + 62 + 44) t) u = some w := w2
          rw [t4, obs, if_neg e1', t1, l12_69 S12' t2, obs, if_pos (show 0 ≤ I (x + 62 + 44) t from z2), l12_70 S12' t2, obs, y5', L1, p5, obs, if_neg e1', obs, w2', obs, p1, L60, pk_mul, nI_add, s12_71 S12' (by omega)]
          rfl
        · obtain ⟨a1, a2, a3, a4⟩ := htap t' ht'
          refine ⟨a1, a2, a3, fun k hk => ?_⟩
          by_cases c : t' = t ∧ k = p
          · obtain ⟨rfl, rfl⟩ := c
            rw [u2_row (by omega), u2_eq, u2_eq]
          · rw [u2_row (by omega), u2_ne (show 60 * t' + k ≠ 60 * t + p by omega), u2_row (show x + 108 ≠ x + (50 + 2 * t) + 1 by omega)]
            by_cases c2 : t' = t
            · subst c2
              rw [u2_ne (by omega)]; exact a4 k hk
            · rw [u2_row (by omega)]; exact a4 k hk
      · have p2 : ∀ o, f_X12_in o v2 0 (nI ln - nI 1) = some (nI 0) := p2
        refine ⟨-13, J, J, ?_, by rw [t4, obs, if_neg e1', t1, l12_69 S12' t2, obs, if_pos (show 0 ≤ I (x + 62 + 44) t from z2), l12_70 S12' t2, obs, y5', L1, p2, obs, if_pos e0'], h0⟩
        unfold f_X7_isPlace
        rw [y4]
        rcases p1 with p1 | ⟨p1, p3⟩
        · rw [if_pos (show v2 < 0 from p1)]; rfl
        · rw [if_neg (show ¬ v2 < 0 from p1), if_pos p3]; rfl
  · exact ⟨-1, J, J, by rw [t3, obs, if_pos rfl], by rw [t4, obs, if_pos e0'], h0⟩
theorem k_read (h : Rel Z x n M K I J R) (v1 v2 : Int32) : ∃ r, f_X11_read K I J R x v1 v2 = some r ∧ f_X12_read K I J R (x + 62) v1 v2 = some r := by
  have h0 := h
  obtain ⟨hC, hS, hn, hMb, hZ, nr, nc, NW, hG⟩ := h
  obtain ⟨hnum, hru, hca, hnow, hkept, himg, hact, htap, htex, hunr⟩ := RelG_iff.mp hG
  have e1' : ¬ (nI 1 = 0) := by decide
  have e0' : nI 0 = 0 := rfl
  have S12' : S12 (x + 62) K R := hS
  unfold f_X11_read f_X12_read
  rcases tape_at hC v1 with ⟨t, t1, t2, t3, t4⟩ | ⟨t3, t4⟩
  · have S7' := cS7 hC t2
    obtain ⟨y1, y2, ⟨ln, y3, y4, y5, y6⟩, y7⟩ := htap t t2
    have y5' : I (x + 62 + 45) t = nI ln := y5
    rw [t3, obs, if_neg (by simp), ob_ok (by rw [S7'.1]), obs]
    unfold f_X7_isPlace
    rw [y4]
    rcases at_lt v2 ln (by omega) with ⟨p, p1, p2, p3, p4, p5⟩ | ⟨p1, p2⟩
    · have z3 : ¬ (I (x + 62 + 44) t < 0) := by
        rcases sort_in y1 y2 with ⟨z1, z2, z3⟩ | ⟨z1, z2, z3⟩
        · rcases y2 with e | ⟨s, s1, s2⟩
          · have := y6 e; omega
          · rw [s2] at z2
            exact absurd (show 0 ≤ nI s by rw [L0, nI_leI (by omega) (by omega)]; omega) z2
        · exact z3
      have p5 : ∀ o, f_X12_in o v2 0 (nI ln - nI 1) = some (nI 1) := p5
      refine ⟨J (x + 108) (60 * t + p), ?_, ?_⟩
      · rw [if_neg (show ¬ v2 < 0 from p3), if_neg p4, obs, if_neg (by decide), p1, l7_2 S7' (by omega), obs, y7 p (by omega)]
      · rw [t4, obs, if_neg e1', t1, l12_69 S12' t2, obs, if_neg z3, l12_70 S12' t2, obs, y5', L1, p5, obs, if_neg e1', p1, L60, pk_mul, nI_add, l12_71 S12' (by omega)]
        rfl
    · have p2 : ∀ o, f_X12_in o v2 0 (nI ln - nI 1) = some (nI 0) := p2
      refine ⟨-9223372036854775808, ?_, ?_⟩
      · rcases p1 with p1 | ⟨p1, p3⟩
        · rw [if_pos (show v2 < 0 from p1)]; rfl
        · rw [if_neg (show ¬ v2 < 0 from p1), if_pos p3]; rfl
      · rw [t4, obs, if_neg e1', t1, l12_69 S12' t2, obs]
        by_cases c : I (x + 62 + 44) t < 0
        · rw [if_pos c]
        · rw [if_neg c, l12_70 S12' t2, obs, y5', L1, p2, obs, if_pos e0']
  · exact ⟨_, by rw [t3, obs, if_pos rfl], by rw [t4, obs, if_pos e0']⟩
end
