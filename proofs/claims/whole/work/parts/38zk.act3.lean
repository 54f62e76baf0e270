section
variable {Z : Nat → Nat} {x n M nr nc NW r kd k w d lvl : Nat} {v y : Int32} {K : Sh} {I I' : Im} {J : Jm} {R : Rf} {l L : List Nat} {E : List Nat} {P : List (Nat × Nat)}
def ActM (x r kd : Nat) (v : Int32) (K : Sh) (I : Im) (R : Rf) : Prop := S12 (x + 62) K R ∧ r < 10 ∧ I (x + 81) r = nI kd ∧ I (x + 82) r = v ∧ kd ≤ 6
theorem ActM.lk (h : ActM x r kd v K I R) (l : List Nat) : ldI K (ntL (x + 105) (x + 62) 67 I l) (R (x + 62) 30) (nI r) = some (nI kd) := by
  rw [l12_30 h.1 (by have := h.2.1; omega), ntL_row (by omega) (by omega)]
  exact congrArg some h.2.2.1
theorem ActM.lv (h : ActM x r kd v K I R) (l : List Nat) : ldI K (ntL (x + 105) (x + 62) 67 I l) (R (x + 62) 31) (nI r) = some v := by
  rw [l12_31 h.1 (by have := h.2.1; omega), ntL_row (by omega) (by omega)]
  exact congrArg some h.2.2.2.1
theorem m_pl (h : ActM x r kd v K I R) (hl : l.length ≤ 200) : f_X12_plainStands K R (x + 62) (nI r) y (ntL (x + 105) (x + 62) 67 I l) = some ((acS (nI r) y).1, ntL (x + 105) (x + 62) 67 I (l ++ (acS (nI r) y).2)) := by
  unfold f_X12_plainStands
  rw [show f_X12_body K R (x + 62) 10 (ntL (x + 105) (x + 62) 67 I l) = _ from m_note h.1 (by omega) 10, obs]
  rfl
theorem m_ng (h : ActM x r kd v K I R) (hl : l.length ≤ 190) : f_X12_nightStands K R (x + 62) (nI r) y (ntL (x + 105) (x + 62) 67 I l) = some ((acN (nI r) y).1, ntL (x + 105) (x + 62) 67 I (l ++ (acN (nI r) y).2)) := by
  unfold f_X12_nightStands
  rw [show f_X12_body K R (x + 62) 30 (ntL (x + 105) (x + 62) 67 I l) = _ from m_note h.1 (by omega) 30, obs, m_pl h (by simp; omega), obs, List.append_assoc]
  rfl
theorem m_st (h : ActM x r kd v K I R) (hl : l.length ≤ 180) : f_X12_standsAct K R (x + 62) (nI r) y (ntL (x + 105) (x + 62) 67 I l) = some ((acSt kd (nI r) v y).1, ntL (x + 105) (x + 62) 67 I (l ++ (acSt kd (nI r) v y).2)) := by
  have hk := h.2.2.2.2
  have q : ∀ m, m < 10 → (nI kd = nI m ↔ kd = m) := fun m hm => nI_eq (by omega) (by omega)
  have p81 : f_X12_standsAct_81 K R (x + 62) (nI r) y (ntL (x + 105) (x + 62) 67 I l) = some ((acS (nI r) y).1, ntL (x + 105) (x + 62) 67 I (l ++ (acS (nI r) y).2)) := by
    unfold f_X12_standsAct_81
    rw [m_pl h (by omega)]
    rfl
  unfold f_X12_standsAct acSt
  rw [h.lk, obs]
  by_cases c2 : kd = 2
  · rw [if_pos (show nI kd = 2 from (q 2 (by omega)).mpr c2), if_pos c2, m_ng h (by omega)]
    rfl
  rw [if_neg (show ¬ nI kd = 2 from fun e => c2 ((q 2 (by omega)).mp e)), if_neg c2]
  by_cases c3 : kd = 3
  · rw [if_pos (show nI kd = 3 from (q 3 (by omega)).mpr c3), if_neg (by omega), if_neg (by omega)]
    exact p81
  rw [if_neg (show ¬ nI kd = 3 from fun e => c3 ((q 3 (by omega)).mp e))]
  by_cases c4 : kd = 4
  · rw [if_pos (show nI kd = 4 from (q 4 (by omega)).mpr c4), if_pos c4, show f_X12_body K R (x + 62) 50 (ntL (x + 105) (x + 62) 67 I l) = _ from m_note h.1 (by omega) 50, obs, m_pl h (by simp; omega), obs, List.append_assoc]
    rfl
  rw [if_neg (show ¬ nI kd = 4 from fun e => c4 ((q 4 (by omega)).mp e)), if_neg c4]
  by_cases c5 : kd = 5
  · rw [if_pos (show nI kd = 5 from (q 5 (by omega)).mpr c5), if_neg (by omega)]
    exact p81
  rw [if_neg (show ¬ nI kd = 5 from fun e => c5 ((q 5 (by omega)).mp e))]
  by_cases c6 : kd = 6
  · rw [if_pos (show nI kd = 6 from (q 6 (by omega)).mpr c6), if_pos c6, show f_X12_body K R (x + 62) 71 (ntL (x + 105) (x + 62) 67 I l) = _ from m_note h.1 (by omega) 71, obs, m_ng h (by simp; omega), obs]
    dsimp only
    rw [h.lv, obs, List.append_assoc]
    rfl
  rw [if_neg (show ¬ nI kd = 6 from fun e => c6 ((q 6 (by omega)).mp e)), if_neg c6]
  exact p81
theorem m_pd (h : ActM x r kd v K I R) (hl : l.length ≤ 170) : f_X12_plainDraws K R (x + 62) (nI r) y (ntL (x + 105) (x + 62) 67 I l) = some ((acD kd (nI r) v y).1, ntL (x + 105) (x + 62) 67 I (l ++ (acD kd (nI r) v y).2)) := by
  unfold f_X12_plainDraws
  rw [show f_X12_body K R (x + 62) 11 (ntL (x + 105) (x + 62) 67 I l) = _ from m_note h.1 (by omega) 11, obs, m_st h (by simp; omega), obs]
  dsimp only
  rw [h.lv, obs, List.append_assoc]
  rfl
theorem m_wd (h : ActM x r kd v K I R) (hl : l.length ≤ 160) : f_X12_waitDraws K R (x + 62) (nI r) y (ntL (x + 105) (x + 62) 67 I l) = some ((acW kd (nI r) v y).1, ntL (x + 105) (x + 62) 67 I (l ++ (acW kd (nI r) v y).2)) := by
  unfold f_X12_waitDraws
  rw [show f_X12_body K R (x + 62) 20 (ntL (x + 105) (x + 62) 67 I l) = _ from m_note h.1 (by omega) 20, obs, m_pd h (by simp; omega), obs, List.append_assoc]
  rfl
theorem m_dr (h : ActM x r kd v K I R) (hl : l.length ≤ 150) : f_X12_drawsAct K R (x + 62) (nI r) y (ntL (x + 105) (x + 62) 67 I l) = some ((acDr kd (nI r) v y).1, ntL (x + 105) (x + 62) 67 I (l ++ (acDr kd (nI r) v y).2)) := by
  have hk := h.2.2.2.2
  have q : ∀ m, m < 10 → (nI kd = nI m ↔ kd = m) := fun m hm => nI_eq (by omega) (by omega)
  have p88 : f_X12_drawsAct_88 K R (x + 62) (nI r) y (ntL (x + 105) (x + 62) 67 I l) = some ((acD kd (nI r) v y).1, ntL (x + 105) (x + 62) 67 I (l ++ (acD kd (nI r) v y).2)) := by
    unfold f_X12_drawsAct_88
    rw [m_pd h (by omega)]
    rfl
  have p44 : f_X12_drawsAct_44 K R (x + 62) (nI r) y (ntL (x + 105) (x + 62) 67 I l) = some ((acW kd (nI r) v y).1, ntL (x + 105) (x + 62) 67 I (l ++ (acW kd (nI r) v y).2)) := by
    unfold f_X12_drawsAct_44
    rw [m_wd h (by omega)]
    rfl
  unfold f_X12_drawsAct acDr
  rw [h.lk, obs]
  by_cases c1 : kd = 1
  · rw [if_pos (show nI kd = 1 from (q 1 (by omega)).mpr c1), if_pos (Or.inl c1)]
    exact p44
  rw [if_neg (show ¬ nI kd = 1 from fun e => c1 ((q 1 (by omega)).mp e))]
  by_cases c2 : kd = 2
  · rw [if_pos (show nI kd = 2 from (q 2 (by omega)).mpr c2), if_neg (by omega), if_neg (by omega), if_neg (by omega)]
    exact p88
  rw [if_neg (show ¬ nI kd = 2 from fun e => c2 ((q 2 (by omega)).mp e))]
  by_cases c3 : kd = 3
  · rw [if_pos (show nI kd = 3 from (q 3 (by omega)).mpr c3), if_neg (by omega), if_neg (by omega), if_neg (by omega)]
    exact p88
  rw [if_neg (show ¬ nI kd = 3 from fun e => c3 ((q 3 (by omega)).mp e))]
  by_cases c4 : kd = 4
  · rw [if_pos (show nI kd = 4 from (q 4 (by omega)).mpr c4), if_neg (by omega), if_pos c4, show f_X12_body K R (x + 62) 51 (ntL (x + 105) (x + 62) 67 I l) = _ from m_note h.1 (by omega) 51, obs, m_wd h (by simp; omega), obs, List.append_assoc]
    rfl
  rw [if_neg (show ¬ nI kd = 4 from fun e => c4 ((q 4 (by omega)).mp e))]
  by_cases c5 : kd = 5
  · rw [if_pos (show nI kd = 5 from (q 5 (by omega)).mpr c5), if_pos (Or.inr c5)]
    exact p44
  rw [if_neg (show ¬ nI kd = 5 from fun e => c5 ((q 5 (by omega)).mp e)), if_neg (show ¬ (kd = 1 ∨ kd = 5) by omega), if_neg c4]
  by_cases c6 : kd = 6
  · have pl := acD_l (kd := kd) (nm := nI r) (v := v) (y := y)
    rw [if_pos (show nI kd = 6 from (q 6 (by omega)).mpr c6), if_pos c6, show f_X12_body K R (x + 62) 70 (ntL (x + 105) (x + 62) 67 I l) = _ from m_note h.1 (by omega) 70, obs, m_pd h (by simp; omega), obs, m_ng h (by simp only [List.length_append, List.length_cons, List.length_nil]; omega), obs, List.append_assoc, List.append_assoc]
    rfl
  rw [if_neg (show ¬ nI kd = 6 from fun e => c6 ((q 6 (by omega)).mp e)), if_neg c6]
  exact p88
theorem m_pt (h : ActM x r kd v K I R) (hl : l.length ≤ 140) : f_X12_plainTells K R (x + 62) (nI r) y (ntL (x + 105) (x + 62) 67 I l) = some ((acT kd (nI r) v y).1, ntL (x + 105) (x + 62) 67 I (l ++ (acT kd (nI r) v y).2)) := by
  unfold f_X12_plainTells
  rw [show f_X12_body K R (x + 62) 12 (ntL (x + 105) (x + 62) 67 I l) = _ from m_note h.1 (by omega) 12, obs, m_dr h (by simp; omega), obs, List.append_assoc]
  rfl
theorem m_te (h : ActM x r kd v K I R) (hl : l.length ≤ 100) : f_X12_tellsAct K R (x + 62) (nI r) y (ntL (x + 105) (x + 62) 67 I l) = some ((acTe kd (nI r) v y).1, ntL (x + 105) (x + 62) 67 I (l ++ (acTe kd (nI r) v y).2)) := by
  have hk := h.2.2.2.2
  have q : ∀ m, m < 10 → (nI kd = nI m ↔ kd = m) := fun m hm => nI_eq (by omega) (by omega)
  unfold f_X12_tellsAct acTe
  rw [h.lk, obs]
  by_cases c3 : kd = 3
  · have pl := acT_l (kd := kd) (nm := nI r) (v := v) (y := y)
    rw [if_pos (show nI kd = 3 from (q 3 (by omega)).mpr c3), if_pos c3, show f_X12_body K R (x + 62) 40 (ntL (x + 105) (x + 62) 67 I l) = _ from m_note h.1 (by omega) 40, obs, m_pt h (by simp; omega), obs, m_dr h (by simp only [List.length_append, List.length_cons, List.length_nil]; omega), obs, List.append_assoc, List.append_assoc]
    rfl
  rw [if_neg (show ¬ nI kd = 3 from fun e => c3 ((q 3 (by omega)).mp e)), if_neg c3]
  by_cases c5 : kd = 5
  · rw [if_pos (show nI kd = 5 from (q 5 (by omega)).mpr c5), if_pos c5, show f_X12_body K R (x + 62) 60 (ntL (x + 105) (x + 62) 67 I l) = _ from m_note h.1 (by omega) 60, obs, m_pt h (by simp; omega), obs, List.append_assoc]
    rfl
  rw [if_neg (show ¬ nI kd = 5 from fun e => c5 ((q 5 (by omega)).mp e)), if_neg c5, m_pt h (by omega)]
  rfl
theorem AF.nt (h : AF x E P I I') {j j' fld : Nat} (hj : j ∈ E) (hp : (j', fld) ∈ P) : AF x E P I (ntL (x + j) (x + j') fld I' l) := by
  refine ⟨fun z z1 z2 => ?_, fun a k h1 h2 => ?_⟩
  · rw [ntL_row (z2 _ hp) (z1 j hj)]; exact h.1 z z1 z2
  · have ne : a ≠ j := fun e => h1 (e ▸ hj)
    by_cases c : a = j'
    · subst c
      rw [ntL_fo (by omega) (fun e : k = fld => h2 (by rw [e]; exact hp))]; exact h.2 a k h1 h2
    · rw [ntL_row (by omega) (by omega)]; exact h.2 a k h1 h2
theorem act_rel (h : Rel Z x n M K I J R) (hL : L.length ≤ 16) : Rel Z x n M K (ntL (x + 105) (x + 62) 67 (ntL (x + 28) (x + 27) 1 I L) L) J R := by
  obtain ⟨hC, hS, hn, hMb, hZ, nr, nc, NW, hG⟩ := h
  obtain ⟨hnum, hru, hca, hnow, hkept, himg, hact, htap, htex, hunr⟩ := RelG_iff.mp hG
  have F : AF x [28, 105] [(27, 1), (62, 67)] I (ntL (x + 105) (x + 62) 67 (ntL (x + 28) (x + 27) 1 I L) L) := (AF.refl.nt (by decide) (by decide)).nt (by decide) (by decide)
  have hd : ∀ z, x + 110 ≤ z → z < n → ntL (x + 105) (x + 62) 67 (ntL (x + 28) (x + 27) 1 I L) L z = I z ∧ R z = R z := fun z z1 _ => ⟨F.d (by decide) (by decide) z1, rfl⟩
  refine ⟨hC, hS, hn, hMb, hZ.af F, nr, nc, NW, RelG_iff.mpr ⟨hnum.af F (by decide), hru.af F (by decide) hd rfl (Nat.le_refl _), hca.af F (by decide) hd rfl rfl (Nat.le_refl _), hnow.af F (by decide) hd rfl (Nat.le_refl _) (Nat.le_refl _) (Nat.le_refl _) (Nat.le_refl _), hkept.af F (by decide) hd rfl (Nat.le_refl _) (Nat.le_refl _) (Nat.le_refl _) (Nat.le_refl _), himg.af F (by decide), ⟨L.length, by omega, ?_, ntL_len, fun k h1 h2 => ?_⟩, htap.af F (by decide), htex.af F (by decide), hunr⟩⟩
  · rw [ntL_row (by omega) (by omega), ntL_len]
  · rw [ntL_row (z := x + 28) (by omega) (by omega), ntL_at (by omega) h1 h2, ntL_at (by omega) h1 h2]
theorem k_act (h : Rel Z x n M K I J R) (v1 v2 v3 : Int32) : ∃ r I1 I2, f_X11_act Z K R x v1 v2 v3 I = some (r, I1) ∧ f_X12_act K R (x + 62) v1 v2 v3 I1 = some (r, I2) ∧ Rel Z x n M K I2 J R := by
  have h0 := h
  obtain ⟨hC, hS, hn, hMb, hZ, nr, nc, NW, hG⟩ := h
  have hG0 := hG
  obtain ⟨hnum, hru, hca, hnow, hkept, himg, hact, htap, htex, hunr⟩ := RelG_iff.mp hG
  have e1' : ¬ (nI 1 = 0) := by decide
  have e0' : nI 0 = 0 := rfl
  have S11 := cS11 hC
  have oa : ob K 1 (R x 11) = some (x + 27) := o11_11 S11
  have ra : R x 11 = some (x + 27) := r11_11 S11
  have at1 : f_X11_ruleAt K (ntL (x + 28) (x + 27) 1 I []) R x v1 = f_X11_ruleAt K I R x v1 := by
    unfold f_X11_ruleAt
    rw [ntL_row (by omega) (by omega)]
  have at2 : ∀ L, f_X12_isRule K (ntL (x + 105) (x + 62) 67 (ntL (x + 28) (x + 27) 1 I L) []) (x + 62) v1 = f_X12_isRule K I (x + 62) v1 := fun L => by
    unfold f_X12_isRule
    rw [ntL_fo (by omega) (by omega), ntL_row (by omega) (by omega)]
  unfold f_X11_act f_X12_act
  rw [oa, obs, obs, ntL_nil (row := x + 28) (by omega), at1]
  have zero : ∃ r I1 I2, some ((0 : Int32), ntL (x + 28) (x + 27) 1 I []) = some (r, I1) ∧ some ((0 : Int32), ntL (x + 105) (x + 62) 67 I1 []) = some (r, I2) ∧ Rel Z x n M K I2 J R := ⟨0, _, _, rfl, rfl, act_rel h0 (by simp)⟩
  rcases rule_at hC hG0 v1 with ⟨r, a, kd, vv, rn, rw_, q1, q2, q3, q4, q5⟩ | ⟨q4, q5⟩
  · obtain ⟨r1, ⟨s1, s2, s3, s4, s5, s6, s7⟩, r3, r4, r5, r6, r7, r8, r9, r10, r11⟩ := q3
    rw [q4, obs, if_neg (by simp)]
    rcases rg v2 0 2 (by omega) (by omega) with ⟨m, p1, p2, p3, p4, p5⟩ | ⟨p4, p5, -⟩
    · have p4 : f_X11_within v2 0 2 = some (nI 1) := p4
      have p5 : ∀ o, f_X12_in o v2 0 2 = some (nI 1) := p5
      have A : ActH Z x a kd (nI r) (nI vv) K I R := ⟨cS0 hC, hZ, s1.1, s2, s3, r4, s4, s5⟩
      have hnr := hnum.1
      have B : ∀ L, ActM x r kd (nI vv) K (ntL (x + 28) (x + 27) 1 I L) R := fun L => ⟨hS, by omega, by rw [ntL_row (by omega) (by omega)]; exact r8, by rw [ntL_row (by omega) (by omega)]; exact r9, s5⟩
      have o6 : ob K 6 (some a) = some a := A.o6
      have hz : (0 : Nat) ≤ 13 := by omega
      rw [p4, obs, if_neg e1', o6, obs, A.i, s3, ra]
      have cc : m = 0 ∨ m = 1 ∨ m = 2 := by omega
      rcases cc with c | c | c
      · have g := pfS (d := 21) (wI := v2) (lI := 0) (lvl := 0) (y := v3) (l := []) A (by rw [p1, c]) rfl (by omega) (by simp)
        have ll := acSt_l (kd := kd) (nm := nI r) (v := nI vv) (y := v3)
        have g2 := m_st (y := v3) (l := []) (B (acSt kd (nI r) (nI vv) v3).2) (by simp)
        rw [List.nil_append] at g g2
        refine ⟨(acSt kd (nI r) (nI vv) v3).1, ntL (x + 28) (x + 27) 1 I (acSt kd (nI r) (nI vv) v3).2, ntL (x + 105) (x + 62) 67 (ntL (x + 28) (x + 27) 1 I (acSt kd (nI r) (nI vv) v3).2) (acSt kd (nI r) (nI vv) v3).2, ?_, ?_, act_rel h0 (by omega)⟩
        · show Option.bind (F_X0_PF Z K R 24 _ _ _ _ _ _ _) _ = _
          rw [g]
          rfl
        · rw [obs, ntL_nil (row := x + 105) (by omega), at2, q5, obs, if_neg e1', p5, obs, if_neg e1', if_pos (show v2 = 0 by rw [p1, c]; rfl), q1, g2]
          rfl
      · have g := pfD (d := 18) (wI := v2) (lI := 0) (lvl := 0) (y := v3) (l := []) A (by rw [p1, c]) rfl (by omega) (by simp)
        have ll := acDr_l (kd := kd) (nm := nI r) (v := nI vv) (y := v3)
        have g2 := m_dr (y := v3) (l := []) (B (acDr kd (nI r) (nI vv) v3).2) (by simp)
        rw [List.nil_append] at g g2
        refine ⟨(acDr kd (nI r) (nI vv) v3).1, ntL (x + 28) (x + 27) 1 I (acDr kd (nI r) (nI vv) v3).2, ntL (x + 105) (x + 62) 67 (ntL (x + 28) (x + 27) 1 I (acDr kd (nI r) (nI vv) v3).2) (acDr kd (nI r) (nI vv) v3).2, ?_, ?_, act_rel h0 (by omega)⟩
        · show Option.bind (F_X0_PF Z K R 24 _ _ _ _ _ _ _) _ = _
          rw [g]
          rfl
        · rw [obs, ntL_nil (row := x + 105) (by omega), at2, q5, obs, if_neg e1', p5, obs, if_neg e1', if_neg (show ¬ v2 = 0 by rw [p1, c]; decide), if_pos (show v2 = 1 by rw [p1, c]; rfl), q1, g2]
          rfl
      · have g := pfT (d := 16) (wI := v2) (lI := 0) (lvl := 0) (y := v3) (l := []) A (by rw [p1, c]) rfl (by omega) (by simp)
        have ll := acTe_l (kd := kd) (nm := nI r) (v := nI vv) (y := v3)
        have g2 := m_te (y := v3) (l := []) (B (acTe kd (nI r) (nI vv) v3).2) (by simp)
        rw [List.nil_append] at g g2
        refine ⟨(acTe kd (nI r) (nI vv) v3).1, ntL (x + 28) (x + 27) 1 I (acTe kd (nI r) (nI vv) v3).2, ntL (x + 105) (x + 62) 67 (ntL (x + 28) (x + 27) 1 I (acTe kd (nI r) (nI vv) v3).2) (acTe kd (nI r) (nI vv) v3).2, ?_, ?_, act_rel h0 (by omega)⟩
        · show Option.bind (F_X0_PF Z K R 24 _ _ _ _ _ _ _) _ = _
          rw [g]
          rfl
        · rw [obs, ntL_nil (row := x + 105) (by omega), at2, q5, obs, if_neg e1', p5, obs, if_neg e1', if_neg (show ¬ v2 = 0 by rw [p1, c]; decide), if_neg (show ¬ v2 = 1 by rw [p1, c]; decide), q1, g2]
          rfl
    · have p4 : f_X11_within v2 0 2 = some (nI 0) := p4
      have p5 : ∀ o, f_X12_in o v2 0 2 = some (nI 0) := p5
      obtain ⟨r, I1, I2, z1, z2, z3⟩ := zero
      cases z1
      refine ⟨_, _, I2, by rw [p4, obs, if_pos e0'], ?_, z3⟩
      rw [obs, ntL_nil (row := x + 105) (by omega), at2, q5, obs, if_neg e1', p5, obs, if_pos e0']
      exact z2
  · obtain ⟨r, I1, I2, z1, z2, z3⟩ := zero
    cases z1
    refine ⟨_, _, I2, by rw [q4, obs, if_pos rfl], ?_, z3⟩
    rw [obs, ntL_nil (row := x + 105) (by omega), at2, q5, obs, if_pos e0']
    exact z2
def uT (k w : Nat) : Nat := if k = w ∨ w = 0 ∨ (w = 1 ∧ (k = 4 ∨ k = 5)) ∨ (w = 2 ∧ k = 6) then 1 else 0
theorem un_al (h : ZZ Z x K I) : alen K (some (Z 0)) = some (nI 7) := by
  have e := (h.2 0 (by omega)).1
  have := alen_ok (K := K) (a := Z 0) (by rw [e]; omega) (by rw [e]; omega)
  rw [this, e]
  rfl
theorem un_step (h : ZZ Z x K I) {f c : Nat} (hk : k ≤ 6) (hw : w ≤ 6) (hc : c ≤ 6) : f_X11_isUnder_4 Z K I (f + 1) (nI w) (nI k) (nI c) = if k = w then some 1 else if k = 0 then f_X11_isUnder_4 Z K I f (nI w) (-1) (nI (c + 1)) else f_X11_isUnder_4 Z K I f (nI w) (nI (upT k)) (nI (c + 1)) := by
  rw [f_X11_isUnder_4, un_al h, obs, if_neg (show ¬ nI 7 ≤ nI c by rw [nI_leI (by omega) (by omega)]; omega), if_neg (show ¬ nI k < 0 by rw [L0, nI_ltI (by omega) (by omega)]; omega), obs, if_neg (show ¬ nI 7 ≤ nI k by rw [nI_leI (by omega) (by omega)]; omega)]
  by_cases c1 : k = w
  · rw [if_pos c1, if_pos (by rw [c1])]
  · rw [if_neg c1, if_neg (by rw [nI_eq (by omega) (by omega)]; exact c1), ldI_Z h (by omega) (show k < zL 0 by show _ < 7; omega), obs, L1, nI_add]
    by_cases c0 : k = 0
    · rw [if_pos c0, c0]
      rfl
    · rw [if_neg c0, upT_z k (by omega) (by omega)]
theorem un_out (h : ZZ Z x K I) {f c : Nat} (hc : c ≤ 6) {y : Int32} : f_X11_isUnder_4 Z K I (f + 1) y (-1) (nI c) = some 0 := by
  rw [f_X11_isUnder_4, un_al h, obs, if_neg (show ¬ nI 7 ≤ nI c by rw [nI_leI (by omega) (by omega)]; omega), if_pos (by decide)]
theorem un_all (h : ZZ Z x K I) (hk : k ≤ 6) (hw : w ≤ 6) : f_X11_isUnder Z K I (nI k) (nI w) = some (nI (uT k w)) := by
  unfold f_X11_isUnder
  obtain ⟨f, hf⟩ : ∃ f, FU = f + 1 + 1 + 1 + 1 := ⟨FU - 4, by have := FU_lt (n := 5) (by omega); omega⟩
  rw [hf, L0]
  have up1 : ∀ k, k ≤ 6 → upT k ≤ 6 := by
    have : ∀ k, k < 7 → upT k ≤ 6 := by decide
    exact fun k hk => this k (by omega)
  rw [un_step h hk hw (by omega), un_step h (up1 k hk) hw (by omega), un_step h (up1 _ (up1 k hk)) hw (by omega), un_out h (by omega), un_out h (by omega), un_out h (by omega)]
  have fin : ∀ k, k < 7 → ∀ w, w < 7 → (if k = w then uT k w = 1 else if k = 0 then uT k w = 0 else if upT k = w then uT k w = 1 else if upT k = 0 then uT k w = 0 else if upT (upT k) = w then uT k w = 1 else upT (upT k) = 0 ∧ uT k w = 0) := by decide
  have g := fin k (by omega) w (by omega)
  by_cases c1 : k = w
  · rw [if_pos c1] at g ⊢
    rw [g]; rfl
  rw [if_neg c1] at g ⊢
  by_cases c2 : k = 0
  · rw [if_pos c2] at g ⊢
    rw [g]; rfl
  rw [if_neg c2] at g ⊢
  by_cases c3 : upT k = w
  · rw [if_pos c3] at g ⊢
    rw [g]; rfl
  rw [if_neg c3] at g ⊢
  by_cases c4 : upT k = 0
  · rw [if_pos c4] at g ⊢
    rw [g]; rfl
  rw [if_neg c4] at g ⊢
  by_cases c5 : upT (upT k) = w
  · rw [if_pos c5] at g ⊢
    rw [g]; rfl
  rw [if_neg c5] at g ⊢
  rw [if_pos g.1, g.2]; rfl
theorem k_taken (h : Rel Z x n M K I J R) (v1 v2 : Int32) : ∃ r, f_X11_taken Z K I R x v1 v2 = some r ∧ f_X12_taken K I R (x + 62) v1 v2 = some r := by
  have h0 := h
  obtain ⟨hC, hS, hn, hMb, hZ, nr, nc, NW, hG⟩ := h
  have hG0 := hG
  obtain ⟨hnum, -⟩ := RelG_iff.mp hG
  have e1' : ¬ (nI 1 = 0) := by decide
  have e0' : nI 0 = 0 := rfl
  have S12' : S12 (x + 62) K R := hS
  unfold f_X11_taken f_X12_taken
  rcases rg v2 0 6 (by omega) (by omega) with ⟨m, p1, p2, p3, p4, p5⟩ | ⟨p4, p5, -⟩
  · have p4 : f_X11_within v2 0 6 = some (nI 1) := p4
    have p5 : ∀ o, f_X12_in o v2 0 6 = some (nI 1) := p5
    rw [p4, p5, obs, obs, if_neg e1', if_neg e1']
    rcases rule_at hC hG0 v1 with ⟨r, a, kd, vv, rn, rw_, q1, q2, q3, q4, q5⟩ | ⟨q4, q5⟩
    · obtain ⟨r1, ⟨s1, s2, s3, s4, s5, s6, s7⟩, r3, r4, r5, r6, r7, r8, r9, r10, r11⟩ := q3
      have hnr := hnum.1
      have r8 : I (x + 62 + 19) r = nI kd := r8
      have o6 : ob K 6 (some a) = some a := ob_ok (by rw [s1.1])
      rw [q4, obs, if_neg (by simp), q5, obs, if_neg e1', o6, obs, s3, p1, un_all hZ s5 p3, obs, q1, l12_30 S12' (by omega), obs, r8]
      have q : ∀ a b, a < 10 → b < 10 → (nI a = nI b ↔ a = b) := fun a b ha hb => nI_eq (by omega) (by omega)
      by_cases u : uT kd m = 1
      · refine ⟨nI kd, ?_, ?_⟩
        · rw [u, if_neg e1']
        · unfold uT at u
          have uu : kd = m ∨ m = 0 ∨ (m = 1 ∧ (kd = 4 ∨ kd = 5)) ∨ (m = 2 ∧ kd = 6) := by
            by_cases c : kd = m ∨ m = 0 ∨ (m = 1 ∧ (kd = 4 ∨ kd = 5)) ∨ (m = 2 ∧ kd = 6)
            · exact c
            · rw [if_neg c] at u; omega
          by_cases m0 : m = 0
          · rw [if_pos (show nI m = 0 by rw [m0]; rfl)]
          rw [if_neg (show ¬ nI m = 0 by rw [L0, q m 0 (by omega) (by omega)]; exact m0)]
          by_cases mk : kd = m
          · rw [if_pos (by rw [mk])]
          rw [if_neg (by rw [q kd m (by omega) (by omega)]; exact mk)]
          by_cases m1 : m = 1
          · rw [if_pos (show nI m = 1 by rw [m1]; rfl)]
            by_cases k4 : kd = 4
            · rw [if_pos (show nI kd = 4 by rw [k4]; rfl)]
            · rw [if_neg (show ¬ nI kd = 4 by rw [L4, q kd 4 (by omega) (by omega)]; exact k4), if_pos (show nI kd = 5 by rw [show kd = 5 by omega]; rfl)]
          · rw [if_neg (show ¬ nI m = 1 by rw [L1, q m 1 (by omega) (by omega)]; exact m1)]
            unfold f_X12_taken_56
            rw [if_pos (show nI m = 2 by rw [show m = 2 by omega]; rfl), if_pos (show nI kd = 6 by rw [show kd = 6 by omega]; rfl)]
      · have u0 : uT kd m = 0 := by
          unfold uT at u ⊢
          split <;> rename_i c
          · rw [if_pos c] at u; omega
          · rfl
        have uu : ¬ (kd = m ∨ m = 0 ∨ (m = 1 ∧ (kd = 4 ∨ kd = 5)) ∨ (m = 2 ∧ kd = 6)) := fun c => by
          unfold uT at u
          rw [if_pos c] at u
          exact u rfl
        refine ⟨-12, ?_, ?_⟩
        · rw [u0, if_pos e0']
        · have t56 : f_X12_taken_56 K I R (x + 62) (nI m) (nI kd) = some (-12) := by
            unfold f_X12_taken_56
            by_cases m2 : m = 2
            · rw [if_pos (show nI m = 2 by rw [m2]; rfl), if_neg (show ¬ nI kd = 6 by rw [L6, q kd 6 (by omega) (by omega)]; omega)]
            · rw [if_neg (show ¬ nI m = 2 by rw [L2, q m 2 (by omega) (by omega)]; exact m2)]
          rw [if_neg (show ¬ nI m = 0 by rw [L0, q m 0 (by omega) (by omega)]; omega), if_neg (by rw [q kd m (by omega) (by omega)]; omega), t56]
          by_cases m1 : m = 1
          · rw [if_pos (show nI m = 1 by rw [m1]; rfl), if_neg (show ¬ nI kd = 4 by rw [L4, q kd 4 (by omega) (by omega)]; omega), if_neg (show ¬ nI kd = 5 by rw [L5, q kd 5 (by omega) (by omega)]; omega)]
          · rw [if_neg (show ¬ nI m = 1 by rw [L1, q m 1 (by omega) (by omega)]; exact m1)]
    · exact ⟨-11, by rw [q4, obs, if_pos rfl], by rw [q5, obs, if_pos e0']⟩
  · have p4 : f_X11_within v2 0 6 = some (nI 0) := p4
    have p5 : ∀ o, f_X12_in o v2 0 6 = some (nI 0) := p5
    exact ⟨-2, by rw [p4, obs, if_pos e0'], by rw [p5, obs, if_pos e0']⟩
end
