/-! of: what is told of the waste -/
theorem told_at (v : Int32) : (∃ m, v = nI m ∧ (m ≤ 3 ∨ (10 ≤ m ∧ m ≤ 14) ∨ (20 ≤ m ∧ m ≤ 24) ∨ (30 ≤ m ∧ m ≤ 35)) ∧ (∀ K I R o, f_X11_of K I R o v = f_X11_of_44 K I R o v) ∧ ∀ K o, f_X12_isTold K o v = some (nI 1)) ∨ ((∀ K I R o, f_X11_of K I R o v = some (-1)) ∧ ∀ K o, f_X12_isTold K o v = some (nI 0)) := by
  have e1' : ¬ (nI 1 = 0) := by decide
  have e0' : nI 0 = 0 := rfl
  rcases rg v 0 3 (by omega) (by omega) with ⟨m, p1, p2, p3, p4, p5⟩ | ⟨p4, p5, -⟩
  · have p4 : f_X11_within v 0 3 = some (nI 1) := p4
    have p5 : ∀ o, f_X12_in o v 0 3 = some (nI 1) := p5
    refine Or.inl ⟨m, p1, Or.inl p3, fun K I R o => ?_, fun K o => ?_⟩
    · unfold f_X11_of
      rw [p4, obs, if_neg e1']
    · unfold f_X12_isTold
      rw [p5, obs, if_neg e1']
      rfl
  · have p4 : f_X11_within v 0 3 = some (nI 0) := p4
    have p5 : ∀ o, f_X12_in o v 0 3 = some (nI 0) := p5
    rcases rg v 10 14 (by omega) (by omega) with ⟨m, q1, q2, q3, q4, q5⟩ | ⟨q4, q5, -⟩
    · have q4 : f_X11_within v 10 14 = some (nI 1) := q4
      have q5 : ∀ o, f_X12_in o v 10 14 = some (nI 1) := q5
      refine Or.inl ⟨m, q1, Or.inr (Or.inl ⟨q2, q3⟩), fun K I R o => ?_, fun K o => ?_⟩
      · unfold f_X11_of
        rw [p4, obs, if_pos e0', q4, obs, if_neg e1']
      · unfold f_X12_isTold
        rw [p5, obs, if_pos e0', q5, obs, if_neg e1']
        rfl
    · have q4 : f_X11_within v 10 14 = some (nI 0) := q4
      have q5 : ∀ o, f_X12_in o v 10 14 = some (nI 0) := q5
      rcases rg v 20 24 (by omega) (by omega) with ⟨m, r1, r2, r3, r4, r5⟩ | ⟨r4, r5, -⟩
      · have r4 : f_X11_within v 20 24 = some (nI 1) := r4
        have r5 : ∀ o, f_X12_in o v 20 24 = some (nI 1) := r5
        refine Or.inl ⟨m, r1, Or.inr (Or.inr (Or.inl ⟨r2, r3⟩)), fun K I R o => ?_, fun K o => ?_⟩
        · unfold f_X11_of
          rw [p4, obs, if_pos e0', q4, obs, if_pos e0', r4, obs, if_neg e1']
        · unfold f_X12_isTold
          rw [p5, obs, if_pos e0', q5, obs, if_pos e0', r5, obs, if_neg e1']
          rfl
      · have r4 : f_X11_within v 20 24 = some (nI 0) := r4
        have r5 : ∀ o, f_X12_in o v 20 24 = some (nI 0) := r5
        rcases rg v 30 35 (by omega) (by omega) with ⟨m, s1, s2, s3, s4, s5⟩ | ⟨s4, s5, -⟩
        · have s4 : f_X11_within v 30 35 = some (nI 1) := s4
          have s5 : ∀ o, f_X12_in o v 30 35 = some (nI 1) := s5
          refine Or.inl ⟨m, s1, Or.inr (Or.inr (Or.inr ⟨s2, s3⟩)), fun K I R o => ?_, fun K o => ?_⟩
          · unfold f_X11_of
            rw [p4, obs, if_pos e0', q4, obs, if_pos e0', r4, obs, if_pos e0', s4, obs, if_neg e1']
          · unfold f_X12_isTold
            rw [p5, obs, if_pos e0', q5, obs, if_pos e0', r5, obs, if_pos e0', s5, obs, if_neg e1']
            rfl
        · have s4 : f_X11_within v 30 35 = some (nI 0) := s4
          have s5 : ∀ o, f_X12_in o v 30 35 = some (nI 0) := s5
          refine Or.inr ⟨fun K I R o => ?_, fun K o => ?_⟩
          · unfold f_X11_of
            rw [p4, obs, if_pos e0', q4, obs, if_pos e0', r4, obs, if_pos e0', s4, obs, if_pos e0']
          · unfold f_X12_isTold
            rw [p5, obs, if_pos e0', q5, obs, if_pos e0', r5, obs, if_pos e0', s5, obs, if_pos e0']
            rfl
section
variable {Z : Nat → Nat} {x n M nr nc NW i q N W cy sd h : Nat} {K : Sh} {I I1 : Im} {J : Jm} {R R1 : Rf} {w c d le la hr fu gi : Nat → Nat} {cs : Nat → List Nat} {d1 : Nat → Nat → Nat → Nat}
theorem div10 {m a : Nat} (hm : m < 2 ^ 31) (h : m / 10 = a) : nI m / 10 = nI a := by
  rw [L10, idiv_nI hm (by omega) (by omega), h]
theorem k_of (h : Rel Z x n M K I J R) (v1 : Int32) : ∃ r I2, f_X11_of K I R x v1 = some r ∧ f_X12_of K R (x + 62) v1 I = some (r, I2) ∧ Rel Z x n M K I2 J R := by
  have h0 := h
  obtain ⟨hC, hS, hn, hMb, hZ, nr, nc, NW, hG⟩ := h
  obtain ⟨hnum, hru, hca, hnow, -⟩ := RelG_iff.mp hG
  have e1' : ¬ (nI 1 = 0) := by decide
  have e0' : nI 0 = 0 := rfl
  have S11 := cS11 hC
  have S12' : S12 (x + 62) K R := hS
  have o7 : ob K 7 (R x 7) = some (x + 8) := o11_7 S11
  unfold f_X12_of
  rcases told_at v1 with ⟨m, s1, s2, s3, s4⟩ | ⟨s3, s4⟩
  · rcases hnow.1 with ⟨t1, t2⟩ | ⟨i, q, N, w, c, d, cs, le, la, t1, t2, t3⟩
    · refine ⟨-3, I, ?_, ?_, h0⟩
      · rw [s3, f_X11_of_44, o7, obs, if_pos t2]
      · rw [s4, obs, if_neg e1', t1, if_neg no_neg1]
    · have hi5 : i < 5 := by have := hnum.2.2.1; omega
      have nn : ¬ (R (x + 8) 0 = none) := by rw [t3.1]; simp
      have hV := t3.2.1.2.2.2.1
      have o9 : ob K 10 (R (x + 8) 0) = some q := by rw [t3.1]; exact ob9 hV.1
      have hW5 := wlN_le w N
      obtain ⟨I2, f1, f2, f3⟩ := lay_R (P := fun I1 => FM (x + 62) layS [21] I I1 ∧ LayG (x + 62) (wlN w N) M I1 (wlV w c N) (wlV w d N) (wyV w c N) le la) S12' hi5 t1 t3 (fun I1 a b => ⟨a, b⟩)
      have Q2 : QF x I I2 := QF.fm f2 (by decide) (by decide)
      have f3 : LayG (x + 62) (wlN w N) M I2 (wlV w c N) (wlV w d N) (wyV w c N) le la := f3
      have hW := t3.2.1.2.2.2.2.2.2.2
      have t3' : WasteR x i q N w c d cs K I2 R := t3.2.1.qf Q2 QR.refl
      have ti2 : I2 (x + 62) 1 = nI i := by rw [f2.fld (by decide) (by decide)]; exact t1
      have R2 := h0.qf Q2 QR.refl hC hS
      have key : ∃ r, f_X11_of_44 K I R x v1 = some r ∧ (if v1 = 0 then
        some ((I2 (x + 62) 21), I2)
      else
        if 4 ≤ v1 then
          if v1 < 30 then
            if (irem v1 10) < (I2 (x + 62) 21) then
              if 20 ≤ v1 then
                Option.bind (ldI K I2 (R (x + 62) 23) (irem v1 10)) fun v5 =>
                some (v5, I2)
              else
                Option.bind (ldI K I2 (R (x + 62) 22) (irem v1 10)) fun v6 =>
                some (v6, I2)
            else
              some ((-1), I2)
          else
            if (I2 (x + 62) 21) < (irem v1 10) then
              some ((-1), I2)
            else
              Option.bind (ldI K I2 (R (x + 62) 24) (irem v1 10)) fun v9 =>
              some (v9, I2)
        else
          if v1 = 1 then
            Option.bind (f_X12_last K I2 R (x + 62) 3 10) fun q17 =>
            some (q17, I2)
          else
            if v1 = 2 then
              Option.bind (f_X12_last K I2 R (x + 62) 4 1) fun q14 =>
              some (q14, I2)
            else
              Option.bind (f_X12_last K I2 R (x + 62) 5 0) fun q12 =>
              some (q12, I2)) = some (r, I2) := by
        have lst : ∀ s e, s ≤ 5 → f_X12_last K I2 R (x + 62) (nI s) (nI e) = some (nI (laV w c s e N)) := fun s e hs => m_last S12' hs hi5 t3'.1 ti2
        have l1 : f_X12_last K I2 R (x + 62) 3 (nI 10) = some (nI (laV w c 3 10 N)) := lst 3 10 (by omega)
        have l2 : f_X12_last K I2 R (x + 62) 4 1 = some (nI (laV w c 4 1 N)) := lst 4 1 (by omega)
        have l3 : f_X12_last K I2 R (x + 62) 5 0 = some (nI (laV w c 5 0 N)) := lst 5 0 (by omega)
        subst s1
        unfold f_X11_of_44
        rw [o7, obs, if_neg nn, o9, obs]
        simp only [L10, irem_nI (show m < 2 ^ 31 by omega) (show 0 < 10 by omega) (show 10 < 2 ^ 31 by omega), idiv_nI (show m < 2 ^ 31 by omega) (show 0 < 10 by omega) (show 10 < 2 ^ 31 by omega)]
        rcases s2 with z | z | z | z
        · have hd : m / 10 = 0 := by omega
          have hm : m % 10 = m := by omega
          rw [hd, hm, if_pos e0', if_neg (show ¬ 4 ≤ nI m by rw [L4, nI_leI (by omega) (by omega)]; omega)]
          unfold f_X9_figure
          have cc : m = 0 ∨ m = 1 ∨ m = 2 ∨ m = 3 := by omega
          rcases cc with z | z | z | z <;> subst z
          · exact ⟨nI (wlN w N), by rw [if_pos e0', hV.2.1]; rfl, by rw [if_pos e0', f3.1]⟩
          · refine ⟨nI (laV w c 3 10 N), ?_, ?_⟩
            · rw [if_neg (by decide), if_pos (by decide), hV.2.2.2.2.1]
              rfl
            · rw [if_neg (by decide), if_pos (by decide), l1]
              rfl
          · refine ⟨nI (laV w c 4 1 N), ?_, ?_⟩
            · rw [if_neg (by decide), if_neg (by decide), if_pos (by decide), t3.2.1.2.2.2.2.2.1]
              rfl
            · rw [if_neg (by decide), if_neg (by decide), if_pos (by decide), l2]
              rfl
          · refine ⟨nI (laV w c 5 0 N), ?_, ?_⟩
            · rw [if_neg (by decide), if_neg (by decide), if_neg (by decide), hV.2.2.2.2.2.2.1]
              rfl
            · rw [if_neg (by decide), if_neg (by decide), if_neg (by decide), l3]
              rfl
        · have hd : m / 10 = 1 := by omega
          have hm : m % 10 = m - 10 := by omega
          rw [hd, hm, if_neg e1', if_pos (show nI 1 = 1 from rfl), if_neg (show ¬ nI m = 0 by rw [L0, nI_eq (by omega) (by omega)]; omega), if_pos (show 4 ≤ nI m by rw [L4, nI_leI (by omega) (by omega)]; omega), if_pos (show nI m < 30 by rw [L30, nI_ltI (by omega) (by omega)]; omega), obs, hV.2.1, f3.1, if_neg (show ¬ 20 ≤ nI m by rw [L20, nI_leI (by omega) (by omega)]; omega)]
          by_cases cw : m - 10 < wlN w N
          · rw [if_neg (show ¬ nI (wlN w N) ≤ nI (m - 10) by rw [nI_leI (by omega) (by omega)]; omega), if_pos (by rw [nI_ltI (by omega) (by omega)]; exact cw), l9_5 hV.1 (by omega), l12_22 S12' (by omega), (hW (m - 10) (by omega)).1, (f3.2.2.1 (m - 10) cw).1]
            exact ⟨_, rfl, rfl⟩
          · rw [if_pos (show nI (wlN w N) ≤ nI (m - 10) by rw [nI_leI (by omega) (by omega)]; omega), if_neg (by rw [nI_ltI (by omega) (by omega)]; exact cw)]
            exact ⟨-1, rfl, rfl⟩
        · have hd : m / 10 = 2 := by omega
          have hm : m % 10 = m - 20 := by omega
          rw [hd, hm, if_neg (show ¬ nI 2 = 0 by decide), if_neg (show ¬ nI 2 = 1 by decide), if_pos (show nI 2 = 2 from rfl), if_neg (show ¬ nI m = 0 by rw [L0, nI_eq (by omega) (by omega)]; omega), if_pos (show 4 ≤ nI m by rw [L4, nI_leI (by omega) (by omega)]; omega), if_pos (show nI m < 30 by rw [L30, nI_ltI (by omega) (by omega)]; omega), obs, hV.2.1, f3.1, if_pos (show 20 ≤ nI m by rw [L20, nI_leI (by omega) (by omega)]; omega)]
          by_cases cw : m - 20 < wlN w N
          · rw [if_neg (show ¬ nI (wlN w N) ≤ nI (m - 20) by rw [nI_leI (by omega) (by omega)]; omega), if_pos (by rw [nI_ltI (by omega) (by omega)]; exact cw), l9_6 hV.1 (by omega), l12_23 S12' (by omega), (hW (m - 20) (by omega)).2, (f3.2.2.1 (m - 20) cw).2.2.1]
            exact ⟨_, rfl, rfl⟩
          · rw [if_pos (show nI (wlN w N) ≤ nI (m - 20) by rw [nI_leI (by omega) (by omega)]; omega), if_neg (by rw [nI_ltI (by omega) (by omega)]; exact cw)]
            exact ⟨-1, rfl, rfl⟩
        · have hd : m / 10 = 3 := by omega
          have hm : m % 10 = m - 30 := by omega
          rw [hd, hm, if_neg (show ¬ nI 3 = 0 by decide), if_neg (show ¬ nI 3 = 1 by decide), if_neg (show ¬ nI 3 = 2 by decide), if_neg (show ¬ nI m = 0 by rw [L0, nI_eq (by omega) (by omega)]; omega), if_pos (show 4 ≤ nI m by rw [L4, nI_leI (by omega) (by omega)]; omega), if_neg (show ¬ nI m < 30 by rw [L30, nI_ltI (by omega) (by omega)]; omega), obs, hV.2.1, f3.1]
          by_cases cw : wlN w N < m - 30
          · rw [if_pos (show nI (wlN w N) < nI (m - 30) by rw [nI_ltI (by omega) (by omega)]; omega), if_pos (show nI (wlN w N) < nI (m - 30) by rw [nI_ltI (by omega) (by omega)]; omega)]
            exact ⟨-1, rfl, rfl⟩
          · rw [if_neg (show ¬ nI (wlN w N) < nI (m - 30) by rw [nI_ltI (by omega) (by omega)]; omega), if_neg (show ¬ nI (wlN w N) < nI (m - 30) by rw [nI_ltI (by omega) (by omega)]; omega), l9_7 hV.1 (by omega), l12_24 S12' (by omega), (hV.2.2.2.1 (m - 30) (by omega)).1, (f3.2.2.2 (m - 30) (by omega)).1]
            exact ⟨_, rfl, rfl⟩
      obtain ⟨r, k1, k2⟩ := key
      refine ⟨r, I2, ?_, ?_, R2⟩
      · rw [s3]; exact k1
      · rw [s4, obs, if_neg e1', t1, if_pos (yes_nI (by omega)), f1, obs]
        exact k2
  · refine ⟨-1, I, ?_, ?_, h0⟩
    · rw [s3]
    · rw [s4, obs, if_pos e0']
end
