section
variable {Z : Nat → Nat} {x n M nr nc NW i q N : Nat} {K : Sh} {I I1 : Im} {J : Jm} {R R1 : Rf} {w c d le la : Nat → Nat} {cs : Nat → List Nat}
/-- thirst laid over what lies -/
theorem m_laidG (hM : S12 (x + 62) K R) {W b : Nat} {fu gi hr : Nat → Nat} {P : Im → Prop} (hi : i < 5) (hb : b ≤ 9) (hW : MW (x + 62) i N w c d I) (hC : MC (x + 62) i N w cs I) (ht : I (x + 62) 1 = nI i) (hL : LayG (x + 62) W M I fu gi hr le la) (kk : ∀ I1, FM (x + 62) thS [45, 46] I I1 → LaidM (x + 62) I1 W fu gi hr (fun k j => b * d1N w c cs N b k j) (b * laV w c 5 0 N) (b * laV w c 3 10 N) → P I1) : Ok (f_X12_layThirst K R (x + 62) (nI b) I) P := by
  have hN := hW.2.2.1
  obtain ⟨l1, l2, l3, l4⟩ := hL
  have cb : ∀ n, n < N → c n ≤ 99 := fun n hn => (hW.2.2.2 n hn).2.2.2.1
  have s1 : laV w c 5 0 N ≤ 99 := laV_le (fun n hn _ => cb n hn) (by omega)
  have s2 : laV w c 3 10 N ≤ 99 := laV_le (fun n hn _ => cb n hn) (by omega)
  have p1 : b * laV w c 5 0 N ≤ 9 * 99 := Nat.mul_le_mul hb s1
  have p2 : b * laV w c 3 10 N ≤ 9 * 99 := Nat.mul_le_mul hb s2
  refine m_layThirst hM hi hb l2 hW hC ht l1 (fun I1 F g1 g2 g3 => kk I1 F ⟨(F.fld (by decide) (by decide)).trans l1, l2, fun q hq => ?_, fun q hq => ?_, g2, by omega, g3, by omega⟩)
  · obtain ⟨z1, z2, z3, z4, -⟩ := l3 q hq
    rw [F.arr (i := 14) (by decide) (by decide), F.arr (i := 15) (by decide) (by decide)]
    exact ⟨z1, z2, z3, z4⟩
  · obtain ⟨z1, z2⟩ := l4 q hq
    rw [F.arr (i := 16) (by decide) (by decide)]
    refine ⟨z1, z2, fun j hj => ⟨g1 q hq j hj, ?_⟩⟩
    have := Nat.mul_le_mul hb (d1N_le (w := w) (cs := cs) hN cb b q j)
    show b * d1N w c cs N b q j ≤ 100000
    omega
theorem rwT_le {g : Nat} {ln : Nat} {z : Int} {Jr : Nat → Int64} (k : Nat) : rwT g (tlT ln z Jr) k ≤ 6 := by
  unfold rwT
  split
  · cases q : tlT ln z Jr k with
    | none => exact Nat.zero_le _
    | some m => exact (tlT_le q).1
  · omega
set_option maxHeartbeats 1000000 in
theorem k_judge (h : Rel Z x n M K I J R) (hM7 : 100 ≤ M) (v1 v2 v3 : Int32) : ∃ r I1 I2, f_X11_judge K J R x v1 v2 v3 I = some (r, I1) ∧ f_X12_judge K J R (x + 62) v1 v2 v3 I1 = some (r, I2) ∧ Rel Z x n M K I2 J R := by
  have h0 := h
  obtain ⟨hC, hS, hn, hMb, hZ, nr, nc, NW, hG⟩ := h
  have hG0 := hG
  obtain ⟨hnum, hru, hca, hnow, hkept, himg, hact, htap, htex, hunr⟩ := RelG_iff.mp hG
  have e1' : ¬ (nI 1 = 0) := by decide
  have e0' : nI 0 = 0 := rfl
  have S11 := cS11 hC
  have o7 : ob K 7 (R x 7) = some (x + 8) := o11_7 S11
  have hnc := hnum.2.1
  unfold f_X11_judge f_X12_judge
  rcases tape_at hC v1 with ⟨t, p1, p2, p3, p4⟩ | ⟨p3, p4⟩
  · rcases car_at hC hG0 v3 with ⟨k, a, b, st, r, ra, q1, q2, q3, q4, q5⟩ | ⟨q4, q5⟩
    · rcases hnow.1 with ⟨t1, t2⟩ | ⟨i, q, N, w, c, d, cs, le, la, t1, t2, t3⟩
      · refine ⟨-3, I, I, ?_, ?_, h0⟩
        · rw [p3, obs, q4, obs, if_neg (by simp), if_neg (by simp), o7, obs, if_pos t2]
        · rw [p4, obs, if_neg e1', q5, obs, if_neg e1', t1, if_neg no_neg1]
      · have hi5 : i < 5 := by have := hnum.2.2.1; omega
        have nn : ¬ (R (x + 8) 0 = none) := by rw [t3.1]; simp
        obtain ⟨ts, tso, ⟨ln, hln, tl1, tl2, tl3⟩, tj⟩ := htap t p2
        have l69 : ldI K I (R (x + 62) 69) v1 = some (I (x + 106) t) := by rw [p1, l12_69 hS p2]
        have o8 : ob K 8 (some (x + (50 + 2 * t))) = some (x + (50 + 2 * t)) := ob7 (cS7 hC p2)
        by_cases hcast : I (x + 106) t = -1 ∨ I (x + 106) t = 2
        · have hW5 := wlN_le w N
          have hst : st ≤ M := by have := q3.2.2.2.2.2.2.2.2.1; omega
          have hv := t3.2.1.2.2.2.1
          obtain ⟨I0, c0, c1, c2⟩ : ∃ I0, f_X11_copyStands K J R x (some (x + (50 + 2 * t))) v2 (nI (wlN w N)) I = some (nI (gdN (tlT ln v2.toInt (J (x + (50 + 2 * t) + 1))) (wlN w N) 0), I0) ∧ (∀ z, z ≠ x + 49 → I0 z = I z) ∧ ∀ j, j < 5 → I0 (x + 49) j = nI (rwT (gdN (tlT ln v2.toInt (J (x + (50 + 2 * t) + 1))) (wlN w N) 0) (tlT ln v2.toInt (J (x + (50 + 2 * t) + 1))) j) := by
            obtain ⟨⟨r0, I0⟩, e1, e2, e3, e4⟩ := c_copy3 (J := J) (W := wlN w N) (i := v2) (P := fun s => s.1 = nI (gdN (tlT ln v2.toInt (J (x + (50 + 2 * t) + 1))) (wlN w N) 0) ∧ (∀ z, z ≠ x + 49 → s.2 z = I z) ∧ ∀ j, j < 5 → s.2 (x + 49) j = nI (rwT (gdN (tlT ln v2.toInt (J (x + (50 + 2 * t) + 1))) (wlN w N) 0) (tlT ln v2.toInt (J (x + (50 + 2 * t) + 1))) j)) hC p2 hW5 hln 5 0 FU I rfl (FU_lt (by omega)) tl1 (fun j hj => by omega) (fun I1 g1 g2 => ⟨rfl, g1, g2⟩)
            have e2 : r0 = _ := e2
            refine ⟨I0, ?_, e3, e4⟩
            unfold f_X11_copyStands
            rw [L0, e1, e2]
          generalize hg : gdN (tlT ln v2.toInt (J (x + (50 + 2 * t) + 1))) (wlN w N) 0 = g at c0 c2
          have Q0 : QF x I I0 := QF.cls (fun z hz => c1 z (by omega))
          have t30 := t3.qf (by omega) ⟨by omega, by decide⟩ ⟨by omega, by decide⟩ Q0 (QR.refl (R := R))
          obtain ⟨I1, s1, s2, s5⟩ := cls_row (v := 0) (rw := rwT g (tlT ln v2.toInt (J (x + (50 + 2 * t) + 1)))) hC t30 (q3.qf Q0 QR.refl) (Or.inr rfl) (k11_18 S11) (fun k hk => c2 k hk) (fun k => rwT_le k) (by omega) hMb hM7
          generalize hT : tripG w c cs N b st 7 0 (rwT g (tlT ln v2.toInt (J (x + (50 + 2 * t) + 1)))) (wlV w c N) (wlV w d N) (wyV w c N) le la (wlN w N) = T at s5
          have fI1 : ∀ z, z < x + 29 ∨ x + 50 ≤ z → I1 z = I z := fun z hz => (s2 z hz).trans (c1 z (by omega))
          have Q1 : QF x I I1 := QF.cls fI1
          have tb := trip_b t3 (b := b) (st := st) (kd := 7) (v := 0) (rw := rwT g (tlT ln v2.toInt (J (x + (50 + 2 * t) + 1)))) (by omega) (fun k => rwT_le k) hst hMb hT.symm
          have t31 := t3.qf (by omega) ⟨by omega, by decide⟩ ⟨by omega, by decide⟩ Q1 (QR.refl (R := R))
          have ti1 : I1 (x + 62) 1 = nI i := by rw [Q1.f (k := 1) (by decide)]; exact t1
          have hTM := tellM_of (W := wlN w N) (t := t) (so := I (x + 106) t) (i := v2) hW5 hln tso tl3 (J (x + 108)) (J (x + (50 + 2 * t) + 1)) tj
          have q85 := q3.2.2.2.2.2.2.2.2.2.2.2.2.1
          have q86 := q3.2.2.2.2.2.2.2.2.2.2.2.2.2.1
          -- the reference
          have ref : Ok (f_X12_judge_50 K J R (x + 62) (nI t) v2 (nI k) I1) (fun s => s.1 = jres T (wlN w N) g (plT ln v2.toInt) ∧ FM (x + 62) mS mF I1 s.2) := by
            unfold f_X12_judge_50
            refine Ok.bind (lay_R (P := fun I2 => FM (x + 62) layS [21] I1 I2 ∧ LayG (x + 62) (wlN w N) M I2 (wlV w c N) (wlV w d N) (wyV w c N) le la) hS hi5 ti1 t31 (fun I2 F L => ⟨F, L⟩)) (fun I2 hI2 => ?_)
            obtain ⟨F, L⟩ := hI2
            have Q2 : QF x I I2 := Q1.trans (QF.fm F (by decide) (by decide))
            have w2 := t3.2.1.qf Q2 (QR.refl (R := R))
            have lb : ldI K I2 (R (x + 62) 34) (nI k) = some (nI b) := by rw [l12_34 hS (by omega)]; exact congrArg some ((congrFun (Q2.m (j := 85) (by omega) (by decide)) k).trans q85)
            rw [lb, obs]
            refine Ok.bind (m_laidG (P := fun I3 => FM (x + 62) thS [45, 46] I2 I3 ∧ LaidM (x + 62) I3 (wlN w N) (wlV w c N) (wlV w d N) (wyV w c N) (fun k j => b * d1N w c cs N b k j) (b * laV w c 5 0 N) (b * laV w c 3 10 N)) hS hi5 q3.2.2.2.2.2.2.1 w2.1 w2.2.1 (by rw [Q2.f (k := 1) (by decide)]; exact t1) L (fun I3 F3 L3 => ⟨F3, L3⟩)) (fun I3 hI3 => ?_)
            obtain ⟨F3, L3⟩ := hI3
            have F13 : FM (x + 62) mS mF I1 I3 := (F.mono (by decide) (by decide)).trans (F3.mono (by decide) (by decide))
            have Q3 : QF x I I3 := Q1.trans (QF.fm F13 (by decide) (by decide))
            have lc : ldI K I3 (R (x + 62) 35) (nI k) = some (nI st) := by rw [l12_35 hS (by omega)]; exact congrArg some ((congrFun (Q3.m (j := 86) (by omega) (by decide)) k).trans q86)
            have e46 : u2 I3 (x + 62) 47 (nI st) (x + 62) 46 = nI (b * laV w c 3 10 N) := by rw [u2_ne (by decide)]; exact L3.2.2.2.2.2.2.1
            rw [lc, obs, obs, e46, obs, hw_sw, L0]
            refine m_judge85 (M := M) (so := I (x + 106) t) (ln := ln) (plc := plT ln v2.toInt) (tell := tlT ln v2.toInt (J (x + (50 + 2 * t) + 1))) (g := g) hS p2 hTM hln hg.symm (fun k n hk hn => ?_) hMb T 6 0 FU st (b * laV w c 3 10 N) I3 le la (fun _ => none) (fun _ => none) (by omega) (FU_lt (by omega)) (Nat.zero_le _) L3 (congrFun (Q3.m (j := 106) (by omega) (by decide)) t) ((congrFun (Q3.m (j := 107) (by omega) (by decide)) t).trans tl2) (fun j hj => ?_) (fun j hj => ?_) (by omega) (Nat.le_refl _) hT.symm (fun I4 F4 => ⟨rfl, F13.trans (F4.mono (by decide) (by decide))⟩)
            · unfold rwT
              rw [if_pos hk, hn]
              rfl
            · rw [F3.arr (by decide) (by decide)]
              exact ⟨(L.2.2.1 j hj).2.2.2.2.1, (L.2.2.1 j hj).2.2.2.2.2.1⟩
            · rw [F3.arr (by decide) (by decide)]
              exact ⟨(L.2.2.1 j hj).2.2.2.2.2.2.1, fun _ => (L.2.2.1 j hj).2.2.2.2.2.2.2⟩
          obtain ⟨⟨r2, I2⟩, u1, u2', u3⟩ := ref
          have u2' : r2 = _ := u2'
          have u3 : FM (x + 62) mS mF I1 I2 := u3
          have Q2 : QF x I I2 := Q1.trans (QF.fm u3 (by decide) (by decide))
          -- the class
          have gle : g ≤ wlN w N := by
            have := (gdN_spec (tell := tlT ln v2.toInt (J (x + (50 + 2 * t) + 1))) (wlN w N) 0).2.1
            rw [hg] at this
            omega
          have cls : f_X11_judge_64 K J R x v2 (some (x + (50 + 2 * t))) (some a) (some q) I = some (jres T (wlN w N) g (plT ln v2.toInt), I1) := by
            obtain ⟨Ib, y1, y2⟩ := bnd s1
            have q0 : I q 0 = nI (wlN w N) := hv.2.1
            have qq := t3.2.1.2.2.1
            have tl1' : I1 (x + (50 + 2 * t)) 1 = nI ln := by rw [fI1 _ (by omega)]; exact tl1
            have f153 : (∀ l, T.1.2 = some l → g < l) → g < wlN w N → f_X11_judge_153 K J R x v2 (some (x + (50 + 2 * t))) (nI g) I1 = some (jres T (wlN w N) g (plT ln v2.toInt), I1) := by
              intro hl hgW
              rw [jres_stop hgW hl]
              unfold f_X11_judge_153 f_X11_judge_179
              have e101 : (100 : Int32) + nI g + 1 = nI (101 + g) := by rw [show (100 : Int32) = nI 100 from rfl, nI_add, L1, nI_add]; congr 1; omega
              rw [o8, obs, isPl tl1' hln, obs, e101]
              by_cases cz : 0 ≤ v2.toInt ∧ v2.toInt < ln
              · obtain ⟨p, hp⟩ : ∃ p, v2.toInt.toNat = p := ⟨_, rfl⟩
                have hpz : v2.toInt = (p : Int) := by omega
                have hi : v2 = nI p := by rw [← hp]; exact j_nat cz.1
                have hik : v2 + nI g = nI (p + g) := by rw [hi, nI_add]
                have ip := isPl (K := K) (i := nI (p + g)) tl1' hln
                have e1 : (nI (p + g)).toInt = ((p + g : Nat) : Int) := nI_toInt (by omega)
                rw [e1] at ip
                rw [decide_eq_true cz, if_neg (show ¬ (bI true = 0) by decide), hik, ip, obs]
                by_cases cp : p + g < ln
                · have hpl : plT ln v2.toInt g = true := by unfold plT; rw [hpz]; exact decide_eq_true (by omega)
                  rw [decide_eq_true (by omega), if_neg (show ¬ (bI true = 0) by decide), if_pos hpl]
                · have hpl : ¬ plT ln v2.toInt g = true := by unfold plT; rw [hpz, decide_eq_true_eq]; omega
                  rw [decide_eq_false (by omega), if_pos (show bI false = 0 from rfl), if_neg hpl]
              · have hpl : ¬ plT ln v2.toInt g = true := by unfold plT; rw [decide_eq_true_eq]; omega
                rw [decide_eq_false cz, if_pos (show bI false = 0 from rfl), if_neg hpl]
            unfold f_X11_judge_64
            rw [ob9 hv.1, obs, q0, c0, obs, o7, obs, o11_15 S11, obs, r6_1 (cS6n hC), y1, obs, o11_12 S11, obs, r11_15 S11, r11_18 S11, y2, obs, fI1 q (by omega), q0, s5.2.1]
            by_cases cg : wlN w N ≤ g
            · have : g = wlN w N := by omega
              rw [if_pos (by rw [nI_leI (by omega) (by omega)]; exact cg), this, jres_end]
            · rw [if_neg (by rw [nI_leI (by omega) (by omega)]; exact cg)]
              cases hT2 : T.1.2 with
              | none =>
                rw [if_pos (show oI none = -5 from rfl)]
                exact f153 (fun l hl => by rw [hT2] at hl; cases hl) (by omega)
              | some l =>
                have bl := tb.2.1 l hT2
                rw [if_neg (show ¬ (oI (some l) = -5) from nI_no5 (by omega))]
                by_cases cl : g < l
                · rw [if_pos (show nI g < oI (some l) by show nI g < nI l; rw [nI_ltI (by omega) (by omega)]; exact cl)]
                  exact f153 (fun l' hl => by rw [hT2] at hl; cases hl; exact cl) (by omega)
                · rw [if_neg (show ¬ (nI g < oI (some l)) by show ¬ (nI g < nI l); rw [nI_ltI (by omega) (by omega)]; exact cl), jres_lost hT2 (by omega)]
                  rfl
          refine ⟨jres T (wlN w N) g (plT ln v2.toInt), I1, I2, ?_, ?_, h0.qf Q2 QR.refl hC hS⟩
          · rw [p3, obs, q4, obs, if_neg (by simp), if_neg (by simp), o7, obs, if_neg nn, o8, obs, t3.1, ts]
            rcases hcast with hc | hc
            · rw [if_pos hc]; exact cls
            · rw [if_neg (by rw [hc]; decide), if_pos hc]; exact cls
          · have l69' : ldI K I1 (R (x + 62) 69) v1 = some (I (x + 106) t) := by rw [p1, l12_69 hS p2]; exact congrArg some (congrFun (Q1.m (j := 106) (by omega) (by decide)) t)
            rw [p4, obs, if_neg e1', isCar_eq (Q1.f (k := 28) (by decide)), q5, obs, if_neg e1', ti1, if_pos (yes_nI (by omega)), l69', obs, p1, q1]
            rcases hcast with hc | hc
            · rw [if_pos (show I (x + 106) t < 0 by rw [hc]; decide), u1, u2']
            · rw [if_neg (show ¬ I (x + 106) t < 0 by rw [hc]; decide), obs, if_pos hc, u1, u2']
        · refine ⟨-12, I, I, ?_, ?_, h0⟩
          · rw [p3, obs, q4, obs, if_neg (by simp), if_neg (by simp), o7, obs, if_neg nn, o8, obs, ts, if_neg (fun e => hcast (Or.inl e)), if_neg (fun e => hcast (Or.inr e))]
          · rw [p4, obs, if_neg e1', q5, obs, if_neg e1', t1, if_pos (yes_nI (by omega)), l69, obs]
            rcases tso with e | ⟨s, e1, e2⟩
            · exact absurd (Or.inl e) hcast
            · rw [if_neg (show ¬ I (x + 106) t < 0 by rw [e2, L0, nI_ltI (by omega) (by omega)]; omega), obs, if_neg (fun e => hcast (Or.inr e))]
    · refine ⟨-1, I, I, ?_, ?_, h0⟩
      · rw [p3, obs, q4, obs, if_neg (by simp), if_pos rfl]
      · rw [p4, obs, if_neg e1', q5, obs, if_pos e0']
  · refine ⟨-1, I, I, ?_, ?_, h0⟩
    · rw [p3, obs]
      rcases car_at hC hG0 v3 with ⟨k, a, b, st, r, ra, q1, q2, q3, q4, q5⟩ | ⟨q4, q5⟩
      · rw [q4, obs, if_pos rfl]
      · rw [q4, obs, if_pos rfl]
    · rw [p4, obs, if_pos e0']
end
