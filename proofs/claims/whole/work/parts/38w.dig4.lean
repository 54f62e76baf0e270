section
variable {Z : Nat → Nat} {x n M nr nc NW i q N : Nat} {K : Sh} {I I1 : Im} {J : Jm} {R R1 : Rf} {w c d le la : Nat → Nat} {cs : Nat → List Nat}
/-- one place tried by the reference -/
theorem m_dig1 {k a b st r ra v0 way z f0 g0 : Nat} {I0 : Im} (hS : S12 (x + 62) K R) (hi : i < 5) (ht : I0 (x + 62) 1 = nI i) (h : NowR x (x + 8) i q n M N (x + 73) (x + 74) w c d cs le la K I0 R) (hc : CarR x nr k n a b st r ra K I0 R) (hk : k < 6) (h82 : I0 (x + 82) 0 = nI v0) (hv : v0 ≤ 6) (hM : M ≤ 800000) (hM7 : 100 ≤ M) (hw4 : wlN w N < 5) (hway : way ≤ wlN w N) (hz : 1 ≤ z) (hzh : z < wyV w c N way) (hf : f0 ≤ 99) (hg : g0 ≤ 99) {ov : Nat → Nat → Option Nat} (ho : OvP w c d cs N b st f0 g0 ov) (hI : FM (x + 62) mS mF I0 I) :
    Ok (Option.bind (f_X12_layMore K R (x + 62) (nI way) (nI z) (nI f0) (nI g0) I) fun q1 => Option.bind (ldI K q1 (R (x + 62) 34) (nI k)) fun v3 => Option.bind (ldI K q1 (R (x + 62) 35) (nI k)) fun v4 => f_X12_go K R (x + 62) v3 v4 0 5 q1) (fun I2 => FM (x + 62) mS mF I0 I2 ∧ I2 (x + 62) 50 = oI (ov way z)) := by
  have hQ : QF x I0 I := QF.fm hI (by decide) (by decide)
  have hw := h.2.1.qf hQ (QR.refl (R := R))
  have hyb : ∀ k, 1 ≤ wyV w c N k ∧ wyV w c N k ≤ 9 := fun k => wyV_b (fun m hm hw' => (hw.1.2.2.2 m hm).2.2.2.2.1 hw') k
  refine Ok.bind (m_layMoreR (M := M) (le := le) (la := la) hS hi (by rw [hQ.f (k := 1) (by decide)]; exact ht) hw (fun k hk => ?_) hw4 hway hz hzh hf hg) (fun I1 hI1 => ?_)
  · obtain ⟨y1, y2, y3, y4, y5, y6, y7, y8⟩ := h.2.2.2.2 k hk
    rw [hQ.m (j := 73) (by omega) (by decide), hQ.m (j := 74) (by omega) (by decide)]
    exact ⟨y4, y5, y7, y8⟩
  · obtain ⟨F, L⟩ := hI1
    have F1 := hI.trans (F.mono (S' := mS) (F' := mF) (by decide) (by decide))
    have Q1 : QF x I0 I1 := QF.fm F1 (by decide) (by decide)
    have hw1 := h.2.1.qf Q1 (QR.refl (R := R))
    have l1 : ldI K I1 (R (x + 62) 34) (nI k) = some (nI b) := by
      rw [l12_34 hS (by omega)]
      exact congrArg some ((congrFun (Q1.m (j := 85) (by omega) (by decide)) k).trans hc.2.2.2.2.2.2.2.2.2.2.2.2.1)
    have l2 : ldI K I1 (R (x + 62) 35) (nI k) = some (nI st) := by
      rw [l12_35 hS (by omega)]
      exact congrArg some ((congrFun (Q1.m (j := 86) (by omega) (by decide)) k).trans hc.2.2.2.2.2.2.2.2.2.2.2.2.2.1)
    have hb9 := hc.2.2.2.2.2.2.1
    have hst9 := hc.2.2.2.2.2.2.2.2.1
    rw [l1, obs, l2, obs, L0, L5]
    refine m_goG (rw := bsR (envG w c cs N b (fuD way f0 (wlV w c N) (wlN w N)) (fuD way g0 (wlV w d N) (wlN w N)) (hrP way z (wyV w c N) (wlN w N + 1)) (fuD way f0 (wlV w c N) (wlN w N)) (fun _ => 0)) (wlN w N + 1) st (ov way z)) (v := v0) hS hi hb9 (by omega) (by omega) hv (fun _ => bsR_le) hM (by omega) hw1.1 hw1.2.1 (by rw [Q1.f (k := 1) (by decide)]; exact ht) L (by show I1 (x + 82) 0 = _; rw [Q1.m (j := 82) (by omega) (by decide)]; exact h82) (fun z => absurd rfl z) (fun _ => ⟨ov way z, ho way z, fun _ => rfl⟩) (fun I2 G T => ⟨F1.trans (G.mono (by decide) (by decide)), ?_⟩)
    rw [T.1, best_over (envG_rm (le := fun _ => 0) (la := fun _ => 0) (fu := fun _ => 0) (gi := fun _ => 0) (hr := fun _ => 0) (cs := cs) hb9 hw.1) (by omega) (ho way z) (fun _ => rfl) (by omega)]
theorem m_dig109 {k a b st r ra v0 way f0 g0 : Nat} {x4 x5 : Int32} {I0 : Im} {r86 : Int32 → Int32 → Int32 → Int32 → Int32 → Int32 → Int32 → Int32 → Im → Option (Int32 × Im)} {P : Int32 × Im → Prop} (hS : S12 (x + 62) K R) (hi : i < 5) (ht : I0 (x + 62) 1 = nI i) (h : NowR x (x + 8) i q n M N (x + 73) (x + 74) w c d cs le la K I0 R) (hc : CarR x nr k n a b st r ra K I0 R) (hk : k < 6) (h82 : I0 (x + 82) 0 = nI v0) (hv : v0 ≤ 6) (hM : M ≤ 800000) (hM7 : 100 ≤ M) (hw4 : wlN w N < 5) (hway : way ≤ wlN w N) (hf : f0 ≤ 99) (hg : g0 ≤ 99) {ov : Nat → Nat → Option Nat} (ho : OvP w c d cs N b st f0 g0 ov) :
    ∀ (m z f : Nat) (I : Im) (acc : Dg), z + m = wyV w c N way → 1 ≤ z → m < f → FM (x + 62) mS mF I0 I → DgB acc →
    (∀ I1 acc1, acc1 = lpN (dgS ov way) m z acc → DgB acc1 → FM (x + 62) mS mF I0 I1 → Ok (r86 (nI k) (nI f0) (nI g0) x4 x5 (aP acc1) (aT acc1) (nI (way + 1)) I1) P) →
    Ok (f_X12_dig_109 K R (x + 62) r86 f (nI k) (nI f0) (nI g0) x4 x5 (aP acc) (aT acc) (nI way) (nI (wyV w c N way)) (nI z) I) P := by
  have hW := h.2.1.1
  have hyb : ∀ k, 1 ≤ wyV w c N k ∧ wyV w c N k ≤ 9 := fun k => wyV_b (fun m hm hw => (hW.2.2.2 m hm).2.2.2.2.1 hw) k
  intro m
  induction m with
  | zero =>
    intro z f I acc hz hz1 hf' hI hB kk
    obtain ⟨f, rfl⟩ : ∃ f', f = f' + 1 := ⟨f - 1, by omega⟩
    have := hyb way
    unfold f_X12_dig_109
    rw [if_pos (by rw [nI_leI (by omega) (by omega)]; omega), L1, nI_add]
    exact kk I acc rfl hB hI
  | succ m ih =>
    intro z f I acc hz hz1 hf' hI hB kk
    obtain ⟨f, rfl⟩ : ∃ f', f = f' + 1 := ⟨f - 1, by omega⟩
    have := hyb way
    obtain ⟨I3, s1, s2, s3⟩ := m_dig1 (z := z) hS hi ht h hc hk h82 hv hM hM7 hw4 hway hz1 (by omega) hf hg ho hI
    obtain ⟨I4, y1, y2⟩ := bnd s1
    obtain ⟨v3, y3, y4⟩ := bnd y2
    obtain ⟨v4, y5, y6⟩ := bnd y4
    have hob : ∀ t, ov way z = some t → t ≤ 900000 := ov_b ho hc.2.2.2.2.2.2.1 hW hw4 hway hz1 (by omega) hf hc.2.2.2.2.2.2.2.2.1
    have hB' := dgS_b (ov := ov) (way := way) (z := z) hB hob
    have nx := fun acc' (e : dgS ov way z acc = acc') => ih (z + 1) f I3 acc' (by omega) (by omega) (by omega) s2 (e ▸ hB') (fun I1 acc1 e1 => kk I1 acc1 (by rw [e1, ← e]; rfl))
    unfold f_X12_dig_109 f_X12_dig_168
    rw [if_neg (by rw [nI_leI (by omega) (by omega)]; omega), y1, obs, y3, obs, y5, obs, y6, obs, s3]
    have e100 : (100 : Int32) * nI way + nI z = nI (100 * way + z) := by rw [show (100 : Int32) = nI 100 from rfl, pk_mul, nI_add]
    cases hv2 : ov way z with
    | none =>
      rw [if_pos (show oI none < 0 by decide), L1, nI_add]
      exact nx acc (dgS_none hv2)
    | some t =>
      have bt := hob t hv2
      rw [if_neg (show ¬ (oI (some t) < 0) by show ¬ (nI t < nI 0); rw [nI_ltI (by omega) (by omega)]; omega)]
      cases acc with
      | none =>
        rw [if_pos (show aT none < 0 by decide), e100, L1, nI_add]
        exact nx _ (dgS_new hv2)
      | some ac =>
        have bac := hB ac rfl
        rw [if_neg (show ¬ (aT (some ac) < 0) by show ¬ (nI ac.1 < nI 0); rw [nI_ltI (by omega) (by omega)]; omega)]
        by_cases c1 : t < ac.1
        · rw [if_pos (show oI (some t) < aT (some ac) by show nI t < nI ac.1; rw [nI_ltI (by omega) (by omega)]; omega), e100, L1, nI_add]
          exact nx (some (t, 100 * way + z)) (by rw [dgS_old hv2, if_pos c1])
        · rw [if_neg (show ¬ (oI (some t) < aT (some ac)) by show ¬ (nI t < nI ac.1); rw [nI_ltI (by omega) (by omega)]; omega), L1, nI_add]
          exact nx (some ac) (by rw [dgS_old hv2, if_neg c1])
theorem m_dig86 {k a b st r ra v0 f0 g0 : Nat} {x4 : Int32} {I0 : Im} {P : Int32 × Im → Prop} (hS : S12 (x + 62) K R) (hi : i < 5) (ht : I0 (x + 62) 1 = nI i) (h : NowR x (x + 8) i q n M N (x + 73) (x + 74) w c d cs le la K I0 R) (hc : CarR x nr k n a b st r ra K I0 R) (hk : k < 6) (h82 : I0 (x + 82) 0 = nI v0) (hv : v0 ≤ 6) (hM : M ≤ 800000) (hM7 : 100 ≤ M) (hw4 : wlN w N < 5) (hf : f0 ≤ 99) (hg : g0 ≤ 99) {ov : Nat → Nat → Option Nat} (ho : OvP w c d cs N b st f0 g0 ov) :
    ∀ (m way f : Nat) (I : Im) (acc : Dg), way + m = wlN w N + 1 → m < f → FM (x + 62) mS mF I0 I → DgB acc →
    (∀ I1 acc1, acc1 = lpN (dgI ov (wyV w c N)) m way acc → FM (x + 62) mS mF I0 I1 → P (if x4 = 0 then aP acc1 else aT acc1, I1)) →
    Ok (f_X12_dig_86 K R (x + 62) f (nI k) (nI f0) (nI g0) x4 (nI (wlN w N)) (aP acc) (aT acc) (nI way) I) P := by
  have hW := h.2.1.1
  have hyb : ∀ k, 1 ≤ wyV w c N k ∧ wyV w c N k ≤ 9 := fun k => wyV_b (fun m hm hw => (hW.2.2.2 m hm).2.2.2.2.1 hw) k
  intro m
  induction m with
  | zero =>
    intro way f I acc hz hf' hI hB kk
    obtain ⟨f, rfl⟩ : ∃ f', f = f' + 1 := ⟨f - 1, by omega⟩
    have g := kk I acc rfl hI
    unfold f_X12_dig_86
    rw [if_pos (by rw [nI_ltI (by omega) (by omega)]; omega)]
    by_cases c0 : x4 = 0
    · rw [if_pos c0] at g ⊢; exact Ok.ret g
    · rw [if_neg c0] at g ⊢; exact Ok.ret g
  | succ m ih =>
    intro way f I acc hz hf' hI hB kk
    obtain ⟨f, rfl⟩ : ∃ f', f = f' + 1 := ⟨f - 1, by omega⟩
    have := hyb way
    have hQ : QF x I0 I := QF.fm hI (by decide) (by decide)
    have hn := h.qf (by omega) ⟨by omega, by decide⟩ ⟨by omega, by decide⟩ hQ (QR.refl (R := R))
    unfold f_X12_dig_86
    rw [if_neg (by rw [nI_ltI (by omega) (by omega)]; omega)]
    refine Ok.bind (lay_R (P := fun I2 => FM (x + 62) layS [21] I I2 ∧ LayG (x + 62) (wlN w N) M I2 (wlV w c N) (wlV w d N) (wyV w c N) le la) hS hi (by rw [hQ.f (k := 1) (by decide)]; exact ht) hn (fun I2 F L => ⟨F, L⟩)) (fun I2 hI2 => ?_)
    obtain ⟨F, L⟩ := hI2
    rw [l12_24 hS (by omega), obs, (L.2.2.2 way (by omega)).1, L1]
    refine m_dig109 hS hi ht h hc hk h82 hv hM hM7 hw4 (by omega) hf hg ho (wyV w c N way - 1) 1 FU I2 acc (by omega) (by omega) (FU_lt (by omega)) (hI.trans (F.mono (by decide) (by decide))) hB (fun I1 acc1 e1 b1 g1 => ?_)
    exact ih (way + 1) f I1 acc1 (by omega) (by omega) g1 b1 (fun I3 acc2 e2 => kk I3 acc2 (by rw [e2, e1]; rfl))
set_option maxHeartbeats 1000000 in
theorem k_dig (h : Rel Z x n M K I J R) (hM7 : 100 ≤ M) (v1 v2 v3 v4 : Int32) : ∃ r I1 R1 I2, f_X11_dig K x v1 v2 v3 v4 I R = some (r, I1, R1) ∧ f_X12_dig K R1 (x + 62) v1 v2 v3 v4 I1 = some (r, I2) ∧ Rel Z x n M K I2 J R1 := by
  have h0 := h
  obtain ⟨hC, hS, hn, hMb, hZ, nr, nc, NW, hG⟩ := h
  have hG0 := hG
  obtain ⟨hnum, hru, hca, hnow, -⟩ := RelG_iff.mp hG
  have e1' : ¬ (nI 1 = 0) := by decide
  have e0' : nI 0 = 0 := rfl
  have S11 := cS11 hC
  have o7 : ob K 7 (R x 7) = some (x + 8) := o11_7 S11
  have hnc := hnum.2.1
  unfold f_X11_dig f_X12_dig
  rcases car_at hC hG0 v1 with ⟨k, a, b, st, r, ra, q1, q2, q3, q4, q5⟩ | ⟨q4, q5⟩
  · rcases rg v4 0 1 (by omega) (by omega) with ⟨m, p1, p2, p3, p4, p5⟩ | ⟨p4, p5, -⟩
    · have p4 : f_X11_within v4 0 1 = some (nI 1) := p4
      have p5 : ∀ o, f_X12_in o v4 0 1 = some (nI 1) := p5
      rcases rg v2 0 99 (by omega) (by omega) with ⟨f0, s1, s2, s3, s4, s5⟩ | ⟨s4, s5, -⟩
      · have s4 : f_X11_within v2 0 99 = some (nI 1) := s4
        have s5 : ∀ o, f_X12_in o v2 0 99 = some (nI 1) := s5
        rcases rg v3 0 99 (by omega) (by omega) with ⟨g0, u1, u2, u3, u4, u5⟩ | ⟨u4, u5, -⟩
        · have u4 : f_X11_within v3 0 99 = some (nI 1) := u4
          have u5 : ∀ o, f_X12_in o v3 0 99 = some (nI 1) := u5
          rcases hnow.1 with ⟨t1, t2⟩ | ⟨i, q, N, w, c, d, cs, le, la, t1, t2, t3⟩
          · refine ⟨-3, I, R, I, ?_, ?_, h0⟩
            · rw [q4, obs, if_neg (by simp), p4, obs, if_neg e1', s4, obs, if_neg e1', u4, obs, if_neg e1', o7, obs, if_pos t2]
            · rw [q5, obs, if_neg e1', p5, obs, if_neg e1', s5, obs, if_neg e1', u5, obs, if_neg e1', t1, if_neg no_neg1]
          · have hi5 : i < 5 := by have := hnum.2.2.1; omega
            have nn : ¬ (R (x + 8) 0 = none) := by rw [t3.1]; simp
            have hW5 := wlN_le w N
            have hv := t3.2.1.2.2.2.1
            obtain ⟨a0, kd0, v0, rn0, rwr0, hrule0⟩ := hru 0 (by have := q3.2.2.2.2.2.2.2.2.2.1; omega)
            by_cases c5 : wlN w N < 5
            · obtain ⟨ov, ho⟩ := OvP.ex (x := x) (d := d) (cs := cs) (st := st) (f0 := f0) (g0 := g0) q3.2.2.2.2.2.2.1 t3.2.1.1
              obtain ⟨⟨r1, I1, R1⟩, g0', g1, g2, g3, g4⟩ := c_dig75 (x4 := v4) (P := fun s => s.1 = (if v4 = 0 then aP (lpN (dgI ov (wyV w c N)) (wlN w N + 1) 0 none) else aT (lpN (dgI ov (wyV w c N)) (wlN w N + 1) 0 none)) ∧ (∀ z, z < x + 29 ∨ x + 50 ≤ z → s.2.1 z = I z) ∧ (∀ z, z < x + 29 ∨ x + 50 ≤ z → s.2.2 z = R z) ∧ CSH x K s.2.2) t3 q3 hMb hM7 c5 s3 u3 ho (wlN w N + 1) 0 FU I R none (by omega) (FU_lt (by omega)) (fun _ _ => rfl) (fun _ _ => rfl) hC (fun a ha => by cases ha) (fun I1 R1 acc1 e a b c => ⟨by rw [e], a, b, c⟩)
              have g1 : r1 = _ := g1
              have g2 : ∀ z, z < x + 29 ∨ x + 50 ≤ z → I1 z = I z := g2
              have g3 : ∀ z, z < x + 29 ∨ x + 50 ≤ z → R1 z = R z := g3
              have Q1 : QF x I I1 := QF.cls g2
              have hS1 : MSH (x + 62) K R1 := hS.congr (fun _ _ => rfl) (g3 _ (by omega))
              have t3' := t3.qf (by omega) ⟨by omega, by decide⟩ ⟨by omega, by decide⟩ Q1 g3
              have ti1 : I1 (x + 62) 1 = nI i := by rw [Q1.f (k := 1) (by decide)]; exact t1
              obtain ⟨I0, k0, F0, L0'⟩ := lay_R (P := fun I2 => FM (x + 62) layS [21] I1 I2 ∧ LayG (x + 62) (wlN w N) M I2 (wlV w c N) (wlV w d N) (wyV w c N) le la) hS1 hi5 ti1 t3' (fun I2 F L => ⟨F, L⟩)
              have h82 : I1 (x + 82) 0 = nI v0 := by rw [Q1.m (j := 82) (by omega) (by decide)]; exact hrule0.2.2.2.2.2.2.2.2.1
              obtain ⟨⟨r2, I2⟩, k1, k2, k3⟩ := m_dig86 (x4 := v4) (P := fun s => s.1 = (if v4 = 0 then aP (lpN (dgI ov (wyV w c N)) (wlN w N + 1) 0 none) else aT (lpN (dgI ov (wyV w c N)) (wlN w N + 1) 0 none)) ∧ FM (x + 62) mS mF I1 s.2) hS1 hi5 ti1 t3' (q3.qf Q1 g3) (by omega : k < 6) h82 hrule0.2.1.2.2.2.2.2.1 hMb hM7 c5 s3 u3 ho (wlN w N + 1) 0 FU I0 none (by omega) (FU_lt (by omega)) (F0.mono (by decide) (by decide)) (fun a ha => by cases ha) (fun I2 acc1 e F => ⟨by rw [e], F⟩)
              have k2 : r2 = _ := k2
              have k3 : FM (x + 62) mS mF I1 I2 := k3
              have Q2 : QF x I I2 := Q1.trans (QF.fm k3 (by decide) (by decide))
              refine ⟨r1, I1, R1, I2, ?_, ?_, h0.qf Q2 g3 g4 hS1⟩
              · rw [q4, obs, if_neg (by simp), p4, obs, if_neg e1', s4, obs, if_neg e1', u4, obs, if_neg e1', o7, obs, if_neg nn, s1, u1, t3.1, L0]
                exact g0'
              · rw [isCar_eq (Q1.f (k := 28) (by decide)), q5, obs, if_neg e1', p5, obs, if_neg e1', s5, obs, if_neg e1', u5, obs, if_neg e1', ti1, if_pos (yes_nI (by omega)), k0, obs, L0'.1, if_neg (by rw [L5, nI_eq (by omega) (by omega)]; omega), s1, u1, q1, L0]
                rw [g1, ← k2]
                exact k1
            · obtain ⟨I0, k0, F0, L0'⟩ := lay_R (P := fun I2 => FM (x + 62) layS [21] I I2 ∧ LayG (x + 62) (wlN w N) M I2 (wlV w c N) (wlV w d N) (wyV w c N) le la) hS hi5 t1 t3 (fun I2 F L => ⟨F, L⟩)
              have Q2 : QF x I I0 := QF.fm F0 (by decide) (by decide)
              refine ⟨-5, I, R, I0, ?_, ?_, h0.qf Q2 QR.refl hC hS⟩
              · obtain ⟨f, hf⟩ : ∃ f, FU = f + 1 := ⟨999999999, rfl⟩
                rw [q4, obs, if_neg (by simp), p4, obs, if_neg e1', s4, obs, if_neg e1', u4, obs, if_neg e1', o7, obs, if_neg nn, t3.1, hf]
                unfold f_X11_dig_75 f_X11_dig_202
                rw [ob9 hv.1, obs, hv.2.1, if_neg (by rw [L0, nI_ltI (by omega) (by omega)]; omega), if_pos (by rw [L5, nI_leI (by omega) (by omega)]; omega)]
                split <;> rfl
              · rw [q5, obs, if_neg e1', p5, obs, if_neg e1', s5, obs, if_neg e1', u5, obs, if_neg e1', t1, if_pos (yes_nI (by omega)), k0, obs, L0'.1, if_pos (by rw [L5, nI_eq (by omega) (by omega)]; omega)]
        · have u4 : f_X11_within v3 0 99 = some (nI 0) := u4
          have u5 : ∀ o, f_X12_in o v3 0 99 = some (nI 0) := u5
          refine ⟨-2, I, R, I, ?_, ?_, h0⟩
          · rw [q4, obs, if_neg (by simp), p4, obs, if_neg e1', s4, obs, if_neg e1', u4, obs, if_pos e0']
          · rw [q5, obs, if_neg e1', p5, obs, if_neg e1', s5, obs, if_neg e1', u5, obs, if_pos e0']
      · have s4 : f_X11_within v2 0 99 = some (nI 0) := s4
        have s5 : ∀ o, f_X12_in o v2 0 99 = some (nI 0) := s5
        refine ⟨-2, I, R, I, ?_, ?_, h0⟩
        · rw [q4, obs, if_neg (by simp), p4, obs, if_neg e1', s4, obs, if_pos e0']
        · rw [q5, obs, if_neg e1', p5, obs, if_neg e1', s5, obs, if_pos e0']
    · have p4 : f_X11_within v4 0 1 = some (nI 0) := p4
      have p5 : ∀ o, f_X12_in o v4 0 1 = some (nI 0) := p5
      refine ⟨-1, I, R, I, ?_, ?_, h0⟩
      · rw [q4, obs, if_neg (by simp), p4, obs, if_pos e0']
      · rw [q5, obs, if_neg e1', p5, obs, if_pos e0']
  · refine ⟨-1, I, R, I, ?_, ?_, h0⟩
    · rw [q4, obs, if_pos rfl]
    · rw [q5, obs, if_pos e0']
end
