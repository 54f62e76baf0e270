section
variable {Z : Nat → Nat} {x n M nr nc NW i q N : Nat} {K : Sh} {I I1 : Im} {J : Jm} {R R1 : Rf} {w c d le la : Nat → Nat} {cs : Nat → List Nat}
theorem TabE.ok {E : List Nat} {P : List (Nat × Nat)} (h : AF x E P I I1) (ho : okE [64, 65, 66, 67, 68, 69, 70] [] E P = true) : TabE x I I1 := ⟨okE_r ho h (by decide), okE_r ho h (by decide), okE_r ho h (by decide), okE_r ho h (by decide), okE_r ho h (by decide), okE_r ho h (by decide), okE_r ho h (by decide)⟩
theorem lay_R2 (hM : S12 (x + 62) K R) {P : Im → Prop} (hi : i < 5) (ht : I (x + 62) 1 = nI i) (hw : WasteR x i q N w c d cs K I R) (h : ∀ k, k < wlN w N → I (x + 73) k = nI (le k) ∧ le k ≤ 99 ∧ I (x + 74) k = nI (la k) ∧ la k ≤ M) (kk : ∀ I1, FM (x + 62) layS [21] I I1 → LayG (x + 62) (wlN w N) M I1 (wlV w c N) (wlV w d N) (wyV w c N) le la → P I1) : Ok (f_X12_lay K R (x + 62) I) P := by
  have g1 := hw.1
  refine m_lay hM hi g1 ht (fun I1 F L1 L2 => kk I1 F ⟨L1.1, wlN_le _ _, fun k hk => ?_, fun k hk => ⟨L1.2.2 k (by have := wlN_le w N; omega), (wyV_b (fun m hm hw => (g1.2.2.2 m hm).2.2.2.2.1 hw) k).2⟩⟩)
  obtain ⟨z1, z2, z3, z4⟩ := h k hk
  obtain ⟨y1, y2⟩ := L1.2.1 k hk
  obtain ⟨e1, e2⟩ := L2 k hk
  exact ⟨y1, wlV_le (fun m hm _ => (g1.2.2.2 m hm).2.2.2.1) k, y2, wlV_le (fun m hm hw => ((g1.2.2.2 m hm).2.2.2.2.2 hw).2) k, by rw [e1]; exact z1, z2, by rw [e2]; exact z3, z4⟩
theorem ref_try2 {k a b st r ra kd vv rn : Nat} {rwr rw : Nat → Nat} (hM : S12 (x + 62) K R) (hi : i < 5) (ht : I (x + 62) 1 = nI i) (hw : WasteR x i q N w c d cs K I R) (hl : ∀ k, k < wlN w N → I (x + 73) k = nI (le k) ∧ le k ≤ 99 ∧ I (x + 74) k = nI (la k) ∧ la k ≤ M) (hc : CarR x nr k n a b st r ra K I R) (hr : RuleR x r n ra kd vv rn rwr K I R) (hnr : nr ≤ 10) (hk : k < 6) (hMb : M ≤ 800000) (hM7 : 100 ≤ M) (hrw : RwP w c cs N (wlN w N) b st kd rwr rw (wlV w c N) (wlV w d N) (wyV w c N) le la) :
    Ok (Option.bind (f_X12_lay K R (x + 62) I) fun q5 => f_X12_goCaravan K R (x + 62) (nI k) q5) (fun I2 => FM (x + 62) mS mF I I2 ∧ I2 (x + 62) 21 = nI (wlN w N) ∧ TripM (x + 62) (wlN w N) I2 (tripG w c cs N b st kd vv rw (wlV w c N) (wlV w d N) (wyV w c N) le la (wlN w N))) := by
  refine Ok.bind (lay_R2 (P := fun I2 => FM (x + 62) layS [21] I I2 ∧ LayG (x + 62) (wlN w N) M I2 (wlV w c N) (wlV w d N) (wyV w c N) le la) hM hi ht hw hl (fun I2 F L => ⟨F, L⟩)) (fun I2 hI2 => ?_)
  obtain ⟨F, L⟩ := hI2
  have hQ2 : QF x I I2 := QF.fm F (by decide) (by decide)
  refine Ok.mono (ref_car hM hi (hw.qf hQ2 QR.refl) (by rw [hQ2.f (k := 1) (by decide)]; exact ht) L (hc.qf hQ2 QR.refl) (hr.qf hQ2 QR.refl) hnr hk hMb hM7 hrw) (fun I3 h3 => ⟨(F.mono (by decide) (by decide)).trans (h3.1.mono (by decide) (by decide)), ?_, h3.2⟩)
  rw [h3.1.fld (by decide) (by decide)]
  exact L.1
theorem m_goes31 (hM : S12 (x + 62) K R) {W : Nat} (hW : W ≤ 5) {P : Int32 × Im → Prop} : ∀ (m k f : Nat) (I : Im), k + m = W → m < f → I (x + 62) 21 = nI W → (∀ j, j < k → I (x + 73) j = I (x + 79) j ∧ I (x + 74) j = I (x + 80) j) → (∀ I1, FM (x + 62) [11, 12] [] I I1 → (∀ j, j < W → I1 (x + 73) j = I (x + 79) j ∧ I1 (x + 74) j = I (x + 80) j) → P (I1 (x + 62) 50, I1)) → Ok (f_X12_goes_31 K R (x + 62) f (nI k) I) P := by
  intro m
  induction m with
  | zero =>
    intro k f I hk hf h21 hz kk
    obtain ⟨f, rfl⟩ : ∃ f', f = f' + 1 := ⟨f - 1, by omega⟩
    have : k = W := by omega
    subst this
    unfold f_X12_goes_31
    rw [h21, if_pos (Int32.le_refl _)]
    exact Ok.ret (kk I FM.refl hz)
  | succ m ih =>
    intro k f I hk hf h21 hz kk
    obtain ⟨f, rfl⟩ : ∃ f', f = f' + 1 := ⟨f - 1, by omega⟩
    have F : FM (x + 62) [11, 12] [] I (u2 (u2 I (x + 62 + 11) k (I (x + 62 + 17) k)) (x + 62 + 12) k (I (x + 62 + 18) k)) := FM.st (FM.st FM.refl (by decide)) (by decide)
    have e1 : ∀ j, u2 (u2 I (x + 62 + 11) k (I (x + 62 + 17) k)) (x + 62 + 12) k (I (x + 62 + 18) k) (x + 73) j = if j = k then I (x + 79) k else I (x + 73) j := fun j => by
      rw [u2_row (by omega)]
      by_cases c : j = k
      · subst c; rw [if_pos rfl]; exact u2_eq _ _ _ _
      · rw [if_neg c]; exact u2_ne c
    have e2 : ∀ j, u2 (u2 I (x + 62 + 11) k (I (x + 62 + 17) k)) (x + 62 + 12) k (I (x + 62 + 18) k) (x + 74) j = if j = k then I (x + 80) k else I (x + 74) j := fun j => by
      by_cases c : j = k
      · subst c; rw [if_pos rfl]; exact u2_eq _ _ _ _
      · rw [if_neg c, u2_ne c, u2_row (by omega)]
    have g := ih (k + 1) f _ (by omega) (by omega) (by rw [F.fld (by decide) (by decide)]; exact h21) (fun j hj => by
      rw [e1, e2, (F.arr (i := 17) (by decide) (by decide) : _ = I (x + 62 + 17)), (F.arr (i := 18) (by decide) (by decide) : _ = I (x + 62 + 18))]
      by_cases c : j = k
      · subst c; rw [if_pos rfl, if_pos rfl]; exact ⟨rfl, rfl⟩
      · rw [if_neg c, if_neg c]; exact hz j (by omega)) (fun I1 g1 g2 => kk I1 (F.trans g1) (fun j hj => by rw [(g2 j hj).1, (g2 j hj).2, (F.arr (i := 17) (by decide) (by decide) : _ = I (x + 62 + 17)), (F.arr (i := 18) (by decide) (by decide) : _ = I (x + 62 + 18))]; exact ⟨rfl, rfl⟩))
    unfold f_X12_goes_31
    rw [h21, if_neg (by rw [nI_leI (by omega) (by omega)]; omega), l12_25 hM (by omega), obs, s12_18 hM (by omega), obs, l12_26 hM (by omega), obs, s12_19 hM (by omega), obs, u2_row (by omega), L1, nI_add]
    exact g
theorem UnreadR.cg (h : UnreadR x n K R) (h2 : R1 x 2 = R x 2) (h8 : R1 (x + 8) 0 = R (x + 8) 0) (h17 : R1 (x + 17) 0 = R (x + 17) 0) (hd : ∀ z, x + 110 ≤ z → R1 z = R z) (hs : ∀ q, R (x + 8) 0 = some q ∨ R (x + 17) 0 = some q → x + 110 ≤ q) : UnreadR x n K R1 := by
  unfold UnreadR at h ⊢
  rw [h2, h8, h17]
  rcases h with h | ⟨q, h1, h2, h3, h4, h5, h6, h7⟩
  · exact Or.inl h
  · refine Or.inr ⟨q, h1, ?_, h3, h4, h5, h6, ?_⟩
    · unfold S9 at h2 ⊢
      rw [hd q h3]
      exact h2
    · rw [hd q h3]
      rcases h7 with h7 | ⟨dr, g1, g2, g3, g4, g5⟩
      · exact Or.inl h7
      · exact Or.inr ⟨dr, g1, g2, g3, g4, fun q' hq => by rw [hd q' (hs q' hq)]; exact g5 q' hq⟩
/-- the same for references that only tries have changed -/
theorem UnreadR.tr (h : UnreadR x n K R) (hR : ∀ z, z < x + 29 ∨ x + 50 ≤ z → R1 z = R z) (hn : NowS x nc NW n M K I R) (hk : KeptS x nc NW n M K I R) : UnreadR x n K R1 :=
  h.cg (by rw [hR x (by omega)]) (by rw [hR _ (by omega)]) (by rw [hR _ (by omega)]) (fun z hz => hR z (by omega)) (fun q hq => by
    rcases hq with hq | hq
    · exact (SceneR.wq hn hq).1
    · exact (SceneR.wq hk hq).1)
set_option maxHeartbeats 1000000 in
theorem k_goes (h : Rel Z x n M K I J R) (hM7 : 100 ≤ M) (hM8 : M + 100 ≤ 800000) (v1 : Int32) : ∃ r I1 R1 I2, f_X11_goes K x v1 I R = some (r, I1, R1) ∧ f_X12_goes K R1 (x + 62) v1 I1 = some (r, I2) ∧ Rel Z x n (M + 100) K I2 J R1 := by
  obtain ⟨hC, hS, hn, hMb, hZ, nr, nc, NW, hG⟩ := h
  have hG0 := hG
  obtain ⟨hnum, hru, hca, hnow, hkept, himg, hact, htap, htex, hunr⟩ := RelG_iff.mp hG
  have e1' : ¬ (nI 1 = 0) := by decide
  have S11 := cS11 hC
  have o7 : ob K 7 (R x 7) = some (x + 8) := o11_7 S11
  have same : Rel Z x n (M + 100) K I J R := by
    have F : AF x [] [] I I := AF.refl
    exact ⟨hC, hS, hn, hM8, hZ, nr, nc, NW, RelG_iff.mpr ⟨hnum, hru, hca, hnow.af F (by decide) (fun _ _ _ => ⟨rfl, rfl⟩) rfl (Nat.le_refl _) (by omega) (Nat.le_refl _) (Nat.le_refl _), hkept.af F (by decide) (fun _ _ _ => ⟨rfl, rfl⟩) rfl (Nat.le_refl _) (by omega) (Nat.le_refl _) (Nat.le_refl _), himg, hact, htap, htex, hunr⟩⟩
  unfold f_X11_goes f_X12_goes
  rcases car_at hC hG0 v1 with ⟨k, a, b, st, r, ra, q1, q2, q3, q4, q5⟩ | ⟨q4, q5⟩
  · rcases hnow.1 with ⟨t1, t2⟩ | ⟨i, q, N, w, c, d, cs, le, la, t1, t2, t3⟩
    · refine ⟨-3, I, R, I, ?_, ?_, same⟩
      · rw [q4, obs, if_neg (by simp), o7, obs, if_pos t2]
      · rw [q5, obs, if_neg e1', t1, if_neg no_neg1]
    · subst q1
      obtain ⟨a', kd, vv, rn, rwr, hrule⟩ := hru r q3.2.2.2.2.2.2.2.2.2.1
      have : a' = ra := by have := hrule.1.symm.trans q3.2.2.2.2.2.2.2.2.2.2.2.1; exact Option.some.inj this
      subst this
      have hnr := hnum.1
      have hnc := hnum.2.1
      have hi5 : i < 5 := by have := hnum.2.2.1; omega
      obtain ⟨rw, hrw⟩ := RwP.ex (x := x) (d := d) (cs := cs) (le := le) (la := la) (b := b) (st := st) (kd := kd) (fu := wlV w c N) (gi := wlV w d N) (hr := wyV w c N) q3.2.2.2.2.2.2.1 t3.2.1.1 (wlN w N) (fun k => (hrule.2.2.2.2.2.2.1 k).1)
      have hst : st ≤ M := by have := q3.2.2.2.2.2.2.2.2.1; omega
      have tb := trip_b t3 (b := b) (st := st) (kd := kd) hrule.2.1.2.2.2.2.2.1 hrw.1 hst hMb rfl
      have oq : R (x + 8) 0 = some q := t3.1
      have nn : ¬ (R (x + 8) 0 = none) := by rw [oq]; simp
      have rs1 : R (x + 8) 1 = some (x + 9) := r6_1 (cS6n hC)
      have hW5 := wlN_le w N
      have hMw := t3.2.1.1
      have hwl : WlF (x + 9) (wlN w N) M I (wlV w c N) (wlV w d N) le la := fun j hj => by
        obtain ⟨y1, y2, y3, y4, y5, y6, y7, y8⟩ := t3.2.2.2.2 j hj
        exact ⟨y1, wlV_le (fun m hm _ => (hMw.2.2.2 m hm).2.2.2.1) j, y2, wlV_le (fun m hm hw => ((hMw.2.2.2 m hm).2.2.2.2.2 hw).2) j, y3, y5, y6, y8⟩
      obtain ⟨⟨I1, R1⟩, s1, s2, s3, s4, s5⟩ := cls_car hC (Or.inl rfl) t3.2.1 q3 hrule hwl hMb hM7 hrw
      have s2 : ∀ z, z < x + 29 ∨ x + 37 ≤ z → z ≠ x + 9 + 3 → z ≠ x + 9 + 4 → I1 z = I z := s2
      have s3 : ∀ z, z ≠ x + 32 → R1 z = R z := s3
      have s4 : CSH x K R1 := s4
      have s5 : TripC (x + 29) (x + 9) (wlN w N) I1 (tripG w c cs N b st kd vv rw (wlV w c N) (wlV w d N) (wyV w c N) le la (wlN w N)) := s5
      have hQR1 : QR x R R1 := fun z hz => s3 z (by omega)
      have hM1 : MSH (x + 62) K R1 := hS.congr (fun _ _ => rfl) (s3 _ (by omega))
      have F1 : AF x (12 :: 13 :: scE) scP I I1 := by
        have sc : ∀ m, m < 21 → 29 + m ∈ scE := by decide
        refine ⟨fun z a b => ?_, fun j k a b => ?_⟩
        · by_cases c : z < x + 29 ∨ x + 37 ≤ z
          · exact s2 z c (fun e => a 12 (by simp) (by omega)) (fun e => a 13 (by simp) (by omega))
          · exact absurd (show z = x + (29 + (z - x - 29)) by omega) (a _ (List.mem_cons_of_mem _ (List.mem_cons_of_mem _ (sc (z - x - 29) (by omega)))))
        · by_cases c : j < 29 ∨ 37 ≤ j
          · rw [s2 (x + j) (by omega) (fun e => a (by rw [show j = 12 by omega]; simp)) (fun e => a (by rw [show j = 13 by omega]; simp))]
          · exact absurd (List.mem_cons_of_mem _ (List.mem_cons_of_mem _ (by rw [show j = 29 + (j - 29) by omega]; exact sc (j - 29) (by omega)))) a
      have dyn : ∀ {E P} {Ia : Im}, AF x E P I Ia → (∀ j ∈ E, j < 110) → (∀ p ∈ P, p.1 < 110) → ∀ z, x + 110 ≤ z → z < n → Ia z = I z ∧ R1 z = R z := fun F hE hP z hz _ => ⟨F.d hE hP hz, s3 z (by omega)⟩
      have tab1 : TabE x I I1 := TabE.ok F1 (by decide)
      have w1 : WasteR x i q N w c d cs K I1 R1 := by
        obtain ⟨y1, y2, y3, y4, y5, y6, y7⟩ := tab1
        have hwd := SceneR.wd hnow (fun z a b => (dyn F1 (by decide) (by decide) z a b).1) (fun z a b => (dyn F1 (by decide) (by decide) z a b).2) q oq
        exact t3.2.1.cg y1 y2 y3 y4 y5 y6 y7 hwd.1 hwd.2
      have hl1 : ∀ k, k < wlN w N → I1 (x + 73) k = nI (le k) ∧ le k ≤ 99 ∧ I1 (x + 74) k = nI (la k) ∧ la k ≤ M := fun k hk => by
        obtain ⟨y1, y2, y3, y4, y5, y6, y7, y8⟩ := t3.2.2.2.2 k hk
        rw [F1.r (j := 73) (by decide) (by decide), F1.r (j := 74) (by decide) (by decide)]
        exact ⟨y4, y5, y7, y8⟩
      have car1 : CarR x nr k n a b st r a' K I1 R1 := q3.cg (by rw [s3 _ (by omega)]) (fun r _ => by rw [s3 _ (by omega)]) (dyn F1 (by decide) (by decide) a q3.2.2.1 q3.2.2.2.1).2 rfl (dyn F1 (by decide) (by decide) a q3.2.2.1 q3.2.2.2.1).1 (by rw [F1.r (j := 85) (by decide) (by decide)]) (by rw [F1.r (j := 86) (by decide) (by decide)]) (by rw [F1.r (j := 87) (by decide) (by decide)]) (Nat.le_refl _) (Nat.le_refl _)
      have rul1 : RuleR x r n a' kd vv rn rwr K I1 R1 := by
        have h1 := hrule.2.1.2.1
        have h2 := hrule.2.2.1
        exact hrule.cg (by rw [s3 _ (by omega)]) (dyn F1 (by decide) (by decide) a' h1 (by omega)).2 ⟨rfl, rfl⟩ (dyn F1 (by decide) (by decide) a' h1 (by omega)).1 (dyn F1 (by decide) (by decide) (a' + 1) (by omega) (by omega)).1 (by rw [F1.r (j := 81) (by decide) (by decide)]) (by rw [F1.r (j := 82) (by decide) (by decide)]) (by rw [F1.r (j := 83) (by decide) (by decide)]) (fun k _ => by rw [F1.r (j := 84) (by decide) (by decide)]) (Nat.le_refl _)
      obtain ⟨I2, u1, u2', u3, u4⟩ := ref_try2 hM1 hi5 (by rw [F1.f (j := 62) (k := 1) (by decide) (by decide)]; exact t1) w1 hl1 car1 rul1 hnum.1 (by omega : k < 6) hMb hM7 hrw
      obtain ⟨I0, x1, x2⟩ := bnd u1
      obtain ⟨⟨r3, I3⟩, g1, g2, g3, g4⟩ := m_goes31 (P := fun s => s.1 = I2 (x + 62) 50 ∧ FM (x + 62) [11, 12] [] I2 s.2 ∧ ∀ j, j < wlN w N → s.2 (x + 73) j = I2 (x + 79) j ∧ s.2 (x + 74) j = I2 (x + 80) j) hM1 hW5 (wlN w N) 0 FU I2 (by omega) (FU_lt (by omega)) u3 (fun j hj => by omega) (fun Ie F e => ⟨by rw [F.fld (by decide) (by decide)], F, e⟩)
      have g2 : r3 = I2 (x + 62) 50 := g2
      subst g2
      have g3 : FM (x + 62) [11, 12] [] I2 I3 := g3
      have F2 : AF x (12 :: 13 :: 73 :: 74 :: scE) scP I I3 := ((F1.mono (by decide) (by decide)).trans (AF.fm u2' (by decide) (by decide))).trans (AF.fm g3 (by decide) (by decide))
      have dyn2 := dyn F2 (by decide) (by decide)
      have tab2 : TabE x I I3 := TabE.ok F2 (by decide)
      have hkn : NowS x nc NW n (M + 100) K I3 R1 := by
        refine ⟨Or.inr ⟨i, q, N, w, c, d, cs, (tripG w c cs N b st kd vv rw (wlV w c N) (wlV w d N) (wyV w c N) le la (wlN w N)).2.2.2.1, (tripG w c cs N b st kd vv rw (wlV w c N) (wlV w d N) (wyV w c N) le la (wlN w N)).2.2.2.2, by rw [F2.f (j := 62) (k := 1) (by decide) (by decide)]; exact t1, t2, by rw [s3 _ (by omega)]; exact oq, ?_, t3.2.2.1, fun z hz => t3.2.2.2.1 z (by rw [← s3 q (by have := t3.2.1.2.2.1; omega)]; exact hz), fun k hk => ?_⟩, ?_⟩
        · obtain ⟨y1, y2, y3, y4, y5, y6, y7⟩ := tab2
          have hwd := SceneR.wd hnow (fun z a b => (dyn2 z a b).1) (fun z a b => (dyn2 z a b).2) q oq
          exact t3.2.1.cg y1 y2 y3 y4 y5 y6 y7 hwd.1 hwd.2
        · obtain ⟨y1, y2, y3, y4, y5, y6, y7, y8⟩ := t3.2.2.2.2 k hk
          obtain ⟨b1, b2⟩ := tb.2.2 k hk
          obtain ⟨c1, c2⟩ := s5.2.2.2 k hk
          obtain ⟨d1, d2⟩ := u4.2.2.2 k hk
          have ea : I3 (x + 12) = I1 (x + 12) := ((AF.fm (E := 73 :: 74 :: scE) (P := scP) u2' (by decide) (by decide)).trans (AF.fm g3 (by decide) (by decide))).r (by decide) (by decide)
          have eb : I3 (x + 13) = I1 (x + 13) := ((AF.fm (E := 73 :: 74 :: scE) (P := scP) u2' (by decide) (by decide)).trans (AF.fm g3 (by decide) (by decide))).r (by decide) (by decide)
          refine ⟨?_, ?_, ?_, ?_, b1, ?_, ?_, ?_⟩
          · show I3 (x + 10) k = _
            rw [F2.r (j := 10) (by decide) (by decide)]; exact y1
          · show I3 (x + 11) k = _
            rw [F2.r (j := 11) (by decide) (by decide)]; exact y2
          · show I3 (x + 12) k = _
            rw [ea]; exact c1
          · exact (g4 k hk).1.trans d1
          · show I3 (x + 13) k = _
            rw [eb]; exact c2
          · exact (g4 k hk).2.trans d2
          · omega
        · have hh := hnow.2
          show (∀ k, k < 5 → ∃ m, m ≤ 10 ∧ I3 (x + 14) k = nI m ∧ I3 (x + 75) k = nI m) ∧ (∃ ns, ns ≤ 3 ∧ I3 (x + 8) 4 = nI ns ∧ I3 (x + 62) 51 = nI ns ∧ ∀ k, k < ns → ∃ c, c < nc ∧ I3 (x + 15) k = nI c ∧ I3 (x + 96) k = nI c) ∧ ∃ nh, nh ≤ 5 ∧ I3 (x + 8) 6 = nI nh ∧ I3 (x + 62) 29 = nI nh ∧ ∃ hd : Nat → Nat, ∀ k, k < 5 → hd k ≤ 6 ∧ I3 (x + 16) k = nI (if k < nh then hd k else 0) ∧ (k < nh → I3 (x + 88) k = nI (hd k))
          rw [F2.r (j := 14) (by decide) (by decide), F2.r (j := 75) (by decide) (by decide), F2.r (j := 15) (by decide) (by decide), F2.r (j := 96) (by decide) (by decide), F2.r (j := 16) (by decide) (by decide), F2.r (j := 88) (by decide) (by decide), F2.f (j := 8) (k := 4) (by decide) (by decide), F2.f (j := 8) (k := 6) (by decide) (by decide), F2.f (j := 62) (k := 51) (by decide) (by decide), F2.f (j := 62) (k := 29) (by decide) (by decide)]
          exact hh
      refine ⟨oI (tripG w c cs N b st kd vv rw (wlV w c N) (wlV w d N) (wyV w c N) le la (wlN w N)).1.1, I1, R1, I3, ?_, ?_, s4, hM1, hn, hM8, hZ.af F2, nr, nc, NW, RelG_iff.mpr ⟨NumR.af hnum F2 (by decide), RulesR.af hru F2 (by decide) dyn2 (by rw [s3 _ (by omega)]) (Nat.le_refl _), CarsR.af hca F2 (by decide) dyn2 (by rw [s3 _ (by omega)]) (by rw [s3 _ (by omega)]) (Nat.le_refl _), hkn, hkept.af F2 (by decide) dyn2 (by rw [s3 _ (by omega)]) (Nat.le_refl _) (by omega) (Nat.le_refl _) (Nat.le_refl _), himg.af F2 (by decide), hact.af F2 (by decide), TapesR.af htap F2 (by decide), htex.af F2 (by decide), hunr.tr (fun z hz => s3 z (by omega)) hnow hkept⟩⟩
      · rw [q4, obs, if_neg (by simp), o7, obs, if_neg nn, rs1, oq, s1, obs]
        show Option.bind (ob K 9 (R1 x 12)) _ = _
        rw [o11_12 (cS11 s4), obs]
        show some (I1 (x + 29) 0, I1, R1) = _
        rw [s5.1]
      · rw [isCar_eq (F1.f (j := 62) (k := 28) (by decide) (by decide)), q5, obs, if_neg e1', F1.f (j := 62) (k := 1) (by decide) (by decide), t1, if_pos (yes_nI (by omega)), x1, obs, x2, obs, L0, g1, u4.1]
  · refine ⟨-1, I, R, I, ?_, ?_, same⟩
    · rw [q4, obs, if_pos rfl]
    · rw [q5, obs, if_pos (show nI 0 = 0 from rfl)]
end
