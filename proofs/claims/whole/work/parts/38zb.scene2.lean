section
variable {Z : Nat → Nat} {x n n' M M' nr nc NW nc' NW' i q N u v o : Nat} {K : Sh} {I I' : Im} {J : Jm} {R R' : Rf} {w c d le la : Nat → Nat} {cs : Nat → List Nat} {E : List Nat} {P : List (Nat × Nat)}
theorem SceneR.cp {s s' aL aT aO aS aH aL' aT' aO' aS' aH' : Nat} {vT vS vH : Int32} (h : SceneR x s nc NW n M vT vS vH aL aT aO aS aH K I R) (ht : TabE x I I') (hd : ∀ q, R s 0 = some q → (∀ z, z = q ∨ z = q + 1 ∨ z = q + 2 ∨ z = q + 3 ∨ R q 8 = some z → I' z = I z) ∧ R' q = R q) (hRs : R' s' 0 = R s 0) (e4' : I' s' 4 = I s 4) (e6' : I' s' 6 = I s 6)
    (p5 : ∀ k, k < 5 → I' (s' + 2) k = I (s + 2) k ∧ I' (s' + 3) k = I (s + 3) k ∧ I' (s' + 4) k = I (s + 4) k ∧ I' (s' + 5) k = I (s + 5) k ∧ I' (s' + 6) k = I (s + 6) k ∧ I' (s' + 8) k = I (s + 8) k ∧ I' aL' k = I aL k ∧ I' aT' k = I aT k ∧ I' aO' k = I aO k ∧ I' aH' k = I aH k)
    (p3 : ∀ k, k < 3 → I' (s' + 7) k = I (s + 7) k ∧ I' aS' k = I aS k) : SceneR x s' nc NW n M vT vS vH aL' aT' aO' aS' aH' K I' R' := by
  obtain ⟨h1, h2, ⟨ns, g1, g2, g3, g4⟩, nh, z1, z2, z3, hd', z4⟩ := h
  refine ⟨?_, fun k hk => ?_, ⟨ns, g1, by rw [e4']; exact g2, g3, fun k hk => ?_⟩, nh, z1, by rw [e6']; exact z2, z3, hd', fun k hk => ?_⟩
  · rcases h1 with ⟨a, b⟩ | ⟨i, q, N, w, c, d, cs, le, la, a1, a2, a3⟩
    · exact Or.inl ⟨a, by rw [hRs]; exact b⟩
    · obtain ⟨d1, d2⟩ := hd q a3.1
      obtain ⟨t1, t2, t3, t4, t5, t6, t7⟩ := ht
      obtain ⟨b1, b2, b3, b4, b5⟩ := a3
      refine Or.inr ⟨i, q, N, w, c, d, cs, le, la, a1, a2, by rw [hRs]; exact b1, b2.cg t1 t2 t3 t4 t5 t6 t7 d1 d2, b3, fun z hz => by rw [d2] at hz; exact b4 z hz, fun k hk => ?_⟩
      obtain ⟨y1, y2, y3, y4, y5, y6, y7, y8, y9, y10⟩ := p5 k (by have := wlN_le w N; omega)
      rw [y1, y2, y3, y4, y7, y8]
      exact b5 k hk
  · obtain ⟨y1, y2, y3, y4, y5, y6, y7, y8, y9, y10⟩ := p5 k hk
    rw [y5, y9]
    exact h2 k hk
  · obtain ⟨y1, y2⟩ := p3 k (by omega)
    rw [y1, y2]
    exact g4 k hk
  · obtain ⟨y1, y2, y3, y4, y5, y6, y7, y8, y9, y10⟩ := p5 k hk
    rw [y6, y10]
    exact z4 k hk
def NowA (x NW n M : Nat) (K : Sh) (I : Im) (R : Rf) : Prop := (I (x + 62) 1 = -1 ∧ R (x + 8) 0 = none) ∨ ∃ i q N w c d cs le la, I (x + 62) 1 = nI i ∧ i < NW ∧ NowR x (x + 8) i q n M N (x + 73) (x + 74) w c d cs le la K I R
def NowB (x : Nat) (I : Im) : Prop := ∀ k, k < 5 → ∃ m, m ≤ 10 ∧ I (x + 14) k = nI m ∧ I (x + 75) k = nI m
def NowC (x nc : Nat) (I : Im) : Prop := ∃ ns, ns ≤ 3 ∧ I (x + 8) 4 = nI ns ∧ I (x + 62) 51 = nI ns ∧ ∀ k, k < ns → ∃ c, c < nc ∧ I (x + 15) k = nI c ∧ I (x + 96) k = nI c
def NowD (x : Nat) (I : Im) : Prop := ∃ nh, nh ≤ 5 ∧ I (x + 8) 6 = nI nh ∧ I (x + 62) 29 = nI nh ∧ ∃ hd : Nat → Nat, ∀ k, k < 5 → hd k ≤ 6 ∧ I (x + 16) k = nI (if k < nh then hd k else 0) ∧ (k < nh → I (x + 88) k = nI (hd k))
theorem NowS_iff : NowS x nc NW n M K I R ↔ NowA x NW n M K I R ∧ NowB x I ∧ NowC x nc I ∧ NowD x I := Iff.rfl
theorem NowA.af (h : NowA x NW n M K I R) (hF : AF x E P I I') (ho : okE [10, 11, 12, 13, 64, 65, 66, 67, 68, 69, 70, 73, 74] [(62, 1)] E P = true) (hd : ∀ z, x + 110 ≤ z → z < n → I' z = I z ∧ R' z = R z) (h8 : R' (x + 8) 0 = R (x + 8) 0) : NowA x NW n M K I' R' := by
  have r : ∀ j ∈ [10, 11, 12, 13, 64, 65, 66, 67, 68, 69, 70, 73, 74], I' (x + j) = I (x + j) := fun j hj => okE_r ho hF hj
  unfold NowA at h ⊢
  rw [okE_f ho hF (j := 62) (k := 1) (by decide)]
  rcases h with ⟨a, b⟩ | ⟨i, q, N, w, c, d, cs, le, la, a1, a2, a3⟩
  · exact Or.inl ⟨a, by rw [h8]; exact b⟩
  · refine Or.inr ⟨i, q, N, w, c, d, cs, le, la, a1, a2, a3.cg ⟨r 64 (by decide), r 65 (by decide), r 66 (by decide), r 67 (by decide), r 68 (by decide), r 69 (by decide), r 70 (by decide)⟩ (fun z hz => ?_) ((hd q a3.2.1.2.2.1 (by have := a3.2.2.1; omega)).2) h8 (r 10 (by decide)) (r 11 (by decide)) (r 12 (by decide)) (r 13 (by decide)) (r 73 (by decide)) (r 74 (by decide)) (Nat.le_refl _) (Nat.le_refl _)⟩
    have b1 := a3.2.1.2.2.1
    have b2 := a3.2.2.1
    rcases hz with hz | hz | hz | hz | hz
    · exact (hd z (by omega) (by omega)).1
    · exact (hd z (by omega) (by omega)).1
    · exact (hd z (by omega) (by omega)).1
    · exact (hd z (by omega) (by omega)).1
    · exact (hd z (a3.2.1.2.2.2.2.1 z hz) (a3.2.2.2.1 z hz)).1
theorem NowB.af (h : NowB x I) (hF : AF x E P I I') (ho : okE [14, 75] [] E P = true) : NowB x I' := by
  unfold NowB at h ⊢
  rw [okE_r ho hF (j := 14) (by decide), okE_r ho hF (j := 75) (by decide)]
  exact h
theorem NowC.af (h : NowC x nc I) (hF : AF x E P I I') (ho : okE [15, 96] [(8, 4), (62, 51)] E P = true) : NowC x nc I' := by
  unfold NowC at h ⊢
  rw [okE_r ho hF (j := 15) (by decide), okE_r ho hF (j := 96) (by decide), okE_f ho hF (j := 8) (k := 4) (by decide), okE_f ho hF (j := 62) (k := 51) (by decide)]
  exact h
theorem NowD.af (h : NowD x I) (hF : AF x E P I I') (ho : okE [16, 88] [(8, 6), (62, 29)] E P = true) : NowD x I' := by
  unfold NowD at h ⊢
  rw [okE_r ho hF (j := 16) (by decide), okE_r ho hF (j := 88) (by decide), okE_f ho hF (j := 8) (k := 6) (by decide), okE_f ho hF (j := 62) (k := 29) (by decide)]
  exact h
theorem k_odds (h : Rel Z x n M K I J R) (v1 v2 : Int32) : ∃ r I1 I2, f_X11_odds K R x v1 v2 I = some (r, I1) ∧ f_X12_odds K R (x + 62) v1 v2 I1 = some (r, I2) ∧ Rel Z x n M K I2 J R := by
  have h0 := h
  obtain ⟨hC, hS, hn, hMb, hZ, nr, nc, NW, hG⟩ := h
  obtain ⟨hnum, hru, hca, hnow, hkept, himg, hact, htap, htex, hunr⟩ := RelG_iff.mp hG
  have e1' : ¬ (nI 1 = 0) := by decide
  have e0' : nI 0 = 0 := rfl
  have S11 := cS11 hC
  have S12' : S12 (x + 62) K R := hS
  have o7 : ob K 7 (R x 7) = some (x + 8) := o11_7 S11
  unfold f_X11_odds f_X12_odds
  rcases rg v1 0 4 (by omega) (by omega) with ⟨m, p1, p2, p3, p4, p5⟩ | ⟨p4, p5, -⟩
  · have p4 : f_X11_within v1 0 4 = some (nI 1) := p4
    have p5 : ∀ o, f_X12_in o v1 0 4 = some (nI 1) := p5
    rcases rg v2 0 10 (by omega) (by omega) with ⟨g, q1, q2, q3, q4, q5⟩ | ⟨q4, q5, -⟩
    · have q4 : f_X11_within v2 0 10 = some (nI 1) := q4
      have q5 : ∀ o, f_X12_in o v2 0 10 = some (nI 1) := q5
      obtain ⟨hA, hB, hCC, hD⟩ := NowS_iff.mp hnow
      obtain ⟨b, b1, b2, b3⟩ := hB m (by omega)
      have F : AF x [14, 75] [] I (u2 (u2 I (x + 14) m (nI g)) (x + 75) m (nI g)) := (AF.refl.st (by decide)).st (by decide)
      have hd : ∀ z, x + 110 ≤ z → z < n → u2 (u2 I (x + 14) m (nI g)) (x + 75) m (nI g) z = I z ∧ R z = R z := fun z z1 _ => ⟨F.d (by decide) (by decide) z1, rfl⟩
      refine ⟨nI b, u2 I (x + 14) m (nI g), u2 (u2 I (x + 14) m (nI g)) (x + 75) m (nI g), ?_, ?_, hC, hS, hn, hMb, hZ.af F, nr, nc, NW, RelG_iff.mpr ⟨hnum.af F (by decide), hru.af F (by decide) hd rfl (Nat.le_refl _), hca.af F (by decide) hd rfl rfl (Nat.le_refl _), NowS_iff.mpr ⟨hA.af F (by decide) hd rfl, fun k hk => ?_, hCC.af F (by decide), hD.af F (by decide)⟩, hkept.af F (by decide) hd rfl (Nat.le_refl _) (Nat.le_refl _) (Nat.le_refl _) (Nat.le_refl _), himg.af F (by decide), hact.af F (by decide), htap.af F (by decide), htex.af F (by decide), hunr⟩⟩
      · rw [p4, obs, if_neg e1', q4, obs, if_neg e1', o7, obs, p1, q1, l6_2 (cS6n hC) (by omega), obs, s6_2 (cS6n hC) (by omega), obs, b2]
      · rw [p5, obs, if_neg e1', q5, obs, if_neg e1', p1, q1, l12_20 S12' (by omega), obs, s12_20 S12' (by omega), obs, u2_row (by omega), b3]
      · by_cases ck : k = m
        · subst ck
          refine ⟨g, q3, ?_, ?_⟩
          · rw [u2_row (by omega), u2_eq]
          · rw [u2_eq]
        · rw [u2_ne ck, u2_ne ck, u2_ne ck, u2_ne ck]
          exact hB k hk
    · have q4 : f_X11_within v2 0 10 = some (nI 0) := q4
      have q5 : ∀ o, f_X12_in o v2 0 10 = some (nI 0) := q5
      refine ⟨-2, I, I, ?_, ?_, h0⟩
      · rw [p4, obs, if_neg e1', q4, obs, if_pos e0']
      · rw [p5, obs, if_neg e1', q5, obs, if_pos e0']
  · have p4 : f_X11_within v1 0 4 = some (nI 0) := p4
    have p5 : ∀ o, f_X12_in o v1 0 4 = some (nI 0) := p5
    refine ⟨-1, I, I, ?_, ?_, h0⟩
    · rw [p4, obs, if_pos e0']
    · rw [p5, obs, if_pos e0']
theorem c6_7 {s : Nat} (hs : S6 s K R) : ∀ (r k f : Nat), k + r = 5 → r < f → f_X6_emptyHand_7 K R s f (nI k) (zR (s + 8) k I) = some (zR (s + 8) 5 I) := by
  intro r
  induction r with
  | zero =>
    intro k f e1 e2
    obtain ⟨f, rfl⟩ : ∃ f', f = f' + 1 := ⟨f - 1, by omega⟩
    have : k = 5 := by omega
    subst this
    unfold f_X6_emptyHand_7
    rw [if_pos (by decide)]
  | succ r ih =>
    intro k f e1 e2
    obtain ⟨f, rfl⟩ : ∃ f', f = f' + 1 := ⟨f - 1, by omega⟩
    unfold f_X6_emptyHand_7
    rw [if_neg (by rw [L5, nI_leI (by omega) (by omega)]; omega), s6_5 hs (by omega), obs, zR_st, L1, nI_add]
    exact ih (k + 1) f (by omega) (by omega)
theorem k_hand (h : Rel Z x n M K I J R) (v1 : Int32) : ∃ r I1 I2, f_X11_hand K R x v1 I = some (r, I1) ∧ f_X12_hand K R (x + 62) v1 I1 = some (r, I2) ∧ Rel Z x n M K I2 J R := by
  have h0 := h
  obtain ⟨hC, hS, hn, hMb, hZ, nr, nc, NW, hG⟩ := h
  obtain ⟨hnum, hru, hca, hnow, hkept, himg, hact, htap, htex, hunr⟩ := RelG_iff.mp hG
  obtain ⟨hA, hB, hCC, hD⟩ := NowS_iff.mp hnow
  have e1' : ¬ (nI 1 = 0) := by decide
  have e0' : nI 0 = 0 := rfl
  have S11 := cS11 hC
  have S12' : S12 (x + 62) K R := hS
  have o7 : ob K 7 (R x 7) = some (x + 8) := o11_7 S11
  unfold f_X11_hand f_X12_hand
  by_cases cv : v1 = -1
  · have F : AF x [16] [(8, 6), (62, 29)] I (u2 (zR (x + 16) 5 (u2 I (x + 8) 6 0)) (x + 62) 29 0) := ((AF.refl.pf (by decide)).zr (by decide)).pf (by decide)
    have hd : ∀ z, x + 110 ≤ z → z < n → u2 (zR (x + 16) 5 (u2 I (x + 8) 6 0)) (x + 62) 29 0 z = I z ∧ R z = R z := fun z z1 _ => ⟨F.d (by decide) (by decide) z1, rfl⟩
    have g := c6_7 (I := u2 I (x + 8) 6 0) (cS6n hC) 5 0 FU (by omega) (FU_lt (by omega))
    rw [zR_0] at g
    refine ⟨0, zR (x + 16) 5 (u2 I (x + 8) 6 0), u2 (zR (x + 16) 5 (u2 I (x + 8) 6 0)) (x + 62) 29 0, ?_, ?_, hC, hS, hn, hMb, hZ.af F, nr, nc, NW, RelG_iff.mpr ⟨hnum.af F (by decide), hru.af F (by decide) hd rfl (Nat.le_refl _), hca.af F (by decide) hd rfl rfl (Nat.le_refl _), NowS_iff.mpr ⟨hA.af F (by decide) hd rfl, hB.af F (by decide), hCC.af F (by decide), 0, by omega, ?_, u2_eq _ _ _ _, fun _ => 0, fun k hk => ⟨Nat.zero_le _, ?_, fun c => by omega⟩⟩, hkept.af F (by decide) hd rfl (Nat.le_refl _) (Nat.le_refl _) (Nat.le_refl _) (Nat.le_refl _), himg.af F (by decide), hact.af F (by decide), htap.af F (by decide), htex.af F (by decide), hunr⟩⟩
    · rw [if_pos cv, o7, obs]
      unfold f_X6_emptyHand
      have g' : f_X6_emptyHand_7 K R (x + 8) FU 0 (u2 I (x + 8) 6 0) = some (zR (x + 16) 5 (u2 I (x + 8) 6 0)) := g
      rw [obs, g']
      rfl
    · rw [if_pos cv]
      rfl
    · rw [u2_row (by omega), zR_row (by omega), u2_eq]
      rfl
    · rw [u2_row (by omega), zR_lt hk, if_neg (by omega)]
      rfl
  · rcases rg v1 0 6 (by omega) (by omega) with ⟨m, p1, p2, p3, p4, p5⟩ | ⟨p4, p5, -⟩
    · have p4 : f_X11_within v1 0 6 = some (nI 1) := p4
      have p5 : ∀ o, f_X12_in o v1 0 6 = some (nI 1) := p5
      obtain ⟨nh, n1, n2, n3, hdn, n4⟩ := hD
      by_cases c5 : nh = 5
      · refine ⟨-4, I, I, ?_, ?_, h0⟩
        · rw [if_neg cv, p4, obs, if_neg e1', o7, obs, n2, if_neg (show ¬ nI nh < 5 by rw [L5, nI_ltI (by omega) (by omega)]; omega)]
        · rw [if_neg cv, p5, obs, if_neg e1', n3, if_pos (by rw [c5]; rfl)]
      · have F : AF x [16, 88] [(8, 6), (62, 29)] I (u2 (u2 (u2 (u2 I (x + 16) nh (nI m)) (x + 8) 6 (nI (nh + 1))) (x + 88) nh (nI m)) (x + 62) 29 (nI (nh + 1))) := (((AF.refl.st (by decide)).pf (by decide)).st (by decide)).pf (by decide)
        have hd : ∀ z, x + 110 ≤ z → z < n → u2 (u2 (u2 (u2 I (x + 16) nh (nI m)) (x + 8) 6 (nI (nh + 1))) (x + 88) nh (nI m)) (x + 62) 29 (nI (nh + 1)) z = I z ∧ R z = R z := fun z z1 _ => ⟨F.d (by decide) (by decide) z1, rfl⟩
        refine ⟨nI (nh + 1), u2 (u2 I (x + 16) nh (nI m)) (x + 8) 6 (nI (nh + 1)), u2 (u2 (u2 (u2 I (x + 16) nh (nI m)) (x + 8) 6 (nI (nh + 1))) (x + 88) nh (nI m)) (x + 62) 29 (nI (nh + 1)), ?_, ?_, hC, hS, hn, hMb, hZ.af F, nr, nc, NW, RelG_iff.mpr ⟨hnum.af F (by decide), hru.af F (by decide) hd rfl (Nat.le_refl _), hca.af F (by decide) hd rfl rfl (Nat.le_refl _), NowS_iff.mpr ⟨hA.af F (by decide) hd rfl, hB.af F (by decide), hCC.af F (by decide), nh + 1, by omega, ?_, u2_eq _ _ _ _, fun k => if k = nh then m else hdn k, fun k hk => ⟨?_, ?_, fun c => ?_⟩⟩, hkept.af F (by decide) hd rfl (Nat.le_refl _) (Nat.le_refl _) (Nat.le_refl _) (Nat.le_refl _), himg.af F (by decide), hact.af F (by decide), htap.af F (by decide), htex.af F (by decide), hunr⟩⟩
        · rw [if_neg cv, p4, obs, if_neg e1', o7, obs, n2, if_pos (show nI nh < 5 by rw [L5, nI_ltI (by omega) (by omega)]; omega), p1, s6_5 (cS6n hC) (by omega), obs, obs, show u2 I (x + 8 + 8) nh (nI m) (x + 8) 6 = nI nh by rw [u2_row (by omega)]; exact n2, L1, nI_add, u2_eq]
        · have z1 : u2 (u2 I (x + 16) nh (nI m)) (x + 8) 6 (nI (nh + 1)) (x + 62) = I (x + 62) := by rw [u2_row (by omega), u2_row (by omega)]
          rw [if_neg cv, p5, obs, if_neg e1', z1, n3, if_neg (show ¬ nI nh = 5 by rw [L5, nI_eq (by omega) (by omega)]; omega), p1, s12_37 S12' (by omega), obs, obs, show ∀ v, u2 (u2 (u2 I (x + 16) nh (nI m)) (x + 8) 6 (nI (nh + 1))) (x + 62 + 26) nh v (x + 62) 29 = nI nh from fun v => by rw [u2_row (by omega), z1]; exact n3, L1, nI_add, u2_eq]
        · rw [u2_row (by omega), u2_row (by omega), u2_eq]
        · show (if k = nh then m else hdn k) ≤ 6
          have := (n4 k hk).1
          split <;> omega
        · rw [u2_row (by omega), u2_row (by omega), u2_row (by omega)]
          dsimp only
          by_cases ck : k = nh
          · subst ck
            rw [u2_eq, if_pos (by omega), if_pos rfl]
          · rw [u2_ne ck, (n4 k hk).2.1]
            by_cases c2 : k < nh
            · rw [if_pos c2, if_pos (by omega), if_neg ck]
            · rw [if_neg c2, if_neg (by omega)]
        · rw [u2_row (by omega)]
          dsimp only
          by_cases ck : k = nh
          · subst ck
            rw [u2_eq, if_pos rfl]
          · rw [u2_ne ck, if_neg ck, u2_row (by omega), u2_row (by omega)]
            exact (n4 k hk).2.2 (by omega)
    · have p4 : f_X11_within v1 0 6 = some (nI 0) := p4
      have p5 : ∀ o, f_X12_in o v1 0 6 = some (nI 0) := p5
      refine ⟨-2, I, I, ?_, ?_, h0⟩
      · rw [if_neg cv, p4, obs, if_pos e0']
      · rw [if_neg cv, p5, obs, if_pos e0']
theorem k_several (h : Rel Z x n M K I J R) (v1 : Int32) : ∃ r I1 I2, f_X11_several K R x v1 I = some (r, I1) ∧ f_X12_several K R (x + 62) v1 I1 = some (r, I2) ∧ Rel Z x n M K I2 J R := by
  have h0 := h
  obtain ⟨hC, hS, hn, hMb, hZ, nr, nc, NW, hG⟩ := h
  have hG0 := hG
  obtain ⟨hnum, hru, hca, hnow, hkept, himg, hact, htap, htex, hunr⟩ := RelG_iff.mp hG
  obtain ⟨hA, hB, hCC, hD⟩ := NowS_iff.mp hnow
  have e1' : ¬ (nI 1 = 0) := by decide
  have e0' : nI 0 = 0 := rfl
  have S11 := cS11 hC
  have S12' : S12 (x + 62) K R := hS
  have o7 : ob K 7 (R x 7) = some (x + 8) := o11_7 S11
  unfold f_X11_several f_X12_several
  by_cases cv : v1 = -1
  · have F : AF x [] [(8, 4), (62, 51)] I (u2 (u2 I (x + 8) 4 0) (x + 62) 51 0) := (AF.refl.pf (by decide)).pf (by decide)
    have hd : ∀ z, x + 110 ≤ z → z < n → u2 (u2 I (x + 8) 4 0) (x + 62) 51 0 z = I z ∧ R z = R z := fun z z1 _ => ⟨F.d (by decide) (by decide) z1, rfl⟩
    refine ⟨0, u2 I (x + 8) 4 0, u2 (u2 I (x + 8) 4 0) (x + 62) 51 0, ?_, ?_, hC, hS, hn, hMb, hZ.af F, nr, nc, NW, RelG_iff.mpr ⟨hnum.af F (by decide), hru.af F (by decide) hd rfl (Nat.le_refl _), hca.af F (by decide) hd rfl rfl (Nat.le_refl _), NowS_iff.mpr ⟨hA.af F (by decide) hd rfl, hB.af F (by decide), ⟨0, by omega, ?_, u2_eq _ _ _ _, fun k hk => by omega⟩, hD.af F (by decide)⟩, hkept.af F (by decide) hd rfl (Nat.le_refl _) (Nat.le_refl _) (Nat.le_refl _) (Nat.le_refl _), himg.af F (by decide), hact.af F (by decide), htap.af F (by decide), htex.af F (by decide), hunr⟩⟩
    · rw [if_pos cv, o7, obs]
      rfl
    · rw [if_pos cv]
      rfl
    · rw [u2_row (by omega), u2_eq]
      rfl
  · rcases car_at hC hG0 v1 with ⟨m, a, b, st, r, ra, q1, q2, q3, q4, q5⟩ | ⟨q4, q5⟩
    · obtain ⟨ns, n1, n2, n3, n4⟩ := hCC
      have hnc := hnum.2.1
      by_cases c3 : ns = 3
      · refine ⟨-4, I, I, ?_, ?_, h0⟩
        · rw [if_neg cv, q4, obs, if_neg (by simp), o7, obs, n2, if_neg (show ¬ nI ns < 3 by rw [L3, nI_ltI (by omega) (by omega)]; omega)]
        · rw [if_neg cv, q5, obs, if_neg e1', n3, if_pos (by rw [c3]; rfl)]
      · have F : AF x [15, 96] [(8, 4), (62, 51)] I (u2 (u2 (u2 (u2 I (x + 15) ns (nI m)) (x + 8) 4 (nI (ns + 1))) (x + 96) ns (nI m)) (x + 62) 51 (nI (ns + 1))) := (((AF.refl.st (by decide)).pf (by decide)).st (by decide)).pf (by decide)
        have F1 : AF x [15, 96] [(8, 4), (62, 51)] I (u2 (u2 I (x + 15) ns (nI m)) (x + 8) 4 (nI (ns + 1))) := (AF.refl.st (by decide)).pf (by decide)
        have hd : ∀ z, x + 110 ≤ z → z < n → u2 (u2 (u2 (u2 I (x + 15) ns (nI m)) (x + 8) 4 (nI (ns + 1))) (x + 96) ns (nI m)) (x + 62) 51 (nI (ns + 1)) z = I z ∧ R z = R z := fun z z1 _ => ⟨F.d (by decide) (by decide) z1, rfl⟩
        have isC : f_X12_isCaravan K (u2 (u2 I (x + 15) ns (nI m)) (x + 8) 4 (nI (ns + 1))) (x + 62) v1 = some (nI 1) := by
          rw [← q5]
          unfold f_X12_isCaravan
          rw [F1.f (j := 62) (k := 28) (by decide) (by decide)]
        refine ⟨nI (ns + 1), u2 (u2 I (x + 15) ns (nI m)) (x + 8) 4 (nI (ns + 1)), u2 (u2 (u2 (u2 I (x + 15) ns (nI m)) (x + 8) 4 (nI (ns + 1))) (x + 96) ns (nI m)) (x + 62) 51 (nI (ns + 1)), ?_, ?_, hC, hS, hn, hMb, hZ.af F, nr, nc, NW, RelG_iff.mpr ⟨hnum.af F (by decide), hru.af F (by decide) hd rfl (Nat.le_refl _), hca.af F (by decide) hd rfl rfl (Nat.le_refl _), NowS_iff.mpr ⟨hA.af F (by decide) hd rfl, hB.af F (by decide), ⟨ns + 1, by omega, ?_, u2_eq _ _ _ _, fun k hk => ?_⟩, hD.af F (by decide)⟩, hkept.af F (by decide) hd rfl (Nat.le_refl _) (Nat.le_refl _) (Nat.le_refl _) (Nat.le_refl _), himg.af F (by decide), hact.af F (by decide), htap.af F (by decide), htex.af F (by decide), hunr⟩⟩
        · rw [if_neg cv, q4, obs, if_neg (by simp), o7, obs, n2, if_pos (show nI ns < 3 by rw [L3, nI_ltI (by omega) (by omega)]; omega), q1, s6_3 (cS6n hC) (by omega), obs, obs, show u2 I (x + 8 + 7) ns (nI m) (x + 8) 4 = nI ns by rw [u2_row (by omega)]; exact n2, L1, nI_add, u2_eq]
        · have z1 : u2 (u2 I (x + 15) ns (nI m)) (x + 8) 4 (nI (ns + 1)) (x + 62) = I (x + 62) := by rw [u2_row (by omega), u2_row (by omega)]
          rw [if_neg cv, isC, obs, if_neg e1', z1, n3, if_neg (show ¬ nI ns = 3 by rw [L3, nI_eq (by omega) (by omega)]; omega), q1, s12_52 S12' (by omega), obs, obs, show ∀ v, u2 (u2 (u2 I (x + 15) ns (nI m)) (x + 8) 4 (nI (ns + 1))) (x + 62 + 34) ns v (x + 62) 51 = nI ns from fun v => by rw [u2_row (by omega), z1]; exact n3, L1, nI_add, u2_eq]
        · rw [u2_row (by omega), u2_row (by omega), u2_eq]
        · rw [u2_row (show x + 15 ≠ x + 62 by omega), u2_row (show x + 15 ≠ x + 96 by omega), u2_row (show x + 15 ≠ x + 8 by omega), u2_row (show x + 96 ≠ x + 62 by omega)]
          by_cases ck : k = ns
          · subst ck
            exact ⟨m, q2, u2_eq _ _ _ _, u2_eq _ _ _ _⟩
          · rw [u2_ne ck, u2_ne ck, u2_row (show x + 96 ≠ x + 8 by omega), u2_row (show x + 96 ≠ x + 15 by omega)]
            exact n4 k (by omega)
    · refine ⟨-1, I, I, ?_, ?_, h0⟩
      · rw [if_neg cv, q4, obs, if_pos rfl]
      · rw [if_neg cv, q5, obs, if_pos e0']
end
