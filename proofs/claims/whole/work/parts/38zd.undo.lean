section
variable {Z : Nat → Nat} {x n n' M M' nr nc NW nc' NW' i q N u v o : Nat} {K : Sh} {I I' I1 : Im} {J : Jm} {R R' : Rf} {w c d le la : Nat → Nat} {cs : Nat → List Nat} {E : List Nat} {P : List (Nat × Nat)}
theorem k_undo (h : Rel Z x n M K I J R) : ∃ r I1 R1 I2, f_X11_undo K x I R = some (r, I1, R1) ∧ f_X12_undo K R1 (x + 62) I1 = some (r, I2) ∧ Rel Z x n M K I2 J R1 := by
  have h0 := h
  obtain ⟨hC, hS, hn, hMb, hZ, nr, nc, NW, hG⟩ := h
  obtain ⟨hnum, hru, hca, hnow, hkept, himg, hact, htap, htex, hunr⟩ := RelG_iff.mp hG
  have S11 := cS11 hC
  obtain ⟨bb, bb1, bb2⟩ := himg
  cases bb with
  | false =>
    refine ⟨-3, I, R, I, ?_, ?_, h0⟩
    · unfold f_X11_undo
      rw [bb1, if_pos (show bI false = 0 from rfl)]
    · unfold f_X12_undo
      rw [bb2, if_pos (show bI false = 0 from rfl)]
  | true =>
  have hR1 : ∀ z, z ≠ x + 8 → u2 R (x + 8) 0 (R (x + 17) 0) z = R z := fun z hz => u2_row hz
  have hC1 : CSH x K (u2 R (x + 8) 0 (R (x + 17) 0)) := hC.u (i := 8) (k := 0) rfl
  have hS1 : MSH (x + 62) K (u2 R (x + 8) 0 (R (x + 17) 0)) := hS.congr (fun _ _ => rfl) (hR1 _ (by omega))
  have S12' : S12 (x + 62) K (u2 R (x + 8) 0 (R (x + 17) 0)) := hS1
  obtain ⟨I1, s0, s1, s2, s3, s4, s5, s6⟩ := c6_become (u := x + 8) (v := x + 17) (K := K) (R := R) (cS6n hC1) (cS6k hC1) (cS10n hC1) (cS10k hC1) (by omega) I
  have o7 : ob K 7 (R x 7) = some (x + 8) := o11_7 S11
  have o7' : ob K 7 (u2 R (x + 8) 0 (R (x + 17) 0) x 7) = some (x + 8) := o11_7 (cS11 hC1)
  have r8 : R x 8 = some (x + 17) := r11_8 S11
  have hk := hkept
  unfold KeptS at hk
  obtain ⟨-, -, ⟨ns, n1, n2, n3, n4⟩, -⟩ := hk
  generalize hE : ([10, 11, 12, 13, 14, 15, 16, 73, 74, 75, 88, 96] : List Nat) = E
  generalize hP : ([(8, 4), (8, 6), (62, 1), (62, 51), (62, 29)] : List (Nat × Nat)) = P
  have F1 : AF x E P I I1 := by
    subst hE hP
    exact AF.six s1 s2 (by decide) (by decide) (by decide)
  have Fm : AF x E P I (u2 (u2 (u2 I1 (x + 62) 1 (I (x + 62) 59)) (x + 62) 51 (I (x + 62) 60)) (x + 62) 29 (I (x + 62) 61)) := ((F1.pf (by subst hP; decide)).pf (by subst hP; decide)).pf (by subst hP; decide)
  generalize hIm : u2 (u2 (u2 I1 (x + 62) 1 (I (x + 62) 59)) (x + 62) 51 (I (x + 62) 60)) (x + 62) 29 (I (x + 62) 61) = Im at Fm
  have Ff : AF x E P I (cpR (x + 88) (x + 104) 5 (cpR (x + 96) (x + 103) 3 (cpR (x + 75) (x + 102) 5 (cpR (x + 74) (x + 101) 5 (cpR (x + 73) (x + 100) 5 Im))))) := ((((Fm.cp (by subst hE; decide)).cp (by subst hE; decide)).cp (by subst hE; decide)).cp (by subst hE; decide)).cp (by subst hE; decide)
  have m0 : ∀ z, z < x + 73 → (cpR (x + 88) (x + 104) 5 (cpR (x + 96) (x + 103) 3 (cpR (x + 75) (x + 102) 5 (cpR (x + 74) (x + 101) 5 (cpR (x + 73) (x + 100) 5 Im))))) z = Im z := fun z hz => by rw [cpR_row (by omega), cpR_row (by omega), cpR_row (by omega), cpR_row (by omega), cpR_row (by omega)]
  have m1 : ∀ k, k < 5 → (cpR (x + 88) (x + 104) 5 (cpR (x + 96) (x + 103) 3 (cpR (x + 75) (x + 102) 5 (cpR (x + 74) (x + 101) 5 (cpR (x + 73) (x + 100) 5 Im))))) (x + 73) k = I (x + 100) k := fun k hk => by
    rw [cpR_row (by omega), cpR_row (by omega), cpR_row (by omega), cpR_row (by omega), cpR_lt hk, Fm.r (by subst hE; decide) (by subst hP; decide)]
  have m2 : ∀ k, k < 5 → (cpR (x + 88) (x + 104) 5 (cpR (x + 96) (x + 103) 3 (cpR (x + 75) (x + 102) 5 (cpR (x + 74) (x + 101) 5 (cpR (x + 73) (x + 100) 5 Im))))) (x + 74) k = I (x + 101) k := fun k hk => by
    rw [cpR_row (by omega), cpR_row (by omega), cpR_row (by omega), cpR_lt hk, cpR_row (by omega), Fm.r (by subst hE; decide) (by subst hP; decide)]
  have m3 : ∀ k, k < 5 → (cpR (x + 88) (x + 104) 5 (cpR (x + 96) (x + 103) 3 (cpR (x + 75) (x + 102) 5 (cpR (x + 74) (x + 101) 5 (cpR (x + 73) (x + 100) 5 Im))))) (x + 75) k = I (x + 102) k := fun k hk => by
    rw [cpR_row (by omega), cpR_row (by omega), cpR_lt hk, cpR_row (by omega), cpR_row (by omega), Fm.r (by subst hE; decide) (by subst hP; decide)]
  have m4 : ∀ k, k < 3 → (cpR (x + 88) (x + 104) 5 (cpR (x + 96) (x + 103) 3 (cpR (x + 75) (x + 102) 5 (cpR (x + 74) (x + 101) 5 (cpR (x + 73) (x + 100) 5 Im))))) (x + 96) k = I (x + 103) k := fun k hk => by
    rw [cpR_row (by omega), cpR_lt hk, cpR_row (by omega), cpR_row (by omega), cpR_row (by omega), Fm.r (by subst hE; decide) (by subst hP; decide)]
  have m5 : ∀ k, k < 5 → (cpR (x + 88) (x + 104) 5 (cpR (x + 96) (x + 103) 3 (cpR (x + 75) (x + 102) 5 (cpR (x + 74) (x + 101) 5 (cpR (x + 73) (x + 100) 5 Im))))) (x + 88) k = I (x + 104) k := fun k hk => by
    rw [cpR_lt hk, cpR_row (by omega), cpR_row (by omega), cpR_row (by omega), cpR_row (by omega), Fm.r (by subst hE; decide) (by subst hP; decide)]
  have mc : ∀ z, z < x + 62 → Im z = I1 z := fun z b => by rw [← hIm, u2_row (by omega), u2_row (by omega), u2_row (by omega)]
  have hd : ∀ z, x + 110 ≤ z → z < n → (cpR (x + 88) (x + 104) 5 (cpR (x + 96) (x + 103) 3 (cpR (x + 75) (x + 102) 5 (cpR (x + 74) (x + 101) 5 (cpR (x + 73) (x + 100) 5 Im))))) z = I z ∧ u2 R (x + 8) 0 (R (x + 17) 0) z = R z := fun z z1 _ => ⟨Ff.d (by subst hE; decide) (by subst hP; decide) z1, hR1 z (by omega)⟩
  have q1 : Im (x + 62) 1 = I (x + 62) 59 := by rw [← hIm, u2_ne (by omega), u2_ne (by omega), u2_eq]
  have q51 : Im (x + 62) 51 = I (x + 62) 60 := by rw [← hIm, u2_ne (by omega), u2_eq]
  have q29 : Im (x + 62) 29 = I (x + 62) 61 := by rw [← hIm, u2_eq]
  generalize hIf : cpR (x + 88) (x + 104) 5 (cpR (x + 96) (x + 103) 3 (cpR (x + 75) (x + 102) 5 (cpR (x + 74) (x + 101) 5 (cpR (x + 73) (x + 100) 5 Im)))) = If at Ff m0 m1 m2 m3 m4 m5 hd
  have TB : TabE x I If := TabE.ok Ff (by subst hE hP; decide)
  have himg : ImgR x I := ⟨true, bb1, bb2⟩
  refine ⟨nI ns, I1, u2 R (x + 8) 0 (R (x + 17) 0), If, ?_, ?_, hC1, hS1, hn, hMb, hZ.af Ff, nr, nc, NW, RelG_iff.mpr ⟨hnum.af Ff (by subst hE hP; decide), hru.af Ff (by subst hE hP; decide) hd (hR1 _ (by omega)) (Nat.le_refl _), hca.af Ff (by subst hE hP; decide) hd (hR1 _ (by omega)) (hR1 _ (by omega)) (Nat.le_refl _), ?_, hkept.af Ff (by subst hE hP; decide) hd (by rw [hR1 _ (by omega)]) (Nat.le_refl _) (Nat.le_refl _) (Nat.le_refl _) (Nat.le_refl _), himg.af Ff (by subst hE hP; decide), hact.af Ff (by subst hE hP; decide), htap.af Ff (by subst hE hP; decide), htex.af Ff (by subst hE hP; decide), ?_⟩⟩
  · unfold f_X11_undo
    rw [bb1, if_neg (show ¬ bI true = 0 by decide), o7, obs, r8, s0, obs, o7', obs]
    have : I1 (x + 8) 4 = nI ns := by rw [s3]; exact n2
    show some (I1 (x + 8) 4, I1, _) = _
    rw [this]
  · unfold f_X12_undo
    have z0 : I1 (x + 62) 58 = bI true := by rw [F1.f (by subst hE; decide) (by subst hP; decide)]; exact bb2
    have z1 : I1 (x + 62) 59 = I (x + 62) 59 := F1.f (by subst hE; decide) (by subst hP; decide)
    have z2 : ∀ v, u2 I1 (x + 62) 1 v (x + 62) 60 = I (x + 62) 60 := fun v => by rw [u2_ne (by omega), F1.f (by subst hE; decide) (by subst hP; decide)]
    have z3 : ∀ v v', u2 (u2 I1 (x + 62) 1 v) (x + 62) 51 v' (x + 62) 61 = I (x + 62) 61 := fun v v' => by rw [u2_ne (by omega), u2_ne (by omega), F1.f (by subst hE; decide) (by subst hP; decide)]
    rw [z0, if_neg (show ¬ bI true = 0 by decide), obs, z1, z2, obs, obs, z3, hIm, r12_62 S12', r12_18 S12', m_copy (k12_62 S12') (k12_18 S12') (by omega) (by omega), obs, r12_63 S12', r12_19 S12', m_copy (k12_63 S12') (k12_19 S12') (by omega) (by omega), obs, r12_64 S12', r12_20 S12', m_copy (k12_64 S12') (k12_20 S12') (by omega) (by omega), obs, r12_65 S12', r12_52 S12', m_copy (k12_65 S12') (k12_52 S12') (by omega) (by omega), obs, r12_66 S12', r12_37 S12', m_copy (k12_66 S12') (k12_37 S12') (by omega) (by omega), obs]
    have e : If (x + 62) 51 = nI ns := by rw [m0 _ (by omega), q51]; exact n3
    rw [← e, ← hIf]
  · unfold NowS
    rw [m0 (x + 62) (by omega), q1, q51, q29]
    refine SceneR.cp (s := x + 17) hkept TB (hkept.wd (fun z a b => (hd z a b).1) (fun z a b => (hd z a b).2)) (u2_eq _ _ _ _) ?_ ?_ (fun k hk => ?_) (fun k hk => ?_)
    · rw [m0 _ (by omega), mc _ (by omega)]; exact s3
    · rw [m0 _ (by omega), mc _ (by omega)]; exact s4
    · rw [m0 _ (by omega), m0 _ (by omega), m0 _ (by omega), m0 _ (by omega), m0 _ (by omega), m0 _ (by omega), mc _ (by omega), mc _ (by omega), mc _ (by omega), mc _ (by omega), mc _ (by omega), mc _ (by omega)]
      obtain ⟨y1, y2, y3, y4, y5, y6⟩ := s5 k hk
      exact ⟨y1, y2, y3, y4, y5, y6, m1 k hk, m2 k hk, m3 k hk, m5 k hk⟩
    · rw [m0 _ (by omega), mc _ (by omega)]
      exact ⟨s6 k hk, m4 k hk⟩
  · rcases hunr with hu | ⟨q, h1, h2, h3, h4, h5, h6, h7⟩
    · exact Or.inl (by rw [hR1 _ (by omega)]; exact hu)
    · have e8 : u2 R (x + 8) 0 (R (x + 17) 0) (x + 17) 0 = R (x + 17) 0 := by rw [hR1 _ (by omega)]
      have e17 : u2 R (x + 8) 0 (R (x + 17) 0) (x + 8) 0 = R (x + 17) 0 := u2_eq _ _ _ _
      refine Or.inr ⟨q, by rw [hR1 _ (by omega)]; exact h1, ?_, h3, h4, by rw [e17]; exact h6, by rw [e8]; exact h6, ?_⟩
      · unfold S9 at h2 ⊢
        rw [hR1 q (by omega)]
        exact h2
      · rw [hR1 q (by omega)]
        rcases h7 with h7 | ⟨dr, g1, g2, g3, g4, g5⟩
        · exact Or.inl h7
        · refine Or.inr ⟨dr, g1, g2, g3, g4, fun q' hq => ?_⟩
          rw [e8, e17] at hq
          have hq : R (x + 17) 0 = some q' := by rcases hq with hq | hq <;> exact hq
          have := (SceneR.wq hkept hq).1
          rw [hR1 q' (by omega)]
          exact g5 q' (Or.inr hq)
end
