/-! image and undo -/
section
variable {Z : Nat → Nat} {x n n' M M' nr nc NW nc' NW' i q N u v o : Nat} {K : Sh} {I I' I1 : Im} {J : Jm} {R R' : Rf} {w c d le la : Nat → Nat} {cs : Nat → List Nat} {E : List Nat} {P : List (Nat × Nat)}
theorem AF.six {j0 : Nat} (h1 : ∀ z, z ≠ x + j0 → (z < x + j0 + 2 ∨ x + j0 + 8 < z) → I1 z = I z) (h2 : ∀ k, k ≠ 4 → k ≠ 6 → I1 (x + j0) k = I (x + j0) k) (hE : ∀ m, m < 7 → j0 + 2 + m ∈ E) (hP4 : (j0, 4) ∈ P) (hP6 : (j0, 6) ∈ P) : AF x E P I I1 := by
  have out : ∀ z, (∀ j ∈ E, z ≠ x + j) → z < x + j0 + 2 ∨ x + j0 + 8 < z := fun z a => by
    by_cases c : z < x + j0 + 2 ∨ x + j0 + 8 < z
    · exact c
    · exact absurd (show z = x + (j0 + 2 + (z - x - j0 - 2)) by omega) (a _ (hE _ (by omega)))
  refine ⟨fun z a b => h1 z (fun e => b (j0, 4) hP4 e) (out z a), fun j k a b => ?_⟩
  by_cases c : j = j0
  · subst c
    exact h2 k (fun e => b (e ▸ hP4)) (fun e => b (e ▸ hP6))
  · rw [h1 (x + j) (by omega) (out (x + j) (fun j' hj' e => a (by rw [show j = j' by omega]; exact hj')))]
theorem k_image (h : Rel Z x n M K I J R) : ∃ r I1 R1 I2, f_X11_image K x I R = some (r, I1, R1) ∧ f_X12_image K R1 (x + 62) I1 = some (r, I2) ∧ Rel Z x n M K I2 J R1 := by
  obtain ⟨hC, hS, hn, hMb, hZ, nr, nc, NW, hG⟩ := h
  obtain ⟨hnum, hru, hca, hnow, hkept, himg, hact, htap, htex, hunr⟩ := RelG_iff.mp hG
  have S11 := cS11 hC
  have hR1 : ∀ z, z ≠ x + 17 → u2 R (x + 17) 0 (R (x + 8) 0) z = R z := fun z hz => u2_row hz
  have hC1 : CSH x K (u2 R (x + 17) 0 (R (x + 8) 0)) := hC.u (i := 17) (k := 0) rfl
  have hS1 : MSH (x + 62) K (u2 R (x + 17) 0 (R (x + 8) 0)) := hS.congr (fun _ _ => rfl) (hR1 _ (by omega))
  have S12' : S12 (x + 62) K (u2 R (x + 17) 0 (R (x + 8) 0)) := hS1
  obtain ⟨I1, s0, s1, s2, s3, s4, s5, s6⟩ := c6_become (u := x + 17) (v := x + 8) (K := K) (R := R) (cS6k hC1) (cS6n hC1) (cS10k hC1) (cS10n hC1) (by omega) I
  have o8 : ob K 7 (R x 8) = some (x + 17) := o11_8 S11
  have o7 : ob K 7 (u2 R (x + 17) 0 (R (x + 8) 0) x 7) = some (x + 8) := o11_7 (cS11 hC1)
  have r7 : R x 7 = some (x + 8) := r11_7 S11
  obtain ⟨hA, hB, ⟨ns, n1, n2, n3, n4⟩, hD⟩ := NowS_iff.mp hnow
  generalize hE : ([19, 20, 21, 22, 23, 24, 25, 100, 101, 102, 103, 104] : List Nat) = E
  generalize hP : ([(0, 9), (17, 4), (17, 6), (62, 58), (62, 59), (62, 60), (62, 61)] : List (Nat × Nat)) = P
  have F1 : AF x E P I I1 := by
    subst hE hP
    exact AF.six s1 s2 (by decide) (by decide) (by decide)
  have F2 : AF x E P I (u2 I1 x 9 1) := F1.pf0 (by subst hP; decide)
  generalize hIc : u2 I1 x 9 1 = Ic at F2
  have Fm : AF x E P I (u2 (u2 (u2 (u2 Ic (x + 62) 58 1) (x + 62) 59 (I (x + 62) 1)) (x + 62) 60 (I (x + 62) 51)) (x + 62) 61 (I (x + 62) 29)) := (((F2.pf (by subst hP; decide)).pf (by subst hP; decide)).pf (by subst hP; decide)).pf (by subst hP; decide)
  generalize hIm : u2 (u2 (u2 (u2 Ic (x + 62) 58 1) (x + 62) 59 (I (x + 62) 1)) (x + 62) 60 (I (x + 62) 51)) (x + 62) 61 (I (x + 62) 29) = Im at Fm
  have Ff : AF x E P I (cpR (x + 104) (x + 88) 5 (cpR (x + 103) (x + 96) 3 (cpR (x + 102) (x + 75) 5 (cpR (x + 101) (x + 74) 5 (cpR (x + 100) (x + 73) 5 Im))))) := ((((Fm.cp (by subst hE; decide)).cp (by subst hE; decide)).cp (by subst hE; decide)).cp (by subst hE; decide)).cp (by subst hE; decide)
  have m0 : ∀ z, z < x + 100 → cpR (x + 104) (x + 88) 5 (cpR (x + 103) (x + 96) 3 (cpR (x + 102) (x + 75) 5 (cpR (x + 101) (x + 74) 5 (cpR (x + 100) (x + 73) 5 Im)))) z = Im z := fun z hz => by rw [cpR_row (by omega), cpR_row (by omega), cpR_row (by omega), cpR_row (by omega), cpR_row (by omega)]
  have m1 : ∀ k, k < 5 → cpR (x + 104) (x + 88) 5 (cpR (x + 103) (x + 96) 3 (cpR (x + 102) (x + 75) 5 (cpR (x + 101) (x + 74) 5 (cpR (x + 100) (x + 73) 5 Im)))) (x + 100) k = I (x + 73) k := fun k hk => by
    rw [cpR_row (by omega), cpR_row (by omega), cpR_row (by omega), cpR_row (by omega), cpR_lt hk, Fm.r (by subst hE; decide) (by subst hP; decide)]
  have m2 : ∀ k, k < 5 → cpR (x + 104) (x + 88) 5 (cpR (x + 103) (x + 96) 3 (cpR (x + 102) (x + 75) 5 (cpR (x + 101) (x + 74) 5 (cpR (x + 100) (x + 73) 5 Im)))) (x + 101) k = I (x + 74) k := fun k hk => by
    rw [cpR_row (by omega), cpR_row (by omega), cpR_row (by omega), cpR_lt hk, cpR_row (by omega), Fm.r (by subst hE; decide) (by subst hP; decide)]
  have m3 : ∀ k, k < 5 → cpR (x + 104) (x + 88) 5 (cpR (x + 103) (x + 96) 3 (cpR (x + 102) (x + 75) 5 (cpR (x + 101) (x + 74) 5 (cpR (x + 100) (x + 73) 5 Im)))) (x + 102) k = I (x + 75) k := fun k hk => by
    rw [cpR_row (by omega), cpR_row (by omega), cpR_lt hk, cpR_row (by omega), cpR_row (by omega), Fm.r (by subst hE; decide) (by subst hP; decide)]
  have m4 : ∀ k, k < 3 → cpR (x + 104) (x + 88) 5 (cpR (x + 103) (x + 96) 3 (cpR (x + 102) (x + 75) 5 (cpR (x + 101) (x + 74) 5 (cpR (x + 100) (x + 73) 5 Im)))) (x + 103) k = I (x + 96) k := fun k hk => by
    rw [cpR_row (by omega), cpR_lt hk, cpR_row (by omega), cpR_row (by omega), cpR_row (by omega), Fm.r (by subst hE; decide) (by subst hP; decide)]
  have m5 : ∀ k, k < 5 → cpR (x + 104) (x + 88) 5 (cpR (x + 103) (x + 96) 3 (cpR (x + 102) (x + 75) 5 (cpR (x + 101) (x + 74) 5 (cpR (x + 100) (x + 73) 5 Im)))) (x + 104) k = I (x + 88) k := fun k hk => by
    rw [cpR_lt hk, cpR_row (by omega), cpR_row (by omega), cpR_row (by omega), cpR_row (by omega), Fm.r (by subst hE; decide) (by subst hP; decide)]
  have mc : ∀ z, z ≠ x → z < x + 62 → Im z = I1 z := fun z a b => by rw [← hIm, u2_row (by omega), u2_row (by omega), u2_row (by omega), u2_row (by omega), ← hIc, u2_row a]
  have hd : ∀ z, x + 110 ≤ z → z < n → cpR (x + 104) (x + 88) 5 (cpR (x + 103) (x + 96) 3 (cpR (x + 102) (x + 75) 5 (cpR (x + 101) (x + 74) 5 (cpR (x + 100) (x + 73) 5 Im)))) z = I z ∧ u2 R (x + 17) 0 (R (x + 8) 0) z = R z := fun z z1 _ => ⟨Ff.d (by subst hE; decide) (by subst hP; decide) z1, hR1 z (by omega)⟩
  have q58 : Im (x + 62) 58 = 1 := by rw [← hIm, u2_ne (by omega), u2_ne (by omega), u2_ne (by omega), u2_eq]
  have q59 : Im (x + 62) 59 = I (x + 62) 1 := by rw [← hIm, u2_ne (by omega), u2_ne (by omega), u2_eq]
  have q60 : Im (x + 62) 60 = I (x + 62) 51 := by rw [← hIm, u2_ne (by omega), u2_eq]
  have q61 : Im (x + 62) 61 = I (x + 62) 29 := by rw [← hIm, u2_eq]
  have q9 : Im x 9 = 1 := by rw [← hIm, u2_row (by omega), u2_row (by omega), u2_row (by omega), u2_row (by omega), ← hIc, u2_eq]
  generalize hIf : cpR (x + 104) (x + 88) 5 (cpR (x + 103) (x + 96) 3 (cpR (x + 102) (x + 75) 5 (cpR (x + 101) (x + 74) 5 (cpR (x + 100) (x + 73) 5 Im)))) = If at Ff m0 m1 m2 m3 m4 m5 hd
  have TB : TabE x I If := TabE.ok Ff (by subst hE hP; decide)
  refine ⟨nI ns, Ic, u2 R (x + 17) 0 (R (x + 8) 0), If, ?_, ?_, hC1, hS1, hn, hMb, hZ.af Ff, nr, nc, NW, RelG_iff.mpr ⟨hnum.af Ff (by subst hE hP; decide), hru.af Ff (by subst hE hP; decide) hd (hR1 _ (by omega)) (Nat.le_refl _), hca.af Ff (by subst hE hP; decide) hd (hR1 _ (by omega)) (hR1 _ (by omega)) (Nat.le_refl _), hnow.af Ff (by subst hE hP; decide) hd (by rw [hR1 _ (by omega)]) (Nat.le_refl _) (Nat.le_refl _) (Nat.le_refl _) (Nat.le_refl _), ?_, ?_, hact.af Ff (by subst hE hP; decide), htap.af Ff (by subst hE hP; decide), htex.af Ff (by subst hE hP; decide), ?_⟩⟩
  · unfold f_X11_image
    rw [o8, obs, r7, s0, obs, hIc, obs, o7, obs]
    have : Ic (x + 8) 4 = nI ns := by rw [F2.f (by subst hE; decide) (by subst hP; decide)]; exact n2
    rw [this]
  · unfold f_X12_image
    have z1 : u2 Ic (x + 62) 58 1 (x + 62) 1 = I (x + 62) 1 := by rw [u2_ne (by omega), F2.f (by subst hE; decide) (by subst hP; decide)]
    have z2 : ∀ v, u2 (u2 Ic (x + 62) 58 1) (x + 62) 59 v (x + 62) 51 = I (x + 62) 51 := fun v => by rw [u2_ne (by omega), u2_ne (by omega), F2.f (by subst hE; decide) (by subst hP; decide)]
    have z3 : ∀ v v', u2 (u2 (u2 Ic (x + 62) 58 1) (x + 62) 59 v) (x + 62) 60 v' (x + 62) 29 = I (x + 62) 29 := fun v v' => by rw [u2_ne (by omega), u2_ne (by omega), u2_ne (by omega), F2.f (by subst hE; decide) (by subst hP; decide)]
    rw [obs, z1, obs, z2, obs, z3, obs, hIm, r12_18 S12', r12_62 S12', m_copy (k12_18 S12') (k12_62 S12') (by omega) (by omega), obs, r12_19 S12', r12_63 S12', m_copy (k12_19 S12') (k12_63 S12') (by omega) (by omega), obs, r12_20 S12', r12_64 S12', m_copy (k12_20 S12') (k12_64 S12') (by omega) (by omega), obs, r12_52 S12', r12_65 S12', m_copy (k12_52 S12') (k12_65 S12') (by omega) (by omega), obs, r12_37 S12', r12_66 S12', m_copy (k12_37 S12') (k12_66 S12') (by omega) (by omega), obs]
    have e : If (x + 62) 51 = nI ns := by rw [Ff.f (by subst hE; decide) (by subst hP; decide)]; exact n3
    rw [← e, ← hIf]
  · unfold KeptS
    rw [m0 (x + 62) (by omega), q59, q60, q61]
    refine SceneR.cp (s := x + 8) hnow TB (hnow.wd (fun z a b => (hd z a b).1) (fun z a b => (hd z a b).2)) (u2_eq _ _ _ _) ?_ ?_ (fun k hk => ?_) (fun k hk => ?_)
    · rw [m0 _ (by omega), mc _ (by omega) (by omega)]; exact s3
    · rw [m0 _ (by omega), mc _ (by omega) (by omega)]; exact s4
    · rw [m0 _ (by omega), m0 _ (by omega), m0 _ (by omega), m0 _ (by omega), m0 _ (by omega), m0 _ (by omega), mc _ (by omega) (by omega), mc _ (by omega) (by omega), mc _ (by omega) (by omega), mc _ (by omega) (by omega), mc _ (by omega) (by omega), mc _ (by omega) (by omega)]
      obtain ⟨y1, y2, y3, y4, y5, y6⟩ := s5 k hk
      exact ⟨y1, y2, y3, y4, y5, y6, m1 k hk, m2 k hk, m3 k hk, m5 k hk⟩
    · rw [m0 _ (by omega), mc _ (by omega) (by omega)]
      exact ⟨s6 k hk, m4 k hk⟩
  · exact ⟨true, by rw [m0 _ (by omega)]; exact q9, by rw [m0 _ (by omega)]; exact q58⟩
  · rcases hunr with hu | ⟨q, h1, h2, h3, h4, h5, h6, h7⟩
    · exact Or.inl (by rw [hR1 _ (by omega)]; exact hu)
    · have e8 : u2 R (x + 17) 0 (R (x + 8) 0) (x + 8) 0 = R (x + 8) 0 := by rw [hR1 _ (by omega)]
      have e17 : u2 R (x + 17) 0 (R (x + 8) 0) (x + 17) 0 = R (x + 8) 0 := u2_eq _ _ _ _
      refine Or.inr ⟨q, by rw [hR1 _ (by omega)]; exact h1, ?_, h3, h4, by rw [e8]; exact h5, by rw [e17]; exact h5, ?_⟩
      · unfold S9 at h2 ⊢
        rw [hR1 q (by omega)]
        exact h2
      · rw [hR1 q (by omega)]
        rcases h7 with h7 | ⟨dr, g1, g2, g3, g4, g5⟩
        · exact Or.inl h7
        · refine Or.inr ⟨dr, g1, g2, g3, g4, fun q' hq => ?_⟩
          rw [e8, e17] at hq
          have hq : R (x + 8) 0 = some q' := by rcases hq with hq | hq <;> exact hq
          have := (SceneR.wq hnow hq).1
          rw [hR1 q' (by omega)]
          exact g5 q' (Or.inl hq)
end
