theorem rel_0 {Z : Nat → Nat} {x : Nat} {K : Sh} {I : Im} {J : Jm} {R : Rf} (hC : CSH x K R) (hS : MSH (x + 62) K R) (hZ : ZZ Z x K I) (hJ : ∀ a k, J a k = 0) (i0 : ∀ k, I x k = 0) (i1 : I (x + 1) 1 = 0) (ic : ∀ j k, j = 8 ∨ j = 14 ∨ j = 15 ∨ j = 16 ∨ j = 17 ∨ j = 23 ∨ j = 24 ∨ j = 25 ∨ j = 27 ∨ j = 28 → I (x + j) k = 0) (it : ∀ t, t < 6 → I (x + (50 + 2 * t)) 0 = -1 ∧ I (x + (50 + 2 * t)) 1 = 0) (im : ∀ k, k ≠ 1 → k ≠ 49 → k ≠ 50 → k ≠ 59 → I (x + 62) k = 0) (im1 : I (x + 62) 1 = -1) (im59 : I (x + 62) 59 = -1) (ia : ∀ t, t < 6 → I (x + 106) t = -1) (ir : ∀ j k, 62 < j → j < 110 → j ≠ 106 → I (x + j) k = 0) (r0 : R x 2 = none) (r8 : R (x + 8) 0 = none) (r17 : R (x + 17) 0 = none) : Rel Z x (x + 110) 200 K I J R := by
  have z0 : (0 : Int32) = nI 0 := rfl
  have sc : ∀ s vT aL aT aO aS aH, (∀ j, j = 0 ∨ j = 6 ∨ j = 7 ∨ j = 8 → ∀ k, I (s + j) k = 0) → vT = -1 → R s 0 = none → (∀ k, I aO k = 0) → SceneR x s 0 0 (x + 110) 200 vT 0 0 aL aT aO aS aH K I R := by
    intro s vT aL aT aO aS aH hj hv hr hO
    refine ⟨Or.inl ⟨hv, hr⟩, fun k _ => ⟨0, by omega, by rw [hj 6 (by omega), z0], by rw [hO, z0]⟩, ⟨0, by omega, ?_, z0, fun k hk => absurd hk (by omega)⟩, 0, by omega, ?_, z0, fun _ => 0, fun k _ => ⟨Nat.zero_le _, by rw [hj 8 (by omega), ite_self, z0], fun hk => absurd hk (by omega)⟩⟩
    · have := hj 0 (by omega) 4
      rw [Nat.add_zero] at this
      rw [this, z0]
    · have := hj 0 (by omega) 6
      rw [Nat.add_zero] at this
      rw [this, z0]
  refine ⟨hC, hS, by omega, by omega, hZ, 0, 0, 0, ⟨by omega, by omega, by omega, ?_, ?_, ?_, ?_, ?_, ?_⟩, fun r hr => absurd hr (by omega), fun k hk => absurd hk (by omega), ?_, ?_, ⟨false, ?_, ?_⟩, ⟨0, by omega, ?_, ?_, fun k hk => absurd hk (by omega)⟩, fun t ht => ⟨?_, Or.inl (ia t ht), ⟨0, by omega, ?_, ?_, fun _ => rfl⟩, fun k hk => ?_⟩, ⟨0, by omega, ?_, ?_, fun j hj => absurd hj (by omega)⟩, Or.inl r0⟩
  · rw [i0, z0]
  · rw [im _ (by omega) (by omega) (by omega) (by omega), z0]
  · rw [i0, z0]
  · rw [im _ (by omega) (by omega) (by omega) (by omega), z0]
  · rw [i0, z0]
  · rw [im _ (by omega) (by omega) (by omega) (by omega), z0]
  · rw [im 51 (by omega) (by omega) (by omega) (by omega), im 29 (by omega) (by omega) (by omega) (by omega)]
    exact sc (x + 8) _ _ _ _ _ _ (fun j hj k => by rw [Nat.add_assoc]; exact ic _ k (by omega)) im1 r8 (fun k => ir 75 k (by omega) (by omega) (by omega))
  · rw [im 60 (by omega) (by omega) (by omega) (by omega), im 61 (by omega) (by omega) (by omega) (by omega)]
    exact sc (x + 17) _ _ _ _ _ _ (fun j hj k => by rw [Nat.add_assoc]; exact ic _ k (by omega)) im59 r17 (fun k => ir 102 k (by omega) (by omega) (by omega))
  · rw [i0]; rfl
  · rw [im _ (by omega) (by omega) (by omega) (by omega)]; rfl
  · rw [ic 27 1 (by omega), z0]
  · rw [im _ (by omega) (by omega) (by omega) (by omega), z0]
  · rw [(it t ht).1, ia t ht]
  · rw [(it t ht).2, z0]
  · rw [ir 107 t (by omega) (by omega) (by omega), z0]
  · rw [hJ, hJ]
  · rw [i1, z0]
  · rw [im _ (by omega) (by omega) (by omega) (by omega), z0]
theorem rC_hi {j : Nat} (h : 6200 ≤ j) : rC j = 0 := by
  unfold rC
  split <;> first | omega | rfl
theorem K0_Z {Z : Nat → Nat} (h : Z 0 ≠ Z 1 ∧ Z 0 ≠ Z 2 ∧ Z 1 ≠ Z 2) {i : Nat} (hi : i < 3) : K0 Z (Z i) = (27, zL i) ∧ ∀ j, j < zL i → I0 Z (Z i) j = zD i j := by
  obtain ⟨h1, h2, h3⟩ := h
  unfold K0 I0
  have : i = 0 ∨ i = 1 ∨ i = 2 := by omega
  rcases this with rfl | rfl | rfl
  · simp
  · simp [h1.symm]
  · simp [h2.symm, h3.symm]
theorem law_pure {Z : Nat → Nat} {n L : Nat} {xs : Nat → Int32} (hL : L ≤ 3072) (hZ : ZOK Z n) : ∃ res, f_L_law Z L xs (K0 Z) n (I0 Z) (fun _ _ => 0) (fun _ _ => none) = some res ∧ res.1 = 1 := by
  obtain ⟨hz1, hz2, -⟩ := id hZ
  have zn : ∀ i j, j < 3 → n + i ≠ Z j := fun i j hj => by have := hz1 j hj; omega
  have hK : AK n (u1 (K0 Z) n (12, 19)) (u1 (fun _ => (0, 0)) 0 (12, 19)) := fun i => by
    by_cases q : i = 0
    · subst q; rw [Nat.add_zero, u1_eq, u1_eq]
    · rw [u1_ne (by omega), u1_ne q]
      unfold K0
      rw [if_neg (zn i 0 (by omega)), if_neg (zn i 1 (by omega)), if_neg (zn i 2 (by omega))]
  have hI : AI n (zr (I0 Z) n 0) (fun _ _ => 0) := fun i => by
    funext j
    by_cases q : i = 0
    · subst q; simp [zr]
    · rw [zr_row (by omega)]
      unfold I0
      rw [if_neg (zn i 0 (by omega)), if_neg (zn i 1 (by omega)), if_neg (zn i 2 (by omega))]
  have hR : AR n (zr (fun _ _ => none) n none) (fun _ _ => none) := fun i k => by
    simp only [zr]
    split <;> rfl
  have lK : ∀ b, b < n → u1 (K0 Z) n (12, 19) b = K0 Z b := fun b hb => u1_ne (by omega)
  have lI : ∀ b, b < n → zr (I0 Z) n 0 b = I0 Z b := fun b hb => zr_row (by omega)
  obtain ⟨⟨K1, n1, I1, J1, R1⟩, e1, ⟨k1, f1, g1, b1, b2, b3, b4, b5, b6, b7, b8, b9, b10, b11, b12, b13, b14⟩, b15, b16, b17⟩ := X11_init_r (J := fun _ _ => 0) hK rfl hI (fun _ _ => rfl) hR lK lI
  dsimp only at b1 b2 b3 b4 b15 b16 b17
  subst b15
  have hK2 : AK (n + 62) (u1 K1 (n + 62) (13, 73)) (u1 (fun _ => (0, 0)) 0 (13, 73)) := fun i => by
    by_cases q : i = 0
    · subst q; rw [Nat.add_zero, u1_eq, u1_eq]
    · rw [u1_ne (by omega), u1_ne q, Nat.add_assoc, b1, b6 _ (by omega)]
  have nz : ∀ i m, 62 ≤ i → nzC i m = false := fun i m hi => by
    have h1 : ¬ i = 1 := by omega
    have h2 : ¬ i ≤ 60 := by omega
    simp [nzC, h1, h2]
  have hI2 : AI (n + 62) (zr I1 (n + 62) 0) (fun _ _ => 0) := fun i => by
    funext j
    by_cases q : i = 0
    · subst q; simp [zr]
    · rw [zr_row (by omega), Nat.add_assoc, b2, b8 _ _ (nz _ _ (by omega))]
  have hR2 : AR (n + 62) (zr R1 (n + 62) none) (fun _ _ => none) := fun i k => by
    by_cases q : i = 0
    · subst q; simp [zr]
    · rw [zr_row (by omega), Nat.add_assoc, b4, b14 _ _ (by omega)]; rfl
  have lK2 : ∀ b, b < n + 62 → u1 K1 (n + 62) (13, 73) b = K1 b := fun b hb => u1_ne (by omega)
  have lI2 : ∀ b, b < n + 62 → zr I1 (n + 62) 0 b = I1 b := fun b hb => zr_row (by omega)
  have lR2 : ∀ b, b < n + 62 → zr R1 (n + 62) none b = R1 b := fun b hb => zr_row (by omega)
  obtain ⟨⟨K2, n2, I2, J2, R2⟩, e2, ⟨k2, f2, g2, c1, c2, c3, c4, c5, c6, c7, c8, c9, c10, c11, c12, c13⟩, c15, c16, c17, c18⟩ := X12_init_r hK2 rfl hI2 b3 hR2 lK2 lI2 lR2
  dsimp only at c1 c2 c3 c4 c15 c16 c17 c18
  subst c15
  unfold f_L_law
  rw [obs, obs, obs, e1, obs]
  dsimp only
  rw [obs, obs, obs, e2, obs]
  dsimp only
  have iC : ∀ j, j < 62 → I2 (n + j) = f1 j := fun j hj => by rw [c17 _ (by omega), b2]
  have iM : ∀ j, I2 (n + 62 + j) = f2 j := c2
  have iC0 : I2 n = f1 0 := iC 0 (by omega)
  have iM0 : I2 (n + 62) = f2 0 := iM 0
  have hC : CSH n K2 R2 := ⟨fun i hi => by rw [c16 _ (by omega), b1, b5 i hi], fun i k hk hr => by
    have hi : i < 62 := by
      by_cases q : i < 62
      · exact q
      · exact absurd (rC_hi (by omega)) hr
    rw [c18 _ (by omega), b4, b7 i hi k hk hr]
    rfl⟩
  have hS : MSH (n + 62) K2 R2 := ⟨fun i hi => by rw [c1, c5 i hi], fun k hk hr => by
    have := c4 0 k
    rw [Nat.add_zero] at this
    rw [this, c7 k hk hr]
    rfl⟩
  have hZ2 : ZZ Z n K2 I2 := ⟨hZ, fun i hi => by
    have := hz1 i hi
    rw [c16 _ (by omega), b16 _ this, c17 _ (by omega), b17 _ this]
    exact K0_Z hz2 hi⟩
  have nc : ∀ j k, j = 8 ∨ j = 14 ∨ j = 15 ∨ j = 16 ∨ j = 17 ∨ j = 23 ∨ j = 24 ∨ j = 25 ∨ j = 27 ∨ j = 28 → nzC j k = false := by
    intro j k hj
    rcases hj with rfl | rfl | rfl | rfl | rfl | rfl | rfl | rfl | rfl | rfl <;> rfl
  have rel := rel_0 hC hS hZ2 c3 (fun k => by rw [iC0, b8 0 k rfl]) (by rw [iC 1 (by omega), b8 1 1 rfl]) (fun j k hj => by rw [iC j (by omega), b8 j k (nc j k hj)]) (fun t ht => by
    rw [iC _ (by omega)]
    refine ⟨b10 t ht, b8 _ _ ?_⟩
    have h1 : ¬ 50 + 2 * t = 1 := by omega
    simp [nzC, h1]) (fun k k1 k49 k50 k59 => by rw [iM0, c8 0 k (by simp [nzM, k1, k49, k50, k59])]) (by rw [iM0]; exact c9) (by rw [iM0]; exact c12) (fun t ht => by rw [show n + 106 = n + 62 + 44 by omega, iM]; exact c13 t ht) (fun j k h1 h2 h3 => by
    rw [show n + j = n + 62 + (j - 62) by omega, iM]
    have q1 : ¬ j - 62 = 0 := by omega
    have q2 : ¬ j - 62 = 44 := by omega
    exact c8 _ _ (by simp [nzM, q1, q2])) (by
    have := b4 0 2
    rw [Nat.add_zero, b11] at this
    rw [c18 _ (by omega)]
    exact this) (by rw [c18 _ (by omega), b4, b12]; rfl) (by rw [c18 _ (by omega), b4, b13]; rfl)
  have e0 : n + 62 + 48 = n + 110 := by omega
  rw [e0]
  exact law_loop hL 514 0 (n + 110) K2 I2 J2 R2 (by omega) (by omega) rel
