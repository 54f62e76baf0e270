section
variable {Z : Nat → Nat} {x n M M' nr nc NW L s : Nat} {xs : Nat → Int32} {vT vS vH : Int32} {aL aT aO aS aH : Nat} {K : Sh} {I : Im} {J : Jm} {R : Rf}
theorem scene_up {sx : Nat} (h : SceneR x sx nc NW n M vT vS vH aL aT aO aS aH K I R) (hM : M ≤ M') : SceneR x sx nc NW n M' vT vS vH aL aT aO aS aH K I R := by
  obtain ⟨h1, h2⟩ := h
  refine ⟨?_, h2⟩
  rcases h1 with h1 | ⟨i, q, N, w, c, d, cs, le, la, a1, a2, b1, b2, b3, b4, b5⟩
  · exact Or.inl h1
  · exact Or.inr ⟨i, q, N, w, c, d, cs, le, la, a1, a2, b1, b2, b3, b4, fun k hk => by
      obtain ⟨z1, z2, z3, z4, z5, z6, z7, z8⟩ := b5 k hk
      exact ⟨z1, z2, z3, z4, z5, z6, z7, Nat.le_trans z8 hM⟩⟩
theorem rel_up (h : Rel Z x n M K I J R) (hM : M ≤ M') (hM2 : M' ≤ 800000) : Rel Z x n M' K I J R := by
  obtain ⟨hC, hS, hn, hMb, hZ, nr, nc, NW, h1, h2, h3, h4, h5, h6⟩ := h
  exact ⟨hC, hS, hn, hM2, hZ, nr, nc, NW, h1, h2, h3, scene_up h4 hM, scene_up h5 hM, h6⟩
theorem law_ld {j : Nat} (hj : 6 * s + j < L) (hL : L ≤ 3072) : ldS L xs (nI (6 * s) + nI j) = some (xs (6 * s + j)) := by
  rw [nI_add]
  unfold ldS
  rw [if_pos (inb_nI hj (by omega)), nI_clamp (by omega)]
theorem law_end (hL : L ≤ 3072) (hs : s ≤ 512) : (Int32.ofNat L - 6 < nI (6 * s)) ↔ L < 6 * s + 6 := by
  rw [show Int32.ofNat L = jI (L : Int) from rfl, nI_jI, show (6 : Int32) = jI 6 from rfl, jsub, jlt (by omega) (by omega)]
  omega
theorem lg_self (a : Int64) : lg_cmp a a = 0 := (lg_cmp_eq _ _).mpr rfl
theorem rel_o1 (h : Rel Z x n M K I J R) : ob K 12 (some x) = some x := ob_ok (by rw [h.1.k0])
theorem rel_o2 (h : Rel Z x n M K I J R) : ob K 13 (some (x + 62)) = some (x + 62) := ob_ok (by
  have := h.2.1.1 0 (by decide)
  rw [Nat.add_zero] at this
  rw [this]
  rfl)

set_option maxHeartbeats 4000000 in
theorem law_step {k : Nat} (h : Rel Z x n (200 + 100 * s) K I J R) (hL : L ≤ 3072) (hs : 6 * s + 6 ≤ L) (ih : ∀ n K I J R, Rel Z x n (200 + 100 * (s + 1)) K I J R → ∃ res, f_L_law_18 Z L xs k (some x) (some (x + 62)) (nI (6 * s) + 6) K n I J R = some res ∧ res.1 = 1) : ∃ res, f_L_law_18 Z L xs (k + 1) (some x) (some (x + 62)) (nI (6 * s)) K n I J R = some res ∧ res.1 = 1 := by
  have l0 : ldS L xs (nI (6 * s)) = some (xs (6 * s)) := by
    have := law_ld (xs := xs) (s := s) (j := 0) (by omega) hL
    rw [nI_add, Nat.add_zero] at this
    exact this
  have l1 : ldS L xs (nI (6 * s) + 1) = some (xs (6 * s + 1)) := law_ld (j := 1) (by omega) hL
  have l2 : ldS L xs (nI (6 * s) + 2) = some (xs (6 * s + 2)) := law_ld (j := 2) (by omega) hL
  have l3 : ldS L xs (nI (6 * s) + 3) = some (xs (6 * s + 3)) := law_ld (j := 3) (by omega) hL
  have l4 : ldS L xs (nI (6 * s) + 4) = some (xs (6 * s + 4)) := law_ld (j := 4) (by omega) hL
  have l5 : ldS L xs (nI (6 * s) + 5) = some (xs (6 * s + 5)) := law_ld (j := 5) (by omega) hL
  have o1 := rel_o1 h
  have o2 := rel_o2 h
  have up : ∀ {n K I J R}, Rel Z x n (200 + 100 * s) K I J R → Rel Z x n (200 + 100 * (s + 1)) K I J R := fun z => rel_up z (by omega) (by omega)
  rw [f_L_law_18, if_neg (fun e => by have := (law_end hL (by omega)).mp e; omega), l0, obs]
  generalize xs (6 * s) &&& 31 = v
  by_cases h0 : v = 0
  · rw [if_pos h0]
    obtain ⟨r, I1, I2, e1, e2, hr⟩ := k_feed h (xs (6 * s + 1)) (xs (6 * s + 2))
    simp only [l1, l2, o1, e1, e2, o2, Option.bind_some, if_true]
    exact ih _ _ _ _ _ (up hr)
  rw [if_neg h0]
  by_cases h1 : v = 1
  · rw [if_pos h1]
    obtain ⟨r, K1, n1, I1, R1, I2, e1, e2, hr⟩ := k_waste h 
    have o3 := rel_o2 hr
    simp only [o1, e1, e2, o3, Option.bind_some, if_true]
    exact ih _ _ _ _ _ (up hr)
  rw [if_neg h1]
  by_cases h2 : v = 2
  · rw [if_pos h2]
    obtain ⟨r, I2, e1, e2, hr⟩ := k_of h (xs (6 * s + 1))
    simp only [l1, o1, e1, e2, o2, Option.bind_some, if_true]
    exact ih _ _ _ _ _ (up hr)
  rw [if_neg h2]
  by_cases h3 : v = 3
  · rw [if_pos h3]
    obtain ⟨r, I2, e1, e2, hr⟩ := k_holds h (xs (6 * s + 1)) (xs (6 * s + 2))
    simp only [l1, l2, o1, e1, e2, o2, Option.bind_some, if_true]
    exact ih _ _ _ _ _ (up hr)
  rw [if_neg h3]
  by_cases h4 : v = 4
  · rw [if_pos h4]
    obtain ⟨r, I2, e1, e2, hr⟩ := k_drinks h (xs (6 * s + 1)) (xs (6 * s + 2)) (xs (6 * s + 3))
    simp only [l1, l2, l3, o1, e1, e2, o2, Option.bind_some, if_true]
    exact ih _ _ _ _ _ (up hr)
  rw [if_neg h4]
  by_cases h5 : v = 5
  · rw [if_pos h5]
    obtain ⟨r, I1, I2, e1, e2, hr⟩ := k_odds h (xs (6 * s + 1)) (xs (6 * s + 2))
    simp only [l1, l2, o1, e1, e2, o2, Option.bind_some, if_true]
    exact ih _ _ _ _ _ (up hr)
  rw [if_neg h5]
  by_cases h6 : v = 6
  · rw [if_pos h6]
    obtain ⟨r, I2, e1, e2, hr⟩ := k_ever h (xs (6 * s + 1))
    simp only [l1, o1, e1, e2, o2, Option.bind_some, if_true]
    exact ih _ _ _ _ _ (up hr)
  rw [if_neg h6]
  by_cases h7 : v = 7
  · rw [if_pos h7]
    obtain ⟨r, K1, n1, I1, R1, I2, e1, e2, hr⟩ := k_rule h (xs (6 * s + 1)) (xs (6 * s + 2))
    have o3 := rel_o2 hr
    simp only [l1, l2, o1, e1, e2, o3, Option.bind_some, if_true]
    exact ih _ _ _ _ _ (up hr)
  rw [if_neg h7]
  by_cases h8 : v = 8
  · rw [if_pos h8]
    obtain ⟨r, I1, I2, e1, e2, hr⟩ := k_row h (xs (6 * s + 1)) (xs (6 * s + 2))
    simp only [l1, l2, o1, e1, e2, o2, Option.bind_some, if_true]
    exact ih _ _ _ _ _ (up hr)
  rw [if_neg h8]
  by_cases h9 : v = 9
  · rw [if_pos h9]
    obtain ⟨r, K1, n1, I1, R1, I2, e1, e2, hr⟩ := k_caravan h (xs (6 * s + 1)) (xs (6 * s + 2)) (xs (6 * s + 3))
    have o3 := rel_o2 hr
    simp only [l1, l2, l3, o1, e1, e2, o3, Option.bind_some, if_true]
    exact ih _ _ _ _ _ (up hr)
  rw [if_neg h9]
  by_cases h10 : v = 10
  · rw [if_pos h10]
    obtain ⟨r, I1, R1, I2, e1, e2, hr⟩ := k_would h (by omega) (xs (6 * s + 1)) (xs (6 * s + 2))
    simp only [l1, l2, o1, e1, e2, o2, Option.bind_some, if_true]
    exact ih _ _ _ _ _ (up hr)
  rw [if_neg h10]
  by_cases h11 : v = 11
  · rw [if_pos h11]
    obtain ⟨r, I1, R1, I2, e1, e2, hr⟩ := k_goes h (by omega) (by omega) (xs (6 * s + 1))
    simp only [l1, o1, e1, e2, o2, Option.bind_some, if_true]
    exact ih _ _ _ _ _ hr
  rw [if_neg h11]
  by_cases h12 : v = 12
  · rw [if_pos h12]
    obtain ⟨r, I1, I2, e1, e2, hr⟩ := k_hand h (xs (6 * s + 1))
    simp only [l1, o1, e1, e2, o2, Option.bind_some, if_true]
    exact ih _ _ _ _ _ (up hr)
  rw [if_neg h12]
  by_cases h13 : v = 13
  · rw [if_pos h13]
    obtain ⟨r, I1, I2, e1, e2, hr⟩ := k_gone h (by omega) (xs (6 * s + 1)) (xs (6 * s + 2))
    simp only [l1, l2, o1, e1, e2, o2, Option.bind_some, if_true]
    exact ih _ _ _ _ _ (up hr)
  rw [if_neg h13]
  by_cases h14 : v = 14
  · rw [if_pos h14]
    obtain ⟨r, I1, R1, I2, e1, e2, hr⟩ := k_size h (by omega) (xs (6 * s + 1)) (xs (6 * s + 2)) (xs (6 * s + 3))
    simp only [l1, l2, l3, o1, e1, e2, o2, Option.bind_some, if_true]
    exact ih _ _ _ _ _ (up hr)
  rw [if_neg h14]
  by_cases h15 : v = 15
  · rw [if_pos h15]
    obtain ⟨r, I1, I2, e1, e2, hr⟩ := k_several h (xs (6 * s + 1))
    simp only [l1, o1, e1, e2, o2, Option.bind_some, if_true]
    exact ih _ _ _ _ _ (up hr)
  rw [if_neg h15]
  by_cases h16 : v = 16
  · rw [if_pos h16]
    obtain ⟨r, I1, R1, I2, e1, e2, hr⟩ := k_all h (by omega) (by omega) (xs (6 * s + 1))
    simp only [l1, o1, e1, e2, o2, Option.bind_some, if_true]
    exact ih _ _ _ _ _ (up hr)
  rw [if_neg h16]
  by_cases h17 : v = 17
  · rw [if_pos h17]
    obtain ⟨r, I1, R1, I2, e1, e2, hr⟩ := k_likely h (by omega) (xs (6 * s + 1)) (xs (6 * s + 2))
    simp only [l1, l2, o1, e1, e2, o2, lg_self, Option.bind_some, if_true]
    exact ih _ _ _ _ _ (up hr)
  rw [if_neg h17]
  by_cases h18 : v = 18
  · rw [if_pos h18]
    obtain ⟨r, I1, R1, I2, e1, e2, hr⟩ := k_dig h (by omega) (xs (6 * s + 1)) (xs (6 * s + 2)) (xs (6 * s + 3)) (xs (6 * s + 4))
    simp only [l1, l2, l3, l4, o1, e1, e2, o2, Option.bind_some, if_true]
    exact ih _ _ _ _ _ (up hr)
  rw [if_neg h18]
  by_cases h19 : v = 19
  · rw [if_pos h19]
    obtain ⟨r, I1, I2, e1, e2, hr⟩ := k_judge h (by omega) (xs (6 * s + 1)) (xs (6 * s + 2)) (xs (6 * s + 3))
    simp only [l1, l2, l3, o1, e1, e2, o2, Option.bind_some, if_true]
    exact ih _ _ _ _ _ (up hr)
  rw [if_neg h19]
  by_cases h20 : v = 20
  · rw [if_pos h20]
    obtain ⟨r, I1, R1, I2, e1, e2, hr⟩ := k_image h 
    simp only [o1, e1, e2, o2, Option.bind_some, if_true]
    exact ih _ _ _ _ _ (up hr)
  rw [if_neg h20]
  by_cases h21 : v = 21
  · rw [if_pos h21]
    obtain ⟨r, I1, R1, I2, e1, e2, hr⟩ := k_undo h 
    simp only [o1, e1, e2, o2, Option.bind_some, if_true]
    exact ih _ _ _ _ _ (up hr)
  rw [if_neg h21]
  by_cases h22 : v = 22
  · rw [if_pos h22]
    obtain ⟨r, I1, I2, e1, e2, hr⟩ := k_act h (xs (6 * s + 1)) (xs (6 * s + 2)) (xs (6 * s + 3))
    simp only [l1, l2, l3, o1, e1, e2, o2, Option.bind_some, if_true]
    exact ih _ _ _ _ _ (up hr)
  rw [if_neg h22]
  by_cases h23 : v = 23
  · rw [if_pos h23]
    obtain ⟨r, e1, e2⟩ := k_trace h (xs (6 * s + 1))
    simp only [l1, o1, e1, e2, o2, Option.bind_some, if_true]
    exact ih _ _ _ _ _ (up h)
  rw [if_neg h23]
  by_cases h24 : v = 24
  · rw [if_pos h24]
    obtain ⟨r, e1, e2⟩ := k_taken h (xs (6 * s + 1)) (xs (6 * s + 2))
    simp only [l1, l2, o1, e1, e2, o2, Option.bind_some, if_true]
    exact ih _ _ _ _ _ (up h)
  rw [if_neg h24]
  by_cases h25 : v = 25
  · rw [if_pos h25]
    obtain ⟨r, e1, e2⟩ := k_count h (xs (6 * s + 1))
    simp only [l1, o1, e1, e2, o2, Option.bind_some, if_true]
    exact ih _ _ _ _ _ (up h)
  rw [if_neg h25]
  by_cases h26 : v = 26
  · rw [if_pos h26]
    obtain ⟨r, I1, J1, I2, J2, e1, e2, hr⟩ := k_tape h (xs (6 * s + 1)) (xs (6 * s + 2)) (xs (6 * s + 3))
    simp only [l1, l2, l3, o1, e1, e2, o2, Option.bind_some, if_true]
    exact ih _ _ _ _ _ (up hr)
  rw [if_neg h26]
  by_cases h27 : v = 27
  · rw [if_pos h27]
    obtain ⟨r, J1, J2, e1, e2, hr⟩ := k_item h (xs (6 * s + 1)) (xs (6 * s + 2)) (lshl ((xs (6 * s + 3)).toInt64) 32 ||| ((xs (6 * s + 4)).toInt64 &&& (4294967295 : Int64)))
    simp only [l1, l2, l3, l4, o1, e1, e2, o2, Option.bind_some, if_true]
    exact ih _ _ _ _ _ (up hr)
  rw [if_neg h27]
  by_cases h28 : v = 28
  · rw [if_pos h28]
    obtain ⟨r, e1, e2⟩ := k_read h (xs (6 * s + 1)) (xs (6 * s + 2))
    simp only [l1, l2, o1, e1, e2, o2, lg_self, Option.bind_some, if_true]
    exact ih _ _ _ _ _ (up h)
  rw [if_neg h28]
  by_cases h29 : v = 29
  · rw [if_pos h29]
    obtain ⟨r, J1, J2, e1, e2, hr⟩ := k_shift h (xs (6 * s + 1)) (xs (6 * s + 2)) (xs (6 * s + 3)) (xs (6 * s + 4)) (xs (6 * s + 5))
    simp only [l1, l2, l3, l4, l5, o1, e1, e2, o2, Option.bind_some, if_true]
    exact ih _ _ _ _ _ (up hr)
  rw [if_neg h29]
  exact ih _ _ _ _ _ (up h)
theorem law_loop (hL : L ≤ 3072) : ∀ (f s n : Nat) (K : Sh) (I : Im) (J : Jm) (R : Rf), s + f = 514 → 6 * s ≤ L + 5 → Rel Z x n (200 + 100 * s) K I J R → ∃ res, f_L_law_18 Z L xs f (some x) (some (x + 62)) (nI (6 * s)) K n I J R = some res ∧ res.1 = 1 := by
  intro f
  induction f with
  | zero => intro s n K I J R hf hs; omega
  | succ k ih =>
    intro s n K I J R hf hs h
    by_cases c : L < 6 * s + 6
    · rw [f_L_law_18, if_pos ((law_end hL (by omega)).mpr c)]
      exact ⟨_, rfl, rfl⟩
    · refine law_step h hL (by omega) (fun n K I J R h1 => ?_)
      rw [L6, nI_add]
      exact ih (s + 1) n K I J R (by omega) (by omega) h1
end
