section
variable {Z : Nat → Nat} {x n n' M M' nr nc NW nr' nc' NW' i i0 q N s dr W a len : Nat} {tx : Nat → Int32} {K K' : Sh} {I I' I1 : Im} {J : Jm} {R R' : Rf} {w c d le la : Nat → Nat} {cs : Nat → List Nat} {E D : List Nat} {P : List (Nat × Nat)}
def wfE : List Nat := [1, 3, 4, 5, 10, 11, 12, 13, 64, 65, 66, 67, 68, 69, 70, 71, 73, 74, 76, 77, 78, 79, 80]
def wfP : List (Nat × Nat) := [(0, 1), (62, 0), (62, 1), (62, 2), (62, 3), (62, 4), (62, 14), (62, 15), (62, 16), (62, 21)]
/-- from the cells to the frame -/
theorem wf_af (h1 : ∀ z, z ≠ x → z ≠ x + 62 → (∀ j ∈ wfE, z ≠ x + j) → z ≠ q → z ≠ q + 1 → z ≠ q + 2 → z ≠ q + 3 → z ≠ dr → I1 z = I z) (h2 : ∀ k, k ≠ 1 → I1 x k = I x k) (h3 : ∀ k, k ≠ 0 → k ≠ 1 → k ≠ 2 → k ≠ 3 → k ≠ 4 → k ≠ 14 → k ≠ 15 → k ≠ 16 → k ≠ 21 → I1 (x + 62) k = I (x + 62) k) (hq : x + 110 ≤ q) (hdr : x + 110 ≤ dr) : AF x ([q - x, q + 1 - x, q + 2 - x, q + 3 - x, dr - x] ++ wfE) wfP I I1 := by
  have m : ∀ {j}, j ∈ wfE → j ∈ [q - x, q + 1 - x, q + 2 - x, q + 3 - x, dr - x] ++ wfE := fun hj => List.mem_append_right _ hj
  have dn : ∀ z, (∀ j ∈ [q - x, q + 1 - x, q + 2 - x, q + 3 - x, dr - x] ++ wfE, z ≠ x + j) → z ≠ q ∧ z ≠ q + 1 ∧ z ≠ q + 2 ∧ z ≠ q + 3 ∧ z ≠ dr := fun z hz => by
    have a1 := hz (q - x) (by simp)
    have a2 := hz (q + 1 - x) (by simp)
    have a3 := hz (q + 2 - x) (by simp)
    have a4 := hz (q + 3 - x) (by simp)
    have a5 := hz (dr - x) (by simp)
    omega
  refine ⟨fun z a b => ?_, fun j k a b => ?_⟩
  · obtain ⟨b1, b2, b3, b4, b5⟩ := dn z a
    exact h1 z (fun e => b (0, 1) (by decide) (by rw [e]; rfl)) (fun e => b (62, 0) (by decide) e) (fun j hj => a j (m hj)) b1 b2 b3 b4 b5
  · by_cases c0 : j = 0
    · subst c0
      exact h2 k (fun e => b (by rw [e]; decide))
    by_cases c62 : j = 62
    · subst c62
      refine h3 k ?_ ?_ ?_ ?_ ?_ ?_ ?_ ?_ ?_ <;> (intro e; exact b (by rw [e]; decide))
    · have hz : ∀ j' ∈ [q - x, q + 1 - x, q + 2 - x, q + 3 - x, dr - x] ++ wfE, x + j ≠ x + j' := fun j' hj' e => a (by rw [show j = j' by omega]; exact hj')
      obtain ⟨b1, b2, b3, b4, b5⟩ := dn _ hz
      rw [h1 (x + j) (by omega) (by omega) (fun j' hj' => hz j' (m hj')) b1 b2 b3 b4 b5]
theorem wf_ok {rows : List Nat} {flds : List (Nat × Nat)} (h : okE rows flds wfE wfP = true) (hs : (rows.all (fun j => decide (j < 110)) && flds.all (fun f => decide (f.1 < 110))) = true) (hq : x + 110 ≤ q) (hdr : x + 110 ≤ dr) : okE rows flds ([q - x, q + 1 - x, q + 2 - x, q + 3 - x, dr - x] ++ wfE) wfP = true := okE_dl h hs (fun e he => by
  simp only [List.mem_cons, List.not_mem_nil, or_false] at he
  omega)
/-- the class reads; what then -/
theorem c_w29 (hC : CSH x K R) {q5 : Int32} {n1 : Nat} {K1 : Sh} {I2 : Im} {R1 : Rf} (hC1 : CSH x K1 R1) (hr : f_X4_readInto Z (x + 1) (R x 2) K n I R = some (q5, K1, n1, I2, R1)) : f_X11_waste_29 Z x K n I R = if q5 < 0 then
      Option.bind (f_X10_fill K1 (u2 R1 (x + 8) 0 (R1 x 2)) (x + 9) (R1 x 2) (u2 I2 (x + 1) 1 0)) fun q19 =>
      some ((u2 q19 x 1 ((q19 x 1) + 1) x 1) - 1, K1, n1, u2 q19 x 1 ((q19 x 1) + 1), u2 (u2 R1 (x + 8) 0 (R1 x 2)) x 2 none)
    else some (((-10) - q5), K1, n1, u2 I2 (x + 1) 1 0, R1) := by
  have S11 := cS11 hC
  have S111 := cS11 hC1
  have hC2 : CSH x K1 (u2 R1 (x + 8) 0 (R1 x 2)) := hC1.u (i := 8) (k := 0) rfl
  have S112 := cS11 hC2
  have oX : ob K 12 (some x) = some x := ob_ok (by rw [hC.k0])
  have oX1 : ob K1 12 (some x) = some x := ob_ok (by rw [hC1.k0])
  have r2 : u2 R1 (x + 8) 0 (R1 x 2) x 2 = R1 x 2 := by rw [u2_row (by omega)]
  unfold f_X11_waste_29
  rw [oX, obs, o11_0 S11, obs, hr, obs]
  dsimp only
  rw [oX1, obs, o11_0 S111, obs, obs]
  by_cases c : q5 < 0
  · rw [if_pos c, if_pos c, o11_7 S111, obs, obs, o11_7 S112, obs, o6_1 (cS6n hC2), obs, r2]
    rfl
  · rw [if_neg c, if_neg c]
set_option maxHeartbeats 1000000 in
theorem k_w29f (h : Rel Z x n M K I J R) (hu : R x 2 = some q) {len : Nat} (hlen : I (x + 1) 1 = nI len) (hl : len ≤ 100) (hf : (qOut (fun j => I (x + 2) j) len 12 0).1 = none) (hN5 : ∀ NW, I x 1 = nI NW → NW ≤ 5 → NW < 5) : ∃ r K1 n1 I1 R1 I2, f_X11_waste_29 Z x K n I R = some (r, K1, n1, I1, R1) ∧ f_X12_waste K1 R1 (x + 62) I1 = some (r, I2) ∧ Rel Z x n1 M K1 I2 J R1 := by
  obtain ⟨hC, hS, hn, hMb, hZ, nr, nc, NW, hG⟩ := h
  obtain ⟨hnum, hru, hca, hnow, hkept, himg, hact, htap, htex, hunr⟩ := RelG_iff.mp hG
  obtain ⟨g1, g2, g3, g4, g5, g6, g7, g8, g9⟩ := id hnum
  have hNW := hN5 NW g4 g3
  have S12' : S12 (x + 62) K R := hS
  obtain ⟨len', t1, t2, t3, t4⟩ := htex
  have : len' = len := by rw [hlen, nI_eq (by omega) (by omega)] at t2; exact t2.symm
  subst this
  rcases id hunr with hu' | ⟨q', u1, uS, uq, uqn, un8, un17, udr⟩
  · rw [hu] at hu'; cases hu'
  have : q' = q := by rw [hu] at u1; exact (Option.some.inj u1).symm
  subst this
  obtain ⟨I1, r1, r2⟩ := c_readAll (tx := fun j => I (x + 2) j) (nn := n) (cS4 hC) hl hlen (fun j _ => rfl) hZ.1 uS uq
  generalize hr : qOut (fun j => I (x + 2) j) len' 12 0 = r at r2 hf
  obtain ⟨ro, pf⟩ := r
  have hf : ro = none := hf
  subst hf
  obtain ⟨f1, f2, f3, f4, f5⟩ := r2
  have oR : ob K 5 (some (x + 1)) = some (x + 1) := ob_ok (by rw [(cS4 hC).1])
  have e62 : f_X4_readInto Z (x + 1) (R x 2) K n I R = some (nI pf, K, n, I1, R) := by
    rw [hu, r1]
    unfold f_X4_readInto_62
    rw [oR, obs, f3, f2]
    rcases f5 with f5 | ⟨f5, f6⟩
    · rw [if_pos f5]
    · rw [f5, if_neg (show ¬ (1 : Int32) = 0 by decide), if_neg (show ¬ nI len' ≤ nI pf by rw [nI_leI (by omega) (by omega)]; omega)]
  have cl := c_w29 hC hC e62
  rw [if_neg (show ¬ nI pf < 0 by rw [L0, nI_ltI (by omega) (by omega)]; omega)] at cl
  generalize hIc : u2 I1 (x + 1) 1 0 = Ic at cl
  have c1 : ∀ z, z ≠ x + 1 → z ≠ x + 3 → z ≠ x + 4 → z ≠ q' → z ≠ q' + 1 → z ≠ q' + 2 → z ≠ q' + 3 → Ic z = I z := fun z a b c d e f g => by rw [← hIc, u2_row a]; exact f1 z a b c d e f g
  have ch : ∀ z, x + 5 ≤ z → z < x + 110 → Ic z = I z := fun z a b => c1 z (by omega) (by omega) (by omega) (by omega) (by omega) (by omega) (by omega)
  obtain ⟨-, mf⟩ := m_text (I0 := Ic) (tx := fun j => I (x + 2) j) S12' hl (by rw [ch _ (by omega) (by omega)]; exact t3) (fun j hj => by rw [ch _ (by omega) (by omega)]; exact (t4 j hj).symm) (show NW ≤ 4 by omega)
  rw [hr] at mf
  obtain ⟨I2, m1, m2, m3⟩ := mf rfl
  have z0 : Ic (x + 62) 0 = nI NW := by rw [ch _ (by omega) (by omega)]; exact g5
  have rf : f_X12_waste K R (x + 62) Ic = some ((-10) - nI pf, u2 I2 (x + 62) 2 0) := by
    unfold f_X12_waste
    rw [z0, if_neg (show ¬ nI NW = 5 by rw [L5, nI_eq (by omega) (by omega)]; omega), m1, obs, obs, if_pos rfl, u2_ne (by omega)]
    dsimp only
    rw [m2]
  have e2 : ∀ z, z ≠ x + 62 → (z < x + 64 ∨ x + 71 < z) → u2 I2 (x + 62) 2 0 z = Ic z := fun z a b => by rw [u2_row a]; exact m3.1 z a b
  have F : AF x ([q' - x, q' + 1 - x, q' + 2 - x, q' + 3 - x, q' - x] ++ wfE) wfP I (u2 I2 (x + 62) 2 0) := wf_af (q := q') (dr := q') (fun z z0 z62 ze z1 z2 z3 z4 _ => by
    have w : ∀ j, j ∈ wfE → z ≠ x + j := ze
    have b : z < x + 64 ∨ x + 71 < z := by
      by_cases c : z < x + 64 ∨ x + 71 < z
      · exact c
      · have : ∀ k, k < 8 → 64 + k ∈ wfE := by decide
        exact absurd (show z = x + (64 + (z - x - 64)) by omega) (w _ (this _ (by omega)))
    rw [e2 z z62 b]
    exact c1 z (w 1 (by decide)) (w 3 (by decide)) (w 4 (by decide)) z1 z2 z3 z4) (fun k _ => by rw [e2 x (by omega) (by omega), c1 x (by omega) (by omega) (by omega) (by omega) (by omega) (by omega) (by omega)]) (fun k k0 k1 k2 k3 k4 k14 k15 k16 k21 => by
    rw [u2_ne k2, m3.2.1 k k3 k4 k14 k15 k16, ch _ (by omega) (by omega)]) uq uq
  have ok : ∀ {rows flds}, okE rows flds wfE wfP = true → (rows.all (fun j => decide (j < 110)) && flds.all (fun f => decide (f.1 < 110))) = true → okE rows flds ([q' - x, q' + 1 - x, q' + 2 - x, q' + 3 - x, q' - x] ++ wfE) wfP = true := fun a b => wf_ok a b uq uq
  have dyn : ∀ z, x + 110 ≤ z → z ≠ q' → z ≠ q' + 1 → z ≠ q' + 2 → z ≠ q' + 3 → u2 I2 (x + 62) 2 0 z = I z := fun z a b c d e => by rw [e2 z (by omega) (by omega)]; exact c1 z (by omega) (by omega) (by omega) b c d e
  have hT : ∀ i N w c d cs, i < NW → MW (x + 62) i N w c d I → MC (x + 62) i N w cs I → MW (x + 62) i N w c d (u2 I2 (x + 62) 2 0) ∧ MC (x + 62) i N w cs (u2 I2 (x + 62) 2 0) := by
    intro i N w c d cs hi a b
    obtain ⟨a1, b1⟩ := tab_cg (I := I) (I1 := Ic) (ch _ (by omega) (by omega)) (ch _ (by omega) (by omega)) (ch _ (by omega) (by omega)) (ch _ (by omega) (by omega)) (ch _ (by omega) (by omega)) (ch _ (by omega) (by omega)) (ch _ (by omega) (by omega)) i N w c d cs a b
    obtain ⟨a2, b2⟩ := m3.tab i N w c d cs hi a1 b1
    exact tab_cg (I := I2) (I1 := u2 I2 (x + 62) 2 0) (u2_row (by omega)) (u2_row (by omega)) (u2_row (by omega)) (u2_row (by omega)) (u2_row (by omega)) (u2_row (by omega)) (u2_row (by omega)) i N w c d cs a2 b2
  have fl : ∀ z, x + 5 ≤ z → z < x + 110 → z ≠ x + 62 → (z < x + 64 ∨ x + 71 < z) → u2 I2 (x + 62) 2 0 z = I z := fun z a b c d => by rw [e2 z c d]; exact ch z a b
  have f62 : ∀ k, k ≠ 0 → k ≠ 1 → k ≠ 2 → k ≠ 3 → k ≠ 4 → k ≠ 14 → k ≠ 15 → k ≠ 16 → k ≠ 21 → u2 I2 (x + 62) 2 0 (x + 62) k = I (x + 62) k := fun k k0 k1 k2 k3 k4 k14 k15 k16 k21 => by rw [u2_ne k2, m3.2.1 k k3 k4 k14 k15 k16, ch _ (by omega) (by omega)]
  have f621 : u2 I2 (x + 62) 2 0 (x + 62) 1 = I (x + 62) 1 := by rw [u2_ne (by omega), m3.2.1 1 (by omega) (by omega) (by omega) (by omega) (by omega), ch _ (by omega) (by omega)]
  have f620 : u2 I2 (x + 62) 2 0 (x + 62) 0 = I (x + 62) 0 := by rw [u2_ne (by omega), m3.2.1 0 (by omega) (by omega) (by omega) (by omega) (by omega), ch _ (by omega) (by omega)]
  -- no cell of a scene is one of this waste's
  have sep : ∀ (s vT vS vH aL aT aO aS aH) (hh : SceneR x s nc NW n M vT vS vH aL aT aO aS aH K I R), R s 0 ≠ some q' → ∀ q2, R s 0 = some q2 → ∀ z, z = q2 ∨ z = q2 + 1 ∨ z = q2 + 2 ∨ z = q2 + 3 ∨ R q2 8 = some z → u2 I2 (x + 62) 2 0 z = I z := by
    intro s vT vS vH aL aT aO aS aH hh hne q2 hq2 z hz
    have hnq : q2 ≠ q' := fun e => hne (by rw [hq2, e])
    obtain ⟨w1, w2, w3, w4⟩ := SceneR.wq hh hq2
    obtain ⟨h1, -⟩ := hh
    rcases h1 with ⟨-, b⟩ | ⟨i, q3, N, w, c, d, cs, le, la, a1, a2, a3⟩
    · rw [b] at hq2; cases hq2
    obtain ⟨b1, b2, b3, b4, b5⟩ := a3
    have : q2 = q3 := by rw [b1] at hq2; exact (Option.some.inj hq2).symm
    subst this
    obtain ⟨c1, c2, c3, ⟨⟨e1, ⟨-, e2⟩, ⟨-, e3⟩, ⟨-, e4⟩⟩, d2, d3, d4, d5, d6, d7, d8, d9, dr', d10, d11, d12⟩, c5, -⟩ := b2
    obtain ⟨g1, ⟨-, g2⟩, ⟨-, g3⟩, ⟨-, g4⟩⟩ := uS
    have ne : ∀ {p r : Nat}, K p ≠ K r → p ≠ r := fun hh e => hh (by rw [e])
    have y1 : q2 ≠ q' + 1 := ne (by rw [e1, g2]; decide)
    have y2 : q2 ≠ q' + 2 := ne (by rw [e1, g3]; decide)
    have y3 : q2 ≠ q' + 3 := ne (by rw [e1, g4]; decide)
    have y4 : q' ≠ q2 + 1 := ne (by rw [g1, e2]; decide)
    have y5 : q' ≠ q2 + 2 := ne (by rw [g1, e3]; decide)
    have y6 : q' ≠ q2 + 3 := ne (by rw [g1, e4]; decide)
    have y7 : dr' ≠ q' := ne (by rw [d11, g1]; decide)
    have y8 : dr' ≠ q' + 1 := ne (by rw [d11, g2]; decide)
    have y9 : dr' ≠ q' + 2 := ne (by rw [d11, g3]; decide)
    have y10 : dr' ≠ q' + 3 := ne (by rw [d11, g4]; decide)
    rcases hz with hz | hz | hz | hz | hz
    · exact dyn z (by omega) (by omega) (by omega) (by omega) (by omega)
    · exact dyn z (by omega) (by omega) (by omega) (by omega) (by omega)
    · exact dyn z (by omega) (by omega) (by omega) (by omega) (by omega)
    · exact dyn z (by omega) (by omega) (by omega) (by omega) (by omega)
    · have e8 : z = dr' := by rw [d10] at hz; exact (Option.some.inj hz).symm
      have := (w4 z hz).2
      exact dyn z (by omega) (by omega) (by omega) (by omega) (by omega)
  have ne : ∀ {p r : Nat}, K p ≠ K r → p ≠ r := fun hh e => hh (by rw [e])
  obtain ⟨u1', ⟨-, u2'⟩, ⟨-, u3'⟩, ⟨-, u4'⟩⟩ := id uS
  refine ⟨(-10) - nI pf, K, n, Ic, R, u2 I2 (x + 62) 2 0, cl, rf, hC, hS, hn, hMb, hZ.af F, nr, nc, NW, RelG_iff.mpr ⟨⟨g1, g2, g3, by rw [e2 x (by omega) (by omega), c1 x (by omega) (by omega) (by omega) (by omega) (by omega) (by omega) (by omega)]; exact g4, by rw [f620]; exact g5, by rw [e2 x (by omega) (by omega), c1 x (by omega) (by omega) (by omega) (by omega) (by omega) (by omega) (by omega)]; exact g6, by rw [f62 27 (by omega) (by omega) (by omega) (by omega) (by omega) (by omega) (by omega) (by omega) (by omega)]; exact g7, by rw [e2 x (by omega) (by omega), c1 x (by omega) (by omega) (by omega) (by omega) (by omega) (by omega) (by omega)]; exact g8, by rw [f62 28 (by omega) (by omega) (by omega) (by omega) (by omega) (by omega) (by omega) (by omega) (by omega)]; exact g9⟩, hru.cgk (fun _ _ => rfl) (fun a k1 k2 a1 a2 => ?_) (fun r _ => by rw [fl _ (by omega) (by omega) (by omega) (by omega), fl _ (by omega) (by omega) (by omega) (by omega), fl _ (by omega) (by omega) (by omega) (by omega), fl _ (by omega) (by omega) (by omega) (by omega)]; exact ⟨rfl, rfl, rfl, fun _ _ => rfl⟩) (Nat.le_refl _), hca.cg (fun _ _ => rfl) (fun _ _ => rfl) (fun a k1 a1 a2 => ⟨dyn a a1 (ne (by rw [k1, u1']; decide)) (ne (by rw [k1, u2']; decide)) (ne (by rw [k1, u3']; decide)) (ne (by rw [k1, u4']; decide)), rfl, rfl⟩) (fun k _ => by rw [fl _ (by omega) (by omega) (by omega) (by omega), fl _ (by omega) (by omega) (by omega) (by omega), fl _ (by omega) (by omega) (by omega) (by omega)]; exact ⟨rfl, rfl, rfl⟩) (Nat.le_refl _) (Nat.le_refl _), ?_, ?_, himg.af F (ok (by decide) (by decide)), hact.af F (ok (by decide) (by decide)), htap.af F (ok (by decide) (by decide)), ⟨0, by omega, ?_, u2_eq _ _ _ _, fun j hj => by omega⟩, hunr⟩⟩
  · have y1 : a ≠ q' := ne (by rw [k1, u1']; decide)
    have y2 : a ≠ q' + 1 := ne (by rw [k1, u2']; decide)
    have y3 : a ≠ q' + 2 := ne (by rw [k1, u3']; decide)
    have y4 : a ≠ q' + 3 := ne (by rw [k1, u4']; decide)
    have y5 : a + 1 ≠ q' := ne (by rw [k2, u1']; decide)
    have y6 : a + 1 ≠ q' + 3 := ne (by rw [k2, u4']; decide)
    exact ⟨dyn a (by omega) y1 y2 y3 y4, dyn (a + 1) (by omega) y5 (by omega) (by omega) y6, rfl, rfl, rfl⟩
  · unfold NowS
    rw [f621, f62 51 (by omega) (by omega) (by omega) (by omega) (by omega) (by omega) (by omega) (by omega) (by omega), f62 29 (by omega) (by omega) (by omega) (by omega) (by omega) (by omega) (by omega) (by omega) (by omega)]
    exact SceneR.pw hnow hT (fun q2 hq2 => ⟨fun z hz => ⟨sep _ _ _ _ _ _ _ _ _ hnow un8 q2 hq2 z hz, rfl⟩, rfl⟩) rfl (by rw [fl _ (by omega) (by omega) (by omega) (by omega)]) (by rw [fl _ (by omega) (by omega) (by omega) (by omega)]) (fl _ (by omega) (by omega) (by omega) (by omega)) (fl _ (by omega) (by omega) (by omega) (by omega)) (fl _ (by omega) (by omega) (by omega) (by omega)) (fl _ (by omega) (by omega) (by omega) (by omega)) (fl _ (by omega) (by omega) (by omega) (by omega)) (fl _ (by omega) (by omega) (by omega) (by omega)) (fl _ (by omega) (by omega) (by omega) (by omega)) (fl _ (by omega) (by omega) (by omega) (by omega)) (fl _ (by omega) (by omega) (by omega) (by omega)) (fl _ (by omega) (by omega) (by omega) (by omega)) (fl _ (by omega) (by omega) (by omega) (by omega)) (fl _ (by omega) (by omega) (by omega) (by omega)) (Nat.le_refl _) (Nat.le_refl _)
  · unfold KeptS
    rw [f62 59 (by omega) (by omega) (by omega) (by omega) (by omega) (by omega) (by omega) (by omega) (by omega), f62 60 (by omega) (by omega) (by omega) (by omega) (by omega) (by omega) (by omega) (by omega) (by omega), f62 61 (by omega) (by omega) (by omega) (by omega) (by omega) (by omega) (by omega) (by omega) (by omega)]
    exact SceneR.pw hkept hT (fun q2 hq2 => ⟨fun z hz => ⟨sep _ _ _ _ _ _ _ _ _ hkept un17 q2 hq2 z hz, rfl⟩, rfl⟩) rfl (by rw [fl _ (by omega) (by omega) (by omega) (by omega)]) (by rw [fl _ (by omega) (by omega) (by omega) (by omega)]) (fl _ (by omega) (by omega) (by omega) (by omega)) (fl _ (by omega) (by omega) (by omega) (by omega)) (fl _ (by omega) (by omega) (by omega) (by omega)) (fl _ (by omega) (by omega) (by omega) (by omega)) (fl _ (by omega) (by omega) (by omega) (by omega)) (fl _ (by omega) (by omega) (by omega) (by omega)) (fl _ (by omega) (by omega) (by omega) (by omega)) (fl _ (by omega) (by omega) (by omega) (by omega)) (fl _ (by omega) (by omega) (by omega) (by omega)) (fl _ (by omega) (by omega) (by omega) (by omega)) (fl _ (by omega) (by omega) (by omega) (by omega)) (fl _ (by omega) (by omega) (by omega) (by omega)) (Nat.le_refl _) (Nat.le_refl _)
  · rw [e2 _ (by omega) (by omega), ← hIc, u2_eq]
    rfl
end
