section
variable {Z : Nat → Nat} {x n n' M M' nr nc NW nr' nc' NW' i i0 q N s dr W a : Nat} {K K' : Sh} {I I' I1 : Im} {J : Jm} {R R' : Rf} {w c d le la : Nat → Nat} {cs : Nat → List Nat} {E D : List Nat} {P : List (Nat × Nat)}
/-- what is not this waste -/
theorem rule_sep (hS : S9 q K R) (hdr : K dr = (21, 1782)) (k1 : K a = (6, 5)) (k2 : K (a + 1) = (21, 5)) : (a ≠ q ∧ a ≠ q + 1 ∧ a ≠ q + 2 ∧ a ≠ q + 3 ∧ a ≠ dr) ∧ (a + 1 ≠ q ∧ a + 1 ≠ q + 1 ∧ a + 1 ≠ q + 2 ∧ a + 1 ≠ q + 3 ∧ a + 1 ≠ dr) := by
  obtain ⟨e1, ⟨-, e2⟩, ⟨-, e3⟩, ⟨-, e4⟩⟩ := hS
  have ne : ∀ {p r : Nat}, K p ≠ K r → p ≠ r := fun hh e => hh (by rw [e])
  have f1 : a ≠ q := ne (by rw [e1, k1]; decide)
  have f2 : a ≠ q + 1 := ne (by rw [e2, k1]; decide)
  have f3 : a ≠ q + 2 := ne (by rw [e3, k1]; decide)
  have f4 : a ≠ q + 3 := ne (by rw [e4, k1]; decide)
  have f5 : a + 1 ≠ q := ne (by rw [e1, k2]; decide)
  have f6 : a + 1 ≠ q + 3 := ne (by rw [e4, k2]; decide)
  have f7 : a ≠ dr := ne (by rw [hdr, k1]; decide)
  have f8 : a + 1 ≠ dr := ne (by rw [hdr, k2]; decide)
  omega
theorem car_sep (hS : S9 q K R) (hdr : K dr = (21, 1782)) (k1 : K a = (2, 3)) : a ≠ q ∧ a ≠ q + 1 ∧ a ≠ q + 2 ∧ a ≠ q + 3 ∧ a ≠ dr := by
  obtain ⟨e1, ⟨-, e2⟩, ⟨-, e3⟩, ⟨-, e4⟩⟩ := hS
  have ne : ∀ {p r : Nat}, K p ≠ K r → p ≠ r := fun hh e => hh (by rw [e])
  exact ⟨ne (by rw [e1, k1]; decide), ne (by rw [e2, k1]; decide), ne (by rw [e3, k1]; decide), ne (by rw [e4, k1]; decide), ne (by rw [hdr, k1]; decide)⟩
theorem scene_sep {aL aT aO aS aH : Nat} {vT vS vH : Int32} (h : SceneR x s nc NW n M vT vS vH aL aT aO aS aH K I R) (hS : S9 q K R) (hne : R s 0 ≠ some q) (hdr : K dr = (21, 1782)) (hd2 : ∀ q', R s 0 = some q' → R q' 8 ≠ some dr) : ∀ q', R s 0 = some q' → ∀ z, z = q' ∨ z = q' + 1 ∨ z = q' + 2 ∨ z = q' + 3 ∨ R q' 8 = some z → z ≠ q ∧ z ≠ q + 1 ∧ z ≠ q + 2 ∧ z ≠ q + 3 ∧ z ≠ dr ∧ x + 110 ≤ z ∧ z < n := by
  intro q' hq' z hz
  have hnq : q' ≠ q := fun e => hne (by rw [hq', e])
  have hd2 := hd2 q' hq'
  obtain ⟨h1, -⟩ := h
  rcases h1 with ⟨-, b⟩ | ⟨i, q2, N, w, c, d, cs, le, la, a1, a2, a3⟩
  · rw [b] at hq'; cases hq'
  · obtain ⟨b1, b2, b3, b4, b5⟩ := a3
    have : q' = q2 := by rw [b1] at hq'; exact (Option.some.inj hq').symm
    subst this
    obtain ⟨c1, c2, c3, ⟨⟨e1, ⟨-, e2⟩, ⟨-, e3⟩, ⟨-, e4⟩⟩, d2, d3, d4, d5, d6, d7, d8, d9, dr', d10, d11, d12⟩, c5, -⟩ := b2
    obtain ⟨g1, ⟨-, g2⟩, ⟨-, g3⟩, ⟨-, g4⟩⟩ := hS
    have ne : ∀ {p r : Nat}, K p ≠ K r → p ≠ r := fun hh e => hh (by rw [e])
    have f1 : q' ≠ q + 1 := ne (by rw [e1, g2]; decide)
    have f2 : q' ≠ q + 2 := ne (by rw [e1, g3]; decide)
    have f3 : q' ≠ q + 3 := ne (by rw [e1, g4]; decide)
    have f4 : q ≠ q' + 1 := ne (by rw [g1, e2]; decide)
    have f5 : q ≠ q' + 2 := ne (by rw [g1, e3]; decide)
    have f6 : q ≠ q' + 3 := ne (by rw [g1, e4]; decide)
    have f7 : dr' ≠ q := ne (by rw [d11, g1]; decide)
    have f8 : dr' ≠ q + 1 := ne (by rw [d11, g2]; decide)
    have f9 : dr' ≠ q + 2 := ne (by rw [d11, g3]; decide)
    have f10 : dr' ≠ q + 3 := ne (by rw [d11, g4]; decide)
    have f11 : dr' ≠ dr := fun e => hd2 (by rw [d10, e])
    have f12 : q' ≠ dr := ne (by rw [e1, hdr]; decide)
    have f13 : q' + 1 ≠ dr := ne (by rw [e2, hdr]; decide)
    have f14 : q' + 2 ≠ dr := ne (by rw [e3, hdr]; decide)
    have f15 : q' + 3 ≠ dr := ne (by rw [e4, hdr]; decide)
    rcases hz with hz | hz | hz | hz | hz
    · omega
    · omega
    · omega
    · omega
    · have e8 : z = dr' := by rw [d10] at hz; exact (Option.some.inj hz).symm
      have := c5 z hz
      have := b4 z hz
      omega
set_option maxHeartbeats 400000 in
theorem rel_alloc (h : Rel Z x n M K I J R) (hu : R x 2 = none) : ∃ K1 I1 R1, (Option.bind (some (u1 K n (10, 9))) fun K26 =>
      Option.bind (some (zr I n 0)) fun I27 =>
      Option.bind (some (zr R n none)) fun R28 =>
      Option.bind (f_X9_init n K26 (n + 1) I27 R28) fun q29 =>
      Option.bind (ob q29.1 12 (some x)) fun a31 =>
      Option.bind (some (u2 q29.2.2.2 a31 2 (some n))) fun R33 =>
      f_X11_waste_29 Z x q29.1 q29.2.1 q29.2.2.1 R33) = f_X11_waste_29 Z x K1 (n + 4) I1 R1 ∧ R1 x 2 = some n ∧ I1 x 1 = I x 1 ∧ Rel Z x (n + 4) M K1 I1 J R1 := by
  obtain ⟨hC, hS, hn, hMb, hZ, nr, nc, NW, hG⟩ := h
  obtain ⟨hnum, hru, hca, hnow, hkept, himg, hact, htap, htex, hunr⟩ := RelG_iff.mp hG
  have hw := wqs hnow hkept
  have hK : ∀ z, z < n → u1 (u1 (u1 (u1 K n (10, 9)) (n + 1) (21, 5)) (n + 2) (21, 5)) (n + 3) (21, 6) z = K z := fun z hz => by rw [u1_ne (by omega), u1_ne (by omega), u1_ne (by omega), u1_ne (by omega)]
  have k0 : u1 (u1 (u1 (u1 K n (10, 9)) (n + 1) (21, 5)) (n + 2) (21, 5)) (n + 3) (21, 6) n = (10, 9) := by rw [u1_ne (by omega), u1_ne (by omega), u1_ne (by omega), u1_eq]
  have k1 : u1 (u1 (u1 (u1 K n (10, 9)) (n + 1) (21, 5)) (n + 2) (21, 5)) (n + 3) (21, 6) (n + 1) = (21, 5) := by rw [u1_ne (by omega), u1_ne (by omega), u1_eq]
  have k2 : u1 (u1 (u1 (u1 K n (10, 9)) (n + 1) (21, 5)) (n + 2) (21, 5)) (n + 3) (21, 6) (n + 2) = (21, 5) := by rw [u1_ne (by omega), u1_eq]
  have k3 : u1 (u1 (u1 (u1 K n (10, 9)) (n + 1) (21, 5)) (n + 2) (21, 5)) (n + 3) (21, 6) (n + 3) = (21, 6) := u1_eq _ _ _
  have o1 : ob (u1 (u1 K n (10, 9)) (n + 1) (21, 5)) 10 (some n) = some n := ob_ok (by rw [u1_ne (by omega), u1_eq])
  have o2 : ob (u1 (u1 (u1 K n (10, 9)) (n + 1) (21, 5)) (n + 2) (21, 5)) 10 (some n) = some n := ob_ok (by rw [u1_ne (by omega), u1_ne (by omega), u1_eq])
  have o3 : ob (u1 (u1 (u1 (u1 K n (10, 9)) (n + 1) (21, 5)) (n + 2) (21, 5)) (n + 3) (21, 6)) 10 (some n) = some n := ob_ok (by rw [k0])
  have o4 : ob (u1 (u1 (u1 (u1 K n (10, 9)) (n + 1) (21, 5)) (n + 2) (21, 5)) (n + 3) (21, 6)) 12 (some x) = some x := ob_ok (by rw [hK x (by omega), hC.k0])
  have run : (Option.bind (some (u1 K n (10, 9))) fun K26 =>
      Option.bind (some (zr I n 0)) fun I27 =>
      Option.bind (some (zr R n none)) fun R28 =>
      Option.bind (f_X9_init n K26 (n + 1) I27 R28) fun q29 =>
      Option.bind (ob q29.1 12 (some x)) fun a31 =>
      Option.bind (some (u2 q29.2.2.2 a31 2 (some n))) fun R33 =>
      f_X11_waste_29 Z x q29.1 q29.2.1 q29.2.2.1 R33) = f_X11_waste_29 Z x (u1 (u1 (u1 (u1 K n (10, 9)) (n + 1) (21, 5)) (n + 2) (21, 5)) (n + 3) (21, 6)) (n + 4) (zr (zr (zr (zr I n 0) (n + 1) 0) (n + 2) 0) (n + 3) 0) (u2 (u2 (u2 (u2 (u2 (zr R n none) n 5 (some (n + 1))) n 6 (some (n + 2))) n 7 (some (n + 3))) n 8 none) x 2 (some n)) := by
    rw [obs, obs, obs]
    unfold f_X9_init
    rw [obs, obs, o1, obs, obs, obs, obs, o2, obs, obs, obs, obs, o3, obs, obs, obs, obs]
    dsimp only
    rw [o4, obs, obs]
  have hR : ∀ z, z < n → z ≠ x → u2 (u2 (u2 (u2 (u2 (zr R n none) n 5 (some (n + 1))) n 6 (some (n + 2))) n 7 (some (n + 3))) n 8 none) x 2 (some n) z = R z := fun z hz hx => by rw [u2_row hx, u2_row (by omega), u2_row (by omega), u2_row (by omega), u2_row (by omega), zr_row (by omega)]
  have rn : ∀ k, u2 (u2 (u2 (u2 (u2 (zr R n none) n 5 (some (n + 1))) n 6 (some (n + 2))) n 7 (some (n + 3))) n 8 none) x 2 (some n) n k = u2 (u2 (u2 (u2 (zr R n none) n 5 (some (n + 1))) n 6 (some (n + 2))) n 7 (some (n + 3))) n 8 none n k := fun k => by rw [u2_row (by omega)]
  have r5 : u2 (u2 (u2 (u2 (u2 (zr R n none) n 5 (some (n + 1))) n 6 (some (n + 2))) n 7 (some (n + 3))) n 8 none) x 2 (some n) n 5 = some (n + 1) := by rw [rn, u2_ne (by omega), u2_ne (by omega), u2_ne (by omega), u2_eq]
  have r6 : u2 (u2 (u2 (u2 (u2 (zr R n none) n 5 (some (n + 1))) n 6 (some (n + 2))) n 7 (some (n + 3))) n 8 none) x 2 (some n) n 6 = some (n + 2) := by rw [rn, u2_ne (by omega), u2_ne (by omega), u2_eq]
  have r7 : u2 (u2 (u2 (u2 (u2 (zr R n none) n 5 (some (n + 1))) n 6 (some (n + 2))) n 7 (some (n + 3))) n 8 none) x 2 (some n) n 7 = some (n + 3) := by rw [rn, u2_ne (by omega), u2_eq]
  have r8 : u2 (u2 (u2 (u2 (u2 (zr R n none) n 5 (some (n + 1))) n 6 (some (n + 2))) n 7 (some (n + 3))) n 8 none) x 2 (some n) n 8 = none := by rw [rn, u2_eq]
  have rx : u2 (u2 (u2 (u2 (u2 (zr R n none) n 5 (some (n + 1))) n 6 (some (n + 2))) n 7 (some (n + 3))) n 8 none) x 2 (some n) x 2 = some n := u2_eq _ _ _ _
  have hC1 : CSH x K (u2 (u2 (u2 (u2 (u2 (zr R n none) n 5 (some (n + 1))) n 6 (some (n + 2))) n 7 (some (n + 3))) n 8 none) x 2 (some n)) := CSH.u (i := 0) (k := 2) (CSH.o hC (fun z z1 z2 => by rw [u2_row (by omega), u2_row (by omega), u2_row (by omega), u2_row (by omega), zr_row (by omega)])) rfl
  generalize u2 (u2 (u2 (u2 (u2 (zr R n none) n 5 (some (n + 1))) n 6 (some (n + 2))) n 7 (some (n + 3))) n 8 none) x 2 (some n) = R1 at run hR rn r5 r6 r7 r8 rx hC1
  have hI : ∀ z, z < n → zr (zr (zr (zr I n 0) (n + 1) 0) (n + 2) 0) (n + 3) 0 z = I z := fun z hz => by rw [zr_row (by omega), zr_row (by omega), zr_row (by omega), zr_row (by omega)]
  have en : x + (n - x) = n := by omega
  have en1 : x + (n + 1 - x) = n + 1 := by omega
  have en2 : x + (n + 2 - x) = n + 2 := by omega
  have en3 : x + (n + 3 - x) = n + 3 := by omega
  have F : AF x ([n - x, n + 1 - x, n + 2 - x, n + 3 - x] ++ []) [] I (zr (zr (zr (zr I n 0) (n + 1) 0) (n + 2) 0) (n + 3) 0) := by
    have z := af_z (j := n + 3 - x) (af_z (j := n + 2 - x) (af_z (j := n + 1 - x) (af_z (j := n - x) (AF.refl (x := x) (I := I) (E := [n - x, n + 1 - x, n + 2 - x, n + 3 - x] ++ []) (P := [])) (by simp)) (by simp)) (by simp)) (by simp)
    rw [en, en1, en2, en3] at z
    exact z
  have ok : ∀ {rows flds}, okE rows flds [] [] = true → (rows.all (fun j => decide (j < 110)) && flds.all (fun f => decide (f.1 < 110))) = true → okE rows flds ([n - x, n + 1 - x, n + 2 - x, n + 3 - x] ++ []) [] = true := fun a b => okE_dl a b (fun e he => by
    simp only [List.mem_cons, List.not_mem_nil, or_false] at he
    omega)
  generalize zr (zr (zr (zr I n 0) (n + 1) 0) (n + 2) 0) (n + 3) 0 = I1 at run hI F
  generalize u1 (u1 (u1 (u1 K n (10, 9)) (n + 1) (21, 5)) (n + 2) (21, 5)) (n + 3) (21, 6) = K1 at run hK k0 k1 k2 k3
  have hdy : ∀ z, x + 110 ≤ z → z < n → I1 z = I z ∧ R1 z = R z := fun z z1 z2 => ⟨hI z z2, hR z z2 (by omega)⟩
  have hn' : NowS x nc NW n M K1 I R := SceneR.kn hnow hK
  have hk' : KeptS x nc NW n M K1 I R := SceneR.kn hkept hK
  refine ⟨K1, I1, R1, run, rx, by rw [hI x (by omega)], hC1.kn (fun z _ z2 => hK z (by omega)), hS.congr (fun i hi => hK _ (by omega)) (hR _ (by omega) (by omega)), by omega, hMb, (hZ.kn (fun z hz => hK z (by omega))).of (fun z hz => hI z (by omega)), nr, nc, NW, RelG_iff.mpr ⟨hnum.af F (ok (by decide) (by decide)), hru.cg (fun r _ => by rw [hR _ (by omega) (by omega)]) (fun a a1 a2 => ⟨hI a (by omega), hI _ a2, hR a (by omega) (by omega), hK a (by omega), hK _ a2⟩) (fun r _ => by rw [hI _ (by omega), hI _ (by omega), hI _ (by omega), hI _ (by omega)]; exact ⟨rfl, rfl, rfl, fun _ _ => rfl⟩) (by omega), hca.cg (fun k _ => by rw [hR _ (by omega) (by omega)]) (fun r _ => by rw [hR _ (by omega) (by omega)]) (fun a _ a1 a2 => ⟨hI a a2, hR a a2 (by omega), hK a a2⟩) (fun k _ => by rw [hI _ (by omega), hI _ (by omega), hI _ (by omega)]; exact ⟨rfl, rfl, rfl⟩) (by omega) (Nat.le_refl _), hn'.af F (ok (by decide) (by decide)) hdy (by rw [hR _ (by omega) (by omega)]) (by omega) (Nat.le_refl _) (Nat.le_refl _) (Nat.le_refl _), hk'.af F (ok (by decide) (by decide)) hdy (by rw [hR _ (by omega) (by omega)]) (by omega) (Nat.le_refl _) (Nat.le_refl _) (Nat.le_refl _), himg.af F (ok (by decide) (by decide)), hact.af F (ok (by decide) (by decide)), htap.af F (ok (by decide) (by decide)), htex.af F (ok (by decide) (by decide)), Or.inr ⟨n, rx, ⟨k0, ⟨r5, k1⟩, ⟨r6, k2⟩, ⟨r7, k3⟩⟩, hn, by omega, ?_, ?_, Or.inl r8⟩⟩⟩
  · rw [hR _ (by omega) (by omega)]
    intro e
    have := (hw n (Or.inl e)).2
    omega
  · rw [hR _ (by omega) (by omega)]
    intro e
    have := (hw n (Or.inr e)).2
    omega
end
