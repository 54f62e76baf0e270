section
variable {Z : Nat → Nat} {x n n' M M' nr nc NW nr' nc' NW' i i0 q N s dr W a len : Nat} {tx : Nat → Int32} {K K' : Sh} {I I' I1 : Im} {J : Jm} {R R' : Rf} {w c d le la : Nat → Nat} {cs : Nat → List Nat} {E D : List Nat} {P : List (Nat × Nat)}
theorem rule_sep0 (hS : S9 q K R) (k1 : K a = (6, 5)) (k2 : K (a + 1) = (21, 5)) : (a ≠ q ∧ a ≠ q + 1 ∧ a ≠ q + 2 ∧ a ≠ q + 3) ∧ (a + 1 ≠ q ∧ a + 1 ≠ q + 1 ∧ a + 1 ≠ q + 2 ∧ a + 1 ≠ q + 3) := by
  obtain ⟨e1, ⟨-, e2⟩, ⟨-, e3⟩, ⟨-, e4⟩⟩ := hS
  have ne : ∀ {p r : Nat}, K p ≠ K r → p ≠ r := fun hh e => hh (by rw [e])
  have f1 : a ≠ q := ne (by rw [e1, k1]; decide)
  have f2 : a ≠ q + 1 := ne (by rw [e2, k1]; decide)
  have f3 : a ≠ q + 2 := ne (by rw [e3, k1]; decide)
  have f4 : a ≠ q + 3 := ne (by rw [e4, k1]; decide)
  have f5 : a + 1 ≠ q := ne (by rw [e1, k2]; decide)
  have f6 : a + 1 ≠ q + 3 := ne (by rw [e4, k2]; decide)
  omega
theorem scene_sep0 {aL aT aO aS aH : Nat} {vT vS vH : Int32} (h : SceneR x s nc NW n M vT vS vH aL aT aO aS aH K I R) (hS : S9 q K R) (hne : R s 0 ≠ some q) : ∀ q', R s 0 = some q' → ∀ z, z = q' ∨ z = q' + 1 ∨ z = q' + 2 ∨ z = q' + 3 ∨ R q' 8 = some z → z ≠ q ∧ z ≠ q + 1 ∧ z ≠ q + 2 ∧ z ≠ q + 3 ∧ x + 110 ≤ z ∧ z < n ∧ ∀ dr, K dr = (21, 1782) → R q' 8 ≠ some dr → z ≠ dr := by
  intro q' hq' z hz
  have hnq : q' ≠ q := fun e => hne (by rw [hq', e])
  obtain ⟨h1, -⟩ := h
  rcases h1 with ⟨-, b⟩ | ⟨i, q2, N, w, c, d, cs, le, la, a1, a2, a3⟩
  · rw [b] at hq'; cases hq'
  · obtain ⟨b1, b2, b3, b4, b5⟩ := a3
    have : q' = q2 := by rw [b1] at hq'; exact (Option.some.inj hq').symm
    subst this
    obtain ⟨c1, c2, c3, ⟨⟨e1, ⟨-, e2⟩, ⟨-, e3⟩, ⟨-, e4⟩⟩, d2, d3, d4, d5, d6, d7, d8, d9, dr', d10, d11, d12⟩, c5, -⟩ := b2
    obtain ⟨g1, ⟨-, g2⟩, ⟨-, g3⟩, ⟨-, g4⟩⟩ := hS
    have ne : ∀ {p r : Nat}, K p ≠ K r → p ≠ r := fun hh e => hh (by rw [e])
    have f1 : q' ≠ q + 1 := ne (by rw [e1, g2]; decide)
    have f2 : q' ≠ q + 2 := ne (by rw [e1, g3]; decide)
    have f3 : q' ≠ q + 3 := ne (by rw [e1, g4]; decide)
    have f4 : q ≠ q' + 1 := ne (by rw [g1, e2]; decide)
    have f5 : q ≠ q' + 2 := ne (by rw [g1, e3]; decide)
    have f6 : q ≠ q' + 3 := ne (by rw [g1, e4]; decide)
    have f7 : dr' ≠ q := ne (by rw [d11, g1]; decide)
    have f8 : dr' ≠ q + 1 := ne (by rw [d11, g2]; decide)
    have f9 : dr' ≠ q + 2 := ne (by rw [d11, g3]; decide)
    have f10 : dr' ≠ q + 3 := ne (by rw [d11, g4]; decide)
    rcases hz with hz | hz | hz | hz | hz
    · exact ⟨by omega, by omega, by omega, by omega, by omega, by omega, fun dr hd _ => by rw [hz]; exact ne (by rw [e1, hd]; decide)⟩
    · exact ⟨by omega, by omega, by omega, by omega, by omega, by omega, fun dr hd _ => by rw [hz]; exact ne (by rw [e2, hd]; decide)⟩
    · exact ⟨by omega, by omega, by omega, by omega, by omega, by omega, fun dr hd _ => by rw [hz]; exact ne (by rw [e3, hd]; decide)⟩
    · exact ⟨by omega, by omega, by omega, by omega, by omega, by omega, fun dr hd _ => by rw [hz]; exact ne (by rw [e4, hd]; decide)⟩
    · have e8 : z = dr' := by rw [d10] at hz; exact (Option.some.inj hz).symm
      have := c5 z hz
      have := b4 z hz
      exact ⟨by omega, by omega, by omega, by omega, by omega, by omega, fun dr _ h2 e => h2 (by rw [hz, e])⟩
set_option maxHeartbeats 2000000 in
theorem k_w29s (h : Rel Z x n M K I J R) (hu : R x 2 = some q) {len : Nat} (hlen : I (x + 1) 1 = nI len) (hl : len ≤ 100) {N : Nat} (hf : (qOut (fun j => I (x + 2) j) len 12 0).1 = some N) (hN5 : ∀ NW, I x 1 = nI NW → NW ≤ 5 → NW < 5) : ∃ r K1 n1 I1 R1 I2, f_X11_waste_29 Z x K n I R = some (r, K1, n1, I1, R1) ∧ f_X12_waste K1 R1 (x + 62) I1 = some (r, I2) ∧ Rel Z x n1 M K1 I2 J R1 := by
  obtain ⟨hC, hS, hn, hMb, hZ, nr, nc, NW, hG⟩ := h
  obtain ⟨hnum, hru, hca, hnow, hkept, himg, hact, htap, htex, hunr⟩ := RelG_iff.mp hG
  obtain ⟨g1, g2, g3, g4, g5, g6, g7, g8, g9⟩ := id hnum
  have hNW := hN5 NW g4 g3
  obtain ⟨len', t1, t2, t3, t4⟩ := htex
  have : len' = len := by rw [hlen, nI_eq (by omega) (by omega)] at t2; exact t2.symm
  subst this
  rcases id hunr with hu' | ⟨q', u1, uS, uq, uqn, un8, un17, udr⟩
  · rw [hu] at hu'; cases hu'
  have : q' = q := by rw [hu] at u1; exact (Option.some.inj u1).symm
  subst this
  obtain ⟨I1, r1, r2⟩ := c_readAll (tx := fun j => I (x + 2) j) (nn := n) (cS4 hC) hl hlen (fun j _ => rfl) hZ.1 uS uq
  generalize htx : (fun j => I (x + 2) j) = tx at r2 hf
  have htx' : ∀ j, I (x + 2) j = tx j := fun j => by rw [← htx]
  generalize hr : qOut tx len' 12 0 = r at r2 hf
  obtain ⟨ro, pf⟩ := r
  have hf : ro = some N := hf
  subst hf
  obtain ⟨v1, v2, v3, v4⟩ := r2
  have hdr0 : R q' 8 = none ∨ ∃ dr, R q' 8 = some dr ∧ K dr = (21, 1782) ∧ x + 110 ≤ dr ∧ dr < n := by
    rcases udr with e | ⟨dr, e1, e2, e3, e4, -⟩
    · exact Or.inl e
    · exact Or.inr ⟨dr, e1, e2, e3, e4⟩
  -- the places of the clauses
  have mr := m_text (I0 := I) (R := R) (K := K) (tx := tx) hS hl t3 (fun j hj => by rw [← htx']; exact (t4 j hj).symm) (show NW ≤ 4 by omega)
  rw [hr] at mr
  obtain ⟨-, -, hcl, -⟩ := mr.1 N rfl
  clear mr
  obtain ⟨dr, K1, n1, R1, I2, y1, y2, y3, y4, y5, y6, y7, y8, y9⟩ := c_62 (Z := Z) (cS4 hC) uS hl (fun j _ => htx' j) uq uqn hdr0 v1 v2 (fun m hm => (hcl m hm).choose_spec.2) v3 v4
  have hK1 : ∀ z, z < n → K1 z = K z := by
    rcases y6 with ⟨e1, -, -⟩ | ⟨-, -, -, e4, -⟩
    · rw [e1]; exact fun _ _ => rfl
    · rw [e4]; exact fun z hz => u1_ne (by omega)
  have hR1 : ∀ z, z ≠ q' → R1 z = R z := by
    rcases y6 with ⟨-, -, e3⟩ | ⟨-, -, -, -, e5⟩
    · rw [e3]; exact fun _ _ => rfl
    · rw [e5]; exact fun z hz => u2_row hz
  have hn1 : n ≤ n1 := by
    rcases y6 with ⟨-, e2, -⟩ | ⟨-, -, e3, -⟩ <;> omega
  have hRq : ∀ k, k ≠ 8 → R1 q' k = R q' k := by
    rcases y6 with ⟨-, -, e3⟩ | ⟨-, -, -, -, e5⟩
    · rw [e3]; exact fun _ _ => rfl
    · rw [e5]; exact fun k hk => u2_ne hk
  have hC1 : CSH x K1 R1 := (CSH.o hC (fun z z1 z2 => hR1 z (by omega))).kn (fun z _ z2 => hK1 z (by omega))
  have hS91 : S9 q' K1 R1 := by
    unfold S9 at uS ⊢
    rw [hK1 _ (by omega), hK1 _ (by omega), hK1 _ (by omega), hK1 _ (by omega), hRq 5 (by omega), hRq 6 (by omega), hRq 7 (by omega)]
    exact uS
  -- the class
  have e62 : f_X4_readInto Z (x + 1) (R x 2) K n I R = some (-1, K1, n1, I2, R1) := by
    rw [hu, r1]
    exact y1
  have cl := c_w29 hC hC1 e62
  have hR1x : R1 x 2 = some q' := by rw [hR1 _ (by omega)]; exact hu
  rw [if_pos (by decide), hR1x] at cl
  have hC2 : CSH x K1 (u2 R1 (x + 8) 0 (some q')) := hC1.u (i := 8) (k := 0) rfl
  have hS92 : S9 q' K1 (u2 R1 (x + 8) 0 (some q')) := by
    unfold S9 at hS91 ⊢
    rw [u2_row (by omega)]
    exact hS91
  obtain ⟨I19, b0, b1, b2⟩ := c_fill (P := fun I19 => (∀ z, z ≠ x + 10 → z ≠ x + 11 → z ≠ x + 12 → z ≠ x + 13 → I19 z = u2 I2 (x + 1) 1 0 z) ∧ ∀ j, j < 5 → I19 (x + 10) j = u2 I2 (x + 1) 1 0 (q' + 1) j ∧ I19 (x + 11) j = u2 I2 (x + 1) 1 0 (q' + 2) j ∧ I19 (x + 12) j = u2 I2 (x + 1) 1 0 (q' + 1) j ∧ I19 (x + 13) j = nI 0) (I := u2 I2 (x + 1) 1 0) (cS10n hC2) hS92 (fun i j hi hj => by omega) (fun I19 a b => ⟨a, b⟩)
  rw [b0, obs] at cl
  have i1f := v4.1
  have cx : I19 x 1 = nI NW := by rw [b1 x (by omega) (by omega) (by omega) (by omega), u2_row (by omega), y7 x (by omega) (by omega) (by omega), i1f x (by omega) (by omega) (by omega) (by omega) (by omega) (by omega) (by omega)]; exact g4
  rw [cx, L1, nI_add, u2_eq, nI_pred1] at cl
  generalize hIc : u2 I19 x 1 (nI (NW + 1)) = Ic at cl
  have cz : ∀ z, z ≠ x → z ≠ x + 1 → z ≠ x + 3 → z ≠ x + 4 → z ≠ x + 5 → z ≠ x + 10 → z ≠ x + 11 → z ≠ x + 12 → z ≠ x + 13 → z ≠ q' → z ≠ q' + 1 → z ≠ q' + 2 → z ≠ q' + 3 → z ≠ dr → Ic z = I z := fun z a0 a1 a3 a4 a5 a10 a11 a12 a13 b0 b1' b2' b3 bd => by
    rw [← hIc, u2_row a0, b1 z a10 a11 a12 a13, u2_row a1, y7 z a1 a5 bd]
    exact i1f z a1 a3 a4 b0 b1' b2' b3
  have ch : ∀ z, x + 14 ≤ z → z < x + 110 → Ic z = I z := fun z a b => cz z (by omega) (by omega) (by omega) (by omega) (by omega) (by omega) (by omega) (by omega) (by omega) (by omega) (by omega) (by omega) (by omega) (by omega)
  have cq : ∀ z, z = q' ∨ z = q' + 1 ∨ z = q' + 2 ∨ z = q' + 3 → z ≠ dr → Ic z = I1 z := fun z a bd => by
    rw [← hIc, u2_row (by omega), b1 z (by omega) (by omega) (by omega) (by omega), u2_row (by omega), y7 z (by omega) (by omega) bd]
  have cdr : Ic dr = I2 dr := by rw [← hIc, u2_row (by omega), b1 _ (by omega) (by omega) (by omega) (by omega), u2_row (by omega)]
  have ndr : dr ≠ q' ∧ dr ≠ q' + 1 ∧ dr ≠ q' + 2 ∧ dr ≠ q' + 3 := by
    obtain ⟨e1, ⟨-, e2⟩, ⟨-, e3⟩, ⟨-, e4⟩⟩ := hS91
    have ne : ∀ {p r : Nat}, K1 p ≠ K1 r → p ≠ r := fun hh e => hh (by rw [e])
    exact ⟨ne (by rw [y3, e1]; decide), ne (by rw [y3, e2]; decide), ne (by rw [y3, e3]; decide), ne (by rw [y3, e4]; decide)⟩
  have hRf : ∀ z, z ≠ x → z ≠ x + 8 → z ≠ q' → u2 (u2 R1 (x + 8) 0 (some q')) x 2 none z = R z := fun z a b c => by rw [u2_row a, u2_row b]; exact hR1 z c
  have hCf : CSH x K1 (u2 (u2 R1 (x + 8) 0 (some q')) x 2 none) := CSH.u (i := 0) (k := 2) hC2 rfl
  have r8f : u2 (u2 R1 (x + 8) 0 (some q')) x 2 none (x + 8) 0 = some q' := by rw [u2_row (by omega), u2_eq]
  have rqf : ∀ k, u2 (u2 R1 (x + 8) 0 (some q')) x 2 none q' k = R1 q' k := fun k => by rw [u2_row (by omega), u2_row (by omega)]
  have rxf : ∀ k, k ≠ 2 → u2 (u2 R1 (x + 8) 0 (some q')) x 2 none x k = R x k := fun k hk => by rw [u2_ne hk, u2_row (by omega), hR1 _ (by omega)]
  have rx2 : u2 (u2 R1 (x + 8) 0 (some q')) x 2 none x 2 = none := u2_eq _ _ _ _
  have S9f : S9 q' K1 (u2 (u2 R1 (x + 8) 0 (some q')) x 2 none) := by
    unfold S9 at hS92 ⊢
    rw [u2_row (by omega)]
    exact hS92
  generalize u2 (u2 R1 (x + 8) 0 (some q')) x 2 none = Rf at cl hRf hCf r8f rqf rxf rx2 S9f
  have hSf : MSH (x + 62) K1 Rf := hS.congr (fun i hi => hK1 _ (by omega)) (hRf _ (by omega) (by omega) (by omega))
  have S12f : S12 (x + 62) K1 Rf := hSf
  -- the reference
  obtain ⟨mo, -⟩ := m_text (I0 := Ic) (tx := tx) S12f hl (by rw [ch _ (by omega) (by omega)]; exact t3) (fun j hj => by rw [ch _ (by omega) (by omega), ← htx']; exact (t4 j hj).symm) (show NW ≤ 4 by omega)
  rw [hr] at mo
  obtain ⟨-, -, -, I3, e', m1, m2, m3⟩ := mo N rfl
  have z0 : Ic (x + 62) 0 = nI NW := by rw [ch _ (by omega) (by omega)]; exact g5
  obtain ⟨I7, w1, w2, w3, w4, w5, w6, w7, w8, w9, w10, w11⟩ := m_wok S12f (show NW ≤ 4 by omega) v1 v2 hcl m2 m3 z0
  rw [obs] at w1
  have rf : f_X12_waste K1 Rf (x + 62) Ic = some (nI NW, I7) := by
    unfold f_X12_waste
    rw [z0, if_neg (show ¬ nI NW = 5 by rw [L5, nI_eq (by omega) (by omega)]; omega), m1, obs, obs, if_neg (show ¬ (1 : Int32) = 0 by decide)]
    exact w1
  have dynI : ∀ z, x + 110 ≤ z → I7 z = Ic z := fun z a => w8 z (by omega) (fun j hj => by
    have : ∀ j ∈ wfE, j < 110 := by decide
    have := this j hj
    omega)
  have dyn : ∀ z, x + 110 ≤ z → z ≠ q' → z ≠ q' + 1 → z ≠ q' + 2 → z ≠ q' + 3 → z ≠ dr → I7 z = I z := fun z a b c d e f => by
    rw [dynI z a]
    exact cz z (by omega) (by omega) (by omega) (by omega) (by omega) (by omega) (by omega) (by omega) (by omega) b c d e f
  have F : AF x ([q' - x, q' + 1 - x, q' + 2 - x, q' + 3 - x, dr - x] ++ wfE) wfP I I7 := wf_af (fun z z0 z62 ze z1 z2 z3 z4 zd => by
    rw [w8 z z62 ze]
    exact cz z z0 (ze 1 (by decide)) (ze 3 (by decide)) (ze 4 (by decide)) (ze 5 (by decide)) (ze 10 (by decide)) (ze 11 (by decide)) (ze 12 (by decide)) (ze 13 (by decide)) z1 z2 z3 z4 zd) (fun k hk => by
    have : I7 x = Ic x := w8 x (by omega) (fun j hj => by
      have : ∀ j ∈ wfE, 0 < j := by decide
      have := this j hj
      omega)
    rw [this, ← hIc, u2_ne hk, b1 x (by omega) (by omega) (by omega) (by omega), u2_row (by omega), y7 x (by omega) (by omega) (by omega), i1f x (by omega) (by omega) (by omega) (by omega) (by omega) (by omega) (by omega)]) (fun k k0 k1 k2 k3 k4 k14 k15 k16 k21 => by rw [w9 k k0 k1 k2 k3 k4 k14 k15 k16 k21, ch _ (by omega) (by omega)]) uq y4
  have ok : ∀ {rows flds}, okE rows flds wfE wfP = true → (rows.all (fun j => decide (j < 110)) && flds.all (fun f => decide (f.1 < 110))) = true → okE rows flds ([q' - x, q' + 1 - x, q' + 2 - x, q' + 3 - x, dr - x] ++ wfE) wfP = true := fun a b => wf_ok a b uq y4
  have fl : ∀ {j k}, okE [] [(j, k)] wfE wfP = true → j < 110 → I7 (x + j) k = I (x + j) k := fun {j k} a b => okE_f (ok a (by simp [b])) F (by simp)
  have flx : ∀ {k}, okE [] [(0, k)] wfE wfP = true → I7 x k = I x k := fun {k} a => fl (j := 0) (k := k) a (by omega)
  have rw_ : ∀ {j}, okE [j] [] wfE wfP = true → j < 110 → I7 (x + j) = I (x + j) := fun {j} a b => okE_r (ok a (by simp [b])) F (by simp)
  have hT : ∀ i N w c d cs, i < NW → MW (x + 62) i N w c d I → MC (x + 62) i N w cs I → MW (x + 62) i N w c d I7 ∧ MC (x + 62) i N w cs I7 := by
    intro i N w c d cs hi a b
    obtain ⟨a1, b1⟩ := tab_cg (I := I) (I1 := Ic) (ch _ (by omega) (by omega)) (ch _ (by omega) (by omega)) (ch _ (by omega) (by omega)) (ch _ (by omega) (by omega)) (ch _ (by omega) (by omega)) (ch _ (by omega) (by omega)) (ch _ (by omega) (by omega)) i N w c d cs a b
    exact w11 i N w c d cs hi a1 b1
  have notdr : ∀ z, z < n → (∀ d2, K d2 = (21, 1782) → R q' 8 = some d2 → z ≠ d2) → z ≠ dr := fun z hz hh => by
    rcases y6 with ⟨e1, -, e3⟩ | ⟨-, e2, -⟩
    · exact hh dr (by rw [← e1]; exact y3) (by rw [← e3]; exact y2)
    · omega
  have kd : ∀ a d2, K a ≠ (21, 1782) → K d2 = (21, 1782) → a ≠ d2 := fun a d2 h1 h2 e => h1 (by rw [e]; exact h2)
  obtain ⟨u1', ⟨-, u2'⟩, ⟨-, u3'⟩, ⟨-, u4'⟩⟩ := id uS
  have ne : ∀ {p r : Nat}, K p ≠ K r → p ≠ r := fun hh e => hh (by rw [e])
  obtain ⟨hA, hB, hCC, hD⟩ := NowS_iff.mp hnow
  have hcs : ∀ m, m < N → qc tx len' m ≤ 99 := fun m hm => by
    obtain ⟨t, ht, hp⟩ := hcl m hm
    rw [(qCls_get ht).2.1]
    exact (qCls_in hp ht).2.1
  have hcs1 : ∀ m, m < N → qw tx len' m = 1 → qc tx len' m ≤ 9 := fun m hm hw => by
    obtain ⟨t, ht, hp⟩ := hcl m hm
    rw [(qCls_get ht).2.1]
    exact (qCls_in hp ht).2.2.1 (by rw [← (qCls_get ht).1]; exact hw)
  obtain ⟨i1, i2, i3, i4, i5, i6, i7, i8, i9, i10⟩ := v4
  have iq : ∀ k, I7 q' k = I1 q' k := fun k => by rw [dynI q' uq, cq q' (by omega) (by omega)]
  have iq1 : ∀ k, I7 (q' + 1) k = I1 (q' + 1) k := fun k => by rw [dynI _ (by omega), cq _ (by omega) (by omega)]
  have iq2 : ∀ k, I7 (q' + 2) k = I1 (q' + 2) k := fun k => by rw [dynI _ (by omega), cq _ (by omega) (by omega)]
  have iq3 : ∀ k, I7 (q' + 3) k = I1 (q' + 3) k := fun k => by rw [dynI _ (by omega), cq _ (by omega) (by omega)]
  have W5 := wlN_le (qw tx len') N
  have waste : WasteR x NW q' N (qw tx len') (qc tx len') (qd tx len') (qcs tx len') K1 I7 Rf := by
    refine ⟨w2, w3, uq, ⟨S9f, by rw [iq]; exact i6.1, W5, fun k hk => ⟨by rw [iq3]; exact i6.2.2.2 k hk, (wyV_b hcs1 k).1, (wyV_b hcs1 k).2⟩, by rw [iq]; exact i7, laV_le (fun m hm _ => hcs m hm) (by omega), by rw [iq]; exact i9, laV_le (fun m hm _ => hcs m hm) (by omega), fun b k j => d1N_le v2 hcs b k j, dr, by rw [rqf]; exact y2, y3, fun k b j k1 k2 k3 k4 => by rw [dynI dr y4, cdr]; exact y9 k b j k1 k2 k3 k4⟩, fun z hz => ?_, by rw [iq]; exact i8, laV_le (fun m hm _ => hcs m hm) (by omega), fun k hk => by rw [iq1, iq2]; exact i6.2.2.1 k hk⟩
    rw [rqf, y2] at hz
    have := Option.some.inj hz
    omega
  refine ⟨nI NW, K1, n1, Ic, Rf, I7, cl, rf, hCf, hSf, by omega, hMb, (hZ.kn (fun z hz => hK1 z (by omega))).af F, nr, nc, NW + 1, RelG_iff.mpr ⟨⟨g1, g2, by omega, ?_, w5, by rw [flx (by decide)]; exact g6, by rw [fl (by decide) (by omega)]; exact g7, by rw [flx (by decide)]; exact g8, by rw [fl (by decide) (by omega)]; exact g9⟩, hru.cgk (fun r _ => by rw [hRf _ (by omega) (by omega) (by omega)]) (fun a k1 k2 a1 a2 => ?_) (fun r _ => by rw [rw_ (j := 81) (by decide) (by omega), rw_ (j := 82) (by decide) (by omega), rw_ (j := 83) (by decide) (by omega), rw_ (j := 84) (by decide) (by omega)]; exact ⟨rfl, rfl, rfl, fun _ _ => rfl⟩) hn1, hca.cg (fun k _ => by rw [hRf _ (by omega) (by omega) (by omega)]) (fun r _ => by rw [hRf _ (by omega) (by omega) (by omega)]) (fun a k1 a1 a2 => ⟨dyn a a1 (ne (by rw [k1, u1']; decide)) (ne (by rw [k1, u2']; decide)) (ne (by rw [k1, u3']; decide)) (ne (by rw [k1, u4']; decide)) (notdr a a2 (fun d2 h1 _ => kd a d2 (by rw [k1]; decide) h1)), hRf a (by omega) (by omega) (ne (by rw [k1, u1']; decide)), hK1 a a2⟩) (fun k _ => by rw [rw_ (j := 85) (by decide) (by omega), rw_ (j := 86) (by decide) (by omega), rw_ (j := 87) (by decide) (by omega)]; exact ⟨rfl, rfl, rfl⟩) hn1 (Nat.le_refl _), NowS_iff.mpr ⟨Or.inr ⟨NW, q', N, qw tx len', qc tx len', qd tx len', qcs tx len', wlV (qw tx len') (qc tx len') N, fun _ => 0, w6, by omega, r8f, waste, by omega, fun z hz => ?_, fun k hk => ?_⟩, hB.af F (ok (by decide) (by decide)), hCC.af F (ok (by decide) (by decide)), hD.af F (ok (by decide) (by decide))⟩, ?_, himg.af F (ok (by decide) (by decide)), hact.af F (ok (by decide) (by decide)), htap.af F (ok (by decide) (by decide)), ⟨0, by omega, ?_, w7, fun j hj => by omega⟩, Or.inl rx2⟩⟩
  · have : I7 x = Ic x := w8 x (by omega) (fun j hj => by
      have : ∀ j ∈ wfE, 0 < j := by decide
      have := this j hj
      omega)
    rw [this, ← hIc, u2_eq]
  · obtain ⟨⟨p1, p2, p3, p4⟩, p5, p6, p7, p8⟩ := rule_sep0 uS k1 k2
    exact ⟨dyn a a1 p1 p2 p3 p4 (notdr a (by omega) (fun d2 h1 _ => kd a d2 (by rw [k1]; decide) h1)), dyn (a + 1) (by omega) p5 p6 p7 p8 (notdr (a + 1) a2 (fun d2 h1 _ => kd (a + 1) d2 (by rw [k2]; decide) h1)), hRf a (by omega) (by omega) p1, hK1 a (by omega), hK1 _ a2⟩
  · rw [rqf, y2] at hz
    have := Option.some.inj hz
    omega
  · have k5 : k < 5 := by omega
    obtain ⟨j1, j2, j3, j4⟩ := b2 k k5
    obtain ⟨l1, l2⟩ := w4 k hk
    have lv : wlV (qw tx len') (qc tx len') N k ≤ 99 := wlV_le (fun m hm _ => hcs m hm) k
    have rI : ∀ z, x + 10 ≤ z → z ≤ x + 13 → I7 z = I19 z := fun z a b => by rw [w10 z (by omega) (by omega), ← hIc, u2_row (by omega)]
    have s1 : u2 I2 (x + 1) 1 0 (q' + 1) k = I1 (q' + 1) k := by rw [u2_row (by omega), y7 _ (by omega) (by omega) (by omega)]
    have s2 : u2 I2 (x + 1) 1 0 (q' + 2) k = I1 (q' + 2) k := by rw [u2_row (by omega), y7 _ (by omega) (by omega) (by omega)]
    refine ⟨?_, ?_, ?_, l1, lv, ?_, l2, Nat.zero_le _⟩
    · rw [rI _ (by omega) (by omega), j1, s1]; exact (i6.2.2.1 k k5).1
    · rw [rI _ (by omega) (by omega), j2, s2]; exact (i6.2.2.1 k k5).2
    · rw [rI _ (by omega) (by omega), j3, s1]; exact (i6.2.2.1 k k5).1
    · rw [rI _ (by omega) (by omega)]; exact j4
  · unfold KeptS
    rw [fl (j := 62) (k := 59) (by decide) (by omega), fl (j := 62) (k := 60) (by decide) (by omega), fl (j := 62) (k := 61) (by decide) (by omega)]
    refine SceneR.pw hkept hT (fun q2 hq2 => ⟨fun z hz => ?_, ?_⟩) (by rw [hRf _ (by omega) (by omega) (by omega)]) (fl (j := 17) (k := 4) (by decide) (by omega)) (fl (j := 17) (k := 6) (by decide) (by omega)) (rw_ (j := 19) (by decide) (by omega)) (rw_ (j := 20) (by decide) (by omega)) (rw_ (j := 21) (by decide) (by omega)) (rw_ (j := 22) (by decide) (by omega)) (rw_ (j := 23) (by decide) (by omega)) (rw_ (j := 24) (by decide) (by omega)) (rw_ (j := 25) (by decide) (by omega)) (rw_ (j := 100) (by decide) (by omega)) (rw_ (j := 101) (by decide) (by omega)) (rw_ (j := 102) (by decide) (by omega)) (rw_ (j := 103) (by decide) (by omega)) (rw_ (j := 104) (by decide) (by omega)) hn1 (by omega)
    · obtain ⟨p1, p2, p3, p4, p5, p6, p7⟩ := scene_sep0 hkept uS un17 q2 hq2 z hz
      have pd : z ≠ dr := notdr z p6 (fun d2 h1 h2 => p7 d2 h1 (fun e => by
        rcases udr with e0 | ⟨d3, e1, -, -, -, e5⟩
        · rw [e0] at h2; cases h2
        · have : d3 = d2 := by rw [e1] at h2; exact Option.some.inj h2
          exact e5 q2 (Or.inr hq2) (by rw [this]; exact e)))
      exact ⟨dyn z p5 p1 p2 p3 p4 pd, hK1 z p6⟩
    · have wq := SceneR.wq hkept hq2
      exact hRf q2 (by omega) (by omega) (fun e => un17 (by rw [hq2, e]))
  · rw [w10 _ (by omega) (by omega), ← hIc, u2_row (by omega), b1 _ (by omega) (by omega) (by omega) (by omega), u2_eq]
    rfl
theorem k_w29 (h : Rel Z x n M K I J R) (hu : R x 2 = some q) (hN5 : ∀ NW, I x 1 = nI NW → NW ≤ 5 → NW < 5) : ∃ r K1 n1 I1 R1 I2, f_X11_waste_29 Z x K n I R = some (r, K1, n1, I1, R1) ∧ f_X12_waste K1 R1 (x + 62) I1 = some (r, I2) ∧ Rel Z x n1 M K1 I2 J R1 := by
  have h0 := h
  obtain ⟨hC, hS, hn, hMb, hZ, nr, nc, NW, hG⟩ := h
  obtain ⟨hnum, hru, hca, hnow, hkept, himg, hact, htap, htex, hunr⟩ := RelG_iff.mp hG
  obtain ⟨len, t1, t2, t3, t4⟩ := htex
  cases hf : (qOut (fun j => I (x + 2) j) len 12 0).1 with
  | none => exact k_w29f h0 hu t2 t1 hf hN5
  | some N => exact k_w29s h0 hu t2 t1 hf hN5
theorem k_waste (h : Rel Z x n M K I J R) : ∃ r K1 n1 I1 R1 I2, f_X11_waste Z x K n I R = some (r, K1, n1, I1, R1) ∧ f_X12_waste K1 R1 (x + 62) I1 = some (r, I2) ∧ Rel Z x n1 M K1 I2 J R1 := by
  have h0 := h
  obtain ⟨hC, hS, hn, hMb, hZ, nr, nc, NW, hG⟩ := h
  obtain ⟨hnum, hru, hca, hnow, hkept, himg, hact, htap, htex, hunr⟩ := RelG_iff.mp hG
  obtain ⟨g1, g2, g3, g4, g5, g6, g7, g8, g9⟩ := id hnum
  have oX : ob K 12 (some x) = some x := ob_ok (by rw [hC.k0])
  unfold f_X11_waste
  rw [oX, obs, g4]
  by_cases c5 : NW = 5
  · refine ⟨-4, K, n, I, R, I, ?_, ?_, h0⟩
    · rw [if_neg (show ¬ nI NW < 5 by rw [L5, nI_ltI (by omega) (by omega)]; omega)]
    · unfold f_X12_waste
      rw [g5, if_pos (by rw [c5]; rfl)]
  rw [if_pos (show nI NW < 5 by rw [L5, nI_ltI (by omega) (by omega)]; omega)]
  have hN5 : ∀ NW', I x 1 = nI NW' → NW' ≤ 5 → NW' < 5 := fun NW' e le => by
    have : NW' = NW := by rw [g4] at e; have := congrArg Int32.toInt e; rw [nI_toInt (by omega), nI_toInt (by omega)] at this; omega
    omega
  cases hu : R x 2 with
  | none =>
    obtain ⟨K1, I1, R1, e1, e2, e3, e4⟩ := rel_alloc h0 hu
    rw [if_pos rfl, e1]
    exact k_w29 e4 e2 (fun NW' e => hN5 NW' (by rw [← e3]; exact e))
  | some q =>
    rw [if_neg (fun e => by cases e)]
    exact k_w29 h0 hu hN5
end
