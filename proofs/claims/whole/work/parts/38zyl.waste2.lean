section
variable {Z : Nat → Nat} {x n n' M M' nr nc NW nr' nc' NW' i i0 q N s dr W a len : Nat} {tx : Nat → Int32} {K K' : Sh} {I I' I1 : Im} {J : Jm} {R R' : Rf} {w c d le la : Nat → Nat} {cs : Nat → List Nat} {E D : List Nat} {P : List (Nat × Nat)}
/-- the reference, when the text was read -/
theorem m_wok {e' : Nat} (hM : S12 (x + 62) K R) (hNW : NW ≤ 4) (h1 : 1 ≤ N) (h12 : N ≤ 12) (hcl : ∀ m, m < N → ∃ t, qCls tx len m = some t ∧ qPs tx len m ≤ len) (hMI : MIq x NW tx len N len e' K I I1 R) (hN : I1 (x + 64) NW = nI N) (h0 : I (x + 62) 0 = nI NW) : ∃ I7, (Option.bind (some (u2 I1 (x + 62) 2 0)) fun I3 =>
      Option.bind (some (u2 I3 (x + 62) 1 (I3 (x + 62) 0))) fun I4 =>
      Option.bind (some (u2 I4 (x + 62) 0 ((I4 (x + 62) 0) + 1))) fun I5 =>
      Option.bind (f_X12_fresh K R (x + 62) I5) fun q6 =>
      some ((q6 (x + 62) 1), q6)) = some (nI NW, I7) ∧ MW (x + 62) NW N (qw tx len) (qc tx len) (qd tx len) I7 ∧ MC (x + 62) NW N (qw tx len) (qcs tx len) I7 ∧ (∀ k, k < wlN (qw tx len) N → I7 (x + 73) k = nI (wlV (qw tx len) (qc tx len) N k) ∧ I7 (x + 74) k = nI 0) ∧ I7 (x + 62) 0 = nI (NW + 1) ∧ I7 (x + 62) 1 = nI NW ∧ I7 (x + 62) 2 = nI 0 ∧ (∀ z, z ≠ x + 62 → (∀ j ∈ wfE, z ≠ x + j) → I7 z = I z) ∧ (∀ k, k ≠ 0 → k ≠ 1 → k ≠ 2 → k ≠ 3 → k ≠ 4 → k ≠ 14 → k ≠ 15 → k ≠ 16 → k ≠ 21 → I7 (x + 62) k = I (x + 62) k) ∧ (∀ z, x + 1 ≤ z → z ≤ x + 13 → I7 z = I z) ∧ ∀ i N w c d cs, i < NW → MW (x + 62) i N w c d I → MC (x + 62) i N w cs I → MW (x + 62) i N w c d I7 ∧ MC (x + 62) i N w cs I7 := by
  obtain ⟨b1, b2, b3, b4, b5, b6⟩ := hMI
  have hlen := b1.2.1
  have i0 : I1 (x + 62) 0 = nI NW := by rw [b2.2.1 0 (by omega) (by omega) (by omega) (by omega) (by omega)]; exact h0
  have r5 : ∀ z, z ≠ x + 62 → u2 (u2 (u2 I1 (x + 62) 2 0) (x + 62) 1 (nI NW)) (x + 62) 0 (nI (NW + 1)) z = I1 z := fun z hz => by rw [u2_row hz, u2_row hz, u2_row hz]
  have hMW5 : MW (x + 62) NW N (qw tx len) (qc tx len) (qd tx len) (u2 (u2 (u2 I1 (x + 62) 2 0) (x + 62) 1 (nI NW)) (x + 62) 0 (nI (NW + 1))) := by
    refine ⟨by rw [r5 _ (by omega)]; exact hN, h1, h12, fun m hm => ?_⟩
    obtain ⟨t, ht, hp⟩ := hcl m hm
    obtain ⟨a1, a2, a3, a4⟩ := b6 m hm
    obtain ⟨q1, q2, q3, q4, q5⟩ := qCls_get ht
    obtain ⟨y1, y2, y3, y4, -⟩ := qCls_in hp ht
    rw [r5 _ (by omega), r5 _ (by omega), r5 _ (by omega)]
    exact ⟨a1, by rw [q1]; exact y1, a2, by rw [q2]; exact y2, fun hw => by rw [q2]; exact y3 (by rw [← q1]; exact hw), fun hw => ⟨a3 hw, by rw [q3]; exact y4⟩⟩
  have hMC5 : MC (x + 62) NW N (qw tx len) (qcs tx len) (u2 (u2 (u2 I1 (x + 62) 2 0) (x + 62) 1 (nI NW)) (x + 62) 0 (nI (NW + 1))) := by
    intro m hm hw
    obtain ⟨t, ht, hp⟩ := hcl m hm
    obtain ⟨a1, a2, a3, a4⟩ := b6 m hm
    obtain ⟨q1, q2, q3, q4, q5⟩ := qCls_get ht
    obtain ⟨y1, y2, y3, y4, y5⟩ := qCls_in hp ht
    obtain ⟨fr, k1, k2, k3, k4, k5⟩ := a4 hw
    obtain ⟨-, -, wf⟩ := y5 (by rw [← q1]; exact hw)
    rw [← q4] at wf
    refine ⟨fr, by rw [r5 _ (by omega)]; exact k1, by rw [r5 _ (by omega)]; exact k2, by omega, k4, fun j c hj => ⟨by rw [r5 _ (by omega)]; exact k5 j c hj, wf.1 c (List.mem_of_getElem? hj)⟩, fun h b y => ?_⟩
    obtain ⟨v, hv⟩ := wf.2 h b y
    exact ⟨v, hv []⟩
  obtain ⟨I6, l0, l1, l2⟩ := m_lay (P := fun I6 => FM (x + 62) layS [21] (u2 (u2 (u2 I1 (x + 62) 2 0) (x + 62) 1 (nI NW)) (x + 62) 0 (nI (NW + 1))) I6 ∧ LayI (x + 62) (qw tx len) (qc tx len) (qd tx len) N I6) hM (show NW < 5 by omega) hMW5 (by rw [u2_ne (by omega), u2_eq]) (fun I6 a b _ => ⟨a, b⟩)
  have l1 : FM (x + 62) layS [21] (u2 (u2 (u2 I1 (x + 62) 2 0) (x + 62) 1 (nI NW)) (x + 62) 0 (nI (NW + 1))) I6 := l1
  have hW5 := wlN_le (qw tx len) N
  have fr := m_fresh6 (I := I6) (W := wlN (qw tx len) N) hM hW5 l2.1 (wlN (qw tx len) N) 0 FU (by omega) (FU_lt (by omega))
  rw [cpR_0, zR_0] at fr
  have l6 : ∀ z, z ≠ x + 62 → (z < x + 76 ∨ x + 80 < z) → I6 z = I1 z := fun z a b => by
    have : I6 z = u2 (u2 (u2 I1 (x + 62) 2 0) (x + 62) 1 (nI NW)) (x + 62) 0 (nI (NW + 1)) z := by
      funext k
      refine l1 z k (fun i hi => ?_) (fun e => absurd e a)
      simp only [layS, List.mem_cons, List.not_mem_nil, or_false] at hi
      omega
    rw [this, r5 z a]
  have l62 : ∀ k, k ≠ 21 → I6 (x + 62) k = u2 (u2 (u2 I1 (x + 62) 2 0) (x + 62) 1 (nI NW)) (x + 62) 0 (nI (NW + 1)) (x + 62) k := fun k hk => l1.fld (by simpa using hk) (by decide)
  generalize hI7 : cpR (x + 73) (x + 76) (wlN (qw tx len) N) (zR (x + 74) (wlN (qw tx len) N) I6) = I7 at fr
  have r7 : ∀ z, z ≠ x + 73 → z ≠ x + 74 → I7 z = I6 z := fun z a b => by rw [← hI7, cpR_row a, zR_row b]
  have s2 : I7 (x + 64) = I1 (x + 64) := by rw [r7 _ (by omega) (by omega), l6 _ (by omega) (by omega)]
  have tabs : ∀ z, x + 64 ≤ z → z ≤ x + 70 → I7 z = I1 z := fun z a b => by rw [r7 _ (by omega) (by omega), l6 _ (by omega) (by omega)]
  have tabs5 : ∀ z, x + 64 ≤ z → z ≤ x + 70 → I7 z = u2 (u2 (u2 I1 (x + 62) 2 0) (x + 62) 1 (nI NW)) (x + 62) 0 (nI (NW + 1)) z := fun z a b => by rw [tabs z a b, r5 z (by omega)]
  obtain ⟨w7, c7⟩ := tab_cg (I1 := I7) (tabs5 _ (by omega) (by omega)) (tabs5 _ (by omega) (by omega)) (tabs5 _ (by omega) (by omega)) (tabs5 _ (by omega) (by omega)) (tabs5 _ (by omega) (by omega)) (tabs5 _ (by omega) (by omega)) (tabs5 _ (by omega) (by omega)) NW N _ _ _ _ hMW5 hMC5
  have f7 : ∀ k, I7 (x + 62) k = I6 (x + 62) k := fun k => by rw [r7 _ (by omega) (by omega)]
  refine ⟨I7, ?_, w7, c7, fun k hk => ⟨?_, ?_⟩, by rw [f7, l62 0 (by omega), u2_eq], by rw [f7, l62 1 (by omega), u2_ne (by omega), u2_eq], by rw [f7, l62 2 (by omega), u2_ne (by omega), u2_ne (by omega), u2_eq]; rfl, fun z a b => ?_, fun k k0 k1 k2 k3 k4 k14 k15 k16 k21 => ?_, fun z a b => ?_, fun i N w c d cs hi a b => ?_⟩
  · rw [obs, u2_ne (show 0 ≠ 2 by omega), i0, obs, u2_ne (show 0 ≠ 1 by omega), u2_ne (show 0 ≠ 2 by omega), i0, L1, nI_add, obs]
    unfold f_X12_fresh
    rw [show f_X12_lay K R (x + 62) (u2 (u2 (u2 I1 (x + 62) 2 0) (x + 62) 1 (nI NW)) (x + 62) 0 (nI (NW + 1))) = some I6 from l0, obs, show (0 : Int32) = nI 0 from rfl, fr, obs, f7, l62 1 (by omega), u2_ne (by omega), u2_eq]
  · rw [← hI7, cpR_lt hk, zR_row (by omega)]
    exact (l2.2.1 k hk).1
  · rw [← hI7, cpR_row (by omega), zR_lt hk]
    rfl
  · have w : ∀ j, j ∈ wfE → z ≠ x + j := b
    have y1 : z < x + 64 ∨ x + 71 < z := by
      by_cases c : z < x + 64 ∨ x + 71 < z
      · exact c
      · have : ∀ k, k < 8 → 64 + k ∈ wfE := by decide
        exact absurd (show z = x + (64 + (z - x - 64)) by omega) (w _ (this _ (by omega)))
    have y2 : z < x + 76 ∨ x + 80 < z := by
      by_cases c : z < x + 76 ∨ x + 80 < z
      · exact c
      · have : ∀ k, k < 5 → 76 + k ∈ wfE := by decide
        exact absurd (show z = x + (76 + (z - x - 76)) by omega) (w _ (this _ (by omega)))
    rw [r7 z (w 73 (by decide)) (w 74 (by decide)), l6 z a y2]
    exact b2.1 z a y1
  · rw [f7, l62 k k21, u2_ne k0, u2_ne k1, u2_ne k2]
    exact b2.2.1 k k3 k4 k14 k15 k16
  · rw [r7 z (by omega) (by omega), l6 z (by omega) (by omega)]
    exact b2.1 z (by omega) (by omega)
  · obtain ⟨a1, a2⟩ := b2.tab i N w c d cs hi a b
    exact tab_cg (I := I1) (I1 := I7) (tabs _ (by omega) (by omega)) (tabs _ (by omega) (by omega)) (tabs _ (by omega) (by omega)) (tabs _ (by omega) (by omega)) (tabs _ (by omega) (by omega)) (tabs _ (by omega) (by omega)) (tabs _ (by omega) (by omega)) i N w c d cs a1 a2
end
