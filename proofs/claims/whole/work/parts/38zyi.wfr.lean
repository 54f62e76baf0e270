/-! frames for waste() -/
section
variable {Z : Nat → Nat} {x n n' M M' nr nc NW nr' nc' NW' i i0 q N s dr W : Nat} {K K' : Sh} {I I' I1 : Im} {J : Jm} {R R' : Rf} {w c d le la : Nat → Nat} {cs : Nat → List Nat} {E D : List Nat} {P : List (Nat × Nat)}
theorem okE_dl {rows : List Nat} {flds : List (Nat × Nat)} (h : okE rows flds E P = true) (hs : (rows.all (fun j => decide (j < 110)) && flds.all (fun f => decide (f.1 < 110))) = true) (hD : ∀ e ∈ D, 110 ≤ e) : okE rows flds (D ++ E) P = true := by
  unfold okE at h ⊢
  rw [Bool.and_eq_true, List.all_eq_true, List.all_eq_true] at h hs ⊢
  have ne : ∀ j, j < 110 → E.contains j = false → (D ++ E).contains j = false := fun j hj hc => by
    cases hq : (D ++ E).contains j with
    | false => rfl
    | true =>
      have := List.contains_iff_mem.mp hq
      rcases List.mem_append.mp this with h1 | h1
      · have := hD j h1; omega
      · rw [List.contains_iff_mem.mpr h1] at hc; cases hc
  refine ⟨fun j hj => ?_, fun f hf => ?_⟩
  · have a := h.1 j hj
    have b := hs.1 j hj
    rw [Bool.and_eq_true] at a ⊢
    refine ⟨?_, a.2⟩
    rw [ne j (of_decide_eq_true b) (by have := a.1; revert this; cases E.contains j <;> simp)]
    rfl
  · have a := h.2 f hf
    have b := hs.2 f hf
    rw [Bool.and_eq_true] at a ⊢
    refine ⟨?_, a.2⟩
    rw [ne f.1 (of_decide_eq_true b) (by have := a.1; revert this; cases E.contains f.1 <;> simp)]
    rfl
theorem WasteR.pw (h : WasteR x i q N w c d cs K I R) (hm : MW (x + 62) i N w c d I') (hc : MC (x + 62) i N w cs I') (hd : ∀ z, z = q ∨ z = q + 1 ∨ z = q + 2 ∨ z = q + 3 ∨ R q 8 = some z → I' z = I z ∧ K' z = K z) (hR : R' q = R q) : WasteR x i q N w c d cs K' I' R' := by
  obtain ⟨h1, h2, h3, ⟨d1, d2, d3, d4, d5, d6, d7, d8, d9, dr, d10, d11, d12⟩, h5, h6, h7, h8⟩ := h
  have e0 := hd q (Or.inl rfl)
  have e1 := hd (q + 1) (Or.inr (Or.inl rfl))
  have e2 := hd (q + 2) (Or.inr (Or.inr (Or.inl rfl)))
  have e3 := hd (q + 3) (Or.inr (Or.inr (Or.inr (Or.inl rfl))))
  have e8 := hd dr (Or.inr (Or.inr (Or.inr (Or.inr d10))))
  refine ⟨hm, hc, h3, ⟨?_, by rw [e0.1]; exact d2, d3, fun k hk => by rw [e3.1]; exact d4 k hk, by rw [e0.1]; exact d5, d6, by rw [e0.1]; exact d7, d8, d9, dr, by rw [hR]; exact d10, by rw [e8.2]; exact d11, fun k b j a1 a2 a3 a4 => by rw [e8.1]; exact d12 k b j a1 a2 a3 a4⟩, fun z hz => h5 z (by rw [hR] at hz; exact hz), by rw [e0.1]; exact h6, h7, fun k hk => by rw [e1.1, e2.1]; exact h8 k hk⟩
  unfold S9 at d1 ⊢
  rw [e0.2, e1.2, e2.2, e3.2, hR]
  exact d1
theorem SceneR.pw {aL aT aO aS aH : Nat} {vT vS vH : Int32} (h : SceneR x s nc NW n M vT vS vH aL aT aO aS aH K I R) (hT : ∀ i N w c d cs, i < NW → MW (x + 62) i N w c d I → MC (x + 62) i N w cs I → MW (x + 62) i N w c d I' ∧ MC (x + 62) i N w cs I') (hd : ∀ q, R s 0 = some q → (∀ z, z = q ∨ z = q + 1 ∨ z = q + 2 ∨ z = q + 3 ∨ R q 8 = some z → I' z = I z ∧ K' z = K z) ∧ R' q = R q) (hRs : R' s 0 = R s 0) (e4' : I' s 4 = I s 4) (e6' : I' s 6 = I s 6) (e2 : I' (s + 2) = I (s + 2)) (e3 : I' (s + 3) = I (s + 3)) (e4 : I' (s + 4) = I (s + 4)) (e5 : I' (s + 5) = I (s + 5)) (e6 : I' (s + 6) = I (s + 6)) (e7 : I' (s + 7) = I (s + 7)) (e8 : I' (s + 8) = I (s + 8)) (eL : I' aL = I aL) (eT : I' aT = I aT) (eO : I' aO = I aO) (eS : I' aS = I aS) (eH : I' aH = I aH) (hn : n ≤ n') (hNW : NW ≤ NW') : SceneR x s nc NW' n' M vT vS vH aL aT aO aS aH K' I' R' := by
  obtain ⟨h1, h2, h3, h4⟩ := h
  unfold SceneR
  rw [e4', e6', e6, e7, e8, eO, eS, eH]
  refine ⟨?_, h2, h3, h4⟩
  rcases h1 with ⟨a, b⟩ | ⟨i, q, N, w, c, d, cs, le, la, a1, a2, a3⟩
  · exact Or.inl ⟨a, by rw [hRs]; exact b⟩
  · obtain ⟨b1, b2, b3, b4, b5⟩ := a3
    obtain ⟨d1, d2⟩ := hd q b1
    obtain ⟨t1, t2⟩ := hT i N w c d cs a2 b2.1 b2.2.1
    refine Or.inr ⟨i, q, N, w, c, d, cs, le, la, a1, by omega, by rw [hRs]; exact b1, b2.pw t1 t2 d1 d2, by omega, fun z hz => by rw [d2] at hz; have := b4 z hz; omega, fun k hk => ?_⟩
    rw [e2, e3, e4, e5, eL, eT]
    exact b5 k hk
theorem RulesR.cgk (h : RulesR x nr n K I R) (h6 : ∀ r, r < nr → R' (x + 6) r = R (x + 6) r) (hd : ∀ a, K a = (6, 5) → K (a + 1) = (21, 5) → x + 110 ≤ a → a + 1 < n → I' a = I a ∧ I' (a + 1) = I (a + 1) ∧ R' a = R a ∧ K' a = K a ∧ K' (a + 1) = K (a + 1)) (he : ∀ r, r < nr → I' (x + 81) r = I (x + 81) r ∧ I' (x + 82) r = I (x + 82) r ∧ I' (x + 83) r = I (x + 83) r ∧ ∀ k, k < 5 → I' (x + 84) (5 * r + k) = I (x + 84) (5 * r + k)) (hn : n ≤ n') : RulesR x nr n' K' I' R' := by
  intro r hr
  obtain ⟨a, kd, v, rn, rw, hz⟩ := h r hr
  obtain ⟨d1, d2, d3, d4, d5⟩ := hd a hz.2.1.1.1 hz.2.1.1.2.2 hz.2.1.2.1 hz.2.2.1
  obtain ⟨y1, y2, y3, y4⟩ := he r hr
  exact ⟨a, kd, v, rn, rw, hz.cg (h6 r hr) d3 ⟨d4, d5⟩ d1 d2 y1 y2 y3 y4 hn⟩
theorem GFq.tab (h : GFq x i0 I I1) : ∀ i N w c d cs, i < i0 → MW (x + 62) i N w c d I → MC (x + 62) i N w cs I → MW (x + 62) i N w c d I1 ∧ MC (x + 62) i N w cs I1 := by
  intro i N w c d cs hi hW hC
  obtain ⟨w1, w2, w3, w4⟩ := hW
  have r2 : I1 (x + 62 + 2) i = I (x + 62 + 2) i := h.2.2.1 i (by omega)
  have rr : ∀ z, x + 65 ≤ z → z ≤ x + 69 → ∀ m, m < N → I1 z (12 * i + m) = I z (12 * i + m) := fun z a b m hm => h.2.2.2.1 z a b _ (by omega)
  refine ⟨⟨by rw [r2]; exact w1, w2, w3, fun m hm => ?_⟩, fun m hm hw => ?_⟩
  · rw [rr (x + 62 + 3) (by omega) (by omega) m hm, rr (x + 62 + 4) (by omega) (by omega) m hm, rr (x + 62 + 5) (by omega) (by omega) m hm]
    exact w4 m hm
  · obtain ⟨fr, a1, a2, a3, a4, a5, a6⟩ := hC m hm hw
    refine ⟨fr, by rw [rr (x + 62 + 6) (by omega) (by omega) m hm]; exact a1, by rw [rr (x + 62 + 7) (by omega) (by omega) m hm]; exact a2, a3, a4, fun j v hj => ?_, a6⟩
    have lt := (List.getElem?_eq_some_iff.mp hj).1
    rw [show I1 (x + 62 + 8) (fr + j) = I (x + 62 + 8) (fr + j) from h.2.2.2.2 _ (by omega)]
    exact a5 j v hj
theorem tab_cg (h2 : I1 (x + 64) = I (x + 64)) (h3 : I1 (x + 65) = I (x + 65)) (h4 : I1 (x + 66) = I (x + 66)) (h5 : I1 (x + 67) = I (x + 67)) (h6 : I1 (x + 68) = I (x + 68)) (h7 : I1 (x + 69) = I (x + 69)) (h8 : I1 (x + 70) = I (x + 70)) : ∀ i N w c d cs, MW (x + 62) i N w c d I → MC (x + 62) i N w cs I → MW (x + 62) i N w c d I1 ∧ MC (x + 62) i N w cs I1 := by
  intro i N w c d cs hW hC
  refine ⟨hW.congr h2 h3 h4 h5, ?_⟩
  unfold MC
  rw [show I1 (x + 62 + 6) = I (x + 62 + 6) from h6, show I1 (x + 62 + 7) = I (x + 62 + 7) from h7, show I1 (x + 62 + 8) = I (x + 62 + 8) from h8]
  exact hC
/-- the wells now: as the ways begin -/
theorem m_fresh6 (hM : S12 (x + 62) K R) (hW : W ≤ 5) (h21 : I (x + 62) 21 = nI W) : ∀ (r k f : Nat), k + r = W → r < f → f_X12_fresh_6 K R (x + 62) f (nI k) (cpR (x + 73) (x + 76) k (zR (x + 74) k I)) = some (cpR (x + 73) (x + 76) W (zR (x + 74) W I)) := by
  intro r
  induction r with
  | zero =>
    intro k f e1 e2
    obtain ⟨f, rfl⟩ : ∃ f', f = f' + 1 := ⟨f - 1, by omega⟩
    have : k = W := by omega
    subst this
    unfold f_X12_fresh_6
    rw [cpR_row (by omega), zR_row (by omega), h21, if_pos (Int32.le_refl _)]
  | succ r ih =>
    intro k f e1 e2
    obtain ⟨f, rfl⟩ : ∃ f', f = f' + 1 := ⟨f - 1, by omega⟩
    unfold f_X12_fresh_6
    rw [cpR_row (z := x + 62) (by omega), zR_row (z := x + 62) (by omega), h21, if_neg (by rw [nI_leI (by omega) (by omega)]; omega), l12_22 hM (by omega), obs, s12_18 hM (by omega), obs, s12_19 hM (by omega), obs, L1, nI_add]
    have e : u2 (u2 (cpR (x + 73) (x + 76) k (zR (x + 74) k I)) (x + 62 + 11) k (cpR (x + 73) (x + 76) k (zR (x + 74) k I) (x + 62 + 14) k)) (x + 62 + 12) k 0 = cpR (x + 73) (x + 76) (k + 1) (zR (x + 74) (k + 1) I) := by
      have e1 : cpR (x + 73) (x + 76) k (zR (x + 74) k I) (x + 62 + 14) k = zR (x + 74) k I (x + 76) k := by rw [cpR_row (by omega)]
      rw [e1]
      have e2 : u2 (cpR (x + 73) (x + 76) k (zR (x + 74) k I)) (x + 62 + 11) k (zR (x + 74) k I (x + 76) k) = cpR (x + 73) (x + 76) (k + 1) (zR (x + 74) k I) := cpR_st
      rw [e2, cpR_cm (by omega) (by omega)]
      have e3 : u2 (zR (x + 74) k I) (x + 62 + 12) k 0 = zR (x + 74) (k + 1) I := zR_st
      rw [e3]
    rw [e]
    exact ih (k + 1) f (by omega) (by omega)
end
