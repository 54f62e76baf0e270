/-! NEW THINGS IN THE HEAP: rows, rules, caravans -/
section
variable {Z : Nat → Nat} {x n n' M M' nr nc NW nr' nc' NW' i q N u v o s : Nat} {K K' : Sh} {I I' I1 : Im} {J : Jm} {R R' : Rf} {w c d le la : Nat → Nat} {cs : Nat → List Nat} {E : List Nat} {P : List (Nat × Nat)}
theorem okE_dyn {rows : List Nat} {flds : List (Nat × Nat)} {e1 e2 : Nat} (h : okE rows flds E P = true) (hs : (rows.all (fun j => decide (j < 110)) && flds.all (fun f => decide (f.1 < 110))) = true) (h1 : 110 ≤ e1) (h2 : 110 ≤ e2) : okE rows flds (e1 :: e2 :: E) P = true := by
  unfold okE at h ⊢
  rw [Bool.and_eq_true, List.all_eq_true, List.all_eq_true] at h hs ⊢
  have ne : ∀ j, j < 110 → E.contains j = false → (e1 :: e2 :: E).contains j = false := fun j hj hc => by
    rw [List.contains_cons, List.contains_cons, hc, Bool.or_false, Bool.or_eq_false_iff]
    exact ⟨by simp; omega, by simp; omega⟩
  refine ⟨fun j hj => ?_, fun f hf => ?_⟩
  · have a := h.1 j hj
    have b := hs.1 j hj
    rw [Bool.and_eq_true] at a ⊢
    refine ⟨?_, a.2⟩
    rw [ne j (of_decide_eq_true b) (by have := a.1; revert this; cases E.contains j <;> simp)]
    rfl
  · have a := h.2 f hf
    have b := hs.2 f hf
    rw [Bool.and_eq_true] at a ⊢
    refine ⟨?_, a.2⟩
    rw [ne f.1 (of_decide_eq_true b) (by have := a.1; revert this; cases E.contains f.1 <;> simp)]
    rfl
theorem af_z (h : AF x E P I I') {j : Nat} (hj : j ∈ E) : AF x E P I (zr I' (x + j) 0) := by
  refine ⟨fun z z1 z2 => ?_, fun j' k h1 h2 => ?_⟩
  · rw [zr_row (z1 j hj)]; exact h.1 z z1 z2
  · rw [zr_row (fun e => h1 (by rw [show j' = j by omega]; exact hj))]; exact h.2 j' k h1 h2
theorem NowS.af2 (h : NowS x nc NW n M K I R) (hF : AF x E P I I') (ho : okE nowRows nowFlds E P = true) (hd : ∀ q, R (x + 8) 0 = some q → (∀ z, z = q ∨ z = q + 1 ∨ z = q + 2 ∨ z = q + 3 ∨ R q 8 = some z → I' z = I z) ∧ R' q = R q) (h8 : R' (x + 8) 0 = R (x + 8) 0) (hn : n ≤ n') (hM : M ≤ M') (hnc : nc ≤ nc') (hNW : NW ≤ NW') : NowS x nc' NW' n' M' K I' R' := by
  unfold NowS at h ⊢
  rw [okE_f ho hF (j := 62) (k := 1) (by decide), okE_f ho hF (j := 62) (k := 51) (by decide), okE_f ho hF (j := 62) (k := 29) (by decide)]
  have r : ∀ j ∈ nowRows, I' (x + j) = I (x + j) := fun j hj => okE_r ho hF hj
  exact h.cg ⟨r 64 (by decide), r 65 (by decide), r 66 (by decide), r 67 (by decide), r 68 (by decide), r 69 (by decide), r 70 (by decide)⟩ hd h8 (okE_f ho hF (j := 8) (k := 4) (by decide)) (okE_f ho hF (j := 8) (k := 6) (by decide)) (r 10 (by decide)) (r 11 (by decide)) (r 12 (by decide)) (r 13 (by decide)) (r 14 (by decide)) (r 15 (by decide)) (r 16 (by decide)) (r 73 (by decide)) (r 74 (by decide)) (r 75 (by decide)) (r 96 (by decide)) (r 88 (by decide)) hn hM hnc hNW
theorem KeptS.af2 (h : KeptS x nc NW n M K I R) (hF : AF x E P I I') (ho : okE keptRows keptFlds E P = true) (hd : ∀ q, R (x + 17) 0 = some q → (∀ z, z = q ∨ z = q + 1 ∨ z = q + 2 ∨ z = q + 3 ∨ R q 8 = some z → I' z = I z) ∧ R' q = R q) (h8 : R' (x + 17) 0 = R (x + 17) 0) (hn : n ≤ n') (hM : M ≤ M') (hnc : nc ≤ nc') (hNW : NW ≤ NW') : KeptS x nc' NW' n' M' K I' R' := by
  unfold KeptS at h ⊢
  rw [okE_f ho hF (j := 62) (k := 59) (by decide), okE_f ho hF (j := 62) (k := 60) (by decide), okE_f ho hF (j := 62) (k := 61) (by decide)]
  have r : ∀ j ∈ keptRows, I' (x + j) = I (x + j) := fun j hj => okE_r ho hF hj
  exact h.cg ⟨r 64 (by decide), r 65 (by decide), r 66 (by decide), r 67 (by decide), r 68 (by decide), r 69 (by decide), r 70 (by decide)⟩ hd h8 (okE_f ho hF (j := 17) (k := 4) (by decide)) (okE_f ho hF (j := 17) (k := 6) (by decide)) (r 19 (by decide)) (r 20 (by decide)) (r 21 (by decide)) (r 22 (by decide)) (r 23 (by decide)) (r 24 (by decide)) (r 25 (by decide)) (r 100 (by decide)) (r 101 (by decide)) (r 102 (by decide)) (r 103 (by decide)) (r 104 (by decide)) hn hM hnc hNW
theorem SceneR.kn {aL aT aO aS aH : Nat} {vT vS vH : Int32} (h : SceneR x s nc NW n M vT vS vH aL aT aO aS aH K I R) (hK : ∀ z, z < n → K' z = K z) : SceneR x s nc NW n M vT vS vH aL aT aO aS aH K' I R := by
  obtain ⟨h1, h2⟩ := h
  refine ⟨?_, h2⟩
  rcases h1 with a | ⟨i, q, N, w, c, d, cs, le, la, a1, a2, a3⟩
  · exact Or.inl a
  · obtain ⟨b1, b2, b3, b4, b5⟩ := a3
    refine Or.inr ⟨i, q, N, w, c, d, cs, le, la, a1, a2, b1, ?_, b3, b4, b5⟩
    obtain ⟨c1, c2, c3, ⟨d1, d2, d3, d4, d5, d6, d7, d8, d9, dr, d10, d11, d12⟩, c5⟩ := b2
    have := b4 dr d10
    refine ⟨c1, c2, c3, ⟨?_, d2, d3, d4, d5, d6, d7, d8, d9, dr, d10, by rw [hK _ this]; exact d11, d12⟩, c5⟩
    unfold S9 at d1 ⊢
    rw [hK q (by omega), hK (q + 1) (by omega), hK (q + 2) (by omega), hK (q + 3) (by omega)]
    exact d1
theorem SceneR.ne_rule {a aL aT aO aS aH : Nat} {vT vS vH : Int32} (h : SceneR x s nc NW n M vT vS vH aL aT aO aS aH K I R) (k1 : K a = (6, 5)) (k2 : K (a + 1) = (21, 5)) : ∀ q, R s 0 = some q → ∀ z, z = q ∨ z = q + 1 ∨ z = q + 2 ∨ z = q + 3 ∨ R q 8 = some z → z ≠ a ∧ z ≠ a + 1 := by
  intro q hq z hz
  obtain ⟨h1, -⟩ := h
  rcases h1 with ⟨-, b⟩ | ⟨i, q', N, w, c, d, cs, le, la, a1, a2, a3⟩
  · rw [b] at hq; cases hq
  · obtain ⟨b1, b2, b3, b4, b5⟩ := a3
    have : q = q' := by rw [b1] at hq; exact (Option.some.inj hq).symm
    subst this
    obtain ⟨c1, c2, c3, ⟨⟨e1, ⟨-, e2⟩, ⟨-, e3⟩, ⟨-, e4⟩⟩, d2, d3, d4, d5, d6, d7, d8, d9, dr, d10, d11, d12⟩, c5⟩ := b2
    have ne : ∀ {p r : Nat}, K p ≠ K r → p ≠ r := fun hh e => hh (by rw [e])
    have f1 : q ≠ a := ne (by rw [e1, k1]; decide)
    have f2 : q + 1 ≠ a := ne (by rw [e2, k1]; decide)
    have f3 : q + 2 ≠ a := ne (by rw [e3, k1]; decide)
    have f4 : q + 3 ≠ a := ne (by rw [e4, k1]; decide)
    have f5 : q ≠ a + 1 := ne (by rw [e1, k2]; decide)
    have f6 : q + 3 ≠ a + 1 := ne (by rw [e4, k2]; decide)
    have f7 : dr ≠ a := ne (by rw [d11, k1]; decide)
    have f8 : dr ≠ a + 1 := ne (by rw [d11, k2]; decide)
    rcases hz with hz | hz | hz | hz | hz
    · omega
    · omega
    · omega
    · omega
    · rw [d10] at hz
      have := Option.some.inj hz
      omega
theorem CarsR.cg (h : CarsR x nr nc n K I R) (h7 : ∀ k, k < nc → R' (x + 7) k = R (x + 7) k) (h6 : ∀ r, r < nr → R' (x + 6) r = R (x + 6) r) (hd : ∀ a, K a = (2, 3) → x + 110 ≤ a → a < n → I' a = I a ∧ R' a = R a ∧ K' a = K a) (he : ∀ k, k < nc → I' (x + 85) k = I (x + 85) k ∧ I' (x + 86) k = I (x + 86) k ∧ I' (x + 87) k = I (x + 87) k) (hn : n ≤ n') (hnr : nr ≤ nr') : CarsR x nr' nc n' K' I' R' := by
  intro k hk
  obtain ⟨a, b, st, r, ra, hz⟩ := h k hk
  obtain ⟨d1, d2, d3⟩ := hd a hz.2.1 hz.2.2.1 hz.2.2.2.1
  obtain ⟨y1, y2, y3⟩ := he k hk
  exact ⟨a, b, st, r, ra, hz.cg (h7 k hk) h6 d2 d3 d1 y1 y2 y3 hn hnr⟩
theorem RulesR.cg (h : RulesR x nr n K I R) (h6 : ∀ r, r < nr → R' (x + 6) r = R (x + 6) r) (hd : ∀ a, x + 110 ≤ a → a + 1 < n → I' a = I a ∧ I' (a + 1) = I (a + 1) ∧ R' a = R a ∧ K' a = K a ∧ K' (a + 1) = K (a + 1)) (he : ∀ r, r < nr → I' (x + 81) r = I (x + 81) r ∧ I' (x + 82) r = I (x + 82) r ∧ I' (x + 83) r = I (x + 83) r ∧ ∀ k, k < 5 → I' (x + 84) (5 * r + k) = I (x + 84) (5 * r + k)) (hn : n ≤ n') : RulesR x nr n' K' I' R' := by
  intro r hr
  obtain ⟨a, kd, v, rn, rw, hz⟩ := h r hr
  obtain ⟨d1, d2, d3, d4, d5⟩ := hd a hz.2.1.2.1 hz.2.2.1
  obtain ⟨y1, y2, y3, y4⟩ := he r hr
  exact ⟨a, kd, v, rn, rw, hz.cg (h6 r hr) d3 ⟨d4, d5⟩ d1 d2 y1 y2 y3 y4 hn⟩
theorem UnreadR.nn (h : UnreadR x n K R) (hn : n ≤ n') (hK : ∀ z, z < n → K' z = K z) (h2 : R' x 2 = R x 2) (h8 : R' (x + 8) 0 = R (x + 8) 0) (h17 : R' (x + 17) 0 = R (x + 17) 0) (hd : ∀ z, x + 110 ≤ z → z < n → R' z = R z) (hs : ∀ q, R (x + 8) 0 = some q ∨ R (x + 17) 0 = some q → x + 110 ≤ q ∧ q < n) : UnreadR x n' K' R' := by
  unfold UnreadR at h ⊢
  rw [h2, h8, h17]
  rcases h with h | ⟨q, h1, h2, h3, h4, h5, h6, h7⟩
  · exact Or.inl h
  · refine Or.inr ⟨q, h1, ?_, h3, by omega, h5, h6, ?_⟩
    · unfold S9 at h2 ⊢
      rw [hd q h3 (by omega), hK q (by omega), hK (q + 1) (by omega), hK (q + 2) (by omega), hK (q + 3) (by omega)]
      exact h2
    · rw [hd q h3 (by omega)]
      rcases h7 with h7 | ⟨dr, g1, g2, g3, g4, g5⟩
      · exact Or.inl h7
      · exact Or.inr ⟨dr, g1, by rw [hK _ g4]; exact g2, g3, by omega, fun q' hq => by rw [hd q' (hs q' hq).1 (hs q' hq).2]; exact g5 q' hq⟩
theorem wqs (hn : NowS x nc NW n M K I R) (hk : KeptS x nc NW n M K I R) : ∀ q, R (x + 8) 0 = some q ∨ R (x + 17) 0 = some q → x + 110 ≤ q ∧ q < n := by
  intro q hq
  rcases hq with hq | hq
  · have := SceneR.wq hn hq; exact ⟨this.1, by omega⟩
  · have := SceneR.wq hk hq; exact ⟨this.1, by omega⟩
theorem k_row (h : Rel Z x n M K I J R) (v1 v2 : Int32) : ∃ r I1 I2, f_X11_row K R x v1 v2 I = some (r, I1) ∧ f_X12_row K R (x + 62) v1 v2 I1 = some (r, I2) ∧ Rel Z x n M K I2 J R := by
  have h0 := h
  obtain ⟨hC, hS, hn, hMb, hZ, nr, nc, NW, hG⟩ := h
  have hG0 := hG
  obtain ⟨hnum, hru, hca, hnow, hkept, himg, hact, htap, htex, hunr⟩ := RelG_iff.mp hG
  have e1' : ¬ (nI 1 = 0) := by decide
  have e0' : nI 0 = 0 := rfl
  have S11 := cS11 hC
  have S12' : S12 (x + 62) K R := hS
  unfold f_X11_row f_X12_row
  rcases rule_at hC hG0 v1 with ⟨r, a, kd, vv, rn, rw_, q1, q2, q3, q4, q5⟩ | ⟨q4, q5⟩
  · have hnr := hnum.1
    obtain ⟨r1, ⟨s1, s2, s3, s4, s5, s6, s7⟩, r3, r4, r5, r6, r7, r8, r9, r10, r11⟩ := q3
    have k1 : K a = (6, 5) := s1.1
    have k2 : K (a + 1) = (21, 5) := s1.2.2
    have oa : ob K 6 (some a) = some a := ob_ok (by rw [k1])
    rcases rg v2 0 6 (by omega) (by omega) with ⟨m, p1, p2, p3, p4, p5⟩ | ⟨p4, p5, -⟩
    · have p4 : f_X11_within v2 0 6 = some (nI 1) := p4
      have p5 : ∀ o, f_X12_in o v2 0 6 = some (nI 1) := p5
      by_cases c3 : kd = 3
      · by_cases c5 : rn = 5
        · refine ⟨-4, I, I, ?_, ?_, h0⟩
          · rw [q4, obs, if_neg (by simp), p4, obs, if_neg e1', oa, obs, s3, if_pos (by rw [c3]; rfl), r5, if_neg (show ¬ nI rn < 5 by rw [L5, nI_ltI (by omega) (by omega)]; omega)]
          · rw [q5, obs, if_neg e1', p5, obs, if_neg e1', q1, l12_30 S12' (by omega), obs, r8, if_pos (by rw [c3]; rfl), l12_32 S12' (by omega), obs, r10, if_pos (by rw [c5]; rfl)]
        · have ea : x + (a - x) = a := by omega
          have ea1 : x + (a + 1 - x) = a + 1 := by omega
          have F1 : AF x ((a - x) :: (a + 1 - x) :: [83, 84]) [] I (u2 (u2 I (a + 1) rn (nI m)) a 4 (nI (rn + 1))) := by
            have := (AF.refl (x := x) (I := I) (P := []).st (j := a + 1 - x) (E := (a - x) :: (a + 1 - x) :: [83, 84]) (k := rn) (v := nI m) (by simp)).st (j := a - x) (k := 4) (v := nI (rn + 1)) (by simp)
            rw [ea, ea1] at this
            exact this
          have F : AF x ((a - x) :: (a + 1 - x) :: [83, 84]) [] I (u2 (u2 (u2 (u2 I (a + 1) rn (nI m)) a 4 (nI (rn + 1))) (x + 84) (5 * r + rn) (nI m)) (x + 83) r (nI (rn + 1))) := (F1.st (by simp)).st (by simp)
          generalize hI1 : u2 (u2 I (a + 1) rn (nI m)) a 4 (nI (rn + 1)) = I1 at F F1
          generalize hI2 : u2 (u2 I1 (x + 84) (5 * r + rn) (nI m)) (x + 83) r (nI (rn + 1)) = I2 at F
          have lo : ∀ z, z < x + 110 → I1 z = I z := fun z hz => by rw [← hI1, u2_row (by omega), u2_row (by omega)]
          have hz2 : ∀ z, z ≠ a → z ≠ a + 1 → x + 110 ≤ z → I2 z = I z := fun z z1 z2 z3 => by rw [← hI2, u2_row (by omega), u2_row (by omega), ← hI1, u2_row z1, u2_row z2]
          have ok : ∀ {rows flds}, okE rows flds [83, 84] [] = true → (rows.all (fun j => decide (j < 110)) && flds.all (fun f => decide (f.1 < 110))) = true → okE rows flds ((a - x) :: (a + 1 - x) :: [83, 84]) [] = true := fun a b => okE_dyn a b (by omega) (by omega)
          have A0 : I2 a = I1 a := by rw [← hI2, u2_row (by omega), u2_row (by omega)]
          have A1 : I2 (a + 1) = I1 (a + 1) := by rw [← hI2, u2_row (by omega), u2_row (by omega)]
          have a0 : ∀ k, k ≠ 4 → I2 a k = I a k := fun k hk => by rw [A0, ← hI1, u2_ne hk, u2_row (by omega)]
          refine ⟨nI (rn + 1), I1, I2, ?_, ?_, hC, hS, hn, hMb, hZ.af F, nr, nc, NW, RelG_iff.mpr ⟨hnum.af F (ok (by decide) (by decide)), fun r' hr' => ?_, hca.cg (fun _ _ => rfl) (fun _ _ => rfl) (fun c kc c1 c2 => ⟨hz2 c (fun e => by rw [e, k1] at kc; exact absurd kc (by decide)) (fun e => by rw [e, k2] at kc; exact absurd kc (by decide)) c1, rfl, rfl⟩) (fun k hk => by rw [okE_r (rows := [85, 86, 87]) (flds := []) (ok (by decide) (by decide)) F (j := 85) (by decide), okE_r (rows := [85, 86, 87]) (flds := []) (ok (by decide) (by decide)) F (j := 86) (by decide), okE_r (rows := [85, 86, 87]) (flds := []) (ok (by decide) (by decide)) F (j := 87) (by decide)]; exact ⟨rfl, rfl, rfl⟩) (Nat.le_refl _) (Nat.le_refl _), hnow.af2 F (ok (by decide) (by decide)) (fun q hq => ⟨fun z hz => ?_, rfl⟩) rfl (Nat.le_refl _) (Nat.le_refl _) (Nat.le_refl _) (Nat.le_refl _), hkept.af2 F (ok (by decide) (by decide)) (fun q hq => ⟨fun z hz => ?_, rfl⟩) rfl (Nat.le_refl _) (Nat.le_refl _) (Nat.le_refl _) (Nat.le_refl _), himg.af F (ok (by decide) (by decide)), hact.af F (ok (by decide) (by decide)), htap.af F (ok (by decide) (by decide)), htex.af F (ok (by decide) (by decide)), hunr⟩⟩
          · rw [q4, obs, if_neg (by simp), p4, obs, if_neg e1', oa, obs, s3, if_pos (by rw [c3]; rfl), r5, if_pos (show nI rn < 5 by rw [L5, nI_ltI (by omega) (by omega)]; omega), p1, s5_3 s1 (by omega), obs, obs, show u2 I (a + 1) rn (nI m) a 4 = nI rn by rw [u2_row (by omega)]; exact r5, L1, nI_add, u2_eq, hI1]
          · have q5' : f_X12_isRule K I1 (x + 62) v1 = some (nI 1) := by
              rw [← q5]
              unfold f_X12_isRule
              rw [lo _ (by omega)]
            rw [q5', obs, if_neg e1', p5, obs, if_neg e1', q1, l12_30 S12' (by omega), obs, lo (x + 62 + 19) (by omega), r8, if_pos (by rw [c3]; rfl), l12_32 S12' (by omega), obs, lo (x + 62 + 21) (by omega), r10, if_neg (show ¬ nI rn = 5 by rw [L5, nI_eq (by omega) (by omega)]; omega), obs, p1, L5, pk_mul, nI_add, s12_33 S12' (by omega), obs, l12_32 S12' (by omega), obs, u2_row (show x + 62 + 21 ≠ x + 62 + 22 by omega), lo (x + 62 + 21) (by omega), r10, L1, nI_add, s12_32 S12' (by omega), obs, l12_32 S12' (by omega), obs, u2_eq]
            rw [← hI2]
          · by_cases cr : r' = r
            · subst cr
              refine ⟨a, kd, vv, rn + 1, fun k => if k = rn then m else rw_ k, r1, ⟨s1, s2, by rw [a0 0 (by omega)]; exact s3, by rw [a0 2 (by omega)]; exact s4, s5, s6, fun k hk => ?_⟩, r3, by rw [a0 1 (by omega)]; exact r4, by rw [A0, ← hI1, u2_eq], by omega, fun k => ?_, ?_, ?_, ?_, fun k hk => ?_⟩
              · rw [A1, ← hI1, u2_row (by omega)]
                dsimp only
                by_cases ck : k = rn
                · subst ck; rw [u2_eq, if_pos rfl]
                · rw [u2_ne ck, if_neg ck]; exact s7 k hk
              · dsimp only
                have := r7 k
                by_cases ck : k = rn
                · rw [if_pos ck]; exact ⟨p3, fun _ => by omega⟩
                · rw [if_neg ck]; exact ⟨this.1, fun _ => this.2 (by omega)⟩
              · rw [okE_r (rows := [81, 82]) (flds := []) (ok (by decide) (by decide)) F (j := 81) (by decide)]; exact r8
              · rw [okE_r (rows := [81, 82]) (flds := []) (ok (by decide) (by decide)) F (j := 82) (by decide)]; exact r9
              · rw [← hI2, u2_eq]
              · rw [← hI2, u2_row (by omega)]
                dsimp only
                by_cases ck : k = rn
                · subst ck; rw [u2_eq, if_pos rfl]
                · rw [u2_ne (by omega), if_neg ck, lo _ (by omega)]; exact r11 k (by omega)
            · obtain ⟨a', kd', v', rn', rw', hz⟩ := hru r' hr'
              have n1 : a' ≠ a := fun e => by
                have y := hz.2.2.2.1
                rw [e, r4, nI_eq (by omega) (by omega)] at y
                omega
              have n2 : a' + 1 ≠ a := fun e => by
                have y := hz.2.1.1.2.2
                rw [e, k1] at y
                exact absurd y (by decide)
              have n3 : a' ≠ a + 1 := fun e => by
                have y := hz.2.1.1.1
                rw [e, k2] at y
                exact absurd y (by decide)
              have b1 := hz.2.1.2.1
              refine ⟨a', kd', v', rn', rw', hz.cg rfl rfl ⟨rfl, rfl⟩ (hz2 a' n1 n3 b1) (hz2 (a' + 1) n2 (by omega) (by omega)) ?_ ?_ ?_ (fun k hk => ?_) (Nat.le_refl _)⟩
              · rw [okE_r (rows := [81, 82]) (flds := []) (ok (by decide) (by decide)) F (j := 81) (by decide)]
              · rw [okE_r (rows := [81, 82]) (flds := []) (ok (by decide) (by decide)) F (j := 82) (by decide)]
              · rw [← hI2, u2_ne cr, u2_row (by omega), lo _ (by omega)]
              · rw [← hI2, u2_row (by omega), u2_ne (by omega), lo _ (by omega)]
          · obtain ⟨y1, y2⟩ := SceneR.ne_rule hnow k1 k2 q hq z hz
            have b := SceneR.wq hnow hq
            exact hz2 z y1 y2 (by
              rcases hz with hz | hz | hz | hz | hz
              · omega
              · omega
              · omega
              · omega
              · exact (b.2.2.2 z hz).2)
          · obtain ⟨y1, y2⟩ := SceneR.ne_rule hkept k1 k2 q hq z hz
            have b := SceneR.wq hkept hq
            exact hz2 z y1 y2 (by
              rcases hz with hz | hz | hz | hz | hz
              · omega
              · omega
              · omega
              · omega
              · exact (b.2.2.2 z hz).2)
      · refine ⟨-3, I, I, ?_, ?_, h0⟩
        · rw [q4, obs, if_neg (by simp), p4, obs, if_neg e1', oa, obs, s3, if_neg (show ¬ nI kd = 3 by rw [L3, nI_eq (by omega) (by omega)]; exact c3)]
        · rw [q5, obs, if_neg e1', p5, obs, if_neg e1', q1, l12_30 S12' (by omega), obs, r8, if_neg (show ¬ nI kd = 3 by rw [L3, nI_eq (by omega) (by omega)]; exact c3)]
    · have p4 : f_X11_within v2 0 6 = some (nI 0) := p4
      have p5 : ∀ o, f_X12_in o v2 0 6 = some (nI 0) := p5
      refine ⟨-2, I, I, ?_, ?_, h0⟩
      · rw [q4, obs, if_neg (by simp), p4, obs, if_pos e0']
      · rw [q5, obs, if_neg e1', p5, obs, if_pos e0']
  · refine ⟨-1, I, I, ?_, ?_, h0⟩
    · rw [q4, obs, if_pos rfl]
    · rw [q5, obs, if_pos e0']
end
