theorem CSH.u {x : Nat} {K : Sh} {R : Rf} (h : CSH x K R) {i k : Nat} {v : Option Nat} (hz : rC (100 * i + k) = 0) : CSH x K (u2 R (x + i) k v) := by
  refine ⟨h.1, fun i' k' hk' hr => ?_⟩
  simp only [u2]
  rw [if_neg]
  · exact h.2 i' k' hk' hr
  · rintro ⟨e1, e2⟩
    have : i' = i := by omega
    subst this e2
    exact hr hz
theorem CSH.o {x : Nat} {K : Sh} {R R' : Rf} (h : CSH x K R) (hR : ∀ z, x ≤ z → z < x + 62 → R' z = R z) : CSH x K R' := by
  refine ⟨h.1, fun i k hk hr => ?_⟩
  by_cases c : i < 62
  · rw [hR _ (by omega) (by omega)]
    exact h.2 i k hk hr
  · exfalso
    apply hr
    have : ∀ n, 6200 ≤ n → rC n = 0 := fun n hn => by
      unfold rC
      split <;> first | omega | rfl
    exact this _ (by omega)
def RuleC (x ro : Nat) (K : Sh) (I : Im) (R : Rf) (kd v : Nat) (rwr : Nat → Nat) : Prop := S5 ro K R ∧ x + 110 ≤ ro ∧ I ro 0 = nI kd ∧ I ro 2 = nI v ∧ kd ≤ 6 ∧ v ≤ 6 ∧ ∀ k, k < 5 → I (ro + 1) k = nI (rwr k)
section
variable {x q u a ro b start sdw cy W M kd v : Nat} {K : Sh} {R : Rf} {I : Im} {hr fu gi le la rwr rw : Nat → Nat} {d1 : Nat → Nat → Nat → Nat}
theorem c_send {P : Im × Rf → Prop} (hC : CSH x K R) (hu : u = x + 9 ∨ u = x + 39) (hV : WV q K I R W hr cy sdw d1) (hqo : q = x + 44 ∨ x + 110 ≤ q) (hdo : ∀ z, R q 8 = some z → x + 110 ≤ z) (hao : a = x + 48 ∨ x + 110 ≤ a) (ha : (K a).1 = 2) (ha0 : I a 0 = nI b) (ha1 : I a 1 = nI start) (ha2 : R a 2 = some ro) (hRu : RuleC x ro K I R kd v rwr) (hb1 : 1 ≤ b) (hb9 : b ≤ 9) (hwl : WlF u W M I fu gi le la) (hM : M ≤ 800000) (hst : start ≤ M) (hrw : ∀ k, rw k ≤ 6) (h3 : kd = 3 → ∀ k, k < 5 → rw k = rwr k) (h5 : kd = 5 → ∃ t, bsT (peC la hr fu gi le d1 b sdw cy) W start t ∧ ∀ j, rw j = bsR (peC la hr fu gi le d1 b sdw cy) W start t j)
    (kk : ∀ I1 R1, (∀ z, z < x + 29 ∨ x + 37 ≤ z → z ≠ u + 3 → z ≠ u + 4 → I1 z = I z) → (∀ z, z ≠ x + 32 → R1 z = R z) → CSH x K R1 → TripC (x + 29) u W I1 (trN (fun k h => wayD (fun j => b * d1 b k j) h (hr k)) hr (b * sdw) (b * cy) kd v rw fu gi W 6 0 start (b * cy) le la (fun _ => none) (fun _ => none)) → P (I1, R1)) :
    Ok (f_X11_send K x (some q) (some u) (some a) I R) P := by
  obtain ⟨hS5, hro, hk0, hk2, hk6, hv6, hrr⟩ := hRu
  have hS11 := cS11 hC
  have o2 : ob K 2 (some a) = some a := ob_ok ha
  have o6 : ob K 6 (R a 2) = some ro := by rw [ha2]; exact ob5 hS5
  have hS8 := cS8 hC
  have hS10 : S10 u K R := by
    rcases hu with rfl | rfl
    · exact cS10n hC
    · exact cS10t hC
  have hut : ∀ i, i < 5 → u + i ≠ x + 29 ∧ u + i ≠ x + 29 + 1 ∧ u + i ≠ x + 29 + 2 := fun i hi => by omega
  have hqTD : ∀ R', R' q = R q → ∀ z, WVcells q R' z → TD (x + 29) u z := fun R' hR' z hz => by
    unfold TD
    rcases hz with rfl | rfl | hz
    · omega
    · omega
    · rw [hR'] at hz
      have := hdo z hz
      omega
  have haTD : TD (x + 29) u a := by unfold TD; omega
  have o9 : ob K 9 (R x 12) = some (x + 29) := o11_12 hS11
  have mk : ∀ (I0 : Im) (R0 : Rf) (x4 : Option Nat), (∀ z, z ≠ x + 32 → R0 z = R z) → CSH x K R0 → WV q K I0 R0 W hr cy sdw d1 → WlF u W M I0 fu gi le la → I0 a 0 = nI b → I0 a 1 = nI start → StC K I0 R0 kd v rw (R0 a 2) x4 → (∀ z, (x4 = none ∧ R0 a 2 = some z) ∨ x4 = some z → TD (x + 29) u z) → (∀ z, z < x + 29 ∨ x + 37 ≤ z → I0 z = I z) → Ok (f_X11_send_64 K x (some q) (some u) (some a) x4 I0 R0) P := by
    intro I0 R0 x4 g1 g2 g3 g4 g5 g6 g7 g8 g9
    have o9' : ob K 9 (R0 x 12) = some (x + 29) := o11_12 (cS11 g2)
    have hS10' : S10 u K R0 := hS10.congr (g1 u (by omega))
    unfold f_X11_send_64
    rw [o9', obs]
    refine Ok.bind (c_make (P := fun I1 => P (I1, R0)) (cS8 g2) hS10' hM hut (hqTD R0 (g1 q (by omega))) ha haTD rfl hb1 hb9 g8 hrw hv6 g3 g7 g5 g6 hst g4 (fun I1 k1 k2 => kk I1 R0 (fun z z1 z2 z3 => (k1 z ⟨by omega, by omega, by omega, z2, z3⟩).trans (g9 z z1)) g1 g2 k2)) (fun I1 h => Ok.ret h)
  unfold f_X11_send
  rw [o2, obs, o6, obs, hk0]
  by_cases c3 : kd = 3
  · rw [if_pos (show nI kd = 3 by rw [c3]; rfl), r5_3 hS5]
    refine mk I R (some (ro + 1)) (fun _ _ => rfl) hC hV hwl ha0 ha1 (Or.inr ⟨ro + 1, rfl, k5_3 hS5, fun k hk => by rw [h3 c3 k hk]; exact hrr k hk, Or.inl c3⟩) (fun z hz => ?_) (fun _ _ => rfl)
    rcases hz with ⟨hz, -⟩ | hz
    · cases hz
    · cases hz
      unfold TD
      omega
  · have n3 : ¬ (nI kd = 3) := by rw [L3, nI_eq (by omega) (by omega)]; exact c3
    rw [if_neg n3]
    by_cases c5 : kd = 5
    · rw [if_pos (show nI kd = 5 by rw [c5]; rfl)]
      obtain ⟨t, ht, hrt⟩ := h5 c5
      have o13 : ob K 4 (R x 13) = some (x + 32) := o11_13 hS11
      have hoff : PLoff (x + 32) q u R := fun z hz => by
        rcases hz with (rfl | rfl | hz) | ⟨i, hi, rfl⟩
        · omega
        · omega
        · have := hdo z hz
          omega
        · omega
      have hwoff : ∀ (I1 : Im), (∀ z, z ≠ x + 32 → z ≠ x + 33 → z ≠ x + 34 → z ≠ x + 35 → z ≠ x + 36 → I1 z = I z) → WlF u W M I1 fu gi le la := fun I1 h j hj => by
        rw [h _ (by omega) (by omega) (by omega) (by omega) (by omega), h _ (by omega) (by omega) (by omega) (by omega) (by omega), h _ (by omega) (by omega) (by omega) (by omega) (by omega), h _ (by omega) (by omega) (by omega) (by omega) (by omega)]
        exact hwl j hj
      rw [o13, obs]
      refine Ok.bind (c_earliest (M := M) (P := fun r => ∃ I1, r = (oI t, I1, plR (x + 32) q u R) ∧ (∀ z, z ≠ x + 32 → z ≠ x + 34 → z ≠ x + 35 → I1 z = I z) ∧ PLs (x + 32) q u b start sdw cy W M K I1 (plR (x + 32) q u R) hr fu gi le la d1 ∧ (I1 (x + 32) 9 = oI t ∧ ∀ t0, t = some t0 → t0 ≤ 900000) ∧ I1 (x + 35) 0 = oM (iniW (peC la hr fu gi le d1 b sdw cy) start)) (cS3 hC) hS10 hV ha (by omega) hb1 hb9 ha0 ha1 hwl hM hst hoff (by omega) (by omega) (fun I1 t1 g1 g2 g3 g4 g5 => ?_)) (fun r hr' => ?_)
      · have e := bsT_uq ht g2
        subst e
        exact ⟨I1, rfl, g1, g3, g4, g5⟩
      · obtain ⟨I1, rfl, g1, g2, g3, g4⟩ := hr'
        have hCp : CSH x K (plR (x + 32) q u R) := (hC.u (i := 32) (k := 4) rfl).u (i := 32) (k := 5) rfl
        have o13' : ob K 4 (plR (x + 32) q u R x 13) = some (x + 32) := o11_13 (cS11 hCp)
        show Ok (Option.bind (ob K 4 (plR (x + 32) q u R x 13)) _) P
        rw [o13', obs]
        refine Ok.bind (c_plan (P := fun I2 => (∀ z, z ≠ x + 33 → z ≠ x + 36 → I2 z = I1 z) ∧ ∀ j, j < 5 → I2 (x + 33) j = nI (bsR (peC la hr fu gi le d1 b sdw cy) W start t j)) ht g2 g3 g4 (fun I2 k1 k2 => ⟨k1, k2⟩)) (fun I2 hI2 => ?_)
        obtain ⟨k1, k2⟩ := hI2
        have fr : ∀ z, z ≠ x + 32 → z ≠ x + 33 → z ≠ x + 34 → z ≠ x + 35 → z ≠ x + 36 → I2 z = I z := fun z z1 z2 z3 z4 z5 => by rw [k1 z z2 z5, g1 z z1 z3 z4]
        have r0 : plR (x + 32) q u R (x + 32) 0 = some (x + 32 + 1) := r3_0 (cS3 hCp)
        show Ok (f_X11_send_64 K x (some q) (some u) (some a) (plR (x + 32) q u R (x + 32) 0) I2 (plR (x + 32) q u R)) P
        rw [r0]
        refine mk I2 _ _ (fun z hz => plR_row hz) hCp ((hV.congrR (plR_row (by omega))).congr (fun z hz => ?_)) (hwoff I2 fr) (by rw [fr a (by omega) (by omega) (by omega) (by omega) (by omega)]; exact ha0) (by rw [fr a (by omega) (by omega) (by omega) (by omega) (by omega)]; exact ha1) (Or.inr ⟨x + 32 + 1, rfl, k3_0 (cS3 hCp), fun k hk => by rw [hrt]; exact k2 k hk, Or.inr (Or.inl c5)⟩) (fun z hz => ?_) (fun z hz => fr z (by omega) (by omega) (by omega) (by omega) (by omega))
        · have hz' : WVcells q R z := by unfold WVcells at hz ⊢; rw [plR_row (by omega)] at hz; exact hz
          rcases hz' with rfl | rfl | hz'
          · exact fr _ (by omega) (by omega) (by omega) (by omega) (by omega)
          · exact fr _ (by omega) (by omega) (by omega) (by omega) (by omega)
          · have := hdo z hz'
            exact fr _ (by omega) (by omega) (by omega) (by omega) (by omega)
        · rcases hz with ⟨hz, -⟩ | hz
          · cases hz
          · cases hz
            unfold TD
            omega
    · have n5 : ¬ (nI kd = 5) := by rw [L5, nI_eq (by omega) (by omega)]; exact c5
      rw [if_neg n5]
      refine mk I R none (fun _ _ => rfl) hC hV hwl ha0 ha1 (Or.inl ⟨rfl, ro, ha2, hS5, hk0, hk2, hv6, hk6, c3, c5⟩) (fun z hz => ?_) (fun _ _ => rfl)
      rcases hz with ⟨-, hz⟩ | hz
      · rw [ha2] at hz
        cases hz
        unfold TD
        omega
      · cases hz
end
