section
variable {Z : Nat → Nat} {x n M nr nc NW i q N : Nat} {K : Sh} {I I1 : Im} {J : Jm} {R R1 : Rf} {w c d le la od : Nat → Nat} {cs : Nat → List Nat}
def dryT (w c d : Nat → Nat) (cs : Nat → List Nat) (N b st kd vv : Nat) (rw le la : Nat → Nat) (dr : Nat) : TR := tripG w c cs N b st kd vv rw (dryF dr (wlV w c N)) (dryF dr (wlV w d N)) (wyV w c N) (dryF dr le) la (wlN w N)
def DryP (w c d : Nat → Nat) (cs : Nat → List Nat) (N b st kd : Nat) (rwr le la : Nat → Nat) (rwD : Nat → Nat → Nat) : Prop := ∀ dr, RwP w c cs N (wlN w N) b st kd rwr (rwD dr) (dryF dr (wlV w c N)) (dryF dr (wlV w d N)) (wyV w c N) (dryF dr le) la
theorem DryP.ex {b st kd : Nat} {rwr : Nat → Nat} (hb : b ≤ 9) (hW : MW (x + 62) i N w c d I) (hr : ∀ k, rwr k ≤ 6) : ∃ rwD, DryP w c d cs N b st kd rwr le la rwD := by
  have h : ∀ dr, ∃ rw, RwP w c cs N (wlN w N) b st kd rwr rw (dryF dr (wlV w c N)) (dryF dr (wlV w d N)) (wyV w c N) (dryF dr le) la := fun dr => RwP.ex hb hW _ hr
  exact Classical.axiomOfChoice h
theorem dryF_le {dr : Nat} {fu : Nat → Nat} {k B : Nat} (h : fu k ≤ B) : dryF dr fu k ≤ B := by unfold dryF; split <;> omega
/-- the hours of a trip with dry wells -/
theorem dryT_b {b st kd vv : Nat} {rw : Nat → Nat} {s aL aT : Nat} (h : NowR x s i q n M N aL aT w c d cs le la K I R) (hv : vv ≤ 6) (hrw : ∀ k, rw k ≤ 6) (hst : st ≤ M) (hM : M ≤ 800000) (dr : Nat) : ∀ t, (dryT w c d cs N b st kd vv rw le la dr).1.1 = some t → t ≤ 900000 := by
  have h5 := wlN_le w N
  have hW := h.2.1.1
  obtain ⟨z1, -⟩ := trN_b (M := M) (cost := fun k h => wayD (fun j => b * d1N w c cs N b k j) h (wyV w c N k)) (hr := wyV w c N) (rw := rw) (fu := dryF dr (wlV w c N)) (gi := dryF dr (wlV w d N)) (sd := b * laV w c 5 0 N) (rm := b * laV w c 3 10 N) (kind := kd) (v := vv) (W := wlN w N) (fun k _ => (wyV_b (fun m hm hw => (hW.2.2.2 m hm).2.2.2.2.1 hw) k).2) hv hrw (fun k _ => dryF_le (wlV_le (fun m hm _ => (hW.2.2.2 m hm).2.2.2.1) k)) 6 0 st (b * laV w c 3 10 N) (dryF dr le) la (fun _ => none) (fun _ => none) (by omega) (Nat.zero_le _) (fun j hj => by
    obtain ⟨y1, y2, y3, y4, y5, y6, y7, y8⟩ := h.2.2.2.2 j hj
    exact ⟨dryF_le y5, by omega⟩) (fun j _ hj => (h.2.2.2.2 j hj).2.2.2.2.2.2.2) (by omega) _ rfl
  intro t ht
  have := z1 t ht
  omega
theorem c_weight4 (hC : CSH x K R) (h : NowR x (x + 8) i q n M N (x + 73) (x + 74) w c d cs le la K I R) (hod : ∀ k, k < 5 → od k ≤ 10 ∧ I (x + 14) k = nI (od k)) {dr : Nat} (hd : dr < 32) : ∀ (m k f : Nat), k + m = wlN w N → m < f → f_X11_weightOf_4 K I R x f (nI dr) (nI (wgN od dr k)) (nI k) = some (nI (wgN od dr (wlN w N))) := by
  have h5 := wlN_le w N
  have hv := h.2.1.2.2.2.1
  intro m
  induction m with
  | zero =>
    intro k f hk hf
    obtain ⟨f, rfl⟩ : ∃ f', f = f' + 1 := ⟨f - 1, by omega⟩
    have : k = wlN w N := by omega
    subst this
    unfold f_X11_weightOf_4
    rw [o11_7 (cS11 hC), obs, h.1, ob9 hv.1, obs, hv.2.1, if_pos (Int32.le_refl _)]
  | succ m ih =>
    intro k f hk hf
    obtain ⟨f, rfl⟩ : ∃ f', f = f' + 1 := ⟨f - 1, by omega⟩
    have g := ih (k + 1) f (by omega) (by omega)
    obtain ⟨o1, o2⟩ := hod k (by omega)
    have hb := bit_lt dr k
    unfold f_X11_weightOf_4 f_X11_weightOf_32 f_X11_weightOf_64
    rw [o11_7 (cS11 hC), obs, h.1, ob9 hv.1, obs, hv.2.1, if_neg (by rw [nI_leI (by omega) (by omega)]; omega), bit_and hd (by omega)]
    simp only [wgN] at g
    by_cases c : bitN dr k = 1
    · rw [if_pos c] at g
      rw [if_pos (show nI (bitN dr k) = 1 by rw [c]; rfl), if_neg (by decide), obs, l6_2 (cS6n hC) (by omega), obs]
      show f_X11_weightOf_4 K I R x f (nI dr) (nI (wgN od dr k) * I (x + 14) k) (nI k + 1) = _
      rw [o2, pk_mul, L1, nI_add]
      exact g
    · rw [if_neg c] at g
      rw [if_neg (show ¬ nI (bitN dr k) = 1 by rw [L1, nI_eq (by omega) (by omega)]; exact c), if_pos rfl, obs, l6_2 (cS6n hC) (by omega), obs]
      show f_X11_weightOf_4 K I R x f (nI dr) (nI (wgN od dr k) * (10 - I (x + 14) k)) (nI k + 1) = _
      rw [o2, L10, pk_sub o1, pk_mul, L1, nI_add]
      exact g
theorem c_dry16 {a b st r ra kd vv rn k0 : Nat} {rwr rw : Nat → Nat} {I0 : Im} {R0 : Rf} {dr : Nat} (hd : dr < 32) (h : NowR x (x + 8) i q n M N (x + 73) (x + 74) w c d cs le la K I0 R0) (hc : CarR x nr k0 n a b st r ra K I0 R0) (hr : RuleR x r n ra kd vv rn rwr K I0 R0) (hM : M ≤ 800000) (hM7 : 100 ≤ M) (hrw : RwP w c cs N (wlN w N) b st kd rwr rw (dryF dr (wlV w c N)) (dryF dr (wlV w d N)) (wyV w c N) (dryF dr le) la) (hC : CSH x K R) (hR : ∀ z, z < x + 29 ∨ x + 50 ≤ z → R z = R0 z) {P : Int32 × Im × Rf → Prop}
    (kk : ∀ I1 R1 v, (∀ z, z < x + 29 ∨ x + 50 ≤ z → I1 z = I0 z) → (∀ z, z < x + 29 ∨ x + 50 ≤ z → R1 z = R0 z) → CSH x K R1 → (v = 0 ↔ (dryT w c d cs N b st kd vv rw le la dr).1.1 = none) → P (v, I1, R1)) :
    ∀ (m k f : Nat) (I : Im), k + m = wlN w N → m < f → (∀ z, z < x + 29 ∨ x + 50 ≤ z → I z = I0 z) → (∀ j, j < wlN w N → I (x + 40) j = nI (if j < k then dryF dr (wlV w c N) j else wlV w c N j) ∧ I (x + 41) j = nI (if j < k then dryF dr (wlV w d N) j else wlV w d N j) ∧ I (x + 42) j = nI (if j < k then dryF dr le j else le j) ∧ I (x + 43) j = nI (la j)) →
    Ok (f_X11_comesOverWithDry_16 K x f (nI dr) (some a) (nI k) I R) P := by
  have h5 := wlN_le w N
  have hW := h.2.1.1
  have hcb : ∀ k, wlV w c N k ≤ 99 := fun k => wlV_le (fun m hm _ => (hW.2.2.2 m hm).2.2.2.1) k
  have hdb : ∀ k, wlV w d N k ≤ 99 := fun k => wlV_le (fun m hm hw => ((hW.2.2.2 m hm).2.2.2.2.2 hw).2) k
  intro m
  induction m with
  | zero =>
    intro k f I hk hf hI hwl
    obtain ⟨f, rfl⟩ : ∃ f', f = f' + 1 := ⟨f - 1, by omega⟩
    have : k = wlN w N := by omega
    subst this
    have hw := h.2.1.qf (QF.cls hI) hR
    have hv := hw.2.2.2.1
    have r80 : R (x + 8) 0 = some q := by rw [hR _ (by omega)]; exact h.1
    unfold f_X11_comesOverWithDry_16
    rw [o11_7 (cS11 hC), obs, r80, ob9 hv.1, obs, hv.2.1, if_pos (Int32.le_refl _), r11_15 (cS11 hC)]
    refine Ok.bind (cls_car (M := M) (fu := dryF dr (wlV w c N)) (gi := dryF dr (wlV w d N)) (le := dryF dr le) (la := la) hC (Or.inr rfl) hw (hc.qf (QF.cls hI) hR) (hr.qf (QF.cls hI) hR) (fun j hj => ?_) hM hM7 hrw) (fun s hs => ?_)
    · obtain ⟨y1, y2, y3, y4⟩ := hwl j hj
      rw [if_pos hj] at y1 y2 y3
      exact ⟨y1, dryF_le (hcb j), y2, dryF_le (hdb j), y3, dryF_le (h.2.2.2.2 j hj).2.2.2.2.1, y4, (h.2.2.2.2 j hj).2.2.2.2.2.2.2⟩
    · obtain ⟨I1, R1⟩ := s
      obtain ⟨s1, s2, s3, s4⟩ := hs
      have s1 : ∀ z, z < x + 29 ∨ x + 37 ≤ z → z ≠ x + 39 + 3 → z ≠ x + 39 + 4 → I1 z = I z := s1
      have s2 : ∀ z, z ≠ x + 32 → R1 z = R z := s2
      have s3 : CSH x K R1 := s3
      have fI : ∀ z, z < x + 29 ∨ x + 50 ≤ z → I1 z = I0 z := fun z hz => (s1 z (by omega) (by omega) (by omega)).trans (hI z hz)
      have fR : ∀ z, z < x + 29 ∨ x + 50 ≤ z → R1 z = R0 z := fun z hz => (s2 z (by omega)).trans (hR z hz)
      have t0 : I1 (x + 29) 0 = oI (dryT w c d cs N b st kd vv rw le la dr).1.1 := s4.1
      have h5' := oI_neg5 (dryT_b (b := b) (kd := kd) (vv := vv) (rw := rw) h hr.2.1.2.2.2.2.2.1 hrw.1 (by have := hc.2.2.2.2.2.2.2.2.1; omega : st ≤ M) hM dr)
      show Ok (Option.bind (ob K 9 (R1 x 12)) fun a7 => if I1 a7 0 = -5 then some (0, I1, R1) else some (1, I1, R1)) P
      rw [o11_12 (cS11 s3), obs, t0]
      by_cases c5 : oI (dryT w c d cs N b st kd vv rw le la dr).1.1 = -5
      · rw [if_pos c5]
        exact Ok.ret (kk I1 R1 0 fI fR s3 ⟨fun _ => h5'.mp c5, fun _ => rfl⟩)
      · rw [if_neg c5]
        exact Ok.ret (kk I1 R1 1 fI fR s3 ⟨fun e => absurd e (by decide), fun e => absurd (h5'.mpr e) c5⟩)
  | succ m ih =>
    intro k f I hk hf hI hwl
    obtain ⟨f, rfl⟩ : ∃ f', f = f' + 1 := ⟨f - 1, by omega⟩
    have hw := h.2.1.qf (QF.cls hI) hR
    have hv := hw.2.2.2.1
    have r80 : R (x + 8) 0 = some q := by rw [hR _ (by omega)]; exact h.1
    have hb := bit_lt dr k
    unfold f_X11_comesOverWithDry_16
    rw [o11_7 (cS11 hC), obs, r80, ob9 hv.1, obs, hv.2.1, if_neg (by rw [nI_leI (by omega) (by omega)]; omega), bit_and hd (by omega)]
    by_cases c : bitN dr k = 1
    · have hS := cS10t hC
      have e : f_X10_dryUp K R (x + 39) (nI k) I = some (u2 (u2 (u2 I (x + 40) k (nI 0)) (x + 41) k (nI 0)) (x + 42) k (nI 0)) := by
        unfold f_X10_dryUp
        rw [L0, s10_0 hS (by omega), obs, s10_1 hS (by omega), obs, s10_2 hS (by omega), obs]
      have dk : ∀ g : Nat → Nat, dryF dr g k = 0 := fun g => by unfold dryF; rw [if_pos c]
      have upd : ∀ (g : Nat → Nat) j, j ≠ k → (if j < k + 1 then dryF dr g j else g j) = (if j < k then dryF dr g j else g j) := fun g j hj => by
        by_cases c1 : j < k
        · rw [if_pos c1, if_pos (by omega)]
        · rw [if_neg c1, if_neg (by omega)]
      rw [if_pos (show nI (bitN dr k) = 1 by rw [c]; rfl), o11_15 (cS11 hC), obs, e, obs, L1, nI_add]
      refine ih (k + 1) f _ (by omega) (by omega) (fun z hz => by rw [u2_row (by omega), u2_row (by omega), u2_row (by omega)]; exact hI z hz) (fun j hj => ?_)
      obtain ⟨y1, y2, y3, y4⟩ := hwl j hj
      rw [u2_row (show x + 43 ≠ x + 42 by omega), u2_row (show x + 43 ≠ x + 41 by omega), u2_row (show x + 43 ≠ x + 40 by omega), u2_row (show x + 40 ≠ x + 42 by omega), u2_row (show x + 40 ≠ x + 41 by omega), u2_row (show x + 41 ≠ x + 42 by omega)]
      by_cases ck : j = k
      · subst ck
        rw [u2_eq, u2_eq, u2_eq, if_pos (by omega), if_pos (by omega), if_pos (by omega), dk, dk, dk]
        exact ⟨rfl, rfl, rfl, y4⟩
      · simp only [u2_ne ck]
        rw [upd _ j ck, upd _ j ck, upd _ j ck]
        exact ⟨y1, y2, y3, y4⟩
    · have dk : ∀ g : Nat → Nat, dryF dr g k = g k := fun g => by unfold dryF; rw [if_neg c]
      have upd : ∀ (g : Nat → Nat) j, (if j < k + 1 then dryF dr g j else g j) = (if j < k then dryF dr g j else g j) := fun g j => by
        by_cases c1 : j < k
        · rw [if_pos c1, if_pos (by omega)]
        · by_cases c2 : j = k
          · subst c2; rw [if_neg c1, if_pos (by omega), dk]
          · rw [if_neg c1, if_neg (by omega)]
      rw [if_neg (show ¬ nI (bitN dr k) = 1 by rw [L1, nI_eq (by omega) (by omega)]; exact c), L1, nI_add]
      refine ih (k + 1) f I (by omega) (by omega) hI (fun j hj => ?_)
      rw [upd, upd, upd]
      exact hwl j hj
end
