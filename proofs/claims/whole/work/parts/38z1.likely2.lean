section
variable {Z : Nat → Nat} {x n M nr nc NW i q N : Nat} {K : Sh} {I I1 : Im} {J : Jm} {R R1 : Rf} {w c d le la od : Nat → Nat} {cs : Nat → List Nat}
theorem tenW {W : Nat} (h : W ≤ 5) : 10 ^ W ≤ 100000 ∧ 1 ≤ 10 ^ W := by
  rcases (by omega : W = 0 ∨ W = 1 ∨ W = 2 ∨ W = 3 ∨ W = 4 ∨ W = 5) with rfl | rfl | rfl | rfl | rfl | rfl <;> decide
theorem twoW {W : Nat} (h : W ≤ 5) : 2 ^ W ≤ 32 := by
  rcases (by omega : W = 0 ∨ W = 1 ∨ W = 2 ∨ W = 3 ∨ W = 4 ∨ W = 5) with rfl | rfl | rfl | rfl | rfl | rfl <;> decide
def lkR (W over part : Nat) : Int64 := if part = 0 then lI (over / Nat.gcd (10 ^ W) over) else lI (10 ^ W / Nat.gcd (10 ^ W) over)
set_option maxHeartbeats 1000000 in
theorem c_lik73 {a b st r ra kd vv rn k0 part : Nat} {rwr : Nat → Nat} {rwD : Nat → Nat → Nat} {I0 : Im} {R0 : Rf} (hp : part ≤ 1) (h : NowR x (x + 8) i q n M N (x + 73) (x + 74) w c d cs le la K I0 R0) (hc : CarR x nr k0 n a b st r ra K I0 R0) (hr : RuleR x r n ra kd vv rn rwr K I0 R0) (hM : M ≤ 800000) (hM7 : 100 ≤ M) (hD : DryP w c d cs N b st kd rwr le la rwD) (hod : ∀ k, k < 5 → od k ≤ 10 ∧ I0 (x + 14) k = nI (od k)) {ov : Nat → Option Nat} (hov : ∀ dr, ov dr = (dryT w c d cs N b st kd vv (rwD dr) le la dr).1.1) {P : Int64 × Im × Rf → Prop}
    (kk : ∀ I1 R1, (∀ z, z < x + 29 ∨ x + 50 ≤ z → I1 z = I0 z) → (∀ z, z < x + 29 ∨ x + 50 ≤ z → R1 z = R0 z) → CSH x K R1 → P (lkR (wlN w N) (lkN ov (fun dr => wgN od dr (wlN w N)) (2 ^ wlN w N)) part, I1, R1)) :
    ∀ (m dr f : Nat) (I : Im) (R : Rf), dr + m = 2 ^ wlN w N → m < f → (∀ z, z < x + 29 ∨ x + 50 ≤ z → I z = I0 z) → (∀ z, z < x + 29 ∨ x + 50 ≤ z → R z = R0 z) → CSH x K R →
    Ok (f_X11_likely_73 K x f (nI part) (some a) (nI (lkN ov (fun dr => wgN od dr (wlN w N)) dr)) (nI (10 ^ wlN w N)) (nI dr) I R) P := by
  have h5 := wlN_le w N
  obtain ⟨ten1, ten2⟩ := tenW h5
  have two := twoW h5
  have hwt : ∀ dr, wgN od dr (wlN w N) ≤ 100000 := fun dr => Nat.le_trans (wgN_b (fun k hk => (hod k hk).1) _ h5) ten1
  intro m
  induction m with
  | zero =>
    intro dr f I R hd hf hI hR hC
    obtain ⟨f, rfl⟩ : ∃ f', f = f' + 1 := ⟨f - 1, by omega⟩
    have : dr = 2 ^ wlN w N := by omega
    subst this
    have hv := (h.2.1.qf (QF.cls hI) hR).2.2.2.1
    have r80 : R (x + 8) 0 = some q := by rw [hR _ (by omega)]; exact h.1
    have g := kk I R hI hR hC
    have hlk := lkN_b (ov := ov) hwt (2 ^ wlN w N)
    generalize hov' : lkN ov (fun dr => wgN od dr (wlN w N)) (2 ^ wlN w N) = over at g hlk ⊢
    have hg := c_gcd 17 over (10 ^ wlN w N) 0 FU (by omega) (by omega) (by omega) (by omega) (FU_lt (by omega))
    have hg1 : 1 ≤ Nat.gcd (10 ^ wlN w N) over := Nat.gcd_pos_of_pos_left _ (by omega)
    have hg2 : Nat.gcd (10 ^ wlN w N) over ≤ 10 ^ wlN w N := Nat.gcd_le_left _ (by omega)
    unfold lkR at g
    unfold f_X11_likely_73 f_X11_commonDivisor
    rw [o11_7 (cS11 hC), obs, r80, ob9 hv.1, obs, hv.2.1, ishl_nI h5, if_pos (Int32.le_refl _), L0, hg, obs]
    generalize hG : Nat.gcd (10 ^ wlN w N) over = G at g hg1 hg2 ⊢
    have nG : ¬ (nI G = nI 0) := by rw [nI_eq (by omega) (by omega)]; omega
    rw [L1, if_pos (by rw [nI_leI (by omega) (by omega)]; omega)]
    by_cases c : part = 0
    · subst c
      have := Nat.div_le_self over G
      rw [if_pos rfl] at g
      rw [if_pos rfl, if_neg nG, obs, idiv_nI (by omega) (by omega) (by omega), nI_64 (by omega)]
      exact Ok.ret g
    · have := Nat.div_le_self (10 ^ wlN w N) G
      rw [if_neg c] at g
      rw [if_neg (by rw [nI_eq (by omega) (by omega)]; exact c), if_neg nG, obs, idiv_nI (by omega) (by omega) (by omega), nI_64 (by omega)]
      exact Ok.ret g
  | succ m ih =>
    intro dr f I R hd hf hI hR hC
    obtain ⟨f, rfl⟩ : ∃ f', f = f' + 1 := ⟨f - 1, by omega⟩
    have hn := h.qf (by omega) ⟨by omega, by decide⟩ ⟨by omega, by decide⟩ (QF.cls hI) hR
    have hv := hn.2.1.2.2.2.1
    have cw := c_weight4 (od := od) hC hn (fun k hk => ⟨(hod k hk).1, by rw [hI _ (by omega)]; exact (hod k hk).2⟩) (by omega : dr < 32) (wlN w N) 0 FU (by omega) (FU_lt (by omega))
    simp only [wgN] at cw
    have hb := hwt dr
    have hlk := lkN_b (ov := ov) hwt dr
    have nx := fun I2 R2 v (e : lkN ov (fun dr => wgN od dr (wlN w N)) (dr + 1) = v) => e ▸ ih (dr + 1) f I2 R2 (by omega) (by omega)
    unfold f_X11_likely_73
    rw [o11_7 (cS11 hC), obs, hn.1, ob9 hv.1, obs, hv.2.1, ishl_nI h5, if_neg (by rw [nI_leI (by omega) (by omega)]; omega)]
    unfold f_X11_weightOf
    rw [L1, L0, cw, obs]
    by_cases c0 : wgN od dr (wlN w N) = 0
    · rw [if_pos (by rw [nI_leI (by omega) (by omega)]; omega), nI_add]
      exact nx I R _ (by simp only [lkN]; rw [if_pos c0, Nat.add_zero]) hI hR hC
    · rw [if_neg (by rw [nI_leI (by omega) (by omega)]; omega)]
      have dry : Ok (f_X11_comesOverWithDry K x (nI dr) (some a) I R) (fun s => (∀ z, z < x + 29 ∨ x + 50 ≤ z → s.2.1 z = I0 z) ∧ (∀ z, z < x + 29 ∨ x + 50 ≤ z → s.2.2 z = R0 z) ∧ CSH x K s.2.2 ∧ (s.1 = 0 ↔ ov dr = none)) := by
        unfold f_X11_comesOverWithDry
        rw [o11_7 (cS11 hC), obs, o11_15 (cS11 hC), obs, r6_1 (cS6n hC)]
        refine Ok.bind (c_become (P := fun I1 => (∀ z, z < x + 40 ∨ x + 44 ≤ z → I1 z = I z) ∧ WlF (x + 39) (wlN w N) M I1 (wlV w c N) (wlV w d N) le la) (cS10t hC) (cS10n hC) (fun i j hi hj => by omega) (fun I1 g1 g2 => ⟨fun y hy => g1 y (by omega) (by omega) (by omega) (by omega), trial_wl hn g2⟩)) (fun I1 hI1 => ?_)
        obtain ⟨g1, g2⟩ := hI1
        rw [L0]
        refine c_dry16 (by omega : dr < 32) h hc hr hM hM7 (hD dr) hC hR (fun I2 R2 v a b c e => ⟨a, b, c, by rw [hov dr]; exact e⟩) (wlN w N) 0 FU I1 (by omega) (FU_lt (by omega)) (fun z hz => by rw [g1 z (by omega)]; exact hI z hz) (fun j hj => ?_)
        obtain ⟨y1, y2, y3, y4, y5, y6, y7, y8⟩ := g2 j hj
        exact ⟨y1, y3, y5, y7⟩
      obtain ⟨⟨v, I2, R2⟩, d0, d1, d2, d3, d4⟩ := dry
      have d1 : ∀ z, z < x + 29 ∨ x + 50 ≤ z → I2 z = I0 z := d1
      have d2 : ∀ z, z < x + 29 ∨ x + 50 ≤ z → R2 z = R0 z := d2
      have d3 : CSH x K R2 := d3
      have d4 : v = 0 ↔ ov dr = none := d4
      rw [d0, obs]
      show Ok (if v = nI 0 then f_X11_likely_73 K x f (nI part) (some a) (nI (lkN ov (fun dr => wgN od dr (wlN w N)) dr)) (nI (10 ^ wlN w N)) (nI dr + nI 1) I2 R2 else f_X11_likely_73 K x f (nI part) (some a) (nI (lkN ov (fun dr => wgN od dr (wlN w N)) dr) + nI (wgN od dr (wlN w N))) (nI (10 ^ wlN w N)) (nI dr + nI 1) I2 R2) P
      cases ho : ov dr with
      | none =>
        rw [if_pos (show v = nI 0 from d4.mpr ho), nI_add]
        exact nx I2 R2 _ (by simp only [lkN]; rw [if_neg c0, ho]; rfl) d1 d2 d3
      | some t =>
        rw [if_neg (show ¬ v = nI 0 from fun e => by have := d4.mp e; rw [ho] at this; cases this), nI_add, nI_add]
        exact nx I2 R2 _ (by simp only [lkN]; rw [if_neg c0, ho]) d1 d2 d3
theorem c_lik42 {a part : Nat} {I0 : Im} {R0 : Rf} (hC : CSH x K R0) (h : NowR x (x + 8) i q n M N (x + 73) (x + 74) w c d cs le la K I0 R0) {P : Int64 × Im × Rf → Prop} (kk : Ok (f_X11_likely_73 K x FU (nI part) (some a) (nI 0) (nI (10 ^ wlN w N)) (nI 0) I0 R0) P) : ∀ (m k f : Nat), k + m = wlN w N → m < f → Ok (f_X11_likely_42 K x f (nI part) (some a) (nI 0) (nI (10 ^ k)) (nI k) I0 R0) P := by
  have h5 := wlN_le w N
  have hv := h.2.1.2.2.2.1
  intro m
  induction m with
  | zero =>
    intro k f hk hf
    obtain ⟨f, rfl⟩ : ∃ f', f = f' + 1 := ⟨f - 1, by omega⟩
    have : k = wlN w N := by omega
    subst this
    unfold f_X11_likely_42
    rw [o11_7 (cS11 hC), obs, h.1, ob9 hv.1, obs, hv.2.1, if_pos (Int32.le_refl _), L0]
    exact kk
  | succ m ih =>
    intro k f hk hf
    obtain ⟨f, rfl⟩ : ∃ f', f = f' + 1 := ⟨f - 1, by omega⟩
    have g := ih (k + 1) f (by omega) (by omega)
    unfold f_X11_likely_42
    rw [o11_7 (cS11 hC), obs, h.1, ob9 hv.1, obs, hv.2.1, if_neg (by rw [nI_leI (by omega) (by omega)]; omega), L10, pk_mul, L1, nI_add, ← Nat.pow_succ]
    exact g
set_option maxHeartbeats 1000000 in
theorem m_lik88 {a b st r ra kd vv rn k0 part over bl dr : Nat} {rwr rw : Nat → Nat} {I0 : Im} {r70 : Int32 → Int32 → Int32 → Int64 → Int64 → Int32 → Im → Option (Int64 × Im)} {P : Int64 × Im → Prop} (hS : S12 (x + 62) K R) (hi : i < 5) (ht : I0 (x + 62) 1 = nI i) (h : NowR x (x + 8) i q n M N (x + 73) (x + 74) w c d cs le la K I0 R) (hc : CarR x nr k0 n a b st r ra K I0 R) (hr : RuleR x r n ra kd vv rn rwr K I0 R) (hnr : nr ≤ 10) (hk0 : k0 < 6) (hM : M ≤ 800000) (hM7 : 100 ≤ M) (hd : dr < 32) (hrw : RwP w c cs N (wlN w N) b st kd rwr rw (dryF dr (wlV w c N)) (dryF dr (wlV w d N)) (wyV w c N) (dryF dr le) la) (hod : ∀ k, k < 5 → od k ≤ 10 ∧ I0 (x + 75) k = nI (od k))
    (kk : ∀ I1, FM (x + 62) mS mF I0 I1 → Ok (r70 (nI k0) (nI part) (nI (wlN w N)) (lI (over + (if wgN od dr (wlN w N) = 0 then 0 else match (dryT w c d cs N b st kd vv rw le la dr).1.1 with
      | none => 0
      | some _ => wgN od dr (wlN w N)))) (lI bl) (nI (dr + 1)) I1) P) :
    ∀ (m k f : Nat) (I : Im), k + m = wlN w N → m < f → FM (x + 62) mS mF I0 I → I (x + 62) 21 = nI (wlN w N) → (∀ j, j < wlN w N → I (x + 76) j = nI (if j < k then dryF dr (wlV w c N) j else wlV w c N j) ∧ I (x + 77) j = nI (if j < k then dryF dr (wlV w d N) j else wlV w d N j) ∧ I (x + 79) j = nI (if j < k then dryF dr le j else le j) ∧ I (x + 80) j = nI (la j)) → (∀ j, j ≤ wlN w N → I (x + 78) j = nI (wyV w c N j)) →
    Ok (f_X12_likely_88 K R (x + 62) r70 f (nI k0) (nI part) (nI (wlN w N)) (lI over) (lI bl) (nI dr) (lI (wgN od dr k)) (nI k) I) P := by
  have h5 := wlN_le w N
  have hW := h.2.1.1
  have hcb : ∀ k, wlV w c N k ≤ 99 := fun k => wlV_le (fun m hm _ => (hW.2.2.2 m hm).2.2.2.1) k
  have hdb : ∀ k, wlV w d N k ≤ 99 := fun k => wlV_le (fun m hm hw => ((hW.2.2.2 m hm).2.2.2.2.2 hw).2) k
  have hwt : wgN od dr (wlN w N) ≤ 100000 := Nat.le_trans (wgN_b (fun k hk => (hod k hk).1) _ h5) (tenW h5).1
  have z64 : (0 : Int64) = lI 0 := rfl
  intro m
  induction m with
  | zero =>
    intro k f I hk hf hI h21 hwl hhr
    obtain ⟨f, rfl⟩ : ∃ f', f = f' + 1 := ⟨f - 1, by omega⟩
    have : k = wlN w N := by omega
    subst this
    have hQ : QF x I0 I := QF.fm hI (by decide) (by decide)
    unfold f_X12_likely_88 f_X12_likely_249
    rw [if_pos (Int32.le_refl _)]
    by_cases c0 : wgN od dr (wlN w N) = 0
    · have g := kk I hI
      rw [if_pos c0, Nat.add_zero] at g
      rw [if_pos ((lg_cmp_eq _ _).mpr (by rw [c0]; rfl)), L1, nI_add]
      exact g
    · rw [if_neg (fun e => c0 (by have := (lg_cmp_eq _ _).mp e; rw [z64, lI_eq (by omega) (by omega)] at this; exact this))]
      refine Ok.bind (ref_car (M := M) (fu := dryF dr (wlV w c N)) (gi := dryF dr (wlV w d N)) (hr := wyV w c N) (le := dryF dr le) (la := la) hS hi (h.2.1.qf hQ QR.refl) (by rw [hQ.f (k := 1) (by decide)]; exact ht) ⟨h21, h5, fun j hj => ?_, fun j hj => ⟨hhr j hj, (wyV_b (fun m hm hw => (hW.2.2.2 m hm).2.2.2.2.1 hw) j).2⟩⟩ (hc.qf hQ QR.refl) (hr.qf hQ QR.refl) hnr hk0 hM hM7 hrw) (fun I1 hI1 => ?_)
      · obtain ⟨y1, y2, y3, y4⟩ := hwl j hj
        rw [if_pos hj] at y1 y2 y3
        exact ⟨y1, dryF_le (hcb j), y2, dryF_le (hdb j), y3, dryF_le (h.2.2.2.2 j hj).2.2.2.2.1, y4, (h.2.2.2.2 j hj).2.2.2.2.2.2.2⟩
      · obtain ⟨F, T⟩ := hI1
        have g := kk I1 (hI.trans (F.mono (by decide) (by decide)))
        have t50 : I1 (x + 62) 50 = oI (dryT w c d cs N b st kd vv rw le la dr).1.1 := T.1
        have hp := oI_pos (dryT_b (b := b) (kd := kd) (vv := vv) (rw := rw) h hr.2.1.2.2.2.2.2.1 hrw.1 (by have := hc.2.2.2.2.2.2.2.2.1; omega : st ≤ M) hM dr)
        rw [if_neg c0] at g
        rw [t50]
        cases ho : (dryT w c d cs N b st kd vv rw le la dr).1.1 with
        | none =>
          rw [ho] at g
          rw [if_neg (show ¬ ((0 : Int32) ≤ oI none) by decide), z64, lI_add, L1, nI_add]
          exact g
        | some t =>
          rw [ho] at g hp
          rw [if_pos (show (0 : Int32) ≤ oI (some t) from hp.mpr (by simp)), lI_add, L1, nI_add]
          exact g
  | succ m ih =>
    intro k f I hk hf hI h21 hwl hhr
    obtain ⟨f, rfl⟩ : ∃ f', f = f' + 1 := ⟨f - 1, by omega⟩
    have hQ : QF x I0 I := QF.fm hI (by decide) (by decide)
    obtain ⟨o1, o2⟩ := hod k (by omega)
    have hb := bit_lt dr k
    have lo : ldI K I (R (x + 62) 20) (nI k) = some (nI (od k)) := by
      rw [l12_20 hS (by omega)]
      exact congrArg some ((congrFun (hQ.m (j := 75) (by omega) (by decide)) k).trans o2)
    obtain ⟨w1, w2, w3, w4⟩ := hwl k (by omega)
    rw [if_neg (by omega)] at w1 w2 w3
    -- what is stored
    have go : ∀ (v1 v2 v3 : Nat) (wv : Nat), wv = wgN od dr (k + 1) → dryF dr (wlV w c N) k = v1 → dryF dr (wlV w d N) k = v2 → dryF dr le k = v3 → Ok (f_X12_likely_88 K R (x + 62) r70 f (nI k0) (nI part) (nI (wlN w N)) (lI over) (lI bl) (nI dr) (lI wv) (nI (k + 1)) (u2 (u2 (u2 I (x + 76) k (nI v1)) (x + 77) k (nI v2)) (x + 79) k (nI v3))) P := by
      intro v1 v2 v3 wv hwv e1 e2 e3
      subst hwv
      have upd : ∀ (g : Nat → Nat) j, j ≠ k → (if j < k + 1 then dryF dr g j else g j) = (if j < k then dryF dr g j else g j) := fun g j hj => by
        by_cases c1 : j < k
        · rw [if_pos c1, if_pos (by omega)]
        · rw [if_neg c1, if_neg (by omega)]
      have F : FM (x + 62) mS mF I (u2 (u2 (u2 I (x + 62 + 14) k (nI v1)) (x + 62 + 15) k (nI v2)) (x + 62 + 17) k (nI v3)) := FM.st (FM.st (FM.st FM.refl (by decide)) (by decide)) (by decide)
      refine ih (k + 1) f _ (by omega) (by omega) (hI.trans F) (by rw [u2_row (by omega), u2_row (by omega), u2_row (by omega)]; exact h21) (fun j hj => ?_) (fun j hj => by rw [u2_row (by omega), u2_row (by omega), u2_row (by omega)]; exact hhr j hj)
      obtain ⟨y1, y2, y3, y4⟩ := hwl j hj
      rw [u2_row (show x + 80 ≠ x + 79 by omega), u2_row (show x + 80 ≠ x + 77 by omega), u2_row (show x + 80 ≠ x + 76 by omega), u2_row (show x + 76 ≠ x + 79 by omega), u2_row (show x + 76 ≠ x + 77 by omega), u2_row (show x + 77 ≠ x + 79 by omega)]
      by_cases ck : j = k
      · subst ck
        rw [u2_eq, u2_eq, u2_eq, if_pos (by omega), if_pos (by omega), if_pos (by omega), e1, e2, e3]
        exact ⟨rfl, rfl, rfl, y4⟩
      · simp only [u2_ne ck]
        rw [upd _ j ck, upd _ j ck, upd _ j ck]
        exact ⟨y1, y2, y3, y4⟩
    have w1' : I (x + 62 + 14) k = nI (wlV w c N k) := w1
    have w2' : I (x + 62 + 15) k = nI (wlV w d N k) := w2
    have w3' : I (x + 62 + 17) k = nI (le k) := w3
    unfold f_X12_likely_88 f_X12_likely_110 f_X12_likely_141 f_X12_likely_166 f_X12_likely_189 f_X12_likely_212
    rw [if_neg (by rw [nI_leI (by omega) (by omega)]; omega), bit_and hd (by omega)]
    by_cases cb : bitN dr k = 1
    · have dk : ∀ g : Nat → Nat, dryF dr g k = 0 := fun g => by unfold dryF; rw [if_pos cb]
      have g := go 0 0 0 (wgN od dr k * od k) (by simp only [wgN]; rw [if_pos cb]) (dk _) (dk _) (dk _)
      have n1 : ¬ ((1 : Int32) = 0) := by decide
      rw [if_pos (show nI (bitN dr k) = 1 by rw [cb]; rfl), if_neg n1, lo, obs, nI_64 (by omega), lI_mul, if_neg n1, L0, s12_22 hS (by omega), obs, if_neg (show ¬ ((1 : Int32) = nI 0) by decide), s12_23 hS (by omega), obs, if_neg (show ¬ ((1 : Int32) = nI 0) by decide), s12_25 hS (by omega), obs, L1, nI_add]
      exact g
    · have dk : ∀ g : Nat → Nat, dryF dr g k = g k := fun g => by unfold dryF; rw [if_neg cb]
      have g := go (wlV w c N k) (wlV w d N k) (le k) (wgN od dr k * (10 - od k)) (by simp only [wgN]; rw [if_neg cb]) (dk _) (dk _) (dk _)
      rw [if_neg (show ¬ nI (bitN dr k) = 1 by rw [L1, nI_eq (by omega) (by omega)]; exact cb), if_pos rfl, lo, obs, L10, pk_sub o1, nI_64 (by omega), lI_mul, if_pos rfl, l12_22 hS (by omega), obs, w1', s12_22 hS (by omega), obs, if_pos rfl, l12_23 hS (by omega), obs, u2_row (by omega), w2', s12_23 hS (by omega), obs, if_pos rfl, l12_25 hS (by omega), obs, u2_row (by omega), u2_row (by omega), w3', s12_25 hS (by omega), obs, L1, nI_add]
      exact g
end
