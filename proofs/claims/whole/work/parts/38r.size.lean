def ltO (x : Option Nat) (v : Nat) : Bool := match x with
  | none => true
  | some o => decide (o < v)
/-- SIZE, beasts by beasts: the most, with how many, the edge -/
def szN (ov : Nat → Option Nat) (ld : Nat) : Nat → Option Nat × Nat × Nat
  | 0 => (none, 0, 0)
  | m + 1 => match ov (m + 1) with
    | none => ((szN ov ld m).1, (szN ov ld m).2.1, if (szN ov ld m).2.2 = 0 then m + 1 else (szN ov ld m).2.2)
    | some _ => if ltO (szN ov ld m).1 ((m + 1) * ld) = true then (some ((m + 1) * ld), m + 1, (szN ov ld m).2.2) else szN ov ld m
theorem szN_b {ov : Nat → Option Nat} {ld : Nat} (hl : ld ≤ 99) : ∀ m, m ≤ 9 → (∀ o, (szN ov ld m).1 = some o → o ≤ 891) ∧ (szN ov ld m).2.1 ≤ 9 ∧ (szN ov ld m).2.2 ≤ 9 := by
  intro m
  induction m with
  | zero => intro _; exact ⟨fun o h => by simp [szN] at h, by simp [szN], by simp [szN]⟩
  | succ m ih =>
    intro hm
    obtain ⟨h1, h2, h3⟩ := ih (by omega)
    have hp : (m + 1) * ld ≤ 9 * 99 := Nat.mul_le_mul hm hl
    simp only [szN]
    cases ov (m + 1) with
    | none =>
      refine ⟨h1, h2, ?_⟩
      show (if _ then _ else _) ≤ 9
      split <;> omega
    | some t =>
      by_cases c : ltO (szN ov ld m).1 ((m + 1) * ld) = true
      · simp only [if_pos c]
        exact ⟨fun o h => by cases h; omega, hm, h3⟩
      · simp only [if_neg c]
        exact ⟨h1, h2, h3⟩
section
variable {Z : Nat → Nat} {x n M nr nc NW i q N : Nat} {K : Sh} {I I1 : Im} {J : Jm} {R R1 : Rf} {w c d le la : Nat → Nat} {cs : Nat → List Nat}
theorem oM_le {x : Option Nat} {v : Nat} (hx : ∀ o, x = some o → o ≤ 1000000) (hv : v ≤ 1000000) : nI v ≤ oM x ↔ ¬ (ltO x v = true) := by
  cases x with
  | none =>
    show nI v ≤ jI (-1) ↔ ¬ (true = true)
    rw [nI_jI, jle (by omega) (by omega)]
    constructor
    · intro h; omega
    · intro h; exact absurd rfl h
  | some o =>
    have := hx o rfl
    show nI v ≤ nI o ↔ ¬ (decide (o < v) = true)
    rw [nI_leI (by omega) (by omega), decide_eq_true_eq]
    omega
theorem oM_lt {x : Option Nat} {v : Nat} (hx : ∀ o, x = some o → o ≤ 1000000) (hv : v ≤ 1000000) : oM x < nI v ↔ ltO x v = true := by
  cases x with
  | none =>
    show jI (-1) < nI v ↔ true = true
    rw [nI_jI, jlt (by omega) (by omega)]
    constructor
    · intro _; rfl
    · intro _; omega
  | some o =>
    have := hx o rfl
    show nI o < nI v ↔ decide (o < v) = true
    rw [nI_ltI (by omega) (by omega), decide_eq_true_eq]
theorem oM_neg {x : Option Nat} (hx : ∀ o, x = some o → o ≤ 1000000) : ¬ (oM x < -1) := by
  cases x with
  | none => show ¬ (jI (-1) < jI (-1)); rw [jlt (by omega) (by omega)]; omega
  | some o =>
    have := hx o rfl
    show ¬ (jI o < jI (-1))
    rw [jlt (by omega) (by omega)]
    omega
set_option maxHeartbeats 1000000 in
theorem c_size61 {ra kd vv rn r st : Nat} {rwr : Nat → Nat} {rwB : Nat → Nat → Nat} {P : Int32 × Im × Rf → Prop} {x3 : Int32} {I0 : Im} {R0 : Rf} (h3 : x3 = nI 0 ∨ x3 = nI 1) (h : NowR x (x + 8) i q n M N (x + 73) (x + 74) w c d cs le la K I0 R0) (hr : RuleR x r n ra kd vv rn rwr K I0 R0) (hM : M ≤ 800000) (hM7 : 100 ≤ M) (hst : st ≤ 99) (hB : ∀ b, b ≤ 9 → RwP w c cs N (wlN w N) b st kd rwr (rwB b) (wlV w c N) (wlV w d N) (wyV w c N) le la) (ov : Nat → Option Nat) (hov : ∀ b, ov b = (tripG w c cs N b st kd vv (rwB b) (wlV w c N) (wlV w d N) (wyV w c N) le la (wlN w N)).1.1)
    (kk : ∀ I1 R1, (∀ z, z < x + 29 ∨ x + 50 ≤ z → I1 z = I0 z) → (∀ z, z < x + 29 ∨ x + 50 ≤ z → R1 z = R0 z) → CSH x K R1 → P (if x3 = nI 0 then nI (szN ov (laV w c 4 1 N) 9).2.1 else nI (szN ov (laV w c 4 1 N) 9).2.2, I1, R1)) :
    ∀ (n' m f : Nat) (I : Im) (R : Rf), m + n' = 9 → n' < f → (∀ z, z < x + 29 ∨ x + 50 ≤ z → I z = I0 z) → (∀ z, z < x + 29 ∨ x + 50 ≤ z → R z = R0 z) → CSH x K R →
    Ok (f_X11_size_61 K x f (nI st) x3 (some ra) (oM (szN ov (laV w c 4 1 N) m).1) (nI (szN ov (laV w c 4 1 N) m).2.1) (nI (szN ov (laV w c 4 1 N) m).2.2) (nI (m + 1)) I R) P := by
  have hld := h.2.1.2.2.2.2.2.2.1
  intro n'
  induction n' with
  | zero =>
    intro m f I R hm hf hI hR hC
    obtain ⟨f, rfl⟩ : ∃ f', f = f' + 1 := ⟨f - 1, by omega⟩
    have : m = 9 := by omega
    subst this
    have g := kk I R hI hR hC
    unfold f_X11_size_61
    rw [if_pos (by decide)]
    rcases h3 with h3 | h3
    · rw [h3, if_pos (show nI 0 = 0 from rfl)]
      rw [h3, if_pos rfl] at g
      exact Ok.ret g
    · rw [h3, if_neg (show ¬ nI 1 = 0 by decide)]
      rw [h3, if_neg (show ¬ nI 1 = nI 0 by decide)] at g
      exact Ok.ret g
  | succ n' ih =>
    intro m f I R hm hf hI hR hC
    obtain ⟨f, rfl⟩ : ∃ f', f = f' + 1 := ⟨f - 1, by omega⟩
    have hb := szN_b (ov := ov) hld m (by omega)
    have hb9 : m + 1 ≤ 9 := by omega
    have S11 := cS11 hC
    have Q0 : QF x I0 I := QF.cls hI
    have QR0 : QR x R0 R := hR
    obtain ⟨I2, hI2⟩ : ∃ I2, I2 = u2 (u2 I (x + 48) 0 (nI (m + 1))) (x + 48) 1 (nI st) := ⟨_, rfl⟩
    obtain ⟨R2, hR2⟩ : ∃ R2, R2 = u2 R (x + 48) 2 (some ra) := ⟨_, rfl⟩
    have eI2 : ∀ z, z ≠ x + 48 → I2 z = I z := fun z hz => by rw [hI2, u2_row hz, u2_row hz]
    have eR2 : ∀ z, z ≠ x + 48 → R2 z = R z := fun z hz => by rw [hR2, u2_row hz]
    have hC2 : CSH x K R2 := by rw [hR2]; exact hC.u (i := 48) (k := 2) rfl
    have S112 := cS11 hC2
    have fI2 : ∀ z, z < x + 29 ∨ x + 50 ≤ z → I2 z = I0 z := fun z hz => by rw [eI2 z (by omega)]; exact hI z hz
    have fR2 : ∀ z, z < x + 29 ∨ x + 50 ≤ z → R2 z = R0 z := fun z hz => by rw [eR2 z (by omega)]; exact hR z hz
    have h2 := h.qf (by omega) ⟨by omega, by decide⟩ ⟨by omega, by decide⟩ (QF.cls fI2) fR2
    have cls : Ok (Option.bind (f_X10_become K R2 (x + 39) (some (x + 9)) I2) fun q18 => f_X11_send K x (some q) (some (x + 39)) (some (x + 48)) q18 R2) (fun s => (∀ z, z < x + 29 ∨ x + 50 ≤ z → s.1 z = I0 z) ∧ (∀ z, z < x + 29 ∨ x + 50 ≤ z → s.2 z = R0 z) ∧ CSH x K s.2 ∧ TripC (x + 29) (x + 39) (wlN w N) s.1 (tripG w c cs N (m + 1) st kd vv (rwB (m + 1)) (wlV w c N) (wlV w d N) (wyV w c N) le la (wlN w N))) := by
      refine Ok.bind (c_become (P := fun I1 => (∀ z, z < x + 40 ∨ x + 44 ≤ z → I1 z = I2 z) ∧ WlF (x + 39) (wlN w N) M I1 (wlV w c N) (wlV w d N) le la) (cS10t hC2) (cS10n hC2) (fun i j hi hj => by omega) (fun I1 g1 g2 => ⟨fun y hy => g1 y (by omega) (by omega) (by omega) (by omega), trial_wl h2 g2⟩)) (fun I1 hI1 => ?_)
      obtain ⟨g1, g2⟩ := hI1
      have fI1 : ∀ z, z < x + 29 ∨ x + 50 ≤ z → I1 z = I0 z := fun z hz => by rw [g1 z (by omega)]; exact fI2 z hz
      have hr1 := hr.qf (QF.cls fI1) fR2
      refine Ok.mono (cls_go (a := x + 48) (rw := rwB (m + 1)) (rwr := rwr) hC2 (Or.inr rfl) (h.2.1.qf (QF.cls fI1) fR2) (Or.inl rfl) (by rw [cCar hC2]) (by rw [g1 _ (by omega), hI2, u2_ne (by decide), u2_eq]) (by rw [g1 _ (by omega), hI2, u2_eq]) (by rw [hR2, u2_eq]) hr1.2.1 (by omega) hb9 g2 hM (by omega) (hB _ hb9).1 (hB _ hb9).2.1 (hB _ hb9).2.2) (fun s hs => ⟨fun z hz => (hs.1 z (by omega) (by omega) (by omega)).trans (fI1 z hz), fun z hz => (hs.2.1 z (by omega)).trans (fR2 z hz), hs.2.2⟩)
    obtain ⟨⟨I3, R3⟩, s1, s2, s3, s4, s5⟩ := cls
    have s2 : ∀ z, z < x + 29 ∨ x + 50 ≤ z → I3 z = I0 z := s2
    have s3 : ∀ z, z < x + 29 ∨ x + 50 ≤ z → R3 z = R0 z := s3
    have s4 : CSH x K R3 := s4
    obtain ⟨I4, y1, y2⟩ := bnd s1
    have S113 := cS11 s4
    have tb := trip_b h (b := m + 1) (st := st) (kd := kd) hr.2.1.2.2.2.2.2.1 (hB _ hb9).1 (by omega) hM rfl
    have h3' := h.qf (by omega) ⟨by omega, by decide⟩ ⟨by omega, by decide⟩ (QF.cls s2) s3
    have t0 : I3 (x + 29) 0 = oI (ov (m + 1)) := by rw [hov]; exact s5.1
    have cw := c_worth s4 h3'.2.1 h3'.1 (b := m + 1) (T := tripG w c cs N (m + 1) st kd vv (rwB (m + 1)) (wlV w c N) (wlV w d N) (wyV w c N) le la (wlN w N)) s5.1 tb.1
    rw [← hov] at cw
    have hov9 : ∀ t, ov (m + 1) = some t → t ≤ 900000 := fun t ht => by rw [hov] at ht; exact tb.1 t ht
    have go : ∀ ed, (szN ov (laV w c 4 1 N) (m + 1)).2.2 = ed → Ok (f_X11_size_134 K x (f_X11_size_61 K x f) (nI st) x3 (some ra) (oM (szN ov (laV w c 4 1 N) m).1) (nI (szN ov (laV w c 4 1 N) m).2.1) (nI ed) (nI (m + 1)) I3 R3) P := by
      intro ed hed
      have nx := ih (m + 1) f I3 R3 (by omega) (by omega) s2 s3 s4
      rw [hed] at nx
      unfold f_X11_size_134
      rw [o11_12 S113, obs, t0]
      cases hv : ov (m + 1) with
      | none =>
        rw [if_pos (show oI none = -5 from rfl), L1, nI_add]
        simp only [szN, hv] at nx
        exact nx
      | some t =>
        rw [hv] at cw
        have cw : f_X11_worthOf K I3 R3 x (nI (m + 1)) = some (nI ((m + 1) * laV w c 4 1 N)) := cw
        have hp : (m + 1) * laV w c 4 1 N ≤ 9 * 99 := Nat.mul_le_mul hb9 hld
        rw [if_neg (show ¬ (oI (some t) = -5) from nI_no5 (by have := hov9 t hv; omega)), cw, obs]
        have hl := oM_le (x := (szN ov (laV w c 4 1 N) m).1) (v := (m + 1) * laV w c 4 1 N) (fun o ho => by have := hb.1 o ho; omega) (by omega)
        simp only [szN, hv] at nx
        by_cases c1 : nI ((m + 1) * laV w c 4 1 N) ≤ oM (szN ov (laV w c 4 1 N) m).1
        · rw [if_pos c1, L1, nI_add]
          rw [if_neg (hl.mp c1)] at nx
          exact nx
        · rw [if_neg c1, obs, L1, nI_add]
          rw [if_pos (Classical.not_not.mp (fun z => c1 (hl.mpr z)))] at nx
          exact nx
    unfold f_X11_size_61
    rw [if_neg (show ¬ (9 : Int32) < nI (m + 1) by rw [L9, nI_ltI (by omega) (by omega)]; omega), o11_17 S11, obs]
    unfold f_X1_become
    rw [obs, obs, obs, obs, ← hI2, ← hR2]
    show Ok (Option.bind (ob K 7 (R2 x 7)) _) P
    rw [o11_7 S112, obs]
    show Ok (Option.bind (ob K 11 (R2 x 15)) _) P
    rw [o11_15 S112, obs]
    show Ok (Option.bind (f_X10_become K R2 (x + 39) (R2 (x + 8) 1) I2) fun q18 => Option.bind (f_X11_send K x (R2 (x + 8) 0) (R2 x 15) (R2 x 17) q18 R2) _) P
    rw [r6_1 (cS6n hC2), y1, obs, h2.1, r11_15 S112, r11_17 S112, y2, obs]
    show Ok (Option.bind (ob K 9 (R3 x 12)) fun a22 => if I3 a22 0 = -5 then _ else _) P
    rw [o11_12 S113, obs, t0]
    cases hv : ov (m + 1) with
    | none =>
      rw [if_pos (show oI none = -5 from rfl)]
      by_cases c1 : (szN ov (laV w c 4 1 N) m).2.2 = 0
      · rw [if_pos (by rw [c1]; rfl)]
        exact go (m + 1) (by simp only [szN, hv]; rw [if_pos c1])
      · rw [if_neg (by rw [L0, nI_eq (by omega) (by omega)]; exact c1)]
        exact go _ (by simp only [szN, hv]; rw [if_neg c1])
    | some t =>
      rw [if_neg (show ¬ (oI (some t) = -5) from nI_no5 (by have := hov9 t hv; omega))]
      refine go _ ?_
      simp only [szN, hv]
      split <;> rfl
set_option maxHeartbeats 1000000 in
theorem m_size56 {ra kd vv rn r st : Nat} {rwr : Nat → Nat} {rwB : Nat → Nat → Nat} {P : Int32 × Im → Prop} {x3 : Int32} {I0 : Im} (hS : S12 (x + 62) K R) (hi : i < 5) (ht : I0 (x + 62) 1 = nI i) (h3 : x3 = nI 0 ∨ x3 = nI 1) (h : NowR x (x + 8) i q n M N (x + 73) (x + 74) w c d cs le la K I0 R) (hr : RuleR x r n ra kd vv rn rwr K I0 R) (hr10 : r < 10) (hM : M ≤ 800000) (hM7 : 100 ≤ M) (hst : st ≤ 99) (hB : ∀ b, b ≤ 9 → RwP w c cs N (wlN w N) b st kd rwr (rwB b) (wlV w c N) (wlV w d N) (wyV w c N) le la) (ov : Nat → Option Nat) (hov : ∀ b, ov b = (tripG w c cs N b st kd vv (rwB b) (wlV w c N) (wlV w d N) (wyV w c N) le la (wlN w N)).1.1)
    (kk : ∀ I1, FM (x + 62) mS mF I0 I1 → P (if x3 = nI 0 then nI (szN ov (laV w c 4 1 N) 9).2.1 else nI (szN ov (laV w c 4 1 N) 9).2.2, I1)) :
    ∀ (n' m f : Nat) (I : Im), m + n' = 9 → n' < f → FM (x + 62) mS mF I0 I →
    Ok (f_X12_size_56 K R (x + 62) f (nI st) (nI r) x3 (nI (szN ov (laV w c 4 1 N) m).2.1) (oM (szN ov (laV w c 4 1 N) m).1) (nI (szN ov (laV w c 4 1 N) m).2.2) (nI (m + 1)) I) P := by
  have hld := h.2.1.2.2.2.2.2.2.1
  intro n'
  induction n' with
  | zero =>
    intro m f I hm hf hI
    obtain ⟨f, rfl⟩ : ∃ f', f = f' + 1 := ⟨f - 1, by omega⟩
    have : m = 9 := by omega
    subst this
    have g := kk I hI
    unfold f_X12_size_56
    rw [if_pos (by decide)]
    rcases h3 with h3 | h3
    · rw [h3, if_pos (show nI 0 = 0 from rfl)]
      rw [h3, if_pos rfl] at g
      exact Ok.ret g
    · rw [h3, if_neg (show ¬ nI 1 = 0 by decide)]
      rw [h3, if_neg (show ¬ nI 1 = nI 0 by decide)] at g
      exact Ok.ret g
  | succ n' ih =>
    intro m f I hm hf hI
    obtain ⟨f, rfl⟩ : ∃ f', f = f' + 1 := ⟨f - 1, by omega⟩
    have hb := szN_b (ov := ov) hld m (by omega)
    have hb9 : m + 1 ≤ 9 := by omega
    have Q0 : QF x I0 I := QF.fm hI (by decide) (by decide)
    have hn := h.qf (by omega) ⟨by omega, by decide⟩ ⟨by omega, by decide⟩ Q0 QR.refl
    have ti : I (x + 62) 1 = nI i := by rw [Q0.f (k := 1) (by decide)]; exact ht
    have tb := trip_b h (b := m + 1) (st := st) (kd := kd) hr.2.1.2.2.2.2.2.1 (hB _ hb9).1 (by omega) hM rfl
    have hov9 : ∀ t, ov (m + 1) = some t → t ≤ 900000 := fun t ht => by rw [hov] at ht; exact tb.1 t ht
    obtain ⟨r1, r2, r3, r4, r5, r6, r7, r8, r9, r10, r11⟩ := hr
    have ref : Ok (Option.bind (f_X12_lay K R (x + 62) I) fun q6 => Option.bind (ldI K q6 (R (x + 62) 30) (nI r)) fun v8 => f_X12_go K R (x + 62) (nI (m + 1)) (nI st) (nI r) v8 q6) (fun I2 => FM (x + 62) mS mF I I2 ∧ TripM (x + 62) (wlN w N) I2 (tripG w c cs N (m + 1) st kd vv (rwB (m + 1)) (wlV w c N) (wlV w d N) (wyV w c N) le la (wlN w N))) := by
      refine Ok.bind (lay_R (P := fun I2 => FM (x + 62) layS [21] I I2 ∧ LayG (x + 62) (wlN w N) M I2 (wlV w c N) (wlV w d N) (wyV w c N) le la) hS hi ti hn (fun I2 F L => ⟨F, L⟩)) (fun I2 hI2 => ?_)
      obtain ⟨F, L⟩ := hI2
      have hQ2 : QF x I0 I2 := Q0.trans (QF.fm F (by decide) (by decide))
      have t4 := h.2.1.qf hQ2 (QR.refl (R := R))
      have l4 : ldI K I2 (R (x + 62) 30) (nI r) = some (nI kd) := by
        rw [l12_30 hS (by omega)]
        exact congrArg some ((congrFun (hQ2.m (j := 81) (by omega) (by decide)) r).trans r8)
      rw [l4, obs]
      exact m_goG (rw := rwB (m + 1)) (v := vv) hS hi hb9 (by have := r2.2.2.2.2.1; omega) (by omega) r2.2.2.2.2.2.1 (hB _ hb9).1 hM (by omega) t4.1 t4.2.1 (by rw [hQ2.f (k := 1) (by decide)]; exact ht) L (by show I2 (x + 82) r = _; rw [hQ2.m (j := 82) (by omega) (by decide)]; exact r9) (fun z k hk => ref_row (rn := rn) (by rw [hQ2.m (j := 83) (by omega) (by decide)]; exact r10) r6 (fun k hk => by rw [hQ2.m (j := 84) (by omega) (by decide)]; exact r11 k hk) (fun k hk => (r7 k).2 hk) r2.2.2.2.2.1 z (hB _ hb9).2.1) (hB _ hb9).2.2 (fun I3 h3 T => ⟨(F.mono (by decide) (by decide)).trans (h3.mono (by decide) (by decide)), T⟩)
    obtain ⟨I2, u1, u2', u4⟩ := ref
    obtain ⟨I3, x1, x2⟩ := bnd u1
    obtain ⟨v8, x4, x5⟩ := bnd x2
    have F2 := hI.trans u2'
    have Q2 : QF x I0 I2 := QF.fm F2 (by decide) (by decide)
    have t50 : I2 (x + 62) 50 = oI (ov (m + 1)) := by rw [hov]; exact u4.1
    have hl : f_X12_last K I2 R (x + 62) 4 1 = some (nI (laV w c 4 1 N)) := by
      rw [L4, L1]
      exact m_last hS (s := 4) (e := 1) (by omega) hi (h.2.1.qf Q2 (QR.refl (R := R))).1 (by rw [Q2.f (k := 1) (by decide)]; exact ht)
    have hp : (m + 1) * laV w c 4 1 N ≤ 9 * 99 := Nat.mul_le_mul hb9 hld
    have nx := ih (m + 1) f I2 (by omega) (by omega) F2
    unfold f_X12_size_56
    rw [if_neg (show ¬ (10 : Int32) ≤ nI (m + 1) by rw [L10, nI_leI (by omega) (by omega)]; omega), x1, obs, x4, obs, x5, obs, t50]
    unfold f_X12_size_98 f_X12_size_100 f_X12_size_122
    rw [t50]
    cases hv : ov (m + 1) with
    | none =>
      simp only [szN, hv] at nx
      have n0 : ¬ ((0 : Int32) ≤ oI none) := by decide
      have nn := oM_neg (x := (szN ov (laV w c 4 1 N) m).1) (fun o ho => by have := hb.1 o ho; omega)
      rw [if_neg n0, if_neg n0]
      by_cases c1 : (szN ov (laV w c 4 1 N) m).2.2 = 0
      · rw [if_pos c1] at nx
        rw [if_pos (by rw [c1]; rfl), if_neg nn, L1, nI_add]
        exact nx
      · rw [if_neg c1] at nx
        rw [if_neg (by rw [L0, nI_eq (by omega) (by omega)]; exact c1), if_neg nn, L1, nI_add]
        exact nx
    | some t =>
      simp only [szN, hv] at nx
      have y0 : (0 : Int32) ≤ oI (some t) := yes_nI (by have := hov9 t hv; omega)
      have hlt := oM_lt (x := (szN ov (laV w c 4 1 N) m).1) (v := (m + 1) * laV w c 4 1 N) (fun o ho => by have := hb.1 o ho; omega) (by omega)
      rw [if_pos y0, if_pos y0, hl, obs, pk_mul]
      by_cases c1 : oM (szN ov (laV w c 4 1 N) m).1 < nI ((m + 1) * laV w c 4 1 N)
      · rw [if_pos (hlt.mp c1)] at nx
        rw [if_pos c1, L1, nI_add]
        exact nx
      · rw [if_neg (fun z => c1 (hlt.mpr z))] at nx
        rw [if_neg c1, L1, nI_add]
        exact nx
theorem choose9 {α : Type} {Pr : Nat → α → Prop} (d0 : α) (h : ∀ b, b ≤ 9 → ∃ a, Pr b a) : ∃ f : Nat → α, ∀ b, b ≤ 9 → Pr b (f b) := by
  refine Classical.axiomOfChoice (r := fun b a => b ≤ 9 → Pr b a) (fun b => ?_)
  by_cases c : b ≤ 9
  · obtain ⟨a, ha⟩ := h b c
    exact ⟨a, fun _ => ha⟩
  · exact ⟨d0, fun z => absurd z c⟩
set_option maxHeartbeats 1000000 in
theorem k_size (h : Rel Z x n M K I J R) (hM7 : 100 ≤ M) (v1 v2 v3 : Int32) : ∃ r I1 R1 I2, f_X11_size K x v1 v2 v3 I R = some (r, I1, R1) ∧ f_X12_size K R1 (x + 62) v1 v2 v3 I1 = some (r, I2) ∧ Rel Z x n M K I2 J R1 := by
  have h0 := h
  obtain ⟨hC, hS, hn, hMb, hZ, nr, nc, NW, hG⟩ := h
  have hG0 := hG
  obtain ⟨hnum, hru, hca, hnow, -⟩ := RelG_iff.mp hG
  have e1' : ¬ (nI 1 = 0) := by decide
  have e0' : nI 0 = 0 := rfl
  have S11 := cS11 hC
  have o7 : ob K 7 (R x 7) = some (x + 8) := o11_7 S11
  have hnr := hnum.1
  unfold f_X11_size f_X12_size
  rcases rule_at hC hG0 v2 with ⟨r, ra, kd, vv, rn, rwr, q1, q2, q3, q4, q5⟩ | ⟨q4, q5⟩
  · rcases rg v3 0 1 (by omega) (by omega) with ⟨m, p1, p2, p3, p4, p5⟩ | ⟨p4, p5, -⟩
    · have p4 : f_X11_within v3 0 1 = some (nI 1) := p4
      have p5 : ∀ o, f_X12_in o v3 0 1 = some (nI 1) := p5
      rcases rg v1 0 99 (by omega) (by omega) with ⟨st, s1, s2, s3, s4, s5⟩ | ⟨s4, s5, -⟩
      · have s4 : f_X11_within v1 0 99 = some (nI 1) := s4
        have s5 : ∀ o, f_X12_in o v1 0 99 = some (nI 1) := s5
        rcases hnow.1 with ⟨t1, t2⟩ | ⟨i, q, N, w, c, d, cs, le, la, t1, t2, t3⟩
        · refine ⟨-3, I, R, I, ?_, ?_, h0⟩
          · rw [q4, obs, if_neg (by simp), p4, obs, if_neg e1', s4, obs, if_neg e1', o7, obs, if_pos t2]
          · rw [q5, obs, if_neg e1', p5, obs, if_neg e1', s5, obs, if_neg e1', t1, if_neg no_neg1]
        · have hi5 : i < 5 := by have := hnum.2.2.1; omega
          obtain ⟨rwB, hB⟩ := choose9 (Pr := fun b rw => RwP w c cs N (wlN w N) b st kd rwr rw (wlV w c N) (wlV w d N) (wyV w c N) le la) (fun _ => 0) (fun b hb => RwP.ex hb t3.2.1.1 (wlN w N) (fun k => (q3.2.2.2.2.2.2.1 k).1))
          obtain ⟨ov, hov⟩ : ∃ ov : Nat → Option Nat, ∀ b, ov b = (tripG w c cs N b st kd vv (rwB b) (wlV w c N) (wlV w d N) (wyV w c N) le la (wlN w N)).1.1 := ⟨_, fun _ => rfl⟩
          have h3 : v3 = nI 0 ∨ v3 = nI 1 := by
            rcases (by omega : m = 0 ∨ m = 1) with z | z
            · subst z; exact Or.inl p1
            · subst z; exact Or.inr p1
          have nn : ¬ (R (x + 8) 0 = none) := by rw [t3.1]; simp
          obtain ⟨⟨r1, I1, R1⟩, g0, g1, g2, g3, g4⟩ := c_size61 (x3 := v3) (P := fun s => s.1 = (if v3 = nI 0 then nI (szN ov (laV w c 4 1 N) 9).2.1 else nI (szN ov (laV w c 4 1 N) 9).2.2) ∧ (∀ z, z < x + 29 ∨ x + 50 ≤ z → s.2.1 z = I z) ∧ (∀ z, z < x + 29 ∨ x + 50 ≤ z → s.2.2 z = R z) ∧ CSH x K s.2.2) h3 t3 q3 hMb hM7 s3 hB ov hov (fun I1 R1 a b c => ⟨rfl, a, b, c⟩) 9 0 FU I R rfl (FU_lt (by omega)) (fun _ _ => rfl) (fun _ _ => rfl) hC
          have g1 : r1 = _ := g1
          have g2 : ∀ z, z < x + 29 ∨ x + 50 ≤ z → I1 z = I z := g2
          have g3 : ∀ z, z < x + 29 ∨ x + 50 ≤ z → R1 z = R z := g3
          have Q1 : QF x I I1 := QF.cls g2
          have hS1 : MSH (x + 62) K R1 := hS.congr (fun _ _ => rfl) (g3 _ (by omega))
          have t3' := t3.qf (by omega) ⟨by omega, by decide⟩ ⟨by omega, by decide⟩ Q1 g3
          have ti1 : I1 (x + 62) 1 = nI i := by rw [Q1.f (k := 1) (by decide)]; exact t1
          obtain ⟨⟨r2, I2⟩, k0, k1, k2⟩ := m_size56 (x3 := v3) (P := fun s => s.1 = (if v3 = nI 0 then nI (szN ov (laV w c 4 1 N) 9).2.1 else nI (szN ov (laV w c 4 1 N) 9).2.2) ∧ FM (x + 62) mS mF I1 s.2) hS1 hi5 ti1 h3 t3' (q3.qf Q1 g3) (by omega : r < 10) hMb hM7 s3 hB ov hov (fun I2 F => ⟨rfl, F⟩) 9 0 FU I1 rfl (FU_lt (by omega)) FM.refl
          have k1 : r2 = _ := k1
          have k2 : FM (x + 62) mS mF I1 I2 := k2
          have Q2 : QF x I I2 := Q1.trans (QF.fm k2 (by decide) (by decide))
          refine ⟨r1, I1, R1, I2, ?_, ?_, h0.qf Q2 g3 g4 hS1⟩
          · rw [q4, obs, if_neg (by simp), p4, obs, if_neg e1', s4, obs, if_neg e1', o7, obs, if_neg nn, s1]
            exact g0
          · rw [isRule_eq (Q1.f (k := 27) (by decide)), q5, obs, if_neg e1', p5, obs, if_neg e1', s5, obs, if_neg e1', ti1, if_pos (yes_nI (by omega)), s1, q1]
            rw [g1, ← k1]
            exact k0
      · have s4 : f_X11_within v1 0 99 = some (nI 0) := s4
        have s5 : ∀ o, f_X12_in o v1 0 99 = some (nI 0) := s5
        refine ⟨-2, I, R, I, ?_, ?_, h0⟩
        · rw [q4, obs, if_neg (by simp), p4, obs, if_neg e1', s4, obs, if_pos e0']
        · rw [q5, obs, if_neg e1', p5, obs, if_neg e1', s5, obs, if_pos e0']
    · have p4 : f_X11_within v3 0 1 = some (nI 0) := p4
      have p5 : ∀ o, f_X12_in o v3 0 1 = some (nI 0) := p5
      refine ⟨-1, I, R, I, ?_, ?_, h0⟩
      · rw [q4, obs, if_neg (by simp), p4, obs, if_pos e0']
      · rw [q5, obs, if_neg e1', p5, obs, if_pos e0']
  · refine ⟨-1, I, R, I, ?_, ?_, h0⟩
    · rw [q4, obs, if_pos rfl]
    · rw [q5, obs, if_pos e0']
end
