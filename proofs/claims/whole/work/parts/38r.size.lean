def ltO (x : Option Nat) (v : Nat) : Bool := match x with
  | none => true
  | some o => decide (o < v)
/-- SIZE, beasts by beasts: the most, with how many, the edge -/
def szN (ov : Nat → Option Nat) (ld : Nat) : Nat → Option Nat × Nat × Nat
  | 0 => (none, 0, 0)
  | m + 1 => match ov (m + 1) with
    | none => ((szN ov ld m).1, (szN ov ld m).2.1, if (szN ov ld m).2.2 = 0 then m + 1 else (szN ov ld m).2.2)
    | some _ => if ltO (szN ov ld m).1 ((m + 1) * ld) = true then (some ((m + 1) * ld), m + 1, (szN ov ld m).2.2) else szN ov ld m
theorem szN_b {ov : Nat → Option Nat} {ld : Nat} (hl : ld ≤ 99) : ∀ m, m ≤ 9 → (∀ o, (szN ov ld m).1 = some o → o ≤ 891) ∧ (szN ov ld m).2.1 ≤ 9 ∧ (szN ov ld m).2.2 ≤ 9 := by
  intro m
  induction m with
  | zero => intro _; exact ⟨fun o h => by simp [szN] at h, by simp [szN], by simp [szN]⟩
  | succ m ih =>
    intro hm
    obtain ⟨h1, h2, h3⟩ := ih (by omega)
    have hp : (m + 1) * ld ≤ 9 * 99 := Nat.mul_le_mul hm hl
    simp only [szN]
    cases ov (m + 1) with
    | none =>
      refine ⟨h1, h2, ?_⟩
      show (if _ then _ else _) ≤ 9
      split <;> omega
    | some t =>
      by_cases c : ltO (szN ov ld m).1 ((m + 1) * ld) = true
      · simp only [if_pos c]
        exact ⟨fun o h => by cases h; omega, hm, h3⟩
      · simp only [if_neg c]
        exact ⟨h1, h2, h3⟩
section
variable {Z : Nat → Nat} {x n M nr nc NW i q N : Nat} {K : Sh} {I I1 : Im} {J : Jm} {R R1 : Rf} {w c d le la : Nat → Nat} {cs : Nat → List Nat}
theorem oM_le {x : Option Nat} {v : Nat} (hx : ∀ o, x = some o → o ≤ 1000000) (hv : v ≤ 1000000) : nI v ≤ oM x ↔ ¬ (ltO x v = true) := by
  cases x with
  | none =>
    show nI v ≤ jI (-1) ↔ ¬ (true = true)
    rw [nI_jI, jle (by omega) (by omega)]
    constructor
    · intro h; omega
    · intro h; exact absurd rfl h
  | some o =>
    have := hx o rfl
    show nI v ≤ nI o ↔ ¬ (decide (o < v) = true)
    rw [nI_leI (by omega) (by omega), decide_eq_true_eq]
    omega
theorem oM_lt {x : Option Nat} {v : Nat} (hx : ∀ o, x = some o → o ≤ 1000000) (hv : v ≤ 1000000) : oM x < nI v ↔ ltO x v = true := by
  cases x with
  | none =>
    show jI (-1) < nI v ↔ true = true
    rw [nI_jI, jlt (by omega) (by omega)]
    constructor
    · intro _; rfl
    · intro _; omega
  | some o =>
    have := hx o rfl
    show nI o < nI v ↔ decide (o < v) = true
    rw [nI_ltI (by omega) (by omega), decide_eq_true_eq]
theorem oM_neg {x : Option Nat} (hx : ∀ o, x = some o → o ≤ 1000000) : ¬ (oM x < -1) := by
  cases x with
  | none => show ¬ (jI (-1) < jI (-1)); rw [jlt (by omega) (by omega)]; omega
  | some o =>
    have := hx o rfl
    show ¬ (jI o < jI (-1))
    rw [jlt (by omega) (by omega)]
    omega
set_option maxHeartbeats 1000000 in
theorem c_size61 {ra kd vv rn r st : Nat} {rwr : Nat → Nat} {rwB : Nat → Nat → Nat} {P : Int32 × Im × Rf → Prop} {x3 : Int32} {I0 : Im} {R0 : Rf} (h3 : x3 = nI 0 ∨ x3 = nI 1) (h : NowR x (x + 8) i q n M N (x + 73) (x + 74) w c d cs le la K I0 R0) (hr : RuleR x r n ra kd vv rn rwr K I0 R0) (hM : M ≤ 800000) (hM7 : 100 ≤ M) (hst : st ≤ 99) (hB : ∀ b, b ≤ 9 → RwP w c cs N (wlN w N) b st kd rwr (rwB b) (wlV w c N) (wlV w d N) (wyV w c N) le la) (ov : Nat → Option Nat) (hov : ∀ b, ov b = (tripG w c cs N b st kd vv (rwB b) (wlV w c N) (wlV w d N) (wyV w c N) le la (wlN w N)).1.1)
    (kk : ∀ I1 R1, (∀ z, z < x + 29 ∨ x + 50 ≤ z → I1 z = I0 z) → (∀ z, z < x + 29 ∨ x + 50 ≤ z → R1 z = R0 z) → CSH x K R1 → P (if x3 = nI 0 then nI (szN ov (laV w c 4 1 N) 9).2.1 else nI (szN ov (laV w c 4 1 N) 9).2.2, I1, R1)) :
    ∀ (n' m f : Nat) (I : Im) (R : Rf), m + n' = 9 → n' < f → (∀ z, z < x + 29 ∨ x + 50 ≤ z → I z = I0 z) → (∀ z, z < x + 29 ∨ x + 50 ≤ z → R z = R0 z) → CSH x K R →
    Ok (f_X11_size_61 K x f (nI st) x3 (some ra) (oM (szN ov (laV w c 4 1 N) m).1) (nI (szN ov (laV w c 4 1 N) m).2.1) (nI (szN ov (laV w c 4 1 N) m).2.2) (nI (m + 1)) I R) P := by
  have hld := h.2.1.2.2.2.2.2.2.1
  intro n'
  induction n' with
  | zero =>
    intro m f I R hm hf hI hR hC
    obtain ⟨f, rfl⟩ : ∃ f', f = f' + 1 := ⟨f - 1, by omega⟩
    have : m = 9 := by omega
    subst this
    have g := kk I R hI hR hC
    unfold f_X11_size_61
    rw [if_pos (by decide)]
    rcases h3 with h3 | h3
    · rw [h3, if_pos (show nI 0 = 0 from rfl)]
      rw [h3, if_pos rfl] at g
      exact Ok.ret g
    · rw [h3, if_neg (show ¬ nI 1 = 0 by decide)]
      rw [h3, if_neg (show ¬ nI 1 = nI 0 by decide)] at g
      exact Ok.ret g
  | succ n' ih =>
    intro m f I R hm hf hI hR hC
    obtain ⟨f, rfl⟩ : ∃ f', f = f' + 1 := ⟨f - 1, by omega⟩
    have hb := szN_b (ov := ov) hld m (by omega)
    have hb9 : m + 1 ≤ 9 := by omega
    have S11 := cS11 hC
    have Q0 : QF x I0 I := QF.cls hI
    have QR0 : QR x R0 R := hR
    obtain ⟨I2, hI2⟩ : ∃ I2, I2 = u2 (u2 I (x + 48) 0 (nI (m + 1))) (x + 48) 1 (nI st) := ⟨_, rfl⟩
    obtain ⟨R2, hR2⟩ : ∃ R2, R2 = u2 R (x + 48) 2 (some ra) := ⟨_, rfl⟩
    have eI2 : ∀ z, z ≠ x + 48 → I2 z = I z := fun z hz => by rw [hI2, u2_row hz, u2_row hz]
    have eR2 : ∀ z, z ≠ x + 48 → R2 z = R z := fun z hz => by rw [hR2, u2_row hz]
    have hC2 : CSH x K R2 := by rw [hR2]; exact hC.u (i := 48) (k := 2) rfl
    have S112 := cS11 hC2
    have fI2 : ∀ z, z < x + 29 ∨ x + 50 ≤ z → I2 z = I0 z := fun z hz => by rw [eI2 z (by omega)]; exact hI z hz
    have fR2 : ∀ z, z < x + 29 ∨ x + 50 ≤ z → R2 z = R0 z := fun z hz => by rw [eR2 z (by omega)]; exact hR z hz
    have h2 := h.qf (by omega) ⟨by omega, by decide⟩ ⟨by omega, by decide⟩ (QF.cls fI2) fR2
    have cls : Ok (Option.bind (f_X10_become K R2 (x + 39) (some (x + 9)) I2) fun q18 => f_X11_send K x (some q) (some (x + 39)) (some (x + 48)) q18 R2) (fun s => (∀ z, z < x + 29 ∨ x + 50 ≤ z → s.1 z = I0 z) ∧ (∀ z, z < x + 29 ∨ x + 50 ≤ z → s.2 z = R0 z) ∧ CSH x K s.2 ∧ TripC (x + 29) (x + 39) (wlN w N) s.1 (tripG w c cs N (m + 1) st kd vv (rwB (m + 1)) (wlV w c N) (wlV w d N) (wyV w c N) le la (wlN w N))) := by
      refine Ok.bind (c_become (P := fun I1 => (∀ z, z < x + 40 ∨ x + 44 ≤ z → I1 z = I2 z) ∧ WlF (x + 39) (wlN w N) M I1 (wlV w c N) (wlV w d N) le la) (cS10t hC2) (cS10n hC2) (fun i j hi hj => by omega) (fun I1 g1 g2 => ⟨fun y hy => g1 y (by omega) (by omega) (by omega) (by omega), trial_wl h2 g2⟩)) (fun I1 hI1 => ?_)
      obtain ⟨g1, g2⟩ := hI1
      have fI1 : ∀ z, z < x + 29 ∨ x + 50 ≤ z → I1 z = I0 z := fun z hz => by rw [g1 z (by omega)]; exact fI2 z hz
      have hr1 := hr.qf (QF.cls fI1) fR2
      refine Ok.mono (cls_go (a := x + 48) (rw := rwB (m + 1)) (rwr := rwr) hC2 (Or.inr rfl) (h.2.1.qf (QF.cls fI1) fR2) (Or.inl rfl) (by rw [cCar hC2]) (by rw [g1 _ (by omega), hI2, u2_ne (by decide), u2_eq]) (by rw [g1 _ (by omega), hI2, u2_eq]) (by rw [hR2, u2_eq]) hr1.2.1 (by omega) hb9 g2 hM (by omega) (hB _ hb9).1 (hB _ hb9).2.1 (hB _ hb9).2.2) (fun s hs => ⟨fun z hz => (hs.1 z (by omega) (by omega) (by omega)).trans (fI1 z hz), fun z hz => (hs.2.1 z (by omega)).trans (fR2 z hz), hs.2.2⟩)
    obtain ⟨⟨I3, R3⟩, s1, s2, s3, s4, s5⟩ := cls
    have s2 : ∀ z, z < x + 29 ∨ x + 50 ≤ z → I3 z = I0 z := s2
    have s3 : ∀ z, z < x + 29 ∨ x + 50 ≤ z → R3 z = R0 z := s3
    have s4 : CSH x K R3 := s4
    obtain ⟨I4, y1, y2⟩ := bnd s1
    have S113 := cS11 s4
    have tb := trip_b h (b := m + 1) (st := st) (kd := kd) hr.2.1.2.2.2.2.2.1 (hB _ hb9).1 (by omega) hM rfl
    have h3' := h.qf (by omega) ⟨by omega, by decide⟩ ⟨by omega, by decide⟩ (QF.cls s2) s3
    have t0 : I3 (x + 29) 0 = oI (ov (m + 1)) := by rw [hov]; exact s5.1
    have cw := c_worth s4 h3'.2.1 h3'.1 (b := m + 1) (T := tripG w c cs N (m + 1) st kd vv (rwB (m + 1)) (wlV w c N) (wlV w d N) (wyV w c N) le la (wlN w N)) s5.1 tb.1
    rw [← hov] at cw
    have hov9 : ∀ t, ov (m + 1) = some t → t ≤ 900000 := fun t ht => by rw [hov] at ht; exact tb.1 t ht
    have go : ∀ ed, (szN ov (laV w c 4 1 N) (m + 1)).2.2 = ed → Ok (f_X11_size_134 K x (f_X11_size_61 K x f) (nI st) x3 (some ra) (oM (szN ov (laV w c 4 1 N) m).1) (nI (szN ov (laV w c 4 1 N) m).2.1) (nI ed) (nI (m + 1)) I3 R3) P := by
      intro ed hed
      have nx := ih (m + 1) f I3 R3 (by omega) (by omega) s2 s3 s4
      rw [hed] at nx
      unfold f_X11_size_134
      rw [o11_12 S113, obs, t0]
      cases hv : ov (m + 1) with
      | none =>
        rw [if_pos (show oI none = -5 from rfl), L1, nI_add]
        simp only [szN, hv] at nx
        exact nx
      | some t =>
        rw [hv] at cw
        have cw : f_X11_worthOf K I3 R3 x (nI (m + 1)) = some (nI ((m + 1) * laV w c 4 1 N)) := cw
        have hp : (m + 1) * laV w c 4 1 N ≤ 9 * 99 := Nat.mul_le_mul hb9 hld
        rw [if_neg (show ¬ (oI (some t) = -5) from nI_no5 (by have := hov9 t hv; omega)), cw, obs]
        have hl := oM_le (x := (szN ov (laV w c 4 1 N) m).1) (v := (m + 1) * laV w c 4 1 N) (fun o ho => by have := hb.1 o ho; omega) (by omega)
        simp only [szN, hv] at nx
        by_cases c1 : nI ((m + 1) * laV w c 4 1 N) ≤ oM (szN ov (laV w c 4 1 N) m).1
        · rw [if_pos c1, L1, nI_add]
          rw [if_neg (hl.mp c1)] at nx
          exact nx
        · rw [if_neg c1, obs, L1, nI_add]
          rw [if_pos (Classical.not_not.mp (fun z => c1 (hl.mpr z)))] at nx
          exact nx
    unfold f_X11_size_61
    rw [if_neg (show ¬ (9 : Int32) < nI (m + 1) by rw [L9, nI_ltI (by omega) (by omega)]; omega), o11_17 S11, obs]
    unfold f_X1_become
    rw [obs, obs, obs, obs, ← hI2, ← hR2]
    show Ok (Option.bind (ob K 7 (R2 x 7)) _) P
    rw [o11_7 S112, obs]
    show Ok (Option.bind (ob K 11 (R2 x 15)) _) P
    rw [o11_15 S112, obs]
    show Ok (Option.bind (f_X10_become K R2 (x + 39) (R2 (x + 8) 1) I2) fun q18 => Option.bind (f_X11_send K x (R2 (x + 8) 0) (R2 x 15) (R2 x 17) q18 R2) _) P
    rw [r6_1 (cS6n hC2), y1, obs, h2.1, r11_15 S112, r11_17 S112, y2, obs]
    show Ok (Option.bind (ob K 9 (R3 x 12)) fun a22 => if I3 a22 0 = -5 then _ else _) P
    rw [o11_12 S113, obs, t0]
    cases hv : ov (m + 1) with
    | none =>
      rw [if_pos (show oI none = -5 from rfl)]
      by_cases c1 : (szN ov (laV w c 4 1 N) m).2.2 = 0
      · rw [if_pos (by rw [c1]; rfl)]
        exact go (m + 1) (by simp only [szN, hv]; rw [if_pos c1])
      · rw [if_neg (by rw [L0, nI_eq (by omega) (by omega)]; exact c1)]
        exact go _ (by simp only [szN, hv]; rw [if_neg c1])
    | some t =>
      rw [if_neg (show ¬ (oI (some t) = -5) from nI_no5 (by have := hov9 t hv; omega))]
      refine go _ ?_
      simp only [szN, hv]
      split <;> rfl
end
