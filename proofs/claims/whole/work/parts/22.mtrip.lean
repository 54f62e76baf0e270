/-! THE TRIP -/
def oI (x : Option Nat) : Int32 := match x with
  | none => -5
  | some n => nI n
abbrev TR : Type := (Option Nat × Option Nat) × (Nat → Option Nat) × (Nat → Option Nat) × (Nat → Nat) × (Nat → Nat)
/-- cost: what a way costs; hr: how long it is; sd: a stand's hour; rm: what can be carried; then the rule (kind, v, row), the wells (fu, gi); the trip goes on from place k at hour h with water wt -/
def trN (cost : Nat → Nat → Nat) (hr : Nat → Nat) (sd rm kind v : Nat) (rw fu gi : Nat → Nat) (W : Nat) : Nat → Nat → Nat → Nat → (Nat → Nat) → (Nat → Nat) → (Nat → Option Nat) → (Nat → Option Nat) → TR
  | 0, _, _, _, le, la, st, ca => ((none, none), st, ca, le, la)
  | f + 1, k, h, wt, le, la, st, ca =>
    if W ≤ k then (if cost W h ≤ wt then ((some (h + hr W), none), st, ca, le, la) else ((none, some W), st, ca, le, la))
    else if wt < cost k h then ((none, some k), st, ca, le, la)
    else if wt - cost k h < (la k - (h + hr k)) * sd then ((none, some (k + 1)), st, u1 ca k (some (wt - cost k h)), le, la)
    else if wt - cost k h - (la k - (h + hr k)) * sd < stN kind v rw (fun n => heldN fu gi le la k (max (h + hr k) (la k) + n)) k (max (h + hr k) (la k)) (wt - cost k h - (la k - (h + hr k)) * sd) rm * sd then
      ((none, some (k + 1)), u1 st k (some (stN kind v rw (fun n => heldN fu gi le la k (max (h + hr k) (la k) + n)) k (max (h + hr k) (la k)) (wt - cost k h - (la k - (h + hr k)) * sd) rm)), u1 ca k (some (wt - cost k h)), le, la)
    else
      (fun s h3 w3 => trN cost hr sd rm kind v rw fu gi W f (k + 1) h3 (w3 + min (heldN fu gi le la k h3) (rm - w3)) (u1 le k (heldN fu gi le la k h3 - min (heldN fu gi le la k h3) (rm - w3))) (u1 la k h3) (u1 st k (some s)) (u1 ca k (some (wt - cost k h))))
        (stN kind v rw (fun n => heldN fu gi le la k (max (h + hr k) (la k) + n)) k (max (h + hr k) (la k)) (wt - cost k h - (la k - (h + hr k)) * sd) rm)
        (max (h + hr k) (la k) + stN kind v rw (fun n => heldN fu gi le la k (max (h + hr k) (la k) + n)) k (max (h + hr k) (la k)) (wt - cost k h - (la k - (h + hr k)) * sd) rm)
        (wt - cost k h - (la k - (h + hr k)) * sd - stN kind v rw (fun n => heldN fu gi le la k (max (h + hr k) (la k) + n)) k (max (h + hr k) (la k)) (wt - cost k h - (la k - (h + hr k)) * sd) rm * sd)
def LaidM (o : Nat) (I : Im) (W : Nat) (fu gi hr : Nat → Nat) (th : Nat → Nat → Nat) (sd rm : Nat) : Prop :=
  I o 21 = nI W ∧ W ≤ 5 ∧ (∀ q, q < W → I (o + 14) q = nI (fu q) ∧ fu q ≤ 99 ∧ I (o + 15) q = nI (gi q) ∧ gi q ≤ 99) ∧
  (∀ q, q ≤ W → I (o + 16) q = nI (hr q) ∧ hr q ≤ 9 ∧ ∀ j, j < 24 → I (o + 27) (24 * q + j) = nI (th q j) ∧ th q j ≤ 100000) ∧ I o 45 = nI sd ∧ sd ≤ 1000 ∧ I o 46 = nI rm ∧ rm ≤ 1000
theorem LaidM.fm {o : Nat} {I I' : Im} {W : Nat} {fu gi hr : Nat → Nat} {th : Nat → Nat → Nat} {sd rm : Nat} {S F : List Nat} (h : LaidM o I W fu gi hr th sd rm) (hf : FM o S F I I') (hS : ∀ j ∈ S, j = 17 ∨ j = 18 ∨ 27 < j) (hF : ∀ j ∈ F, j ≠ 21 ∧ j ≠ 45 ∧ j ≠ 46) : LaidM o I' W fu gi hr th sd rm := by
  have a14 : I' (o + 14) = I (o + 14) := hf.arr (fun q => by have := hS _ q; omega) (by omega)
  have a15 : I' (o + 15) = I (o + 15) := hf.arr (fun q => by have := hS _ q; omega) (by omega)
  have a16 : I' (o + 16) = I (o + 16) := hf.arr (fun q => by have := hS _ q; omega) (by omega)
  have a27 : I' (o + 27) = I (o + 27) := hf.arr (fun q => by have := hS _ q; omega) (by omega)
  have z : 0 ∉ S := fun q => by have := hS _ q; omega
  have f21 : I' o 21 = I o 21 := hf.fld (fun q => (hF _ q).1 rfl) z
  have f45 : I' o 45 = I o 45 := hf.fld (fun q => (hF _ q).2.1 rfl) z
  have f46 : I' o 46 = I o 46 := hf.fld (fun q => (hF _ q).2.2 rfl) z
  unfold LaidM
  rw [a14, a15, a16, a27, f21, f45, f46]
  exact h
def tripS : List Nat := [17, 18, 28, 29]
def tripF : List Nat := [47, 48, 49, 50]
theorem FM.hw {o : Nat} {S F : List Nat} {I I' : Im} {h w : Nat} (hf : FM o S F I I') (h1 : 47 ∈ F) (h2 : 48 ∈ F) : FM o S F I (hwI o I' h w) := FM.pf (FM.pf hf h2) h1
section
variable {o : Nat} {K : Sh} {R : Rf}
theorem m_trip (hM : S12 o K R) {W r kind v sd rm : Nat} {fu gi hr rw : Nat → Nat} {th : Nat → Nat → Nat} (hr11 : r < 11) (hv : v ≤ 6) (hkd : kind ≤ 7) (hrw : ∀ k, rw k ≤ 6) {P : Im → Prop} {M : Nat} (hMb : M ≤ 800000) : ∀ (f k q h wt : Nat) (I : Im) (le la : Nat → Nat) (st ca : Nat → Option Nat), W - k < f → W - k < q → k ≤ W → LaidM o I W fu gi hr th sd rm → I (o + 20) r = nI v → (∀ k, k < W → RowM o I kind r k rw) →
    (∀ j, j < W → I (o + 17) j = nI (le j) ∧ le j ≤ 99) → (∀ j, j < W → I (o + 18) j = nI (la j) ∧ (k ≤ j → la j ≤ M)) → (∀ j, j < 6 → I (o + 28) j = oI (st j) ∧ I (o + 29) j = oI (ca j)) → I o 49 = -5 → I o 50 = -5 → h ≤ M + 15 * k → wt ≤ rm →
    (∀ I1, FM o tripS tripF I I1 → (∀ T, T = trN (fun k h => wayD (th k) h (hr k)) hr sd rm kind v rw fu gi W f k h wt le la st ca → I1 o 50 = oI T.1.1 ∧ I1 o 49 = oI T.1.2 ∧ (∀ j, j < 6 → I1 (o + 28) j = oI (T.2.1 j) ∧ I1 (o + 29) j = oI (T.2.2.1 j)) ∧ (∀ j, j < W → I1 (o + 17) j = nI (T.2.2.2.1 j) ∧ I1 (o + 18) j = nI (T.2.2.2.2 j))) → P I1) →
    Ok (f_X12_go_78 K R o q (nI r) (nI kind) (nI k) (hwI o I h wt)) P := by
  intro f
  induction f with
  | zero => intro k q h wt I le la st ca q1; omega
  | succ f ih =>
    intro k q h wt I le la st ca hf hq hk hL h20 hR hle hla hsc h49 h50 hh hwt kk
    obtain ⟨q, rfl⟩ : ∃ q', q = q' + 1 := ⟨q - 1, by omega⟩
    obtain ⟨a21, aW, a1, a2, a45, asd, a46, arm⟩ := hL
    have e21 : hwI o I h wt o 21 = nI W := by rw [hw_fld (by decide) (by decide)]; exact a21
    unfold f_X12_go_78
    by_cases c0 : W ≤ k
    · have hkW : k = W := by omega
      subst hkW
      obtain ⟨g1, g2, g3⟩ := a2 k (by omega)
      obtain ⟨w1, w2⟩ := m_goesWay hM (by omega) g1 g2 g3 (by omega : h ≤ 1000000) (by omega : wt ≤ 1000000)
      by_cases c1 : wayD (th k) h (hr k) ≤ wt
      · simp (disch := omega) only [L0, L1, L2, L3, L4, L5, L6, L7, L8, L9, L10, L11, L12, L13, L14, L15, L16, L17, L18, L19, L20, L21, L22, L23, L24, L25, L26, L27, L28, L29, L30, L31, L32, L33, L34, L35, L36, L37, L38, L39, L40, L48, L57, L59, L60, L62, L96, L97, L98, L99, L100, L104, L110, L119, L124, L500, L999, L1000, L2000, L3000, nI_add, pk_mul, pk_sub, nI_leI, nI_ltI, nI_eq, obs, u2_eq, u2_row, u2_ne, if_pos, if_neg, if_true, if_false, eq_self, e21, w1 c1, hw_47]
        refine Ok.ret (kk _ (FM.pf (FM.hw FM.refl (by decide) (by decide)) (by decide)) (fun T hT => ?_))
        simp only [trN] at hT
        rw [if_pos (Nat.le_refl _), if_pos c1] at hT
        subst hT
        refine ⟨by simp (disch := omega) only [L0, L1, L2, L3, L4, L5, L6, L7, L8, L9, L10, L11, L12, L13, L14, L15, L16, L17, L18, L19, L20, L21, L22, L23, L24, L25, L26, L27, L28, L29, L30, L31, L32, L33, L34, L35, L36, L37, L38, L39, L40, L48, L57, L59, L60, L62, L96, L97, L98, L99, L100, L104, L110, L119, L124, L500, L999, L1000, L2000, L3000, nI_add, pk_mul, pk_sub, nI_leI, nI_ltI, nI_eq, obs, u2_eq, u2_row, u2_ne]; rfl, by simp (disch := omega) only [L0, L1, L2, L3, L4, L5, L6, L7, L8, L9, L10, L11, L12, L13, L14, L15, L16, L17, L18, L19, L20, L21, L22, L23, L24, L25, L26, L27, L28, L29, L30, L31, L32, L33, L34, L35, L36, L37, L38, L39, L40, L48, L57, L59, L60, L62, L96, L97, L98, L99, L100, L104, L110, L119, L124, L500, L999, L1000, L2000, L3000, nI_add, pk_mul, pk_sub, nI_leI, nI_ltI, nI_eq, obs, u2_eq, u2_row, u2_ne]; rw [hw_fld (by decide) (by decide)]; exact h49, fun j hj => ?_, fun j hj => ?_⟩
        · rw [u2_row (by omega), u2_row (by omega), hw_row (by omega), hw_row (by omega)]; exact hsc j hj
        · rw [u2_row (by omega), u2_row (by omega), hw_row (by omega), hw_row (by omega)]; exact ⟨(hle j hj).1, (hla j hj).1⟩
      · obtain ⟨a, b, w2⟩ := w2 (by omega)
        have e21' : hwI o I a b o 21 = nI k := by rw [hw_fld (by decide) (by decide)]; exact a21
        simp (disch := omega) only [L0, L1, L2, L3, L4, L5, L6, L7, L8, L9, L10, L11, L12, L13, L14, L15, L16, L17, L18, L19, L20, L21, L22, L23, L24, L25, L26, L27, L28, L29, L30, L31, L32, L33, L34, L35, L36, L37, L38, L39, L40, L48, L57, L59, L60, L62, L96, L97, L98, L99, L100, L104, L110, L119, L124, L500, L999, L1000, L2000, L3000, nI_add, pk_mul, pk_sub, nI_leI, nI_ltI, nI_eq, obs, u2_eq, u2_row, u2_ne, if_pos, if_neg, if_true, if_false, eq_self, e21, w2, e21']
        refine Ok.ret (kk _ (FM.pf (FM.hw FM.refl (by decide) (by decide)) (by decide)) (fun T hT => ?_))
        simp only [trN] at hT
        rw [if_pos (Nat.le_refl _), if_neg c1] at hT
        subst hT
        refine ⟨by simp (disch := omega) only [L0, L1, L2, L3, L4, L5, L6, L7, L8, L9, L10, L11, L12, L13, L14, L15, L16, L17, L18, L19, L20, L21, L22, L23, L24, L25, L26, L27, L28, L29, L30, L31, L32, L33, L34, L35, L36, L37, L38, L39, L40, L48, L57, L59, L60, L62, L96, L97, L98, L99, L100, L104, L110, L119, L124, L500, L999, L1000, L2000, L3000, nI_add, pk_mul, pk_sub, nI_leI, nI_ltI, nI_eq, obs, u2_eq, u2_row, u2_ne]; rw [hw_fld (by decide) (by decide)]; exact h50, by simp (disch := omega) only [L0, L1, L2, L3, L4, L5, L6, L7, L8, L9, L10, L11, L12, L13, L14, L15, L16, L17, L18, L19, L20, L21, L22, L23, L24, L25, L26, L27, L28, L29, L30, L31, L32, L33, L34, L35, L36, L37, L38, L39, L40, L48, L57, L59, L60, L62, L96, L97, L98, L99, L100, L104, L110, L119, L124, L500, L999, L1000, L2000, L3000, nI_add, pk_mul, pk_sub, nI_leI, nI_ltI, nI_eq, obs, u2_eq, u2_row, u2_ne]; rfl, fun j hj => ?_, fun j hj => ?_⟩
        · rw [u2_row (by omega), u2_row (by omega), hw_row (by omega), hw_row (by omega)]; exact hsc j hj
        · rw [u2_row (by omega), u2_row (by omega), hw_row (by omega), hw_row (by omega)]; exact ⟨(hle j hj).1, (hla j hj).1⟩
    · obtain ⟨g1, g2, g3⟩ := a2 k (by omega)
      obtain ⟨w1, w2⟩ := m_goesWay hM (by omega) g1 g2 g3 (by omega : h ≤ 1000000) (by omega : wt ≤ 1000000)
      by_cases c1 : wayD (th k) h (hr k) ≤ wt
      · simp (disch := omega) only [L0, L1, L2, L3, L4, L5, L6, L7, L8, L9, L10, L11, L12, L13, L14, L15, L16, L17, L18, L19, L20, L21, L22, L23, L24, L25, L26, L27, L28, L29, L30, L31, L32, L33, L34, L35, L36, L37, L38, L39, L40, L48, L57, L59, L60, L62, L96, L97, L98, L99, L100, L104, L110, L119, L124, L500, L999, L1000, L2000, L3000, nI_add, pk_mul, pk_sub, nI_leI, nI_ltI, nI_eq, obs, u2_eq, u2_row, u2_ne, if_pos, if_neg, if_true, if_false, eq_self, e21, w1 c1, hw_48, s12_40 hM, hw_u]
        obtain ⟨w, hw⟩ : ∃ w, w = wt - wayD (th k) h (hr k) := ⟨_, rfl⟩
        obtain ⟨h1, hh1⟩ : ∃ h1, h1 = h + hr k := ⟨_, rfl⟩
        rw [← hw, ← hh1]
        obtain ⟨l1, l2⟩ := hla k (by omega)
        have l2 := l2 (Nat.le_refl _)
        obtain ⟨I1, hI1⟩ : ∃ I1, I1 = u2 I (o + 29) k (nI w) := ⟨_, rfl⟩
        rw [← hI1]
        have F1 : FM o tripS tripF I I1 := by rw [hI1]; exact FM.st FM.refl (by decide)
        have r17 : I1 (o + 17) = I (o + 17) := by rw [hI1, u2_row (by omega)]
        have r18 : I1 (o + 18) = I (o + 18) := by rw [hI1, u2_row (by omega)]
        have r28 : I1 (o + 28) = I (o + 28) := by rw [hI1, u2_row (by omega)]
        have r29 : ∀ j, j < 6 → I1 (o + 29) j = oI (u1 ca k (some w) j) := by
          intro j hj
          rw [hI1]
          by_cases e : j = k
          · subst e; rw [u2_eq, u1_eq]; rfl
          · rw [u2_ne e, u1_ne e]; exact (hsc j hj).2
        have ro : I1 o = I o := by rw [hI1, u2_row (by omega)]
        have hL1 : LaidM o I1 W fu gi hr th sd rm := LaidM.fm ⟨a21, aW, a1, a2, a45, asd, a46, arm⟩ F1 (by decide) (by decide)
        have ww := m_waitsAt (I := I1) hM (by omega : k < 6) (by rw [ro]; exact a45) (by rw [r18]; exact l1) (by omega : la k ≤ 1000000) (by omega : h1 ≤ 1000000) (by omega : w ≤ 1000000) asd
        by_cases c2 : (la k - h1) * sd ≤ w
        · rw [if_pos c2] at ww
          obtain ⟨w2, hw2⟩ : ∃ w2, w2 = w - (la k - h1) * sd := ⟨_, rfl⟩
          obtain ⟨h2, hh2⟩ : ∃ h2, h2 = max h1 (la k) := ⟨_, rfl⟩
          rw [← hw2, ← hh2] at ww
          obtain ⟨f1, f2, f3, f4⟩ := a1 k (by omega)
          obtain ⟨v1, v2⟩ := hle k (by omega)
          have ss := m_standOf (I := I1) (rw := rw) (kind := kind) (wt := w2) (h := h2) (rm := rm) (la := la) hM (by omega : k < 5) hr11 (by rw [hI1, u2_row (by omega)]; exact h20) hv (by rw [ro]; exact a46) (by rw [hI1, u2_row (by omega)]; exact f1) (by rw [hI1, u2_row (by omega)]; exact f3) (by rw [r17]; exact v1) (by rw [r18]; exact l1) f2 f4 v2 (by omega) (by omega) (by omega) (by omega) hkd (by
            have z := hR k (by omega)
            unfold RowM at z ⊢
            rw [hI1, u2_row (by omega), u2_row (by omega), u2_row (by omega), u2_row (by omega), u2_row (by omega)]
            exact z)
          obtain ⟨s, hs⟩ : ∃ s, s = stN kind v rw (fun n => heldN fu gi le la k (h2 + n)) k h2 w2 rm := ⟨_, rfl⟩
          have s6 : s ≤ 6 := by rw [hs]; exact stN_le hv (hrw k)
          rw [← hs] at ss
          simp (disch := omega) only [L0, L1, L2, L3, L4, L5, L6, L7, L8, L9, L10, L11, L12, L13, L14, L15, L16, L17, L18, L19, L20, L21, L22, L23, L24, L25, L26, L27, L28, L29, L30, L31, L32, L33, L34, L35, L36, L37, L38, L39, L40, L48, L57, L59, L60, L62, L96, L97, L98, L99, L100, L104, L110, L119, L124, L500, L999, L1000, L2000, L3000, nI_add, pk_mul, pk_sub, nI_leI, nI_ltI, nI_eq, obs, u2_eq, u2_row, u2_ne, if_pos, if_neg, if_true, if_false, eq_self, ww, ss, s12_39 hM, hw_u, l12_39 hM]
          obtain ⟨I2, hI2⟩ : ∃ I2, I2 = u2 I1 (o + 28) k (nI s) := ⟨_, rfl⟩
          rw [← hI2]
          have F2 : FM o tripS tripF I I2 := by rw [hI2]; exact FM.st F1 (by decide)
          have ro2 : I2 o = I o := by rw [hI2, u2_row (by omega), ro]
          have q17 : I2 (o + 17) = I (o + 17) := by rw [hI2, u2_row (by omega), r17]
          have q18 : I2 (o + 18) = I (o + 18) := by rw [hI2, u2_row (by omega), r18]
          have q29 : ∀ j, j < 6 → I2 (o + 29) j = oI (u1 ca k (some w) j) := by rw [hI2, u2_row (by omega)]; exact r29
          have q28 : ∀ j, j < 6 → I2 (o + 28) j = oI (u1 st k (some s) j) := by
            intro j hj
            rw [hI2]
            by_cases e : j = k
            · subst e; rw [u2_eq, u1_eq]; rfl
            · rw [u2_ne e, u1_ne e, r28]; exact (hsc j hj).1
          have tt := m_standsFor (I := I2) (K := K) (by rw [ro2]; exact a45) (by omega : h2 ≤ 1000000) (by omega : w2 ≤ 1000000) (by omega : s ≤ 1000000) asd
          by_cases c3 : s * sd ≤ w2
          · rw [if_pos c3] at tt
            obtain ⟨w3, hw3⟩ : ∃ w3, w3 = w2 - s * sd := ⟨_, rfl⟩
            obtain ⟨h3, hh3⟩ : ∃ h3, h3 = h2 + s := ⟨_, rfl⟩
            rw [← hw3, ← hh3] at tt
            have dd := m_draws1 (I := I2) (wt := w3) (h := h3) (rm := rm) (la := la) hM (by omega : k < 6) (by rw [ro2]; exact a46) (by rw [F2.arr (by decide) (by decide)]; exact f1) (by rw [F2.arr (by decide) (by decide)]; exact f3) (by rw [q17]; exact v1) (by rw [q18]; exact l1) f2 f4 v2 (by omega) (by omega) (by omega) (by omega)
            obtain ⟨hd, hhd⟩ : ∃ hd, hd = heldN fu gi le la k h3 := ⟨_, rfl⟩
            have hd99 : hd ≤ 99 := by rw [hhd]; exact heldN_le f2 v2
            rw [← hhd] at dd
            obtain ⟨I3, hI3⟩ : ∃ I3, I3 = u2 (u2 I2 (o + 17) k (nI (hd - min hd (rm - w3)))) (o + 18) k (nI h3) := ⟨_, rfl⟩
            rw [← hI3] at dd
            have F3 : FM o tripS tripF I I3 := by rw [hI3]; exact FM.st (FM.st F2 (by decide)) (by decide)
            simp (disch := omega) only [L0, L1, L2, L3, L4, L5, L6, L7, L8, L9, L10, L11, L12, L13, L14, L15, L16, L17, L18, L19, L20, L21, L22, L23, L24, L25, L26, L27, L28, L29, L30, L31, L32, L33, L34, L35, L36, L37, L38, L39, L40, L48, L57, L59, L60, L62, L96, L97, L98, L99, L100, L104, L110, L119, L124, L500, L999, L1000, L2000, L3000, nI_add, pk_mul, pk_sub, nI_leI, nI_ltI, nI_eq, obs, u2_eq, u2_row, u2_ne, if_pos, if_neg, if_true, if_false, eq_self, tt, dd]
            refine ih (k + 1) q h3 (w3 + min hd (rm - w3)) I3 (u1 le k (hd - min hd (rm - w3))) (u1 la k h3) (u1 st k (some s)) (u1 ca k (some w)) (by omega) (by omega) (by omega) (LaidM.fm ⟨a21, aW, a1, a2, a45, asd, a46, arm⟩ F3 (by decide) (by decide)) (by rw [F3.arr (by decide) (by decide)]; exact h20) (fun j hj => ?_) (fun j hj => ?_) (fun j hj => ?_) (fun j hj => ⟨?_, ?_⟩) ?_ ?_ (by omega) (by omega) (fun I4 g4 t4 => ?_)
            · have z := hR j hj
              unfold RowM at z ⊢
              rw [F3.arr (i := 21) (by decide) (by decide), F3.arr (i := 22) (by decide) (by decide), F3.arr (i := 30) (by decide) (by decide), F3.arr (i := 26) (by decide) (by decide), F3.fld (k := 29) (by decide) (by decide)]
              exact z
            · rw [hI3, u2_row (by omega)]
              by_cases e : j = k
              · subst e; rw [u2_eq, u1_eq]; exact ⟨rfl, by omega⟩
              · rw [u2_ne e, u1_ne e, q17]; exact hle j hj
            · rw [hI3]
              by_cases e : j = k
              · subst e; rw [u2_eq, u1_eq]; exact ⟨rfl, by omega⟩
              · rw [u2_ne e, u1_ne e, u2_row (by omega), q18]; exact ⟨(hla j hj).1, fun z => (hla j hj).2 (by omega)⟩
            · rw [hI3, u2_row (by omega), u2_row (by omega)]; exact q28 j hj
            · rw [hI3, u2_row (by omega), u2_row (by omega)]; exact q29 j hj
            · rw [hI3, u2_row (by omega), u2_row (by omega), ro2]; exact h49
            · rw [hI3, u2_row (by omega), u2_row (by omega), ro2]; exact h50
            · refine kk I4 (F3.trans g4) (fun T hT => t4 T ?_)
              simp only [trN] at hT
              rw [if_neg c0, if_neg (by omega), ← hw, ← hh1, if_neg (by omega), ← hw2, ← hh2, ← hs, if_neg (by omega), ← hw3, ← hh3, ← hhd] at hT
              exact hT
          · rw [if_neg c3] at tt
            simp (disch := omega) only [L0, L1, L2, L3, L4, L5, L6, L7, L8, L9, L10, L11, L12, L13, L14, L15, L16, L17, L18, L19, L20, L21, L22, L23, L24, L25, L26, L27, L28, L29, L30, L31, L32, L33, L34, L35, L36, L37, L38, L39, L40, L48, L57, L59, L60, L62, L96, L97, L98, L99, L100, L104, L110, L119, L124, L500, L999, L1000, L2000, L3000, nI_add, pk_mul, pk_sub, nI_leI, nI_ltI, nI_eq, obs, u2_eq, u2_row, u2_ne, if_pos, if_neg, if_true, if_false, eq_self, tt]
            refine Ok.ret (kk _ (FM.pf (FM.hw F2 (by decide) (by decide)) (by decide)) (fun T hT => ?_))
            simp only [trN] at hT
            rw [if_neg c0, if_neg (by omega), ← hw, ← hh1, if_neg (by omega), ← hw2, ← hh2, ← hs, if_pos (by omega)] at hT
            subst hT
            refine ⟨by simp (disch := omega) only [L0, L1, L2, L3, L4, L5, L6, L7, L8, L9, L10, L11, L12, L13, L14, L15, L16, L17, L18, L19, L20, L21, L22, L23, L24, L25, L26, L27, L28, L29, L30, L31, L32, L33, L34, L35, L36, L37, L38, L39, L40, L48, L57, L59, L60, L62, L96, L97, L98, L99, L100, L104, L110, L119, L124, L500, L999, L1000, L2000, L3000, nI_add, pk_mul, pk_sub, nI_leI, nI_ltI, nI_eq, obs, u2_eq, u2_row, u2_ne]; rw [hw_fld (by decide) (by decide), ro2]; exact h50, by simp (disch := omega) only [L0, L1, L2, L3, L4, L5, L6, L7, L8, L9, L10, L11, L12, L13, L14, L15, L16, L17, L18, L19, L20, L21, L22, L23, L24, L25, L26, L27, L28, L29, L30, L31, L32, L33, L34, L35, L36, L37, L38, L39, L40, L48, L57, L59, L60, L62, L96, L97, L98, L99, L100, L104, L110, L119, L124, L500, L999, L1000, L2000, L3000, nI_add, pk_mul, pk_sub, nI_leI, nI_ltI, nI_eq, obs, u2_eq, u2_row, u2_ne]; rfl, fun j hj => ?_, fun j hj => ?_⟩
            · rw [u2_row (by omega), u2_row (by omega), hw_row (by omega), hw_row (by omega)]; exact ⟨q28 j hj, q29 j hj⟩
            · rw [u2_row (by omega), u2_row (by omega), hw_row (by omega), hw_row (by omega), q17, q18]; exact ⟨(hle j hj).1, (hla j hj).1⟩
        · rw [if_neg c2] at ww
          simp (disch := omega) only [L0, L1, L2, L3, L4, L5, L6, L7, L8, L9, L10, L11, L12, L13, L14, L15, L16, L17, L18, L19, L20, L21, L22, L23, L24, L25, L26, L27, L28, L29, L30, L31, L32, L33, L34, L35, L36, L37, L38, L39, L40, L48, L57, L59, L60, L62, L96, L97, L98, L99, L100, L104, L110, L119, L124, L500, L999, L1000, L2000, L3000, nI_add, pk_mul, pk_sub, nI_leI, nI_ltI, nI_eq, obs, u2_eq, u2_row, u2_ne, if_pos, if_neg, if_true, if_false, eq_self, ww]
          refine Ok.ret (kk _ (FM.pf (FM.hw F1 (by decide) (by decide)) (by decide)) (fun T hT => ?_))
          simp only [trN] at hT
          rw [if_neg c0, if_neg (by omega), ← hw, ← hh1, if_pos (by omega)] at hT
          subst hT
          refine ⟨by simp (disch := omega) only [L0, L1, L2, L3, L4, L5, L6, L7, L8, L9, L10, L11, L12, L13, L14, L15, L16, L17, L18, L19, L20, L21, L22, L23, L24, L25, L26, L27, L28, L29, L30, L31, L32, L33, L34, L35, L36, L37, L38, L39, L40, L48, L57, L59, L60, L62, L96, L97, L98, L99, L100, L104, L110, L119, L124, L500, L999, L1000, L2000, L3000, nI_add, pk_mul, pk_sub, nI_leI, nI_ltI, nI_eq, obs, u2_eq, u2_row, u2_ne]; rw [hw_fld (by decide) (by decide), ro]; exact h50, by simp (disch := omega) only [L0, L1, L2, L3, L4, L5, L6, L7, L8, L9, L10, L11, L12, L13, L14, L15, L16, L17, L18, L19, L20, L21, L22, L23, L24, L25, L26, L27, L28, L29, L30, L31, L32, L33, L34, L35, L36, L37, L38, L39, L40, L48, L57, L59, L60, L62, L96, L97, L98, L99, L100, L104, L110, L119, L124, L500, L999, L1000, L2000, L3000, nI_add, pk_mul, pk_sub, nI_leI, nI_ltI, nI_eq, obs, u2_eq, u2_row, u2_ne]; rfl, fun j hj => ?_, fun j hj => ?_⟩
          · rw [u2_row (by omega), u2_row (by omega), hw_row (by omega), hw_row (by omega), r28]; exact ⟨(hsc j hj).1, r29 j hj⟩
          · rw [u2_row (by omega), u2_row (by omega), hw_row (by omega), hw_row (by omega), r17, r18]; exact ⟨(hle j hj).1, (hla j hj).1⟩
      · obtain ⟨a, b, w2⟩ := w2 (by omega)
        simp (disch := omega) only [L0, L1, L2, L3, L4, L5, L6, L7, L8, L9, L10, L11, L12, L13, L14, L15, L16, L17, L18, L19, L20, L21, L22, L23, L24, L25, L26, L27, L28, L29, L30, L31, L32, L33, L34, L35, L36, L37, L38, L39, L40, L48, L57, L59, L60, L62, L96, L97, L98, L99, L100, L104, L110, L119, L124, L500, L999, L1000, L2000, L3000, nI_add, pk_mul, pk_sub, nI_leI, nI_ltI, nI_eq, obs, u2_eq, u2_row, u2_ne, if_pos, if_neg, if_true, if_false, eq_self, e21, w2]
        refine Ok.ret (kk _ (FM.pf (FM.hw FM.refl (by decide) (by decide)) (by decide)) (fun T hT => ?_))
        simp only [trN] at hT
        rw [if_neg c0, if_pos (by omega)] at hT
        subst hT
        refine ⟨by simp (disch := omega) only [L0, L1, L2, L3, L4, L5, L6, L7, L8, L9, L10, L11, L12, L13, L14, L15, L16, L17, L18, L19, L20, L21, L22, L23, L24, L25, L26, L27, L28, L29, L30, L31, L32, L33, L34, L35, L36, L37, L38, L39, L40, L48, L57, L59, L60, L62, L96, L97, L98, L99, L100, L104, L110, L119, L124, L500, L999, L1000, L2000, L3000, nI_add, pk_mul, pk_sub, nI_leI, nI_ltI, nI_eq, obs, u2_eq, u2_row, u2_ne]; rw [hw_fld (by decide) (by decide)]; exact h50, by simp (disch := omega) only [L0, L1, L2, L3, L4, L5, L6, L7, L8, L9, L10, L11, L12, L13, L14, L15, L16, L17, L18, L19, L20, L21, L22, L23, L24, L25, L26, L27, L28, L29, L30, L31, L32, L33, L34, L35, L36, L37, L38, L39, L40, L48, L57, L59, L60, L62, L96, L97, L98, L99, L100, L104, L110, L119, L124, L500, L999, L1000, L2000, L3000, nI_add, pk_mul, pk_sub, nI_leI, nI_ltI, nI_eq, obs, u2_eq, u2_row, u2_ne]; rfl, fun j hj => ?_, fun j hj => ?_⟩
        · rw [u2_row (by omega), u2_row (by omega), hw_row (by omega), hw_row (by omega)]; exact hsc j hj
        · rw [u2_row (by omega), u2_row (by omega), hw_row (by omega), hw_row (by omega)]; exact ⟨(hle j hj).1, (hla j hj).1⟩
end
