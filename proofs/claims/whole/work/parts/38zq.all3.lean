section
variable {Z : Nat → Nat} {x n M nr nc NW i q N ns W ld Mp k o : Nat} {K : Sh} {I I0 : Im} {J : Jm} {R R0 : Rf} {w c d le la le0 la0 fu gi hr : Nat → Nat} {cs : Nat → List Nat} {cd : Nat → CDt} {cv sg sv : Nat → Nat} {fa : Nat → Nat} {fl : Nat → Option Nat} {fo : Nat → List (Option Nat)}
/-- what is asked of all ways -/
def resA (acc : BSt) (ns v : Nat) : Int32 := match acc with
  | none => 0
  | some t => if v = 5 then nI t.2.1 else if ns ≤ v - 2 then -5 else nI (oT t.1 (v - 2))
theorem c_place (hZ : ZZ Z x K I) (h3 : I (x + 37) 3 = nI k) (hk : k < 6) {v : Nat} (hv : 2 ≤ v) (hv4 : v ≤ 4) (hns : ns ≤ 3) : f_X2_placeAt Z K I (x + 37) (nI v - 2) (nI ns) = some (if ns ≤ v - 2 then -5 else nI (oT k (v - 2))) := by
  have e : nI v - 2 = nI (v - 2) := by rw [L2, pk_sub (by omega)]
  have al : alen K (some (Z 1)) = some (nI 18) := by
    have e := (hZ.2 1 (by omega)).1
    have := alen_ok (K := K) (a := Z 1) (by rw [e]; omega) (by rw [e]; omega)
    rw [this, e]
    rfl
  unfold f_X2_placeAt
  rw [e, if_neg (show ¬ nI (v - 2) < 0 by rw [L0, nI_ltI (by omega) (by omega)]; omega)]
  by_cases c : ns ≤ v - 2
  · rw [if_pos (by rw [nI_leI (by omega) (by omega)]; exact c), if_pos c]
  · rw [if_neg (by rw [nI_leI (by omega) (by omega)]; exact c), if_neg c, h3, L3, pk_mul, nI_add, if_neg (show ¬ nI (k * 3 + (v - 2)) < 0 by rw [L0, nI_ltI (by omega) (by omega)]; omega), al, obs, if_neg (show ¬ nI 18 ≤ nI (k * 3 + (v - 2)) by rw [nI_leI (by omega) (by omega)]; omega), ldI_Z hZ (by omega) (show k * 3 + (v - 2) < zL 1 by show _ < 18; omega), oT_z k hk _ (by omega)]
    rfl
set_option maxHeartbeats 1000000 in
theorem c_all76 (h : NowR x (x + 8) i q n M N (x + 73) (x + 74) w c d cs le la K I0 R0) (hM7 : 100 ≤ M) (hM8 : M + 225 ≤ 800000) (hns : ns ≤ 3) (h4 : I0 (x + 8) 4 = nI ns) (h6 : I0 x 6 = nI nc) (hnc : nc ≤ 6) (hsev : ∀ p, p < ns → I0 (x + 15) p = nI (sv p) ∧ sv p < nc) (hcar : ∀ k, k < nc → CarOK x nr k n (cd k) K I0 R0) (hZ : ZZ Z x K I0)
    (hs : ∀ k, k < 6 → vaN ns k = true → SvR w c cs N (wlV w c N) (wlV w d N) (wyV w c N) (wlN w N) (laV w c 4 1 N) cd (fun p => sv (oT k p)) ns 0 le la 0 none (fo k) (fa k) (fl k)) {v : Nat} (hv : 2 ≤ v) (hv5 : v ≤ 5) :
    ∀ (r m f : Nat) (I : Im) (R : Rf), m + r = 6 → r < f → (∀ z, z < x + 29 ∨ x + 50 ≤ z → I z = I0 z) → (∀ z, z < x + 29 ∨ x + 50 ≤ z → R z = R0 z) → CSH x K R → BGc x (cFo fa fl ns m) I →
    ∃ I1 R1, f_X11_all_76 Z K x f (nI v) (nI m) I R = some (resA (cFo fa fl ns 6) ns v, I1, R1) ∧ (∀ z, z < x + 29 ∨ x + 50 ≤ z → I1 z = I0 z) ∧ (∀ z, z < x + 29 ∨ x + 50 ≤ z → R1 z = R0 z) ∧ CSH x K R1 := by
  intro r
  induction r with
  | zero =>
    intro m f I R e1 e2 hI hR hC hB
    obtain ⟨f, rfl⟩ : ∃ f', f = f' + 1 := ⟨f - 1, by omega⟩
    have : m = 6 := by omega
    subst this
    have S11 := cS11 hC
    have hZ1 : ZZ Z x K I := hZ.of (fun z hz => hI z (by omega))
    have al : alen K (some (Z 1)) = some (nI 18) := by
      have e := (hZ.2 1 (by omega)).1
      have := alen_ok (K := K) (a := Z 1) (by rw [e]; omega) (by rw [e]; omega)
      rw [this, e]
      rfl
    refine ⟨I, R, ?_, hI, hR, hC⟩
    obtain ⟨t, ht⟩ := cFo_some (fa := fa) (fl := fl) (ns := ns) hns 6 (by omega) (by omega)
    rw [ht] at hB ⊢
    obtain ⟨b1, b2, b3, b4, b5, b6⟩ := hB
    unfold f_X11_all_76 resA
    rw [al, obs, L3, pk_mul, if_pos (show nI 18 ≤ nI (6 * 3) from Int32.le_refl _), o11_14 S11, obs]
    by_cases c5 : v = 5
    · rw [if_pos (show nI v = 5 by rw [c5]; rfl), b2]
      dsimp only
      rw [if_pos c5]
    · rw [if_neg (show ¬ nI v = 5 by rw [L5, nI_eq (by omega) (by omega)]; exact c5), o11_7 S11, obs, obs, hI (x + 8) (by omega), h4, c_place hZ1 b1 b4 hv (by omega) hns, obs]
      dsimp only
      rw [if_neg c5]
  | succ r ih =>
    intro m f I R e1 e2 hI hR hC hB
    obtain ⟨f, rfl⟩ : ∃ f', f = f' + 1 := ⟨f - 1, by omega⟩
    have S11 := cS11 hC
    have hZ1 : ZZ Z x K I := hZ.of (fun z hz => hI z (by omega))
    have al : alen K (some (Z 1)) = some (nI 18) := by
      have e := (hZ.2 1 (by omega)).1
      have := alen_ok (K := K) (a := Z 1) (by rw [e]; omega) (by rw [e]; omega)
      rw [this, e]
      rfl
    have io : f_X11_isOrderOf Z K I (nI m) (nI ns) = some (bI (vaN ns m)) := c_isOrd hZ1 (by omega) (3 - ns) ns FU (by omega) (FU_lt (by omega))
    unfold f_X11_all_76
    rw [al, obs, L3, pk_mul, if_neg (show ¬ nI 18 ≤ nI (m * 3) by rw [nI_leI (by omega) (by omega)]; omega), o11_7 S11, obs, hI (x + 8) (by omega), h4, io, obs]
    unfold cFo at ih
    by_cases cv : vaN ns m = true
    · rw [cv, if_neg (show ¬ bI true = 0 by decide)]
      have hsg : ∀ p, p < ns → oT m p < ns ∧ zD 1 (m * 3 + p) = nI (oT m p) := fun p hp => ⟨oT_lt ns (by omega) m (by omega) cv p hp, oT_z m (by omega) p (by omega)⟩
      obtain ⟨I1, R1, u1, u2', u3, u4, u5, u6, u7, u8, u9, -⟩ := c_several (sg := oT m) h hM7 hM8 hns h4 h6 hnc hsev hcar hZ (show m < 6 by omega) hsg (fun p _ => rfl) (hs m (by omega) cv) hI hR hC
      have hB1 : BGc x (cFo fa fl ns m) I1 := by
        unfold BGc at hB ⊢
        rw [u5 3 (by omega) (by omega), u5 4 (by omega) (by omega), u5 5 (by omega) (by omega)]
        exact hB
      obtain ⟨I2, v1, v2, v3⟩ := c_compare (K := K) hB1 u6 (by omega) u8 u9 (show m < 6 by omega)
      have nx := ih (m + 1) f I2 R1 (by omega) (by omega) (fun z hz => by rw [v2 z (by omega)]; exact u2' z hz) u3 u4 (by
        show BGc x (if vaN ns m = true then _ else _) I2
        rw [if_pos cv]; exact v3)
      rw [u1, obs]
      dsimp only
      rw [o11_14 (cS11 u4), obs, v1, obs, L1, nI_add]
      exact nx
    · have cf : vaN ns m = false := by
        cases hq : vaN ns m
        · rfl
        · exact absurd hq cv
      have nx := ih (m + 1) f I R (by omega) (by omega) hI hR hC (by
        show BGc x (if vaN ns m = true then _ else _) I
        rw [if_neg cv]; exact hB)
      rw [cf, if_pos (show bI false = 0 from rfl), L1, nI_add]
      exact nx
def fin26 (K : Sh) (R : Rf) (o : Nat) (r6 : Int32 → Int32 → Int32 → Im → Option (Int32 × Im)) (x1 x2 x3 x4 x5 : Int32) (I : Im) : Option (Int32 × Im) :=
  if 0 < x4 then
    r6 x1 x2 (x3 + 1) I
  else
    if x5 = ((ishl 1 (I o 51)) - 1) then
      Option.bind (f_X12_goAll K R o I) fun q7 =>
      if 0 ≤ (q7 o 57) then
        f_X12_findOrder_110 K R o r6 x1 x2 x3 (q7 o 57) q7
      else
        f_X12_findOrder_110 K R o r6 x1 x2 x3 1000000 q7
    else
      r6 x1 x2 (x3 + 1) I
theorem m_26 (hM : S12 (x + 62) K R) {r6 : Int32 → Int32 → Int32 → Im → Option (Int32 × Im)} {x1 x2 x3 : Int32} : ∀ (m y f : Nat) (mask : Int32) (I : Im), m ≤ 3 → y < 27 → m < f → f_X12_findOrder_26 K R (x + 62) r6 f x1 x2 x3 (nI y) mask (jI ((m : Int) - 1)) I = fin26 K R (x + 62) r6 x1 x2 x3 (nI (y / 3 ^ m)) (mkM m y mask) (orI (x + 98) m y I) := by
  intro m
  induction m with
  | zero =>
    intro y f mask I h1 h2 h3
    obtain ⟨f, rfl⟩ : ∃ f', f = f' + 1 := ⟨f - 1, by omega⟩
    unfold f_X12_findOrder_26
    rw [if_pos (show jI (((0 : Nat) : Int) - 1) < 0 by decide), Nat.pow_zero, Nat.div_one]
    rfl
  | succ m ih =>
    intro y f mask I h1 h2 h3
    obtain ⟨f, rfl⟩ : ∃ f', f = f' + 1 := ⟨f - 1, by omega⟩
    unfold f_X12_findOrder_26
    rw [down1, if_neg (show ¬ nI m < 0 by rw [L0, nI_ltI (by omega) (by omega)]; omega), L3, irem_nI (by omega) (by omega) (by omega), s12_54 hM (by omega), obs, l12_54 hM (by omega), obs, u2_eq, idiv_nI (by omega) (by omega) (by omega), down2, ih (y / 3) f _ _ (by omega) (by omega) (by omega), Nat.div_div_eq_div_mul, Nat.pow_succ, Nat.mul_comm (3 ^ m) 3]
    rfl
theorem m_148 (hM : S12 (x + 62) K R) (hns : ns ≤ 3) {r6 : Int32 → Int32 → Int32 → Im → Option (Int32 × Im)} {x1 x2 x3 : Int32} (h51 : I (x + 62) 51 = nI ns) : ∀ (r k f : Nat), k + r = ns → r < f → f_X12_findOrder_148 K R (x + 62) r6 f x1 x2 x3 (nI k) (cpR (x + 99) (x + 98) k I) = r6 x1 x2 (x3 + 1) (cpR (x + 99) (x + 98) ns I) := by
  intro r
  induction r with
  | zero =>
    intro k f e1 e2
    obtain ⟨f, rfl⟩ : ∃ f', f = f' + 1 := ⟨f - 1, by omega⟩
    have : k = ns := by omega
    subst this
    unfold f_X12_findOrder_148
    rw [cpR_row (by omega), h51, if_pos (Int32.le_refl _)]
  | succ r ih =>
    intro k f e1 e2
    obtain ⟨f, rfl⟩ : ∃ f', f = f' + 1 := ⟨f - 1, by omega⟩
    have st := cpR_st (b := x + 62 + 37) (a := x + 62 + 36) (k := k) (I := I)
    have nx := ih (k + 1) f (by omega) (by omega)
    have rr : cpR (x + 62 + 37) (x + 62 + 36) k I (x + 62 + 36) = I (x + 62 + 36) := cpR_row (by omega)
    unfold f_X12_findOrder_148
    rw [cpR_row (z := x + 62) (by omega), h51, if_neg (by rw [nI_leI (by omega) (by omega)]; omega), l12_54 hM (by omega), obs, s12_55 hM (by omega), obs, L1, nI_add]
    show f_X12_findOrder_148 K R (x + 62) r6 f x1 x2 x3 (nI (k + 1)) (u2 (cpR (x + 62 + 37) (x + 62 + 36) k I) (x + 62 + 37) k (cpR (x + 62 + 37) (x + 62 + 36) k I (x + 62 + 36) k)) = r6 x1 x2 (x3 + 1) (cpR (x + 99) (x + 98) ns I)
    rw [rr, st]
    exact nx
theorem FM.cpB (h : FM (x + 62) mS mF I0 I) (m : Nat) : FM (x + 62) mS mF I0 (cpR (x + 99) (x + 98) m I) := by
  intro a k hs hf
  rw [cpR_row (hs 37 (by decide))]
  exact h a k hs hf
def bA (acc : BSt) : Int32 := match acc with
  | none => -1
  | some t => nI t.2.1
def bL (acc : BSt) : Int32 := match acc with
  | none => 0
  | some t => nI (lcO t.2.2)
def bK (acc : BSt) : Prop := match acc with
  | none => True
  | some t => t.1 < 6 ∧ t.2.1 ≤ 2673 ∧ lcO t.2.2 ≤ 1000000
def bO (x ns : Nat) (acc : BSt) (I : Im) : Prop := match acc with
  | none => True
  | some t => ∀ p, p < ns → I (x + 99) p = nI (oT t.1 p)
set_option maxHeartbeats 1000000 in
theorem m_fo6 (hM : S12 (x + 62) K R) (hi : i < 5) (ht : I0 (x + 62) 1 = nI i) (h : NowR x (x + 8) i q n M N (x + 73) (x + 74) w c d cs le la K I0 R) (hM7 : 100 ≤ M) (hM8 : M + 225 ≤ 800000) (hns : ns ≤ 3) (h51 : I0 (x + 62) 51 = nI ns) (hnr : nr ≤ 10) (hnc : nc ≤ 6) (hsev : ∀ p, p < ns → I0 (x + 96) p = nI (sv p) ∧ sv p < nc) (hcar : ∀ k, k < nc → CarOK x nr k n (cd k) K I0 R)
    (hs : ∀ k, k < 6 → vaN ns k = true → SvR w c cs N (wlV w c N) (wlV w d N) (wyV w c N) (wlN w N) (laV w c 4 1 N) cd (fun p => sv (oT k p)) ns 0 le la 0 none (fo k) (fa k) (fl k)) :
    ∀ (r m f : Nat) (I : Im), m + r = 27 → r < f → FM (x + 62) mS mF I0 I → bK (rFo fa fl ns m) → bO x ns (rFo fa fl ns m) I →
    ∃ I1, f_X12_findOrder_6 K R (x + 62) f (bA (rFo fa fl ns m)) (bL (rFo fa fl ns m)) (nI m) I = some (bA (rFo fa fl ns 27), I1) ∧ FM (x + 62) mS mF I0 I1 ∧ bO x ns (rFo fa fl ns 27) I1 := by
  intro r
  induction r with
  | zero =>
    intro m f I e1 e2 hF hb ho
    obtain ⟨f, rfl⟩ : ∃ f', f = f' + 1 := ⟨f - 1, by omega⟩
    have : m = 27 := by omega
    subst this
    refine ⟨I, ?_, hF, ho⟩
    unfold f_X12_findOrder_6
    rw [if_pos (show (27 : Int32) ≤ nI 27 from Int32.le_refl _)]
  | succ r ih =>
    intro m f I e1 e2 hF hb ho
    obtain ⟨f, rfl⟩ : ∃ f', f = f' + 1 := ⟨f - 1, by omega⟩
    have z51 : I (x + 62) 51 = nI ns := by rw [hF.fld (by decide) (by decide)]; exact h51
    have F1 : FM (x + 62) mS mF I0 (orI (x + 98) ns m I) := hF.orI ns m
    have z51' : orI (x + 98) ns m I (x + 62) 51 = nI ns := by rw [F1.fld (by decide) (by decide)]; exact h51
    have r99 : orI (x + 98) ns m I (x + 99) = I (x + 99) := orI_row (by omega) _ _ _
    unfold f_X12_findOrder_6
    rw [if_neg (show ¬ (27 : Int32) ≤ nI m by rw [show (27 : Int32) = nI 27 from rfl, nI_leI (by omega) (by omega)]; omega), z51, down2, show (0 : Int32) = nI 0 from rfl, m_26 hM ns m FU (nI 0) I hns (by omega) (FU_lt (by omega))]
    unfold fin26
    rw [z51', show nI 0 = 0 from rfl]
    have dv : m / 3 ^ ns < 2 ^ 31 := by
      have := Nat.div_le_self m (3 ^ ns)
      omega
    have c1 : (0 : Int32) < nI (m / 3 ^ ns) ↔ 0 < m / 3 ^ ns := by rw [L0, nI_ltI (by omega) dv]
    cases hk : kO ns m with
    | none =>
      have nx := ih (m + 1) f (orI (x + 98) ns m I) (by omega) (by omega) F1
      have e : rFo fa fl ns (m + 1) = rFo fa fl ns m := by
        show (match kO ns m with
          | none => rFo fa fl ns m
          | some k => bstN (rFo fa fl ns m) k (fa k) (fl k)) = _
        rw [hk]
      rw [e] at nx
      have nx := nx hb (by
        unfold bO at ho ⊢
        rw [r99]
        exact ho)
      rcases kO_m ns (by omega) m (by omega) (fun k _ e => by rw [hk] at e; cases e) with g | g
      · rw [if_pos (c1.mpr g), L1, nI_add]
        exact nx
      · by_cases g2 : 0 < m / 3 ^ ns
        · rw [if_pos (c1.mpr g2), L1, nI_add]
          exact nx
        · rw [if_neg (fun e => g2 (c1.mp e)), if_neg g, L1, nI_add]
          exact nx
    | some k =>
      have hk6 := kO_lt ns (by omega) m (by omega) k hk
      have hva := kO_ok1 ns (by omega) m (by omega) k hk6 hk
      have hdv := kO_ok2 ns (by omega) m (by omega) k hk6 hk
      have hdg := kO_ok3 ns (by omega) m (by omega) k hk6 hk
      have hmk := kO_m2 ns (by omega) m (by omega) k hk6 hk
      have hor : ∀ p, p < ns → orI (x + 98) ns m I (x + 98) p = nI (oT k p) := fun p hp => by rw [orI_lo _ _ _ _ hp, hdg p hp]
      obtain ⟨I1, u1, u2', u3, u4, u5, u6, u7, u8, -⟩ := m_goAll1 (sg := oT k) hM hi ht h hM7 hM8 hns h51 hnr hnc hsev hcar (fun p hp => oT_lt ns (by omega) k hk6 hva p hp) (fun p _ => rfl) (hs k hk6 hva) F1 hor
      have e : rFo fa fl ns (m + 1) = bstN (rFo fa fl ns m) k (fa k) (fl k) := by
        show (match kO ns m with
          | none => rFo fa fl ns m
          | some k => bstN (rFo fa fl ns m) k (fa k) (fl k)) = _
        rw [hk]
      have lc : lcO (fl k) ≤ 1000000 := by
        cases hl : fl k with
        | none => exact Nat.le_refl _
        | some t => have := u8 t hl; show t ≤ 1000000; omega
      rw [if_neg (fun e => by have := c1.mp e; omega), if_pos hmk, u1, obs]
      have s0 : (if 0 ≤ I1 (x + 62) 57 then f_X12_findOrder_110 K R (x + 62) (f_X12_findOrder_6 K R (x + 62) f) (bA (rFo fa fl ns m)) (bL (rFo fa fl ns m)) (nI m) (I1 (x + 62) 57) I1 else f_X12_findOrder_110 K R (x + 62) (f_X12_findOrder_6 K R (x + 62) f) (bA (rFo fa fl ns m)) (bL (rFo fa fl ns m)) (nI m) 1000000 I1) = f_X12_findOrder_110 K R (x + 62) (f_X12_findOrder_6 K R (x + 62) f) (bA (rFo fa fl ns m)) (bL (rFo fa fl ns m)) (nI m) (nI (lcO (fl k))) I1 := by
        rw [u7]
        cases hl : fl k with
        | none =>
          rw [if_neg (show ¬ (0 : Int32) ≤ oI none by decide)]
          rfl
        | some t =>
          rw [if_pos (show (0 : Int32) ≤ oI (some t) from (oI_pos (x := some t) (fun s hs => u8 s (by rw [hl]; exact hs))).mpr (by simp))]
          rfl
      rw [s0]
      have keep : ¬ btr (rFo fa fl ns m) (fa k) (fl k) = true → ∃ I2, f_X12_findOrder_6 K R (x + 62) f (bA (rFo fa fl ns m)) (bL (rFo fa fl ns m)) (nI m + 1) I1 = some (bA (rFo fa fl ns 27), I2) ∧ FM (x + 62) mS mF I0 I2 ∧ bO x ns (rFo fa fl ns 27) I2 := fun nb => by
        have e2 : rFo fa fl ns (m + 1) = rFo fa fl ns m := by rw [e]; unfold bstN; rw [if_neg nb]
        have nx := ih (m + 1) f I1 (by omega) (by omega) u2'
        rw [e2] at nx
        rw [L1, nI_add]
        exact nx hb (by
          unfold bO at ho ⊢
          rw [u4, r99]
          exact ho)
      have take : btr (rFo fa fl ns m) (fa k) (fl k) = true → ∃ I2, f_X12_findOrder_137 K R (x + 62) (f_X12_findOrder_6 K R (x + 62) f) (nI m) (nI (lcO (fl k))) I1 = some (bA (rFo fa fl ns 27), I2) ∧ FM (x + 62) mS mF I0 I2 ∧ bO x ns (rFo fa fl ns 27) I2 := fun nb => by
        have e2 : rFo fa fl ns (m + 1) = some (k, fa k, fl k) := by rw [e]; unfold bstN; rw [if_pos nb]
        have nx := ih (m + 1) f (cpR (x + 99) (x + 98) ns I1) (by omega) (by omega) (u2'.cpB ns)
        rw [e2] at nx
        have fk2 : fa k ≤ 2673 := by omega
        have nx := nx ⟨hk6, fk2, lc⟩ (fun p hp => by
          show cpR (x + 99) (x + 98) ns I1 (x + 99) p = nI (oT k p)
          rw [cpR_lt hp, u3]
          exact hor p hp)
        have g := m_148 (I := I1) (r6 := f_X12_findOrder_6 K R (x + 62) f) (x1 := nI (fa k)) (x2 := nI (lcO (fl k))) (x3 := nI m) hM hns (by rw [u2'.fld (by decide) (by decide)]; exact h51) ns 0 FU (by omega) (FU_lt (by omega))
        rw [cpR_0] at g
        unfold f_X12_findOrder_137
        rw [u5, show (0 : Int32) = nI 0 from rfl, g, L1, nI_add]
        exact nx
      unfold f_X12_findOrder_110
      rw [u5]
      have fk : fa k ≤ 2673 := by omega
      cases hacc : rFo fa fl ns m with
      | none =>
        rw [hacc] at keep take
        have nn : ∀ v : Nat, v ≤ 2673 → ¬ (nI v < -1) ∧ ¬ (nI v = -1) := fun v hv => by
          rw [show (-1 : Int32) = jI (-1) from rfl, nI_jI]
          refine ⟨by rw [jlt (by omega) (by omega)]; omega, fun e => ?_⟩
          have : jI (-1) < jI v := (jlt (by omega) (by omega)).mpr (by omega)
          rw [e] at this
          exact Int32.lt_irrefl this
        rw [show bA none = -1 from rfl, if_neg (nn _ fk).1, if_neg (nn _ fk).2]
        exact take rfl
      | some t =>
        rw [hacc] at hb keep take
        obtain ⟨b1, b2, b3⟩ : t.1 < 6 ∧ t.2.1 ≤ 2673 ∧ lcO t.2.2 ≤ 1000000 := hb
        rw [show bA (some t) = nI t.2.1 from rfl, show bL (some t) = nI (lcO t.2.2) from rfl]
        by_cases d1 : fa k < t.2.1
        · rw [if_pos ((nI_ltI (by omega) (by omega)).mpr d1)]
          exact keep (fun hh => by rcases btr_iff.mp hh with hh | hh <;> omega)
        rw [if_neg (fun e => d1 ((nI_ltI (by omega) (by omega)).mp e))]
        by_cases d2 : fa k = t.2.1
        · rw [if_pos ((nI_eq (by omega) (by omega)).mpr d2)]
          by_cases d3 : lcO (fl k) < lcO t.2.2
          · rw [if_pos ((nI_ltI (by omega) (by omega)).mpr d3)]
            exact take (btr_iff.mpr (Or.inr ⟨d2.symm, d3⟩))
          · rw [if_neg (fun e => d3 ((nI_ltI (by omega) (by omega)).mp e))]
            exact keep (fun hh => by rcases btr_iff.mp hh with hh | hh <;> omega)
        · rw [if_neg (fun e => d2 ((nI_eq (by omega) (by omega)).mp e))]
          exact take (btr_iff.mpr (Or.inl (by omega)))
end
