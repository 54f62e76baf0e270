/-! all: several caravans go one after the other, in an order -/
abbrev CDt : Type := (Nat × Nat × Nat × Nat × Nat) × (Nat × Nat × Nat) × (Nat → Nat)
def CarOK (x nr k n : Nat) (t : CDt) (K : Sh) (I : Im) (R : Rf) : Prop := CarR x nr k n t.1.1 t.1.2.1 t.1.2.2.1 t.1.2.2.2.1 t.1.2.2.2.2 K I R ∧ RuleR x t.1.2.2.2.1 n t.1.2.2.2.2 t.2.1.1 t.2.1.2.1 t.2.1.2.2 t.2.2 K I R
def wth (b ld : Nat) (o : Option Nat) : Nat := match o with
  | none => 0
  | some _ => b * ld
def mxO (a b : Option Nat) : Option Nat := match a, b with
  | none, b => b
  | some a, none => some a
  | some a, some b => some (max a b)
theorem oI_lt {t : Nat} (h : t ≤ 900000) : oI none < nI t ∧ ¬ (nI t < oI none) ∧ ¬ (nI t ≤ oI none) ∧ oI none ≤ nI t := by
  show jI (-5) < jI t ∧ ¬ (jI t < jI (-5)) ∧ ¬ (jI t ≤ jI (-5)) ∧ jI (-5) ≤ jI t
  rw [jlt (by omega) (by omega), jlt (by omega) (by omega), jle (by omega) (by omega), jle (by omega) (by omega)]
  omega
theorem mxO_max {a b : Option Nat} (ha : ∀ t, a = some t → t ≤ 900000) (hb : ∀ t, b = some t → t ≤ 900000) : imax (oI a) (oI b) = oI (mxO a b) := by
  cases a with
  | none =>
    cases b with
    | none => rfl
    | some t =>
      have := oI_lt (hb t rfl)
      show imax (oI none) (nI t) = nI t
      unfold imax
      rw [if_pos this.1]
  | some s =>
    cases b with
    | none =>
      have := oI_lt (ha s rfl)
      show imax (nI s) (oI none) = nI s
      unfold imax
      rw [if_neg this.2.1]
    | some t =>
      have h1 := ha s rfl
      have h2 := hb t rfl
      exact imax_nI (by omega) (by omega)
theorem mxO_if {a b : Option Nat} (ha : ∀ t, a = some t → t ≤ 900000) (hb : ∀ t, b = some t → t ≤ 900000) : (oI b ≤ oI a ∧ oI a = oI (mxO a b)) ∨ (¬ (oI b ≤ oI a) ∧ oI b = oI (mxO a b)) := by
  cases a with
  | none =>
    cases b with
    | none => exact Or.inl ⟨Int32.le_refl _, rfl⟩
    | some t =>
      have := oI_lt (hb t rfl)
      exact Or.inr ⟨this.2.2.1, rfl⟩
  | some s =>
    cases b with
    | none =>
      have := oI_lt (ha s rfl)
      exact Or.inl ⟨this.2.2.2, rfl⟩
    | some t =>
      have h1 := ha s rfl
      have h2 := hb t rfl
      show (nI t ≤ nI s ∧ nI s = nI (max s t)) ∨ (¬ (nI t ≤ nI s) ∧ nI t = nI (max s t))
      rw [nI_leI (by omega) (by omega)]
      by_cases c : t ≤ s
      · exact Or.inl ⟨c, by rw [Nat.max_eq_left c]⟩
      · exact Or.inr ⟨c, by rw [Nat.max_eq_right (by omega)]⟩
theorem mxO_b {a b : Option Nat} (ha : ∀ t, a = some t → t ≤ 900000) (hb : ∀ t, b = some t → t ≤ 900000) : ∀ t, mxO a b = some t → t ≤ 900000 := by
  intro t ht
  cases a with
  | none => exact hb t ht
  | some s =>
    have h1 := ha s rfl
    cases b with
    | none => exact ha t ht
    | some u =>
      have h2 := hb u rfl
      have : max s u = t := Option.some.inj ht
      omega
/-- the run over an order: cv p is the caravan at place p of it -/
def SvR (w c : Nat → Nat) (cs : Nat → List Nat) (N : Nat) (fu gi hr : Nat → Nat) (W ld : Nat) (cd : Nat → CDt) (cv : Nat → Nat) : Nat → Nat → (Nat → Nat) → (Nat → Nat) → Nat → Option Nat → List (Option Nat) → Nat → Option Nat → Prop
  | 0, _, _, _, a, l, ovs, a', l' => ovs = [] ∧ a' = a ∧ l' = l
  | m + 1, p, le, la, a, l, ovs, a', l' => ∃ (rw : Nat → Nat) (T : TR) (rest : List (Option Nat)), RwP w c cs N W (cd (cv p)).1.2.1 (cd (cv p)).1.2.2.1 (cd (cv p)).2.1.1 (cd (cv p)).2.2 rw fu gi hr le la ∧ T = tripG w c cs N (cd (cv p)).1.2.1 (cd (cv p)).1.2.2.1 (cd (cv p)).2.1.1 (cd (cv p)).2.1.2.1 rw fu gi hr le la W ∧ ovs = T.1.1 :: rest ∧ SvR w c cs N fu gi hr W ld cd cv m (p + 1) T.2.2.2.1 T.2.2.2.2 (a + wth (cd (cv p)).1.2.1 ld T.1.1) (mxO l T.1.1) rest a' l'
section
variable {Z : Nat → Nat} {x n M nr nc NW i q N ns W ld Mp k o : Nat} {K : Sh} {I I0 : Im} {J : Jm} {R R0 : Rf} {w c d le la le0 la0 fu gi hr : Nat → Nat} {cs : Nat → List Nat} {cd : Nat → CDt} {cv sg sv : Nat → Nat}
theorem SvR.ex (hb : ∀ p, p < ns → (cd (cv p)).1.2.1 ≤ 9 ∧ ∀ k, (cd (cv p)).2.2 k ≤ 6) (hW : MW (x + 62) i N w c d I) (W : Nat) : ∀ (m p : Nat) (le la : Nat → Nat) (a : Nat) (l : Option Nat), p + m = ns → ∃ ovs a' l', SvR w c cs N fu gi hr W ld cd cv m p le la a l ovs a' l' := by
  intro m
  induction m with
  | zero => intro p le la a l _; exact ⟨_, _, _, rfl, rfl, rfl⟩
  | succ m ih =>
    intro p le la a l e
    obtain ⟨b1, b2⟩ := hb p (by omega)
    obtain ⟨rw, hrw⟩ := RwP.ex (x := x) (d := d) (cs := cs) (le := le) (la := la) (b := (cd (cv p)).1.2.1) (st := (cd (cv p)).1.2.2.1) (kd := (cd (cv p)).2.1.1) (fu := fu) (gi := gi) (hr := hr) b1 hW W b2
    obtain ⟨rest, a', l', z⟩ := ih (p + 1) (tripG w c cs N (cd (cv p)).1.2.1 (cd (cv p)).1.2.2.1 (cd (cv p)).2.1.1 (cd (cv p)).2.1.2.1 rw fu gi hr le la W).2.2.2.1 (tripG w c cs N (cd (cv p)).1.2.1 (cd (cv p)).1.2.2.1 (cd (cv p)).2.1.1 (cd (cv p)).2.1.2.1 rw fu gi hr le la W).2.2.2.2 (a + wth (cd (cv p)).1.2.1 ld (tripG w c cs N (cd (cv p)).1.2.1 (cd (cv p)).1.2.2.1 (cd (cv p)).2.1.1 (cd (cv p)).2.1.2.1 rw fu gi hr le la W).1.1) (mxO l (tripG w c cs N (cd (cv p)).1.2.1 (cd (cv p)).1.2.2.1 (cd (cv p)).2.1.1 (cd (cv p)).2.1.2.1 rw fu gi hr le la W).1.1) (by omega)
    exact ⟨_, a', l', rw, _, rest, hrw, rfl, rfl, z⟩
theorem tripG_b (hw : MW (x + 62) i N w c d I) {b st kd v : Nat} {rw : Nat → Nat} (hv : v ≤ 6) (hrw : ∀ k, rw k ≤ 6) (hst : st ≤ M) (hM : M ≤ 800000) (hll : ∀ j, j < wlN w N → le j ≤ 99 ∧ la j ≤ M) {T : TR} (hT : T = tripG w c cs N b st kd v rw (wlV w c N) (wlV w d N) (wyV w c N) le la (wlN w N)) : (∀ t, T.1.1 = some t → t ≤ 900000) ∧ (∀ t, T.1.2 = some t → t ≤ wlN w N) ∧ ∀ j, j < wlN w N → T.2.2.2.1 j ≤ 99 ∧ T.2.2.2.2 j ≤ M + 75 := by
  have h5 := wlN_le w N
  obtain ⟨z1, z2, z3⟩ := trN_b (M := M) (fun k _ => (wyV_b (fun m hm h => (hw.2.2.2 m hm).2.2.2.2.1 h) k).2) hv hrw (fun k _ => wlV_le (fun m hm _ => (hw.2.2.2 m hm).2.2.2.1) k) 6 0 st (b * laV w c 3 10 N) le la (fun _ => none) (fun _ => none) (by omega) (Nat.zero_le _) (fun j hj => by have := hll j hj; omega) (fun j _ hj => (hll j hj).2) (by omega) T hT
  exact ⟨fun t ht => by have := z1 t ht; omega, z2, fun j hj => by have := z3 j hj; omega⟩
theorem wth_le {b : Nat} {o : Option Nat} (h1 : b ≤ 9) (h2 : ld ≤ 99) : wth b ld o ≤ 891 := by
  cases o with
  | none => exact Nat.zero_le _
  | some t => exact Nat.mul_le_mul h1 h2
theorem car_get (hC : CSH x K R) (h6 : I x 6 = nI nc) (hnc : nc ≤ 6) (hk : k < nc) {a : Nat} (ha : R (x + 7) k = some a) : f_X11_caravanAt K I R x (nI k) = some (some a) := by
  unfold f_X11_caravanAt
  rw [h6, if_neg (show ¬ nI k < 0 by rw [L0, nI_ltI (by omega) (by omega)]; omega), if_neg (show ¬ nI nc ≤ nI k by rw [nI_leI (by omega) (by omega)]; omega), l11_5 (cS11 hC) (by omega), obs, ha]
set_option maxHeartbeats 1000000 in
theorem c_svLoop (h : NowR x (x + 8) i q n M N (x + 73) (x + 74) w c d cs le0 la0 K I0 R0) (hns : ns ≤ 3) (h4 : I0 (x + 8) 4 = nI ns) (h6 : I0 x 6 = nI nc) (hnc : nc ≤ 6) (hsev : ∀ p, p < ns → I0 (x + 15) p = nI (sv p) ∧ sv p < nc) (hcar : ∀ k, k < nc → CarOK x nr k n (cd k) K I0 R0) (hZ : ZZ Z x K I0) (hk : k < 6) (hsg : ∀ p, p < ns → sg p < ns ∧ zD 1 (k * 3 + p) = nI (sg p)) (hcv : ∀ p, p < ns → cv p = sv (sg p)) :
    ∀ (m p f : Nat) (le la : Nat → Nat) (Mp a : Nat) (l : Option Nat) (ovs : List (Option Nat)) (a' : Nat) (l' : Option Nat) (I : Im) (R : Rf), p + m = ns → m < f → (∀ z, z < x + 29 ∨ x + 50 ≤ z → I z = I0 z) → (∀ z, z < x + 29 ∨ x + 50 ≤ z → R z = R0 z) → CSH x K R → WlF (x + 39) (wlN w N) Mp I (wlV w c N) (wlV w d N) le la → 100 ≤ Mp → Mp + 75 * m ≤ 800000 → I (x + 37) 1 = nI a → a ≤ 891 * p → I (x + 37) 2 = oI l → (∀ t, l = some t → t ≤ 900000) → SvR w c cs N (wlV w c N) (wlV w d N) (wyV w c N) (wlN w N) (laV w c 4 1 N) cd cv m p le la a l ovs a' l' →
    ∃ I1 R1, f_X11_sendSeveral_23 Z K x f (nI k) (nI p) I R = some (I1, R1) ∧ (∀ z, z < x + 29 ∨ x + 50 ≤ z → I1 z = I0 z) ∧ (∀ z, z < x + 29 ∨ x + 50 ≤ z → R1 z = R0 z) ∧ CSH x K R1 ∧ (∀ j, j ≠ 1 → j ≠ 2 → I1 (x + 37) j = I (x + 37) j) ∧ I1 (x + 37) 1 = nI a' ∧ a' ≤ 891 * ns ∧ I1 (x + 37) 2 = oI l' ∧ (∀ t, l' = some t → t ≤ 900000) ∧ ((∀ p, p < ns → sg p = p) → (∀ j, j < p → I1 (x + 38) j = I (x + 38) j) ∧ ∀ j, j < m → I1 (x + 38) (p + j) = oI (ovs.getD j none)) := by
  have hMw := h.2.1.1
  have hld := h.2.1.2.2.2.2.2.2.1
  intro m
  induction m with
  | zero =>
    intro p f le la Mp a l ovs a' l' I R e1 e2 hI hR hC hwl hM7 hM8 ha hab hl hlb hs
    obtain ⟨f, rfl⟩ : ∃ f', f = f' + 1 := ⟨f - 1, by omega⟩
    obtain ⟨s1, s2, s3⟩ := hs
    have o7 : ob K 7 (R x 7) = some (x + 8) := o11_7 (cS11 hC)
    refine ⟨I, R, ?_, hI, hR, hC, fun _ _ _ => rfl, by rw [s2]; exact ha, by rw [s2, ← e1]; exact hab, by rw [s3]; exact hl, by rw [s3]; exact hlb, fun _ => ⟨fun _ _ => rfl, fun j hj => by omega⟩⟩
    unfold f_X11_sendSeveral_23
    rw [o7, obs, hI _ (by omega), h4, if_pos (by rw [nI_leI (by omega) (by omega)]; omega)]
  | succ m ih =>
    intro p f le la Mp a l ovs a' l' I R e1 e2 hI hR hC hwl hM7 hM8 ha hab hl hlb hs
    obtain ⟨f, rfl⟩ : ∃ f', f = f' + 1 := ⟨f - 1, by omega⟩
    obtain ⟨rw_, T, rest, s1, s2, s3, s4⟩ := hs
    have S11 := cS11 hC
    have o7 : ob K 7 (R x 7) = some (x + 8) := o11_7 S11
    obtain ⟨g1, g2⟩ := hsg p (by omega)
    obtain ⟨g3, g4⟩ := hsev (sg p) g1
    have hcp := hcv p (by omega)
    have hQ : QF x I0 I := QF.cls hI
    have hqr : QR x R0 R := hR
    have hca := hcar (cv p) (by rw [hcp]; exact g4)
    generalize hcd : cd (cv p) = t at s1 s2 s4 hca
    obtain ⟨⟨aa, b, st, r, ra⟩, ⟨kd, vv, rn⟩, rwr⟩ := t
    obtain ⟨hc0, hr0⟩ : CarR x nr (cv p) n aa b st r ra K I0 R0 ∧ RuleR x r n ra kd vv rn rwr K I0 R0 := hca
    have s1 : RwP w c cs N (wlN w N) b st kd rwr rw_ (wlV w c N) (wlV w d N) (wyV w c N) le la := s1
    have s2 : T = tripG w c cs N b st kd vv rw_ (wlV w c N) (wlV w d N) (wyV w c N) le la (wlN w N) := s2
    have s4 : SvR w c cs N (wlV w c N) (wlV w d N) (wyV w c N) (wlN w N) (laV w c 4 1 N) cd cv m (p + 1) T.2.2.2.1 T.2.2.2.2 (a + wth b (laV w c 4 1 N) T.1.1) (mxO l T.1.1) rest a' l' := s4
    have hc1 := hc0.qf hQ hqr
    have hr1 := hr0.qf hQ hqr
    have hw1 : WasteR x i q N w c d cs K I R := h.2.1.qf hQ hqr
    have hst : st ≤ Mp := by have := hc0.2.2.2.2.2.2.2.2.1; omega
    have hb9 : b ≤ 9 := hc0.2.2.2.2.2.2.1
    have tb := tripG_b (le := le) (la := la) hMw (b := b) (kd := kd) hr0.2.1.2.2.2.2.2.1 s1.1 hst (by omega) (fun j hj => ⟨(hwl j hj).2.2.2.2.2.1, (hwl j hj).2.2.2.2.2.2.2⟩) s2
    obtain ⟨⟨I2, R2⟩, y1, y2, y3, y4, y5⟩ := cls_car hC (Or.inr rfl) hw1 hc1 hr1 hwl (by omega) hM7 s1
    have y2 : ∀ z, z < x + 29 ∨ x + 37 ≤ z → z ≠ x + 39 + 3 → z ≠ x + 39 + 4 → I2 z = I z := y2
    have y3 : ∀ z, z ≠ x + 32 → R2 z = R z := y3
    have y4 : CSH x K R2 := y4
    rw [← s2] at y5
    have y5 : TripC (x + 29) (x + 39) (wlN w N) I2 T := y5
    have fI2 : ∀ z, z < x + 29 ∨ x + 50 ≤ z → I2 z = I0 z := fun z hz => by rw [y2 z (by omega) (by omega) (by omega)]; exact hI z hz
    have fR2 : ∀ z, z < x + 29 ∨ x + 50 ≤ z → R2 z = R0 z := fun z hz => by rw [y3 z (by omega)]; exact hR z hz
    have hw2 : WasteR x i q N w c d cs K I2 R2 := h.2.1.qf (QF.cls fI2) fR2
    have cw := c_worth y4 hw2 (by rw [fR2 _ (by omega)]; exact h.1) (b := b) (T := T) y5.1 tb.1
    have cw : f_X11_worthOf K I2 R2 x (nI b) = some (nI (wth b (laV w c 4 1 N) T.1.1)) := by
      rw [cw]
      cases T.1.1 <;> rfl
    have wl9 := wth_le (b := b) (ld := laV w c 4 1 N) (o := T.1.1) hb9 hld
    have S112 := cS11 y4
    have a0 : I2 aa 0 = nI b := by rw [fI2 aa (by have := hc0.2.2.1; omega)]; exact hc0.2.2.2.2.1
    have z37 : I2 (x + 37) = I (x + 37) := y2 _ (by omega) (by omega) (by omega)
    have z38 : I2 (x + 38) = I (x + 38) := y2 _ (by omega) (by omega) (by omega)
    -- the note
    have nt : f_X2_note K R2 (x + 37) (nI (sg p)) (oI T.1.1) (nI (wth b (laV w c 4 1 N) T.1.1)) I2 = some (u2 (u2 (u2 I2 (x + 38) (sg p) (oI T.1.1)) (x + 37) 1 (nI (a + wth b (laV w c 4 1 N) T.1.1))) (x + 37) 2 (oI (mxO l T.1.1))) := by
      unfold f_X2_note
      rw [s2_0 (cS2 y4) (by omega), obs, obs, obs, show ∀ v, u2 I2 (x + 37 + 1) (sg p) v (x + 37) 1 = nI a from fun v => by rw [u2_row (by omega), z37]; exact ha, nI_add, u2_ne (by omega), show ∀ v, u2 I2 (x + 37 + 1) (sg p) v (x + 37) 2 = oI l from fun v => by rw [u2_row (by omega), z37]; exact hl, mxO_max hlb tb.1]
    generalize hI3 : u2 (u2 (u2 I2 (x + 38) (sg p) (oI T.1.1)) (x + 37) 1 (nI (a + wth b (laV w c 4 1 N) T.1.1))) (x + 37) 2 (oI (mxO l T.1.1)) = I3 at nt
    have fI3 : ∀ z, z ≠ x + 37 → z ≠ x + 38 → I3 z = I2 z := fun z z1 z2 => by rw [← hI3, u2_row z1, u2_row z1, u2_row z2]
    have hwl3 : WlF (x + 39) (wlN w N) (Mp + 75) I3 (wlV w c N) (wlV w d N) T.2.2.2.1 T.2.2.2.2 := by
      intro j hj
      obtain ⟨b1, b2, b3, b4, -, -, -, -⟩ := hwl j hj
      obtain ⟨t1, t2⟩ := y5.2.2.2 j hj
      obtain ⟨t3, t4⟩ := tb.2.2 j hj
      rw [fI3 _ (by omega) (by omega), fI3 _ (by omega) (by omega), fI3 _ (by omega) (by omega), fI3 _ (by omega) (by omega), y2 (x + 39 + 1) (by omega) (by omega) (by omega), y2 (x + 39 + 2) (by omega) (by omega) (by omega)]
      exact ⟨b1, b2, b3, b4, t1, t3, t2, t4⟩
    obtain ⟨I1, R1, u1, u2', u3, u4, u5, u6, u7, u8, u9, u10⟩ := ih (p + 1) f T.2.2.2.1 T.2.2.2.2 (Mp + 75) (a + wth b (laV w c 4 1 N) T.1.1) (mxO l T.1.1) rest a' l' I3 R2 (by omega) (by omega) (fun z hz => by rw [fI3 z (by omega) (by omega)]; exact fI2 z hz) fR2 y4 hwl3 (by omega) (by omega) (by rw [← hI3, u2_ne (by omega), u2_eq]) (by omega) (by rw [← hI3, u2_eq]) (mxO_b hlb tb.1) s4
    refine ⟨I1, R1, ?_, u2', u3, u4, fun j j1 j2 => ?_, u6, u7, u8, u9, fun hid => ?_⟩
    · unfold f_X11_sendSeveral_23
      rw [o7, obs, hI _ (by omega), h4, if_neg (by rw [nI_leI (by omega) (by omega)]; omega), L3, pk_mul, nI_add, ldI_Z (hZ.of (fun z hz => hI z (by omega))) (by omega) (show k * 3 + p < zL 1 by show _ < 18; omega), g2, obs, l6_3 (cS6n hC) (by omega), obs, hI _ (by omega), g3, ← hcp, car_get hC (by rw [hI _ (by omega)]; exact h6) hnc (by rw [hcp]; exact g4) hc1.1, obs, if_neg (by simp), r11_15 S11, hR _ (by omega), h.1, y1, obs]
      dsimp only
      rw [o11_12 S112, obs, ob_ok (by rw [hc0.2.1]), obs, a0, cw, obs, o11_14 S112, obs, y5.1, nt, obs, L1, nI_add]
      exact u1
    · rw [u5 j j1 j2, ← hI3, u2_ne j2, u2_ne j1, u2_row (by omega), z37]
    · obtain ⟨v1, v2⟩ := u10 hid
      refine ⟨fun j hj => ?_, fun j hj => ?_⟩
      · rw [v1 j (by omega), ← hI3, u2_row (by omega), u2_row (by omega), u2_ne (by rw [hid p (by omega)]; omega), z38]
      · rw [s3]
        cases j with
        | zero =>
          show I1 (x + 38) p = oI T.1.1
          rw [v1 p (by omega), ← hI3, u2_row (by omega), u2_row (by omega), hid p (by omega), u2_eq]
        | succ j =>
          have := v2 j (by omega)
          rw [show p + (j + 1) = p + 1 + j by omega, this]
          rfl
end
