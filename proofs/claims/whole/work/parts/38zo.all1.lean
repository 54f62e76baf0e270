section
variable {Z : Nat → Nat} {x n M nr nc NW i q N ns W ld Mp k o : Nat} {K : Sh} {I I0 : Im} {J : Jm} {R R0 : Rf} {w c d le la le0 la0 fu gi hr : Nat → Nat} {cs : Nat → List Nat} {cd : Nat → CDt} {cv sg sv : Nat → Nat}
set_option maxHeartbeats 1000000 in
theorem m_svLoop (hM : S12 (x + 62) K R) (hi : i < 5) (ht : I0 (x + 62) 1 = nI i) (hw : WasteR x i q N w c d cs K I0 R) (hns : ns ≤ 3) (h51 : I0 (x + 62) 51 = nI ns) (hnr : nr ≤ 10) (hnc : nc ≤ 6) (hsev : ∀ p, p < ns → I0 (x + 96) p = nI (sv p) ∧ sv p < nc) (hcar : ∀ k, k < nc → CarOK x nr k n (cd k) K I0 R) (hsg : ∀ p, p < ns → sg p < ns) (hcv : ∀ p, p < ns → cv p = sv (sg p)) :
    ∀ (m p f : Nat) (le la : Nat → Nat) (Mp a : Nat) (l : Option Nat) (ovs : List (Option Nat)) (a' : Nat) (l' : Option Nat) (I : Im), p + m = ns → m < f → FM (x + 62) mS mF I0 I → LayG (x + 62) (wlN w N) Mp I (wlV w c N) (wlV w d N) (wyV w c N) le la → 100 ≤ Mp → Mp + 75 * m ≤ 800000 → I (x + 62) 56 = nI a → a ≤ 891 * p → I (x + 62) 57 = oI l → (∀ t, l = some t → t ≤ 900000) → (∀ p, p < ns → I (x + 98) p = nI (sg p)) → SvR w c cs N (wlV w c N) (wlV w d N) (wyV w c N) (wlN w N) (laV w c 4 1 N) cd cv m p le la a l ovs a' l' →
    ∃ I1, f_X12_goAll_17 K R (x + 62) f (nI p) I = some I1 ∧ FM (x + 62) mS mF I0 I1 ∧ I1 (x + 98) = I (x + 98) ∧ I1 (x + 99) = I (x + 99) ∧ I1 (x + 62) 56 = nI a' ∧ a' ≤ 891 * ns ∧ I1 (x + 62) 57 = oI l' ∧ (∀ t, l' = some t → t ≤ 900000) ∧ (∀ j, j < p → I1 (x + 97) j = I (x + 97) j) ∧ ∀ j, j < m → I1 (x + 97) (p + j) = oI (ovs.getD j none) := by
  have hMw := hw.1
  have hld := hw.2.2.2.2.2.2.1
  intro m
  induction m with
  | zero =>
    intro p f le la Mp a l ovs a' l' I e1 e2 hF hL hM7 hM8 ha hab hl hlb hor hs
    obtain ⟨f, rfl⟩ : ∃ f', f = f' + 1 := ⟨f - 1, by omega⟩
    obtain ⟨s1, s2, s3⟩ := hs
    refine ⟨I, ?_, hF, rfl, rfl, by rw [s2]; exact ha, by rw [s2, ← e1]; exact hab, by rw [s3]; exact hl, by rw [s3]; exact hlb, fun _ _ => rfl, fun j hj => by omega⟩
    unfold f_X12_goAll_17
    rw [hF.fld (by decide) (by decide), h51, if_pos (by rw [nI_leI (by omega) (by omega)]; omega)]
  | succ m ih =>
    intro p f le la Mp a l ovs a' l' I e1 e2 hF hL hM7 hM8 ha hab hl hlb hor hs
    obtain ⟨f, rfl⟩ : ∃ f', f = f' + 1 := ⟨f - 1, by omega⟩
    obtain ⟨rw_, T, rest, s1, s2, s3, s4⟩ := hs
    have g1 := hsg p (by omega)
    obtain ⟨g3, g4⟩ := hsev (sg p) g1
    have hcp := hcv p (by omega)
    have hQ : QF x I0 I := QF.fm hF (fun _ h => h) (fun _ h => h)
    have hca := hcar (cv p) (by rw [hcp]; exact g4)
    have hck : cv p < nc := by rw [hcp]; exact g4
    generalize hcd : cd (cv p) = t at s1 s2 s4 hca
    obtain ⟨⟨aa, b, st, r, ra⟩, ⟨kd, vv, rn⟩, rwr⟩ := t
    obtain ⟨hc0, hr0⟩ : CarR x nr (cv p) n aa b st r ra K I0 R ∧ RuleR x r n ra kd vv rn rwr K I0 R := hca
    have s1 : RwP w c cs N (wlN w N) b st kd rwr rw_ (wlV w c N) (wlV w d N) (wyV w c N) le la := s1
    have s2 : T = tripG w c cs N b st kd vv rw_ (wlV w c N) (wlV w d N) (wyV w c N) le la (wlN w N) := s2
    have s4 : SvR w c cs N (wlV w c N) (wlV w d N) (wyV w c N) (wlN w N) (laV w c 4 1 N) cd cv m (p + 1) T.2.2.2.1 T.2.2.2.2 (a + wth b (laV w c 4 1 N) T.1.1) (mxO l T.1.1) rest a' l' := s4
    have hc1 := hc0.qf hQ QR.refl
    have hr1 := hr0.qf hQ QR.refl
    have hw1 : WasteR x i q N w c d cs K I R := hw.qf hQ QR.refl
    have hst : st ≤ Mp := by have := hc0.2.2.2.2.2.2.2.2.1; omega
    have hb9 : b ≤ 9 := hc0.2.2.2.2.2.2.1
    have tb := tripG_b (le := le) (la := la) hMw (b := b) (kd := kd) hr0.2.1.2.2.2.2.2.1 s1.1 hst (by omega) (fun j hj => ⟨(hL.2.2.1 j hj).2.2.2.2.2.1, (hL.2.2.1 j hj).2.2.2.2.2.2.2⟩) s2
    have ht1 : I (x + 62) 1 = nI i := by rw [hF.fld (by decide) (by decide)]; exact ht
    obtain ⟨I2, y1, y2, y3⟩ := ref_car hM hi hw1 ht1 hL hc1 hr1 hnr (by omega) (by omega) hM7 s1
    rw [← s2] at y3
    have y2 : FM (x + 62) goS goF I I2 := y2
    have y3 : TripM (x + 62) (wlN w N) I2 T := y3
    have F2 : FM (x + 62) mS mF I0 I2 := hF.trans (y2.mono (by decide) (by decide))
    have wl9 := wth_le (b := b) (ld := laV w c 4 1 N) (o := T.1.1) hb9 hld
    have Fo : FM (x + 62) mS mF I0 (u2 I2 (x + 62 + 35) p (oI T.1.1)) := F2.st (by decide)
    -- the caravan is over, or not: its worth
    have z56 : ∀ v, u2 I2 (x + 62 + 35) p v (x + 62) 56 = nI a := fun v => by rw [u2_row (by omega), y2.fld (by decide) (by decide)]; exact ha
    have z50 : ∀ v, u2 I2 (x + 62 + 35) p v (x + 62) 50 = oI T.1.1 := fun v => by rw [u2_row (by omega)]; exact y3.1
    have hq1 : QF x I0 (u2 I2 (x + 62 + 35) p (oI T.1.1)) := QF.fm Fo (fun _ h => h) (fun _ h => h)
    have hw3 : WasteR x i q N w c d cs K (u2 I2 (x + 62 + 35) p (oI T.1.1)) R := hw.qf hq1 QR.refl
    have hld3 : f_X12_last K (u2 I2 (x + 62 + 35) p (oI T.1.1)) R (x + 62) 4 1 = some (nI (laV w c 4 1 N)) := m_last (s := 4) (e := 1) hM (by omega) hi hw3.1 (by rw [Fo.fld (by decide) (by decide)]; exact ht)
    have hb85 : u2 I2 (x + 62 + 35) p (oI T.1.1) (x + 62 + 23) (cv p) = nI b := by rw [Fo.arr (by decide) (by decide)]; exact hc0.2.2.2.2.2.2.2.2.2.2.2.2.1
    have o13 : ob K 13 (some (x + 62)) = some (x + 62) := ob_ok (by rw [show K (x + 62) = _ from MSH.k0 hM])
    generalize hI3 : u2 I2 (x + 62 + 35) p (oI T.1.1) = I3 at Fo hq1 hw3 hld3 hb85
    have z56' : I3 (x + 62) 56 = nI a := by rw [← hI3]; exact z56 _
    have z50' : I3 (x + 62) 50 = oI T.1.1 := by rw [← hI3]; exact z50 _
    have z57' : I3 (x + 62) 57 = oI l := by rw [← hI3, u2_row (by omega), y2.fld (by decide) (by decide)]; exact hl
    have F4 : FM (x + 62) mS mF I0 (u2 (u2 I3 (x + 62) 56 (nI (a + wth b (laV w c 4 1 N) T.1.1))) (x + 62) 57 (oI (mxO l T.1.1))) := (Fo.pf (by decide)).pf (by decide)
    have tail81 : ∀ v1 v2, v1 + v2 = nI (a + wth b (laV w c 4 1 N) T.1.1) → f_X12_goAll_81 K R (x + 62) (f_X12_goAll_17 K R (x + 62) f) (nI p) (some (x + 62)) v1 v2 I3 = f_X12_goAll_17 K R (x + 62) f (nI (p + 1)) (u2 (u2 I3 (x + 62) 56 (nI (a + wth b (laV w c 4 1 N) T.1.1))) (x + 62) 57 (oI (mxO l T.1.1))) := by
      intro v1 v2 hv
      have t108 : ∀ v, f_X12_goAll_108 K R (x + 62) (f_X12_goAll_17 K R (x + 62) f) (nI p) (some (x + 62)) v (u2 I3 (x + 62) 56 (nI (a + wth b (laV w c 4 1 N) T.1.1))) = f_X12_goAll_17 K R (x + 62) f (nI (p + 1)) (u2 (u2 I3 (x + 62) 56 (nI (a + wth b (laV w c 4 1 N) T.1.1))) (x + 62) 57 v) := fun v => by
        unfold f_X12_goAll_108
        rw [o13, obs, obs, L1, nI_add]
      unfold f_X12_goAll_81
      rw [o13, obs, hv, obs, u2_ne (by omega), u2_ne (by omega), z50', z57', t108, t108]
      rcases mxO_if hlb tb.1 with ⟨c1, c2⟩ | ⟨c1, c2⟩
      · rw [if_pos c1, c2]
      · rw [if_neg c1, c2]
    generalize hI4 : u2 (u2 I3 (x + 62) 56 (nI (a + wth b (laV w c 4 1 N) T.1.1))) (x + 62) 57 (oI (mxO l T.1.1)) = I4 at F4 tail81
    have r4 : ∀ z, z ≠ x + 62 → z ≠ x + 97 → I4 z = I2 z := fun z z1 z2 => by rw [← hI4, u2_row z1, u2_row z1, ← hI3, u2_row z2]
    have hL4 : LayG (x + 62) (wlN w N) (Mp + 75) I4 (wlV w c N) (wlV w d N) (wyV w c N) T.2.2.2.1 T.2.2.2.2 := by
      refine ⟨?_, hL.2.1, fun j hj => ?_, fun j hj => ?_⟩
      · rw [← hI4, u2_ne (by omega), u2_ne (by omega), ← hI3, u2_row (by omega), y2.fld (by decide) (by decide)]; exact hL.1
      · obtain ⟨b1, b2, b3, b4, -, -, -, -⟩ := hL.2.2.1 j hj
        obtain ⟨t1, t2⟩ := y3.2.2.2 j hj
        obtain ⟨t3, t4⟩ := tb.2.2 j hj
        rw [r4 _ (by omega) (by omega), r4 _ (by omega) (by omega), r4 _ (by omega) (by omega), r4 _ (by omega) (by omega), y2.arr (i := 14) (by decide) (by decide), y2.arr (i := 15) (by decide) (by decide)]
        exact ⟨b1, b2, b3, b4, t1, t3, t2, t4⟩
      · rw [r4 _ (by omega) (by omega), y2.arr (i := 16) (by decide) (by decide)]
        exact hL.2.2.2 j hj
    have r98 : I4 (x + 98) = I (x + 98) := by rw [r4 _ (by omega) (by omega)]; exact y2.arr (i := 36) (by decide) (by decide)
    have r99 : I4 (x + 99) = I (x + 99) := by rw [r4 _ (by omega) (by omega)]; exact y2.arr (i := 37) (by decide) (by decide)
    obtain ⟨I1, u1, u2', u3, u4, u5, u6, u7, u8, u9, u10⟩ := ih (p + 1) f T.2.2.2.1 T.2.2.2.2 (Mp + 75) (a + wth b (laV w c 4 1 N) T.1.1) (mxO l T.1.1) rest a' l' I4 (by omega) (by omega) F4 hL4 (by omega) (by omega) (by rw [← hI4, u2_ne (by omega), u2_eq]) (by omega) (by rw [← hI4, u2_eq]) (mxO_b hlb tb.1) (by rw [r98]; exact hor) s4
    have r97 : ∀ j, I4 (x + 97) j = if j = p then oI T.1.1 else I (x + 97) j := fun j => by
      rw [← hI4, u2_row (by omega), u2_row (by omega), ← hI3]
      by_cases cj : j = p
      · subst cj; rw [if_pos rfl]; exact u2_eq _ _ _ _
      · rw [if_neg cj, u2_ne cj]
        have := y2.arr (i := 35) (by decide) (by decide)
        exact congrFun this j
    refine ⟨I1, ?_, u2', by rw [u3, r98], by rw [u4, r99], u5, u6, u7, u8, fun j hj => ?_, fun j hj => ?_⟩
    · have z51 : I (x + 62) 51 = nI ns := by rw [hF.fld (by decide) (by decide)]; exact h51
      have z96 : I (x + 62 + 34) (sg p) = nI (sv (sg p)) := by rw [hF.arr (by decide) (by decide)]; exact g3
      have z98 : I (x + 62 + 36) p = nI (sg p) := hor p (by omega)
      unfold f_X12_goAll_17
      rw [z51, if_neg (by rw [nI_leI (by omega) (by omega)]; omega), l12_54 hM (by omega), obs, z98, l12_52 hM (by omega), obs, z96, ← hcp, y1, obs, y3.1, s12_53 hM (by omega), obs, hI3, z50']
      by_cases c0 : T.1.1 = none
      · rw [if_neg (by rw [L0, oI_pos tb.1]; exact fun h => h c0), z56']
        rw [tail81 (nI a) 0 (by rw [L0, nI_add, c0]; rfl)]
        exact u1
      · rw [if_pos (show (0 : Int32) ≤ oI T.1.1 from (oI_pos tb.1).mpr c0), l12_34 hM (by omega), obs, hb85, hld3, obs, z56', pk_mul]
        rw [tail81 (nI a) (nI (b * laV w c 4 1 N)) (by
          rw [nI_add]
          cases hT : T.1.1 with
          | none => exact absurd hT c0
          | some t => rfl)]
        exact u1
    · rw [u9 j (by omega), r97, if_neg (by omega)]
    · rw [s3]
      cases j with
      | zero =>
        show I1 (x + 97) p = oI T.1.1
        rw [u9 p (by omega), r97, if_pos rfl]
      | succ j =>
        have := u10 j (by omega)
        rw [show p + (j + 1) = p + 1 + j by omega, this]
        rfl
/-- the class' whole run over an order -/
def n5R (b m : Nat) (I : Im) : Im := fun z j => if z = b ∧ j < m then -5 else I z j
theorem n5R_st {b m : Nat} {I : Im} : u2 (n5R b m I) b m (-5) = n5R b (m + 1) I := by
  funext z j
  unfold u2 n5R
  by_cases c : z = b ∧ j = m
  · rw [if_pos c, if_pos ⟨c.1, by omega⟩]
  · rw [if_neg c]
    by_cases d : z = b ∧ j < m
    · rw [if_pos d, if_pos ⟨d.1, by omega⟩]
    · rw [if_neg d, if_neg (by omega)]
theorem n5R_row {b m z : Nat} {I : Im} (h : z ≠ b) : n5R b m I z = I z := by
  funext j
  unfold n5R
  rw [if_neg (fun c => h c.1)]
theorem n5R_0 {b : Nat} {I : Im} : n5R b 0 I = I := by
  funext z j
  unfold n5R
  rw [if_neg (by omega)]
theorem n5R_in {b m j : Nat} {I : Im} (h : j < m) : n5R b m I b j = -5 := if_pos ⟨rfl, h⟩
theorem c_begin13 (hS : S2 o K R) : ∀ (r k f : Nat), k + r = 3 → r < f → f_X2_begin_13 K R o f (nI k) (n5R (o + 1) k I) = some (n5R (o + 1) 3 I) := by
  intro r
  induction r with
  | zero =>
    intro k f e1 e2
    obtain ⟨f, rfl⟩ : ∃ f', f = f' + 1 := ⟨f - 1, by omega⟩
    have : k = 3 := by omega
    subst this
    unfold f_X2_begin_13
    rw [if_pos (by decide)]
  | succ r ih =>
    intro k f e1 e2
    obtain ⟨f, rfl⟩ : ∃ f', f = f' + 1 := ⟨f - 1, by omega⟩
    unfold f_X2_begin_13
    rw [if_neg (by rw [L3, nI_leI (by omega) (by omega)]; omega), s2_0 hS (by omega), obs, n5R_st, L1, nI_add]
    exact ih (k + 1) f (by omega) (by omega)
theorem c_several (h : NowR x (x + 8) i q n M N (x + 73) (x + 74) w c d cs le la K I0 R0) (hM7 : 100 ≤ M) (hM8 : M + 225 ≤ 800000) (hns : ns ≤ 3) (h4 : I0 (x + 8) 4 = nI ns) (h6 : I0 x 6 = nI nc) (hnc : nc ≤ 6) (hsev : ∀ p, p < ns → I0 (x + 15) p = nI (sv p) ∧ sv p < nc) (hcar : ∀ k, k < nc → CarOK x nr k n (cd k) K I0 R0) (hZ : ZZ Z x K I0) (hk : k < 6) (hsg : ∀ p, p < ns → sg p < ns ∧ zD 1 (k * 3 + p) = nI (sg p)) (hcv : ∀ p, p < ns → cv p = sv (sg p))
    {ovs : List (Option Nat)} {a' : Nat} {l' : Option Nat} (hs : SvR w c cs N (wlV w c N) (wlV w d N) (wyV w c N) (wlN w N) (laV w c 4 1 N) cd cv ns 0 le la 0 none ovs a' l') (hI : ∀ z, z < x + 29 ∨ x + 50 ≤ z → I z = I0 z) (hR : ∀ z, z < x + 29 ∨ x + 50 ≤ z → R z = R0 z) (hC : CSH x K R) :
    ∃ I1 R1, f_X11_sendSeveral Z K x (nI k) I R = some (I1, R1) ∧ (∀ z, z < x + 29 ∨ x + 50 ≤ z → I1 z = I0 z) ∧ (∀ z, z < x + 29 ∨ x + 50 ≤ z → R1 z = R0 z) ∧ CSH x K R1 ∧ (∀ j, j ≠ 1 → j ≠ 2 → I1 (x + 37) j = I (x + 37) j) ∧ I1 (x + 37) 1 = nI a' ∧ a' ≤ 891 * ns ∧ I1 (x + 37) 2 = oI l' ∧ (∀ t, l' = some t → t ≤ 900000) ∧ ((∀ p, p < ns → sg p = p) → ∀ j, j < ns → I1 (x + 38) j = oI (ovs.getD j none)) := by
  have S11 := cS11 hC
  have hQ : QF x I0 I := QF.cls hI
  have h1 := h.qf (s := 8) (Or.inl rfl) (jL := 73) (jT := 74) ⟨by omega, by decide⟩ ⟨by omega, by decide⟩ hQ hR
  obtain ⟨I2, y0, y1, y2⟩ := c_become (P := fun I1 => (∀ z, z ≠ x + 40 → z ≠ x + 41 → z ≠ x + 42 → z ≠ x + 43 → I1 z = I z) ∧ WlF (x + 39) (wlN w N) M I1 (wlV w c N) (wlV w d N) le la) (I := I) (cS10t hC) (cS10n hC) (fun i j hi hj => by omega) (fun I1 g1 g2 => ⟨g1, trial_wl h1 g2⟩)
  have bg : f_X2_begin K R (x + 37) I2 = some (n5R (x + 38) 3 (u2 (u2 I2 (x + 37) 1 0) (x + 37) 2 (-5))) := by
    have g := c_begin13 (I := u2 (u2 I2 (x + 37) 1 0) (x + 37) 2 (-5)) (cS2 hC) 3 0 FU (by omega) (FU_lt (by omega))
    rw [n5R_0] at g
    unfold f_X2_begin
    rw [obs, obs]
    exact g
  generalize hI3 : n5R (x + 38) 3 (u2 (u2 I2 (x + 37) 1 0) (x + 37) 2 (-5)) = I3 at bg
  have f3 : ∀ z, z ≠ x + 37 → z ≠ x + 38 → I3 z = I2 z := fun z z1 z2 => by rw [← hI3, n5R_row z2, u2_row z1, u2_row z1]
  have hwl : WlF (x + 39) (wlN w N) M I3 (wlV w c N) (wlV w d N) le la := by
    intro j hj
    rw [f3 _ (by omega) (by omega), f3 _ (by omega) (by omega), f3 _ (by omega) (by omega), f3 _ (by omega) (by omega)]
    exact y2 j hj
  obtain ⟨I1, R1, u1, u2', u3, u4, u5, u6, u7, u8, u9, u10⟩ := c_svLoop (sg := sg) h hns h4 h6 hnc hsev hcar hZ hk hsg hcv ns 0 FU le la M 0 none ovs a' l' I3 R (by omega) (FU_lt (by omega)) (fun z hz => by rw [f3 z (by omega) (by omega), y1 z (by omega) (by omega) (by omega) (by omega)]; exact hI z hz) hR hC hwl hM7 (by omega) (by rw [← hI3, n5R_row (by omega), u2_ne (by omega), u2_eq]; rfl) (by omega) (by rw [← hI3, n5R_row (by omega), u2_eq]; rfl) (fun t ht => by cases ht) hs
  refine ⟨I1, R1, ?_, u2', u3, u4, fun j j1 j2 => ?_, u6, u7, u8, u9, fun hid j hj => ?_⟩
  · unfold f_X11_sendSeveral
    rw [o11_7 S11, obs, o11_15 S11, obs, r6_1 (cS6n hC), y0, obs, o11_14 S11, obs, bg, obs]
    exact u1
  · rw [u5 j j1 j2, ← hI3, n5R_row (by omega), u2_ne j2, u2_ne j1, y1 _ (by omega) (by omega) (by omega) (by omega)]
  · have := (u10 hid).2 j hj
    rw [Nat.zero_add] at this
    exact this
theorem m_goAll1 (hM : S12 (x + 62) K R) (hi : i < 5) (ht : I0 (x + 62) 1 = nI i) (h : NowR x (x + 8) i q n M N (x + 73) (x + 74) w c d cs le la K I0 R) (hM7 : 100 ≤ M) (hM8 : M + 225 ≤ 800000) (hns : ns ≤ 3) (h51 : I0 (x + 62) 51 = nI ns) (hnr : nr ≤ 10) (hnc : nc ≤ 6) (hsev : ∀ p, p < ns → I0 (x + 96) p = nI (sv p) ∧ sv p < nc) (hcar : ∀ k, k < nc → CarOK x nr k n (cd k) K I0 R) (hsg : ∀ p, p < ns → sg p < ns) (hcv : ∀ p, p < ns → cv p = sv (sg p))
    {ovs : List (Option Nat)} {a' : Nat} {l' : Option Nat} (hs : SvR w c cs N (wlV w c N) (wlV w d N) (wyV w c N) (wlN w N) (laV w c 4 1 N) cd cv ns 0 le la 0 none ovs a' l') (hF : FM (x + 62) mS mF I0 I) (hor : ∀ p, p < ns → I (x + 98) p = nI (sg p)) :
    ∃ I1, f_X12_goAll K R (x + 62) I = some I1 ∧ FM (x + 62) mS mF I0 I1 ∧ I1 (x + 98) = I (x + 98) ∧ I1 (x + 99) = I (x + 99) ∧ I1 (x + 62) 56 = nI a' ∧ a' ≤ 891 * ns ∧ I1 (x + 62) 57 = oI l' ∧ (∀ t, l' = some t → t ≤ 900000) ∧ ∀ j, j < ns → I1 (x + 97) j = oI (ovs.getD j none) := by
  have hQ : QF x I0 I := QF.fm hF (fun _ h => h) (fun _ h => h)
  have h1 := h.qf (s := 8) (Or.inl rfl) (jL := 73) (jT := 74) ⟨by omega, by decide⟩ ⟨by omega, by decide⟩ hQ QR.refl
  obtain ⟨I2, y0, y1, y2⟩ := lay_R (P := fun I1 => FM (x + 62) layS [21] I I1 ∧ LayG (x + 62) (wlN w N) M I1 (wlV w c N) (wlV w d N) (wyV w c N) le la) hM hi (by rw [hF.fld (by decide) (by decide)]; exact ht) h1 (fun I1 a b => ⟨a, b⟩)
  have y1 : FM (x + 62) layS [21] I I2 := y1
  have F2 : FM (x + 62) mS mF I0 I2 := hF.trans (y1.mono (by decide) (by decide))
  have F3 : FM (x + 62) mS mF I0 (u2 (u2 I2 (x + 62) 56 0) (x + 62) 57 (-5)) := (F2.pf (by decide)).pf (by decide)
  generalize hI3 : u2 (u2 I2 (x + 62) 56 0) (x + 62) 57 (-5) = I3 at F3
  have r3 : ∀ z, z ≠ x + 62 → I3 z = I2 z := fun z hz => by rw [← hI3, u2_row hz, u2_row hz]
  have hL : LayG (x + 62) (wlN w N) M I3 (wlV w c N) (wlV w d N) (wyV w c N) le la := by
    refine ⟨by rw [← hI3, u2_ne (by omega), u2_ne (by omega)]; exact y2.1, y2.2.1, fun j hj => ?_, fun j hj => ?_⟩
    · rw [r3 _ (by omega), r3 _ (by omega), r3 _ (by omega), r3 _ (by omega)]
      exact y2.2.2.1 j hj
    · rw [r3 _ (by omega)]
      exact y2.2.2.2 j hj
  have r98 : I3 (x + 98) = I (x + 98) := by rw [r3 _ (by omega)]; exact y1.arr (i := 36) (by decide) (by decide)
  have r99 : I3 (x + 99) = I (x + 99) := by rw [r3 _ (by omega)]; exact y1.arr (i := 37) (by decide) (by decide)
  obtain ⟨I1, u1, u2', u3, u4, u5, u6, u7, u8, u9, u10⟩ := m_svLoop (sg := sg) hM hi ht h.2.1 hns h51 hnr hnc hsev hcar hsg hcv ns 0 FU le la M 0 none ovs a' l' I3 (by omega) (FU_lt (by omega)) F3 hL hM7 (by omega) (by rw [← hI3, u2_ne (by omega), u2_eq]; rfl) (by omega) (by rw [← hI3, u2_eq]; rfl) (fun t ht => by cases ht) (by rw [r98]; exact hor) hs
  refine ⟨I1, ?_, u2', by rw [u3, r98], by rw [u4, r99], u5, u6, u7, u8, fun j hj => ?_⟩
  · unfold f_X12_goAll
    rw [y0, obs, obs, obs, hI3]
    exact u1
  · have := u10 j hj
    rw [Nat.zero_add] at this
    exact this
end
