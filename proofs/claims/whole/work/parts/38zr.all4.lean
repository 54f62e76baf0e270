def idR (b m : Nat) (I : Im) : Im := fun z j => if z = b ∧ j < m then nI j else I z j
theorem idR_st {b m : Nat} {I : Im} : u2 (idR b m I) b m (nI m) = idR b (m + 1) I := by
  funext z j
  unfold u2 idR
  by_cases c : z = b ∧ j = m
  · rw [if_pos c, if_pos ⟨c.1, by omega⟩, c.2]
  · rw [if_neg c]
    by_cases d : z = b ∧ j < m
    · rw [if_pos d, if_pos ⟨d.1, by omega⟩]
    · rw [if_neg d, if_neg (by omega)]
theorem idR_row {b m z : Nat} {I : Im} (h : z ≠ b) : idR b m I z = I z := by
  funext j
  unfold idR
  rw [if_neg (fun c => h c.1)]
theorem idR_0 {b : Nat} {I : Im} : idR b 0 I = I := by
  funext z j
  unfold idR
  rw [if_neg (by omega)]
theorem idR_in {b m j : Nat} {I : Im} (h : j < m) : idR b m I b j = nI j := if_pos ⟨rfl, h⟩
section
variable {Z : Nat → Nat} {x n M nr nc NW i q N ns W ld Mp k o : Nat} {K : Sh} {I I0 : Im} {J : Jm} {R R0 : Rf} {w c d le la le0 la0 fu gi hr : Nat → Nat} {cs : Nat → List Nat} {cd : Nat → CDt} {cv sg sv : Nat → Nat} {fa : Nat → Nat} {fl : Nat → Option Nat} {fo : Nat → List (Option Nat)}
def allFin (K : Sh) (R : Rf) (o : Nat) (x1 : Int32) (I : Im) : Option (Int32 × Im) :=
  Option.bind (f_X12_goAll K R o I) fun q1 =>
      if x1 = 0 then
        some ((q1 o 56), q1)
      else
        if x1 = 1 then
          some ((q1 o 57), q1)
        else
          Option.bind (ldI K q1 (R o 53) (x1 - 10)) fun v3 =>
          some (v3, q1)
theorem m_89 (hM : S12 (x + 62) K R) {x1 : Int32} : ∀ (r k f : Nat), k + r = 3 → r < f → f_X12_all_89 K R (x + 62) f x1 (nI k) (idR (x + 98) k I) = allFin K R (x + 62) x1 (idR (x + 98) 3 I) := by
  intro r
  induction r with
  | zero =>
    intro k f e1 e2
    obtain ⟨f, rfl⟩ : ∃ f', f = f' + 1 := ⟨f - 1, by omega⟩
    have : k = 3 := by omega
    subst this
    unfold f_X12_all_89
    rw [if_pos (by decide)]
    rfl
  | succ r ih =>
    intro k f e1 e2
    obtain ⟨f, rfl⟩ : ∃ f', f = f' + 1 := ⟨f - 1, by omega⟩
    have st := idR_st (b := x + 62 + 36) (m := k) (I := I)
    unfold f_X12_all_89
    rw [if_neg (by rw [L3, nI_leI (by omega) (by omega)]; omega), s12_54 hM (by omega), obs, L1, nI_add]
    show f_X12_all_89 K R (x + 62) f x1 (nI (k + 1)) (u2 (idR (x + 62 + 36) k I) (x + 62 + 36) k (nI k)) = _
    rw [st]
    exact ih (k + 1) f (by omega) (by omega)
theorem FM.idr (h : FM (x + 62) mS mF I0 I) (m : Nat) : FM (x + 62) mS mF I0 (idR (x + 98) m I) := by
  intro a k hs hf
  rw [idR_row (hs 36 (by decide))]
  exact h a k hs hf
theorem cars_ex (hnc : nc ≤ 6) (hru : RulesR x nr n K I R) (hca : CarsR x nr nc n K I R) : ∃ cd : Nat → CDt, ∀ k, k < nc → CarOK x nr k n (cd k) K I R := by
  obtain ⟨cd, hcd⟩ := choose9 (α := CDt) (Pr := fun k t => k < nc → CarOK x nr k n t K I R) ((0, 0, 0, 0, 0), (0, 0, 0), fun _ => 0) (fun k _ => by
    by_cases ck : k < nc
    · obtain ⟨a, b, st, r, ra, hz⟩ := hca k ck
      obtain ⟨a', kd, vv, rn, rwr, hr⟩ := hru r hz.2.2.2.2.2.2.2.2.2.1
      have : a' = ra := by have := hr.1.symm.trans hz.2.2.2.2.2.2.2.2.2.2.2.1; exact Option.some.inj this
      subst this
      exact ⟨((a, b, st, r, a'), (kd, vv, rn), rwr), fun _ => ⟨hz, hr⟩⟩
    · exact ⟨((0, 0, 0, 0, 0), (0, 0, 0), fun _ => 0), fun h => absurd h ck⟩)
  exact ⟨cd, fun k hk => hcd k (by omega) hk⟩
theorem oT_0 : ∀ p, p < 3 → oT 0 p = p := by decide
set_option maxHeartbeats 1000000 in
theorem k_all30 (h : Rel Z x n M K I J R) (hM7 : 100 ≤ M) (hM8 : M + 225 ≤ 800000) (hns : ns ≤ 3) (n2 : I (x + 8) 4 = nI ns) (n3 : I (x + 62) 51 = nI ns) (n4 : ∀ k, k < ns → ∃ nc c, I x 6 = nI nc ∧ nc ≤ 6 ∧ c < nc ∧ I (x + 15) k = nI c ∧ I (x + 96) k = nI c) {v : Nat} (hv : v ≤ 5 ∨ (10 ≤ v ∧ v ≤ 9 + ns)) : ∃ r I1 R1 I2, f_X11_all_30 Z K x (nI v) I R = some (r, I1, R1) ∧ f_X12_all_29 K R1 (x + 62) (nI v) I1 = some (r, I2) ∧ I1 (x + 62) 51 = nI ns ∧ Rel Z x n M K I2 J R1 := by
  have h0 := h
  obtain ⟨hC, hS, hn, hMb, hZ, nr, nc, NW, hG⟩ := h
  obtain ⟨hnum, hru, hca, hnow, -⟩ := RelG_iff.mp hG
  have e1' : ¬ (nI 1 = 0) := by decide
  have e0' : nI 0 = 0 := rfl
  have S11 := cS11 hC
  have o7 : ob K 7 (R x 7) = some (x + 8) := o11_7 S11
  have hnc := hnum.2.1
  have h6 : I x 6 = nI nc := hnum.2.2.2.2.2.2.2.1
  unfold f_X11_all_30
  rw [o7, obs]
  rcases hnow.1 with ⟨t1, t2⟩ | ⟨i, q, N, w, c, d, cs, le, la, t1, t2, t3⟩
  · refine ⟨-3, I, R, I, by rw [if_pos t2], ?_, n3, h0⟩
    unfold f_X12_all_29
    rw [t1, if_neg no_neg1]
  have hi5 : i < 5 := by have := hnum.2.2.1; omega
  have nn : ¬ (R (x + 8) 0 = none) := by rw [t3.1]; simp
  rw [if_neg nn]
  obtain ⟨cd, hcar⟩ := cars_ex hnc hru hca
  obtain ⟨sv, hsv⟩ := choose9 (α := Nat) (Pr := fun p s => p < ns → s < nc ∧ I (x + 15) p = nI s ∧ I (x + 96) p = nI s) 0 (fun p _ => by
    by_cases cp : p < ns
    · obtain ⟨nc', c, g1, g2, g3, g4⟩ := n4 p cp
      have : nc' = nc := by rw [h6, nI_eq (by omega) (by omega)] at g1; exact g1.symm
      subst this
      exact ⟨c, fun _ => ⟨g3, g4⟩⟩
    · exact ⟨0, fun h => absurd h cp⟩)
  have hsv : ∀ p, p < ns → sv p < nc ∧ I (x + 15) p = nI (sv p) ∧ I (x + 96) p = nI (sv p) := fun p hp => hsv p (by omega) hp
  obtain ⟨fr, hfr⟩ := choose9 (α := List (Option Nat) × Nat × Option Nat) (Pr := fun k t => k < 6 → vaN ns k = true → SvR w c cs N (wlV w c N) (wlV w d N) (wyV w c N) (wlN w N) (laV w c 4 1 N) cd (fun p => sv (oT k p)) ns 0 le la 0 none t.1 t.2.1 t.2.2) ([], 0, none) (fun k _ => by
    by_cases ck : k < 6 ∧ vaN ns k = true
    · obtain ⟨a1, a2, a3, a4⟩ := SvR.ex (x := x) (I := I) (ns := ns) (cs := cs) (fu := wlV w c N) (gi := wlV w d N) (hr := wyV w c N) (ld := laV w c 4 1 N) (cd := cd) (cv := fun p => sv (oT k p)) (fun p hp => by
        have := hcar (sv (oT k p)) (hsv _ (oT_lt ns (by omega) k ck.1 ck.2 p hp)).1
        exact ⟨this.1.2.2.2.2.2.2.1, fun j => (this.2.2.2.2.2.2.2.1 j).1⟩) t3.2.1.1 (wlN w N) ns 0 le la 0 none (by omega)
      exact ⟨(a1, a2, a3), fun _ _ => a4⟩
    · exact ⟨([], 0, none), fun p1 p2 => absurd ⟨p1, p2⟩ ck⟩)
  have hs : ∀ k, k < 6 → vaN ns k = true → SvR w c cs N (wlV w c N) (wlV w d N) (wyV w c N) (wlN w N) (laV w c 4 1 N) cd (fun p => sv (oT k p)) ns 0 le la 0 none (fr k).1 (fr k).2.1 (fr k).2.2 := fun k hk hva => hfr k (by omega) hk hva
  have hsevC : ∀ p, p < ns → I (x + 15) p = nI (sv p) ∧ sv p < nc := fun p hp => ⟨(hsv p hp).2.1, (hsv p hp).1⟩
  -- what the reference needs after the class has run
  have after : ∀ (I1 : Im) (R1 : Rf), (∀ z, z < x + 29 ∨ x + 50 ≤ z → I1 z = I z) → (∀ z, z < x + 29 ∨ x + 50 ≤ z → R1 z = R z) → CSH x K R1 → MSH (x + 62) K R1 ∧ I1 (x + 62) 1 = nI i ∧ NowR x (x + 8) i q n M N (x + 73) (x + 74) w c d cs le la K I1 R1 ∧ I1 (x + 62) 51 = nI ns ∧ (∀ p, p < ns → I1 (x + 96) p = nI (sv p) ∧ sv p < nc) ∧ (∀ k, k < nc → CarOK x nr k n (cd k) K I1 R1) ∧ Rel Z x n M K I1 J R1 ∧ ∀ I2, FM (x + 62) mS mF I1 I2 → Rel Z x n M K I2 J R1 := by
    intro I1 R1 g1 g2 g3
    have hQ : QF x I I1 := QF.cls g1
    have hS1 : MSH (x + 62) K R1 := hS.congr (fun _ _ => rfl) (g2 _ (by omega))
    have hR1 : Rel Z x n M K I1 J R1 := h0.qf hQ g2 g3 hS1
    exact ⟨hS1, by rw [g1 _ (by omega)]; exact t1, t3.qf (s := 8) (Or.inl rfl) (jL := 73) (jT := 74) ⟨by omega, by decide⟩ ⟨by omega, by decide⟩ hQ g2, by rw [g1 _ (by omega)]; exact n3, fun p hp => ⟨by rw [g1 _ (by omega)]; exact (hsv p hp).2.2, (hsv p hp).1⟩, fun k hk => ⟨(hcar k hk).1.qf hQ g2, (hcar k hk).2.qf hQ g2⟩, hR1, fun I2 hF => hR1.qf (QF.fm hF (fun _ h => h) (fun _ h => h)) QR.refl g3 hS1⟩
  by_cases c25 : 2 ≤ v ∧ v ≤ 5
  · -- the orders
    rw [if_neg (show ¬ nI v < 2 by rw [L2, nI_ltI (by omega) (by omega)]; omega), if_pos (show nI v ≤ 5 by rw [L5, nI_leI (by omega) (by omega)]; omega), o11_14 S11, obs]
    unfold f_X2_forgetOrder
    rw [obs]
    obtain ⟨I1, R1, u1, u2', u3, u4⟩ := c_all76 (fo := fun k => (fr k).1) (fa := fun k => (fr k).2.1) (fl := fun k => (fr k).2.2) t3 hM7 hM8 hns n2 h6 hnc hsevC hcar hZ hs c25.1 c25.2 6 0 FU (u2 I (x + 37) 3 (-1)) R (by omega) (FU_lt (by omega)) (fun z hz => u2_row (by omega)) (fun _ _ => rfl) hC (u2_eq _ _ _ _)
    obtain ⟨a1, a2, a3, a4, a5, a6, a7, a8⟩ := after I1 R1 u2' u3 u4
    obtain ⟨I2, y1, y2, y3⟩ := m_fo6 (fo := fun k => (fr k).1) (fa := fun k => (fr k).2.1) (fl := fun k => (fr k).2.2) a1 hi5 a2 a3 hM7 hM8 hns a4 hnum.1 hnc a5 a6 hs 27 0 FU I1 (by omega) (FU_lt (by omega)) FM.refl trivial trivial
    rw [fo_eq _ _ hns] at y1 y3
    obtain ⟨t, ht⟩ := cFo_some (fa := fun k => (fr k).2.1) (fl := fun k => (fr k).2.2) (ns := ns) hns 6 (by omega) (by omega)
    refine ⟨resA (cFo (fun k => (fr k).2.1) (fun k => (fr k).2.2) ns 6) ns v, I1, R1, I2, by rw [show (0 : Int32) = nI 0 from rfl]; exact u1, ?_, a4, a8 I2 y2⟩
    have y1' : f_X12_findOrder K R1 (x + 62) I1 = some (bA (cFo (fun k => (fr k).2.1) (fun k => (fr k).2.2) ns 6), I2) := by
      unfold f_X12_findOrder
      rw [show bA (rFo (fun k => (fr k).2.1) (fun k => (fr k).2.2) ns 0) = -1 from rfl, show bL (rFo (fun k => (fr k).2.1) (fun k => (fr k).2.2) ns 0) = 0 from rfl, show nI 0 = 0 from rfl] at y1
      exact y1
    have e51 : I2 (x + 62) 51 = nI ns := by rw [y2.fld (by decide) (by decide)]; exact a4
    obtain ⟨m, p1, p2, p3, p4, p5⟩ | ⟨-, -, p6⟩ := rg (nI v) 2 5 (by omega) (by omega)
    · have p5 : ∀ o, f_X12_in o (nI v) 2 5 = some (nI 1) := p5
      unfold f_X12_all_29
      rw [a2, if_pos (yes_nI (by omega)), p5, obs, if_neg e1', y1', obs]
      dsimp only
      rw [ht] at y3 ⊢
      unfold resA
      by_cases c5 : v = 5
      · rw [if_pos (show nI v = 5 by rw [c5]; rfl)]
        dsimp only
        rw [if_pos c5]
        rfl
      · rw [if_neg (show ¬ nI v = 5 by rw [L5, nI_eq (by omega) (by omega)]; exact c5)]
        dsimp only
        rw [if_neg c5]
        have ev : nI v - 2 = nI (v - 2) := by rw [L2, pk_sub (by omega)]
        by_cases cn : ns ≤ v - 2
        · rw [if_pos (show I2 (x + 62) 51 ≤ nI v - 2 by rw [e51, ev, nI_leI (by omega) (by omega)]; exact cn), if_pos cn]
        · rw [if_neg (show ¬ I2 (x + 62) 51 ≤ nI v - 2 by rw [e51, ev, nI_leI (by omega) (by omega)]; exact cn), if_neg cn, ev, l12_55 a1 (by omega), obs]
          have := y3 (v - 2) (by omega)
          rw [show I2 (x + 62 + 37) (v - 2) = _ from this]
    · exact absurd ⟨c25.1, c25.2⟩ (p6 v rfl (by omega))
  · -- the order as told
    have hsg : ∀ p, p < ns → oT 0 p < ns ∧ zD 1 (0 * 3 + p) = nI (oT 0 p) := fun p hp => ⟨by rw [oT_0 p (by omega)]; exact hp, oT_z 0 (by omega) p (by omega)⟩
    obtain ⟨I1, R1, u1, u2', u3, u4, -, u6, u7, u8, u9, u10⟩ := c_several (sg := oT 0) t3 hM7 hM8 hns n2 h6 hnc hsevC hcar hZ (show 0 < 6 by omega) hsg (fun p _ => rfl) (hs 0 (by omega) (va0 ns (by omega))) (fun _ _ => rfl) (fun _ _ => rfl) hC
    have u10 := u10 (fun p hp => oT_0 p (by omega))
    obtain ⟨a1, a2, a3, a4, a5, a6, a7, a8⟩ := after I1 R1 u2' u3 u4
    have F1 : FM (x + 62) mS mF I1 (idR (x + 98) 3 I1) := FM.refl.idr 3
    obtain ⟨I2, y1, y2, -, -, y5, y6, y7, y8, y9⟩ := m_goAll1 (sg := oT 0) a1 hi5 a2 a3 hM7 hM8 hns a4 hnum.1 hnc a5 a6 (fun p hp => (hsg p hp).1) (fun p _ => rfl) (hs 0 (by omega) (va0 ns (by omega))) F1 (fun p hp => by rw [idR_in (by omega), oT_0 p (by omega)])
    have g89 := m_89 (I := I1) (x1 := nI v) a1 3 0 FU (by omega) (FU_lt (by omega))
    rw [idR_0] at g89
    have p5 : ∀ o, f_X12_in o (nI v) 2 5 = some (nI 0) := fun o => by
      obtain ⟨m, p1, p2, p3, p4, p5⟩ | ⟨-, p5, p6⟩ := rg (nI v) 2 5 (by omega) (by omega)
      · rw [nI_eq (by omega) (by omega)] at p1
        omega
      · exact p5 o
    have cls : f_X11_all_53 Z K x (nI v) I R = some (if v = 0 then nI (fr 0).2.1 else if v = 1 then oI (fr 0).2.2 else oI ((fr 0).1.getD (v - 10) none), I1, R1) := by
      unfold f_X11_all_53
      rw [show (0 : Int32) = nI 0 from rfl, u1, obs]
      dsimp only
      rw [o11_14 (cS11 u4), obs]
      unfold f_X2_tell
      by_cases v0 : v = 0
      · rw [if_neg (show ¬ 2 ≤ nI v by rw [L2, nI_leI (by omega) (by omega)]; omega), if_pos (show nI v = 0 by rw [v0]; rfl), if_pos v0, u6]
        rfl
      by_cases v1 : v = 1
      · rw [if_neg (show ¬ 2 ≤ nI v by rw [L2, nI_leI (by omega) (by omega)]; omega), if_neg (show ¬ nI v = 0 by rw [L0, nI_eq (by omega) (by omega)]; exact v0), if_neg v0, if_pos v1, u8]
        rfl
      · rw [if_pos (show 2 ≤ nI v by rw [L2, nI_leI (by omega) (by omega)]; omega), if_neg (show ¬ nI v < 10 by rw [L10, nI_ltI (by omega) (by omega)]; omega), if_neg (show ¬ 13 ≤ nI v by rw [L13, nI_leI (by omega) (by omega)]; omega), L10, pk_sub (by omega), l2_0 (cS2 u4) (by omega), obs, u10 _ (by omega), if_neg v0, if_neg v1]
        rfl
    refine ⟨if v = 0 then nI (fr 0).2.1 else if v = 1 then oI (fr 0).2.2 else oI ((fr 0).1.getD (v - 10) none), I1, R1, I2, ?_, ?_, a4, a8 I2 y2⟩
    · by_cases c2 : v < 2
      · rw [if_pos (show nI v < 2 by rw [L2, nI_ltI (by omega) (by omega)]; exact c2)]
        exact cls
      · rw [if_neg (show ¬ nI v < 2 by rw [L2, nI_ltI (by omega) (by omega)]; exact c2), if_neg (show ¬ nI v ≤ 5 by rw [L5, nI_leI (by omega) (by omega)]; omega)]
        exact cls
    · unfold f_X12_all_29
      rw [a2, if_pos (yes_nI (by omega)), p5, obs, if_pos e0', show (0 : Int32) = nI 0 from rfl, g89]
      unfold allFin
      rw [y1, obs, y5, y7]
      by_cases v0 : v = 0
      · rw [if_pos (show nI v = 0 by rw [v0]; rfl), if_pos v0]
      rw [if_neg (show ¬ nI v = 0 by rw [L0, nI_eq (by omega) (by omega)]; exact v0), if_neg v0]
      by_cases v1 : v = 1
      · rw [if_pos (show nI v = 1 by rw [v1]; rfl), if_pos v1]
      rw [if_neg (show ¬ nI v = 1 by rw [L1, nI_eq (by omega) (by omega)]; exact v1), if_neg v1, L10, pk_sub (by omega), l12_53 a1 (by omega), obs]
      have := y9 (v - 10) (by omega)
      rw [show I2 (x + 62 + 35) (v - 10) = _ from this]
theorem k_all (h : Rel Z x n M K I J R) (hM7 : 100 ≤ M) (hM8 : M + 225 ≤ 800000) (v1 : Int32) : ∃ r I1 R1 I2, f_X11_all Z K x v1 I R = some (r, I1, R1) ∧ f_X12_all K R1 (x + 62) v1 I1 = some (r, I2) ∧ Rel Z x n M K I2 J R1 := by
  have h0 := h
  obtain ⟨hC, hS, hn, hMb, hZ, nr, nc, NW, hG⟩ := h
  obtain ⟨hnum, hru, hca, hnow, -⟩ := RelG_iff.mp hG
  obtain ⟨-, -, ⟨ns, n1, n2, n3, n4⟩, -⟩ := NowS_iff.mp hnow
  have e1' : ¬ (nI 1 = 0) := by decide
  have e0' : nI 0 = 0 := rfl
  have o7 : ob K 7 (R x 7) = some (x + 8) := o11_7 (cS11 hC)
  have hnc := hnum.2.1
  have h6 : I x 6 = nI nc := hnum.2.2.2.2.2.2.2.1
  have n4' : ∀ k, k < ns → ∃ nc c, I x 6 = nI nc ∧ nc ≤ 6 ∧ c < nc ∧ I (x + 15) k = nI c ∧ I (x + 96) k = nI c := fun k hk => by
    obtain ⟨c, g⟩ := n4 k hk
    exact ⟨nc, c, h6, hnc, g⟩
  rcases rg v1 0 5 (by omega) (by omega) with ⟨m, p1, p2, p3, p4, p5⟩ | ⟨p4, p5, -⟩
  · have p4 : f_X11_within v1 0 5 = some (nI 1) := p4
    have p5 : ∀ o, f_X12_in o v1 0 5 = some (nI 1) := p5
    obtain ⟨r, I1, R1, I2, g1, g2, g4, g3⟩ := k_all30 h0 hM7 hM8 n1 n2 n3 n4' (Or.inl p3)
    refine ⟨r, I1, R1, I2, ?_, ?_, g3⟩
    · unfold f_X11_all
      rw [p4, obs, if_neg e1', p1]; exact g1
    · unfold f_X12_all
      rw [p5, obs, if_neg e1', p1]; exact g2
  · have p4 : f_X11_within v1 0 5 = some (nI 0) := p4
    have p5 : ∀ o, f_X12_in o v1 0 5 = some (nI 0) := p5
    rcases rg v1 10 (9 + ns) (by omega) (by omega) with ⟨m, q1, q2, q3, q4, q5⟩ | ⟨q4, q5, -⟩
    · have q4 : f_X11_within v1 10 (nI (9 + ns)) = some (nI 1) := q4
      have q5 : ∀ o, f_X12_in o v1 10 (nI (9 + ns)) = some (nI 1) := q5
      obtain ⟨r, I1, R1, I2, g1, g2, g4, g3⟩ := k_all30 h0 hM7 hM8 n1 n2 n3 n4' (v := m) (Or.inr ⟨q2, q3⟩)
      refine ⟨r, I1, R1, I2, ?_, ?_, g3⟩
      · unfold f_X11_all
        rw [p4, obs, if_pos e0', o7, obs, n2, L9, nI_add, q4, obs, if_neg e1', q1]; exact g1
      · unfold f_X12_all
        rw [p5, obs, if_pos e0', g4, L9, nI_add, q5, obs, if_neg e1', q1]
        exact g2
    · have q4 : f_X11_within v1 10 (nI (9 + ns)) = some (nI 0) := q4
      have q5 : ∀ o, f_X12_in o v1 10 (nI (9 + ns)) = some (nI 0) := q5
      refine ⟨-1, I, R, I, ?_, ?_, h0⟩
      · unfold f_X11_all
        rw [p4, obs, if_pos e0', o7, obs, n2, L9, nI_add, q4, obs, if_pos e0']
      · unfold f_X12_all
        rw [p5, obs, if_pos e0', n3, L9, nI_add, q5, obs, if_pos e0']
end
