section
variable {x u q a ra i N b st kd v M r k rn : Nat} {K : Sh} {R : Rf} {I : Im} {w c d rw rwr fu gi le la : Nat → Nat} {cs : Nat → List Nat}
theorem cls_go (hC : CSH x K R) (hu : u = x + 9 ∨ u = x + 39) (hw : WasteR x i q N w c d cs K I R) (hao : a = x + 48 ∨ x + 110 ≤ a) (ha : (K a).1 = 2) (ha0 : I a 0 = nI b) (ha1 : I a 1 = nI st) (ha2 : R a 2 = some ra) (hRu : RuleC x ra K I R kd v rwr) (hb1 : 1 ≤ b) (hb9 : b ≤ 9) (hwl : WlF u (wlN w N) M I fu gi le la) (hM : M ≤ 800000) (hst : st ≤ M) (hrw : ∀ k, rw k ≤ 6) (h3 : kd = 3 → ∀ k, rw k = rwr k)
    (h5 : kd = 5 → ∃ t, bsT (envG w c cs N b fu gi (wyV w c N) le la) (wlN w N) st t ∧ ∀ j, rw j = bsR (envG w c cs N b fu gi (wyV w c N) le la) (wlN w N) st t j) :
    Ok (f_X11_send K x (some q) (some u) (some a) I R) (fun s => (∀ z, z < x + 29 ∨ x + 37 ≤ z → z ≠ u + 3 → z ≠ u + 4 → s.1 z = I z) ∧ (∀ z, z ≠ x + 32 → s.2 z = R z) ∧ CSH x K s.2 ∧ TripC (x + 29) u (wlN w N) s.1 (tripG w c cs N b st kd v rw fu gi (wyV w c N) le la (wlN w N))) :=
  c_send hC hu hw.2.2.2.1 (Or.inr hw.2.2.1) hw.2.2.2.2.1 hao ha ha0 ha1 ha2 hRu hb1 hb9 hwl hM hst hrw (fun z k _ => h3 z k) h5 (fun I1 R1 g1 g2 g3 g4 => ⟨g1, g2, g3, g4⟩)
theorem ref_row (h83 : I (x + 83) r = nI rn) (hrn : rn ≤ 5) (h84 : ∀ k, k < rn → I (x + 84) (5 * r + k) = nI (rwr k)) (hz : ∀ k, rn ≤ k → rwr k = 0) (hkd : kd ≤ 6) (hk5 : kd ≠ 5) (h3 : kd = 3 → ∀ k, rw k = rwr k) : RowM (x + 62) I kd r k rw := by
  refine ⟨fun z => ⟨rn, h83, hrn, ?_⟩, fun z => absurd z hk5, fun z => by omega⟩
  split
  · rename_i c
    rw [h3 z k]
    exact h84 k c
  · rename_i c
    rw [h3 z k]
    exact hz k (by omega)
theorem ref_go {W : Nat} {hr : Nat → Nat} (hM : S12 (x + 62) K R) (hi : i < 5) (hW : MW (x + 62) i N w c d I) (hC : MC (x + 62) i N w cs I) (ht : I (x + 62) 1 = nI i) (hL : LayG (x + 62) W M I fu gi hr le la) (hk : k < 6) (hr10 : r < 10) (h85 : I (x + 85) k = nI b) (h86 : I (x + 86) k = nI st) (h87 : I (x + 87) k = nI r) (h81 : I (x + 81) r = nI kd) (h82 : I (x + 82) r = nI v) (h83 : I (x + 83) r = nI rn) (hrn : rn ≤ 5) (h84 : ∀ k, k < rn → I (x + 84) (5 * r + k) = nI (rwr k)) (hz : ∀ k, rn ≤ k → rwr k = 0) (hb9 : b ≤ 9) (hst : st ≤ M) (hMb : M ≤ 800000) (hkd : kd ≤ 6) (hv : v ≤ 6) (hrw : ∀ k, rw k ≤ 6) (h3 : kd = 3 → ∀ k, rw k = rwr k)
    (h5 : kd = 5 → ∃ t, bsT (envG w c cs N b fu gi hr le la) W st t ∧ ∀ j, rw j = bsR (envG w c cs N b fu gi hr le la) W st t j) :
    Ok (f_X12_goCaravan K R (x + 62) (nI k) I) (fun I1 => FM (x + 62) goS goF I I1 ∧ TripM (x + 62) W I1 (tripG w c cs N b st kd v rw fu gi hr le la W)) := by
  have l1 : ldI K I (R (x + 62) 34) (nI k) = some (nI b) := by rw [l12_34 hM (by omega)]; exact congrArg some h85
  have l2 : ldI K I (R (x + 62) 35) (nI k) = some (nI st) := by rw [l12_35 hM (by omega)]; exact congrArg some h86
  have l3 : ldI K I (R (x + 62) 36) (nI k) = some (nI r) := by rw [l12_36 hM (by omega)]; exact congrArg some h87
  have l4 : ldI K I (R (x + 62) 30) (nI r) = some (nI kd) := by rw [l12_30 hM (by omega)]; exact congrArg some h81
  unfold f_X12_goCaravan
  rw [l1, obs, l2, obs, l3, obs, obs, l4, obs]
  refine Ok.bind (m_goG (rw := rw) (P := fun I1 => FM (x + 62) goS goF I I1 ∧ TripM (x + 62) W I1 (tripG w c cs N b st kd v rw fu gi hr le la W)) hM hi hb9 (by omega) (by omega) hv hrw hMb hst hW hC ht hL h82 (fun z k hk => ref_row h83 hrn h84 hz hkd z h3) h5 (fun I1 F T => ⟨F, T⟩)) (fun I1 h => Ok.ret h)
theorem ask_at (v : Int32) : (∃ m, v = nI m ∧ (m ≤ 2 ∨ 10 ≤ m ∧ m ≤ 14 ∨ 20 ≤ m ∧ m ≤ 24) ∧ f_X11_isAskedOfTrip K v = some 1 ∧ ∀ o, f_X12_isAsked K o v = some 1) ∨ (f_X11_isAskedOfTrip K v = some 0 ∧ ∀ o, f_X12_isAsked K o v = some 0) := by
  unfold f_X11_isAskedOfTrip f_X12_isAsked
  rw [L0, L1, L2, L10, L14, L20, L24]
  have n1 : ¬ (nI 1 = nI 0) := by decide
  rcases rg v 0 2 (by omega) (by omega) with ⟨m, q1, q2, q3, q4, q5⟩ | ⟨p4, p5, -⟩
  · exact Or.inl ⟨m, q1, by omega, by rw [q4, obs, if_neg n1], fun o => by rw [q5, obs, if_neg n1]⟩
  · rcases rg v 10 14 (by omega) (by omega) with ⟨m, q1, q2, q3, q4, q5⟩ | ⟨p6, p7, -⟩
    · exact Or.inl ⟨m, q1, by omega, by rw [p4, obs, if_pos rfl, q4, obs, if_neg n1], fun o => by rw [p5, obs, if_pos rfl, q5, obs, if_neg n1]⟩
    · rcases rg v 20 24 (by omega) (by omega) with ⟨m, q1, q2, q3, q4, q5⟩ | ⟨p8, p9, -⟩
      · exact Or.inl ⟨m, q1, by omega, by rw [p4, obs, if_pos rfl, p6, obs, if_pos rfl, q4, obs, if_neg n1], fun o => by rw [p5, obs, if_pos rfl, p7, obs, if_pos rfl, q5, obs, if_neg n1]⟩
      · exact Or.inr ⟨by rw [p4, obs, if_pos rfl, p6, obs, if_pos rfl, p8, obs, if_pos rfl], fun o => by rw [p5, obs, if_pos rfl, p7, obs, if_pos rfl, p9, obs, if_pos rfl]⟩
end
theorem no_neg1 : ¬ ((0 : Int32) ≤ -1) := by decide
theorem yes_nI {m : Nat} (h : m < 1000000000) : (0 : Int32) ≤ nI m := by rw [L0, nI_leI (by omega) (by omega)]; exact Nat.zero_le _
section
variable {Z : Nat → Nat} {x n M nr nc NW i q N : Nat} {K : Sh} {I I1 : Im} {J : Jm} {R R1 : Rf} {w c d le la : Nat → Nat} {cs : Nat → List Nat}
/-- bounds of a trip over the wells as they are -/
theorem trip_b {aL aT s : Nat} (h : NowR x s i q n M N aL aT w c d cs le la K I R) {b st kd v : Nat} {rw : Nat → Nat} (hv : v ≤ 6) (hrw : ∀ k, rw k ≤ 6) (hst : st ≤ M) (hM : M ≤ 800000) {T : TR} (hT : T = tripG w c cs N b st kd v rw (wlV w c N) (wlV w d N) (wyV w c N) le la (wlN w N)) : (∀ t, T.1.1 = some t → t ≤ 900000) ∧ (∀ t, T.1.2 = some t → t ≤ wlN w N) ∧ ∀ j, j < wlN w N → T.2.2.2.1 j ≤ 99 ∧ T.2.2.2.2 j ≤ M + 75 := by
  have h5 := wlN_le w N
  have hW := h.2.1.1
  obtain ⟨z1, z2, z3⟩ := trN_b (M := M) (fun k _ => (wyV_b (fun m hm hw => (hW.2.2.2 m hm).2.2.2.2.1 hw) k).2) hv hrw (fun k _ => wlV_le (fun m hm _ => (hW.2.2.2 m hm).2.2.2.1) k) 6 0 st (b * laV w c 3 10 N) le la (fun _ => none) (fun _ => none) (by omega) (Nat.zero_le _) (fun j hj => by
    obtain ⟨y1, y2, y3, y4, y5, y6, y7, y8⟩ := h.2.2.2.2 j hj
    omega) (fun j _ hj => (h.2.2.2.2 j hj).2.2.2.2.2.2.2) (by omega) T hT
  exact ⟨fun t ht => by have := z1 t ht; omega, z2, fun j hj => by have := z3 j hj; omega⟩
/-- the wells for trying out are as those now -/
theorem trial_wl {I1 : Im} {aL aT s : Nat} (h : NowR x s i q n M N aL aT w c d cs le la K I R) (g : ∀ j, j < 5 → I1 (x + 39 + 1) j = I (s + 2) j ∧ I1 (x + 39 + 2) j = I (s + 3) j ∧ I1 (x + 39 + 3) j = I (s + 4) j ∧ I1 (x + 39 + 4) j = I (s + 5) j) : WlF (x + 39) (wlN w N) M I1 (wlV w c N) (wlV w d N) le la := by
  intro j hj
  have hW := h.2.1.1
  have h5 := wlN_le w N
  obtain ⟨y1, y2, y3, y4, y5, y6, y7, y8⟩ := h.2.2.2.2 j hj
  obtain ⟨e1, e2, e3, e4⟩ := g j (by omega)
  rw [e1, e2, e3, e4]
  exact ⟨y1, wlV_le (fun m hm _ => (hW.2.2.2 m hm).2.2.2.1) j, y2, wlV_le (fun m hm hw => ((hW.2.2.2 m hm).2.2.2.2.2 hw).2) j, y3, y5, y6, y8⟩
theorem envG_rm {b : Nat} {fu gi hr : Nat → Nat} (hb : b ≤ 9) (hW : MW (x + 62) i N w c d I) : (envG w c cs N b fu gi hr le la).rm < 1000000 := by
  have : laV w c 3 10 N ≤ 99 := laV_le (fun m hm _ => (hW.2.2.2 m hm).2.2.2.1) (by omega)
  have p : b * laV w c 3 10 N ≤ 9 * 99 := Nat.mul_le_mul hb this
  show b * laV w c 3 10 N < 1000000
  omega
def RwP (w c : Nat → Nat) (cs : Nat → List Nat) (N W b st kd : Nat) (rwr rw fu gi hr le la : Nat → Nat) : Prop := (∀ k, rw k ≤ 6) ∧ (kd = 3 → ∀ k, rw k = rwr k) ∧ (kd = 5 → ∃ t, bsT (envG w c cs N b fu gi hr le la) W st t ∧ ∀ j, rw j = bsR (envG w c cs N b fu gi hr le la) W st t j)
theorem cls_car {u k a b st r ra kd vv rn : Nat} {rwr rw fu gi : Nat → Nat} (hC : CSH x K R) (hu : u = x + 9 ∨ u = x + 39) (hw : WasteR x i q N w c d cs K I R) (hc : CarR x nr k n a b st r ra K I R) (hr : RuleR x r n ra kd vv rn rwr K I R) (hwl : WlF u (wlN w N) M I fu gi le la) (hM : M ≤ 800000) (hM7 : 100 ≤ M) (hrw : RwP w c cs N (wlN w N) b st kd rwr rw fu gi (wyV w c N) le la) :
    Ok (f_X11_send K x (some q) (some u) (some a) I R) (fun s => (∀ z, z < x + 29 ∨ x + 37 ≤ z → z ≠ u + 3 → z ≠ u + 4 → s.1 z = I z) ∧ (∀ z, z ≠ x + 32 → s.2 z = R z) ∧ CSH x K s.2 ∧ TripC (x + 29) u (wlN w N) s.1 (tripG w c cs N b st kd vv rw fu gi (wyV w c N) le la (wlN w N))) := by
  obtain ⟨c1, c2, c3, c4, c5, c6, c7, c8, c9, c10, c11, c12, c13, c14, c15⟩ := hc
  exact cls_go hC hu hw (Or.inr c3) (by rw [c2]) c5 c8 c11 hr.2.1 c6 c7 hwl hM (by omega) hrw.1 hrw.2.1 hrw.2.2
theorem ref_car {W k a b st r ra kd vv rn : Nat} {rwr rw fu gi hr : Nat → Nat} (hM : S12 (x + 62) K R) (hi : i < 5) (hw : WasteR x i q N w c d cs K I R) (ht : I (x + 62) 1 = nI i) (hL : LayG (x + 62) W M I fu gi hr le la) (hc : CarR x nr k n a b st r ra K I R) (hr' : RuleR x r n ra kd vv rn rwr K I R) (hnr : nr ≤ 10) (hk : k < 6) (hMb : M ≤ 800000) (hM7 : 100 ≤ M) (hrw : RwP w c cs N W b st kd rwr rw fu gi hr le la) :
    Ok (f_X12_goCaravan K R (x + 62) (nI k) I) (fun I1 => FM (x + 62) goS goF I I1 ∧ TripM (x + 62) W I1 (tripG w c cs N b st kd vv rw fu gi hr le la W)) := by
  obtain ⟨c1, c2, c3, c4, c5, c6, c7, c8, c9, c10, c11, c12, c13, c14, c15⟩ := hc
  obtain ⟨r1, r2, r3, r4, r5, r6, r7, r8, r9, r10, r11⟩ := hr'
  exact ref_go (rn := rn) (rwr := rwr) hM hi hw.1 hw.2.1 ht hL hk (by omega) c13 c14 c15 r8 r9 r10 r6 r11 (fun k hk => (r7 k).2 hk) c7 (by omega) hMb r2.2.2.2.2.1 r2.2.2.2.2.2.1 hrw.1 hrw.2.1 hrw.2.2
theorem RwP.ex {b st kd : Nat} {rwr fu gi hr : Nat → Nat} (hb : b ≤ 9) (hW : MW (x + 62) i N w c d I) (W : Nat) (hr' : ∀ k, rwr k ≤ 6) : ∃ rw, RwP w c cs N W b st kd rwr rw fu gi hr le la := rw_ex (envG_rm hb hW) W st kd rwr hr'
theorem NowR.qf {s : Nat} (hs : s = 8 ∨ s = 17) {jL jT : Nat} (hL : 62 < jL ∧ jL - 62 ∉ mS) (hT : 62 < jT ∧ jT - 62 ∉ mS) (h : NowR x (x + s) i q n M N (x + jL) (x + jT) w c d cs le la K I R) (hI : QF x I I1) (hR : QR x R R1) : NowR x (x + s) i q n M N (x + jL) (x + jT) w c d cs le la K I1 R1 := by
  obtain ⟨y1, y2, y3, y4, y5⟩ := h
  have es : ∀ j, j ≤ 8 → I1 (x + s + j) = I (x + s + j) := fun j hj => by rw [Nat.add_assoc]; exact hI.c (by omega)
  refine ⟨by rw [hR.c (j := s) (by omega)]; exact y1, y2.qf hI hR, y3, fun z hz => y4 z (by rw [← hR.d y2.2.2.1]; exact hz), fun k hk => ?_⟩
  rw [es 2 (by omega), es 3 (by omega), es 4 (by omega), es 5 (by omega), hI.m hL.1 hL.2, hI.m hT.1 hT.2]
  exact y5 k hk
/-- a try with the wells as they are now -/
theorem cls_try {k a b st r ra kd vv rn : Nat} {rwr rw : Nat → Nat} (hC : CSH x K R) (h : NowR x (x + 8) i q n M N (x + 73) (x + 74) w c d cs le la K I R) (hc : CarR x nr k n a b st r ra K I R) (hr : RuleR x r n ra kd vv rn rwr K I R) (hM : M ≤ 800000) (hM7 : 100 ≤ M) (hrw : RwP w c cs N (wlN w N) b st kd rwr rw (wlV w c N) (wlV w d N) (wyV w c N) le la) :
    Ok (Option.bind (f_X10_become K R (x + 39) (some (x + 9)) I) fun q9 => f_X11_send K x (some q) (some (x + 39)) (some a) q9 R) (fun s => (∀ z, z < x + 29 ∨ x + 50 ≤ z → s.1 z = I z) ∧ (∀ z, z ≠ x + 32 → s.2 z = R z) ∧ CSH x K s.2 ∧ TripC (x + 29) (x + 39) (wlN w N) s.1 (tripG w c cs N b st kd vv rw (wlV w c N) (wlV w d N) (wyV w c N) le la (wlN w N))) := by
  refine Ok.bind (c_become (P := fun I1 => (∀ z, z < x + 29 ∨ x + 50 ≤ z → I1 z = I z) ∧ WlF (x + 39) (wlN w N) M I1 (wlV w c N) (wlV w d N) le la) (cS10t hC) (cS10n hC) (fun i j hi hj => by omega) (fun I1 g1 g2 => ⟨fun z hz => g1 z (by omega) (by omega) (by omega) (by omega), trial_wl h g2⟩)) (fun I1 hI1 => ?_)
  obtain ⟨g1, g2⟩ := hI1
  exact Ok.mono (cls_car hC (Or.inr rfl) (h.2.1.qf (QF.cls g1) QR.refl) (hc.qf (QF.cls g1) QR.refl) (hr.qf (QF.cls g1) QR.refl) g2 hM hM7 hrw) (fun s hs => ⟨fun z hz => (hs.1 z (by omega) (by omega) (by omega)).trans (g1 z hz), hs.2⟩)
theorem ref_try {k a b st r ra kd vv rn : Nat} {rwr rw : Nat → Nat} (hM : S12 (x + 62) K R) (hi : i < 5) (ht : I (x + 62) 1 = nI i) (h : NowR x (x + 8) i q n M N (x + 73) (x + 74) w c d cs le la K I R) (hc : CarR x nr k n a b st r ra K I R) (hr : RuleR x r n ra kd vv rn rwr K I R) (hnr : nr ≤ 10) (hk : k < 6) (hMb : M ≤ 800000) (hM7 : 100 ≤ M) (hrw : RwP w c cs N (wlN w N) b st kd rwr rw (wlV w c N) (wlV w d N) (wyV w c N) le la) :
    Ok (Option.bind (f_X12_lay K R (x + 62) I) fun q5 => f_X12_goCaravan K R (x + 62) (nI k) q5) (fun I2 => FM (x + 62) mS mF I I2 ∧ I2 (x + 62) 21 = nI (wlN w N) ∧ TripM (x + 62) (wlN w N) I2 (tripG w c cs N b st kd vv rw (wlV w c N) (wlV w d N) (wyV w c N) le la (wlN w N))) := by
  refine Ok.bind (lay_R (P := fun I2 => FM (x + 62) layS [21] I I2 ∧ LayG (x + 62) (wlN w N) M I2 (wlV w c N) (wlV w d N) (wyV w c N) le la) hM hi ht h (fun I2 F L => ⟨F, L⟩)) (fun I2 hI2 => ?_)
  obtain ⟨F, L⟩ := hI2
  have hQ2 : QF x I I2 := QF.fm F (by decide) (by decide)
  refine Ok.mono (ref_car hM hi (h.2.1.qf hQ2 QR.refl) (by rw [hQ2.f (k := 1) (by decide)]; exact ht) L (hc.qf hQ2 QR.refl) (hr.qf hQ2 QR.refl) hnr hk hMb hM7 hrw) (fun I3 h3 => ⟨(F.mono (by decide) (by decide)).trans (h3.1.mono (by decide) (by decide)), ?_, h3.2⟩)
  rw [h3.1.fld (by decide) (by decide)]
  exact L.1
theorem isCar_eq (h : I1 (x + 62) 28 = I (x + 62) 28) (v : Int32) : f_X12_isCaravan K I1 (x + 62) v = f_X12_isCaravan K I (x + 62) v := by
  unfold f_X12_isCaravan
  rw [h]
theorem isRule_eq (h : I1 (x + 62) 27 = I (x + 62) 27) (v : Int32) : f_X12_isRule K I1 (x + 62) v = f_X12_isRule K I (x + 62) v := by
  unfold f_X12_isRule
  rw [h]
set_option maxHeartbeats 1000000 in
theorem k_would (h : Rel Z x n M K I J R) (hM7 : 100 ≤ M) (v1 v2 : Int32) : ∃ r I1 R1 I2, f_X11_would K x v1 v2 I R = some (r, I1, R1) ∧ f_X12_would K R1 (x + 62) v1 v2 I1 = some (r, I2) ∧ Rel Z x n M K I2 J R1 := by
  have h0 := h
  obtain ⟨hC, hS, hn, hMb, hZ, nr, nc, NW, hG⟩ := h
  have hG0 := hG
  obtain ⟨hnum, hru, hca, hnow, -⟩ := hG
  have e1 : ¬ ((1 : Int32) = 0) := by decide
  have e1' : ¬ (nI 1 = 0) := by decide
  have S11 := cS11 hC
  have o7 : ob K 7 (R x 7) = some (x + 8) := o11_7 S11
  have o15 : ob K 11 (R x 15) = some (x + 39) := o11_15 S11
  unfold f_X11_would f_X12_would
  rcases car_at hC hG0 v1 with ⟨k, a, b, st, r, ra, q1, q2, q3, q4, q5⟩ | ⟨q4, q5⟩
  · rcases ask_at (K := K) v2 with ⟨m, p1, p2, p3, p4⟩ | ⟨p3, p4⟩
    · rcases hnow.1 with ⟨t1, t2⟩ | ⟨i, q, N, w, c, d, cs, le, la, t1, t2, t3⟩
      · refine ⟨-3, I, R, I, ?_, ?_, h0⟩
        · rw [q4, obs, if_neg (by simp), p3, obs, if_neg e1, o7, obs, if_pos t2]
        · rw [q5, obs, if_neg e1', p4, obs, if_neg e1, t1, if_neg no_neg1]
      · subst q1 p1
        obtain ⟨a', kd, vv, rn, rwr, hrule⟩ := hru r q3.2.2.2.2.2.2.2.2.2.1
        have : a' = ra := by have := hrule.1.symm.trans q3.2.2.2.2.2.2.2.2.2.2.2.1; exact Option.some.inj this
        subst this
        have hi5 : i < 5 := by have := hnum.2.2.1; omega
        obtain ⟨rw, hrw⟩ := RwP.ex (x := x) (d := d) (cs := cs) (le := le) (la := la) (b := b) (st := st) (kd := kd) (fu := wlV w c N) (gi := wlV w d N) (hr := wyV w c N) q3.2.2.2.2.2.2.1 t3.2.1.1 (wlN w N) (fun k => (hrule.2.2.2.2.2.2.1 k).1)
        have hst : st ≤ M := by have := q3.2.2.2.2.2.2.2.2.1; omega
        have tb := trip_b t3 (b := b) (st := st) (kd := kd) hrule.2.1.2.2.2.2.2.1 hrw.1 hst hMb rfl
        have oq : R (x + 8) 0 = some q := t3.1
        have nn : ¬ (R (x + 8) 0 = none) := by rw [oq]; simp
        have rs1 : R (x + 8) 1 = some (x + 9) := r6_1 (cS6n hC)
        have r15 : R x 15 = some (x + 39) := r11_15 S11
        obtain ⟨⟨I1, R1⟩, s1, s2, s3, s4, s5⟩ := cls_try hC t3 q3 hrule hMb hM7 hrw
        have s2 : ∀ z, z < x + 29 ∨ x + 50 ≤ z → I1 z = I z := s2
        have s3 : ∀ z, z ≠ x + 32 → R1 z = R z := s3
        have hQ1 : QF x I I1 := QF.cls s2
        have hQR1 : QR x R R1 := fun z hz => s3 z (by omega)
        have hM1 : MSH (x + 62) K R1 := hS.congr (fun _ _ => rfl) (s3 _ (by omega))
        have t3' := t3.qf (by omega) ⟨by omega, by decide⟩ ⟨by omega, by decide⟩ hQ1 hQR1
        have ct := c_tell s4 t3'.2.1 t3'.1 (b := b) (m := m) s5 tb.1 p2
        have ti1 : I1 (x + 62) 1 = nI i := by rw [hQ1.f (k := 1) (by decide)]; exact t1
        obtain ⟨I2, u1, u2', u3, u4⟩ := ref_try hM1 hi5 ti1 t3' (q3.qf hQ1 hQR1) (hrule.qf hQ1 hQR1) hnum.1 (by omega : k < 6) hMb hM7 hrw
        have hQ2 : QF x I I2 := hQ1.trans (QF.fm u2' (by decide) (by decide))
        have mt := m_tell (b := b) (m := m) hM1 hi5 ((t3.2.1.qf hQ2 hQR1).1) (by rw [hQ2.f (k := 1) (by decide)]; exact t1) u3 (wlN_le _ _) (by omega : k < 6) (by rw [hQ2.m (j := 85) (by omega) (by decide)]; exact q3.2.2.2.2.2.2.2.2.2.2.2.2.1) u4 tb.1 p2
        refine ⟨tellV (tripG w c cs N b st kd vv rw (wlV w c N) (wlV w d N) (wyV w c N) le la (wlN w N)) (wlN w N) (laV w c 4 1 N) b m, I1, R1, I2, ?_, ?_, h0.qf hQ2 hQR1 s4 hM1⟩
        · rw [q4, obs, if_neg (by simp), p3, obs, if_neg e1, o7, obs, if_neg nn, o15, obs, rs1, oq, r15]
          obtain ⟨I0, y1, y2⟩ := bnd s1
          rw [y1, obs, y2, obs]
          show Option.bind (ob K 2 (some a)) _ = _
          rw [ob_ok (by rw [q3.2.1]), obs]
          show Option.bind (f_X11_tellTrip K I1 R1 x (nI m) (I1 a 0)) _ = _
          rw [s2 a (by have := q3.2.2.1; omega), q3.2.2.2.2.1, ct, obs]
        · rw [isCar_eq (hQ1.f (k := 28) (by decide)), q5, obs, if_neg e1', p4, obs, if_neg e1, ti1, if_pos (yes_nI (by omega))]
          obtain ⟨I0, y1, y2⟩ := bnd u1
          rw [y1, obs, y2, obs, mt, obs]
    · refine ⟨-1, I, R, I, ?_, ?_, h0⟩
      · rw [q4, obs, if_neg (by simp), p3, obs, if_pos rfl]
      · rw [q5, obs, if_neg e1', p4, obs, if_pos rfl]
  · refine ⟨-1, I, R, I, ?_, ?_, h0⟩
    · rw [q4, obs, if_pos rfl]
    · rw [q5, obs, if_pos (show nI 0 = 0 from rfl)]
end
