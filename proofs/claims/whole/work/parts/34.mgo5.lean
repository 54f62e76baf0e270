section
variable {o : Nat} {K : Sh} {R : Rf}
/-- what a trip of b beasts from hour h on comes to, i's text being w c d cs N -/
def tripN (w c d : Nat → Nat) (cs : Nat → List Nat) (N b h kind v : Nat) (rw le la : Nat → Nat) : TR := trN (fun k h => wayD (thN w c cs N b k) h (wyV w c N k)) (wyV w c N) (b * laV w c 5 0 N) (b * laV w c 3 10 N) kind v rw (wlV w c N) (wlV w d N) (wlN w N) 6 0 h (b * laV w c 3 10 N) le la (fun _ => none) (fun _ => none)
def envN (w c d : Nat → Nat) (cs : Nat → List Nat) (N b : Nat) (le la : Nat → Nat) : PE := peN la (wyV w c N) (wlV w c N) (wlV w d N) le (thN w c cs N b) (b * laV w c 5 0 N) (b * laV w c 3 10 N)
def goS : List Nat := [10, 17, 18, 27, 28, 29, 30, 31, 32, 33]
def goF : List Nat := [45, 46, 47, 48, 49, 50]
def TripM (o W : Nat) (I : Im) (T : TR) : Prop := I o 50 = oI T.1.1 ∧ I o 49 = oI T.1.2 ∧ (∀ j, j < 6 → I (o + 28) j = oI (T.2.1 j) ∧ I (o + 29) j = oI (T.2.2.1 j)) ∧ (∀ j, j < W → I (o + 17) j = nI (T.2.2.2.1 j) ∧ I (o + 18) j = nI (T.2.2.2.2 j))
theorem m_go (hM : S12 o K R) {i N b h r kind v M : Nat} {w c d : Nat → Nat} {cs : Nat → List Nat} {rw le la : Nat → Nat} {I : Im} {P : Im → Prop} (hi : i < 5) (hb : b ≤ 9) (hkd : kind ≤ 7) (hr11 : r < 11) (hv : v ≤ 6) (hrw : ∀ k, rw k ≤ 6) (hMb : M ≤ 800000) (hh : h ≤ M) (hW : MW o i N w c d I) (hC : MC o i N w cs I) (ht : I o 1 = nI i) (hL : LayI o w c d N I) (h20 : I (o + 20) r = nI v) (hR : kind ≠ 5 → ∀ k, k < wlN w N → RowM o I kind r k rw)
    (h5 : kind = 5 → ∃ t, bsT (envN w c d cs N b le la) (wlN w N) h t ∧ ∀ j, rw j = bsR (envN w c d cs N b le la) (wlN w N) h t j)
    (hle : ∀ j, j < wlN w N → I (o + 17) j = nI (le j) ∧ le j ≤ 99) (hla : ∀ j, j < wlN w N → I (o + 18) j = nI (la j) ∧ la j ≤ M)
    (kk : ∀ I1, FM o goS goF I I1 → TripM o (wlN w N) I1 (tripN w c d cs N b h kind v rw le la) → P I1) :
    Ok (f_X12_go K R o (nI b) (nI h) (nI r) (nI kind) I) P := by
  by_cases hk5 : kind = 5
  · have hN := hW.2.2.1
    have hw5 := wlN_le w N
    obtain ⟨t, ht5, hrt⟩ := h5 hk5
    unfold f_X12_go
    refine Ok.bind (m_layThirst hM hi hb hw5 hW hC ht hL.1 (P := fun I1 => FM o thS [45, 46] I I1 ∧ LaidM o I1 (wlN w N) (wlV w c N) (wlV w d N) (wyV w c N) (thN w c cs N b) (b * laV w c 5 0 N) (b * laV w c 3 10 N)) (fun I1 F g1 g2 g3 => ⟨F, ?_⟩)) (fun I1 hI1 => ?_)
    · exact laidM_of hb (hW.fm F (by decide)) ⟨(F.fld (by decide) (by decide)).trans hL.1, fun q hq => by rw [F.arr (i := 14) (by decide) (by decide), F.arr (i := 15) (by decide) (by decide)]; exact hL.2.1 q hq, fun q hq => by rw [F.arr (i := 16) (by decide) (by decide)]; exact hL.2.2 q hq⟩ g1 g2 g3
    · obtain ⟨F, hLd⟩ := hI1
      subst hk5
      rw [if_pos (show nI 5 = (5 : Int32) from rfl)]
      refine Ok.bind (m_findBest (le := le) (la := la) hM (P := fun I2 => FM o [30, 31, 32, 33] [47, 48] I1 I2 ∧ ∀ j, j < wlN w N → I2 (o + 30) j = nI (rw j)) hMb hh hLd (fun j hj => ?_) (fun I2 G g1 => ⟨G, fun j hj => ?_⟩)) (fun I2 hI2 => ?_)
      · rw [F.arr (i := 17) (by decide) (by decide), F.arr (i := 18) (by decide) (by decide)]
        exact ⟨(hle j hj).1, (hle j hj).2, (hla j hj).1, (hla j hj).2⟩
      · rw [g1 t ht5 j hj, hrt j]
        rfl
      · obtain ⟨G, g1⟩ := hI2
        rw [L0]
        have hLd2 := hLd.fm G (by decide) (by decide)
        refine m_go19 hM FU 0 I2 (FU_lt (by omega)) (by omega) hLd2.2.2.2.2.2.2.1 (fun q hq => by omega) (fun I3 H k1 k2 k3 => ?_)
        have F2 : FM o goS goF I I3 := ((F.mono (by decide) (by decide)).trans (G.mono (by decide) (by decide))).trans (H.mono (by decide) (by decide))
        refine m_trip hM hr11 hv hkd hrw hMb 6 0 FU h _ I3 le la (fun _ => none) (fun _ => none) (by omega) (FU_lt (by omega)) (by omega) (hLd2.fm H (by decide) (by decide)) ?_ (fun k hk => ?_) (fun j hj => by rw [H.arr (by decide) (by decide), G.arr (by decide) (by decide), F.arr (by decide) (by decide)]; exact hle j hj) (fun j hj => ?_) k1 k2 k3 (by omega) (Nat.le_refl _) (fun I4 Z z1 => kk I4 (F2.trans (Z.mono (by decide) (by decide))) (z1 _ rfl))
        · rw [F2.arr (by decide) (by decide)]; exact h20
        · refine ⟨fun z => by omega, fun _ => ?_, fun z => by omega⟩
          rw [H.arr (by decide) (by decide)]
          exact g1 k hk
        · rw [H.arr (by decide) (by decide), G.arr (by decide) (by decide), F.arr (by decide) (by decide)]; exact ⟨(hla j hj).1, fun _ => (hla j hj).2⟩
  · exact m_go0 hM hi hb hk5 hkd hr11 hv hrw hMb hh hW hC ht hL h20 (hR hk5) hle hla (fun I1 F z => kk I1 (F.mono (by decide) (by decide)) (z _ rfl))
end
