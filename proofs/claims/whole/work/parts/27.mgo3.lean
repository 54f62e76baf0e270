/-- what one beast drinks -/
def thN (w c : Nat → Nat) (cs : Nat → List Nat) (N b : Nat) (k h : Nat) : Nat := b * drV w c (fun n => cdN (cs n) h b k) N
section
variable {o : Nat} {K : Sh} {R : Rf}
theorem laidM_of {i N b : Nat} {w c d : Nat → Nat} {cs : Nat → List Nat} {I : Im} (hb : b ≤ 9) (hW : MW o i N w c d I) (hL : LayI o w c d N I) (hT : ∀ p, p ≤ wlN w N → ∀ q, q < 24 → I (o + 27) (24 * p + q) = nI (b * drV w c (fun n => cdN (cs n) q b p) N)) (h45 : I o 45 = nI (b * laV w c 5 0 N)) (h46 : I o 46 = nI (b * laV w c 3 10 N)) :
    LaidM o I (wlN w N) (wlV w c N) (wlV w d N) (wyV w c N) (thN w c cs N b) (b * laV w c 5 0 N) (b * laV w c 3 10 N) := by
  have hN := hW.2.2.1
  have h5 := wlN_le w N
  have s1 : laV w c 5 0 N ≤ 99 := laV_le (fun n hn _ => (hW.2.2.2 n hn).2.2.2.1) (by omega)
  have s2 : laV w c 3 10 N ≤ 99 := laV_le (fun n hn _ => (hW.2.2.2 n hn).2.2.2.1) (by omega)
  have p1 : b * laV w c 5 0 N ≤ 9 * 99 := Nat.mul_le_mul hb s1
  have p2 : b * laV w c 3 10 N ≤ 9 * 99 := Nat.mul_le_mul hb s2
  refine ⟨hL.1, h5, fun q hq => ⟨(hL.2.1 q hq).1, wlV_le (fun n hn _ => (hW.2.2.2 n hn).2.2.2.1) q, (hL.2.1 q hq).2, wlV_le (fun n hn hw => ((hW.2.2.2 n hn).2.2.2.2.2 hw).2) q⟩, fun q hq => ⟨hL.2.2 q (by omega), (wyV_b (fun n hn hw => (hW.2.2.2 n hn).2.2.2.2.1 hw) q).2, fun j hj => ⟨hT q hq j hj, ?_⟩⟩, h45, by omega, h46, by omega⟩
  have a : drV w c (fun n => cdN (cs n) j b q) N ≤ 99 * N := drV_le (fun n hn => (hW.2.2.2 n hn).2.2.2.1)
  have a2 : b * drV w c (fun n => cdN (cs n) j b q) N ≤ 9 * 1188 := Nat.mul_le_mul hb (by omega)
  show b * drV w c (fun n => cdN (cs n) j b q) N ≤ 100000
  omega
theorem m_go0 (hM : S12 o K R) {i N b h r kind v M : Nat} {w c d : Nat → Nat} {cs : Nat → List Nat} {rw le la : Nat → Nat} {I : Im} {P : Im → Prop} (hi : i < 5) (hb : b ≤ 9) (hk5 : kind ≠ 5) (hkd : kind ≤ 7) (hr11 : r < 11) (hv : v ≤ 6) (hrw : ∀ k, rw k ≤ 6) (hMb : M ≤ 800000) (hh : h ≤ M) (hW : MW o i N w c d I) (hC : MC o i N w cs I) (ht : I o 1 = nI i) (hL : LayI o w c d N I) (h20 : I (o + 20) r = nI v) (hR : ∀ k, k < wlN w N → RowM o I kind r k rw)
    (hle : ∀ j, j < wlN w N → I (o + 17) j = nI (le j) ∧ le j ≤ 99) (hla : ∀ j, j < wlN w N → I (o + 18) j = nI (la j) ∧ la j ≤ M)
    (kk : ∀ I1, FM o [10, 17, 18, 27, 28, 29] [45, 46, 47, 48, 49, 50] I I1 → (∀ T, T = trN (fun k h => wayD (thN w c cs N b k) h (wyV w c N k)) (wyV w c N) (b * laV w c 5 0 N) (b * laV w c 3 10 N) kind v rw (wlV w c N) (wlV w d N) (wlN w N) 6 0 h (b * laV w c 3 10 N) le la (fun _ => none) (fun _ => none) → I1 o 50 = oI T.1.1 ∧ I1 o 49 = oI T.1.2 ∧ (∀ j, j < 6 → I1 (o + 28) j = oI (T.2.1 j) ∧ I1 (o + 29) j = oI (T.2.2.1 j)) ∧ (∀ j, j < wlN w N → I1 (o + 17) j = nI (T.2.2.2.1 j) ∧ I1 (o + 18) j = nI (T.2.2.2.2 j))) → P I1) :
    Ok (f_X12_go K R o (nI b) (nI h) (nI r) (nI kind) I) P := by
  have hN := hW.2.2.1
  have h5 := wlN_le w N
  unfold f_X12_go
  refine Ok.bind (m_layThirst hM hi hb h5 hW hC ht hL.1 (P := fun I1 => FM o thS [45, 46] I I1 ∧ LaidM o I1 (wlN w N) (wlV w c N) (wlV w d N) (wyV w c N) (thN w c cs N b) (b * laV w c 5 0 N) (b * laV w c 3 10 N)) (fun I1 F g1 g2 g3 => ⟨F, ?_⟩)) (fun I1 hI1 => ?_)
  · exact laidM_of hb (hW.fm F (by decide)) ⟨(F.fld (by decide) (by decide)).trans hL.1, fun q hq => by rw [F.arr (i := 14) (by decide) (by decide), F.arr (i := 15) (by decide) (by decide)]; exact hL.2.1 q hq, fun q hq => by rw [F.arr (i := 16) (by decide) (by decide)]; exact hL.2.2 q hq⟩ g1 g2 g3
  · obtain ⟨F, hLd⟩ := hI1
    have n5 : ¬ (nI kind = 5) := by rw [L5, nI_eq (by omega) (by omega)]; exact hk5
    rw [if_neg n5, L0]
    refine m_go19 hM FU 0 I1 (FU_lt (by omega)) (by omega) hLd.2.2.2.2.2.2.1 (fun q hq => by omega) (fun I2 G g1 g2 g3 => ?_)
    have F2 : FM o [10, 17, 18, 27, 28, 29] [45, 46, 47, 48, 49, 50] I I2 := (F.mono (by decide) (by decide)).trans (G.mono (by decide) (by decide))
    refine m_trip hM hr11 hv hkd hrw hMb 6 0 FU h _ I2 le la (fun _ => none) (fun _ => none) (by omega) (FU_lt (by omega)) (by omega) (hLd.fm G (by decide) (by decide)) (by rw [F2.arr (by decide) (by decide)]; exact h20) (fun k hk => ?_) (fun j hj => by rw [G.arr (by decide) (by decide), F.arr (by decide) (by decide)]; exact hle j hj) (fun j hj => ?_) g1 g2 g3 (by omega) (Nat.le_refl _) (fun I3 H k1 => kk I3 (F2.trans (H.mono (by decide) (by decide))) k1)
    · have z := hR k hk
      unfold RowM at z ⊢
      rw [F2.arr (i := 21) (by decide) (by decide), F2.arr (i := 22) (by decide) (by decide), F2.arr (i := 30) (by decide) (by decide), F2.arr (i := 26) (by decide) (by decide), F2.fld (k := 29) (by decide) (by decide)]
      exact z
    · rw [G.arr (by decide) (by decide), F.arr (by decide) (by decide)]; exact ⟨(hla j hj).1, fun _ => (hla j hj).2⟩
end
