/-! THE REFERENCE'S GO over any wells and ways that lie -/
def d1N (w c : Nat → Nat) (cs : Nat → List Nat) (N : Nat) (b k j : Nat) : Nat := drV w c (fun n => cdN (cs n) j b k) N
def tripG (w c : Nat → Nat) (cs : Nat → List Nat) (N b h kind v : Nat) (rw fu gi hr le la : Nat → Nat) (W : Nat) : TR := trN (fun k h => wayD (fun j => b * d1N w c cs N b k j) h (hr k)) hr (b * laV w c 5 0 N) (b * laV w c 3 10 N) kind v rw fu gi W 6 0 h (b * laV w c 3 10 N) le la (fun _ => none) (fun _ => none)
def envG (w c : Nat → Nat) (cs : Nat → List Nat) (N b : Nat) (fu gi hr le la : Nat → Nat) : PE := peC la hr fu gi le (d1N w c cs N) b (laV w c 5 0 N) (laV w c 3 10 N)
/-- what lies: wells, ways, what the wells held last -/
def LayG (o W M : Nat) (I : Im) (fu gi hr le la : Nat → Nat) : Prop := I o 21 = nI W ∧ W ≤ 5 ∧ (∀ q, q < W → I (o + 14) q = nI (fu q) ∧ fu q ≤ 99 ∧ I (o + 15) q = nI (gi q) ∧ gi q ≤ 99 ∧ I (o + 17) q = nI (le q) ∧ le q ≤ 99 ∧ I (o + 18) q = nI (la q) ∧ la q ≤ M) ∧ ∀ q, q ≤ W → I (o + 16) q = nI (hr q) ∧ hr q ≤ 9
theorem d1N_le {w c : Nat → Nat} {cs : Nat → List Nat} {N : Nat} (hN : N ≤ 12) (h : ∀ n, n < N → c n ≤ 99) (b k j : Nat) : d1N w c cs N b k j ≤ 1188 := by
  have := drV_le (w := w) (cd := fun n => cdN (cs n) j b k) h
  unfold d1N
  omega
section
variable {o : Nat} {K : Sh} {R : Rf}
theorem m_goG (hM : S12 o K R) {i N W b h r kind v M : Nat} {w c d : Nat → Nat} {cs : Nat → List Nat} {rw fu gi hr le la : Nat → Nat} {I : Im} {P : Im → Prop} (hi : i < 5) (hb : b ≤ 9) (hkd : kind ≤ 7) (hr11 : r < 11) (hv : v ≤ 6) (hrw : ∀ k, rw k ≤ 6) (hMb : M ≤ 800000) (hh : h ≤ M) (hW : MW o i N w c d I) (hC : MC o i N w cs I) (ht : I o 1 = nI i) (hL : LayG o W M I fu gi hr le la) (h20 : I (o + 20) r = nI v) (hR : kind ≠ 5 → ∀ k, k < W → RowM o I kind r k rw)
    (h5 : kind = 5 → ∃ t, bsT (envG w c cs N b fu gi hr le la) W h t ∧ ∀ j, rw j = bsR (envG w c cs N b fu gi hr le la) W h t j)
    (kk : ∀ I1, FM o goS goF I I1 → TripM o W I1 (tripG w c cs N b h kind v rw fu gi hr le la W) → P I1) :
    Ok (f_X12_go K R o (nI b) (nI h) (nI r) (nI kind) I) P := by
  have hN := hW.2.2.1
  obtain ⟨l1, l2, l3, l4⟩ := hL
  have cb : ∀ n, n < N → c n ≤ 99 := fun n hn => (hW.2.2.2 n hn).2.2.2.1
  have s1 : laV w c 5 0 N ≤ 99 := laV_le (fun n hn _ => cb n hn) (by omega)
  have s2 : laV w c 3 10 N ≤ 99 := laV_le (fun n hn _ => cb n hn) (by omega)
  have p1 : b * laV w c 5 0 N ≤ 9 * 99 := Nat.mul_le_mul hb s1
  have p2 : b * laV w c 3 10 N ≤ 9 * 99 := Nat.mul_le_mul hb s2
  unfold f_X12_go
  refine Ok.bind (m_layThirst hM hi hb l2 hW hC ht l1 (P := fun I1 => FM o thS [45, 46] I I1 ∧ LaidM o I1 W fu gi hr (fun k j => b * d1N w c cs N b k j) (b * laV w c 5 0 N) (b * laV w c 3 10 N)) (fun I1 F g1 g2 g3 => ⟨F, ?_⟩)) (fun I1 hI1 => ?_)
  · refine ⟨(F.fld (by decide) (by decide)).trans l1, l2, fun q hq => ?_, fun q hq => ?_, g2, by omega, g3, by omega⟩
    · obtain ⟨z1, z2, z3, z4, -⟩ := l3 q hq
      rw [F.arr (i := 14) (by decide) (by decide), F.arr (i := 15) (by decide) (by decide)]
      exact ⟨z1, z2, z3, z4⟩
    · obtain ⟨z1, z2⟩ := l4 q hq
      rw [F.arr (i := 16) (by decide) (by decide)]
      refine ⟨z1, z2, fun j hj => ⟨g1 q hq j hj, ?_⟩⟩
      have := Nat.mul_le_mul hb (d1N_le (w := w) (cs := cs) hN cb b q j)
      show b * d1N w c cs N b q j ≤ 100000
      omega
  · obtain ⟨F, hLd⟩ := hI1
    have wl : ∀ j, j < W → I1 (o + 17) j = nI (le j) ∧ le j ≤ 99 ∧ I1 (o + 18) j = nI (la j) ∧ la j ≤ M := fun j hj => by
      rw [F.arr (i := 17) (by decide) (by decide), F.arr (i := 18) (by decide) (by decide)]
      exact (l3 j hj).2.2.2.2
    have fin : ∀ I2, FM o [10, 27, 30, 31, 32, 33] [45, 46, 47, 48] I I2 → LaidM o I2 W fu gi hr (fun k j => b * d1N w c cs N b k j) (b * laV w c 5 0 N) (b * laV w c 3 10 N) → (∀ k, k < W → RowM o I2 kind r k rw) → Ok (f_X12_go_19 K R o FU (nI h) (nI r) (nI kind) (nI 0) I2) P := by
      intro I2 G hLd2 hR2
      refine m_go19 hM FU 0 I2 (FU_lt (by omega)) (by omega) hLd2.2.2.2.2.2.2.1 (fun q hq => by omega) (fun I3 H k1 k2 k3 => ?_)
      have F2 : FM o goS goF I I3 := (G.mono (by decide) (by decide)).trans (H.mono (by decide) (by decide))
      refine m_trip hM hr11 hv hkd hrw hMb 6 0 FU h _ I3 le la (fun _ => none) (fun _ => none) (by omega) (FU_lt (by omega)) (by omega) (hLd2.fm H (by decide) (by decide)) ?_ (fun k hk => ?_) (fun j hj => ?_) (fun j hj => ?_) k1 k2 k3 (by omega) (Nat.le_refl _) (fun I4 Z z1 => kk I4 (F2.trans (Z.mono (by decide) (by decide))) (z1 _ rfl))
      · rw [F2.arr (by decide) (by decide)]; exact h20
      · have z := hR2 k hk
        unfold RowM at z ⊢
        rw [H.arr (i := 21) (by decide) (by decide), H.arr (i := 22) (by decide) (by decide), H.arr (i := 30) (by decide) (by decide), H.arr (i := 26) (by decide) (by decide), H.fld (k := 29) (by decide) (by decide)]
        exact z
      · rw [H.arr (by decide) (by decide), G.arr (by decide) (by decide)]
        exact ⟨(l3 j hj).2.2.2.2.1, (l3 j hj).2.2.2.2.2.1⟩
      · rw [H.arr (by decide) (by decide), G.arr (by decide) (by decide)]
        exact ⟨(l3 j hj).2.2.2.2.2.2.1, fun _ => (l3 j hj).2.2.2.2.2.2.2⟩
    by_cases c5 : kind = 5
    · obtain ⟨t, ht5, hrt⟩ := h5 c5
      rw [if_pos (show nI kind = (5 : Int32) by rw [c5]; rfl)]
      refine Ok.bind (m_findBest (le := le) (la := la) hM (P := fun I2 => FM o [30, 31, 32, 33] [47, 48] I1 I2 ∧ ∀ j, j < W → I2 (o + 30) j = nI (rw j)) hMb hh hLd wl (fun I2 G g1 => ⟨G, fun j hj => ?_⟩)) (fun I2 hI2 => ?_)
      · rw [g1 t ht5 j hj, hrt j]
        rfl
      · obtain ⟨G, g1⟩ := hI2
        rw [L0]
        refine fin I2 ((F.mono (by decide) (by decide)).trans (G.mono (by decide) (by decide))) (hLd.fm G (by decide) (by decide)) (fun k hk => ⟨fun z => by omega, fun _ => g1 k hk, fun z => by omega⟩)
    · have n5 : ¬ (nI kind = 5) := by rw [L5, nI_eq (by omega) (by omega)]; exact c5
      rw [if_neg n5, L0]
      refine fin I1 (F.mono (by decide) (by decide)) hLd (fun k hk => ?_)
      have z := hR c5 k hk
      unfold RowM at z ⊢
      rw [F.arr (i := 21) (by decide) (by decide), F.arr (i := 22) (by decide) (by decide), F.arr (i := 30) (by decide) (by decide), F.arr (i := 26) (by decide) (by decide), F.fld (k := 29) (by decide) (by decide)]
      exact z
end
/-- the hour OVER with the best row is the best hour -/
theorem best_over {w c : Nat → Nat} {cs : Nat → List Nat} {N b h v W : Nat} {rw fu gi hr le la : Nat → Nat} {t : Option Nat} (hrm : b * laV w c 3 10 N < 1000000) (hW : W ≠ 0) (ht : bsT (envG w c cs N b fu gi hr le la) W h t) (hrt : ∀ j, rw j = bsR (envG w c cs N b fu gi hr le la) W h t j) (hW5 : W ≤ 5) : (tripG w c cs N b h 5 v rw fu gi hr le la W).1.1 = t := by
  have z := trN_run (e := envG w c cs N b fu gi hr le la) (cost := fun k h => wayD (fun j => b * d1N w c cs N b k j) h (hr k)) (hr := hr) (rw := rw) (fu := fu) (gi := gi) (le0 := le) (la0 := la) (sd := b * laV w c 5 0 N) (rm := b * laV w c 3 10 N) (kind := 5) (v := v) (W := W) rfl rfl rfl (fun _ _ => rfl) rfl rfl (by omega) 6 0 h (b * laV w c 3 10 N) le la (fun _ => none) (fun _ => none) (by omega) (Nat.zero_le _) (Nat.le_refl _) (fun _ _ => ⟨rfl, rfl⟩)
  have z : (tripG w c cs N b h 5 v rw fu gi hr le la W).1.1 = if (envG w c cs N b fu gi hr le la).co 0 h ≤ (envG w c cs N b fu gi hr le la).rm then runR (envG w c cs N b fu gi hr le la) rw W 0 (h + hr 0) ((envG w c cs N b fu gi hr le la).rm - (envG w c cs N b fu gi hr le la).co 0 h) else none := z
  rw [z]
  have hrm : (envG w c cs N b fu gi hr le la).rm < 1000000 := hrm
  unfold bsT at ht
  unfold bsR at hrt
  have hh : (envG w c cs N b fu gi hr le la).hr 0 = hr 0 := rfl
  rw [hh] at ht hrt
  by_cases q : (envG w c cs N b fu gi hr le la).co 0 h ≤ (envG w c cs N b fu gi hr le la).rm
  · rw [if_pos q]
    rw [if_neg (by omega)] at ht
    have hrt : ∀ j, rw j = bestR (envG w c cs N b fu gi hr le la) W (h + hr 0) ((envG w c cs N b fu gi hr le la).rm - (envG w c cs N b fu gi hr le la).co 0 h) t j := fun j => by
      rw [hrt j, if_neg (fun z => z.elim hW (fun y => by omega))]
    cases t with
    | none =>
      cases hx : runR (envG w c cs N b fu gi hr le la) rw W 0 (h + hr 0) ((envG w c cs N b fu gi hr le la).rm - (envG w c cs N b fu gi hr le la).co 0 h) with
      | none => rfl
      | some t' => exact absurd (runR_CB (fun k => by rw [hrt k]; exact Nat.zero_le _) _ _ _ _ hx) (ht t')
    | some t' => exact grN_run hrm W 0 _ _ ht.1 (fun j _ _ => hrt j)
  · rw [if_neg q]
    rw [if_pos (by omega)] at ht
    exact ht.symm
