def okE (rows : List Nat) (flds : List (Nat × Nat)) (E : List Nat) (P : List (Nat × Nat)) : Bool := (rows.all fun j => !E.contains j && P.all fun p => p.1 != j) && flds.all fun f => !E.contains f.1 && !P.contains f
section
variable {x n n' M M' nr nr' nc nc' NW NW' : Nat} {K K' : Sh} {I I' : Im} {J J' : Jm} {R R' : Rf} {Z : Nat → Nat} {E : List Nat} {P : List (Nat × Nat)} {rows : List Nat} {flds : List (Nat × Nat)}
theorem okE_r (ho : okE rows flds E P = true) (h : AF x E P I I') {j : Nat} (hj : j ∈ rows) : I' (x + j) = I (x + j) := by
  unfold okE at ho
  rw [Bool.and_eq_true, List.all_eq_true] at ho
  have := ho.1 j hj
  rw [Bool.and_eq_true, List.all_eq_true] at this
  refine h.r (fun q => ?_) (fun p hp e => ?_)
  · have h1 := this.1
    rw [List.contains_iff_mem.mpr q] at h1
    cases h1
  · have h2 := this.2 p hp
    rw [e] at h2
    simp at h2
theorem okE_f (ho : okE rows flds E P = true) (h : AF x E P I I') {j k : Nat} (hj : (j, k) ∈ flds) : I' (x + j) k = I (x + j) k := by
  unfold okE at ho
  rw [Bool.and_eq_true, List.all_eq_true, List.all_eq_true] at ho
  have := ho.2 (j, k) hj
  rw [Bool.and_eq_true] at this
  refine h.f (fun q => ?_) (fun q => ?_)
  · have h1 := this.1
    rw [List.contains_iff_mem.mpr q] at h1
    cases h1
  · have h1 := this.2
    rw [List.contains_iff_mem.mpr q] at h1
    cases h1
theorem okE_f0 (ho : okE rows flds E P = true) (h : AF x E P I I') {k : Nat} (hj : (0, k) ∈ flds) : I' x k = I x k := by
  have := okE_f ho h hj
  rw [Nat.add_zero] at this
  exact this
def NumR (x nr nc NW : Nat) (I : Im) : Prop := nr ≤ 10 ∧ nc ≤ 6 ∧ NW ≤ 5 ∧ I x 1 = nI NW ∧ I (x + 62) 0 = nI NW ∧ I x 4 = nI nr ∧ I (x + 62) 27 = nI nr ∧ I x 6 = nI nc ∧ I (x + 62) 28 = nI nc
theorem NumR.af (h : NumR x nr nc NW I) (hF : AF x E P I I') (ho : okE [] [(0, 1), (62, 0), (0, 4), (62, 27), (0, 6), (62, 28)] E P = true) : NumR x nr nc NW I' := by
  unfold NumR at h ⊢
  rw [okE_f0 ho hF (k := 1) (by decide), okE_f ho hF (j := 62) (k := 0) (by decide), okE_f0 ho hF (k := 4) (by decide), okE_f ho hF (j := 62) (k := 27) (by decide), okE_f0 ho hF (k := 6) (by decide), okE_f ho hF (j := 62) (k := 28) (by decide)]
  exact h
def RulesR (x nr n : Nat) (K : Sh) (I : Im) (R : Rf) : Prop := ∀ r, r < nr → ∃ a kd v rn rw, RuleR x r n a kd v rn rw K I R
theorem RulesR.af (h : RulesR x nr n K I R) (hF : AF x E P I I') (ho : okE [81, 82, 83, 84] [] E P = true) (hd : ∀ z, x + 110 ≤ z → z < n → I' z = I z ∧ R' z = R z) (h6 : R' (x + 6) = R (x + 6)) (hn : n ≤ n') : RulesR x nr n' K I' R' := by
  intro r hr
  obtain ⟨a, kd, v, rn, rw_, z⟩ := h r hr
  have h1 := z.2.1.2.1
  have h2 := z.2.2.1
  exact ⟨a, kd, v, rn, rw_, z.cg (by rw [h6]) (hd a h1 (by omega)).2 ⟨rfl, rfl⟩ (hd a h1 (by omega)).1 (hd (a + 1) (by omega) (by omega)).1 (by rw [okE_r ho hF (by decide)]) (by rw [okE_r ho hF (by decide)]) (by rw [okE_r ho hF (by decide)]) (fun k _ => by rw [okE_r ho hF (by decide)]) hn⟩
def CarsR (x nr nc n : Nat) (K : Sh) (I : Im) (R : Rf) : Prop := ∀ k, k < nc → ∃ a b st r ra, CarR x nr k n a b st r ra K I R
theorem CarsR.af (h : CarsR x nr nc n K I R) (hF : AF x E P I I') (ho : okE [85, 86, 87] [] E P = true) (hd : ∀ z, x + 110 ≤ z → z < n → I' z = I z ∧ R' z = R z) (h7 : R' (x + 7) = R (x + 7)) (h6 : R' (x + 6) = R (x + 6)) (hn : n ≤ n') : CarsR x nr nc n' K I' R' := by
  intro k hk
  obtain ⟨a, b, st, r, ra, z⟩ := h k hk
  have h1 := z.2.2.1
  have h2 := z.2.2.2.1
  exact ⟨a, b, st, r, ra, z.cg (by rw [h7]) (fun r _ => by rw [h6]) (hd a h1 h2).2 rfl (hd a h1 h2).1 (by rw [okE_r ho hF (by decide)]) (by rw [okE_r ho hF (by decide)]) (by rw [okE_r ho hF (by decide)]) hn (Nat.le_refl _)⟩
def NowS (x nc NW n M : Nat) (K : Sh) (I : Im) (R : Rf) : Prop := SceneR x (x + 8) nc NW n M (I (x + 62) 1) (I (x + 62) 51) (I (x + 62) 29) (x + 73) (x + 74) (x + 75) (x + 96) (x + 88) K I R
def KeptS (x nc NW n M : Nat) (K : Sh) (I : Im) (R : Rf) : Prop := SceneR x (x + 17) nc NW n M (I (x + 62) 59) (I (x + 62) 60) (I (x + 62) 61) (x + 100) (x + 101) (x + 102) (x + 103) (x + 104) K I R
def nowRows : List Nat := [10, 11, 12, 13, 14, 15, 16, 64, 65, 66, 67, 68, 69, 70, 73, 74, 75, 96, 88]
def nowFlds : List (Nat × Nat) := [(8, 4), (8, 6), (62, 1), (62, 51), (62, 29)]
def keptRows : List Nat := [19, 20, 21, 22, 23, 24, 25, 64, 65, 66, 67, 68, 69, 70, 100, 101, 102, 103, 104]
def keptFlds : List (Nat × Nat) := [(17, 4), (17, 6), (62, 59), (62, 60), (62, 61)]
theorem NowS.af (h : NowS x nc NW n M K I R) (hF : AF x E P I I') (ho : okE nowRows nowFlds E P = true) (hd : ∀ z, x + 110 ≤ z → z < n → I' z = I z ∧ R' z = R z) (h8 : R' (x + 8) 0 = R (x + 8) 0) (hn : n ≤ n') (hM : M ≤ M') (hnc : nc ≤ nc') (hNW : NW ≤ NW') : NowS x nc' NW' n' M' K I' R' := by
  unfold NowS at h ⊢
  rw [okE_f ho hF (j := 62) (k := 1) (by decide), okE_f ho hF (j := 62) (k := 51) (by decide), okE_f ho hF (j := 62) (k := 29) (by decide)]
  have r : ∀ j ∈ nowRows, I' (x + j) = I (x + j) := fun j hj => okE_r ho hF hj
  exact h.cg ⟨r 64 (by decide), r 65 (by decide), r 66 (by decide), r 67 (by decide), r 68 (by decide), r 69 (by decide), r 70 (by decide)⟩ (h.wd (fun z a b => (hd z a b).1) (fun z a b => (hd z a b).2)) h8 (okE_f ho hF (j := 8) (k := 4) (by decide)) (okE_f ho hF (j := 8) (k := 6) (by decide)) (r 10 (by decide)) (r 11 (by decide)) (r 12 (by decide)) (r 13 (by decide)) (r 14 (by decide)) (r 15 (by decide)) (r 16 (by decide)) (r 73 (by decide)) (r 74 (by decide)) (r 75 (by decide)) (r 96 (by decide)) (r 88 (by decide)) hn hM hnc hNW
theorem KeptS.af (h : KeptS x nc NW n M K I R) (hF : AF x E P I I') (ho : okE keptRows keptFlds E P = true) (hd : ∀ z, x + 110 ≤ z → z < n → I' z = I z ∧ R' z = R z) (h8 : R' (x + 17) 0 = R (x + 17) 0) (hn : n ≤ n') (hM : M ≤ M') (hnc : nc ≤ nc') (hNW : NW ≤ NW') : KeptS x nc' NW' n' M' K I' R' := by
  unfold KeptS at h ⊢
  rw [okE_f ho hF (j := 62) (k := 59) (by decide), okE_f ho hF (j := 62) (k := 60) (by decide), okE_f ho hF (j := 62) (k := 61) (by decide)]
  have r : ∀ j ∈ keptRows, I' (x + j) = I (x + j) := fun j hj => okE_r ho hF hj
  exact h.cg ⟨r 64 (by decide), r 65 (by decide), r 66 (by decide), r 67 (by decide), r 68 (by decide), r 69 (by decide), r 70 (by decide)⟩ (h.wd (fun z a b => (hd z a b).1) (fun z a b => (hd z a b).2)) h8 (okE_f ho hF (j := 17) (k := 4) (by decide)) (okE_f ho hF (j := 17) (k := 6) (by decide)) (r 19 (by decide)) (r 20 (by decide)) (r 21 (by decide)) (r 22 (by decide)) (r 23 (by decide)) (r 24 (by decide)) (r 25 (by decide)) (r 100 (by decide)) (r 101 (by decide)) (r 102 (by decide)) (r 103 (by decide)) (r 104 (by decide)) hn hM hnc hNW
def ImgR (x : Nat) (I : Im) : Prop := ∃ b : Bool, I x 9 = bI b ∧ I (x + 62) 58 = bI b
theorem ImgR.af (h : ImgR x I) (hF : AF x E P I I') (ho : okE [] [(0, 9), (62, 58)] E P = true) : ImgR x I' := by
  unfold ImgR at h ⊢
  rw [okE_f0 ho hF (k := 9) (by decide), okE_f ho hF (j := 62) (k := 58) (by decide)]
  exact h
theorem ActsR.af (h : ActsR x I) (hF : AF x E P I I') (ho : okE [28, 105] [(27, 1), (62, 67)] E P = true) : ActsR x I' := by
  unfold ActsR at h ⊢
  rw [okE_r ho hF (j := 28) (by decide), okE_r ho hF (j := 105) (by decide), okE_f ho hF (j := 27) (k := 1) (by decide), okE_f ho hF (j := 62) (k := 67) (by decide)]
  exact h
theorem TextR.af (h : TextR x I) (hF : AF x E P I I') (ho : okE [2, 63] [(1, 1), (62, 2)] E P = true) : TextR x I' := by
  unfold TextR at h ⊢
  rw [okE_r ho hF (j := 2) (by decide), okE_r ho hF (j := 63) (by decide), okE_f ho hF (j := 1) (k := 1) (by decide), okE_f ho hF (j := 62) (k := 2) (by decide)]
  exact h
def TapesR (x : Nat) (I : Im) (J : Jm) : Prop := ∀ t, t < 6 → TapeR x t I J
theorem TapesR.af (h : TapesR x I J) (hF : AF x E P I I') (ho : okE [50, 52, 54, 56, 58, 60, 106, 107] [] E P = true) : TapesR x I' J := by
  intro t ht
  have := h t ht
  unfold TapeR at this ⊢
  have e : I' (x + (50 + 2 * t)) = I (x + (50 + 2 * t)) := by
    rcases (by omega : t = 0 ∨ t = 1 ∨ t = 2 ∨ t = 3 ∨ t = 4 ∨ t = 5) with rfl | rfl | rfl | rfl | rfl | rfl <;> exact okE_r ho hF (by decide)
  rw [e, okE_r ho hF (j := 106) (by decide), okE_r ho hF (j := 107) (by decide)]
  exact this
theorem ZZ.af (h : ZZ Z x K I) (hF : AF x E P I I') : ZZ Z x K I' := ⟨h.1, fun i hi => ⟨(h.2 i hi).1, fun j hj => by rw [hF.b (h.1.1 i hi)]; exact (h.2 i hi).2 j hj⟩⟩
theorem RelG_iff : RelG Z x n M nr nc NW K I J R ↔ NumR x nr nc NW I ∧ RulesR x nr n K I R ∧ CarsR x nr nc n K I R ∧ NowS x nc NW n M K I R ∧ KeptS x nc NW n M K I R ∧ ImgR x I ∧ ActsR x I ∧ TapesR x I J ∧ TextR x I ∧ UnreadR x n K R := Iff.rfl
end
