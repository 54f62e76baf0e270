section
variable {o W way z f0 g0 M : Nat} {K : Sh} {R : Rf} {fu gi hr : Nat → Nat}
theorem m_lm137 (hM : S12 o K R) {V : Nat} {fX : Nat → Nat} (hV : V ≤ 6) {P : Im → Prop} : ∀ (m k f : Nat) (I : Im), k + m = V → m < f → I o 21 = nI V → (∀ j, j < V → I (o + 14) j = nI (fX j)) → (∀ j, j < k → I (o + 17) j = nI (fX j) ∧ I (o + 18) j = nI 0) → (∀ I1, FM o [17, 18] [] I I1 → (∀ j, j < V → I1 (o + 17) j = nI (fX j) ∧ I1 (o + 18) j = nI 0) → P I1) → Ok (f_X12_layMore_137 K R o f (nI k) I) P := by
  intro m
  induction m with
  | zero =>
    intro k f I hk hf h21 h14 hz kk
    obtain ⟨f, rfl⟩ : ∃ f', f = f' + 1 := ⟨f - 1, by omega⟩
    have : k = V := by omega
    subst this
    unfold f_X12_layMore_137
    rw [h21, if_pos (Int32.le_refl _)]
    exact Ok.ret (kk I FM.refl hz)
  | succ m ih =>
    intro k f I hk hf h21 h14 hz kk
    obtain ⟨f, rfl⟩ : ∃ f', f = f' + 1 := ⟨f - 1, by omega⟩
    have F : FM o [17, 18] [] I (u2 (u2 I (o + 17) k (nI (fX k))) (o + 18) k (nI 0)) := FM.st (FM.st FM.refl (by decide)) (by decide)
    unfold f_X12_layMore_137
    rw [h21, if_neg (by rw [nI_leI (by omega) (by omega)]; omega), l12_22 hM (by omega), obs, h14 k (by omega), s12_25 hM (by omega), obs, L0, s12_26 hM (by omega), obs, L1, nI_add]
    refine ih (k + 1) f _ (by omega) (by omega) (by rw [F.fld (by decide) (by decide)]; exact h21) (fun j hj => by rw [F.arr (by decide) (by decide)]; exact h14 j hj) (fun j hj => ?_) (fun I1 G g => kk I1 (F.trans G) g)
    by_cases c : j = k
    · subst c; rw [u2_row (by omega), u2_eq, u2_eq]; exact ⟨rfl, rfl⟩
    · rw [u2_row (by omega), u2_ne c, u2_ne c, u2_row (by omega)]; exact hz j (by omega)
theorem m_lm62 (hM : S12 o K R) (hW : W < 5) (hway : way ≤ W) (hz : 1 ≤ z) (hzh : z < hr way) (hh9 : ∀ k, k ≤ W → hr k ≤ 9) {P : Im → Prop} : ∀ (m i f : Nat) (I : Im), i = way + m → i ≤ W + 1 → m < f → I o 21 = nI W → (∀ j, j < W + 1 → j ≠ way → I (o + 14) j = nI (insN way f0 fu j) ∧ I (o + 15) j = nI (insN way g0 gi j)) → (∀ j, (i < j ∧ j ≤ W + 1 → I (o + 16) j = nI (hr (j - 1))) ∧ (j ≤ i ∧ j ≤ W → I (o + 16) j = nI (hr j))) →
    (∀ I1, FM o [14, 15, 16, 17, 18] [21] I I1 → I1 o 21 = nI (W + 1) → (∀ j, j < W + 1 → I1 (o + 14) j = nI (insN way f0 fu j) ∧ I1 (o + 15) j = nI (insN way g0 gi j) ∧ I1 (o + 17) j = nI (insN way f0 fu j) ∧ I1 (o + 18) j = nI 0) → (∀ j, j ≤ W + 1 → I1 (o + 16) j = nI (hrD way z hr j)) → P I1) → Ok (f_X12_layMore_62 K R o f (nI way) (nI z) (nI f0) (nI g0) (nI i) I) P := by
  intro m
  induction m with
  | zero =>
    intro i f I hi hiW hf h21 hfg hh kk
    obtain ⟨f, rfl⟩ : ∃ f', f = f' + 1 := ⟨f - 1, by omega⟩
    have : i = way := by omega
    subst this
    have h16 : I (o + 16) (i + 1) = nI (hr i) := by have := (hh (i + 1)).1 ⟨by omega, by omega⟩; simpa using this
    obtain ⟨Ie, hIe⟩ : ∃ Ie, Ie = u2 (u2 (u2 (u2 (u2 I (o + 14) i (nI f0)) (o + 15) i (nI g0)) (o + 16) i (nI z)) (o + 16) (i + 1) (nI (hr i - z))) o 21 (nI (W + 1)) := ⟨_, rfl⟩
    have F : FM o [14, 15, 16, 17, 18] [21] I Ie := by rw [hIe]; exact FM.pf (FM.st (FM.st (FM.st (FM.st FM.refl (by decide)) (by decide)) (by decide)) (by decide)) (by decide)
    have e14 : ∀ j, j < W + 1 → Ie (o + 14) j = nI (insN i f0 fu j) := fun j hj => by
      rw [hIe, u2_row (by omega), u2_row (by omega), u2_row (by omega), u2_row (by omega)]
      by_cases c : j = i
      · subst c; rw [u2_eq]; unfold insN; rw [if_neg (by omega), if_pos rfl]
      · rw [u2_ne c]; exact (hfg j hj c).1
    have e15 : ∀ j, j < W + 1 → Ie (o + 15) j = nI (insN i g0 gi j) := fun j hj => by
      rw [hIe, u2_row (by omega), u2_row (by omega), u2_row (by omega)]
      by_cases c : j = i
      · subst c; rw [u2_eq]; unfold insN; rw [if_neg (by omega), if_pos rfl]
      · rw [u2_ne c, u2_row (by omega)]; exact (hfg j hj c).2
    have e16 : ∀ j, j ≤ W + 1 → Ie (o + 16) j = nI (hrD i z hr j) := fun j hj => by
      rw [hIe, u2_row (by omega)]
      unfold hrD
      by_cases c : j = i + 1
      · subst c; rw [u2_eq, if_neg (by omega), if_neg (by omega), if_pos rfl]
      · rw [u2_ne c]
        by_cases c2 : j = i
        · subst c2; rw [u2_eq, if_neg (by omega), if_pos rfl]
        · rw [u2_ne c2, u2_row (by omega), u2_row (by omega)]
          by_cases c3 : j < i
          · rw [if_pos c3]; exact (hh j).2 ⟨by omega, by omega⟩
          · rw [if_neg c3, if_neg c2, if_neg c]; exact (hh j).1 ⟨by omega, hj⟩
    have e21 : Ie o 21 = nI (W + 1) := by rw [hIe, u2_eq]
    have h9 := hh9 i hway
    unfold f_X12_layMore_62
    rw [if_pos (Int32.le_refl _), s12_22 hM (by omega), obs, s12_23 hM (by omega), obs, s12_24 hM (by omega), obs, L1, nI_add, l12_24 hM (by omega), obs, u2_ne (by omega), u2_row (by omega), u2_row (by omega), h16, pk_sub (by omega), s12_24 hM (by omega), obs, u2_row (by omega), u2_row (by omega), u2_row (by omega), u2_row (by omega), h21, nI_add, obs, ← hIe, L0]
    refine m_lm137 hM (V := W + 1) (fX := insN i f0 fu) (by omega) (W + 1) 0 FU Ie (by omega) (FU_lt (by omega)) e21 e14 (fun j hj => by omega) (fun I1 G g => kk I1 (F.trans (G.mono (by decide) (by decide))) (by rw [G.fld (by decide) (by decide)]; exact e21) (fun j hj => ⟨by rw [G.arr (by decide) (by decide)]; exact e14 j hj, by rw [G.arr (by decide) (by decide)]; exact e15 j hj, g j hj⟩) (fun j hj => by rw [G.arr (by decide) (by decide)]; exact e16 j hj))
  | succ m ih =>
    intro i f I hi hiW hf h21 hfg hh kk
    obtain ⟨f, rfl⟩ : ∃ f', f = f' + 1 := ⟨f - 1, by omega⟩
    have h1 : I (o + 16) (i - 1) = nI (hr (i - 1)) := (hh (i - 1)).2 ⟨by omega, by omega⟩
    have F : FM o [14, 15, 16, 17, 18] [21] I (u2 I (o + 16) i (nI (hr (i - 1)))) := FM.st FM.refl (by decide)
    unfold f_X12_layMore_62
    rw [if_neg (by rw [nI_leI (by omega) (by omega)]; omega), L1, pk_sub (by omega), l12_24 hM (by omega), obs, h1, s12_24 hM (by omega), obs]
    refine ih (i - 1) f _ (by omega) (by omega) (by omega) (by rw [u2_row (by omega)]; exact h21) (fun j hj hw => by rw [u2_row (by omega), u2_row (by omega)]; exact hfg j hj hw) (fun j => ⟨fun hj => ?_, fun hj => ?_⟩) (fun I1 G => kk I1 (F.trans G))
    · by_cases c : j = i
      · subst c; rw [u2_eq]
      · rw [u2_ne c]; exact (hh j).1 ⟨by omega, hj.2⟩
    · rw [u2_ne (by omega)]; exact (hh j).2 ⟨by omega, hj.2⟩
theorem m_lm10 (hM : S12 o K R) (hW : W < 5) (hway : way ≤ W) (hz : 1 ≤ z) (hzh : z < hr way) (hh9 : ∀ k, k ≤ W → hr k ≤ 9) {P : Im → Prop} : ∀ (m i f : Nat) (I : Im), i = way + m → i ≤ W → m < f → I o 21 = nI W → (∀ j, (i < j ∧ j ≤ W → I (o + 14) j = nI (fu (j - 1)) ∧ I (o + 15) j = nI (gi (j - 1))) ∧ (j ≤ i ∧ j < W → I (o + 14) j = nI (fu j) ∧ I (o + 15) j = nI (gi j))) → (∀ j, j ≤ W → I (o + 16) j = nI (hr j)) →
    (∀ I1, FM o [14, 15, 16, 17, 18] [21] I I1 → I1 o 21 = nI (W + 1) → (∀ j, j < W + 1 → I1 (o + 14) j = nI (insN way f0 fu j) ∧ I1 (o + 15) j = nI (insN way g0 gi j) ∧ I1 (o + 17) j = nI (insN way f0 fu j) ∧ I1 (o + 18) j = nI 0) → (∀ j, j ≤ W + 1 → I1 (o + 16) j = nI (hrD way z hr j)) → P I1) → Ok (f_X12_layMore_10 K R o f (nI way) (nI z) (nI f0) (nI g0) (nI i) I) P := by
  intro m
  induction m with
  | zero =>
    intro i f I hi hiW hf h21 hfg hh kk
    obtain ⟨f, rfl⟩ : ∃ f', f = f' + 1 := ⟨f - 1, by omega⟩
    have : i = way := by omega
    subst this
    unfold f_X12_layMore_10
    rw [if_pos (Int32.le_refl _), h21, L1, nI_add]
    refine m_lm62 hM hW hway hz hzh hh9 (W + 1 - i) (W + 1) FU I (by omega) (by omega) (FU_lt (by omega)) h21 (fun j hj hne => ?_) (fun j => ⟨fun hj => by omega, fun hj => hh j hj.2⟩) kk
    unfold insN
    by_cases c : j < i
    · rw [if_pos c, if_pos c]
      exact (hfg j).2 ⟨by omega, by omega⟩
    · rw [if_neg c, if_neg hne, if_neg c, if_neg hne]
      exact (hfg j).1 ⟨by omega, by omega⟩
  | succ m ih =>
    intro i f I hi hiW hf h21 hfg hh kk
    obtain ⟨f, rfl⟩ : ∃ f', f = f' + 1 := ⟨f - 1, by omega⟩
    obtain ⟨h1, h2⟩ := (hfg (i - 1)).2 ⟨by omega, by omega⟩
    have F : FM o [14, 15, 16, 17, 18] [21] I (u2 (u2 I (o + 14) i (nI (fu (i - 1)))) (o + 15) i (nI (gi (i - 1)))) := FM.st (FM.st FM.refl (by decide)) (by decide)
    unfold f_X12_layMore_10
    rw [if_neg (by rw [nI_leI (by omega) (by omega)]; omega), L1, pk_sub (by omega), l12_22 hM (by omega), obs, h1, s12_22 hM (by omega), obs, l12_23 hM (by omega), obs, u2_row (by omega), h2, s12_23 hM (by omega), obs]
    refine ih (i - 1) f _ (by omega) (by omega) (by omega) (by rw [u2_row (by omega), u2_row (by omega)]; exact h21) (fun j => ⟨fun hj => ?_, fun hj => ?_⟩) (fun j hj => by rw [u2_row (by omega), u2_row (by omega)]; exact hh j hj) (fun I1 G => kk I1 (F.trans G))
    · by_cases c : j = i
      · subst c; rw [u2_row (by omega), u2_eq, u2_eq]; exact ⟨rfl, rfl⟩
      · rw [u2_row (by omega), u2_ne c, u2_ne c, u2_row (by omega)]; exact (hfg j).1 ⟨by omega, hj.2⟩
    · rw [u2_row (by omega), u2_ne (by omega), u2_ne (by omega), u2_row (by omega)]; exact (hfg j).2 ⟨by omega, hj.2⟩
theorem fuD_le {way a W : Nat} {fu : Nat → Nat} (ha : a ≤ 99) (hf : ∀ k, fu k ≤ 99) (j : Nat) : fuD way a fu W j ≤ 99 := by
  unfold fuD insN
  (repeat' split) <;> first | omega | exact hf _
theorem hrP_b {way z W : Nat} {hr : Nat → Nat} (hway : way ≤ W) (hW : W < 5) (hz : 1 ≤ z) (hzh : z < hr way) (hh : ∀ k, k < 6 → 1 ≤ hr k ∧ hr k ≤ 9) (k : Nat) (hk : k < 6) : 1 ≤ hrP way z hr (W + 1) k ∧ hrP way z hr (W + 1) k ≤ 9 := by
  have := hh way (by omega)
  unfold hrP hrD cntP
  (repeat' split) <;> first | omega | exact hh _ (by omega)
end
