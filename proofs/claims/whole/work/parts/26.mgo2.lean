section
variable {o : Nat} {K : Sh} {R : Rf}
theorem L5n : (-5 : Int32) = oI none := rfl
theorem m_go19 (hM : S12 o K R) {h r kind rm : Nat} {P : Im → Prop} : ∀ (k j : Nat) (I : Im), 6 - j < k → j ≤ 6 → I o 46 = nI rm → (∀ q, q < j → I (o + 28) q = oI none ∧ I (o + 29) q = oI none) →
    (∀ I1, FM o [28, 29] [49, 50] I I1 → (∀ q, q < 6 → I1 (o + 28) q = oI none ∧ I1 (o + 29) q = oI none) → I1 o 49 = -5 → I1 o 50 = -5 → Ok (f_X12_go_78 K R o FU (nI r) (nI kind) (nI 0) (hwI o I1 h rm)) P) →
    Ok (f_X12_go_19 K R o k (nI h) (nI r) (nI kind) (nI j) I) P := by
  intro k
  induction k with
  | zero => intro j I h; omega
  | succ k ih =>
    intro j I hk hj h46 hz kk
    unfold f_X12_go_19
    by_cases e : j = 6
    · subst e
      have F : FM o [28, 29] [49, 50] I (u2 (u2 I o 49 (-5)) o 50 (-5)) := FM.pf (FM.pf FM.refl (by decide)) (by decide)
      have g := kk _ F (fun q hq => by rw [u2_row (by omega), u2_row (by omega), u2_row (by omega), u2_row (by omega)]; exact hz q hq) (by rw [u2_ne (by decide), u2_eq]) (by rw [u2_eq])
      have e1 : u2 (u2 (u2 (u2 I o 47 (nI h)) o 48 (nI rm)) o 49 (-5)) o 50 (-5) = hwI o (u2 (u2 I o 49 (-5)) o 50 (-5)) h rm := by
        funext a b
        simp only [hwI, u2]
        by_cases c1 : a = o
        · subst c1
          by_cases c2 : b = 47
          · simp [c2]
          · by_cases c3 : b = 48
            · simp [c3]
            · simp [c2, c3]
        · simp [c1]
      rw [← e1] at g
      rw [L0]
      rw [if_pos (show (6 : Int32) ≤ nI 6 from Int32.le_refl _), obs]
      have h46' : u2 I o 47 (nI h) o 46 = nI rm := by rw [u2_ne (by decide)]; exact h46
      rw [h46', obs, obs, obs]
      exact g
    · have F : FM o [28, 29] [49, 50] I (u2 (u2 I (o + 28) j (-5)) (o + 29) j (-5)) := FM.st (FM.st FM.refl (by decide)) (by decide)
      have n6 : ¬ ((6 : Int32) ≤ nI j) := by rw [L6, nI_leI (by omega) (by omega)]; omega
      rw [if_neg n6, s12_39 hM (by omega), obs, s12_40 hM (by omega), obs, L1, nI_add]
      refine ih (j + 1) _ (by omega) (by omega) ((F.fld (by decide) (by decide)).trans h46) (fun q hq => ?_) (fun I1 G g1 g2 g3 => kk I1 (F.trans G) g1 g2 g3)
      by_cases c : q = j
      · subst c
        rw [u2_row (by omega), u2_eq, u2_eq]
        exact ⟨rfl, rfl⟩
      · rw [u2_row (by omega), u2_ne c, u2_ne c, u2_row (by omega)]
        exact hz q (by omega)
end
