section
variable {o : Nat} {K : Sh} {R : Rf}
def thS : List Nat := [10, 27]
theorem m_th12 (hM : S12 o K R) {i N b y : Nat} {w c d : Nat → Nat} {cs : Nat → List Nat} {r : Int32 → Int32 → Im → Option Im} {P : Im → Prop} (hi : i < 5) (hb : b ≤ 9) (hy : y ≤ 5) : ∀ (k j : Nat) (I : Im), 24 - j < k → j ≤ 24 → MW o i N w c d I → MC o i N w cs I → I o 1 = nI i →
    (∀ q, q < j → I (o + 27) (24 * y + q) = nI (b * drV w c (fun n => cdN (cs n) q b y) N)) →
    (∀ I1, FM o thS [] I I1 → (∀ q, q < 24 * y → I1 (o + 27) q = I (o + 27) q) → (∀ q, q < 24 → I1 (o + 27) (24 * y + q) = nI (b * drV w c (fun n => cdN (cs n) q b y) N)) → Ok (r (nI b) (nI (y + 1)) I1) P) →
    Ok (f_X12_layThirst_12 K R o r k (nI b) (nI y) (nI j) I) P := by
  intro k
  induction k with
  | zero => intro j I h; omega
  | succ k ih =>
    intro j I hk hj hW hC ht hz kk
    unfold f_X12_layThirst_12
    by_cases h : j = 24
    · subst h
      simp (disch := omega) only [L0, L1, L2, L3, L4, L5, L6, L7, L8, L9, L10, L11, L12, L13, L14, L15, L16, L17, L18, L19, L20, L21, L22, L23, L24, L25, L26, L27, L28, L29, L30, L31, L32, L33, L34, L35, L36, L37, L38, L39, L40, L48, L57, L59, L60, L62, L96, L97, L98, L99, L100, L104, L110, L119, L124, L500, L999, L1000, L2000, L3000, nI_add, pk_mul, pk_sub, nI_leI, nI_ltI, nI_eq, obs, u2_eq, u2_row, u2_ne, if_pos, if_neg, if_true, if_false, eq_self]
      exact kk I FM.refl (fun q hq => rfl) hz
    · obtain ⟨I1, e1, F⟩ := m_drinksOf hM hi (by omega : j < 2 ^ 31) (by omega : b < 2 ^ 31) (by omega : y < 2 ^ 31) hW hC ht
      have F1 : FM o thS [] I (u2 I1 (o + 27) (24 * y + j) (nI (b * drV w c (fun n => cdN (cs n) j b y) N))) := FM.st (F.mono (by decide) (by decide)) (by decide)
      have r27 : I1 (o + 27) = I (o + 27) := F.arr (by decide) (by decide)
      simp (disch := omega) only [L0, L1, L2, L3, L4, L5, L6, L7, L8, L9, L10, L11, L12, L13, L14, L15, L16, L17, L18, L19, L20, L21, L22, L23, L24, L25, L26, L27, L28, L29, L30, L31, L32, L33, L34, L35, L36, L37, L38, L39, L40, L48, L57, L59, L60, L62, L96, L97, L98, L99, L100, L104, L110, L119, L124, L500, L999, L1000, L2000, L3000, nI_add, pk_mul, pk_sub, nI_leI, nI_ltI, nI_eq, obs, u2_eq, u2_row, u2_ne, if_pos, if_neg, if_true, if_false, eq_self, e1, s12_38 hM]
      refine ih (j + 1) _ (by omega) (by omega) (hW.fm F1 (by decide)) (hC.fm F1 (by decide)) ((F1.fld (by decide) (by decide)).trans ht) (fun q hq => ?_) (fun I2 G g1 g2 => ?_)
      · by_cases e : q = j
        · subst e; rw [u2_eq]
        · rw [u2_ne (by omega), r27]; exact hz q (by omega)
      · refine kk I2 (F1.trans G) (fun q hq => ?_) g2
        rw [g1 q hq, u2_ne (by omega), r27]
theorem m_th2 (hM : S12 o K R) {i N b W : Nat} {w c d : Nat → Nat} {cs : Nat → List Nat} {P : Im → Prop} (hi : i < 5) (hb : b ≤ 9) (hW5 : W ≤ 5) : ∀ (k y : Nat) (I : Im), W + 1 - y < k → y ≤ W + 1 → MW o i N w c d I → MC o i N w cs I → I o 1 = nI i → I o 21 = nI W →
    (∀ p, p < y → ∀ q, q < 24 → I (o + 27) (24 * p + q) = nI (b * drV w c (fun n => cdN (cs n) q b p) N)) →
    (∀ I1, FM o thS [45, 46] I I1 → (∀ p, p ≤ W → ∀ q, q < 24 → I1 (o + 27) (24 * p + q) = nI (b * drV w c (fun n => cdN (cs n) q b p) N)) → I1 o 45 = nI (b * laV w c 5 0 N) → I1 o 46 = nI (b * laV w c 3 10 N) → P I1) →
    Ok (f_X12_layThirst_2 K R o k (nI b) (nI y) I) P := by
  intro k
  induction k with
  | zero => intro y I h; omega
  | succ k ih =>
    intro y I hk hy hW hC ht h21 hz kk
    unfold f_X12_layThirst_2
    by_cases h : y = W + 1
    · subst h
      have t1 : I o 1 = nI i := ht
      have F1 : FM o thS [45, 46] I (u2 I o 45 (nI (b * laV w c 5 0 N))) := FM.pf FM.refl (by decide)
      have F2 : FM o thS [45, 46] I (u2 (u2 I o 45 (nI (b * laV w c 5 0 N))) o 46 (nI (b * laV w c 3 10 N))) := FM.pf F1 (by decide)
      have q1 := m_last hM (e := 0) (by omega : 5 ≤ 5) hi hW ht
      have q2 := m_last hM (e := 10) (by omega : 3 ≤ 5) hi (hW.fm F1 (by decide)) ((F1.fld (by decide) (by decide)).trans ht)
      simp (disch := omega) only [L0, L1, L2, L3, L4, L5, L6, L7, L8, L9, L10, L11, L12, L13, L14, L15, L16, L17, L18, L19, L20, L21, L22, L23, L24, L25, L26, L27, L28, L29, L30, L31, L32, L33, L34, L35, L36, L37, L38, L39, L40, L48, L57, L59, L60, L62, L96, L97, L98, L99, L100, L104, L110, L119, L124, L500, L999, L1000, L2000, L3000, nI_add, pk_mul, pk_sub, nI_leI, nI_ltI, nI_eq, obs, u2_eq, u2_row, u2_ne, if_pos, if_neg, if_true, if_false, eq_self, h21, q1, q2]
      refine Ok.ret (kk _ F2 (fun p hp q hq => ?_) (by simp (disch := omega) only [L0, L1, L2, L3, L4, L5, L6, L7, L8, L9, L10, L11, L12, L13, L14, L15, L16, L17, L18, L19, L20, L21, L22, L23, L24, L25, L26, L27, L28, L29, L30, L31, L32, L33, L34, L35, L36, L37, L38, L39, L40, L48, L57, L59, L60, L62, L96, L97, L98, L99, L100, L104, L110, L119, L124, L500, L999, L1000, L2000, L3000, nI_add, pk_mul, pk_sub, nI_leI, nI_ltI, nI_eq, obs, u2_eq, u2_row, u2_ne]) (by simp (disch := omega) only [L0, L1, L2, L3, L4, L5, L6, L7, L8, L9, L10, L11, L12, L13, L14, L15, L16, L17, L18, L19, L20, L21, L22, L23, L24, L25, L26, L27, L28, L29, L30, L31, L32, L33, L34, L35, L36, L37, L38, L39, L40, L48, L57, L59, L60, L62, L96, L97, L98, L99, L100, L104, L110, L119, L124, L500, L999, L1000, L2000, L3000, nI_add, pk_mul, pk_sub, nI_leI, nI_ltI, nI_eq, obs, u2_eq, u2_row, u2_ne]))
      rw [u2_row (by omega), u2_row (by omega)]
      exact hz p (by omega) q hq
    · simp (disch := omega) only [L0, L1, L2, L3, L4, L5, L6, L7, L8, L9, L10, L11, L12, L13, L14, L15, L16, L17, L18, L19, L20, L21, L22, L23, L24, L25, L26, L27, L28, L29, L30, L31, L32, L33, L34, L35, L36, L37, L38, L39, L40, L48, L57, L59, L60, L62, L96, L97, L98, L99, L100, L104, L110, L119, L124, L500, L999, L1000, L2000, L3000, nI_add, pk_mul, pk_sub, nI_leI, nI_ltI, nI_eq, obs, u2_eq, u2_row, u2_ne, if_pos, if_neg, if_true, if_false, eq_self, h21]
      refine m_th12 hM hi hb (by omega : y ≤ 5) FU 0 I (FU_lt (by omega)) (by omega) hW hC ht (fun q hq => by omega) (fun I1 F g1 g2 => ?_)
      have F1 : FM o thS [45, 46] I I1 := F.mono (by decide) (by decide)
      refine ih (y + 1) I1 (by omega) (by omega) (hW.fm F (by decide)) (hC.fm F (by decide)) ((F.fld (by decide) (by decide)).trans ht) ((F.fld (by decide) (by decide)).trans h21) (fun p hp q hq => ?_) (fun I2 G k1 k2 k3 => kk I2 (F1.trans G) k1 k2 k3)
      by_cases e : p = y
      · subst e; exact g2 q hq
      · rw [g1 _ (by omega)]; exact hz p (by omega) q hq
theorem m_layThirst (hM : S12 o K R) {i N b W : Nat} {w c d : Nat → Nat} {cs : Nat → List Nat} {I : Im} {P : Im → Prop} (hi : i < 5) (hb : b ≤ 9) (hW5 : W ≤ 5) (hW : MW o i N w c d I) (hC : MC o i N w cs I) (ht : I o 1 = nI i) (h21 : I o 21 = nI W)
    (kk : ∀ I1, FM o thS [45, 46] I I1 → (∀ p, p ≤ W → ∀ q, q < 24 → I1 (o + 27) (24 * p + q) = nI (b * drV w c (fun n => cdN (cs n) q b p) N)) → I1 o 45 = nI (b * laV w c 5 0 N) → I1 o 46 = nI (b * laV w c 3 10 N) → P I1) : Ok (f_X12_layThirst K R o (nI b) I) P := by
  unfold f_X12_layThirst
  rw [L0]
  exact m_th2 hM hi hb hW5 FU 0 I (FU_lt (by omega)) (by omega) hW hC ht h21 (fun p hp => by omega) kk
end
