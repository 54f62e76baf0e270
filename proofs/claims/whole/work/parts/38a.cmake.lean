def TripC (t u W : Nat) (I : Im) (T : TR) : Prop := I t 0 = oI T.1.1 ∧ I t 1 = oI T.1.2 ∧ (∀ j, j < 5 → I (t + 1) j = oI (T.2.1 j) ∧ I (t + 2) j = oI (T.2.2.1 j)) ∧ (∀ j, j < W → I (u + 3) j = nI (T.2.2.2.1 j) ∧ I (u + 4) j = nI (T.2.2.2.2 j))
section
variable {q t u : Nat} {K : Sh} {R : Rf}
theorem tw_st {I : Im} {h w : Nat} {x y : Int32} : u2 (u2 (u2 (u2 I t 4 (nI h)) t 6 x) t 7 y) t 5 (nI w) = twI t (u2 (u2 I t 6 x) t 7 y) h w := by
  funext a k
  simp only [twI, u2]
  by_cases c : a = t
  · subst c
    by_cases c4 : k = 4
    · simp [c4]
    · by_cases c5 : k = 5
      · simp [c5]
      · simp [c4, c5]
  · simp [c]
theorem c_begin14 (hT : S8 t K R) {a b start sdw cy W : Nat} {hr : Nat → Nat} {d1 : Nat → Nat → Nat → Nat} {P : Im → Prop} (hq : ∀ z, WVcells q R z → z ≠ t ∧ z ≠ t + 1 ∧ z ≠ t + 2) (ha : (K a).1 = 2) (haD : a ≠ t ∧ a ≠ t + 1 ∧ a ≠ t + 2) (hb9 : b ≤ 9) : ∀ (p j : Nat) (I : Im), 5 - j < p → j ≤ 5 → WV q K I R W hr cy sdw d1 → I a 0 = nI b → I a 1 = nI start → (∀ i, i < j → I (t + 1) i = oI none ∧ I (t + 2) i = oI none) →
    (∀ I1, (∀ z, z ≠ t → z ≠ t + 1 → z ≠ t + 2 → I1 z = I z) → (I1 t 0 = I t 0 ∧ I1 t 1 = I t 1) → (∀ i, i < 5 → I1 (t + 1) i = oI none ∧ I1 (t + 2) i = oI none) → I1 t 6 = nI (b * cy) → I1 t 7 = nI (b * sdw) → P (twI t I1 start (b * cy))) → Ok (f_X8_begin_14 K R t p (some q) (some a) (nI j) I) P := by
  intro p
  induction p with
  | zero => intro j I h; omega
  | succ p ih =>
    intro j I hp hj hV h0 h1 hz kk
    obtain ⟨a1, a2, a3⟩ := haD
    have hqt := (hq q (Or.inl rfl)).1
    have hcy := hV.2.2.2.2.2.1
    have hsdw := hV.2.2.2.2.2.2.2.1
    have bcy : cy * b ≤ 99 * 9 := Nat.mul_le_mul hcy hb9
    have bsd : sdw * b ≤ 99 * 9 := Nat.mul_le_mul hsdw hb9
    have o9 : ob K 10 (some q) = some q := ob9 hV.1
    have o2 : ob K 2 (some a) = some a := ob_ok ha
    have q2 : I q 2 = nI cy := hV.2.2.2.2.1
    have q4 : I q 4 = nI sdw := hV.2.2.2.2.2.2.1
    unfold f_X8_begin_14
    by_cases e : j = 5
    · subst e
      have g := kk (u2 (u2 I t 6 (nI (cy * b))) t 7 (nI (sdw * b))) (fun z z1 z2 z3 => by rw [u2_row z1, u2_row z1]) ⟨by rw [u2_ne (by decide), u2_ne (by decide)], by rw [u2_ne (by decide), u2_ne (by decide)]⟩ (fun i hi => by rw [u2_row (by omega), u2_row (by omega), u2_row (by omega), u2_row (by omega)]; exact hz i hi) (by rw [u2_ne (by decide), u2_eq, Nat.mul_comm]) (by rw [u2_eq, Nat.mul_comm])
      rw [← tw_st, Nat.mul_comm b cy] at g
      (repeat (first | ((with_reducible apply Ok.st); (focus (first | (simp (disch := omega) only [L0, L1, L2, L3, L4, L5, L6, L7, L8, L9, L10, L11, L12, L13, L14, L15, L16, L17, L18, L19, L20, L21, L22, L23, L24, L25, L26, L27, L28, L29, L30, L31, L32, L33, L34, L35, L36, L37, L38, L39, L40, L48, L57, L59, L60, L62, L96, L97, L98, L99, L100, L104, L110, L119, L124, L500, L999, L1000, L2000, L3000, nI_add, pk_mul, pk_sub, nI_leI, nI_ltI, nI_eq, obs, u2_eq, u2_row, u2_ne, if_pos, if_neg, if_true, if_false, eq_self, ne_eq, not_true_eq_false, not_false_eq_true, o9, o2, h1, h0, q2, q4]; with_reducible exact rfl) | (with_reducible exact rfl)))) | ((with_reducible apply Ok.itT); (focus (simp (disch := omega) only [L0, L1, L2, L3, L4, L5, L6, L7, L8, L9, L10, L11, L12, L13, L14, L15, L16, L17, L18, L19, L20, L21, L22, L23, L24, L25, L26, L27, L28, L29, L30, L31, L32, L33, L34, L35, L36, L37, L38, L39, L40, L48, L57, L59, L60, L62, L96, L97, L98, L99, L100, L104, L110, L119, L124, L500, L999, L1000, L2000, L3000, nI_add, pk_mul, pk_sub, nI_leI, nI_ltI, nI_eq, obs, u2_eq, u2_row, u2_ne, if_pos, if_neg, if_true, if_false, eq_self, ne_eq, not_true_eq_false, not_false_eq_true, o9, o2, h1, h0, q2, q4] <;> omega))) | ((with_reducible apply Ok.itF); (focus (simp (disch := omega) only [L0, L1, L2, L3, L4, L5, L6, L7, L8, L9, L10, L11, L12, L13, L14, L15, L16, L17, L18, L19, L20, L21, L22, L23, L24, L25, L26, L27, L28, L29, L30, L31, L32, L33, L34, L35, L36, L37, L38, L39, L40, L48, L57, L59, L60, L62, L96, L97, L98, L99, L100, L104, L110, L119, L124, L500, L999, L1000, L2000, L3000, nI_add, pk_mul, pk_sub, nI_leI, nI_ltI, nI_eq, obs, u2_eq, u2_row, u2_ne, if_pos, if_neg, if_true, if_false, eq_self, ne_eq, not_true_eq_false, not_false_eq_true, o9, o2, h1, h0, q2, q4] <;> omega)))))
      exact Ok.ret g
    · have n5 : (-5 : Int32) = oI none := rfl
      have g := ih (j + 1) (u2 (u2 I (t + 1) j (oI none)) (t + 2) j (oI none)) (by omega) (by omega) (hV.congr (fun z hz => by obtain ⟨z1, z2, z3⟩ := hq z hz; rw [u2_row z3, u2_row z2])) (by rw [u2_row a3, u2_row a2]; exact h0) (by rw [u2_row a3, u2_row a2]; exact h1) (fun i hi => by
        by_cases c : i = j
        · subst c
          rw [u2_row (by omega), u2_eq, u2_eq]
          exact ⟨rfl, rfl⟩
        · rw [u2_row (by omega), u2_ne c, u2_ne c, u2_row (by omega)]
          exact hz i (by omega)) (fun I1 g1 g2 g3 g4 g5 => kk I1 (fun z z1 z2 z3 => by rw [g1 z z1 z2 z3, u2_row z3, u2_row z2]) (by rw [g2.1, g2.2, u2_row (by omega), u2_row (by omega)]; exact ⟨rfl, rfl⟩) g3 g4 g5)
      rw [n5]
      (repeat (first | ((with_reducible apply Ok.st); (focus (first | (simp (disch := omega) only [L0, L1, L2, L3, L4, L5, L6, L7, L8, L9, L10, L11, L12, L13, L14, L15, L16, L17, L18, L19, L20, L21, L22, L23, L24, L25, L26, L27, L28, L29, L30, L31, L32, L33, L34, L35, L36, L37, L38, L39, L40, L48, L57, L59, L60, L62, L96, L97, L98, L99, L100, L104, L110, L119, L124, L500, L999, L1000, L2000, L3000, nI_add, pk_mul, pk_sub, nI_leI, nI_ltI, nI_eq, obs, u2_eq, u2_row, u2_ne, if_pos, if_neg, if_true, if_false, eq_self, ne_eq, not_true_eq_false, not_false_eq_true, s8_2 hT, s8_3 hT]; with_reducible exact rfl) | (with_reducible exact rfl)))) | ((with_reducible apply Ok.itT); (focus (simp (disch := omega) only [L0, L1, L2, L3, L4, L5, L6, L7, L8, L9, L10, L11, L12, L13, L14, L15, L16, L17, L18, L19, L20, L21, L22, L23, L24, L25, L26, L27, L28, L29, L30, L31, L32, L33, L34, L35, L36, L37, L38, L39, L40, L48, L57, L59, L60, L62, L96, L97, L98, L99, L100, L104, L110, L119, L124, L500, L999, L1000, L2000, L3000, nI_add, pk_mul, pk_sub, nI_leI, nI_ltI, nI_eq, obs, u2_eq, u2_row, u2_ne, if_pos, if_neg, if_true, if_false, eq_self, ne_eq, not_true_eq_false, not_false_eq_true, s8_2 hT, s8_3 hT] <;> omega))) | ((with_reducible apply Ok.itF); (focus (simp (disch := omega) only [L0, L1, L2, L3, L4, L5, L6, L7, L8, L9, L10, L11, L12, L13, L14, L15, L16, L17, L18, L19, L20, L21, L22, L23, L24, L25, L26, L27, L28, L29, L30, L31, L32, L33, L34, L35, L36, L37, L38, L39, L40, L48, L57, L59, L60, L62, L96, L97, L98, L99, L100, L104, L110, L119, L124, L500, L999, L1000, L2000, L3000, nI_add, pk_mul, pk_sub, nI_leI, nI_ltI, nI_eq, obs, u2_eq, u2_row, u2_ne, if_pos, if_neg, if_true, if_false, eq_self, ne_eq, not_true_eq_false, not_false_eq_true, s8_2 hT, s8_3 hT] <;> omega)))))
      simp only [L1, nI_add]
      exact g
theorem c_make (hT : S8 t K R) (hS : S10 u K R) {a b start kind v sdw cy W M : Nat} {hr rw fu gi le la : Nat → Nat} {d1 : Nat → Nat → Nat → Nat} {x3 x4 : Option Nat} {P : Im → Prop} {I : Im} (hMb : M ≤ 800000) (hut : ∀ i, i < 5 → u + i ≠ t ∧ u + i ≠ t + 1 ∧ u + i ≠ t + 2) (hq : ∀ z, WVcells q R z → TD t u z) (ha : (K a).1 = 2) (haD : TD t u a) (hx3 : R a 2 = x3) (hb1 : 1 ≤ b) (hb9 : b ≤ 9) (hXD : ∀ z, (x4 = none ∧ x3 = some z) ∨ x4 = some z → TD t u z) (hrw : ∀ k, rw k ≤ 6) (hv6 : v ≤ 6)
    (hV : WV q K I R W hr cy sdw d1) (hX : StC K I R kind v rw x3 x4) (ha0 : I a 0 = nI b) (ha1 : I a 1 = nI start) (hst : start ≤ M)
    (hwl : ∀ j, j < W → I (u + 1) j = nI (fu j) ∧ fu j ≤ 99 ∧ I (u + 2) j = nI (gi j) ∧ gi j ≤ 99 ∧ I (u + 3) j = nI (le j) ∧ le j ≤ 99 ∧ I (u + 4) j = nI (la j) ∧ la j ≤ M)
    (kk : ∀ I1, (∀ z, TD t u z → I1 z = I z) → TripC t u W I1 (trN (fun k h => wayD (fun j => b * d1 b k j) h (hr k)) hr (b * sdw) (b * cy) kind v rw fu gi W 6 0 start (b * cy) le la (fun _ => none) (fun _ => none)) → P I1) :
    Ok (f_X8_make K R t (some q) (some u) (some a) x4 I) P := by
  have hq3 : ∀ z, WVcells q R z → z ≠ t ∧ z ≠ t + 1 ∧ z ≠ t + 2 := fun z hz => ⟨(hq z hz).1, (hq z hz).2.1, (hq z hz).2.2.1⟩
  have hW5 := hV.2.2.1
  obtain ⟨a1, a2, a3, a4, a5⟩ := haD
  have F0 : ∀ z, z ≠ t → u2 (u2 I t 0 (-5)) t 1 (-5) z = I z := fun z hz => by rw [u2_row hz, u2_row hz]
  unfold f_X8_make f_X8_begin
  rw [obs, obs, L0]
  refine Ok.bind (c_begin14 (P := fun I2 => ∃ I1, I2 = twI t I1 start (b * cy) ∧ (∀ z, z ≠ t → z ≠ t + 1 → z ≠ t + 2 → I1 z = I z) ∧ I1 t 0 = -5 ∧ I1 t 1 = -5 ∧ (∀ i, i < 5 → I1 (t + 1) i = oI none ∧ I1 (t + 2) i = oI none) ∧ I1 t 6 = nI (b * cy) ∧ I1 t 7 = nI (b * sdw)) hT hq3 ha ⟨a1, a2, a3⟩ hb9 FU 0 _ (FU_lt (by omega)) (by omega) (hV.congr (fun z hz => F0 z (hq3 z hz).1)) (by rw [F0 a a1]; exact ha0) (by rw [F0 a a1]; exact ha1) (fun i hi => by omega) (fun I1 g1 g2 g3 g4 g5 => ⟨I1, rfl, fun z z1 z2 z3 => (g1 z z1 z2 z3).trans (F0 z z1), ?_, ?_, g3, g4, g5⟩)) (fun I2 hI2 => ?_)
  · rw [g2.1, u2_ne (by decide), u2_eq]
  · rw [g2.2, u2_eq]
  · obtain ⟨I1, rfl, g1, g2, g3, g4, g5, g6⟩ := hI2
    have fr : ∀ z, TD t u z → I1 z = I z := fun z hz => g1 z hz.1 hz.2.1 hz.2.2.1
    have fu' : ∀ i, i < 5 → I1 (u + i) = I (u + i) := fun i hi => g1 _ (hut i hi).1 (hut i hi).2.1 (hut i hi).2.2
    refine c_make9 (M := M) hT hS hMb hut hq ha ⟨a1, a2, a3, a4, a5⟩ hx3 hb1 hb9 hXD hrw hv6 (fun k hk => ⟨(hwl k hk).2.1, (hwl k hk).2.2.2.1⟩) 6 0 FU start (b * cy) I1 le la (fun _ => none) (fun _ => none) (by omega) (FU_lt (by omega)) (by omega) (hV.congr (fun z hz => fr z (hq z hz))) (hX.congr (fun z hz => fr z (hXD z hz))) (by rw [fr a ⟨a1, a2, a3, a4, a5⟩]; exact ha0) (fun j hj => ?_) (fun j hj => ?_) g4 g2 g3 g5 g6 (by omega) (Nat.le_refl _) (fun I3 z1 z2 => kk I3 (fun z hz => (z1 z hz).trans (fr z hz)) (z2 _ rfl))
    · obtain ⟨w1, w2, w3, w4, w5, w6, w7, w8⟩ := hwl j hj
      rw [fu' 1 (by decide), fu' 2 (by decide)]
      exact ⟨w1, w3⟩
    · obtain ⟨w1, w2, w3, w4, w5, w6, w7, w8⟩ := hwl j hj
      rw [fu' 3 (by decide), fu' 4 (by decide)]
      exact ⟨w5, w6, w7, fun _ => w8⟩
end
