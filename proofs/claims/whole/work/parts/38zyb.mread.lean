/-! THE REFERENCE READS: bytes, words, numbers -/
def RMq (x : Nat) (tx : Nat → Int32) (len p : Nat) (K : Sh) (I : Im) (R : Rf) : Prop := S12 (x + 62) K R ∧ len ≤ 100 ∧ I (x + 62) 2 = nI len ∧ I (x + 62) 3 = nI p ∧ p ≤ len ∧ ∀ j, j < len → I (x + 63) j = tx j
/-- only the place and the number read have changed -/
def NMq (x : Nat) (I I1 : Im) : Prop := (∀ z, z ≠ x + 62 → I1 z = I z) ∧ ∀ k, k ≠ 3 → k ≠ 4 → I1 (x + 62) k = I (x + 62) k
def wdQ (kd : Nat) : Int32 × Nat := if kd = 0 then (759180, 4) else if kd = 1 then (23609, 3) else if kd = 2 then (4793803, 5) else if kd = 3 then (3197529, 5) else if kd = 4 then (408612, 4) else (20579780, 5)
section
variable {x p p' len d f i k n : Nat} {tx : Nat → Int32} {K : Sh} {I I1 I2 : Im} {R : Rf} {c : Int32}
theorem NMq.refl : NMq x I I := ⟨fun _ _ => rfl, fun _ _ _ => rfl⟩
theorem NMq.trans (h : NMq x I I1) (h2 : NMq x I1 I2) : NMq x I I2 := ⟨fun z a => (h2.1 z a).trans (h.1 z a), fun k a b => (h2.2 k a b).trans (h.2 k a b)⟩
theorem NMq.p3 {v : Int32} (h : NMq x I I1) : NMq x I (u2 I1 (x + 62) 3 v) := ⟨fun z a => by rw [u2_row a]; exact h.1 z a, fun k a b => by rw [u2_ne a]; exact h.2 k a b⟩
theorem NMq.p4 {v : Int32} (h : NMq x I I1) : NMq x I (u2 I1 (x + 62) 4 v) := ⟨fun z a => by rw [u2_row a]; exact h.1 z a, fun k a b => by rw [u2_ne b]; exact h.2 k a b⟩
theorem RMq.nm (h : RMq x tx len p K I R) (hN : NMq x I I1) (h3 : I1 (x + 62) 3 = nI p') (hp : p' ≤ len) : RMq x tx len p' K I1 R := ⟨h.1, h.2.1, by rw [hN.2 2 (by omega) (by omega)]; exact h.2.2.1, h3, hp, fun j hj => by rw [hN.1 _ (by omega)]; exact h.2.2.2.2.2 j hj⟩
theorem r_next (h : RMq x tx len p K I R) : f_X12_next K I R (x + 62) = some (qNx tx len p) := by
  obtain ⟨h1, h2, h3, h4, h5, h6⟩ := h
  unfold f_X12_next qNx
  rw [h3, h4]
  by_cases q : p < len
  · rw [if_neg (by rw [nI_leI (by omega) (by omega)]; omega), l12_5 h1 (by omega), obs, if_pos q]
    exact congrArg some (h6 p q)
  · rw [if_pos (by rw [nI_leI (by omega) (by omega)]; omega), if_neg q]
theorem r_second (h : RMq x tx len p K I R) : f_X12_second K I R (x + 62) = some (qNx tx len (p + 1)) := by
  obtain ⟨h1, h2, h3, h4, h5, h6⟩ := h
  unfold f_X12_second qNx
  rw [h3, h4, L1, nI_add]
  by_cases q : p + 1 < len
  · rw [if_neg (by rw [nI_leI (by omega) (by omega)]; omega), l12_5 h1 (by omega), obs, if_pos q]
    exact congrArg some (h6 _ q)
  · rw [if_pos (by rw [nI_leI (by omega) (by omega)]; omega), if_neg q]
theorem r_takes (h : RMq x tx len p K I R) (hc : c ≠ -1) : (qNx tx len p = c ∧ f_X12_takes K R (x + 62) c I = some (nI 1, u2 I (x + 62) 3 (nI (p + 1))) ∧ RMq x tx len (p + 1) K (u2 I (x + 62) 3 (nI (p + 1))) R) ∨ (qNx tx len p ≠ c ∧ f_X12_takes K R (x + 62) c I = some (nI 0, I)) := by
  unfold f_X12_takes
  rw [r_next h, obs]
  by_cases q : qNx tx len p = c
  · have lt := qNx_lt q hc
    refine Or.inl ⟨q, ?_, h.nm NMq.refl.p3 (u2_eq _ _ _ _) lt⟩
    rw [if_pos q, h.2.2.2.1, L1, nI_add, obs]
  · exact Or.inr ⟨q, by rw [if_neg q]; rfl⟩
theorem wdQ_c : ∀ kd, kd < 6 → ∀ j, j < (wdQ kd).2 → (96 : Int32) + ((ishr (wdQ kd).1 (5 * nI j)) &&& 31) = nI ((sTxt (qWi kd)).getD ((wdQ kd).2 - 1 - j) 0) := by decide
theorem wdQ_l : ∀ kd, kd < 6 → (wdQ kd).2 = (sTxt (qWi kd)).length := by decide
theorem r_word4 {kd : Nat} (hk : kd < 6) : ∀ (l : List Nat) (m p f : Nat) (I : Im), RMq x tx len p K I R → m ≤ (wdQ kd).2 → (sTxt (qWi kd)).drop ((wdQ kd).2 - m) = l → m < f → ∃ I1, f_X12_takesWord_4 K R (x + 62) f (wdQ kd).1 (jI ((m : Int) - 1)) I = some (bI (qW tx len (l ++ [32]) p).1, I1) ∧ NMq x I I1 ∧ I1 (x + 62) 3 = nI (qW tx len (l ++ [32]) p).2 := by
  have nn : ∀ c, c < 128 → nI c ≠ -1 := by decide
  have h5 : ∀ kd, kd < 6 → (wdQ kd).2 ≤ 5 := by decide
  have h5' := h5 kd hk
  intro l
  induction l with
  | nil =>
    intro m p f I h hm hl hf
    obtain ⟨f, rfl⟩ : ∃ f', f = f' + 1 := ⟨f - 1, by omega⟩
    have hlen := List.drop_eq_nil_iff.mp hl
    rw [← wdQ_l kd hk] at hlen
    have hpos : ∀ kd, kd < 6 → 0 < (wdQ kd).2 := by decide
    have hp := hpos kd hk
    have : m = 0 := by omega
    subst this
    unfold f_X12_takesWord_4
    rw [if_pos (show jI (((0 : Nat) : Int) - 1) < 0 by decide)]
    unfold qW
    rcases r_takes h (c := 32) (by decide) with ⟨q1, q2, q3⟩ | ⟨q1, q2⟩
    · refine ⟨u2 I (x + 62) 3 (nI (p + 1)), ?_, NMq.refl.p3, ?_⟩
      · show Option.bind (f_X12_takes K R (x + 62) 32 I) _ = some (bI (if qNx tx len p = nI 32 then qW tx len [] (p + 1) else (false, p)).1, _)
        rw [q2, obs, if_pos (show qNx tx len p = nI 32 from q1)]
        dsimp only
        rw [if_pos (show nI 1 &&& 1 = nI 1 by decide)]
        rfl
      · show _ = nI (if qNx tx len p = nI 32 then qW tx len [] (p + 1) else (false, p)).2
        rw [if_pos (show qNx tx len p = nI 32 from q1)]
        exact u2_eq _ _ _ _
    · refine ⟨I, ?_, NMq.refl, ?_⟩
      · show Option.bind (f_X12_takes K R (x + 62) 32 I) _ = some (bI (if qNx tx len p = nI 32 then qW tx len [] (p + 1) else (false, p)).1, _)
        rw [q2, obs, if_neg (show ¬ qNx tx len p = nI 32 from q1)]
        dsimp only
        rw [if_pos (show nI 0 &&& 1 = nI 0 by decide)]
        rfl
      · show _ = nI (if qNx tx len p = nI 32 then qW tx len [] (p + 1) else (false, p)).2
        rw [if_neg (show ¬ qNx tx len p = nI 32 from q1)]
        exact h.2.2.2.1
  | cons c l ih =>
    intro m p f I h hm hl hf
    obtain ⟨f, rfl⟩ : ∃ f', f = f' + 1 := ⟨f - 1, by omega⟩
    have hj : (wdQ kd).2 - m < (sTxt (qWi kd)).length := by
      by_cases q : (wdQ kd).2 - m < (sTxt (qWi kd)).length
      · exact q
      · rw [List.drop_eq_nil_iff.mpr (by omega)] at hl
        cases hl
    have hll := wdQ_l kd hk
    obtain ⟨m, rfl⟩ : ∃ m', m = m' + 1 := ⟨m - 1, by omega⟩
    have hd := List.drop_eq_getElem_cons hj
    rw [hl] at hd
    obtain ⟨hd1, hd2⟩ := List.cons.inj hd
    have hg : (sTxt (qWi kd)).getD ((wdQ kd).2 - 1 - m) 0 = c := by
      rw [show (wdQ kd).2 - 1 - m = (wdQ kd).2 - (m + 1) by omega, List.getD_eq_getElem?_getD, List.getElem?_eq_getElem hj, hd1]
      rfl
    have hc : c ≤ 127 := sTxt_le _ (qWi_lt kd) c (by rw [hd1]; simp)
    have e := wdQ_c kd hk m (by omega)
    rw [hg] at e
    unfold f_X12_takesWord_4
    rw [down1, if_neg (show ¬ nI m < 0 by rw [L0, nI_ltI (by omega) (by omega)]; omega), e]
    show ∃ I1, Option.bind (f_X12_takes K R (x + 62) (nI c) I) _ = some (bI (qW tx len (c :: (l ++ [32])) p).1, I1) ∧ NMq x I I1 ∧ I1 (x + 62) 3 = nI (qW tx len (c :: (l ++ [32])) p).2
    unfold qW
    rcases r_takes h (c := nI c) (nn c (by omega)) with ⟨q1, q2, q3⟩ | ⟨q1, q2⟩
    · rw [q2, obs, if_pos q1, if_neg (show ¬ nI 1 = 0 by decide), down2]
      obtain ⟨I1, a1, a2, a3⟩ := ih m (p + 1) f (u2 I (x + 62) 3 (nI (p + 1))) q3 (by omega) (by rw [hd2]; congr 1; omega) (by omega)
      exact ⟨I1, a1, NMq.refl.p3.trans a2, a3⟩
    · rw [q2, obs, if_neg q1, if_pos (show nI 0 = 0 from rfl)]
      exact ⟨I, rfl, NMq.refl, h.2.2.2.1⟩
theorem r_word (h : RMq x tx len p K I R) {kd : Nat} (hk : kd < 6) : ∃ I1, f_X12_takesWord K R (x + 62) (wdQ kd).1 (nI (wdQ kd).2) I = some (bI (qW tx len (sTxt (qWi kd) ++ [32]) p).1, I1) ∧ NMq x I I1 ∧ I1 (x + 62) 3 = nI (qW tx len (sTxt (qWi kd) ++ [32]) p).2 := by
  have h5 : ∀ kd, kd < 6 → (wdQ kd).2 ≤ 5 := by decide
  have := h5 kd hk
  have g := r_word4 hk (sTxt (qWi kd)) (wdQ kd).2 p FU I h (Nat.le_refl _) (by rw [Nat.sub_self]; rfl) (FU_lt (by omega))
  unfold f_X12_takesWord
  rw [down2]
  exact g
theorem r_digit (h : RMq x tx len p K I R) : f_X12_isDigit K I R (x + 62) = some (bI (qDg (qNx tx len p)).isSome) := by
  unfold f_X12_isDigit f_X12_in
  rw [r_next h, obs]
  cases q : qDg (qNx tx len p) with
  | none =>
    rcases qDg_none q with e | e
    · rw [if_pos e]; rfl
    · by_cases e2 : qNx tx len p < 48
      · rw [if_pos e2]; rfl
      · rw [if_neg e2, if_pos e]; rfl
  | some a =>
    obtain ⟨d1, d2, d3, d4⟩ := dg_in q
    rw [if_neg d1, if_neg d2]
    rfl
theorem dg_val2 {a v : Nat} : 10 * nI v + nI (48 + a) - 48 = nI (10 * v + a) := by
  rw [L10, pk_mul, nI_add, L48, pk_sub (by omega), show 10 * v + (48 + a) - 48 = 10 * v + a by omega]
/-- a digit more -/
theorem r_num16 (h : RMq x tx len p K I R) {v a mx j : Nat} (hv : I (x + 62) 4 = nI v) (hq : qDg (qNx tx len p) = some a) (hj : j < mx) (hmx : mx ≤ 2) : f_X12_takesNumber_16 K R (x + 62) (f + 1) (nI mx) (nI j) I = f_X12_takesNumber_16 K R (x + 62) f (nI mx) (nI (j + 1)) (u2 (u2 I (x + 62) 4 (nI (10 * v + a))) (x + 62) 3 (nI (p + 1))) := by
  obtain ⟨d1, d2, d3, d4⟩ := dg_in hq
  rw [f_X12_takesNumber_16, if_neg (by rw [nI_leI (by omega) (by omega)]; omega), r_digit h, obs, hq, if_neg (show ¬ bI (some a : Option Nat).isSome = 0 by show ¬ bI true = 0; decide), r_next h, obs, hv, d3, dg_val2, obs, obs, u2_ne (by omega), h.2.2.2.1, L1, nI_add, nI_add]
theorem r_num16e (h : RMq x tx len p K I R) {mx j : Nat} (hmx : mx ≤ 2) (hj : j ≤ 2) (hq : mx ≤ j ∨ qDg (qNx tx len p) = none) : f_X12_takesNumber_16 K R (x + 62) (f + 1) (nI mx) (nI j) I = some (nI 1, I) := by
  rw [f_X12_takesNumber_16]
  by_cases c : mx ≤ j
  · rw [if_pos (by rw [nI_leI (by omega) (by omega)]; exact c)]
    rfl
  · rcases hq with hq | hq
    · exact absurd hq c
    · rw [if_neg (by rw [nI_leI (by omega) (by omega)]; exact c), r_digit h, obs, hq, if_pos (show bI (none : Option Nat).isSome = 0 from rfl)]
      rfl
theorem r_num_none (h : RMq x tx len p K I R) {mx : Int32} (hq : qDg (qNx tx len p) = none) : f_X12_takesNumber K R (x + 62) mx I = some (nI 0, I) := by
  unfold f_X12_takesNumber
  rw [r_digit h, obs, hq, if_pos (show bI (none : Option Nat).isSome = 0 from rfl)]
  rfl
theorem r_num1 (h : RMq x tx len p K I R) : ∃ I1, f_X12_takesNumber K R (x + 62) 1 I = some (bI (qN1 tx len p).1.isSome, I1) ∧ NMq x I I1 ∧ I1 (x + 62) 3 = nI (qN1 tx len p).2 ∧ ∀ a, (qN1 tx len p).1 = some a → I1 (x + 62) 4 = nI a := by
  unfold qN1
  cases q : qDg (qNx tx len p) with
  | none => exact ⟨I, r_num_none h q, NMq.refl, h.2.2.2.1, fun a z => by cases z⟩
  | some a =>
    obtain ⟨lt, -, -⟩ := qDg_lt q
    obtain ⟨f, hf⟩ : ∃ f, FU = f + 1 + 1 := ⟨FU - 2, by have := FU_lt (n := 5) (by omega); omega⟩
    have N0 : NMq x I (u2 I (x + 62) 4 0) := NMq.refl.p4
    have h0 := h.nm N0 (by rw [u2_ne (by omega)]; exact h.2.2.2.1) h.2.2.2.2.1
    have s1 := r_num16 (f := f + 1) (mx := 1) (j := 0) (v := 0) h0 (u2_eq _ _ _ _) q (by omega) (by omega)
    have N1 := N0.p4 (v := nI (10 * 0 + a)) |>.p3 (v := nI (p + 1))
    have h1 := h.nm N1 (u2_eq _ _ _ _) (show p + 1 ≤ len by omega)
    have s2 := r_num16e (f := f) (mx := 1) (j := 1) h1 (by omega) (by omega) (Or.inl (Nat.le_refl _))
    refine ⟨_, ?_, N1, u2_eq _ _ _ _, fun b z => ?_⟩
    · unfold f_X12_takesNumber
      rw [r_digit h, obs, q, if_neg (show ¬ bI (some a : Option Nat).isSome = 0 by show ¬ bI true = 0; decide), obs, hf, L1, show (0 : Int32) = nI 0 from rfl]
      exact s1.trans s2
    · cases z
      rw [u2_ne (by omega), u2_eq, show 10 * 0 + a = a by omega]
theorem r_num2 (h : RMq x tx len p K I R) : ∃ I1, f_X12_takesNumber K R (x + 62) 2 I = some (bI (qN2 tx len p).1.isSome, I1) ∧ NMq x I I1 ∧ I1 (x + 62) 3 = nI (qN2 tx len p).2 ∧ ∀ a, (qN2 tx len p).1 = some a → I1 (x + 62) 4 = nI a := by
  unfold qN2
  cases q : qDg (qNx tx len p) with
  | none => exact ⟨I, r_num_none h q, NMq.refl, h.2.2.2.1, fun a z => by cases z⟩
  | some a =>
    obtain ⟨lt, -, -⟩ := qDg_lt q
    obtain ⟨f, hf⟩ : ∃ f, FU = f + 1 + 1 + 1 := ⟨FU - 3, by have := FU_lt (n := 5) (by omega); omega⟩
    have N0 : NMq x I (u2 I (x + 62) 4 0) := NMq.refl.p4
    have h0 := h.nm N0 (by rw [u2_ne (by omega)]; exact h.2.2.2.1) h.2.2.2.2.1
    have s1 := r_num16 (f := f + 1 + 1) (mx := 2) (j := 0) (v := 0) h0 (u2_eq _ _ _ _) q (by omega) (by omega)
    have N1 := N0.p4 (v := nI (10 * 0 + a)) |>.p3 (v := nI (p + 1))
    have h1 := h.nm N1 (u2_eq _ _ _ _) (show p + 1 ≤ len by omega)
    have st : ∀ J res, f_X12_takesNumber_16 K R (x + 62) (f + 1 + 1) (nI 2) (nI (0 + 1)) (u2 (u2 (u2 I (x + 62) 4 0) (x + 62) 4 (nI (10 * 0 + a))) (x + 62) 3 (nI (p + 1))) = some (res, J) → f_X12_takesNumber K R (x + 62) 2 I = some (res, J) := fun J res hh => by
      unfold f_X12_takesNumber
      rw [r_digit h, obs, q, if_neg (show ¬ bI (some a : Option Nat).isSome = 0 by show ¬ bI true = 0; decide), obs, hf, L2, show (0 : Int32) = nI 0 from rfl]
      exact s1.trans hh
    dsimp only
    cases q2 : qDg (qNx tx len (p + 1)) with
    | none =>
      have s2 := r_num16e (f := f + 1) (mx := 2) (j := 0 + 1) h1 (by omega) (by omega) (Or.inr q2)
      exact ⟨_, st _ _ s2, N1, u2_eq _ _ _ _, fun b z => by cases z; rw [u2_ne (by omega), u2_eq, show 10 * 0 + a = a by omega]⟩
    | some b =>
      obtain ⟨lt2, -, -⟩ := qDg_lt q2
      have s2 := r_num16 (f := f + 1) (mx := 2) (j := 0 + 1) (v := 10 * 0 + a) h1 (by rw [u2_ne (by omega), u2_eq]) q2 (by omega) (by omega)
      have N2 := N1.p4 (v := nI (10 * (10 * 0 + a) + b)) |>.p3 (v := nI (p + 1 + 1))
      have h2 := h.nm N2 (u2_eq _ _ _ _) (show p + 1 + 1 ≤ len by omega)
      have s3 := r_num16e (f := f) (mx := 2) (j := 0 + 1 + 1) h2 (by omega) (by omega) (Or.inl (by omega))
      exact ⟨_, st _ _ (s2.trans s3), N2, u2_eq _ _ _ _, fun b' z => by cases z; rw [u2_ne (by omega), u2_eq, show 10 * (10 * 0 + a) + b = 10 * a + b by omega]⟩
end
