section
variable {Z : Nat → Nat} {x n M nr nc NW i q N : Nat} {K : Sh} {I I1 : Im} {J : Jm} {R R1 : Rf} {w c d le la : Nat → Nat} {cs : Nat → List Nat}
theorem isTape_eq (v : Int32) : (∃ t, v = nI t ∧ t < 6 ∧ ¬ (v < 0) ∧ ¬ ((6 : Int32) ≤ v) ∧ ∀ o, f_X12_isTape K o v = some (nI 1)) ∨ ((v < 0 ∨ (¬ (v < 0) ∧ (6 : Int32) ≤ v)) ∧ ∀ o, f_X12_isTape K o v = some (nI 0)) := by
  have e5 : (5 : Int32) = nI 6 - nI 1 := by decide
  unfold f_X12_isTape
  rw [e5]
  rcases at_lt v 6 (by omega) with ⟨k, q1, q2, q3, q4, q5⟩ | ⟨q1, q2⟩
  · exact Or.inl ⟨k, q1, q2, q3, q4, fun o => by rw [L0, q5, obs, one_and]; rfl⟩
  · exact Or.inr ⟨q1, fun o => by rw [L0, q2, obs, zero_and]; rfl⟩
theorem tape_at (hC : CSH x K R) (v : Int32) : (∃ t, v = nI t ∧ t < 6 ∧ f_X11_tapeAt K R x v = some (some (x + (50 + 2 * t))) ∧ ∀ o, f_X12_isTape K o v = some (nI 1)) ∨ (f_X11_tapeAt K R x v = some none ∧ ∀ o, f_X12_isTape K o v = some (nI 0)) := by
  unfold f_X11_tapeAt
  rcases isTape_eq (K := K) v with ⟨t, q1, q2, q3, q4, q5⟩ | ⟨q1, q2⟩
  · refine Or.inl ⟨t, q1, q2, ?_, q5⟩
    rw [if_neg q3, if_neg q4, q1, l11_10 (cS11 hC) q2, obs, cTape hC q2]
  · refine Or.inr ⟨?_, q2⟩
    rcases q1 with q1 | ⟨q1, q3⟩
    · rw [if_pos q1]
    · rw [if_neg q1, if_pos q3]
theorem isPl {a ln : Nat} {i : Int32} (h : I a 1 = nI ln) (hl : ln ≤ 60) : f_X7_isPlace K I a i = some (bI (decide (0 ≤ i.toInt ∧ i.toInt < ln))) := by
  have hv := j_of i
  have b1 := Int32.le_toInt i
  have b2 := Int32.toInt_lt i
  generalize hz : i.toInt = z at hv b1 b2 ⊢
  have c1 : i < 0 ↔ z < 0 := by rw [hv, show (0 : Int32) = jI 0 from rfl, jlt (by omega) (by omega)]
  have c2 : nI ln ≤ i ↔ (ln : Int) ≤ z := by rw [hv, nI_jI, jle (by omega) (by omega)]
  unfold f_X7_isPlace
  rw [h]
  by_cases q1 : z < 0
  · rw [if_pos (c1.mpr q1), decide_eq_false (by omega)]; rfl
  · rw [if_neg (fun e => q1 (c1.mp e))]
    by_cases q2 : (ln : Int) ≤ z
    · rw [if_pos (c2.mpr q2), decide_eq_false (by omega)]; rfl
    · rw [if_neg (fun e => q2 (c2.mp e)), decide_eq_true (by omega)]; rfl
/-- what a tape tells from a place on -/
def plT (ln : Nat) (z : Int) (k : Nat) : Bool := decide (0 ≤ z ∧ z < ln ∧ z + k < ln)
def tlT (ln : Nat) (z : Int) (Jr : Nat → Int64) (k : Nat) : Option Nat := if plT ln z k = true ∧ 0 ≤ (Jr (z.toNat + k)).toInt ∧ (Jr (z.toNat + k)).toInt ≤ 6 then some (Jr (z.toNat + k)).toInt.toNat else none
theorem tlT_le {ln : Nat} {z : Int} {Jr : Nat → Int64} {k m : Nat} (h : tlT ln z Jr k = some m) : m ≤ 6 ∧ plT ln z k = true ∧ Jr (z.toNat + k) = lI m := by
  unfold tlT at h
  split at h
  · rename_i c
    have e : (Jr (z.toNat + k)).toInt.toNat = m := Option.some.inj h
    refine ⟨by omega, c.1, ?_⟩
    apply Int64.toInt_inj.1
    rw [lI_toInt (by omega)]
    omega
  · cases h
theorem lg0 (v : Int64) : lg_cmp v 0 < 0 ↔ v.toInt < 0 := by
  rw [lg_cmp_lt, Int64.lt_iff_toInt_lt]
  rfl
theorem lg6 (v : Int64) : lg_cmp v 6 ≤ 0 ↔ v.toInt ≤ 6 := by
  rw [lg_cmp_le, Int64.le_iff_toInt_le]
  rfl
theorem lg6' (v : Int64) : 0 < lg_cmp v 6 ↔ 6 < v.toInt := by
  rw [lg_cmp_gt, Int64.lt_iff_toInt_lt]
  rfl
theorem tellM_of {t ln W : Nat} {so i : Int32} (hW : W ≤ 5) (hl : ln ≤ 60) (hso : so = -1 ∨ ∃ s, s ≤ 4 ∧ so = nI s) (h0 : so = -1 → ln = 0) (Jm : Nat → Int64) (Jc : Nat → Int64) (hJ : ∀ k, k < 60 → Jc k = Jm (60 * t + k)) : TellM so i ln t Jm W (plT ln i.toInt) (tlT ln i.toInt Jc) := by
  have hv := j_of i
  have b1 := Int32.le_toInt i
  have b2 := Int32.toInt_lt i
  generalize hz : i.toInt = z at hv b1 b2 ⊢
  have c1 : i < 0 ↔ z < 0 := by rw [hv, show (0 : Int32) = jI 0 from rfl, jlt (by omega) (by omega)]
  intro k hk
  have c2 : i ≤ (nI ln - nI k) - 1 ↔ z ≤ (ln : Int) - k - 1 := by rw [hv, nI_jI, nI_jI, jsub, show (1 : Int32) = jI 1 from rfl, jsub, jle (by omega) (by omega)]
  refine ⟨fun hp => ?_, fun hp => ?_⟩
  · have hp' := of_decide_eq_false hp
    refine ⟨?_, ?_⟩
    · by_cases q1 : z < 0
      · exact Or.inr (Or.inl (c1.mpr q1))
      · exact Or.inr (Or.inr (fun e => by have := c2.mp e; omega))
    · unfold tlT
      rw [if_neg (fun e => by rw [hp] at e; exact absurd e.1 (by decide))]
  · have hp' := of_decide_eq_true hp
    have hz0 : z = (z.toNat : Int) := by omega
    refine ⟨?_, fun e => by have := c1.mp e; omega, c2.mpr (by omega), z.toNat, by rw [hv, nI_jI, ← hz0], by omega, ?_⟩
    · rcases hso with e | ⟨s, e1, e2⟩
      · have := h0 e; omega
      · rw [e2, L0, nI_ltI (by omega) (by omega)]; omega
    · rw [← hJ _ (by omega)]
      cases ht : tlT ln z Jc k with
      | some m => exact ⟨(tlT_le ht).2.2, (tlT_le ht).1⟩
      | none =>
        unfold tlT at ht
        split at ht
        · cases ht
        · rename_i cc
          show lg_cmp (Jc (z.toNat + k)) 0 < 0 ∨ (¬ (lg_cmp (Jc (z.toNat + k)) 0 < 0) ∧ ¬ (lg_cmp (Jc (z.toNat + k)) 6 ≤ 0))
          rw [lg0, lg6]
          by_cases q1 : (Jc (z.toNat + k)).toInt < 0
          · exact Or.inl q1
          · exact Or.inr ⟨q1, fun q2 => cc ⟨hp, by omega, q2⟩⟩
/-- the row as it is copied -/
def rwT (g : Nat) (tell : Nat → Option Nat) (k : Nat) : Nat := if k < g then (tell k).getD 0 else 0
set_option maxHeartbeats 1000000 in
theorem c_copy39 (hC : CSH x K R) {t ln W : Nat} {i : Int32} (ht : t < 6) (hW : W ≤ 5) (hl : ln ≤ 60) {P : Int32 × Im → Prop} (hz0 : 0 ≤ i.toInt ∧ i.toInt < ln) : ∀ (m k f : Nat) (I : Im), k + m = W → m < f → k ≤ gdN (tlT ln i.toInt (J (x + (50 + 2 * t) + 1))) W 0 → I (x + (50 + 2 * t)) 1 = nI ln → (∀ j, j < 5 → I (x + 49) j = nI (if j < k then rwT (gdN (tlT ln i.toInt (J (x + (50 + 2 * t) + 1))) W 0) (tlT ln i.toInt (J (x + (50 + 2 * t) + 1))) j else 0)) →
    (∀ I1, (∀ z, z ≠ x + 49 → I1 z = I z) → (∀ j, j < 5 → I1 (x + 49) j = nI (rwT (gdN (tlT ln i.toInt (J (x + (50 + 2 * t) + 1))) W 0) (tlT ln i.toInt (J (x + (50 + 2 * t) + 1))) j)) → P (nI (gdN (tlT ln i.toInt (J (x + (50 + 2 * t) + 1))) W 0), I1)) →
    Ok (f_X11_copyStands_39 K J R x f (some (x + (50 + 2 * t))) i (nI W) (nI k) (nI k) I) P := by
  obtain ⟨-, gs2, gs3, gs4⟩ := gdN_spec (tell := tlT ln i.toInt (J (x + (50 + 2 * t) + 1))) W 0
  generalize hg : gdN (tlT ln i.toInt (J (x + (50 + 2 * t) + 1))) W 0 = g at gs2 gs3 gs4 ⊢
  have hi : i = nI i.toInt.toNat := j_nat hz0.1
  have hS7 := cS7 hC ht
  intro m
  induction m with
  | zero =>
    intro k f I hk hf hkg h1 hrow kk
    obtain ⟨f, rfl⟩ : ∃ f', f = f' + 1 := ⟨f - 1, by omega⟩
    have e : k = W := by omega
    have eg : g = W := by omega
    unfold f_X11_copyStands_39
    rw [if_pos (by rw [e]; exact Int32.le_refl _)]
    have z := kk I (fun _ _ => rfl) (fun j hj => by
      rw [hrow j hj]
      by_cases cj : j < k
      · rw [if_pos cj]
      · rw [if_neg cj]; unfold rwT; rw [if_neg (by omega)])
    rw [show g = k by omega] at z
    exact Ok.ret z
  | succ m ih =>
    intro k f I hk hf hkg h1 hrow kk
    obtain ⟨f, rfl⟩ : ∃ f', f = f' + 1 := ⟨f - 1, by omega⟩
    obtain ⟨p, hp⟩ : ∃ p, i.toInt.toNat = p := ⟨_, rfl⟩
    have hpz : i.toInt = (p : Int) := by omega
    rw [hp] at hi
    have hik : i + nI k = nI (p + k) := by rw [hi, nI_add]
    have ip := isPl (K := K) (I := I) (a := x + (50 + 2 * t)) (i := nI (p + k)) h1 hl
    have e1 : (nI (p + k)).toInt = ((p + k : Nat) : Int) := nI_toInt (by omega)
    rw [e1] at ip
    have o8 : ob K 8 (some (x + (50 + 2 * t))) = some (x + (50 + 2 * t)) := ob7 hS7
    -- stop here
    have stop : g = k → Ok (f_X11_copyStands_39 K J R x f (some (x + (50 + 2 * t))) i (nI W) (nI k) (nI k + 1) I) P := by
      intro e
      obtain ⟨f, rfl⟩ : ∃ f', f = f' + 1 := ⟨f - 1, by omega⟩
      have z := kk I (fun _ _ => rfl) (fun j hj => by
        rw [hrow j hj]
        by_cases cj : j < k
        · rw [if_pos cj]
        · rw [if_neg cj]; unfold rwT; rw [if_neg (by omega)])
      rw [e] at z
      unfold f_X11_copyStands_39
      rw [L1, nI_add]
      by_cases c : W ≤ k + 1
      · rw [if_pos (by rw [nI_leI (by omega) (by omega)]; exact c)]; exact Ok.ret z
      · rw [if_neg (by rw [nI_leI (by omega) (by omega)]; exact c), if_neg (by rw [nI_eq (by omega) (by omega)]; omega)]; exact Ok.ret z
    have gk : tlT ln i.toInt (J (x + (50 + 2 * t) + 1)) k = none → g = k := fun hn => by
      by_cases cg : k < g
      · obtain ⟨y, hy⟩ := gs3 k (Nat.zero_le _) cg
        rw [hn] at hy
        cases hy
      · omega
    unfold f_X11_copyStands_39
    rw [if_neg (by rw [nI_leI (by omega) (by omega)]; omega), if_pos rfl, o8, obs, hik, ip, obs]
    by_cases cp : p + k < ln
    · rw [decide_eq_true (by omega), if_neg (show ¬ (bI true = 0) by decide), l7_2 hS7 (by omega), obs]
      have hpl : plT ln i.toInt k = true := by unfold plT; rw [hpz]; exact decide_eq_true (by omega)
      by_cases c0 : (J (x + (50 + 2 * t) + 1) (p + k)).toInt < 0
      · rw [if_pos ((lg0 _).mpr c0)]
        refine stop (gk ?_)
        unfold tlT
        rw [hp, if_neg (fun e => by omega)]
      · rw [if_neg (fun e => c0 ((lg0 _).mp e)), obs]
        by_cases c6 : 6 < (J (x + (50 + 2 * t) + 1) (p + k)).toInt
        · rw [if_pos ((lg6' _).mpr c6)]
          refine stop (gk ?_)
          unfold tlT
          rw [hp, if_neg (fun e => by omega)]
        · rw [if_neg (fun e => c6 ((lg6' _).mp e)), obs]
          have ht' : tlT ln i.toInt (J (x + (50 + 2 * t) + 1)) k = some (J (x + (50 + 2 * t) + 1) (p + k)).toInt.toNat := by
            unfold tlT
            rw [hp, if_pos ⟨hpl, by omega, by omega⟩]
          obtain ⟨n1, n2, n3⟩ := tlT_le ht'
          rw [hp] at n3
          generalize (J (x + (50 + 2 * t) + 1) (p + k)).toInt.toNat = v at ht' n1 n3
          have nJ : (lI v).toInt32 = nI v := by
            rcases (by omega : v = 0 ∨ v = 1 ∨ v = 2 ∨ v = 3 ∨ v = 4 ∨ v = 5 ∨ v = 6) with z | z | z | z | z | z | z <;> subst z <;> decide
          have hkg' : k < g := by
            by_cases cg : k < g
            · exact cg
            · have := gs4 (by omega)
              rw [show g = k by omega, ht'] at this
              cases this
          rw [n3, nJ, s11_18 (cS11 hC) (by omega), obs, L1, nI_add]
          refine ih (k + 1) f _ (by omega) (by omega) (by omega) (by rw [u2_row (by omega)]; exact h1) (fun j hj => ?_) (fun I1 g1 g2 => kk I1 (fun z hz => by rw [g1 z hz, u2_row hz]) g2)
          by_cases cj : j = k
          · subst cj
            rw [u2_eq, if_pos (by omega)]
            unfold rwT
            rw [if_pos hkg', ht']
            rfl
          · rw [u2_ne cj, hrow j hj]
            by_cases c1 : j < k
            · rw [if_pos c1, if_pos (by omega)]
            · rw [if_neg c1, if_neg (by omega)]
    · rw [decide_eq_false (by omega), if_pos (show bI false = 0 from rfl)]
      refine stop (gk ?_)
      unfold tlT plT
      rw [if_neg (fun e => by have := of_decide_eq_true e.1; omega)]
theorem c_copy3 (hC : CSH x K R) {t ln W : Nat} {i : Int32} (ht : t < 6) (hW : W ≤ 5) (hl : ln ≤ 60) {P : Int32 × Im → Prop} : ∀ (m k f : Nat) (I : Im), k + m = 5 → m < f → I (x + (50 + 2 * t)) 1 = nI ln → (∀ j, j < k → I (x + 49) j = nI 0) →
    (∀ I1, (∀ z, z ≠ x + 49 → I1 z = I z) → (∀ j, j < 5 → I1 (x + 49) j = nI (rwT (gdN (tlT ln i.toInt (J (x + (50 + 2 * t) + 1))) W 0) (tlT ln i.toInt (J (x + (50 + 2 * t) + 1))) j)) → P (nI (gdN (tlT ln i.toInt (J (x + (50 + 2 * t) + 1))) W 0), I1)) →
    Ok (f_X11_copyStands_3 K J R x f (some (x + (50 + 2 * t))) i (nI W) (nI k) I) P := by
  intro m
  induction m with
  | zero =>
    intro k f I hk hf h1 hrow kk
    obtain ⟨f, rfl⟩ : ∃ f', f = f' + 1 := ⟨f - 1, by omega⟩
    have : k = 5 := by omega
    subst this
    have o8 : ob K 8 (some (x + (50 + 2 * t))) = some (x + (50 + 2 * t)) := ob7 (cS7 hC ht)
    unfold f_X11_copyStands_3
    rw [if_pos (by decide), o8, obs, isPl h1 hl, obs]
    by_cases cz : 0 ≤ i.toInt ∧ i.toInt < ln
    · rw [decide_eq_true cz, if_neg (show ¬ (bI true = 0) by decide), L0]
      exact c_copy39 hC ht hW hl cz W 0 FU I (by omega) (FU_lt (by omega)) (Nat.zero_le _) h1 (fun j hj => by rw [hrow j hj, if_neg (by omega)]) kk
    · have hn : ∀ k, tlT ln i.toInt (J (x + (50 + 2 * t) + 1)) k = none := fun k => by
        unfold tlT plT
        rw [if_neg (fun e => by have := of_decide_eq_true e.1; omega)]
      have hg : gdN (tlT ln i.toInt (J (x + (50 + 2 * t) + 1))) W 0 = 0 := by
        cases W with
        | zero => rfl
        | succ W => simp only [gdN, hn]
      have z := kk I (fun _ _ => rfl) (fun j hj => by rw [hrow j hj]; unfold rwT; rw [hg, if_neg (by omega)])
      rw [hg] at z
      rw [decide_eq_false cz, if_pos (show bI false = 0 from rfl), L0]
      exact Ok.ret z
  | succ m ih =>
    intro k f I hk hf h1 hrow kk
    obtain ⟨f, rfl⟩ : ∃ f', f = f' + 1 := ⟨f - 1, by omega⟩
    unfold f_X11_copyStands_3
    rw [if_neg (by rw [L5, nI_leI (by omega) (by omega)]; omega), L0, s11_18 (cS11 hC) (by omega), obs, L1, nI_add]
    refine ih (k + 1) f _ (by omega) (by omega) (by rw [u2_row (by omega)]; exact h1) (fun j hj => ?_) (fun I1 g1 g2 => kk I1 (fun z hz => by rw [g1 z hz, u2_row hz]) g2)
    by_cases cj : j = k
    · subst cj; rw [u2_eq]
    · rw [u2_ne cj]; exact hrow j (by omega)
end
