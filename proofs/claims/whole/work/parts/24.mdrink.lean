/-- how a clause's test comes out -/
def cdN (cs : List Nat) (hour b y : Nat) : Bool := match runN hour b y cs [] with
  | some [v] => v
  | _ => false
def drV (w c : Nat → Nat) (cd : Nat → Bool) : Nat → Nat
  | 0 => 0
  | n + 1 => drV w c cd n + (if w n = 2 ∧ cd n = true then c n else 0)
theorem drV_le {w c : Nat → Nat} {cd : Nat → Bool} {N : Nat} (h : ∀ n, n < N → c n ≤ 99) : drV w c cd N ≤ 99 * N := by
  induction N with
  | zero => simp [drV]
  | succ n ih =>
    have := ih (fun m hm => h m (by omega))
    have h2 := h n (by omega)
    simp only [drV]
    split <;> omega
/-- the signs of the drink clauses -/
def MC (o i N : Nat) (w : Nat → Nat) (cs : Nat → List Nat) (I : Im) : Prop := ∀ n, n < N → w n = 2 → ∃ fr, I (o + 6) (12 * i + n) = nI fr ∧ I (o + 7) (12 * i + n) = nI (fr + (cs n).length) ∧ fr + (cs n).length ≤ 100 * i + 100 ∧ (cs n).length ≤ 100 ∧ (∀ j c, (cs n)[j]? = some c → I (o + 8) (fr + j) = sI c ∧ c < 3003) ∧ ∀ h b y, ∃ v, runN h b y (cs n) [] = some [v]
section
variable {o : Nat} {K : Sh} {R : Rf}
theorem MC.fm {i N : Nat} {w : Nat → Nat} {cs : Nat → List Nat} {I I' : Im} {S F : List Nat} (h : MC o i N w cs I) (hf : FM o S F I I') (hS : ∀ j ∈ S, 8 < j) : MC o i N w cs I' := by
  unfold MC
  rw [hf.arr (i := 6) (fun q => by have := hS _ q; omega) (by omega), hf.arr (i := 7) (fun q => by have := hS _ q; omega) (by omega), hf.arr (i := 8) (fun q => by have := hS _ q; omega) (by omega)]
  exact h
theorem m_holds (hM : S12 o K R) {i N n hour b y : Nat} {w : Nat → Nat} {cs : Nat → List Nat} {I : Im} (hi : i < 5) (hN : N ≤ 12) (hn : n < N) (hw : w n = 2) (hC : MC o i N w cs I) (hh : hour < 2 ^ 31) (hb : b < 2 ^ 31) (hy : y < 2 ^ 31) : ∃ I', f_X12_holdsTest K R o (nI (12 * i + n)) (nI hour) (nI b) (nI y) I = some (bI (cdN (cs n) hour b y), I') ∧ FM o [10] [] I I' := by
  obtain ⟨fr, g1, g2, g3, g4, g5, g6⟩ := hC n hn hw
  obtain ⟨v, hv⟩ := g6 hour b y
  obtain ⟨I', e1, e2⟩ := m_holds11 hM (by omega : 12 * i + n < 60) hh hb hy (cs n) FU fr I [] (FU_lt (by omega)) g2 (by omega) g5 (fun j b hj => by simp at hj) (by simpa using g4) hv
  refine ⟨I', ?_, e2⟩
  have hc : cdN (cs n) hour b y = v := by unfold cdN; rw [hv]
  rw [hc, ← e1]
  unfold f_X12_holdsTest
  simp (disch := omega) only [L0, L1, L2, L3, L4, L5, L6, L7, L8, L9, L10, L11, L12, L13, L14, L15, L16, L17, L18, L19, L20, L21, L22, L23, L24, L25, L26, L27, L28, L29, L30, L31, L32, L33, L34, L35, L36, L37, L38, L39, L40, L48, L57, L59, L60, L62, L96, L97, L98, L99, L100, L104, L110, L119, L124, L500, L999, L1000, L2000, L3000, nI_add, pk_mul, pk_sub, nI_leI, nI_ltI, nI_eq, obs, u2_eq, u2_row, u2_ne, l12_10 hM, g1]
  rfl
theorem m_drinks9 (hM : S12 o K R) {i N hour b y : Nat} {w c d : Nat → Nat} {cs : Nat → List Nat} (hi : i < 5) (hh : hour < 2 ^ 31) (hb : b < 2 ^ 31) (hy : y < 2 ^ 31) : ∀ (k n : Nat) (I : Im), N - n < k → n ≤ N → MW o i N w c d I → MC o i N w cs I → I o 1 = nI i →
    ∃ I', f_X12_drinksOf_9 K R o k (nI y) (nI hour) (nI b) (nI (drV w c (fun n => cdN (cs n) hour b y) n)) (nI (12 * i + n)) I = some (nI (drV w c (fun n => cdN (cs n) hour b y) N), I') ∧ FM o [10] [] I I' := by
  intro k
  induction k with
  | zero => intro n I h; omega
  | succ k ih =>
    intro n I hk hn hW hC ht
    have hN := hW.2.2.1
    unfold f_X12_drinksOf_9
    rw [m_behind hM hi ht hW]
    by_cases h : n = N
    · subst h
      refine ⟨I, ?_, FM.refl⟩
      simp (disch := omega) only [L0, L1, L2, L3, L4, L5, L6, L7, L8, L9, L10, L11, L12, L13, L14, L15, L16, L17, L18, L19, L20, L21, L22, L23, L24, L25, L26, L27, L28, L29, L30, L31, L32, L33, L34, L35, L36, L37, L38, L39, L40, L48, L57, L59, L60, L62, L96, L97, L98, L99, L100, L104, L110, L119, L124, L500, L999, L1000, L2000, L3000, nI_add, pk_mul, pk_sub, nI_leI, nI_ltI, nI_eq, obs, u2_eq, u2_row, u2_ne, if_pos, if_neg, if_true, if_false, eq_self]
    · obtain ⟨h3, h3b, h4, -⟩ := hW.2.2.2 n (by omega)
      have nx : ∀ I1 x, FM o [10] [] I I1 → drV w c (fun n => cdN (cs n) hour b y) (n + 1) = x → ∃ I', f_X12_drinksOf_9 K R o k (nI y) (nI hour) (nI b) (nI x) (nI (12 * i + (n + 1))) I1 = some (nI (drV w c (fun n => cdN (cs n) hour b y) N), I') ∧ FM o [10] [] I I' := by
        intro I1 x F hx
        obtain ⟨I', e1, e2⟩ := ih (n + 1) I1 (by omega) (by omega) (hW.fm F (by decide)) (hC.fm F (by decide)) ((F.fld (by decide) (by decide)).trans ht)
        rw [hx] at e1
        exact ⟨I', e1, F.trans e2⟩
      unfold f_X12_drinksOf_53 f_X12_drinksOf_54
      by_cases q : w n = 2
      · obtain ⟨I1, e1, F⟩ := m_holds hM hi hN (by omega : n < N) q hC hh hb hy
        have r4 : I1 (o + 4) = I (o + 4) := F.arr (by decide) (by decide)
        cases q2 : cdN (cs n) hour b y with
        | false =>
          have g := nx I1 _ F (by simp only [drV]; rw [if_neg (by simp [q2])])
          rw [q2] at e1
          have e1 : f_X12_holdsTest K R o (nI (12 * i + n)) (nI hour) (nI b) (nI y) I = some (nI 0, I1) := e1
          simp (disch := omega) only [L0, L1, L2, L3, L4, L5, L6, L7, L8, L9, L10, L11, L12, L13, L14, L15, L16, L17, L18, L19, L20, L21, L22, L23, L24, L25, L26, L27, L28, L29, L30, L31, L32, L33, L34, L35, L36, L37, L38, L39, L40, L48, L57, L59, L60, L62, L96, L97, L98, L99, L100, L104, L110, L119, L124, L500, L999, L1000, L2000, L3000, nI_add, pk_mul, pk_sub, nI_leI, nI_ltI, nI_eq, obs, u2_eq, u2_row, u2_ne, if_pos, if_neg, if_true, if_false, eq_self, l12_7 hM, h3, e1, Nat.add_assoc]
          exact g
        | true =>
          have g := nx I1 _ F (by simp only [drV]; rw [if_pos ⟨q, q2⟩])
          rw [q2] at e1
          have e1 : f_X12_holdsTest K R o (nI (12 * i + n)) (nI hour) (nI b) (nI y) I = some (nI 1, I1) := e1
          simp (disch := omega) only [L0, L1, L2, L3, L4, L5, L6, L7, L8, L9, L10, L11, L12, L13, L14, L15, L16, L17, L18, L19, L20, L21, L22, L23, L24, L25, L26, L27, L28, L29, L30, L31, L32, L33, L34, L35, L36, L37, L38, L39, L40, L48, L57, L59, L60, L62, L96, L97, L98, L99, L100, L104, L110, L119, L124, L500, L999, L1000, L2000, L3000, nI_add, pk_mul, pk_sub, nI_leI, nI_ltI, nI_eq, obs, u2_eq, u2_row, u2_ne, if_pos, if_neg, if_true, if_false, eq_self, l12_7 hM, h3, e1, l12_8 hM, r4, h4, Nat.add_assoc]
          exact g
      · have g := nx I _ FM.refl (by simp only [drV]; rw [if_neg (by simp [q])])
        simp (disch := omega) only [L0, L1, L2, L3, L4, L5, L6, L7, L8, L9, L10, L11, L12, L13, L14, L15, L16, L17, L18, L19, L20, L21, L22, L23, L24, L25, L26, L27, L28, L29, L30, L31, L32, L33, L34, L35, L36, L37, L38, L39, L40, L48, L57, L59, L60, L62, L96, L97, L98, L99, L100, L104, L110, L119, L124, L500, L999, L1000, L2000, L3000, nI_add, pk_mul, pk_sub, nI_leI, nI_ltI, nI_eq, obs, u2_eq, u2_row, u2_ne, if_pos, if_neg, if_true, if_false, eq_self, l12_7 hM, h3, Nat.add_assoc]
        exact g
theorem m_drinksOf (hM : S12 o K R) {i N hour b y : Nat} {w c d : Nat → Nat} {cs : Nat → List Nat} {I : Im} (hi : i < 5) (hh : hour < 2 ^ 31) (hb : b < 2 ^ 31) (hy : y < 2 ^ 31) (hW : MW o i N w c d I) (hC : MC o i N w cs I) (ht : I o 1 = nI i) :
    ∃ I', f_X12_drinksOf K R o (nI y) (nI hour) (nI b) I = some (nI (drV w c (fun n => cdN (cs n) hour b y) N), I') ∧ FM o [10] [] I I' := by
  obtain ⟨I', e1, e2⟩ := m_drinks9 hM (d := d) hi hh hb hy FU 0 I (FU_lt (by have := hW.2.2.1; omega)) (by omega) hW hC ht
  refine ⟨I', ?_, e2⟩
  simp only [drV, Nat.add_zero] at e1
  unfold f_X12_drinksOf
  rw [m_first hi ht, obs, ← e1, L0]
end
