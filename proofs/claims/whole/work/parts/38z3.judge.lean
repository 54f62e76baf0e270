theorem trN_ge {cost : Nat → Nat → Nat} {hr rw fu gi : Nat → Nat} {sd rm kind v W : Nat} : ∀ (f k h wt : Nat) (le la : Nat → Nat) (st ca : Nat → Option Nat) (l : Nat), k ≤ W → (trN cost hr sd rm kind v rw fu gi W f k h wt le la st ca).1.2 = some l → W - k < f → k ≤ l ∧ (k < W → cost k h ≤ wt → k + 1 ≤ l) := by
  intro f
  induction f with
  | zero => intro k h wt le la st ca l _ _ q; omega
  | succ f ih =>
    intro k h wt le la st ca l hk hT hf
    simp only [trN] at hT
    by_cases c0 : W ≤ k
    · rw [if_pos c0] at hT
      split at hT
      · cases hT
      · cases hT; exact ⟨hk, fun c => by omega⟩
    · rw [if_neg c0] at hT
      split at hT
      · rename_i c1
        cases hT
        exact ⟨Nat.le_refl _, fun _ c2 => by omega⟩
      · split at hT
        · cases hT; exact ⟨by omega, fun _ _ => Nat.le_refl _⟩
        · split at hT
          · cases hT; exact ⟨by omega, fun _ _ => Nat.le_refl _⟩
          · have := (ih (k + 1) _ _ _ _ _ _ l (by omega) hT (by omega)).1
            exact ⟨by omega, fun _ _ => this⟩
/-- how many stands are told in a row -/
def gdN (tell : Nat → Option Nat) : Nat → Nat → Nat
  | 0, k => k
  | m + 1, k => match tell k with
    | some _ => gdN tell m (k + 1)
    | none => k
theorem gdN_spec {tell : Nat → Option Nat} : ∀ m k, k ≤ gdN tell m k ∧ gdN tell m k ≤ k + m ∧ (∀ j, k ≤ j → j < gdN tell m k → ∃ n, tell j = some n) ∧ (gdN tell m k < k + m → tell (gdN tell m k) = none) := by
  intro m
  induction m with
  | zero => intro k; simp only [gdN]; exact ⟨Nat.le_refl _, Nat.le_refl _, fun j _ _ => by omega, fun h => by omega⟩
  | succ m ih =>
    intro k
    cases q : tell k with
    | none =>
      have e : gdN tell (m + 1) k = k := by simp only [gdN, q]
      rw [e]
      exact ⟨Nat.le_refl _, by omega, fun j _ _ => by omega, fun _ => q⟩
    | some n =>
      have e : gdN tell (m + 1) k = gdN tell m (k + 1) := by simp only [gdN, q]
      rw [e]
      obtain ⟨h1, h2, h3, h4⟩ := ih (k + 1)
      refine ⟨by omega, by omega, fun j a b => ?_, fun h => h4 (by omega)⟩
      by_cases c : j = k
      · subst c; exact ⟨n, q⟩
      · exact h3 j (by omega) b
def jres (T : TR) (W g : Nat) (plc : Nat → Bool) : Int32 := if W ≤ g ∨ (match T.1.2 with
    | none => false
    | some l => decide (l ≤ g)) = true then oI T.1.2 else if plc g = true then nI g else nI (101 + g)
theorem jres_lost {T : TR} {W g l : Nat} {plc : Nat → Bool} (h : T.1.2 = some l) (hl : l ≤ g) : jres T W g plc = nI l := by
  unfold jres
  rw [h, if_pos (Or.inr (by simp [hl]))]
  rfl
theorem jres_end {T : TR} {W : Nat} {plc : Nat → Bool} : jres T W W plc = oI T.1.2 := by
  unfold jres
  rw [if_pos (Or.inl (Nat.le_refl _))]
theorem jres_stop {T : TR} {W g : Nat} {plc : Nat → Bool} (hg : g < W) (h : ∀ l, T.1.2 = some l → g < l) : jres T W g plc = if plc g = true then nI g else nI (101 + g) := by
  unfold jres
  rw [if_neg]
  rintro (c | c)
  · omega
  · cases q : T.1.2 with
    | none => rw [q] at c; cases c
    | some l =>
      rw [q] at c
      have := h l q
      simp at c
      omega
/-- what is told at a place: in the reference's words -/
def TellM (so i : Int32) (ln t : Nat) (Jr : Nat → Int64) (W : Nat) (plc : Nat → Bool) (tell : Nat → Option Nat) : Prop := ∀ k, k < W →
  (plc k = false → (so < 0 ∨ i < 0 ∨ ¬ (i ≤ (nI ln - nI k) - 1)) ∧ tell k = none) ∧
  (plc k = true → ¬ (so < 0) ∧ ¬ (i < 0) ∧ i ≤ (nI ln - nI k) - 1 ∧ ∃ p, i = nI p ∧ p + k < 60 ∧ match tell k with
    | some n => Jr (60 * t + (p + k)) = lI n ∧ n ≤ 6
    | none => lg_cmp (Jr (60 * t + (p + k))) 0 < 0 ∨ (¬ (lg_cmp (Jr (60 * t + (p + k))) 0 < 0) ∧ ¬ (lg_cmp (Jr (60 * t + (p + k))) 6 ≤ 0)))
section
variable {o : Nat} {K : Sh} {R : Rf} {J : Jm}
set_option maxHeartbeats 1000000 in
theorem m_judge85 (hM : S12 o K R) {W sd rm M t ln g : Nat} {so i : Int32} {fu gi hr rw : Nat → Nat} {th : Nat → Nat → Nat} {plc : Nat → Bool} {tell : Nat → Option Nat} {P : Int32 × Im → Prop} (ht6 : t < 6) (hT : TellM so i ln t (J (o + 46)) W plc tell) (hln : ln ≤ 60) (hg : g = gdN tell W 0) (hrw : ∀ k n, k < g → tell k = some n → rw k = n) (hMb : M ≤ 800000) (T : TR) : ∀ (f k q h wt : Nat) (I : Im) (le la : Nat → Nat) (st ca : Nat → Option Nat), W - k < f → W - k < q → k ≤ g → LaidM o I W fu gi hr th sd rm → I (o + 44) t = so → I (o + 45) t = nI ln →
    (∀ j, j < W → I (o + 17) j = nI (le j) ∧ le j ≤ 99) → (∀ j, j < W → I (o + 18) j = nI (la j) ∧ (k ≤ j → la j ≤ M)) → h ≤ M + 15 * k → wt ≤ rm → T = trN (fun k h => wayD (th k) h (hr k)) hr sd rm 7 0 rw fu gi W f k h wt le la st ca →
    (∀ I1, FM o tripS tripF I I1 → P (jres T W g plc, I1)) →
    Ok (f_X12_judge_85 K J R o q (nI t) i (nI k) (hwI o I h wt)) P := by
  obtain ⟨-, gs2, gs3, gs4⟩ := gdN_spec (tell := tell) W 0
  rw [← hg] at gs2 gs3 gs4
  intro f
  induction f with
  | zero => intro k q h wt I le la st ca q1; omega
  | succ f ih =>
    intro k q h wt I le la st ca hf hq hkg hL h44 h45 hle hla hh hwt hTr kk
    obtain ⟨q, rfl⟩ : ∃ q', q = q' + 1 := ⟨q - 1, by omega⟩
    have hk : k ≤ W := by omega
    have hL0 := hL
    obtain ⟨a21, aW, a1, a2, a45, asd, a46, arm⟩ := hL
    have e21 : ∀ a b, hwI o I a b o 21 = nI W := fun a b => by rw [hw_fld (by decide) (by decide)]; exact a21
    have FH : ∀ a b, FM o tripS tripF I (hwI o I a b) := fun a b => FM.hw FM.refl (by decide) (by decide)
    have tge := fun l hl => trN_ge (cost := fun k h => wayD (th k) h (hr k)) (hr := hr) (rw := rw) (fu := fu) (gi := gi) (sd := sd) (rm := rm) (kind := 7) (v := 0) (W := W) (f + 1) k h wt le la st ca l hk (by rw [← hTr]; exact hl) hf
    have hTr0 := hTr
    simp only [trN] at hTr
    unfold f_X12_judge_85
    rw [e21]
    by_cases c0 : W ≤ k
    · have hkW : k = W := by omega
      subst hkW
      have hgW : g = k := by omega
      obtain ⟨g1, g2, g3⟩ := a2 k (by omega)
      obtain ⟨w1, w2⟩ := m_goesWay hM (by omega) g1 g2 g3 (by omega : h ≤ 1000000) (by omega : wt ≤ 1000000)
      rw [if_pos c0] at hTr
      rw [if_pos (Int32.le_refl _)]
      by_cases c1 : wayD (th k) h (hr k) ≤ wt
      · rw [if_pos c1] at hTr
        have z := kk _ (FH (h + hr k) (wt - wayD (th k) h (hr k)))
        rw [hgW, jres_end, hTr] at z
        rw [w1 c1, obs, if_neg (show ¬ ((1 : Int32) = 0) by decide)]
        exact Ok.ret z
      · rw [if_neg c1] at hTr
        obtain ⟨a, b, w2⟩ := w2 (by omega)
        have z := kk _ (FH a b)
        rw [hgW, jres_end, hTr] at z
        rw [w2, obs, if_pos rfl]
        show Ok (some (hwI o I a b o 21, hwI o I a b)) P
        rw [e21]
        exact Ok.ret z
    · obtain ⟨g1, g2, g3⟩ := a2 k hk
      obtain ⟨w1, w2⟩ := m_goesWay hM (by omega) g1 g2 g3 (by omega : h ≤ 1000000) (by omega : wt ≤ 1000000)
      rw [if_neg (by rw [nI_leI (by omega) (by omega)]; exact c0)]
      rw [if_neg c0] at hTr
      by_cases c1 : wayD (th k) h (hr k) ≤ wt
      · rw [if_neg (show ¬ wt < wayD (th k) h (hr k) by omega)] at hTr
        rw [w1 c1, obs, if_neg (show ¬ ((1 : Int32) = 0) by decide)]
        generalize hw1 : wt - wayD (th k) h (hr k) = w1' at hTr
        generalize hh1 : h + hr k = h1' at hTr
        have l69 : ldI K (hwI o I h1' w1') (R o 69) (nI t) = some so := by rw [l12_69 hM ht6, hw_row (by omega)]; exact congrArg some h44
        have l70 : ldI K (hwI o I h1' w1') (R o 70) (nI t) = some (nI ln) := by rw [l12_70 hM ht6, hw_row (by omega)]; exact congrArg some h45
        show Ok (Option.bind (ldI K (hwI o I h1' w1') (R o 69) (nI t)) _) P
        rw [l69, obs]
        obtain ⟨tf, tt⟩ := hT k (by omega)
        have e101 : (101 : Int32) + nI k = nI (101 + k) := by rw [show (101 : Int32) = nI 101 from rfl, nI_add]
        have stopres : ∀ b, plc k = b → tell k = none → jres T W g plc = if b = true then nI k else nI (101 + k) := fun b hb hn => by
          have : g = k := by
            by_cases cg : k < g
            · obtain ⟨n, hn'⟩ := gs3 k (Nat.zero_le _) cg
              rw [hn] at hn'
              cases hn'
            · omega
          rw [this, jres_stop (by omega) (fun l hl => by have := (tge l hl).2 (by omega) c1; omega), hb]
        cases hp : plc k with
        | false =>
          obtain ⟨t1, t2⟩ := tf hp
          have z := kk _ (FH h1' w1')
          rw [stopres false hp t2, if_neg (by decide)] at z
          rw [e101]
          rcases t1 with t1 | t1 | t1
          · rw [if_pos t1]; exact Ok.ret z
          · by_cases c2 : so < 0
            · rw [if_pos c2]; exact Ok.ret z
            · rw [if_neg c2, if_pos t1]; exact Ok.ret z
          · by_cases c2 : so < 0
            · rw [if_pos c2]; exact Ok.ret z
            · rw [if_neg c2]
              by_cases c3 : i < 0
              · rw [if_pos c3]; exact Ok.ret z
              · rw [if_neg c3]
                show Ok (Option.bind (ldI K (hwI o I h1' w1') (R o 70) (nI t)) _) P
                rw [l70, obs, if_neg t1]
                exact Ok.ret z
        | true =>
          obtain ⟨t1, t2, t3, p, hip, hpk, t4⟩ := tt hp
          have lj : ldJ K J (R o 71) ((60 * nI t + i) + nI k) = some (J (o + 46) (60 * t + (p + k))) := by
            rw [hip, show (60 : Int32) = nI 60 from rfl, pk_mul, nI_add, nI_add, l12_71 hM (by omega), Nat.add_assoc]
          rw [if_neg t1, if_neg t2]
          show Ok (Option.bind (ldI K (hwI o I h1' w1') (R o 70) (nI t)) _) P
          rw [l70, obs, if_pos t3, lj, obs]
          cases hn : tell k with
          | none =>
            rw [hn] at t4
            have z := kk _ (FH h1' w1')
            rw [stopres true hp hn, if_pos rfl] at z
            rcases t4 with t4 | ⟨t4, t5⟩
            · rw [if_pos t4]; exact Ok.ret z
            · rw [if_neg t4, if_neg t5]; exact Ok.ret z
          | some n =>
            rw [hn] at t4
            obtain ⟨t4, t5⟩ := t4
            have hkg' : k < g := by
              by_cases cg : k < g
              · exact cg
              · have := gs4 (by omega)
                rw [show g = k by omega, hn] at this
                cases this
            have hrwk := hrw k n hkg' hn
            have nJ : (lI n).toInt32 = nI n := by
              rcases (by omega : n = 0 ∨ n = 1 ∨ n = 2 ∨ n = 3 ∨ n = 4 ∨ n = 5 ∨ n = 6) with z | z | z | z | z | z | z <;> subst z <;> decide
            have n1 : ¬ (lg_cmp (lI n) 0 < 0) := by
              rcases (by omega : n = 0 ∨ n = 1 ∨ n = 2 ∨ n = 3 ∨ n = 4 ∨ n = 5 ∨ n = 6) with z | z | z | z | z | z | z <;> subst z <;> decide
            have n2 : lg_cmp (lI n) 6 ≤ 0 := by
              rcases (by omega : n = 0 ∨ n = 1 ∨ n = 2 ∨ n = 3 ∨ n = 4 ∨ n = 5 ∨ n = 6) with z | z | z | z | z | z | z <;> subst z <;> decide
            have hstn : ∀ g' a b, stN 7 0 rw g' k a b rm = n := fun g' a b => by unfold stN; simp [hrwk]
            simp only [hstn] at hTr
            obtain ⟨y14, yf, y15, yg⟩ := a1 k (by omega)
            obtain ⟨y17, yl⟩ := hle k (by omega)
            obtain ⟨y18, ya⟩ := hla k (by omega)
            have ya := ya (Nat.le_refl _)
            have s2 := m_waitsAt (K := K) hM (h := h1') (wt := w1') (by omega : k < 6) a45 y18 (by omega) (by omega) (by omega) asd
            rw [t4, if_neg n1, if_pos n2]
            show Ok (Option.bind (f_X12_waitsAt K R o (nI k) (hwI o I h1' w1')) _) P
            rw [s2, obs]
            by_cases c2 : (la k - h1') * sd ≤ w1'
            · rw [if_neg (show ¬ w1' < (la k - h1') * sd by omega)] at hTr
              rw [if_pos c2, if_neg (show ¬ ((1 : Int32) = 0) by decide), nJ]
              generalize hw2 : w1' - (la k - h1') * sd = w2' at hTr
              generalize hh2 : max h1' (la k) = h2' at hTr
              have s3 := m_standsFor (K := K) (o := o) (I := I) (h := h2') (wt := w2') (n := n) a45 (by omega) (by omega) (by omega) asd
              show Ok (Option.bind (f_X12_standsFor K o (nI n) (hwI o I h2' w2')) _) P
              rw [s3, obs]
              by_cases c3 : n * sd ≤ w2'
              · rw [if_neg (show ¬ w2' < n * sd by omega)] at hTr
                rw [if_pos c3, if_neg (show ¬ ((1 : Int32) = 0) by decide)]
                generalize hw3 : w2' - n * sd = w3 at hTr
                generalize hh3 : h2' + n = h3 at hTr
                have s4 := m_draws1 (K := K) hM (h := h3) (wt := w3) (rm := rm) (by omega : k < 6) a46 y14 y15 y17 y18 yf yg yl (by omega) (by omega) arm (by omega)
                show Ok (Option.bind (f_X12_drawsAt K R o (nI k) 1 (hwI o I h3 w3)) _) P
                rw [L1, s4, obs, nI_add]
                have hl := heldN_le (fu := fu) (gi := gi) (le := le) (la := la) (k := k) (h := h3) yf yl
                have F : FM o tripS tripF I (u2 (u2 I (o + 17) k (nI (heldN fu gi le la k h3 - min (heldN fu gi le la k h3) (rm - w3)))) (o + 18) k (nI h3)) := FM.st (FM.st FM.refl (by decide)) (by decide)
                exact ih (k + 1) q h3 _ _ (u1 le k (heldN fu gi le la k h3 - min (heldN fu gi le la k h3) (rm - w3))) (u1 la k h3) (u1 st k (some n)) (u1 ca k (some w1')) (by omega) (by omega) (by omega) (hL0.fm F (by decide) (by decide)) (by rw [F.arr (by decide) (by decide)]; exact h44) (by rw [F.arr (by decide) (by decide)]; exact h45)
                  (fun j hj => by
                    refine ⟨?_, ?_⟩
                    · rw [u2_row (by omega)]
                      exact nI_u (hle j hj).1
                    · by_cases e : j = k
                      · subst e; rw [u1_eq]; omega
                      · rw [u1_ne e]; exact (hle j hj).2)
                  (fun j hj => by
                    refine ⟨?_, fun hkj => ?_⟩
                    · refine nI_u ?_
                      rw [u2_row (by omega)]
                      exact (hla j hj).1
                    · rw [u1_ne (by omega)]; exact (hla j hj).2 (by omega)) (by omega) (by omega) hTr (fun I1 G => kk I1 (F.trans G))
              · rw [if_pos (show w2' < n * sd by omega)] at hTr
                have z := kk _ (FH h2' w2')
                rw [jres_lost (l := k + 1) (by rw [hTr]) (by omega)] at z
                rw [if_neg c3, if_pos rfl, L1, nI_add]
                exact Ok.ret z
            · rw [if_pos (show w1' < (la k - h1') * sd by omega)] at hTr
              have z := kk _ (FH h1' w1')
              rw [jres_lost (l := k + 1) (by rw [hTr]) (by omega)] at z
              rw [if_neg c2, if_pos rfl, L1, nI_add]
              exact Ok.ret z
      · rw [if_pos (show wt < wayD (th k) h (hr k) by omega)] at hTr
        obtain ⟨a, b, w2⟩ := w2 (by omega)
        have z := kk _ (FH a b)
        rw [jres_lost (l := k) (by rw [hTr]) hkg] at z
        rw [w2, obs, if_pos rfl]
        exact Ok.ret z
end
