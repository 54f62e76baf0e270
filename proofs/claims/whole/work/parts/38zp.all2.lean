/-! the orders -/
def oT (k p : Nat) : Nat := ([0, 1, 2, 0, 2, 1, 1, 0, 2, 1, 2, 0, 2, 0, 1, 2, 1, 0] : List Nat).getD (k * 3 + p) 0
theorem oT_z : ∀ k, k < 6 → ∀ p, p < 3 → zD 1 (k * 3 + p) = nI (oT k p) := by decide
def isN (k : Nat) : Nat → Nat → Bool
  | 0, _ => true
  | m + 1, p => decide (oT k p = p) && isN k m (p + 1)
def vaN (ns k : Nat) : Bool := isN k (3 - ns) ns
def kO (ns c : Nat) : Option Nat := match ns with
  | 0 => if c = 0 then some 0 else none
  | 1 => if c = 0 then some 0 else none
  | 2 => if c = 1 then some 0 else if c = 3 then some 2 else none
  | _ => if c = 5 then some 0 else if c = 7 then some 1 else if c = 11 then some 2 else if c = 15 then some 3 else if c = 19 then some 4 else if c = 21 then some 5 else none
abbrev BSt : Type := Option (Nat × Nat × Option Nat)
def lcO (l : Option Nat) : Nat := match l with
  | none => 1000000
  | some t => t
def btr (acc : BSt) (a : Nat) (l : Option Nat) : Bool := match acc with
  | none => true
  | some t => decide (t.2.1 < a) || (decide (t.2.1 = a) && decide (lcO l < lcO t.2.2))
theorem btr_iff {t : Nat × Nat × Option Nat} {a : Nat} {l : Option Nat} : btr (some t) a l = true ↔ t.2.1 < a ∨ (t.2.1 = a ∧ lcO l < lcO t.2.2) := by
  unfold btr
  simp only [Bool.or_eq_true, Bool.and_eq_true, decide_eq_true_eq]
def bstN (acc : BSt) (k a : Nat) (l : Option Nat) : BSt := if btr acc a l = true then some (k, a, l) else acc
def cFo (fa : Nat → Nat) (fl : Nat → Option Nat) (ns : Nat) : Nat → BSt
  | 0 => none
  | m + 1 => if vaN ns m = true then bstN (cFo fa fl ns m) m (fa m) (fl m) else cFo fa fl ns m
def rFo (fa : Nat → Nat) (fl : Nat → Option Nat) (ns : Nat) : Nat → BSt
  | 0 => none
  | m + 1 => match kO ns m with
    | none => rFo fa fl ns m
    | some k => bstN (rFo fa fl ns m) k (fa k) (fl k)
theorem fo_eq (fa : Nat → Nat) (fl : Nat → Option Nat) {ns : Nat} (h : ns ≤ 3) : rFo fa fl ns 27 = cFo fa fl ns 6 := by
  have cc : ns = 0 ∨ ns = 1 ∨ ns = 2 ∨ ns = 3 := by omega
  rcases cc with c | c | c | c <;> subst c <;> rfl
def oKB (ns : Nat) (t : Nat × Nat × Option Nat) (fa : Nat → Nat) (fl : Nat → Option Nat) : Prop := t.1 < 6 ∧ vaN ns t.1 = true ∧ t.2.1 = fa t.1 ∧ t.2.2 = fl t.1
theorem bstN_ok {fa : Nat → Nat} {fl : Nat → Option Nat} {ns k : Nat} {acc : BSt} (h : ∀ t, acc = some t → oKB ns t fa fl) (hk : k < 6) (hv : vaN ns k = true) : (∃ t, bstN acc k (fa k) (fl k) = some t) ∧ ∀ t, bstN acc k (fa k) (fl k) = some t → oKB ns t fa fl := by
  unfold bstN
  by_cases c : btr acc (fa k) (fl k) = true
  · rw [if_pos c]
    exact ⟨⟨_, rfl⟩, fun t ht => by cases ht; exact ⟨hk, hv, rfl, rfl⟩⟩
  · rw [if_neg c]
    refine ⟨?_, h⟩
    cases acc with
    | none => exact absurd rfl c
    | some t => exact ⟨t, rfl⟩
theorem cFo_ok {fa : Nat → Nat} {fl : Nat → Option Nat} {ns : Nat} : ∀ m, m ≤ 6 → ∀ t, cFo fa fl ns m = some t → oKB ns t fa fl := by
  intro m
  induction m with
  | zero => intro _ t ht; cases ht
  | succ m ih =>
    intro hm t ht
    unfold cFo at ht
    by_cases c : vaN ns m = true
    · rw [if_pos c] at ht
      exact (bstN_ok (ih (by omega)) (by omega) c).2 t ht
    · rw [if_neg c] at ht
      exact ih (by omega) t ht
theorem va0 : ∀ ns, ns < 4 → vaN ns 0 = true := by decide
theorem cFo_some {fa : Nat → Nat} {fl : Nat → Option Nat} {ns : Nat} (hn : ns ≤ 3) : ∀ m, m ≤ 6 → 0 < m → ∃ t, cFo fa fl ns m = some t := by
  intro m
  induction m with
  | zero => intro _ h; omega
  | succ m ih =>
    intro hm _
    unfold cFo
    by_cases c : vaN ns m = true
    · rw [if_pos c]
      exact (bstN_ok (cFo_ok m (by omega)) (by omega) c).1
    · rw [if_neg c]
      by_cases m0 : m = 0
      · subst m0
        exact absurd (va0 ns (by omega)) c
      · exact ih (by omega) (by omega)
theorem kO_ok1 : ∀ ns, ns < 4 → ∀ c, c < 27 → ∀ k, k < 6 → kO ns c = some k → vaN ns k = true := by decide
theorem kO_ok2 : ∀ ns, ns < 4 → ∀ c, c < 27 → ∀ k, k < 6 → kO ns c = some k → c / 3 ^ ns = 0 := by decide
theorem kO_ok3 : ∀ ns, ns < 4 → ∀ c, c < 27 → ∀ k, k < 6 → kO ns c = some k → ∀ p, p < ns → c / 3 ^ (ns - 1 - p) % 3 = oT k p := by decide
theorem kO_lt : ∀ ns, ns < 4 → ∀ c, c < 27 → ∀ k, kO ns c = some k → k < 6 := by
  intro ns hns c _ k h
  have cc : ns = 0 ∨ ns = 1 ∨ ns = 2 ∨ ns = 3 := by omega
  rcases cc with e | e | e | e <;> subst e <;> simp only [kO] at h <;> (repeat' split at h) <;> first | (cases h; omega) | cases h
theorem oT_lt : ∀ ns, ns < 4 → ∀ k, k < 6 → vaN ns k = true → ∀ p, p < ns → oT k p < ns := by decide
/-- the mask of the digits -/
def mkM : Nat → Nat → Int32 → Int32
  | 0, _, m => m
  | j + 1, y, m => mkM j (y / 3) (m ||| ishl 1 (nI (y % 3)))
theorem kO_m : ∀ ns, ns < 4 → ∀ c, c < 27 → (∀ k, k < 6 → kO ns c ≠ some k) → 0 < c / 3 ^ ns ∨ mkM ns c 0 ≠ ishl 1 (nI ns) - 1 := by decide
theorem kO_m2 : ∀ ns, ns < 4 → ∀ c, c < 27 → ∀ k, k < 6 → kO ns c = some k → mkM ns c 0 = ishl 1 (nI ns) - 1 := by decide
def orI (b : Nat) : Nat → Nat → Im → Im
  | 0, _, I => I
  | j + 1, y, I => orI b j (y / 3) (u2 I b j (nI (y % 3)))
theorem orI_row {b z : Nat} (h : z ≠ b) : ∀ (m y : Nat) (I : Im), orI b m y I z = I z := by
  intro m
  induction m with
  | zero => intro y I; rfl
  | succ m ih => intro y I; unfold orI; rw [ih, u2_row h]
theorem orI_hi {b : Nat} : ∀ (m y j : Nat) (I : Im), m ≤ j → orI b m y I b j = I b j := by
  intro m
  induction m with
  | zero => intro y j I _; rfl
  | succ m ih => intro y j I h; unfold orI; rw [ih _ _ _ (by omega), u2_ne (by omega)]
theorem orI_lo {b : Nat} : ∀ (m y j : Nat) (I : Im), j < m → orI b m y I b j = nI (y / 3 ^ (m - 1 - j) % 3) := by
  intro m
  induction m with
  | zero => intro y j I h; omega
  | succ m ih =>
    intro y j I h
    unfold orI
    by_cases c : j = m
    · subst c
      rw [orI_hi _ _ _ _ (Nat.le_refl _), u2_eq, show j + 1 - 1 - j = 0 by omega, Nat.pow_zero, Nat.div_one]
    · rw [ih _ _ _ (by omega), show m + 1 - 1 - j = (m - 1 - j) + 1 by omega, Nat.pow_succ, Nat.mul_comm, Nat.div_div_eq_div_mul]
section
variable {Z : Nat → Nat} {x n M nr nc NW i q N ns W ld Mp k o : Nat} {K : Sh} {I I0 : Im} {J : Jm} {R R0 : Rf} {w c d le la le0 la0 fu gi hr : Nat → Nat} {cs : Nat → List Nat} {cd : Nat → CDt} {cv sg sv : Nat → Nat} {fa : Nat → Nat} {fl : Nat → Option Nat} {fo : Nat → List (Option Nat)}
theorem FM.orI (h : FM (x + 62) mS mF I0 I) (m y : Nat) : FM (x + 62) mS mF I0 (orI (x + 98) m y I) := by
  intro a k hs hf
  rw [orI_row (hs 36 (by decide))]
  exact h a k hs hf
theorem c_isOrd (hZ : ZZ Z x K I) (hk : k < 6) : ∀ (m p f : Nat), p + m = 3 → m < f → f_X11_isOrderOf_2 Z K I f (nI k) (nI p) = some (bI (isN k m p)) := by
  intro m
  induction m with
  | zero =>
    intro p f e1 e2
    obtain ⟨f, rfl⟩ : ∃ f', f = f' + 1 := ⟨f - 1, by omega⟩
    unfold f_X11_isOrderOf_2
    rw [if_pos (by rw [L3, nI_leI (by omega) (by omega)]; omega)]
    rfl
  | succ m ih =>
    intro p f e1 e2
    obtain ⟨f, rfl⟩ : ∃ f', f = f' + 1 := ⟨f - 1, by omega⟩
    have o3 : ∀ k, k < 6 → ∀ p, p < 3 → oT k p < 3 := by decide
    have := o3 k hk p (by omega)
    unfold f_X11_isOrderOf_2
    rw [if_neg (by rw [L3, nI_leI (by omega) (by omega)]; omega), L3, pk_mul, nI_add, ldI_Z hZ (by omega) (show k * 3 + p < zL 1 by show _ < 18; omega), oT_z k hk p (by omega), obs]
    unfold isN
    by_cases c : oT k p = p
    · rw [if_pos (by rw [c]), L1, nI_add, ih (p + 1) f (by omega) (by omega), decide_eq_true c, Bool.true_and]
    · rw [if_neg (by rw [nI_eq (by omega) (by omega)]; exact c), decide_eq_false c, Bool.false_and]
      rfl
/-- what the group keeps of the best order -/
def BGc (x : Nat) (acc : BSt) (I : Im) : Prop := match acc with
  | none => I (x + 37) 3 = -1
  | some t => I (x + 37) 3 = nI t.1 ∧ I (x + 37) 4 = nI t.2.1 ∧ I (x + 37) 5 = oI t.2.2 ∧ t.1 < 6 ∧ t.2.1 ≤ 2673 ∧ ∀ s, t.2.2 = some s → s ≤ 900000
theorem c_compare {acc : BSt} {a : Nat} {l : Option Nat} (hB : BGc x acc I) (h1 : I (x + 37) 1 = nI a) (ha : a ≤ 2673) (h2 : I (x + 37) 2 = oI l) (hl : ∀ t, l = some t → t ≤ 900000) (hk : k < 6) : ∃ I1, f_X2_compare K (x + 37) (nI k) I = some I1 ∧ (∀ z, z ≠ x + 37 → I1 z = I z) ∧ BGc x (bstN acc k a l) I1 := by
  have p69 : f_X2_compare_69 K (x + 37) (nI k) I = some (u2 (u2 (u2 I (x + 37) 3 (nI k)) (x + 37) 4 (nI a)) (x + 37) 5 (oI l)) := by
    unfold f_X2_compare_69
    rw [obs, obs, obs, u2_ne (by omega), u2_ne (by omega), u2_ne (by omega), h1, h2]
  have new : BGc x (some (k, a, l)) (u2 (u2 (u2 I (x + 37) 3 (nI k)) (x + 37) 4 (nI a)) (x + 37) 5 (oI l)) := ⟨by rw [u2_ne (by omega), u2_ne (by omega), u2_eq], by rw [u2_ne (by omega), u2_eq], by rw [u2_eq], hk, ha, hl⟩
  have fr : ∀ z, z ≠ x + 37 → u2 (u2 (u2 I (x + 37) 3 (nI k)) (x + 37) 4 (nI a)) (x + 37) 5 (oI l) z = I z := fun z hz => by rw [u2_row hz, u2_row hz, u2_row hz]
  have to34 : ∃ s0, f_X2_compare K (x + 37) (nI k) I = f_X2_compare_34 K (x + 37) (nI k) s0 I ∧ ∀ t, acc = some t → ((s0 = 0 ∧ ¬ (lcO l < lcO t.2.2)) ∨ (¬ (s0 = 0) ∧ lcO l < lcO t.2.2)) := by
    unfold f_X2_compare f_X2_compare_33 f_X2_compare_29
    rw [h2]
    by_cases c1 : l = none
    · refine ⟨0, if_pos ((oI_neg5 hl).mpr c1), fun t ht => Or.inl ⟨rfl, ?_⟩⟩
      subst ht
      rw [c1]
      have hb := hB.2.2.2.2.2
      cases hz : t.2.2 with
      | none => exact Nat.lt_irrefl _
      | some s => have := hb s hz; show ¬ (1000000 < s); omega
    rw [if_neg (fun e => c1 ((oI_neg5 hl).mp e))]
    obtain ⟨tl, htl⟩ : ∃ t, l = some t := by
      cases l with
      | none => exact absurd rfl c1
      | some t => exact ⟨t, rfl⟩
    have hltl := hl tl htl
    cases acc with
    | none =>
      by_cases c2 : I (x + 37) 5 = -5
      · exact ⟨1, by rw [if_pos c2], fun t ht => by cases ht⟩
      · rw [if_neg c2]
        by_cases c3 : I (x + 37) 5 ≤ oI l
        · exact ⟨0, by rw [if_pos c3], fun t ht => by cases ht⟩
        · exact ⟨1, by rw [if_neg c3], fun t ht => by cases ht⟩
    | some t0 =>
      obtain ⟨b1, b2, b3, b4, b5, b6⟩ := hB
      rw [b3]
      by_cases c2 : t0.2.2 = none
      · refine ⟨1, if_pos ((oI_neg5 b6).mpr c2), fun t ht => Or.inr ⟨by decide, ?_⟩⟩
        cases ht
        rw [c2, htl]
        show tl < 1000000
        omega
      rw [if_neg (fun e => c2 ((oI_neg5 b6).mp e))]
      obtain ⟨s, hs⟩ : ∃ s, t0.2.2 = some s := by
        cases hq : t0.2.2 with
        | none => exact absurd hq c2
        | some s => exact ⟨s, rfl⟩
      have hbs := b6 s hs
      have cmp : oI t0.2.2 ≤ oI l ↔ s ≤ tl := by
        rw [hs, htl]
        exact nI_leI (by omega) (by omega)
      by_cases c3 : s ≤ tl
      · refine ⟨0, if_pos (cmp.mpr c3), fun t ht => Or.inl ⟨rfl, ?_⟩⟩
        cases ht
        rw [hs, htl]
        show ¬ (tl < s)
        omega
      · refine ⟨1, if_neg (fun e => c3 (cmp.mp e)), fun t ht => Or.inr ⟨by decide, ?_⟩⟩
        cases ht
        rw [hs, htl]
        show tl < s
        omega
  obtain ⟨s0, e0, e1⟩ := to34
  rw [e0]
  unfold f_X2_compare_34 bstN
  cases acc with
  | none =>
    rw [if_pos (show I (x + 37) 3 = -1 from hB), p69, if_pos (show btr none a l = true from rfl)]
    exact ⟨_, rfl, fr, new⟩
  | some t =>
    have hB0 := hB
    obtain ⟨b1, b2, b3, b4, b5, b6⟩ := hB
    have nn : ∀ s, s < 6 → ¬ nI s = -1 := by decide
    rw [if_neg (by rw [b1]; exact nn _ b4), b2, h1]
    by_cases c1 : t.2.1 < a
    · rw [if_pos (by rw [nI_ltI (by omega) (by omega)]; exact c1), p69, if_pos (show btr (some t) a l = true from btr_iff.mpr (Or.inl c1))]
      exact ⟨_, rfl, fr, new⟩
    rw [if_neg (by rw [nI_ltI (by omega) (by omega)]; exact c1)]
    by_cases c2 : t.2.1 = a
    · rw [if_pos (by rw [c2])]
      rcases e1 t rfl with ⟨e2, e3⟩ | ⟨e2, e3⟩
      · rw [if_pos e2, if_neg (show ¬ btr (some t) a l = true from fun h => by rcases btr_iff.mp h with h | h <;> omega)]
        exact ⟨I, rfl, fun _ _ => rfl, hB0⟩
      · rw [if_neg e2, p69, if_pos (show btr (some t) a l = true from btr_iff.mpr (Or.inr ⟨c2, e3⟩))]
        exact ⟨_, rfl, fr, new⟩
    · rw [if_neg (by rw [nI_eq (by omega) (by omega)]; exact fun e => c2 e.symm), if_neg (show ¬ btr (some t) a l = true from fun h => by rcases btr_iff.mp h with h | h <;> omega)]
      exact ⟨I, rfl, fun _ _ => rfl, hB0⟩
end
