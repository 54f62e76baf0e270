/-- a row of stands gone through -/
def runR (e : PE) (rw : Nat → Nat) : Nat → Nat → Nat → Nat → Option Nat
  | 0, _, h, _ => some h
  | f + 1, k, h, w => match stp e k (rw k) h w with
    | some p => runR e rw f (k + 1) p.1 p.2
    | none => none
theorem runR_CB {e : PE} {rw : Nat → Nat} {t : Nat} (hr : ∀ k, rw k ≤ 6) : ∀ f k h w, runR e rw f k h w = some t → CB e f k h w t := by
  intro f
  induction f with
  | zero => intro k h w q; exact Option.some.inj q
  | succ f ih =>
    intro k h w q
    simp only [runR] at q
    split at q
    · rename_i p hp
      exact ⟨rw k, hr k, p, hp, ih _ _ _ q⟩
    · cases q
theorem grN_run {e : PE} {t : Nat} {rw : Nat → Nat} (hr : e.rm < 1000000) : ∀ f k h w, CB e f k h w t → (∀ j, k ≤ j → j < k + f → rw j = grN e t f k h w j) → runR e rw f k h w = some t := by
  intro f
  induction f with
  | zero => intro k h w q _; exact congrArg some q
  | succ f ih =>
    intro k h w q g
    obtain ⟨s, hs, p, h1, h2⟩ := q
    have ho : okB e t f k h w (fsN (okB e t f k h w) 6 0) = true := fsN_ex 6 0 ⟨s, Nat.zero_le _, by omega, (okB_iff hr).mpr ⟨p, h1, h2⟩⟩
    obtain ⟨p', g1, g2⟩ := (okB_iff hr).mp ho
    have gk := g k (Nat.le_refl _) (by omega)
    simp only [grN, if_true] at gk
    simp only [runR]
    rw [gk, g1]
    refine ih _ _ _ g2 (fun j h3 h4 => ?_)
    have gj := g j (by omega) (by omega)
    simp only [grN] at gj
    rw [if_neg (by omega), g1] at gj
    exact gj
theorem trN_run {e : PE} {cost : Nat → Nat → Nat} {hr rw fu gi le0 la0 : Nat → Nat} {sd rm kind v W : Nat} (he1 : e.la = la0) (he2 : e.hr = hr) (he3 : e.co = cost) (he4 : ∀ k h, e.he k h = heldN fu gi le0 la0 k h) (he5 : e.sd = sd) (he6 : e.rm = rm) (hk : kind = 3 ∨ kind = 5 ∨ kind = 7) : ∀ (f k h wt : Nat) (le la : Nat → Nat) (st ca : Nat → Option Nat), W - k < f → k ≤ W → wt ≤ rm → (∀ j, k ≤ j → le j = le0 j ∧ la j = la0 j) →
    (trN cost hr sd rm kind v rw fu gi W f k h wt le la st ca).1.1 = if cost k h ≤ wt then runR e rw (W - k) k (h + hr k) (wt - cost k h) else none := by
  intro f
  induction f with
  | zero => intro k h wt le la st ca q; omega
  | succ f ih =>
    intro k h wt le la st ca hf hkW hwt hj
    simp only [trN]
    by_cases c0 : W ≤ k
    · have : k = W := by omega
      subst this
      rw [if_pos c0, Nat.sub_self]
      by_cases c1 : cost k h ≤ wt
      · rw [if_pos c1, if_pos c1]; rfl
      · rw [if_neg c1, if_neg c1]
    · rw [if_neg c0]
      by_cases c1 : wt < cost k h
      · rw [if_pos c1, if_neg (by omega)]
      · rw [if_neg c1, if_pos (show cost k h ≤ wt by omega)]
        obtain ⟨j1, j2⟩ := hj k (Nat.le_refl _)
        have hst : ∀ g a b, stN kind v rw g k a b rm = rw k := by
          intro g a b
          unfold stN
          rcases hk with q | q | q <;> subst q <;> simp
        obtain ⟨n, hn⟩ : ∃ n, W - k = n + 1 := ⟨W - k - 1, by omega⟩
        rw [hn]
        simp only [runR, hst]
        generalize hw1 : wt - cost k h = w1
        generalize hh1 : h + hr k = h1
        have hlv : lvE e k h1 (rw k) = max h1 (la k) + rw k := by unfold lvE; rw [he1, j2]
        have hsub : lvE e k h1 (rw k) - h1 = (la k - h1) + rw k := by rw [hlv]; omega
        have hmul : (lvE e k h1 (rw k) - h1) * e.sd = (la k - h1) * sd + rw k * sd := by rw [hsub, he5, Nat.add_mul]
        have hheld : heldN fu gi le la k (max h1 (la k) + rw k) = e.he k (lvE e k h1 (rw k)) := by
          rw [he4, hlv]
          unfold heldN
          rw [j1, j2]
        rw [hheld]
        by_cases c2 : w1 < (la k - h1) * sd
        · rw [if_pos c2]
          have : stp e k (rw k) h1 w1 = none := by
            unfold stp
            rw [if_neg (by rw [hmul]; omega)]
          rw [this]
        · rw [if_neg c2]
          by_cases c3 : w1 - (la k - h1) * sd < rw k * sd
          · rw [if_pos c3]
            have : stp e k (rw k) h1 w1 = none := by
              unfold stp
              rw [if_neg (by rw [hmul]; omega)]
            rw [this]
          · rw [if_neg c3]
            have hfi : w1 - (la k - h1) * sd - rw k * sd + min (e.he k (lvE e k h1 (rw k))) (rm - (w1 - (la k - h1) * sd - rw k * sd)) = fiE e k h1 w1 (rw k) := by
              unfold fiE
              rw [hmul, he6]
              omega
            rw [ih (k + 1) _ _ _ _ _ _ (by omega) (by omega) (by rw [hfi]; unfold fiE; rw [he6]; omega) (fun j h5 => by rw [u1_ne (by omega), u1_ne (by omega)]; exact hj j (by omega)), hfi, ← hlv]
            by_cases c4 : cost (k + 1) (lvE e k h1 (rw k)) ≤ fiE e k h1 w1 (rw k)
            · rw [if_pos c4, stp_pos (by rw [hmul]; omega) (by rw [he3]; exact c4), show W - (k + 1) = n by omega, he2, he3]
            · have : stp e k (rw k) h1 w1 = none := by
                unfold stp
                rw [if_neg (by rw [he3]; omega)]
              rw [if_neg c4, this]
/-- forward: m tells for the hours F + i of coming to the place k the most water that one can have there -/
def FW (e : PE) (W h0 w0 k F : Nat) (m : Nat → Option Nat) : Prop := ∀ t, CB e W 0 h0 w0 t ↔ ∃ i w, i ≤ 6 * k ∧ m i = some w ∧ CB e (W - k) k (F + i) w t
def SPb (e : PE) (k F : Nat) (D : Nat → Nat → Prop) (m m' : Nat → Option Nat) : Prop := ∀ i s w p, D i s → m i = some w → stp e k s (F + i) w = some p → ∃ w', m' (p.1 - (max F (e.la k) + e.hr (k + 1))) = some w' ∧ p.2 ≤ w'
def SPc (e : PE) (k F : Nat) (D : Nat → Nat → Prop) (m m' : Nat → Option Nat) : Prop := ∀ j w', m' j = some w' → ∃ i s w p, D i s ∧ m i = some w ∧ stp e k s (F + i) w = some p ∧ p.1 = max F (e.la k) + e.hr (k + 1) + j ∧ p.2 = w'
theorem FW_step {e : PE} {W h0 w0 k F : Nat} {m m' : Nat → Option Nat} (h : FW e W h0 w0 k F m) (hk : k < W) (hb : SPb e k F (fun i s => i ≤ 6 * k ∧ s ≤ 6) m m') (hc : SPc e k F (fun i s => i ≤ 6 * k ∧ s ≤ 6) m m') : FW e W h0 w0 (k + 1) (max F (e.la k) + e.hr (k + 1)) m' := by
  intro t
  obtain ⟨n, hn⟩ : ∃ n, W - k = n + 1 := ⟨W - k - 1, by omega⟩
  rw [h t, hn, show W - (k + 1) = n by omega]
  constructor
  · rintro ⟨i, w, h1, h2, s, h3, p, h4, h5⟩
    obtain ⟨w', g1, g2⟩ := hb i s w p ⟨h1, h3⟩ h2 h4
    obtain ⟨-, -, hp⟩ := stp_some h4
    have hp1 : p.1 = lvE e k (F + i) s + e.hr (k + 1) := by rw [hp]
    unfold lvE at hp1
    refine ⟨_, w', ?_, g1, ?_⟩
    · omega
    · rw [show max F (e.la k) + e.hr (k + 1) + (p.1 - (max F (e.la k) + e.hr (k + 1))) = p.1 by omega]
      exact CB_mono _ _ _ _ _ g2 h5
  · rintro ⟨j, w', h1, h2, h3⟩
    obtain ⟨i, s, w, p, ⟨g1, g2⟩, g3, g4, g5, g6⟩ := hc j w' h2
    refine ⟨i, w, g1, g3, s, g2, p, g4, ?_⟩
    rw [g5, g6]
    exact h3
theorem FW_end {e : PE} {W h0 w0 F : Nat} {m : Nat → Option Nat} (h : FW e W h0 w0 W F m) (t : Nat) : CB e W 0 h0 w0 t ↔ ∃ i w, i ≤ 6 * W ∧ m i = some w ∧ F + i = t := by
  have := h t
  rw [Nat.sub_self] at this
  exact this
/-- BEST: hour and row -/
def MinCB (e : PE) (W h w : Nat) (t : Option Nat) : Prop := match t with
  | none => ∀ t, ¬ CB e W 0 h w t
  | some t => CB e W 0 h w t ∧ ∀ t', CB e W 0 h w t' → t ≤ t'
theorem MinCB.uniq {e : PE} {W h w : Nat} {t t' : Option Nat} (a : MinCB e W h w t) (b : MinCB e W h w t') : t = t' := by
  cases t with
  | none =>
    cases t' with
    | none => rfl
    | some y => exact absurd b.1 (a y)
  | some x =>
    cases t' with
    | none => exact absurd a.1 (b x)
    | some y =>
      have h1 := a.2 y b.1
      have h2 := b.2 x a.1
      congr 1
      omega
/-- the row that BEST tells, from the hour of coming over -/
def bestR (e : PE) (W h w : Nat) (t : Option Nat) (j : Nat) : Nat := match t with
  | none => 0
  | some t => grN e t W 0 h w j
theorem dfs_best {e : PE} (hr : e.rm < 1000000) {W h w : Nat} : ∃ t, MinCB e W h w t ∧ (dfsN e W 0 h w (fun _ => 0) none).map (·.1) = t ∧ ∀ j, j < W → (match dfsN e W 0 h w (fun _ => 0) none with | none => 0 | some a => a.2 j) = bestR e W h w t j := by
  rcases dfsN_ok hr W 0 h w (fun _ => 0) none with ⟨g1, g2⟩ | ⟨t, g1, g2, g3, r, g4, g5⟩
  · refine ⟨none, fun t q => ?_, by rw [g1]; rfl, fun j _ => by rw [g1]; rfl⟩
    obtain ⟨a, q, -⟩ := g2 t q
    cases q
  · refine ⟨some t, ⟨g1, g2⟩, by rw [g4]; rfl, fun j hj => ?_⟩
    rw [g4]
    show r j = grN e t W 0 h w j
    rw [g5 j, if_pos (by omega)]
