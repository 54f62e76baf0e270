/-! BEST, clean: what is known of a way through (a bundle): hour of the last drawing and length by place, cost of a way, what a well holds, a stand's hour, room -/
abbrev PE : Type := (Nat → Nat) × (Nat → Nat) × (Nat → Nat → Nat) × (Nat → Nat → Nat) × Nat × Nat
def PE.la (e : PE) : Nat → Nat := e.1
def PE.hr (e : PE) : Nat → Nat := e.2.1
def PE.co (e : PE) : Nat → Nat → Nat := e.2.2.1
def PE.he (e : PE) : Nat → Nat → Nat := e.2.2.2.1
def PE.sd (e : PE) : Nat := e.2.2.2.2.1
def PE.rm (e : PE) : Nat := e.2.2.2.2.2
/-- the hour of going on -/
def lvE (e : PE) (k h s : Nat) : Nat := max h (e.la k) + s
def fiE (e : PE) (k h w s : Nat) : Nat := min e.rm (w - (lvE e k h s - h) * e.sd + e.he k (lvE e k h s))
/-- from the well k, to which one comes at hour h with water w, by a stand of s hours to the next place -/
def stp (e : PE) (k s h w : Nat) : Option (Nat × Nat) :=
  if (lvE e k h s - h) * e.sd ≤ w ∧ e.co (k + 1) (lvE e k h s) ≤ fiE e k h w s then
    some (lvE e k h s + e.hr (k + 1), fiE e k h w s - e.co (k + 1) (lvE e k h s)) else none
theorem stp_some {e : PE} {k s h w : Nat} {p : Nat × Nat} (q : stp e k s h w = some p) : (lvE e k h s - h) * e.sd ≤ w ∧ e.co (k + 1) (lvE e k h s) ≤ fiE e k h w s ∧ p = (lvE e k h s + e.hr (k + 1), fiE e k h w s - e.co (k + 1) (lvE e k h s)) := by
  unfold stp at q
  split at q
  · rename_i c
    exact ⟨c.1, c.2, (Option.some.inj q).symm⟩
  · cases q
theorem stp_pos {e : PE} {k s h w : Nat} (h1 : (lvE e k h s - h) * e.sd ≤ w) (h2 : e.co (k + 1) (lvE e k h s) ≤ fiE e k h w s) : stp e k s h w = some (lvE e k h s + e.hr (k + 1), fiE e k h w s - e.co (k + 1) (lvE e k h s)) := by
  unfold stp
  rw [if_pos ⟨h1, h2⟩]
theorem stp_rm {e : PE} {k s h w : Nat} {p : Nat × Nat} (q : stp e k s h w = some p) : p.2 ≤ e.rm := by
  obtain ⟨-, -, rfl⟩ := stp_some q
  show fiE e k h w s - _ ≤ e.rm
  unfold fiE
  omega
theorem stp_mono {e : PE} {k s h w w' : Nat} {p : Nat × Nat} (hw : w ≤ w') (q : stp e k s h w = some p) : ∃ p', stp e k s h w' = some p' ∧ p'.1 = p.1 ∧ p.2 ≤ p'.2 := by
  obtain ⟨a, b, rfl⟩ := stp_some q
  have hf : fiE e k h w s ≤ fiE e k h w' s := by unfold fiE; omega
  exact ⟨_, stp_pos (by omega) (by omega), rfl, by show _ - _ ≤ _ - _; omega⟩
/-- from the place k on (f wells are left) one can come over at hour t -/
def CB (e : PE) : Nat → Nat → Nat → Nat → Nat → Prop
  | 0, _, h, _, t => h = t
  | f + 1, k, h, w, t => ∃ s, s ≤ 6 ∧ ∃ p, stp e k s h w = some p ∧ CB e f (k + 1) p.1 p.2 t
theorem CB_mono {e : PE} {t : Nat} : ∀ (f k h w w' : Nat), w ≤ w' → CB e f k h w t → CB e f k h w' t := by
  intro f
  induction f with
  | zero => intro k h w w' _ q; exact q
  | succ f ih =>
    intro k h w w' hw q
    obtain ⟨s, hs, p, h1, h2⟩ := q
    obtain ⟨p', g1, g2, g3⟩ := stp_mono hw h1
    refine ⟨s, hs, p', g1, ?_⟩
    rw [g2]
    exact ih _ _ _ _ g3 h2
/-- what one must have: by a stand of s hours, if x must be there behind the way -/
def due (e : PE) (X : Nat → Nat) (k h s : Nat) : Nat := X (lvE e k h s + e.hr (k + 1)) + e.co (k + 1) (lvE e k h s)
def needS (e : PE) (X : Nat → Nat) (k h s : Nat) : Nat :=
  if due e X k h s ≤ e.rm then (lvE e k h s - h) * e.sd + (due e X k h s - e.he k (lvE e k h s)) else 1000000
def mlN (g : Nat → Nat) : Nat → Nat
  | 0 => 1000000
  | m + 1 => min (mlN g m) (g m)
theorem mlN_le {g : Nat → Nat} {w : Nat} (hw : w < 1000000) : ∀ m, mlN g m ≤ w ↔ ∃ s, s < m ∧ g s ≤ w := by
  intro m
  induction m with
  | zero =>
    refine ⟨fun q => ?_, fun ⟨s, h, _⟩ => by omega⟩
    simp only [mlN] at q
    omega
  | succ m ih =>
    simp only [mlN]
    constructor
    · intro q
      by_cases c : mlN g m ≤ w
      · obtain ⟨s, h1, h2⟩ := ih.mp c
        exact ⟨s, by omega, h2⟩
      · exact ⟨m, by omega, by omega⟩
    · rintro ⟨s, h1, h2⟩
      by_cases c : s = m
      · subst c; omega
      · have := ih.mpr ⟨s, by omega, h2⟩
        omega
theorem mlN_b {g : Nat → Nat} : ∀ m, mlN g m ≤ 1000000 := by
  intro m
  induction m with
  | zero => simp [mlN]
  | succ m ih => simp only [mlN]; omega
def LN (e : PE) (t : Nat) : Nat → Nat → Nat → Nat
  | 0, _, h => if h = t then 0 else 1000000
  | f + 1, k, h => mlN (needS e (LN e t f (k + 1)) k h) 7
theorem LN_b {e : PE} {t : Nat} : ∀ f k h, LN e t f k h ≤ 1000000 := by
  intro f k h
  cases f with
  | zero => simp only [LN]; split <;> omega
  | succ f => exact mlN_b 7
/-- one stand leads on to a place where x is wanted -/
theorem need_iff {e : PE} {X : Nat → Nat} {k h w s : Nat} (hw : w ≤ e.rm) (hr : e.rm < 1000000) : needS e X k h s ≤ w ↔ ∃ p, stp e k s h w = some p ∧ X p.1 ≤ p.2 := by
  have hd : ∀ x, x = X (lvE e k h s + e.hr (k + 1)) → ∀ c, c = e.co (k + 1) (lvE e k h s) → due e X k h s = x + c := by
    intro x hx c hc; subst hx hc; rfl
  have hd := hd _ rfl _ rfl
  constructor
  · intro q
    unfold needS at q
    split at q
    · rename_i c
      rw [hd] at c q
      have hf : X (lvE e k h s + e.hr (k + 1)) + e.co (k + 1) (lvE e k h s) ≤ fiE e k h w s := by
        unfold fiE
        omega
      refine ⟨_, stp_pos (by omega) (by omega), ?_⟩
      show X (lvE e k h s + e.hr (k + 1)) ≤ fiE e k h w s - e.co (k + 1) (lvE e k h s)
      omega
    · omega
  · rintro ⟨p, h1, h2⟩
    obtain ⟨a, b, rfl⟩ := stp_some h1
    have h2 : X (lvE e k h s + e.hr (k + 1)) ≤ fiE e k h w s - e.co (k + 1) (lvE e k h s) := h2
    have hf : fiE e k h w s ≤ e.rm ∧ fiE e k h w s ≤ w - (lvE e k h s - h) * e.sd + e.he k (lvE e k h s) := by
      unfold fiE
      omega
    unfold needS
    rw [if_pos (by rw [hd]; omega), hd]
    omega
theorem CB_iff {e : PE} {t : Nat} (hr : e.rm < 1000000) : ∀ (f k h w : Nat), w ≤ e.rm → (CB e f k h w t ↔ LN e t f k h ≤ w) := by
  intro f
  induction f with
  | zero =>
    intro k h w hw
    simp only [CB, LN]
    by_cases q : h = t
    · rw [if_pos q]; exact ⟨fun _ => Nat.zero_le _, fun _ => q⟩
    · rw [if_neg q]; exact ⟨fun c => absurd c q, fun c => by omega⟩
  | succ f ih =>
    intro k h w hw
    simp only [CB, LN]
    rw [mlN_le (by omega)]
    constructor
    · rintro ⟨s, hs, p, h1, h2⟩
      exact ⟨s, by omega, (need_iff hw hr).mpr ⟨p, h1, (ih _ _ _ (stp_rm h1)).mp h2⟩⟩
    · rintro ⟨s, hs, q⟩
      obtain ⟨p, h1, h2⟩ := (need_iff hw hr).mp q
      exact ⟨s, by omega, p, h1, (ih _ _ _ (stp_rm h1)).mpr h2⟩
/-- the first of m stands from s on that will do (the one behind them, if none) -/
def fsN (p : Nat → Bool) : Nat → Nat → Nat
  | 0, s => s
  | m + 1, s => if p s = true then s else fsN p m (s + 1)
theorem fsN_le {p : Nat → Bool} : ∀ m s, s ≤ fsN p m s ∧ fsN p m s ≤ s + m := by
  intro m
  induction m with
  | zero => intro s; simp [fsN]
  | succ m ih =>
    intro s
    simp only [fsN]
    have := ih (s + 1)
    split <;> omega
theorem fsN_is {p : Nat → Bool} {x : Nat} (hx : p x = true) : ∀ m s, s ≤ x → x ≤ s + m → (∀ y, s ≤ y → y < x → p y = false) → fsN p m s = x := by
  intro m
  induction m with
  | zero => intro s h1 h2 _; simp only [fsN]; omega
  | succ m ih =>
    intro s h1 h2 hn
    simp only [fsN]
    by_cases c : s = x
    · subst c; rw [if_pos hx]
    · rw [if_neg (by rw [hn s (Nat.le_refl _) (by omega)]; decide)]
      exact ih (s + 1) (by omega) (by omega) (fun y h3 h4 => hn y (by omega) h4)
theorem fsN_ex {p : Nat → Bool} : ∀ m s, (∃ x, s ≤ x ∧ x ≤ s + m ∧ p x = true) → p (fsN p m s) = true := by
  intro m
  induction m with
  | zero =>
    rintro s ⟨x, h1, h2, h3⟩
    simp only [fsN]
    rw [show s = x by omega]
    exact h3
  | succ m ih =>
    rintro s ⟨x, h1, h2, h3⟩
    simp only [fsN]
    by_cases c : p s = true
    · rw [if_pos c]; exact c
    · rw [if_neg c]
      refine ih (s + 1) ⟨x, ?_, by omega, h3⟩
      by_cases d : s = x
      · subst d; exact absurd h3 c
      · omega
/-- does a stand lead on to coming over at t -/
def okB (e : PE) (t f k h w s : Nat) : Bool := match stp e k s h w with
  | some p => decide (LN e t f (k + 1) p.1 ≤ p.2)
  | none => false
theorem okB_iff {e : PE} {t f k h w s : Nat} (hr : e.rm < 1000000) : okB e t f k h w s = true ↔ ∃ p, stp e k s h w = some p ∧ CB e f (k + 1) p.1 p.2 t := by
  unfold okB
  cases q : stp e k s h w with
  | none => simp
  | some p =>
    simp only [decide_eq_true_eq]
    rw [← CB_iff hr _ _ _ _ (stp_rm q)]
    exact ⟨fun c => ⟨p, rfl, c⟩, fun ⟨p', h1, h2⟩ => by cases h1; exact h2⟩
/-- the first row by which one comes over at t -/
def grN (e : PE) (t : Nat) : Nat → Nat → Nat → Nat → Nat → Nat
  | 0, _, _, _, _ => 0
  | f + 1, k, h, w, j =>
    if j = k then fsN (okB e t f k h w) 6 0
    else match stp e k (fsN (okB e t f k h w) 6 0) h w with
      | some p => grN e t f (k + 1) p.1 p.2 j
      | none => 0
theorem grN_le {e : PE} {t : Nat} : ∀ f k h w j, grN e t f k h w j ≤ 6 := by
  intro f
  induction f with
  | zero => intro k h w j; simp [grN]
  | succ f ih =>
    intro k h w j
    simp only [grN]
    split
    · have := (fsN_le (p := okB e t f k h w) 6 0).2
      omega
    · split
      · exact ih _ _ _ _
      · omega
/-- the search place by place -/
abbrev Ac : Type := Option (Nat × (Nat → Nat))
def lpN {α : Type} (G : Nat → α → α) : Nat → Nat → α → α
  | 0, _, a => a
  | m + 1, c, a => lpN G m (c + 1) (G c a)
def leafN (h : Nat) (pr : Nat → Nat) (acc : Ac) : Ac := match acc with
  | none => some (h, pr)
  | some a => if h < a.1 then some (h, pr) else some a
def dfsN (e : PE) : Nat → Nat → Nat → Nat → (Nat → Nat) → Ac → Ac
  | 0, _, h, _, pr, acc => leafN h pr acc
  | f + 1, k, h, w, pr, acc => lpN (fun c acc => match stp e k c h w with
    | some p => dfsN e f (k + 1) p.1 p.2 (u1 pr k c) acc
    | none => acc) 7 0 acc
def DS (e : PE) (f k h w : Nat) (pr : Nat → Nat) (acc acc' : Ac) : Prop :=
  (acc' = acc ∧ ∀ t, CB e f k h w t → ∃ a, acc = some a ∧ a.1 ≤ t) ∨
  ∃ t, CB e f k h w t ∧ (∀ t', CB e f k h w t' → t ≤ t') ∧ (∀ a, acc = some a → t < a.1) ∧ ∃ r, acc' = some (t, r) ∧ ∀ j, r j = if k ≤ j ∧ j < k + f then grN e t f k h w j else pr j
theorem dfsN_ok {e : PE} (hr : e.rm < 1000000) : ∀ (f k h w : Nat) (pr : Nat → Nat) (acc : Ac), DS e f k h w pr acc (dfsN e f k h w pr acc) := by
  intro f
  induction f with
  | zero =>
    intro k h w pr acc
    unfold dfsN leafN
    cases acc with
    | none =>
      refine Or.inr ⟨h, rfl, fun t' q => (by have q : h = t' := q; omega), fun a q => (by cases q), pr, rfl, fun j => ?_⟩
      rw [if_neg (by omega)]
    | some a =>
      by_cases c : h < a.1
      · refine Or.inr ⟨h, rfl, fun t' q => (by have q : h = t' := q; omega), fun b q => (by cases q; exact c), pr, (by simp only [if_pos c]), fun j => ?_⟩
        rw [if_neg (by omega)]
      · refine Or.inl ⟨by simp only [if_neg c], fun t q => ⟨a, rfl, ?_⟩⟩
        have q : h = t := q
        omega
  | succ f ih =>
    intro k h w pr acc
    have inner : ∀ (m c : Nat) (acc : Ac), c + m = 7 → ∀ acc', acc' = lpN (fun c acc => match stp e k c h w with
        | some p => dfsN e f (k + 1) p.1 p.2 (u1 pr k c) acc
        | none => acc) m c acc →
        (acc' = acc ∧ ∀ t s p, c ≤ s → s ≤ 6 → stp e k s h w = some p → CB e f (k + 1) p.1 p.2 t → ∃ a, acc = some a ∧ a.1 ≤ t) ∨
        ∃ t s p, c ≤ s ∧ s ≤ 6 ∧ stp e k s h w = some p ∧ CB e f (k + 1) p.1 p.2 t ∧ (∀ t' s' p', c ≤ s' → s' ≤ 6 → stp e k s' h w = some p' → CB e f (k + 1) p'.1 p'.2 t' → t ≤ t') ∧
          (∀ s', c ≤ s' → s' < s → ¬ ∃ p', stp e k s' h w = some p' ∧ CB e f (k + 1) p'.1 p'.2 t) ∧ (∀ a, acc = some a → t < a.1) ∧
          ∃ r, acc' = some (t, r) ∧ ∀ j, r j = if k + 1 ≤ j ∧ j < k + 1 + f then grN e t f (k + 1) p.1 p.2 j else u1 pr k s j := by
      intro m
      induction m with
      | zero =>
        intro c acc hc acc' ha
        simp only [lpN] at ha
        exact Or.inl ⟨ha, fun t s p h1 h2 => by omega⟩
      | succ m ihm =>
        intro c acc hc acc' ha
        simp only [lpN] at ha
        cases q : stp e k c h w with
        | none =>
          rw [q] at ha
          rcases ihm (c + 1) acc (by omega) acc' ha with ⟨g1, g2⟩ | ⟨t, s, p, g1, g2, g3, g4, g5, g6, g7, g8⟩
          · refine Or.inl ⟨g1, fun t s p h1 h2 h3 h4 => ?_⟩
            by_cases d : s = c
            · subst d; rw [q] at h3; cases h3
            · exact g2 t s p (by omega) h2 h3 h4
          · refine Or.inr ⟨t, s, p, by omega, g2, g3, g4, fun t' s' p' h1 h2 h3 h4 => ?_, fun s' h1 h2 h3 => ?_, g7, g8⟩
            · by_cases d : s' = c
              · subst d; rw [q] at h3; cases h3
              · exact g5 t' s' p' (by omega) h2 h3 h4
            · by_cases d : s' = c
              · subst d; obtain ⟨p', h3, -⟩ := h3; rw [q] at h3; cases h3
              · exact g6 s' (by omega) h2 h3
        | some pc =>
          rw [q] at ha
          have hd := ih (k + 1) pc.1 pc.2 (u1 pr k c) acc
          rcases hd with ⟨e1, e2⟩ | ⟨t1, e1, e2, e3, r1, e4, e5⟩
          · have ha : acc' = lpN _ m (c + 1) (dfsN e f (k + 1) pc.1 pc.2 (u1 pr k c) acc) := ha
            rw [e1] at ha
            rcases ihm (c + 1) acc (by omega) acc' ha with ⟨g1, g2⟩ | ⟨t, s, p, g1, g2, g3, g4, g5, g6, g7, g8⟩
            · refine Or.inl ⟨g1, fun t s p h1 h2 h3 h4 => ?_⟩
              by_cases d : s = c
              · subst d; rw [q] at h3; cases h3; exact e2 t h4
              · exact g2 t s p (by omega) h2 h3 h4
            · refine Or.inr ⟨t, s, p, by omega, g2, g3, g4, fun t' s' p' h1 h2 h3 h4 => ?_, fun s' h1 h2 h3 => ?_, g7, g8⟩
              · by_cases d : s' = c
                · subst d
                  rw [q] at h3
                  cases h3
                  obtain ⟨a, a1, a2⟩ := e2 t' h4
                  have := g7 a a1
                  omega
                · exact g5 t' s' p' (by omega) h2 h3 h4
              · by_cases d : s' = c
                · subst d
                  obtain ⟨p', h3, h4⟩ := h3
                  rw [q] at h3
                  cases h3
                  obtain ⟨a, a1, a2⟩ := e2 t h4
                  have := g7 a a1
                  omega
                · exact g6 s' (by omega) h2 h3
          · have ha : acc' = lpN _ m (c + 1) (dfsN e f (k + 1) pc.1 pc.2 (u1 pr k c) acc) := ha
            rw [e4] at ha
            rcases ihm (c + 1) (some (t1, r1)) (by omega) acc' ha with ⟨g1, g2⟩ | ⟨t, s, p, g1, g2, g3, g4, g5, g6, g7, g8⟩
            · refine Or.inr ⟨t1, c, pc, Nat.le_refl _, by omega, q, e1, fun t' s' p' h1 h2 h3 h4 => ?_, fun s' h1 h2 => by omega, e3, r1, g1, e5⟩
              by_cases d : s' = c
              · subst d; rw [q] at h3; cases h3; exact e2 t' h4
              · obtain ⟨a, a1, a2⟩ := g2 t' s' p' (by omega) h2 h3 h4
                cases a1
                exact a2
            · have g7' : t < t1 := g7 (t1, r1) rfl
              refine Or.inr ⟨t, s, p, by omega, g2, g3, g4, fun t' s' p' h1 h2 h3 h4 => ?_, fun s' h1 h2 h3 => ?_, fun a ha => by have := e3 a ha; omega, g8⟩
              · by_cases d : s' = c
                · subst d
                  rw [q] at h3
                  cases h3
                  have := e2 t' h4
                  omega
                · exact g5 t' s' p' (by omega) h2 h3 h4
              · by_cases d : s' = c
                · subst d
                  obtain ⟨p', h3, h4⟩ := h3
                  rw [q] at h3
                  cases h3
                  have := e2 t h4
                  omega
                · exact g6 s' (by omega) h2 h3
    rcases inner 7 0 acc rfl _ rfl with ⟨g1, g2⟩ | ⟨t, s, p, g1, g2, g3, g4, g5, g6, g7, r, g8, g9⟩
    · refine Or.inl ⟨g1, fun t q => ?_⟩
      obtain ⟨s, hs, p, h1, h2⟩ := q
      exact g2 t s p (by omega) hs h1 h2
    · refine Or.inr ⟨t, ⟨s, g2, p, g3, g4⟩, fun t' q => ?_, g7, r, g8, fun j => ?_⟩
      · obtain ⟨s', hs, p', h1, h2⟩ := q
        exact g5 t' s' p' (by omega) hs h1 h2
      · have hf : fsN (okB e t f k h w) 6 0 = s := by
          refine fsN_is ((okB_iff hr).mpr ⟨p, g3, g4⟩) 6 0 (by omega) (by omega) (fun y h1 h2 => ?_)
          rw [← Bool.not_eq_true, okB_iff hr]
          exact g6 y (by omega) h2
        rw [g9 j]
        simp only [grN]
        rw [hf, g3]
        by_cases c1 : j = k
        · subst c1
          rw [if_neg (by omega), if_pos (by omega), if_pos rfl, u1_eq]
        · by_cases c2 : k ≤ j ∧ j < k + (f + 1)
          · rw [if_pos (by omega), if_pos c2, if_neg c1]
          · rw [if_neg (by omega), if_neg c2, u1_ne c1]
