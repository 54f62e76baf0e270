/-! THE READER OF TEXTS, CLEAN. tx: the bytes, len of them; what is read from p on: what came of it (none: a fault), and where -/
def qNx (tx : Nat → Int32) (len p : Nat) : Int32 := if p < len then tx p else -1
def qDg (v : Int32) : Option Nat := if 48 ≤ v.toInt ∧ v.toInt ≤ 57 then some (v.toInt.toNat - 48) else none
def qN1 (tx : Nat → Int32) (len p : Nat) : Option Nat × Nat := match qDg (qNx tx len p) with
  | none => (none, p)
  | some a => (some a, p + 1)
def qN2 (tx : Nat → Int32) (len p : Nat) : Option Nat × Nat := match qDg (qNx tx len p) with
  | none => (none, p)
  | some a => match qDg (qNx tx len (p + 1)) with
    | none => (some a, p + 1)
    | some b => (some (10 * a + b), p + 2)
def qPl (v : Int32) : Option Nat := if v = 104 then some 0 else if v = 98 then some 1 else if v = 119 then some 2 else none
def qOp (v : Int32) : Option Nat := if v = 60 then some 0 else if v = 61 then some 1 else if v = 62 then some 2 else none
abbrev QRes : Type := Option (List Nat) × Nat
def qTs (tx : Nat → Int32) (len p : Nat) : QRes := match qPl (qNx tx len p) with
  | none => (none, p)
  | some pl => match qOp (qNx tx len (p + 1)) with
    | none => (none, p + 1)
    | some op => match qN2 tx len (p + 2) with
      | (none, p') => (none, p')
      | (some n, p') => (some [1000 * pl + 100 * op + n + 3], p')
def qP0 (tx : Nat → Int32) (len : Nat) (E : Nat → Nat → QRes) : Nat → Nat → Nat → QRes
  | 0, _, p => (none, p)
  | g + 1, d, p => if d < 4 ∧ qNx tx len p = 33 then (match qP0 tx len E g (d + 1) (p + 1) with
      | (none, p') => (none, p')
      | (some cs, p') => (some (cs ++ [0]), p'))
    else if d < 4 ∧ qNx tx len p = 40 then (match E (d + 1) (p + 1) with
      | (none, p') => (none, p')
      | (some cs, p') => if qNx tx len p' = 41 then (some cs, p' + 1) else (none, p'))
    else qTs tx len p
def qOr (o : Bool) : List Nat := if o = true then [2] else []
def qL0 (tx : Nat → Int32) (len : Nat) (P : Nat → Nat → QRes) : Nat → Nat → Bool → List Nat → Nat → QRes
  | 0, _, _, _, p => (none, p)
  | f + 1, d, o, cs, p => if qNx tx len p = 124 then (match P d (p + 1) with
      | (none, p') => (none, p')
      | (some c2, p') => qL0 tx len P f d true (cs ++ qOr o ++ c2) p')
    else if qNx tx len p = 38 then (match P d (p + 1) with
      | (none, p') => (none, p')
      | (some c2, p') => qL0 tx len P f d o (cs ++ c2 ++ [1]) p')
    else (some (cs ++ qOr o), p)
def qE0 (tx : Nat → Int32) (len : Nat) (P : Nat → Nat → QRes) (d p : Nat) : QRes := match P d p with
  | (none, p') => (none, p')
  | (some cs, p') => qL0 tx len P 101 d false cs p'
def qEP (tx : Nat → Int32) (len : Nat) : Nat → (Nat → Nat → QRes) × (Nat → Nat → QRes)
  | 0 => (fun _ p => (none, p), fun _ p => (none, p))
  | f + 1 => (qE0 tx len (qEP tx len f).2, qP0 tx len (qEP tx len f).1 5)
/-- a word, letter by letter -/
def qW (tx : Nat → Int32) (len : Nat) : List Nat → Nat → Bool × Nat
  | [], p => (true, p)
  | c :: cs, p => if qNx tx len p = nI c then qW tx len cs (p + 1) else (false, p)
section
variable {tx : Nat → Int32} {len p d f g : Nat} {o : Bool} {cs : List Nat}
theorem qNx_lt {c : Int32} (h : qNx tx len p = c) (hc : c ≠ -1) : p < len := by
  unfold qNx at h
  by_cases q : p < len
  · exact q
  · rw [if_neg q] at h
    exact absurd h.symm hc
theorem qDg_lt {a : Nat} (h : qDg (qNx tx len p) = some a) : p < len ∧ a ≤ 9 ∧ qNx tx len p = nI (48 + a) := by
  unfold qDg at h
  split at h
  · rename_i c
    have e : (qNx tx len p).toInt.toNat - 48 = a := Option.some.inj h
    refine ⟨?_, by omega, ?_⟩
    · unfold qNx at c
      by_cases q : p < len
      · exact q
      · rw [if_neg q] at c
        exact absurd c (by decide)
    · rw [j_of (qNx tx len p), nI_jI]
      congr 1
      omega
  · cases h
theorem qDg_none {v : Int32} (h : qDg v = none) : v < 48 ∨ 57 < v := by
  have hv := j_of v
  have b1 := Int32.le_toInt v
  have b2 := Int32.toInt_lt v
  unfold qDg at h
  split at h
  · cases h
  · rename_i c
    generalize v.toInt = z at *
    rw [hv, show (48 : Int32) = jI 48 from rfl, show (57 : Int32) = jI 57 from rfl, jlt (by omega) (by omega), jlt (by omega) (by omega)]
    omega
theorem qN1_b {r : Option Nat × Nat} (h : qN1 tx len p = r) : p ≤ r.2 ∧ (p ≤ len → r.2 ≤ len) ∧ (∀ a, r.1 = some a → a ≤ 9 ∧ p < r.2 ∧ r.2 ≤ len) := by
  unfold qN1 at h
  cases q : qDg (qNx tx len p) with
  | none => rw [q] at h; subst h; exact ⟨Nat.le_refl _, fun z => z, fun a z => by cases z⟩
  | some a =>
    rw [q] at h
    subst h
    obtain ⟨h1, h2, -⟩ := qDg_lt q
    exact ⟨by dsimp only; omega, fun _ => by dsimp only; omega, fun b z => by cases z; exact ⟨h2, by dsimp only; omega, by dsimp only; omega⟩⟩
theorem qN2_b {r : Option Nat × Nat} (h : qN2 tx len p = r) : p ≤ r.2 ∧ (p ≤ len → r.2 ≤ len) ∧ (∀ a, r.1 = some a → a ≤ 99 ∧ p < r.2 ∧ r.2 ≤ len) := by
  unfold qN2 at h
  cases q : qDg (qNx tx len p) with
  | none => rw [q] at h; subst h; exact ⟨Nat.le_refl _, fun z => z, fun a z => by cases z⟩
  | some a =>
    rw [q] at h
    obtain ⟨h1, h2, -⟩ := qDg_lt q
    cases q2 : qDg (qNx tx len (p + 1)) with
    | none =>
      rw [q2] at h
      subst h
      exact ⟨by dsimp only; omega, fun _ => by dsimp only; omega, fun b z => by cases z; exact ⟨by omega, by dsimp only; omega, by dsimp only; omega⟩⟩
    | some b =>
      rw [q2] at h
      subst h
      obtain ⟨h3, h4, -⟩ := qDg_lt q2
      exact ⟨by dsimp only; omega, fun _ => by dsimp only; omega, fun b z => by cases z; exact ⟨by omega, by dsimp only; omega, by dsimp only; omega⟩⟩
/-- what all results keep: they go on, and stay in the text; the codes are well-formed -/
def qWF (cs : List Nat) : Prop := (∀ c ∈ cs, c < 3003) ∧ ∀ h b y, ∃ v, ∀ st, runN h b y cs st = some (v :: st)
def qOK (len p : Nat) (r : QRes) : Prop := p ≤ r.2 ∧ (p ≤ len → r.2 ≤ len) ∧ ∀ cs, r.1 = some cs → p < r.2 ∧ r.2 ≤ len ∧ qWF cs
theorem qPl_s {v : Int32} {a : Nat} (h : qPl v = some a) : a ≤ 2 ∧ v ≠ -1 := by
  unfold qPl at h
  split at h
  · rename_i c; cases h; exact ⟨by omega, by rw [c]; decide⟩
  · split at h
    · rename_i c; cases h; exact ⟨by omega, by rw [c]; decide⟩
    · split at h
      · rename_i c; cases h; exact ⟨by omega, by rw [c]; decide⟩
      · cases h
theorem qOp_s {v : Int32} {a : Nat} (h : qOp v = some a) : a ≤ 2 ∧ v ≠ -1 := by
  unfold qOp at h
  split at h
  · rename_i c; cases h; exact ⟨by omega, by rw [c]; decide⟩
  · split at h
    · rename_i c; cases h; exact ⟨by omega, by rw [c]; decide⟩
    · split at h
      · rename_i c; cases h; exact ⟨by omega, by rw [c]; decide⟩
      · cases h
theorem qTs_ok : qOK len p (qTs tx len p) := by
  unfold qTs
  cases q : qPl (qNx tx len p) with
  | none => exact ⟨Nat.le_refl _, fun z => z, fun a z => by cases z⟩
  | some pl =>
    obtain ⟨a1, a2⟩ := qPl_s q
    have h1 := qNx_lt (tx := tx) (len := len) (p := p) rfl a2
    dsimp only
    cases q2 : qOp (qNx tx len (p + 1)) with
    | none => exact ⟨by dsimp only; omega, fun _ => by dsimp only; omega, fun a z => by cases z⟩
    | some op =>
      obtain ⟨b1, b2⟩ := qOp_s q2
      have h2 := qNx_lt (tx := tx) (len := len) (p := p + 1) rfl b2
      dsimp only
      have h3 := qN2_b (tx := tx) (len := len) (p := p + 2) rfl
      generalize qN2 tx len (p + 2) = r at h3
      obtain ⟨r1, r2⟩ := r
      obtain ⟨c1, c2, c3⟩ := h3
      cases r1 with
      | none => exact ⟨by dsimp only at c1 ⊢; omega, fun _ => c2 (by omega), fun a z => by cases z⟩
      | some n =>
        obtain ⟨d1, d2, d3⟩ := c3 n rfl
        refine ⟨by dsimp only at c1 ⊢; omega, fun _ => d3, fun a z => ?_⟩
        cases z
        refine ⟨by dsimp only at d2 ⊢; omega, d3, fun c hc => ?_, fun h b y => ⟨tsN (1000 * pl + 100 * op + n) h b y, fun st => rfl⟩⟩
        rw [List.mem_singleton] at hc
        omega
theorem qWF_not (h : qWF cs) : qWF (cs ++ [0]) := by
  refine ⟨fun c hc => ?_, fun hh b y => ?_⟩
  · rw [List.mem_append, List.mem_singleton] at hc
    rcases hc with hc | hc
    · exact h.1 c hc
    · omega
  · obtain ⟨v, hv⟩ := h.2 hh b y
    refine ⟨!v, fun st => ?_⟩
    rw [runN_app, hv]
    rfl
/-- codes that are pending behind an or: two values, if o -/
def qWO (o : Bool) (cs : List Nat) : Prop := (∀ c ∈ cs, c < 3003) ∧ ∀ h b y, ∃ v u, ∀ st, runN h b y cs st = some (v :: (if o = true then u :: st else st))
theorem qWO_end (h : qWO o cs) : qWF (cs ++ qOr o) := by
  refine ⟨fun c hc => ?_, fun hh b y => ?_⟩
  · rw [List.mem_append] at hc
    rcases hc with hc | hc
    · exact h.1 c hc
    · unfold qOr at hc
      split at hc
      · rw [List.mem_singleton] at hc; omega
      · cases hc
  · obtain ⟨v, u, hv⟩ := h.2 hh b y
    cases o with
    | false => exact ⟨v, fun st => by rw [runN_app, hv]; rfl⟩
    | true => exact ⟨u || v, fun st => by rw [runN_app, hv]; rfl⟩
theorem qWO_or {c2 : List Nat} (h : qWO o cs) (h2 : qWF c2) : qWO true (cs ++ qOr o ++ c2) := by
  have h1 := qWO_end h
  refine ⟨fun c hc => ?_, fun hh b y => ?_⟩
  · rw [List.mem_append] at hc
    rcases hc with hc | hc
    · exact h1.1 c hc
    · exact h2.1 c hc
  · obtain ⟨v, hv⟩ := h1.2 hh b y
    obtain ⟨u, hu⟩ := h2.2 hh b y
    exact ⟨u, v, fun st => by rw [runN_app, hv]; exact hu _⟩
theorem qWO_and {c2 : List Nat} (h : qWO o cs) (h2 : qWF c2) : qWO o (cs ++ c2 ++ [1]) := by
  refine ⟨fun c hc => ?_, fun hh b y => ?_⟩
  · rw [List.mem_append, List.mem_append, List.mem_singleton] at hc
    rcases hc with (hc | hc) | hc
    · exact h.1 c hc
    · exact h2.1 c hc
    · omega
  · obtain ⟨v, u, hv⟩ := h.2 hh b y
    obtain ⟨w, hw⟩ := h2.2 hh b y
    exact ⟨v && w, u, fun st => by rw [runN_app, runN_app, hv, Option.bind_some, hw]; rfl⟩
theorem qP0_ok {E : Nat → Nat → QRes} (hE : ∀ d p, qOK len p (E d p)) : ∀ (g d p : Nat), qOK len p (qP0 tx len E g d p) := by
  intro g
  induction g with
  | zero => intro d p; exact ⟨Nat.le_refl _, fun z => z, fun a z => by cases z⟩
  | succ g ih =>
    intro d p
    unfold qP0
    by_cases c1 : d < 4 ∧ qNx tx len p = 33
    · rw [if_pos c1]
      have h1 := qNx_lt c1.2 (by decide)
      have h2 := ih (d + 1) (p + 1)
      generalize qP0 tx len E g (d + 1) (p + 1) = r at h2
      obtain ⟨r1, r2⟩ := r
      obtain ⟨e1, e2, e3⟩ := h2
      cases r1 with
      | none => exact ⟨by dsimp only at e1 ⊢; omega, fun _ => e2 (by omega), fun a z => by cases z⟩
      | some cs =>
        obtain ⟨f1, f2, f3⟩ := e3 cs rfl
        refine ⟨by dsimp only at e1 ⊢; omega, fun _ => e2 (by omega), fun a z => ?_⟩
        cases z
        exact ⟨by dsimp only at f1 ⊢; omega, f2, qWF_not f3⟩
    rw [if_neg c1]
    by_cases c2 : d < 4 ∧ qNx tx len p = 40
    · rw [if_pos c2]
      have h1 := qNx_lt c2.2 (by decide)
      have h2 := hE (d + 1) (p + 1)
      generalize E (d + 1) (p + 1) = r at h2
      obtain ⟨r1, r2⟩ := r
      obtain ⟨e1, e2, e3⟩ := h2
      cases r1 with
      | none => exact ⟨by dsimp only at e1 ⊢; omega, fun _ => e2 (by omega), fun a z => by cases z⟩
      | some cs =>
        obtain ⟨f1, f2, f3⟩ := e3 cs rfl
        dsimp only at e1 f1 f2 ⊢
        by_cases c3 : qNx tx len r2 = 41
        · rw [if_pos c3]
          have h3 := qNx_lt c3 (by decide)
          exact ⟨by dsimp only; omega, fun _ => by dsimp only; omega, fun a z => by cases z; exact ⟨by dsimp only; omega, by dsimp only; omega, f3⟩⟩
        · rw [if_neg c3]
          exact ⟨by dsimp only; omega, fun _ => by dsimp only; omega, fun a z => by cases z⟩
    · rw [if_neg c2]
      exact qTs_ok
theorem qL0_ok {P : Nat → Nat → QRes} (hP : ∀ d p, qOK len p (P d p)) : ∀ (f d : Nat) (o : Bool) (cs : List Nat) (p p0 : Nat), qWO o cs → p0 < p → p ≤ len → qOK len p0 (qL0 tx len P f d o cs p) := by
  intro f
  induction f with
  | zero => intro d o cs p p0 h1 h2 h3; exact ⟨by unfold qL0; dsimp only; omega, fun _ => h3, fun a z => by cases z⟩
  | succ f ih =>
    intro d o cs p p0 h1 h2 h3
    unfold qL0
    have hp := hP d (p + 1)
    by_cases c1 : qNx tx len p = 124
    · rw [if_pos c1]
      have h4 := qNx_lt c1 (by decide)
      generalize P d (p + 1) = r at hp
      obtain ⟨r1, r2⟩ := r
      obtain ⟨e1, e2, e3⟩ := hp
      cases r1 with
      | none => exact ⟨by dsimp only at e1 ⊢; omega, fun _ => e2 (by omega), fun a z => by cases z⟩
      | some c2 =>
        obtain ⟨f1, f2, f3⟩ := e3 c2 rfl
        dsimp only at f1 f2 ⊢
        exact ih d true _ r2 p0 (qWO_or h1 f3) (by omega) f2
    rw [if_neg c1]
    by_cases c2 : qNx tx len p = 38
    · rw [if_pos c2]
      have h4 := qNx_lt c2 (by decide)
      generalize P d (p + 1) = r at hp
      obtain ⟨r1, r2⟩ := r
      obtain ⟨e1, e2, e3⟩ := hp
      cases r1 with
      | none => exact ⟨by dsimp only at e1 ⊢; omega, fun _ => e2 (by omega), fun a z => by cases z⟩
      | some c2 =>
        obtain ⟨f1, f2, f3⟩ := e3 c2 rfl
        dsimp only at f1 f2 ⊢
        exact ih d o _ r2 p0 (qWO_and h1 f3) (by omega) f2
    · rw [if_neg c2]
      exact ⟨by dsimp only; omega, fun _ => h3, fun a z => by cases z; exact ⟨by dsimp only; omega, h3, qWO_end h1⟩⟩
theorem qE0_ok {P : Nat → Nat → QRes} (hP : ∀ d p, qOK len p (P d p)) : qOK len p (qE0 tx len P d p) := by
  have h1 := hP d p
  unfold qE0
  generalize P d p = r at h1
  obtain ⟨r1, r2⟩ := r
  obtain ⟨e1, e2, e3⟩ := h1
  cases r1 with
  | none => exact ⟨e1, e2, fun a z => by cases z⟩
  | some cs =>
    obtain ⟨f1, f2, f3⟩ := e3 cs rfl
    exact qL0_ok hP 101 d false cs r2 p ⟨f3.1, fun h b y => by
      obtain ⟨v, hv⟩ := f3.2 h b y
      exact ⟨v, v, fun st => hv st⟩⟩ f1 f2
theorem qEP_ok : ∀ f, (∀ d p, qOK len p ((qEP tx len f).1 d p)) ∧ ∀ d p, qOK len p ((qEP tx len f).2 d p) := by
  intro f
  induction f with
  | zero => exact ⟨fun d p => ⟨Nat.le_refl _, fun z => z, fun a z => by cases z⟩, fun d p => ⟨Nat.le_refl _, fun z => z, fun a z => by cases z⟩⟩
  | succ f ih => exact ⟨fun d p => qE0_ok ih.2, fun d p => qP0_ok ih.1 5 d p⟩
end
