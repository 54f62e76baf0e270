/-! the text, clause by clause -/
def qPs (tx : Nat → Int32) (len : Nat) : Nat → Nat
  | 0 => 0
  | n + 1 => (qC tx len (qPs tx len n)).2 + 1
def qEn (tx : Nat → Int32) (len n : Nat) : Nat := (qC tx len (qPs tx len n)).2
def qCls (tx : Nat → Int32) (len n : Nat) : Option QCl := (qC tx len (qPs tx len n)).1
def qGet (tx : Nat → Int32) (len n : Nat) : QCl := (qCls tx len n).getD (0, 0, 0, [], 0)
def qOut (tx : Nat → Int32) (len : Nat) : Nat → Nat → Option Nat × Nat
  | 0, _ => (none, 0)
  | f + 1, n => match qCls tx len n with
    | none => (none, qEn tx len n)
    | some _ => if qEn tx len n = len then (some (n + 1), len) else if n + 1 = 12 then (none, qEn tx len n) else if qNx tx len (qEn tx len n) = 59 then qOut tx len f (n + 1) else (none, qEn tx len n)
def dNq (w : Nat → Nat) : Nat → Nat
  | 0 => 0
  | n + 1 => if w n = 2 then dNq w n + 1 else dNq w n
theorem dNq_le (w : Nat → Nat) (n : Nat) : dNq w n ≤ n := by
  induction n with
  | zero => exact Nat.le_refl _
  | succ n ih => unfold dNq; split <;> omega
theorem dNq_mono (w : Nat → Nat) {m n : Nat} (h : m ≤ n) : dNq w m ≤ dNq w n := by
  induction n with
  | zero => have : m = 0 := by omega
            subst this; exact Nat.le_refl _
  | succ n ih =>
    by_cases c : m = n + 1
    · subst c; exact Nat.le_refl _
    · have := ih (by omega)
      have h2 : dNq w (n + 1) = if w n = 2 then dNq w n + 1 else dNq w n := rfl
      rw [h2]
      split <;> omega
theorem dNq_lt (w : Nat → Nat) {m n : Nat} (h : m < n) (h2 : w m = 2) : dNq w m < dNq w n := by
  have := dNq_mono w (show m + 1 ≤ n from h)
  have e : dNq w (m + 1) = dNq w m + 1 := if_pos h2
  omega
def qw (tx : Nat → Int32) (len n : Nat) : Nat := (qGet tx len n).1
def qc (tx : Nat → Int32) (len n : Nat) : Nat := (qGet tx len n).2.1
def qd (tx : Nat → Int32) (len n : Nat) : Nat := (qGet tx len n).2.2.1
def qcs (tx : Nat → Int32) (len n : Nat) : List Nat := (qGet tx len n).2.2.2.1
def qpl (tx : Nat → Int32) (len n : Nat) : Nat := (qGet tx len n).2.2.2.2
/-- the class, when n clauses are read and it stands at p -/
def CIq (x q : Nat) (tx : Nat → Int32) (len n p : Nat) (I0 I : Im) : Prop := CFq x q I0 I ∧ I (x + 1) 1 = nI len ∧ I (x + 1) 2 = nI p ∧ I (x + 1) 3 = 1 ∧ I (x + 1) 4 = nI (dNq (qw tx len) n) ∧ WsC q I (wlN (qw tx len) n) (wyN (qw tx len) n) (wlV (qw tx len) (qc tx len) n) (wlV (qw tx len) (qd tx len) n) (wyV (qw tx len) (qc tx len) n) ∧ I q 2 = nI (laV (qw tx len) (qc tx len) 3 10 n) ∧ I q 3 = nI (laV (qw tx len) (qc tx len) 4 1 n) ∧ I q 4 = nI (laV (qw tx len) (qc tx len) 5 0 n) ∧ ∀ m, m < n → qw tx len m = 2 → I (x + 3) (dNq (qw tx len) m) = nI (qc tx len m) ∧ I (x + 4) (dNq (qw tx len) m) = nI (qpl tx len m)
def FEq (x q len p : Nat) (I0 I : Im) : Prop := CFq x q I0 I ∧ I (x + 1) 1 = nI len ∧ I (x + 1) 2 = nI p ∧ I (x + 1) 3 = 0
section
variable {x p p' len d f i k n q D W Y N : Nat} {Z : Nat → Nat} {tx : Nat → Int32} {K : Sh} {I I0 I1 : Im} {R : Rf} {c : Int32} {fu gi hr : Nat → Nat}
theorem CFq.trans {I2 : Im} (h : CFq x q I I1) (h2 : CFq x q I1 I2) : CFq x q I I2 := fun z z1 z2 z3 z4 z5 z6 z7 => (h2 z z1 z2 z3 z4 z5 z6 z7).trans (h z z1 z2 z3 z4 z5 z6 z7)
theorem wlV_s {w c : Nat → Nat} {n : Nat} : wlV w c (n + 1) = if w n = 0 ∧ wlN w n < 5 then u1 (wlV w c n) (wlN w n) (c n) else wlV w c n := by
  funext k
  show (if w n = 0 ∧ wlN w n < 5 ∧ k = wlN w n then c n else wlV w c n k) = _
  by_cases h : w n = 0 ∧ wlN w n < 5
  · rw [if_pos h]
    unfold u1
    by_cases hk : k = wlN w n
    · rw [if_pos ⟨h.1, h.2, hk⟩, if_pos hk]
    · rw [if_neg (fun e => hk e.2.2), if_neg hk]
  · rw [if_neg h, if_neg (fun e => h ⟨e.1, e.2.1⟩)]
theorem wyV_s {w c : Nat → Nat} {n : Nat} : wyV w c (n + 1) = if w n = 1 ∧ wyN w n < 6 then u1 (wyV w c n) (wyN w n) (max (c n) 1) else wyV w c n := by
  funext k
  show (if w n = 1 ∧ wyN w n < 6 ∧ k = wyN w n then max (c n) 1 else wyV w c n k) = _
  by_cases h : w n = 1 ∧ wyN w n < 6
  · rw [if_pos h]
    unfold u1
    by_cases hk : k = wyN w n
    · rw [if_pos ⟨h.1, h.2, hk⟩, if_pos hk]
    · rw [if_neg (fun e => hk e.2.2), if_neg hk]
  · rw [if_neg h, if_neg (fun e => h ⟨e.1, e.2.1⟩)]
/-- one clause more -/
theorem c_next_clause (hS4 : S4 (x + 1) K R) (hl : len ≤ 100) (htx : ∀ j, j < len → I0 (x + 2) j = tx j) {Zn : Nat} (hZ : ZOK Z Zn) (hS : S9 q K R) (hq : x + 110 ≤ q) (h : CIq x q tx len n (qPs tx len n) I0 I) (hp : qPs tx len n ≤ len) (hn : n < 12) : ∃ I1, f_X4_readClause Z K R (x + 1) (some q) I = some I1 ∧ ((qCls tx len n = none ∧ FEq x q len (qEn tx len n) I0 I1) ∨ (∃ t, qCls tx len n = some t ∧ CIq x q tx len (n + 1) (qEn tx len n) I0 I1)) := by
  obtain ⟨h1, h2, h3, h4, h5, h6, h7, h8, h9, h10⟩ := h
  have hRB : RB x tx len K I R := ⟨hS4, hl, h2, h4, fun j hj => by rw [h1 _ (by omega) (by omega) (by omega) (by omega) (by omega) (by omega) (by omega)]; exact htx j hj⟩
  have dl := dNq_le (qw tx len) n
  obtain ⟨I1, g1, g2, g3, g4, g5⟩ := c_clause hRB hZ hS hq hp h6 (wlN_le _ _) (wyN_le _ _) h5 (by omega)
  rw [stQ_self h3] at g1
  refine ⟨I1, g1, ?_⟩
  cases hc : qCls tx len n with
  | none =>
    refine Or.inl ⟨rfl, h1.trans g2, g3, g4, ?_⟩
    rw [show (qC tx len (qPs tx len n)).1 = none from hc] at g5
    exact g5
  | some t =>
    rw [show (qC tx len (qPs tx len n)).1 = some t from hc] at g5
    have hg : qGet tx len n = t := by
      unfold qGet
      rw [hc]
      rfl
    have ew : qw tx len n = t.1 := by unfold qw; rw [hg]
    have ec : qc tx len n = t.2.1 := by unfold qc; rw [hg]
    have ed : qd tx len n = t.2.2.1 := by unfold qd; rw [hg]
    have ep : qpl tx len n = t.2.2.2.2 := by unfold qpl; rw [hg]
    obtain ⟨k1, k2, k3, k4, k5, k6, k7, k8⟩ := g5
    rw [← ew, ← ec] at *
    rw [← ed] at k3
    rw [← ep] at k8
    refine Or.inr ⟨t, rfl, h1.trans g2, g3, g4, k1, k2, ?_, ?_, ?_, ?_, fun m hm hw => ?_⟩
    · rw [wlV_s, wlV_s, wyV_s]
      exact k3
    · rw [k4, h7]
      show _ = nI (if qw tx len n = 3 then qc tx len n else laV (qw tx len) (qc tx len) 3 10 n)
      split <;> rfl
    · rw [k5, h8]
      show _ = nI (if qw tx len n = 4 then qc tx len n else laV (qw tx len) (qc tx len) 4 1 n)
      split <;> rfl
    · rw [k6, h9]
      show _ = nI (if qw tx len n = 5 then qc tx len n else laV (qw tx len) (qc tx len) 5 0 n)
      split <;> rfl
    · by_cases hmn : m = n
      · subst hmn
        exact k8 hw
      · have lt := dNq_lt (qw tx len) (show m < n by omega) hw
        obtain ⟨e1, e2⟩ := k7 (dNq (qw tx len) m) (fun _ => by omega)
        rw [e1, e2]
        exact h10 m (by omega) hw
theorem qEn_b (hp : qPs tx len n ≤ len) : qEn tx len n ≤ len ∧ (∀ t, qCls tx len n = some t → qPs tx len n < qEn tx len n) := by
  unfold qEn qCls qC
  have wb := qWN_b (tx := tx) (kd := qHd (qNx tx len (qPs tx len n)) (qNx tx len (qPs tx len n + 1))) hp
  generalize qHd (qNx tx len (qPs tx len n)) (qNx tx len (qPs tx len n + 1)) = kd at wb ⊢
  generalize qWN tx len kd (qPs tx len n) = r at wb ⊢
  obtain ⟨r1, r2⟩ := r
  obtain ⟨b1, b2, b3⟩ := wb
  dsimp only at b1 b2 b3
  cases r1 with
  | none => exact ⟨b2, fun t z => by cases z⟩
  | some c =>
    have b3 := (b3 c rfl).2.2
    show (qCk tx len kd c r2).2 ≤ len ∧ ∀ t, (qCk tx len kd c r2).1 = some t → _ < (qCk tx len kd c r2).2
    unfold qCk
    by_cases k2 : kd = 2
    · rw [if_pos k2]
      by_cases h32 : qNx tx len r2 = 32
      · have hlt := qNx_lt h32 (by decide)
        rw [if_pos h32]
        have ok := (qEP_ok (tx := tx) (len := len) 14).1 0 (r2 + 1)
        generalize (qEP tx len 14).1 0 (r2 + 1) = s at ok ⊢
        obtain ⟨s1, s2⟩ := s
        obtain ⟨a1, a2, a3⟩ := ok
        cases s1 with
        | none => exact ⟨a2 (by omega), fun t z => by cases z⟩
        | some cs => exact ⟨a2 (by omega), fun t _ => by dsimp only at a1 ⊢; omega⟩
      · rw [if_neg h32]
        exact ⟨b2, fun t z => by cases z⟩
    rw [if_neg k2]
    by_cases k0 : kd = 0
    · rw [if_pos k0]
      by_cases h32 : qNx tx len r2 = 32
      · have hlt := qNx_lt h32 (by decide)
        rw [if_pos h32]
        have ok := qN2_b (tx := tx) (len := len) (p := r2 + 1) rfl
        generalize qN2 tx len (r2 + 1) = s at ok ⊢
        obtain ⟨s1, s2⟩ := s
        obtain ⟨a1, a2, a3⟩ := ok
        cases s1 with
        | none => exact ⟨a2 (by omega), fun t z => by cases z⟩
        | some cs => exact ⟨a2 (by omega), fun t _ => by dsimp only at a1 ⊢; omega⟩
      · rw [if_neg h32]
        exact ⟨b2, fun t z => by cases z⟩
    · rw [if_neg k0]
      exact ⟨b2, fun t _ => b3⟩
/-- what came of the text, as the class holds it -/
def OUq (x q : Nat) (tx : Nat → Int32) (len : Nat) (r : Option Nat × Nat) (I0 I : Im) : Prop := match r with
  | (some N, _) => 1 ≤ N ∧ N ≤ 12 ∧ (∀ m, m < N → ∃ t, qCls tx len m = some t) ∧ CIq x q tx len N len I0 I
  | (none, pf) => CFq x q I0 I ∧ I (x + 1) 1 = nI len ∧ I (x + 1) 2 = nI pf ∧ pf ≤ len ∧ (I (x + 1) 3 = 0 ∨ (I (x + 1) 3 = 1 ∧ pf < len))
theorem c_26 (hS4 : S4 (x + 1) K R) (hl : len ≤ 100) (htx : ∀ j, j < len → I0 (x + 2) j = tx j) {Zn nn : Nat} (hZ : ZOK Z Zn) (hS : S9 q K R) (hq : x + 110 ≤ q) : ∀ (g n f : Nat) (I : Im), g + n = 12 → 1 ≤ g → g < f → (∀ m, m < n → ∃ t, qCls tx len m = some t) → qPs tx len n ≤ len → ((qCls tx len n = none ∧ FEq x q len (qEn tx len n) I0 I) ∨ (∃ t, qCls tx len n = some t ∧ CIq x q tx len (n + 1) (qEn tx len n) I0 I)) → ∃ I1, f_X4_readInto_26 Z (x + 1) f (some q) (nI (n + 1)) K nn I R = f_X4_readInto_62 Z (x + 1) (some q) K nn I1 R ∧ OUq x q tx len (qOut tx len g n) I0 I1 := by
  intro g
  induction g with
  | zero => intro n f I _ h; omega
  | succ g ih =>
    intro n f I e1 e2 e3 hprev hp h
    obtain ⟨f, rfl⟩ : ∃ f', f = f' + 1 := ⟨f - 1, by omega⟩
    have o5 : ob K 5 (some (x + 1)) = some (x + 1) := ob_ok (by rw [hS4.1])
    have eb := qEn_b hp
    unfold qOut
    rw [f_X4_readInto_26, o5]
    rcases h with ⟨h1, h2⟩ | ⟨t, h1, h2⟩
    · rw [h1]
      refine ⟨I, ?_, h2.1, h2.2.1, h2.2.2.1, eb.1, Or.inl h2.2.2.2⟩
      by_cases c12 : 12 ≤ n + 1
      · rw [if_pos (show 12 ≤ nI (n + 1) by rw [L12, nI_leI (by omega) (by omega)]; exact c12)]
      · rw [if_neg (show ¬ 12 ≤ nI (n + 1) by rw [L12, nI_leI (by omega) (by omega)]; exact c12), obs]
        have nx : f_X4_next K I R (x + 1) = some (-1) := by
          unfold f_X4_next
          rw [if_pos h2.2.2.2]
        rw [nx, obs, if_neg (by decide)]
    · obtain ⟨i1, i2, i3, i4, i5⟩ := h2
      have hall : ∀ m, m < n + 1 → ∃ t, qCls tx len m = some t := fun m hm => by
        by_cases c : m = n
        · subst c; exact ⟨t, h1⟩
        · exact hprev m (by omega)
      have hRB : RB x tx len K I R := ⟨hS4, hl, i2, i4, fun j hj => by rw [i1 _ (by omega) (by omega) (by omega) (by omega) (by omega) (by omega) (by omega)]; exact htx j hj⟩
      have nx : f_X4_next K I R (x + 1) = some (qNx tx len (qEn tx len n)) := by
        have := c_next (p := qEn tx len n) hRB (by omega)
        rw [stQ_self i3] at this
        exact this
      rw [h1]
      dsimp only
      by_cases cE : qEn tx len n = len
      · rw [if_pos cE]
        have nx1 : qNx tx len (qEn tx len n) = -1 := by
          unfold qNx
          rw [cE, if_neg (Nat.lt_irrefl _)]
        refine ⟨I, ?_, by omega, by omega, hall, i1, i2, by rw [← cE]; exact i3, i4, i5⟩
        by_cases c12 : 12 ≤ n + 1
        · rw [if_pos (show 12 ≤ nI (n + 1) by rw [L12, nI_leI (by omega) (by omega)]; exact c12)]
        · rw [if_neg (show ¬ 12 ≤ nI (n + 1) by rw [L12, nI_leI (by omega) (by omega)]; exact c12), obs, nx, obs, nx1, if_neg (by decide)]
      rw [if_neg cE]
      by_cases c12 : n + 1 = 12
      · rw [if_pos c12, if_pos (show 12 ≤ nI (n + 1) by rw [L12, nI_leI (by omega) (by omega)]; omega)]
        exact ⟨I, rfl, i1, i2, i3, eb.1, Or.inr ⟨i4, by omega⟩⟩
      rw [if_neg c12, if_neg (show ¬ 12 ≤ nI (n + 1) by rw [L12, nI_leI (by omega) (by omega)]; omega), obs, nx, obs]
      by_cases c59 : qNx tx len (qEn tx len n) = 59
      · rw [if_pos c59, if_pos c59, obs]
        have st : u2 I (x + 1) 2 (I (x + 1) 2 + 1) = stQ x (qPs tx len (n + 1)) I := by
          rw [i3, L1, nI_add]
          rfl
        rw [st]
        have hp1 : qPs tx len (n + 1) ≤ len := qNx_lt c59 (by decide)
        have hCI : CIq x q tx len (n + 1) (qPs tx len (n + 1)) I0 (stQ x (qPs tx len (n + 1)) I) := by
          obtain ⟨j5, j6, j7, j8, j9⟩ := i5
          refine ⟨fun z z1 z2 z3 z4 z5 z6 z7 => by rw [stQ_r z1]; exact i1 z z1 z2 z3 z4 z5 z6 z7, by rw [stQ_f (by omega)]; exact i2, stQ_at, by rw [stQ_f (by omega)]; exact i4, by rw [stQ_f (by omega)]; exact j5, j6.cg (stQ_r (by omega)) (stQ_r (by omega)) (stQ_r (by omega)) (stQ_r (by omega)), by rw [stQ_r (by omega)]; exact j7, by rw [stQ_r (by omega)]; exact j8, by rw [stQ_r (by omega)]; exact j9.1, fun m hm hw => by rw [stQ_r (by omega), stQ_r (by omega)]; exact j9.2 m hm hw⟩
        obtain ⟨I2, k1, k2⟩ := c_next_clause hS4 hl htx hZ hS hq hCI hp1 (by omega)
        rw [k1, obs, L1, nI_add]
        exact ih (n + 1) f I2 (by omega) (by omega) (by omega) hall hp1 k2
      · rw [if_neg c59, if_neg c59]
        exact ⟨I, rfl, i1, i2, i3, eb.1, Or.inr ⟨i4, by omega⟩⟩
/-- the class reads the whole text -/
theorem c_readAll (hS4 : S4 (x + 1) K R) (hl : len ≤ 100) (hlen : I0 (x + 1) 1 = nI len) (htx : ∀ j, j < len → I0 (x + 2) j = tx j) {Zn nn : Nat} (hZ : ZOK Z Zn) (hS : S9 q K R) (hq : x + 110 ≤ q) : ∃ I1, f_X4_readInto Z (x + 1) (some q) K nn I0 R = f_X4_readInto_62 Z (x + 1) (some q) K nn I1 R ∧ OUq x q tx len (qOut tx len 12 0) I0 I1 := by
  have o5 : ob K 5 (some (x + 1)) = some (x + 1) := ob_ok (by rw [hS4.1])
  obtain ⟨Ic, a0, a1, a2, a3, a4, a5⟩ := c_clear (P := fun I1 => OW q [0, 1, 2, 3, 4] I0 I1 ∧ WsC q I1 0 0 (fun _ => 0) (fun _ => 0) (fun _ => 3) ∧ I1 q 2 = nI 10 ∧ I1 q 3 = nI 1 ∧ I1 q 4 = nI 0) (I := I0) hS (fun I1 b1 b2 b3 b4 b5 => ⟨b1, b2, b3, b4, b5⟩)
  have r1 : ∀ z, z ≠ x + 1 → u2 (u2 (u2 Ic (x + 1) 2 0) (x + 1) 3 1) (x + 1) 4 0 z = Ic z := fun z hz => by rw [u2_row hz, u2_row hz, u2_row hz]
  have f1 : u2 (u2 (u2 Ic (x + 1) 2 0) (x + 1) 3 1) (x + 1) 4 0 (x + 1) 1 = nI len := by rw [u2_ne (by omega), u2_ne (by omega), u2_ne (by omega), a1.1 _ (by omega) (by omega) (by omega) (by omega)]; exact hlen
  have hCI : CIq x q tx len 0 (qPs tx len 0) I0 (u2 (u2 (u2 Ic (x + 1) 2 0) (x + 1) 3 1) (x + 1) 4 0) := by
    refine ⟨fun z z1 z2 z3 z4 z5 z6 z7 => by rw [r1 z z1]; exact a1.1 z z4 z5 z6 z7, f1, by rw [u2_ne (by omega), u2_ne (by omega), u2_eq]; rfl, by rw [u2_ne (by omega), u2_eq], by rw [u2_eq]; rfl, a2.cg (r1 _ (by omega)) (r1 _ (by omega)) (r1 _ (by omega)) (r1 _ (by omega)), by rw [r1 _ (by omega)]; exact a3, by rw [r1 _ (by omega)]; exact a4, by rw [r1 _ (by omega)]; exact a5, fun m hm => by omega⟩
  obtain ⟨I2, k1, k2⟩ := c_next_clause (n := 0) hS4 hl htx hZ hS hq hCI (Nat.zero_le _) (by omega)
  obtain ⟨I3, m1, m2⟩ := c_26 (nn := nn) hS4 hl htx hZ hS hq 12 0 FU I2 (by omega) (by omega) (FU_lt (by omega)) (fun m hm => by omega) (Nat.zero_le _) k2
  refine ⟨I3, ?_, m2⟩
  unfold f_X4_readInto
  rw [ob9 hS, obs, a0, obs, o5, obs, obs, obs, obs, k1, obs]
  exact m1
end
