def oM (x : Option Nat) : Int32 := match x with
  | none => -1
  | some n => nI n
def omx (x : Option Nat) (n : Nat) : Nat := match x with
  | none => n
  | some o => max o n
theorem imax_neg {x : Option Nat} {z : Int} (hx : ∀ n, x = some n → n ≤ 1000000) (h1 : -200000 ≤ z) (h2 : z < 0) : imax (oM x) (jI z) = oM x := by
  unfold imax
  cases x with
  | none =>
    show (if jI (-1) < jI z then jI z else jI (-1)) = jI (-1)
    by_cases c : jI (-1) < jI z
    · rw [jlt (by omega) (by omega)] at c
      omega
    · rw [if_neg c]
  | some n =>
    have := hx n rfl
    show (if jI n < jI z then jI z else jI n) = jI n
    rw [if_neg]
    rw [jlt (by omega) (by omega)]
    omega
theorem imax_pos {x : Option Nat} {n : Nat} (hx : ∀ n, x = some n → n ≤ 1000000) (h1 : n ≤ 1000000) : imax (oM x) (nI n) = oM (some (omx x n)) := by
  cases x with
  | none =>
    unfold imax
    show (if jI (-1) < jI n then jI n else jI (-1)) = jI n
    rw [if_pos]
    rw [jlt (by omega) (by omega)]
    omega
  | some o =>
    have := hx o rfl
    exact imax_nI (by omega) (by omega)
theorem SP_upd {e : PE} {k F i s w : Nat} {x : Nat × Nat} {D D' : Nat → Nat → Prop} {m m' : Nat → Option Nat} (hb : SPb e k F D m m') (hc : SPc e k F D m m') (hm : m i = some w) (hx : stp e k s (F + i) w = some x) (hD : ∀ a c, D' a c ↔ D a c ∨ (a = i ∧ c = s)) :
    SPb e k F D' m (u1 m' (x.1 - (max F (e.la k) + e.hr (k + 1))) (some (omx (m' (x.1 - (max F (e.la k) + e.hr (k + 1)))) x.2))) ∧ SPc e k F D' m (u1 m' (x.1 - (max F (e.la k) + e.hr (k + 1))) (some (omx (m' (x.1 - (max F (e.la k) + e.hr (k + 1)))) x.2))) := by
  have hx1 : max F (e.la k) + e.hr (k + 1) ≤ x.1 := by
    obtain ⟨-, -, hp⟩ := stp_some hx
    rw [hp]
    show _ ≤ lvE e k (F + i) s + e.hr (k + 1)
    unfold lvE
    omega
  constructor
  · intro a c w1 y h1 h2 h3
    by_cases c1 : y.1 - (max F (e.la k) + e.hr (k + 1)) = x.1 - (max F (e.la k) + e.hr (k + 1))
    · rw [c1, u1_eq]
      refine ⟨_, rfl, ?_⟩
      rcases (hD a c).mp h1 with h | ⟨h, h'⟩
      · obtain ⟨w', g1, g2⟩ := hb a c w1 y h h2 h3
        rw [c1] at g1
        rw [g1]
        show y.2 ≤ max w' x.2
        omega
      · subst h h'
        rw [hm] at h2
        cases h2
        rw [hx] at h3
        cases h3
        cases m' (x.1 - (max F (e.la k) + e.hr (k + 1))) with
        | none => exact Nat.le_refl _
        | some o => show x.2 ≤ max o x.2; omega
    · rw [u1_ne c1]
      rcases (hD a c).mp h1 with h | ⟨h, h'⟩
      · exact hb a c w1 y h h2 h3
      · subst h h'
        rw [hm] at h2
        cases h2
        rw [hx] at h3
        cases h3
        exact absurd rfl c1
  · intro j w' h
    by_cases c1 : j = x.1 - (max F (e.la k) + e.hr (k + 1))
    · rw [c1, u1_eq] at h
      have new : x.2 = w' → ∃ i s w p, D' i s ∧ m i = some w ∧ stp e k s (F + i) w = some p ∧ p.1 = max F (e.la k) + e.hr (k + 1) + j ∧ p.2 = w' := fun z => ⟨i, s, w, x, (hD i s).mpr (Or.inr ⟨rfl, rfl⟩), hm, hx, by omega, z⟩
      cases q : m' (x.1 - (max F (e.la k) + e.hr (k + 1))) with
      | none =>
        rw [q] at h
        exact new (Option.some.inj h)
      | some o =>
        rw [q] at h
        have h : max o x.2 = w' := Option.some.inj h
        by_cases c2 : o ≤ x.2
        · exact new (by omega)
        · obtain ⟨i', s', w1, p1, g1, g2, g3, g4, g5⟩ := hc _ o q
          exact ⟨i', s', w1, p1, (hD i' s').mpr (Or.inl g1), g2, g3, by omega, by omega⟩
    · rw [u1_ne c1] at h
      obtain ⟨i', s', w1, p1, g1, g2⟩ := hc j w' h
      exact ⟨i', s', w1, p1, (hD i' s').mpr (Or.inl g1), g2⟩
theorem SP_skip {e : PE} {k F : Nat} {D D' : Nat → Nat → Prop} {m m' : Nat → Option Nat} (hb : SPb e k F D m m') (hc : SPc e k F D m m') (h1 : ∀ a c, D a c → D' a c) (h2 : ∀ a c, D' a c → D a c ∨ ∀ w, m a = some w → stp e k c (F + a) w = none) : SPb e k F D' m m' ∧ SPc e k F D' m m' := by
  constructor
  · intro a c w y g1 g2 g3
    rcases h2 a c g1 with h | h
    · exact hb a c w y h g2 g3
    · rw [h w g2] at g3; cases g3
  · intro j w' h
    obtain ⟨i', s', w1, p1, g1, g2⟩ := hc j w' h
    exact ⟨i', s', w1, p1, h1 _ _ g1, g2⟩
def DD (i s a c : Nat) : Prop := c ≤ 6 ∧ (a < i ∨ a = i ∧ c < s)
def RowC (p k : Nat) (m : Nat → Option Nat) (I : Im) : Prop := ∀ j, j < 31 → I (p + 3) (k * 31 + j) = oM (m j)
section
variable {p q u b start sdw cy W M : Nat} {K : Sh} {R : Rf} {hr fu gi le la : Nat → Nat} {d1 : Nat → Nat → Nat → Nat}
/-- only the row k of the most has changed -/
def OnlyM (p k : Nat) (I I1 : Im) : Prop := (∀ z, z ≠ p + 3 → I1 z = I z) ∧ ∀ j, j < k * 31 ∨ (k + 1) * 31 ≤ j → I1 (p + 3) j = I (p + 3) j
theorem OnlyM.refl {k : Nat} {I : Im} : OnlyM p k I I := ⟨fun _ _ => rfl, fun _ _ => rfl⟩
theorem OnlyM.trans {k : Nat} {I I1 I2 : Im} (h : OnlyM p k I I1) (h2 : OnlyM p k I1 I2) : OnlyM p k I I2 := ⟨fun z hz => (h2.1 z hz).trans (h.1 z hz), fun j hj => (h2.2 j hj).trans (h.2 j hj)⟩
theorem PLs.om {k : Nat} {I I1 : Im} (h : PLs p q u b start sdw cy W M K I R hr fu gi le la d1) (ho : OnlyM p k I I1) : PLs p q u b start sdw cy W M K I1 R hr fu gi le la d1 :=
  h.congr (fun z z1 z2 z3 z4 => ho.1 z z3) (by rw [ho.1 p (by omega)]) (by rw [ho.1 p (by omega)]) (by rw [ho.1 p (by omega)])
set_option maxHeartbeats 1000000 in
theorem c_spread15 {k i w : Nat} {m : Nat → Option Nat} {P : Im → Prop} (hk : k < W) (hi : i ≤ 6 * k) (hm : m i = some w) (hw : w ≤ b * cy) (hmb : ∀ j x, m j = some x → x ≤ b * cy) : ∀ (n s f : Nat) (I : Im) (m' : Nat → Option Nat), s + n = 7 → n < f → PLs p q u b start sdw cy W M K I R hr fu gi le la d1 → RowC p (k + 1) m' I → SPb (peC la hr fu gi le d1 b sdw cy) k (FN la hr start k) (DD i s) m m' → SPc (peC la hr fu gi le d1 b sdw cy) k (FN la hr start k) (DD i s) m m' →
    (∀ I1 m1, OnlyM p (k + 1) I I1 → RowC p (k + 1) m1 I1 → SPb (peC la hr fu gi le d1 b sdw cy) k (FN la hr start k) (DD (i + 1) 0) m m1 → SPc (peC la hr fu gi le d1 b sdw cy) k (FN la hr start k) (DD (i + 1) 0) m m1 → P I1) →
    Ok (f_X3_spread_15 K R p f (nI k) (nI i) (nI w) (nI s) I) P := by
  intro n
  induction n with
  | zero =>
    intro s f I m' hs hf hL hR hb hc kk
    obtain ⟨f, rfl⟩ : ∃ f', f = f' + 1 := ⟨f - 1, by omega⟩
    obtain ⟨h1, h2⟩ := SP_skip (D' := DD (i + 1) 0) hb hc (fun a c h => by unfold DD at h ⊢; omega) (fun a c h => Or.inl (by unfold DD at h ⊢; omega))
    have g := kk I m' OnlyM.refl hR h1 h2
    unfold f_X3_spread_15
    have : s = 7 := by omega
    subst this
    (repeat (first | ((with_reducible apply Ok.st); (focus (first | (simp (disch := omega) only [L0, L1, L2, L3, L4, L5, L6, L7, L8, L9, L10, L11, L12, L13, L14, L15, L16, L17, L18, L19, L20, L21, L22, L23, L24, L25, L26, L27, L28, L29, L30, L31, L32, L33, L34, L35, L36, L37, L38, L39, L40, L48, L57, L59, L60, L62, L96, L97, L98, L99, L100, L104, L110, L119, L124, L500, L999, L1000, L2000, L3000, nI_add, pk_mul, pk_sub, nI_leI, nI_ltI, nI_eq, obs, u2_eq, u2_row, u2_ne, if_pos, if_neg, if_true, if_false, eq_self, ne_eq, not_true_eq_false, not_false_eq_true]; with_reducible exact rfl) | (with_reducible exact rfl)))) | ((with_reducible apply Ok.itT); (focus (simp (disch := omega) only [L0, L1, L2, L3, L4, L5, L6, L7, L8, L9, L10, L11, L12, L13, L14, L15, L16, L17, L18, L19, L20, L21, L22, L23, L24, L25, L26, L27, L28, L29, L30, L31, L32, L33, L34, L35, L36, L37, L38, L39, L40, L48, L57, L59, L60, L62, L96, L97, L98, L99, L100, L104, L110, L119, L124, L500, L999, L1000, L2000, L3000, nI_add, pk_mul, pk_sub, nI_leI, nI_ltI, nI_eq, obs, u2_eq, u2_row, u2_ne, if_pos, if_neg, if_true, if_false, eq_self, ne_eq, not_true_eq_false, not_false_eq_true] <;> omega))) | ((with_reducible apply Ok.itF); (focus (simp (disch := omega) only [L0, L1, L2, L3, L4, L5, L6, L7, L8, L9, L10, L11, L12, L13, L14, L15, L16, L17, L18, L19, L20, L21, L22, L23, L24, L25, L26, L27, L28, L29, L30, L31, L32, L33, L34, L35, L36, L37, L38, L39, L40, L48, L57, L59, L60, L62, L96, L97, L98, L99, L100, L104, L110, L119, L124, L500, L999, L1000, L2000, L3000, nI_add, pk_mul, pk_sub, nI_leI, nI_ltI, nI_eq, obs, u2_eq, u2_row, u2_ne, if_pos, if_neg, if_true, if_false, eq_self, ne_eq, not_true_eq_false, not_false_eq_true] <;> omega)))))
    exact Ok.ret g
  | succ n ih =>
    intro s f I m' hs hf hL hR hb hc kk
    obtain ⟨f, rfl⟩ : ∃ f', f = f' + 1 := ⟨f - 1, by omega⟩
    have hL0 := hL
    have hW5 : W ≤ 5 := hL.1.2.2.2.2.1.2.2.1
    have cl := c_leaving hL hk (by omega : i ≤ 30) (by omega : s ≤ 6)
    have cn := c_nextOf hL hk (by omega : i ≤ 30) (by omega : s ≤ 6)
    obtain ⟨z, cb, zb1, zb2, hz⟩ := c_brought hL hk (by omega : i ≤ 30) (by omega : s ≤ 6) hw
    have lb := lv_b hL hk (by omega : i ≤ 30) (by omega : s ≤ 6)
    have hS3 := hL.1.1
    have hstp1 : ∀ x, stp (peC la hr fu gi le d1 b sdw cy) k s (FN la hr start k + i) w = some x → x.1 = lvE (peC la hr fu gi le d1 b sdw cy) k (FN la hr start k + i) s + hr (k + 1) := fun x hx => by
      obtain ⟨-, -, hp⟩ := stp_some hx
      rw [hp]
      rfl
    have hFN : max (FN la hr start k) ((peC la hr fu gi le d1 b sdw cy).la k) + (peC la hr fu gi le d1 b sdw cy).hr (k + 1) = FN la hr start (k + 1) := rfl
    generalize hlv : lvE (peC la hr fu gi le d1 b sdw cy) k (FN la hr start k + i) s = lv at cl cn cb lb hstp1
    generalize hj : lv + hr (k + 1) - FN la hr start (k + 1) = j at cn
    have hj30 : j ≤ 30 := by omega
    have hidx : (k + 1) * 31 + j < 186 := by omega
    have o3 : alen K (R p 2) = some (nI 186) := by
      rw [r3_2 hS3]
      have := alen_ok (K := K) (a := p + 3) (by rw [k3_2 hS3]; omega) (by rw [k3_2 hS3]; omega)
      rw [k3_2 hS3] at this
      exact this
    have hold := hR j (by omega)
    have hmb' : ∀ n, m' j = some n → n ≤ 1000000 := fun n hn => by
      obtain ⟨i', s', w1, p1, g1, g2, g3, g4, g5⟩ := hc j n hn
      have := stp_rm g3
      have h2 : p1.2 ≤ b * cy := this
      have hcy := hL.1.2.2.2.2.1.2.2.2.2.2.1
      have bcy : b * cy ≤ 9 * 99 := Nat.mul_le_mul hL.1.2.2.2.2.2.2.1 hcy
      omega
    have bw : w ≤ 1000 := by
      have bcy : b * cy ≤ 9 * 99 := Nat.mul_le_mul hL.1.2.2.2.2.2.2.1 hL.1.2.2.2.2.1.2.2.2.2.2.1
      omega
    have hDD : ∀ a c, DD i (s + 1) a c ↔ DD i s a c ∨ (a = i ∧ c = s) := fun a c => by unfold DD; omega
    have step : ∀ (v : Int32) (m1 : Nat → Option Nat), (v = oM (m1 j) ∧ (∀ j', j' ≠ j → m1 j' = m' j')) → SPb (peC la hr fu gi le d1 b sdw cy) k (FN la hr start k) (DD i (s + 1)) m m1 → SPc (peC la hr fu gi le d1 b sdw cy) k (FN la hr start k) (DD i (s + 1)) m m1 → Ok (f_X3_spread_15 K R p f (nI k) (nI i) (nI w) (nI (s + 1)) (u2 I (p + 3) ((k + 1) * 31 + j) v)) P := by
      intro v m1 ⟨hv, hm1⟩ h1 h2
      have ho : OnlyM p (k + 1) I (u2 I (p + 3) ((k + 1) * 31 + j) v) := ⟨fun z hz => u2_row hz, fun j' hj' => u2_ne (by omega)⟩
      refine ih (s + 1) f _ m1 (by omega) (by omega) (hL.om ho) (fun j' hj' => ?_) h1 h2 (fun I1 m2 g1 g2 g3 g4 => kk I1 m2 (ho.trans g1) g2 g3 g4)
      by_cases c : j' = j
      · subst c; rw [u2_eq]; exact hv
      · rw [u2_ne (by omega), hm1 j' c]; exact hR j' hj'
    have go : Ok (f_X3_spread_15 K R p f (nI k) (nI i) (nI w) (nI (s + 1)) (u2 I (p + 3) ((k + 1) * 31 + j) (imax (oM (m' j)) (jI z)))) P := by
      cases hx : stp (peC la hr fu gi le d1 b sdw cy) k s (FN la hr start k + i) w with
      | none =>
        rw [hx] at hz
        have hz : z < 0 := hz
        rw [imax_neg hmb' zb1 hz]
        obtain ⟨h1, h2⟩ := SP_skip (D' := DD i (s + 1)) hb hc (fun a c h => (hDD a c).mpr (Or.inl h)) (fun a c h => ((hDD a c).mp h).imp id (fun h3 w' hw' => by
          obtain ⟨rfl, rfl⟩ := h3
          rw [hm] at hw'
          cases hw'
          exact hx))
        exact step _ m' ⟨rfl, fun _ _ => rfl⟩ h1 h2
      | some x =>
        rw [hx] at hz
        have hz : z = x.2 := hz
        have x1 := hstp1 x hx
        obtain ⟨h1, h2⟩ := SP_upd hb hc hm hx hDD
        rw [hFN, x1, hj] at h1 h2
        rw [hz, ← nI_jI, imax_pos hmb' (by omega)]
        exact step _ _ ⟨by rw [u1_eq], fun j' c => u1_ne c⟩ h1 h2
    unfold f_X3_spread_15
    (repeat (first | ((with_reducible apply Ok.st); (focus (first | (simp (disch := omega) only [L0, L1, L2, L3, L4, L5, L6, L7, L8, L9, L10, L11, L12, L13, L14, L15, L16, L17, L18, L19, L20, L21, L22, L23, L24, L25, L26, L27, L28, L29, L30, L31, L32, L33, L34, L35, L36, L37, L38, L39, L40, L48, L57, L59, L60, L62, L96, L97, L98, L99, L100, L104, L110, L119, L124, L500, L999, L1000, L2000, L3000, nI_add, pk_mul, pk_sub, nI_leI, nI_ltI, nI_eq, obs, u2_eq, u2_row, u2_ne, if_pos, if_neg, if_true, if_false, eq_self, ne_eq, not_true_eq_false, not_false_eq_true, cl, cn, o3, l3_2 hS3, hold, cb, s3_2 hS3]; with_reducible exact rfl) | (with_reducible exact rfl)))) | ((with_reducible apply Ok.itT); (focus (simp (disch := omega) only [L0, L1, L2, L3, L4, L5, L6, L7, L8, L9, L10, L11, L12, L13, L14, L15, L16, L17, L18, L19, L20, L21, L22, L23, L24, L25, L26, L27, L28, L29, L30, L31, L32, L33, L34, L35, L36, L37, L38, L39, L40, L48, L57, L59, L60, L62, L96, L97, L98, L99, L100, L104, L110, L119, L124, L500, L999, L1000, L2000, L3000, nI_add, pk_mul, pk_sub, nI_leI, nI_ltI, nI_eq, obs, u2_eq, u2_row, u2_ne, if_pos, if_neg, if_true, if_false, eq_self, ne_eq, not_true_eq_false, not_false_eq_true, cl, cn, o3, l3_2 hS3, hold, cb, s3_2 hS3] <;> omega))) | ((with_reducible apply Ok.itF); (focus (simp (disch := omega) only [L0, L1, L2, L3, L4, L5, L6, L7, L8, L9, L10, L11, L12, L13, L14, L15, L16, L17, L18, L19, L20, L21, L22, L23, L24, L25, L26, L27, L28, L29, L30, L31, L32, L33, L34, L35, L36, L37, L38, L39, L40, L48, L57, L59, L60, L62, L96, L97, L98, L99, L100, L104, L110, L119, L124, L500, L999, L1000, L2000, L3000, nI_add, pk_mul, pk_sub, nI_leI, nI_ltI, nI_eq, obs, u2_eq, u2_row, u2_ne, if_pos, if_neg, if_true, if_false, eq_self, ne_eq, not_true_eq_false, not_false_eq_true, cl, cn, o3, l3_2 hS3, hold, cb, s3_2 hS3] <;> omega)))))
    simp only [L1, nI_add]
    exact go
end
