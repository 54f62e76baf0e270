/-! THE CLASS' TRIP -/
theorem wayD_add (f : Nat → Nat) (h a b : Nat) : wayD f h (a + b) = wayD f h a + wayD f (h + a) b := by
  induction b with
  | zero => simp [wayD]
  | succ b ih =>
    rw [← Nat.add_assoc]
    simp only [wayD]
    rw [ih, Nat.add_assoc h a b]
    omega
theorem wayD_mod (f : Nat → Nat) (h n : Nat) : wayD f (h % 24) n = wayD f h n := by
  induction n with
  | zero => rfl
  | succ n ih =>
    simp only [wayD]
    rw [ih, show (h % 24 + n) % 24 = (h + n) % 24 by omega]
theorem wayD_mul (f : Nat → Nat) (b h n : Nat) : wayD (fun j => b * f j) h n = b * wayD f h n := by
  induction n with
  | zero => simp [wayD]
  | succ n ih =>
    simp only [wayD]
    rw [ih, Nat.mul_add]
theorem wayD_le {f : Nat → Nat} {B : Nat} (hf : ∀ j, j < 24 → f j ≤ B) (h n : Nat) : wayD f h n ≤ B * n := by
  induction n with
  | zero => simp [wayD]
  | succ n ih =>
    have := hf ((h + n) % 24) (Nat.mod_lt _ (by decide))
    simp only [wayD]
    rw [Nat.mul_succ]
    omega
theorem nI_subneg {a b : Nat} (ha : a < 2 ^ 30) (hb : b < 2 ^ 30) (h : a ≤ b) : ¬ (nI 0 < nI a - nI b) := by
  rw [nI_jI, nI_jI, nI_jI, jsub, jlt (by omega) (by omega)]
  omega
theorem u2_id {α : Type} {f : Nat → Nat → α} {a k : Nat} {v : α} (h : f a k = v) : u2 f a k v = f := by
  funext b j
  simp only [u2]
  split
  · rename_i q
    rw [q.1, q.2, h]
  · rfl
/-- the class' waste at q: what a way through it needs; d1: what a beast drinks, by how many there are, way and hour -/
def WV (q : Nat) (K : Sh) (I : Im) (R : Rf) (W : Nat) (hr : Nat → Nat) (cy sd : Nat) (d1 : Nat → Nat → Nat → Nat) : Prop :=
  S9 q K R ∧ I q 0 = nI W ∧ W ≤ 5 ∧ (∀ k, k < 6 → I (q + 3) k = nI (hr k) ∧ 1 ≤ hr k ∧ hr k ≤ 9) ∧ I q 2 = nI cy ∧ cy ≤ 99 ∧ I q 4 = nI sd ∧ sd ≤ 99 ∧
  (∀ b k j, d1 b k j ≤ 1188) ∧ ∃ dr, R q 8 = some dr ∧ K dr = (21, 1782) ∧ ∀ k b j, k < 6 → 1 ≤ b → b ≤ 9 → j < 33 → I dr ((k * 9 + b - 1) * 33 + j) = nI (wayD (d1 b k) 0 j)
/-- its cells, and the drunk one -/
def WVcells (q : Nat) (R : Rf) (z : Nat) : Prop := z = q ∨ z = q + 3 ∨ R q 8 = some z
theorem WV.congr {q : Nat} {K : Sh} {I I' : Im} {R : Rf} {W : Nat} {hr : Nat → Nat} {cy sd : Nat} {d1 : Nat → Nat → Nat → Nat} (h : WV q K I R W hr cy sd d1) (hI : ∀ z, WVcells q R z → I' z = I z) : WV q K I' R W hr cy sd d1 := by
  obtain ⟨h1, h2, h3, h4, h5, h6, h7, h8, h9, dr, g1, g2, g3⟩ := h
  have e0 := hI q (Or.inl rfl)
  have e3 := hI (q + 3) (Or.inr (Or.inl rfl))
  have e8 := hI dr (Or.inr (Or.inr g1))
  refine ⟨h1, by rw [e0]; exact h2, h3, fun k hk => by rw [e3]; exact h4 k hk, by rw [e0]; exact h5, h6, by rw [e0]; exact h7, h8, h9, dr, g1, g2, fun k b j a1 a2 a3 a4 => by rw [e8]; exact g3 k b j a1 a2 a3 a4⟩
section
variable {q t u ro a : Nat} {K : Sh} {R : Rf} {I : Im} {W cy sd : Nat} {hr : Nat → Nat} {d1 : Nat → Nat → Nat → Nat}
theorem c_along (h : WV q K I R W hr cy sd d1) {k b hh : Nat} (hk : k < 6) (h1 : 1 ≤ b) (h9 : b ≤ 9) (hb : hh ≤ 1000000) : f_X9_drunkAlong K I R q (nI k) (nI hh) (nI b) = some (nI (wayD (fun j => b * d1 b k j) hh (hr k))) := by
  obtain ⟨hS, -, -, hh3, -, -, -, -, hd, dr, g1, g2, g3⟩ := h
  obtain ⟨y1, y2, y3⟩ := hh3 k hk
  have c1 := g3 k b (hh % 24) hk h1 h9 (by omega)
  have c2 := g3 k b (hh % 24 + hr k) hk h1 h9 (by omega)
  have hm : hh % 24 < 24 := Nat.mod_lt _ (by decide)
  have e := wayD_add (d1 b k) 0 (hh % 24) (hr k)
  rw [Nat.zero_add, wayD_mod] at e
  have b1 := wayD_le (f := d1 b k) (B := 1188) (fun j _ => hd b k j) 0 (hh % 24)
  have b2 := wayD_le (f := d1 b k) (B := 1188) (fun j _ => hd b k j) hh (hr k)
  rw [wayD_mul]
  generalize hA : wayD (d1 b k) hh (hr k) = A at e b2 ⊢
  generalize hB : wayD (d1 b k) 0 (hh % 24) = B at e b1 c1
  rw [e] at c2
  have p1 : b * A ≤ 9 * A := Nat.mul_le_mul h9 (Nat.le_refl A)
  have hA2 : A ≤ 10692 := by omega
  have p2 : A * b = b * A := Nat.mul_comm _ _
  have hk9 : k * 9 + b - 1 ≤ 53 := by omega
  have i1 : (k * 9 + b - 1) * 33 + hh % 24 < 1782 := by omega
  have i2 : (k * 9 + b - 1) * 33 + (hh % 24 + hr k) < 1782 := by omega
  have l1 : ldI K I (some dr) (nI ((k * 9 + b - 1) * 33 + hh % 24)) = some (nI B) := by rw [← c1]; exact ldI_ok (by rw [g2]) (by rw [g2]; exact i1) (by rw [g2]; omega)
  have l2 : ldI K I (some dr) (nI ((k * 9 + b - 1) * 33 + (hh % 24 + hr k))) = some (nI (B + A)) := by rw [← c2]; exact ldI_ok (by rw [g2]) (by rw [g2]; exact i2) (by rw [g2]; omega)
  have l3 : alen K (some dr) = some (nI 1782) := by
    have := alen_ok (K := K) (a := dr) (by rw [g2]; omega) (by rw [g2]; omega)
    rw [g2] at this
    exact this
  unfold f_X9_drunkAlong f_X9_sumsOf
  rw [g1]
  have hne : ¬ (some dr = none) := by simp
  simp (disch := omega) only [L0, L1, L2, L3, L4, L5, L6, L7, L8, L9, L10, L11, L12, L13, L14, L15, L16, L17, L18, L19, L20, L21, L22, L23, L24, L25, L26, L27, L28, L29, L30, L31, L32, L33, L34, L35, L36, L37, L38, L39, L40, L48, L57, L59, L60, L62, L96, L97, L98, L99, L100, L104, L110, L119, L124, L500, L999, L1000, L2000, L3000, nI_add, pk_mul, pk_sub, nI_leI, nI_ltI, nI_eq, obs, u2_eq, u2_row, u2_ne, if_pos, if_neg, if_true, if_false, eq_self, l9_7 hS, y1, irem_nI, hne, l1, l2, l3, Nat.add_assoc, Nat.add_sub_cancel_left, p2]
/-- the wells at u -/
theorem c_wait (hS : S10 u K R) {v k hh need : Nat} {fu gi le la : Nat → Nat} (h20 : I ro 2 = nI v) (hv : v ≤ 6) (hk : k < 5) (h1 : I (u + 1) k = nI (fu k)) (h2 : I (u + 2) k = nI (gi k)) (h3 : I (u + 3) k = nI (le k)) (h4 : I (u + 4) k = nI (la k)) (b1 : fu k ≤ 99) (b2 : gi k ≤ 99) (b3 : le k ≤ 99) (b4 : la k ≤ 1000000) (b5 : hh ≤ 900000) (b6 : need ≤ 1000000) : ∀ (f n : Nat), v - n < f → n ≤ v → ∀ p, v - n < p →
    f_X5_waitFor_3 K I R ro p (some u) (nI k) (nI hh) (nI need) (nI n) = some (nI (wtN (fun n => heldN fu gi le la k (hh + n)) need v f n)) := by
  intro f
  induction f with
  | zero => intro n h; omega
  | succ f ih =>
    intro n hf hn p hp
    obtain ⟨p, rfl⟩ : ∃ p', p = p' + 1 := ⟨p - 1, by omega⟩
    have hl := heldN_le (gi := gi) (la := la) (h := hh + n) b1 b3
    have o1 : ob K 11 (some u) = some u := ob10 hS
    unfold f_X5_waitFor_3
    simp only [wtN]
    by_cases c1 : v ≤ n
    · have : n = v := by omega
      subst this
      rw [if_pos c1]
      simp (disch := omega) only [L0, L1, L2, L3, L4, L5, L6, L7, L8, L9, L10, L11, L12, L13, L14, L15, L16, L17, L18, L19, L20, L21, L22, L23, L24, L25, L26, L27, L28, L29, L30, L31, L32, L33, L34, L35, L36, L37, L38, L39, L40, L48, L57, L59, L60, L62, L96, L97, L98, L99, L100, L104, L110, L119, L124, L500, L999, L1000, L2000, L3000, nI_add, pk_mul, pk_sub, nI_leI, nI_ltI, nI_eq, obs, u2_eq, u2_row, u2_ne, if_pos, if_neg, if_true, if_false, eq_self, h20]
    · rw [if_neg c1]
      by_cases c2 : need ≤ heldN fu gi le la k (hh + n)
      · rw [if_pos c2]
        simp (disch := omega) only [L0, L1, L2, L3, L4, L5, L6, L7, L8, L9, L10, L11, L12, L13, L14, L15, L16, L17, L18, L19, L20, L21, L22, L23, L24, L25, L26, L27, L28, L29, L30, L31, L32, L33, L34, L35, L36, L37, L38, L39, L40, L48, L57, L59, L60, L62, L96, L97, L98, L99, L100, L104, L110, L119, L124, L500, L999, L1000, L2000, L3000, nI_add, pk_mul, pk_sub, nI_leI, nI_ltI, nI_eq, obs, u2_eq, u2_row, u2_ne, if_pos, if_neg, if_true, if_false, eq_self, h20, o1, c_held hS hk h1 h2 h3 h4 b1 b2 b3 b4]
      · rw [if_neg c2]
        have g := ih (n + 1) (by omega) (by omega) p (by omega)
        simp (disch := omega) only [L0, L1, L2, L3, L4, L5, L6, L7, L8, L9, L10, L11, L12, L13, L14, L15, L16, L17, L18, L19, L20, L21, L22, L23, L24, L25, L26, L27, L28, L29, L30, L31, L32, L33, L34, L35, L36, L37, L38, L39, L40, L48, L57, L59, L60, L62, L96, L97, L98, L99, L100, L104, L110, L119, L124, L500, L999, L1000, L2000, L3000, nI_add, pk_mul, pk_sub, nI_leI, nI_ltI, nI_eq, obs, u2_eq, u2_row, u2_ne, if_pos, if_neg, if_true, if_false, eq_self, h20, o1, c_held hS hk h1 h2 h3 h4 b1 b2 b3 b4]
        exact g
theorem c_noon {v hh : Nat} (h20 : I ro 2 = nI v) (hv : v ≤ 6) (b5 : hh ≤ 900000) : f_X5_tillNoon K I ro (nI hh) = some (nI (niN v hh)) := by
  have hm : hh % 24 < 24 := Nat.mod_lt _ (by decide)
  unfold f_X5_tillNoon niN
  by_cases c : 12 ≤ hh % 24
  · rw [if_pos c]
    simp (disch := omega) only [L0, L1, L2, L3, L4, L5, L6, L7, L8, L9, L10, L11, L12, L13, L14, L15, L16, L17, L18, L19, L20, L21, L22, L23, L24, L25, L26, L27, L28, L29, L30, L31, L32, L33, L34, L35, L36, L37, L38, L39, L40, L48, L57, L59, L60, L62, L96, L97, L98, L99, L100, L104, L110, L119, L124, L500, L999, L1000, L2000, L3000, nI_add, pk_mul, pk_sub, nI_leI, nI_ltI, nI_eq, obs, u2_eq, u2_row, u2_ne, if_pos, if_neg, if_true, if_false, eq_self, irem_nI]
  · rw [if_neg c]
    simp (disch := omega) only [L0, L1, L2, L3, L4, L5, L6, L7, L8, L9, L10, L11, L12, L13, L14, L15, L16, L17, L18, L19, L20, L21, L22, L23, L24, L25, L26, L27, L28, L29, L30, L31, L32, L33, L34, L35, L36, L37, L38, L39, L40, L48, L57, L59, L60, L62, L96, L97, L98, L99, L100, L104, L110, L119, L124, L500, L999, L1000, L2000, L3000, nI_add, pk_mul, pk_sub, nI_leI, nI_ltI, nI_eq, obs, u2_eq, u2_row, u2_ne, if_pos, if_neg, if_true, if_false, eq_self, irem_nI, imin_nI, h20]
theorem c_standAt (hS : S10 u K R) {v k hh wt rm kind : Nat} {rw fu gi le la : Nat → Nat} (h00 : I ro 0 = nI kind) (hkd : kind ≤ 6) (hk3 : kind ≠ 3) (hk5 : kind ≠ 5) (h20 : I ro 2 = nI v) (hv : v ≤ 6) (hk : k < 5) (h1 : I (u + 1) k = nI (fu k)) (h2 : I (u + 2) k = nI (gi k)) (h3 : I (u + 3) k = nI (le k)) (h4 : I (u + 4) k = nI (la k)) (b1 : fu k ≤ 99) (b2 : gi k ≤ 99) (b3 : le k ≤ 99) (b4 : la k ≤ 1000000) (b5 : hh ≤ 900000) (b6 : rm ≤ 1000) (b7 : wt ≤ rm) :
    f_X5_standAt K I R ro (some u) (nI k) (nI hh) (nI wt) (nI rm) = some (nI (stN kind v rw (fun n => heldN fu gi le la k (hh + n)) k hh wt rm)) := by
  have w0 := c_wait (need := rm - wt) hS h20 hv hk h1 h2 h3 h4 b1 b2 b3 b4 b5 (by omega) 7 0 (by omega) (by omega) FU (FU_lt (by omega))
  have wl := wtN_le (fun n => heldN fu gi le la k (hh + n)) (rm - wt) v 7 0 (by omega)
  have n0 := c_noon (K := K) (hh := hh) h20 hv b5
  unfold f_X5_standAt f_X5_waitFor
  rcases (by omega : kind = 0 ∨ kind = 1 ∨ kind = 2 ∨ kind = 4 ∨ kind = 6) with z | z | z | z | z
  · subst z
    simp (disch := omega) only [L0, L1, L2, L3, L4, L5, L6, L7, L8, L9, L10, L11, L12, L13, L14, L15, L16, L17, L18, L19, L20, L21, L22, L23, L24, L25, L26, L27, L28, L29, L30, L31, L32, L33, L34, L35, L36, L37, L38, L39, L40, L48, L57, L59, L60, L62, L96, L97, L98, L99, L100, L104, L110, L119, L124, L500, L999, L1000, L2000, L3000, nI_add, pk_mul, pk_sub, nI_leI, nI_ltI, nI_eq, obs, u2_eq, u2_row, u2_ne, if_pos, if_neg, if_true, if_false, eq_self, h00, stN]
  · subst z
    simp (disch := omega) only [L0, L1, L2, L3, L4, L5, L6, L7, L8, L9, L10, L11, L12, L13, L14, L15, L16, L17, L18, L19, L20, L21, L22, L23, L24, L25, L26, L27, L28, L29, L30, L31, L32, L33, L34, L35, L36, L37, L38, L39, L40, L48, L57, L59, L60, L62, L96, L97, L98, L99, L100, L104, L110, L119, L124, L500, L999, L1000, L2000, L3000, nI_add, pk_mul, pk_sub, nI_leI, nI_ltI, nI_eq, obs, u2_eq, u2_row, u2_ne, if_pos, if_neg, if_true, if_false, eq_self, h00, w0, stN]
  · subst z
    simp (disch := omega) only [L0, L1, L2, L3, L4, L5, L6, L7, L8, L9, L10, L11, L12, L13, L14, L15, L16, L17, L18, L19, L20, L21, L22, L23, L24, L25, L26, L27, L28, L29, L30, L31, L32, L33, L34, L35, L36, L37, L38, L39, L40, L48, L57, L59, L60, L62, L96, L97, L98, L99, L100, L104, L110, L119, L124, L500, L999, L1000, L2000, L3000, nI_add, pk_mul, pk_sub, nI_leI, nI_ltI, nI_eq, obs, u2_eq, u2_row, u2_ne, if_pos, if_neg, if_true, if_false, eq_self, h00, n0, stN]
  · subst z
    simp (disch := omega) only [L0, L1, L2, L3, L4, L5, L6, L7, L8, L9, L10, L11, L12, L13, L14, L15, L16, L17, L18, L19, L20, L21, L22, L23, L24, L25, L26, L27, L28, L29, L30, L31, L32, L33, L34, L35, L36, L37, L38, L39, L40, L48, L57, L59, L60, L62, L96, L97, L98, L99, L100, L104, L110, L119, L124, L500, L999, L1000, L2000, L3000, nI_add, pk_mul, pk_sub, nI_leI, nI_ltI, nI_eq, obs, u2_eq, u2_row, u2_ne, if_pos, if_neg, if_true, if_false, eq_self, h00, w0, imin_nI, stN]
    rw [Nat.min_comm]
  · subst z
    by_cases c : 2 * wt < rm
    · simp (disch := omega) only [L0, L1, L2, L3, L4, L5, L6, L7, L8, L9, L10, L11, L12, L13, L14, L15, L16, L17, L18, L19, L20, L21, L22, L23, L24, L25, L26, L27, L28, L29, L30, L31, L32, L33, L34, L35, L36, L37, L38, L39, L40, L48, L57, L59, L60, L62, L96, L97, L98, L99, L100, L104, L110, L119, L124, L500, L999, L1000, L2000, L3000, nI_add, pk_mul, pk_sub, nI_leI, nI_ltI, nI_eq, obs, u2_eq, u2_row, u2_ne, if_pos, if_neg, if_true, if_false, eq_self, h00, n0, stN]
    · simp (disch := omega) only [L0, L1, L2, L3, L4, L5, L6, L7, L8, L9, L10, L11, L12, L13, L14, L15, L16, L17, L18, L19, L20, L21, L22, L23, L24, L25, L26, L27, L28, L29, L30, L31, L32, L33, L34, L35, L36, L37, L38, L39, L40, L48, L57, L59, L60, L62, L96, L97, L98, L99, L100, L104, L110, L119, L124, L500, L999, L1000, L2000, L3000, nI_add, pk_mul, pk_sub, nI_leI, nI_ltI, nI_eq, obs, u2_eq, u2_row, u2_ne, if_pos, if_neg, if_true, if_false, eq_self, h00, n0, stN]
end
