section
variable {x p p' len d f i k n q D W Y N b y dr : Nat} {Z : Nat → Nat} {tx : Nat → Int32} {K : Sh} {I I0 I1 : Im} {R : Rf} {c : Int32} {fu gi hr : Nat → Nat}
theorem SUq.rb (h : SUq x q dr tx len N K R I) : RB x tx len K I R := ⟨h.1, h.2.2.2.2.2.1, h.2.2.2.2.2.2.2.2.1, h.2.2.2.2.2.2.2.2.2.1, h.2.2.2.2.2.2.2.2.2.2.2.1⟩
theorem c_13 (h0 : SUq x q dr tx len N K R I0) (hy : y ≤ 5) (hb1 : 1 ≤ b) (hb9 : b ≤ 9) : ∀ (r m f : Nat) (I : Im), m + r = N → r < f → SFq x dr I0 I → I (x + 1) 8 = nI b → I (x + 1) 9 = nI y → MSq x tx len b y m I → ∃ I1, f_X4_sumUp_13 K R (x + 1) f (some q) (nI y) (nI b) (nI (dNq (qw tx len) m)) I = some I1 ∧ SFq x dr I I1 ∧ TBq dr tx len N b y 33 I1 ∧ ∀ j, (j < (y * 9 + b - 1) * 33 ∨ (y * 9 + b - 1) * 33 + 33 ≤ j) → I1 dr j = I dr j := by
  have hx := h0.2.2.2.2.1
  have hN := h0.2.2.2.2.2.2.1
  have dN := dNq_le (qw tx len) N
  intro r
  induction r with
  | zero =>
    intro m f I e1 e2 hF h8 h9 hM
    obtain ⟨f, rfl⟩ : ∃ f', f = f' + 1 := ⟨f - 1, by omega⟩
    have : m = N := by omega
    subst this
    have h := h0.sf hF
    have F1 : SFq x dr I (u2 I dr ((y * 9 + b - 1) * 33) 0) := ⟨fun z _ _ z3 => u2_row z3, fun k _ _ _ => by rw [u2_row (by omega)]⟩
    obtain ⟨I1, a1, a2, a3, a4⟩ := c_69 h0 hy hb1 hb9 32 0 FU (u2 I dr ((y * 9 + b - 1) * 33) 0) (by omega) (FU_lt (by omega)) (hF.trans F1) (fun j hj hw => by rw [u2_row (by omega)]; exact hM j hj hw) (fun j hj => by
      have : j = 0 := by omega
      subst this
      exact u2_eq _ _ _ _)
    refine ⟨I1, ?_, F1.trans a2, a3, fun j hj => ?_⟩
    · rw [f_X4_sumUp_13, h.2.2.2.2.2.2.2.2.2.2.1, if_pos (Int32.le_refl _)]
      unfold f_X9_sumsOf
      rw [L9, pk_mul, nI_add, L1, pk_sub (by omega), L33, pk_mul, obs, ob9 h.2.1, obs, h.s8 (by omega), obs]
      exact a1
    · rw [a4 j hj, u2_ne (by omega)]
  | succ r ih =>
    intro m f I e1 e2 hF h8 h9 hM
    have h := h0.sf hF
    by_cases hw : qw tx len m = 2
    · obtain ⟨f, rfl⟩ : ∃ f', f = f' + 1 := ⟨f - 1, by omega⟩
      have lt := dNq_lt (qw tx len) (show m < N by omega) hw
      have dl := dNq_le (qw tx len) m
      obtain ⟨n1, n2⟩ := h.2.2.2.2.2.2.2.2.2.2.2.2 m (by omega) hw
      have n2' : I (x + 1 + 3) (dNq (qw tx len) m) = nI (qpl tx len m) := n2
      have e3 : dNq (qw tx len) (m + 1) = dNq (qw tx len) m + 1 := if_pos hw
      obtain ⟨hp, t, ht⟩ := h.2.2.2.2.2.2.2.1 m (by omega)
      obtain ⟨g1, g2, g3, g4, g5⟩ := qCls_get ht
      obtain ⟨q1, q2, q3⟩ := (qCls_in hp ht).2.2.2.2 (by rw [← g1]; exact hw)
      rw [← g4, ← g5] at q1
      rw [← g5] at q2
      obtain ⟨v, v1, v2⟩ := (c_EP h.rb 14).1 0 (qpl tx len m) (by omega) (by omega) q2
      rw [q1] at v1 v2
      obtain ⟨mk, m1, m2⟩ := v2 (qcs tx len m) rfl b y h8 h9 (by omega) (by omega)
      rw [Nat.zero_xor] at m1
      subst m1
      have v1 : f_X4_readEither K R (x + 1) 0 (stQ x (qpl tx len m) I) = some (nI mk, stQ x (qEn tx len m) I) := v1
      have F1 : SFq x dr I (u2 (stQ x (qEn tx len m) I) (x + 5) (dNq (qw tx len) m) (nI mk)) := ⟨fun z z1 z2 z3 => by rw [u2_row z2, stQ_r z1], fun k k1 _ _ => by rw [u2_row (by omega), stQ_f k1]⟩
      have nx := ih (m + 1) f (u2 (stQ x (qEn tx len m) I) (x + 5) (dNq (qw tx len) m) (nI mk)) (by omega) (by omega) (hF.trans F1) (by rw [u2_row (by omega), stQ_f (by omega)]; exact h8) (by rw [u2_row (by omega), stQ_f (by omega)]; exact h9) (fun j hj hwj => by
        by_cases c : j = m
        · subst c
          exact ⟨mk, u2_eq _ _ _ _, m2⟩
        · have l2 := dNq_lt (qw tx len) (show j < m by omega) hwj
          rw [u2_ne (by omega), stQ_r (by omega)]
          exact hM j (by omega) hwj)
      obtain ⟨I1, a1, a2, a3, a4⟩ := nx
      refine ⟨I1, ?_, F1.trans a2, a3, fun j hj => by rw [a4 j hj, u2_row (by omega), stQ_r (by omega)]⟩
      rw [f_X4_sumUp_13, h.2.2.2.2.2.2.2.2.2.2.1, if_neg (by rw [nI_leI (by omega) (by omega)]; omega), l4_6 h.1 (by omega), obs, n2', obs]
      show Option.bind (f_X4_readEither K R (x + 1) 0 (stQ x (qpl tx len m) I)) _ = _
      rw [v1, obs]
      dsimp only
      rw [s4_7 h.1 (by omega), obs, L1, nI_add]
      rw [e3] at a1
      exact a1
    · have e3 : dNq (qw tx len) (m + 1) = dNq (qw tx len) m := if_neg hw
      have nx := ih (m + 1) f I (by omega) (by omega) hF h8 h9 (fun j hj hwj => by
        by_cases c : j = m
        · subst c; exact absurd hwj hw
        · exact hM j (by omega) hwj)
      rw [e3] at nx
      exact nx
theorem c_sumUp (h : SUq x q dr tx len N K R I) (hy : y ≤ 5) (hb1 : 1 ≤ b) (hb9 : b ≤ 9) : ∃ I1, f_X4_sumUp K R (x + 1) (some q) (nI y) (nI b) I = some I1 ∧ SFq x dr I I1 ∧ TBq dr tx len N b y 33 I1 ∧ ∀ j, (j < (y * 9 + b - 1) * 33 ∨ (y * 9 + b - 1) * 33 + 33 ≤ j) → I1 dr j = I dr j := by
  have hx := h.2.2.2.2.1
  have F1 : SFq x dr I (u2 (u2 I (x + 1) 8 (nI b)) (x + 1) 9 (nI y)) := ⟨fun z z1 _ _ => by rw [u2_row z1, u2_row z1], fun k _ k8 k9 => by rw [u2_ne k9, u2_ne k8]⟩
  obtain ⟨I1, a1, a2, a3, a4⟩ := c_13 h hy hb1 hb9 N 0 FU (u2 (u2 I (x + 1) 8 (nI b)) (x + 1) 9 (nI y)) (by omega) (FU_lt (by have := h.2.2.2.2.2.2.1; omega)) F1 (by rw [u2_ne (by omega), u2_eq]) (u2_eq _ _ _ _) (fun j hj => by omega)
  refine ⟨I1, ?_, F1.trans a2, a3, fun j hj => by rw [a4 j hj, u2_row (by omega), u2_row (by omega)]⟩
  unfold f_X4_sumUp
  rw [obs, obs]
  exact a1
def TAq (dr : Nat) (tx : Nat → Int32) (len N y b : Nat) (I : Im) : Prop := ∀ y' b', 1 ≤ b' → b' ≤ 9 → (y' < y ∨ (y' = y ∧ b' < b)) → TBq dr tx len N b' y' 33 I
theorem c_99 {r91 : Option Nat → Int32 → Sh → Nat → Im → Rf → Option (Int32 × Sh × Nat × Im × Rf)} (h0 : SUq x q dr tx len N K R I0) (hy : y ≤ 5) : ∀ (r b f : Nat) (I : Im), b + r = 10 → 1 ≤ b → r < f → SFq x dr I0 I → TAq dr tx len N y b I → ∃ I1, f_X4_readInto_99 Z (x + 1) r91 f (some q) (nI y) (nI b) K n I R = r91 (some q) (nI (y + 1)) K n I1 R ∧ SFq x dr I0 I1 ∧ TAq dr tx len N (y + 1) 1 I1 := by
  have o5 : ob K 5 (some (x + 1)) = some (x + 1) := ob_ok (by rw [h0.1.1])
  intro r
  induction r with
  | zero =>
    intro b f I e1 e2 e3 hF hT
    obtain ⟨f, rfl⟩ : ∃ f', f = f' + 1 := ⟨f - 1, by omega⟩
    have : b = 10 := by omega
    subst this
    refine ⟨I, ?_, hF, fun y' b' h1 h2 h3 => hT y' b' h1 h2 (by omega)⟩
    rw [f_X4_readInto_99, if_pos (by decide), L1, nI_add]
  | succ r ih =>
    intro b f I e1 e2 e3 hF hT
    obtain ⟨f, rfl⟩ : ∃ f', f = f' + 1 := ⟨f - 1, by omega⟩
    obtain ⟨I1, a1, a2, a3, a4⟩ := c_sumUp (h0.sf hF) hy e2 (show b ≤ 9 by omega)
    obtain ⟨I2, k1, k2, k3⟩ := ih (b + 1) f I1 (by omega) (by omega) (by omega) (hF.trans a2) (fun y' b' h1 h2 h3 => by
      by_cases c : y' = y ∧ b' = b
      · obtain ⟨rfl, rfl⟩ := c
        exact a3
      · have lt : y' < y ∨ (y' = y ∧ b' < b) := by omega
        have g := hT y' b' h1 h2 lt
        intro j hj
        rw [a4 _ (Or.inl (by omega))]
        exact g j hj)
    refine ⟨I2, ?_, k2, k3⟩
    rw [f_X4_readInto_99, if_neg (show ¬ 9 < nI b by rw [L9, nI_ltI (by omega) (by omega)]; omega), o5, obs, a1, obs, L1, nI_add]
    exact k1
theorem c_91 (h0 : SUq x q dr tx len N K R I0) : ∀ (r y f : Nat) (I : Im), y + r = 6 → r < f → SFq x dr I0 I → TAq dr tx len N y 1 I → ∃ I1, f_X4_readInto_91 Z (x + 1) f (some q) (nI y) K n I R = some (-1, K, n, I1, R) ∧ SFq x dr I0 I1 ∧ TAq dr tx len N 6 1 I1 := by
  intro r
  induction r with
  | zero =>
    intro y f I e1 e2 hF hT
    obtain ⟨f, rfl⟩ : ∃ f', f = f' + 1 := ⟨f - 1, by omega⟩
    have : y = 6 := by omega
    subst this
    refine ⟨I, ?_, hF, hT⟩
    rw [f_X4_readInto_91, if_pos (by decide)]
  | succ r ih =>
    intro y f I e1 e2 hF hT
    obtain ⟨f, rfl⟩ : ∃ f', f = f' + 1 := ⟨f - 1, by omega⟩
    obtain ⟨I1, a1, a2, a3⟩ := c_99 (Z := Z) (n := n) (r91 := f_X4_readInto_91 Z (x + 1) f) h0 (show y ≤ 5 by omega) 9 1 FU I (by omega) (by omega) (FU_lt (by omega)) hF hT
    obtain ⟨I2, k1, k2, k3⟩ := ih (y + 1) f I1 (by omega) (by omega) a2 a3
    refine ⟨I2, ?_, k2, k3⟩
    rw [f_X4_readInto_91, if_neg (show ¬ 6 ≤ nI y by rw [L6, nI_leI (by omega) (by omega)]; omega), show (1 : Int32) = nI 1 from rfl, a1]
    exact k1
/-- the whole text read and summed up -/
theorem c_62 {N : Nat} (hS4 : S4 (x + 1) K R) (hS : S9 q K R) (hl : len ≤ 100) (htx : ∀ j, j < len → I0 (x + 2) j = tx j) (hq : x + 110 ≤ q) (hqn : q + 3 < n) (hdr : R q 8 = none ∨ ∃ dr, R q 8 = some dr ∧ K dr = (21, 1782) ∧ x + 110 ≤ dr ∧ dr < n) (h1 : 1 ≤ N) (h12 : N ≤ 12) (hps : ∀ m, m < N → qPs tx len m ≤ len) (hcl : ∀ m, m < N → ∃ t, qCls tx len m = some t) (hCI : CIq x q tx len N len I0 I) :
    ∃ dr K' n' R' I', f_X4_readInto_62 Z (x + 1) (some q) K n I R = some (-1, K', n', I', R') ∧ R' q 8 = some dr ∧ K' dr = (21, 1782) ∧ x + 110 ≤ dr ∧ dr < n' ∧ ((K' = K ∧ n' = n ∧ R' = R) ∨ (R q 8 = none ∧ dr = n ∧ n' = n + 1 ∧ K' = u1 K n (21, 1782) ∧ R' = u2 R q 8 (some n))) ∧ (∀ z, z ≠ x + 1 → z ≠ x + 5 → z ≠ dr → I' z = I z) ∧ I' (x + 1) 1 = nI len ∧ ∀ k b j, k < 6 → 1 ≤ b → b ≤ 9 → j < 33 → I' dr ((k * 9 + b - 1) * 33 + j) = nI (wayD (d1N (qw tx len) (qc tx len) (qcs tx len) N b k) 0 j) := by
  obtain ⟨i1, i2, i3, i4, i5, i6, i7, i8, i9, i10⟩ := hCI
  have o5 : ob K 5 (some (x + 1)) = some (x + 1) := ob_ok (by rw [hS4.1])
  have htx1 : ∀ j, j < len → I (x + 2) j = tx j := fun j hj => by rw [i1 _ (by omega) (by omega) (by omega) (by omega) (by omega) (by omega) (by omega)]; exact htx j hj
  have fin : ∀ (dr n' : Nat) (K' : Sh) (R' : Rf) (I2 : Im), S4 (x + 1) K' R' → S9 q K' R' → R' q 8 = some dr → K' dr = (21, 1782) → x + 110 ≤ dr → (∀ z, z ≠ dr → I2 z = I z) → ∃ I', f_X4_readInto_91 Z (x + 1) FU (some q) 0 K' n' I2 R' = some (-1, K', n', I', R') ∧ (∀ z, z ≠ x + 1 → z ≠ x + 5 → z ≠ dr → I' z = I z) ∧ I' (x + 1) 1 = nI len ∧ ∀ k b j, k < 6 → 1 ≤ b → b ≤ 9 → j < 33 → I' dr ((k * 9 + b - 1) * 33 + j) = nI (wayD (d1N (qw tx len) (qc tx len) (qcs tx len) N b k) 0 j) := by
    intro dr n' K' R' I2 a1 a2 a3 a4 a5 a6
    have hSU : SUq x q dr tx len N K' R' I2 := ⟨a1, a2, a3, a4, a5, hl, h12, fun m hm => ⟨hps m hm, hcl m hm⟩, by rw [a6 _ (by omega)]; exact i2, by rw [a6 _ (by omega)]; exact i4, by rw [a6 _ (by omega)]; exact i5, fun j hj => by rw [a6 _ (by omega)]; exact htx1 j hj, fun m hm hw => by rw [a6 _ (by omega), a6 _ (by omega)]; exact i10 m hm hw⟩
    obtain ⟨I', g1, g2, g3⟩ := c_91 (Z := Z) (n := n') hSU 6 0 FU I2 (by omega) (FU_lt (by omega)) SFq.refl (fun y' b' _ _ h => by omega)
    refine ⟨I', g1, fun z z1 z2 z3 => by rw [g2.1 z z1 z2 z3]; exact a6 z z3, by rw [g2.2 1 (by omega) (by omega) (by omega), a6 _ (by omega)]; exact i2, fun k b j k1 k2 k3 k4 => g3 k b k2 k3 (Or.inl k1) j k4⟩
  have e3 : ¬ I (x + 1) 3 = 0 := by rw [i4]; decide
  unfold f_X4_readInto_62
  rw [o5, obs, if_neg e3, i2, i3, if_pos (Int32.le_refl _), ob9 hS, obs]
  unfold f_X9_makeSums
  rw [ob9 hS, obs]
  rcases hdr with hd | ⟨dr, d1, d2, d3, d4⟩
  · have hK : ∀ z, z < n → u1 K n (21, 1782) z = K z := fun z hz => u1_ne (by omega)
    have hR : ∀ z, z ≠ q → u2 R q 8 (some n) z = R z := fun z hz => u2_row hz
    have o9 : ob (u1 K n (21, 1782)) 10 (some q) = some q := ob_ok (by rw [hK q (by omega), hS.1])
    have S4' : S4 (x + 1) (u1 K n (21, 1782)) (u2 R q 8 (some n)) := by
      unfold S4 at hS4 ⊢
      rw [hK _ (by omega), hK _ (by omega), hK _ (by omega), hK _ (by omega), hK _ (by omega), hR _ (by omega)]
      exact hS4
    have S9' : S9 q (u1 K n (21, 1782)) (u2 R q 8 (some n)) := by
      unfold S9 at hS ⊢
      rw [hK _ (by omega), hK _ (by omega), hK _ (by omega), hK _ (by omega), u2_ne (by omega), u2_ne (by omega), u2_ne (by omega)]
      exact hS
    obtain ⟨I', f1, f2, f3, f4⟩ := fin n (n + 1) (u1 K n (21, 1782)) (u2 R q 8 (some n)) (zr I n 0) S4' S9' (u2_eq _ _ _ _) (u1_eq _ _ _) (by omega) (fun z hz => zr_row hz)
    refine ⟨n, u1 K n (21, 1782), n + 1, u2 R q 8 (some n), I', ?_, u2_eq _ _ _ _, u1_eq _ _ _, by omega, by omega, Or.inr ⟨hd, rfl, rfl, rfl, rfl⟩, f2, f3, f4⟩
    rw [if_pos hd, obs, obs, o9, obs, obs, obs]
    exact f1
  · obtain ⟨I', f1, f2, f3, f4⟩ := fin dr n K R I hS4 hS d1 d2 d3 (fun _ _ => rfl)
    refine ⟨dr, K, n, R, I', ?_, d1, d2, d3, d4, Or.inl ⟨rfl, rfl, rfl⟩, f2, f3, f4⟩
    rw [if_neg (by rw [d1]; simp), obs]
    exact f1
end
