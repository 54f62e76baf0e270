/-! the class' sums of what is drunk -/
theorem tb_and {m k : Nat} (hm : m < 2 ^ 24) (hk : k < 24) : (ishr (nI m) (nI k)) &&& 1 = nI (if m.testBit k = true then 1 else 0) := by
  have sh : ∀ k, k < 24 → ((nI k &&& 31).toBitVec.smod 32).toNat = k := by decide
  apply Int32.toBitVec_inj.mp
  show ((BitVec.ofNat 32 m).sshiftRight ((nI k &&& 31).toBitVec.smod 32).toNat) &&& 1#32 = BitVec.ofNat 32 (if m.testBit k = true then 1 else 0)
  rw [sh k hk]
  apply BitVec.eq_of_getLsbD_eq
  intro i hi
  rw [BitVec.getLsbD_and, BitVec.getLsbD_sshiftRight]
  by_cases h0 : i = 0
  · subst h0
    have e1 : (1#32).getLsbD 0 = true := by decide
    have e2 : (BitVec.ofNat 32 m).getLsbD (k + 0) = m.testBit k := by
      rw [BitVec.getLsbD_ofNat, decide_eq_true (by omega), Bool.true_and, Nat.add_zero]
    rw [e1, if_pos (by omega), e2]
    cases m.testBit k <;> decide
  · have e1 : (1#32).getLsbD i = false := by
      have : ∀ i, i < 32 → i ≠ 0 → (1#32).getLsbD i = false := by decide
      exact this i hi h0
    have e2 : (BitVec.ofNat 32 (if m.testBit k = true then 1 else 0)).getLsbD i = false := by
      have : ∀ i, i < 32 → i ≠ 0 → (BitVec.ofNat 32 1).getLsbD i = false ∧ (BitVec.ofNat 32 0).getLsbD i = false := by decide
      cases m.testBit k
      · exact (this i hi h0).2
      · exact (this i hi h0).1
    rw [e1, e2, Bool.and_false]
theorem cdN_mk {b y m h : Nat} {cs : List Nat} (hm : MKb b y cs m) (hh : h < 24) : cdN cs h b y = m.testBit h := by
  unfold cdN
  rw [hm.2 h hh []]
section
variable {x p p' len d f i k n q D W Y N b y dr : Nat} {Z : Nat → Nat} {tx : Nat → Int32} {K : Sh} {I I0 I1 : Im} {R : Rf} {c : Int32} {fu gi hr : Nat → Nat}
theorem qCls_in {t : QCl} (hp : qPs tx len n ≤ len) (h : qCls tx len n = some t) : t.1 ≤ 5 ∧ t.2.1 ≤ 99 ∧ (t.1 = 1 → t.2.1 ≤ 9) ∧ t.2.2.1 ≤ 99 ∧ (t.1 = 2 → (qEP tx len 14).1 0 t.2.2.2.2 = (some t.2.2.2.1, qEn tx len n) ∧ t.2.2.2.2 ≤ len ∧ qWF t.2.2.2.1) := by
  have hk5 : ∀ v c1, qHd v c1 ≤ 5 := fun v c1 => by
    unfold qHd
    split
    · omega
    · split
      · omega
      · split
        · omega
        · split
          · split <;> omega
          · omega
  unfold qEn
  unfold qCls at h
  unfold qC at h ⊢
  have wb := qWN_b (tx := tx) (kd := qHd (qNx tx len (qPs tx len n)) (qNx tx len (qPs tx len n + 1))) hp
  have hk := hk5 (qNx tx len (qPs tx len n)) (qNx tx len (qPs tx len n + 1))
  generalize qHd (qNx tx len (qPs tx len n)) (qNx tx len (qPs tx len n + 1)) = kd at wb hk h ⊢
  generalize qWN tx len kd (qPs tx len n) = r at wb h ⊢
  obtain ⟨r1, r2⟩ := r
  obtain ⟨b1, b2, b3⟩ := wb
  dsimp only at b1 b2 b3
  cases r1 with
  | none => cases h
  | some c =>
    obtain ⟨c1, c2, c3⟩ := b3 c rfl
    have h : (qCk tx len kd c r2).1 = some t := h
    show t.1 ≤ 5 ∧ t.2.1 ≤ 99 ∧ (t.1 = 1 → t.2.1 ≤ 9) ∧ t.2.2.1 ≤ 99 ∧ (t.1 = 2 → (qEP tx len 14).1 0 t.2.2.2.2 = (some t.2.2.2.1, (qCk tx len kd c r2).2) ∧ _)
    unfold qCk at h ⊢
    by_cases k2 : kd = 2
    · rw [if_pos k2] at h ⊢
      by_cases h32 : qNx tx len r2 = 32
      · have hlt := qNx_lt h32 (by decide)
        rw [if_pos h32] at h ⊢
        have ok := (qEP_ok (tx := tx) (len := len) 14).1 0 (r2 + 1)
        generalize hs : (qEP tx len 14).1 0 (r2 + 1) = s at ok h ⊢
        obtain ⟨s1, s2⟩ := s
        cases s1 with
        | none => cases h
        | some cs =>
          cases h
          exact ⟨show 2 ≤ 5 by omega, c1, (fun e => by cases e), show 0 ≤ 99 by omega, fun _ => ⟨hs, by dsimp only; omega, (ok.2.2 cs rfl).2.2⟩⟩
      · rw [if_neg h32] at h
        cases h
    rw [if_neg k2] at h ⊢
    by_cases k0 : kd = 0
    · rw [if_pos k0] at h ⊢
      by_cases h32 : qNx tx len r2 = 32
      · rw [if_pos h32] at h ⊢
        have ok := qN2_b (tx := tx) (len := len) (p := r2 + 1) rfl
        generalize qN2 tx len (r2 + 1) = s at ok h ⊢
        obtain ⟨s1, s2⟩ := s
        cases s1 with
        | none => cases h
        | some d =>
          cases h
          exact ⟨show 0 ≤ 5 by omega, c1, (fun e => by cases e), (ok.2.2 d rfl).1, (fun e => by cases e)⟩
      · rw [if_neg h32] at h
        cases h
    · rw [if_neg k0] at h
      cases h
      exact ⟨hk, c1, c2, show 0 ≤ 99 by omega, fun e => absurd e k2⟩
theorem qCls_get {t : QCl} (h : qCls tx len n = some t) : qw tx len n = t.1 ∧ qc tx len n = t.2.1 ∧ qd tx len n = t.2.2.1 ∧ qcs tx len n = t.2.2.2.1 ∧ qpl tx len n = t.2.2.2.2 := by
  have hg : qGet tx len n = t := by
    unfold qGet
    rw [h]
    rfl
  unfold qw qc qd qcs qpl
  rw [hg]
  exact ⟨rfl, rfl, rfl, rfl, rfl⟩
/-- while the sums are made -/
def SUq (x q dr : Nat) (tx : Nat → Int32) (len N : Nat) (K : Sh) (R : Rf) (I : Im) : Prop := S4 (x + 1) K R ∧ S9 q K R ∧ R q 8 = some dr ∧ K dr = (21, 1782) ∧ x + 110 ≤ dr ∧ len ≤ 100 ∧ N ≤ 12 ∧ (∀ m, m < N → qPs tx len m ≤ len ∧ ∃ t, qCls tx len m = some t) ∧ I (x + 1) 1 = nI len ∧ I (x + 1) 3 = 1 ∧ I (x + 1) 4 = nI (dNq (qw tx len) N) ∧ (∀ j, j < len → I (x + 2) j = tx j) ∧ ∀ m, m < N → qw tx len m = 2 → I (x + 3) (dNq (qw tx len) m) = nI (qc tx len m) ∧ I (x + 4) (dNq (qw tx len) m) = nI (qpl tx len m)
/-- only these cells have changed since -/
def SFq (x dr : Nat) (I I1 : Im) : Prop := (∀ z, z ≠ x + 1 → z ≠ x + 5 → z ≠ dr → I1 z = I z) ∧ ∀ k, k ≠ 2 → k ≠ 8 → k ≠ 9 → I1 (x + 1) k = I (x + 1) k
theorem SFq.refl : SFq x dr I I := ⟨fun _ _ _ _ => rfl, fun _ _ _ _ => rfl⟩
theorem SFq.trans {I2 : Im} (h : SFq x dr I I1) (h2 : SFq x dr I1 I2) : SFq x dr I I2 := ⟨fun z a b c => (h2.1 z a b c).trans (h.1 z a b c), fun k a b c => (h2.2 k a b c).trans (h.2 k a b c)⟩
theorem SUq.sf (h : SUq x q dr tx len N K R I) (hF : SFq x dr I I1) : SUq x q dr tx len N K R I1 := by
  obtain ⟨h1, h2, h3, h4, h5, h6, h7, h8, h9, h10, h11, h12, h13⟩ := h
  exact ⟨h1, h2, h3, h4, h5, h6, h7, h8, by rw [hF.2 1 (by omega) (by omega) (by omega)]; exact h9, by rw [hF.2 3 (by omega) (by omega) (by omega)]; exact h10, by rw [hF.2 4 (by omega) (by omega) (by omega)]; exact h11, fun j hj => by rw [hF.1 _ (by omega) (by omega) (by omega)]; exact h12 j hj, fun m hm hw => by rw [hF.1 _ (by omega) (by omega) (by omega), hF.1 _ (by omega) (by omega) (by omega)]; exact h13 m hm hw⟩
theorem SUq.l8 (h : SUq x q dr tx len N K R I) {j : Nat} (hj : j < 1782) : ldI K I (R q 8) (nI j) = some (I dr j) := by
  rw [h.2.2.1]
  exact ldI_ok (by rw [h.2.2.2.1]) (by rw [h.2.2.2.1]; exact hj) (by rw [h.2.2.2.1]; omega)
theorem SUq.s8 (h : SUq x q dr tx len N K R I) {j : Nat} (hj : j < 1782) {v : Int32} {S : Im} : stI K S (R q 8) (nI j) v = some (u2 S dr j v) := by
  rw [h.2.2.1]
  exact stI_ok (by rw [h.2.2.2.1]) (by rw [h.2.2.2.1]; exact hj) (by rw [h.2.2.2.1]; omega)
def TBq (dr : Nat) (tx : Nat → Int32) (len N b y m : Nat) (I : Im) : Prop := ∀ j, j < m → I dr ((y * 9 + b - 1) * 33 + j) = nI (wayD (d1N (qw tx len) (qc tx len) (qcs tx len) N b y) 0 j)
def MSq (x : Nat) (tx : Nat → Int32) (len b y m : Nat) (I : Im) : Prop := ∀ j, j < m → qw tx len j = 2 → ∃ k, I (x + 5) (dNq (qw tx len) j) = nI k ∧ MKb b y (qcs tx len j) k
theorem qc_le (h : SUq x q dr tx len N K R I) : ∀ m, m < N → qc tx len m ≤ 99 := fun m hm => by
  obtain ⟨hp, t, ht⟩ := h.2.2.2.2.2.2.2.1 m hm
  rw [(qCls_get ht).2.1]
  exact (qCls_in hp ht).2.1
theorem c_93 (h : SUq x q dr tx len N K R I) (hM : MSq x tx len b y N I) {r69 : Option Nat → Int32 → Int32 → Im → Option Im} {base s A : Nat} (hs : s ≤ 31) (hb : base + 33 ≤ 1782) (hA : A ≤ 1188 * 33) : ∀ (r m f : Nat), m + r = N → r < f → f_X4_sumUp_93 K R (x + 1) r69 f (some q) (nI base) (nI s) (nI (A + drV (qw tx len) (qc tx len) (fun n => cdN (qcs tx len n) (s % 24) b y) m)) (nI (dNq (qw tx len) m)) I = r69 (some q) (nI base) (nI (s + 1)) (u2 I dr (base + s + 1) (nI (A + drV (qw tx len) (qc tx len) (fun n => cdN (qcs tx len n) (s % 24) b y) N))) := by
  have qcl := qc_le h
  have hN := h.2.2.2.2.2.2.1
  have dN := dNq_le (qw tx len) N
  have h24 : s % 24 < 24 := Nat.mod_lt _ (by omega)
  intro r
  induction r with
  | zero =>
    intro m f e1 e2
    obtain ⟨f, rfl⟩ : ∃ f', f = f' + 1 := ⟨f - 1, by omega⟩
    have : m = N := by omega
    subst this
    rw [f_X4_sumUp_93, h.2.2.2.2.2.2.2.2.2.2.1, if_pos (Int32.le_refl _), ob9 h.2.1, obs, nI_add, L1, nI_add, h.s8 (by omega), obs, nI_add]
  | succ r ih =>
    intro m f e1 e2
    have drb := drV_le (w := qw tx len) (cd := fun n => cdN (qcs tx len n) (s % 24) b y) (N := m) (fun n hn => qcl n (by omega))
    by_cases hw : qw tx len m = 2
    · obtain ⟨f, rfl⟩ : ∃ f', f = f' + 1 := ⟨f - 1, by omega⟩
      have lt := dNq_lt (qw tx len) (show m < N by omega) hw
      obtain ⟨k, k1, k2⟩ := hM m (by omega) hw
      obtain ⟨n1, n2⟩ := h.2.2.2.2.2.2.2.2.2.2.2.2 m (by omega) hw
      have e3 : dNq (qw tx len) (m + 1) = dNq (qw tx len) m + 1 := if_pos hw
      have nx := ih (m + 1) f (by omega) (by omega)
      have cd := cdN_mk k2 h24
      have k1' : I (x + 1 + 4) (dNq (qw tx len) m) = nI k := k1
      have n1' : I (x + 1 + 2) (dNq (qw tx len) m) = nI (qc tx len m) := n1
      have dr1 : drV (qw tx len) (qc tx len) (fun n => cdN (qcs tx len n) (s % 24) b y) (m + 1) = drV (qw tx len) (qc tx len) (fun n => cdN (qcs tx len n) (s % 24) b y) m + (if qw tx len m = 2 ∧ cdN (qcs tx len m) (s % 24) b y = true then qc tx len m else 0) := rfl
      have dl := dNq_le (qw tx len) m
      rw [f_X4_sumUp_93, h.2.2.2.2.2.2.2.2.2.2.1, if_neg (by rw [nI_leI (by omega) (by omega)]; omega), l4_7 h.1 (by omega), obs, k1', L24, irem_nI (by omega) (by omega) (by omega), tb_and k2.1 h24]
      by_cases hb : k.testBit (s % 24) = true
      · rw [if_pos hb, if_pos (show nI 1 = 1 from rfl), l4_5 h.1 (by omega), obs, n1', nI_add, L1, nI_add]
        rw [dr1, if_pos ⟨hw, by rw [cd]; exact hb⟩, e3, ← Nat.add_assoc] at nx
        exact nx
      · rw [if_neg hb, if_neg (show ¬ nI 0 = 1 by decide), L1, nI_add]
        rw [dr1, if_neg (fun e => hb (by rw [← cd]; exact e.2)), e3, Nat.add_zero] at nx
        exact nx
    · have e3 : dNq (qw tx len) (m + 1) = dNq (qw tx len) m := if_neg hw
      have nx := ih (m + 1) f (by omega) (by omega)
      have dr1 : drV (qw tx len) (qc tx len) (fun n => cdN (qcs tx len n) (s % 24) b y) (m + 1) = drV (qw tx len) (qc tx len) (fun n => cdN (qcs tx len n) (s % 24) b y) m + (if qw tx len m = 2 ∧ cdN (qcs tx len m) (s % 24) b y = true then qc tx len m else 0) := rfl
      rw [dr1, if_neg (fun e => hw e.1), e3, Nat.add_zero] at nx
      exact nx
theorem c_69 (h0 : SUq x q dr tx len N K R I0) (hy : y ≤ 5) (hb1 : 1 ≤ b) (hb9 : b ≤ 9) : ∀ (r s f : Nat) (I : Im), s + r = 32 → r < f → SFq x dr I0 I → MSq x tx len b y N I → TBq dr tx len N b y (s + 1) I → ∃ I1, f_X4_sumUp_69 K R (x + 1) f (some q) (nI ((y * 9 + b - 1) * 33)) (nI s) I = some I1 ∧ SFq x dr I I1 ∧ TBq dr tx len N b y 33 I1 ∧ ∀ j, (j < (y * 9 + b - 1) * 33 ∨ (y * 9 + b - 1) * 33 + 33 ≤ j) → I1 dr j = I dr j := by
  intro r
  induction r with
  | zero =>
    intro s f I e1 e2 hF hM hT
    obtain ⟨f, rfl⟩ : ∃ f', f = f' + 1 := ⟨f - 1, by omega⟩
    have : s = 32 := by omega
    subst this
    refine ⟨I, ?_, SFq.refl, hT, fun _ _ => rfl⟩
    rw [f_X4_sumUp_69, if_pos (by decide)]
  | succ r ih =>
    intro s f I e1 e2 hF hM hT
    obtain ⟨f, rfl⟩ : ∃ f', f = f' + 1 := ⟨f - 1, by omega⟩
    have h := h0.sf hF
    have qcl := qc_le h
    have hN := h.2.2.2.2.2.2.1
    have wb : ∀ j, j ≤ 33 → wayD (d1N (qw tx len) (qc tx len) (qcs tx len) N b y) 0 j ≤ 1188 * j := fun j hj => by
      induction j with
      | zero => exact Nat.le_refl _
      | succ j ihj =>
        have := ihj (by omega)
        have d := d1N_le (w := qw tx len) (cs := qcs tx len) hN qcl b y ((0 + j) % 24)
        show wayD _ 0 j + _ ≤ _
        omega
    have wbs := wb s (by omega)
    have base : (y * 9 + b - 1) * 33 + 33 ≤ 1782 := by omega
    generalize hB : (y * 9 + b - 1) * 33 = B at base ih ⊢
    have v0 : I dr (B + s) = nI (wayD (d1N (qw tx len) (qc tx len) (qcs tx len) N b y) 0 s) := by rw [← hB]; exact hT s (by omega)
    have g := c_93 (r69 := f_X4_sumUp_69 K R (x + 1) f) h hM (base := B) (s := s) (A := wayD (d1N (qw tx len) (qc tx len) (qcs tx len) N b y) 0 s) (by omega) base (by omega) N 0 FU (by omega) (FU_lt (by omega))
    have w1 : wayD (d1N (qw tx len) (qc tx len) (qcs tx len) N b y) 0 (s + 1) = wayD (d1N (qw tx len) (qc tx len) (qcs tx len) N b y) 0 s + drV (qw tx len) (qc tx len) (fun n => cdN (qcs tx len n) (s % 24) b y) N := by
      show wayD _ 0 s + d1N (qw tx len) (qc tx len) (qcs tx len) N b y ((0 + s) % 24) = _
      rw [Nat.zero_add]
      rfl
    rw [← w1] at g
    have F1 : SFq x dr I (u2 I dr (B + s + 1) (nI (wayD (d1N (qw tx len) (qc tx len) (qcs tx len) N b y) 0 (s + 1)))) := ⟨fun z _ _ z3 => u2_row z3, fun k _ _ _ => by rw [u2_row (by have := h.2.2.2.2.1; omega)]⟩
    obtain ⟨I1, a1, a2, a3, a4⟩ := ih (s + 1) f (u2 I dr (B + s + 1) (nI (wayD (d1N (qw tx len) (qc tx len) (qcs tx len) N b y) 0 (s + 1)))) (by omega) (by omega) (hF.trans F1) (fun j hj hw => by
      rw [u2_row (by have := h.2.2.2.2.1; omega)]
      exact hM j hj hw) (fun j hj => by
      rw [hB]
      by_cases c : j = s + 1
      · subst c; exact u2_eq _ _ _ _
      · rw [u2_ne (by omega), ← hB]; exact hT j (by omega))
    refine ⟨I1, ?_, F1.trans a2, a3, fun j hj => ?_⟩
    · rw [f_X4_sumUp_69, L1, nI_add, if_neg (show ¬ 33 ≤ nI (s + 1) by rw [L33, nI_leI (by omega) (by omega)]; omega), ob9 h.2.1, obs, nI_add, h.l8 (by omega), obs, v0]
      have e0 : wayD (d1N (qw tx len) (qc tx len) (qcs tx len) N b y) 0 s + drV (qw tx len) (qc tx len) (fun n => cdN (qcs tx len n) (s % 24) b y) 0 = wayD (d1N (qw tx len) (qc tx len) (qcs tx len) N b y) 0 s := rfl
      rw [e0] at g
      rw [show (0 : Int32) = nI (dNq (qw tx len) 0) from rfl, g]
      exact a1
    · rw [a4 j hj, u2_ne (by omega)]
end
