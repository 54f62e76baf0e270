/-! the reference's loop over a test -/
def SMq (x : Nat) (tx : Nat → Int32) (len i fr p d : Nat) (W C : List Nat) (K : Sh) (I : Im) (R : Rf) : Prop := RMq x tx len p K I R ∧ EMq x fr C I ∧ STq x W I ∧ I (x + 62) 16 = nI d ∧ fr + C.length + W.length ≤ 100 * i + p ∧ W.length ≤ p ∧ i ≤ 4 ∧ d ≤ 4
def tlM (K : Sh) (R : Rf) (o k : Nat) (x1 q11 : Int32) (I : Im) : Option (Int32 × Im) :=
  Option.bind (stI K I (R o 11) x1 (I o 14)) fun I15 =>
          if (I15 o 15) = 0 then
            some (1, I15)
          else
            if q11 = 41 then
              Option.bind (some (u2 I15 o 15 ((I15 o 15) - 1))) fun I16 =>
              Option.bind (some (u2 I16 o 16 ((I16 o 16) - 1))) fun I17 =>
              Option.bind (some (u2 I17 o 3 ((I17 o 3) + 1))) fun I18 =>
              Option.bind (f_X12_whole K R o I18) fun q19 =>
              f_X12_takesE_22 K R o k x1 0 q19
            else
              some (0, I15)
def BRq (x ci fr : Nat) (e : Option (Int32 × Im)) (I : Im) (r : QRes) : Prop := r.1 = none → ∃ I1, e = some (0, I1) ∧ I1 (x + 62) 3 = nI r.2 ∧ XFq x ci fr I I1
def PRq (x : Nat) (tx : Nat → Int32) (len i ci fr d k : Nat) (W C : List Nat) (K : Sh) (R : Rf) (e : Option (Int32 × Im)) (I : Im) (r : QRes) : Prop := (∀ cs, r.1 = some cs → ∃ I1 f1, e = f_X12_takesE_22 K R (x + 62) f1 (nI ci) 0 I1 ∧ 200 ≤ f1 + r.2 ∧ SMq x tx len i fr r.2 (d - k) W (C ++ cs ++ List.replicate k 0) K I1 R ∧ XFq x ci fr I I1) ∧ BRq x ci fr e I r
def ERq (x : Nat) (tx : Nat → Int32) (len i ci fr d : Nat) (W C : List Nat) (K : Sh) (R : Rf) (e : Option (Int32 × Im)) (I : Im) (r : QRes) : Prop := (∀ cs, r.1 = some cs → ∃ I1 k1, e = tlM K R (x + 62) k1 (nI ci) (qNx tx len r.2) I1 ∧ 200 ≤ k1 + r.2 + 1 ∧ SMq x tx len i fr r.2 d W (C ++ cs) K I1 R ∧ XFq x ci fr I I1) ∧ BRq x ci fr e I r
section
variable {x p p' len d f i k n ci fr c : Nat} {tx : Nat → Int32} {K : Sh} {I I1 I2 : Im} {R : Rf} {C W : List Nat}
theorem r_op (v : Int32) (o : Nat) : f_X12_in o v 60 62 = some (bI (qOp v).isSome) ∧ ∀ a, qOp v = some a → v = nI (60 + a) := by
  unfold qOp
  rcases rg v 60 62 (by omega) (by omega) with ⟨m, p1, p2, p3, p4, p5⟩ | ⟨p4, p5, p6⟩
  · have p5 : ∀ o, f_X12_in o v 60 62 = some (nI 1) := p5
    rw [p5]
    rcases (by omega : m = 60 ∨ m = 61 ∨ m = 62) with e | e | e
    · subst e
      have e1 : v = 60 := p1
      rw [if_pos e1]
      exact ⟨rfl, fun a z => by cases z; exact p1⟩
    · subst e
      have e1 : v = 61 := p1
      rw [if_neg (by rw [e1]; decide), if_pos e1]
      exact ⟨rfl, fun a z => by cases z; exact p1⟩
    · subst e
      have e1 : v = 62 := p1
      rw [if_neg (by rw [e1]; decide), if_neg (by rw [e1]; decide), if_pos e1]
      exact ⟨rfl, fun a z => by cases z; exact p1⟩
  · have p5 : ∀ o, f_X12_in o v 60 62 = some (nI 0) := p5
    rw [p5, if_neg (show ¬ v = 60 from fun e => p6 60 e (by omega) (by omega)), if_neg (show ¬ v = 61 from fun e => p6 61 e (by omega) (by omega)), if_neg (show ¬ v = 62 from fun e => p6 62 e (by omega) (by omega))]
    exact ⟨rfl, fun a z => by cases z⟩
theorem r_place (v : Int32) (o : Nat) : ∃ q, f_X12_place o v = some q ∧ ((qPl v = none ∧ ¬ 0 ≤ q) ∨ ∃ a, qPl v = some a ∧ a ≤ 2 ∧ q = nI a) := by
  unfold f_X12_place qPl
  by_cases c1 : v = 98
  · exact ⟨1, if_pos c1, Or.inr ⟨1, by rw [if_neg (by rw [c1]; decide), if_pos c1], by omega, rfl⟩⟩
  by_cases c0 : v = 104
  · exact ⟨0, by rw [if_neg c1, if_pos c0], Or.inr ⟨0, by rw [if_pos c0], by omega, rfl⟩⟩
  by_cases c2 : v = 119
  · exact ⟨2, by rw [if_neg c1, if_neg c0, if_pos c2], Or.inr ⟨2, by rw [if_neg c0, if_neg c1, if_pos c2], by omega, rfl⟩⟩
  · exact ⟨-1, by rw [if_neg c1, if_neg c0, if_neg c2], Or.inl ⟨by rw [if_neg c0, if_neg c1, if_neg c2], by decide⟩⟩
theorem r_test (h : SMq x tx len i fr p d (List.replicate k 33 ++ W) C K I R) (hW : ∀ V, W ≠ 33 :: V) (hk : k ≤ d) : (∀ cs, (qTs tx len p).1 = some cs → ∃ I1, f_X12_takesTest K R (x + 62) I = some (1, I1) ∧ SMq x tx len i fr (qTs tx len p).2 (d - k) W (C ++ cs ++ List.replicate k 0) K I1 R ∧ XFq x ci fr I I1) ∧ BRq x ci fr (f_X12_takesTest K R (x + 62) I) I (qTs tx len p) := by
  obtain ⟨hR, hE, hS, h16, hb, hb2, hi, hd4⟩ := h
  have hM := hR.1
  have hlen := hR.2.1
  have hpl := hR.2.2.2.2.1
  have hl : (List.replicate k 33 ++ W).length = k + W.length := by simp
  rw [hl] at hb hb2
  unfold f_X12_takesTest qTs
  rw [r_next hR, obs]
  obtain ⟨q3, a1, a2⟩ := r_place (qNx tx len p) (x + 62)
  rw [a1, obs]
  rcases a2 with ⟨b1, b2⟩ | ⟨pl, b1, b2, b3⟩
  · rw [if_neg b2, b1]
    exact ⟨fun cs z => (by cases z), fun _ => ⟨I, rfl, hR.2.2.2.1, XFq.refl⟩⟩
  · have lt1 := qNx_lt (tx := tx) (len := len) (p := p) rfl (qPl_s b1).2
    have h3 : I (x + 62) 3 = nI p := hR.2.2.2.1
    have N1 : NMq x I (u2 I (x + 62) 3 (nI (p + 1))) := NMq.refl.p3
    have R1 := hR.nm N1 (u2_eq _ _ _ _) (show p + 1 ≤ len by omega)
    obtain ⟨c1, c2⟩ := r_op (qNx tx len (p + 1)) (x + 62)
    rw [b3, if_pos (yes_nI (by omega)), h3, L1, nI_add, obs, r_next R1, obs, c1, obs, b1]
    dsimp only
    cases c3 : qOp (qNx tx len (p + 1)) with
    | none =>
      rw [if_pos (show bI (none : Option Nat).isSome = 0 from rfl)]
      exact ⟨fun cs z => (by cases z), fun _ => ⟨_, rfl, u2_eq _ _ _ _, XFq.nm N1⟩⟩
    | some op =>
      have lt2 := qNx_lt (tx := tx) (len := len) (p := p + 1) rfl (qOp_s c3).2
      have op2 := (qOp_s c3).1
      have e6 := c2 op c3
      rw [if_neg (show ¬ bI (some op : Option Nat).isSome = 0 by show ¬ bI true = 0; decide), u2_eq, nI_add, obs]
      have N2 : NMq x I (u2 (u2 I (x + 62) 3 (nI (p + 1))) (x + 62) 3 (nI (p + 1 + 1))) := N1.p3
      have R2 := hR.nm N2 (u2_eq _ _ _ _) (show p + 1 + 1 ≤ len by omega)
      obtain ⟨I3, d1, d2, d3, d4⟩ := r_num2 R2
      have nb := qN2_b (tx := tx) (len := len) (p := p + 1 + 1) rfl
      rw [d1, obs]
      dsimp only
      show (∀ cs, (match qN2 tx len (p + 1 + 1) with
        | (none, p') => ((none, p') : QRes)
        | (some n, p') => (some [1000 * pl + 100 * op + n + 3], p')).1 = some cs → _) ∧ _
      generalize qN2 tx len (p + 1 + 1) = r at d1 d3 d4 nb ⊢
      obtain ⟨r1, r2⟩ := r
      dsimp only at d3 d4 nb ⊢
      have N3 := N2.trans d2
      cases r1 with
      | none =>
        rw [if_pos (show bI (none : Option Nat).isSome = 0 from rfl)]
        exact ⟨fun cs z => (by cases z), fun _ => ⟨_, rfl, d3, XFq.nm N3⟩⟩
      | some nv =>
        obtain ⟨n1, n2, n3⟩ := nb.2.2 nv rfl
        have e4 := d4 nv rfl
        rw [if_neg (show ¬ bI (some nv : Option Nat).isSome = 0 by show ¬ bI true = 0; decide)]
        have ev : 1000 * nI pl + 100 * (qNx tx len (p + 1) - 60) + I3 (x + 62) 4 = sI (1000 * pl + 100 * op + nv + 3) := by
          rw [e6, e4, L60, pk_sub (by omega), show 60 + op - 60 = op by omega, L1000, pk_mul, L100, pk_mul, nI_add, nI_add]
          rfl
        have hE3 : EMq x fr C I3 := hE.cg (N3.2 14 (by omega) (by omega)) (N3.1 _ (by omega))
        have hS3 : STq x (List.replicate k 33 ++ W) I3 := hS.cg (N3.2 15 (by omega) (by omega)) (N3.1 _ (by omega))
        obtain ⟨I4, w1, w2, w3, w4, w5, w6⟩ := r_whole (d := d - k) (ci := ci) hM hW k FU (C ++ [1000 * pl + 100 * op + nv + 3]) (ptI x fr C (1000 * pl + 100 * op + nv + 3) I3) (FU_lt (by omega)) (hS3.cg (ptI_f (by omega)) (ptI_row (by omega) (by omega))) (ptI_em hE3) (by rw [ptI_f (by omega), N3.2 16 (by omega) (by omega), h16, show d - k + k = d by omega]) (by simp; omega) (by omega) (by omega)
        rw [ev, r_put hM hE3 (by omega), obs]
        unfold f_X12_whole
        rw [w1, obs]
        have X4 : XFq x ci fr I I4 := ((XFq.nm N3).pt).trans w6
        refine ⟨fun cs z => ?_, fun z => by cases z⟩
        cases z
        refine ⟨I4, rfl, ⟨hR.xf X4 (by rw [w5, ptI_f (by omega)]; exact d3) n3, w3, w2, w4, ?_, (show W.length ≤ r2 by omega), hi, by omega⟩, X4⟩
        simp
        omega
end
