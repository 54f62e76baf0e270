section
variable {x p p' len d f i k n q D W Y : Nat} {Z : Nat → Nat} {tx : Nat → Int32} {K : Sh} {I I1 : Im} {R : Rf} {c : Int32} {fu gi hr : Nat → Nat}
theorem WsC.cg (h : WsC q I W Y fu gi hr) (h0 : I1 q = I q) (h1 : I1 (q + 1) = I (q + 1)) (h2 : I1 (q + 2) = I (q + 2)) (h3 : I1 (q + 3) = I (q + 3)) : WsC q I1 W Y fu gi hr := by
  unfold WsC at h ⊢
  rw [h0, h1, h2, h3]
  exact h
theorem c_keep (hS : S4 (x + 1) K R) {S : Im} {v w : Int32} (h4 : S (x + 1) 4 = nI D) (hD : D ≤ 11) : f_X4_keepDrink K R (x + 1) v w S = some (u2 (u2 (u2 S (x + 3) D v) (x + 4) D w) (x + 1) 4 (nI (D + 1))) := by
  unfold f_X4_keepDrink
  rw [h4, if_neg (show ¬ 12 ≤ nI D by rw [L12, nI_leI (by omega) (by omega)]; omega), s4_5 hS (by omega), obs, u2_row (by omega), h4, s4_6 hS (by omega), obs, obs, u2_row (by omega), u2_row (by omega), h4, L1, nI_add]
/-- drink -/
theorem c_cl2 (hRB : RB x tx len K I R) (hq : x + 110 ≤ q) (hC : WsC q I W Y fu gi hr) (hD : I (x + 1) 4 = nI D) (hD11 : D ≤ 11) {v : Int32} {r : Option Nat × Nat} (hp : r.2 ≤ len) (hv : ∀ c, r.1 = some c → v = nI c) : CEq x q len D W Y fu gi hr (qCm tx len 2 r) I (Option.bind (f_X4_take K R (x + 1) 32 (oQ x r.1.isSome r.2 I)) fun q15 =>
    Option.bind (f_X4_readEither K R (x + 1) 0 q15) fun q17 =>
    Option.bind (f_X4_keepDrink K R (x + 1) v (q15 (x + 1) 2) q17.2) fun q19 =>
    some q19) := by
  have hlen := hRB.2.1
  have fin : ∀ (ok : Bool) (p' : Nat) (w : Int32) (res : Option QCl × Nat), res.2 = p' → (ok = false → res.1 = none) → (ok = true → ∃ c cs pl, v = nI c ∧ w = nI pl ∧ res.1 = some (2, c, 0, cs, pl)) → CEq x q len D W Y fu gi hr res I (Option.bind (f_X4_keepDrink K R (x + 1) v w (oQ x ok p' I)) fun q19 => some q19) := by
    intro ok p' w res h1 h2 h3
    rw [c_keep hRB.1 (by rw [oQ_f (by omega) (by omega)]; exact hD) hD11]
    have fx : ∀ k, k ≠ 4 → u2 (u2 (u2 (oQ x ok p' I) (x + 3) D v) (x + 4) D w) (x + 1) 4 (nI (D + 1)) (x + 1) k = oQ x ok p' I (x + 1) k := fun k hk => by rw [u2_ne hk, u2_row (by omega), u2_row (by omega)]
    have fr : ∀ z, z ≠ x + 1 → z ≠ x + 3 → z ≠ x + 4 → u2 (u2 (u2 (oQ x ok p' I) (x + 3) D v) (x + 4) D w) (x + 1) 4 (nI (D + 1)) z = I z := fun z z1 z2 z3 => by rw [u2_row z1, u2_row z3, u2_row z2, oQ_r z1]
    refine ⟨_, rfl, fun z z1 z2 z3 _ _ _ _ => fr z z1 z2 z3, by rw [fx 1 (by omega)]; exact oQ_1 hRB, by rw [fx 2 (by omega), oQ_at, h1], ?_⟩
    cases ok with
    | false =>
      rw [h2 rfl]
      show _ = _
      rw [fx 3 (by omega)]
      exact oQ_3f
    | true =>
      obtain ⟨c, cs, pl, e1, e2, e3⟩ := h3 rfl
      rw [e3]
      subst e1 e2
      refine ⟨by rw [fx 3 (by omega)]; exact oQ_3t hRB, by rw [u2_eq, if_pos rfl], ?_, ?_, ?_, ?_, fun j hj => ?_, fun _ => ⟨?_, ?_⟩⟩
      · dsimp only
        rw [if_neg (show ¬ (2 = 0 ∧ W < 5) by omega), if_neg (show ¬ (2 = 1 ∧ Y < 6) by omega), if_neg (show ¬ (2 = 0 ∧ W < 5) by omega), if_neg (show ¬ (2 = 0 ∧ W < 5) by omega), if_neg (show ¬ (2 = 1 ∧ Y < 6) by omega)]
        exact hC.cg (fr _ (by omega) (by omega) (by omega)) (fr _ (by omega) (by omega) (by omega)) (fr _ (by omega) (by omega) (by omega)) (fr _ (by omega) (by omega) (by omega))
      · rw [fr _ (by omega) (by omega) (by omega)]; rfl
      · rw [fr _ (by omega) (by omega) (by omega)]; rfl
      · rw [fr _ (by omega) (by omega) (by omega)]; rfl
      · have hj := hj rfl
        rw [u2_row (by omega), u2_row (by omega), u2_ne hj, u2_row (by omega), u2_ne hj, u2_row (by omega), oQ_r (by omega), oQ_r (by omega)]
        exact ⟨rfl, rfl⟩
      · rw [u2_row (by omega), u2_row (by omega), u2_eq]
      · rw [u2_row (by omega), u2_eq]
  obtain ⟨r1, r2⟩ := r
  dsimp only at hp hv ⊢
  have bad : ∀ res : Option QCl × Nat, res = (none, r2) → CEq x q len D W Y fu gi hr res I (Option.bind (some (ftQ x r2 I)) fun q15 =>
    Option.bind (f_X4_readEither K R (x + 1) 0 q15) fun q17 =>
    Option.bind (f_X4_keepDrink K R (x + 1) v (q15 (x + 1) 2) q17.2) fun q19 =>
    some q19) := by
    intro res hres
    obtain ⟨w, hw⟩ := c_eitherF (K := K) (R := R) (x := x) (p := r2) (I := I) (d := 0) (by omega) 12
    rw [obs]
    unfold f_X4_readEither
    rw [show (F_X4_EP K R 14).1 (x + 1) 0 (ftQ x r2 I) = some (w, ftQ x r2 I) from hw, obs]
    exact fin false r2 _ res (by rw [hres]) (fun _ => by rw [hres]) (fun z => by cases z)
  cases r1 with
  | none =>
    show CEq x q len D W Y fu gi hr (none, r2) I (Option.bind (f_X4_take K R (x + 1) 32 (ftQ x r2 I)) _)
    rw [c_takeF (by decide)]
    exact bad _ rfl
  | some c =>
    have ev := hv c rfl
    show CEq x q len D W Y fu gi hr (qCk tx len 2 c r2) I (Option.bind (f_X4_take K R (x + 1) 32 (stQ x r2 I)) _)
    rw [c_take hRB (by omega)]
    unfold qCk
    rw [if_pos rfl]
    by_cases h32 : qNx tx len r2 = 32
    · have hlt := qNx_lt h32 (by decide)
      rw [if_pos h32, if_pos h32, obs]
      obtain ⟨w, hw, -⟩ := (c_EP hRB 14).1 0 (r2 + 1) (by omega) (by omega) (by omega)
      unfold f_X4_readEither
      rw [show (F_X4_EP K R 14).1 (x + 1) 0 (stQ x (r2 + 1) I) = some (w, oQ x ((qEP tx len 14).1 0 (r2 + 1)).1.isSome ((qEP tx len 14).1 0 (r2 + 1)).2 I) from hw, obs]
      dsimp only
      generalize (qEP tx len 14).1 0 (r2 + 1) = s
      obtain ⟨s1, s2⟩ := s
      cases s1 with
      | none => exact fin false s2 _ _ rfl (fun _ => rfl) (fun z => by cases z)
      | some cs => exact fin true s2 _ _ rfl (fun z => by cases z) (fun _ => ⟨c, cs, r2 + 1, ev, stQ_at, rfl⟩)
    · rw [if_neg h32, if_neg h32]
      exact bad _ rfl
theorem t_addWell (hS : S9 q K R) {S : Im} (h0 : S q 0 = nI W) (hW : W ≤ 5) (v w : Int32) : ∃ I1, f_X9_addWell K R q v w S = some I1 ∧ OW q [0] S I1 := by
  unfold f_X9_addWell
  rw [h0]
  by_cases c : W < 5
  · refine ⟨u2 (u2 (u2 S (q + 1) W v) (q + 2) W w) q 0 (nI (W + 1)), ?_, ((OW.refl.st (by omega)).st (by omega)).pf (by decide)⟩
    rw [if_neg (by rw [L5, nI_leI (by omega) (by omega)]; omega), s9_5 hS c, obs, u2_row (by omega), h0, s9_6 hS c, obs, u2_row (by omega), u2_row (by omega), h0, obs, L1, nI_add]
  · exact ⟨S, by rw [if_pos (by rw [L5, nI_leI (by omega) (by omega)]; omega)], OW.refl⟩
theorem t_addWay (hS : S9 q K R) {S : Im} (h1 : S q 1 = nI Y) (hY : Y ≤ 6) (v : Int32) : ∃ I1, f_X9_addWay K R q v S = some I1 ∧ OW q [1] S I1 := by
  unfold f_X9_addWay
  rw [h1]
  by_cases c : Y < 6
  · refine ⟨u2 (u2 S (q + 3) Y (imax v 1)) q 1 (nI (Y + 1)), ?_, (OW.refl.st (by omega)).pf (by decide)⟩
    rw [if_neg (by rw [L6, nI_leI (by omega) (by omega)]; omega), s9_7 hS c, obs, u2_row (by omega), h1, obs, L1, nI_add]
  · exact ⟨S, by rw [if_pos (by rw [L6, nI_leI (by omega) (by omega)]; omega)], OW.refl⟩
theorem OW.cf {F : List Nat} {S I1 : Im} (h : OW q F S I1) (hS : CFq x q I S) : CFq x q I I1 := fun z z1 z2 z3 z4 z5 z6 z7 => by rw [h.1 z z4 z5 z6 z7]; exact hS z z1 z2 z3 z4 z5 z6 z7
theorem oQ_cf {ok : Bool} : CFq x q I (oQ x ok p I) := fun z z1 _ _ _ _ _ _ => oQ_r z1
/-- a fault, whatever the waste then got -/
theorem CEq.bad (hRB : RB x tx len K I R) (hq : x + 110 ≤ q) {F : List Nat} (h : OW q F (oQ x false p I) I1) : CEq x q len D W Y fu gi hr (none, p) I (some I1) := by
  have e1 : I1 (x + 1) = oQ x false p I (x + 1) := h.1 _ (by omega) (by omega) (by omega) (by omega)
  exact ⟨I1, rfl, h.cf oQ_cf, by rw [e1]; exact oQ_1 hRB, by rw [e1]; exact oQ_at, by show _ = _; rw [e1]; exact oQ_3f⟩
/-- well -/
theorem c_cl0 (hRB : RB x tx len K I R) (hS : S9 q K R) (hq : x + 110 ≤ q) (hC : WsC q I W Y fu gi hr) (hW : W ≤ 5) (hD : I (x + 1) 4 = nI D) {v : Int32} {r : Option Nat × Nat} (hp : r.2 ≤ len) (hv : ∀ c, r.1 = some c → v = nI c) : CEq x q len D W Y fu gi hr (qCm tx len 0 r) I (Option.bind (f_X4_take K R (x + 1) 32 (oQ x r.1.isSome r.2 I)) fun q5 =>
  Option.bind (f_X4_readNumber K R (x + 1) 2 q5) fun q7 =>
  Option.bind (ob K 10 (some q)) fun a9 =>
  Option.bind (f_X9_addWell K R a9 v q7.1 q7.2) fun q11 =>
  some q11) := by
  have hlen := hRB.2.1
  have o9 : ob K 10 (some q) = some q := ob9 hS
  have h0 : ∀ ok p', oQ x ok p' I q 0 = nI W := fun ok p' => by rw [oQ_r (by omega)]; exact hC.1
  obtain ⟨r1, r2⟩ := r
  dsimp only at hp hv ⊢
  have bad : CEq x q len D W Y fu gi hr (none, r2) I (Option.bind (some (ftQ x r2 I)) fun q5 =>
  Option.bind (f_X4_readNumber K R (x + 1) 2 q5) fun q7 =>
  Option.bind (ob K 10 (some q)) fun a9 =>
  Option.bind (f_X9_addWell K R a9 v q7.1 q7.2) fun q11 =>
  some q11) := by
    obtain ⟨w, hw⟩ := c_numF (K := K) (R := R) (x := x) (p := r2) (I := I) 2 (Or.inr rfl)
    obtain ⟨I1, a1, a2⟩ := t_addWell hS (h0 false r2) hW v w
    rw [obs, show f_X4_readNumber K R (x + 1) 2 (ftQ x r2 I) = some (w, ftQ x r2 I) from hw, obs, o9, obs]
    dsimp only
    rw [show f_X9_addWell K R q v w (ftQ x r2 I) = some I1 from a1, obs]
    exact CEq.bad hRB hq a2
  cases r1 with
  | none =>
    show CEq x q len D W Y fu gi hr (none, r2) I (Option.bind (f_X4_take K R (x + 1) 32 (ftQ x r2 I)) _)
    rw [c_takeF (by decide)]
    exact bad
  | some c =>
    have ev := hv c rfl
    show CEq x q len D W Y fu gi hr (qCk tx len 0 c r2) I (Option.bind (f_X4_take K R (x + 1) 32 (stQ x r2 I)) _)
    rw [c_take hRB (by omega)]
    unfold qCk
    rw [if_neg (show ¬ (0 : Nat) = 2 by omega), if_pos rfl]
    by_cases h32 : qNx tx len r2 = 32
    · have hlt := qNx_lt h32 (by decide)
      rw [if_pos h32, if_pos h32, obs]
      obtain ⟨w, hw1, hw2⟩ := c_num2 (p := r2 + 1) hRB (by omega)
      rw [hw1, obs, o9, obs]
      generalize qN2 tx len (r2 + 1) = s at hw2 ⊢
      obtain ⟨s1, s2⟩ := s
      dsimp only at hw2 ⊢
      cases s1 with
      | none =>
        obtain ⟨I1, a1, a2⟩ := t_addWell hS (h0 false s2) hW v w
        rw [show f_X9_addWell K R q v w (oQ x (none : Option Nat).isSome s2 I) = some I1 from a1, obs]
        exact CEq.bad hRB hq a2
      | some d =>
        have ew := hw2 d rfl
        subst ev ew
        have hC1 : WsC q (stQ x s2 I) W Y fu gi hr := hC.cg (stQ_r (by omega)) (stQ_r (by omega)) (stQ_r (by omega)) (stQ_r (by omega))
        obtain ⟨I1, a1, a2, a3⟩ := c_addWell hS (f := c) (g := d) hC1 hW
        rw [show f_X9_addWell K R q (nI c) (nI d) (oQ x (some d : Option Nat).isSome s2 I) = some I1 from a1, obs]
        have e1 : I1 (x + 1) = stQ x s2 I (x + 1) := a2.1 _ (by omega) (by omega) (by omega) (by omega)
        have eo : ∀ z, z ≠ x + 1 → z < x + 110 → I1 z = I z := fun z z1 z2 => by rw [a2.1 z (by omega) (by omega) (by omega) (by omega), stQ_r z1]
        have eq : ∀ k, k ≠ 0 → I1 q k = I q k := fun k hk => by rw [a2.2 k (by simpa using hk), stQ_r (by omega)]
        refine ⟨I1, rfl, a2.cf (oQ_cf (ok := true)), by rw [e1]; exact oQ_1 (ok := true) hRB, by rw [e1]; exact stQ_at, by rw [e1]; exact oQ_3t hRB, ?_, ?_, ?_, ?_, ?_, fun j _ => ?_, fun e => by cases e⟩
        · show I1 (x + 1) 4 = nI (if (0 : Nat) = 2 then D + 1 else D)
          rw [if_neg (by decide), e1, stQ_f (by omega)]; exact hD
        · dsimp only
          rw [if_neg (show ¬ (0 = 1 ∧ Y < 6) by omega), if_neg (show ¬ (0 = 1 ∧ Y < 6) by omega)]
          by_cases c5 : W < 5
          · rw [if_pos ⟨rfl, c5⟩, if_pos ⟨rfl, c5⟩, if_pos ⟨rfl, c5⟩]
            rw [if_pos c5, if_pos c5, if_pos c5] at a3
            exact a3
          · rw [if_neg (fun e => c5 e.2), if_neg (fun e => c5 e.2), if_neg (fun e => c5 e.2)]
            rw [if_neg c5, if_neg c5, if_neg c5] at a3
            exact a3
        · rw [eq 2 (by omega)]; rfl
        · rw [eq 3 (by omega)]; rfl
        · rw [eq 4 (by omega)]; rfl
        · rw [eo _ (by omega) (by omega), eo _ (by omega) (by omega)]; exact ⟨rfl, rfl⟩
    · rw [if_neg h32, if_neg h32]
      exact bad
/-- way -/
theorem c_cl1 (hRB : RB x tx len K I R) (hS : S9 q K R) (hq : x + 110 ≤ q) (hC : WsC q I W Y fu gi hr) (hY : Y ≤ 6) (hD : I (x + 1) 4 = nI D) {v : Int32} {r : Option Nat × Nat} (hv : ∀ c, r.1 = some c → v = nI c ∧ c ≤ 9) : CEq x q len D W Y fu gi hr (qCm tx len 1 r) I (Option.bind (ob K 10 (some q)) fun a18 =>
      Option.bind (f_X9_addWay K R a18 v (oQ x r.1.isSome r.2 I)) fun q20 =>
      some q20) := by
  have o9 : ob K 10 (some q) = some q := ob9 hS
  have h1 : ∀ ok p', oQ x ok p' I q 1 = nI Y := fun ok p' => by rw [oQ_r (by omega)]; exact hC.2.1
  obtain ⟨r1, r2⟩ := r
  dsimp only at hv ⊢
  rw [o9, obs]
  cases r1 with
  | none =>
    obtain ⟨I1, a1, a2⟩ := t_addWay hS (h1 false r2) hY v
    rw [show f_X9_addWay K R q v (oQ x (none : Option Nat).isSome r2 I) = some I1 from a1, obs]
    exact CEq.bad hRB hq a2
  | some c =>
    obtain ⟨ev, c9⟩ := hv c rfl
    subst ev
    have hC1 : WsC q (stQ x r2 I) W Y fu gi hr := hC.cg (stQ_r (by omega)) (stQ_r (by omega)) (stQ_r (by omega)) (stQ_r (by omega))
    obtain ⟨I1, a1, a2, a3⟩ := c_addWay hS (a := c) hC1 hY (by omega)
    rw [show f_X9_addWay K R q (nI c) (oQ x (some c : Option Nat).isSome r2 I) = some I1 from a1, obs]
    have e1 : I1 (x + 1) = stQ x r2 I (x + 1) := a2.1 _ (by omega) (by omega) (by omega) (by omega)
    have eo : ∀ z, z ≠ x + 1 → z < x + 110 → I1 z = I z := fun z z1 z2 => by rw [a2.1 z (by omega) (by omega) (by omega) (by omega), stQ_r z1]
    have eq : ∀ k, k ≠ 1 → I1 q k = I q k := fun k hk => by rw [a2.2 k (by simpa using hk), stQ_r (by omega)]
    rw [show qCm tx len 1 (some c, r2) = (some (1, c, 0, [], 0), r2) from rfl]
    refine ⟨I1, rfl, a2.cf (oQ_cf (ok := true)), by rw [e1]; exact oQ_1 (ok := true) hRB, by rw [e1]; exact stQ_at, by rw [e1]; exact oQ_3t hRB, ?_, ?_, ?_, ?_, ?_, fun j _ => ?_, fun e => by cases e⟩
    · show I1 (x + 1) 4 = nI (if (1 : Nat) = 2 then D + 1 else D)
      rw [if_neg (by decide), e1, stQ_f (by omega)]; exact hD
    · dsimp only
      rw [if_neg (show ¬ (1 = 0 ∧ W < 5) by omega), if_neg (show ¬ (1 = 0 ∧ W < 5) by omega), if_neg (show ¬ (1 = 0 ∧ W < 5) by omega)]
      by_cases c6 : Y < 6
      · rw [if_pos ⟨rfl, c6⟩, if_pos ⟨rfl, c6⟩]
        rw [if_pos c6, if_pos c6] at a3
        exact a3
      · rw [if_neg (fun e => c6 e.2), if_neg (fun e => c6 e.2)]
        rw [if_neg c6, if_neg c6] at a3
        exact a3
    · rw [eq 2 (by omega)]; rfl
    · rw [eq 3 (by omega)]; rfl
    · rw [eq 4 (by omega)]; rfl
    · rw [eo _ (by omega) (by omega), eo _ (by omega) (by omega)]; exact ⟨rfl, rfl⟩
/-- a clause -/
theorem c_clause (hRB : RB x tx len K I R) (hZ : ZOK Z n) (hS : S9 q K R) (hq : x + 110 ≤ q) (hp : p ≤ len) (hC : WsC q I W Y fu gi hr) (hW : W ≤ 5) (hY : Y ≤ 6) (hD : I (x + 1) 4 = nI D) (hD11 : D ≤ 11) : CEq x q len D W Y fu gi hr (qC tx len p) I (f_X4_readClause Z K R (x + 1) (some q) (stQ x p I)) := by
  have hlen := hRB.2.1
  have o9 : ob K 10 (some q) = some q := ob9 hS
  unfold f_X4_readClause qC
  rw [c_next hRB (by omega), obs]
  have wn := c_wn hRB hZ hp (qHd (qNx tx len p) (qNx tx len (p + 1)))
  have wb := qWN_b (tx := tx) (kd := qHd (qNx tx len p) (qNx tx len (p + 1))) hp
  by_cases c3 : qNx tx len p = 99
  · have hd : qHd (qNx tx len p) (qNx tx len (p + 1)) = 3 := by unfold qHd; rw [if_pos c3]
    rw [hd] at wn ⊢
    obtain ⟨Iw, v, w1, w2, w3⟩ := wn
    rw [if_pos c3, show f_X4_takeWord Z K R (x + 1) (some (Z 11)) (stQ x p I) = some Iw from w1, obs, show f_X4_readNumber K R (x + 1) 2 Iw = _ from w2, obs, o9, obs, obs]
    exact c_cl3 hRB hq hC hD (Or.inl rfl) w3
  rw [if_neg c3]
  by_cases c2 : qNx tx len p = 100
  · have hd : qHd (qNx tx len p) (qNx tx len (p + 1)) = 2 := by unfold qHd; rw [if_neg c3, if_pos c2]
    rw [hd] at wn wb ⊢
    obtain ⟨Iw, v, w1, w2, w3⟩ := wn
    rw [if_pos c2, show f_X4_takeWord Z K R (x + 1) (some (Z 10)) (stQ x p I) = some Iw from w1, obs, show f_X4_readNumber K R (x + 1) 2 Iw = _ from w2, obs]
    exact c_cl2 hRB hq hC hD hD11 wb.2.1 w3
  rw [if_neg c2]
  by_cases c4 : qNx tx len p = 108
  · have hd : qHd (qNx tx len p) (qNx tx len (p + 1)) = 4 := by unfold qHd; rw [if_neg c3, if_neg c2, if_pos c4]
    rw [hd] at wn ⊢
    obtain ⟨Iw, v, w1, w2, w3⟩ := wn
    rw [if_pos c4, show f_X4_takeWord Z K R (x + 1) (some (Z 12)) (stQ x p I) = some Iw from w1, obs, show f_X4_readNumber K R (x + 1) 2 Iw = _ from w2, obs, o9, obs, obs]
    exact c_cl3 hRB hq hC hD (Or.inr (Or.inl rfl)) w3
  rw [if_neg c4]
  by_cases c5 : qNx tx len p = 115
  · have hd : qHd (qNx tx len p) (qNx tx len (p + 1)) = 5 := by unfold qHd; rw [if_neg c3, if_neg c2, if_neg c4, if_neg (show ¬ qNx tx len p = 119 by rw [c5]; decide)]
    rw [hd] at wn ⊢
    obtain ⟨Iw, v, w1, w2, w3⟩ := wn
    rw [if_pos c5, show f_X4_takeWord Z K R (x + 1) (some (Z 13)) (stQ x p I) = some Iw from w1, obs, show f_X4_readNumber K R (x + 1) 2 Iw = _ from w2, obs, o9, obs, obs]
    exact c_cl3 hRB hq hC hD (Or.inr (Or.inr rfl)) w3
  rw [if_neg c5]
  by_cases cw : qNx tx len p = 119
  · have hlt := qNx_lt cw (by decide)
    rw [if_pos cw]
    by_cases ca : qNx tx len (p + 1) = 97
    · have hlt2 := qNx_lt ca (by decide)
      have hd : qHd (qNx tx len p) (qNx tx len (p + 1)) = 1 := by unfold qHd; rw [if_neg c3, if_neg c2, if_neg c4, if_pos cw, if_pos ca]
      rw [hd] at wn wb ⊢
      obtain ⟨Iw, v, w1, w2, w3⟩ := wn
      have byt : ldB K (stQ x p I) (R (x + 1) 0) (nI (p + 1)) = some 97 := by
        rw [l4_0 hRB.1 (by omega), stQ_r (by omega)]
        have := hRB.2.2.2.2 (p + 1) hlt2
        unfold qNx at ca
        rw [if_pos hlt2] at ca
        exact congrArg some (this.trans ca)
      unfold f_X4_readWellOrWay
      rw [stQ_f (by omega), hRB.2.2.1, stQ_at, L1, nI_add, if_neg (by rw [nI_leI (by omega) (by omega)]; omega), byt, obs, if_pos rfl, show f_X4_takeWord Z K R (x + 1) (some (Z 14)) (stQ x p I) = some Iw from w1, obs, ← L1, show f_X4_readNumber K R (x + 1) 1 Iw = _ from w2, obs]
      have g := c_cl1 (v := v) hRB hS hq hC hY hD (r := qWN tx len 1 p) (fun c hc => ⟨w3 c hc, (wb.2.2 c hc).2.1 rfl⟩)
      obtain ⟨I1, g1, g2⟩ := g
      refine ⟨I1, ?_, g2⟩
      rw [g1]
      rfl
    · have hd : qHd (qNx tx len p) (qNx tx len (p + 1)) = 0 := by unfold qHd; rw [if_neg c3, if_neg c2, if_neg c4, if_pos cw, if_neg ca]
      rw [hd] at wn wb ⊢
      obtain ⟨Iw, v, w1, w2, w3⟩ := wn
      have p45 : CEq x q len D W Y fu gi hr (qCm tx len 0 (qWN tx len 0 p)) I (f_X4_readWellOrWay_45 Z K R (x + 1) (some q) (stQ x p I)) := by
        unfold f_X4_readWellOrWay_45
        rw [show f_X4_takeWord Z K R (x + 1) (some (Z 15)) (stQ x p I) = some Iw from w1, obs, show f_X4_readNumber K R (x + 1) 2 Iw = _ from w2, obs]
        exact c_cl0 hRB hS hq hC hW hD wb.2.1 w3
      obtain ⟨I1, g1, g2⟩ := p45
      refine ⟨I1, ?_, g2⟩
      unfold f_X4_readWellOrWay
      rw [stQ_f (by omega), hRB.2.2.1, stQ_at, L1, nI_add]
      by_cases cl : len ≤ p + 1
      · rw [if_pos (by rw [nI_leI (by omega) (by omega)]; exact cl), g1]
        rfl
      · rw [if_neg (by rw [nI_leI (by omega) (by omega)]; exact cl), l4_0 hRB.1 (by omega), obs, stQ_r (by omega)]
        have nb : ¬ I (x + 1 + 1) (p + 1) = 97 := fun e => ca (by
          unfold qNx
          rw [if_pos (by omega), ← hRB.2.2.2.2 (p + 1) (by omega)]
          exact e)
        rw [if_neg nb, g1]
        rfl
  · have hd : qHd (qNx tx len p) (qNx tx len (p + 1)) = 5 := by unfold qHd; rw [if_neg c3, if_neg c2, if_neg c4, if_neg cw]
    have hw : qWN tx len 5 p = (none, p) := by
      unfold qWN
      show (match qW tx len (115 :: ([116, 97, 110, 100] ++ [32])) p with
        | (false, p1) => (none, p1)
        | (true, p1) => if 5 = 1 then qN1 tx len p1 else qN2 tx len p1) = _
      unfold qW
      rw [if_neg (show ¬ qNx tx len p = nI 115 from c5)]
    rw [hd, hw, if_neg cw, stQ_ft, obs]
    exact CEq.bad hRB hq (F := []) OW.refl
end
