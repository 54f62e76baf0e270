/-! the reference reads a clause -/
def ZFq (x ci fr : Nat) (I I1 : Im) : Prop := (∀ z, z ≠ x + 62 → (z < x + 65 ∨ x + 71 < z) → I1 z = I z) ∧ (∀ k, k ≠ 3 → k ≠ 4 → k ≠ 14 → k ≠ 15 → k ≠ 16 → I1 (x + 62) k = I (x + 62) k) ∧ (∀ z, x + 65 ≤ z → z ≤ x + 69 → ∀ j, j ≠ ci → I1 z j = I z j) ∧ ∀ j, j < fr → I1 (x + 70) j = I (x + 70) j
section
variable {x p p' len d d' f i k n ci fr c : Nat} {tx : Nat → Int32} {K : Sh} {I I1 I2 : Im} {R : Rf} {C W : List Nat}
theorem ZFq.refl : ZFq x ci fr I I := ⟨fun _ _ _ => rfl, fun _ _ _ _ _ _ => rfl, fun _ _ _ _ _ => rfl, fun _ _ => rfl⟩
theorem ZFq.trans (h : ZFq x ci fr I I1) (h2 : ZFq x ci fr I1 I2) : ZFq x ci fr I I2 := ⟨fun z a b => (h2.1 z a b).trans (h.1 z a b), fun k a b c d e => (h2.2.1 k a b c d e).trans (h.2.1 k a b c d e), fun z a b j e => (h2.2.2.1 z a b j e).trans (h.2.2.1 z a b j e), fun j a => (h2.2.2.2 j a).trans (h.2.2.2 j a)⟩
theorem ZFq.nm (h : NMq x I I1) : ZFq x ci fr I I1 := ⟨fun z a _ => h.1 z a, fun k a b _ _ _ => h.2 k a b, fun z a b j _ => by rw [h.1 z (by omega)], fun j _ => by rw [h.1 _ (by omega)]⟩
theorem ZFq.xf (h : XFq x ci fr I I1) : ZFq x ci fr I I1 := ⟨fun z a b => h.1 z a (by omega), h.2.1, fun z a b j e => by
  by_cases c : z = x + 69
  · subst c; exact h.2.2.1 j e
  · rw [h.1 z (by omega) (by omega)], h.2.2.2⟩
theorem ZFq.st (h : ZFq x ci fr I I1) {z : Nat} {v : Int32} (h1 : x + 65 ≤ z) (h2 : z ≤ x + 69) : ZFq x ci fr I (u2 I1 z ci v) := ⟨fun y a b => by rw [u2_row (by omega)]; exact h.1 y a b, fun k a b c d e => by rw [u2_row (by omega)]; exact h.2.1 k a b c d e, fun y a b j e => by
  by_cases c : y = z
  · subst c; rw [u2_ne e]; exact h.2.2.1 y a b j e
  · rw [u2_row c]; exact h.2.2.1 y a b j e, fun j a => by rw [u2_row (by omega)]; exact h.2.2.2 j a⟩
theorem RMq.zf (h : RMq x tx len p K I R) (hN : ZFq x ci fr I I1) (h3 : I1 (x + 62) 3 = nI p') (hp : p' ≤ len) : RMq x tx len p' K I1 R := ⟨h.1, h.2.1, by rw [hN.2.1 2 (by omega) (by omega) (by omega) (by omega) (by omega)]; exact h.2.2.1, h3, hp, fun j hj => by rw [hN.1 _ (by omega) (by omega)]; exact h.2.2.2.2.2 j hj⟩
theorem RMq.st {z : Nat} {v : Int32} (h : RMq x tx len p K I R) (h1 : x + 65 ≤ z) : RMq x tx len p K (u2 I z ci v) R := ⟨h.1, h.2.1, by rw [u2_row (by omega)]; exact h.2.2.1, by rw [u2_row (by omega)]; exact h.2.2.2.1, h.2.2.2.2.1, fun j hj => by rw [u2_row (by omega)]; exact h.2.2.2.2.2 j hj⟩
theorem qHd_lt (v c1 : Int32) : qHd v c1 < 6 := by
  unfold qHd
  split
  · omega
  · split
    · omega
    · split
      · omega
      · split
        · split <;> omega
        · omega
theorem and1 (b : Bool) : (if bI b &&& 1 = bI b then some (bI b) else none) = some (bI b) := by cases b <;> rfl
theorem r_head (h : RMq x tx len p K I R) (hci : ci < 60) : ∃ I1, f_X12_takesHead K R (x + 62) (nI ci) I = some (bI (qW tx len (sTxt (qWi (qHd (qNx tx len p) (qNx tx len (p + 1)))) ++ [32]) p).1, I1) ∧ NMq x (u2 I (x + 65) ci (nI (qHd (qNx tx len p) (qNx tx len (p + 1))))) I1 ∧ I1 (x + 62) 3 = nI (qW tx len (sTxt (qWi (qHd (qNx tx len p) (qNx tx len (p + 1)))) ++ [32]) p).2 := by
  have hM := h.1
  have go : ∀ kd, kd < 6 → ∃ I1, f_X12_takesWord K R (x + 62) (wdQ kd).1 (nI (wdQ kd).2) (u2 I (x + 62 + 3) ci (nI kd)) = some (bI (qW tx len (sTxt (qWi kd) ++ [32]) p).1, I1) ∧ NMq x (u2 I (x + 65) ci (nI kd)) I1 ∧ I1 (x + 62) 3 = nI (qW tx len (sTxt (qWi kd) ++ [32]) p).2 := fun kd hk => r_word (h.st (z := x + 65) (by omega)) hk
  unfold f_X12_takesHead
  rw [r_second h, obs, r_next h, obs]
  by_cases c3 : qNx tx len p = 99
  · have hd : qHd (qNx tx len p) (qNx tx len (p + 1)) = 3 := by unfold qHd; rw [if_pos c3]
    obtain ⟨I1, a1, a2⟩ := go 3 (by omega)
    rw [hd]
    refine ⟨I1, ?_, a2⟩
    rw [if_pos c3, s12_7 hM hci, obs, show f_X12_takesWord K R (x + 62) 3197529 5 (u2 I (x + 62 + 3) ci 3) = _ from a1, obs]
    dsimp only
    rw [and1, obs]
  rw [if_neg c3]
  by_cases c2 : qNx tx len p = 100
  · have hd : qHd (qNx tx len p) (qNx tx len (p + 1)) = 2 := by unfold qHd; rw [if_neg c3, if_pos c2]
    obtain ⟨I1, a1, a2⟩ := go 2 (by omega)
    rw [hd]
    refine ⟨I1, ?_, a2⟩
    rw [if_pos c2, s12_7 hM hci, obs, show f_X12_takesWord K R (x + 62) 4793803 5 (u2 I (x + 62 + 3) ci 2) = _ from a1, obs]
    dsimp only
    rw [and1, obs]
  rw [if_neg c2]
  by_cases c4 : qNx tx len p = 108
  · have hd : qHd (qNx tx len p) (qNx tx len (p + 1)) = 4 := by unfold qHd; rw [if_neg c3, if_neg c2, if_pos c4]
    obtain ⟨I1, a1, a2⟩ := go 4 (by omega)
    rw [hd]
    refine ⟨I1, ?_, a2⟩
    rw [if_pos c4, s12_7 hM hci, obs, show f_X12_takesWord K R (x + 62) 408612 4 (u2 I (x + 62 + 3) ci 4) = _ from a1, obs]
    dsimp only
    rw [and1, obs]
  rw [if_neg c4]
  by_cases cw : qNx tx len p = 119
  · rw [if_pos cw]
    by_cases ca : qNx tx len (p + 1) = 97
    · have hd : qHd (qNx tx len p) (qNx tx len (p + 1)) = 1 := by unfold qHd; rw [if_neg c3, if_neg c2, if_neg c4, if_pos cw, if_pos ca]
      obtain ⟨I1, a1, a2⟩ := go 1 (by omega)
      rw [hd]
      refine ⟨I1, ?_, a2⟩
      rw [if_pos ca]
      unfold f_X12_takesHead_68
      rw [s12_7 hM hci, obs, if_pos ca, show f_X12_takesWord K R (x + 62) 23609 3 (u2 I (x + 62 + 3) ci 1) = _ from a1, obs]
      dsimp only
      rw [and1, obs]
    · have hd : qHd (qNx tx len p) (qNx tx len (p + 1)) = 0 := by unfold qHd; rw [if_neg c3, if_neg c2, if_neg c4, if_pos cw, if_neg ca]
      obtain ⟨I1, a1, a2⟩ := go 0 (by omega)
      rw [hd]
      refine ⟨I1, ?_, a2⟩
      rw [if_neg ca]
      unfold f_X12_takesHead_68
      rw [s12_7 hM hci, obs, if_neg ca, show f_X12_takesWord K R (x + 62) 759180 4 (u2 I (x + 62 + 3) ci 0) = _ from a1, obs]
      dsimp only
      rw [and1, obs]
  · have hd : qHd (qNx tx len p) (qNx tx len (p + 1)) = 5 := by unfold qHd; rw [if_neg c3, if_neg c2, if_neg c4, if_neg cw]
    obtain ⟨I1, a1, a2⟩ := go 5 (by omega)
    rw [hd]
    refine ⟨I1, ?_, a2⟩
    rw [if_neg cw, s12_7 hM hci, obs, show f_X12_takesWord K R (x + 62) 20579780 5 (u2 I (x + 62 + 3) ci 5) = _ from a1, obs]
    dsimp only
    rw [and1, obs]
def MCq (x : Nat) (tx : Nat → Int32) (len i ci fr : Nat) (K : Sh) (R : Rf) (e : Option (Int32 × Im)) (I : Im) (r : Option QCl × Nat) : Prop := (∀ t, r.1 = some t → ∃ I1, e = some (1, I1) ∧ I1 (x + 62) 3 = nI r.2 ∧ ZFq x ci fr I I1 ∧ I1 (x + 65) ci = nI t.1 ∧ I1 (x + 66) ci = nI t.2.1 ∧ (t.1 = 0 → I1 (x + 67) ci = nI t.2.2.1) ∧ ∃ fr', I1 (x + 62) 14 = nI fr' ∧ fr ≤ fr' ∧ fr' ≤ 100 * i + r.2 ∧ (t.1 = 2 → fr' = fr + t.2.2.2.1.length ∧ I1 (x + 68) ci = nI fr ∧ I1 (x + 69) ci = nI fr' ∧ ∀ j c, t.2.2.2.1[j]? = some c → I1 (x + 70) (fr + j) = sI c)) ∧ (r.1 = none → ∃ I1, e = some (0, I1) ∧ I1 (x + 62) 3 = nI r.2 ∧ ZFq x ci fr I I1)
/-- behind the word and the number -/
theorem m_rest (hci : ci < 60) (hi : i ≤ 4) {kd p2 : Nat} (hk : kd < 6) (h : RMq x tx len p2 K I1 R) (hZ : ZFq x ci fr I I1) (h65 : I1 (x + 65) ci = nI kd) (h14 : I1 (x + 62) 14 = nI fr) (hb : fr ≤ 100 * i + p2) {c : Nat} (h4 : I1 (x + 62) 4 = nI c) (s1 : Int32) (e : Option (Int32 × Im)) (he : e = Option.bind (stI K I1 (R (x + 62) 8) (nI ci) (I1 (x + 62) 4)) fun I5 =>
    Option.bind (ldI K I5 (R (x + 62) 7) (nI ci)) fun v6 =>
    if v6 = 2 then
      Option.bind (f_X12_takes K R (x + 62) 32 I5) fun q16 =>
      if q16.1 = 0 then
        some (0, q16.2)
      else
        Option.bind (f_X12_takesE K R (x + 62) (nI ci) q16.2) fun q18 =>
        if q18.1 = 0 then
          some (0, q18.2)
        else
          some (1, q18.2)
    else
      Option.bind (ldI K I5 (R (x + 62) 7) (nI ci)) fun v7 =>
      if v7 = 0 then
        Option.bind (f_X12_takes K R (x + 62) 32 I5) fun q8 =>
        if q8.1 = 0 then
          some (0, q8.2)
        else
          Option.bind (f_X12_takesNumber K R (x + 62) 2 q8.2) fun q10 =>
          if q10.1 = 0 then
            some (0, q10.2)
          else
            Option.bind (stI K q10.2 (R (x + 62) 9) (nI ci) (q10.2 (x + 62) 4)) fun I12 =>
            some (1, I12)
      else
        some (1, I5)) : MCq x tx len i ci fr K R e I (qCk tx len kd c p2) := by
  have hM := h.1
  have Z2 : ZFq x ci fr I (u2 I1 (x + 66) ci (nI c)) := hZ.st (by omega) (by omega)
  have R2 : RMq x tx len p2 K (u2 I1 (x + 66) ci (nI c)) R := h.st (by omega)
  have e65 : u2 I1 (x + 62 + 4) ci (nI c) (x + 62 + 3) ci = nI kd := by rw [u2_row (by omega)]; exact h65
  have e14 : u2 I1 (x + 66) ci (nI c) (x + 62) 14 = nI fr := by rw [u2_row (by omega)]; exact h14
  have he2 : e = if kd = 2 then
      Option.bind (f_X12_takes K R (x + 62) 32 (u2 I1 (x + 66) ci (nI c))) fun q16 =>
      if q16.1 = 0 then
        some (0, q16.2)
      else
        Option.bind (f_X12_takesE K R (x + 62) (nI ci) q16.2) fun q18 =>
        if q18.1 = 0 then
          some (0, q18.2)
        else
          some (1, q18.2)
    else
      if kd = 0 then
        Option.bind (f_X12_takes K R (x + 62) 32 (u2 I1 (x + 66) ci (nI c))) fun q8 =>
        if q8.1 = 0 then
          some (0, q8.2)
        else
          Option.bind (f_X12_takesNumber K R (x + 62) 2 q8.2) fun q10 =>
          if q10.1 = 0 then
            some (0, q10.2)
          else
            Option.bind (stI K q10.2 (R (x + 62) 9) (nI ci) (q10.2 (x + 62) 4)) fun I12 =>
            some (1, I12)
      else
        some (1, u2 I1 (x + 66) ci (nI c)) := by
    rw [he, h4, s12_8 hM hci, obs, l12_7 hM hci, obs, e65]
    by_cases k2 : kd = 2
    · rw [if_pos (show nI kd = 2 by rw [k2]; rfl), if_pos k2]
    · rw [if_neg (show ¬ nI kd = 2 by rw [L2, nI_eq (by omega) (by omega)]; exact k2), if_neg k2, obs]
      by_cases k0 : kd = 0
      · rw [if_pos (show nI kd = 0 by rw [k0]; rfl), if_pos k0]
      · rw [if_neg (show ¬ nI kd = 0 by rw [L0, nI_eq (by omega) (by omega)]; exact k0), if_neg k0]
  rw [he2]
  unfold qCk
  by_cases k2 : kd = 2
  · rw [if_pos k2, if_pos k2]
    rcases r_takes R2 (c := 32) (by decide) with ⟨q1, q2, q3⟩ | ⟨q1, q2⟩
    · have lt := qNx_lt q1 (by decide)
      have Z3 : ZFq x ci fr I (u2 (u2 I1 (x + 66) ci (nI c)) (x + 62) 3 (nI (p2 + 1))) := Z2.trans (ZFq.nm NMq.refl.p3)
      obtain ⟨g1, g2⟩ := m_takesE (i := i) q3 hci hi (by rw [u2_ne (by omega)]; exact e14) (show fr ≤ 100 * i + (p2 + 1) by omega)
      rw [if_pos q1, q2, obs, if_neg (show ¬ nI 1 = 0 by decide)]
      have zz : ZFq x ci fr (u2 (u2 I1 (x + 66) ci (nI c)) (x + 62) 3 (nI (p2 + 1))) (u2 (u2 (u2 I1 (x + 66) ci (nI c)) (x + 62) 3 (nI (p2 + 1))) (x + 68) ci (nI fr)) := ZFq.refl.st (by omega) (by omega)
      generalize (qEP tx len 14).1 0 (p2 + 1) = r at g1 g2 ⊢
      obtain ⟨r1, r2⟩ := r
      cases r1 with
      | none =>
        refine ⟨fun t z => (by cases z), fun _ => ?_⟩
        obtain ⟨I4, a1, a2, a3⟩ := g2 rfl
        exact ⟨I4, by rw [a1, obs, if_pos rfl], a2, Z3.trans (zz.trans (ZFq.xf a3))⟩
      | some cs =>
        refine ⟨fun t z => ?_, fun z => (by cases z)⟩
        cases z
        obtain ⟨I4, a1, a2, a3, a4, a5, a6, a7⟩ := g1 cs rfl
        have x65 : I4 (x + 65) = u2 (u2 (u2 I1 (x + 66) ci (nI c)) (x + 62) 3 (nI (p2 + 1))) (x + 68) ci (nI fr) (x + 65) := a7.1 _ (by omega) (by omega)
        have x66 : I4 (x + 66) = u2 (u2 (u2 I1 (x + 66) ci (nI c)) (x + 62) 3 (nI (p2 + 1))) (x + 68) ci (nI fr) (x + 66) := a7.1 _ (by omega) (by omega)
        refine ⟨I4, by rw [a1, obs, if_neg (show ¬ (1 : Int32) = 0 by decide)], a2, Z3.trans (zz.trans (ZFq.xf a7)), ?_, ?_, (fun z => by cases z), fr + cs.length, a3.1, by omega, a6, fun _ => ⟨rfl, a4, a5, a3.2⟩⟩
        · rw [x65, u2_row (by omega), u2_row (by omega), u2_row (by omega), h65, k2]
        · rw [x66, u2_row (by omega), u2_row (by omega), u2_eq]
    · rw [if_neg q1, q2, obs, if_pos (show nI 0 = 0 from rfl)]
      exact ⟨fun t z => (by cases z), fun _ => ⟨_, rfl, R2.2.2.2.1, Z2⟩⟩
  rw [if_neg k2, if_neg k2]
  by_cases k0 : kd = 0
  · rw [if_pos k0, if_pos k0]
    rcases r_takes R2 (c := 32) (by decide) with ⟨q1, q2, q3⟩ | ⟨q1, q2⟩
    · have lt := qNx_lt q1 (by decide)
      have Z3 : ZFq x ci fr I (u2 (u2 I1 (x + 66) ci (nI c)) (x + 62) 3 (nI (p2 + 1))) := Z2.trans (ZFq.nm NMq.refl.p3)
      obtain ⟨I4, a1, a2, a3, a4⟩ := r_num2 q3
      have nb := qN2_b (tx := tx) (len := len) (p := p2 + 1) rfl
      rw [if_pos q1, q2, obs, if_neg (show ¬ nI 1 = 0 by decide), a1, obs]
      generalize qN2 tx len (p2 + 1) = r at a3 a4 nb ⊢
      obtain ⟨r1, r2⟩ := r
      have Z4 := Z3.trans (ZFq.nm a2)
      cases r1 with
      | none =>
        rw [if_pos (show bI (none : Option Nat).isSome = 0 from rfl)]
        exact ⟨fun t z => (by cases z), fun _ => ⟨_, rfl, a3, Z4⟩⟩
      | some dv =>
        have ev := a4 dv rfl
        have r2l := (nb.2.2 dv rfl).2.1
        dsimp only at r2l
        rw [if_neg (show ¬ bI (some dv : Option Nat).isSome = 0 by show ¬ bI true = 0; decide)]
        dsimp only
        rw [ev, s12_9 hM hci, obs]
        refine ⟨fun t z => ?_, fun z => (by cases z)⟩
        cases z
        refine ⟨_, rfl, by rw [u2_row (by omega)]; exact a3, Z4.st (z := x + 67) (by omega) (by omega), ?_, ?_, fun _ => u2_eq _ _ _ _, fr, ?_, Nat.le_refl _, (show fr ≤ 100 * i + r2 by omega), (fun z => by cases z)⟩
        · rw [u2_row (by omega), a2.1 _ (by omega), u2_row (by omega), u2_row (by omega), h65, k0]
        · rw [u2_row (by omega), a2.1 _ (by omega), u2_row (by omega), u2_eq]
        · rw [u2_row (by omega), a2.2 14 (by omega) (by omega), u2_ne (by omega)]
          exact e14
    · rw [if_neg q1, q2, obs, if_pos (show nI 0 = 0 from rfl)]
      exact ⟨fun t z => (by cases z), fun _ => ⟨_, rfl, R2.2.2.2.1, Z2⟩⟩
  · rw [if_neg k0, if_neg k0]
    refine ⟨fun t z => ?_, fun z => (by cases z)⟩
    cases z
    exact ⟨_, rfl, R2.2.2.2.1, Z2, by rw [u2_row (by omega)]; exact h65, u2_eq _ _ _ _, fun z => absurd z k0, fr, e14, Nat.le_refl _, hb, fun z => absurd z k2⟩
theorem m_clause (hR : RMq x tx len p K I R) (hci : ci < 60) (hi : i ≤ 4) (h14 : I (x + 62) 14 = nI fr) (hb : fr ≤ 100 * i + p) : MCq x tx len i ci fr K R (f_X12_takesClause K R (x + 62) (nI ci) I) I (qC tx len p) := by
  have hM := hR.1
  have hlen := hR.2.1
  have o13 : ob K 13 (some (x + 62)) = some (x + 62) := ob_ok (by rw [show K (x + 62) = _ from MSH.k0 hM])
  obtain ⟨I1, a1, a2, a3⟩ := r_head hR hci
  have hk := qHd_lt (qNx tx len p) (qNx tx len (p + 1))
  have hp := hR.2.2.2.2.1
  have wb := qW_b (tx := tx) (len := len) (sTxt (qWi (qHd (qNx tx len p) (qNx tx len (p + 1)))) ++ [32]) p (sTxt_le _ (qWi_lt _)) hp
  unfold qC qWN f_X12_takesClause
  generalize qHd (qNx tx len p) (qNx tx len (p + 1)) = kd at a1 a2 a3 hk wb ⊢
  have Z1 : ZFq x ci fr I I1 := (ZFq.refl.st (z := x + 65) (v := nI kd) (by omega) (by omega)).trans (ZFq.nm a2)
  generalize qW tx len (sTxt (qWi kd) ++ [32]) p = r at a1 a3 wb ⊢
  obtain ⟨r1, r2⟩ := r
  obtain ⟨w1, w2, w3⟩ := wb
  dsimp only at a1 a3 w1 w2 w3 ⊢
  rw [a1, obs]
  cases r1 with
  | false =>
    rw [if_pos (show bI false = 0 from rfl)]
    exact ⟨fun t z => (by cases z), fun _ => ⟨_, rfl, a3, Z1⟩⟩
  | true =>
    have e65 : I1 (x + 62 + 3) ci = nI kd := by rw [a2.1 _ (by omega)]; exact u2_eq _ _ _ _
    have R1 : RMq x tx len r2 K I1 R := hR.zf Z1 a3 w2
    have num : ∀ I2 (q : Option Nat × Nat) (s1 : Int32), f_X12_takesNumber K R (x + 62) s1 I1 = some (bI q.1.isSome, I2) → NMq x I1 I2 → I2 (x + 62) 3 = nI q.2 → q.2 ≤ len → r2 ≤ q.2 → (∀ a, q.1 = some a → I2 (x + 62) 4 = nI a) → MCq x tx len i ci fr K R (f_X12_takesClause_24 K R (x + 62) (nI ci) (some (x + 62)) s1 I1) I (qCm tx len kd q) := by
      intro I2 q s1 b1 b2 b3 b4 b5 b6
      have Z2 := Z1.trans (ZFq.nm (ci := ci) (fr := fr) b2)
      unfold f_X12_takesClause_24
      rw [o13, obs, b1, obs]
      obtain ⟨q1, q2⟩ := q
      cases q1 with
      | none =>
        rw [if_pos (show bI (none : Option Nat).isSome = 0 from rfl)]
        exact ⟨fun t z => (by cases z), fun _ => ⟨_, rfl, b3, Z2⟩⟩
      | some c =>
        rw [if_neg (show ¬ bI (some c : Option Nat).isSome = 0 by show ¬ bI true = 0; decide)]
        dsimp only at b3 b4 b5 ⊢
        refine m_rest (c := c) (p2 := q2) hci hi hk (hR.zf Z2 b3 b4) Z2 (by rw [b2.1 _ (by omega)]; exact e65) ?_ (by omega) (b6 c rfl) s1 _ rfl
        rw [b2.2 14 (by omega) (by omega), a2.2 14 (by omega) (by omega), u2_row (by omega)]
        exact h14
    rw [if_neg (show ¬ bI true = 0 by decide)]
    dsimp only
    rw [l12_7 hM hci, obs, e65]
    by_cases k1 : kd = 1
    · rw [if_pos (show nI kd = 1 by rw [k1]; rfl), if_pos k1]
      obtain ⟨I2, b1, b2, b3, b4⟩ := r_num1 R1
      have nb := qN1_b (tx := tx) (len := len) (p := r2) rfl
      exact num I2 _ 1 b1 b2 b3 (nb.2.1 w2) nb.1 b4
    · rw [if_neg (show ¬ nI kd = 1 by rw [L1, nI_eq (by omega) (by omega)]; exact k1), if_neg k1]
      obtain ⟨I2, b1, b2, b3, b4⟩ := r_num2 R1
      have nb := qN2_b (tx := tx) (len := len) (p := r2) rfl
      exact num I2 _ 2 b1 b2 b3 (nb.2.1 w2) nb.1 b4
end
