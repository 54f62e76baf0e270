section
variable {x p p' len d d' f i k n ci fr c : Nat} {tx : Nat → Int32} {K : Sh} {I I1 I2 : Im} {R : Rf} {C W : List Nat}
/-- a sign goes onto the pile, and on -/
def puI (x c l p d : Nat) (I : Im) : Im := u2 (u2 (u2 (u2 I (x + 62) 16 (nI d)) (x + 71) l (nI c)) (x + 62) 15 (nI (l + 1))) (x + 62) 3 (nI p)
theorem puI_ok (h : SMq x tx len i fr p d W C K I R) (hc : c ≤ 200) (hp : p + 1 ≤ len) (hd : d' ≤ 4) : SMq x tx len i fr (p + 1) d' (c :: W) C K (puI x c W.length (p + 1) d' I) R ∧ XFq x ci fr I (puI x c W.length (p + 1) d' I) := by
  obtain ⟨hR, hE, hS, h16, hb, hb2, hi, hd4⟩ := h
  have X : XFq x ci fr I (puI x c W.length (p + 1) d' I) := (((XFq.refl.fld (by omega)).w71).fld (by omega)).fld (by omega)
  refine ⟨⟨hR.xf X (u2_eq _ _ _ _) hp, hE.cg ?_ ?_, hS.push hc ?_ ?_, ?_, ?_, ?_, hi, hd⟩, X⟩
  · unfold puI
    rw [u2_ne (by omega), u2_ne (by omega), u2_row (by omega), u2_ne (by omega)]
  · unfold puI
    rw [u2_row (by omega), u2_row (by omega), u2_row (by omega), u2_row (by omega)]
  · unfold puI
    rw [u2_ne (by omega), u2_eq]
  · unfold puI
    rw [u2_row (by omega), u2_row (by omega)]
    funext j
    by_cases q : j = W.length
    · subst q; rw [u2_eq, u2_eq]
    · rw [u2_ne q, u2_ne q, u2_row (by omega)]
  · unfold puI
    rw [u2_ne (by omega), u2_ne (by omega), u2_row (by omega), u2_eq]
  · simp only [List.length_cons]; omega
  · simp only [List.length_cons]; omega
/-- not or bracket: one deeper -/
theorem r_43 (h : SMq x tx len i fr p d W C K I R) (hd : d < 4) (hc : c ≤ 200) (hlt : p < len) {r22 : Int32 → Int32 → Im → Option (Int32 × Im)} {x1 x2 : Int32} : f_X12_takesE_43 K R (x + 62) r22 x1 x2 (nI c) I = r22 x1 x2 (puI x c W.length (p + 1) (d + 1) I) := by
  obtain ⟨hR, hE, hS, h16, hb, hb2, hi, hd4⟩ := h
  have hlen := hR.2.1
  have h3 : I (x + 62) 3 = nI p := hR.2.2.2.1
  unfold f_X12_takesE_43
  rw [h16, if_neg (show ¬ nI d = 4 by rw [L4, nI_eq (by omega) (by omega)]; omega), L1, nI_add, obs, u2_ne (by omega), hS.1, s12_13 hR.1 (by omega), obs, show ∀ a b, u2 (u2 I (x + 62) 16 a) (x + 62 + 9) W.length b (x + 62) 15 = nI W.length from fun a b => by rw [u2_row (by omega), u2_ne (by omega)]; exact hS.1, nI_add, obs, show ∀ a b c, u2 (u2 (u2 I (x + 62) 16 a) (x + 62 + 9) W.length b) (x + 62) 15 c (x + 62) 3 = nI p from fun a b c => by rw [u2_ne (by omega), u2_row (by omega), u2_ne (by omega)]; exact h3, nI_add, obs]
  rfl
theorem r_43f (h : SMq x tx len i fr p 4 W C K I R) {r22 : Int32 → Int32 → Im → Option (Int32 × Im)} {x1 x2 x3 : Int32} : f_X12_takesE_43 K R (x + 62) r22 x1 x2 x3 I = some (0, I) := by
  unfold f_X12_takesE_43
  rw [h.2.2.2.1, if_pos (show nI 4 = 4 from rfl)]
theorem qTs_no (h : qPl (qNx tx len p) = none) : qTs tx len p = (none, p) := by
  unfold qTs
  rw [h]
/-- a part -/
theorem m_P {E : Nat → Nat → QRes} (hEok : ∀ d p, qOK len p (E d p)) (hci : ci < 60) : ∀ (g d p k f : Nat) (I : Im) (C W : List Nat), 5 ≤ g + d → SMq x tx len i fr p d (List.replicate k 33 ++ W) C K I R → (∀ V, W ≠ 33 :: V) → k ≤ d → 200 ≤ f + p → (∀ d' p' f I C W, d < d' → d' ≤ 4 → SMq x tx len i fr p' d' W C K I R → (∀ c V, W = c :: V → c ≠ 33 ∧ c ≠ 38 ∧ c ≠ 124) → 200 ≤ f + p' → ERq x tx len i ci fr d' W C K R (f_X12_takesE_22 K R (x + 62) f (nI ci) 1 I) I (E d' p')) → PRq x tx len i ci fr d k W C K R (f_X12_takesE_22 K R (x + 62) f (nI ci) 1 I) I (qP0 tx len E g d p) := by
  intro g
  induction g with
  | zero => intro d p k f I C W h1 h2; have := h2.2.2.2.2.2.2.2; omega
  | succ g ih =>
    intro d p k f I C W h1 h hW hk hf hE
    obtain ⟨hR, hEm, hS, h16, hb, hb2, hi, hd4⟩ := id h
    have hlen := hR.2.1
    have hpl := hR.2.2.2.2.1
    have hl : (List.replicate k 33 ++ W).length = k + W.length := by simp
    obtain ⟨f, rfl⟩ : ∃ f', f = f' + 1 := ⟨f - 1, by omega⟩
    have tst : qNx tx len p ≠ 33 → qNx tx len p ≠ 40 → PRq x tx len i ci fr d k W C K R (f_X12_takesE_22 K R (x + 62) (f + 1) (nI ci) 1 I) I (qTs tx len p) := by
      intro n33 n40
      obtain ⟨t1, t2⟩ := r_test (ci := ci) h hW hk
      have e : f_X12_takesE_22 K R (x + 62) (f + 1) (nI ci) 1 I = Option.bind (f_X12_takesTest K R (x + 62) I) fun q25 => if q25.1 = 0 then some (0, q25.2) else f_X12_takesE_22 K R (x + 62) f (nI ci) 0 q25.2 := by
        rw [f_X12_takesE_22, r_next hR, obs, if_neg (show ¬ (1 : Int32) = 0 by decide), if_neg n33, if_neg n40]
      rw [e]
      refine ⟨fun cs z => ?_, fun z => ?_⟩
      · obtain ⟨I1, a1, a2, a3⟩ := t1 cs z
        have ok := (qTs_ok (tx := tx) (len := len) (p := p)).2.2 cs z
        exact ⟨I1, f, by rw [a1, obs, if_neg (show ¬ (1 : Int32) = 0 by decide)], by omega, a2, a3⟩
      · obtain ⟨I1, a1, a2, a3⟩ := t2 z
        exact ⟨I1, by rw [a1, obs, if_pos rfl], a2, a3⟩
    unfold qP0
    by_cases c1 : qNx tx len p = 33
    · have hlt := qNx_lt c1 (by decide)
      have e : f_X12_takesE_22 K R (x + 62) (f + 1) (nI ci) 1 I = f_X12_takesE_43 K R (x + 62) (f_X12_takesE_22 K R (x + 62) f) (nI ci) 1 (nI 33) I := by
        rw [f_X12_takesE_22, r_next hR, obs, if_neg (show ¬ (1 : Int32) = 0 by decide), if_pos c1, c1]
        rfl
      rw [e]
      by_cases c4 : d < 4
      · rw [if_pos ⟨c4, c1⟩, r_43 h c4 (by omega) hlt]
        obtain ⟨s1, s2⟩ := puI_ok (ci := ci) (d' := d + 1) (c := 33) h (by omega) hlt (by omega)
        obtain ⟨g1, g2⟩ := ih (d + 1) (p + 1) (k + 1) f _ C W (by omega) s1 hW (by omega) (by omega) (fun d' p' f I C W a => hE d' p' f I C W (by omega))
        generalize qP0 tx len E g (d + 1) (p + 1) = r at g1 g2 ⊢
        obtain ⟨r1, r2⟩ := r
        cases r1 with
        | none =>
          refine ⟨fun cs z => (by cases z), fun z => ?_⟩
          obtain ⟨I1, a1, a2, a3⟩ := g2 rfl
          exact ⟨I1, a1, a2, s2.trans a3⟩
        | some cs =>
          refine ⟨fun cs' z => ?_, fun z => (by cases z)⟩
          cases z
          obtain ⟨I1, f1, a1, a2, a3, a4⟩ := g1 cs rfl
          refine ⟨I1, f1, a1, a2, ?_, s2.trans a4⟩
          have el : C ++ cs ++ List.replicate (k + 1) 0 = C ++ (cs ++ [0]) ++ List.replicate k 0 := by
            rw [List.replicate_succ]
            simp
          rw [el, show d + 1 - (k + 1) = d - k by omega] at a3
          exact a3
      · have e4 : d = 4 := by omega
        subst e4
        rw [if_neg (fun z => c4 z.1), if_neg (fun z => c4 z.1), r_43f h, qTs_no (by rw [c1]; decide)]
        exact ⟨fun cs z => (by cases z), fun _ => ⟨I, rfl, hR.2.2.2.1, XFq.refl⟩⟩
    rw [if_neg (fun z => c1 z.2)]
    by_cases c2 : qNx tx len p = 40
    · have hlt := qNx_lt c2 (by decide)
      have e : f_X12_takesE_22 K R (x + 62) (f + 1) (nI ci) 1 I = f_X12_takesE_43 K R (x + 62) (f_X12_takesE_22 K R (x + 62) f) (nI ci) 1 (nI 40) I := by
        rw [f_X12_takesE_22, r_next hR, obs, if_neg (show ¬ (1 : Int32) = 0 by decide), if_neg c1, if_pos c2, c2]
        rfl
      rw [e]
      by_cases c4 : d < 4
      · rw [if_pos ⟨c4, c2⟩, r_43 h c4 (by omega) hlt]
        obtain ⟨s1, s2⟩ := puI_ok (ci := ci) (d' := d + 1) (c := 40) h (by omega) hlt (by omega)
        have ok := hEok (d + 1) (p + 1)
        obtain ⟨g1, g2⟩ := hE (d + 1) (p + 1) f _ C _ (by omega) (by omega) s1 (fun c V e => by
          obtain ⟨e1, -⟩ := List.cons.inj e
          omega) (by omega)
        generalize E (d + 1) (p + 1) = r at g1 g2 ok ⊢
        obtain ⟨r1, r2⟩ := r
        cases r1 with
        | none =>
          refine ⟨fun cs z => (by cases z), fun z => ?_⟩
          obtain ⟨I1, a1, a2, a3⟩ := g2 rfl
          exact ⟨I1, a1, a2, s2.trans a3⟩
        | some cs =>
          obtain ⟨I1, k1, a1, a2, a3, a4⟩ := g1 cs rfl
          obtain ⟨hR1, hE1, hS1, h161, hb1, hb21, -, -⟩ := a3
          dsimp only at a1 a2 hR1 hb1 hb21 ⊢
          have h15 : I1 (x + 62) 15 = nI (k + W.length + 1) := by rw [hS1.1]; simp
          have hM := hR.1
          have X1 : XFq x ci fr I1 (u2 I1 (x + 69) ci (nI (fr + (C ++ cs).length))) := XFq.refl.w69
          have n15 : u2 I1 (x + 69) ci (nI (fr + (C ++ cs).length)) (x + 62) 15 = nI (k + W.length + 1) := by rw [u2_row (by omega)]; exact h15
          have tl0 : tlM K R (x + 62) k1 (nI ci) (qNx tx len r2) I1 = if qNx tx len r2 = 41 then
              Option.bind (some (u2 (u2 I1 (x + 69) ci (nI (fr + (C ++ cs).length))) (x + 62) 15 (u2 I1 (x + 69) ci (nI (fr + (C ++ cs).length)) (x + 62) 15 - 1))) fun I16 =>
              Option.bind (some (u2 I16 (x + 62) 16 ((I16 (x + 62) 16) - 1))) fun I17 =>
              Option.bind (some (u2 I17 (x + 62) 3 ((I17 (x + 62) 3) + 1))) fun I18 =>
              Option.bind (f_X12_whole K R (x + 62) I18) fun q19 =>
              f_X12_takesE_22 K R (x + 62) k1 (nI ci) 0 q19
            else some (0, u2 I1 (x + 69) ci (nI (fr + (C ++ cs).length))) := by
            unfold tlM
            rw [hE1.1, s12_11 hM hci, obs]
            show (if u2 I1 (x + 69) ci (nI (fr + (C ++ cs).length)) (x + 62) 15 = 0 then _ else _) = _
            rw [n15, if_neg (show ¬ nI (k + W.length + 1) = 0 by rw [L0, nI_eq (by omega) (by omega)]; omega)]
          rw [a1, tl0]
          by_cases c3 : qNx tx len r2 = 41
          · have lt2 := qNx_lt c3 (by decide)
            rw [if_pos c3, if_pos c3]
            refine ⟨fun cs' z => ?_, fun z => (by cases z)⟩
            cases z
            have h3 : I1 (x + 62) 3 = nI r2 := hR1.2.2.2.1
            have X4 : XFq x ci fr I1 (u2 (u2 (u2 (u2 I1 (x + 69) ci (nI (fr + (C ++ cs).length))) (x + 62) 15 (nI (k + W.length))) (x + 62) 16 (nI d)) (x + 62) 3 (nI (r2 + 1))) := ((X1.fld (by omega)).fld (by omega)).fld (by omega)
            have eJ : (u2 (u2 (u2 (u2 I1 (x + 69) ci (nI (fr + (C ++ cs).length))) (x + 62) 15 (nI (k + W.length))) (x + 62) 16 (nI d)) (x + 62) 3 (nI (r2 + 1))) (x + 70) = I1 (x + 70) := by rw [u2_row (by omega), u2_row (by omega), u2_row (by omega), u2_row (by omega)]
            have eJ1 : (u2 (u2 (u2 (u2 I1 (x + 69) ci (nI (fr + (C ++ cs).length))) (x + 62) 15 (nI (k + W.length))) (x + 62) 16 (nI d)) (x + 62) 3 (nI (r2 + 1))) (x + 71) = I1 (x + 71) := by rw [u2_row (by omega), u2_row (by omega), u2_row (by omega), u2_row (by omega)]
            have eJ2 : (u2 (u2 (u2 (u2 I1 (x + 69) ci (nI (fr + (C ++ cs).length))) (x + 62) 15 (nI (k + W.length))) (x + 62) 16 (nI d)) (x + 62) 3 (nI (r2 + 1))) (x + 62) 14 = I1 (x + 62) 14 := by rw [u2_ne (by omega), u2_ne (by omega), u2_ne (by omega), u2_row (by omega)]
            simp only [List.length_cons, hl] at hb1 hb21
            obtain ⟨I4, w1, w2, w3, w4, w5, w6⟩ := r_whole (d := d - k) (ci := ci) hM hW k FU (C ++ cs) (u2 (u2 (u2 (u2 I1 (x + 69) ci (nI (fr + (C ++ cs).length))) (x + 62) 15 (nI (k + W.length))) (x + 62) 16 (nI d)) (x + 62) 3 (nI (r2 + 1))) (FU_lt (by omega)) (hS1.pop (by rw [u2_ne (by omega), u2_ne (by omega), u2_eq, hl]) eJ1) (hE1.cg eJ2 eJ) (by rw [u2_ne (by omega), u2_eq, show d - k + k = d by omega]) (by omega) (by omega) (by omega)
            have X5 := X4.trans w6
            refine ⟨I4, k1, ?_, by omega, ⟨hR1.xf X5 (by rw [w5, u2_eq]) lt2, w3, w2, w4, ?_, (show W.length ≤ r2 + 1 by omega), hi, by omega⟩, (s2.trans a4).trans X5⟩
            · have n16 : u2 (u2 I1 (x + 69) ci (nI (fr + (C ++ cs).length))) (x + 62) 15 (nI (k + W.length)) (x + 62) 16 = nI (d + 1) := by rw [u2_ne (by omega), u2_row (by omega)]; exact h161
              have n3 : u2 (u2 (u2 I1 (x + 69) ci (nI (fr + (C ++ cs).length))) (x + 62) 15 (nI (k + W.length))) (x + 62) 16 (nI d) (x + 62) 3 = nI r2 := by rw [u2_ne (by omega), u2_ne (by omega), u2_row (by omega)]; exact h3
              rw [obs, n15, L1, nI_pred1, obs, n16, nI_pred1, obs, n3, nI_add]
              unfold f_X12_whole
              rw [w1, obs]
            · have e9 : (C ++ cs ++ List.replicate k 0).length = (C ++ cs).length + k := by simp; omega
              rw [e9]
              show fr + ((C ++ cs).length + k) + W.length ≤ 100 * i + (r2 + 1)
              omega
          · rw [if_neg c3, if_neg c3]
            exact ⟨fun cs' z => (by cases z), fun _ => ⟨_, rfl, by rw [u2_row (by omega)]; exact hR1.2.2.2.1, (s2.trans a4).trans X1⟩⟩
      · have e4 : d = 4 := by omega
        subst e4
        rw [if_neg (fun z => c4 z.1), r_43f h, qTs_no (by rw [c2]; decide)]
        exact ⟨fun cs z => (by cases z), fun _ => ⟨I, rfl, hR.2.2.2.1, XFq.refl⟩⟩
    · rw [if_neg (fun z => c2 z.2)]
      exact tst c1 c2
end
