section
variable {x p p' len d d' f i k n ci fr c : Nat} {tx : Nat → Int32} {K : Sh} {I I1 I2 : Im} {R : Rf} {C W : List Nat}
theorem u2_self {α : Type} {f : Nat → Nat → α} {a k : Nat} {v : α} (h : f a k = v) : u2 f a k v = f := by
  funext b j
  unfold u2
  by_cases c : b = a ∧ j = k
  · rw [if_pos c, c.1, c.2, h]
  · rw [if_neg c]
/-- the reader after an operator -/
theorem r_122 {V C' : List Nat} (hS0 : f_X12_settle K R (x + 62) (nI c) I = some I1) (h : SMq x tx len i fr p d V C' K I1 R) (hlt : p < len) {r22 : Int32 → Int32 → Im → Option (Int32 × Im)} {x1 : Int32} : f_X12_takesE_122 K R (x + 62) r22 x1 (nI c) I = r22 x1 1 (puI x c V.length (p + 1) d I1) := by
  obtain ⟨hR, hE, hS, h16, hb, hb2, hi, hd4⟩ := h
  have hlen := hR.2.1
  have h3 : I1 (x + 62) 3 = nI p := hR.2.2.2.1
  unfold f_X12_takesE_122 puI
  rw [u2_self h16, hS0, obs, hS.1, s12_13 hR.1 (by omega), obs, show ∀ b, u2 I1 (x + 62 + 9) V.length b (x + 62) 15 = nI V.length from fun b => by rw [u2_row (by omega)]; exact hS.1, L1, nI_add, obs, show ∀ b c, u2 (u2 I1 (x + 62 + 9) V.length b) (x + 62) 15 c (x + 62) 3 = nI p from fun b c => by rw [u2_ne (by omega), u2_row (by omega)]; exact h3, nI_add, obs]
theorem set_SM {C' V : List Nat} (h : SMq x tx len i fr p d W C K I R) (h1 : STq x V I1) (h2 : EMq x fr C' I1) (h3 : XFq x ci fr I I1) (h4 : ∀ k, k ≠ 14 → k ≠ 15 → I1 (x + 62) k = I (x + 62) k) (hl : C'.length + V.length ≤ C.length + W.length) (hl2 : V.length ≤ W.length) : SMq x tx len i fr p d V C' K I1 R := by
  obtain ⟨hR, hE, hS, h16, hb, hb2, hi, hd4⟩ := h
  exact ⟨hR.xf h3 (by rw [h4 3 (by omega) (by omega)]; exact hR.2.2.2.1) hR.2.2.2.2.1, h2, h1, by rw [h4 16 (by omega) (by omega)]; exact h16, by omega, by omega, hi, hd4⟩
theorem m_L {P : Nat → Nat → QRes} (hci : ci < 60) (hPok : ∀ d p, qOK len p (P d p)) (hP : ∀ p' f I C W, SMq x tx len i fr p' d W C K I R → (∀ V, W ≠ 33 :: V) → 200 ≤ f + p' → PRq x tx len i ci fr d 0 W C K R (f_X12_takesE_22 K R (x + 62) f (nI ci) 1 I) I (P d p')) : ∀ (g p f : Nat) (I : Im) (a o : Bool) (cs' Cc C W : List Nat), len < g + p → SMq x tx len i fr p d (opL a o ++ W) Cc K I R → Cc ++ oC a = C ++ cs' → (∀ c V, W = c :: V → c ≠ 33 ∧ c ≠ 38 ∧ c ≠ 124) → 200 ≤ f + p → ERq x tx len i ci fr d W C K R (f_X12_takesE_22 K R (x + 62) f (nI ci) 0 I) I (qL0 tx len P g d o cs' p) := by
  intro g
  induction g with
  | zero => intro p f I a o cs' Cc C W h1 h2; have := h2.1.2.2.2.2.1; omega
  | succ g ih =>
    intro p f I a o cs' Cc C W h1 h hC hW hf
    obtain ⟨hR, hEm, hS, h16, hb, hb2, hi, hd4⟩ := id h
    have hM := hR.1
    have hlen := hR.2.1
    have hpl := hR.2.2.2.2.1
    obtain ⟨f, rfl⟩ : ∃ f', f = f' + 1 := ⟨f - 1, by omega⟩
    have hl : (opL a o ++ W).length = (opL a o).length + W.length := by simp
    have hW2 : ∀ c V, W = c :: V → c ≠ 38 ∧ c ≠ 124 := fun c V e => (hW c V e).2
    have la : (opL a o).length = (oC a).length + (opL false o).length := by cases a <;> cases o <;> rfl
    have lo : (opL false o).length = (qOr o).length := by cases o <;> rfl
    have hl2 : (opL false o ++ W).length = (opL false o).length + W.length := by simp
    rw [f_X12_takesE_22, r_next hR, obs, if_pos rfl]
    unfold qL0
    have ok := hPok d (p + 1)
    by_cases c2 : qNx tx len p = 38
    · have hlt := qNx_lt c2 (by decide)
      obtain ⟨I1, s1, s2, s3, s4, s5⟩ := r_set38 (ci := ci) hM hS hEm (by omega) (by omega) hW2
      have S1 := set_SM h s2 s3 s4 s5 (by simp; omega) (by omega)
      obtain ⟨P1, P2⟩ := puI_ok (ci := ci) (c := 38) (d' := d) S1 (by omega) hlt hd4
      rw [if_pos c2, c2, if_neg (show ¬ (38 : Int32) = 124 by decide), if_pos rfl, show (38 : Int32) = nI 38 from rfl, r_122 s1 S1 hlt]
      obtain ⟨g1, g2⟩ := hP (p + 1) f _ _ _ P1 (fun V e => by
        obtain ⟨e1, -⟩ := List.cons.inj e
        omega) (by omega)
      generalize P d (p + 1) = r at g1 g2 ok ⊢
      obtain ⟨r1, r2⟩ := r
      cases r1 with
      | none =>
        refine ⟨fun cs z => (by cases z), fun z => ?_⟩
        obtain ⟨I3, a1, a2, a3⟩ := g2 rfl
        exact ⟨I3, a1, a2, (s4.trans P2).trans a3⟩
      | some c2' =>
        obtain ⟨ok1, ok2, -⟩ := ok.2.2 c2' rfl
        obtain ⟨I3, f1, a1, a2, a3, a4⟩ := g1 c2' rfl
        dsimp only at ok1 ok2 a1 a2 a3 ⊢
        rw [a1]
        have eC : Cc ++ oC a ++ c2' ++ List.replicate 0 0 ++ oC true = C ++ (cs' ++ c2' ++ [1]) := by
          rw [hC]
          simp [oC]
        obtain ⟨e1, e2⟩ := ih r2 f1 I3 true o (cs' ++ c2' ++ [1]) _ C W (by omega) a3 eC hW a2
        refine ⟨fun cs z => ?_, fun z => ?_⟩
        · obtain ⟨I4, k1, b1, b2, b3, b4⟩ := e1 cs z
          exact ⟨I4, k1, b1, b2, b3, ((s4.trans P2).trans a4).trans b4⟩
        · obtain ⟨I4, b1, b2, b3⟩ := e2 z
          exact ⟨I4, b1, b2, ((s4.trans P2).trans a4).trans b3⟩
    rw [if_neg c2]
    by_cases c1 : qNx tx len p = 124
    · have hlt := qNx_lt c1 (by decide)
      obtain ⟨I1, s1, s2, s3, s4, s5⟩ := r_set124 (ci := ci) hM hS hEm (by omega) (by omega) hW2
      have S1 := set_SM h s2 s3 s4 s5 (by simp; omega) (by omega)
      obtain ⟨P1, P2⟩ := puI_ok (ci := ci) (c := 124) (d' := d) S1 (by omega) hlt hd4
      rw [if_pos c1, if_pos c1, c1, show (124 : Int32) = nI 124 from rfl, r_122 s1 S1 hlt]
      obtain ⟨g1, g2⟩ := hP (p + 1) f _ _ _ P1 (fun V e => by
        obtain ⟨e1, -⟩ := List.cons.inj e
        omega) (by omega)
      generalize P d (p + 1) = r at g1 g2 ok ⊢
      obtain ⟨r1, r2⟩ := r
      cases r1 with
      | none =>
        refine ⟨fun cs z => (by cases z), fun z => ?_⟩
        obtain ⟨I3, a1, a2, a3⟩ := g2 rfl
        exact ⟨I3, a1, a2, (s4.trans P2).trans a3⟩
      | some c2' =>
        obtain ⟨ok1, ok2, -⟩ := ok.2.2 c2' rfl
        obtain ⟨I3, f1, a1, a2, a3, a4⟩ := g1 c2' rfl
        dsimp only at ok1 ok2 a1 a2 a3 ⊢
        rw [a1]
        have eC : Cc ++ oC a ++ qOr o ++ c2' ++ List.replicate 0 0 ++ oC false = C ++ (cs' ++ qOr o ++ c2') := by
          rw [hC]
          simp [oC]
        obtain ⟨e1, e2⟩ := ih r2 f1 I3 false true (cs' ++ qOr o ++ c2') _ C W (by omega) a3 eC hW a2
        refine ⟨fun cs z => ?_, fun z => ?_⟩
        · obtain ⟨I4, k1, b1, b2, b3, b4⟩ := e1 cs z
          exact ⟨I4, k1, b1, b2, b3, ((s4.trans P2).trans a4).trans b4⟩
        · obtain ⟨I4, b1, b2, b3⟩ := e2 z
          exact ⟨I4, b1, b2, ((s4.trans P2).trans a4).trans b3⟩
    · rw [if_neg c1, if_neg c1, if_neg c2]
      obtain ⟨I1, s1, s2, s3, s4, s5⟩ := r_set124 (ci := ci) hM hS hEm (by omega) (by omega) hW2
      have S1 := set_SM h s2 s3 s4 s5 (by simp; omega) (by omega)
      refine ⟨fun cs z => ?_, fun z => (by cases z)⟩
      cases z
      refine ⟨I1, f, ?_, ?_, ?_, s4⟩
      · rw [s1, obs]
        rfl
      · show 200 ≤ f + p + 1
        omega
      · rw [← List.append_assoc, ← hC]
        exact S1
theorem m_EP (hci : ci < 60) : ∀ F, (∀ d p f I C W, 2 * (4 - d) + 2 ≤ F → SMq x tx len i fr p d W C K I R → (∀ c V, W = c :: V → c ≠ 33 ∧ c ≠ 38 ∧ c ≠ 124) → 200 ≤ f + p → ERq x tx len i ci fr d W C K R (f_X12_takesE_22 K R (x + 62) f (nI ci) 1 I) I ((qEP tx len F).1 d p)) ∧ ∀ d p k f I C W, 2 * (4 - d) + 1 ≤ F → SMq x tx len i fr p d (List.replicate k 33 ++ W) C K I R → (∀ V, W ≠ 33 :: V) → k ≤ d → 200 ≤ f + p → PRq x tx len i ci fr d k W C K R (f_X12_takesE_22 K R (x + 62) f (nI ci) 1 I) I ((qEP tx len F).2 d p) := by
  intro F
  induction F with
  | zero => exact ⟨fun d p f I C W hh => by omega, fun d p k f I C W hh => by omega⟩
  | succ F ih =>
    refine ⟨fun d p f I C W hF h hW hf => ?_, fun d p k f I C W hF h hW hk hf => ?_⟩
    · show ERq x tx len i ci fr d W C K R _ I (qE0 tx len (qEP tx len F).2 d p)
      have hP : ∀ p' f I C W, SMq x tx len i fr p' d W C K I R → (∀ V, W ≠ 33 :: V) → 200 ≤ f + p' → PRq x tx len i ci fr d 0 W C K R (f_X12_takesE_22 K R (x + 62) f (nI ci) 1 I) I ((qEP tx len F).2 d p') := fun p' f I C W a b c => ih.2 d p' 0 f I C W (by omega) a b (Nat.zero_le _) c
      obtain ⟨g1, g2⟩ := hP p f I C W h (fun V e => (hW 33 V e).1 rfl) hf
      have ok := (qEP_ok (tx := tx) (len := len) F).2 d p
      unfold qE0
      generalize (qEP tx len F).2 d p = r at g1 g2 ok ⊢
      obtain ⟨r1, r2⟩ := r
      cases r1 with
      | none => exact ⟨fun cs z => (by cases z), fun z => g2 rfl⟩
      | some cs =>
        obtain ⟨ok1, ok2, -⟩ := ok.2.2 cs rfl
        obtain ⟨I3, f1, a1, a2, a3, a4⟩ := g1 cs rfl
        dsimp only at ok1 ok2 a1 a2 a3 ⊢
        rw [a1]
        have eC : C ++ cs ++ List.replicate 0 0 ++ oC false = C ++ cs := by simp [oC]
        have := a3.1.2.1
        obtain ⟨e1, e2⟩ := m_L hci (qEP_ok F).2 hP 101 r2 f1 I3 false false cs _ C W (by omega) a3 eC hW a2
        refine ⟨fun cs z => ?_, fun z => ?_⟩
        · obtain ⟨I4, k1, b1, b2, b3, b4⟩ := e1 cs z
          exact ⟨I4, k1, b1, b2, b3, a4.trans b4⟩
        · obtain ⟨I4, b1, b2, b3⟩ := e2 z
          exact ⟨I4, b1, b2, a4.trans b3⟩
    · show PRq x tx len i ci fr d k W C K R _ I (qP0 tx len (qEP tx len F).1 5 d p)
      exact m_P (qEP_ok F).1 hci 5 d p k f I C W (by omega) h hW hk hf (fun d' p' f I C W a b c e g => ih.1 d' p' f I C W (by omega) c e g)
/-- a drink clause's test, read -/
theorem m_takesE (hR : RMq x tx len p K I R) (hci : ci < 60) (hi : i ≤ 4) (h14 : I (x + 62) 14 = nI fr) (hb : fr ≤ 100 * i + p) : (∀ cs, ((qEP tx len 14).1 0 p).1 = some cs → ∃ I1, f_X12_takesE K R (x + 62) (nI ci) I = some (1, I1) ∧ I1 (x + 62) 3 = nI ((qEP tx len 14).1 0 p).2 ∧ EMq x fr cs I1 ∧ I1 (x + 68) ci = nI fr ∧ I1 (x + 69) ci = nI (fr + cs.length) ∧ fr + cs.length ≤ 100 * i + ((qEP tx len 14).1 0 p).2 ∧ XFq x ci fr (u2 I (x + 68) ci (nI fr)) I1) ∧ (((qEP tx len 14).1 0 p).1 = none → ∃ I1, f_X12_takesE K R (x + 62) (nI ci) I = some (0, I1) ∧ I1 (x + 62) 3 = nI ((qEP tx len 14).1 0 p).2 ∧ XFq x ci fr (u2 I (x + 68) ci (nI fr)) I1) := by
  have hM := hR.1
  have hlen := hR.2.1
  have e : f_X12_takesE K R (x + 62) (nI ci) I = f_X12_takesE_22 K R (x + 62) FU (nI ci) 1 (u2 (u2 (u2 I (x + 62) 15 0) (x + 62) 16 0) (x + 68) ci (nI fr)) := by
    unfold f_X12_takesE
    rw [obs, obs, u2_ne (by omega), u2_ne (by omega), h14, s12_10 hM hci, obs]
  have r0 : u2 (u2 (u2 I (x + 62) 15 0) (x + 62) 16 0) (x + 68) ci (nI fr) = u2 (u2 (u2 I (x + 68) ci (nI fr)) (x + 62) 15 0) (x + 62) 16 0 := by
    funext z j
    by_cases c1 : z = x + 68
    · subst c1
      by_cases c2 : j = ci
      · subst c2; rw [u2_eq, u2_row (by omega), u2_row (by omega), u2_eq]
      · rw [u2_ne c2, u2_row (by omega), u2_row (by omega), u2_row (by omega), u2_row (by omega), u2_ne c2]
    · rw [u2_row c1]
      by_cases c3 : z = x + 62
      · subst c3
        by_cases c4 : j = 16
        · subst c4; rw [u2_eq, u2_eq]
        · rw [u2_ne c4, u2_ne c4]
          by_cases c5 : j = 15
          · subst c5; rw [u2_eq, u2_eq]
          · rw [u2_ne c5, u2_ne c5, u2_row (by omega)]
      · rw [u2_row c3, u2_row c3, u2_row c3, u2_row c3, u2_row c1]
  rw [r0] at e
  have X0 : XFq x ci fr (u2 I (x + 68) ci (nI fr)) (u2 (u2 (u2 I (x + 68) ci (nI fr)) (x + 62) 15 0) (x + 62) 16 0) := (XFq.refl.fld (by omega)).fld (by omega)
  have hR0 : RMq x tx len p K (u2 I (x + 68) ci (nI fr)) R := ⟨hR.1, hR.2.1, by rw [u2_row (by omega)]; exact hR.2.2.1, by rw [u2_row (by omega)]; exact hR.2.2.2.1, hR.2.2.2.2.1, fun j hj => by rw [u2_row (by omega)]; exact hR.2.2.2.2.2 j hj⟩
  have S0 : SMq x tx len i fr p 0 [] [] K (u2 (u2 (u2 I (x + 68) ci (nI fr)) (x + 62) 15 0) (x + 62) 16 0) R := by
    refine ⟨hR0.xf X0 (by rw [u2_ne (by omega), u2_ne (by omega), u2_row (by omega)]; exact hR.2.2.2.1) hR.2.2.2.2.1, ⟨by rw [u2_ne (by omega), u2_ne (by omega), u2_row (by omega)]; exact h14, fun j c hj => by simp at hj⟩, ⟨by rw [u2_ne (by omega), u2_eq]; rfl, fun j c hj => by simp at hj, fun c hc => by cases hc⟩, u2_eq _ _ _ _, by simpa using hb, Nat.zero_le _, hi, by omega⟩
  obtain ⟨g1, g2⟩ := (m_EP hci 14).1 0 p FU _ [] [] (by omega) S0 (fun c V e => by cases e) (by have := FU_lt (n := 300) (by omega); omega)
  refine ⟨fun cs z => ?_, fun z => ?_⟩
  · obtain ⟨I1, k1, a1, a2, a3, a4⟩ := g1 cs z
    obtain ⟨b1, b2, b3, b4, b5, -⟩ := a3
    simp only [List.nil_append, List.length_nil, Nat.add_zero] at b2 b5
    have X1 : XFq x ci fr I1 (u2 I1 (x + 69) ci (nI (fr + cs.length))) := XFq.refl.w69
    have XX := (X0.trans a4).trans X1
    refine ⟨u2 I1 (x + 69) ci (nI (fr + cs.length)), ?_, by rw [u2_row (by omega)]; exact b1.2.2.2.1, b2.cg (by rw [u2_row (by omega)]) (u2_row (by omega)), ?_, u2_eq _ _ _ _, b5, XX⟩
    · rw [e, a1]
      unfold tlM
      rw [b2.1, s12_11 hM hci, obs]
      show (if u2 I1 (x + 69) ci (nI (fr + cs.length)) (x + 62) 15 = 0 then _ else _) = _
      rw [u2_row (by omega), b3.1, if_pos (show nI ([] : List Nat).length = 0 from rfl)]
    · rw [XX.1 _ (by omega) (by omega), u2_eq]
  · obtain ⟨I1, a1, a2, a3⟩ := g2 z
    exact ⟨I1, by rw [e, a1], a2, X0.trans a3⟩
end
