/-! THE REFERENCE READS A TEST: signs pending on a pile W (top first), signs written C from fr on -/
def EMq (x fr : Nat) (C : List Nat) (I : Im) : Prop := I (x + 62) 14 = nI (fr + C.length) ∧ ∀ j c, C[j]? = some c → I (x + 70) (fr + j) = sI c
def STq (x : Nat) (W : List Nat) (I : Im) : Prop := I (x + 62) 15 = nI W.length ∧ (∀ j c, W.reverse[j]? = some c → I (x + 71) j = nI c) ∧ ∀ c ∈ W, c ≤ 200
def XFq (x ci fr : Nat) (I I1 : Im) : Prop := (∀ z, z ≠ x + 62 → (z < x + 69 ∨ x + 71 < z) → I1 z = I z) ∧ (∀ k, k ≠ 3 → k ≠ 4 → k ≠ 14 → k ≠ 15 → k ≠ 16 → I1 (x + 62) k = I (x + 62) k) ∧ (∀ j, j ≠ ci → I1 (x + 69) j = I (x + 69) j) ∧ ∀ j, j < fr → I1 (x + 70) j = I (x + 70) j
def ptI (x fr : Nat) (C : List Nat) (c : Nat) (I : Im) : Im := u2 (u2 I (x + 70) (fr + C.length) (sI c)) (x + 62) 14 (nI (fr + (C.length + 1)))
section
variable {x p p' len d f i k n ci fr c : Nat} {tx : Nat → Int32} {K : Sh} {I I1 I2 : Im} {R : Rf} {C W : List Nat}
theorem XFq.refl : XFq x ci fr I I := ⟨fun _ _ _ => rfl, fun _ _ _ _ _ _ => rfl, fun _ _ => rfl, fun _ _ => rfl⟩
theorem XFq.trans (h : XFq x ci fr I I1) (h2 : XFq x ci fr I1 I2) : XFq x ci fr I I2 := ⟨fun z a b => (h2.1 z a b).trans (h.1 z a b), fun k a b c d e => (h2.2.1 k a b c d e).trans (h.2.1 k a b c d e), fun j a => (h2.2.2.1 j a).trans (h.2.2.1 j a), fun j a => (h2.2.2.2 j a).trans (h.2.2.2 j a)⟩
theorem XFq.fld (h : XFq x ci fr I I1) {k : Nat} {v : Int32} (hk : k = 3 ∨ k = 4 ∨ k = 14 ∨ k = 15 ∨ k = 16) : XFq x ci fr I (u2 I1 (x + 62) k v) := ⟨fun z a b => by rw [u2_row a]; exact h.1 z a b, fun j a b c d e => by rw [u2_ne (by omega)]; exact h.2.1 j a b c d e, fun j a => by rw [u2_row (by omega)]; exact h.2.2.1 j a, fun j a => by rw [u2_row (by omega)]; exact h.2.2.2 j a⟩
theorem XFq.w71 (h : XFq x ci fr I I1) {j : Nat} {v : Int32} : XFq x ci fr I (u2 I1 (x + 71) j v) := ⟨fun z a b => by rw [u2_row (by omega)]; exact h.1 z a b, fun k a b c d e => by rw [u2_row (by omega)]; exact h.2.1 k a b c d e, fun j a => by rw [u2_row (by omega)]; exact h.2.2.1 j a, fun j a => by rw [u2_row (by omega)]; exact h.2.2.2 j a⟩
theorem XFq.w70 (h : XFq x ci fr I I1) {j : Nat} {v : Int32} (hj : fr ≤ j) : XFq x ci fr I (u2 I1 (x + 70) j v) := ⟨fun z a b => by rw [u2_row (by omega)]; exact h.1 z a b, fun k a b c d e => by rw [u2_row (by omega)]; exact h.2.1 k a b c d e, fun j a => by rw [u2_row (by omega)]; exact h.2.2.1 j a, fun l a => by rw [u2_ne (by omega)]; exact h.2.2.2 l a⟩
theorem XFq.w69 (h : XFq x ci fr I I1) {v : Int32} : XFq x ci fr I (u2 I1 (x + 69) ci v) := ⟨fun z a b => by rw [u2_row (by omega)]; exact h.1 z a b, fun k a b c d e => by rw [u2_row (by omega)]; exact h.2.1 k a b c d e, fun j a => by rw [u2_ne a]; exact h.2.2.1 j a, fun l a => by rw [u2_row (by omega)]; exact h.2.2.2 l a⟩
theorem XFq.nm (h : NMq x I I1) : XFq x ci fr I I1 := ⟨fun z a _ => h.1 z a, fun k a b _ _ _ => h.2 k a b, fun j _ => by rw [h.1 _ (by omega)], fun j _ => by rw [h.1 _ (by omega)]⟩
theorem XFq.pt (h : XFq x ci fr I I1) : XFq x ci fr I (ptI x fr C c I1) := (h.w70 (by omega)).fld (by omega)
theorem RMq.xf (h : RMq x tx len p K I R) (hN : XFq x ci fr I I1) (h3 : I1 (x + 62) 3 = nI p') (hp : p' ≤ len) : RMq x tx len p' K I1 R := ⟨h.1, h.2.1, by rw [hN.2.1 2 (by omega) (by omega) (by omega) (by omega) (by omega)]; exact h.2.2.1, h3, hp, fun j hj => by rw [hN.1 _ (by omega) (by omega)]; exact h.2.2.2.2.2 j hj⟩
theorem ptI_em (h : EMq x fr C I) : EMq x fr (C ++ [c]) (ptI x fr C c I) := by
  have hl : (C ++ [c]).length = C.length + 1 := by simp
  refine ⟨by rw [hl]; exact u2_eq _ _ _ _, fun j v hj => ?_⟩
  unfold ptI
  rw [u2_row (by omega)]
  by_cases q : j = C.length
  · subst q
    rw [List.getElem?_append_right (Nat.le_refl _)] at hj
    simp at hj
    rw [u2_eq, hj]
  · by_cases q2 : j < C.length
    · rw [List.getElem?_append_left q2] at hj
      rw [u2_ne (by omega)]
      exact h.2 j v hj
    · rw [List.getElem?_eq_none (by simp; omega)] at hj
      cases hj
theorem ptI_row {z : Nat} (h1 : z ≠ x + 62) (h2 : z ≠ x + 70) : ptI x fr C c I z = I z := by
  unfold ptI
  rw [u2_row h1, u2_row h2]
theorem ptI_f {k : Nat} (hk : k ≠ 14) : ptI x fr C c I (x + 62) k = I (x + 62) k := by
  unfold ptI
  rw [u2_ne hk, u2_row (by omega)]
theorem EMq.cg (h : EMq x fr C I) (h14 : I1 (x + 62) 14 = I (x + 62) 14) (h70 : I1 (x + 70) = I (x + 70)) : EMq x fr C I1 := ⟨by rw [h14]; exact h.1, fun j c hj => by rw [h70]; exact h.2 j c hj⟩
theorem STq.cg (h : STq x W I) (h15 : I1 (x + 62) 15 = I (x + 62) 15) (h71 : I1 (x + 71) = I (x + 71)) : STq x W I1 := ⟨by rw [h15]; exact h.1, fun j c hj => by rw [h71]; exact h.2.1 j c hj, h.2.2⟩
theorem STq.top (h : STq x (c :: W) I) : I (x + 71) W.length = nI c := h.2.1 W.length c (by
  rw [List.reverse_cons, List.getElem?_append_right (by simp)]
  simp)
theorem STq.pop (h : STq x (c :: W) I) (h15 : I1 (x + 62) 15 = nI W.length) (h71 : I1 (x + 71) = I (x + 71)) : STq x W I1 := ⟨h15, fun j v hj => by
  rw [h71]
  refine h.2.1 j v ?_
  rw [List.reverse_cons, List.getElem?_append_left]
  · exact hj
  · exact (List.getElem?_eq_some_iff.mp hj).1, fun v hv => h.2.2 v (by simp [hv])⟩
theorem STq.push (h : STq x W I) (hc : c ≤ 200) (h15 : I1 (x + 62) 15 = nI (W.length + 1)) (h71 : I1 (x + 71) = u2 I (x + 71) W.length (nI c) (x + 71)) : STq x (c :: W) I1 := by
  refine ⟨by rw [h15]; rfl, fun j v hj => ?_, fun v hv => ?_⟩
  · rw [h71]
    rw [List.reverse_cons] at hj
    by_cases q : j = W.length
    · subst q
      rw [List.getElem?_append_right (by simp)] at hj
      simp at hj
      rw [u2_eq, hj]
    · rw [u2_ne q]
      by_cases q2 : j < W.length
      · rw [List.getElem?_append_left (by simpa using q2)] at hj
        exact h.2.1 j v hj
      · rw [List.getElem?_eq_none (by simp; omega)] at hj
        cases hj
  · rcases List.mem_cons.mp hv with e | e
    · omega
    · exact h.2.2 v e
theorem r_put (hM : S12 (x + 62) K R) (h : EMq x fr C I) (hb : fr + C.length < 500) : f_X12_put K R (x + 62) (sI c) I = some (ptI x fr C c I) := by
  unfold f_X12_put
  rw [h.1, s12_12 hM hb, obs, obs, show ∀ v, u2 I (x + 62 + 8) (fr + C.length) v (x + 62) 14 = nI (fr + C.length) from fun v => by rw [u2_row (by omega)]; exact h.1, L1, nI_add]
  rfl
/-- a whole part stands: the nots before it are written -/
theorem r_whole (hM : S12 (x + 62) K R) (hW : ∀ V, W ≠ 33 :: V) : ∀ (k f : Nat) (C : List Nat) (I : Im), k < f → STq x (List.replicate k 33 ++ W) I → EMq x fr C I → I (x + 62) 16 = nI (d + k) → fr + C.length + k ≤ 500 → W.length + k ≤ 100 → d + k ≤ 200 → ∃ I1, f_X12_whole_0 K R (x + 62) f I = some I1 ∧ STq x W I1 ∧ EMq x fr (C ++ List.replicate k 0) I1 ∧ I1 (x + 62) 16 = nI d ∧ I1 (x + 62) 3 = I (x + 62) 3 ∧ XFq x ci fr I I1 := by
  intro k
  induction k with
  | zero =>
    intro f C I hf hS hE h16 hb hb2 hb3
    obtain ⟨f, rfl⟩ : ∃ f', f = f' + 1 := ⟨f - 1, by omega⟩
    have hS : STq x W I := hS
    refine ⟨I, ?_, hS, by simpa using hE, h16, rfl, XFq.refl⟩
    unfold f_X12_whole_0
    rw [hS.1]
    cases W with
    | nil => rw [if_pos (show nI ([] : List Nat).length ≤ 0 from Int32.le_refl _)]
    | cons c V =>
      have hc := hS.2.2 c (by simp)
      have ne : c ≠ 33 := fun e => hW V (by rw [e])
      simp only [List.length_cons] at hb2 ⊢
      rw [if_neg (show ¬ nI (V.length + 1) ≤ 0 by rw [L0, nI_leI (by omega) (by omega)]; omega), L1, nI_pred1, l12_13 hM (by omega), obs, show I (x + 62 + 9) V.length = nI c from hS.top, if_neg (show ¬ nI c = 33 by rw [L33, nI_eq (by omega) (by omega)]; exact ne)]
  | succ k ih =>
    intro f C I hf hS hE h16 hb hb2 hb3
    obtain ⟨f, rfl⟩ : ∃ f', f = f' + 1 := ⟨f - 1, by omega⟩
    have hS : STq x (33 :: (List.replicate k 33 ++ W)) I := hS
    have hl : (List.replicate k 33 ++ W).length = k + W.length := by simp
    have e1 : ∀ v, u2 (ptI x fr C 0 I) (x + 62) 15 v (x + 71) = I (x + 71) := fun v => by rw [u2_row (by omega), ptI_row (by omega) (by omega)]
    have g := ih f (C ++ [0]) (u2 (u2 (ptI x fr C 0 I) (x + 62) 15 (nI (k + W.length))) (x + 62) 16 (nI (d + k))) (by omega) (hS.pop (by rw [u2_ne (by omega), u2_eq, hl]) (by rw [u2_row (by omega)]; exact e1 _)) ((ptI_em hE).cg (by rw [u2_ne (by omega), u2_ne (by omega)]) (by rw [u2_row (by omega), u2_row (by omega)])) (u2_eq _ _ _ _) (by simp; omega) (by omega) (by omega)
    obtain ⟨I1, a1, a2, a3, a4, a5, a6⟩ := g
    refine ⟨I1, ?_, a2, by rw [List.append_assoc] at a3; exact a3, a4, ?_, (((XFq.refl).pt.fld (by omega)).fld (by omega)).trans a6⟩
    · have h15 : I (x + 62) 15 = nI (k + W.length + 1) := by rw [hS.1]; simp
      unfold f_X12_whole_0
      rw [h15, if_neg (show ¬ nI (k + W.length + 1) ≤ 0 by rw [L0, nI_leI (by omega) (by omega)]; omega), L1, nI_pred1, l12_13 hM (by omega), obs, show I (x + 62 + 9) (k + W.length) = nI 33 by rw [← hl]; exact hS.top, if_pos (show nI 33 = 33 from rfl), show (-33 : Int32) = sI 0 from rfl, r_put hM hE (by omega), obs, obs, ptI_f (by omega), h15, nI_pred1, obs, u2_ne (by omega), ptI_f (by omega), h16, show d + (k + 1) = d + k + 1 by omega, nI_pred1]
      exact a1
    · rw [a5, u2_ne (by omega), u2_ne (by omega), ptI_f (by omega)]
def opL (a o : Bool) : List Nat := (if a = true then [38] else []) ++ (if o = true then [124] else [])
def oC (a : Bool) : List Nat := if a = true then [1] else []
theorem r_pop45 (hM : S12 (x + 62) K R) {r0 : Int32 → Im → Option Im} {x1 : Int32} {v : Nat} (hS : STq x (c :: W) I) (hE : EMq x fr C I) (hb : fr + C.length < 500) (hb2 : W.length ≤ 100) (hc : -(nI c) = sI v) : f_X12_settle_45 K R (x + 62) r0 x1 I = r0 x1 (ptI x fr C v (u2 I (x + 62) 15 (nI W.length))) := by
  have h15 : I (x + 62) 15 = nI (W.length + 1) := hS.1
  unfold f_X12_settle_45
  rw [h15, L1, nI_pred1, obs, u2_eq, l12_13 hM (by omega), obs, u2_row (by omega), show I (x + 62 + 9) W.length = nI c from hS.top, hc, r_put hM (hE.cg (u2_ne (by omega)) (u2_row (by omega))) hb, obs]
theorem pop45_st (hS : STq x (c :: W) I) (hE : EMq x fr C I) {v : Nat} : STq x W (ptI x fr C v (u2 I (x + 62) 15 (nI W.length))) ∧ EMq x fr (C ++ [v]) (ptI x fr C v (u2 I (x + 62) 15 (nI W.length))) ∧ XFq x ci fr I (ptI x fr C v (u2 I (x + 62) 15 (nI W.length))) ∧ ∀ k, k ≠ 14 → k ≠ 15 → ptI x fr C v (u2 I (x + 62) 15 (nI W.length)) (x + 62) k = I (x + 62) k :=
  ⟨hS.pop (by rw [ptI_f (by omega), u2_eq]) (by rw [ptI_row (by omega) (by omega), u2_row (by omega)]), ptI_em (hE.cg (u2_ne (by omega)) (u2_row (by omega))), (XFq.refl.fld (by omega)).pt, fun k h1 h2 => by rw [ptI_f h1, u2_ne h2]⟩
/-- nothing to settle -/
theorem settle_stop (hM : S12 (x + 62) K R) {x1 : Int32} (hS : STq x W I) (hl : W.length ≤ 100) (hW : ∀ c V, W = c :: V → c ≠ 38 ∧ (c = 124 → x1 = 38)) : f_X12_settle_0 K R (x + 62) (f + 1) x1 I = some I := by
  rw [f_X12_settle_0, hS.1]
  cases W with
  | nil => rw [if_pos (show nI ([] : List Nat).length ≤ 0 from Int32.le_refl _)]
  | cons c V =>
    obtain ⟨n1, n2⟩ := hW c V rfl
    have hc := hS.2.2 c (by simp)
    simp only [List.length_cons] at hl ⊢
    rw [if_neg (show ¬ nI (V.length + 1) ≤ 0 by rw [L0, nI_leI (by omega) (by omega)]; omega), L1, nI_pred1, l12_13 hM (by omega), obs, show I (x + 62 + 9) V.length = nI c from hS.top, if_neg (show ¬ nI c = 38 by rw [L38, nI_eq (by omega) (by omega)]; exact n1), obs]
    by_cases c4 : c = 124
    · rw [if_pos (show nI c = 124 by rw [c4]; rfl), if_pos (n2 c4)]
    · rw [if_neg (show ¬ nI c = 124 by rw [L124, nI_eq (by omega) (by omega)]; exact c4)]
theorem settle_pop (hM : S12 (x + 62) K R) {x1 : Int32} {v : Nat} (hS : STq x (c :: W) I) (hE : EMq x fr C I) (hb : fr + C.length < 500) (hb2 : W.length ≤ 99) (hc : (c = 38 ∧ v = 1) ∨ (c = 124 ∧ v = 2 ∧ x1 ≠ 38)) : f_X12_settle_0 K R (x + 62) (f + 1) x1 I = f_X12_settle_0 K R (x + 62) f x1 (ptI x fr C v (u2 I (x + 62) 15 (nI W.length))) := by
  have h15 : I (x + 62) 15 = nI (W.length + 1) := hS.1
  have tp : I (x + 62 + 9) W.length = nI c := hS.top
  rw [f_X12_settle_0, h15, if_neg (show ¬ nI (W.length + 1) ≤ 0 by rw [L0, nI_leI (by omega) (by omega)]; omega), L1, nI_pred1, l12_13 hM (by omega), obs, tp]
  rcases hc with ⟨e1, e2⟩ | ⟨e1, e2, e3⟩
  · subst e1 e2
    rw [if_pos (show nI 38 = 38 from rfl), r_pop45 hM hS hE hb (by omega) (v := 1) (by decide)]
  · subst e1 e2
    rw [if_neg (show ¬ nI 124 = 38 by decide), obs, if_pos (show nI 124 = 124 from rfl), if_neg e3, r_pop45 hM hS hE hb (by omega) (v := 2) (by decide)]
/-- settled for an and -/
theorem r_set38 (hM : S12 (x + 62) K R) {a o : Bool} (hS : STq x (opL a o ++ W) I) (hE : EMq x fr C I) (hb : fr + C.length + (opL a o).length ≤ 500) (hb2 : (opL a o ++ W).length ≤ 100) (hW : ∀ c V, W = c :: V → c ≠ 38 ∧ c ≠ 124) : ∃ I1, f_X12_settle K R (x + 62) 38 I = some I1 ∧ STq x (opL false o ++ W) I1 ∧ EMq x fr (C ++ oC a) I1 ∧ XFq x ci fr I I1 ∧ ∀ k, k ≠ 14 → k ≠ 15 → I1 (x + 62) k = I (x + 62) k := by
  obtain ⟨f, hf⟩ : ∃ f, FU = f + 1 + 1 := ⟨FU - 2, by have := FU_lt (n := 5) (by omega); omega⟩
  have stop : ∀ g J, STq x (opL false o ++ W) J → (opL false o ++ W).length ≤ 100 → f_X12_settle_0 K R (x + 62) (g + 1) 38 J = some J := fun g J h1 h2 => settle_stop hM h1 h2 (fun c V e => by
    cases o with
    | true =>
      have : 124 :: W = c :: V := e
      obtain ⟨e1, -⟩ := List.cons.inj this
      exact ⟨by omega, fun _ => rfl⟩
    | false =>
      have h := hW c V e
      exact ⟨h.1, fun q => absurd q h.2⟩)
  unfold f_X12_settle
  rw [hf]
  cases a with
  | false => exact ⟨I, stop _ I hS hb2, hS, by simpa [oC] using hE, XFq.refl, fun _ _ _ => rfl⟩
  | true =>
    have hS : STq x (38 :: (opL false o ++ W)) I := hS
    have hl : (38 :: (opL false o ++ W)).length = (opL true o ++ W).length := rfl
    simp only [List.length_cons] at hl
    have hl2 : (opL true o).length ≥ 1 := by cases o <;> decide
    obtain ⟨s1, s2, s3, s4⟩ := pop45_st (ci := ci) hS hE (v := 1)
    exact ⟨_, by rw [settle_pop hM hS hE (by omega) (by omega) (Or.inl ⟨rfl, rfl⟩)]; exact stop f _ s1 (by omega), s1, s2, s3, s4⟩
/-- settled for an or, or at the end -/
theorem r_set124 (hM : S12 (x + 62) K R) {a o : Bool} (hS : STq x (opL a o ++ W) I) (hE : EMq x fr C I) (hb : fr + C.length + (opL a o).length ≤ 500) (hb2 : (opL a o ++ W).length ≤ 100) (hW : ∀ c V, W = c :: V → c ≠ 38 ∧ c ≠ 124) : ∃ I1, f_X12_settle K R (x + 62) 124 I = some I1 ∧ STq x W I1 ∧ EMq x fr (C ++ oC a ++ qOr o) I1 ∧ XFq x ci fr I I1 ∧ ∀ k, k ≠ 14 → k ≠ 15 → I1 (x + 62) k = I (x + 62) k := by
  obtain ⟨f, hf⟩ : ∃ f, FU = f + 1 + 1 + 1 := ⟨FU - 3, by have := FU_lt (n := 5) (by omega); omega⟩
  have stop : ∀ g J, STq x W J → W.length ≤ 100 → f_X12_settle_0 K R (x + 62) (g + 1) 124 J = some J := fun g J h1 h2 => settle_stop hM h1 h2 (fun c V e => by
    have h := hW c V e
    exact ⟨h.1, fun q => absurd q h.2⟩)
  have hl0 : (opL a o ++ W).length = (opL a o).length + W.length := by simp
  have second : ∀ g J D, STq x (opL false o ++ W) J → EMq x fr D J → fr + D.length + (opL false o).length ≤ 500 → (opL false o ++ W).length ≤ 100 → ∃ I1, f_X12_settle_0 K R (x + 62) (g + 1 + 1) 124 J = some I1 ∧ STq x W I1 ∧ EMq x fr (D ++ qOr o) I1 ∧ XFq x ci fr J I1 ∧ ∀ k, k ≠ 14 → k ≠ 15 → I1 (x + 62) k = J (x + 62) k := by
    intro g J D h1 h2 h3 h4
    cases o with
    | false => exact ⟨J, stop _ J h1 h4, h1, by simpa [qOr] using h2, XFq.refl, fun _ _ _ => rfl⟩
    | true =>
      have h1 : STq x (124 :: W) J := h1
      have h3 : fr + D.length + 1 ≤ 500 := h3
      have h4 : W.length + 1 ≤ 100 := h4
      obtain ⟨s1, s2, s3, s4⟩ := pop45_st (ci := ci) h1 h2 (v := 2)
      exact ⟨_, by rw [settle_pop hM h1 h2 (by omega) (by omega) (Or.inr ⟨rfl, rfl, by decide⟩)]; exact stop g _ s1 (by omega), s1, s2, s3, s4⟩
  unfold f_X12_settle
  rw [hf]
  cases a with
  | false =>
    obtain ⟨I1, a1, a2, a3, a4, a5⟩ := second (f + 1) I C hS hE hb hb2
    exact ⟨I1, a1, a2, by simpa [oC] using a3, a4, a5⟩
  | true =>
    have hS : STq x (38 :: (opL false o ++ W)) I := hS
    have l1 : (opL true o).length = (opL false o).length + 1 := by cases o <;> rfl
    have l2 : (opL false o ++ W).length = (opL false o).length + W.length := by simp
    obtain ⟨s1, s2, s3, s4⟩ := pop45_st (ci := ci) hS hE (v := 1)
    obtain ⟨I1, a1, a2, a3, a4, a5⟩ := second f _ (C ++ [1]) s1 s2 (by simp; omega) (by omega)
    exact ⟨I1, by rw [settle_pop hM hS hE (by omega) (by omega) (Or.inl ⟨rfl, rfl⟩)]; exact a1, a2, a3, s3.trans a4, fun k k1 k2 => (a5 k k1 k2).trans (s4 k k1 k2)⟩
end
