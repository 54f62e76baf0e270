/-! the reference reads the whole text -/
def GFq (x i : Nat) (I I1 : Im) : Prop := (∀ z, z ≠ x + 62 → (z < x + 64 ∨ x + 71 < z) → I1 z = I z) ∧ (∀ k, k ≠ 3 → k ≠ 4 → k ≠ 14 → k ≠ 15 → k ≠ 16 → I1 (x + 62) k = I (x + 62) k) ∧ (∀ j, j ≠ i → I1 (x + 64) j = I (x + 64) j) ∧ (∀ z, x + 65 ≤ z → z ≤ x + 69 → ∀ j, j < 12 * i → I1 z j = I z j) ∧ ∀ j, j < 100 * i → I1 (x + 70) j = I (x + 70) j
/-- clause m lies in the reference's tables; its codes end before e -/
def DTq (x i : Nat) (tx : Nat → Int32) (len e m : Nat) (I : Im) : Prop := I (x + 65) (12 * i + m) = nI (qw tx len m) ∧ I (x + 66) (12 * i + m) = nI (qc tx len m) ∧ (qw tx len m = 0 → I (x + 67) (12 * i + m) = nI (qd tx len m)) ∧ (qw tx len m = 2 → ∃ fr, I (x + 68) (12 * i + m) = nI fr ∧ I (x + 69) (12 * i + m) = nI (fr + (qcs tx len m).length) ∧ fr + (qcs tx len m).length ≤ e ∧ (qcs tx len m).length ≤ 100 ∧ ∀ j c, (qcs tx len m)[j]? = some c → I (x + 70) (fr + j) = sI c)
section
variable {x p p' len d d' f i k n ci fr c e : Nat} {tx : Nat → Int32} {K : Sh} {I I0 I1 I2 : Im} {R : Rf} {C W : List Nat}
theorem GFq.refl : GFq x i I I := ⟨fun _ _ _ => rfl, fun _ _ _ _ _ _ => rfl, fun _ _ => rfl, fun _ _ _ _ _ => rfl, fun _ _ => rfl⟩
theorem GFq.trans (h : GFq x i I I1) (h2 : GFq x i I1 I2) : GFq x i I I2 := ⟨fun z a b => (h2.1 z a b).trans (h.1 z a b), fun k a b c d e => (h2.2.1 k a b c d e).trans (h.2.1 k a b c d e), fun j a => (h2.2.2.1 j a).trans (h.2.2.1 j a), fun z a b j e => (h2.2.2.2.1 z a b j e).trans (h.2.2.2.1 z a b j e), fun j a => (h2.2.2.2.2 j a).trans (h.2.2.2.2 j a)⟩
theorem GFq.zf (h : ZFq x ci fr I I1) (h1 : 12 * i ≤ ci) (h2 : 100 * i ≤ fr) : GFq x i I I1 := ⟨fun z a b => h.1 z a (by omega), h.2.1, fun j _ => by rw [h.1 _ (by omega) (by omega)], fun z a b j e => h.2.2.1 z a b j (by omega), fun j a => h.2.2.2 j (by omega)⟩
theorem DTq.zf {m : Nat} (h : DTq x i tx len e m I) (hZ : ZFq x ci e I I1) (hm : 12 * i + m ≠ ci) {e' : Nat} (he : e ≤ e') : DTq x i tx len e' m I1 := by
  obtain ⟨h1, h2, h3, h4⟩ := h
  refine ⟨by rw [hZ.2.2.1 _ (by omega) (by omega) _ hm]; exact h1, by rw [hZ.2.2.1 _ (by omega) (by omega) _ hm]; exact h2, fun hw => by rw [hZ.2.2.1 _ (by omega) (by omega) _ hm]; exact h3 hw, fun hw => ?_⟩
  obtain ⟨fr, a1, a2, a3, a4, a5⟩ := h4 hw
  refine ⟨fr, by rw [hZ.2.2.1 _ (by omega) (by omega) _ hm]; exact a1, by rw [hZ.2.2.1 _ (by omega) (by omega) _ hm]; exact a2, by omega, a4, fun j c hj => ?_⟩
  have lt := (List.getElem?_eq_some_iff.mp hj).1
  rw [hZ.2.2.2 _ (by omega)]
  exact a5 j c hj
/-- n clauses read, at p, codes end at e -/
def MIq (x i : Nat) (tx : Nat → Int32) (len n p e : Nat) (K : Sh) (I0 I : Im) (R : Rf) : Prop := RMq x tx len p K I R ∧ GFq x i I0 I ∧ I (x + 62) 14 = nI e ∧ 100 * i ≤ e ∧ e ≤ 100 * i + p ∧ ∀ m, m < n → DTq x i tx len e m I
theorem m_next_clause (h : MIq x i tx len n (qPs tx len n) e K I0 I R) (hi : i ≤ 4) (hn : n < 12) : (∃ t, qCls tx len n = some t ∧ ∃ I1 e', f_X12_takesClause K R (x + 62) (nI (12 * i + n)) I = some (1, I1) ∧ MIq x i tx len (n + 1) (qEn tx len n) e' K I0 I1 R) ∨ (qCls tx len n = none ∧ ∃ I1, f_X12_takesClause K R (x + 62) (nI (12 * i + n)) I = some (0, I1) ∧ I1 (x + 62) 3 = nI (qEn tx len n) ∧ GFq x i I0 I1) := by
  obtain ⟨hR, hG, h14, he1, he2, hD⟩ := h
  obtain ⟨g1, g2⟩ := m_clause (i := i) hR (show 12 * i + n < 60 by omega) hi h14 he2
  have hlen := hR.2.1
  have eb := qEn_b hR.2.2.2.2.1
  cases hc : qCls tx len n with
  | none =>
    obtain ⟨I1, a1, a2, a3⟩ := g2 hc
    exact Or.inr ⟨rfl, I1, a1, a2, hG.trans (GFq.zf a3 (by omega) he1)⟩
  | some t =>
    obtain ⟨q1, q2, q3, q4, q5⟩ := qCls_get hc
    obtain ⟨I1, a1, a2, a3, a4, a5, a6, fr', a7, a8, a9, a10⟩ := g1 t hc
    refine Or.inl ⟨t, rfl, I1, fr', a1, hR.zf a3 a2 eb.1, hG.trans (GFq.zf a3 (by omega) he1), a7, by omega, a9, fun m hm => ?_⟩
    by_cases hmn : m = n
    · subst hmn
      unfold DTq
      rw [q1, q2, q3, q4]
      refine ⟨a4, a5, a6, fun hw => ?_⟩
      obtain ⟨b1, b2, b3, b4⟩ := a10 hw
      have : qEn tx len m ≤ len := eb.1
      have b9 : fr' ≤ 100 * i + qEn tx len m := a9
      exact ⟨e, b2, by rw [← b1]; exact b3, by omega, by omega, b4⟩
    · exact (hD m (by omega)).zf a3 (by omega) a8
theorem m_15 (hi : i ≤ 4) : ∀ (g n f e : Nat) (I : Im), g + n = 12 → 1 ≤ g → g < f → MIq x i tx len n (qPs tx len n) e K I0 I R → (∀ N, (qOut tx len g n).1 = some N → 1 ≤ N ∧ N ≤ 12 ∧ (∀ m, n ≤ m → m < N → ∃ t, qCls tx len m = some t ∧ qPs tx len m ≤ len) ∧ ∃ I1 e', f_X12_goesText_15 K R (x + 62) f (nI i) (nI n) I = some (1, I1) ∧ MIq x i tx len N len e' K I0 I1 R ∧ I1 (x + 64) i = nI N) ∧ ((qOut tx len g n).1 = none → ∃ I1, f_X12_goesText_15 K R (x + 62) f (nI i) (nI n) I = some (0, I1) ∧ I1 (x + 62) 3 = nI (qOut tx len g n).2 ∧ GFq x i I0 I1) := by
  intro g
  induction g with
  | zero => intro n f e I _ h; omega
  | succ g ih =>
    intro n f e I e1 e2 e3 h
    obtain ⟨f, rfl⟩ : ∃ f', f = f' + 1 := ⟨f - 1, by omega⟩
    have hM := h.1.1
    have hlen := h.1.2.1
    have hpl := h.1.2.2.2.2.1
    unfold qOut
    have st : f_X12_goesText_15 K R (x + 62) (f + 1) (nI i) (nI n) I = Option.bind (f_X12_takesClause K R (x + 62) (nI (12 * i + n)) I) fun q1 =>
        if q1.1 = 0 then
          some (0, q1.2)
        else
          Option.bind (stI K q1.2 (R (x + 62) 6) (nI i) (nI (n + 1))) fun I3 =>
          if (I3 (x + 62) 3) = (I3 (x + 62) 2) then
            some (1, I3)
          else
            if nI (n + 1) = 12 then
              some (0, I3)
            else
              Option.bind (f_X12_takes K R (x + 62) 59 I3) fun q4 =>
              if q4.1 = 0 then
                some (0, q4.2)
              else
                f_X12_goesText_15 K R (x + 62) f (nI i) (nI (n + 1)) q4.2 := by
      rw [f_X12_goesText_15, L12, pk_mul, nI_add, show (1 : Int32) = nI 1 from rfl, nI_add]
    rw [st]
    rcases m_next_clause h hi (by omega) with ⟨t, ht, I1, e', a1, a2⟩ | ⟨ht, I1, a1, a2, a3⟩
    · rw [ht, a1, obs, if_neg (show ¬ (1 : Int32) = 0 by decide), s12_6 hM (by omega), obs]
      dsimp only
      obtain ⟨b1, b2, b3, b4, b5, b6⟩ := a2
      have h3 : u2 I1 (x + 62 + 2) i (nI (n + 1)) (x + 62) 3 = nI (qEn tx len n) := by rw [u2_row (by omega)]; exact b1.2.2.2.1
      have h2 : u2 I1 (x + 62 + 2) i (nI (n + 1)) (x + 62) 2 = nI len := by rw [u2_row (by omega)]; exact b1.2.2.1
      have G2 : GFq x i I0 (u2 I1 (x + 64) i (nI (n + 1))) := ⟨fun z a b => by rw [u2_row (by omega)]; exact b2.1 z a b, fun k a b c d e => by rw [u2_row (by omega)]; exact b2.2.1 k a b c d e, fun j a => by rw [u2_ne a]; exact b2.2.2.1 j a, fun z a b j e => by rw [u2_row (by omega)]; exact b2.2.2.2.1 z a b j e, fun j a => by rw [u2_row (by omega)]; exact b2.2.2.2.2 j a⟩
      have R2 : RMq x tx len (qEn tx len n) K (u2 I1 (x + 64) i (nI (n + 1))) R := ⟨b1.1, b1.2.1, h2, h3, b1.2.2.2.2.1, fun j hj => by rw [u2_row (by omega)]; exact b1.2.2.2.2.2 j hj⟩
      have D2 : ∀ m, m < n + 1 → DTq x i tx len e' m (u2 I1 (x + 64) i (nI (n + 1))) := fun m hm => by
        have := b6 m hm
        unfold DTq at this ⊢
        rw [u2_row (by omega), u2_row (by omega), u2_row (by omega), u2_row (by omega), u2_row (by omega), u2_row (by omega)]
        exact this
      have M2 : MIq x i tx len (n + 1) (qEn tx len n) e' K I0 (u2 I1 (x + 64) i (nI (n + 1))) R := ⟨R2, G2, by rw [u2_row (by omega)]; exact b3, b4, b5, D2⟩
      rw [h3, h2]
      by_cases cE : qEn tx len n = len
      · rw [if_pos cE, if_pos (by rw [cE])]
        refine ⟨fun N z => ?_, fun z => (by cases z)⟩
        cases z
        refine ⟨by omega, by omega, fun m h1 h2 => ?_, _, e', rfl, by rw [cE] at M2; exact M2, u2_eq _ _ _ _⟩
        have : m = n := by omega
        subst this
        exact ⟨t, ht, hpl⟩
      have enl := b1.2.2.2.2.1
      rw [if_neg cE, if_neg (show ¬ nI (qEn tx len n) = nI len by rw [nI_eq (by omega) (by omega)]; exact cE)]
      by_cases c12 : n + 1 = 12
      · rw [if_pos c12, if_pos (show nI (n + 1) = 12 by rw [c12]; rfl)]
        exact ⟨fun N z => (by cases z), fun _ => ⟨_, rfl, h3, G2⟩⟩
      rw [if_neg c12, if_neg (show ¬ nI (n + 1) = 12 by rw [L12, nI_eq (by omega) (by omega)]; exact c12)]
      rcases r_takes R2 (c := 59) (by decide) with ⟨q1, q2, q3⟩ | ⟨q1, q2⟩
      · have q2' : f_X12_takes K R (x + 62) 59 (u2 I1 (x + 62 + 2) i (nI (n + 1))) = some (nI 1, u2 (u2 I1 (x + 64) i (nI (n + 1))) (x + 62) 3 (nI (qEn tx len n + 1))) := q2
        rw [if_pos q1, q2', obs, if_neg (show ¬ nI 1 = 0 by decide)]
        have M3 : MIq x i tx len (n + 1) (qPs tx len (n + 1)) e' K I0 (u2 (u2 I1 (x + 64) i (nI (n + 1))) (x + 62) 3 (nI (qEn tx len n + 1))) R := by
          refine ⟨q3, G2.trans (GFq.zf (ci := 12 * i) (fr := 100 * i) (ZFq.nm NMq.refl.p3) (Nat.le_refl _) (Nat.le_refl _)), by rw [u2_ne (by omega), u2_row (by omega)]; exact b3, b4, ?_, fun m hm => ?_⟩
          · show e' ≤ 100 * i + (qEn tx len n + 1)
            omega
          · have := D2 m hm
            unfold DTq at this ⊢
            rw [u2_row (show x + 65 ≠ x + 62 by omega), u2_row (show x + 66 ≠ x + 62 by omega), u2_row (show x + 67 ≠ x + 62 by omega), u2_row (show x + 68 ≠ x + 62 by omega), u2_row (show x + 69 ≠ x + 62 by omega), u2_row (show x + 70 ≠ x + 62 by omega)]
            exact this
        obtain ⟨k1, k2⟩ := ih (n + 1) f e' _ (by omega) (by omega) (by omega) M3
        refine ⟨fun N z => ?_, k2⟩
        obtain ⟨l1, l2, l3, l4⟩ := k1 N z
        refine ⟨l1, l2, fun m h1 h2 => ?_, l4⟩
        by_cases hmn : m = n
        · subst hmn; exact ⟨t, ht, hpl⟩
        · exact l3 m (by omega) h2
      · have q2' : f_X12_takes K R (x + 62) 59 (u2 I1 (x + 62 + 2) i (nI (n + 1))) = some (nI 0, u2 I1 (x + 64) i (nI (n + 1))) := q2
        rw [if_neg q1, q2', obs, if_pos (show nI 0 = 0 from rfl)]
        exact ⟨fun N z => (by cases z), fun _ => ⟨_, rfl, h3, G2⟩⟩
    · rw [ht, a1, obs, if_pos rfl]
      exact ⟨fun N z => (by cases z), fun _ => ⟨I1, rfl, a2, a3⟩⟩
theorem m_text (hM : S12 (x + 62) K R) (hl : len ≤ 100) (h2 : I0 (x + 62) 2 = nI len) (htx : ∀ j, j < len → I0 (x + 63) j = tx j) (hi : i ≤ 4) : (∀ N, (qOut tx len 12 0).1 = some N → 1 ≤ N ∧ N ≤ 12 ∧ (∀ m, m < N → ∃ t, qCls tx len m = some t ∧ qPs tx len m ≤ len) ∧ ∃ I1 e', f_X12_goesText K R (x + 62) (nI i) I0 = some (1, I1) ∧ MIq x i tx len N len e' K I0 I1 R ∧ I1 (x + 64) i = nI N) ∧ ((qOut tx len 12 0).1 = none → ∃ I1, f_X12_goesText K R (x + 62) (nI i) I0 = some (0, I1) ∧ I1 (x + 62) 3 = nI (qOut tx len 12 0).2 ∧ GFq x i I0 I1) := by
  have hI : MIq x i tx len 0 (qPs tx len 0) (100 * i) K I0 (u2 (u2 I0 (x + 62) 3 0) (x + 62) 14 (nI (100 * i))) R := by
    refine ⟨⟨hM, hl, by rw [u2_ne (by omega), u2_ne (by omega)]; exact h2, by rw [u2_ne (by omega), u2_eq]; rfl, Nat.zero_le _, fun j hj => by rw [u2_row (by omega), u2_row (by omega)]; exact htx j hj⟩, ⟨fun z a b => by rw [u2_row a, u2_row a], fun k a b c d e => by rw [u2_ne c, u2_ne a], fun j _ => by rw [u2_row (by omega), u2_row (by omega)], fun z a b j _ => by rw [u2_row (by omega), u2_row (by omega)], fun j _ => by rw [u2_row (by omega), u2_row (by omega)]⟩, u2_eq _ _ _ _, Nat.le_refl _, by omega, fun m hm => by omega⟩
  obtain ⟨g1, g2⟩ := m_15 hi 12 0 FU (100 * i) _ (by omega) (by omega) (FU_lt (by omega)) hI
  have e : f_X12_goesText K R (x + 62) (nI i) I0 = f_X12_goesText_15 K R (x + 62) FU (nI i) (nI 0) (u2 (u2 I0 (x + 62) 3 0) (x + 62) 14 (nI (100 * i))) := by
    unfold f_X12_goesText
    rw [obs, L100, pk_mul, obs]
    rfl
  rw [e]
  exact ⟨fun N z => by
    obtain ⟨l1, l2, l3, l4⟩ := g1 N z
    exact ⟨l1, l2, fun m hm => l3 m (Nat.zero_le _) hm, l4⟩, g2⟩
end
