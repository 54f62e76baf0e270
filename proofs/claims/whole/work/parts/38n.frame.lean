/-! FRAMES: all but the rows x + j, j in E, and the cells (x + j, k), (j, k) in P, is as it was -/
def AF (x : Nat) (E : List Nat) (P : List (Nat × Nat)) (I I' : Im) : Prop := (∀ z, (∀ j ∈ E, z ≠ x + j) → (∀ p ∈ P, z ≠ x + p.1) → I' z = I z) ∧ ∀ j k, j ∉ E → (j, k) ∉ P → I' (x + j) k = I (x + j) k
section
variable {x : Nat} {E E' : List Nat} {P P' : List (Nat × Nat)} {I I' I'' : Im}
theorem AF.refl : AF x E P I I := ⟨fun _ _ _ => rfl, fun _ _ _ _ => rfl⟩
theorem AF.trans (h : AF x E P I I') (h2 : AF x E P I' I'') : AF x E P I I'' := ⟨fun z a b => (h2.1 z a b).trans (h.1 z a b), fun j k a b => (h2.2 j k a b).trans (h.2 j k a b)⟩
theorem AF.mono (h : AF x E P I I') (hE : ∀ j ∈ E, j ∈ E') (hP : ∀ p ∈ P, p.1 ∈ E' ∨ p ∈ P') : AF x E' P' I I' := by
  refine ⟨fun z a b => h.1 z (fun j hj => a j (hE j hj)) (fun p hp => (hP p hp).elim (fun q => a _ q) (fun q => b p q)), fun j k a b => h.2 j k (fun q => a (hE j q)) (fun q => ?_)⟩
  exact (hP _ q).elim a b
theorem AF.st (h : AF x E P I I') {j k : Nat} {v : Int32} (hj : j ∈ E) : AF x E P I (u2 I' (x + j) k v) := by
  refine ⟨fun z a b => ?_, fun i m a b => ?_⟩
  · rw [u2_row (a j hj)]
    exact h.1 z a b
  · rw [u2_row (fun e => a (by rw [show i = j by omega]; exact hj))]
    exact h.2 i m a b
theorem AF.pf (h : AF x E P I I') {j k : Nat} {v : Int32} (hj : (j, k) ∈ P) : AF x E P I (u2 I' (x + j) k v) := by
  refine ⟨fun z a b => ?_, fun i m a b => ?_⟩
  · rw [u2_row (b _ hj)]
    exact h.1 z a b
  · by_cases c : i = j
    · subst c
      rw [u2_ne (fun e => b (by rw [e]; exact hj))]
      exact h.2 i m a b
    · rw [u2_row (by omega)]
      exact h.2 i m a b
theorem AF.pf0 (h : AF x E P I I') {k : Nat} {v : Int32} (hj : (0, k) ∈ P) : AF x E P I (u2 I' x k v) := by
  have := h.pf (v := v) hj
  rw [Nat.add_zero] at this
  exact this
theorem AF.r (h : AF x E P I I') {j : Nat} (hE : j ∉ E) (hP : ∀ p ∈ P, p.1 ≠ j) : I' (x + j) = I (x + j) := h.1 _ (fun i hi e => hE (by rw [show j = i by omega]; exact hi)) (fun p hp e => hP p hp (by omega))
theorem AF.r0 (h : AF x E P I I') (hE : 0 ∉ E) (hP : ∀ p ∈ P, p.1 ≠ 0) : I' x = I x := by have := h.r hE hP; exact this
theorem AF.f (h : AF x E P I I') {j k : Nat} (hE : j ∉ E) (hP : (j, k) ∉ P) : I' (x + j) k = I (x + j) k := h.2 j k hE hP
theorem AF.f0 (h : AF x E P I I') {k : Nat} (hE : 0 ∉ E) (hP : (0, k) ∉ P) : I' x k = I x k := by have := h.2 0 k hE hP; exact this
theorem AF.d (h : AF x E P I I') (hE : ∀ j ∈ E, j < 110) (hP : ∀ p ∈ P, p.1 < 110) {z : Nat} (hz : x + 110 ≤ z) : I' z = I z := h.1 z (fun j hj => by have := hE j hj; omega) (fun p hp => by have := hP p hp; omega)
theorem AF.b (h : AF x E P I I') {z : Nat} (hz : z < x) : I' z = I z := h.1 z (fun j hj => by omega) (fun p hp => by omega)
end
/-- the cells for tries, of both -/
def scE : List Nat := [29, 30, 31, 32, 33, 34, 35, 36, 37, 38, 39, 40, 41, 42, 43, 44, 45, 46, 47, 48, 49, 72, 76, 77, 78, 79, 80, 89, 90, 91, 92, 93, 94, 95, 97, 98, 99]
def scP : List (Nat × Nat) := [(62, 21), (62, 45), (62, 46), (62, 47), (62, 48), (62, 49), (62, 50), (62, 56), (62, 57)]
section
variable {x i q N n n' M M' nr nr' nc nc' NW NW' : Nat} {K K' : Sh} {I I' : Im} {J J' : Jm} {R R' : Rf} {Z : Nat → Nat} {w c d le la : Nat → Nat} {cs : Nat → List Nat}
theorem AF.cls (h : ∀ z, z < x + 29 ∨ x + 50 ≤ z → I' z = I z) : AF x scE scP I I' := by
  refine ⟨fun z a _ => ?_, fun j k a _ => ?_⟩
  · by_cases c : z < x + 29 ∨ x + 50 ≤ z
    · exact h z c
    · have : ∀ m, m < 21 → 29 + m ∈ scE := by decide
      exact absurd (show z = x + (29 + (z - x - 29)) by omega) (a _ (this (z - x - 29) (by omega)))
  · by_cases c : j < 29 ∨ 50 ≤ j
    · rw [h _ (by omega)]
    · have : ∀ m, m < 21 → 29 + m ∈ scE := by decide
      exact absurd (by rw [show j = 29 + (j - 29) by omega]; exact this (j - 29) (by omega)) a
theorem AF.fm {E : List Nat} {P : List (Nat × Nat)} {S F : List Nat} (h : FM (x + 62) S F I I') (hS : ∀ i ∈ S, 62 + i ∈ E) (hF : ∀ k ∈ F, (62, k) ∈ P) : AF x E P I I' := by
  refine ⟨fun z a b => funext fun k => h z k (fun i hi e => a _ (hS i hi) (by omega)) (fun e hk => ?_), fun j k a b => h _ k (fun i hi e => a (by rw [show j = 62 + i by omega]; exact hS i hi)) (fun e hk => b (by rw [show j = 62 by omega]; exact hF k hk))⟩
  exact b _ (hF k hk) (by omega)
theorem QF.af (h : AF x scE scP I I') : QF x I I' := by
  refine ⟨fun z a b c => h.1 z (fun j hj e => ?_) (fun p hp e => ?_), fun k hk => h.2 62 k (by decide) (fun q => hk ?_)⟩
  · have h1 : ∀ j ∈ scE, 29 ≤ j ∧ j < 50 ∨ ∃ i ∈ mS, j = 62 + i := by decide
    rcases h1 j hj with h2 | ⟨i, hi, h2⟩
    · omega
    · exact b i hi (by omega)
  · have h1 : ∀ p ∈ scP, p.1 = 62 := by decide
    have := h1 p hp
    omega
  · have h1 : ∀ p ∈ scP, p.2 ∈ mF := by decide
    exact h1 _ q
theorem WasteR.cg (h : WasteR x i q N w c d cs K I R) (h1 : I' (x + 64) = I (x + 64)) (h2 : I' (x + 65) = I (x + 65)) (h3 : I' (x + 66) = I (x + 66)) (h4 : I' (x + 67) = I (x + 67)) (h5 : I' (x + 68) = I (x + 68)) (h6 : I' (x + 69) = I (x + 69)) (h7 : I' (x + 70) = I (x + 70)) (hd : ∀ z, z = q ∨ z = q + 1 ∨ z = q + 2 ∨ z = q + 3 ∨ R q 8 = some z → I' z = I z) (hR : R' q = R q) : WasteR x i q N w c d cs K I' R' := by
  obtain ⟨g1, g2, g3, g4, g5, g6, g7, g8⟩ := h
  refine ⟨g1.congr h1 h2 h3 h4, ?_, g3, (g4.congrR hR).congr (fun z hz => ?_), fun z hz => g5 z (by rw [← hR]; exact hz), by rw [hd q (by omega)]; exact g6, g7, fun k hk => by rw [hd (q + 1) (by omega), hd (q + 2) (by omega)]; exact g8 k hk⟩
  · have e6 : I' (x + 62 + 6) = I (x + 62 + 6) := h5
    have e7 : I' (x + 62 + 7) = I (x + 62 + 7) := h6
    have e8 : I' (x + 62 + 8) = I (x + 62 + 8) := h7
    unfold MC
    rw [e6, e7, e8]
    exact g2
  · rcases hz with rfl | rfl | hz
    · exact hd _ (by omega)
    · exact hd _ (by omega)
    · rw [hR] at hz
      exact hd z (Or.inr (Or.inr (Or.inr (Or.inr hz))))
/-- the tables of the reference -/
def TabE (x : Nat) (I I' : Im) : Prop := I' (x + 64) = I (x + 64) ∧ I' (x + 65) = I (x + 65) ∧ I' (x + 66) = I (x + 66) ∧ I' (x + 67) = I (x + 67) ∧ I' (x + 68) = I (x + 68) ∧ I' (x + 69) = I (x + 69) ∧ I' (x + 70) = I (x + 70)
theorem NowR.cg {s aL aT : Nat} (h : NowR x s i q n M N aL aT w c d cs le la K I R) (ht : TabE x I I') (hd : ∀ z, z = q ∨ z = q + 1 ∨ z = q + 2 ∨ z = q + 3 ∨ R q 8 = some z → I' z = I z) (hR : R' q = R q) (hRs : R' s 0 = R s 0) (e2 : I' (s + 2) = I (s + 2)) (e3 : I' (s + 3) = I (s + 3)) (e4 : I' (s + 4) = I (s + 4)) (e5 : I' (s + 5) = I (s + 5)) (eL : I' aL = I aL) (eT : I' aT = I aT) (hn : n ≤ n') (hM : M ≤ M') : NowR x s i q n' M' N aL aT w c d cs le la K I' R' := by
  obtain ⟨h1, h2, h3, h4, h5⟩ := h
  obtain ⟨t1, t2, t3, t4, t5, t6, t7⟩ := ht
  refine ⟨by rw [hRs]; exact h1, h2.cg t1 t2 t3 t4 t5 t6 t7 hd hR, by omega, fun z hz => by rw [hR] at hz; have := h4 z hz; omega, fun k hk => ?_⟩
  rw [e2, e3, e4, e5, eL, eT]
  obtain ⟨z1, z2, z3, z4, z5, z6, z7, z8⟩ := h5 k hk
  exact ⟨z1, z2, z3, z4, z5, z6, z7, by omega⟩
theorem SceneR.cg {s aL aT aO aS aH : Nat} {vT vS vH : Int32} (h : SceneR x s nc NW n M vT vS vH aL aT aO aS aH K I R) (ht : TabE x I I') (hd : ∀ q, R s 0 = some q → (∀ z, z = q ∨ z = q + 1 ∨ z = q + 2 ∨ z = q + 3 ∨ R q 8 = some z → I' z = I z) ∧ R' q = R q) (hRs : R' s 0 = R s 0) (e4' : I' s 4 = I s 4) (e6' : I' s 6 = I s 6) (e2 : I' (s + 2) = I (s + 2)) (e3 : I' (s + 3) = I (s + 3)) (e4 : I' (s + 4) = I (s + 4)) (e5 : I' (s + 5) = I (s + 5)) (e6 : I' (s + 6) = I (s + 6)) (e7 : I' (s + 7) = I (s + 7)) (e8 : I' (s + 8) = I (s + 8)) (eL : I' aL = I aL) (eT : I' aT = I aT) (eO : I' aO = I aO) (eS : I' aS = I aS) (eH : I' aH = I aH) (hn : n ≤ n') (hM : M ≤ M') (hnc : nc ≤ nc') (hNW : NW ≤ NW') : SceneR x s nc' NW' n' M' vT vS vH aL aT aO aS aH K I' R' := by
  obtain ⟨h1, h2, ⟨ns, g1, g2, g3, g4⟩, h4⟩ := h
  unfold SceneR
  rw [e4', e6', e6, e7, e8, eO, eS, eH]
  refine ⟨?_, h2, ⟨ns, g1, g2, g3, fun k hk => ?_⟩, h4⟩
  · rcases h1 with ⟨a, b⟩ | ⟨i, q, N, w, c, d, cs, le, la, a1, a2, a3⟩
    · exact Or.inl ⟨a, by rw [hRs]; exact b⟩
    · obtain ⟨d1, d2⟩ := hd q a3.1
      exact Or.inr ⟨i, q, N, w, c, d, cs, le, la, a1, by omega, a3.cg ht d1 d2 hRs e2 e3 e4 e5 eL eT hn hM⟩
  · obtain ⟨c, y1, y2⟩ := g4 k hk
    exact ⟨c, by omega, y2⟩
theorem RuleR.cg {r a kd v rn : Nat} {rw_ : Nat → Nat} (h : RuleR x r n a kd v rn rw_ K I R) (h6 : R' (x + 6) r = R (x + 6) r) (ha : R' a = R a) (hK : K' a = K a ∧ K' (a + 1) = K (a + 1)) (ia : I' a = I a) (ia1 : I' (a + 1) = I (a + 1)) (e1 : I' (x + 81) r = I (x + 81) r) (e2 : I' (x + 82) r = I (x + 82) r) (e3 : I' (x + 83) r = I (x + 83) r) (e4 : ∀ k, k < 5 → I' (x + 84) (5 * r + k) = I (x + 84) (5 * r + k)) (hn : n ≤ n') : RuleR x r n' a kd v rn rw_ K' I' R' := by
  obtain ⟨r1, r2, r3, r4, r5, r6, r7, r8, r9, r10, r11⟩ := h
  refine ⟨by rw [h6]; exact r1, ?_, by omega, by rw [ia]; exact r4, by rw [ia]; exact r5, r6, r7, by rw [e1]; exact r8, by rw [e2]; exact r9, by rw [e3]; exact r10, fun k hk => by rw [e4 k (by omega)]; exact r11 k hk⟩
  unfold RuleC S5 at r2 ⊢
  rw [hK.1, hK.2, ha, ia, ia1]
  exact r2
theorem CarR.cg {k a b st r ra : Nat} (h : CarR x nr k n a b st r ra K I R) (h7 : R' (x + 7) k = R (x + 7) k) (h6 : ∀ r, r < nr → R' (x + 6) r = R (x + 6) r) (ha : R' a = R a) (hK : K' a = K a) (ia : I' a = I a) (e1 : I' (x + 85) k = I (x + 85) k) (e2 : I' (x + 86) k = I (x + 86) k) (e3 : I' (x + 87) k = I (x + 87) k) (hn : n ≤ n') (hnr : nr ≤ nr') : CarR x nr' k n' a b st r ra K' I' R' := by
  obtain ⟨c1, c2, c3, c4, c5, c6, c7, c8, c9, c10, c11, c12, c13, c14, c15⟩ := h
  exact ⟨by rw [h7]; exact c1, by rw [hK]; exact c2, c3, by omega, by rw [ia]; exact c5, c6, c7, by rw [ia]; exact c8, c9, by omega, by rw [ha]; exact c11, by rw [h6 r c10]; exact c12, by rw [e1]; exact c13, by rw [e2]; exact c14, by rw [e3]; exact c15⟩
/-- for a frame of rows that lie below the dynamic cells -/
theorem TabE.af {E : List Nat} {P : List (Nat × Nat)} (h : AF x E P I I') (hE : ∀ j, 64 ≤ j → j ≤ 70 → j ∉ E) (hP : ∀ p ∈ P, p.1 < 64 ∨ 70 < p.1) : TabE x I I' := by
  have : ∀ j, 64 ≤ j → j ≤ 70 → I' (x + j) = I (x + j) := fun j h1 h2 => h.r (hE j h1 h2) (fun p hp e => by have := hP p hp; omega)
  exact ⟨this _ (by omega) (by omega), this _ (by omega) (by omega), this _ (by omega) (by omega), this _ (by omega) (by omega), this _ (by omega) (by omega), this _ (by omega) (by omega), this _ (by omega) (by omega)⟩
theorem SceneR.wd {s aL aT aO aS aH : Nat} {vT vS vH : Int32} (h : SceneR x s nc NW n M vT vS vH aL aT aO aS aH K I R) (hI : ∀ z, x + 110 ≤ z → z < n → I' z = I z) (hR : ∀ z, x + 110 ≤ z → z < n → R' z = R z) : ∀ q, R s 0 = some q → (∀ z, z = q ∨ z = q + 1 ∨ z = q + 2 ∨ z = q + 3 ∨ R q 8 = some z → I' z = I z) ∧ R' q = R q := by
  intro q hq
  obtain ⟨h1, h2, h3, h4⟩ := h.wq hq
  refine ⟨fun z hz => ?_, hR q h1 (by omega)⟩
  rcases hz with rfl | rfl | rfl | rfl | hz
  · exact hI _ h1 (by omega)
  · exact hI _ (by omega) (by omega)
  · exact hI _ (by omega) (by omega)
  · exact hI _ (by omega) (by omega)
  · have := h4 z hz
    exact hI z this.2 this.1
end
