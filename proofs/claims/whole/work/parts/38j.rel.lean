/-! WHAT HOLDS BETWEEN THE CALLS: the class' object at x, the reference at x + 62, all else behind -/
def WasteR (x i q N : Nat) (w c d : Nat → Nat) (cs : Nat → List Nat) (K : Sh) (I : Im) (R : Rf) : Prop :=
  MW (x + 62) i N w c d I ∧ MC (x + 62) i N w cs I ∧ x + 110 ≤ q ∧ WV q K I R (wlN w N) (wyV w c N) (laV w c 3 10 N) (laV w c 5 0 N) (d1N w c cs N) ∧ (∀ z, R q 8 = some z → x + 110 ≤ z) ∧ I q 3 = nI (laV w c 4 1 N) ∧ laV w c 4 1 N ≤ 99 ∧ ∀ k, k < 5 → I (q + 1) k = nI (wlV w c N k) ∧ I (q + 2) k = nI (wlV w d N k)
def NowR (x s i q n M N : Nat) (aL aT : Nat) (w c d : Nat → Nat) (cs : Nat → List Nat) (le la : Nat → Nat) (K : Sh) (I : Im) (R : Rf) : Prop :=
  R s 0 = some q ∧ WasteR x i q N w c d cs K I R ∧ q + 3 < n ∧ (∀ z, R q 8 = some z → z < n) ∧ ∀ k, k < wlN w N → I (s + 2) k = nI (wlV w c N k) ∧ I (s + 3) k = nI (wlV w d N k) ∧ I (s + 4) k = nI (le k) ∧ I aL k = nI (le k) ∧ le k ≤ 99 ∧ I (s + 5) k = nI (la k) ∧ I aT k = nI (la k) ∧ la k ≤ M
def SceneR (x s nc NW n M : Nat) (vT vS vH : Int32) (aL aT aO aS aH : Nat) (K : Sh) (I : Im) (R : Rf) : Prop :=
  ((vT = -1 ∧ R s 0 = none) ∨ ∃ i q N w c d cs le la, vT = nI i ∧ i < NW ∧ NowR x s i q n M N aL aT w c d cs le la K I R) ∧
  (∀ k, k < 5 → ∃ m, m ≤ 10 ∧ I (s + 6) k = nI m ∧ I aO k = nI m) ∧
  (∃ ns, ns ≤ 3 ∧ I s 4 = nI ns ∧ vS = nI ns ∧ ∀ k, k < ns → ∃ c, c < nc ∧ I (s + 7) k = nI c ∧ I aS k = nI c) ∧
  ∃ nh, nh ≤ 5 ∧ I s 6 = nI nh ∧ vH = nI nh ∧ ∃ hd : Nat → Nat, ∀ k, k < 5 → hd k ≤ 6 ∧ I (s + 8) k = nI (if k < nh then hd k else 0) ∧ (k < nh → I aH k = nI (hd k))
def RuleR (x r n a kd v rn : Nat) (rw : Nat → Nat) (K : Sh) (I : Im) (R : Rf) : Prop := R (x + 6) r = some a ∧ RuleC x a K I R kd v rw ∧ a + 1 < n ∧ I a 1 = nI r ∧ I a 4 = nI rn ∧ rn ≤ 5 ∧ (∀ k, rw k ≤ 6 ∧ (rn ≤ k → rw k = 0)) ∧ I (x + 81) r = nI kd ∧ I (x + 82) r = nI v ∧ I (x + 83) r = nI rn ∧ ∀ k, k < rn → I (x + 84) (5 * r + k) = nI (rw k)
def CarR (x nr k n a b st r ra : Nat) (K : Sh) (I : Im) (R : Rf) : Prop := R (x + 7) k = some a ∧ K a = (2, 3) ∧ x + 110 ≤ a ∧ a < n ∧ I a 0 = nI b ∧ 1 ≤ b ∧ b ≤ 9 ∧ I a 1 = nI st ∧ st ≤ 99 ∧ r < nr ∧ R a 2 = some ra ∧ R (x + 6) r = some ra ∧ I (x + 85) k = nI b ∧ I (x + 86) k = nI st ∧ I (x + 87) k = nI r
def TapeR (x t : Nat) (I : Im) (J : Jm) : Prop := I (x + (50 + 2 * t)) 0 = I (x + 106) t ∧ (I (x + 106) t = -1 ∨ ∃ s, s ≤ 4 ∧ I (x + 106) t = nI s) ∧ (∃ ln, ln ≤ 60 ∧ I (x + (50 + 2 * t)) 1 = nI ln ∧ I (x + 107) t = nI ln ∧ (I (x + 106) t = -1 → ln = 0)) ∧ ∀ k, k < 60 → J (x + (50 + 2 * t) + 1) k = J (x + 108) (60 * t + k)
def TextR (x : Nat) (I : Im) : Prop := ∃ len, len ≤ 100 ∧ I (x + 1) 1 = nI len ∧ I (x + 62) 2 = nI len ∧ ∀ j, j < len → I (x + 2) j = I (x + 63) j
def ActsR (x : Nat) (I : Im) : Prop := ∃ ran, ran ≤ 1000 ∧ I (x + 27) 1 = nI ran ∧ I (x + 62) 67 = nI ran ∧ ∀ k, k < ran → k < 20 → I (x + 28) k = I (x + 105) k
def UnreadR (x n : Nat) (K : Sh) (R : Rf) : Prop := R x 2 = none ∨ ∃ q, R x 2 = some q ∧ S9 q K R ∧ x + 110 ≤ q ∧ q + 3 < n ∧ R (x + 8) 0 ≠ some q ∧ R (x + 17) 0 ≠ some q ∧ (R q 8 = none ∨ ∃ dr, R q 8 = some dr ∧ K dr = (21, 1782) ∧ x + 110 ≤ dr ∧ dr < n ∧ ∀ q', R (x + 8) 0 = some q' ∨ R (x + 17) 0 = some q' → R q' 8 ≠ some dr)
def ZZ (Z : Nat → Nat) (x : Nat) (K : Sh) (I : Im) : Prop := ZOK Z x ∧ ∀ i, i < 3 → K (Z i) = (27, zL i) ∧ ∀ j, j < zL i → I (Z i) j = zD i j
def RelG (Z : Nat → Nat) (x n M nr nc NW : Nat) (K : Sh) (I : Im) (J : Jm) (R : Rf) : Prop :=
  (nr ≤ 10 ∧ nc ≤ 6 ∧ NW ≤ 5 ∧ I x 1 = nI NW ∧ I (x + 62) 0 = nI NW ∧ I x 4 = nI nr ∧ I (x + 62) 27 = nI nr ∧ I x 6 = nI nc ∧ I (x + 62) 28 = nI nc) ∧
  (∀ r, r < nr → ∃ a kd v rn rw, RuleR x r n a kd v rn rw K I R) ∧ (∀ k, k < nc → ∃ a b st r ra, CarR x nr k n a b st r ra K I R) ∧
  SceneR x (x + 8) nc NW n M (I (x + 62) 1) (I (x + 62) 51) (I (x + 62) 29) (x + 73) (x + 74) (x + 75) (x + 96) (x + 88) K I R ∧
  SceneR x (x + 17) nc NW n M (I (x + 62) 59) (I (x + 62) 60) (I (x + 62) 61) (x + 100) (x + 101) (x + 102) (x + 103) (x + 104) K I R ∧
  (∃ b : Bool, I x 9 = bI b ∧ I (x + 62) 58 = bI b) ∧ ActsR x I ∧ (∀ t, t < 6 → TapeR x t I J) ∧ TextR x I ∧ UnreadR x n K R
def Rel (Z : Nat → Nat) (x n M : Nat) (K : Sh) (I : Im) (J : Jm) (R : Rf) : Prop := CSH x K R ∧ MSH (x + 62) K R ∧ x + 110 ≤ n ∧ M ≤ 800000 ∧ ZZ Z x K I ∧ ∃ nr nc NW, RelG Z x n M nr nc NW K I J R
/-- what is asked may change these cells alone -/
def mS : List Nat := [10, 14, 15, 16, 17, 18, 27, 28, 29, 30, 31, 32, 33, 35, 36, 37]
def mF : List Nat := [21, 45, 46, 47, 48, 49, 50, 56, 57]
def QF (x : Nat) (I I' : Im) : Prop := (∀ z, z < x + 29 ∨ x + 50 ≤ z → (∀ i ∈ mS, z ≠ x + 62 + i) → z ≠ x + 62 → I' z = I z) ∧ ∀ k, k ∉ mF → I' (x + 62) k = I (x + 62) k
def QR (x : Nat) (R R' : Rf) : Prop := ∀ z, z < x + 29 ∨ x + 50 ≤ z → R' z = R z
section
variable {x i q N n M nr nc NW : Nat} {K : Sh} {I I' I'' : Im} {J : Jm} {R R' R'' : Rf} {Z : Nat → Nat}
theorem QF.refl : QF x I I := ⟨fun _ _ _ _ => rfl, fun _ _ => rfl⟩
theorem QF.trans (h : QF x I I') (h2 : QF x I' I'') : QF x I I'' := ⟨fun z a b c => (h2.1 z a b c).trans (h.1 z a b c), fun k hk => (h2.2 k hk).trans (h.2 k hk)⟩
theorem QF.cls (h : ∀ z, z < x + 29 ∨ x + 50 ≤ z → I' z = I z) : QF x I I' := ⟨fun z a _ _ => h z a, fun k _ => by rw [h _ (by omega)]⟩
theorem QF.fm {S F : List Nat} (h : FM (x + 62) S F I I') (hS : ∀ i ∈ S, i ∈ mS) (hF : ∀ i ∈ F, i ∈ mF) : QF x I I' := by
  refine ⟨fun z _ b c => funext fun k => h z k (fun i hi => b i (hS i hi)) (fun e => absurd e c), fun k hk => h _ k (fun i hi e => ?_) (fun _ hk' => hk (hF k hk'))⟩
  have := hS i hi
  have : i ≠ 0 := fun e0 => by subst e0; exact absurd this (by decide)
  omega
theorem QR.refl : QR x R R := fun _ _ => rfl
theorem QR.trans (h : QR x R R') (h2 : QR x R' R'') : QR x R R'' := fun z a => (h2 z a).trans (h z a)
/-- cells below, of the class' own, behind -/
theorem QF.c (h : QF x I I') {j : Nat} (hj : j < 29 ∨ 50 ≤ j ∧ j < 62) : I' (x + j) = I (x + j) := h.1 _ (by omega) (fun i hi e => by
  have : i ∈ mS := hi
  have : 0 < i := by
    rcases Nat.eq_zero_or_pos i with e0 | e0
    · subst e0; exact absurd hi (by decide)
    · exact e0
  omega) (by omega)
theorem QF.c0 (h : QF x I I') : I' x = I x := by have := h.c (j := 0) (by omega); exact this
theorem QF.d (h : QF x I I') {z : Nat} (hz : x + 110 ≤ z) : I' z = I z := h.1 z (by omega) (fun i hi e => by
  have : i < 48 := by
    unfold mS at hi
    simp at hi
    omega
  omega) (by omega)
theorem QF.b (h : QF x I I') {z : Nat} (hz : z < x) : I' z = I z := h.1 z (by omega) (fun i hi e => by omega) (by omega)
theorem QF.m (h : QF x I I') {j : Nat} (hj : 62 < j) (hm : j - 62 ∉ mS) : I' (x + j) = I (x + j) := h.1 _ (by omega) (fun i hi e => hm (by rw [show j - 62 = i by omega]; exact hi)) (by omega)
theorem QF.f (h : QF x I I') {k : Nat} (hk : k ∉ mF) : I' (x + 62) k = I (x + 62) k := h.2 k hk
theorem QR.c (h : QR x R R') {j : Nat} (hj : j < 29 ∨ 50 ≤ j) : R' (x + j) = R (x + j) := h _ (by omega)
theorem QR.c0 (h : QR x R R') : R' x = R x := h _ (by omega)
theorem QR.d (h : QR x R R') {z : Nat} (hz : x + 110 ≤ z) : R' z = R z := h _ (by omega)
theorem WasteR.qf {w c d : Nat → Nat} {cs : Nat → List Nat} (h : WasteR x i q N w c d cs K I R) (hI : QF x I I') (hR : QR x R R') : WasteR x i q N w c d cs K I' R' := by
  obtain ⟨h1, h2, h3, h4, h5, h6, h7, h8⟩ := h
  have eR : R' q = R q := hR.d h3
  refine ⟨h1.congr ?_ ?_ ?_ ?_, ?_, h3, (h4.congrR eR).congr (fun z hz => ?_), fun z hz => h5 z (by rw [← eR]; exact hz), by rw [hI.d h3]; exact h6, h7, fun k hk => by rw [hI.d (by omega), hI.d (by omega)]; exact h8 k hk⟩
  · exact hI.m (j := 64) (by omega) (by decide)
  · exact hI.m (j := 65) (by omega) (by decide)
  · exact hI.m (j := 66) (by omega) (by decide)
  · exact hI.m (j := 67) (by omega) (by decide)
  · have e6 : I' (x + 62 + 6) = I (x + 62 + 6) := hI.m (j := 68) (by omega) (by decide)
    have e7 : I' (x + 62 + 7) = I (x + 62 + 7) := hI.m (j := 69) (by omega) (by decide)
    have e8 : I' (x + 62 + 8) = I (x + 62 + 8) := hI.m (j := 70) (by omega) (by decide)
    unfold MC
    rw [e6, e7, e8]
    exact h2
  · rcases hz with rfl | rfl | hz
    · exact hI.d h3
    · exact hI.d (by omega)
    · rw [eR] at hz
      exact hI.d (h5 z hz)
theorem SceneR.qf {s : Nat} {vT vS vH : Int32} {aL aT aO aS aH : Nat} (hs : s = 8 ∨ s = 17) (ha : ∀ j, j = aL ∨ j = aT ∨ j = aO ∨ j = aS ∨ j = aH → 62 < j ∧ j - 62 ∉ mS) (h : SceneR x (x + s) nc NW n M vT vS vH (x + aL) (x + aT) (x + aO) (x + aS) (x + aH) K I R) (hI : QF x I I') (hR : QR x R R') : SceneR x (x + s) nc NW n M vT vS vH (x + aL) (x + aT) (x + aO) (x + aS) (x + aH) K I' R' := by
  obtain ⟨h1, h2, h3, h4⟩ := h
  have eL := hI.m (ha aL (by simp)).1 (ha aL (by simp)).2
  have eT := hI.m (ha aT (by simp)).1 (ha aT (by simp)).2
  have eO := hI.m (ha aO (by simp)).1 (ha aO (by simp)).2
  have eS := hI.m (ha aS (by simp)).1 (ha aS (by simp)).2
  have eH := hI.m (ha aH (by simp)).1 (ha aH (by simp)).2
  have es : ∀ j, j ≤ 8 → I' (x + s + j) = I (x + s + j) := fun j hj => by rw [Nat.add_assoc]; exact hI.c (by omega)
  have es0 : I' (x + s) = I (x + s) := es 0 (by omega)
  have rs : R' (x + s) = R (x + s) := hR.c (by omega)
  unfold SceneR
  rw [es 6 (by omega), es 7 (by omega), es 8 (by omega), es0, eO, eS, eH]
  refine ⟨?_, h2, h3, h4⟩
  rcases h1 with ⟨a, b⟩ | ⟨i, q, N, w, c, d, cs, le, la, a1, a2, b1, b2, b3, b4, b5⟩
  · exact Or.inl ⟨a, by rw [rs]; exact b⟩
  · refine Or.inr ⟨i, q, N, w, c, d, cs, le, la, a1, a2, by rw [rs]; exact b1, b2.qf hI hR, b3, fun z hz => b4 z (by rw [← hR.d b2.2.2.1]; exact hz), ?_⟩
    rw [es 2 (by omega), es 3 (by omega), es 4 (by omega), es 5 (by omega), eL, eT]
    exact b5
theorem RuleR.qf {r a kd v rn : Nat} {rw_ : Nat → Nat} (h : RuleR x r n a kd v rn rw_ K I R) (hI : QF x I I') (hR : QR x R R') : RuleR x r n a kd v rn rw_ K I' R' := by
  have ha := h.2.1.2.1
  unfold RuleR RuleC S5 at h ⊢
  rw [hR.c (j := 6) (by omega), hR.d ha, hI.d ha, hI.d (by omega : x + 110 ≤ a + 1), hI.m (j := 81) (by omega) (by decide), hI.m (j := 82) (by omega) (by decide), hI.m (j := 83) (by omega) (by decide), hI.m (j := 84) (by omega) (by decide)]
  exact h
theorem CarR.qf {k a b st r ra : Nat} (h : CarR x nr k n a b st r ra K I R) (hI : QF x I I') (hR : QR x R R') : CarR x nr k n a b st r ra K I' R' := by
  have ha := h.2.2.1
  unfold CarR at h ⊢
  rw [hR.c (j := 6) (by omega), hR.c (j := 7) (by omega), hR.d ha, hI.d ha, hI.m (j := 85) (by omega) (by decide), hI.m (j := 86) (by omega) (by decide), hI.m (j := 87) (by omega) (by decide)]
  exact h
theorem TapeR.qf {t : Nat} (ht : t < 6) (h : TapeR x t I J) (hI : QF x I I') : TapeR x t I' J := by
  unfold TapeR at h ⊢
  rw [hI.c (j := 50 + 2 * t) (by omega), hI.m (j := 106) (by omega) (by decide), hI.m (j := 107) (by omega) (by decide)]
  exact h
theorem UnreadR.qf (h : UnreadR x n K R) (hR : QR x R R') (hs : ∀ q, R (x + 8) 0 = some q ∨ R (x + 17) 0 = some q → x + 110 ≤ q) : UnreadR x n K R' := by
  unfold UnreadR at h ⊢
  rw [hR.c0, hR.c (j := 8) (by omega), hR.c (j := 17) (by omega)]
  rcases h with h | ⟨q, h1, h2, h3, h4, h5, h6, h7⟩
  · exact Or.inl h
  · refine Or.inr ⟨q, h1, ?_, h3, h4, h5, h6, ?_⟩
    · unfold S9 at h2 ⊢
      rw [hR.d h3]
      exact h2
    · rw [hR.d h3]
      rcases h7 with h7 | ⟨dr, g1, g2, g3, g4, g5⟩
      · exact Or.inl h7
      · exact Or.inr ⟨dr, g1, g2, g3, g4, fun q' hq => by rw [hR.d (hs q' hq)]; exact g5 q' hq⟩
theorem SceneR.wq {s : Nat} {vT vS vH : Int32} {aL aT aO aS aH : Nat} (h : SceneR x s nc NW n M vT vS vH aL aT aO aS aH K I R) {q : Nat} (hq : R s 0 = some q) : x + 110 ≤ q ∧ q + 3 < n ∧ S9 q K R ∧ ∀ z, R q 8 = some z → z < n ∧ x + 110 ≤ z := by
  rcases h.1 with ⟨_, b⟩ | ⟨i, q', N, w, c, d, cs, le, la, a1, a2, b1, b2, b3, b4, b5⟩
  · rw [b] at hq; cases hq
  · rw [b1] at hq
    cases hq
    exact ⟨b2.2.2.1, b3, b2.2.2.2.1.1, fun z hz => ⟨b4 z hz, b2.2.2.2.2.1 z hz⟩⟩
theorem Rel.qf (h : Rel Z x n M K I J R) (hI : QF x I I') (hR : QR x R R') (hC : CSH x K R') (hM : MSH (x + 62) K R') : Rel Z x n M K I' J R' := by
  obtain ⟨_, _, h3, h4, h5, nr, nc, NW, h6, h7, h8, h9, h10, h11, h12, h13, h14, h15⟩ := h
  refine ⟨hC, hM, h3, h4, ⟨h5.1, fun i hi => ⟨(h5.2 i hi).1, fun j hj => by rw [hI.b (h5.1.1 i hi)]; exact (h5.2 i hi).2 j hj⟩⟩, nr, nc, NW, ?_, fun r hr => ?_, fun k hk => ?_, ?_, ?_, ?_, ?_, fun t ht => (h13 t ht).qf ht hI, ?_, ?_⟩
  · rw [hI.c0, hI.f (k := 0) (by decide), hI.f (k := 27) (by decide), hI.f (k := 28) (by decide)]
    exact h6
  · obtain ⟨a, kd, v, rn, rw_, z⟩ := h7 r hr
    exact ⟨a, kd, v, rn, rw_, z.qf hI hR⟩
  · obtain ⟨a, b, st, r, ra, z⟩ := h8 k hk
    exact ⟨a, b, st, r, ra, z.qf hI hR⟩
  · rw [hI.f (k := 1) (by decide), hI.f (k := 51) (by decide), hI.f (k := 29) (by decide)]
    exact SceneR.qf (s := 8) (aL := 73) (aT := 74) (aO := 75) (aS := 96) (aH := 88) (by omega) (fun j hj => by rcases hj with rfl | rfl | rfl | rfl | rfl <;> exact ⟨by omega, by decide⟩) h9 hI hR
  · rw [hI.f (k := 59) (by decide), hI.f (k := 60) (by decide), hI.f (k := 61) (by decide)]
    exact SceneR.qf (s := 17) (aL := 100) (aT := 101) (aO := 102) (aS := 103) (aH := 104) (by omega) (fun j hj => by rcases hj with rfl | rfl | rfl | rfl | rfl <;> exact ⟨by omega, by decide⟩) h10 hI hR
  · rw [hI.c0, hI.f (k := 58) (by decide)]
    exact h11
  · unfold ActsR at h12 ⊢
    rw [hI.c (j := 27) (by omega), hI.c (j := 28) (by omega), hI.f (k := 67) (by decide), hI.m (j := 105) (by omega) (by decide)]
    exact h12
  · unfold TextR at h14 ⊢
    rw [hI.c (j := 1) (by omega), hI.c (j := 2) (by omega), hI.f (k := 2) (by decide), hI.m (j := 63) (by omega) (by decide)]
    exact h14
  · refine h15.qf hR (fun q hq => ?_)
    rcases hq with hq | hq
    · exact (h9.wq hq).1
    · exact (h10.wq hq).1
end
