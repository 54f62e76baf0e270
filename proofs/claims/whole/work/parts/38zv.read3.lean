/-! words and clauses -/
def qHd (v c1 : Int32) : Nat := if v = 99 then 3 else if v = 100 then 2 else if v = 108 then 4 else if v = 119 then (if c1 = 97 then 1 else 0) else 5
def qWi (kd : Nat) : Nat := ([5, 4, 0, 1, 2, 3] : List Nat).getD kd 0
def qWN (tx : Nat → Int32) (len kd p : Nat) : Option Nat × Nat := match qW tx len (sTxt (qWi kd) ++ [32]) p with
  | (false, p1) => (none, p1)
  | (true, p1) => if kd = 1 then qN1 tx len p1 else qN2 tx len p1
abbrev QCl : Type := Nat × Nat × Nat × List Nat × Nat
def qCk (tx : Nat → Int32) (len kd c p2 : Nat) : Option QCl × Nat :=
  if kd = 2 then (if qNx tx len p2 = 32 then (match (qEP tx len 14).1 0 (p2 + 1) with
      | (none, p3) => (none, p3)
      | (some cs, p3) => (some (2, c, 0, cs, p2 + 1), p3)) else (none, p2))
  else if kd = 0 then (if qNx tx len p2 = 32 then (match qN2 tx len (p2 + 1) with
      | (none, p3) => (none, p3)
      | (some d, p3) => (some (0, c, d, [], 0), p3)) else (none, p2))
  else (some (kd, c, 0, [], 0), p2)
def qCm (tx : Nat → Int32) (len kd : Nat) (r : Option Nat × Nat) : Option QCl × Nat := match r with
  | (none, p2) => (none, p2)
  | (some c, p2) => qCk tx len kd c p2
def qC (tx : Nat → Int32) (len p : Nat) : Option QCl × Nat := qCm tx len (qHd (qNx tx len p) (qNx tx len (p + 1))) (qWN tx len (qHd (qNx tx len p) (qNx tx len (p + 1))) p)
section
variable {x p p' len d f i k n q : Nat} {Z : Nat → Nat} {tx : Nat → Int32} {K : Sh} {I : Im} {R : Rf} {c : Int32}
theorem qW_b : ∀ (l : List Nat) (p : Nat), (∀ c ∈ l, c ≤ 127) → p ≤ len → p ≤ (qW tx len l p).2 ∧ (qW tx len l p).2 ≤ len ∧ ((qW tx len l p).1 = true → l ≠ [] → p < (qW tx len l p).2) := by
  intro l
  induction l with
  | nil => intro p _ hp; exact ⟨Nat.le_refl _, hp, fun _ h => absurd rfl h⟩
  | cons c l ih =>
    intro p hl hp
    unfold qW
    by_cases h : qNx tx len p = nI c
    · have hc := hl c (by simp)
      have nn : ∀ c, c < 128 → nI c ≠ -1 := by decide
      have := qNx_lt h (nn c (by omega))
      obtain ⟨a1, a2, a3⟩ := ih (p + 1) (fun c hc => hl c (by simp [hc])) (by omega)
      rw [if_pos h]
      exact ⟨by omega, a2, fun _ _ => by omega⟩
    · rw [if_neg h]
      exact ⟨Nat.le_refl _, hp, fun h => by cases h⟩
theorem sTxt_le : ∀ i, i < 6 → ∀ c ∈ sTxt i ++ [32], c ≤ 127 := by decide
theorem qWi_lt (kd : Nat) : qWi kd < 6 := by
  unfold qWi
  rcases (by omega : kd = 0 ∨ kd = 1 ∨ kd = 2 ∨ kd = 3 ∨ kd = 4 ∨ kd = 5 ∨ 6 ≤ kd) with h | h | h | h | h | h | h
  · subst h; decide
  · subst h; decide
  · subst h; decide
  · subst h; decide
  · subst h; decide
  · subst h; decide
  · rw [List.getD_eq_getElem?_getD, List.getElem?_eq_none (by simpa using h)]; decide
theorem qWN_b {kd : Nat} (hp : p ≤ len) : p ≤ (qWN tx len kd p).2 ∧ (qWN tx len kd p).2 ≤ len ∧ ∀ c, (qWN tx len kd p).1 = some c → c ≤ 99 ∧ (kd = 1 → c ≤ 9) ∧ p < (qWN tx len kd p).2 := by
  have h := qW_b (tx := tx) (len := len) (sTxt (qWi kd) ++ [32]) p (sTxt_le _ (qWi_lt kd)) hp
  unfold qWN
  generalize qW tx len (sTxt (qWi kd) ++ [32]) p = r at h ⊢
  obtain ⟨r1, r2⟩ := r
  obtain ⟨h1, h2, h3⟩ := h
  dsimp only at h1 h2 h3
  cases r1 with
  | false => exact ⟨h1, h2, fun c z => by cases z⟩
  | true =>
    dsimp only
    have h3 := h3 rfl (by simp)
    by_cases hk : kd = 1
    · rw [if_pos hk]
      obtain ⟨a1, a2, a3⟩ := qN1_b (tx := tx) (len := len) (p := r2) rfl
      exact ⟨by omega, a2 h2, fun c z => by obtain ⟨b1, b2, b3⟩ := a3 c z; exact ⟨by omega, fun _ => b1, by omega⟩⟩
    · rw [if_neg hk]
      obtain ⟨a1, a2, a3⟩ := qN2_b (tx := tx) (len := len) (p := r2) rfl
      exact ⟨by omega, a2 h2, fun c z => by obtain ⟨b1, b2, b3⟩ := a3 c z; exact ⟨b1, fun e => absurd e hk, by omega⟩⟩
theorem sidx_ok (hZ : ZOK Z n) (hi : i < 6) : sidx Z (some (Z (10 + i))) = some i := by
  have e : ∀ j, j < 6 → (some (Z (10 + i)) == some (Z (10 + j))) = decide (i = j) := fun j hj => by
    by_cases c : i = j
    · rw [c, decide_eq_true rfl]; simp
    · rw [decide_eq_false c]
      have : Z (10 + i) ≠ Z (10 + j) := fun h => c (hZ.2.2.2 i j hi hj h)
      simp [this]
  unfold sidx
  rw [show List.range 6 = [0, 1, 2, 3, 4, 5] from rfl]
  simp only [List.find?_cons, List.find?_nil, e 0 (by omega), e 1 (by omega), e 2 (by omega), e 3 (by omega), e 4 (by omega), e 5 (by omega)]
  rcases (by omega : i = 0 ∨ i = 1 ∨ i = 2 ∨ i = 3 ∨ i = 4 ∨ i = 5) with h | h | h | h | h | h <;> subst h <;> rfl
theorem slen_ok (hZ : ZOK Z n) (hi : i < 6) : slen Z (some (Z (10 + i))) = some (nI (sTxt i).length) := by
  unfold slen
  rw [sidx_ok hZ hi]
  rfl
theorem schr_ok (hZ : ZOK Z n) (hi : i < 6) {j : Nat} (hj : j < (sTxt i).length) : schr Z (some (Z (10 + i))) (nI j) = some (nI ((sTxt i).getD j 0)) := by
  have hl : ∀ i, i < 6 → (sTxt i).length ≤ 5 := by decide
  have := hl i hi
  unfold schr
  rw [sidx_ok hZ hi, Option.bind_some, if_pos (inb_nI hj (by omega)), nI_clamp (by omega)]
  rfl
theorem c_word2 (hRB : RB x tx len K I R) (hZ : ZOK Z n) (hi : i < 6) : ∀ (l : List Nat) (j f : Nat), (sTxt i).drop j = l → j ≤ (sTxt i).length → l.length < f → (∀ p, p ≤ len → f_X4_takeWord_2 Z K R (x + 1) f (some (Z (10 + i))) (nI j) (stQ x p I) = some (oQ x (qW tx len (l ++ [32]) p).1 (qW tx len (l ++ [32]) p).2 I)) ∧ ∀ p, f_X4_takeWord_2 Z K R (x + 1) f (some (Z (10 + i))) (nI j) (ftQ x p I) = some (ftQ x p I) := by
  have hlen := hRB.2.1
  have hl5 : ∀ i, i < 6 → (sTxt i).length ≤ 5 := by decide
  have hl := hl5 i hi
  have nn : ∀ c, c < 128 → nI c ≠ -1 := by decide
  intro l
  induction l with
  | nil =>
    intro j f e1 e2 e3
    obtain ⟨f, rfl⟩ : ∃ f', f = f' + 1 := ⟨f - 1, by omega⟩
    have hj : (sTxt i).length ≤ j := List.drop_eq_nil_iff.mp e1
    refine ⟨fun p hp => ?_, fun p => ?_⟩
    · rw [f_X4_takeWord_2, slen_ok hZ hi, obs, if_pos (by rw [nI_leI (by omega) (by omega)]; omega), c_take hRB (by omega), obs]
      show some (if qNx tx len p = 32 then stQ x (p + 1) I else ftQ x p I) = some (oQ x (qW tx len [32] p).1 (qW tx len [32] p).2 I)
      unfold qW
      by_cases h : qNx tx len p = 32
      · rw [if_pos h, if_pos (show qNx tx len p = nI 32 from h)]; rfl
      · rw [if_neg h, if_neg (show ¬ qNx tx len p = nI 32 from h)]; rfl
    · rw [f_X4_takeWord_2, slen_ok hZ hi, obs, if_pos (by rw [nI_leI (by omega) (by omega)]; omega), c_takeF (by decide)]
      rfl
  | cons c l ih =>
    intro j f e1 e2 e3
    obtain ⟨f, rfl⟩ : ∃ f', f = f' + 1 := ⟨f - 1, by omega⟩
    simp only [List.length_cons] at e3
    have hj : j < (sTxt i).length := by
      by_cases q : j < (sTxt i).length
      · exact q
      · rw [List.drop_eq_nil_iff.mpr (by omega)] at e1
        cases e1
    have hd := List.drop_eq_getElem_cons hj
    rw [e1] at hd
    obtain ⟨hd1, hd2⟩ := List.cons.inj hd
    have hg : (sTxt i).getD j 0 = c := by
      rw [List.getD_eq_getElem?_getD, List.getElem?_eq_getElem hj, hd1]
      rfl
    have hc : c ≤ 127 := sTxt_le i hi c (by rw [hd1]; simp)
    obtain ⟨h1, h2⟩ := ih (j + 1) f hd2.symm (by omega) (by omega)
    have hcn := nn c (by omega)
    refine ⟨fun p hp => ?_, fun p => ?_⟩
    · rw [f_X4_takeWord_2, slen_ok hZ hi, obs, if_neg (by rw [nI_leI (by omega) (by omega)]; omega), schr_ok hZ hi hj, obs, hg, c_take hRB (by omega), obs, L1, nI_add]
      show _ = some (oQ x (qW tx len (c :: (l ++ [32])) p).1 (qW tx len (c :: (l ++ [32])) p).2 I)
      unfold qW
      by_cases h : qNx tx len p = nI c
      · have := qNx_lt h hcn
        rw [if_pos h, if_pos h]
        exact h1 (p + 1) (by omega)
      · rw [if_neg h, if_neg h]
        exact h2 p
    · rw [f_X4_takeWord_2, slen_ok hZ hi, obs, if_neg (by rw [nI_leI (by omega) (by omega)]; omega), schr_ok hZ hi hj, obs, hg, c_takeF hcn, obs, L1, nI_add]
      exact h2 p
theorem c_word (hRB : RB x tx len K I R) (hZ : ZOK Z n) (hi : i < 6) (hp : p ≤ len) : f_X4_takeWord Z K R (x + 1) (some (Z (10 + i))) (stQ x p I) = some (oQ x (qW tx len (sTxt i ++ [32]) p).1 (qW tx len (sTxt i ++ [32]) p).2 I) := by
  have hl5 : ∀ i, i < 6 → (sTxt i).length ≤ 5 := by decide
  have hl := hl5 i hi
  have h := (c_word2 hRB hZ hi (sTxt i) 0 FU rfl (by omega) (FU_lt (by omega))).1 p hp
  unfold f_X4_takeWord
  exact h
/-- a word, then a number -/
theorem c_wn (hRB : RB x tx len K I R) (hZ : ZOK Z n) (hp : p ≤ len) (kd : Nat) : ∃ Iw v, f_X4_takeWord Z K R (x + 1) (some (Z (10 + qWi kd))) (stQ x p I) = some Iw ∧ f_X4_readNumber K R (x + 1) (if kd = 1 then 1 else 2) Iw = some (v, oQ x (qWN tx len kd p).1.isSome (qWN tx len kd p).2 I) ∧ ∀ c, (qWN tx len kd p).1 = some c → v = nI c := by
  have hlen := hRB.2.1
  have hw := c_word hRB hZ (qWi_lt kd) hp
  have hb := qW_b (tx := tx) (len := len) (sTxt (qWi kd) ++ [32]) p (sTxt_le _ (qWi_lt kd)) hp
  unfold qWN
  generalize qW tx len (sTxt (qWi kd) ++ [32]) p = r at hw hb ⊢
  obtain ⟨r1, r2⟩ := r
  dsimp only at hw hb ⊢
  cases r1 with
  | false =>
    obtain ⟨v, hv⟩ := c_numF (K := K) (R := R) (x := x) (p := r2) (I := I) (if kd = 1 then 1 else 2) (by split <;> omega)
    refine ⟨_, v, hw, ?_, fun c z => by cases z⟩
    rw [show (if kd = 1 then (1 : Int32) else 2) = nI (if kd = 1 then 1 else 2) by split <;> rfl]
    exact hv
  | true =>
    by_cases hk : kd = 1
    · obtain ⟨v, hv1, hv2⟩ := c_num1 (p := r2) hRB (by omega)
      rw [if_pos hk]
      exact ⟨_, v, hw, by dsimp only; rw [if_pos hk]; exact hv1, by dsimp only; rw [if_pos hk]; exact hv2⟩
    · obtain ⟨v, hv1, hv2⟩ := c_num2 (p := r2) hRB (by omega)
      rw [if_neg hk]
      exact ⟨_, v, hw, by dsimp only; rw [if_neg hk]; exact hv1, by dsimp only; rw [if_neg hk]; exact hv2⟩
theorem stQ_self (h : I (x + 1) 2 = nI p) : stQ x p I = I := by
  funext z j
  unfold stQ u2
  by_cases c : z = x + 1 ∧ j = 2
  · rw [if_pos c, c.1, c.2, h]
  · rw [if_neg c]
/-- only the reader and the waste it fills have changed -/
def CFq (x q : Nat) (I I1 : Im) : Prop := ∀ z, z ≠ x + 1 → z ≠ x + 3 → z ≠ x + 4 → z ≠ q → z ≠ q + 1 → z ≠ q + 2 → z ≠ q + 3 → I1 z = I z
def CLq (x q D W Y : Nat) (fu gi hr : Nat → Nat) (r : Option QCl) (I I1 : Im) : Prop := match r with
  | none => I1 (x + 1) 3 = 0
  | some t => I1 (x + 1) 3 = 1 ∧ I1 (x + 1) 4 = nI (if t.1 = 2 then D + 1 else D) ∧ WsC q I1 (if t.1 = 0 ∧ W < 5 then W + 1 else W) (if t.1 = 1 ∧ Y < 6 then Y + 1 else Y) (if t.1 = 0 ∧ W < 5 then u1 fu W t.2.1 else fu) (if t.1 = 0 ∧ W < 5 then u1 gi W t.2.2.1 else gi) (if t.1 = 1 ∧ Y < 6 then u1 hr Y (max t.2.1 1) else hr) ∧ I1 q 2 = (if t.1 = 3 then nI t.2.1 else I q 2) ∧ I1 q 3 = (if t.1 = 4 then nI t.2.1 else I q 3) ∧ I1 q 4 = (if t.1 = 5 then nI t.2.1 else I q 4) ∧ (∀ j, (t.1 = 2 → j ≠ D) → I1 (x + 3) j = I (x + 3) j ∧ I1 (x + 4) j = I (x + 4) j) ∧ (t.1 = 2 → I1 (x + 3) D = nI t.2.1 ∧ I1 (x + 4) D = nI t.2.2.2.2)
def CEq (x q len D W Y : Nat) (fu gi hr : Nat → Nat) (r : Option QCl × Nat) (I : Im) (e : Option Im) : Prop := ∃ I1, e = some I1 ∧ CFq x q I I1 ∧ I1 (x + 1) 1 = nI len ∧ I1 (x + 1) 2 = nI r.2 ∧ CLq x q D W Y fu gi hr r.1 I I1
theorem oQ_1 (h : RB x tx len K I R) {ok : Bool} : oQ x ok p I (x + 1) 1 = nI len := by rw [oQ_f (by omega) (by omega)]; exact h.2.2.1
theorem oQ_3t (h : RB x tx len K I R) : oQ x true p I (x + 1) 3 = 1 := by
  show stQ x p I (x + 1) 3 = 1
  rw [stQ_f (by omega)]; exact h.2.2.2.1
theorem oQ_3f : oQ x false p I (x + 1) 3 = 0 := u2_eq _ _ _ _
/-- carry, load, stand -/
theorem c_cl3 (hRB : RB x tx len K I R) (hq : x + 110 ≤ q) {D W Y : Nat} {fu gi hr : Nat → Nat} (hC : WsC q I W Y fu gi hr) (hD : I (x + 1) 4 = nI D) {kd : Nat} (hk : kd = 3 ∨ kd = 4 ∨ kd = 5) {v : Int32} {r : Option Nat × Nat} (hv : ∀ c, r.1 = some c → v = nI c) : CEq x q len D W Y fu gi hr (qCm tx len kd r) I (some (u2 (oQ x r.1.isSome r.2 I) q (kd - 1) v)) := by
  obtain ⟨r1, r2⟩ := r
  have f1 : u2 (oQ x r1.isSome r2 I) q (kd - 1) v (x + 1) = oQ x r1.isSome r2 I (x + 1) := u2_row (by omega)
  have fr : CFq x q I (u2 (oQ x r1.isSome r2 I) q (kd - 1) v) := fun z z1 _ _ z4 _ _ _ => by rw [u2_row z4, oQ_r z1]
  refine ⟨_, rfl, ?_⟩
  cases r1 with
  | none => exact ⟨fr, by rw [f1]; exact oQ_1 hRB, by rw [f1]; exact oQ_at, by show _ = _; rw [f1]; exact oQ_3f⟩
  | some c =>
    have ev := hv c rfl
    subst ev
    have e : qCk tx len kd c r2 = (some (kd, c, 0, [], 0), r2) := by
      unfold qCk
      rw [if_neg (show ¬ kd = 2 by omega), if_neg (show ¬ kd = 0 by omega)]
    rw [show qCm tx len kd (some c, r2) = (some (kd, c, 0, [], 0), r2) from e]
    dsimp only
    refine ⟨fr, by rw [f1]; exact oQ_1 hRB, by rw [f1]; exact oQ_at, ?_⟩
    have qr : ∀ z, z ≠ x + 1 → z ≠ q → u2 (oQ x (some c : Option Nat).isSome r2 I) q (kd - 1) (nI c) z = I z := fun z z1 z2 => by rw [u2_row z2, oQ_r z1]
    have qq : ∀ k, k ≠ kd - 1 → u2 (oQ x (some c : Option Nat).isSome r2 I) q (kd - 1) (nI c) q k = I q k := fun k hk => by rw [u2_ne hk, oQ_r (by omega)]
    show _ ∧ _ ∧ _ ∧ _ ∧ _ ∧ _ ∧ _ ∧ _
    dsimp only
    rw [if_neg (show ¬ kd = 2 by omega), if_neg (show ¬ (kd = 0 ∧ W < 5) by omega), if_neg (show ¬ (kd = 1 ∧ Y < 6) by omega), if_neg (show ¬ (kd = 0 ∧ W < 5) by omega), if_neg (show ¬ (kd = 0 ∧ W < 5) by omega), if_neg (show ¬ (kd = 1 ∧ Y < 6) by omega)]
    refine ⟨by rw [f1]; exact oQ_3t hRB, by rw [f1, oQ_f (by omega) (by omega)]; exact hD, ⟨by rw [qq 0 (by omega)]; exact hC.1, by rw [qq 1 (by omega)]; exact hC.2.1, fun k hk' => by rw [qr _ (by omega) (by omega), qr _ (by omega) (by omega)]; exact hC.2.2.1 k hk', fun k hk' => by rw [qr _ (by omega) (by omega)]; exact hC.2.2.2 k hk'⟩, ?_, ?_, ?_, fun j _ => by rw [qr _ (by omega) (by omega), qr _ (by omega) (by omega)]; exact ⟨rfl, rfl⟩, fun e => by omega⟩
    · by_cases h3 : kd = 3
      · rw [if_pos h3, show kd - 1 = 2 by omega, u2_eq]
      · rw [if_neg h3, qq 2 (by omega)]
    · by_cases h3 : kd = 4
      · rw [if_pos h3, show kd - 1 = 3 by omega, u2_eq]
      · rw [if_neg h3, qq 3 (by omega)]
    · by_cases h3 : kd = 5
      · rw [if_pos h3, show kd - 1 = 4 by omega, u2_eq]
      · rw [if_neg h3, qq 4 (by omega)]
end
