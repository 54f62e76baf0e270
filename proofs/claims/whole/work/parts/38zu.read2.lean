/-! the class reads a drink clause's test: the same place, the mask of the codes -/
theorem th_tot {K : Sh} (a b : Int32) : ∃ w, f_X4_hoursThat K a b = some w := by
  have t : ∀ v, ∃ w, f_X4_hoursBelow v = some w := fun v => by
    unfold f_X4_hoursBelow
    split
    · exact ⟨_, rfl⟩
    · exact ⟨_, rfl⟩
  obtain ⟨w1, h1⟩ := t b
  obtain ⟨w2, h2⟩ := t (b + 1)
  unfold f_X4_hoursThat
  rw [h1, h2]
  split
  · exact ⟨_, rfl⟩
  · split
    · exact ⟨_, rfl⟩
    · exact ⟨_, rfl⟩
theorem ma_tot (a b c : Int32) : ∃ w, f_X4_matches a b c = some w := by
  unfold f_X4_matches
  split
  · split
    · exact ⟨_, rfl⟩
    · exact ⟨_, rfl⟩
  · split
    · split
      · exact ⟨_, rfl⟩
      · exact ⟨_, rfl⟩
    · split
      · exact ⟨_, rfl⟩
      · exact ⟨_, rfl⟩
def CRX (x X : Nat) (r : QRes) (I : Im) (e : Option (Int32 × Im)) : Prop := ∃ v, e = some (v, oQ x r.1.isSome r.2 I) ∧ ∀ cs, r.1 = some cs → ∀ b y, I (x + 1) 8 = nI b → I (x + 1) 9 = nI y → b ≤ 100 → y ≤ 100 → ∃ m, v = nI (X ^^^ m) ∧ MKb b y cs m
section
variable {x p p' len d f X : Nat} {tx : Nat → Int32} {K : Sh} {I : Im} {R : Rf} {c : Int32}
theorem c_t115 {v1 v2 v3 : Int32} {I' : Im} : ∃ w, f_X4_readTest_115 K R (x + 1) v2 v3 v1 I' = some (w, I') := by
  obtain ⟨w, hw⟩ := ma_tot v1 v2 v3
  unfold f_X4_readTest_115
  rw [hw, obs]
  split
  · exact ⟨_, rfl⟩
  · exact ⟨_, rfl⟩
theorem c_t115b {v op n : Nat} {I' : Im} (hop : op ≤ 2) (hn : n ≤ 99) (hv : v ≤ 1000) : f_X4_readTest_115 K R (x + 1) (nI (60 + op)) (nI n) (nI v) I' = some (nI (if cmpN op v n = true then 16777215 else 0), I') := by
  unfold f_X4_readTest_115
  rw [ma_eq hop hn hv, obs]
  cases cmpN op v n with
  | true => rw [if_neg (by decide), if_pos rfl]; rfl
  | false => rw [if_pos (by decide), if_neg (by decide)]; rfl
theorem zero_bit (h : Nat) : Nat.testBit 0 h = false := Nat.zero_testBit h
theorem c_test70 (h : RB x tx len K I R) (hp : p ≤ 800) {pl op : Nat} (hpl : pl ≤ 2) (hop : op ≤ 2) {x1 : Int32} (h1 : x1 = if pl = 0 then 104 else if pl = 1 then 98 else 119) : CRX x 0 (match qN2 tx len (p + 1) with
    | (none, p') => (none, p')
    | (some n, p') => (some [1000 * pl + 100 * op + n + 3], p')) I (f_X4_readTest_70 K R (x + 1) x1 (nI (60 + op)) (stQ x p I)) := by
  obtain ⟨v, hv1, hv2⟩ := c_num2 (p := p + 1) h (by omega)
  have nb := qN2_b (tx := tx) (len := len) (p := p + 1) rfl
  unfold f_X4_readTest_70
  rw [stQ_in h, obs, hv1, obs]
  generalize qN2 tx len (p + 1) = r at hv2 nb ⊢
  obtain ⟨r1, r2⟩ := r
  dsimp only at hv2 nb ⊢
  cases r1 with
  | none =>
    dsimp only
    by_cases c0 : x1 = 104
    · obtain ⟨w, hw⟩ := th_tot (K := K) (nI (60 + op)) v
      rw [if_pos c0, hw]
      exact ⟨w, rfl, fun cs z => by cases z⟩
    rw [if_neg c0]
    by_cases c1 : x1 = 98
    · obtain ⟨w, hw⟩ := c_t115 (K := K) (R := R) (x := x) (v1 := oQ x (none : Option Nat).isSome r2 I (x + 1) 8) (v2 := nI (60 + op)) (v3 := v) (I' := oQ x (none : Option Nat).isSome r2 I)
      rw [if_pos c1, hw]
      exact ⟨w, rfl, fun cs z => by cases z⟩
    · obtain ⟨w, hw⟩ := c_t115 (K := K) (R := R) (x := x) (v1 := oQ x (none : Option Nat).isSome r2 I (x + 1) 9) (v2 := nI (60 + op)) (v3 := v) (I' := oQ x (none : Option Nat).isSome r2 I)
      rw [if_neg c1, hw]
      exact ⟨w, rfl, fun cs z => by cases z⟩
  | some n =>
    have en := hv2 n rfl
    subst en
    have n99 := (nb.2.2 n rfl).1
    have mk1 : ∀ b y m, m < 2 ^ 24 → (∀ hh, hh < 24 → m.testBit hh = cmpN op (if pl = 0 then hh % 24 else if pl = 1 then b else y) n) → MKb b y [1000 * pl + 100 * op + n + 3] m := fun b y m m1 m2 => ⟨m1, fun hh h24 st => by
      rw [m2 hh h24, ← ts_cmp (h := hh) (b := b) (y := y) hpl hop n99]
      rfl⟩
    have fz : ∀ (b y v : Nat), (∀ hh, hh < 24 → (if pl = 0 then hh % 24 else if pl = 1 then b else y) = v) → MKb b y [1000 * pl + 100 * op + n + 3] (if cmpN op v n = true then 16777215 else 0) := fun b y v hv => mk1 b y _ (by split <;> decide) (fun hh h24 => by
      rw [hv hh h24]
      cases cmpN op v n with
      | true => rw [if_pos rfl, full_bit h24]
      | false => rw [if_neg (by decide), zero_bit])
    dsimp only
    by_cases p0 : pl = 0
    · rw [if_pos (show x1 = 104 by rw [h1, if_pos p0]), th_eq hop n99, obs]
      refine ⟨nI (thQ op n), rfl, fun cs z b y _ _ _ _ => ?_⟩
      cases z
      refine ⟨thQ op n, by rw [Nat.zero_xor], mk1 b y _ (thQ_lt op n) (fun hh h24 => ?_)⟩
      rw [thQ_bit hop h24, if_pos p0, Nat.mod_eq_of_lt h24]
    · rw [if_neg (show ¬ x1 = 104 by rw [h1, if_neg p0]; split <;> decide)]
      by_cases p1 : pl = 1
      · rw [if_pos (show x1 = 98 by rw [h1, if_neg p0, if_pos p1]), oQ_f (by omega) (by omega)]
        obtain ⟨w, hw⟩ := c_t115 (K := K) (R := R) (x := x) (v1 := I (x + 1) 8) (v2 := nI (60 + op)) (v3 := nI n) (I' := oQ x (some n : Option Nat).isSome r2 I)
        refine ⟨w, hw, fun cs z b y e8 e9 b1 y1 => ?_⟩
        cases z
        rw [e8, c_t115b hop n99 (by omega)] at hw
        refine ⟨if cmpN op b n = true then 16777215 else 0, ?_, fz b y b (fun hh _ => by rw [if_neg p0, if_pos p1])⟩
        rw [Nat.zero_xor]
        cases hw
        rfl
      · rw [if_neg (show ¬ x1 = 98 by rw [h1, if_neg p0, if_neg p1]; decide), oQ_f (by omega) (by omega)]
        obtain ⟨w, hw⟩ := c_t115 (K := K) (R := R) (x := x) (v1 := I (x + 1) 9) (v2 := nI (60 + op)) (v3 := nI n) (I' := oQ x (some n : Option Nat).isSome r2 I)
        refine ⟨w, hw, fun cs z b y e8 e9 b1 y1 => ?_⟩
        cases z
        rw [e9, c_t115b hop n99 (by omega)] at hw
        refine ⟨if cmpN op y n = true then 16777215 else 0, ?_, fz b y y (fun hh _ => by rw [if_neg p0, if_neg p1])⟩
        rw [Nat.zero_xor]
        cases hw
        rfl
theorem c_test30 (h : RB x tx len K I R) (hp : p ≤ 700) {pl : Nat} (hpl : pl ≤ 2) {x1 : Int32} (h1 : x1 = if pl = 0 then 104 else if pl = 1 then 98 else 119) : CRX x 0 (match qOp (qNx tx len (p + 1)) with
    | none => (none, p + 1)
    | some op => match qN2 tx len (p + 2) with
      | (none, p') => (none, p')
      | (some n, p') => (some [1000 * pl + 100 * op + n + 3], p')) I (f_X4_readTest_30 K R (x + 1) x1 (stQ x p I)) := by
  unfold f_X4_readTest_30
  rw [stQ_in h, obs, c_next h (by omega), obs]
  unfold qOp
  by_cases c0 : qNx tx len (p + 1) = 60
  · rw [if_pos c0, if_pos c0, c0]
    exact c_test70 (p := p + 1) (op := 0) h (by omega) hpl (by omega) h1
  rw [if_neg c0, if_neg c0]
  by_cases c1 : qNx tx len (p + 1) = 61
  · rw [if_pos c1, if_pos c1, c1]
    exact c_test70 (p := p + 1) (op := 1) h (by omega) hpl (by omega) h1
  rw [if_neg c1, if_neg c1]
  by_cases c2 : qNx tx len (p + 1) = 62
  · rw [if_pos c2, if_pos c2, c2]
    exact c_test70 (p := p + 1) (op := 2) h (by omega) hpl (by omega) h1
  rw [if_neg c2, if_neg c2, stQ_ft, obs]
  exact ⟨0, rfl, fun cs z => by cases z⟩
theorem c_test (h : RB x tx len K I R) (hp : p ≤ 700) : CRX x 0 (qTs tx len p) I (f_X4_readTest K R (x + 1) (stQ x p I)) := by
  unfold f_X4_readTest qTs qPl
  rw [c_next h (by omega), obs]
  by_cases c0 : qNx tx len p = 104
  · rw [if_pos c0, if_pos c0]
    exact c_test30 (pl := 0) h hp (by omega) c0
  rw [if_neg c0, if_neg c0]
  by_cases c1 : qNx tx len p = 98
  · rw [if_pos c1, if_pos c1]
    exact c_test30 (pl := 1) h hp (by omega) c1
  rw [if_neg c1, if_neg c1]
  by_cases c2 : qNx tx len p = 119
  · rw [if_pos c2, if_pos c2]
    exact c_test30 (pl := 2) h hp (by omega) c2
  rw [if_neg c2, if_neg c2, stQ_ft, obs]
  exact ⟨0, rfl, fun cs z => by cases z⟩
theorem c_testF : f_X4_readTest K R (x + 1) (ftQ x p I) = some (0, ftQ x p I) := by
  unfold f_X4_readTest
  rw [c_nextF, obs, if_neg (by decide), if_neg (by decide), if_neg (by decide), ftQ_ft]
  rfl
theorem c_partF (E P : Nat → Int32 → Im → Option (Int32 × Im)) (hd : d ≤ 6) : ∃ v, f_X4_readPart_0 K R (x + 1) E P (nI d) (ftQ x p I) = some (v, ftQ x p I) := by
  obtain ⟨f, hf⟩ : ∃ f, FU = f + 1 := ⟨FU - 1, by have := FU_lt (n := 5) (by omega); omega⟩
  have p85 : ∃ v, f_X4_readPart_85 K R (x + 1) E P 0 (ftQ x p I) = some (v, ftQ x p I) := by
    unfold f_X4_readPart_85
    rw [c_testF]
    exact ⟨_, rfl⟩
  have p41 : ∃ v, f_X4_readPart_41 K R (x + 1) E P (nI d) 0 (ftQ x p I) = some (v, ftQ x p I) := by
    unfold f_X4_readPart_41
    by_cases c : 4 ≤ nI d
    · rw [if_pos c]; exact p85
    · rw [if_neg c, c_nextF, obs, if_neg (by decide)]; exact p85
  unfold f_X4_readPart_0
  rw [hf, f_X4_readPart_4]
  by_cases c : 4 ≤ nI d
  · rw [if_pos c]; exact p41
  · rw [if_neg c, c_nextF, obs, if_neg (by decide)]; exact p41
theorem c_e11F (E P : Nat → Int32 → Im → Option (Int32 × Im)) {f : Nat} {x1 x2 x3 x4 : Int32} : f_X4_readEither_11 K R (x + 1) E P (f + 1) x1 x2 x3 x4 (ftQ x p I) = some (x2 ||| x3, ftQ x p I) := by
  rw [f_X4_readEither_11]
  by_cases c : 100 ≤ x4
  · rw [if_pos c]
  · rw [if_neg c, c_nextF, obs, if_neg (by decide), obs, if_neg (by decide)]
theorem c_eitherF (hd : d ≤ 6) (F : Nat) : ∃ v, (F_X4_EP K R (F + 2)).1 (x + 1) (nI d) (ftQ x p I) = some (v, ftQ x p I) := by
  obtain ⟨v, hv⟩ := c_partF (K := K) (R := R) (x := x) (p := p) (I := I) (F_X4_EP K R F).1 (F_X4_EP K R F).2 hd
  obtain ⟨f, hf⟩ : ∃ f, FU = f + 1 := ⟨FU - 1, by have := FU_lt (n := 5) (by omega); omega⟩
  show ∃ v, f_X4_readEither_0 K R (x + 1) (F_X4_EP K R (F + 1)).1 (F_X4_EP K R (F + 1)).2 (nI d) (ftQ x p I) = some (v, ftQ x p I)
  unfold f_X4_readEither_0
  rw [show (F_X4_EP K R (F + 1)).2 (x + 1) (nI d) (ftQ x p I) = some (v, ftQ x p I) from hv, obs, hf]
  exact ⟨_, c_e11F _ _⟩
theorem fullX (m : Nat) (hm : m < 2 ^ 24) : 16777215 ^^^ m < 2 ^ 24 := Nat.xor_lt_two_pow (by decide) hm
theorem mkN_0 : mkN 0 = 16777215 := by decide
theorem mkN_f : mkN 16777215 = 0 := by decide
theorem c_part4 (h : RB x tx len K I R) {Ec Pc : Nat → Int32 → Im → Option (Int32 × Im)} {E : Nat → Nat → QRes} (hEok : ∀ d p, qOK len p (E d p)) : ∀ (g d p f X : Nat), d ≤ 4 → 5 ≤ g + d → p ≤ len → g < f → (X = 0 ∨ X = 16777215) → (∀ d' p', d < d' → d' ≤ 4 → p' ≤ len → CRX x 0 (E d' p') I (Ec (x + 1) (nI d') (stQ x p' I))) → CRX x X (qP0 tx len E g d p) I (f_X4_readPart_4 K R (x + 1) Ec Pc f (nI d) (nI X) (stQ x p I)) := by
  have hlen := h.2.1
  intro g
  induction g with
  | zero => intro d p f X h1 h2; omega
  | succ g ih =>
    intro d p f X h1 h2 hp hf hX hE
    obtain ⟨f, rfl⟩ : ∃ f', f = f' + 1 := ⟨f - 1, by omega⟩
    have p85 : CRX x X (qTs tx len p) I (f_X4_readPart_85 K R (x + 1) Ec Pc (nI X) (stQ x p I)) := by
      obtain ⟨v, hv, hm⟩ := c_test (p := p) h (by omega)
      unfold f_X4_readPart_85
      rw [hv, obs]
      refine ⟨nI X ^^^ v, rfl, fun cs z b y e8 e9 b1 y1 => ?_⟩
      obtain ⟨m, m1, m2⟩ := hm cs z b y e8 e9 b1 y1
      exact ⟨m, by rw [m1, Nat.zero_xor, mkX], m2⟩
    rw [f_X4_readPart_4]
    unfold qP0
    by_cases c4 : 4 ≤ d
    · rw [if_pos (show 4 ≤ nI d by rw [L4, nI_leI (by omega) (by omega)]; exact c4), if_neg (show ¬ (d < 4 ∧ qNx tx len p = 33) by omega), if_neg (show ¬ (d < 4 ∧ qNx tx len p = 40) by omega)]
      unfold f_X4_readPart_41
      rw [if_pos (show 4 ≤ nI d by rw [L4, nI_leI (by omega) (by omega)]; exact c4)]
      exact p85
    rw [if_neg (show ¬ 4 ≤ nI d by rw [L4, nI_leI (by omega) (by omega)]; exact c4), c_next h (by omega), obs]
    by_cases c1 : qNx tx len p = 33
    · have hlt := qNx_lt c1 (by decide)
      rw [if_pos c1, if_pos (show d < 4 ∧ qNx tx len p = 33 from ⟨by omega, c1⟩), stQ_in h, obs, L1, nI_add]
      show CRX x X _ I (f_X4_readPart_4 K R (x + 1) Ec Pc f (nI (d + 1)) (16777215 &&& (nI X ^^^ (-1))) (stQ x (p + 1) I))
      rw [mkN_eq]
      have hX' : mkN X = 0 ∨ mkN X = 16777215 := by
        rcases hX with e | e
        · rw [e]; exact Or.inr mkN_0
        · rw [e]; exact Or.inl mkN_f
      have eX : mkN X = X ^^^ 16777215 := by
        rcases hX with e | e
        · rw [e, mkN_0]; rfl
        · rw [e, mkN_f]; rfl
      obtain ⟨v, hv, hm⟩ := ih (d + 1) (p + 1) f (mkN X) (by omega) (by omega) (by omega) (by omega) hX' (fun d' p' a b => hE d' p' (by omega) b)
      generalize qP0 tx len E g (d + 1) (p + 1) = r at hv hm ⊢
      obtain ⟨r1, r2⟩ := r
      cases r1 with
      | none => exact ⟨v, hv, fun cs z => by cases z⟩
      | some cs =>
        refine ⟨v, hv, fun cs' z b y e8 e9 b1 y1 => ?_⟩
        cases z
        obtain ⟨m, m1, m2⟩ := hm cs rfl b y e8 e9 b1 y1
        refine ⟨16777215 ^^^ m, by rw [m1, eX, Nat.xor_assoc], fullX m m2.1, fun hh h24 st => ?_⟩
        rw [runN_app, m2.2 hh h24, Nat.testBit_xor, full_bit h24]
        cases m.testBit hh <;> rfl
    rw [if_neg c1, if_neg (show ¬ (d < 4 ∧ qNx tx len p = 33) from fun e => c1 e.2)]
    unfold f_X4_readPart_41
    rw [if_neg (show ¬ 4 ≤ nI d by rw [L4, nI_leI (by omega) (by omega)]; exact c4), c_next h (by omega), obs]
    by_cases c2 : qNx tx len p = 40
    · have hlt := qNx_lt c2 (by decide)
      rw [if_pos c2, if_pos (show d < 4 ∧ qNx tx len p = 40 from ⟨by omega, c2⟩), stQ_in h, obs, L1, nI_add]
      obtain ⟨v, hv, hm⟩ := hE (d + 1) (p + 1) (by omega) (by omega) (by omega)
      have ok := hEok (d + 1) (p + 1)
      rw [hv, obs]
      generalize E (d + 1) (p + 1) = r at hv hm ok ⊢
      obtain ⟨r1, r2⟩ := r
      dsimp only at hm ok ⊢
      cases r1 with
      | none =>
        dsimp only
        show CRX x X (none, r2) I (Option.bind (f_X4_take K R (x + 1) 41 (ftQ x r2 I)) _)
        rw [c_takeF (by decide), obs]
        exact ⟨_, rfl, fun cs z => by cases z⟩
      | some cs =>
        have r2l := (ok.2.2 cs rfl).2.1
        dsimp only at r2l ⊢
        show CRX x X _ I (Option.bind (f_X4_take K R (x + 1) 41 (stQ x r2 I)) _)
        rw [c_take h (by omega), obs]
        by_cases c3 : qNx tx len r2 = 41
        · rw [if_pos c3, if_pos c3]
          refine ⟨_, rfl, fun cs' z b y e8 e9 b1 y1 => ?_⟩
          cases z
          obtain ⟨m, m1, m2⟩ := hm cs rfl b y e8 e9 b1 y1
          exact ⟨m, by rw [m1, Nat.zero_xor, mkX], m2⟩
        · rw [if_neg c3, if_neg c3]
          exact ⟨_, rfl, fun cs z => by cases z⟩
    · rw [if_neg c2, if_neg (show ¬ (d < 4 ∧ qNx tx len p = 40) from fun e => c2 e.2)]
      exact p85
/-- the masks of or and and -/
def MKo (b y : Nat) (o : Bool) (cs : List Nat) (a c : Nat) : Prop := a < 2 ^ 24 ∧ c < 2 ^ 24 ∧ (o = false → a = 0) ∧ ∀ h, h < 24 → ∀ st, runN h b y cs st = some (c.testBit h :: (if o = true then a.testBit h :: st else st))
theorem MKo_end {b y a c : Nat} {o : Bool} {cs : List Nat} (h : MKo b y o cs a c) : MKb b y (cs ++ qOr o) (a ||| c) := by
  obtain ⟨h1, h2, h3, h4⟩ := h
  refine ⟨Nat.or_lt_two_pow h1 h2, fun hh h24 st => ?_⟩
  rw [runN_app, h4 hh h24, Nat.testBit_or]
  cases o with
  | true => rfl
  | false =>
    rw [h3 rfl, zero_bit, Bool.false_or]
    rfl
theorem c_e11 (h : RB x tx len K I R) {Ec Pc : Nat → Int32 → Im → Option (Int32 × Im)} {P : Nat → Nat → QRes} (hd : d ≤ 4) (hPok : ∀ d p, qOK len p (P d p)) (hP : ∀ p, p ≤ len → CRX x 0 (P d p) I (Pc (x + 1) (nI d) (stQ x p I))) : ∀ (g p f k : Nat) (o : Bool) (cs : List Nat) (x2 x3 : Int32), g + k = 101 → k < p → p ≤ len → g + 1 < f → (∀ b y, I (x + 1) 8 = nI b → I (x + 1) 9 = nI y → b ≤ 100 → y ≤ 100 → ∃ a c, x2 = nI a ∧ x3 = nI c ∧ MKo b y o cs a c) → CRX x 0 (qL0 tx len P g d o cs p) I (f_X4_readEither_11 K R (x + 1) Ec Pc f (nI d) x2 x3 (nI k) (stQ x p I)) := by
  have hlen := h.2.1
  intro g
  induction g with
  | zero => intro p f k o cs x2 x3 e1 e2 e3; omega
  | succ g ih =>
    intro p f k o cs x2 x3 e1 e2 e3 e4 hm
    obtain ⟨f, rfl⟩ : ∃ f', f = f' + 1 := ⟨f - 1, by omega⟩
    obtain ⟨f', hf'⟩ : ∃ f', f = f' + 1 := ⟨f - 1, by omega⟩
    rw [f_X4_readEither_11, if_neg (show ¬ 100 ≤ nI k by rw [L100, nI_leI (by omega) (by omega)]; omega), c_next h (by omega), obs, obs]
    unfold qL0
    have ok := hPok d (p + 1)
    by_cases c1 : qNx tx len p = 124
    · have hlt := qNx_lt c1 (by decide)
      obtain ⟨v, hv, hmm⟩ := hP (p + 1) (by omega)
      rw [if_pos c1, if_pos c1]
      unfold f_X4_readEither_36
      rw [c_next h (by omega), obs, if_pos c1]
      unfold f_X4_readEither_50
      rw [stQ_in h, obs, hv, obs, if_neg (by decide)]
      unfold f_X4_readEither_80
      rw [if_neg (by decide)]
      unfold f_X4_readEither_96
      generalize P d (p + 1) = r at hv hmm ok ⊢
      obtain ⟨r1, r2⟩ := r
      dsimp only at hmm ok ⊢
      cases r1 with
      | none =>
        dsimp only
        rw [hf']
        exact ⟨_, c_e11F _ _, fun cs z => by cases z⟩
      | some c2 =>
        obtain ⟨ok1, ok2, -⟩ := ok.2.2 c2 rfl
        dsimp only at ok1 ok2 ⊢
        rw [L1, nI_add]
        refine ih r2 f (k + 1) true (cs ++ qOr o ++ c2) (x2 ||| x3) v (by omega) (by omega) ok2 (by omega) (fun b y e8 e9 b1 y1 => ?_)
        obtain ⟨a, c, a1, a2, a3⟩ := hm b y e8 e9 b1 y1
        obtain ⟨m, m1, m2⟩ := hmm c2 rfl b y e8 e9 b1 y1
        have me := MKo_end a3
        refine ⟨a ||| c, m, by rw [a1, a2, mkO], by rw [m1, Nat.zero_xor], me.1, m2.1, (fun z => by cases z), fun hh h24 st => ?_⟩
        rw [runN_app, me.2 hh h24]
        exact m2.2 hh h24 _
    rw [if_neg c1, if_neg c1]
    by_cases c2 : qNx tx len p = 38
    · have hlt := qNx_lt c2 (by decide)
      obtain ⟨v, hv, hmm⟩ := hP (p + 1) (by omega)
      rw [if_pos c2, if_pos c2]
      unfold f_X4_readEither_36
      rw [c_next h (by omega), obs, if_neg c1]
      unfold f_X4_readEither_50
      rw [stQ_in h, obs, hv, obs, if_pos rfl]
      unfold f_X4_readEither_80
      rw [if_pos rfl]
      unfold f_X4_readEither_96
      generalize P d (p + 1) = r at hv hmm ok ⊢
      obtain ⟨r1, r2⟩ := r
      dsimp only at hmm ok ⊢
      cases r1 with
      | none =>
        dsimp only
        rw [hf']
        exact ⟨_, c_e11F _ _, fun cs z => by cases z⟩
      | some c2' =>
        obtain ⟨ok1, ok2, -⟩ := ok.2.2 c2' rfl
        dsimp only at ok1 ok2 ⊢
        rw [L1, nI_add]
        refine ih r2 f (k + 1) o (cs ++ c2' ++ [1]) (x2 ||| nI 0) (x3 &&& v) (by omega) (by omega) ok2 (by omega) (fun b y e8 e9 b1 y1 => ?_)
        obtain ⟨a, c, a1, a2, a3, a4, a5, a6⟩ := hm b y e8 e9 b1 y1
        obtain ⟨m, m1, m2⟩ := hmm c2' rfl b y e8 e9 b1 y1
        refine ⟨a, c &&& m, by rw [a1, mkO, Nat.or_zero], by rw [a2, m1, Nat.zero_xor, mkA], a3, Nat.lt_of_le_of_lt Nat.and_le_left a4, a5, fun hh h24 st => ?_⟩
        rw [runN_app, runN_app, a6 hh h24, Option.bind_some, m2.2 hh h24, Nat.testBit_and]
        rfl
    · rw [if_neg c2, if_neg c2]
      refine ⟨x2 ||| x3, rfl, fun cs' z b y e8 e9 b1 y1 => ?_⟩
      cases z
      obtain ⟨a, c, a1, a2, a3⟩ := hm b y e8 e9 b1 y1
      exact ⟨a ||| c, by rw [a1, a2, mkO, Nat.zero_xor], MKo_end a3⟩
theorem c_EP (h : RB x tx len K I R) : ∀ F, (∀ d p, d ≤ 4 → 2 * (4 - d) + 2 ≤ F → p ≤ len → CRX x 0 ((qEP tx len F).1 d p) I ((F_X4_EP K R F).1 (x + 1) (nI d) (stQ x p I))) ∧ ∀ d p, d ≤ 4 → 2 * (4 - d) + 1 ≤ F → p ≤ len → CRX x 0 ((qEP tx len F).2 d p) I ((F_X4_EP K R F).2 (x + 1) (nI d) (stQ x p I)) := by
  intro F
  induction F with
  | zero => exact ⟨fun d p _ hh => by omega, fun d p _ hh => by omega⟩
  | succ F ih =>
    have hlen := h.2.1
    refine ⟨fun d p hd hF hp => ?_, fun d p hd hF hp => ?_⟩
    · show CRX x 0 (qE0 tx len (qEP tx len F).2 d p) I (f_X4_readEither_0 K R (x + 1) (F_X4_EP K R F).1 (F_X4_EP K R F).2 (nI d) (stQ x p I))
      obtain ⟨v, hv, hm⟩ := ih.2 d p hd (by omega) hp
      have ok := (qEP_ok (tx := tx) (len := len) F).2 d p
      unfold f_X4_readEither_0 qE0
      rw [hv, obs]
      generalize (qEP tx len F).2 d p = r at hv hm ok ⊢
      obtain ⟨r1, r2⟩ := r
      dsimp only at hm ok ⊢
      cases r1 with
      | none =>
        dsimp only
        obtain ⟨f, hf⟩ : ∃ f, FU = f + 1 := ⟨FU - 1, by have := FU_lt (n := 5) (by omega); omega⟩
        rw [hf]
        exact ⟨_, c_e11F _ _, fun cs z => by cases z⟩
      | some cs =>
        obtain ⟨ok1, ok2, -⟩ := ok.2.2 cs rfl
        dsimp only at ok1 ok2 ⊢
        refine c_e11 h hd (qEP_ok F).2 (fun p' hp' => ih.2 d p' hd (by omega) hp') 101 r2 FU 0 false cs (nI 0) v (by omega) (by omega) ok2 (FU_lt (by omega)) (fun b y e8 e9 b1 y1 => ?_)
        obtain ⟨m, m1, m2⟩ := hm cs rfl b y e8 e9 b1 y1
        exact ⟨0, m, rfl, by rw [m1, Nat.zero_xor], by omega, m2.1, fun _ => rfl, fun hh h24 st => m2.2 hh h24 st⟩
    · show CRX x 0 (qP0 tx len (qEP tx len F).1 5 d p) I (f_X4_readPart_0 K R (x + 1) (F_X4_EP K R F).1 (F_X4_EP K R F).2 (nI d) (stQ x p I))
      unfold f_X4_readPart_0
      have key : ∀ d' p', d < d' → d' ≤ 4 → p' ≤ len → CRX x 0 ((qEP tx len F).1 d' p') I ((F_X4_EP K R F).1 (x + 1) (nI d') (stQ x p' I)) := fun d' p' a b c => ih.1 d' p' b (by omega) c
      exact c_part4 h (qEP_ok F).1 5 d p FU 0 hd (by omega) hp (FU_lt (by omega)) (Or.inl rfl) key
end
