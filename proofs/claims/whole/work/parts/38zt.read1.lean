/-! the class' masks of hours -/
theorem mkA (a b : Nat) : nI a &&& nI b = nI (a &&& b) := by
  apply Int32.toBitVec_inj.mp
  show BitVec.ofNat 32 a &&& BitVec.ofNat 32 b = BitVec.ofNat 32 (a &&& b)
  apply BitVec.eq_of_getLsbD_eq
  intro i hi
  simp [hi]
theorem mkO (a b : Nat) : nI a ||| nI b = nI (a ||| b) := by
  apply Int32.toBitVec_inj.mp
  show BitVec.ofNat 32 a ||| BitVec.ofNat 32 b = BitVec.ofNat 32 (a ||| b)
  apply BitVec.eq_of_getLsbD_eq
  intro i hi
  simp [hi]
theorem mkX (a b : Nat) : nI a ^^^ nI b = nI (a ^^^ b) := by
  apply Int32.toBitVec_inj.mp
  show BitVec.ofNat 32 a ^^^ BitVec.ofNat 32 b = BitVec.ofNat 32 (a ^^^ b)
  apply BitVec.eq_of_getLsbD_eq
  intro i hi
  simp [hi]
theorem full_bit {h : Nat} (hh : h < 24) : Nat.testBit 16777215 h = true := by
  rw [show 16777215 = 2 ^ 24 - 1 by decide, Nat.testBit_two_pow_sub_one]
  exact decide_eq_true hh
theorem full32 {h : Nat} (hh : h < 32) : Nat.testBit 4294967295 h = true := by
  rw [show 4294967295 = 2 ^ 32 - 1 by decide, Nat.testBit_two_pow_sub_one]
  exact decide_eq_true hh
def mkN (a : Nat) : Nat := 16777215 &&& (a ^^^ 4294967295)
theorem mkN_eq (a : Nat) : (16777215 : Int32) &&& (nI a ^^^ (-1)) = nI (mkN a) := by
  rw [show (16777215 : Int32) = nI 16777215 from rfl, show (-1 : Int32) = nI 4294967295 by decide, mkX, mkA]
  rfl
theorem mkN_bit {a h : Nat} (hh : h < 24) : (mkN a).testBit h = !a.testBit h := by
  unfold mkN
  rw [Nat.testBit_and, Nat.testBit_xor, full_bit hh, full32 (by omega)]
  cases a.testBit h <;> rfl
theorem mkN_lt (a : Nat) : mkN a < 2 ^ 24 := by
  unfold mkN
  exact Nat.lt_of_le_of_lt Nat.and_le_left (by decide)
def MKb (b y : Nat) (cs : List Nat) (m : Nat) : Prop := m < 2 ^ 24 ∧ ∀ h, h < 24 → ∀ st, runN h b y cs st = some (m.testBit h :: st)
def hbN (n : Nat) : Nat := if n < 24 then 2 ^ n - 1 else 16777215
theorem hbN_lt (n : Nat) : hbN n < 2 ^ 24 := by
  unfold hbN
  split
  · have := Nat.pow_le_pow_right (n := 2) (by omega) (show n ≤ 24 by omega)
    omega
  · decide
theorem hbN_bit {n h : Nat} (hh : h < 24) : (hbN n).testBit h = decide (h < n) := by
  unfold hbN
  split
  · exact Nat.testBit_two_pow_sub_one ..
  · rw [full_bit hh]
    exact (decide_eq_true (by omega)).symm
theorem hb_eq {n : Nat} (hn : n ≤ 200) : f_X4_hoursBelow (nI n) = some (nI (hbN n)) := by
  unfold f_X4_hoursBelow hbN
  by_cases c : n < 24
  · rw [if_pos (show nI n < 24 by rw [L24, nI_ltI (by omega) (by omega)]; exact c), if_pos c]
    have : ∀ n, n < 24 → (ishl 1 (nI n)) - 1 = nI (2 ^ n - 1) := by decide
    rw [this n c]
  · rw [if_neg (show ¬ nI n < 24 by rw [L24, nI_ltI (by omega) (by omega)]; exact c), if_neg c]
    rfl
def thQ (op n : Nat) : Nat := if op = 0 then hbN n else if op = 2 then mkN (hbN (n + 1)) else hbN (n + 1) &&& (hbN n ^^^ 4294967295)
theorem thQ_lt (op n : Nat) : thQ op n < 2 ^ 24 := by
  unfold thQ
  split
  · exact hbN_lt n
  · split
    · exact mkN_lt _
    · exact Nat.lt_of_le_of_lt Nat.and_le_left (hbN_lt _)
theorem thQ_bit {op n h : Nat} (hop : op ≤ 2) (hh : h < 24) : (thQ op n).testBit h = cmpN op h n := by
  unfold thQ cmpN
  by_cases c0 : op = 0
  · rw [if_pos c0, if_pos c0, hbN_bit hh]
  rw [if_neg c0, if_neg c0]
  by_cases c2 : op = 2
  · rw [if_pos c2, if_neg (by omega), mkN_bit hh, hbN_bit hh]
    by_cases c : h < n + 1
    · rw [decide_eq_true c, decide_eq_false (by omega)]; rfl
    · rw [decide_eq_false c, decide_eq_true (by omega)]; rfl
  · rw [if_neg c2, if_pos (by omega), Nat.testBit_and, Nat.testBit_xor, hbN_bit hh, hbN_bit hh, full32 (by omega)]
    by_cases c : h = n
    · rw [decide_eq_true (show h < n + 1 by omega), decide_eq_false (show ¬ h < n by omega), decide_eq_true c]; rfl
    · rw [decide_eq_false c]
      by_cases d : h < n
      · rw [decide_eq_true (show h < n + 1 by omega), decide_eq_true d]; rfl
      · rw [decide_eq_false (show ¬ h < n + 1 by omega)]; rfl
theorem th_eq {K : Sh} {op n : Nat} (hop : op ≤ 2) (hn : n ≤ 99) : f_X4_hoursThat K (nI (60 + op)) (nI n) = some (nI (thQ op n)) := by
  unfold f_X4_hoursThat thQ
  by_cases c0 : op = 0
  · rw [if_pos (show nI (60 + op) = 60 by rw [c0]; rfl), hb_eq (by omega), obs, if_pos c0]
  rw [if_neg (show ¬ nI (60 + op) = 60 by rw [L60, nI_eq (by omega) (by omega)]; omega), if_neg c0]
  by_cases c2 : op = 2
  · rw [if_pos (show nI (60 + op) = 62 by rw [c2]; rfl), L1, nI_add, hb_eq (by omega), obs, if_pos c2]
    show some ((16777215 : Int32) &&& (nI (hbN (n + 1)) ^^^ (-1))) = _
    rw [mkN_eq]
  · rw [if_neg (show ¬ nI (60 + op) = 62 by rw [L62, nI_eq (by omega) (by omega)]; omega), L1, nI_add, hb_eq (by omega), obs, hb_eq (by omega), obs, if_neg c2]
    show some (nI (hbN (n + 1)) &&& (nI (hbN n) ^^^ (-1))) = _
    rw [show (-1 : Int32) = nI 4294967295 by decide, mkX, mkA]
theorem ma_eq {v op n : Nat} (hop : op ≤ 2) (hn : n ≤ 99) (hv : v ≤ 1000) : f_X4_matches (nI v) (nI (60 + op)) (nI n) = some (bI (cmpN op v n)) := by
  unfold f_X4_matches cmpN
  by_cases c0 : op = 0
  · rw [if_pos (show nI (60 + op) = 60 by rw [c0]; rfl), if_pos c0]
    by_cases c : n ≤ v
    · rw [if_pos (by rw [nI_leI (by omega) (by omega)]; exact c), decide_eq_false (by omega)]; rfl
    · rw [if_neg (by rw [nI_leI (by omega) (by omega)]; exact c), decide_eq_true (by omega)]; rfl
  rw [if_neg (show ¬ nI (60 + op) = 60 by rw [L60, nI_eq (by omega) (by omega)]; omega), if_neg c0]
  by_cases c2 : op = 2
  · rw [if_pos (show nI (60 + op) = 62 by rw [c2]; rfl), if_neg (show ¬ op = 1 by omega)]
    by_cases c : v ≤ n
    · rw [if_pos (by rw [nI_leI (by omega) (by omega)]; exact c), decide_eq_false (by omega)]; rfl
    · rw [if_neg (by rw [nI_leI (by omega) (by omega)]; exact c), decide_eq_true (by omega)]; rfl
  · rw [if_neg (show ¬ nI (60 + op) = 62 by rw [L62, nI_eq (by omega) (by omega)]; omega), if_pos (show op = 1 by omega)]
    by_cases c : v = n
    · rw [if_pos (by rw [c]), decide_eq_true c]; rfl
    · rw [if_neg (by rw [nI_eq (by omega) (by omega)]; exact c), decide_eq_false c]; rfl
theorem ts_cmp {pl op n h b y : Nat} (hpl : pl ≤ 2) (hop : op ≤ 2) (hn : n ≤ 99) : tsN (1000 * pl + 100 * op + n) h b y = cmpN op (if pl = 0 then h % 24 else if pl = 1 then b else y) n := by
  unfold tsN
  have e1 : (1000 * pl + 100 * op + n) / 100 % 10 = op := by omega
  have e2 : (1000 * pl + 100 * op + n) % 100 = n := by omega
  rw [e1, e2]
  congr 1
  by_cases c0 : pl = 0
  · rw [if_pos (by omega), if_pos c0]
  · rw [if_neg (by omega), if_neg c0]
    by_cases c1 : pl = 1
    · rw [if_pos (by omega), if_pos c1]
    · rw [if_neg (by omega), if_neg c1]
/-- the class' reader: at p and sound; at p and at fault -/
def stQ (x p : Nat) (I : Im) : Im := u2 I (x + 1) 2 (nI p)
def ftQ (x p : Nat) (I : Im) : Im := u2 (u2 I (x + 1) 2 (nI p)) (x + 1) 3 0
def oQ (x : Nat) (ok : Bool) (p : Nat) (I : Im) : Im := if ok = true then stQ x p I else ftQ x p I
theorem u2_same {α : Type} {f : Nat → Nat → α} {a k : Nat} {v w : α} : u2 (u2 f a k v) a k w = u2 f a k w := by
  funext b j
  unfold u2
  by_cases c : b = a ∧ j = k
  · rw [if_pos c, if_pos c]
  · rw [if_neg c, if_neg c, if_neg c]
def RB (x : Nat) (tx : Nat → Int32) (len : Nat) (K : Sh) (I : Im) (R : Rf) : Prop := S4 (x + 1) K R ∧ len ≤ 100 ∧ I (x + 1) 1 = nI len ∧ I (x + 1) 3 = 1 ∧ ∀ j, j < len → I (x + 2) j = tx j
section
variable {x p p' len d f : Nat} {tx : Nat → Int32} {K : Sh} {I : Im} {R : Rf} {c : Int32}
theorem stQ_st : u2 (stQ x p I) (x + 1) 2 (nI p') = stQ x p' I := u2_same
theorem stQ_ft : u2 (stQ x p I) (x + 1) 3 0 = ftQ x p I := rfl
theorem ftQ_ft : u2 (ftQ x p I) (x + 1) 3 0 = ftQ x p I := u2_same
theorem stQ_at : stQ x p I (x + 1) 2 = nI p := u2_eq _ _ _ _
theorem ftQ_at : ftQ x p I (x + 1) 2 = nI p := by
  unfold ftQ
  rw [u2_ne (by omega), u2_eq]
theorem stQ_f {k : Nat} (hk : k ≠ 2) : stQ x p I (x + 1) k = I (x + 1) k := u2_ne hk
theorem ftQ_f {k : Nat} (hk : k ≠ 2) (hk3 : k ≠ 3) : ftQ x p I (x + 1) k = I (x + 1) k := by
  unfold ftQ
  rw [u2_ne hk3, u2_ne hk]
theorem stQ_r {z : Nat} (hz : z ≠ x + 1) : stQ x p I z = I z := u2_row hz
theorem ftQ_r {z : Nat} (hz : z ≠ x + 1) : ftQ x p I z = I z := by
  unfold ftQ
  rw [u2_row hz, u2_row hz]
theorem oQ_r {ok : Bool} {z : Nat} (hz : z ≠ x + 1) : oQ x ok p I z = I z := by
  unfold oQ
  split
  · exact stQ_r hz
  · exact ftQ_r hz
theorem oQ_f {ok : Bool} {k : Nat} (hk : k ≠ 2) (hk3 : k ≠ 3) : oQ x ok p I (x + 1) k = I (x + 1) k := by
  unfold oQ
  split
  · exact stQ_f hk
  · exact ftQ_f hk hk3
theorem oQ_at {ok : Bool} : oQ x ok p I (x + 1) 2 = nI p := by
  unfold oQ
  split
  · exact stQ_at
  · exact ftQ_at
theorem stQ_in (h : RB x tx len K I R) : u2 (stQ x p I) (x + 1) 2 ((stQ x p I (x + 1) 2) + 1) = stQ x (p + 1) I := by
  rw [stQ_at, L1, nI_add, stQ_st]
theorem c_next (h : RB x tx len K I R) (hp : p ≤ 1000) : f_X4_next K (stQ x p I) R (x + 1) = some (qNx tx len p) := by
  obtain ⟨h1, h2, h3, h4, h5⟩ := h
  unfold f_X4_next qNx
  rw [stQ_f (by omega), h4, if_neg (by decide), stQ_f (by omega), h3, stQ_at]
  by_cases q : p < len
  · rw [if_neg (by rw [nI_leI (by omega) (by omega)]; omega), l4_0 h1 (by omega), obs, if_pos q, stQ_r (by omega)]
    exact congrArg some (h5 p q)
  · rw [if_pos (by rw [nI_leI (by omega) (by omega)]; omega), if_neg q]
theorem c_nextF : f_X4_next K (ftQ x p I) R (x + 1) = some (-1) := by
  unfold f_X4_next
  rw [if_pos (show ftQ x p I (x + 1) 3 = 0 from u2_eq _ _ _ _)]
theorem c_take (h : RB x tx len K I R) (hp : p ≤ 1000) : f_X4_take K R (x + 1) c (stQ x p I) = some (if qNx tx len p = c then stQ x (p + 1) I else ftQ x p I) := by
  unfold f_X4_take
  rw [c_next h hp, obs]
  by_cases q : qNx tx len p = c
  · rw [if_pos q, if_pos q, stQ_in h]
    rfl
  · rw [if_neg q, if_neg q, stQ_ft]
    rfl
theorem c_takeF (hc : c ≠ -1) : f_X4_take K R (x + 1) c (ftQ x p I) = some (ftQ x p I) := by
  unfold f_X4_take
  rw [c_nextF, obs, if_neg (fun e => hc e.symm), ftQ_ft]
  rfl
theorem c_n53 {r : Int32 → Int32 → Int32 → Im → Option (Int32 × Im)} {a b : Int32} {k : Nat} {I' : Im} : f_X4_readNumber_53 K R (x + 1) r a b (nI (k + 1)) I' = some (b, I') ∨ k + 1 ≥ 1000 := by
  by_cases q : k + 1 < 1000
  · refine Or.inl ?_
    unfold f_X4_readNumber_53
    rw [if_neg (by rw [L0, nI_eq (by omega) (by omega)]; omega)]
  · exact Or.inr (by omega)
theorem c_numF (k : Nat) (hk : k = 1 ∨ k = 2) : ∃ v, f_X4_readNumber K R (x + 1) (nI k) (ftQ x p I) = some (v, ftQ x p I) := by
  obtain ⟨f, hf⟩ : ∃ f, FU = f + 1 + 1 := ⟨FU - 2, by have := FU_lt (n := 5) (by omega); omega⟩
  unfold f_X4_readNumber
  rw [hf, show (0 : Int32) = nI 0 from rfl]
  have s1 : ∃ v, f_X4_readNumber_4 K R (x + 1) (f + 1) (nI k) (nI 0) (nI 1) (ftQ x p I) = some (v, ftQ x p I) := by
    rw [f_X4_readNumber_4]
    by_cases q : k ≤ 1
    · rw [if_pos (by rw [nI_leI (by omega) (by omega)]; exact q)]
      exact ⟨_, rfl⟩
    · rw [if_neg (by rw [nI_leI (by omega) (by omega)]; exact q), c_nextF, obs, if_pos (by decide)]
      rcases c_n53 (K := K) (R := R) (x := x) (r := f_X4_readNumber_4 K R (x + 1) f) (a := nI k) (b := nI 0) (k := 0) (I' := ftQ x p I) with e | e
      · exact ⟨_, e⟩
      · omega
  obtain ⟨v, hv⟩ := s1
  refine ⟨v, ?_⟩
  rw [f_X4_readNumber_4, if_neg (by rw [nI_leI (by omega) (by omega)]; omega), c_nextF, obs, if_pos (by decide)]
  unfold f_X4_readNumber_53
  rw [if_pos (show nI 0 = 0 from rfl), ftQ_ft, obs, L1, nI_add]
  exact hv
theorem c_num_none (h : RB x tx len K I R) (hp : p ≤ 1000) (hk : d = 1 ∨ d = 2) (hq : qDg (qNx tx len p) = none) : ∃ v, f_X4_readNumber K R (x + 1) (nI d) (stQ x p I) = some (v, ftQ x p I) := by
  obtain ⟨f, hf⟩ : ∃ f, FU = f + 1 + 1 := ⟨FU - 2, by have := FU_lt (n := 5) (by omega); omega⟩
  have q := qDg_none hq
  have s1 : ∃ v, f_X4_readNumber_4 K R (x + 1) (f + 1) (nI d) (nI 0) (nI 1) (ftQ x p I) = some (v, ftQ x p I) := by
    rw [f_X4_readNumber_4]
    by_cases q : d ≤ 1
    · rw [if_pos (by rw [nI_leI (by omega) (by omega)]; exact q)]
      exact ⟨_, rfl⟩
    · rw [if_neg (by rw [nI_leI (by omega) (by omega)]; exact q), c_nextF, obs, if_pos (by decide)]
      rcases c_n53 (K := K) (R := R) (x := x) (r := f_X4_readNumber_4 K R (x + 1) f) (a := nI d) (b := nI 0) (k := 0) (I' := ftQ x p I) with e | e
      · exact ⟨_, e⟩
      · omega
  obtain ⟨v, hv⟩ := s1
  refine ⟨v, ?_⟩
  have p53 : f_X4_readNumber_53 K R (x + 1) (f_X4_readNumber_4 K R (x + 1) (f + 1)) (nI d) (nI 0) (nI 0) (stQ x p I) = some (v, ftQ x p I) := by
    unfold f_X4_readNumber_53
    rw [if_pos (show nI 0 = 0 from rfl), stQ_ft, obs, L1, nI_add]
    exact hv
  unfold f_X4_readNumber
  rw [hf, show (0 : Int32) = nI 0 from rfl, f_X4_readNumber_4, if_neg (by rw [nI_leI (by omega) (by omega)]; omega), c_next h hp, obs]
  rcases q with q | q
  · rw [if_pos q]; exact p53
  · by_cases q2 : qNx tx len p < 48
    · rw [if_pos q2]; exact p53
    · rw [if_neg q2, if_pos q]; exact p53
theorem dg_in {a : Nat} (h : qDg (qNx tx len p) = some a) : ¬ (qNx tx len p < 48) ∧ ¬ (57 < qNx tx len p) ∧ qNx tx len p = nI (48 + a) ∧ a ≤ 9 := by
  obtain ⟨-, h2, h3⟩ := qDg_lt h
  rw [h3]
  exact ⟨by rw [L48, nI_ltI (by omega) (by omega)]; omega, by rw [L57, nI_ltI (by omega) (by omega)]; omega, rfl, h2⟩
theorem dg_val {a v : Nat} : nI v * 10 + nI (48 + a) - 48 = nI (10 * v + a) := by
  rw [L10, pk_mul, nI_add, L48, pk_sub (by omega), show v * 10 + (48 + a) - 48 = 10 * v + a by omega]
theorem c_num1 (h : RB x tx len K I R) (hp : p ≤ 1000) : ∃ v, f_X4_readNumber K R (x + 1) 1 (stQ x p I) = some (v, oQ x (qN1 tx len p).1.isSome (qN1 tx len p).2 I) ∧ ∀ a, (qN1 tx len p).1 = some a → v = nI a := by
  unfold qN1
  cases q : qDg (qNx tx len p) with
  | none =>
    obtain ⟨v, hv⟩ := c_num_none (d := 1) h hp (Or.inl rfl) q
    exact ⟨v, hv, fun a z => by cases z⟩
  | some a =>
    obtain ⟨f, hf⟩ : ∃ f, FU = f + 1 + 1 := ⟨FU - 2, by have := FU_lt (n := 5) (by omega); omega⟩
    obtain ⟨d1, d2, d3, d4⟩ := dg_in q
    refine ⟨nI a, ?_, fun b z => by cases z; rfl⟩
    unfold f_X4_readNumber
    rw [hf, show (0 : Int32) = nI 0 from rfl, L1, f_X4_readNumber_4, if_neg (by decide), c_next h hp, obs, if_neg d1, if_neg d2, ← L1, stQ_in h, obs, d3, dg_val, f_X4_readNumber_4, L1, nI_add, if_pos (Int32.le_refl _)]
    show some (nI (10 * 0 + a), _) = some (nI a, _)
    rw [show 10 * 0 + a = a by omega]
    rfl
theorem c_num2 (h : RB x tx len K I R) (hp : p ≤ 900) : ∃ v, f_X4_readNumber K R (x + 1) 2 (stQ x p I) = some (v, oQ x (qN2 tx len p).1.isSome (qN2 tx len p).2 I) ∧ ∀ a, (qN2 tx len p).1 = some a → v = nI a := by
  unfold qN2
  cases q : qDg (qNx tx len p) with
  | none =>
    obtain ⟨v, hv⟩ := c_num_none (d := 2) h (by omega) (Or.inr rfl) q
    exact ⟨v, hv, fun a z => by cases z⟩
  | some a =>
    obtain ⟨f, hf⟩ : ∃ f, FU = f + 1 + 1 + 1 := ⟨FU - 3, by have := FU_lt (n := 5) (by omega); omega⟩
    obtain ⟨d1, d2, d3, d4⟩ := dg_in q
    have s1 : f_X4_readNumber K R (x + 1) 2 (stQ x p I) = f_X4_readNumber_4 K R (x + 1) (f + 1 + 1) (nI 2) (nI a) (nI 1) (stQ x (p + 1) I) := by
      unfold f_X4_readNumber
      rw [hf, show (0 : Int32) = nI 0 from rfl, L2, f_X4_readNumber_4, if_neg (by decide), c_next h (by omega), obs, if_neg d1, if_neg d2, stQ_in h, obs, d3, dg_val, L1, nI_add]
      rw [show 10 * 0 + a = a by omega]
    rw [s1]
    dsimp only
    cases q2 : qDg (qNx tx len (p + 1)) with
    | none =>
      refine ⟨nI a, ?_, fun b z => by cases z; rfl⟩
      have p53 : f_X4_readNumber_53 K R (x + 1) (f_X4_readNumber_4 K R (x + 1) (f + 1)) (nI 2) (nI a) (nI 1) (stQ x (p + 1) I) = some (nI a, stQ x (p + 1) I) := by
        unfold f_X4_readNumber_53
        rw [if_neg (by decide)]
      rw [f_X4_readNumber_4, if_neg (by decide), c_next h (by omega), obs]
      rcases qDg_none q2 with e | e
      · rw [if_pos e]; exact p53
      · by_cases e2 : qNx tx len (p + 1) < 48
        · rw [if_pos e2]; exact p53
        · rw [if_neg e2, if_pos e]; exact p53
    | some b =>
      obtain ⟨g1, g2, g3, g4⟩ := dg_in q2
      refine ⟨nI (10 * a + b), ?_, fun b z => by cases z; rfl⟩
      rw [f_X4_readNumber_4, if_neg (by decide), c_next h (by omega), obs, if_neg g1, if_neg g2, stQ_in h, obs, g3, dg_val, L1, nI_add, f_X4_readNumber_4, if_pos (Int32.le_refl _)]
      rfl
end
