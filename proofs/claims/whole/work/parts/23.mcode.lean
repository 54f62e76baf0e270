/-! WHAT A TEXT'S TEST IS IN THE REFERENCE: a row of signs, run over a pile. 0 not, 1 and, 2 or, n + 3 a test n -/
def sI : Nat → Int32
  | 0 => -33
  | 1 => -38
  | 2 => -124
  | n + 3 => nI n
def bI (b : Bool) : Int32 := if b then 1 else 0
def cmpN (s v n : Nat) : Bool := if s = 0 then decide (v < n) else if s = 1 then decide (v = n) else decide (n < v)
def tsN (t hour beasts way : Nat) : Bool := cmpN (t / 100 % 10) (if t < 1000 then hour % 24 else if t < 2000 then beasts else way) (t % 100)
def opN (hour beasts way : Nat) : Nat → List Bool → Option (List Bool)
  | 0, a :: r => some ((!a) :: r)
  | 1, b :: a :: r => some ((a && b) :: r)
  | 2, b :: a :: r => some ((a || b) :: r)
  | n + 3, r => some (tsN n hour beasts way :: r)
  | _, _ => none
def runN (hour beasts way : Nat) : List Nat → List Bool → Option (List Bool)
  | [], st => some st
  | c :: cs, st => (opN hour beasts way c st).bind (runN hour beasts way cs)
theorem runN_app (hour beasts way : Nat) (a b : List Nat) (st : List Bool) : runN hour beasts way (a ++ b) st = (runN hour beasts way a st).bind (runN hour beasts way b) := by
  induction a generalizing st with
  | nil => rfl
  | cons c a ih =>
    simp only [List.cons_append, runN, Option.bind_assoc]
    congr 1
    funext s
    exact ih s
section
variable {o : Nat} {K : Sh} {R : Rf}
/-- the pile holds these, the last on top -/
def Pile (o : Nat) (I : Im) (st : List Bool) : Prop := ∀ j b, st.reverse[j]? = some b → I (o + 10) j = bI b
theorem Pile.push {I : Im} {st : List Bool} (h : Pile o I st) (b : Bool) : Pile o (u2 I (o + 10) st.length (bI b)) (b :: st) := by
  intro j c hj
  rw [List.reverse_cons] at hj
  by_cases q : j = st.length
  · subst q
    rw [List.getElem?_append_right (by simp)] at hj
    simp at hj
    rw [u2_eq, hj]
  · rw [u2_ne q]
    by_cases q2 : j < st.length
    · rw [List.getElem?_append_left (by simpa using q2)] at hj
      exact h j c hj
    · rw [List.getElem?_eq_none (by simp; omega)] at hj
      cases hj
theorem Pile.pop {I : Im} {a : Bool} {st : List Bool} (h : Pile o I (a :: st)) : Pile o I st := by
  intro j c hj
  refine h j c ?_
  rw [List.reverse_cons, List.getElem?_append_left]
  · exact hj
  · exact (List.getElem?_eq_some_iff.mp hj).1
theorem Pile.top {I : Im} {a : Bool} {st : List Bool} (h : Pile o I (a :: st)) : I (o + 10) st.length = bI a := by
  refine h st.length a ?_
  rw [List.reverse_cons, List.getElem?_append_right (by simp)]
  simp
theorem bI_and (b : Bool) : bI b &&& 1 = bI b := by cases b <;> rfl
theorem bI_andN (b : Bool) : bI b &&& nI 1 = bI b := bI_and b
theorem bI_1 : (nI 1 : Int32) = bI true := rfl
theorem bI_0 : (nI 0 : Int32) = bI false := rfl
theorem bI_eq0 (b : Bool) : bI b = nI 0 ↔ b = false := by cases b <;> decide
theorem idiv_nI {a b : Nat} (ha : a < 2 ^ 31) (hb : 0 < b) (hb2 : b < 2 ^ 31) : nI a / nI b = nI (a / b) := by
  apply Int32.toInt_inj.1
  rw [Int32.toInt_div, nI_toInt ha, nI_toInt hb2, nI_toInt (by have := Nat.div_le_self a b; omega), Int.tdiv_eq_ediv_of_nonneg (by omega)]
  rw [Int.bmod_eq_of_le (by have : (0 : Int) ≤ (a : Int) / b := Int.ediv_nonneg (by omega) (by omega); omega) (by have : (a : Int) / b ≤ a := Int.ediv_le_self _ (by omega); omega)]
  exact (Int.natCast_ediv a b).symm
theorem z17 (hM : S12 o K R) {I : Im} {n : Nat} (hn : n < 100) (b : Bool) : stZ K I (R o 17) (nI n) (bI b) = some (u2 I (o + 10) n (bI b)) := s12_17 hM hn (bI_and b)
theorem z17_0 (hM : S12 o K R) {I : Im} {n : Nat} (hn : n < 100) : stZ K I (R o 17) (nI n) (nI 0) = some (u2 I (o + 10) n (nI 0)) := z17 hM hn false
theorem z17_1 (hM : S12 o K R) {I : Im} {n : Nat} (hn : n < 100) : stZ K I (R o 17) (nI n) (nI 1) = some (u2 I (o + 10) n (nI 1)) := z17 hM hn true
theorem m_test (hM : S12 o K R) {r : Int32 → Int32 → Int32 → Int32 → Int32 → Int32 → Im → Option (Int32 × Im)} {x1 x2 x3 x4 : Int32} {I : Im} {n q t v : Nat} (hn : n < 100) (ht : t < 3000) (hv : v < 2 ^ 31) : f_X12_holdsTest_180 K R o r x1 x2 x3 x4 (nI n) (nI q) (nI t) (nI v) I = r x1 x2 x3 x4 (nI (n + 1)) (nI (q + 1)) (u2 I (o + 10) n (bI (cmpN (t / 100 % 10) v (t % 100)))) := by
  have c1 : t / 100 < 2 ^ 31 := by omega
  have go : ∀ b, cmpN (t / 100 % 10) v (t % 100) = b → f_X12_holdsTest_180 K R o r x1 x2 x3 x4 (nI n) (nI q) (nI t) (nI v) I = r x1 x2 x3 x4 (nI (n + 1)) (nI (q + 1)) (u2 I (o + 10) n (bI b)) := by
    intro b hb
    unfold cmpN at hb
    unfold f_X12_holdsTest_180 f_X12_holdsTest_260
    by_cases q0 : t / 100 % 10 = 0
    · rw [if_pos q0] at hb
      by_cases q1 : v < t % 100
      · rw [decide_eq_true q1] at hb; subst hb
        simp (disch := omega) only [L0, L1, L2, L3, L4, L5, L6, L7, L8, L9, L10, L11, L12, L13, L14, L15, L16, L17, L18, L19, L20, L21, L22, L23, L24, L25, L26, L27, L28, L29, L30, L31, L32, L33, L34, L35, L36, L37, L38, L39, L40, L48, L57, L59, L60, L62, L96, L97, L98, L99, L100, L104, L110, L119, L124, L500, L999, L1000, L2000, L3000, nI_add, pk_mul, pk_sub, nI_leI, nI_ltI, nI_eq, obs, u2_eq, u2_row, u2_ne, if_pos, if_neg, if_true, if_false, eq_self, irem_nI, idiv_nI, z17_0 hM, z17_1 hM]
        rfl
      · rw [decide_eq_false q1] at hb; subst hb
        simp (disch := omega) only [L0, L1, L2, L3, L4, L5, L6, L7, L8, L9, L10, L11, L12, L13, L14, L15, L16, L17, L18, L19, L20, L21, L22, L23, L24, L25, L26, L27, L28, L29, L30, L31, L32, L33, L34, L35, L36, L37, L38, L39, L40, L48, L57, L59, L60, L62, L96, L97, L98, L99, L100, L104, L110, L119, L124, L500, L999, L1000, L2000, L3000, nI_add, pk_mul, pk_sub, nI_leI, nI_ltI, nI_eq, obs, u2_eq, u2_row, u2_ne, if_pos, if_neg, if_true, if_false, eq_self, irem_nI, idiv_nI, z17_0 hM, z17_1 hM]
        rfl
    · rw [if_neg q0] at hb
      by_cases q2 : t / 100 % 10 = 1
      · rw [if_pos q2] at hb
        by_cases q1 : v = t % 100
        · rw [decide_eq_true q1] at hb; subst hb
          simp (disch := omega) only [L0, L1, L2, L3, L4, L5, L6, L7, L8, L9, L10, L11, L12, L13, L14, L15, L16, L17, L18, L19, L20, L21, L22, L23, L24, L25, L26, L27, L28, L29, L30, L31, L32, L33, L34, L35, L36, L37, L38, L39, L40, L48, L57, L59, L60, L62, L96, L97, L98, L99, L100, L104, L110, L119, L124, L500, L999, L1000, L2000, L3000, nI_add, pk_mul, pk_sub, nI_leI, nI_ltI, nI_eq, obs, u2_eq, u2_row, u2_ne, if_pos, if_neg, if_true, if_false, eq_self, irem_nI, idiv_nI, z17_0 hM, z17_1 hM]
          rfl
        · rw [decide_eq_false q1] at hb; subst hb
          simp (disch := omega) only [L0, L1, L2, L3, L4, L5, L6, L7, L8, L9, L10, L11, L12, L13, L14, L15, L16, L17, L18, L19, L20, L21, L22, L23, L24, L25, L26, L27, L28, L29, L30, L31, L32, L33, L34, L35, L36, L37, L38, L39, L40, L48, L57, L59, L60, L62, L96, L97, L98, L99, L100, L104, L110, L119, L124, L500, L999, L1000, L2000, L3000, nI_add, pk_mul, pk_sub, nI_leI, nI_ltI, nI_eq, obs, u2_eq, u2_row, u2_ne, if_pos, if_neg, if_true, if_false, eq_self, irem_nI, idiv_nI, z17_0 hM, z17_1 hM]
          rfl
      · rw [if_neg q2] at hb
        by_cases q1 : t % 100 < v
        · rw [decide_eq_true q1] at hb; subst hb
          simp (disch := omega) only [L0, L1, L2, L3, L4, L5, L6, L7, L8, L9, L10, L11, L12, L13, L14, L15, L16, L17, L18, L19, L20, L21, L22, L23, L24, L25, L26, L27, L28, L29, L30, L31, L32, L33, L34, L35, L36, L37, L38, L39, L40, L48, L57, L59, L60, L62, L96, L97, L98, L99, L100, L104, L110, L119, L124, L500, L999, L1000, L2000, L3000, nI_add, pk_mul, pk_sub, nI_leI, nI_ltI, nI_eq, obs, u2_eq, u2_row, u2_ne, if_pos, if_neg, if_true, if_false, eq_self, irem_nI, idiv_nI, z17_0 hM, z17_1 hM]
          rfl
        · rw [decide_eq_false q1] at hb; subst hb
          simp (disch := omega) only [L0, L1, L2, L3, L4, L5, L6, L7, L8, L9, L10, L11, L12, L13, L14, L15, L16, L17, L18, L19, L20, L21, L22, L23, L24, L25, L26, L27, L28, L29, L30, L31, L32, L33, L34, L35, L36, L37, L38, L39, L40, L48, L57, L59, L60, L62, L96, L97, L98, L99, L100, L104, L110, L119, L124, L500, L999, L1000, L2000, L3000, nI_add, pk_mul, pk_sub, nI_leI, nI_ltI, nI_eq, obs, u2_eq, u2_row, u2_ne, if_pos, if_neg, if_true, if_false, eq_self, irem_nI, idiv_nI, z17_0 hM, z17_1 hM]
          rfl
  exact go _ rfl
theorem l17 (hM : S12 o K R) {I : Im} {a : Bool} {st : List Bool} (h : Pile o I (a :: st)) (hn : st.length < 100) : ldZ K I (R o 17) (nI st.length) = some (bI a) := by
  rw [l12_17 hM hn, h.top]
theorem m_holds11 (hM : S12 o K R) {ci hour b y : Nat} {v : Bool} (hci : ci < 60) (hh : hour < 2 ^ 31) (hb : b < 2 ^ 31) (hy : y < 2 ^ 31) : ∀ (cs : List Nat) (k p : Nat) (I : Im) (st : List Bool), cs.length < k → I (o + 7) ci = nI (p + cs.length) → p + cs.length ≤ 500 → (∀ j c, cs[j]? = some c → I (o + 8) (p + j) = sI c ∧ c < 3003) → Pile o I st → st.length + cs.length ≤ 100 → runN hour b y cs st = some [v] →
    ∃ I', f_X12_holdsTest_11 K R o k (nI ci) (nI hour) (nI b) (nI y) (nI st.length) (nI p) I = some (bI v, I') ∧ FM o [10] [] I I' := by
  intro cs
  induction cs with
  | nil =>
    intro k p I st hk h7 hp hc hP hl hr
    obtain ⟨k, rfl⟩ : ∃ k', k = k' + 1 := ⟨k - 1, by simp at hk; omega⟩
    simp only [runN] at hr
    cases hr
    refine ⟨I, ?_, FM.refl⟩
    unfold f_X12_holdsTest_11
    have h0 := l17 hM hP (by simp)
    simp only [List.length_nil, Nat.add_zero] at h7 h0 hp
    simp (disch := omega) only [L0, L1, L2, L3, L4, L5, L6, L7, L8, L9, L10, L11, L12, L13, L14, L15, L16, L17, L18, L19, L20, L21, L22, L23, L24, L25, L26, L27, L28, L29, L30, L31, L32, L33, L34, L35, L36, L37, L38, L39, L40, L48, L57, L59, L60, L62, L96, L97, L98, L99, L100, L104, L110, L119, L124, L500, L999, L1000, L2000, L3000, nI_add, pk_mul, pk_sub, nI_leI, nI_ltI, nI_eq, obs, u2_eq, u2_row, u2_ne, if_pos, if_neg, if_true, if_false, eq_self, l12_11 hM hci, h7, h0]
    rw [if_pos (bI_andN v)]
    rfl
  | cons c cs ih =>
    intro k p I st hk h7 hp hc hP hl hr
    obtain ⟨k, rfl⟩ : ∃ k', k = k' + 1 := ⟨k - 1, by simp at hk; omega⟩
    simp only [List.length_cons] at hk h7 hp hl
    obtain ⟨c1, c2⟩ := hc 0 c rfl
    simp only [Nat.add_zero] at c1
    have nx : ∀ (st' : List Bool) (i : Nat) (v' : Int32), st'.length + cs.length ≤ 100 → Pile o (u2 I (o + 10) i v') st' → runN hour b y cs st' = some [v] → ∃ I', f_X12_holdsTest_11 K R o k (nI ci) (nI hour) (nI b) (nI y) (nI st'.length) (nI (p + 1)) (u2 I (o + 10) i v') = some (bI v, I') ∧ FM o [10] [] I I' := by
      intro st' i v' g1 g2 g3
      have F : FM o [10] [] I (u2 I (o + 10) i v') := FM.st FM.refl (by decide)
      obtain ⟨I', e1, e2⟩ := ih k (p + 1) (u2 I (o + 10) i v') st' (by omega) (by rw [F.arr (by decide) (by decide), h7]; congr 1; omega) (by omega) (fun j d hj => by
        rw [F.arr (by decide) (by decide)]
        have := hc (j + 1) d (by simpa using hj)
        rw [show p + (j + 1) = p + 1 + j by omega] at this
        exact this) g2 (by omega) g3
      exact ⟨I', e1, F.trans e2⟩
    unfold f_X12_holdsTest_11
    match c, c2, c1, hr with
    | 0, _, c1, hr =>
      cases st with
      | nil => simp [runN, opN] at hr
      | cons a r =>
        simp only [runN, opN, Option.bind_some] at hr
        have c1 : I (o + 8) p = -nI 33 := c1
        have g := nx ((!a) :: r) r.length (bI (!a)) (by simp at hl ⊢; omega) (hP.pop.push _) hr
        have lz := l17 hM hP (by simp at hl; omega)
        have hl2 : r.length < 100 := by simp at hl; omega
        simp only [List.length_cons] at g
        unfold f_X12_holdsTest_63
        cases a
        · have lz : ldZ K I (R o 17) (nI r.length) = some (nI 0) := lz
          simp (disch := omega) only [L0, L1, L2, L3, L4, L5, L6, L7, L8, L9, L10, L11, L12, L13, L14, L15, L16, L17, L18, L19, L20, L21, L22, L23, L24, L25, L26, L27, L28, L29, L30, L31, L32, L33, L34, L35, L36, L37, L38, L39, L40, L48, L57, L59, L60, L62, L96, L97, L98, L99, L100, L104, L110, L119, L124, L500, L999, L1000, L2000, L3000, nI_add, pk_mul, pk_sub, nI_leI, nI_ltI, nI_eq, obs, u2_eq, u2_row, u2_ne, if_pos, if_neg, if_true, if_false, eq_self, l12_11 hM hci, h7, l12_12 hM, c1, List.length_cons, Nat.add_sub_cancel, lz, z17_1 hM]
          exact g
        · have lz : ldZ K I (R o 17) (nI r.length) = some (nI 1) := lz
          simp (disch := omega) only [L0, L1, L2, L3, L4, L5, L6, L7, L8, L9, L10, L11, L12, L13, L14, L15, L16, L17, L18, L19, L20, L21, L22, L23, L24, L25, L26, L27, L28, L29, L30, L31, L32, L33, L34, L35, L36, L37, L38, L39, L40, L48, L57, L59, L60, L62, L96, L97, L98, L99, L100, L104, L110, L119, L124, L500, L999, L1000, L2000, L3000, nI_add, pk_mul, pk_sub, nI_leI, nI_ltI, nI_eq, obs, u2_eq, u2_row, u2_ne, if_pos, if_neg, if_true, if_false, eq_self, l12_11 hM hci, h7, l12_12 hM, c1, List.length_cons, Nat.add_sub_cancel, lz, z17_0 hM]
          exact g
    | 1, _, c1, hr =>
      match st, hr, hP, hl with
      | [], hr, _, _ => simp [runN, opN] at hr
      | [_], hr, _, _ => simp [runN, opN] at hr
      | d :: a :: r, hr, hP, hl =>
        simp only [runN, opN, Option.bind_some] at hr
        have c1 : I (o + 8) p = -nI 38 := c1
        have g := nx ((a && d) :: r) r.length (bI (a && d)) (by simp at hl ⊢; omega) (hP.pop.pop.push _) hr
        have hl2 : r.length + 1 < 100 := by simp at hl; omega
        have ld := l17 hM hP (by simp; omega)
        have la := l17 hM hP.pop (by omega)
        simp only [List.length_cons] at g ld
        have n1 : ¬ (-nI 38 = -nI 33) := by decide
        have n2 : ¬ (nI 0 ≤ -nI 38) := by decide
        unfold f_X12_holdsTest_116 f_X12_holdsTest_142 f_X12_holdsTest_147
        cases a <;> cases d
        · have la : ldZ K I (R o 17) (nI r.length) = some (nI 0) := la
          have ld : ldZ K I (R o 17) (nI (r.length + 1)) = some (nI 0) := ld
          simp (disch := omega) only [L0, L1, L2, L3, L4, L5, L6, L7, L8, L9, L10, L11, L12, L13, L14, L15, L16, L17, L18, L19, L20, L21, L22, L23, L24, L25, L26, L27, L28, L29, L30, L31, L32, L33, L34, L35, L36, L37, L38, L39, L40, L48, L57, L59, L60, L62, L96, L97, L98, L99, L100, L104, L110, L119, L124, L500, L999, L1000, L2000, L3000, nI_add, pk_mul, pk_sub, nI_leI, nI_ltI, nI_eq, obs, u2_eq, u2_row, u2_ne, if_pos, if_neg, if_true, if_false, eq_self, l12_11 hM hci, h7, l12_12 hM, c1, n1, n2, List.length_cons, Nat.add_sub_cancel, la, ld, z17_0 hM]
          exact g
        · have la : ldZ K I (R o 17) (nI r.length) = some (nI 0) := la
          have ld : ldZ K I (R o 17) (nI (r.length + 1)) = some (nI 1) := ld
          simp (disch := omega) only [L0, L1, L2, L3, L4, L5, L6, L7, L8, L9, L10, L11, L12, L13, L14, L15, L16, L17, L18, L19, L20, L21, L22, L23, L24, L25, L26, L27, L28, L29, L30, L31, L32, L33, L34, L35, L36, L37, L38, L39, L40, L48, L57, L59, L60, L62, L96, L97, L98, L99, L100, L104, L110, L119, L124, L500, L999, L1000, L2000, L3000, nI_add, pk_mul, pk_sub, nI_leI, nI_ltI, nI_eq, obs, u2_eq, u2_row, u2_ne, if_pos, if_neg, if_true, if_false, eq_self, l12_11 hM hci, h7, l12_12 hM, c1, n1, n2, List.length_cons, Nat.add_sub_cancel, la, ld, z17_0 hM]
          exact g
        · have la : ldZ K I (R o 17) (nI r.length) = some (nI 1) := la
          have ld : ldZ K I (R o 17) (nI (r.length + 1)) = some (nI 0) := ld
          simp (disch := omega) only [L0, L1, L2, L3, L4, L5, L6, L7, L8, L9, L10, L11, L12, L13, L14, L15, L16, L17, L18, L19, L20, L21, L22, L23, L24, L25, L26, L27, L28, L29, L30, L31, L32, L33, L34, L35, L36, L37, L38, L39, L40, L48, L57, L59, L60, L62, L96, L97, L98, L99, L100, L104, L110, L119, L124, L500, L999, L1000, L2000, L3000, nI_add, pk_mul, pk_sub, nI_leI, nI_ltI, nI_eq, obs, u2_eq, u2_row, u2_ne, if_pos, if_neg, if_true, if_false, eq_self, l12_11 hM hci, h7, l12_12 hM, c1, n1, n2, List.length_cons, Nat.add_sub_cancel, la, ld, z17_0 hM]
          exact g
        · have la : ldZ K I (R o 17) (nI r.length) = some (nI 1) := la
          have ld : ldZ K I (R o 17) (nI (r.length + 1)) = some (nI 1) := ld
          simp (disch := omega) only [L0, L1, L2, L3, L4, L5, L6, L7, L8, L9, L10, L11, L12, L13, L14, L15, L16, L17, L18, L19, L20, L21, L22, L23, L24, L25, L26, L27, L28, L29, L30, L31, L32, L33, L34, L35, L36, L37, L38, L39, L40, L48, L57, L59, L60, L62, L96, L97, L98, L99, L100, L104, L110, L119, L124, L500, L999, L1000, L2000, L3000, nI_add, pk_mul, pk_sub, nI_leI, nI_ltI, nI_eq, obs, u2_eq, u2_row, u2_ne, if_pos, if_neg, if_true, if_false, eq_self, l12_11 hM hci, h7, l12_12 hM, c1, n1, n2, List.length_cons, Nat.add_sub_cancel, la, ld, z17_1 hM]
          exact g
    | 2, _, c1, hr =>
      match st, hr, hP, hl with
      | [], hr, _, _ => simp [runN, opN] at hr
      | [_], hr, _, _ => simp [runN, opN] at hr
      | d :: a :: r, hr, hP, hl =>
        simp only [runN, opN, Option.bind_some] at hr
        have c1 : I (o + 8) p = -nI 124 := c1
        have g := nx ((a || d) :: r) r.length (bI (a || d)) (by simp at hl ⊢; omega) (hP.pop.pop.push _) hr
        have hl2 : r.length + 1 < 100 := by simp at hl; omega
        have ld := l17 hM hP (by simp; omega)
        have la := l17 hM hP.pop (by omega)
        simp only [List.length_cons] at g ld
        have n1 : ¬ (-nI 124 = -nI 33) := by decide
        have n2 : ¬ (nI 0 ≤ -nI 124) := by decide
        have n3 : ¬ (-nI 124 = -nI 38) := by decide
        unfold f_X12_holdsTest_116 f_X12_holdsTest_142 f_X12_holdsTest_147
        cases a <;> cases d
        · have la : ldZ K I (R o 17) (nI r.length) = some (nI 0) := la
          have ld : ldZ K I (R o 17) (nI (r.length + 1)) = some (nI 0) := ld
          simp (disch := omega) only [L0, L1, L2, L3, L4, L5, L6, L7, L8, L9, L10, L11, L12, L13, L14, L15, L16, L17, L18, L19, L20, L21, L22, L23, L24, L25, L26, L27, L28, L29, L30, L31, L32, L33, L34, L35, L36, L37, L38, L39, L40, L48, L57, L59, L60, L62, L96, L97, L98, L99, L100, L104, L110, L119, L124, L500, L999, L1000, L2000, L3000, nI_add, pk_mul, pk_sub, nI_leI, nI_ltI, nI_eq, obs, u2_eq, u2_row, u2_ne, if_pos, if_neg, if_true, if_false, eq_self, l12_11 hM hci, h7, l12_12 hM, c1, n1, n2, n3, List.length_cons, Nat.add_sub_cancel, la, ld, z17_0 hM]
          exact g
        · have la : ldZ K I (R o 17) (nI r.length) = some (nI 0) := la
          have ld : ldZ K I (R o 17) (nI (r.length + 1)) = some (nI 1) := ld
          simp (disch := omega) only [L0, L1, L2, L3, L4, L5, L6, L7, L8, L9, L10, L11, L12, L13, L14, L15, L16, L17, L18, L19, L20, L21, L22, L23, L24, L25, L26, L27, L28, L29, L30, L31, L32, L33, L34, L35, L36, L37, L38, L39, L40, L48, L57, L59, L60, L62, L96, L97, L98, L99, L100, L104, L110, L119, L124, L500, L999, L1000, L2000, L3000, nI_add, pk_mul, pk_sub, nI_leI, nI_ltI, nI_eq, obs, u2_eq, u2_row, u2_ne, if_pos, if_neg, if_true, if_false, eq_self, l12_11 hM hci, h7, l12_12 hM, c1, n1, n2, n3, List.length_cons, Nat.add_sub_cancel, la, ld, z17_1 hM]
          exact g
        · have la : ldZ K I (R o 17) (nI r.length) = some (nI 1) := la
          have ld : ldZ K I (R o 17) (nI (r.length + 1)) = some (nI 0) := ld
          simp (disch := omega) only [L0, L1, L2, L3, L4, L5, L6, L7, L8, L9, L10, L11, L12, L13, L14, L15, L16, L17, L18, L19, L20, L21, L22, L23, L24, L25, L26, L27, L28, L29, L30, L31, L32, L33, L34, L35, L36, L37, L38, L39, L40, L48, L57, L59, L60, L62, L96, L97, L98, L99, L100, L104, L110, L119, L124, L500, L999, L1000, L2000, L3000, nI_add, pk_mul, pk_sub, nI_leI, nI_ltI, nI_eq, obs, u2_eq, u2_row, u2_ne, if_pos, if_neg, if_true, if_false, eq_self, l12_11 hM hci, h7, l12_12 hM, c1, n1, n2, n3, List.length_cons, Nat.add_sub_cancel, la, ld, z17_1 hM]
          exact g
        · have la : ldZ K I (R o 17) (nI r.length) = some (nI 1) := la
          have ld : ldZ K I (R o 17) (nI (r.length + 1)) = some (nI 1) := ld
          simp (disch := omega) only [L0, L1, L2, L3, L4, L5, L6, L7, L8, L9, L10, L11, L12, L13, L14, L15, L16, L17, L18, L19, L20, L21, L22, L23, L24, L25, L26, L27, L28, L29, L30, L31, L32, L33, L34, L35, L36, L37, L38, L39, L40, L48, L57, L59, L60, L62, L96, L97, L98, L99, L100, L104, L110, L119, L124, L500, L999, L1000, L2000, L3000, nI_add, pk_mul, pk_sub, nI_leI, nI_ltI, nI_eq, obs, u2_eq, u2_row, u2_ne, if_pos, if_neg, if_true, if_false, eq_self, l12_11 hM hci, h7, l12_12 hM, c1, n1, n2, n3, List.length_cons, Nat.add_sub_cancel, la, ld, z17_1 hM]
          exact g
    | t + 3, c2, c1, hr =>
      simp only [runN, opN, Option.bind_some] at hr
      simp only [sI] at c1
      have g := nx (tsN t hour b y :: st) st.length _ (by simp; omega) (hP.push _) hr
      simp only [List.length_cons] at g
      have e33 : ¬ nI t = -nI 33 := by
        rw [← Int32.toInt_inj, nI_toInt (by omega)]
        show ¬ (t : Int) = -33
        omega
      unfold tsN at g
      by_cases t1 : t < 1000
      · rw [if_pos t1] at g
        simp (disch := omega) only [L0, L1, L2, L3, L4, L5, L6, L7, L8, L9, L10, L11, L12, L13, L14, L15, L16, L17, L18, L19, L20, L21, L22, L23, L24, L25, L26, L27, L28, L29, L30, L31, L32, L33, L34, L35, L36, L37, L38, L39, L40, L48, L57, L59, L60, L62, L96, L97, L98, L99, L100, L104, L110, L119, L124, L500, L999, L1000, L2000, L3000, nI_add, pk_mul, pk_sub, nI_leI, nI_ltI, nI_eq, obs, u2_eq, u2_row, u2_ne, if_pos, if_neg, if_true, if_false, eq_self, l12_11 hM hci, h7, l12_12 hM, c1, e33, irem_nI, m_test hM]
        exact g
      · rw [if_neg t1] at g
        by_cases t2 : t < 2000
        · rw [if_pos t2] at g
          simp (disch := omega) only [L0, L1, L2, L3, L4, L5, L6, L7, L8, L9, L10, L11, L12, L13, L14, L15, L16, L17, L18, L19, L20, L21, L22, L23, L24, L25, L26, L27, L28, L29, L30, L31, L32, L33, L34, L35, L36, L37, L38, L39, L40, L48, L57, L59, L60, L62, L96, L97, L98, L99, L100, L104, L110, L119, L124, L500, L999, L1000, L2000, L3000, nI_add, pk_mul, pk_sub, nI_leI, nI_ltI, nI_eq, obs, u2_eq, u2_row, u2_ne, if_pos, if_neg, if_true, if_false, eq_self, l12_11 hM hci, h7, l12_12 hM, c1, e33, irem_nI, m_test hM]
          exact g
        · rw [if_neg t2] at g
          simp (disch := omega) only [L0, L1, L2, L3, L4, L5, L6, L7, L8, L9, L10, L11, L12, L13, L14, L15, L16, L17, L18, L19, L20, L21, L22, L23, L24, L25, L26, L27, L28, L29, L30, L31, L32, L33, L34, L35, L36, L37, L38, L39, L40, L48, L57, L59, L60, L62, L96, L97, L98, L99, L100, L104, L110, L119, L124, L500, L999, L1000, L2000, L3000, nI_add, pk_mul, pk_sub, nI_leI, nI_ltI, nI_eq, obs, u2_eq, u2_row, u2_ne, if_pos, if_neg, if_true, if_false, eq_self, l12_11 hM hci, h7, l12_12 hM, c1, e33, irem_nI, m_test hM]
          exact g
end
