/-! WHAT A TEXT'S TEST IS IN THE REFERENCE: a row of signs, run over a pile. 0 not, 1 and, 2 or, n + 3 a test n -/
def sI : Nat → Int32
  | 0 => -33
  | 1 => -38
  | 2 => -124
  | n + 3 => nI n
def bI (b : Bool) : Int32 := if b then 1 else 0
def cmpN (s v n : Nat) : Bool := if s = 0 then decide (v < n) else if s = 1 then decide (v = n) else decide (n < v)
def tsN (t hour beasts way : Nat) : Bool := cmpN (t / 100 % 10) (if t < 1000 then hour % 24 else if t < 2000 then beasts else way) (t % 100)
def opN (hour beasts way : Nat) : Nat → List Bool → Option (List Bool)
  | 0, a :: r => some ((!a) :: r)
  | 1, b :: a :: r => some ((a && b) :: r)
  | 2, b :: a :: r => some ((a || b) :: r)
  | n + 3, r => some (tsN n hour beasts way :: r)
  | _, _ => none
def runN (hour beasts way : Nat) : List Nat → List Bool → Option (List Bool)
  | [], st => some st
  | c :: cs, st => (opN hour beasts way c st).bind (runN hour beasts way cs)
theorem runN_app (hour beasts way : Nat) (a b : List Nat) (st : List Bool) : runN hour beasts way (a ++ b) st = (runN hour beasts way a st).bind (runN hour beasts way b) := by
  induction a generalizing st with
  | nil => rfl
  | cons c a ih =>
    simp only [List.cons_append, runN, Option.bind_assoc]
    congr 1
    funext s
    exact ih s
section
variable {o : Nat} {K : Sh} {R : Rf}
/-- the pile holds these, the last on top -/
def Pile (o : Nat) (I : Im) (st : List Bool) : Prop := ∀ j b, st.reverse[j]? = some b → I (o + 10) j = bI b
theorem Pile.push {I : Im} {st : List Bool} (h : Pile o I st) (b : Bool) : Pile o (u2 I (o + 10) st.length (bI b)) (b :: st) := by
  intro j c hj
  rw [List.reverse_cons] at hj
  by_cases q : j = st.length
  · subst q
    rw [List.getElem?_append_right (by simp)] at hj
    simp at hj
    rw [u2_eq, hj]
  · rw [u2_ne q]
    by_cases q2 : j < st.length
    · rw [List.getElem?_append_left (by simpa using q2)] at hj
      exact h j c hj
    · rw [List.getElem?_eq_none (by simp; omega)] at hj
      cases hj
theorem Pile.pop {I : Im} {a : Bool} {st : List Bool} (h : Pile o I (a :: st)) : Pile o I st := by
  intro j c hj
  refine h j c ?_
  rw [List.reverse_cons, List.getElem?_append_left]
  · exact hj
  · exact (List.getElem?_eq_some_iff.mp hj).1
theorem Pile.top {I : Im} {a : Bool} {st : List Bool} (h : Pile o I (a :: st)) : I (o + 10) st.length = bI a := by
  refine h st.length a ?_
  rw [List.reverse_cons, List.getElem?_append_right (by simp)]
  simp
theorem bI_and (b : Bool) : bI b &&& 1 = bI b := by cases b <;> rfl
theorem bI_1 : (nI 1 : Int32) = bI true := rfl
theorem bI_0 : (nI 0 : Int32) = bI false := rfl
theorem bI_eq0 (b : Bool) : bI b = nI 0 ↔ b = false := by cases b <;> decide
theorem idiv_nI {a b : Nat} (ha : a < 2 ^ 31) (hb : 0 < b) (hb2 : b < 2 ^ 31) : nI a / nI b = nI (a / b) := by
  apply Int32.toInt_inj.1
  rw [Int32.toInt_div, nI_toInt ha, nI_toInt hb2, nI_toInt (by have := Nat.div_le_self a b; omega), Int.tdiv_eq_ediv_of_nonneg (by omega)]
  rw [Int.bmod_eq_of_le (by have : (0 : Int) ≤ (a : Int) / b := Int.ediv_nonneg (by omega) (by omega); omega) (by have : (a : Int) / b ≤ a := Int.ediv_le_self _ (by omega); omega)]
  exact (Int.natCast_ediv a b).symm
theorem z17 (hM : S12 o K R) {I : Im} {n : Nat} (hn : n < 100) (b : Bool) : stZ K I (R o 17) (nI n) (bI b) = some (u2 I (o + 10) n (bI b)) := s12_17 hM hn (bI_and b)
theorem z17_0 (hM : S12 o K R) {I : Im} {n : Nat} (hn : n < 100) : stZ K I (R o 17) (nI n) (nI 0) = some (u2 I (o + 10) n (nI 0)) := z17 hM hn false
theorem z17_1 (hM : S12 o K R) {I : Im} {n : Nat} (hn : n < 100) : stZ K I (R o 17) (nI n) (nI 1) = some (u2 I (o + 10) n (nI 1)) := z17 hM hn true
theorem m_test (hM : S12 o K R) {r : Int32 → Int32 → Int32 → Int32 → Int32 → Int32 → Im → Option (Int32 × Im)} {x1 x2 x3 x4 : Int32} {I : Im} {n q t v : Nat} (hn : n < 100) (ht : t < 3000) (hv : v < 2 ^ 31) : f_X12_holdsTest_180 K R o r x1 x2 x3 x4 (nI n) (nI q) (nI t) (nI v) I = r x1 x2 x3 x4 (nI (n + 1)) (nI (q + 1)) (u2 I (o + 10) n (bI (cmpN (t / 100 % 10) v (t % 100)))) := by
  have c1 : t / 100 < 2 ^ 31 := by omega
  have go : ∀ b, cmpN (t / 100 % 10) v (t % 100) = b → f_X12_holdsTest_180 K R o r x1 x2 x3 x4 (nI n) (nI q) (nI t) (nI v) I = r x1 x2 x3 x4 (nI (n + 1)) (nI (q + 1)) (u2 I (o + 10) n (bI b)) := by
    intro b hb
    unfold cmpN at hb
    unfold f_X12_holdsTest_180 f_X12_holdsTest_260
    by_cases q0 : t / 100 % 10 = 0
    · rw [if_pos q0] at hb
      by_cases q1 : v < t % 100
      · rw [decide_eq_true q1] at hb; subst hb
        simp (disch := omega) only [L0, L1, L2, L3, L4, L5, L6, L7, L8, L9, L10, L11, L12, L13, L14, L15, L16, L17, L18, L19, L20, L21, L22, L23, L24, L25, L26, L27, L28, L29, L30, L31, L32, L33, L34, L35, L36, L37, L38, L39, L40, L48, L57, L59, L60, L62, L96, L97, L98, L99, L100, L104, L110, L119, L124, L500, L999, L1000, nI_add, pk_mul, pk_sub, nI_leI, nI_ltI, nI_eq, obs, u2_eq, u2_row, u2_ne, if_pos, if_neg, if_true, if_false, irem_nI, idiv_nI, z17_0 hM, z17_1 hM]
        rfl
      · rw [decide_eq_false q1] at hb; subst hb
        simp (disch := omega) only [L0, L1, L2, L3, L4, L5, L6, L7, L8, L9, L10, L11, L12, L13, L14, L15, L16, L17, L18, L19, L20, L21, L22, L23, L24, L25, L26, L27, L28, L29, L30, L31, L32, L33, L34, L35, L36, L37, L38, L39, L40, L48, L57, L59, L60, L62, L96, L97, L98, L99, L100, L104, L110, L119, L124, L500, L999, L1000, nI_add, pk_mul, pk_sub, nI_leI, nI_ltI, nI_eq, obs, u2_eq, u2_row, u2_ne, if_pos, if_neg, if_true, if_false, irem_nI, idiv_nI, z17_0 hM, z17_1 hM]
        rfl
    · rw [if_neg q0] at hb
      by_cases q2 : t / 100 % 10 = 1
      · rw [if_pos q2] at hb
        by_cases q1 : v = t % 100
        · rw [decide_eq_true q1] at hb; subst hb
          simp (disch := omega) only [L0, L1, L2, L3, L4, L5, L6, L7, L8, L9, L10, L11, L12, L13, L14, L15, L16, L17, L18, L19, L20, L21, L22, L23, L24, L25, L26, L27, L28, L29, L30, L31, L32, L33, L34, L35, L36, L37, L38, L39, L40, L48, L57, L59, L60, L62, L96, L97, L98, L99, L100, L104, L110, L119, L124, L500, L999, L1000, nI_add, pk_mul, pk_sub, nI_leI, nI_ltI, nI_eq, obs, u2_eq, u2_row, u2_ne, if_pos, if_neg, if_true, if_false, irem_nI, idiv_nI, z17_0 hM, z17_1 hM]
          rfl
        · rw [decide_eq_false q1] at hb; subst hb
          simp (disch := omega) only [L0, L1, L2, L3, L4, L5, L6, L7, L8, L9, L10, L11, L12, L13, L14, L15, L16, L17, L18, L19, L20, L21, L22, L23, L24, L25, L26, L27, L28, L29, L30, L31, L32, L33, L34, L35, L36, L37, L38, L39, L40, L48, L57, L59, L60, L62, L96, L97, L98, L99, L100, L104, L110, L119, L124, L500, L999, L1000, nI_add, pk_mul, pk_sub, nI_leI, nI_ltI, nI_eq, obs, u2_eq, u2_row, u2_ne, if_pos, if_neg, if_true, if_false, irem_nI, idiv_nI, z17_0 hM, z17_1 hM]
          rfl
      · rw [if_neg q2] at hb
        by_cases q1 : t % 100 < v
        · rw [decide_eq_true q1] at hb; subst hb
          simp (disch := omega) only [L0, L1, L2, L3, L4, L5, L6, L7, L8, L9, L10, L11, L12, L13, L14, L15, L16, L17, L18, L19, L20, L21, L22, L23, L24, L25, L26, L27, L28, L29, L30, L31, L32, L33, L34, L35, L36, L37, L38, L39, L40, L48, L57, L59, L60, L62, L96, L97, L98, L99, L100, L104, L110, L119, L124, L500, L999, L1000, nI_add, pk_mul, pk_sub, nI_leI, nI_ltI, nI_eq, obs, u2_eq, u2_row, u2_ne, if_pos, if_neg, if_true, if_false, irem_nI, idiv_nI, z17_0 hM, z17_1 hM]
          rfl
        · rw [decide_eq_false q1] at hb; subst hb
          simp (disch := omega) only [L0, L1, L2, L3, L4, L5, L6, L7, L8, L9, L10, L11, L12, L13, L14, L15, L16, L17, L18, L19, L20, L21, L22, L23, L24, L25, L26, L27, L28, L29, L30, L31, L32, L33, L34, L35, L36, L37, L38, L39, L40, L48, L57, L59, L60, L62, L96, L97, L98, L99, L100, L104, L110, L119, L124, L500, L999, L1000, nI_add, pk_mul, pk_sub, nI_leI, nI_ltI, nI_eq, obs, u2_eq, u2_row, u2_ne, if_pos, if_neg, if_true, if_false, irem_nI, idiv_nI, z17_0 hM, z17_1 hM]
          rfl
  exact go _ rfl
end
