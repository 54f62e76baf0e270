/-! WHERE THE CELLS LIE: behind the constructors the class' cells stand at x .. x + 61, the reference's at o .. o + 47 (o = x + 62) -/
def kC (i : Nat) : Nat × Nat := match i with
  | 0 => (12, 19)
  | 1 => (5, 10)
  | 2 => (20, 100)
  | 3 => (21, 12)
  | 4 => (21, 12)
  | 5 => (21, 12)
  | 6 => (25, 10)
  | 7 => (24, 6)
  | 8 => (7, 7)
  | 9 => (11, 4)
  | 10 => (21, 5)
  | 11 => (21, 5)
  | 12 => (21, 5)
  | 13 => (21, 5)
  | 14 => (21, 5)
  | 15 => (21, 3)
  | 16 => (21, 5)
  | 17 => (7, 7)
  | 18 => (11, 4)
  | 19 => (21, 5)
  | 20 => (21, 5)
  | 21 => (21, 5)
  | 22 => (21, 5)
  | 23 => (21, 5)
  | 24 => (21, 3)
  | 25 => (21, 5)
  | 26 => (26, 6)
  | 27 => (1, 2)
  | 28 => (21, 20)
  | 29 => (9, 8)
  | 30 => (21, 5)
  | 31 => (21, 5)
  | 32 => (4, 10)
  | 33 => (21, 5)
  | 34 => (21, 6)
  | 35 => (21, 186)
  | 36 => (21, 186)
  | 37 => (3, 6)
  | 38 => (21, 3)
  | 39 => (11, 4)
  | 40 => (21, 5)
  | 41 => (21, 5)
  | 42 => (21, 5)
  | 43 => (21, 5)
  | 44 => (10, 9)
  | 45 => (21, 5)
  | 46 => (21, 5)
  | 47 => (21, 6)
  | 48 => (2, 3)
  | 49 => (21, 5)
  | 50 => (8, 3)
  | 51 => (22, 60)
  | 52 => (8, 3)
  | 53 => (22, 60)
  | 54 => (8, 3)
  | 55 => (22, 60)
  | 56 => (8, 3)
  | 57 => (22, 60)
  | 58 => (8, 3)
  | 59 => (22, 60)
  | 60 => (8, 3)
  | 61 => (22, 60)
  | _ => (0, 0)
def rC (j : Nat) : Nat := match j with
  | 0 => 1
  | 3 => 6
  | 5 => 7
  | 7 => 8
  | 8 => 17
  | 10 => 26
  | 11 => 27
  | 12 => 29
  | 13 => 32
  | 14 => 37
  | 15 => 39
  | 16 => 44
  | 17 => 48
  | 18 => 49
  | 100 => 2
  | 105 => 3
  | 106 => 4
  | 107 => 5
  | 801 => 9
  | 802 => 14
  | 803 => 15
  | 805 => 16
  | 900 => 10
  | 901 => 11
  | 902 => 12
  | 903 => 13
  | 1701 => 18
  | 1702 => 23
  | 1703 => 24
  | 1705 => 25
  | 1800 => 19
  | 1801 => 20
  | 1802 => 21
  | 1803 => 22
  | 2600 => 50
  | 2601 => 52
  | 2602 => 54
  | 2603 => 56
  | 2604 => 58
  | 2605 => 60
  | 2700 => 28
  | 2902 => 30
  | 2903 => 31
  | 3200 => 33
  | 3201 => 34
  | 3202 => 35
  | 3203 => 36
  | 3700 => 38
  | 3900 => 40
  | 3901 => 41
  | 3902 => 42
  | 3903 => 43
  | 4405 => 45
  | 4406 => 46
  | 4407 => 47
  | 5002 => 51
  | 5202 => 53
  | 5402 => 55
  | 5602 => 57
  | 5802 => 59
  | 6002 => 61
  | _ => 0
def kM (i : Nat) : Nat × Nat := match i with
  | 0 => (13, 73)
  | 1 => (21, 100)
  | 2 => (21, 5)
  | 3 => (21, 60)
  | 4 => (21, 60)
  | 5 => (21, 60)
  | 6 => (21, 60)
  | 7 => (21, 60)
  | 8 => (21, 500)
  | 9 => (21, 101)
  | 10 => (23, 100)
  | 11 => (21, 5)
  | 12 => (21, 5)
  | 13 => (21, 5)
  | 14 => (21, 6)
  | 15 => (21, 6)
  | 16 => (21, 7)
  | 17 => (21, 6)
  | 18 => (21, 6)
  | 19 => (21, 11)
  | 20 => (21, 11)
  | 21 => (21, 11)
  | 22 => (21, 55)
  | 23 => (21, 7)
  | 24 => (21, 7)
  | 25 => (21, 7)
  | 26 => (21, 5)
  | 27 => (21, 168)
  | 28 => (21, 6)
  | 29 => (21, 6)
  | 30 => (21, 6)
  | 31 => (21, 6)
  | 32 => (21, 6)
  | 33 => (21, 6)
  | 34 => (21, 3)
  | 35 => (21, 3)
  | 36 => (21, 3)
  | 37 => (21, 3)
  | 38 => (21, 5)
  | 39 => (21, 5)
  | 40 => (21, 5)
  | 41 => (21, 3)
  | 42 => (21, 5)
  | 43 => (21, 20)
  | 44 => (21, 6)
  | 45 => (21, 6)
  | 46 => (22, 360)
  | 47 => (22, 60)
  | _ => (0, 0)
def rM (j : Nat) : Nat := match j with
  | 5 => 1
  | 6 => 2
  | 7 => 3
  | 8 => 4
  | 9 => 5
  | 10 => 6
  | 11 => 7
  | 12 => 8
  | 13 => 9
  | 17 => 10
  | 18 => 11
  | 19 => 12
  | 20 => 13
  | 22 => 14
  | 23 => 15
  | 24 => 16
  | 25 => 17
  | 26 => 18
  | 30 => 19
  | 31 => 20
  | 32 => 21
  | 33 => 22
  | 34 => 23
  | 35 => 24
  | 36 => 25
  | 37 => 26
  | 38 => 27
  | 39 => 28
  | 40 => 29
  | 41 => 30
  | 42 => 31
  | 43 => 32
  | 44 => 33
  | 52 => 34
  | 53 => 35
  | 54 => 36
  | 55 => 37
  | 62 => 38
  | 63 => 39
  | 64 => 40
  | 65 => 41
  | 66 => 42
  | 68 => 43
  | 69 => 44
  | 70 => 45
  | 71 => 46
  | 72 => 47
  | _ => 0
def CSH (x : Nat) (K : Sh) (R : Rf) : Prop := (∀ i, i < 62 → K (x + i) = kC i) ∧ ∀ i k, k < 20 → rC (100 * i + k) ≠ 0 → R (x + i) k = some (x + rC (100 * i + k))
def MSH (o : Nat) (K : Sh) (R : Rf) : Prop := (∀ i, i < 48 → K (o + i) = kM i) ∧ ∀ k, k < 73 → rM k ≠ 0 → R o k = some (o + rM k)
theorem CSH.k {x : Nat} {K : Sh} {R : Rf} (h : CSH x K R) {i : Nat} (hi : i < 62) : K (x + i) = kC i := h.1 i hi
theorem CSH.k0 {x : Nat} {K : Sh} {R : Rf} (h : CSH x K R) : K x = (12, 19) := h.1 0 (by decide)
theorem CSH.r {x : Nat} {K : Sh} {R : Rf} (h : CSH x K R) {i k : Nat} (hk : k < 20) (hi : rC (100 * i + k) ≠ 0) : R (x + i) k = some (x + rC (100 * i + k)) := h.2 i k hk hi
theorem CSH.r0 {x : Nat} {K : Sh} {R : Rf} (h : CSH x K R) {k : Nat} (hk : k < 20) (hi : rC k ≠ 0) : R x k = some (x + rC k) := by
  have := h.2 0 k hk (by simpa using hi)
  simpa using this
theorem MSH.k {x : Nat} {K : Sh} {R : Rf} (h : MSH x K R) {i : Nat} (hi : i < 48) : K (x + i) = kM i := h.1 i hi
theorem MSH.k0 {x : Nat} {K : Sh} {R : Rf} (h : MSH x K R) : K x = (13, 73) := h.1 0 (by decide)
theorem MSH.r {x : Nat} {K : Sh} {R : Rf} (h : MSH x K R) {k : Nat} (hk : k < 73) (hi : rM k ≠ 0) : R x k = some (x + rM k) := h.2 k hk hi
/-! small facts -/
abbrev inn (a b c : Int32) : Prop := b ≤ a ∧ a ≤ c
theorem i_nlt {a b : Int32} : ¬ a < b ↔ b ≤ a := by rw [Int32.lt_iff_toInt_lt, Int32.le_iff_toInt_le]; omega
theorem i_nle {a b : Int32} : ¬ a ≤ b ↔ b < a := by rw [Int32.lt_iff_toInt_lt, Int32.le_iff_toInt_le]; omega
theorem within_eq (a b c : Int32) : f_X11_within a b c = some (if inn a b c then 1 else 0) := by
  unfold f_X11_within inn
  by_cases h1 : a < b
  · rw [if_pos h1, if_neg (fun q => i_nle.mpr h1 q.1)]
  · rw [if_neg h1]
    by_cases h2 : c < a
    · rw [if_pos h2, if_neg (fun q => i_nle.mpr h2 q.2)]
    · rw [if_neg h2, if_pos ⟨i_nlt.mp h1, i_nlt.mp h2⟩]
theorem in_eq (o : Nat) (a b c : Int32) : f_X12_in o a b c = some (if inn a b c then 1 else 0) := by
  unfold f_X12_in inn
  by_cases h1 : a < b
  · rw [if_pos h1, if_neg (fun q => i_nle.mpr h1 q.1)]
  · rw [if_neg h1]
    by_cases h2 : c < a
    · rw [if_pos h2, if_neg (fun q => i_nle.mpr h2 q.2)]
    · rw [if_neg h2, if_pos ⟨i_nlt.mp h1, i_nlt.mp h2⟩]
theorem inn_nat {a : Int32} {b c : Nat} (hc : c < 2 ^ 31) (h : inn a (nI b) (nI c)) (hb : b ≤ c) : ∃ k, a = nI k ∧ b ≤ k ∧ k ≤ c := by
  obtain ⟨h1, h2⟩ := h
  have h0 : ¬ a < 0 := by
    rw [i_nlt]
    rw [Int32.le_iff_toInt_le] at h1 ⊢
    rw [nI_toInt (by omega)] at h1
    show (0 : Int) ≤ _
    omega
  obtain ⟨j, hj, rfl⟩ := nI_of h0
  exact ⟨j, rfl, (nI_leI (by omega) hj).mp h1, (nI_leI hj hc).mp h2⟩
theorem ob_ok {K : Sh} {c a : Nat} (h : (K a).1 = c) : ob K c (some a) = some a := by simp [ob, h]
theorem inb_nI {j n : Nat} (hj : j < n) (hn : n < 2 ^ 31) : inb (nI j) n := by
  unfold inb
  rw [nI_toInt (by omega)]
  omega
theorem ldI_ok {K : Sh} {I : Im} {a j : Nat} (h1 : (K a).1 = 21) (h2 : j < (K a).2) (h3 : (K a).2 < 2 ^ 31) : ldI K I (some a) (nI j) = some (I a j) := by
  have h := inb_nI h2 h3
  simp only [ldI, Option.bind_some]
  rw [if_pos ⟨Or.inl h1, h⟩, nI_clamp (by omega)]
theorem ldB_ok {K : Sh} {I : Im} {a j : Nat} (h1 : (K a).1 = 20) (h2 : j < (K a).2) (h3 : (K a).2 < 2 ^ 31) : ldB K I (some a) (nI j) = some (I a j) := by
  have h := inb_nI h2 h3
  simp only [ldB, Option.bind_some]
  rw [if_pos ⟨h1, h⟩, nI_clamp (by omega)]
theorem ldZ_ok {K : Sh} {I : Im} {a j : Nat} (h1 : (K a).1 = 23) (h2 : j < (K a).2) (h3 : (K a).2 < 2 ^ 31) : ldZ K I (some a) (nI j) = some (I a j) := by
  have h := inb_nI h2 h3
  simp only [ldZ, Option.bind_some]
  rw [if_pos ⟨h1, h⟩, nI_clamp (by omega)]
theorem ldJ_ok {K : Sh} {J : Jm} {a j : Nat} (h1 : (K a).1 = 22) (h2 : j < (K a).2) (h3 : (K a).2 < 2 ^ 31) : ldJ K J (some a) (nI j) = some (J a j) := by
  have h := inb_nI h2 h3
  simp only [ldJ, Option.bind_some]
  rw [if_pos ⟨h1, h⟩, nI_clamp (by omega)]
theorem ldR_ok {K : Sh} {R : Rf} {t a j : Nat} (h1 : (K a).1 = t) (h2 : j < (K a).2) (h3 : (K a).2 < 2 ^ 31) : ldR K R t (some a) (nI j) = some (R a j) := by
  have h := inb_nI h2 h3
  simp only [ldR, Option.bind_some]
  rw [if_pos ⟨h1, h⟩, nI_clamp (by omega)]
theorem stI_ok {K : Sh} {I : Im} {a j : Nat} {v : Int32} (h1 : (K a).1 = 21) (h2 : j < (K a).2) (h3 : (K a).2 < 2 ^ 31) : stI K I (some a) (nI j) v = some (u2 I a j v) := by
  have h := inb_nI h2 h3
  simp only [stI, Option.bind_some]
  rw [if_pos ⟨h1, h⟩, nI_clamp (by omega)]
theorem stB_ok {K : Sh} {I : Im} {a j : Nat} {v : Int32} (h1 : (K a).1 = 20) (h2 : j < (K a).2) (h3 : (K a).2 < 2 ^ 31) : stB K I (some a) (nI j) v = some (u2 I a j v.toInt8.toInt32) := by
  have h := inb_nI h2 h3
  simp only [stB, Option.bind_some]
  rw [if_pos ⟨h1, h⟩, nI_clamp (by omega)]
theorem stJ_ok {K : Sh} {J : Jm} {a j : Nat} {v : Int64} (h1 : (K a).1 = 22) (h2 : j < (K a).2) (h3 : (K a).2 < 2 ^ 31) : stJ K J (some a) (nI j) v = some (u2 J a j v) := by
  have h := inb_nI h2 h3
  simp only [stJ, Option.bind_some]
  rw [if_pos ⟨h1, h⟩, nI_clamp (by omega)]
theorem stR_ok {K : Sh} {R : Rf} {t c a b j : Nat} (h1 : (K a).1 = t) (h4 : (K b).1 = c) (h2 : j < (K a).2) (h3 : (K a).2 < 2 ^ 31) : stR K R t c (some a) (nI j) (some b) = some (u2 R a j (some b)) := by
  have h := inb_nI h2 h3
  simp only [stR, Option.bind_some]
  rw [if_pos ⟨⟨h1, h4⟩, h⟩, nI_clamp (by omega)]
theorem alen_ok {K : Sh} {a : Nat} (h1 : 20 ≤ (K a).1) (h2 : (K a).1 ≤ 27) : alen K (some a) = some (nI (K a).2) := by
  simp only [alen, Option.bind_some]
  rw [if_pos ⟨h1, h2⟩]
  rfl
theorem FU_succ : ∃ k, FU = k + 1 := ⟨999999999, rfl⟩
theorem FU_big : FU = 1000000000 := rfl
