/-! WHAT STANDS IN THE OBJECTS' FIELDS, and loads and stores there -/
theorem stZ_ok {K : Sh} {I : Im} {a j : Nat} {v : Int32} (h1 : (K a).1 = 23) (hv : v &&& 1 = v) (h2 : j < (K a).2) (h3 : (K a).2 < 2 ^ 31) : stZ K I (some a) (nI j) v = some (u2 I a j v) := by
  have h := inb_nI h2 h3
  simp only [stZ, Option.bind_some]
  rw [if_pos ⟨⟨h1, hv⟩, h⟩, nI_clamp (by omega)]
def S0 (o : Nat) (K : Sh) (R : Rf) : Prop := K o = (1, 2) ∧ (R o 0 = some (o + 1) ∧ K (o + 1) = (21, 20))
section
variable {o : Nat} {K : Sh} {R : Rf} {I : Im} {J : Jm} {v : Int32} {u : Int64} {i : Nat}
theorem S0.k (h : S0 o K R) : K o = (1, 2) := h.1
theorem ob0 (h : S0 o K R) : ob K 1 (some o) = some o := ob_ok (by rw [S0.k h])
theorem r0_0 (h : S0 o K R) : R o 0 = some (o + 1) := (h.2).1
theorem k0_0 (h : S0 o K R) : K (o + 1) = (21, 20) := (h.2).2
theorem l0_0 (h : S0 o K R) (hi : i < 20) : ldI K I (R o 0) (nI i) = some (I (o + 1) i) := by rw [r0_0 h]; exact ldI_ok (by rw [k0_0 h]) (by rw [k0_0 h]; exact hi) (by rw [k0_0 h]; omega)
theorem s0_0 (h : S0 o K R) (hi : i < 20) : stI K I (R o 0) (nI i) v = some (u2 I (o + 1) i v) := by rw [r0_0 h]; exact stI_ok (by rw [k0_0 h]) (by rw [k0_0 h]; exact hi) (by rw [k0_0 h]; omega)
end
def S2 (o : Nat) (K : Sh) (R : Rf) : Prop := K o = (3, 6) ∧ (R o 0 = some (o + 1) ∧ K (o + 1) = (21, 3))
section
variable {o : Nat} {K : Sh} {R : Rf} {I : Im} {J : Jm} {v : Int32} {u : Int64} {i : Nat}
theorem S2.k (h : S2 o K R) : K o = (3, 6) := h.1
theorem ob2 (h : S2 o K R) : ob K 3 (some o) = some o := ob_ok (by rw [S2.k h])
theorem r2_0 (h : S2 o K R) : R o 0 = some (o + 1) := (h.2).1
theorem k2_0 (h : S2 o K R) : K (o + 1) = (21, 3) := (h.2).2
theorem l2_0 (h : S2 o K R) (hi : i < 3) : ldI K I (R o 0) (nI i) = some (I (o + 1) i) := by rw [r2_0 h]; exact ldI_ok (by rw [k2_0 h]) (by rw [k2_0 h]; exact hi) (by rw [k2_0 h]; omega)
theorem s2_0 (h : S2 o K R) (hi : i < 3) : stI K I (R o 0) (nI i) v = some (u2 I (o + 1) i v) := by rw [r2_0 h]; exact stI_ok (by rw [k2_0 h]) (by rw [k2_0 h]; exact hi) (by rw [k2_0 h]; omega)
end
def S3 (o : Nat) (K : Sh) (R : Rf) : Prop := K o = (4, 10) ∧ (R o 0 = some (o + 1) ∧ K (o + 1) = (21, 5)) ∧ (R o 1 = some (o + 2) ∧ K (o + 2) = (21, 6)) ∧ (R o 2 = some (o + 3) ∧ K (o + 3) = (21, 186)) ∧ (R o 3 = some (o + 4) ∧ K (o + 4) = (21, 186))
section
variable {o : Nat} {K : Sh} {R : Rf} {I : Im} {J : Jm} {v : Int32} {u : Int64} {i : Nat}
theorem S3.k (h : S3 o K R) : K o = (4, 10) := h.1
theorem ob3 (h : S3 o K R) : ob K 4 (some o) = some o := ob_ok (by rw [S3.k h])
theorem r3_0 (h : S3 o K R) : R o 0 = some (o + 1) := (h.2.1).1
theorem k3_0 (h : S3 o K R) : K (o + 1) = (21, 5) := (h.2.1).2
theorem l3_0 (h : S3 o K R) (hi : i < 5) : ldI K I (R o 0) (nI i) = some (I (o + 1) i) := by rw [r3_0 h]; exact ldI_ok (by rw [k3_0 h]) (by rw [k3_0 h]; exact hi) (by rw [k3_0 h]; omega)
theorem s3_0 (h : S3 o K R) (hi : i < 5) : stI K I (R o 0) (nI i) v = some (u2 I (o + 1) i v) := by rw [r3_0 h]; exact stI_ok (by rw [k3_0 h]) (by rw [k3_0 h]; exact hi) (by rw [k3_0 h]; omega)
theorem r3_1 (h : S3 o K R) : R o 1 = some (o + 2) := (h.2.2.1).1
theorem k3_1 (h : S3 o K R) : K (o + 2) = (21, 6) := (h.2.2.1).2
theorem l3_1 (h : S3 o K R) (hi : i < 6) : ldI K I (R o 1) (nI i) = some (I (o + 2) i) := by rw [r3_1 h]; exact ldI_ok (by rw [k3_1 h]) (by rw [k3_1 h]; exact hi) (by rw [k3_1 h]; omega)
theorem s3_1 (h : S3 o K R) (hi : i < 6) : stI K I (R o 1) (nI i) v = some (u2 I (o + 2) i v) := by rw [r3_1 h]; exact stI_ok (by rw [k3_1 h]) (by rw [k3_1 h]; exact hi) (by rw [k3_1 h]; omega)
theorem r3_2 (h : S3 o K R) : R o 2 = some (o + 3) := (h.2.2.2.1).1
theorem k3_2 (h : S3 o K R) : K (o + 3) = (21, 186) := (h.2.2.2.1).2
theorem l3_2 (h : S3 o K R) (hi : i < 186) : ldI K I (R o 2) (nI i) = some (I (o + 3) i) := by rw [r3_2 h]; exact ldI_ok (by rw [k3_2 h]) (by rw [k3_2 h]; exact hi) (by rw [k3_2 h]; omega)
theorem s3_2 (h : S3 o K R) (hi : i < 186) : stI K I (R o 2) (nI i) v = some (u2 I (o + 3) i v) := by rw [r3_2 h]; exact stI_ok (by rw [k3_2 h]) (by rw [k3_2 h]; exact hi) (by rw [k3_2 h]; omega)
theorem r3_3 (h : S3 o K R) : R o 3 = some (o + 4) := (h.2.2.2.2).1
theorem k3_3 (h : S3 o K R) : K (o + 4) = (21, 186) := (h.2.2.2.2).2
theorem l3_3 (h : S3 o K R) (hi : i < 186) : ldI K I (R o 3) (nI i) = some (I (o + 4) i) := by rw [r3_3 h]; exact ldI_ok (by rw [k3_3 h]) (by rw [k3_3 h]; exact hi) (by rw [k3_3 h]; omega)
theorem s3_3 (h : S3 o K R) (hi : i < 186) : stI K I (R o 3) (nI i) v = some (u2 I (o + 4) i v) := by rw [r3_3 h]; exact stI_ok (by rw [k3_3 h]) (by rw [k3_3 h]; exact hi) (by rw [k3_3 h]; omega)
end
def S4 (o : Nat) (K : Sh) (R : Rf) : Prop := K o = (5, 10) ∧ (R o 0 = some (o + 1) ∧ K (o + 1) = (20, 100)) ∧ (R o 5 = some (o + 2) ∧ K (o + 2) = (21, 12)) ∧ (R o 6 = some (o + 3) ∧ K (o + 3) = (21, 12)) ∧ (R o 7 = some (o + 4) ∧ K (o + 4) = (21, 12))
section
variable {o : Nat} {K : Sh} {R : Rf} {I : Im} {J : Jm} {v : Int32} {u : Int64} {i : Nat}
theorem S4.k (h : S4 o K R) : K o = (5, 10) := h.1
theorem ob4 (h : S4 o K R) : ob K 5 (some o) = some o := ob_ok (by rw [S4.k h])
theorem r4_0 (h : S4 o K R) : R o 0 = some (o + 1) := (h.2.1).1
theorem k4_0 (h : S4 o K R) : K (o + 1) = (20, 100) := (h.2.1).2
theorem l4_0 (h : S4 o K R) (hi : i < 100) : ldB K I (R o 0) (nI i) = some (I (o + 1) i) := by rw [r4_0 h]; exact ldB_ok (by rw [k4_0 h]) (by rw [k4_0 h]; exact hi) (by rw [k4_0 h]; omega)
theorem s4_0 (h : S4 o K R) (hi : i < 100) : stB K I (R o 0) (nI i) v = some (u2 I (o + 1) i v.toInt8.toInt32) := by rw [r4_0 h]; exact stB_ok (by rw [k4_0 h]) (by rw [k4_0 h]; exact hi) (by rw [k4_0 h]; omega)
theorem r4_5 (h : S4 o K R) : R o 5 = some (o + 2) := (h.2.2.1).1
theorem k4_5 (h : S4 o K R) : K (o + 2) = (21, 12) := (h.2.2.1).2
theorem l4_5 (h : S4 o K R) (hi : i < 12) : ldI K I (R o 5) (nI i) = some (I (o + 2) i) := by rw [r4_5 h]; exact ldI_ok (by rw [k4_5 h]) (by rw [k4_5 h]; exact hi) (by rw [k4_5 h]; omega)
theorem s4_5 (h : S4 o K R) (hi : i < 12) : stI K I (R o 5) (nI i) v = some (u2 I (o + 2) i v) := by rw [r4_5 h]; exact stI_ok (by rw [k4_5 h]) (by rw [k4_5 h]; exact hi) (by rw [k4_5 h]; omega)
theorem r4_6 (h : S4 o K R) : R o 6 = some (o + 3) := (h.2.2.2.1).1
theorem k4_6 (h : S4 o K R) : K (o + 3) = (21, 12) := (h.2.2.2.1).2
theorem l4_6 (h : S4 o K R) (hi : i < 12) : ldI K I (R o 6) (nI i) = some (I (o + 3) i) := by rw [r4_6 h]; exact ldI_ok (by rw [k4_6 h]) (by rw [k4_6 h]; exact hi) (by rw [k4_6 h]; omega)
theorem s4_6 (h : S4 o K R) (hi : i < 12) : stI K I (R o 6) (nI i) v = some (u2 I (o + 3) i v) := by rw [r4_6 h]; exact stI_ok (by rw [k4_6 h]) (by rw [k4_6 h]; exact hi) (by rw [k4_6 h]; omega)
theorem r4_7 (h : S4 o K R) : R o 7 = some (o + 4) := (h.2.2.2.2).1
theorem k4_7 (h : S4 o K R) : K (o + 4) = (21, 12) := (h.2.2.2.2).2
theorem l4_7 (h : S4 o K R) (hi : i < 12) : ldI K I (R o 7) (nI i) = some (I (o + 4) i) := by rw [r4_7 h]; exact ldI_ok (by rw [k4_7 h]) (by rw [k4_7 h]; exact hi) (by rw [k4_7 h]; omega)
theorem s4_7 (h : S4 o K R) (hi : i < 12) : stI K I (R o 7) (nI i) v = some (u2 I (o + 4) i v) := by rw [r4_7 h]; exact stI_ok (by rw [k4_7 h]) (by rw [k4_7 h]; exact hi) (by rw [k4_7 h]; omega)
end
def S5 (o : Nat) (K : Sh) (R : Rf) : Prop := K o = (6, 5) ∧ (R o 3 = some (o + 1) ∧ K (o + 1) = (21, 5))
section
variable {o : Nat} {K : Sh} {R : Rf} {I : Im} {J : Jm} {v : Int32} {u : Int64} {i : Nat}
theorem S5.k (h : S5 o K R) : K o = (6, 5) := h.1
theorem ob5 (h : S5 o K R) : ob K 6 (some o) = some o := ob_ok (by rw [S5.k h])
theorem r5_3 (h : S5 o K R) : R o 3 = some (o + 1) := (h.2).1
theorem k5_3 (h : S5 o K R) : K (o + 1) = (21, 5) := (h.2).2
theorem l5_3 (h : S5 o K R) (hi : i < 5) : ldI K I (R o 3) (nI i) = some (I (o + 1) i) := by rw [r5_3 h]; exact ldI_ok (by rw [k5_3 h]) (by rw [k5_3 h]; exact hi) (by rw [k5_3 h]; omega)
theorem s5_3 (h : S5 o K R) (hi : i < 5) : stI K I (R o 3) (nI i) v = some (u2 I (o + 1) i v) := by rw [r5_3 h]; exact stI_ok (by rw [k5_3 h]) (by rw [k5_3 h]; exact hi) (by rw [k5_3 h]; omega)
end
def S6 (o : Nat) (K : Sh) (R : Rf) : Prop := K o = (7, 7) ∧ (R o 1 = some (o + 1) ∧ K (o + 1) = (11, 4)) ∧ (R o 2 = some (o + 6) ∧ K (o + 6) = (21, 5)) ∧ (R o 3 = some (o + 7) ∧ K (o + 7) = (21, 3)) ∧ (R o 5 = some (o + 8) ∧ K (o + 8) = (21, 5))
section
variable {o : Nat} {K : Sh} {R : Rf} {I : Im} {J : Jm} {v : Int32} {u : Int64} {i : Nat}
theorem S6.k (h : S6 o K R) : K o = (7, 7) := h.1
theorem ob6 (h : S6 o K R) : ob K 7 (some o) = some o := ob_ok (by rw [S6.k h])
theorem r6_1 (h : S6 o K R) : R o 1 = some (o + 1) := (h.2.1).1
theorem k6_1 (h : S6 o K R) : K (o + 1) = (11, 4) := (h.2.1).2
theorem o6_1 (h : S6 o K R) : ob K 11 (R o 1) = some (o + 1) := by rw [r6_1 h]; exact ob_ok (by rw [k6_1 h])
theorem r6_2 (h : S6 o K R) : R o 2 = some (o + 6) := (h.2.2.1).1
theorem k6_2 (h : S6 o K R) : K (o + 6) = (21, 5) := (h.2.2.1).2
theorem l6_2 (h : S6 o K R) (hi : i < 5) : ldI K I (R o 2) (nI i) = some (I (o + 6) i) := by rw [r6_2 h]; exact ldI_ok (by rw [k6_2 h]) (by rw [k6_2 h]; exact hi) (by rw [k6_2 h]; omega)
theorem s6_2 (h : S6 o K R) (hi : i < 5) : stI K I (R o 2) (nI i) v = some (u2 I (o + 6) i v) := by rw [r6_2 h]; exact stI_ok (by rw [k6_2 h]) (by rw [k6_2 h]; exact hi) (by rw [k6_2 h]; omega)
theorem r6_3 (h : S6 o K R) : R o 3 = some (o + 7) := (h.2.2.2.1).1
theorem k6_3 (h : S6 o K R) : K (o + 7) = (21, 3) := (h.2.2.2.1).2
theorem l6_3 (h : S6 o K R) (hi : i < 3) : ldI K I (R o 3) (nI i) = some (I (o + 7) i) := by rw [r6_3 h]; exact ldI_ok (by rw [k6_3 h]) (by rw [k6_3 h]; exact hi) (by rw [k6_3 h]; omega)
theorem s6_3 (h : S6 o K R) (hi : i < 3) : stI K I (R o 3) (nI i) v = some (u2 I (o + 7) i v) := by rw [r6_3 h]; exact stI_ok (by rw [k6_3 h]) (by rw [k6_3 h]; exact hi) (by rw [k6_3 h]; omega)
theorem r6_5 (h : S6 o K R) : R o 5 = some (o + 8) := (h.2.2.2.2).1
theorem k6_5 (h : S6 o K R) : K (o + 8) = (21, 5) := (h.2.2.2.2).2
theorem l6_5 (h : S6 o K R) (hi : i < 5) : ldI K I (R o 5) (nI i) = some (I (o + 8) i) := by rw [r6_5 h]; exact ldI_ok (by rw [k6_5 h]) (by rw [k6_5 h]; exact hi) (by rw [k6_5 h]; omega)
theorem s6_5 (h : S6 o K R) (hi : i < 5) : stI K I (R o 5) (nI i) v = some (u2 I (o + 8) i v) := by rw [r6_5 h]; exact stI_ok (by rw [k6_5 h]) (by rw [k6_5 h]; exact hi) (by rw [k6_5 h]; omega)
end
def S7 (o : Nat) (K : Sh) (R : Rf) : Prop := K o = (8, 3) ∧ (R o 2 = some (o + 1) ∧ K (o + 1) = (22, 60))
section
variable {o : Nat} {K : Sh} {R : Rf} {I : Im} {J : Jm} {v : Int32} {u : Int64} {i : Nat}
theorem S7.k (h : S7 o K R) : K o = (8, 3) := h.1
theorem ob7 (h : S7 o K R) : ob K 8 (some o) = some o := ob_ok (by rw [S7.k h])
theorem r7_2 (h : S7 o K R) : R o 2 = some (o + 1) := (h.2).1
theorem k7_2 (h : S7 o K R) : K (o + 1) = (22, 60) := (h.2).2
theorem l7_2 (h : S7 o K R) (hi : i < 60) : ldJ K J (R o 2) (nI i) = some (J (o + 1) i) := by rw [r7_2 h]; exact ldJ_ok (by rw [k7_2 h]) (by rw [k7_2 h]; exact hi) (by rw [k7_2 h]; omega)
theorem s7_2 (h : S7 o K R) (hi : i < 60) : stJ K J (R o 2) (nI i) u = some (u2 J (o + 1) i u) := by rw [r7_2 h]; exact stJ_ok (by rw [k7_2 h]) (by rw [k7_2 h]; exact hi) (by rw [k7_2 h]; omega)
end
def S8 (o : Nat) (K : Sh) (R : Rf) : Prop := K o = (9, 8) ∧ (R o 2 = some (o + 1) ∧ K (o + 1) = (21, 5)) ∧ (R o 3 = some (o + 2) ∧ K (o + 2) = (21, 5))
section
variable {o : Nat} {K : Sh} {R : Rf} {I : Im} {J : Jm} {v : Int32} {u : Int64} {i : Nat}
theorem S8.k (h : S8 o K R) : K o = (9, 8) := h.1
theorem ob8 (h : S8 o K R) : ob K 9 (some o) = some o := ob_ok (by rw [S8.k h])
theorem r8_2 (h : S8 o K R) : R o 2 = some (o + 1) := (h.2.1).1
theorem k8_2 (h : S8 o K R) : K (o + 1) = (21, 5) := (h.2.1).2
theorem l8_2 (h : S8 o K R) (hi : i < 5) : ldI K I (R o 2) (nI i) = some (I (o + 1) i) := by rw [r8_2 h]; exact ldI_ok (by rw [k8_2 h]) (by rw [k8_2 h]; exact hi) (by rw [k8_2 h]; omega)
theorem s8_2 (h : S8 o K R) (hi : i < 5) : stI K I (R o 2) (nI i) v = some (u2 I (o + 1) i v) := by rw [r8_2 h]; exact stI_ok (by rw [k8_2 h]) (by rw [k8_2 h]; exact hi) (by rw [k8_2 h]; omega)
theorem r8_3 (h : S8 o K R) : R o 3 = some (o + 2) := (h.2.2).1
theorem k8_3 (h : S8 o K R) : K (o + 2) = (21, 5) := (h.2.2).2
theorem l8_3 (h : S8 o K R) (hi : i < 5) : ldI K I (R o 3) (nI i) = some (I (o + 2) i) := by rw [r8_3 h]; exact ldI_ok (by rw [k8_3 h]) (by rw [k8_3 h]; exact hi) (by rw [k8_3 h]; omega)
theorem s8_3 (h : S8 o K R) (hi : i < 5) : stI K I (R o 3) (nI i) v = some (u2 I (o + 2) i v) := by rw [r8_3 h]; exact stI_ok (by rw [k8_3 h]) (by rw [k8_3 h]; exact hi) (by rw [k8_3 h]; omega)
end
def S9 (o : Nat) (K : Sh) (R : Rf) : Prop := K o = (10, 9) ∧ (R o 5 = some (o + 1) ∧ K (o + 1) = (21, 5)) ∧ (R o 6 = some (o + 2) ∧ K (o + 2) = (21, 5)) ∧ (R o 7 = some (o + 3) ∧ K (o + 3) = (21, 6))
section
variable {o : Nat} {K : Sh} {R : Rf} {I : Im} {J : Jm} {v : Int32} {u : Int64} {i : Nat}
theorem S9.k (h : S9 o K R) : K o = (10, 9) := h.1
theorem ob9 (h : S9 o K R) : ob K 10 (some o) = some o := ob_ok (by rw [S9.k h])
theorem r9_5 (h : S9 o K R) : R o 5 = some (o + 1) := (h.2.1).1
theorem k9_5 (h : S9 o K R) : K (o + 1) = (21, 5) := (h.2.1).2
theorem l9_5 (h : S9 o K R) (hi : i < 5) : ldI K I (R o 5) (nI i) = some (I (o + 1) i) := by rw [r9_5 h]; exact ldI_ok (by rw [k9_5 h]) (by rw [k9_5 h]; exact hi) (by rw [k9_5 h]; omega)
theorem s9_5 (h : S9 o K R) (hi : i < 5) : stI K I (R o 5) (nI i) v = some (u2 I (o + 1) i v) := by rw [r9_5 h]; exact stI_ok (by rw [k9_5 h]) (by rw [k9_5 h]; exact hi) (by rw [k9_5 h]; omega)
theorem r9_6 (h : S9 o K R) : R o 6 = some (o + 2) := (h.2.2.1).1
theorem k9_6 (h : S9 o K R) : K (o + 2) = (21, 5) := (h.2.2.1).2
theorem l9_6 (h : S9 o K R) (hi : i < 5) : ldI K I (R o 6) (nI i) = some (I (o + 2) i) := by rw [r9_6 h]; exact ldI_ok (by rw [k9_6 h]) (by rw [k9_6 h]; exact hi) (by rw [k9_6 h]; omega)
theorem s9_6 (h : S9 o K R) (hi : i < 5) : stI K I (R o 6) (nI i) v = some (u2 I (o + 2) i v) := by rw [r9_6 h]; exact stI_ok (by rw [k9_6 h]) (by rw [k9_6 h]; exact hi) (by rw [k9_6 h]; omega)
theorem r9_7 (h : S9 o K R) : R o 7 = some (o + 3) := (h.2.2.2).1
theorem k9_7 (h : S9 o K R) : K (o + 3) = (21, 6) := (h.2.2.2).2
theorem l9_7 (h : S9 o K R) (hi : i < 6) : ldI K I (R o 7) (nI i) = some (I (o + 3) i) := by rw [r9_7 h]; exact ldI_ok (by rw [k9_7 h]) (by rw [k9_7 h]; exact hi) (by rw [k9_7 h]; omega)
theorem s9_7 (h : S9 o K R) (hi : i < 6) : stI K I (R o 7) (nI i) v = some (u2 I (o + 3) i v) := by rw [r9_7 h]; exact stI_ok (by rw [k9_7 h]) (by rw [k9_7 h]; exact hi) (by rw [k9_7 h]; omega)
end
def S10 (o : Nat) (K : Sh) (R : Rf) : Prop := K o = (11, 4) ∧ (R o 0 = some (o + 1) ∧ K (o + 1) = (21, 5)) ∧ (R o 1 = some (o + 2) ∧ K (o + 2) = (21, 5)) ∧ (R o 2 = some (o + 3) ∧ K (o + 3) = (21, 5)) ∧ (R o 3 = some (o + 4) ∧ K (o + 4) = (21, 5))
section
variable {o : Nat} {K : Sh} {R : Rf} {I : Im} {J : Jm} {v : Int32} {u : Int64} {i : Nat}
theorem S10.k (h : S10 o K R) : K o = (11, 4) := h.1
theorem ob10 (h : S10 o K R) : ob K 11 (some o) = some o := ob_ok (by rw [S10.k h])
theorem r10_0 (h : S10 o K R) : R o 0 = some (o + 1) := (h.2.1).1
theorem k10_0 (h : S10 o K R) : K (o + 1) = (21, 5) := (h.2.1).2
theorem l10_0 (h : S10 o K R) (hi : i < 5) : ldI K I (R o 0) (nI i) = some (I (o + 1) i) := by rw [r10_0 h]; exact ldI_ok (by rw [k10_0 h]) (by rw [k10_0 h]; exact hi) (by rw [k10_0 h]; omega)
theorem s10_0 (h : S10 o K R) (hi : i < 5) : stI K I (R o 0) (nI i) v = some (u2 I (o + 1) i v) := by rw [r10_0 h]; exact stI_ok (by rw [k10_0 h]) (by rw [k10_0 h]; exact hi) (by rw [k10_0 h]; omega)
theorem r10_1 (h : S10 o K R) : R o 1 = some (o + 2) := (h.2.2.1).1
theorem k10_1 (h : S10 o K R) : K (o + 2) = (21, 5) := (h.2.2.1).2
theorem l10_1 (h : S10 o K R) (hi : i < 5) : ldI K I (R o 1) (nI i) = some (I (o + 2) i) := by rw [r10_1 h]; exact ldI_ok (by rw [k10_1 h]) (by rw [k10_1 h]; exact hi) (by rw [k10_1 h]; omega)
theorem s10_1 (h : S10 o K R) (hi : i < 5) : stI K I (R o 1) (nI i) v = some (u2 I (o + 2) i v) := by rw [r10_1 h]; exact stI_ok (by rw [k10_1 h]) (by rw [k10_1 h]; exact hi) (by rw [k10_1 h]; omega)
theorem r10_2 (h : S10 o K R) : R o 2 = some (o + 3) := (h.2.2.2.1).1
theorem k10_2 (h : S10 o K R) : K (o + 3) = (21, 5) := (h.2.2.2.1).2
theorem l10_2 (h : S10 o K R) (hi : i < 5) : ldI K I (R o 2) (nI i) = some (I (o + 3) i) := by rw [r10_2 h]; exact ldI_ok (by rw [k10_2 h]) (by rw [k10_2 h]; exact hi) (by rw [k10_2 h]; omega)
theorem s10_2 (h : S10 o K R) (hi : i < 5) : stI K I (R o 2) (nI i) v = some (u2 I (o + 3) i v) := by rw [r10_2 h]; exact stI_ok (by rw [k10_2 h]) (by rw [k10_2 h]; exact hi) (by rw [k10_2 h]; omega)
theorem r10_3 (h : S10 o K R) : R o 3 = some (o + 4) := (h.2.2.2.2).1
theorem k10_3 (h : S10 o K R) : K (o + 4) = (21, 5) := (h.2.2.2.2).2
theorem l10_3 (h : S10 o K R) (hi : i < 5) : ldI K I (R o 3) (nI i) = some (I (o + 4) i) := by rw [r10_3 h]; exact ldI_ok (by rw [k10_3 h]) (by rw [k10_3 h]; exact hi) (by rw [k10_3 h]; omega)
theorem s10_3 (h : S10 o K R) (hi : i < 5) : stI K I (R o 3) (nI i) v = some (u2 I (o + 4) i v) := by rw [r10_3 h]; exact stI_ok (by rw [k10_3 h]) (by rw [k10_3 h]; exact hi) (by rw [k10_3 h]; omega)
end
def S11 (o : Nat) (K : Sh) (R : Rf) : Prop := K o = (12, 19) ∧ (R o 0 = some (o + 1) ∧ K (o + 1) = (5, 10)) ∧ (R o 3 = some (o + 6) ∧ K (o + 6) = (25, 10)) ∧ (R o 5 = some (o + 7) ∧ K (o + 7) = (24, 6)) ∧ (R o 7 = some (o + 8) ∧ K (o + 8) = (7, 7)) ∧ (R o 8 = some (o + 17) ∧ K (o + 17) = (7, 7)) ∧ (R o 10 = some (o + 26) ∧ K (o + 26) = (26, 6)) ∧ (R o 11 = some (o + 27) ∧ K (o + 27) = (1, 2)) ∧ (R o 12 = some (o + 29) ∧ K (o + 29) = (9, 8)) ∧ (R o 13 = some (o + 32) ∧ K (o + 32) = (4, 10)) ∧ (R o 14 = some (o + 37) ∧ K (o + 37) = (3, 6)) ∧ (R o 15 = some (o + 39) ∧ K (o + 39) = (11, 4)) ∧ (R o 16 = some (o + 44) ∧ K (o + 44) = (10, 9)) ∧ (R o 17 = some (o + 48) ∧ K (o + 48) = (2, 3)) ∧ (R o 18 = some (o + 49) ∧ K (o + 49) = (21, 5))
section
variable {o : Nat} {K : Sh} {R : Rf} {I : Im} {J : Jm} {v : Int32} {u : Int64} {i : Nat}
theorem S11.k (h : S11 o K R) : K o = (12, 19) := h.1
theorem ob11 (h : S11 o K R) : ob K 12 (some o) = some o := ob_ok (by rw [S11.k h])
theorem r11_0 (h : S11 o K R) : R o 0 = some (o + 1) := (h.2.1).1
theorem k11_0 (h : S11 o K R) : K (o + 1) = (5, 10) := (h.2.1).2
theorem o11_0 (h : S11 o K R) : ob K 5 (R o 0) = some (o + 1) := by rw [r11_0 h]; exact ob_ok (by rw [k11_0 h])
theorem r11_3 (h : S11 o K R) : R o 3 = some (o + 6) := (h.2.2.1).1
theorem k11_3 (h : S11 o K R) : K (o + 6) = (25, 10) := (h.2.2.1).2
theorem l11_3 (h : S11 o K R) (hi : i < 10) : ldR K R 25 (R o 3) (nI i) = some (R (o + 6) i) := by rw [r11_3 h]; exact ldR_ok (by rw [k11_3 h]) (by rw [k11_3 h]; exact hi) (by rw [k11_3 h]; omega)
theorem r11_5 (h : S11 o K R) : R o 5 = some (o + 7) := (h.2.2.2.1).1
theorem k11_5 (h : S11 o K R) : K (o + 7) = (24, 6) := (h.2.2.2.1).2
theorem l11_5 (h : S11 o K R) (hi : i < 6) : ldR K R 24 (R o 5) (nI i) = some (R (o + 7) i) := by rw [r11_5 h]; exact ldR_ok (by rw [k11_5 h]) (by rw [k11_5 h]; exact hi) (by rw [k11_5 h]; omega)
theorem r11_7 (h : S11 o K R) : R o 7 = some (o + 8) := (h.2.2.2.2.1).1
theorem k11_7 (h : S11 o K R) : K (o + 8) = (7, 7) := (h.2.2.2.2.1).2
theorem o11_7 (h : S11 o K R) : ob K 7 (R o 7) = some (o + 8) := by rw [r11_7 h]; exact ob_ok (by rw [k11_7 h])
theorem r11_8 (h : S11 o K R) : R o 8 = some (o + 17) := (h.2.2.2.2.2.1).1
theorem k11_8 (h : S11 o K R) : K (o + 17) = (7, 7) := (h.2.2.2.2.2.1).2
theorem o11_8 (h : S11 o K R) : ob K 7 (R o 8) = some (o + 17) := by rw [r11_8 h]; exact ob_ok (by rw [k11_8 h])
theorem r11_10 (h : S11 o K R) : R o 10 = some (o + 26) := (h.2.2.2.2.2.2.1).1
theorem k11_10 (h : S11 o K R) : K (o + 26) = (26, 6) := (h.2.2.2.2.2.2.1).2
theorem l11_10 (h : S11 o K R) (hi : i < 6) : ldR K R 26 (R o 10) (nI i) = some (R (o + 26) i) := by rw [r11_10 h]; exact ldR_ok (by rw [k11_10 h]) (by rw [k11_10 h]; exact hi) (by rw [k11_10 h]; omega)
theorem r11_11 (h : S11 o K R) : R o 11 = some (o + 27) := (h.2.2.2.2.2.2.2.1).1
theorem k11_11 (h : S11 o K R) : K (o + 27) = (1, 2) := (h.2.2.2.2.2.2.2.1).2
theorem o11_11 (h : S11 o K R) : ob K 1 (R o 11) = some (o + 27) := by rw [r11_11 h]; exact ob_ok (by rw [k11_11 h])
theorem r11_12 (h : S11 o K R) : R o 12 = some (o + 29) := (h.2.2.2.2.2.2.2.2.1).1
theorem k11_12 (h : S11 o K R) : K (o + 29) = (9, 8) := (h.2.2.2.2.2.2.2.2.1).2
theorem o11_12 (h : S11 o K R) : ob K 9 (R o 12) = some (o + 29) := by rw [r11_12 h]; exact ob_ok (by rw [k11_12 h])
theorem r11_13 (h : S11 o K R) : R o 13 = some (o + 32) := (h.2.2.2.2.2.2.2.2.2.1).1
theorem k11_13 (h : S11 o K R) : K (o + 32) = (4, 10) := (h.2.2.2.2.2.2.2.2.2.1).2
theorem o11_13 (h : S11 o K R) : ob K 4 (R o 13) = some (o + 32) := by rw [r11_13 h]; exact ob_ok (by rw [k11_13 h])
theorem r11_14 (h : S11 o K R) : R o 14 = some (o + 37) := (h.2.2.2.2.2.2.2.2.2.2.1).1
theorem k11_14 (h : S11 o K R) : K (o + 37) = (3, 6) := (h.2.2.2.2.2.2.2.2.2.2.1).2
theorem o11_14 (h : S11 o K R) : ob K 3 (R o 14) = some (o + 37) := by rw [r11_14 h]; exact ob_ok (by rw [k11_14 h])
theorem r11_15 (h : S11 o K R) : R o 15 = some (o + 39) := (h.2.2.2.2.2.2.2.2.2.2.2.1).1
theorem k11_15 (h : S11 o K R) : K (o + 39) = (11, 4) := (h.2.2.2.2.2.2.2.2.2.2.2.1).2
theorem o11_15 (h : S11 o K R) : ob K 11 (R o 15) = some (o + 39) := by rw [r11_15 h]; exact ob_ok (by rw [k11_15 h])
theorem r11_16 (h : S11 o K R) : R o 16 = some (o + 44) := (h.2.2.2.2.2.2.2.2.2.2.2.2.1).1
theorem k11_16 (h : S11 o K R) : K (o + 44) = (10, 9) := (h.2.2.2.2.2.2.2.2.2.2.2.2.1).2
theorem o11_16 (h : S11 o K R) : ob K 10 (R o 16) = some (o + 44) := by rw [r11_16 h]; exact ob_ok (by rw [k11_16 h])
theorem r11_17 (h : S11 o K R) : R o 17 = some (o + 48) := (h.2.2.2.2.2.2.2.2.2.2.2.2.2.1).1
theorem k11_17 (h : S11 o K R) : K (o + 48) = (2, 3) := (h.2.2.2.2.2.2.2.2.2.2.2.2.2.1).2
theorem o11_17 (h : S11 o K R) : ob K 2 (R o 17) = some (o + 48) := by rw [r11_17 h]; exact ob_ok (by rw [k11_17 h])
theorem r11_18 (h : S11 o K R) : R o 18 = some (o + 49) := (h.2.2.2.2.2.2.2.2.2.2.2.2.2.2).1
theorem k11_18 (h : S11 o K R) : K (o + 49) = (21, 5) := (h.2.2.2.2.2.2.2.2.2.2.2.2.2.2).2
theorem l11_18 (h : S11 o K R) (hi : i < 5) : ldI K I (R o 18) (nI i) = some (I (o + 49) i) := by rw [r11_18 h]; exact ldI_ok (by rw [k11_18 h]) (by rw [k11_18 h]; exact hi) (by rw [k11_18 h]; omega)
theorem s11_18 (h : S11 o K R) (hi : i < 5) : stI K I (R o 18) (nI i) v = some (u2 I (o + 49) i v) := by rw [r11_18 h]; exact stI_ok (by rw [k11_18 h]) (by rw [k11_18 h]; exact hi) (by rw [k11_18 h]; omega)
end
abbrev S12 (o : Nat) (K : Sh) (R : Rf) : Prop := MSH o K R
section
variable {o : Nat} {K : Sh} {R : Rf} {I : Im} {J : Jm} {v : Int32} {u : Int64} {i : Nat}
theorem S12.k (h : S12 o K R) : K o = (13, 73) := h.k0
theorem ob12 (h : S12 o K R) : ob K 13 (some o) = some o := ob_ok (by rw [S12.k h])
theorem r12_5 (h : S12 o K R) : R o 5 = some (o + 1) := h.r (by decide) (by decide)
theorem k12_5 (h : S12 o K R) : K (o + 1) = (21, 100) := MSH.k h (by decide)
theorem l12_5 (h : S12 o K R) (hi : i < 100) : ldI K I (R o 5) (nI i) = some (I (o + 1) i) := by rw [r12_5 h]; exact ldI_ok (by rw [k12_5 h]) (by rw [k12_5 h]; exact hi) (by rw [k12_5 h]; omega)
theorem s12_5 (h : S12 o K R) (hi : i < 100) : stI K I (R o 5) (nI i) v = some (u2 I (o + 1) i v) := by rw [r12_5 h]; exact stI_ok (by rw [k12_5 h]) (by rw [k12_5 h]; exact hi) (by rw [k12_5 h]; omega)
theorem r12_6 (h : S12 o K R) : R o 6 = some (o + 2) := h.r (by decide) (by decide)
theorem k12_6 (h : S12 o K R) : K (o + 2) = (21, 5) := MSH.k h (by decide)
theorem l12_6 (h : S12 o K R) (hi : i < 5) : ldI K I (R o 6) (nI i) = some (I (o + 2) i) := by rw [r12_6 h]; exact ldI_ok (by rw [k12_6 h]) (by rw [k12_6 h]; exact hi) (by rw [k12_6 h]; omega)
theorem s12_6 (h : S12 o K R) (hi : i < 5) : stI K I (R o 6) (nI i) v = some (u2 I (o + 2) i v) := by rw [r12_6 h]; exact stI_ok (by rw [k12_6 h]) (by rw [k12_6 h]; exact hi) (by rw [k12_6 h]; omega)
theorem r12_7 (h : S12 o K R) : R o 7 = some (o + 3) := h.r (by decide) (by decide)
theorem k12_7 (h : S12 o K R) : K (o + 3) = (21, 60) := MSH.k h (by decide)
theorem l12_7 (h : S12 o K R) (hi : i < 60) : ldI K I (R o 7) (nI i) = some (I (o + 3) i) := by rw [r12_7 h]; exact ldI_ok (by rw [k12_7 h]) (by rw [k12_7 h]; exact hi) (by rw [k12_7 h]; omega)
theorem s12_7 (h : S12 o K R) (hi : i < 60) : stI K I (R o 7) (nI i) v = some (u2 I (o + 3) i v) := by rw [r12_7 h]; exact stI_ok (by rw [k12_7 h]) (by rw [k12_7 h]; exact hi) (by rw [k12_7 h]; omega)
theorem r12_8 (h : S12 o K R) : R o 8 = some (o + 4) := h.r (by decide) (by decide)
theorem k12_8 (h : S12 o K R) : K (o + 4) = (21, 60) := MSH.k h (by decide)
theorem l12_8 (h : S12 o K R) (hi : i < 60) : ldI K I (R o 8) (nI i) = some (I (o + 4) i) := by rw [r12_8 h]; exact ldI_ok (by rw [k12_8 h]) (by rw [k12_8 h]; exact hi) (by rw [k12_8 h]; omega)
theorem s12_8 (h : S12 o K R) (hi : i < 60) : stI K I (R o 8) (nI i) v = some (u2 I (o + 4) i v) := by rw [r12_8 h]; exact stI_ok (by rw [k12_8 h]) (by rw [k12_8 h]; exact hi) (by rw [k12_8 h]; omega)
theorem r12_9 (h : S12 o K R) : R o 9 = some (o + 5) := h.r (by decide) (by decide)
theorem k12_9 (h : S12 o K R) : K (o + 5) = (21, 60) := MSH.k h (by decide)
theorem l12_9 (h : S12 o K R) (hi : i < 60) : ldI K I (R o 9) (nI i) = some (I (o + 5) i) := by rw [r12_9 h]; exact ldI_ok (by rw [k12_9 h]) (by rw [k12_9 h]; exact hi) (by rw [k12_9 h]; omega)
theorem s12_9 (h : S12 o K R) (hi : i < 60) : stI K I (R o 9) (nI i) v = some (u2 I (o + 5) i v) := by rw [r12_9 h]; exact stI_ok (by rw [k12_9 h]) (by rw [k12_9 h]; exact hi) (by rw [k12_9 h]; omega)
theorem r12_10 (h : S12 o K R) : R o 10 = some (o + 6) := h.r (by decide) (by decide)
theorem k12_10 (h : S12 o K R) : K (o + 6) = (21, 60) := MSH.k h (by decide)
theorem l12_10 (h : S12 o K R) (hi : i < 60) : ldI K I (R o 10) (nI i) = some (I (o + 6) i) := by rw [r12_10 h]; exact ldI_ok (by rw [k12_10 h]) (by rw [k12_10 h]; exact hi) (by rw [k12_10 h]; omega)
theorem s12_10 (h : S12 o K R) (hi : i < 60) : stI K I (R o 10) (nI i) v = some (u2 I (o + 6) i v) := by rw [r12_10 h]; exact stI_ok (by rw [k12_10 h]) (by rw [k12_10 h]; exact hi) (by rw [k12_10 h]; omega)
theorem r12_11 (h : S12 o K R) : R o 11 = some (o + 7) := h.r (by decide) (by decide)
theorem k12_11 (h : S12 o K R) : K (o + 7) = (21, 60) := MSH.k h (by decide)
theorem l12_11 (h : S12 o K R) (hi : i < 60) : ldI K I (R o 11) (nI i) = some (I (o + 7) i) := by rw [r12_11 h]; exact ldI_ok (by rw [k12_11 h]) (by rw [k12_11 h]; exact hi) (by rw [k12_11 h]; omega)
theorem s12_11 (h : S12 o K R) (hi : i < 60) : stI K I (R o 11) (nI i) v = some (u2 I (o + 7) i v) := by rw [r12_11 h]; exact stI_ok (by rw [k12_11 h]) (by rw [k12_11 h]; exact hi) (by rw [k12_11 h]; omega)
theorem r12_12 (h : S12 o K R) : R o 12 = some (o + 8) := h.r (by decide) (by decide)
theorem k12_12 (h : S12 o K R) : K (o + 8) = (21, 500) := MSH.k h (by decide)
theorem l12_12 (h : S12 o K R) (hi : i < 500) : ldI K I (R o 12) (nI i) = some (I (o + 8) i) := by rw [r12_12 h]; exact ldI_ok (by rw [k12_12 h]) (by rw [k12_12 h]; exact hi) (by rw [k12_12 h]; omega)
theorem s12_12 (h : S12 o K R) (hi : i < 500) : stI K I (R o 12) (nI i) v = some (u2 I (o + 8) i v) := by rw [r12_12 h]; exact stI_ok (by rw [k12_12 h]) (by rw [k12_12 h]; exact hi) (by rw [k12_12 h]; omega)
theorem r12_13 (h : S12 o K R) : R o 13 = some (o + 9) := h.r (by decide) (by decide)
theorem k12_13 (h : S12 o K R) : K (o + 9) = (21, 101) := MSH.k h (by decide)
theorem l12_13 (h : S12 o K R) (hi : i < 101) : ldI K I (R o 13) (nI i) = some (I (o + 9) i) := by rw [r12_13 h]; exact ldI_ok (by rw [k12_13 h]) (by rw [k12_13 h]; exact hi) (by rw [k12_13 h]; omega)
theorem s12_13 (h : S12 o K R) (hi : i < 101) : stI K I (R o 13) (nI i) v = some (u2 I (o + 9) i v) := by rw [r12_13 h]; exact stI_ok (by rw [k12_13 h]) (by rw [k12_13 h]; exact hi) (by rw [k12_13 h]; omega)
theorem r12_17 (h : S12 o K R) : R o 17 = some (o + 10) := h.r (by decide) (by decide)
theorem k12_17 (h : S12 o K R) : K (o + 10) = (23, 100) := MSH.k h (by decide)
theorem l12_17 (h : S12 o K R) (hi : i < 100) : ldZ K I (R o 17) (nI i) = some (I (o + 10) i) := by rw [r12_17 h]; exact ldZ_ok (by rw [k12_17 h]) (by rw [k12_17 h]; exact hi) (by rw [k12_17 h]; omega)
theorem s12_17 (h : S12 o K R) (hi : i < 100) (hv : v &&& 1 = v) : stZ K I (R o 17) (nI i) v = some (u2 I (o + 10) i v) := by rw [r12_17 h]; exact stZ_ok (by rw [k12_17 h]) hv (by rw [k12_17 h]; exact hi) (by rw [k12_17 h]; omega)
theorem r12_18 (h : S12 o K R) : R o 18 = some (o + 11) := h.r (by decide) (by decide)
theorem k12_18 (h : S12 o K R) : K (o + 11) = (21, 5) := MSH.k h (by decide)
theorem l12_18 (h : S12 o K R) (hi : i < 5) : ldI K I (R o 18) (nI i) = some (I (o + 11) i) := by rw [r12_18 h]; exact ldI_ok (by rw [k12_18 h]) (by rw [k12_18 h]; exact hi) (by rw [k12_18 h]; omega)
theorem s12_18 (h : S12 o K R) (hi : i < 5) : stI K I (R o 18) (nI i) v = some (u2 I (o + 11) i v) := by rw [r12_18 h]; exact stI_ok (by rw [k12_18 h]) (by rw [k12_18 h]; exact hi) (by rw [k12_18 h]; omega)
theorem r12_19 (h : S12 o K R) : R o 19 = some (o + 12) := h.r (by decide) (by decide)
theorem k12_19 (h : S12 o K R) : K (o + 12) = (21, 5) := MSH.k h (by decide)
theorem l12_19 (h : S12 o K R) (hi : i < 5) : ldI K I (R o 19) (nI i) = some (I (o + 12) i) := by rw [r12_19 h]; exact ldI_ok (by rw [k12_19 h]) (by rw [k12_19 h]; exact hi) (by rw [k12_19 h]; omega)
theorem s12_19 (h : S12 o K R) (hi : i < 5) : stI K I (R o 19) (nI i) v = some (u2 I (o + 12) i v) := by rw [r12_19 h]; exact stI_ok (by rw [k12_19 h]) (by rw [k12_19 h]; exact hi) (by rw [k12_19 h]; omega)
theorem r12_20 (h : S12 o K R) : R o 20 = some (o + 13) := h.r (by decide) (by decide)
theorem k12_20 (h : S12 o K R) : K (o + 13) = (21, 5) := MSH.k h (by decide)
theorem l12_20 (h : S12 o K R) (hi : i < 5) : ldI K I (R o 20) (nI i) = some (I (o + 13) i) := by rw [r12_20 h]; exact ldI_ok (by rw [k12_20 h]) (by rw [k12_20 h]; exact hi) (by rw [k12_20 h]; omega)
theorem s12_20 (h : S12 o K R) (hi : i < 5) : stI K I (R o 20) (nI i) v = some (u2 I (o + 13) i v) := by rw [r12_20 h]; exact stI_ok (by rw [k12_20 h]) (by rw [k12_20 h]; exact hi) (by rw [k12_20 h]; omega)
theorem r12_22 (h : S12 o K R) : R o 22 = some (o + 14) := h.r (by decide) (by decide)
theorem k12_22 (h : S12 o K R) : K (o + 14) = (21, 6) := MSH.k h (by decide)
theorem l12_22 (h : S12 o K R) (hi : i < 6) : ldI K I (R o 22) (nI i) = some (I (o + 14) i) := by rw [r12_22 h]; exact ldI_ok (by rw [k12_22 h]) (by rw [k12_22 h]; exact hi) (by rw [k12_22 h]; omega)
theorem s12_22 (h : S12 o K R) (hi : i < 6) : stI K I (R o 22) (nI i) v = some (u2 I (o + 14) i v) := by rw [r12_22 h]; exact stI_ok (by rw [k12_22 h]) (by rw [k12_22 h]; exact hi) (by rw [k12_22 h]; omega)
theorem r12_23 (h : S12 o K R) : R o 23 = some (o + 15) := h.r (by decide) (by decide)
theorem k12_23 (h : S12 o K R) : K (o + 15) = (21, 6) := MSH.k h (by decide)
theorem l12_23 (h : S12 o K R) (hi : i < 6) : ldI K I (R o 23) (nI i) = some (I (o + 15) i) := by rw [r12_23 h]; exact ldI_ok (by rw [k12_23 h]) (by rw [k12_23 h]; exact hi) (by rw [k12_23 h]; omega)
theorem s12_23 (h : S12 o K R) (hi : i < 6) : stI K I (R o 23) (nI i) v = some (u2 I (o + 15) i v) := by rw [r12_23 h]; exact stI_ok (by rw [k12_23 h]) (by rw [k12_23 h]; exact hi) (by rw [k12_23 h]; omega)
theorem r12_24 (h : S12 o K R) : R o 24 = some (o + 16) := h.r (by decide) (by decide)
theorem k12_24 (h : S12 o K R) : K (o + 16) = (21, 7) := MSH.k h (by decide)
theorem l12_24 (h : S12 o K R) (hi : i < 7) : ldI K I (R o 24) (nI i) = some (I (o + 16) i) := by rw [r12_24 h]; exact ldI_ok (by rw [k12_24 h]) (by rw [k12_24 h]; exact hi) (by rw [k12_24 h]; omega)
theorem s12_24 (h : S12 o K R) (hi : i < 7) : stI K I (R o 24) (nI i) v = some (u2 I (o + 16) i v) := by rw [r12_24 h]; exact stI_ok (by rw [k12_24 h]) (by rw [k12_24 h]; exact hi) (by rw [k12_24 h]; omega)
theorem r12_25 (h : S12 o K R) : R o 25 = some (o + 17) := h.r (by decide) (by decide)
theorem k12_25 (h : S12 o K R) : K (o + 17) = (21, 6) := MSH.k h (by decide)
theorem l12_25 (h : S12 o K R) (hi : i < 6) : ldI K I (R o 25) (nI i) = some (I (o + 17) i) := by rw [r12_25 h]; exact ldI_ok (by rw [k12_25 h]) (by rw [k12_25 h]; exact hi) (by rw [k12_25 h]; omega)
theorem s12_25 (h : S12 o K R) (hi : i < 6) : stI K I (R o 25) (nI i) v = some (u2 I (o + 17) i v) := by rw [r12_25 h]; exact stI_ok (by rw [k12_25 h]) (by rw [k12_25 h]; exact hi) (by rw [k12_25 h]; omega)
theorem r12_26 (h : S12 o K R) : R o 26 = some (o + 18) := h.r (by decide) (by decide)
theorem k12_26 (h : S12 o K R) : K (o + 18) = (21, 6) := MSH.k h (by decide)
theorem l12_26 (h : S12 o K R) (hi : i < 6) : ldI K I (R o 26) (nI i) = some (I (o + 18) i) := by rw [r12_26 h]; exact ldI_ok (by rw [k12_26 h]) (by rw [k12_26 h]; exact hi) (by rw [k12_26 h]; omega)
theorem s12_26 (h : S12 o K R) (hi : i < 6) : stI K I (R o 26) (nI i) v = some (u2 I (o + 18) i v) := by rw [r12_26 h]; exact stI_ok (by rw [k12_26 h]) (by rw [k12_26 h]; exact hi) (by rw [k12_26 h]; omega)
theorem r12_30 (h : S12 o K R) : R o 30 = some (o + 19) := h.r (by decide) (by decide)
theorem k12_30 (h : S12 o K R) : K (o + 19) = (21, 11) := MSH.k h (by decide)
theorem l12_30 (h : S12 o K R) (hi : i < 11) : ldI K I (R o 30) (nI i) = some (I (o + 19) i) := by rw [r12_30 h]; exact ldI_ok (by rw [k12_30 h]) (by rw [k12_30 h]; exact hi) (by rw [k12_30 h]; omega)
theorem s12_30 (h : S12 o K R) (hi : i < 11) : stI K I (R o 30) (nI i) v = some (u2 I (o + 19) i v) := by rw [r12_30 h]; exact stI_ok (by rw [k12_30 h]) (by rw [k12_30 h]; exact hi) (by rw [k12_30 h]; omega)
theorem r12_31 (h : S12 o K R) : R o 31 = some (o + 20) := h.r (by decide) (by decide)
theorem k12_31 (h : S12 o K R) : K (o + 20) = (21, 11) := MSH.k h (by decide)
theorem l12_31 (h : S12 o K R) (hi : i < 11) : ldI K I (R o 31) (nI i) = some (I (o + 20) i) := by rw [r12_31 h]; exact ldI_ok (by rw [k12_31 h]) (by rw [k12_31 h]; exact hi) (by rw [k12_31 h]; omega)
theorem s12_31 (h : S12 o K R) (hi : i < 11) : stI K I (R o 31) (nI i) v = some (u2 I (o + 20) i v) := by rw [r12_31 h]; exact stI_ok (by rw [k12_31 h]) (by rw [k12_31 h]; exact hi) (by rw [k12_31 h]; omega)
theorem r12_32 (h : S12 o K R) : R o 32 = some (o + 21) := h.r (by decide) (by decide)
theorem k12_32 (h : S12 o K R) : K (o + 21) = (21, 11) := MSH.k h (by decide)
theorem l12_32 (h : S12 o K R) (hi : i < 11) : ldI K I (R o 32) (nI i) = some (I (o + 21) i) := by rw [r12_32 h]; exact ldI_ok (by rw [k12_32 h]) (by rw [k12_32 h]; exact hi) (by rw [k12_32 h]; omega)
theorem s12_32 (h : S12 o K R) (hi : i < 11) : stI K I (R o 32) (nI i) v = some (u2 I (o + 21) i v) := by rw [r12_32 h]; exact stI_ok (by rw [k12_32 h]) (by rw [k12_32 h]; exact hi) (by rw [k12_32 h]; omega)
theorem r12_33 (h : S12 o K R) : R o 33 = some (o + 22) := h.r (by decide) (by decide)
theorem k12_33 (h : S12 o K R) : K (o + 22) = (21, 55) := MSH.k h (by decide)
theorem l12_33 (h : S12 o K R) (hi : i < 55) : ldI K I (R o 33) (nI i) = some (I (o + 22) i) := by rw [r12_33 h]; exact ldI_ok (by rw [k12_33 h]) (by rw [k12_33 h]; exact hi) (by rw [k12_33 h]; omega)
theorem s12_33 (h : S12 o K R) (hi : i < 55) : stI K I (R o 33) (nI i) v = some (u2 I (o + 22) i v) := by rw [r12_33 h]; exact stI_ok (by rw [k12_33 h]) (by rw [k12_33 h]; exact hi) (by rw [k12_33 h]; omega)
theorem r12_34 (h : S12 o K R) : R o 34 = some (o + 23) := h.r (by decide) (by decide)
theorem k12_34 (h : S12 o K R) : K (o + 23) = (21, 7) := MSH.k h (by decide)
theorem l12_34 (h : S12 o K R) (hi : i < 7) : ldI K I (R o 34) (nI i) = some (I (o + 23) i) := by rw [r12_34 h]; exact ldI_ok (by rw [k12_34 h]) (by rw [k12_34 h]; exact hi) (by rw [k12_34 h]; omega)
theorem s12_34 (h : S12 o K R) (hi : i < 7) : stI K I (R o 34) (nI i) v = some (u2 I (o + 23) i v) := by rw [r12_34 h]; exact stI_ok (by rw [k12_34 h]) (by rw [k12_34 h]; exact hi) (by rw [k12_34 h]; omega)
theorem r12_35 (h : S12 o K R) : R o 35 = some (o + 24) := h.r (by decide) (by decide)
theorem k12_35 (h : S12 o K R) : K (o + 24) = (21, 7) := MSH.k h (by decide)
theorem l12_35 (h : S12 o K R) (hi : i < 7) : ldI K I (R o 35) (nI i) = some (I (o + 24) i) := by rw [r12_35 h]; exact ldI_ok (by rw [k12_35 h]) (by rw [k12_35 h]; exact hi) (by rw [k12_35 h]; omega)
theorem s12_35 (h : S12 o K R) (hi : i < 7) : stI K I (R o 35) (nI i) v = some (u2 I (o + 24) i v) := by rw [r12_35 h]; exact stI_ok (by rw [k12_35 h]) (by rw [k12_35 h]; exact hi) (by rw [k12_35 h]; omega)
theorem r12_36 (h : S12 o K R) : R o 36 = some (o + 25) := h.r (by decide) (by decide)
theorem k12_36 (h : S12 o K R) : K (o + 25) = (21, 7) := MSH.k h (by decide)
theorem l12_36 (h : S12 o K R) (hi : i < 7) : ldI K I (R o 36) (nI i) = some (I (o + 25) i) := by rw [r12_36 h]; exact ldI_ok (by rw [k12_36 h]) (by rw [k12_36 h]; exact hi) (by rw [k12_36 h]; omega)
theorem s12_36 (h : S12 o K R) (hi : i < 7) : stI K I (R o 36) (nI i) v = some (u2 I (o + 25) i v) := by rw [r12_36 h]; exact stI_ok (by rw [k12_36 h]) (by rw [k12_36 h]; exact hi) (by rw [k12_36 h]; omega)
theorem r12_37 (h : S12 o K R) : R o 37 = some (o + 26) := h.r (by decide) (by decide)
theorem k12_37 (h : S12 o K R) : K (o + 26) = (21, 5) := MSH.k h (by decide)
theorem l12_37 (h : S12 o K R) (hi : i < 5) : ldI K I (R o 37) (nI i) = some (I (o + 26) i) := by rw [r12_37 h]; exact ldI_ok (by rw [k12_37 h]) (by rw [k12_37 h]; exact hi) (by rw [k12_37 h]; omega)
theorem s12_37 (h : S12 o K R) (hi : i < 5) : stI K I (R o 37) (nI i) v = some (u2 I (o + 26) i v) := by rw [r12_37 h]; exact stI_ok (by rw [k12_37 h]) (by rw [k12_37 h]; exact hi) (by rw [k12_37 h]; omega)
theorem r12_38 (h : S12 o K R) : R o 38 = some (o + 27) := h.r (by decide) (by decide)
theorem k12_38 (h : S12 o K R) : K (o + 27) = (21, 168) := MSH.k h (by decide)
theorem l12_38 (h : S12 o K R) (hi : i < 168) : ldI K I (R o 38) (nI i) = some (I (o + 27) i) := by rw [r12_38 h]; exact ldI_ok (by rw [k12_38 h]) (by rw [k12_38 h]; exact hi) (by rw [k12_38 h]; omega)
theorem s12_38 (h : S12 o K R) (hi : i < 168) : stI K I (R o 38) (nI i) v = some (u2 I (o + 27) i v) := by rw [r12_38 h]; exact stI_ok (by rw [k12_38 h]) (by rw [k12_38 h]; exact hi) (by rw [k12_38 h]; omega)
theorem r12_39 (h : S12 o K R) : R o 39 = some (o + 28) := h.r (by decide) (by decide)
theorem k12_39 (h : S12 o K R) : K (o + 28) = (21, 6) := MSH.k h (by decide)
theorem l12_39 (h : S12 o K R) (hi : i < 6) : ldI K I (R o 39) (nI i) = some (I (o + 28) i) := by rw [r12_39 h]; exact ldI_ok (by rw [k12_39 h]) (by rw [k12_39 h]; exact hi) (by rw [k12_39 h]; omega)
theorem s12_39 (h : S12 o K R) (hi : i < 6) : stI K I (R o 39) (nI i) v = some (u2 I (o + 28) i v) := by rw [r12_39 h]; exact stI_ok (by rw [k12_39 h]) (by rw [k12_39 h]; exact hi) (by rw [k12_39 h]; omega)
theorem r12_40 (h : S12 o K R) : R o 40 = some (o + 29) := h.r (by decide) (by decide)
theorem k12_40 (h : S12 o K R) : K (o + 29) = (21, 6) := MSH.k h (by decide)
theorem l12_40 (h : S12 o K R) (hi : i < 6) : ldI K I (R o 40) (nI i) = some (I (o + 29) i) := by rw [r12_40 h]; exact ldI_ok (by rw [k12_40 h]) (by rw [k12_40 h]; exact hi) (by rw [k12_40 h]; omega)
theorem s12_40 (h : S12 o K R) (hi : i < 6) : stI K I (R o 40) (nI i) v = some (u2 I (o + 29) i v) := by rw [r12_40 h]; exact stI_ok (by rw [k12_40 h]) (by rw [k12_40 h]; exact hi) (by rw [k12_40 h]; omega)
theorem r12_41 (h : S12 o K R) : R o 41 = some (o + 30) := h.r (by decide) (by decide)
theorem k12_41 (h : S12 o K R) : K (o + 30) = (21, 6) := MSH.k h (by decide)
theorem l12_41 (h : S12 o K R) (hi : i < 6) : ldI K I (R o 41) (nI i) = some (I (o + 30) i) := by rw [r12_41 h]; exact ldI_ok (by rw [k12_41 h]) (by rw [k12_41 h]; exact hi) (by rw [k12_41 h]; omega)
theorem s12_41 (h : S12 o K R) (hi : i < 6) : stI K I (R o 41) (nI i) v = some (u2 I (o + 30) i v) := by rw [r12_41 h]; exact stI_ok (by rw [k12_41 h]) (by rw [k12_41 h]; exact hi) (by rw [k12_41 h]; omega)
theorem r12_42 (h : S12 o K R) : R o 42 = some (o + 31) := h.r (by decide) (by decide)
theorem k12_42 (h : S12 o K R) : K (o + 31) = (21, 6) := MSH.k h (by decide)
theorem l12_42 (h : S12 o K R) (hi : i < 6) : ldI K I (R o 42) (nI i) = some (I (o + 31) i) := by rw [r12_42 h]; exact ldI_ok (by rw [k12_42 h]) (by rw [k12_42 h]; exact hi) (by rw [k12_42 h]; omega)
theorem s12_42 (h : S12 o K R) (hi : i < 6) : stI K I (R o 42) (nI i) v = some (u2 I (o + 31) i v) := by rw [r12_42 h]; exact stI_ok (by rw [k12_42 h]) (by rw [k12_42 h]; exact hi) (by rw [k12_42 h]; omega)
theorem r12_43 (h : S12 o K R) : R o 43 = some (o + 32) := h.r (by decide) (by decide)
theorem k12_43 (h : S12 o K R) : K (o + 32) = (21, 6) := MSH.k h (by decide)
theorem l12_43 (h : S12 o K R) (hi : i < 6) : ldI K I (R o 43) (nI i) = some (I (o + 32) i) := by rw [r12_43 h]; exact ldI_ok (by rw [k12_43 h]) (by rw [k12_43 h]; exact hi) (by rw [k12_43 h]; omega)
theorem s12_43 (h : S12 o K R) (hi : i < 6) : stI K I (R o 43) (nI i) v = some (u2 I (o + 32) i v) := by rw [r12_43 h]; exact stI_ok (by rw [k12_43 h]) (by rw [k12_43 h]; exact hi) (by rw [k12_43 h]; omega)
theorem r12_44 (h : S12 o K R) : R o 44 = some (o + 33) := h.r (by decide) (by decide)
theorem k12_44 (h : S12 o K R) : K (o + 33) = (21, 6) := MSH.k h (by decide)
theorem l12_44 (h : S12 o K R) (hi : i < 6) : ldI K I (R o 44) (nI i) = some (I (o + 33) i) := by rw [r12_44 h]; exact ldI_ok (by rw [k12_44 h]) (by rw [k12_44 h]; exact hi) (by rw [k12_44 h]; omega)
theorem s12_44 (h : S12 o K R) (hi : i < 6) : stI K I (R o 44) (nI i) v = some (u2 I (o + 33) i v) := by rw [r12_44 h]; exact stI_ok (by rw [k12_44 h]) (by rw [k12_44 h]; exact hi) (by rw [k12_44 h]; omega)
theorem r12_52 (h : S12 o K R) : R o 52 = some (o + 34) := h.r (by decide) (by decide)
theorem k12_52 (h : S12 o K R) : K (o + 34) = (21, 3) := MSH.k h (by decide)
theorem l12_52 (h : S12 o K R) (hi : i < 3) : ldI K I (R o 52) (nI i) = some (I (o + 34) i) := by rw [r12_52 h]; exact ldI_ok (by rw [k12_52 h]) (by rw [k12_52 h]; exact hi) (by rw [k12_52 h]; omega)
theorem s12_52 (h : S12 o K R) (hi : i < 3) : stI K I (R o 52) (nI i) v = some (u2 I (o + 34) i v) := by rw [r12_52 h]; exact stI_ok (by rw [k12_52 h]) (by rw [k12_52 h]; exact hi) (by rw [k12_52 h]; omega)
theorem r12_53 (h : S12 o K R) : R o 53 = some (o + 35) := h.r (by decide) (by decide)
theorem k12_53 (h : S12 o K R) : K (o + 35) = (21, 3) := MSH.k h (by decide)
theorem l12_53 (h : S12 o K R) (hi : i < 3) : ldI K I (R o 53) (nI i) = some (I (o + 35) i) := by rw [r12_53 h]; exact ldI_ok (by rw [k12_53 h]) (by rw [k12_53 h]; exact hi) (by rw [k12_53 h]; omega)
theorem s12_53 (h : S12 o K R) (hi : i < 3) : stI K I (R o 53) (nI i) v = some (u2 I (o + 35) i v) := by rw [r12_53 h]; exact stI_ok (by rw [k12_53 h]) (by rw [k12_53 h]; exact hi) (by rw [k12_53 h]; omega)
theorem r12_54 (h : S12 o K R) : R o 54 = some (o + 36) := h.r (by decide) (by decide)
theorem k12_54 (h : S12 o K R) : K (o + 36) = (21, 3) := MSH.k h (by decide)
theorem l12_54 (h : S12 o K R) (hi : i < 3) : ldI K I (R o 54) (nI i) = some (I (o + 36) i) := by rw [r12_54 h]; exact ldI_ok (by rw [k12_54 h]) (by rw [k12_54 h]; exact hi) (by rw [k12_54 h]; omega)
theorem s12_54 (h : S12 o K R) (hi : i < 3) : stI K I (R o 54) (nI i) v = some (u2 I (o + 36) i v) := by rw [r12_54 h]; exact stI_ok (by rw [k12_54 h]) (by rw [k12_54 h]; exact hi) (by rw [k12_54 h]; omega)
theorem r12_55 (h : S12 o K R) : R o 55 = some (o + 37) := h.r (by decide) (by decide)
theorem k12_55 (h : S12 o K R) : K (o + 37) = (21, 3) := MSH.k h (by decide)
theorem l12_55 (h : S12 o K R) (hi : i < 3) : ldI K I (R o 55) (nI i) = some (I (o + 37) i) := by rw [r12_55 h]; exact ldI_ok (by rw [k12_55 h]) (by rw [k12_55 h]; exact hi) (by rw [k12_55 h]; omega)
theorem s12_55 (h : S12 o K R) (hi : i < 3) : stI K I (R o 55) (nI i) v = some (u2 I (o + 37) i v) := by rw [r12_55 h]; exact stI_ok (by rw [k12_55 h]) (by rw [k12_55 h]; exact hi) (by rw [k12_55 h]; omega)
theorem r12_62 (h : S12 o K R) : R o 62 = some (o + 38) := h.r (by decide) (by decide)
theorem k12_62 (h : S12 o K R) : K (o + 38) = (21, 5) := MSH.k h (by decide)
theorem l12_62 (h : S12 o K R) (hi : i < 5) : ldI K I (R o 62) (nI i) = some (I (o + 38) i) := by rw [r12_62 h]; exact ldI_ok (by rw [k12_62 h]) (by rw [k12_62 h]; exact hi) (by rw [k12_62 h]; omega)
theorem s12_62 (h : S12 o K R) (hi : i < 5) : stI K I (R o 62) (nI i) v = some (u2 I (o + 38) i v) := by rw [r12_62 h]; exact stI_ok (by rw [k12_62 h]) (by rw [k12_62 h]; exact hi) (by rw [k12_62 h]; omega)
theorem r12_63 (h : S12 o K R) : R o 63 = some (o + 39) := h.r (by decide) (by decide)
theorem k12_63 (h : S12 o K R) : K (o + 39) = (21, 5) := MSH.k h (by decide)
theorem l12_63 (h : S12 o K R) (hi : i < 5) : ldI K I (R o 63) (nI i) = some (I (o + 39) i) := by rw [r12_63 h]; exact ldI_ok (by rw [k12_63 h]) (by rw [k12_63 h]; exact hi) (by rw [k12_63 h]; omega)
theorem s12_63 (h : S12 o K R) (hi : i < 5) : stI K I (R o 63) (nI i) v = some (u2 I (o + 39) i v) := by rw [r12_63 h]; exact stI_ok (by rw [k12_63 h]) (by rw [k12_63 h]; exact hi) (by rw [k12_63 h]; omega)
theorem r12_64 (h : S12 o K R) : R o 64 = some (o + 40) := h.r (by decide) (by decide)
theorem k12_64 (h : S12 o K R) : K (o + 40) = (21, 5) := MSH.k h (by decide)
theorem l12_64 (h : S12 o K R) (hi : i < 5) : ldI K I (R o 64) (nI i) = some (I (o + 40) i) := by rw [r12_64 h]; exact ldI_ok (by rw [k12_64 h]) (by rw [k12_64 h]; exact hi) (by rw [k12_64 h]; omega)
theorem s12_64 (h : S12 o K R) (hi : i < 5) : stI K I (R o 64) (nI i) v = some (u2 I (o + 40) i v) := by rw [r12_64 h]; exact stI_ok (by rw [k12_64 h]) (by rw [k12_64 h]; exact hi) (by rw [k12_64 h]; omega)
theorem r12_65 (h : S12 o K R) : R o 65 = some (o + 41) := h.r (by decide) (by decide)
theorem k12_65 (h : S12 o K R) : K (o + 41) = (21, 3) := MSH.k h (by decide)
theorem l12_65 (h : S12 o K R) (hi : i < 3) : ldI K I (R o 65) (nI i) = some (I (o + 41) i) := by rw [r12_65 h]; exact ldI_ok (by rw [k12_65 h]) (by rw [k12_65 h]; exact hi) (by rw [k12_65 h]; omega)
theorem s12_65 (h : S12 o K R) (hi : i < 3) : stI K I (R o 65) (nI i) v = some (u2 I (o + 41) i v) := by rw [r12_65 h]; exact stI_ok (by rw [k12_65 h]) (by rw [k12_65 h]; exact hi) (by rw [k12_65 h]; omega)
theorem r12_66 (h : S12 o K R) : R o 66 = some (o + 42) := h.r (by decide) (by decide)
theorem k12_66 (h : S12 o K R) : K (o + 42) = (21, 5) := MSH.k h (by decide)
theorem l12_66 (h : S12 o K R) (hi : i < 5) : ldI K I (R o 66) (nI i) = some (I (o + 42) i) := by rw [r12_66 h]; exact ldI_ok (by rw [k12_66 h]) (by rw [k12_66 h]; exact hi) (by rw [k12_66 h]; omega)
theorem s12_66 (h : S12 o K R) (hi : i < 5) : stI K I (R o 66) (nI i) v = some (u2 I (o + 42) i v) := by rw [r12_66 h]; exact stI_ok (by rw [k12_66 h]) (by rw [k12_66 h]; exact hi) (by rw [k12_66 h]; omega)
theorem r12_68 (h : S12 o K R) : R o 68 = some (o + 43) := h.r (by decide) (by decide)
theorem k12_68 (h : S12 o K R) : K (o + 43) = (21, 20) := MSH.k h (by decide)
theorem l12_68 (h : S12 o K R) (hi : i < 20) : ldI K I (R o 68) (nI i) = some (I (o + 43) i) := by rw [r12_68 h]; exact ldI_ok (by rw [k12_68 h]) (by rw [k12_68 h]; exact hi) (by rw [k12_68 h]; omega)
theorem s12_68 (h : S12 o K R) (hi : i < 20) : stI K I (R o 68) (nI i) v = some (u2 I (o + 43) i v) := by rw [r12_68 h]; exact stI_ok (by rw [k12_68 h]) (by rw [k12_68 h]; exact hi) (by rw [k12_68 h]; omega)
theorem r12_69 (h : S12 o K R) : R o 69 = some (o + 44) := h.r (by decide) (by decide)
theorem k12_69 (h : S12 o K R) : K (o + 44) = (21, 6) := MSH.k h (by decide)
theorem l12_69 (h : S12 o K R) (hi : i < 6) : ldI K I (R o 69) (nI i) = some (I (o + 44) i) := by rw [r12_69 h]; exact ldI_ok (by rw [k12_69 h]) (by rw [k12_69 h]; exact hi) (by rw [k12_69 h]; omega)
theorem s12_69 (h : S12 o K R) (hi : i < 6) : stI K I (R o 69) (nI i) v = some (u2 I (o + 44) i v) := by rw [r12_69 h]; exact stI_ok (by rw [k12_69 h]) (by rw [k12_69 h]; exact hi) (by rw [k12_69 h]; omega)
theorem r12_70 (h : S12 o K R) : R o 70 = some (o + 45) := h.r (by decide) (by decide)
theorem k12_70 (h : S12 o K R) : K (o + 45) = (21, 6) := MSH.k h (by decide)
theorem l12_70 (h : S12 o K R) (hi : i < 6) : ldI K I (R o 70) (nI i) = some (I (o + 45) i) := by rw [r12_70 h]; exact ldI_ok (by rw [k12_70 h]) (by rw [k12_70 h]; exact hi) (by rw [k12_70 h]; omega)
theorem s12_70 (h : S12 o K R) (hi : i < 6) : stI K I (R o 70) (nI i) v = some (u2 I (o + 45) i v) := by rw [r12_70 h]; exact stI_ok (by rw [k12_70 h]) (by rw [k12_70 h]; exact hi) (by rw [k12_70 h]; omega)
theorem r12_71 (h : S12 o K R) : R o 71 = some (o + 46) := h.r (by decide) (by decide)
theorem k12_71 (h : S12 o K R) : K (o + 46) = (22, 360) := MSH.k h (by decide)
theorem l12_71 (h : S12 o K R) (hi : i < 360) : ldJ K J (R o 71) (nI i) = some (J (o + 46) i) := by rw [r12_71 h]; exact ldJ_ok (by rw [k12_71 h]) (by rw [k12_71 h]; exact hi) (by rw [k12_71 h]; omega)
theorem s12_71 (h : S12 o K R) (hi : i < 360) : stJ K J (R o 71) (nI i) u = some (u2 J (o + 46) i u) := by rw [r12_71 h]; exact stJ_ok (by rw [k12_71 h]) (by rw [k12_71 h]; exact hi) (by rw [k12_71 h]; omega)
theorem r12_72 (h : S12 o K R) : R o 72 = some (o + 47) := h.r (by decide) (by decide)
theorem k12_72 (h : S12 o K R) : K (o + 47) = (22, 60) := MSH.k h (by decide)
theorem l12_72 (h : S12 o K R) (hi : i < 60) : ldJ K J (R o 72) (nI i) = some (J (o + 47) i) := by rw [r12_72 h]; exact ldJ_ok (by rw [k12_72 h]) (by rw [k12_72 h]; exact hi) (by rw [k12_72 h]; omega)
theorem s12_72 (h : S12 o K R) (hi : i < 60) : stJ K J (R o 72) (nI i) u = some (u2 J (o + 47) i u) := by rw [r12_72 h]; exact stJ_ok (by rw [k12_72 h]) (by rw [k12_72 h]; exact hi) (by rw [k12_72 h]; omega)
end
section
variable {x : Nat} {K : Sh} {R : Rf}
theorem cS11 (h : CSH x K R) : S11 x K R := ⟨h.k0, ⟨h.r0 (by decide) (by decide), h.k (by decide)⟩, ⟨h.r0 (by decide) (by decide), h.k (by decide)⟩, ⟨h.r0 (by decide) (by decide), h.k (by decide)⟩, ⟨h.r0 (by decide) (by decide), h.k (by decide)⟩, ⟨h.r0 (by decide) (by decide), h.k (by decide)⟩, ⟨h.r0 (by decide) (by decide), h.k (by decide)⟩, ⟨h.r0 (by decide) (by decide), h.k (by decide)⟩, ⟨h.r0 (by decide) (by decide), h.k (by decide)⟩, ⟨h.r0 (by decide) (by decide), h.k (by decide)⟩, ⟨h.r0 (by decide) (by decide), h.k (by decide)⟩, ⟨h.r0 (by decide) (by decide), h.k (by decide)⟩, ⟨h.r0 (by decide) (by decide), h.k (by decide)⟩, ⟨h.r0 (by decide) (by decide), h.k (by decide)⟩, ⟨h.r0 (by decide) (by decide), h.k (by decide)⟩⟩
theorem cS4 (h : CSH x K R) : S4 (x + 1) K R := ⟨h.k (by decide), ⟨h.r (i := 1) (k := 0) (by decide) (by decide), h.k (i := 2) (by decide)⟩, ⟨h.r (i := 1) (k := 5) (by decide) (by decide), h.k (i := 3) (by decide)⟩, ⟨h.r (i := 1) (k := 6) (by decide) (by decide), h.k (i := 4) (by decide)⟩, ⟨h.r (i := 1) (k := 7) (by decide) (by decide), h.k (i := 5) (by decide)⟩⟩
theorem cS6n (h : CSH x K R) : S6 (x + 8) K R := ⟨h.k (by decide), ⟨h.r (i := 8) (k := 1) (by decide) (by decide), h.k (i := 9) (by decide)⟩, ⟨h.r (i := 8) (k := 2) (by decide) (by decide), h.k (i := 14) (by decide)⟩, ⟨h.r (i := 8) (k := 3) (by decide) (by decide), h.k (i := 15) (by decide)⟩, ⟨h.r (i := 8) (k := 5) (by decide) (by decide), h.k (i := 16) (by decide)⟩⟩
theorem cS6k (h : CSH x K R) : S6 (x + 17) K R := ⟨h.k (by decide), ⟨h.r (i := 17) (k := 1) (by decide) (by decide), h.k (i := 18) (by decide)⟩, ⟨h.r (i := 17) (k := 2) (by decide) (by decide), h.k (i := 23) (by decide)⟩, ⟨h.r (i := 17) (k := 3) (by decide) (by decide), h.k (i := 24) (by decide)⟩, ⟨h.r (i := 17) (k := 5) (by decide) (by decide), h.k (i := 25) (by decide)⟩⟩
theorem cS10n (h : CSH x K R) : S10 (x + 9) K R := ⟨h.k (by decide), ⟨h.r (i := 9) (k := 0) (by decide) (by decide), h.k (i := 10) (by decide)⟩, ⟨h.r (i := 9) (k := 1) (by decide) (by decide), h.k (i := 11) (by decide)⟩, ⟨h.r (i := 9) (k := 2) (by decide) (by decide), h.k (i := 12) (by decide)⟩, ⟨h.r (i := 9) (k := 3) (by decide) (by decide), h.k (i := 13) (by decide)⟩⟩
theorem cS10k (h : CSH x K R) : S10 (x + 18) K R := ⟨h.k (by decide), ⟨h.r (i := 18) (k := 0) (by decide) (by decide), h.k (i := 19) (by decide)⟩, ⟨h.r (i := 18) (k := 1) (by decide) (by decide), h.k (i := 20) (by decide)⟩, ⟨h.r (i := 18) (k := 2) (by decide) (by decide), h.k (i := 21) (by decide)⟩, ⟨h.r (i := 18) (k := 3) (by decide) (by decide), h.k (i := 22) (by decide)⟩⟩
theorem cS0 (h : CSH x K R) : S0 (x + 27) K R := ⟨h.k (by decide), ⟨h.r (i := 27) (k := 0) (by decide) (by decide), h.k (i := 28) (by decide)⟩⟩
theorem cS8 (h : CSH x K R) : S8 (x + 29) K R := ⟨h.k (by decide), ⟨h.r (i := 29) (k := 2) (by decide) (by decide), h.k (i := 30) (by decide)⟩, ⟨h.r (i := 29) (k := 3) (by decide) (by decide), h.k (i := 31) (by decide)⟩⟩
theorem cS3 (h : CSH x K R) : S3 (x + 32) K R := ⟨h.k (by decide), ⟨h.r (i := 32) (k := 0) (by decide) (by decide), h.k (i := 33) (by decide)⟩, ⟨h.r (i := 32) (k := 1) (by decide) (by decide), h.k (i := 34) (by decide)⟩, ⟨h.r (i := 32) (k := 2) (by decide) (by decide), h.k (i := 35) (by decide)⟩, ⟨h.r (i := 32) (k := 3) (by decide) (by decide), h.k (i := 36) (by decide)⟩⟩
theorem cS2 (h : CSH x K R) : S2 (x + 37) K R := ⟨h.k (by decide), ⟨h.r (i := 37) (k := 0) (by decide) (by decide), h.k (i := 38) (by decide)⟩⟩
theorem cS10t (h : CSH x K R) : S10 (x + 39) K R := ⟨h.k (by decide), ⟨h.r (i := 39) (k := 0) (by decide) (by decide), h.k (i := 40) (by decide)⟩, ⟨h.r (i := 39) (k := 1) (by decide) (by decide), h.k (i := 41) (by decide)⟩, ⟨h.r (i := 39) (k := 2) (by decide) (by decide), h.k (i := 42) (by decide)⟩, ⟨h.r (i := 39) (k := 3) (by decide) (by decide), h.k (i := 43) (by decide)⟩⟩
theorem cS9t (h : CSH x K R) : S9 (x + 44) K R := ⟨h.k (by decide), ⟨h.r (i := 44) (k := 5) (by decide) (by decide), h.k (i := 45) (by decide)⟩, ⟨h.r (i := 44) (k := 6) (by decide) (by decide), h.k (i := 46) (by decide)⟩, ⟨h.r (i := 44) (k := 7) (by decide) (by decide), h.k (i := 47) (by decide)⟩⟩
theorem cS7 (h : CSH x K R) {t : Nat} (ht : t < 6) : S7 (x + (50 + 2 * t)) K R := by
  rcases (by omega : t = 0 ∨ t = 1 ∨ t = 2 ∨ t = 3 ∨ t = 4 ∨ t = 5) with q | q | q | q | q | q <;> subst q <;> first | exact ⟨h.k (by decide), ⟨h.r (i := 50) (k := 2) (by decide) (by decide), h.k (i := 51) (by decide)⟩⟩ | exact ⟨h.k (by decide), ⟨h.r (i := 52) (k := 2) (by decide) (by decide), h.k (i := 53) (by decide)⟩⟩ | exact ⟨h.k (by decide), ⟨h.r (i := 54) (k := 2) (by decide) (by decide), h.k (i := 55) (by decide)⟩⟩ | exact ⟨h.k (by decide), ⟨h.r (i := 56) (k := 2) (by decide) (by decide), h.k (i := 57) (by decide)⟩⟩ | exact ⟨h.k (by decide), ⟨h.r (i := 58) (k := 2) (by decide) (by decide), h.k (i := 59) (by decide)⟩⟩ | exact ⟨h.k (by decide), ⟨h.r (i := 60) (k := 2) (by decide) (by decide), h.k (i := 61) (by decide)⟩⟩
theorem cTape (h : CSH x K R) {t : Nat} (ht : t < 6) : R (x + 26) t = some (x + (50 + 2 * t)) := by
  rcases (by omega : t = 0 ∨ t = 1 ∨ t = 2 ∨ t = 3 ∨ t = 4 ∨ t = 5) with q | q | q | q | q | q <;> subst q <;> first | exact h.r (i := 26) (k := 0) (by decide) (by decide) | exact h.r (i := 26) (k := 1) (by decide) (by decide) | exact h.r (i := 26) (k := 2) (by decide) (by decide) | exact h.r (i := 26) (k := 3) (by decide) (by decide) | exact h.r (i := 26) (k := 4) (by decide) (by decide) | exact h.r (i := 26) (k := 5) (by decide) (by decide)
theorem cCar (h : CSH x K R) : K (x + 48) = (2, 3) := h.k (by decide)
end
