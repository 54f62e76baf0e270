section WK1
variable {D : va_G} {cA : Nat → ClassId} {bs : Nat} {Z : Nat → Nat} {p : Program} {l : Launch} {e : Env} {s : State} {m : MethodId} {args : Array Value} {below : List Frame} {meth : Method} {c : Code}
set_option maxHeartbeats 4000000 in
theorem w_X0_init_0 (C : Cx D cA bs Z p s m args meth c cX0_init RX0 1 none) (hin : meth.name = "<init>") {o : Nat} {J : Jm} (res : Sh × Nat × Im × Rf) (K : Sh) (n : Nat) (I : Im) (R : Rf) (E : f_X0_init o K n I R = some res) : VW D cA bs Z p l e rX0_init s m args below meth c 1 [(0, va_rf (some o))] K n I J R 0 0 (MQ below (QX D cA bs Z none res.1 res.2.1 res.2.2.1 J res.2.2.2) args s 1 20 (fun q => bs ≤ q)) 0 [] := by
  unfold f_X0_init at E
  refine v_aload_n (r := (some o)) C 0 dX0_init_0 rfl ?_
  refine v_objInit (a := o) C oi_X0 oi_i oi_c (Nat.le_of_ble_eq_true rfl) (Nat.le_of_ble_eq_true rfl) dX0_init_1 ?_
  refine v_aload_n (r := (some o)) C 0 dX0_init_4 rfl ?_
  refine v_bipush C dX0_init_5 k_bipush_20 ?_
  refine v_newI (N := 20) (ce1 := 1) (sl1 := 20) C ac_int E (by decide) (by decide) rfl rfl (Nat.le_of_ble_eq_true rfl) (Nat.le_of_ble_eq_true rfl) dX0_init_7 (fun K1 _ E => ?_)
  refine v_mpI E (fun I2 _ E => ?_)
  obtain ⟨a3, h4, E⟩ := bnd E
  obtain ⟨hra3, hoa3⟩ := ob_is h4
  refine v_putRF (r := (some o)) (q := (some n)) C fa_X0_11 fo_X0_11 hin rfl E hra3 hoa3 dX0_init_9 (fun R5 _ E => ?_)
  obtain rfl := Option.some.inj E
  exact v_vret C rfl dX0_init_12
set_option maxHeartbeats 4000000 in
theorem c_X0_init {n : Nat} {K : Sh} {I : Im} {J : Jm} {R : Rf} {o : Nat}  {res : Sh × Nat × Im × Rf} (E : f_X0_init o K n I R = some res) : Met l yX0_init (Cond.code yX0_init cX0_init 1 none :: tb) rX0_init (PX D cA bs Z [.ref o] K n I J R) (QX D cA bs Z none res.1 res.2.1 res.2.2.1 J res.2.2.2) 1 20 (fun q => bs ≤ q) := by
  refine met_of (lv1 := [(0, va_rf (some o))]) pn_X0 (by exact Nat.le_of_ble_eq_true rfl) (by rfl) ?_
  intro p e s m args below meth c C hn
  exact v_sub [0] [(0, va_rf (some o))] rfl (w_X0_init_0 C (hn.trans rfl) _ _ _ _ _ E)
set_option maxHeartbeats 4000000 in
theorem w_X0_bodyOf_40 (C : Cx D cA bs Z p s m args meth c cX0_bodyOf RX0 4 (some .int)) {K : Sh} {n : Nat} {I : Im} {J : Jm} {R : Rf} (res : Int32) (x1 : Int32) (x2 : Int32) (E : f_X0_bodyOf_40 Z K I x1 x2 = some res) : VW D cA bs Z p l e rX0_bodyOf s m args below meth c 4 [(1, .int x1), (2, .int x2)] K n I J R 0 0 (MQ below (QX D cA bs Z (some (.int res)) K n I J R) args s 0 0 (fun q => bs ≤ q)) 40 [] := by
  unfold f_X0_bodyOf_40 at E
  refine v_gets C 2 (by decide) gs_X0_42 dX0_bodyOf_40 ?_
  refine v_iload_n C 1 dX0_bodyOf_43 rfl ?_
  refine v_iconst C dX0_bodyOf_44 k_iconst_3 ?_
  refine v_imul C dX0_bodyOf_45 ?_
  refine v_iload_n C 0 dX0_bodyOf_46 rfl ?_
  refine v_iadd C dX0_bodyOf_47 ?_
  refine v_iald (r := (some (Z 2))) C E dX0_bodyOf_48 (fun v1 _ E => ?_)
  obtain rfl := Option.some.inj E
  exact v_iret C rfl dX0_bodyOf_49
set_option maxHeartbeats 4000000 in
theorem w_X0_bodyOf_4 (C : Cx D cA bs Z p s m args meth c cX0_bodyOf RX0 4 (some .int)) {K : Sh} {n : Nat} {I : Im} {J : Jm} {R : Rf} (res : Int32)  : ∀ (k : Nat), ∀ (x1 : Int32) (x2 : Int32) (x3 : Int32), f_X0_bodyOf_4 Z K I k x1 x2 x3 = some res → VW D cA bs Z p l e rX0_bodyOf s m args below meth c 4 [(1, .int x1), (2, .int x2), (3, .int x3)] K n I J R 0 0 (MQ below (QX D cA bs Z (some (.int res)) K n I J R) args s 0 0 (fun q => bs ≤ q)) 4 [] := by
  intro k
  induction k with
  | zero =>
    intro x1 x2 x3 E
    have E : (none : Option (Int32)) = some res := E
    cases E
  | succ k ih =>
    intro x1 x2 x3 E
    unfold f_X0_bodyOf_4 at E
    refine v_iload_n C 2 dX0_bodyOf_4 rfl ?_
    refine v_gets C 0 (by decide) gs_X0_39 dX0_bodyOf_5 ?_
    refine v_alen (r := (some (Z 0))) C E dX0_bodyOf_8 (fun v2 _ E => ?_)
    refine v_icmp_ge C 40 E dX0_bodyOf_9 rfl (fun c7 E => ?_) (fun c7 E => ?_)
    · exact v_sub [0, 1] [(1, .int x1), (2, .int x2)] rfl (w_X0_bodyOf_40 C res  _ _ E)
    · refine v_iload_n C 1 dX0_bodyOf_12 rfl ?_
      refine v_if_le C 40 E dX0_bodyOf_13 rfl (fun c6 E => ?_) (fun c6 E => ?_)
      · exact v_sub [0, 1] [(1, .int x1), (2, .int x2)] rfl (w_X0_bodyOf_40 C res  _ _ E)
      · refine v_gets C 2 (by decide) gs_X0_42 dX0_bodyOf_16 ?_
        refine v_iload_n C 1 dX0_bodyOf_19 rfl ?_
        refine v_iconst C dX0_bodyOf_20 k_iconst_3 ?_
        refine v_imul C dX0_bodyOf_21 ?_
        refine v_iload_n C 0 dX0_bodyOf_22 rfl ?_
        refine v_iadd C dX0_bodyOf_23 ?_
        refine v_iald (r := (some (Z 2))) C E dX0_bodyOf_24 (fun v3 _ E => ?_)
        refine v_if_ne C 40 E dX0_bodyOf_25 rfl (fun c5 E => ?_) (fun c5 E => ?_)
        · refine v_gets C 0 (by decide) gs_X0_39 dX0_bodyOf_28 ?_
          refine v_iload_n C 1 dX0_bodyOf_31 rfl ?_
          refine v_iald (r := (some (Z 0))) C E dX0_bodyOf_32 (fun v4 _ E => ?_)
          refine v_istore_n C [(2, .int v4), (1, .int x1), (3, .int x3)] dX0_bodyOf_33 (Nat.le_of_ble_eq_true rfl) rfl ?_
          refine v_iinc (v := x3 + 1) C 2 [(3, .int (x3 + 1)), (2, .int v4), (1, .int x1)] dX0_bodyOf_34 rfl (k_inc_1 _) (Nat.le_of_ble_eq_true rfl) rfl ?_
          refine v_goto C 4 dX0_bodyOf_37 rfl ?_
          exact v_sub [2, 1, 0] [(1, .int x1), (2, .int v4), (3, .int (x3 + 1))] rfl (ih _ _ _ E)
        · exact v_sub [0, 1] [(1, .int x1), (2, .int x2)] rfl (w_X0_bodyOf_40 C res  _ _ E)
set_option maxHeartbeats 4000000 in
theorem w_X0_bodyOf_0 (C : Cx D cA bs Z p s m args meth c cX0_bodyOf RX0 4 (some .int)) {K : Sh} {n : Nat} {I : Im} {J : Jm} {R : Rf} (res : Int32) (x0 : Int32) (x1 : Int32) (E : f_X0_bodyOf Z K I x0 x1 = some res) : VW D cA bs Z p l e rX0_bodyOf s m args below meth c 4 [(0, .int x0), (1, .int x1)] K n I J R 0 0 (MQ below (QX D cA bs Z (some (.int res)) K n I J R) args s 0 0 (fun q => bs ≤ q)) 0 [] := by
  unfold f_X0_bodyOf at E
  refine v_iload_n C 0 dX0_bodyOf_0 rfl ?_
  refine v_istore_n C [(2, .int x0), (0, .int x0), (1, .int x1)] dX0_bodyOf_1 (Nat.le_of_ble_eq_true rfl) rfl ?_
  refine v_iconst C dX0_bodyOf_2 k_iconst_0 ?_
  refine v_istore_n C [(3, .int 0), (2, .int x0), (0, .int x0), (1, .int x1)] dX0_bodyOf_3 (Nat.le_of_ble_eq_true rfl) rfl ?_
  exact v_sub [3, 1, 0] [(1, .int x1), (2, .int x0), (3, .int 0)] rfl (w_X0_bodyOf_4 C res  _ _ _ _ E)
set_option maxHeartbeats 4000000 in
theorem c_X0_bodyOf {n : Nat} {K : Sh} {I : Im} {J : Jm} {R : Rf} {x0 : Int32} {x1 : Int32} {res : Int32} (E : f_X0_bodyOf Z K I x0 x1 = some res) : Met l yX0_bodyOf (Cond.code yX0_bodyOf cX0_bodyOf 4 (some .int) :: tb) rX0_bodyOf (PX D cA bs Z [.int x0, .int x1] K n I J R) (QX D cA bs Z (some (.int res)) K n I J R) 0 0 (fun q => bs ≤ q) := by
  refine met_of (lv1 := [(0, .int x0), (1, .int x1)]) pn_X0 (by exact Nat.le_of_ble_eq_true rfl) (by rfl) ?_
  intro p e s m args below meth c C hn
  exact v_sub [0, 1] [(0, .int x0), (1, .int x1)] rfl (w_X0_bodyOf_0 C _ _ _ E)
set_option maxHeartbeats 4000000 in
theorem w_X0_note_19 (C : Cx D cA bs Z p s m args meth c cX0_note RX0 2 none) {o : Nat} {K : Sh} {n : Nat} {J : Jm} {R : Rf} (ho : (K o).1 = 1) (res : Im) (I : Im) (E : f_X0_note_19 K R o I = some res) : VW D cA bs Z p l e rX0_note s m args below meth c 2 [(0, va_rf (some o))] K n I J R 0 0 (MQ below (QX D cA bs Z none K n res J R) args s 0 0 (fun q => bs ≤ q)) 19 [] := by
  unfold f_X0_note_19 at E
  refine v_aload_n (r := (some o)) C 0 dX0_note_19 rfl ?_
  refine v_dup C dX0_note_20 (rf_cat _) ?_
  refine v_getI (r := (some o)) C fa_X0_45 rfl rfl ho dX0_note_21 ?_
  refine v_iconst C dX0_note_24 k_iconst_1 ?_
  refine v_iadd C dX0_note_25 ?_
  refine v_putI (r := (some o)) C fa_X0_45 rfl E rfl ho ⟨rfl, rfl⟩ dX0_note_26 (fun I1 _ E => ?_)
  obtain rfl := Option.some.inj E
  exact v_vret C rfl dX0_note_29
set_option maxHeartbeats 4000000 in
theorem w_X0_note_0 (C : Cx D cA bs Z p s m args meth c cX0_note RX0 2 none) {o : Nat} {K : Sh} {n : Nat} {J : Jm} {R : Rf} (ho : (K o).1 = 1) (res : Im) (x1 : Int32) (I : Im) (E : f_X0_note K R o x1 I = some res) : VW D cA bs Z p l e rX0_note s m args below meth c 2 [(0, va_rf (some o)), (1, .int x1)] K n I J R 0 0 (MQ below (QX D cA bs Z none K n res J R) args s 0 0 (fun q => bs ≤ q)) 0 [] := by
  unfold f_X0_note at E
  refine v_aload_n (r := (some o)) C 0 dX0_note_0 rfl ?_
  refine v_getI (r := (some o)) C fa_X0_45 rfl rfl ho dX0_note_1 ?_
  refine v_bipush C dX0_note_4 k_bipush_20 ?_
  refine v_icmp_ge C 19 E dX0_note_6 rfl (fun c3 E => ?_) (fun c3 E => ?_)
  · exact v_sub [0] [(0, va_rf (some o))] rfl (w_X0_note_19 C ho res  _ E)
  · refine v_aload_n (r := (some o)) C 0 dX0_note_9 rfl ?_
    refine v_getR (r := (some o)) C fa_X0_11 rfl rfl ho dX0_note_10 ?_
    refine v_aload_n (r := (some o)) C 0 dX0_note_13 rfl ?_
    refine v_getI (r := (some o)) C fa_X0_45 rfl rfl ho dX0_note_14 ?_
    refine v_iload_n C 1 dX0_note_17 rfl ?_
    refine v_iast (r := (R o 0)) C E dX0_note_18 (fun I2 _ E => ?_)
    exact v_sub [0] [(0, va_rf (some o))] rfl (w_X0_note_19 C ho res  _ E)
set_option maxHeartbeats 4000000 in
theorem c_X0_note {n : Nat} {K : Sh} {I : Im} {J : Jm} {R : Rf} {o : Nat} {x1 : Int32} (ho : (K o).1 = 1) {res : Im} (E : f_X0_note K R o x1 I = some res) : Met l yX0_note (Cond.code yX0_note cX0_note 2 none :: tb) rX0_note (PX D cA bs Z [.ref o, .int x1] K n I J R) (QX D cA bs Z none K n res J R) 0 0 (fun q => bs ≤ q) := by
  refine met_of (lv1 := [(0, va_rf (some o)), (1, .int x1)]) pn_X0 (by exact Nat.le_of_ble_eq_true rfl) (by rfl) ?_
  intro p e s m args below meth c C hn
  exact v_sub [0, 1] [(0, va_rf (some o)), (1, .int x1)] rfl (w_X0_note_0 C ho _ _ _ E)
set_option maxHeartbeats 4000000 in
theorem w_X0_perform_0 (C : Cx D cA bs Z p s m args meth c cX0_perform RX0 8 (some .int)) {K : Sh} {n : Nat} {J : Jm} {R : Rf} (d : Nat) (g_X0_perform : Option Nat → Option Nat → Int32 → Int32 → Int32 → Int32 → Im → Option (Int32 × Im)) (hg_X0_perform : ∀ (x0 : Option Nat) (x1 : Option Nat) (x2 : Int32) (x3 : Int32) (x4 : Int32) (x5 : Int32) (I : Im) (res : Int32 × Im), g_X0_perform x0 x1 x2 x3 x4 x5 I = some res → Met l yX0_perform (Cond.code yX0_perform cX0_perform 8 (some .int) :: tb) (rX0_PF d) (PX D cA bs Z [va_rf x0, va_rf x1, .int x2, .int x3, .int x4, .int x5] K n I J R) (QX D cA bs Z (some (.int res.1)) K n res.2 J R) 0 0 (fun q => bs ≤ q)) (res : Int32 × Im) (x0 : Option Nat) (x1 : Option Nat) (x2 : Int32) (x3 : Int32) (x4 : Int32) (x5 : Int32) (I : Im) (E : f_X0_perform_0 Z K R g_X0_perform x0 x1 x2 x3 x4 x5 I = some res) : VW D cA bs Z p l e (rX0_PF (d + 1)) s m args below meth c 8 [(0, va_rf x0), (1, va_rf x1), (2, .int x2), (3, .int x3), (4, .int x4), (5, .int x5)] K n I J R 0 0 (MQ below (QX D cA bs Z (some (.int res.1)) K n res.2 J R) args s 0 0 (fun q => bs ≤ q)) 0 [] := by
  unfold f_X0_perform_0 at E
  refine v_iload C 5 dX0_perform_0 rfl ?_
  refine v_bipush C dX0_perform_2 k_bipush_20 ?_
  refine v_icmp_le C 9 E dX0_perform_4 rfl (fun c54 E => ?_) (fun c54 E => ?_)
  · refine v_iload_n C 2 dX0_perform_9 rfl ?_
    refine v_iload_n C 3 dX0_perform_10 rfl ?_
    obtain ⟨q1, h2, E⟩ := bnd E
    refine v_callS (As := [.int x2, .int x3]) (rv := (some (.int q1))) (st := []) (st1 := [.int q1]) (ce1 := 0) (sl1 := 0) C cs_X0_15 (c_X0_bodyOf (x0 := x2) (x1 := x3) h2) rfl rfl ⟨rfl, rfl, by show _ ≤ _; simp only [rX0_PF, rX0_bodyOf]; omega, by show _ ≤ _; simp only [rX0_PF, rX0_bodyOf]; omega⟩ ⟨Nat.le_refl _, Nat.le_refl _⟩ (Nat.le_of_ble_eq_true rfl) rfl rfl rfl dX0_perform_11 ?_
    refine v_istore C [(6, .int q1), (0, va_rf x0), (1, va_rf x1), (2, .int x2), (3, .int x3), (4, .int x4), (5, .int x5)] dX0_perform_14 (Nat.le_of_ble_eq_true rfl) rfl ?_
    refine v_aload_n (r := x0) C 1 dX0_perform_16 rfl ?_
    refine v_iload C 0 dX0_perform_17 rfl ?_
    obtain ⟨a3, h4, E⟩ := bnd E
    obtain ⟨hra3, hoa3⟩ := ob_is h4
    obtain ⟨q5, h6, E⟩ := bnd E
    refine v_callV (r := x0) (As := [.int q1]) (rv := none) (st := []) (st1 := []) (ce1 := 0) (sl1 := 0) C cv_X0_19 (c_X0_note (x1 := q1) hoa3 h6) hra3 hoa3 rfl rfl ⟨rfl, rfl, by show _ ≤ _; simp only [rX0_PF, rX0_note]; omega, by show _ ≤ _; simp only [rX0_PF, rX0_note]; omega⟩ ⟨Nat.le_refl _, Nat.le_refl _⟩ (Nat.le_of_ble_eq_true rfl) rfl rfl rfl dX0_perform_19 ?_
    refine v_iload C 6 dX0_perform_22 rfl ?_
    refine v_iconst C dX0_perform_24 k_iconst_1 ?_
    refine v_iadd C dX0_perform_25 ?_
    refine v_istore C [(7, .int (x5 + 1)), (6, .int q1), (0, va_rf x0), (1, va_rf x1), (2, .int x2), (3, .int x3), (4, .int x4), (5, .int x5)] dX0_perform_26 (Nat.le_of_ble_eq_true rfl) rfl ?_
    refine v_iload C 1 dX0_perform_28 rfl ?_
    by_cases c9 : q1 = 10
    · have E := ite_t E c9
      refine v_lookup (off := 98) C 128 dX0_perform_30 (by decide) (by rw [c9]; decide) rfl ?_
      refine v_iload C 6 dX0_perform_128 rfl ?_
      refine v_aload_n (r := x1) C 3 dX0_perform_130 rfl ?_
      obtain ⟨a7, h8, E⟩ := bnd E
      obtain ⟨hra7, hoa7⟩ := ob_is h8
      refine v_getI (r := x1) C fa_X0_23 rfl hra7 hoa7 dX0_perform_131 ?_
      refine v_iadd C dX0_perform_134 ?_
      obtain rfl := Option.some.inj E
      exact v_iret C rfl dX0_perform_135
    have E := ite_f E c9
    by_cases c14 : q1 = 11
    · have E := ite_t E c14
      refine v_lookup (off := 106) C 136 dX0_perform_30 (by decide) (by rw [c14]; decide) rfl ?_
      refine v_aload_n (r := x0) C 2 dX0_perform_136 rfl ?_
      refine v_aload_n (r := x1) C 3 dX0_perform_137 rfl ?_
      refine v_aload_n (r := x1) C 3 dX0_perform_138 rfl ?_
      obtain ⟨a10, h11, E⟩ := bnd E
      obtain ⟨hra10, hoa10⟩ := ob_is h11
      refine v_getI (r := x1) C fa_X0_29 rfl hra10 hoa10 dX0_perform_139 ?_
      refine v_iconst C dX0_perform_142 k_iconst_0 ?_
      refine v_iload C 6 dX0_perform_143 rfl ?_
      refine v_iload C 0 dX0_perform_145 rfl ?_
      obtain ⟨q12, h13, E⟩ := bnd E
      refine v_callS (As := [va_rf x0, va_rf x1, .int (q5 a10 0), .int 0, .int x4, .int (x5 + 1)]) (rv := (some (.int q12.1))) (st := []) (st1 := [.int q12.1]) (ce1 := 0) (sl1 := 0) C cs_X0_32 (hg_X0_perform _ _ _ _ _ _ _ _  h13) rfl rfl ⟨rfl, rfl, by show _ ≤ _; simp only [rX0_PF]; omega, by show _ ≤ _; simp only [rX0_PF]; omega⟩ ⟨Nat.le_refl _, Nat.le_refl _⟩ (Nat.le_of_ble_eq_true rfl) rfl rfl rfl dX0_perform_147 ?_
      refine v_aload_n (r := x1) C 3 dX0_perform_150 rfl ?_
      refine v_getI (r := x1) C fa_X0_36 rfl hra10 hoa10 dX0_perform_151 ?_
      refine v_isub C dX0_perform_154 ?_
      obtain rfl := Option.some.inj E
      exact v_iret C rfl dX0_perform_155
    have E := ite_f E c14
    by_cases c19 : q1 = 12
    · have E := ite_t E c19
      refine v_lookup (off := 126) C 156 dX0_perform_30 (by decide) (by rw [c19]; decide) rfl ?_
      refine v_aload_n (r := x0) C 2 dX0_perform_156 rfl ?_
      refine v_aload_n (r := x1) C 3 dX0_perform_157 rfl ?_
      refine v_aload_n (r := x1) C 3 dX0_perform_158 rfl ?_
      obtain ⟨a15, h16, E⟩ := bnd E
      obtain ⟨hra15, hoa15⟩ := ob_is h16
      refine v_getI (r := x1) C fa_X0_29 rfl hra15 hoa15 dX0_perform_159 ?_
      refine v_iconst C dX0_perform_162 k_iconst_1 ?_
      refine v_iload C 6 dX0_perform_163 rfl ?_
      refine v_iload C 0 dX0_perform_165 rfl ?_
      obtain ⟨q17, h18, E⟩ := bnd E
      refine v_callS (As := [va_rf x0, va_rf x1, .int (q5 a15 0), .int 1, .int x4, .int (x5 + 1)]) (rv := (some (.int q17.1))) (st := []) (st1 := [.int q17.1]) (ce1 := 0) (sl1 := 0) C cs_X0_32 (hg_X0_perform _ _ _ _ _ _ _ _  h18) rfl rfl ⟨rfl, rfl, by show _ ≤ _; simp only [rX0_PF]; omega, by show _ ≤ _; simp only [rX0_PF]; omega⟩ ⟨Nat.le_refl _, Nat.le_refl _⟩ (Nat.le_of_ble_eq_true rfl) rfl rfl rfl dX0_perform_167 ?_
      refine v_iconst C dX0_perform_170 k_iconst_2 ?_
      refine v_imul C dX0_perform_171 ?_
      obtain rfl := Option.some.inj E
      exact v_iret C rfl dX0_perform_172
    have E := ite_f E c19
    by_cases c22 : q1 = 20
    · have E := ite_t E c22
      refine v_lookup (off := 143) C 173 dX0_perform_30 (by decide) (by rw [c22]; decide) rfl ?_
      refine v_aload_n (r := x0) C 2 dX0_perform_173 rfl ?_
      refine v_aload_n (r := x1) C 3 dX0_perform_174 rfl ?_
      refine v_iconst C dX0_perform_175 k_iconst_0 ?_
      refine v_iconst C dX0_perform_176 k_iconst_1 ?_
      refine v_iload C 6 dX0_perform_177 rfl ?_
      refine v_iload C 0 dX0_perform_179 rfl ?_
      obtain ⟨q20, h21, E⟩ := bnd E
      refine v_callS (As := [va_rf x0, va_rf x1, .int 0, .int 1, .int x4, .int (x5 + 1)]) (rv := (some (.int q20.1))) (st := []) (st1 := [.int q20.1]) (ce1 := 0) (sl1 := 0) C cs_X0_32 (hg_X0_perform _ _ _ _ _ _ _ _  h21) rfl rfl ⟨rfl, rfl, by show _ ≤ _; simp only [rX0_PF]; omega, by show _ ≤ _; simp only [rX0_PF]; omega⟩ ⟨Nat.le_refl _, Nat.le_refl _⟩ (Nat.le_of_ble_eq_true rfl) rfl rfl rfl dX0_perform_181 ?_
      refine v_bipush C dX0_perform_184 k_bipush_6 ?_
      refine v_ixor C dX0_perform_186 ?_
      obtain rfl := Option.some.inj E
      exact v_iret C rfl dX0_perform_187
    have E := ite_f E c22
    by_cases c25 : q1 = 30
    · have E := ite_t E c25
      refine v_lookup (off := 158) C 188 dX0_perform_30 (by decide) (by rw [c25]; decide) rfl ?_
      refine v_aload_n (r := x0) C 2 dX0_perform_188 rfl ?_
      refine v_aload_n (r := x1) C 3 dX0_perform_189 rfl ?_
      refine v_iconst C dX0_perform_190 k_iconst_0 ?_
      refine v_iconst C dX0_perform_191 k_iconst_0 ?_
      refine v_iload C 6 dX0_perform_192 rfl ?_
      refine v_iconst C dX0_perform_194 k_iconst_3 ?_
      refine v_imul C dX0_perform_195 ?_
      refine v_iload C 0 dX0_perform_196 rfl ?_
      obtain ⟨q23, h24, E⟩ := bnd E
      refine v_callS (As := [va_rf x0, va_rf x1, .int 0, .int 0, .int (x4 * 3), .int (x5 + 1)]) (rv := (some (.int q23.1))) (st := []) (st1 := [.int q23.1]) (ce1 := 0) (sl1 := 0) C cs_X0_32 (hg_X0_perform _ _ _ _ _ _ _ _  h24) rfl rfl ⟨rfl, rfl, by show _ ≤ _; simp only [rX0_PF]; omega, by show _ ≤ _; simp only [rX0_PF]; omega⟩ ⟨Nat.le_refl _, Nat.le_refl _⟩ (Nat.le_of_ble_eq_true rfl) rfl rfl rfl dX0_perform_198 ?_
      obtain rfl := Option.some.inj E
      exact v_iret C rfl dX0_perform_201
    have E := ite_f E c25
    by_cases c32 : q1 = 40
    · have E := ite_t E c32
      refine v_lookup (off := 172) C 202 dX0_perform_30 (by decide) (by rw [c32]; decide) rfl ?_
      refine v_aload_n (r := x0) C 2 dX0_perform_202 rfl ?_
      refine v_aload_n (r := x1) C 3 dX0_perform_203 rfl ?_
      refine v_iconst C dX0_perform_204 k_iconst_0 ?_
      refine v_iconst C dX0_perform_205 k_iconst_2 ?_
      refine v_iload C 6 dX0_perform_206 rfl ?_
      refine v_iload C 0 dX0_perform_208 rfl ?_
      obtain ⟨q26, h27, E⟩ := bnd E
      refine v_callS (As := [va_rf x0, va_rf x1, .int 0, .int 2, .int x4, .int (x5 + 1)]) (rv := (some (.int q26.1))) (st := []) (st1 := [.int q26.1]) (ce1 := 0) (sl1 := 0) C cs_X0_32 (hg_X0_perform _ _ _ _ _ _ _ _  h27) rfl rfl ⟨rfl, rfl, by show _ ≤ _; simp only [rX0_PF]; omega, by show _ ≤ _; simp only [rX0_PF]; omega⟩ ⟨Nat.le_refl _, Nat.le_refl _⟩ (Nat.le_of_ble_eq_true rfl) rfl rfl rfl dX0_perform_210 ?_
      refine v_aload_n (r := x0) C 2 dX0_perform_213 rfl ?_
      refine v_aload_n (r := x1) C 3 dX0_perform_214 rfl ?_
      refine v_aload_n (r := x1) C 3 dX0_perform_215 rfl ?_
      obtain ⟨a28, h29, E⟩ := bnd E
      obtain ⟨hra28, hoa28⟩ := ob_is h29
      refine v_getI (r := x1) C fa_X0_29 rfl hra28 hoa28 dX0_perform_216 ?_
      refine v_iconst C dX0_perform_219 k_iconst_1 ?_
      refine v_iconst C dX0_perform_220 k_iconst_1 ?_
      refine v_iload C 0 dX0_perform_221 rfl ?_
      obtain ⟨q30, h31, E⟩ := bnd E
      refine v_callS (As := [va_rf x0, va_rf x1, .int (q26.2 a28 0), .int 1, .int 1, .int (x5 + 1)]) (rv := (some (.int q30.1))) (st := [.int q26.1]) (st1 := [.int q30.1, .int q26.1]) (ce1 := 0) (sl1 := 0) C cs_X0_32 (hg_X0_perform _ _ _ _ _ _ _ _  h31) rfl rfl ⟨rfl, rfl, by show _ ≤ _; simp only [rX0_PF]; omega, by show _ ≤ _; simp only [rX0_PF]; omega⟩ ⟨Nat.le_refl _, Nat.le_refl _⟩ (Nat.le_of_ble_eq_true rfl) rfl rfl rfl dX0_perform_223 ?_
      refine v_iadd C dX0_perform_226 ?_
      obtain rfl := Option.some.inj E
      exact v_iret C rfl dX0_perform_227
    have E := ite_f E c32
    by_cases c35 : q1 = 50
    · have E := ite_t E c35
      refine v_lookup (off := 198) C 228 dX0_perform_30 (by decide) (by rw [c35]; decide) rfl ?_
      refine v_aload_n (r := x0) C 2 dX0_perform_228 rfl ?_
      refine v_aload_n (r := x1) C 3 dX0_perform_229 rfl ?_
      refine v_iconst C dX0_perform_230 k_iconst_1 ?_
      refine v_iconst C dX0_perform_231 k_iconst_0 ?_
      refine v_iload C 6 dX0_perform_232 rfl ?_
      refine v_iload C 0 dX0_perform_234 rfl ?_
      obtain ⟨q33, h34, E⟩ := bnd E
      refine v_callS (As := [va_rf x0, va_rf x1, .int 1, .int 0, .int x4, .int (x5 + 1)]) (rv := (some (.int q33.1))) (st := []) (st1 := [.int q33.1]) (ce1 := 0) (sl1 := 0) C cs_X0_32 (hg_X0_perform _ _ _ _ _ _ _ _  h34) rfl rfl ⟨rfl, rfl, by show _ ≤ _; simp only [rX0_PF]; omega, by show _ ≤ _; simp only [rX0_PF]; omega⟩ ⟨Nat.le_refl _, Nat.le_refl _⟩ (Nat.le_of_ble_eq_true rfl) rfl rfl rfl dX0_perform_236 ?_
      refine v_ineg C dX0_perform_239 ?_
      obtain rfl := Option.some.inj E
      exact v_iret C rfl dX0_perform_240
    have E := ite_f E c35
    by_cases c38 : q1 = 51
    · have E := ite_t E c38
      refine v_lookup (off := 211) C 241 dX0_perform_30 (by decide) (by rw [c38]; decide) rfl ?_
      refine v_aload_n (r := x0) C 2 dX0_perform_241 rfl ?_
      refine v_aload_n (r := x1) C 3 dX0_perform_242 rfl ?_
      refine v_iconst C dX0_perform_243 k_iconst_1 ?_
      refine v_iconst C dX0_perform_244 k_iconst_1 ?_
      refine v_iload C 6 dX0_perform_245 rfl ?_
      refine v_iconst C dX0_perform_247 k_iconst_1 ?_
      refine v_iadd C dX0_perform_248 ?_
      refine v_iload C 0 dX0_perform_249 rfl ?_
      obtain ⟨q36, h37, E⟩ := bnd E
      refine v_callS (As := [va_rf x0, va_rf x1, .int 1, .int 1, .int (x4 + 1), .int (x5 + 1)]) (rv := (some (.int q36.1))) (st := []) (st1 := [.int q36.1]) (ce1 := 0) (sl1 := 0) C cs_X0_32 (hg_X0_perform _ _ _ _ _ _ _ _  h37) rfl rfl ⟨rfl, rfl, by show _ ≤ _; simp only [rX0_PF]; omega, by show _ ≤ _; simp only [rX0_PF]; omega⟩ ⟨Nat.le_refl _, Nat.le_refl _⟩ (Nat.le_of_ble_eq_true rfl) rfl rfl rfl dX0_perform_251 ?_
      obtain rfl := Option.some.inj E
      exact v_iret C rfl dX0_perform_254
    have E := ite_f E c38
    by_cases c43 : q1 = 60
    · have E := ite_t E c43
      refine v_lookup (off := 225) C 255 dX0_perform_30 (by decide) (by rw [c43]; decide) rfl ?_
      refine v_aload_n (r := x0) C 2 dX0_perform_255 rfl ?_
      refine v_aload_n (r := x1) C 3 dX0_perform_256 rfl ?_
      refine v_iconst C dX0_perform_257 k_iconst_1 ?_
      refine v_iconst C dX0_perform_258 k_iconst_2 ?_
      refine v_iload C 6 dX0_perform_259 rfl ?_
      refine v_aload_n (r := x1) C 3 dX0_perform_261 rfl ?_
      obtain ⟨a39, h40, E⟩ := bnd E
      obtain ⟨hra39, hoa39⟩ := ob_is h40
      refine v_getI (r := x1) C fa_X0_23 rfl hra39 hoa39 dX0_perform_262 ?_
      refine v_isub C dX0_perform_265 ?_
      refine v_iload C 0 dX0_perform_266 rfl ?_
      obtain ⟨q41, h42, E⟩ := bnd E
      refine v_callS (As := [va_rf x0, va_rf x1, .int 1, .int 2, .int (x4 - (q5 a39 1)), .int (x5 + 1)]) (rv := (some (.int q41.1))) (st := []) (st1 := [.int q41.1]) (ce1 := 0) (sl1 := 0) C cs_X0_32 (hg_X0_perform _ _ _ _ _ _ _ _  h42) rfl rfl ⟨rfl, rfl, by show _ ≤ _; simp only [rX0_PF]; omega, by show _ ≤ _; simp only [rX0_PF]; omega⟩ ⟨Nat.le_refl _, Nat.le_refl _⟩ (Nat.le_of_ble_eq_true rfl) rfl rfl rfl dX0_perform_268 ?_
      obtain rfl := Option.some.inj E
      exact v_iret C rfl dX0_perform_271
    have E := ite_f E c43
    by_cases c48 : q1 = 70
    · have E := ite_t E c48
      refine v_lookup (off := 242) C 272 dX0_perform_30 (by decide) (by rw [c48]; decide) rfl ?_
      refine v_aload_n (r := x0) C 2 dX0_perform_272 rfl ?_
      refine v_aload_n (r := x1) C 3 dX0_perform_273 rfl ?_
      refine v_iconst C dX0_perform_274 k_iconst_2 ?_
      refine v_iconst C dX0_perform_275 k_iconst_1 ?_
      refine v_iload C 6 dX0_perform_276 rfl ?_
      refine v_iload C 0 dX0_perform_278 rfl ?_
      obtain ⟨q44, h45, E⟩ := bnd E
      refine v_callS (As := [va_rf x0, va_rf x1, .int 2, .int 1, .int x4, .int (x5 + 1)]) (rv := (some (.int q44.1))) (st := []) (st1 := [.int q44.1]) (ce1 := 0) (sl1 := 0) C cs_X0_32 (hg_X0_perform _ _ _ _ _ _ _ _  h45) rfl rfl ⟨rfl, rfl, by show _ ≤ _; simp only [rX0_PF]; omega, by show _ ≤ _; simp only [rX0_PF]; omega⟩ ⟨Nat.le_refl _, Nat.le_refl _⟩ (Nat.le_of_ble_eq_true rfl) rfl rfl rfl dX0_perform_280 ?_
      refine v_aload_n (r := x0) C 2 dX0_perform_283 rfl ?_
      refine v_aload_n (r := x1) C 3 dX0_perform_284 rfl ?_
      refine v_iconst C dX0_perform_285 k_iconst_2 ?_
      refine v_iconst C dX0_perform_286 k_iconst_0 ?_
      refine v_iconst C dX0_perform_287 k_iconst_2 ?_
      refine v_iload C 0 dX0_perform_288 rfl ?_
      obtain ⟨q46, h47, E⟩ := bnd E
      refine v_callS (As := [va_rf x0, va_rf x1, .int 2, .int 0, .int 2, .int (x5 + 1)]) (rv := (some (.int q46.1))) (st := [.int q44.1]) (st1 := [.int q46.1, .int q44.1]) (ce1 := 0) (sl1 := 0) C cs_X0_32 (hg_X0_perform _ _ _ _ _ _ _ _  h47) rfl rfl ⟨rfl, rfl, by show _ ≤ _; simp only [rX0_PF]; omega, by show _ ≤ _; simp only [rX0_PF]; omega⟩ ⟨Nat.le_refl _, Nat.le_refl _⟩ (Nat.le_of_ble_eq_true rfl) rfl rfl rfl dX0_perform_290 ?_
      refine v_iadd C dX0_perform_293 ?_
      obtain rfl := Option.some.inj E
      exact v_iret C rfl dX0_perform_294
    have E := ite_f E c48
    by_cases c53 : q1 = 71
    · have E := ite_t E c53
      refine v_lookup (off := 265) C 295 dX0_perform_30 (by decide) (by rw [c53]; decide) rfl ?_
      refine v_aload_n (r := x0) C 2 dX0_perform_295 rfl ?_
      refine v_aload_n (r := x1) C 3 dX0_perform_296 rfl ?_
      refine v_iconst C dX0_perform_297 k_iconst_2 ?_
      refine v_iconst C dX0_perform_298 k_iconst_0 ?_
      refine v_iload C 6 dX0_perform_299 rfl ?_
      refine v_iload C 0 dX0_perform_301 rfl ?_
      obtain ⟨q49, h50, E⟩ := bnd E
      refine v_callS (As := [va_rf x0, va_rf x1, .int 2, .int 0, .int x4, .int (x5 + 1)]) (rv := (some (.int q49.1))) (st := []) (st1 := [.int q49.1]) (ce1 := 0) (sl1 := 0) C cs_X0_32 (hg_X0_perform _ _ _ _ _ _ _ _  h50) rfl rfl ⟨rfl, rfl, by show _ ≤ _; simp only [rX0_PF]; omega, by show _ ≤ _; simp only [rX0_PF]; omega⟩ ⟨Nat.le_refl _, Nat.le_refl _⟩ (Nat.le_of_ble_eq_true rfl) rfl rfl rfl dX0_perform_303 ?_
      refine v_aload_n (r := x1) C 3 dX0_perform_306 rfl ?_
      obtain ⟨a51, h52, E⟩ := bnd E
      obtain ⟨hra51, hoa51⟩ := ob_is h52
      refine v_getI (r := x1) C fa_X0_36 rfl hra51 hoa51 dX0_perform_307 ?_
      refine v_ixor C dX0_perform_310 ?_
      obtain rfl := Option.some.inj E
      exact v_iret C rfl dX0_perform_311
    have E := ite_f E c53
    refine v_lookup (off := 282) C 312 dX0_perform_30 (by decide) (by show Op.lookupswitch.offset [(10, 98), (11, 106), (12, 126), (20, 143), (30, 158), (40, 172), (50, 198), (51, 211), (60, 225), (70, 242), (71, 265)] 282 _ = _; rw [lv_osw c9 (show ((10 : Int32)).toInt = 10 from by decide), lv_osw c14 (show ((11 : Int32)).toInt = 11 from by decide), lv_osw c19 (show ((12 : Int32)).toInt = 12 from by decide), lv_osw c22 (show ((20 : Int32)).toInt = 20 from by decide), lv_osw c25 (show ((30 : Int32)).toInt = 30 from by decide), lv_osw c32 (show ((40 : Int32)).toInt = 40 from by decide), lv_osw c35 (show ((50 : Int32)).toInt = 50 from by decide), lv_osw c38 (show ((51 : Int32)).toInt = 51 from by decide), lv_osw c43 (show ((60 : Int32)).toInt = 60 from by decide), lv_osw c48 (show ((70 : Int32)).toInt = 70 from by decide), lv_osw c53 (show ((71 : Int32)).toInt = 71 from by decide)]; rfl) rfl ?_
    refine v_iconst C dX0_perform_312 k_iconst_0 ?_
    obtain rfl := Option.some.inj E
    exact v_iret C rfl dX0_perform_313
  · refine v_iconst C dX0_perform_7 k_iconst_0 ?_
    obtain rfl := Option.some.inj E
    exact v_iret C rfl dX0_perform_8
set_option maxHeartbeats 4000000 in
theorem c_X0_PF {K : Sh} {n : Nat} {J : Jm} {R : Rf} : ∀ d : Nat, (∀ (x0 : Option Nat) (x1 : Option Nat) (x2 : Int32) (x3 : Int32) (x4 : Int32) (x5 : Int32) (I : Im) (res : Int32 × Im), (F_X0_PF Z K R d) x0 x1 x2 x3 x4 x5 I = some res → Met l yX0_perform (Cond.code yX0_perform cX0_perform 8 (some .int) :: tb) (rX0_PF d) (PX D cA bs Z [va_rf x0, va_rf x1, .int x2, .int x3, .int x4, .int x5] K n I J R) (QX D cA bs Z (some (.int res.1)) K n res.2 J R) 0 0 (fun q => bs ≤ q)) := by
  intro d
  induction d with
  | zero =>
    exact (by intro x0 x1 x2 x3 x4 x5 I res E; have E : (none : Option (Int32 × Im)) = some res := E; cases E)
  | succ d ih =>
    intro x0 x1 x2 x3 x4 x5 I res E
    refine met_of (lv1 := [(0, va_rf x0), (1, va_rf x1), (2, .int x2), (3, .int x3), (4, .int x4), (5, .int x5)]) pn_X0 (by cases x0 <;> cases x1 <;> exact Nat.le_of_ble_eq_true rfl) (by cases x0 <;> cases x1 <;> rfl) ?_
    intro p e s m args below meth c C hn
    exact v_sub [0, 1, 2, 3, 4, 5] [(0, va_rf x0), (1, va_rf x1), (2, .int x2), (3, .int x3), (4, .int x4), (5, .int x5)] rfl (w_X0_perform_0 C d _ ih res _ _ _ _ _ _ _ E)
theorem c_X0_perform {n : Nat} {K : Sh} {I : Im} {J : Jm} {R : Rf} {x0 : Option Nat} {x1 : Option Nat} {x2 : Int32} {x3 : Int32} {x4 : Int32} {x5 : Int32} {res : Int32 × Im} (E : f_X0_perform Z K R x0 x1 x2 x3 x4 x5 I = some res) : Met l yX0_perform (Cond.code yX0_perform cX0_perform 8 (some .int) :: tb) rX0_perform (PX D cA bs Z [va_rf x0, va_rf x1, .int x2, .int x3, .int x4, .int x5] K n I J R) (QX D cA bs Z (some (.int res.1)) K n res.2 J R) 0 0 (fun q => bs ≤ q) := (c_X0_PF 24) _ _ _ _ _ _ _ _  E
set_option maxHeartbeats 4000000 in
theorem w_X1_init_0 (C : Cx D cA bs Z p s m args meth c cX1_init RX1 1 none) (hin : meth.name = "<init>") {o : Nat} {K : Sh} {n : Nat} {I : Im} {J : Jm} (ho : (K o).1 = 2) (res : Rf) (R : Rf) (E : f_X1_init K o R = some res) : VW D cA bs Z p l e rX1_init s m args below meth c 1 [(0, va_rf (some o))] K n I J R 0 0 (MQ below (QX D cA bs Z none K n I J res) args s 0 0 (fun q => bs ≤ q)) 0 [] := by
  unfold f_X1_init at E
  refine v_aload_n (r := (some o)) C 0 dX1_init_0 rfl ?_
  refine v_objInit (a := o) C oi_X1 oi_i oi_c (Nat.le_of_ble_eq_true rfl) (Nat.le_of_ble_eq_true rfl) dX1_init_1 ?_
  refine v_aload_n (r := (some o)) C 0 dX1_init_4 rfl ?_
  refine v_null C dX1_init_5 ?_
  refine v_putR (r := (some o)) (q := none) C fa_X1_7 rfl E rfl ho dX1_init_6 (fun R1 _ E => ?_)
  obtain rfl := Option.some.inj E
  exact v_vret C rfl dX1_init_9
set_option maxHeartbeats 4000000 in
theorem c_X1_init {n : Nat} {K : Sh} {I : Im} {J : Jm} {R : Rf} {o : Nat}  (ho : (K o).1 = 2) {res : Rf} (E : f_X1_init K o R = some res) : Met l yX1_init (Cond.code yX1_init cX1_init 1 none :: tb) rX1_init (PX D cA bs Z [.ref o] K n I J R) (QX D cA bs Z none K n I J res) 0 0 (fun q => bs ≤ q) := by
  refine met_of (lv1 := [(0, va_rf (some o))]) pn_X1 (by exact Nat.le_of_ble_eq_true rfl) (by rfl) ?_
  intro p e s m args below meth c C hn
  exact v_sub [0] [(0, va_rf (some o))] rfl (w_X1_init_0 C (hn.trans rfl) ho _ _ E)
set_option maxHeartbeats 4000000 in
theorem w_X1_become_0 (C : Cx D cA bs Z p s m args meth c cX1_become RX1 4 none) {o : Nat} {K : Sh} {n : Nat} {J : Jm} (ho : (K o).1 = 2) (res : Im × Rf) (x1 : Int32) (x2 : Int32) (x3 : Option Nat) (I : Im) (R : Rf) (E : f_X1_become K o x1 x2 x3 I R = some res) : VW D cA bs Z p l e rX1_become s m args below meth c 4 [(0, va_rf (some o)), (1, .int x1), (2, .int x2), (3, va_rf x3)] K n I J R 0 0 (MQ below (QX D cA bs Z none K n res.1 J res.2) args s 0 0 (fun q => bs ≤ q)) 0 [] := by
  unfold f_X1_become at E
  refine v_aload_n (r := (some o)) C 0 dX1_become_0 rfl ?_
  refine v_iload_n C 1 dX1_become_1 rfl ?_
  refine v_putI (r := (some o)) C fa_X1_13 rfl E rfl ho ⟨rfl, rfl⟩ dX1_become_2 (fun I1 _ E => ?_)
  refine v_aload_n (r := (some o)) C 0 dX1_become_5 rfl ?_
  refine v_iload_n C 2 dX1_become_6 rfl ?_
  refine v_putI (r := (some o)) C fa_X1_17 rfl E rfl ho ⟨rfl, rfl⟩ dX1_become_7 (fun I2 _ E => ?_)
  refine v_aload_n (r := (some o)) C 0 dX1_become_10 rfl ?_
  refine v_aload_n (r := x3) C 3 dX1_become_11 rfl ?_
  refine v_putR (r := (some o)) (q := x3) C fa_X1_7 rfl E rfl ho dX1_become_12 (fun R3 _ E => ?_)
  obtain rfl := Option.some.inj E
  exact v_vret C rfl dX1_become_15
set_option maxHeartbeats 4000000 in
theorem c_X1_become {n : Nat} {K : Sh} {I : Im} {J : Jm} {R : Rf} {o : Nat} {x1 : Int32} {x2 : Int32} {x3 : Option Nat} (ho : (K o).1 = 2) {res : Im × Rf} (E : f_X1_become K o x1 x2 x3 I R = some res) : Met l yX1_become (Cond.code yX1_become cX1_become 4 none :: tb) rX1_become (PX D cA bs Z [.ref o, .int x1, .int x2, va_rf x3] K n I J R) (QX D cA bs Z none K n res.1 J res.2) 0 0 (fun q => bs ≤ q) := by
  refine met_of (lv1 := [(0, va_rf (some o)), (1, .int x1), (2, .int x2), (3, va_rf x3)]) pn_X1 (by cases x3 <;> exact Nat.le_of_ble_eq_true rfl) (by cases x3 <;> rfl) ?_
  intro p e s m args below meth c C hn
  exact v_sub [0, 1, 2, 3] [(0, va_rf (some o)), (1, .int x1), (2, .int x2), (3, va_rf x3)] rfl (w_X1_become_0 C ho _ _ _ _ _ _ E)
set_option maxHeartbeats 4000000 in
theorem w_X2_init_0 (C : Cx D cA bs Z p s m args meth c cX2_init RX2 1 none) (hin : meth.name = "<init>") {o : Nat} {J : Jm} (res : Sh × Nat × Im × Rf) (K : Sh) (n : Nat) (I : Im) (R : Rf) (E : f_X2_init o K n I R = some res) : VW D cA bs Z p l e rX2_init s m args below meth c 1 [(0, va_rf (some o))] K n I J R 0 0 (MQ below (QX D cA bs Z none res.1 res.2.1 res.2.2.1 J res.2.2.2) args s 1 3 (fun q => bs ≤ q)) 0 [] := by
  unfold f_X2_init at E
  refine v_aload_n (r := (some o)) C 0 dX2_init_0 rfl ?_
  refine v_objInit (a := o) C oi_X2 oi_i oi_c (Nat.le_of_ble_eq_true rfl) (Nat.le_of_ble_eq_true rfl) dX2_init_1 ?_
  refine v_aload_n (r := (some o)) C 0 dX2_init_4 rfl ?_
  refine v_iconst C dX2_init_5 k_iconst_3 ?_
  refine v_newI (N := 3) (ce1 := 1) (sl1 := 3) C ac_int E (by decide) (by decide) rfl rfl (Nat.le_of_ble_eq_true rfl) (Nat.le_of_ble_eq_true rfl) dX2_init_6 (fun K1 _ E => ?_)
  refine v_mpI E (fun I2 _ E => ?_)
  obtain ⟨a3, h4, E⟩ := bnd E
  obtain ⟨hra3, hoa3⟩ := ob_is h4
  refine v_putRF (r := (some o)) (q := (some n)) C fa_X2_9 fo_X2_9 hin rfl E hra3 hoa3 dX2_init_8 (fun R5 _ E => ?_)
  obtain rfl := Option.some.inj E
  exact v_vret C rfl dX2_init_11
set_option maxHeartbeats 4000000 in
theorem c_X2_init {n : Nat} {K : Sh} {I : Im} {J : Jm} {R : Rf} {o : Nat}  {res : Sh × Nat × Im × Rf} (E : f_X2_init o K n I R = some res) : Met l yX2_init (Cond.code yX2_init cX2_init 1 none :: tb) rX2_init (PX D cA bs Z [.ref o] K n I J R) (QX D cA bs Z none res.1 res.2.1 res.2.2.1 J res.2.2.2) 1 3 (fun q => bs ≤ q) := by
  refine met_of (lv1 := [(0, va_rf (some o))]) pn_X2 (by exact Nat.le_of_ble_eq_true rfl) (by rfl) ?_
  intro p e s m args below meth c C hn
  exact v_sub [0] [(0, va_rf (some o))] rfl (w_X2_init_0 C (hn.trans rfl) _ _ _ _ _ E)
set_option maxHeartbeats 4000000 in
theorem w_X2_begin_13 (C : Cx D cA bs Z p s m args meth c cX2_begin RX2 2 none) {o : Nat} {K : Sh} {n : Nat} {J : Jm} {R : Rf} (ho : (K o).1 = 3) (res : Im)  : ∀ (k : Nat), ∀ (x1 : Int32) (I : Im), f_X2_begin_13 K R o k x1 I = some res → VW D cA bs Z p l e rX2_begin s m args below meth c 2 [(0, va_rf (some o)), (1, .int x1)] K n I J R 0 0 (MQ below (QX D cA bs Z none K n res J R) args s 0 0 (fun q => bs ≤ q)) 13 [] := by
  intro k
  induction k with
  | zero =>
    intro x1 I E
    have E : (none : Option (Im)) = some res := E
    cases E
  | succ k ih =>
    intro x1 I E
    unfold f_X2_begin_13 at E
    refine v_iload_n C 1 dX2_begin_13 rfl ?_
    refine v_iconst C dX2_begin_14 k_iconst_3 ?_
    refine v_icmp_ge C 32 E dX2_begin_15 rfl (fun c2 E => ?_) (fun c2 E => ?_)
    · obtain rfl := Option.some.inj E
      exact v_vret C rfl dX2_begin_32
    · refine v_aload_n (r := (some o)) C 0 dX2_begin_18 rfl ?_
      refine v_getR (r := (some o)) C fa_X2_9 rfl rfl ho dX2_begin_19 ?_
      refine v_iload_n C 1 dX2_begin_22 rfl ?_
      refine v_bipush C dX2_begin_23 k_bipush_m5 ?_
      refine v_iast (r := (R o 0)) C E dX2_begin_25 (fun I1 _ E => ?_)
      refine v_iinc (v := x1 + 1) C 1 [(1, .int (x1 + 1)), (0, va_rf (some o))] dX2_begin_26 rfl (k_inc_1 _) (Nat.le_of_ble_eq_true rfl) rfl ?_
      refine v_goto C 13 dX2_begin_29 rfl ?_
      exact v_sub [1, 0] [(0, va_rf (some o)), (1, .int (x1 + 1))] rfl (ih _ _ E)
set_option maxHeartbeats 4000000 in
theorem w_X2_begin_0 (C : Cx D cA bs Z p s m args meth c cX2_begin RX2 2 none) {o : Nat} {K : Sh} {n : Nat} {J : Jm} {R : Rf} (ho : (K o).1 = 3) (res : Im) (I : Im) (E : f_X2_begin K R o I = some res) : VW D cA bs Z p l e rX2_begin s m args below meth c 2 [(0, va_rf (some o))] K n I J R 0 0 (MQ below (QX D cA bs Z none K n res J R) args s 0 0 (fun q => bs ≤ q)) 0 [] := by
  unfold f_X2_begin at E
  refine v_aload_n (r := (some o)) C 0 dX2_begin_0 rfl ?_
  refine v_iconst C dX2_begin_1 k_iconst_0 ?_
  refine v_putI (r := (some o)) C fa_X2_15 rfl E rfl ho ⟨rfl, rfl⟩ dX2_begin_2 (fun I3 _ E => ?_)
  refine v_aload_n (r := (some o)) C 0 dX2_begin_5 rfl ?_
  refine v_bipush C dX2_begin_6 k_bipush_m5 ?_
  refine v_putI (r := (some o)) C fa_X2_19 rfl E rfl ho ⟨rfl, rfl⟩ dX2_begin_8 (fun I4 _ E => ?_)
  refine v_iconst C dX2_begin_11 k_iconst_0 ?_
  refine v_istore_n C [(1, .int 0), (0, va_rf (some o))] dX2_begin_12 (Nat.le_of_ble_eq_true rfl) rfl ?_
  exact v_sub [1, 0] [(0, va_rf (some o)), (1, .int 0)] rfl (w_X2_begin_13 C ho res  _ _ _ E)
set_option maxHeartbeats 4000000 in
theorem c_X2_begin {n : Nat} {K : Sh} {I : Im} {J : Jm} {R : Rf} {o : Nat}  (ho : (K o).1 = 3) {res : Im} (E : f_X2_begin K R o I = some res) : Met l yX2_begin (Cond.code yX2_begin cX2_begin 2 none :: tb) rX2_begin (PX D cA bs Z [.ref o] K n I J R) (QX D cA bs Z none K n res J R) 0 0 (fun q => bs ≤ q) := by
  refine met_of (lv1 := [(0, va_rf (some o))]) pn_X2 (by exact Nat.le_of_ble_eq_true rfl) (by rfl) ?_
  intro p e s m args below meth c C hn
  exact v_sub [0] [(0, va_rf (some o))] rfl (w_X2_begin_0 C ho _ _ E)
set_option maxHeartbeats 4000000 in
theorem w_X2_note_0 (C : Cx D cA bs Z p s m args meth c cX2_note RX2 4 none) {o : Nat} {K : Sh} {n : Nat} {J : Jm} {R : Rf} (ho : (K o).1 = 3) (res : Im) (x1 : Int32) (x2 : Int32) (x3 : Int32) (I : Im) (E : f_X2_note K R o x1 x2 x3 I = some res) : VW D cA bs Z p l e rX2_note s m args below meth c 4 [(0, va_rf (some o)), (1, .int x1), (2, .int x2), (3, .int x3)] K n I J R 0 0 (MQ below (QX D cA bs Z none K n res J R) args s 0 0 (fun q => bs ≤ q)) 0 [] := by
  unfold f_X2_note at E
  refine v_aload_n (r := (some o)) C 0 dX2_note_0 rfl ?_
  refine v_getR (r := (some o)) C fa_X2_9 rfl rfl ho dX2_note_1 ?_
  refine v_iload_n C 1 dX2_note_4 rfl ?_
  refine v_iload_n C 2 dX2_note_5 rfl ?_
  refine v_iast (r := (R o 0)) C E dX2_note_6 (fun I1 _ E => ?_)
  refine v_aload_n (r := (some o)) C 0 dX2_note_7 rfl ?_
  refine v_dup C dX2_note_8 (rf_cat _) ?_
  refine v_getI (r := (some o)) C fa_X2_15 rfl rfl ho dX2_note_9 ?_
  refine v_iload_n C 3 dX2_note_12 rfl ?_
  refine v_iadd C dX2_note_13 ?_
  refine v_putI (r := (some o)) C fa_X2_15 rfl E rfl ho ⟨rfl, rfl⟩ dX2_note_14 (fun I2 _ E => ?_)
  refine v_aload_n (r := (some o)) C 0 dX2_note_17 rfl ?_
  refine v_aload_n (r := (some o)) C 0 dX2_note_18 rfl ?_
  refine v_getI (r := (some o)) C fa_X2_19 rfl rfl ho dX2_note_19 ?_
  refine v_iload_n C 2 dX2_note_22 rfl ?_
  refine v_max C mx_X2_22 (Nat.le_of_ble_eq_true rfl) ((by simp only [List.map_cons, List.map_nil, List.sum_cons, List.sum_nil, rf_cat]; exact Nat.le_of_ble_eq_true rfl)) (Nat.le_of_ble_eq_true rfl) (Nat.le_of_ble_eq_true rfl) dX2_note_23 ?_
  refine v_putI (r := (some o)) C fa_X2_19 rfl E rfl ho ⟨rfl, rfl⟩ dX2_note_26 (fun I3 _ E => ?_)
  obtain rfl := Option.some.inj E
  exact v_vret C rfl dX2_note_29
set_option maxHeartbeats 4000000 in
theorem c_X2_note {n : Nat} {K : Sh} {I : Im} {J : Jm} {R : Rf} {o : Nat} {x1 : Int32} {x2 : Int32} {x3 : Int32} (ho : (K o).1 = 3) {res : Im} (E : f_X2_note K R o x1 x2 x3 I = some res) : Met l yX2_note (Cond.code yX2_note cX2_note 4 none :: tb) rX2_note (PX D cA bs Z [.ref o, .int x1, .int x2, .int x3] K n I J R) (QX D cA bs Z none K n res J R) 0 0 (fun q => bs ≤ q) := by
  refine met_of (lv1 := [(0, va_rf (some o)), (1, .int x1), (2, .int x2), (3, .int x3)]) pn_X2 (by exact Nat.le_of_ble_eq_true rfl) (by rfl) ?_
  intro p e s m args below meth c C hn
  exact v_sub [0, 1, 2, 3] [(0, va_rf (some o)), (1, .int x1), (2, .int x2), (3, .int x3)] rfl (w_X2_note_0 C ho _ _ _ _ _ E)
set_option maxHeartbeats 4000000 in
theorem w_X2_tell_0 (C : Cx D cA bs Z p s m args meth c cX2_tell RX2 2 (some .int)) {o : Nat} {K : Sh} {n : Nat} {I : Im} {J : Jm} {R : Rf} (ho : (K o).1 = 3) (res : Int32) (x1 : Int32) (E : f_X2_tell K I R o x1 = some res) : VW D cA bs Z p l e rX2_tell s m args below meth c 2 [(0, va_rf (some o)), (1, .int x1)] K n I J R 0 0 (MQ below (QX D cA bs Z (some (.int res)) K n I J R) args s 0 0 (fun q => bs ≤ q)) 0 [] := by
  unfold f_X2_tell at E
  refine v_iload_n C 1 dX2_tell_0 rfl ?_
  refine v_iconst C dX2_tell_1 k_iconst_2 ?_
  refine v_icmp_ge C 21 E dX2_tell_2 rfl (fun c5 E => ?_) (fun c5 E => ?_)
  · refine v_iload_n C 1 dX2_tell_21 rfl ?_
    refine v_bipush C dX2_tell_22 k_bipush_10 ?_
    refine v_icmp_lt C 45 E dX2_tell_24 rfl (fun c3 E => ?_) (fun c3 E => ?_)
    · refine v_iconst C dX2_tell_45 k_iconst_m1 ?_
      obtain rfl := Option.some.inj E
      exact v_iret C rfl dX2_tell_46
    · refine v_iload_n C 1 dX2_tell_27 rfl ?_
      refine v_bipush C dX2_tell_28 k_bipush_13 ?_
      refine v_icmp_ge C 45 E dX2_tell_30 rfl (fun c2 E => ?_) (fun c2 E => ?_)
      · refine v_iconst C dX2_tell_45 k_iconst_m1 ?_
        obtain rfl := Option.some.inj E
        exact v_iret C rfl dX2_tell_46
      · refine v_aload_n (r := (some o)) C 0 dX2_tell_33 rfl ?_
        refine v_getR (r := (some o)) C fa_X2_9 rfl rfl ho dX2_tell_34 ?_
        refine v_iload_n C 1 dX2_tell_37 rfl ?_
        refine v_bipush C dX2_tell_38 k_bipush_10 ?_
        refine v_isub C dX2_tell_40 ?_
        refine v_iald (r := (R o 0)) C E dX2_tell_41 (fun v1 _ E => ?_)
        refine v_goto C 46 dX2_tell_42 rfl ?_
        obtain rfl := Option.some.inj E
        exact v_iret C rfl dX2_tell_46
  · refine v_iload_n C 1 dX2_tell_5 rfl ?_
    refine v_if_ne C 16 E dX2_tell_6 rfl (fun c4 E => ?_) (fun c4 E => ?_)
    · refine v_aload_n (r := (some o)) C 0 dX2_tell_9 rfl ?_
      refine v_getI (r := (some o)) C fa_X2_15 rfl rfl ho dX2_tell_10 ?_
      refine v_goto C 20 dX2_tell_13 rfl ?_
      obtain rfl := Option.some.inj E
      exact v_iret C rfl dX2_tell_20
    · refine v_aload_n (r := (some o)) C 0 dX2_tell_16 rfl ?_
      refine v_getI (r := (some o)) C fa_X2_19 rfl rfl ho dX2_tell_17 ?_
      obtain rfl := Option.some.inj E
      exact v_iret C rfl dX2_tell_20
set_option maxHeartbeats 4000000 in
theorem c_X2_tell {n : Nat} {K : Sh} {I : Im} {J : Jm} {R : Rf} {o : Nat} {x1 : Int32} (ho : (K o).1 = 3) {res : Int32} (E : f_X2_tell K I R o x1 = some res) : Met l yX2_tell (Cond.code yX2_tell cX2_tell 2 (some .int) :: tb) rX2_tell (PX D cA bs Z [.ref o, .int x1] K n I J R) (QX D cA bs Z (some (.int res)) K n I J R) 0 0 (fun q => bs ≤ q) := by
  refine met_of (lv1 := [(0, va_rf (some o)), (1, .int x1)]) pn_X2 (by exact Nat.le_of_ble_eq_true rfl) (by rfl) ?_
  intro p e s m args below meth c C hn
  exact v_sub [0, 1] [(0, va_rf (some o)), (1, .int x1)] rfl (w_X2_tell_0 C ho _ _ E)
set_option maxHeartbeats 4000000 in
theorem w_X2_forgetOrder_0 (C : Cx D cA bs Z p s m args meth c cX2_forgetOrder RX2 1 none) {o : Nat} {K : Sh} {n : Nat} {J : Jm} {R : Rf} (ho : (K o).1 = 3) (res : Im) (I : Im) (E : f_X2_forgetOrder K o I = some res) : VW D cA bs Z p l e rX2_forgetOrder s m args below meth c 1 [(0, va_rf (some o))] K n I J R 0 0 (MQ below (QX D cA bs Z none K n res J R) args s 0 0 (fun q => bs ≤ q)) 0 [] := by
  unfold f_X2_forgetOrder at E
  refine v_aload_n (r := (some o)) C 0 dX2_forgetOrder_0 rfl ?_
  refine v_iconst C dX2_forgetOrder_1 k_iconst_m1 ?_
  refine v_putI (r := (some o)) C fa_X2_28 rfl E rfl ho ⟨rfl, rfl⟩ dX2_forgetOrder_2 (fun I1 _ E => ?_)
  obtain rfl := Option.some.inj E
  exact v_vret C rfl dX2_forgetOrder_5
set_option maxHeartbeats 4000000 in
theorem c_X2_forgetOrder {n : Nat} {K : Sh} {I : Im} {J : Jm} {R : Rf} {o : Nat}  (ho : (K o).1 = 3) {res : Im} (E : f_X2_forgetOrder K o I = some res) : Met l yX2_forgetOrder (Cond.code yX2_forgetOrder cX2_forgetOrder 1 none :: tb) rX2_forgetOrder (PX D cA bs Z [.ref o] K n I J R) (QX D cA bs Z none K n res J R) 0 0 (fun q => bs ≤ q) := by
  refine met_of (lv1 := [(0, va_rf (some o))]) pn_X2 (by exact Nat.le_of_ble_eq_true rfl) (by rfl) ?_
  intro p e s m args below meth c C hn
  exact v_sub [0] [(0, va_rf (some o))] rfl (w_X2_forgetOrder_0 C ho _ _ E)
set_option maxHeartbeats 4000000 in
theorem w_X2_compare_69 (C : Cx D cA bs Z p s m args meth c cX2_compare RX2 3 none) {o : Nat} {K : Sh} {n : Nat} {J : Jm} {R : Rf} (ho : (K o).1 = 3) (res : Im) (x1 : Int32) (I : Im) (E : f_X2_compare_69 K o x1 I = some res) : VW D cA bs Z p l e rX2_compare s m args below meth c 3 [(0, va_rf (some o)), (1, .int x1)] K n I J R 0 0 (MQ below (QX D cA bs Z none K n res J R) args s 0 0 (fun q => bs ≤ q)) 69 [] := by
  unfold f_X2_compare_69 at E
  refine v_aload_n (r := (some o)) C 0 dX2_compare_69 rfl ?_
  refine v_iload_n C 1 dX2_compare_70 rfl ?_
  refine v_putI (r := (some o)) C fa_X2_28 rfl E rfl ho ⟨rfl, rfl⟩ dX2_compare_71 (fun I1 _ E => ?_)
  refine v_aload_n (r := (some o)) C 0 dX2_compare_74 rfl ?_
  refine v_aload_n (r := (some o)) C 0 dX2_compare_75 rfl ?_
  refine v_getI (r := (some o)) C fa_X2_15 rfl rfl ho dX2_compare_76 ?_
  refine v_putI (r := (some o)) C fa_X2_34 rfl E rfl ho ⟨rfl, rfl⟩ dX2_compare_79 (fun I2 _ E => ?_)
  refine v_aload_n (r := (some o)) C 0 dX2_compare_82 rfl ?_
  refine v_aload_n (r := (some o)) C 0 dX2_compare_83 rfl ?_
  refine v_getI (r := (some o)) C fa_X2_19 rfl rfl ho dX2_compare_84 ?_
  refine v_putI (r := (some o)) C fa_X2_31 rfl E rfl ho ⟨rfl, rfl⟩ dX2_compare_87 (fun I3 _ E => ?_)
  obtain rfl := Option.some.inj E
  exact v_vret C rfl dX2_compare_90
set_option maxHeartbeats 4000000 in
theorem w_X2_compare_34 (C : Cx D cA bs Z p s m args meth c cX2_compare RX2 3 none) {o : Nat} {K : Sh} {n : Nat} {J : Jm} {R : Rf} (ho : (K o).1 = 3) (res : Im) (x1 : Int32) (s0 : Int32) (I : Im) (E : f_X2_compare_34 K o x1 s0 I = some res) : VW D cA bs Z p l e rX2_compare s m args below meth c 3 [(0, va_rf (some o)), (1, .int x1)] K n I J R 0 0 (MQ below (QX D cA bs Z none K n res J R) args s 0 0 (fun q => bs ≤ q)) 34 [.int s0] := by
  unfold f_X2_compare_34 at E
  refine v_istore_n C [(2, .int s0), (0, va_rf (some o)), (1, .int x1)] dX2_compare_34 (Nat.le_of_ble_eq_true rfl) rfl ?_
  refine v_aload_n (r := (some o)) C 1 dX2_compare_35 rfl ?_
  refine v_getI (r := (some o)) C fa_X2_28 rfl rfl ho dX2_compare_36 ?_
  refine v_iconst C dX2_compare_39 k_iconst_m1 ?_
  refine v_icmp_eq C 69 E dX2_compare_40 rfl (fun c7 E => ?_) (fun c7 E => ?_)
  · exact v_sub [1, 2] [(0, va_rf (some o)), (1, .int x1)] rfl (w_X2_compare_69 C ho res  _ _ E)
  · refine v_aload_n (r := (some o)) C 1 dX2_compare_43 rfl ?_
    refine v_getI (r := (some o)) C fa_X2_15 rfl rfl ho dX2_compare_44 ?_
    refine v_aload_n (r := (some o)) C 1 dX2_compare_47 rfl ?_
    refine v_getI (r := (some o)) C fa_X2_34 rfl rfl ho dX2_compare_48 ?_
    refine v_icmp_gt C 69 E dX2_compare_51 rfl (fun c6 E => ?_) (fun c6 E => ?_)
    · exact v_sub [1, 2] [(0, va_rf (some o)), (1, .int x1)] rfl (w_X2_compare_69 C ho res  _ _ E)
    · refine v_aload_n (r := (some o)) C 1 dX2_compare_54 rfl ?_
      refine v_getI (r := (some o)) C fa_X2_15 rfl rfl ho dX2_compare_55 ?_
      refine v_aload_n (r := (some o)) C 1 dX2_compare_58 rfl ?_
      refine v_getI (r := (some o)) C fa_X2_34 rfl rfl ho dX2_compare_59 ?_
      refine v_icmp_ne C 90 E dX2_compare_62 rfl (fun c5 E => ?_) (fun c5 E => ?_)
      · refine v_iload_n C 0 dX2_compare_65 rfl ?_
        refine v_if_eq C 90 E dX2_compare_66 rfl (fun c4 E => ?_) (fun c4 E => ?_)
        · obtain rfl := Option.some.inj E
          exact v_vret C rfl dX2_compare_90
        · exact v_sub [1, 2] [(0, va_rf (some o)), (1, .int x1)] rfl (w_X2_compare_69 C ho res  _ _ E)
      · obtain rfl := Option.some.inj E
        exact v_vret C rfl dX2_compare_90
set_option maxHeartbeats 4000000 in
theorem w_X2_compare_33 (C : Cx D cA bs Z p s m args meth c cX2_compare RX2 3 none) {o : Nat} {K : Sh} {n : Nat} {J : Jm} {R : Rf} (ho : (K o).1 = 3) (res : Im) (x1 : Int32) (I : Im) (E : f_X2_compare_33 K o x1 I = some res) : VW D cA bs Z p l e rX2_compare s m args below meth c 3 [(0, va_rf (some o)), (1, .int x1)] K n I J R 0 0 (MQ below (QX D cA bs Z none K n res J R) args s 0 0 (fun q => bs ≤ q)) 33 [] := by
  unfold f_X2_compare_33 at E
  refine v_iconst C dX2_compare_33 k_iconst_0 ?_
  exact v_sub [0, 1] [(0, va_rf (some o)), (1, .int x1)] rfl (w_X2_compare_34 C ho res  _ _ _ E)
set_option maxHeartbeats 4000000 in
theorem w_X2_compare_29 (C : Cx D cA bs Z p s m args meth c cX2_compare RX2 3 none) {o : Nat} {K : Sh} {n : Nat} {J : Jm} {R : Rf} (ho : (K o).1 = 3) (res : Im) (x1 : Int32) (I : Im) (E : f_X2_compare_29 K o x1 I = some res) : VW D cA bs Z p l e rX2_compare s m args below meth c 3 [(0, va_rf (some o)), (1, .int x1)] K n I J R 0 0 (MQ below (QX D cA bs Z none K n res J R) args s 0 0 (fun q => bs ≤ q)) 29 [] := by
  unfold f_X2_compare_29 at E
  refine v_iconst C dX2_compare_29 k_iconst_1 ?_
  refine v_goto C 34 dX2_compare_30 rfl ?_
  exact v_sub [0, 1] [(0, va_rf (some o)), (1, .int x1)] rfl (w_X2_compare_34 C ho res  _ _ _ E)
set_option maxHeartbeats 4000000 in
theorem w_X2_compare_0 (C : Cx D cA bs Z p s m args meth c cX2_compare RX2 3 none) {o : Nat} {K : Sh} {n : Nat} {J : Jm} {R : Rf} (ho : (K o).1 = 3) (res : Im) (x1 : Int32) (I : Im) (E : f_X2_compare K o x1 I = some res) : VW D cA bs Z p l e rX2_compare s m args below meth c 3 [(0, va_rf (some o)), (1, .int x1)] K n I J R 0 0 (MQ below (QX D cA bs Z none K n res J R) args s 0 0 (fun q => bs ≤ q)) 0 [] := by
  unfold f_X2_compare at E
  refine v_aload_n (r := (some o)) C 0 dX2_compare_0 rfl ?_
  refine v_getI (r := (some o)) C fa_X2_19 rfl rfl ho dX2_compare_1 ?_
  refine v_bipush C dX2_compare_4 k_bipush_m5 ?_
  refine v_icmp_eq C 33 E dX2_compare_6 rfl (fun c10 E => ?_) (fun c10 E => ?_)
  · exact v_sub [0, 1] [(0, va_rf (some o)), (1, .int x1)] rfl (w_X2_compare_33 C ho res  _ _ E)
  · refine v_aload_n (r := (some o)) C 0 dX2_compare_9 rfl ?_
    refine v_getI (r := (some o)) C fa_X2_31 rfl rfl ho dX2_compare_10 ?_
    refine v_bipush C dX2_compare_13 k_bipush_m5 ?_
    refine v_icmp_eq C 29 E dX2_compare_15 rfl (fun c9 E => ?_) (fun c9 E => ?_)
    · exact v_sub [0, 1] [(0, va_rf (some o)), (1, .int x1)] rfl (w_X2_compare_29 C ho res  _ _ E)
    · refine v_aload_n (r := (some o)) C 0 dX2_compare_18 rfl ?_
      refine v_getI (r := (some o)) C fa_X2_19 rfl rfl ho dX2_compare_19 ?_
      refine v_aload_n (r := (some o)) C 0 dX2_compare_22 rfl ?_
      refine v_getI (r := (some o)) C fa_X2_31 rfl rfl ho dX2_compare_23 ?_
      refine v_icmp_ge C 33 E dX2_compare_26 rfl (fun c8 E => ?_) (fun c8 E => ?_)
      · exact v_sub [0, 1] [(0, va_rf (some o)), (1, .int x1)] rfl (w_X2_compare_33 C ho res  _ _ E)
      · exact v_sub [0, 1] [(0, va_rf (some o)), (1, .int x1)] rfl (w_X2_compare_29 C ho res  _ _ E)
set_option maxHeartbeats 4000000 in
theorem c_X2_compare {n : Nat} {K : Sh} {I : Im} {J : Jm} {R : Rf} {o : Nat} {x1 : Int32} (ho : (K o).1 = 3) {res : Im} (E : f_X2_compare K o x1 I = some res) : Met l yX2_compare (Cond.code yX2_compare cX2_compare 3 none :: tb) rX2_compare (PX D cA bs Z [.ref o, .int x1] K n I J R) (QX D cA bs Z none K n res J R) 0 0 (fun q => bs ≤ q) := by
  refine met_of (lv1 := [(0, va_rf (some o)), (1, .int x1)]) pn_X2 (by exact Nat.le_of_ble_eq_true rfl) (by rfl) ?_
  intro p e s m args below meth c C hn
  exact v_sub [0, 1] [(0, va_rf (some o)), (1, .int x1)] rfl (w_X2_compare_0 C ho _ _ _ E)
set_option maxHeartbeats 4000000 in
theorem w_X2_placeAt_0 (C : Cx D cA bs Z p s m args meth c cX2_placeAt RX2 4 (some .int)) {o : Nat} {K : Sh} {n : Nat} {I : Im} {J : Jm} {R : Rf} (ho : (K o).1 = 3) (res : Int32) (x1 : Int32) (x2 : Int32) (E : f_X2_placeAt Z K I o x1 x2 = some res) : VW D cA bs Z p l e rX2_placeAt s m args below meth c 4 [(0, va_rf (some o)), (1, .int x1), (2, .int x2)] K n I J R 0 0 (MQ below (QX D cA bs Z (some (.int res)) K n I J R) args s 0 0 (fun q => bs ≤ q)) 0 [] := by
  unfold f_X2_placeAt at E
  refine v_aload_n (r := (some o)) C 0 dX2_placeAt_0 rfl ?_
  refine v_getI (r := (some o)) C fa_X2_28 rfl rfl ho dX2_placeAt_1 ?_
  refine v_iconst C dX2_placeAt_4 k_iconst_3 ?_
  refine v_imul C dX2_placeAt_5 ?_
  refine v_iload_n C 1 dX2_placeAt_6 rfl ?_
  refine v_iadd C dX2_placeAt_7 ?_
  refine v_istore_n C [(3, .int (((I o 3) * 3) + x1)), (0, va_rf (some o)), (1, .int x1), (2, .int x2)] dX2_placeAt_8 (Nat.le_of_ble_eq_true rfl) rfl ?_
  refine v_iload_n C 2 dX2_placeAt_9 rfl ?_
  refine v_if_lt C 38 E dX2_placeAt_10 rfl (fun c6 E => ?_) (fun c6 E => ?_)
  · refine v_bipush C dX2_placeAt_38 k_bipush_m5 ?_
    obtain rfl := Option.some.inj E
    exact v_iret C rfl dX2_placeAt_40
  · refine v_iload_n C 2 dX2_placeAt_13 rfl ?_
    refine v_iload_n C 3 dX2_placeAt_14 rfl ?_
    refine v_icmp_ge C 38 E dX2_placeAt_15 rfl (fun c5 E => ?_) (fun c5 E => ?_)
    · refine v_bipush C dX2_placeAt_38 k_bipush_m5 ?_
      obtain rfl := Option.some.inj E
      exact v_iret C rfl dX2_placeAt_40
    · refine v_iload_n C 0 dX2_placeAt_18 rfl ?_
      refine v_if_lt C 38 E dX2_placeAt_19 rfl (fun c4 E => ?_) (fun c4 E => ?_)
      · refine v_bipush C dX2_placeAt_38 k_bipush_m5 ?_
        obtain rfl := Option.some.inj E
        exact v_iret C rfl dX2_placeAt_40
      · refine v_iload_n C 0 dX2_placeAt_22 rfl ?_
        refine v_gets C 1 (by decide) gs_X2_37 dX2_placeAt_23 ?_
        refine v_alen (r := (some (Z 1))) C E dX2_placeAt_26 (fun v1 _ E => ?_)
        refine v_icmp_ge C 38 E dX2_placeAt_27 rfl (fun c3 E => ?_) (fun c3 E => ?_)
        · refine v_bipush C dX2_placeAt_38 k_bipush_m5 ?_
          obtain rfl := Option.some.inj E
          exact v_iret C rfl dX2_placeAt_40
        · refine v_gets C 1 (by decide) gs_X2_37 dX2_placeAt_30 ?_
          refine v_iload_n C 0 dX2_placeAt_33 rfl ?_
          refine v_iald (r := (some (Z 1))) C E dX2_placeAt_34 (fun v2 _ E => ?_)
          refine v_goto C 40 dX2_placeAt_35 rfl ?_
          obtain rfl := Option.some.inj E
          exact v_iret C rfl dX2_placeAt_40
set_option maxHeartbeats 4000000 in
theorem c_X2_placeAt {n : Nat} {K : Sh} {I : Im} {J : Jm} {R : Rf} {o : Nat} {x1 : Int32} {x2 : Int32} (ho : (K o).1 = 3) {res : Int32} (E : f_X2_placeAt Z K I o x1 x2 = some res) : Met l yX2_placeAt (Cond.code yX2_placeAt cX2_placeAt 4 (some .int) :: tb) rX2_placeAt (PX D cA bs Z [.ref o, .int x1, .int x2] K n I J R) (QX D cA bs Z (some (.int res)) K n I J R) 0 0 (fun q => bs ≤ q) := by
  refine met_of (lv1 := [(0, va_rf (some o)), (1, .int x1), (2, .int x2)]) pn_X2 (by exact Nat.le_of_ble_eq_true rfl) (by rfl) ?_
  intro p e s m args below meth c C hn
  exact v_sub [0, 1, 2] [(0, va_rf (some o)), (1, .int x1), (2, .int x2)] rfl (w_X2_placeAt_0 C ho _ _ _ E)
set_option maxHeartbeats 4000000 in
theorem w_X3_init_0 (C : Cx D cA bs Z p s m args meth c cX3_init RX3 1 none) (hin : meth.name = "<init>") {o : Nat} {J : Jm} (res : Sh × Nat × Im × Rf) (K : Sh) (n : Nat) (I : Im) (R : Rf) (E : f_X3_init o K n I R = some res) : VW D cA bs Z p l e rX3_init s m args below meth c 1 [(0, va_rf (some o))] K n I J R 0 0 (MQ below (QX D cA bs Z none res.1 res.2.1 res.2.2.1 J res.2.2.2) args s 4 383 (fun q => bs ≤ q)) 0 [] := by
  unfold f_X3_init at E
  refine v_aload_n (r := (some o)) C 0 dX3_init_0 rfl ?_
  refine v_objInit (a := o) C oi_X3 oi_i oi_c (Nat.le_of_ble_eq_true rfl) (Nat.le_of_ble_eq_true rfl) dX3_init_1 ?_
  refine v_aload_n (r := (some o)) C 0 dX3_init_4 rfl ?_
  refine v_iconst C dX3_init_5 k_iconst_5 ?_
  refine v_newI (N := 5) (ce1 := 1) (sl1 := 5) C ac_int E (by decide) (by decide) rfl rfl (Nat.le_of_ble_eq_true rfl) (Nat.le_of_ble_eq_true rfl) dX3_init_6 (fun K1 _ E => ?_)
  refine v_mpI E (fun I2 _ E => ?_)
  obtain ⟨a3, h4, E⟩ := bnd E
  obtain ⟨hra3, hoa3⟩ := ob_is h4
  refine v_putRF (r := (some o)) (q := (some n)) C fa_X3_9 fo_X3_9 hin rfl E hra3 hoa3 dX3_init_8 (fun R5 _ E => ?_)
  refine v_aload_n (r := (some o)) C 0 dX3_init_11 rfl ?_
  refine v_bipush C dX3_init_12 k_bipush_6 ?_
  refine v_newI (N := 6) (ce1 := 2) (sl1 := 11) C ac_int E (by decide) (by decide) rfl rfl (Nat.le_of_ble_eq_true rfl) (Nat.le_of_ble_eq_true rfl) dX3_init_14 (fun K6 _ E => ?_)
  refine v_mpI E (fun I7 _ E => ?_)
  obtain ⟨a8, h9, E⟩ := bnd E
  obtain ⟨hra8, hoa8⟩ := ob_is h9
  refine v_putRF (r := (some o)) (q := (some (n + 1))) C fa_X3_15 fo_X3_15 hin rfl E hra8 hoa8 dX3_init_16 (fun R10 _ E => ?_)
  refine v_aload_n (r := (some o)) C 0 dX3_init_19 rfl ?_
  refine v_sipush C dX3_init_20 k_sipush_186 ?_
  refine v_newI (N := 186) (ce1 := 3) (sl1 := 197) C ac_int E (by decide) (by decide) rfl rfl (Nat.le_of_ble_eq_true rfl) (Nat.le_of_ble_eq_true rfl) dX3_init_23 (fun K11 _ E => ?_)
  refine v_mpI E (fun I12 _ E => ?_)
  obtain ⟨a13, h14, E⟩ := bnd E
  obtain ⟨hra13, hoa13⟩ := ob_is h14
  refine v_putRF (r := (some o)) (q := (some (n + 2))) C fa_X3_18 fo_X3_18 hin rfl E hra13 hoa13 dX3_init_25 (fun R15 _ E => ?_)
  refine v_aload_n (r := (some o)) C 0 dX3_init_28 rfl ?_
  refine v_sipush C dX3_init_29 k_sipush_186 ?_
  refine v_newI (N := 186) (ce1 := 4) (sl1 := 383) C ac_int E (by decide) (by decide) rfl rfl (Nat.le_of_ble_eq_true rfl) (Nat.le_of_ble_eq_true rfl) dX3_init_32 (fun K16 _ E => ?_)
  refine v_mpI E (fun I17 _ E => ?_)
  obtain ⟨a18, h19, E⟩ := bnd E
  obtain ⟨hra18, hoa18⟩ := ob_is h19
  refine v_putRF (r := (some o)) (q := (some (n + 3))) C fa_X3_21 fo_X3_21 hin rfl E hra18 hoa18 dX3_init_34 (fun R20 _ E => ?_)
  refine v_aload_n (r := (some o)) C 0 dX3_init_37 rfl ?_
  refine v_null C dX3_init_38 ?_
  refine v_putR (r := (some o)) (q := none) C fa_X3_24 rfl E hra18 hoa18 dX3_init_39 (fun R21 _ E => ?_)
  refine v_aload_n (r := (some o)) C 0 dX3_init_42 rfl ?_
  refine v_null C dX3_init_43 ?_
  refine v_putR (r := (some o)) (q := none) C fa_X3_28 rfl E hra18 hoa18 dX3_init_44 (fun R22 _ E => ?_)
  obtain rfl := Option.some.inj E
  exact v_vret C rfl dX3_init_47
set_option maxHeartbeats 4000000 in
theorem c_X3_init {n : Nat} {K : Sh} {I : Im} {J : Jm} {R : Rf} {o : Nat}  {res : Sh × Nat × Im × Rf} (E : f_X3_init o K n I R = some res) : Met l yX3_init (Cond.code yX3_init cX3_init 1 none :: tb) rX3_init (PX D cA bs Z [.ref o] K n I J R) (QX D cA bs Z none res.1 res.2.1 res.2.2.1 J res.2.2.2) 4 383 (fun q => bs ≤ q) := by
  refine met_of (lv1 := [(0, va_rf (some o))]) pn_X3 (by exact Nat.le_of_ble_eq_true rfl) (by rfl) ?_
  intro p e s m args below meth c C hn
  exact v_sub [0] [(0, va_rf (some o))] rfl (w_X3_init_0 C (hn.trans rfl) _ _ _ _ _ E)
set_option maxHeartbeats 4000000 in
theorem w_X9_sumsOf_0 (C : Cx D cA bs Z p s m args meth c cX9_sumsOf RX9 2 (some .int)) {K : Sh} {n : Nat} {I : Im} {J : Jm} {R : Rf} (res : Int32) (x0 : Int32) (x1 : Int32) (E : f_X9_sumsOf  x0 x1 = some res) : VW D cA bs Z p l e rX9_sumsOf s m args below meth c 2 [(0, .int x0), (1, .int x1)] K n I J R 0 0 (MQ below (QX D cA bs Z (some (.int res)) K n I J R) args s 0 0 (fun q => bs ≤ q)) 0 [] := by
  unfold f_X9_sumsOf at E
  refine v_iload_n C 0 dX9_sumsOf_0 rfl ?_
  refine v_bipush C dX9_sumsOf_1 k_bipush_9 ?_
  refine v_imul C dX9_sumsOf_3 ?_
  refine v_iload_n C 1 dX9_sumsOf_4 rfl ?_
  refine v_iadd C dX9_sumsOf_5 ?_
  refine v_iconst C dX9_sumsOf_6 k_iconst_1 ?_
  refine v_isub C dX9_sumsOf_7 ?_
  refine v_bipush C dX9_sumsOf_8 k_bipush_33 ?_
  refine v_imul C dX9_sumsOf_10 ?_
  obtain rfl := Option.some.inj E
  exact v_iret C rfl dX9_sumsOf_11
set_option maxHeartbeats 4000000 in
theorem c_X9_sumsOf {n : Nat} {K : Sh} {I : Im} {J : Jm} {R : Rf} {x0 : Int32} {x1 : Int32} {res : Int32} (E : f_X9_sumsOf x0 x1 = some res) : Met l yX9_sumsOf (Cond.code yX9_sumsOf cX9_sumsOf 2 (some .int) :: tb) rX9_sumsOf (PX D cA bs Z [.int x0, .int x1] K n I J R) (QX D cA bs Z (some (.int res)) K n I J R) 0 0 (fun q => bs ≤ q) := by
  refine met_of (lv1 := [(0, .int x0), (1, .int x1)]) pn_X9 (by exact Nat.le_of_ble_eq_true rfl) (by rfl) ?_
  intro p e s m args below meth c C hn
  exact v_sub [0, 1] [(0, .int x0), (1, .int x1)] rfl (w_X9_sumsOf_0 C _ _ _ E)
set_option maxHeartbeats 4000000 in
theorem w_X9_drunkAlong_0 (C : Cx D cA bs Z p s m args meth c cX9_drunkAlong RX9 6 (some .int)) {o : Nat} {K : Sh} {n : Nat} {I : Im} {J : Jm} {R : Rf} (ho : (K o).1 = 10) (res : Int32) (x1 : Int32) (x2 : Int32) (x3 : Int32) (E : f_X9_drunkAlong K I R o x1 x2 x3 = some res) : VW D cA bs Z p l e rX9_drunkAlong s m args below meth c 6 [(0, va_rf (some o)), (1, .int x1), (2, .int x2), (3, .int x3)] K n I J R 0 0 (MQ below (QX D cA bs Z (some (.int res)) K n I J R) args s 0 0 (fun q => bs ≤ q)) 0 [] := by
  unfold f_X9_drunkAlong at E
  refine v_iload_n C 1 dX9_drunkAlong_0 rfl ?_
  refine v_iload_n C 3 dX9_drunkAlong_1 rfl ?_
  obtain ⟨q1, h2, E⟩ := bnd E
  refine v_callS (As := [.int x1, .int x3]) (rv := (some (.int q1))) (st := []) (st1 := [.int q1]) (ce1 := 0) (sl1 := 0) C cs_X9_46 (c_X9_sumsOf (x0 := x1) (x1 := x3) h2) rfl rfl ⟨rfl, rfl, Nat.le_of_ble_eq_true rfl, Nat.le_of_ble_eq_true rfl⟩ ⟨Nat.le_of_ble_eq_true rfl, Nat.le_of_ble_eq_true rfl⟩ (Nat.le_of_ble_eq_true rfl) rfl rfl rfl dX9_drunkAlong_2 ?_
  refine v_iload_n C 2 dX9_drunkAlong_5 rfl ?_
  refine v_bipush C dX9_drunkAlong_6 k_bipush_24 ?_
  refine v_irem C dX9_drunkAlong_8 k_nz_24 ?_
  refine v_iadd C dX9_drunkAlong_9 ?_
  refine v_istore C [(4, .int (q1 + (irem x2 24))), (0, va_rf (some o)), (1, .int x1), (2, .int x2), (3, .int x3)] dX9_drunkAlong_10 (Nat.le_of_ble_eq_true rfl) rfl ?_
  refine v_iload C 0 dX9_drunkAlong_12 rfl ?_
  refine v_aload_n (r := (some o)) C 1 dX9_drunkAlong_14 rfl ?_
  refine v_getR (r := (some o)) C fa_X9_18 rfl rfl ho dX9_drunkAlong_15 ?_
  refine v_iload_n C 2 dX9_drunkAlong_18 rfl ?_
  refine v_iald (r := (R o 7)) C E dX9_drunkAlong_19 (fun v3 _ E => ?_)
  refine v_iadd C dX9_drunkAlong_20 ?_
  refine v_istore C [(5, .int ((q1 + (irem x2 24)) + v3)), (4, .int (q1 + (irem x2 24))), (0, va_rf (some o)), (1, .int x1), (2, .int x2), (3, .int x3)] dX9_drunkAlong_21 (Nat.le_of_ble_eq_true rfl) rfl ?_
  refine v_aload_n (r := (some o)) C 2 dX9_drunkAlong_23 rfl ?_
  refine v_getR (r := (some o)) C fa_X9_21 rfl rfl ho dX9_drunkAlong_24 ?_
  refine v_ifnull (r := (R o 8)) C 65 E dX9_drunkAlong_27 rfl (fun c9 E => ?_) (fun c9 E => ?_)
  · refine v_iconst C dX9_drunkAlong_65 k_iconst_0 ?_
    obtain rfl := Option.some.inj E
    exact v_iret C rfl dX9_drunkAlong_66
  · refine v_iload C 1 dX9_drunkAlong_30 rfl ?_
    refine v_if_lt C 65 E dX9_drunkAlong_32 rfl (fun c8 E => ?_) (fun c8 E => ?_)
    · refine v_iconst C dX9_drunkAlong_65 k_iconst_0 ?_
      obtain rfl := Option.some.inj E
      exact v_iret C rfl dX9_drunkAlong_66
    · refine v_iload C 0 dX9_drunkAlong_35 rfl ?_
      refine v_aload_n (r := (some o)) C 2 dX9_drunkAlong_37 rfl ?_
      refine v_getR (r := (some o)) C fa_X9_21 rfl rfl ho dX9_drunkAlong_38 ?_
      refine v_alen (r := (R o 8)) C E dX9_drunkAlong_41 (fun v4 _ E => ?_)
      refine v_icmp_ge C 65 E dX9_drunkAlong_42 rfl (fun c7 E => ?_) (fun c7 E => ?_)
      · refine v_iconst C dX9_drunkAlong_65 k_iconst_0 ?_
        obtain rfl := Option.some.inj E
        exact v_iret C rfl dX9_drunkAlong_66
      · refine v_aload_n (r := (some o)) C 2 dX9_drunkAlong_45 rfl ?_
        refine v_getR (r := (some o)) C fa_X9_21 rfl rfl ho dX9_drunkAlong_46 ?_
        refine v_iload C 0 dX9_drunkAlong_49 rfl ?_
        refine v_iald (r := (R o 8)) C E dX9_drunkAlong_51 (fun v5 _ E => ?_)
        refine v_aload_n (r := (some o)) C 2 dX9_drunkAlong_52 rfl ?_
        refine v_getR (r := (some o)) C fa_X9_21 rfl rfl ho dX9_drunkAlong_53 ?_
        refine v_iload C 1 dX9_drunkAlong_56 rfl ?_
        refine v_iald (r := (R o 8)) C E dX9_drunkAlong_58 (fun v6 _ E => ?_)
        refine v_isub C dX9_drunkAlong_59 ?_
        refine v_iload_n C 5 dX9_drunkAlong_60 rfl ?_
        refine v_imul C dX9_drunkAlong_61 ?_
        refine v_goto C 66 dX9_drunkAlong_62 rfl ?_
        obtain rfl := Option.some.inj E
        exact v_iret C rfl dX9_drunkAlong_66
set_option maxHeartbeats 4000000 in
theorem c_X9_drunkAlong {n : Nat} {K : Sh} {I : Im} {J : Jm} {R : Rf} {o : Nat} {x1 : Int32} {x2 : Int32} {x3 : Int32} (ho : (K o).1 = 10) {res : Int32} (E : f_X9_drunkAlong K I R o x1 x2 x3 = some res) : Met l yX9_drunkAlong (Cond.code yX9_drunkAlong cX9_drunkAlong 6 (some .int) :: tb) rX9_drunkAlong (PX D cA bs Z [.ref o, .int x1, .int x2, .int x3] K n I J R) (QX D cA bs Z (some (.int res)) K n I J R) 0 0 (fun q => bs ≤ q) := by
  refine met_of (lv1 := [(0, va_rf (some o)), (1, .int x1), (2, .int x2), (3, .int x3)]) pn_X9 (by exact Nat.le_of_ble_eq_true rfl) (by rfl) ?_
  intro p e s m args below meth c C hn
  exact v_sub [0, 1, 2, 3] [(0, va_rf (some o)), (1, .int x1), (2, .int x2), (3, .int x3)] rfl (w_X9_drunkAlong_0 C ho _ _ _ _ E)
set_option maxHeartbeats 4000000 in
theorem w_X3_begin_43 (C : Cx D cA bs Z p s m args meth c cX3_begin RX3 3 none) {o : Nat} {K : Sh} {n : Nat} {J : Jm} {R : Rf} (ho : (K o).1 = 4) (res : Im)  : ∀ (k : Nat), ∀ (x1 : Int32) (x2 : Int32) (I : Im), f_X3_begin_43 K R o k x1 x2 I = some res → VW D cA bs Z p l e rX3_begin s m args below meth c 3 [(0, va_rf (some o)), (1, .int x1), (2, .int x2)] K n I J R 0 0 (MQ below (QX D cA bs Z none K n res J R) args s 0 0 (fun q => bs ≤ q)) 43 [] := by
  intro k
  induction k with
  | zero =>
    intro x1 x2 I E
    have E : (none : Option (Im)) = some res := E
    cases E
  | succ k ih =>
    intro x1 x2 I E
    unfold f_X3_begin_43 at E
    refine v_iload_n C 2 dX3_begin_43 rfl ?_
    refine v_aload_n (r := (some o)) C 0 dX3_begin_44 rfl ?_
    refine v_getR (r := (some o)) C fa_X3_24 rfl rfl ho dX3_begin_45 ?_
    obtain ⟨a1, h2, E⟩ := bnd E
    obtain ⟨hra1, hoa1⟩ := ob_is h2
    refine v_getI (r := (R o 4)) C fa_X3_60 rfl hra1 hoa1 dX3_begin_48 ?_
    refine v_icmp_ge C 98 E dX3_begin_51 rfl (fun c12 E => ?_) (fun c12 E => ?_)
    · refine v_aload_n (r := (some o)) C 0 dX3_begin_98 rfl ?_
      refine v_getR (r := (some o)) C fa_X3_18 rfl rfl ho dX3_begin_99 ?_
      refine v_iconst C dX3_begin_102 k_iconst_0 ?_
      refine v_iconst C dX3_begin_103 k_iconst_m1 ?_
      refine v_aload_n (r := (some o)) C 0 dX3_begin_104 rfl ?_
      refine v_getI (r := (some o)) C fa_X3_44 rfl rfl ho dX3_begin_105 ?_
      refine v_aload_n (r := (some o)) C 0 dX3_begin_108 rfl ?_
      refine v_getR (r := (some o)) C fa_X3_24 rfl rfl ho dX3_begin_109 ?_
      refine v_iconst C dX3_begin_112 k_iconst_0 ?_
      refine v_iload_n C 1 dX3_begin_113 rfl ?_
      refine v_aload_n (r := (some o)) C 0 dX3_begin_114 rfl ?_
      refine v_getI (r := (some o)) C fa_X3_38 rfl rfl ho dX3_begin_115 ?_
      obtain ⟨q3, h4, E⟩ := bnd E
      refine v_callV (r := (R o 4)) (As := [.int 0, .int x1, .int (I o 6)]) (rv := (some (.int q3))) (st := [.int (I o 7), .int (-1), .int 0, va_rf (R o 2)]) (st1 := [.int q3, .int (I o 7), .int (-1), .int 0, va_rf (R o 2)]) (ce1 := 0) (sl1 := 0) C cv_X3_102 (c_X9_drunkAlong (x1 := 0) (x2 := x1) (x3 := (I o 6)) hoa1 h4) hra1 hoa1 rfl rfl ⟨rfl, rfl, Nat.le_of_ble_eq_true rfl, Nat.le_of_ble_eq_true rfl⟩ ⟨Nat.le_of_ble_eq_true rfl, Nat.le_of_ble_eq_true rfl⟩ (by simp only [List.map_cons, List.map_nil, List.sum_cons, List.sum_nil, rf_cat]; exact Nat.le_of_ble_eq_true rfl) rfl rfl rfl dX3_begin_118 ?_
      refine v_isub C dX3_begin_121 ?_
      refine v_max C mx_X3_97 (Nat.le_of_ble_eq_true rfl) ((by simp only [List.map_cons, List.map_nil, List.sum_cons, List.sum_nil, rf_cat]; exact Nat.le_of_ble_eq_true rfl)) (Nat.le_of_ble_eq_true rfl) (Nat.le_of_ble_eq_true rfl) dX3_begin_122 ?_
      refine v_iast (r := (R o 2)) C E dX3_begin_125 (fun I5 _ E => ?_)
      obtain rfl := Option.some.inj E
      exact v_vret C rfl dX3_begin_126
    · refine v_aload_n (r := (some o)) C 0 dX3_begin_54 rfl ?_
      refine v_getR (r := (some o)) C fa_X3_15 rfl rfl ho dX3_begin_55 ?_
      refine v_iload_n C 2 dX3_begin_58 rfl ?_
      refine v_iconst C dX3_begin_59 k_iconst_1 ?_
      refine v_iadd C dX3_begin_60 ?_
      refine v_aload_n (r := (some o)) C 0 dX3_begin_61 rfl ?_
      refine v_getR (r := (some o)) C fa_X3_15 rfl rfl ho dX3_begin_62 ?_
      refine v_iload_n C 2 dX3_begin_65 rfl ?_
      refine v_iald (r := (R o 1)) C E dX3_begin_66 (fun v6 _ E => ?_)
      refine v_aload_n (r := (some o)) C 0 dX3_begin_67 rfl ?_
      refine v_getR (r := (some o)) C fa_X3_28 rfl rfl ho dX3_begin_68 ?_
      obtain ⟨a7, h8, E⟩ := bnd E
      obtain ⟨hra7, hoa7⟩ := ob_is h8
      refine v_getR (r := (R o 5)) C fa_X3_92 rfl hra7 hoa7 dX3_begin_71 ?_
      refine v_iload_n C 2 dX3_begin_74 rfl ?_
      refine v_iald (r := (R a7 3)) C E dX3_begin_75 (fun v9 _ E => ?_)
      refine v_max C mx_X3_97 (Nat.le_of_ble_eq_true rfl) ((by simp only [List.map_cons, List.map_nil, List.sum_cons, List.sum_nil, rf_cat]; exact Nat.le_of_ble_eq_true rfl)) (Nat.le_of_ble_eq_true rfl) (Nat.le_of_ble_eq_true rfl) dX3_begin_76 ?_
      refine v_aload_n (r := (some o)) C 0 dX3_begin_79 rfl ?_
      refine v_getR (r := (some o)) C fa_X3_24 rfl rfl ho dX3_begin_80 ?_
      refine v_getR (r := (R o 4)) C fa_X3_89 rfl hra1 hoa1 dX3_begin_83 ?_
      refine v_iload_n C 2 dX3_begin_86 rfl ?_
      refine v_iconst C dX3_begin_87 k_iconst_1 ?_
      refine v_iadd C dX3_begin_88 ?_
      refine v_iald (r := (R a1 7)) C E dX3_begin_89 (fun v10 _ E => ?_)
      refine v_iadd C dX3_begin_90 ?_
      refine v_iast (r := (R o 1)) C E dX3_begin_91 (fun I11 _ E => ?_)
      refine v_iinc (v := x2 + 1) C 2 [(2, .int (x2 + 1)), (0, va_rf (some o)), (1, .int x1)] dX3_begin_92 rfl (k_inc_1 _) (Nat.le_of_ble_eq_true rfl) rfl ?_
      refine v_goto C 43 dX3_begin_95 rfl ?_
      exact v_sub [1, 2, 0] [(0, va_rf (some o)), (1, .int x1), (2, .int (x2 + 1))] rfl (ih _ _ _ E)
set_option maxHeartbeats 4000000 in
theorem w_X3_begin_2 (C : Cx D cA bs Z p s m args meth c cX3_begin RX3 3 none) {o : Nat} {K : Sh} {n : Nat} {J : Jm} {R : Rf} (ho : (K o).1 = 4) (res : Im)  : ∀ (k : Nat), ∀ (x1 : Int32) (x2 : Int32) (I : Im), f_X3_begin_2 K R o k x1 x2 I = some res → VW D cA bs Z p l e rX3_begin s m args below meth c 3 [(0, va_rf (some o)), (1, .int x1), (2, .int x2)] K n I J R 0 0 (MQ below (QX D cA bs Z none K n res J R) args s 0 0 (fun q => bs ≤ q)) 2 [] := by
  intro k
  induction k with
  | zero =>
    intro x1 x2 I E
    have E : (none : Option (Im)) = some res := E
    cases E
  | succ k ih =>
    intro x1 x2 I E
    unfold f_X3_begin_2 at E
    refine v_iload_n C 2 dX3_begin_2 rfl ?_
    refine v_aload_n (r := (some o)) C 0 dX3_begin_3 rfl ?_
    refine v_getR (r := (some o)) C fa_X3_18 rfl rfl ho dX3_begin_4 ?_
    refine v_alen (r := (R o 2)) C E dX3_begin_7 (fun v13 _ E => ?_)
    refine v_icmp_ge C 24 E dX3_begin_8 rfl (fun c19 E => ?_) (fun c19 E => ?_)
    · refine v_aload_n (r := (some o)) C 0 dX3_begin_24 rfl ?_
      refine v_getR (r := (some o)) C fa_X3_15 rfl rfl ho dX3_begin_25 ?_
      refine v_iconst C dX3_begin_28 k_iconst_0 ?_
      refine v_iload_n C 1 dX3_begin_29 rfl ?_
      refine v_aload_n (r := (some o)) C 0 dX3_begin_30 rfl ?_
      refine v_getR (r := (some o)) C fa_X3_24 rfl rfl ho dX3_begin_31 ?_
      obtain ⟨a14, h15, E⟩ := bnd E
      obtain ⟨hra14, hoa14⟩ := ob_is h15
      refine v_getR (r := (R o 4)) C fa_X3_89 rfl hra14 hoa14 dX3_begin_34 ?_
      refine v_iconst C dX3_begin_37 k_iconst_0 ?_
      refine v_iald (r := (R a14 7)) C E dX3_begin_38 (fun v16 _ E => ?_)
      refine v_iadd C dX3_begin_39 ?_
      refine v_iast (r := (R o 1)) C E dX3_begin_40 (fun I17 _ E => ?_)
      refine v_iconst C dX3_begin_41 k_iconst_0 ?_
      refine v_istore_n C [(2, .int 0), (0, va_rf (some o)), (1, .int x1)] dX3_begin_42 (Nat.le_of_ble_eq_true rfl) rfl ?_
      exact v_sub [1, 2, 0] [(0, va_rf (some o)), (1, .int x1), (2, .int 0)] rfl (w_X3_begin_43 C ho res  _ _ _ _ E)
    · refine v_aload_n (r := (some o)) C 0 dX3_begin_11 rfl ?_
      refine v_getR (r := (some o)) C fa_X3_18 rfl rfl ho dX3_begin_12 ?_
      refine v_iload_n C 2 dX3_begin_15 rfl ?_
      refine v_iconst C dX3_begin_16 k_iconst_m1 ?_
      refine v_iast (r := (R o 2)) C E dX3_begin_17 (fun I18 _ E => ?_)
      refine v_iinc (v := x2 + 1) C 2 [(2, .int (x2 + 1)), (0, va_rf (some o)), (1, .int x1)] dX3_begin_18 rfl (k_inc_1 _) (Nat.le_of_ble_eq_true rfl) rfl ?_
      refine v_goto C 2 dX3_begin_21 rfl ?_
      exact v_sub [1, 2, 0] [(0, va_rf (some o)), (1, .int x1), (2, .int (x2 + 1))] rfl (ih _ _ _ E)
set_option maxHeartbeats 4000000 in
theorem w_X3_begin_0 (C : Cx D cA bs Z p s m args meth c cX3_begin RX3 3 none) {o : Nat} {K : Sh} {n : Nat} {J : Jm} {R : Rf} (ho : (K o).1 = 4) (res : Im) (x1 : Int32) (I : Im) (E : f_X3_begin K R o x1 I = some res) : VW D cA bs Z p l e rX3_begin s m args below meth c 3 [(0, va_rf (some o)), (1, .int x1)] K n I J R 0 0 (MQ below (QX D cA bs Z none K n res J R) args s 0 0 (fun q => bs ≤ q)) 0 [] := by
  unfold f_X3_begin at E
  refine v_iconst C dX3_begin_0 k_iconst_0 ?_
  refine v_istore_n C [(2, .int 0), (0, va_rf (some o)), (1, .int x1)] dX3_begin_1 (Nat.le_of_ble_eq_true rfl) rfl ?_
  exact v_sub [1, 2, 0] [(0, va_rf (some o)), (1, .int x1), (2, .int 0)] rfl (w_X3_begin_2 C ho res  _ _ _ _ E)
set_option maxHeartbeats 4000000 in
theorem c_X3_begin {n : Nat} {K : Sh} {I : Im} {J : Jm} {R : Rf} {o : Nat} {x1 : Int32} (ho : (K o).1 = 4) {res : Im} (E : f_X3_begin K R o x1 I = some res) : Met l yX3_begin (Cond.code yX3_begin cX3_begin 3 none :: tb) rX3_begin (PX D cA bs Z [.ref o, .int x1] K n I J R) (QX D cA bs Z none K n res J R) 0 0 (fun q => bs ≤ q) := by
  refine met_of (lv1 := [(0, va_rf (some o)), (1, .int x1)]) pn_X3 (by exact Nat.le_of_ble_eq_true rfl) (by rfl) ?_
  intro p e s m args below meth c C hn
  exact v_sub [0, 1] [(0, va_rf (some o)), (1, .int x1)] rfl (w_X3_begin_0 C ho _ _ _ E)
set_option maxHeartbeats 4000000 in
theorem w_X3_leaving_0 (C : Cx D cA bs Z p s m args meth c cX3_leaving RX3 4 (some .int)) {o : Nat} {K : Sh} {n : Nat} {I : Im} {J : Jm} {R : Rf} (ho : (K o).1 = 4) (res : Int32) (x1 : Int32) (x2 : Int32) (x3 : Int32) (E : f_X3_leaving K I R o x1 x2 x3 = some res) : VW D cA bs Z p l e rX3_leaving s m args below meth c 4 [(0, va_rf (some o)), (1, .int x1), (2, .int x2), (3, .int x3)] K n I J R 0 0 (MQ below (QX D cA bs Z (some (.int res)) K n I J R) args s 0 0 (fun q => bs ≤ q)) 0 [] := by
  unfold f_X3_leaving at E
  refine v_aload_n (r := (some o)) C 0 dX3_leaving_0 rfl ?_
  refine v_getR (r := (some o)) C fa_X3_15 rfl rfl ho dX3_leaving_1 ?_
  refine v_iload_n C 1 dX3_leaving_4 rfl ?_
  refine v_iald (r := (R o 1)) C E dX3_leaving_5 (fun v1 _ E => ?_)
  refine v_iload_n C 2 dX3_leaving_6 rfl ?_
  refine v_iadd C dX3_leaving_7 ?_
  refine v_aload_n (r := (some o)) C 0 dX3_leaving_8 rfl ?_
  refine v_getR (r := (some o)) C fa_X3_28 rfl rfl ho dX3_leaving_9 ?_
  obtain ⟨a2, h3, E⟩ := bnd E
  obtain ⟨hra2, hoa2⟩ := ob_is h3
  refine v_getR (r := (R o 5)) C fa_X3_92 rfl hra2 hoa2 dX3_leaving_12 ?_
  refine v_iload_n C 1 dX3_leaving_15 rfl ?_
  refine v_iald (r := (R a2 3)) C E dX3_leaving_16 (fun v4 _ E => ?_)
  refine v_max C mx_X3_97 (Nat.le_of_ble_eq_true rfl) ((Nat.le_of_ble_eq_true rfl)) (Nat.le_of_ble_eq_true rfl) (Nat.le_of_ble_eq_true rfl) dX3_leaving_17 ?_
  refine v_iload_n C 3 dX3_leaving_20 rfl ?_
  refine v_iadd C dX3_leaving_21 ?_
  obtain rfl := Option.some.inj E
  exact v_iret C rfl dX3_leaving_22
set_option maxHeartbeats 4000000 in
theorem c_X3_leaving {n : Nat} {K : Sh} {I : Im} {J : Jm} {R : Rf} {o : Nat} {x1 : Int32} {x2 : Int32} {x3 : Int32} (ho : (K o).1 = 4) {res : Int32} (E : f_X3_leaving K I R o x1 x2 x3 = some res) : Met l yX3_leaving (Cond.code yX3_leaving cX3_leaving 4 (some .int) :: tb) rX3_leaving (PX D cA bs Z [.ref o, .int x1, .int x2, .int x3] K n I J R) (QX D cA bs Z (some (.int res)) K n I J R) 0 0 (fun q => bs ≤ q) := by
  refine met_of (lv1 := [(0, va_rf (some o)), (1, .int x1), (2, .int x2), (3, .int x3)]) pn_X3 (by exact Nat.le_of_ble_eq_true rfl) (by rfl) ?_
  intro p e s m args below meth c C hn
  exact v_sub [0, 1, 2, 3] [(0, va_rf (some o)), (1, .int x1), (2, .int x2), (3, .int x3)] rfl (w_X3_leaving_0 C ho _ _ _ _ E)
set_option maxHeartbeats 4000000 in
theorem w_X3_nextOf_0 (C : Cx D cA bs Z p s m args meth c cX3_nextOf RX3 3 (some .int)) {o : Nat} {K : Sh} {n : Nat} {I : Im} {J : Jm} {R : Rf} (ho : (K o).1 = 4) (res : Int32) (x1 : Int32) (x2 : Int32) (E : f_X3_nextOf K I R o x1 x2 = some res) : VW D cA bs Z p l e rX3_nextOf s m args below meth c 3 [(0, va_rf (some o)), (1, .int x1), (2, .int x2)] K n I J R 0 0 (MQ below (QX D cA bs Z (some (.int res)) K n I J R) args s 0 0 (fun q => bs ≤ q)) 0 [] := by
  unfold f_X3_nextOf at E
  refine v_iload_n C 2 dX3_nextOf_0 rfl ?_
  refine v_aload_n (r := (some o)) C 0 dX3_nextOf_1 rfl ?_
  refine v_getR (r := (some o)) C fa_X3_24 rfl rfl ho dX3_nextOf_2 ?_
  obtain ⟨a1, h2, E⟩ := bnd E
  obtain ⟨hra1, hoa1⟩ := ob_is h2
  refine v_getR (r := (R o 4)) C fa_X3_89 rfl hra1 hoa1 dX3_nextOf_5 ?_
  refine v_iload_n C 1 dX3_nextOf_8 rfl ?_
  refine v_iconst C dX3_nextOf_9 k_iconst_1 ?_
  refine v_iadd C dX3_nextOf_10 ?_
  refine v_iald (r := (R a1 7)) C E dX3_nextOf_11 (fun v3 _ E => ?_)
  refine v_iadd C dX3_nextOf_12 ?_
  refine v_aload_n (r := (some o)) C 0 dX3_nextOf_13 rfl ?_
  refine v_getR (r := (some o)) C fa_X3_15 rfl rfl ho dX3_nextOf_14 ?_
  refine v_iload_n C 1 dX3_nextOf_17 rfl ?_
  refine v_iconst C dX3_nextOf_18 k_iconst_1 ?_
  refine v_iadd C dX3_nextOf_19 ?_
  refine v_iald (r := (R o 1)) C E dX3_nextOf_20 (fun v4 _ E => ?_)
  refine v_isub C dX3_nextOf_21 ?_
  obtain rfl := Option.some.inj E
  exact v_iret C rfl dX3_nextOf_22
set_option maxHeartbeats 4000000 in
theorem c_X3_nextOf {n : Nat} {K : Sh} {I : Im} {J : Jm} {R : Rf} {o : Nat} {x1 : Int32} {x2 : Int32} (ho : (K o).1 = 4) {res : Int32} (E : f_X3_nextOf K I R o x1 x2 = some res) : Met l yX3_nextOf (Cond.code yX3_nextOf cX3_nextOf 3 (some .int) :: tb) rX3_nextOf (PX D cA bs Z [.ref o, .int x1, .int x2] K n I J R) (QX D cA bs Z (some (.int res)) K n I J R) 0 0 (fun q => bs ≤ q) := by
  refine met_of (lv1 := [(0, va_rf (some o)), (1, .int x1), (2, .int x2)]) pn_X3 (by exact Nat.le_of_ble_eq_true rfl) (by rfl) ?_
  intro p e s m args below meth c C hn
  exact v_sub [0, 1, 2] [(0, va_rf (some o)), (1, .int x1), (2, .int x2)] rfl (w_X3_nextOf_0 C ho _ _ _ E)
set_option maxHeartbeats 4000000 in
theorem w_X10_heldAt_0 (C : Cx D cA bs Z p s m args meth c cX10_heldAt RX10 4 (some .int)) {o : Nat} {K : Sh} {n : Nat} {I : Im} {J : Jm} {R : Rf} (ho : (K o).1 = 11) (res : Int32) (x1 : Int32) (x2 : Int32) (E : f_X10_heldAt K I R o x1 x2 = some res) : VW D cA bs Z p l e rX10_heldAt s m args below meth c 4 [(0, va_rf (some o)), (1, .int x1), (2, .int x2)] K n I J R 0 0 (MQ below (QX D cA bs Z (some (.int res)) K n I J R) args s 0 0 (fun q => bs ≤ q)) 0 [] := by
  unfold f_X10_heldAt at E
  refine v_iload_n C 2 dX10_heldAt_0 rfl ?_
  refine v_aload_n (r := (some o)) C 0 dX10_heldAt_1 rfl ?_
  refine v_getR (r := (some o)) C fa_X10_21 rfl rfl ho dX10_heldAt_2 ?_
  refine v_iload_n C 1 dX10_heldAt_5 rfl ?_
  refine v_iald (r := (R o 3)) C E dX10_heldAt_6 (fun v1 _ E => ?_)
  refine v_icmp_gt C 17 E dX10_heldAt_7 rfl (fun c9 E => ?_) (fun c9 E => ?_)
  · refine v_aload_n (r := (some o)) C 0 dX10_heldAt_17 rfl ?_
    refine v_getR (r := (some o)) C fa_X10_18 rfl rfl ho dX10_heldAt_18 ?_
    refine v_iload_n C 1 dX10_heldAt_21 rfl ?_
    refine v_iald (r := (R o 2)) C E dX10_heldAt_22 (fun v2 _ E => ?_)
    refine v_aload_n (r := (some o)) C 0 dX10_heldAt_23 rfl ?_
    refine v_getR (r := (some o)) C fa_X10_15 rfl rfl ho dX10_heldAt_24 ?_
    refine v_iload_n C 1 dX10_heldAt_27 rfl ?_
    refine v_iald (r := (R o 1)) C E dX10_heldAt_28 (fun v3 _ E => ?_)
    refine v_iload_n C 2 dX10_heldAt_29 rfl ?_
    refine v_aload_n (r := (some o)) C 0 dX10_heldAt_30 rfl ?_
    refine v_getR (r := (some o)) C fa_X10_21 rfl rfl ho dX10_heldAt_31 ?_
    refine v_iload_n C 1 dX10_heldAt_34 rfl ?_
    refine v_iald (r := (R o 3)) C E dX10_heldAt_35 (fun v4 _ E => ?_)
    refine v_isub C dX10_heldAt_36 ?_
    refine v_imul C dX10_heldAt_37 ?_
    refine v_iadd C dX10_heldAt_38 ?_
    refine v_istore_n C [(3, .int (v2 + (v3 * (x2 - v4)))), (0, va_rf (some o)), (1, .int x1), (2, .int x2)] dX10_heldAt_39 (Nat.le_of_ble_eq_true rfl) rfl ?_
    refine v_iload_n C 0 dX10_heldAt_40 rfl ?_
    refine v_aload_n (r := (some o)) C 1 dX10_heldAt_41 rfl ?_
    refine v_getR (r := (some o)) C fa_X10_9 rfl rfl ho dX10_heldAt_42 ?_
    refine v_iload_n C 2 dX10_heldAt_45 rfl ?_
    refine v_iald (r := (R o 0)) C E dX10_heldAt_46 (fun v5 _ E => ?_)
    refine v_icmp_ge C 54 E dX10_heldAt_47 rfl (fun c7 E => ?_) (fun c7 E => ?_)
    · refine v_aload_n (r := (some o)) C 1 dX10_heldAt_54 rfl ?_
      refine v_getR (r := (some o)) C fa_X10_9 rfl rfl ho dX10_heldAt_55 ?_
      refine v_iload_n C 2 dX10_heldAt_58 rfl ?_
      refine v_iald (r := (R o 0)) C E dX10_heldAt_59 (fun v6 _ E => ?_)
      obtain rfl := Option.some.inj E
      exact v_iret C rfl dX10_heldAt_60
    · refine v_iload_n C 0 dX10_heldAt_50 rfl ?_
      refine v_goto C 60 dX10_heldAt_51 rfl ?_
      obtain rfl := Option.some.inj E
      exact v_iret C rfl dX10_heldAt_60
  · refine v_aload_n (r := (some o)) C 0 dX10_heldAt_10 rfl ?_
    refine v_getR (r := (some o)) C fa_X10_18 rfl rfl ho dX10_heldAt_11 ?_
    refine v_iload_n C 1 dX10_heldAt_14 rfl ?_
    refine v_iald (r := (R o 2)) C E dX10_heldAt_15 (fun v8 _ E => ?_)
    obtain rfl := Option.some.inj E
    exact v_iret C rfl dX10_heldAt_16
set_option maxHeartbeats 4000000 in
theorem c_X10_heldAt {n : Nat} {K : Sh} {I : Im} {J : Jm} {R : Rf} {o : Nat} {x1 : Int32} {x2 : Int32} (ho : (K o).1 = 11) {res : Int32} (E : f_X10_heldAt K I R o x1 x2 = some res) : Met l yX10_heldAt (Cond.code yX10_heldAt cX10_heldAt 4 (some .int) :: tb) rX10_heldAt (PX D cA bs Z [.ref o, .int x1, .int x2] K n I J R) (QX D cA bs Z (some (.int res)) K n I J R) 0 0 (fun q => bs ≤ q) := by
  refine met_of (lv1 := [(0, va_rf (some o)), (1, .int x1), (2, .int x2)]) pn_X10 (by exact Nat.le_of_ble_eq_true rfl) (by rfl) ?_
  intro p e s m args below meth c C hn
  exact v_sub [0, 1, 2] [(0, va_rf (some o)), (1, .int x1), (2, .int x2)] rfl (w_X10_heldAt_0 C ho _ _ _ E)
set_option maxHeartbeats 4000000 in
theorem w_X3_brought_0 (C : Cx D cA bs Z p s m args meth c cX3_brought RX3 7 (some .int)) {o : Nat} {K : Sh} {n : Nat} {I : Im} {J : Jm} {R : Rf} (ho : (K o).1 = 4) (res : Int32) (x1 : Int32) (x2 : Int32) (x3 : Int32) (x4 : Int32) (E : f_X3_brought K I R o x1 x2 x3 x4 = some res) : VW D cA bs Z p l e rX3_brought s m args below meth c 7 [(0, va_rf (some o)), (1, .int x1), (2, .int x2), (3, .int x3), (4, .int x4)] K n I J R 0 0 (MQ below (QX D cA bs Z (some (.int res)) K n I J R) args s 0 0 (fun q => bs ≤ q)) 0 [] := by
  unfold f_X3_brought at E
  refine v_iload C 4 dX3_brought_0 rfl ?_
  refine v_iload_n C 3 dX3_brought_2 rfl ?_
  refine v_aload_n (r := (some o)) C 0 dX3_brought_3 rfl ?_
  refine v_getR (r := (some o)) C fa_X3_15 rfl rfl ho dX3_brought_4 ?_
  refine v_iload_n C 1 dX3_brought_7 rfl ?_
  refine v_iald (r := (R o 1)) C E dX3_brought_8 (fun v1 _ E => ?_)
  refine v_isub C dX3_brought_9 ?_
  refine v_iload_n C 2 dX3_brought_10 rfl ?_
  refine v_isub C dX3_brought_11 ?_
  refine v_aload_n (r := (some o)) C 0 dX3_brought_12 rfl ?_
  refine v_getI (r := (some o)) C fa_X3_50 rfl rfl ho dX3_brought_13 ?_
  refine v_imul C dX3_brought_16 ?_
  refine v_isub C dX3_brought_17 ?_
  refine v_nmI E (fun v2 _ E => ?_)
  refine v_istore C [(5, .int v2), (0, va_rf (some o)), (1, .int x1), (2, .int x2), (3, .int x3), (4, .int x4)] dX3_brought_18 (Nat.le_of_ble_eq_true rfl) rfl ?_
  refine v_iload C 0 dX3_brought_20 rfl ?_
  refine v_if_ge C 27 E dX3_brought_22 rfl (fun c11 E => ?_) (fun c11 E => ?_)
  · refine v_aload_n (r := (some o)) C 1 dX3_brought_27 rfl ?_
    refine v_getI (r := (some o)) C fa_X3_44 rfl rfl ho dX3_brought_28 ?_
    refine v_iload C 0 dX3_brought_31 rfl ?_
    refine v_aload_n (r := (some o)) C 1 dX3_brought_33 rfl ?_
    refine v_getR (r := (some o)) C fa_X3_28 rfl rfl ho dX3_brought_34 ?_
    refine v_iload_n C 2 dX3_brought_37 rfl ?_
    refine v_iload_n C 4 dX3_brought_38 rfl ?_
    obtain ⟨a3, h4, E⟩ := bnd E
    obtain ⟨hra3, hoa3⟩ := ob_is h4
    obtain ⟨q5, h6, E⟩ := bnd E
    refine v_callV (r := (R o 5)) (As := [.int x1, .int x3]) (rv := (some (.int q5))) (st := [.int v2, .int (I o 7)]) (st1 := [.int q5, .int v2, .int (I o 7)]) (ce1 := 0) (sl1 := 0) C cv_X3_105 (c_X10_heldAt (x1 := x1) (x2 := x3) hoa3 h6) hra3 hoa3 rfl rfl ⟨rfl, rfl, Nat.le_of_ble_eq_true rfl, Nat.le_of_ble_eq_true rfl⟩ ⟨Nat.le_of_ble_eq_true rfl, Nat.le_of_ble_eq_true rfl⟩ (Nat.le_of_ble_eq_true rfl) rfl rfl rfl dX3_brought_39 ?_
    refine v_iadd C dX3_brought_42 ?_
    refine v_min C mx_X3_108 (Nat.le_of_ble_eq_true rfl) ((Nat.le_of_ble_eq_true rfl)) (Nat.le_of_ble_eq_true rfl) (Nat.le_of_ble_eq_true rfl) dX3_brought_43 ?_
    refine v_istore C [(6, .int (imin (I o 7) (v2 + q5))), (5, .int v2), (0, va_rf (some o)), (1, .int x1), (2, .int x2), (3, .int x3), (4, .int x4)] dX3_brought_46 (Nat.le_of_ble_eq_true rfl) rfl ?_
    refine v_iload C 0 dX3_brought_48 rfl ?_
    refine v_aload_n (r := (some o)) C 2 dX3_brought_50 rfl ?_
    refine v_getR (r := (some o)) C fa_X3_24 rfl rfl ho dX3_brought_51 ?_
    refine v_iload_n C 3 dX3_brought_54 rfl ?_
    refine v_iconst C dX3_brought_55 k_iconst_1 ?_
    refine v_iadd C dX3_brought_56 ?_
    refine v_iload_n C 5 dX3_brought_57 rfl ?_
    refine v_aload_n (r := (some o)) C 2 dX3_brought_58 rfl ?_
    refine v_getI (r := (some o)) C fa_X3_38 rfl rfl ho dX3_brought_59 ?_
    obtain ⟨a7, h8, E⟩ := bnd E
    obtain ⟨hra7, hoa7⟩ := ob_is h8
    obtain ⟨q9, h10, E⟩ := bnd E
    refine v_callV (r := (R o 4)) (As := [.int (x1 + 1), .int x3, .int (I o 6)]) (rv := (some (.int q9))) (st := [.int (imin (I o 7) (v2 + q5))]) (st1 := [.int q9, .int (imin (I o 7) (v2 + q5))]) (ce1 := 0) (sl1 := 0) C cv_X3_102 (c_X9_drunkAlong (x1 := (x1 + 1)) (x2 := x3) (x3 := (I o 6)) hoa7 h10) hra7 hoa7 rfl rfl ⟨rfl, rfl, Nat.le_of_ble_eq_true rfl, Nat.le_of_ble_eq_true rfl⟩ ⟨Nat.le_of_ble_eq_true rfl, Nat.le_of_ble_eq_true rfl⟩ (Nat.le_of_ble_eq_true rfl) rfl rfl rfl dX3_brought_62 ?_
    refine v_isub C dX3_brought_65 ?_
    obtain rfl := Option.some.inj E
    exact v_iret C rfl dX3_brought_66
  · refine v_iconst C dX3_brought_25 k_iconst_m1 ?_
    obtain rfl := Option.some.inj E
    exact v_iret C rfl dX3_brought_26
set_option maxHeartbeats 4000000 in
theorem c_X3_brought {n : Nat} {K : Sh} {I : Im} {J : Jm} {R : Rf} {o : Nat} {x1 : Int32} {x2 : Int32} {x3 : Int32} {x4 : Int32} (ho : (K o).1 = 4) {res : Int32} (E : f_X3_brought K I R o x1 x2 x3 x4 = some res) : Met l yX3_brought (Cond.code yX3_brought cX3_brought 7 (some .int) :: tb) rX3_brought (PX D cA bs Z [.ref o, .int x1, .int x2, .int x3, .int x4] K n I J R) (QX D cA bs Z (some (.int res)) K n I J R) 0 0 (fun q => bs ≤ q) := by
  refine met_of (lv1 := [(0, va_rf (some o)), (1, .int x1), (2, .int x2), (3, .int x3), (4, .int x4)]) pn_X3 (by exact Nat.le_of_ble_eq_true rfl) (by rfl) ?_
  intro p e s m args below meth c C hn
  exact v_sub [0, 1, 2, 3, 4] [(0, va_rf (some o)), (1, .int x1), (2, .int x2), (3, .int x3), (4, .int x4)] rfl (w_X3_brought_0 C ho _ _ _ _ _ E)
set_option maxHeartbeats 4000000 in
theorem w_X3_spread_15 (C : Cx D cA bs Z p s m args meth c cX3_spread RX3 7 none) {o : Nat} {K : Sh} {n : Nat} {J : Jm} {R : Rf} (ho : (K o).1 = 4) (res : Im)  : ∀ (k : Nat), ∀ (x1 : Int32) (x2 : Int32) (x3 : Int32) (x4 : Int32) (I : Im), f_X3_spread_15 K R o k x1 x2 x3 x4 I = some res → VW D cA bs Z p l e rX3_spread s m args below meth c 7 [(0, va_rf (some o)), (1, .int x1), (2, .int x2), (3, .int x3), (4, .int x4)] K n I J R 0 0 (MQ below (QX D cA bs Z none K n res J R) args s 0 0 (fun q => bs ≤ q)) 15 [] := by
  intro k
  induction k with
  | zero =>
    intro x1 x2 x3 x4 I E
    have E : (none : Option (Im)) = some res := E
    cases E
  | succ k ih =>
    intro x1 x2 x3 x4 I E
    unfold f_X3_spread_15 at E
    refine v_iload C 4 dX3_spread_15 rfl ?_
    refine v_bipush C dX3_spread_17 k_bipush_6 ?_
    refine v_icmp_gt C 99 E dX3_spread_19 rfl (fun c13 E => ?_) (fun c13 E => ?_)
    · obtain rfl := Option.some.inj E
      exact v_vret C rfl dX3_spread_99
    · refine v_iload_n C 3 dX3_spread_22 rfl ?_
      refine v_if_lt C 99 E dX3_spread_23 rfl (fun c12 E => ?_) (fun c12 E => ?_)
      · obtain rfl := Option.some.inj E
        exact v_vret C rfl dX3_spread_99
      · refine v_aload_n (r := (some o)) C 0 dX3_spread_26 rfl ?_
        refine v_iload_n C 1 dX3_spread_27 rfl ?_
        refine v_iload_n C 2 dX3_spread_28 rfl ?_
        refine v_iload C 4 dX3_spread_29 rfl ?_
        obtain ⟨q1, h2, E⟩ := bnd E
        refine v_callV (r := (some o)) (As := [.int x1, .int x2, .int x4]) (rv := (some (.int q1))) (st := []) (st1 := [.int q1]) (ce1 := 0) (sl1 := 0) C cv_X3_78 (c_X3_leaving (x1 := x1) (x2 := x2) (x3 := x4) ho h2) rfl ho rfl rfl ⟨rfl, rfl, Nat.le_of_ble_eq_true rfl, Nat.le_of_ble_eq_true rfl⟩ ⟨Nat.le_of_ble_eq_true rfl, Nat.le_of_ble_eq_true rfl⟩ (Nat.le_of_ble_eq_true rfl) rfl rfl rfl dX3_spread_31 ?_
        refine v_istore C [(5, .int q1), (0, va_rf (some o)), (1, .int x1), (2, .int x2), (3, .int x3), (4, .int x4)] dX3_spread_34 (Nat.le_of_ble_eq_true rfl) rfl ?_
        refine v_iload_n C 2 dX3_spread_36 rfl ?_
        refine v_iconst C dX3_spread_37 k_iconst_1 ?_
        refine v_iadd C dX3_spread_38 ?_
        refine v_bipush C dX3_spread_39 k_bipush_31 ?_
        refine v_imul C dX3_spread_41 ?_
        refine v_aload_n (r := (some o)) C 1 dX3_spread_42 rfl ?_
        refine v_iload_n C 2 dX3_spread_43 rfl ?_
        refine v_iload C 0 dX3_spread_44 rfl ?_
        obtain ⟨q3, h4, E⟩ := bnd E
        refine v_callV (r := (some o)) (As := [.int x1, .int q1]) (rv := (some (.int q3))) (st := [.int ((x1 + 1) * 31)]) (st1 := [.int q3, .int ((x1 + 1) * 31)]) (ce1 := 0) (sl1 := 0) C cv_X3_86 (c_X3_nextOf (x1 := x1) (x2 := q1) ho h4) rfl ho rfl rfl ⟨rfl, rfl, Nat.le_of_ble_eq_true rfl, Nat.le_of_ble_eq_true rfl⟩ ⟨Nat.le_of_ble_eq_true rfl, Nat.le_of_ble_eq_true rfl⟩ (Nat.le_of_ble_eq_true rfl) rfl rfl rfl dX3_spread_46 ?_
        refine v_iadd C dX3_spread_49 ?_
        refine v_istore C [(6, .int (((x1 + 1) * 31) + q3)), (5, .int q1), (0, va_rf (some o)), (1, .int x1), (2, .int x2), (3, .int x3), (4, .int x4)] dX3_spread_50 (Nat.le_of_ble_eq_true rfl) rfl ?_
        refine v_iload C 0 dX3_spread_52 rfl ?_
        refine v_if_lt C 93 E dX3_spread_54 rfl (fun c11 E => ?_) (fun c11 E => ?_)
        · refine v_iinc (v := x4 + 1) C 6 [(4, .int (x4 + 1)), (6, .int (((x1 + 1) * 31) + q3)), (5, .int q1), (0, va_rf (some o)), (1, .int x1), (2, .int x2), (3, .int x3)] dX3_spread_93 rfl (k_inc_1 _) (Nat.le_of_ble_eq_true rfl) rfl ?_
          refine v_goto C 15 dX3_spread_96 rfl ?_
          exact v_sub [3, 4, 5, 6, 0] [(0, va_rf (some o)), (1, .int x1), (2, .int x2), (3, .int x3), (4, .int (x4 + 1))] rfl (ih _ _ _ _ _ E)
        · refine v_iload C 0 dX3_spread_57 rfl ?_
          refine v_aload_n (r := (some o)) C 2 dX3_spread_59 rfl ?_
          refine v_getR (r := (some o)) C fa_X3_18 rfl rfl ho dX3_spread_60 ?_
          refine v_alen (r := (R o 2)) C E dX3_spread_63 (fun v5 _ E => ?_)
          refine v_icmp_ge C 93 E dX3_spread_64 rfl (fun c10 E => ?_) (fun c10 E => ?_)
          · refine v_iinc (v := x4 + 1) C 6 [(4, .int (x4 + 1)), (6, .int (((x1 + 1) * 31) + q3)), (5, .int q1), (0, va_rf (some o)), (1, .int x1), (2, .int x2), (3, .int x3)] dX3_spread_93 rfl (k_inc_1 _) (Nat.le_of_ble_eq_true rfl) rfl ?_
            refine v_goto C 15 dX3_spread_96 rfl ?_
            exact v_sub [3, 4, 5, 6, 0] [(0, va_rf (some o)), (1, .int x1), (2, .int x2), (3, .int x3), (4, .int (x4 + 1))] rfl (ih _ _ _ _ _ E)
          · refine v_aload_n (r := (some o)) C 2 dX3_spread_67 rfl ?_
            refine v_getR (r := (some o)) C fa_X3_18 rfl rfl ho dX3_spread_68 ?_
            refine v_iload C 0 dX3_spread_71 rfl ?_
            refine v_aload_n (r := (some o)) C 2 dX3_spread_73 rfl ?_
            refine v_getR (r := (some o)) C fa_X3_18 rfl rfl ho dX3_spread_74 ?_
            refine v_iload C 0 dX3_spread_77 rfl ?_
            refine v_iald (r := (R o 2)) C E dX3_spread_79 (fun v6 _ E => ?_)
            refine v_aload_n (r := (some o)) C 2 dX3_spread_80 rfl ?_
            refine v_iload_n C 3 dX3_spread_81 rfl ?_
            refine v_iload_n C 4 dX3_spread_82 rfl ?_
            refine v_iload C 1 dX3_spread_83 rfl ?_
            refine v_iload_n C 5 dX3_spread_85 rfl ?_
            obtain ⟨q7, h8, E⟩ := bnd E
            refine v_callV (r := (some o)) (As := [.int x1, .int x2, .int q1, .int x3]) (rv := (some (.int q7))) (st := [.int v6, .int (((x1 + 1) * 31) + q3), va_rf (R o 2)]) (st1 := [.int q7, .int v6, .int (((x1 + 1) * 31) + q3), va_rf (R o 2)]) (ce1 := 0) (sl1 := 0) C cv_X3_82 (c_X3_brought (x1 := x1) (x2 := x2) (x3 := q1) (x4 := x3) ho h8) rfl ho rfl rfl ⟨rfl, rfl, Nat.le_of_ble_eq_true rfl, Nat.le_of_ble_eq_true rfl⟩ ⟨Nat.le_of_ble_eq_true rfl, Nat.le_of_ble_eq_true rfl⟩ (by simp only [List.map_cons, List.map_nil, List.sum_cons, List.sum_nil, rf_cat]; exact Nat.le_of_ble_eq_true rfl) rfl rfl rfl dX3_spread_86 ?_
            refine v_max C mx_X3_97 (Nat.le_of_ble_eq_true rfl) ((by simp only [List.map_cons, List.map_nil, List.sum_cons, List.sum_nil, rf_cat]; exact Nat.le_of_ble_eq_true rfl)) (Nat.le_of_ble_eq_true rfl) (Nat.le_of_ble_eq_true rfl) dX3_spread_89 ?_
            refine v_iast (r := (R o 2)) C E dX3_spread_92 (fun I9 _ E => ?_)
            refine v_iinc (v := x4 + 1) C 6 [(4, .int (x4 + 1)), (6, .int (((x1 + 1) * 31) + q3)), (5, .int q1), (0, va_rf (some o)), (1, .int x1), (2, .int x2), (3, .int x3)] dX3_spread_93 rfl (k_inc_1 _) (Nat.le_of_ble_eq_true rfl) rfl ?_
            refine v_goto C 15 dX3_spread_96 rfl ?_
            exact v_sub [3, 4, 5, 6, 0] [(0, va_rf (some o)), (1, .int x1), (2, .int x2), (3, .int x3), (4, .int (x4 + 1))] rfl (ih _ _ _ _ _ E)
set_option maxHeartbeats 4000000 in
theorem w_X3_spread_0 (C : Cx D cA bs Z p s m args meth c cX3_spread RX3 7 none) {o : Nat} {K : Sh} {n : Nat} {J : Jm} {R : Rf} (ho : (K o).1 = 4) (res : Im) (x1 : Int32) (x2 : Int32) (I : Im) (E : f_X3_spread K R o x1 x2 I = some res) : VW D cA bs Z p l e rX3_spread s m args below meth c 7 [(0, va_rf (some o)), (1, .int x1), (2, .int x2)] K n I J R 0 0 (MQ below (QX D cA bs Z none K n res J R) args s 0 0 (fun q => bs ≤ q)) 0 [] := by
  unfold f_X3_spread at E
  refine v_aload_n (r := (some o)) C 0 dX3_spread_0 rfl ?_
  refine v_getR (r := (some o)) C fa_X3_18 rfl rfl ho dX3_spread_1 ?_
  refine v_iload_n C 1 dX3_spread_4 rfl ?_
  refine v_bipush C dX3_spread_5 k_bipush_31 ?_
  refine v_imul C dX3_spread_7 ?_
  refine v_iload_n C 2 dX3_spread_8 rfl ?_
  refine v_iadd C dX3_spread_9 ?_
  refine v_iald (r := (R o 2)) C E dX3_spread_10 (fun v14 _ E => ?_)
  refine v_istore_n C [(3, .int v14), (0, va_rf (some o)), (1, .int x1), (2, .int x2)] dX3_spread_11 (Nat.le_of_ble_eq_true rfl) rfl ?_
  refine v_iconst C dX3_spread_12 k_iconst_0 ?_
  refine v_istore C [(4, .int 0), (3, .int v14), (0, va_rf (some o)), (1, .int x1), (2, .int x2)] dX3_spread_13 (Nat.le_of_ble_eq_true rfl) rfl ?_
  exact v_sub [2, 3, 4, 1, 0] [(0, va_rf (some o)), (1, .int x1), (2, .int x2), (3, .int v14), (4, .int 0)] rfl (w_X3_spread_15 C ho res  _ _ _ _ _ _ E)
set_option maxHeartbeats 4000000 in
theorem c_X3_spread {n : Nat} {K : Sh} {I : Im} {J : Jm} {R : Rf} {o : Nat} {x1 : Int32} {x2 : Int32} (ho : (K o).1 = 4) {res : Im} (E : f_X3_spread K R o x1 x2 I = some res) : Met l yX3_spread (Cond.code yX3_spread cX3_spread 7 none :: tb) rX3_spread (PX D cA bs Z [.ref o, .int x1, .int x2] K n I J R) (QX D cA bs Z none K n res J R) 0 0 (fun q => bs ≤ q) := by
  refine met_of (lv1 := [(0, va_rf (some o)), (1, .int x1), (2, .int x2)]) pn_X3 (by exact Nat.le_of_ble_eq_true rfl) (by rfl) ?_
  intro p e s m args below meth c C hn
  exact v_sub [0, 1, 2] [(0, va_rf (some o)), (1, .int x1), (2, .int x2)] rfl (w_X3_spread_0 C ho _ _ _ _ E)
set_option maxHeartbeats 4000000 in
theorem w_X3_earliest_116 (C : Cx D cA bs Z p s m args meth c cX3_earliest RX3 6 (some .int)) {o : Nat} {K : Sh} {n : Nat} {J : Jm} (ho : (K o).1 = 4) (res : Int32 × Im × Rf)  : ∀ (k : Nat), ∀ (x4 : Int32) (I : Im) (R : Rf), f_X3_earliest_116 K o k x4 I R = some res → VW D cA bs Z p l e rX3_earliest s m args below meth c 6 [(0, va_rf (some o)), (4, .int x4)] K n I J R 0 0 (MQ below (QX D cA bs Z (some (.int res.1)) K n res.2.1 J res.2.2) args s 0 0 (fun q => bs ≤ q)) 116 [] := by
  intro k
  induction k with
  | zero =>
    intro x4 I R E
    have E : (none : Option (Int32 × Im × Rf)) = some res := E
    cases E
  | succ k ih =>
    intro x4 I R E
    unfold f_X3_earliest_116 at E
    refine v_iload C 1 dX3_earliest_116 rfl ?_
    refine v_if_lt C 167 E dX3_earliest_118 rfl (fun c7 E => ?_) (fun c7 E => ?_)
    · refine v_aload_n (r := (some o)) C 0 dX3_earliest_167 rfl ?_
      refine v_getI (r := (some o)) C fa_X3_66 rfl rfl ho dX3_earliest_168 ?_
      obtain rfl := Option.some.inj E
      exact v_iret C rfl dX3_earliest_171
    · refine v_aload_n (r := (some o)) C 0 dX3_earliest_121 rfl ?_
      refine v_getR (r := (some o)) C fa_X3_18 rfl rfl ho dX3_earliest_122 ?_
      refine v_aload_n (r := (some o)) C 0 dX3_earliest_125 rfl ?_
      refine v_getR (r := (some o)) C fa_X3_24 rfl rfl ho dX3_earliest_126 ?_
      obtain ⟨a1, h2, E⟩ := bnd E
      obtain ⟨hra1, hoa1⟩ := ob_is h2
      refine v_getI (r := (R o 4)) C fa_X3_60 rfl hra1 hoa1 dX3_earliest_129 ?_
      refine v_bipush C dX3_earliest_132 k_bipush_31 ?_
      refine v_imul C dX3_earliest_134 ?_
      refine v_iload C 1 dX3_earliest_135 rfl ?_
      refine v_iadd C dX3_earliest_137 ?_
      refine v_iald (r := (R o 2)) C E dX3_earliest_138 (fun v3 _ E => ?_)
      refine v_if_lt C 161 E dX3_earliest_139 rfl (fun c6 E => ?_) (fun c6 E => ?_)
      · refine v_iinc (v := x4 - 1) C 1 [(4, .int (x4 - 1)), (0, va_rf (some o))] dX3_earliest_161 rfl (k_inc_m1 _) (Nat.le_of_ble_eq_true rfl) rfl ?_
        refine v_goto C 116 dX3_earliest_164 rfl ?_
        exact v_sub [1, 0] [(0, va_rf (some o)), (4, .int (x4 - 1))] rfl (ih _ _ _ E)
      · refine v_aload_n (r := (some o)) C 0 dX3_earliest_142 rfl ?_
        refine v_aload_n (r := (some o)) C 0 dX3_earliest_143 rfl ?_
        refine v_getR (r := (some o)) C fa_X3_15 rfl rfl ho dX3_earliest_144 ?_
        refine v_aload_n (r := (some o)) C 0 dX3_earliest_147 rfl ?_
        refine v_getR (r := (some o)) C fa_X3_24 rfl rfl ho dX3_earliest_148 ?_
        refine v_getI (r := (R o 4)) C fa_X3_60 rfl hra1 hoa1 dX3_earliest_151 ?_
        refine v_iald (r := (R o 1)) C E dX3_earliest_154 (fun v4 _ E => ?_)
        refine v_iload C 1 dX3_earliest_155 rfl ?_
        refine v_iadd C dX3_earliest_157 ?_
        refine v_putI (r := (some o)) C fa_X3_66 rfl E rfl ho ⟨rfl, rfl⟩ dX3_earliest_158 (fun I5 _ E => ?_)
        refine v_iinc (v := x4 - 1) C 1 [(4, .int (x4 - 1)), (0, va_rf (some o))] dX3_earliest_161 rfl (k_inc_m1 _) (Nat.le_of_ble_eq_true rfl) rfl ?_
        refine v_goto C 116 dX3_earliest_164 rfl ?_
        exact v_sub [1, 0] [(0, va_rf (some o)), (4, .int (x4 - 1))] rfl (ih _ _ _ E)
set_option maxHeartbeats 4000000 in
theorem w_X3_earliest_76 (C : Cx D cA bs Z p s m args meth c cX3_earliest RX3 6 (some .int)) {o : Nat} {K : Sh} {n : Nat} {J : Jm} (ho : (K o).1 = 4) (res : Int32 × Im × Rf) (r61 : Int32 → Im → Rf → Option (Int32 × Im × Rf)) (hr61 : ∀ (x4 : Int32) (I : Im) (R : Rf), r61 x4 I R = some res → VW D cA bs Z p l e rX3_earliest s m args below meth c 6 [(0, va_rf (some o)), (4, .int x4)] K n I J R 0 0 (MQ below (QX D cA bs Z (some (.int res.1)) K n res.2.1 J res.2.2) args s 0 0 (fun q => bs ≤ q)) 61 [])  : ∀ (k : Nat), ∀ (x4 : Int32) (x5 : Int32) (I : Im) (R : Rf), f_X3_earliest_76 K o r61 k x4 x5 I R = some res → VW D cA bs Z p l e rX3_earliest s m args below meth c 6 [(0, va_rf (some o)), (4, .int x4), (5, .int x5)] K n I J R 0 0 (MQ below (QX D cA bs Z (some (.int res.1)) K n res.2.1 J res.2.2) args s 0 0 (fun q => bs ≤ q)) 76 [] := by
  intro k
  induction k with
  | zero =>
    intro x4 x5 I R E
    have E : (none : Option (Int32 × Im × Rf)) = some res := E
    cases E
  | succ k ih =>
    intro x4 x5 I R E
    unfold f_X3_earliest_76 at E
    refine v_iload C 2 dX3_earliest_76 rfl ?_
    refine v_iload C 1 dX3_earliest_78 rfl ?_
    refine v_bipush C dX3_earliest_80 k_bipush_6 ?_
    refine v_imul C dX3_earliest_82 ?_
    refine v_icmp_gt C 100 E dX3_earliest_83 rfl (fun c10 E => ?_) (fun c10 E => ?_)
    · refine v_iinc (v := x4 + 1) C 1 [(4, .int (x4 + 1)), (0, va_rf (some o)), (5, .int x5)] dX3_earliest_100 rfl (k_inc_1 _) (Nat.le_of_ble_eq_true rfl) rfl ?_
      refine v_goto C 61 dX3_earliest_103 rfl ?_
      exact v_sub [1, 0] [(0, va_rf (some o)), (4, .int (x4 + 1))] rfl (hr61 _ _ _ E)
    · refine v_aload_n (r := (some o)) C 0 dX3_earliest_86 rfl ?_
      refine v_iload C 1 dX3_earliest_87 rfl ?_
      refine v_iload C 2 dX3_earliest_89 rfl ?_
      obtain ⟨q8, h9, E⟩ := bnd E
      refine v_callV (r := (some o)) (As := [.int x4, .int x5]) (rv := none) (st := []) (st1 := []) (ce1 := 0) (sl1 := 0) C cv_X3_62 (c_X3_spread (x1 := x4) (x2 := x5) ho h9) rfl ho rfl rfl ⟨rfl, rfl, Nat.le_of_ble_eq_true rfl, Nat.le_of_ble_eq_true rfl⟩ ⟨Nat.le_of_ble_eq_true rfl, Nat.le_of_ble_eq_true rfl⟩ (Nat.le_of_ble_eq_true rfl) rfl rfl rfl dX3_earliest_91 ?_
      refine v_iinc (v := x5 + 1) C 2 [(5, .int (x5 + 1)), (0, va_rf (some o)), (4, .int x4)] dX3_earliest_94 rfl (k_inc_1 _) (Nat.le_of_ble_eq_true rfl) rfl ?_
      refine v_goto C 76 dX3_earliest_97 rfl ?_
      exact v_sub [1, 2, 0] [(0, va_rf (some o)), (4, .int x4), (5, .int (x5 + 1))] rfl (ih _ _ _ _ E)
set_option maxHeartbeats 4000000 in
theorem w_X3_earliest_61 (C : Cx D cA bs Z p s m args meth c cX3_earliest RX3 6 (some .int)) {o : Nat} {K : Sh} {n : Nat} {J : Jm} (ho : (K o).1 = 4) (res : Int32 × Im × Rf)  : ∀ (k : Nat), ∀ (x4 : Int32) (I : Im) (R : Rf), f_X3_earliest_61 K o k x4 I R = some res → VW D cA bs Z p l e rX3_earliest s m args below meth c 6 [(0, va_rf (some o)), (4, .int x4)] K n I J R 0 0 (MQ below (QX D cA bs Z (some (.int res.1)) K n res.2.1 J res.2.2) args s 0 0 (fun q => bs ≤ q)) 61 [] := by
  intro k
  induction k with
  | zero =>
    intro x4 I R E
    have E : (none : Option (Int32 × Im × Rf)) = some res := E
    cases E
  | succ k ih =>
    intro x4 I R E
    unfold f_X3_earliest_61 at E
    refine v_iload C 1 dX3_earliest_61 rfl ?_
    refine v_aload_n (r := (some o)) C 0 dX3_earliest_63 rfl ?_
    refine v_getR (r := (some o)) C fa_X3_24 rfl rfl ho dX3_earliest_64 ?_
    obtain ⟨a11, h12, E⟩ := bnd E
    obtain ⟨hra11, hoa11⟩ := ob_is h12
    refine v_getI (r := (R o 4)) C fa_X3_60 rfl hra11 hoa11 dX3_earliest_67 ?_
    refine v_icmp_ge C 106 E dX3_earliest_70 rfl (fun c14 E => ?_) (fun c14 E => ?_)
    · refine v_aload_n (r := (some o)) C 0 dX3_earliest_106 rfl ?_
      refine v_bipush C dX3_earliest_107 k_bipush_m5 ?_
      refine v_putI (r := (some o)) C fa_X3_66 rfl E rfl ho ⟨rfl, rfl⟩ dX3_earliest_109 (fun I13 _ E => ?_)
      refine v_bipush C dX3_earliest_112 k_bipush_30 ?_
      refine v_istore C [(4, .int 30), (0, va_rf (some o))] dX3_earliest_114 (Nat.le_of_ble_eq_true rfl) rfl ?_
      exact v_sub [1, 0] [(0, va_rf (some o)), (4, .int 30)] rfl (w_X3_earliest_116 C ho res  _ _ _ _ E)
    · refine v_iconst C dX3_earliest_73 k_iconst_0 ?_
      refine v_istore C [(5, .int 0), (0, va_rf (some o)), (4, .int x4)] dX3_earliest_74 (Nat.le_of_ble_eq_true rfl) rfl ?_
      exact v_sub [1, 2, 0] [(0, va_rf (some o)), (4, .int x4), (5, .int 0)] rfl (w_X3_earliest_76 C ho res _ ih _ _ _ _ _ E)
set_option maxHeartbeats 4000000 in
theorem w_X3_earliest_0 (C : Cx D cA bs Z p s m args meth c cX3_earliest RX3 6 (some .int)) {o : Nat} {K : Sh} {n : Nat} {J : Jm} (ho : (K o).1 = 4) (res : Int32 × Im × Rf) (x1 : Option Nat) (x2 : Option Nat) (x3 : Option Nat) (I : Im) (R : Rf) (E : f_X3_earliest K o x1 x2 x3 I R = some res) : VW D cA bs Z p l e rX3_earliest s m args below meth c 6 [(0, va_rf (some o)), (1, va_rf x1), (2, va_rf x2), (3, va_rf x3)] K n I J R 0 0 (MQ below (QX D cA bs Z (some (.int res.1)) K n res.2.1 J res.2.2) args s 0 0 (fun q => bs ≤ q)) 0 [] := by
  unfold f_X3_earliest at E
  refine v_aload_n (r := (some o)) C 0 dX3_earliest_0 rfl ?_
  refine v_aload_n (r := x1) C 1 dX3_earliest_1 rfl ?_
  refine v_putR (r := (some o)) (q := x1) C fa_X3_24 rfl E rfl ho dX3_earliest_2 (fun R15 _ E => ?_)
  refine v_aload_n (r := (some o)) C 0 dX3_earliest_5 rfl ?_
  refine v_aload_n (r := x2) C 2 dX3_earliest_6 rfl ?_
  refine v_putR (r := (some o)) (q := x2) C fa_X3_28 rfl E rfl ho dX3_earliest_7 (fun R16 _ E => ?_)
  refine v_aload_n (r := (some o)) C 0 dX3_earliest_10 rfl ?_
  refine v_aload_n (r := x3) C 3 dX3_earliest_11 rfl ?_
  obtain ⟨a17, h18, E⟩ := bnd E
  obtain ⟨hra17, hoa17⟩ := ob_is h18
  refine v_getI (r := x3) C fa_X3_32 rfl hra17 hoa17 dX3_earliest_12 ?_
  refine v_putI (r := (some o)) C fa_X3_38 rfl E rfl ho ⟨rfl, rfl⟩ dX3_earliest_15 (fun I19 _ E => ?_)
  refine v_aload_n (r := (some o)) C 0 dX3_earliest_18 rfl ?_
  refine v_aload_n (r := (some o)) C 0 dX3_earliest_19 rfl ?_
  refine v_getR (r := (some o)) C fa_X3_24 rfl rfl ho dX3_earliest_20 ?_
  obtain ⟨a20, h21, E⟩ := bnd E
  obtain ⟨hra20, hoa20⟩ := ob_is h21
  refine v_getI (r := (R16 o 4)) C fa_X3_39 rfl hra20 hoa20 dX3_earliest_23 ?_
  refine v_aload_n (r := (some o)) C 0 dX3_earliest_26 rfl ?_
  refine v_getI (r := (some o)) C fa_X3_38 rfl rfl ho dX3_earliest_27 ?_
  refine v_imul C dX3_earliest_30 ?_
  refine v_putI (r := (some o)) C fa_X3_44 rfl E rfl ho ⟨rfl, rfl⟩ dX3_earliest_31 (fun I22 _ E => ?_)
  refine v_aload_n (r := (some o)) C 0 dX3_earliest_34 rfl ?_
  refine v_aload_n (r := (some o)) C 0 dX3_earliest_35 rfl ?_
  refine v_getR (r := (some o)) C fa_X3_24 rfl rfl ho dX3_earliest_36 ?_
  refine v_getI (r := (R16 o 4)) C fa_X3_47 rfl hra20 hoa20 dX3_earliest_39 ?_
  refine v_aload_n (r := (some o)) C 0 dX3_earliest_42 rfl ?_
  refine v_getI (r := (some o)) C fa_X3_38 rfl rfl ho dX3_earliest_43 ?_
  refine v_imul C dX3_earliest_46 ?_
  refine v_putI (r := (some o)) C fa_X3_50 rfl E rfl ho ⟨rfl, rfl⟩ dX3_earliest_47 (fun I23 _ E => ?_)
  refine v_aload_n (r := (some o)) C 0 dX3_earliest_50 rfl ?_
  refine v_aload_n (r := x3) C 3 dX3_earliest_51 rfl ?_
  refine v_getI (r := x3) C fa_X3_53 rfl hra17 hoa17 dX3_earliest_52 ?_
  obtain ⟨q24, h25, E⟩ := bnd E
  refine v_callV (r := (some o)) (As := [.int (I23 a17 1)]) (rv := none) (st := []) (st1 := []) (ce1 := 0) (sl1 := 0) C cv_X3_56 (c_X3_begin (x1 := (I23 a17 1)) ho h25) rfl ho rfl rfl ⟨rfl, rfl, Nat.le_of_ble_eq_true rfl, Nat.le_of_ble_eq_true rfl⟩ ⟨Nat.le_of_ble_eq_true rfl, Nat.le_of_ble_eq_true rfl⟩ (Nat.le_of_ble_eq_true rfl) rfl rfl rfl dX3_earliest_55 ?_
  refine v_iconst C dX3_earliest_58 k_iconst_0 ?_
  refine v_istore C [(4, .int 0), (0, va_rf (some o)), (1, va_rf x1), (2, va_rf x2), (3, va_rf x3)] dX3_earliest_59 (Nat.le_of_ble_eq_true rfl) (by generalize x3 = rr; cases rr <;> rfl) ?_
  exact v_sub [1, 0] [(0, va_rf (some o)), (4, .int 0)] rfl (w_X3_earliest_61 C ho res  _ _ _ _ E)
set_option maxHeartbeats 4000000 in
theorem c_X3_earliest {n : Nat} {K : Sh} {I : Im} {J : Jm} {R : Rf} {o : Nat} {x1 : Option Nat} {x2 : Option Nat} {x3 : Option Nat} (ho : (K o).1 = 4) {res : Int32 × Im × Rf} (E : f_X3_earliest K o x1 x2 x3 I R = some res) : Met l yX3_earliest (Cond.code yX3_earliest cX3_earliest 6 (some .int) :: tb) rX3_earliest (PX D cA bs Z [.ref o, va_rf x1, va_rf x2, va_rf x3] K n I J R) (QX D cA bs Z (some (.int res.1)) K n res.2.1 J res.2.2) 0 0 (fun q => bs ≤ q) := by
  refine met_of (lv1 := [(0, va_rf (some o)), (1, va_rf x1), (2, va_rf x2), (3, va_rf x3)]) pn_X3 (by cases x1 <;> cases x2 <;> cases x3 <;> exact Nat.le_of_ble_eq_true rfl) (by cases x1 <;> cases x2 <;> cases x3 <;> rfl) ?_
  intro p e s m args below meth c C hn
  exact v_sub [0, 1, 2, 3] [(0, va_rf (some o)), (1, va_rf x1), (2, va_rf x2), (3, va_rf x3)] rfl (w_X3_earliest_0 C ho _ _ _ _ _ _ E)
set_option maxHeartbeats 4000000 in
theorem w_X3_leastNext_0 (C : Cx D cA bs Z p s m args meth c cX3_leastNext RX3 4 (some .int)) {o : Nat} {K : Sh} {n : Nat} {I : Im} {J : Jm} {R : Rf} (ho : (K o).1 = 4) (res : Int32) (x1 : Int32) (x2 : Int32) (E : f_X3_leastNext K I R o x1 x2 = some res) : VW D cA bs Z p l e rX3_leastNext s m args below meth c 4 [(0, va_rf (some o)), (1, .int x1), (2, .int x2)] K n I J R 0 0 (MQ below (QX D cA bs Z (some (.int res)) K n I J R) args s 0 0 (fun q => bs ≤ q)) 0 [] := by
  unfold f_X3_leastNext at E
  refine v_iload_n C 1 dX3_leastNext_0 rfl ?_
  refine v_iconst C dX3_leastNext_1 k_iconst_1 ?_
  refine v_iadd C dX3_leastNext_2 ?_
  refine v_bipush C dX3_leastNext_3 k_bipush_31 ?_
  refine v_imul C dX3_leastNext_5 ?_
  refine v_aload_n (r := (some o)) C 0 dX3_leastNext_6 rfl ?_
  refine v_iload_n C 1 dX3_leastNext_7 rfl ?_
  refine v_iload_n C 2 dX3_leastNext_8 rfl ?_
  obtain ⟨q1, h2, E⟩ := bnd E
  refine v_callV (r := (some o)) (As := [.int x1, .int x2]) (rv := (some (.int q1))) (st := [.int ((x1 + 1) * 31)]) (st1 := [.int q1, .int ((x1 + 1) * 31)]) (ce1 := 0) (sl1 := 0) C cv_X3_86 (c_X3_nextOf (x1 := x1) (x2 := x2) ho h2) rfl ho rfl rfl ⟨rfl, rfl, Nat.le_of_ble_eq_true rfl, Nat.le_of_ble_eq_true rfl⟩ ⟨Nat.le_of_ble_eq_true rfl, Nat.le_of_ble_eq_true rfl⟩ (Nat.le_of_ble_eq_true rfl) rfl rfl rfl dX3_leastNext_9 ?_
  refine v_iadd C dX3_leastNext_12 ?_
  refine v_istore_n C [(3, .int (((x1 + 1) * 31) + q1)), (0, va_rf (some o)), (1, .int x1), (2, .int x2)] dX3_leastNext_13 (Nat.le_of_ble_eq_true rfl) rfl ?_
  refine v_iload_n C 0 dX3_leastNext_14 rfl ?_
  refine v_if_lt C 36 E dX3_leastNext_15 rfl (fun c6 E => ?_) (fun c6 E => ?_)
  · refine v_ldc C ct_X3_69 dX3_leastNext_36 ?_
    obtain rfl := Option.some.inj E
    exact v_iret C rfl dX3_leastNext_38
  · refine v_iload_n C 0 dX3_leastNext_18 rfl ?_
    refine v_aload_n (r := (some o)) C 1 dX3_leastNext_19 rfl ?_
    refine v_getR (r := (some o)) C fa_X3_21 rfl rfl ho dX3_leastNext_20 ?_
    refine v_alen (r := (R o 3)) C E dX3_leastNext_23 (fun v3 _ E => ?_)
    refine v_icmp_ge C 36 E dX3_leastNext_24 rfl (fun c5 E => ?_) (fun c5 E => ?_)
    · refine v_ldc C ct_X3_69 dX3_leastNext_36 ?_
      obtain rfl := Option.some.inj E
      exact v_iret C rfl dX3_leastNext_38
    · refine v_aload_n (r := (some o)) C 1 dX3_leastNext_27 rfl ?_
      refine v_getR (r := (some o)) C fa_X3_21 rfl rfl ho dX3_leastNext_28 ?_
      refine v_iload_n C 0 dX3_leastNext_31 rfl ?_
      refine v_iald (r := (R o 3)) C E dX3_leastNext_32 (fun v4 _ E => ?_)
      refine v_goto C 38 dX3_leastNext_33 rfl ?_
      obtain rfl := Option.some.inj E
      exact v_iret C rfl dX3_leastNext_38
set_option maxHeartbeats 4000000 in
theorem c_X3_leastNext {n : Nat} {K : Sh} {I : Im} {J : Jm} {R : Rf} {o : Nat} {x1 : Int32} {x2 : Int32} (ho : (K o).1 = 4) {res : Int32} (E : f_X3_leastNext K I R o x1 x2 = some res) : Met l yX3_leastNext (Cond.code yX3_leastNext cX3_leastNext 4 (some .int) :: tb) rX3_leastNext (PX D cA bs Z [.ref o, .int x1, .int x2] K n I J R) (QX D cA bs Z (some (.int res)) K n I J R) 0 0 (fun q => bs ≤ q) := by
  refine met_of (lv1 := [(0, va_rf (some o)), (1, .int x1), (2, .int x2)]) pn_X3 (by exact Nat.le_of_ble_eq_true rfl) (by rfl) ?_
  intro p e s m args below meth c C hn
  exact v_sub [0, 1, 2] [(0, va_rf (some o)), (1, .int x1), (2, .int x2)] rfl (w_X3_leastNext_0 C ho _ _ _ E)
set_option maxHeartbeats 4000000 in
theorem w_X3_leastAt_6 (C : Cx D cA bs Z p s m args meth c cX3_leastAt RX3 8 (some .int)) {o : Nat} {K : Sh} {n : Nat} {I : Im} {J : Jm} {R : Rf} (ho : (K o).1 = 4) (res : Int32)  : ∀ (k : Nat), ∀ (x1 : Int32) (x2 : Int32) (x3 : Int32) (x4 : Int32), f_X3_leastAt_6 K I R o k x1 x2 x3 x4 = some res → VW D cA bs Z p l e rX3_leastAt s m args below meth c 8 [(0, va_rf (some o)), (1, .int x1), (2, .int x2), (3, .int x3), (4, .int x4)] K n I J R 0 0 (MQ below (QX D cA bs Z (some (.int res)) K n I J R) args s 0 0 (fun q => bs ≤ q)) 6 [] := by
  intro k
  induction k with
  | zero =>
    intro x1 x2 x3 x4 E
    have E : (none : Option (Int32)) = some res := E
    cases E
  | succ k ih =>
    intro x1 x2 x3 x4 E
    unfold f_X3_leastAt_6 at E
    refine v_iload C 4 dX3_leastAt_6 rfl ?_
    refine v_bipush C dX3_leastAt_8 k_bipush_6 ?_
    refine v_icmp_gt C 107 E dX3_leastAt_10 rfl (fun c16 E => ?_) (fun c16 E => ?_)
    · refine v_iload_n C 3 dX3_leastAt_107 rfl ?_
      obtain rfl := Option.some.inj E
      exact v_iret C rfl dX3_leastAt_108
    · refine v_aload_n (r := (some o)) C 0 dX3_leastAt_13 rfl ?_
      refine v_iload_n C 1 dX3_leastAt_14 rfl ?_
      refine v_iload_n C 2 dX3_leastAt_15 rfl ?_
      refine v_iload C 4 dX3_leastAt_16 rfl ?_
      obtain ⟨q1, h2, E⟩ := bnd E
      refine v_callV (r := (some o)) (As := [.int x1, .int x2, .int x4]) (rv := (some (.int q1))) (st := []) (st1 := [.int q1]) (ce1 := 0) (sl1 := 0) C cv_X3_78 (c_X3_leaving (x1 := x1) (x2 := x2) (x3 := x4) ho h2) rfl ho rfl rfl ⟨rfl, rfl, Nat.le_of_ble_eq_true rfl, Nat.le_of_ble_eq_true rfl⟩ ⟨Nat.le_of_ble_eq_true rfl, Nat.le_of_ble_eq_true rfl⟩ (Nat.le_of_ble_eq_true rfl) rfl rfl rfl dX3_leastAt_18 ?_
      refine v_istore C [(5, .int q1), (0, va_rf (some o)), (1, .int x1), (2, .int x2), (3, .int x3), (4, .int x4)] dX3_leastAt_21 (Nat.le_of_ble_eq_true rfl) rfl ?_
      refine v_aload_n (r := (some o)) C 1 dX3_leastAt_23 rfl ?_
      refine v_iload_n C 2 dX3_leastAt_24 rfl ?_
      refine v_iload C 0 dX3_leastAt_25 rfl ?_
      obtain ⟨q3, h4, E⟩ := bnd E
      refine v_callV (r := (some o)) (As := [.int x1, .int q1]) (rv := (some (.int q3))) (st := []) (st1 := [.int q3]) (ce1 := 0) (sl1 := 0) C cv_X3_111 (c_X3_leastNext (x1 := x1) (x2 := q1) ho h4) rfl ho rfl rfl ⟨rfl, rfl, Nat.le_of_ble_eq_true rfl, Nat.le_of_ble_eq_true rfl⟩ ⟨Nat.le_of_ble_eq_true rfl, Nat.le_of_ble_eq_true rfl⟩ (Nat.le_of_ble_eq_true rfl) rfl rfl rfl dX3_leastAt_27 ?_
      refine v_aload_n (r := (some o)) C 1 dX3_leastAt_30 rfl ?_
      refine v_getR (r := (some o)) C fa_X3_24 rfl rfl ho dX3_leastAt_31 ?_
      refine v_iload_n C 2 dX3_leastAt_34 rfl ?_
      refine v_iconst C dX3_leastAt_35 k_iconst_1 ?_
      refine v_iadd C dX3_leastAt_36 ?_
      refine v_iload C 0 dX3_leastAt_37 rfl ?_
      refine v_aload_n (r := (some o)) C 1 dX3_leastAt_39 rfl ?_
      refine v_getI (r := (some o)) C fa_X3_38 rfl rfl ho dX3_leastAt_40 ?_
      obtain ⟨a5, h6, E⟩ := bnd E
      obtain ⟨hra5, hoa5⟩ := ob_is h6
      obtain ⟨q7, h8, E⟩ := bnd E
      refine v_callV (r := (R o 4)) (As := [.int (x1 + 1), .int q1, .int (I o 6)]) (rv := (some (.int q7))) (st := [.int q3]) (st1 := [.int q7, .int q3]) (ce1 := 0) (sl1 := 0) C cv_X3_102 (c_X9_drunkAlong (x1 := (x1 + 1)) (x2 := q1) (x3 := (I o 6)) hoa5 h8) hra5 hoa5 rfl rfl ⟨rfl, rfl, Nat.le_of_ble_eq_true rfl, Nat.le_of_ble_eq_true rfl⟩ ⟨Nat.le_of_ble_eq_true rfl, Nat.le_of_ble_eq_true rfl⟩ (Nat.le_of_ble_eq_true rfl) rfl rfl rfl dX3_leastAt_43 ?_
      refine v_iadd C dX3_leastAt_46 ?_
      refine v_istore C [(6, .int (q3 + q7)), (5, .int q1), (0, va_rf (some o)), (1, .int x1), (2, .int x2), (3, .int x3), (4, .int x4)] dX3_leastAt_47 (Nat.le_of_ble_eq_true rfl) rfl ?_
      refine v_iload C 0 dX3_leastAt_49 rfl ?_
      refine v_aload_n (r := (some o)) C 2 dX3_leastAt_51 rfl ?_
      refine v_getI (r := (some o)) C fa_X3_44 rfl rfl ho dX3_leastAt_52 ?_
      refine v_icmp_gt C 101 E dX3_leastAt_55 rfl (fun c15 E => ?_) (fun c15 E => ?_)
      · refine v_iinc (v := x4 + 1) C 6 [(4, .int (x4 + 1)), (6, .int (q3 + q7)), (5, .int q1), (0, va_rf (some o)), (1, .int x1), (2, .int x2), (3, .int x3)] dX3_leastAt_101 rfl (k_inc_1 _) (Nat.le_of_ble_eq_true rfl) rfl ?_
        refine v_goto C 6 dX3_leastAt_104 rfl ?_
        exact v_sub [3, 4, 5, 6, 0] [(0, va_rf (some o)), (1, .int x1), (2, .int x2), (3, .int x3), (4, .int (x4 + 1))] rfl (ih _ _ _ _ E)
      · refine v_iload C 1 dX3_leastAt_58 rfl ?_
        refine v_aload_n (r := (some o)) C 2 dX3_leastAt_60 rfl ?_
        refine v_getR (r := (some o)) C fa_X3_15 rfl rfl ho dX3_leastAt_61 ?_
        refine v_iload_n C 3 dX3_leastAt_64 rfl ?_
        refine v_iald (r := (R o 1)) C E dX3_leastAt_65 (fun v9 _ E => ?_)
        refine v_isub C dX3_leastAt_66 ?_
        refine v_iload_n C 4 dX3_leastAt_67 rfl ?_
        refine v_isub C dX3_leastAt_68 ?_
        refine v_aload_n (r := (some o)) C 2 dX3_leastAt_69 rfl ?_
        refine v_getI (r := (some o)) C fa_X3_50 rfl rfl ho dX3_leastAt_70 ?_
        refine v_imul C dX3_leastAt_73 ?_
        refine v_istore C [(7, .int (((q1 - v9) - x2) * (I o 8))), (6, .int (q3 + q7)), (5, .int q1), (0, va_rf (some o)), (1, .int x1), (2, .int x2), (3, .int x3), (4, .int x4)] dX3_leastAt_74 (Nat.le_of_ble_eq_true rfl) rfl ?_
        refine v_iload_n C 6 dX3_leastAt_76 rfl ?_
        refine v_iload C 0 dX3_leastAt_77 rfl ?_
        refine v_iconst C dX3_leastAt_79 k_iconst_0 ?_
        refine v_iload C 1 dX3_leastAt_80 rfl ?_
        refine v_aload_n (r := (some o)) C 3 dX3_leastAt_82 rfl ?_
        refine v_getR (r := (some o)) C fa_X3_28 rfl rfl ho dX3_leastAt_83 ?_
        refine v_iload_n C 4 dX3_leastAt_86 rfl ?_
        refine v_iload C 2 dX3_leastAt_87 rfl ?_
        obtain ⟨a10, h11, E⟩ := bnd E
        obtain ⟨hra10, hoa10⟩ := ob_is h11
        obtain ⟨q12, h13, E⟩ := bnd E
        refine v_callV (r := (R o 5)) (As := [.int x1, .int q1]) (rv := (some (.int q12))) (st := [.int (q3 + q7), .int 0, .int (((q1 - v9) - x2) * (I o 8)), .int x3]) (st1 := [.int q12, .int (q3 + q7), .int 0, .int (((q1 - v9) - x2) * (I o 8)), .int x3]) (ce1 := 0) (sl1 := 0) C cv_X3_105 (c_X10_heldAt (x1 := x1) (x2 := q1) hoa10 h13) hra10 hoa10 rfl rfl ⟨rfl, rfl, Nat.le_of_ble_eq_true rfl, Nat.le_of_ble_eq_true rfl⟩ ⟨Nat.le_of_ble_eq_true rfl, Nat.le_of_ble_eq_true rfl⟩ (Nat.le_of_ble_eq_true rfl) rfl rfl rfl dX3_leastAt_89 ?_
        refine v_isub C dX3_leastAt_92 ?_
        refine v_max C mx_X3_97 (Nat.le_of_ble_eq_true rfl) ((Nat.le_of_ble_eq_true rfl)) (Nat.le_of_ble_eq_true rfl) (Nat.le_of_ble_eq_true rfl) dX3_leastAt_93 ?_
        refine v_iadd C dX3_leastAt_96 ?_
        refine v_min C mx_X3_108 (Nat.le_of_ble_eq_true rfl) ((Nat.le_of_ble_eq_true rfl)) (Nat.le_of_ble_eq_true rfl) (Nat.le_of_ble_eq_true rfl) dX3_leastAt_97 ?_
        refine v_nmI E (fun v14 _ E => ?_)
        refine v_istore_n C [(3, .int v14), (7, .int (((q1 - v9) - x2) * (I o 8))), (6, .int (q3 + q7)), (5, .int q1), (0, va_rf (some o)), (1, .int x1), (2, .int x2), (4, .int x4)] dX3_leastAt_100 (Nat.le_of_ble_eq_true rfl) rfl ?_
        refine v_iinc (v := x4 + 1) C 7 [(4, .int (x4 + 1)), (3, .int v14), (7, .int (((q1 - v9) - x2) * (I o 8))), (6, .int (q3 + q7)), (5, .int q1), (0, va_rf (some o)), (1, .int x1), (2, .int x2)] dX3_leastAt_101 rfl (k_inc_1 _) (Nat.le_of_ble_eq_true rfl) rfl ?_
        refine v_goto C 6 dX3_leastAt_104 rfl ?_
        exact v_sub [5, 6, 7, 1, 0] [(0, va_rf (some o)), (1, .int x1), (2, .int x2), (3, .int v14), (4, .int (x4 + 1))] rfl (ih _ _ _ _ E)
set_option maxHeartbeats 4000000 in
theorem w_X3_leastAt_0 (C : Cx D cA bs Z p s m args meth c cX3_leastAt RX3 8 (some .int)) {o : Nat} {K : Sh} {n : Nat} {I : Im} {J : Jm} {R : Rf} (ho : (K o).1 = 4) (res : Int32) (x1 : Int32) (x2 : Int32) (E : f_X3_leastAt K I R o x1 x2 = some res) : VW D cA bs Z p l e rX3_leastAt s m args below meth c 8 [(0, va_rf (some o)), (1, .int x1), (2, .int x2)] K n I J R 0 0 (MQ below (QX D cA bs Z (some (.int res)) K n I J R) args s 0 0 (fun q => bs ≤ q)) 0 [] := by
  unfold f_X3_leastAt at E
  refine v_ldc C ct_X3_69 dX3_leastAt_0 ?_
  refine v_istore_n C [(3, .int 1000000), (0, va_rf (some o)), (1, .int x1), (2, .int x2)] dX3_leastAt_2 (Nat.le_of_ble_eq_true rfl) rfl ?_
  refine v_iconst C dX3_leastAt_3 k_iconst_0 ?_
  refine v_istore C [(4, .int 0), (3, .int 1000000), (0, va_rf (some o)), (1, .int x1), (2, .int x2)] dX3_leastAt_4 (Nat.le_of_ble_eq_true rfl) rfl ?_
  exact v_sub [2, 3, 4, 1, 0] [(0, va_rf (some o)), (1, .int x1), (2, .int x2), (3, .int 1000000), (4, .int 0)] rfl (w_X3_leastAt_6 C ho res  _ _ _ _ _ E)
set_option maxHeartbeats 4000000 in
theorem c_X3_leastAt {n : Nat} {K : Sh} {I : Im} {J : Jm} {R : Rf} {o : Nat} {x1 : Int32} {x2 : Int32} (ho : (K o).1 = 4) {res : Int32} (E : f_X3_leastAt K I R o x1 x2 = some res) : Met l yX3_leastAt (Cond.code yX3_leastAt cX3_leastAt 8 (some .int) :: tb) rX3_leastAt (PX D cA bs Z [.ref o, .int x1, .int x2] K n I J R) (QX D cA bs Z (some (.int res)) K n I J R) 0 0 (fun q => bs ≤ q) := by
  refine met_of (lv1 := [(0, va_rf (some o)), (1, .int x1), (2, .int x2)]) pn_X3 (by exact Nat.le_of_ble_eq_true rfl) (by rfl) ?_
  intro p e s m args below meth c C hn
  exact v_sub [0, 1, 2] [(0, va_rf (some o)), (1, .int x1), (2, .int x2)] rfl (w_X3_leastAt_0 C ho _ _ _ E)
set_option maxHeartbeats 4000000 in
theorem w_X3_leadsOn_0 (C : Cx D cA bs Z p s m args meth c cX3_leadsOn RX3 6 (some .boolean)) {o : Nat} {K : Sh} {n : Nat} {I : Im} {J : Jm} {R : Rf} (ho : (K o).1 = 4) (res : Int32) (x1 : Int32) (x2 : Int32) (x3 : Int32) (x4 : Int32) (E : f_X3_leadsOn K I R o x1 x2 x3 x4 = some res) : VW D cA bs Z p l e rX3_leadsOn s m args below meth c 6 [(0, va_rf (some o)), (1, .int x1), (2, .int x2), (3, .int x3), (4, .int x4)] K n I J R 0 0 (MQ below (QX D cA bs Z (some (.int res)) K n I J R) args s 0 0 (fun q => bs ≤ q)) 0 [] := by
  unfold f_X3_leadsOn at E
  refine v_aload_n (r := (some o)) C 0 dX3_leadsOn_0 rfl ?_
  refine v_iload_n C 1 dX3_leadsOn_1 rfl ?_
  refine v_iload_n C 2 dX3_leadsOn_2 rfl ?_
  refine v_iload_n C 3 dX3_leadsOn_3 rfl ?_
  obtain ⟨q1, h2, E⟩ := bnd E
  refine v_callV (r := (some o)) (As := [.int x1, .int x2, .int x3]) (rv := (some (.int q1))) (st := []) (st1 := [.int q1]) (ce1 := 0) (sl1 := 0) C cv_X3_78 (c_X3_leaving (x1 := x1) (x2 := x2) (x3 := x3) ho h2) rfl ho rfl rfl ⟨rfl, rfl, Nat.le_of_ble_eq_true rfl, Nat.le_of_ble_eq_true rfl⟩ ⟨Nat.le_of_ble_eq_true rfl, Nat.le_of_ble_eq_true rfl⟩ (Nat.le_of_ble_eq_true rfl) rfl rfl rfl dX3_leadsOn_4 ?_
  refine v_istore C [(5, .int q1), (0, va_rf (some o)), (1, .int x1), (2, .int x2), (3, .int x3), (4, .int x4)] dX3_leadsOn_7 (Nat.le_of_ble_eq_true rfl) rfl ?_
  refine v_aload_n (r := (some o)) C 1 dX3_leadsOn_9 rfl ?_
  refine v_iload_n C 2 dX3_leadsOn_10 rfl ?_
  refine v_iload_n C 3 dX3_leadsOn_11 rfl ?_
  refine v_iload C 0 dX3_leadsOn_12 rfl ?_
  refine v_iload C 5 dX3_leadsOn_14 rfl ?_
  obtain ⟨q3, h4, E⟩ := bnd E
  refine v_callV (r := (some o)) (As := [.int x1, .int x2, .int q1, .int x4]) (rv := (some (.int q3))) (st := []) (st1 := [.int q3]) (ce1 := 0) (sl1 := 0) C cv_X3_82 (c_X3_brought (x1 := x1) (x2 := x2) (x3 := q1) (x4 := x4) ho h4) rfl ho rfl rfl ⟨rfl, rfl, Nat.le_of_ble_eq_true rfl, Nat.le_of_ble_eq_true rfl⟩ ⟨Nat.le_of_ble_eq_true rfl, Nat.le_of_ble_eq_true rfl⟩ (Nat.le_of_ble_eq_true rfl) rfl rfl rfl dX3_leadsOn_16 ?_
  refine v_aload_n (r := (some o)) C 1 dX3_leadsOn_19 rfl ?_
  refine v_iload_n C 2 dX3_leadsOn_20 rfl ?_
  refine v_iload C 0 dX3_leadsOn_21 rfl ?_
  obtain ⟨q5, h6, E⟩ := bnd E
  refine v_callV (r := (some o)) (As := [.int x1, .int q1]) (rv := (some (.int q5))) (st := [.int q3]) (st1 := [.int q5, .int q3]) (ce1 := 0) (sl1 := 0) C cv_X3_111 (c_X3_leastNext (x1 := x1) (x2 := q1) ho h6) rfl ho rfl rfl ⟨rfl, rfl, Nat.le_of_ble_eq_true rfl, Nat.le_of_ble_eq_true rfl⟩ ⟨Nat.le_of_ble_eq_true rfl, Nat.le_of_ble_eq_true rfl⟩ (Nat.le_of_ble_eq_true rfl) rfl rfl rfl dX3_leadsOn_23 ?_
  refine v_icmp_lt C 33 E dX3_leadsOn_26 rfl (fun c7 E => ?_) (fun c7 E => ?_)
  · refine v_iconst C dX3_leadsOn_33 k_iconst_0 ?_
    obtain rfl := Option.some.inj E
    exact v_zret (v := 0) C rfl nz_0 dX3_leadsOn_34
  · refine v_iconst C dX3_leadsOn_29 k_iconst_1 ?_
    refine v_goto C 34 dX3_leadsOn_30 rfl ?_
    obtain rfl := Option.some.inj E
    exact v_zret (v := 1) C rfl nz_1 dX3_leadsOn_34
set_option maxHeartbeats 4000000 in
theorem c_X3_leadsOn {n : Nat} {K : Sh} {I : Im} {J : Jm} {R : Rf} {o : Nat} {x1 : Int32} {x2 : Int32} {x3 : Int32} {x4 : Int32} (ho : (K o).1 = 4) {res : Int32} (E : f_X3_leadsOn K I R o x1 x2 x3 x4 = some res) : Met l yX3_leadsOn (Cond.code yX3_leadsOn cX3_leadsOn 6 (some .boolean) :: tb) rX3_leadsOn (PX D cA bs Z [.ref o, .int x1, .int x2, .int x3, .int x4] K n I J R) (QX D cA bs Z (some (.int res)) K n I J R) 0 0 (fun q => bs ≤ q) := by
  refine met_of (lv1 := [(0, va_rf (some o)), (1, .int x1), (2, .int x2), (3, .int x3), (4, .int x4)]) pn_X3 (by exact Nat.le_of_ble_eq_true rfl) (by rfl) ?_
  intro p e s m args below meth c C hn
  exact v_sub [0, 1, 2, 3, 4] [(0, va_rf (some o)), (1, .int x1), (2, .int x2), (3, .int x3), (4, .int x4)] rfl (w_X3_leadsOn_0 C ho _ _ _ _ _ E)
set_option maxHeartbeats 4000000 in
theorem w_X3_plan_118 (C : Cx D cA bs Z p s m args meth c cX3_plan RX3 5 none) {o : Nat} {K : Sh} {n : Nat} {J : Jm} {R : Rf} (ho : (K o).1 = 4) (res : Im) (r112 : Int32 → Im → Option (Im)) (hr112 : ∀ (x1 : Int32) (I : Im), r112 x1 I = some res → VW D cA bs Z p l e rX3_plan s m args below meth c 5 [(0, va_rf (some o)), (1, .int x1)] K n I J R 0 0 (MQ below (QX D cA bs Z none K n res J R) args s 0 0 (fun q => bs ≤ q)) 112 [])  : ∀ (k : Nat), ∀ (x1 : Int32) (x2 : Int32) (I : Im), f_X3_plan_118 K R o r112 k x1 x2 I = some res → VW D cA bs Z p l e rX3_plan s m args below meth c 5 [(0, va_rf (some o)), (1, .int x1), (2, .int x2)] K n I J R 0 0 (MQ below (QX D cA bs Z none K n res J R) args s 0 0 (fun q => bs ≤ q)) 118 [] := by
  intro k
  induction k with
  | zero =>
    intro x1 x2 I E
    have E : (none : Option (Im)) = some res := E
    cases E
  | succ k ih =>
    intro x1 x2 I E
    unfold f_X3_plan_118 at E
    refine v_iload_n C 2 dX3_plan_118 rfl ?_
    refine v_iload_n C 1 dX3_plan_119 rfl ?_
    refine v_bipush C dX3_plan_120 k_bipush_6 ?_
    refine v_imul C dX3_plan_122 ?_
    refine v_icmp_gt C 149 E dX3_plan_123 rfl (fun c4 E => ?_) (fun c4 E => ?_)
    · refine v_iinc (v := x1 - 1) C 1 [(1, .int (x1 - 1)), (0, va_rf (some o)), (2, .int x2)] dX3_plan_149 rfl (k_inc_m1 _) (Nat.le_of_ble_eq_true rfl) rfl ?_
      refine v_goto C 112 dX3_plan_152 rfl ?_
      exact v_sub [1, 0] [(0, va_rf (some o)), (1, .int (x1 - 1))] rfl (hr112 _ _ E)
    · refine v_aload_n (r := (some o)) C 0 dX3_plan_126 rfl ?_
      refine v_getR (r := (some o)) C fa_X3_21 rfl rfl ho dX3_plan_127 ?_
      refine v_iload_n C 1 dX3_plan_130 rfl ?_
      refine v_bipush C dX3_plan_131 k_bipush_31 ?_
      refine v_imul C dX3_plan_133 ?_
      refine v_iload_n C 2 dX3_plan_134 rfl ?_
      refine v_iadd C dX3_plan_135 ?_
      refine v_aload_n (r := (some o)) C 0 dX3_plan_136 rfl ?_
      refine v_iload_n C 1 dX3_plan_137 rfl ?_
      refine v_iload_n C 2 dX3_plan_138 rfl ?_
      obtain ⟨q1, h2, E⟩ := bnd E
      refine v_callV (r := (some o)) (As := [.int x1, .int x2]) (rv := (some (.int q1))) (st := [.int ((x1 * 31) + x2), va_rf (R o 3)]) (st1 := [.int q1, .int ((x1 * 31) + x2), va_rf (R o 3)]) (ce1 := 0) (sl1 := 0) C cv_X3_70 (c_X3_leastAt (x1 := x1) (x2 := x2) ho h2) rfl ho rfl rfl ⟨rfl, rfl, Nat.le_of_ble_eq_true rfl, Nat.le_of_ble_eq_true rfl⟩ ⟨Nat.le_of_ble_eq_true rfl, Nat.le_of_ble_eq_true rfl⟩ (by simp only [List.map_cons, List.map_nil, List.sum_cons, List.sum_nil, rf_cat]; exact Nat.le_of_ble_eq_true rfl) rfl rfl rfl dX3_plan_139 ?_
      refine v_iast (r := (R o 3)) C E dX3_plan_142 (fun I3 _ E => ?_)
      refine v_iinc (v := x2 + 1) C 2 [(2, .int (x2 + 1)), (0, va_rf (some o)), (1, .int x1)] dX3_plan_143 rfl (k_inc_1 _) (Nat.le_of_ble_eq_true rfl) rfl ?_
      refine v_goto C 118 dX3_plan_146 rfl ?_
      exact v_sub [1, 2, 0] [(0, va_rf (some o)), (1, .int x1), (2, .int (x2 + 1))] rfl (ih _ _ _ E)
set_option maxHeartbeats 4000000 in
theorem w_X3_plan_217 (C : Cx D cA bs Z p s m args meth c cX3_plan RX3 5 none) {o : Nat} {K : Sh} {n : Nat} {J : Jm} {R : Rf} (ho : (K o).1 = 4) (res : Im) (r166 : Int32 → Int32 → Int32 → Im → Option (Im)) (hr166 : ∀ (x1 : Int32) (x2 : Int32) (x3 : Int32) (I : Im), r166 x1 x2 x3 I = some res → VW D cA bs Z p l e rX3_plan s m args below meth c 5 [(0, va_rf (some o)), (1, .int x1), (2, .int x2), (3, .int x3)] K n I J R 0 0 (MQ below (QX D cA bs Z none K n res J R) args s 0 0 (fun q => bs ≤ q)) 166 []) (x1 : Int32) (x2 : Int32) (x3 : Int32) (I : Im) (E : f_X3_plan_217 K R o r166 x1 x2 x3 I = some res) : VW D cA bs Z p l e rX3_plan s m args below meth c 5 [(0, va_rf (some o)), (1, .int x1), (2, .int x2), (3, .int x3)] K n I J R 0 0 (MQ below (QX D cA bs Z none K n res J R) args s 0 0 (fun q => bs ≤ q)) 217 [] := by
  unfold f_X3_plan_217 at E
  refine v_aload_n (r := (some o)) C 0 dX3_plan_217 rfl ?_
  refine v_iload_n C 3 dX3_plan_218 rfl ?_
  refine v_iload_n C 1 dX3_plan_219 rfl ?_
  refine v_aload_n (r := (some o)) C 0 dX3_plan_220 rfl ?_
  refine v_getR (r := (some o)) C fa_X3_9 rfl rfl ho dX3_plan_221 ?_
  refine v_iload_n C 3 dX3_plan_224 rfl ?_
  refine v_iald (r := (R o 0)) C E dX3_plan_225 (fun v5 _ E => ?_)
  obtain ⟨q6, h7, E⟩ := bnd E
  refine v_callV (r := (some o)) (As := [.int x3, .int x1, .int v5]) (rv := (some (.int q6))) (st := []) (st1 := [.int q6]) (ce1 := 0) (sl1 := 0) C cv_X3_78 (c_X3_leaving (x1 := x3) (x2 := x1) (x3 := v5) ho h7) rfl ho rfl rfl ⟨rfl, rfl, Nat.le_of_ble_eq_true rfl, Nat.le_of_ble_eq_true rfl⟩ ⟨Nat.le_of_ble_eq_true rfl, Nat.le_of_ble_eq_true rfl⟩ (Nat.le_of_ble_eq_true rfl) rfl rfl rfl dX3_plan_226 ?_
  refine v_istore C [(4, .int q6), (0, va_rf (some o)), (1, .int x1), (2, .int x2), (3, .int x3)] dX3_plan_229 (Nat.le_of_ble_eq_true rfl) rfl ?_
  refine v_aload_n (r := (some o)) C 1 dX3_plan_231 rfl ?_
  refine v_iload_n C 4 dX3_plan_232 rfl ?_
  refine v_iload_n C 2 dX3_plan_233 rfl ?_
  refine v_iload C 0 dX3_plan_234 rfl ?_
  refine v_iload_n C 3 dX3_plan_236 rfl ?_
  obtain ⟨q8, h9, E⟩ := bnd E
  refine v_callV (r := (some o)) (As := [.int x3, .int x1, .int q6, .int x2]) (rv := (some (.int q8))) (st := []) (st1 := [.int q8]) (ce1 := 0) (sl1 := 0) C cv_X3_82 (c_X3_brought (x1 := x3) (x2 := x1) (x3 := q6) (x4 := x2) ho h9) rfl ho rfl rfl ⟨rfl, rfl, Nat.le_of_ble_eq_true rfl, Nat.le_of_ble_eq_true rfl⟩ ⟨Nat.le_of_ble_eq_true rfl, Nat.le_of_ble_eq_true rfl⟩ (Nat.le_of_ble_eq_true rfl) rfl rfl rfl dX3_plan_237 ?_
  refine v_istore_n C [(2, .int q8), (4, .int q6), (0, va_rf (some o)), (1, .int x1), (3, .int x3)] dX3_plan_240 (Nat.le_of_ble_eq_true rfl) rfl ?_
  refine v_aload_n (r := (some o)) C 2 dX3_plan_241 rfl ?_
  refine v_iload_n C 4 dX3_plan_242 rfl ?_
  refine v_iload C 1 dX3_plan_243 rfl ?_
  obtain ⟨q10, h11, E⟩ := bnd E
  refine v_callV (r := (some o)) (As := [.int x3, .int q6]) (rv := (some (.int q10))) (st := []) (st1 := [.int q10]) (ce1 := 0) (sl1 := 0) C cv_X3_86 (c_X3_nextOf (x1 := x3) (x2 := q6) ho h11) rfl ho rfl rfl ⟨rfl, rfl, Nat.le_of_ble_eq_true rfl, Nat.le_of_ble_eq_true rfl⟩ ⟨Nat.le_of_ble_eq_true rfl, Nat.le_of_ble_eq_true rfl⟩ (Nat.le_of_ble_eq_true rfl) rfl rfl rfl dX3_plan_245 ?_
  refine v_istore_n C [(1, .int q10), (2, .int q8), (4, .int q6), (0, va_rf (some o)), (3, .int x3)] dX3_plan_248 (Nat.le_of_ble_eq_true rfl) rfl ?_
  refine v_iinc (v := x3 + 1) C 4 [(3, .int (x3 + 1)), (1, .int q10), (2, .int q8), (4, .int q6), (0, va_rf (some o))] dX3_plan_249 rfl (k_inc_1 _) (Nat.le_of_ble_eq_true rfl) rfl ?_
  refine v_goto C 166 dX3_plan_252 rfl ?_
  exact v_sub [4, 1, 2, 0] [(0, va_rf (some o)), (1, .int q10), (2, .int q8), (3, .int (x3 + 1))] rfl (hr166 _ _ _ _ E)
set_option maxHeartbeats 4000000 in
theorem w_X3_plan_177 (C : Cx D cA bs Z p s m args meth c cX3_plan RX3 5 none) {o : Nat} {K : Sh} {n : Nat} {J : Jm} {R : Rf} (ho : (K o).1 = 4) (res : Im) (r166 : Int32 → Int32 → Int32 → Im → Option (Im)) (hr166 : ∀ (x1 : Int32) (x2 : Int32) (x3 : Int32) (I : Im), r166 x1 x2 x3 I = some res → VW D cA bs Z p l e rX3_plan s m args below meth c 5 [(0, va_rf (some o)), (1, .int x1), (2, .int x2), (3, .int x3)] K n I J R 0 0 (MQ below (QX D cA bs Z none K n res J R) args s 0 0 (fun q => bs ≤ q)) 166 [])  : ∀ (k : Nat), ∀ (x1 : Int32) (x2 : Int32) (x3 : Int32) (I : Im), f_X3_plan_177 K R o r166 k x1 x2 x3 I = some res → VW D cA bs Z p l e rX3_plan s m args below meth c 5 [(0, va_rf (some o)), (1, .int x1), (2, .int x2), (3, .int x3)] K n I J R 0 0 (MQ below (QX D cA bs Z none K n res J R) args s 0 0 (fun q => bs ≤ q)) 177 [] := by
  intro k
  induction k with
  | zero =>
    intro x1 x2 x3 I E
    have E : (none : Option (Im)) = some res := E
    cases E
  | succ k ih =>
    intro x1 x2 x3 I E
    unfold f_X3_plan_177 at E
    refine v_aload_n (r := (some o)) C 0 dX3_plan_177 rfl ?_
    refine v_getR (r := (some o)) C fa_X3_9 rfl rfl ho dX3_plan_178 ?_
    refine v_iload_n C 3 dX3_plan_181 rfl ?_
    refine v_iald (r := (R o 0)) C E dX3_plan_182 (fun v12 _ E => ?_)
    refine v_bipush C dX3_plan_183 k_bipush_6 ?_
    refine v_icmp_ge C 217 E dX3_plan_185 rfl (fun c19 E => ?_) (fun c19 E => ?_)
    · exact v_sub [0, 1, 2, 3] [(0, va_rf (some o)), (1, .int x1), (2, .int x2), (3, .int x3)] rfl (w_X3_plan_217 C ho res _ hr166 _ _ _ _ E)
    · refine v_aload_n (r := (some o)) C 0 dX3_plan_188 rfl ?_
      refine v_iload_n C 3 dX3_plan_189 rfl ?_
      refine v_iload_n C 1 dX3_plan_190 rfl ?_
      refine v_aload_n (r := (some o)) C 0 dX3_plan_191 rfl ?_
      refine v_getR (r := (some o)) C fa_X3_9 rfl rfl ho dX3_plan_192 ?_
      refine v_iload_n C 3 dX3_plan_195 rfl ?_
      refine v_iald (r := (R o 0)) C E dX3_plan_196 (fun v13 _ E => ?_)
      refine v_iload_n C 2 dX3_plan_197 rfl ?_
      obtain ⟨q14, h15, E⟩ := bnd E
      refine v_callV (r := (some o)) (As := [.int x3, .int x1, .int v13, .int x2]) (rv := (some (.int q14))) (st := []) (st1 := [.int q14]) (ce1 := 0) (sl1 := 0) C cv_X3_74 (c_X3_leadsOn (x1 := x3) (x2 := x1) (x3 := v13) (x4 := x2) ho h15) rfl ho rfl rfl ⟨rfl, rfl, Nat.le_of_ble_eq_true rfl, Nat.le_of_ble_eq_true rfl⟩ ⟨Nat.le_of_ble_eq_true rfl, Nat.le_of_ble_eq_true rfl⟩ (Nat.le_of_ble_eq_true rfl) rfl rfl rfl dX3_plan_198 ?_
      refine v_if_ne C 217 E dX3_plan_201 rfl (fun c18 E => ?_) (fun c18 E => ?_)
      · refine v_aload_n (r := (some o)) C 0 dX3_plan_204 rfl ?_
        refine v_getR (r := (some o)) C fa_X3_9 rfl rfl ho dX3_plan_205 ?_
        refine v_iload_n C 3 dX3_plan_208 rfl ?_
        refine v_dup2 C dX3_plan_209 rfl (rf_cat _) ?_
        refine v_iald (r := (R o 0)) C E dX3_plan_210 (fun v16 _ E => ?_)
        refine v_iconst C dX3_plan_211 k_iconst_1 ?_
        refine v_iadd C dX3_plan_212 ?_
        refine v_iast (r := (R o 0)) C E dX3_plan_213 (fun I17 _ E => ?_)
        refine v_goto C 177 dX3_plan_214 rfl ?_
        exact v_sub [0, 1, 2, 3] [(0, va_rf (some o)), (1, .int x1), (2, .int x2), (3, .int x3)] rfl (ih _ _ _ _ E)
      · exact v_sub [0, 1, 2, 3] [(0, va_rf (some o)), (1, .int x1), (2, .int x2), (3, .int x3)] rfl (w_X3_plan_217 C ho res _ hr166 _ _ _ _ E)
set_option maxHeartbeats 4000000 in
theorem w_X3_plan_166 (C : Cx D cA bs Z p s m args meth c cX3_plan RX3 5 none) {o : Nat} {K : Sh} {n : Nat} {J : Jm} {R : Rf} (ho : (K o).1 = 4) (res : Im)  : ∀ (k : Nat), ∀ (x1 : Int32) (x2 : Int32) (x3 : Int32) (I : Im), f_X3_plan_166 K R o k x1 x2 x3 I = some res → VW D cA bs Z p l e rX3_plan s m args below meth c 5 [(0, va_rf (some o)), (1, .int x1), (2, .int x2), (3, .int x3)] K n I J R 0 0 (MQ below (QX D cA bs Z none K n res J R) args s 0 0 (fun q => bs ≤ q)) 166 [] := by
  intro k
  induction k with
  | zero =>
    intro x1 x2 x3 I E
    have E : (none : Option (Im)) = some res := E
    cases E
  | succ k ih =>
    intro x1 x2 x3 I E
    unfold f_X3_plan_166 at E
    refine v_iload_n C 3 dX3_plan_166 rfl ?_
    refine v_aload_n (r := (some o)) C 0 dX3_plan_167 rfl ?_
    refine v_getR (r := (some o)) C fa_X3_24 rfl rfl ho dX3_plan_168 ?_
    obtain ⟨a20, h21, E⟩ := bnd E
    obtain ⟨hra20, hoa20⟩ := ob_is h21
    refine v_getI (r := (R o 4)) C fa_X3_60 rfl hra20 hoa20 dX3_plan_171 ?_
    refine v_icmp_ge C 255 E dX3_plan_174 rfl (fun c22 E => ?_) (fun c22 E => ?_)
    · obtain rfl := Option.some.inj E
      exact v_vret C rfl dX3_plan_255
    · exact v_sub [0, 1, 2, 3] [(0, va_rf (some o)), (1, .int x1), (2, .int x2), (3, .int x3)] rfl (w_X3_plan_177 C ho res _ ih _ _ _ _ _ E)
set_option maxHeartbeats 4000000 in
theorem w_X3_plan_112 (C : Cx D cA bs Z p s m args meth c cX3_plan RX3 5 none) {o : Nat} {K : Sh} {n : Nat} {J : Jm} {R : Rf} (ho : (K o).1 = 4) (res : Im)  : ∀ (k : Nat), ∀ (x1 : Int32) (I : Im), f_X3_plan_112 K R o k x1 I = some res → VW D cA bs Z p l e rX3_plan s m args below meth c 5 [(0, va_rf (some o)), (1, .int x1)] K n I J R 0 0 (MQ below (QX D cA bs Z none K n res J R) args s 0 0 (fun q => bs ≤ q)) 112 [] := by
  intro k
  induction k with
  | zero =>
    intro x1 I E
    have E : (none : Option (Im)) = some res := E
    cases E
  | succ k ih =>
    intro x1 I E
    unfold f_X3_plan_112 at E
    refine v_iload_n C 1 dX3_plan_112 rfl ?_
    refine v_if_le C 155 E dX3_plan_113 rfl (fun c24 E => ?_) (fun c24 E => ?_)
    · refine v_iconst C dX3_plan_155 k_iconst_0 ?_
      refine v_istore_n C [(1, .int 0), (0, va_rf (some o))] dX3_plan_156 (Nat.le_of_ble_eq_true rfl) rfl ?_
      refine v_aload_n (r := (some o)) C 1 dX3_plan_157 rfl ?_
      refine v_getR (r := (some o)) C fa_X3_18 rfl rfl ho dX3_plan_158 ?_
      refine v_iconst C dX3_plan_161 k_iconst_0 ?_
      refine v_iald (r := (R o 2)) C E dX3_plan_162 (fun v23 _ E => ?_)
      refine v_istore_n C [(2, .int v23), (1, .int 0), (0, va_rf (some o))] dX3_plan_163 (Nat.le_of_ble_eq_true rfl) rfl ?_
      refine v_iconst C dX3_plan_164 k_iconst_0 ?_
      refine v_istore_n C [(3, .int 0), (2, .int v23), (1, .int 0), (0, va_rf (some o))] dX3_plan_165 (Nat.le_of_ble_eq_true rfl) rfl ?_
      exact v_sub [3, 2, 1, 0] [(0, va_rf (some o)), (1, .int 0), (2, .int v23), (3, .int 0)] rfl (w_X3_plan_166 C ho res  _ _ _ _ _ E)
    · refine v_iconst C dX3_plan_116 k_iconst_0 ?_
      refine v_istore_n C [(2, .int 0), (0, va_rf (some o)), (1, .int x1)] dX3_plan_117 (Nat.le_of_ble_eq_true rfl) rfl ?_
      exact v_sub [1, 2, 0] [(0, va_rf (some o)), (1, .int x1), (2, .int 0)] rfl (w_X3_plan_118 C ho res _ ih _ _ _ _ E)
set_option maxHeartbeats 4000000 in
theorem w_X3_plan_95 (C : Cx D cA bs Z p s m args meth c cX3_plan RX3 5 none) {o : Nat} {K : Sh} {n : Nat} {J : Jm} {R : Rf} (ho : (K o).1 = 4) (res : Im) (r46 : Int32 → Im → Option (Im)) (hr46 : ∀ (x1 : Int32) (I : Im), r46 x1 I = some res → VW D cA bs Z p l e rX3_plan s m args below meth c 5 [(0, va_rf (some o)), (1, .int x1)] K n I J R 0 0 (MQ below (QX D cA bs Z none K n res J R) args s 0 0 (fun q => bs ≤ q)) 46 []) (x1 : Int32) (s0 : Option Nat) (s1 : Int32) (s2 : Int32) (I : Im) (E : f_X3_plan_95 K R o r46 x1 s0 s1 s2 I = some res) : VW D cA bs Z p l e rX3_plan s m args below meth c 5 [(0, va_rf (some o)), (1, .int x1)] K n I J R 0 0 (MQ below (QX D cA bs Z none K n res J R) args s 0 0 (fun q => bs ≤ q)) 95 [.int s2, .int s1, va_rf s0] := by
  unfold f_X3_plan_95 at E
  refine v_iast (r := s0) C E dX3_plan_95 (fun I25 _ E => ?_)
  refine v_iinc (v := x1 + 1) C 1 [(1, .int (x1 + 1)), (0, va_rf (some o))] dX3_plan_96 rfl (k_inc_1 _) (Nat.le_of_ble_eq_true rfl) rfl ?_
  refine v_goto C 46 dX3_plan_99 rfl ?_
  exact v_sub [1, 0] [(0, va_rf (some o)), (1, .int (x1 + 1))] rfl (hr46 _ _ E)
set_option maxHeartbeats 4000000 in
theorem w_X3_plan_46 (C : Cx D cA bs Z p s m args meth c cX3_plan RX3 5 none) {o : Nat} {K : Sh} {n : Nat} {J : Jm} {R : Rf} (ho : (K o).1 = 4) (res : Im)  : ∀ (k : Nat), ∀ (x1 : Int32) (I : Im), f_X3_plan_46 K R o k x1 I = some res → VW D cA bs Z p l e rX3_plan s m args below meth c 5 [(0, va_rf (some o)), (1, .int x1)] K n I J R 0 0 (MQ below (QX D cA bs Z none K n res J R) args s 0 0 (fun q => bs ≤ q)) 46 [] := by
  intro k
  induction k with
  | zero =>
    intro x1 I E
    have E : (none : Option (Im)) = some res := E
    cases E
  | succ k ih =>
    intro x1 I E
    unfold f_X3_plan_46 at E
    refine v_iload_n C 1 dX3_plan_46 rfl ?_
    refine v_bipush C dX3_plan_47 k_bipush_31 ?_
    refine v_icmp_ge C 102 E dX3_plan_49 rfl (fun c32 E => ?_) (fun c32 E => ?_)
    · refine v_aload_n (r := (some o)) C 0 dX3_plan_102 rfl ?_
      refine v_getR (r := (some o)) C fa_X3_24 rfl rfl ho dX3_plan_103 ?_
      obtain ⟨a26, h27, E⟩ := bnd E
      obtain ⟨hra26, hoa26⟩ := ob_is h27
      refine v_getI (r := (R o 4)) C fa_X3_60 rfl hra26 hoa26 dX3_plan_106 ?_
      refine v_iconst C dX3_plan_109 k_iconst_1 ?_
      refine v_isub C dX3_plan_110 ?_
      refine v_istore_n C [(1, .int ((I a26 0) - 1)), (0, va_rf (some o))] dX3_plan_111 (Nat.le_of_ble_eq_true rfl) rfl ?_
      exact v_sub [1, 0] [(0, va_rf (some o)), (1, .int ((I a26 0) - 1))] rfl (w_X3_plan_112 C ho res  _ _ _ E)
    · refine v_aload_n (r := (some o)) C 0 dX3_plan_52 rfl ?_
      refine v_getR (r := (some o)) C fa_X3_21 rfl rfl ho dX3_plan_53 ?_
      refine v_aload_n (r := (some o)) C 0 dX3_plan_56 rfl ?_
      refine v_getR (r := (some o)) C fa_X3_24 rfl rfl ho dX3_plan_57 ?_
      obtain ⟨a28, h29, E⟩ := bnd E
      obtain ⟨hra28, hoa28⟩ := ob_is h29
      refine v_getI (r := (R o 4)) C fa_X3_60 rfl hra28 hoa28 dX3_plan_60 ?_
      refine v_bipush C dX3_plan_63 k_bipush_31 ?_
      refine v_imul C dX3_plan_65 ?_
      refine v_iload_n C 1 dX3_plan_66 rfl ?_
      refine v_iadd C dX3_plan_67 ?_
      refine v_aload_n (r := (some o)) C 0 dX3_plan_68 rfl ?_
      refine v_getR (r := (some o)) C fa_X3_15 rfl rfl ho dX3_plan_69 ?_
      refine v_aload_n (r := (some o)) C 0 dX3_plan_72 rfl ?_
      refine v_getR (r := (some o)) C fa_X3_24 rfl rfl ho dX3_plan_73 ?_
      refine v_getI (r := (R o 4)) C fa_X3_60 rfl hra28 hoa28 dX3_plan_76 ?_
      refine v_iald (r := (R o 1)) C E dX3_plan_79 (fun v30 _ E => ?_)
      refine v_iload_n C 1 dX3_plan_80 rfl ?_
      refine v_iadd C dX3_plan_81 ?_
      refine v_aload_n (r := (some o)) C 0 dX3_plan_82 rfl ?_
      refine v_getI (r := (some o)) C fa_X3_66 rfl rfl ho dX3_plan_83 ?_
      refine v_icmp_ne C 93 E dX3_plan_86 rfl (fun c31 E => ?_) (fun c31 E => ?_)
      · refine v_iconst C dX3_plan_89 k_iconst_0 ?_
        refine v_goto C 95 dX3_plan_90 rfl ?_
        exact v_sub [0, 1] [(0, va_rf (some o)), (1, .int x1)] rfl (w_X3_plan_95 C ho res _ ih _ _ _ _ _ E)
      · refine v_ldc C ct_X3_69 dX3_plan_93 ?_
        exact v_sub [0, 1] [(0, va_rf (some o)), (1, .int x1)] rfl (w_X3_plan_95 C ho res _ ih _ _ _ _ _ E)
set_option maxHeartbeats 4000000 in
theorem w_X3_plan_2 (C : Cx D cA bs Z p s m args meth c cX3_plan RX3 5 none) {o : Nat} {K : Sh} {n : Nat} {J : Jm} {R : Rf} (ho : (K o).1 = 4) (res : Im)  : ∀ (k : Nat), ∀ (x1 : Int32) (I : Im), f_X3_plan_2 K R o k x1 I = some res → VW D cA bs Z p l e rX3_plan s m args below meth c 5 [(0, va_rf (some o)), (1, .int x1)] K n I J R 0 0 (MQ below (QX D cA bs Z none K n res J R) args s 0 0 (fun q => bs ≤ q)) 2 [] := by
  intro k
  induction k with
  | zero =>
    intro x1 I E
    have E : (none : Option (Im)) = some res := E
    cases E
  | succ k ih =>
    intro x1 I E
    unfold f_X3_plan_2 at E
    refine v_iload_n C 1 dX3_plan_2 rfl ?_
    refine v_iconst C dX3_plan_3 k_iconst_5 ?_
    refine v_icmp_ge C 20 E dX3_plan_4 rfl (fun c37 E => ?_) (fun c37 E => ?_)
    · refine v_aload_n (r := (some o)) C 0 dX3_plan_20 rfl ?_
      refine v_getR (r := (some o)) C fa_X3_24 rfl rfl ho dX3_plan_21 ?_
      refine v_ifnull (r := (R o 4)) C 43 E dX3_plan_24 rfl (fun c35 E => ?_) (fun c35 E => ?_)
      · obtain rfl := Option.some.inj E
        exact v_vret C rfl dX3_plan_43
      · refine v_aload_n (r := (some o)) C 0 dX3_plan_27 rfl ?_
        refine v_getR (r := (some o)) C fa_X3_28 rfl rfl ho dX3_plan_28 ?_
        refine v_ifnull (r := (R o 5)) C 43 E dX3_plan_31 rfl (fun c34 E => ?_) (fun c34 E => ?_)
        · obtain rfl := Option.some.inj E
          exact v_vret C rfl dX3_plan_43
        · refine v_aload_n (r := (some o)) C 0 dX3_plan_34 rfl ?_
          refine v_getI (r := (some o)) C fa_X3_66 rfl rfl ho dX3_plan_35 ?_
          refine v_bipush C dX3_plan_38 k_bipush_m5 ?_
          refine v_icmp_ne C 44 E dX3_plan_40 rfl (fun c33 E => ?_) (fun c33 E => ?_)
          · obtain rfl := Option.some.inj E
            exact v_vret C rfl dX3_plan_43
          · refine v_iconst C dX3_plan_44 k_iconst_0 ?_
            refine v_istore_n C [(1, .int 0), (0, va_rf (some o))] dX3_plan_45 (Nat.le_of_ble_eq_true rfl) rfl ?_
            exact v_sub [1, 0] [(0, va_rf (some o)), (1, .int 0)] rfl (w_X3_plan_46 C ho res  _ _ _ E)
    · refine v_aload_n (r := (some o)) C 0 dX3_plan_7 rfl ?_
      refine v_getR (r := (some o)) C fa_X3_9 rfl rfl ho dX3_plan_8 ?_
      refine v_iload_n C 1 dX3_plan_11 rfl ?_
      refine v_iconst C dX3_plan_12 k_iconst_0 ?_
      refine v_iast (r := (R o 0)) C E dX3_plan_13 (fun I36 _ E => ?_)
      refine v_iinc (v := x1 + 1) C 1 [(1, .int (x1 + 1)), (0, va_rf (some o))] dX3_plan_14 rfl (k_inc_1 _) (Nat.le_of_ble_eq_true rfl) rfl ?_
      refine v_goto C 2 dX3_plan_17 rfl ?_
      exact v_sub [1, 0] [(0, va_rf (some o)), (1, .int (x1 + 1))] rfl (ih _ _ E)
set_option maxHeartbeats 4000000 in
theorem w_X3_plan_0 (C : Cx D cA bs Z p s m args meth c cX3_plan RX3 5 none) {o : Nat} {K : Sh} {n : Nat} {J : Jm} {R : Rf} (ho : (K o).1 = 4) (res : Im) (I : Im) (E : f_X3_plan K R o I = some res) : VW D cA bs Z p l e rX3_plan s m args below meth c 5 [(0, va_rf (some o))] K n I J R 0 0 (MQ below (QX D cA bs Z none K n res J R) args s 0 0 (fun q => bs ≤ q)) 0 [] := by
  unfold f_X3_plan at E
  refine v_iconst C dX3_plan_0 k_iconst_0 ?_
  refine v_istore_n C [(1, .int 0), (0, va_rf (some o))] dX3_plan_1 (Nat.le_of_ble_eq_true rfl) rfl ?_
  exact v_sub [1, 0] [(0, va_rf (some o)), (1, .int 0)] rfl (w_X3_plan_2 C ho res  _ _ _ E)
set_option maxHeartbeats 4000000 in
theorem c_X3_plan {n : Nat} {K : Sh} {I : Im} {J : Jm} {R : Rf} {o : Nat}  (ho : (K o).1 = 4) {res : Im} (E : f_X3_plan K R o I = some res) : Met l yX3_plan (Cond.code yX3_plan cX3_plan 5 none :: tb) rX3_plan (PX D cA bs Z [.ref o] K n I J R) (QX D cA bs Z none K n res J R) 0 0 (fun q => bs ≤ q) := by
  refine met_of (lv1 := [(0, va_rf (some o))]) pn_X3 (by exact Nat.le_of_ble_eq_true rfl) (by rfl) ?_
  intro p e s m args below meth c C hn
  exact v_sub [0] [(0, va_rf (some o))] rfl (w_X3_plan_0 C ho _ _ E)
set_option maxHeartbeats 4000000 in
theorem w_X4_init_0 (C : Cx D cA bs Z p s m args meth c cX4_init RX4 1 none) (hin : meth.name = "<init>") {o : Nat} {J : Jm} (res : Sh × Nat × Im × Rf) (K : Sh) (n : Nat) (I : Im) (R : Rf) (E : f_X4_init o K n I R = some res) : VW D cA bs Z p l e rX4_init s m args below meth c 1 [(0, va_rf (some o))] K n I J R 0 0 (MQ below (QX D cA bs Z none res.1 res.2.1 res.2.2.1 J res.2.2.2) args s 4 136 (fun q => bs ≤ q)) 0 [] := by
  unfold f_X4_init at E
  refine v_aload_n (r := (some o)) C 0 dX4_init_0 rfl ?_
  refine v_objInit (a := o) C oi_X4 oi_i oi_c (Nat.le_of_ble_eq_true rfl) (Nat.le_of_ble_eq_true rfl) dX4_init_1 ?_
  refine v_aload_n (r := (some o)) C 0 dX4_init_4 rfl ?_
  refine v_bipush C dX4_init_5 k_bipush_100 ?_
  refine v_newB (N := 100) (ce1 := 1) (sl1 := 100) C ac_byte E (by decide) (by decide) rfl rfl (Nat.le_of_ble_eq_true rfl) (Nat.le_of_ble_eq_true rfl) dX4_init_7 (fun K1 _ E => ?_)
  refine v_mpI E (fun I2 _ E => ?_)
  obtain ⟨a3, h4, E⟩ := bnd E
  obtain ⟨hra3, hoa3⟩ := ob_is h4
  refine v_putRF (r := (some o)) (q := (some n)) C fa_X4_9 fo_X4_9 hin rfl E hra3 hoa3 dX4_init_9 (fun R5 _ E => ?_)
  refine v_aload_n (r := (some o)) C 0 dX4_init_12 rfl ?_
  refine v_bipush C dX4_init_13 k_bipush_12 ?_
  refine v_newI (N := 12) (ce1 := 2) (sl1 := 112) C ac_int E (by decide) (by decide) rfl rfl (Nat.le_of_ble_eq_true rfl) (Nat.le_of_ble_eq_true rfl) dX4_init_15 (fun K6 _ E => ?_)
  refine v_mpI E (fun I7 _ E => ?_)
  obtain ⟨a8, h9, E⟩ := bnd E
  obtain ⟨hra8, hoa8⟩ := ob_is h9
  refine v_putRF (r := (some o)) (q := (some (n + 1))) C fa_X4_15 fo_X4_15 hin rfl E hra8 hoa8 dX4_init_17 (fun R10 _ E => ?_)
  refine v_aload_n (r := (some o)) C 0 dX4_init_20 rfl ?_
  refine v_bipush C dX4_init_21 k_bipush_12 ?_
  refine v_newI (N := 12) (ce1 := 3) (sl1 := 124) C ac_int E (by decide) (by decide) rfl rfl (Nat.le_of_ble_eq_true rfl) (Nat.le_of_ble_eq_true rfl) dX4_init_23 (fun K11 _ E => ?_)
  refine v_mpI E (fun I12 _ E => ?_)
  obtain ⟨a13, h14, E⟩ := bnd E
  obtain ⟨hra13, hoa13⟩ := ob_is h14
  refine v_putRF (r := (some o)) (q := (some (n + 2))) C fa_X4_19 fo_X4_19 hin rfl E hra13 hoa13 dX4_init_25 (fun R15 _ E => ?_)
  refine v_aload_n (r := (some o)) C 0 dX4_init_28 rfl ?_
  refine v_bipush C dX4_init_29 k_bipush_12 ?_
  refine v_newI (N := 12) (ce1 := 4) (sl1 := 136) C ac_int E (by decide) (by decide) rfl rfl (Nat.le_of_ble_eq_true rfl) (Nat.le_of_ble_eq_true rfl) dX4_init_31 (fun K16 _ E => ?_)
  refine v_mpI E (fun I17 _ E => ?_)
  obtain ⟨a18, h19, E⟩ := bnd E
  obtain ⟨hra18, hoa18⟩ := ob_is h19
  refine v_putRF (r := (some o)) (q := (some (n + 3))) C fa_X4_22 fo_X4_22 hin rfl E hra18 hoa18 dX4_init_33 (fun R20 _ E => ?_)
  refine v_aload_n (r := (some o)) C 0 dX4_init_36 rfl ?_
  refine v_iconst C dX4_init_37 k_iconst_1 ?_
  refine v_putI (r := (some o)) C fa_X4_25 rfl E hra18 hoa18 ⟨rfl, rfl⟩ dX4_init_38 (fun I21 _ E => ?_)
  obtain rfl := Option.some.inj E
  exact v_vret C rfl dX4_init_41
set_option maxHeartbeats 4000000 in
theorem c_X4_init {n : Nat} {K : Sh} {I : Im} {J : Jm} {R : Rf} {o : Nat}  {res : Sh × Nat × Im × Rf} (E : f_X4_init o K n I R = some res) : Met l yX4_init (Cond.code yX4_init cX4_init 1 none :: tb) rX4_init (PX D cA bs Z [.ref o] K n I J R) (QX D cA bs Z none res.1 res.2.1 res.2.2.1 J res.2.2.2) 4 136 (fun q => bs ≤ q) := by
  refine met_of (lv1 := [(0, va_rf (some o))]) pn_X4 (by exact Nat.le_of_ble_eq_true rfl) (by rfl) ?_
  intro p e s m args below meth c C hn
  exact v_sub [0] [(0, va_rf (some o))] rfl (w_X4_init_0 C (hn.trans rfl) _ _ _ _ _ E)
set_option maxHeartbeats 4000000 in
theorem w_X4_put_0 (C : Cx D cA bs Z p s m args meth c cX4_put RX4 2 none) {o : Nat} {K : Sh} {n : Nat} {J : Jm} {R : Rf} (ho : (K o).1 = 5) (res : Im) (x1 : Int32) (I : Im) (E : f_X4_put K R o x1 I = some res) : VW D cA bs Z p l e rX4_put s m args below meth c 2 [(0, va_rf (some o)), (1, .int x1)] K n I J R 0 0 (MQ below (QX D cA bs Z none K n res J R) args s 0 0 (fun q => bs ≤ q)) 0 [] := by
  unfold f_X4_put at E
  refine v_aload_n (r := (some o)) C 0 dX4_put_0 rfl ?_
  refine v_getI (r := (some o)) C fa_X4_29 rfl rfl ho dX4_put_1 ?_
  refine v_bipush C dX4_put_4 k_bipush_100 ?_
  refine v_icmp_ge C 29 E dX4_put_6 rfl (fun c3 E => ?_) (fun c3 E => ?_)
  · obtain rfl := Option.some.inj E
    exact v_vret C rfl dX4_put_29
  · refine v_aload_n (r := (some o)) C 0 dX4_put_9 rfl ?_
    refine v_getR (r := (some o)) C fa_X4_9 rfl rfl ho dX4_put_10 ?_
    refine v_aload_n (r := (some o)) C 0 dX4_put_13 rfl ?_
    refine v_getI (r := (some o)) C fa_X4_29 rfl rfl ho dX4_put_14 ?_
    refine v_iload_n C 1 dX4_put_17 rfl ?_
    refine v_bast (r := (R o 0)) C E dX4_put_18 (fun I1 _ E => ?_)
    refine v_aload_n (r := (some o)) C 0 dX4_put_19 rfl ?_
    refine v_dup C dX4_put_20 (rf_cat _) ?_
    refine v_getI (r := (some o)) C fa_X4_29 rfl rfl ho dX4_put_21 ?_
    refine v_iconst C dX4_put_24 k_iconst_1 ?_
    refine v_iadd C dX4_put_25 ?_
    refine v_putI (r := (some o)) C fa_X4_29 rfl E rfl ho ⟨rfl, rfl⟩ dX4_put_26 (fun I2 _ E => ?_)
    obtain rfl := Option.some.inj E
    exact v_vret C rfl dX4_put_29
set_option maxHeartbeats 4000000 in
theorem c_X4_put {n : Nat} {K : Sh} {I : Im} {J : Jm} {R : Rf} {o : Nat} {x1 : Int32} (ho : (K o).1 = 5) {res : Im} (E : f_X4_put K R o x1 I = some res) : Met l yX4_put (Cond.code yX4_put cX4_put 2 none :: tb) rX4_put (PX D cA bs Z [.ref o, .int x1] K n I J R) (QX D cA bs Z none K n res J R) 0 0 (fun q => bs ≤ q) := by
  refine met_of (lv1 := [(0, va_rf (some o)), (1, .int x1)]) pn_X4 (by exact Nat.le_of_ble_eq_true rfl) (by rfl) ?_
  intro p e s m args below meth c C hn
  exact v_sub [0, 1] [(0, va_rf (some o)), (1, .int x1)] rfl (w_X4_put_0 C ho _ _ _ E)
set_option maxHeartbeats 4000000 in
theorem w_X9_clear_55 (C : Cx D cA bs Z p s m args meth c cX9_clear RX9 2 none) {o : Nat} {K : Sh} {n : Nat} {J : Jm} {R : Rf} (ho : (K o).1 = 10) (res : Im)  : ∀ (k : Nat), ∀ (x1 : Int32) (I : Im), f_X9_clear_55 K R o k x1 I = some res → VW D cA bs Z p l e rX9_clear s m args below meth c 2 [(0, va_rf (some o)), (1, .int x1)] K n I J R 0 0 (MQ below (QX D cA bs Z none K n res J R) args s 0 0 (fun q => bs ≤ q)) 55 [] := by
  intro k
  induction k with
  | zero =>
    intro x1 I E
    have E : (none : Option (Im)) = some res := E
    cases E
  | succ k ih =>
    intro x1 I E
    unfold f_X9_clear_55 at E
    refine v_iload_n C 1 dX9_clear_55 rfl ?_
    refine v_bipush C dX9_clear_56 k_bipush_6 ?_
    refine v_icmp_ge C 74 E dX9_clear_58 rfl (fun c2 E => ?_) (fun c2 E => ?_)
    · obtain rfl := Option.some.inj E
      exact v_vret C rfl dX9_clear_74
    · refine v_aload_n (r := (some o)) C 0 dX9_clear_61 rfl ?_
      refine v_getR (r := (some o)) C fa_X9_18 rfl rfl ho dX9_clear_62 ?_
      refine v_iload_n C 1 dX9_clear_65 rfl ?_
      refine v_iconst C dX9_clear_66 k_iconst_3 ?_
      refine v_iast (r := (R o 7)) C E dX9_clear_67 (fun I1 _ E => ?_)
      refine v_iinc (v := x1 + 1) C 1 [(1, .int (x1 + 1)), (0, va_rf (some o))] dX9_clear_68 rfl (k_inc_1 _) (Nat.le_of_ble_eq_true rfl) rfl ?_
      refine v_goto C 55 dX9_clear_71 rfl ?_
      exact v_sub [1, 0] [(0, va_rf (some o)), (1, .int (x1 + 1))] rfl (ih _ _ E)
set_option maxHeartbeats 4000000 in
theorem w_X9_clear_28 (C : Cx D cA bs Z p s m args meth c cX9_clear RX9 2 none) {o : Nat} {K : Sh} {n : Nat} {J : Jm} {R : Rf} (ho : (K o).1 = 10) (res : Im)  : ∀ (k : Nat), ∀ (x1 : Int32) (I : Im), f_X9_clear_28 K R o k x1 I = some res → VW D cA bs Z p l e rX9_clear s m args below meth c 2 [(0, va_rf (some o)), (1, .int x1)] K n I J R 0 0 (MQ below (QX D cA bs Z none K n res J R) args s 0 0 (fun q => bs ≤ q)) 28 [] := by
  intro k
  induction k with
  | zero =>
    intro x1 I E
    have E : (none : Option (Im)) = some res := E
    cases E
  | succ k ih =>
    intro x1 I E
    unfold f_X9_clear_28 at E
    refine v_iload_n C 1 dX9_clear_28 rfl ?_
    refine v_iconst C dX9_clear_29 k_iconst_5 ?_
    refine v_icmp_ge C 53 E dX9_clear_30 rfl (fun c5 E => ?_) (fun c5 E => ?_)
    · refine v_iconst C dX9_clear_53 k_iconst_0 ?_
      refine v_istore_n C [(1, .int 0), (0, va_rf (some o))] dX9_clear_54 (Nat.le_of_ble_eq_true rfl) rfl ?_
      exact v_sub [1, 0] [(0, va_rf (some o)), (1, .int 0)] rfl (w_X9_clear_55 C ho res  _ _ _ E)
    · refine v_aload_n (r := (some o)) C 0 dX9_clear_33 rfl ?_
      refine v_getR (r := (some o)) C fa_X9_9 rfl rfl ho dX9_clear_34 ?_
      refine v_iload_n C 1 dX9_clear_37 rfl ?_
      refine v_iconst C dX9_clear_38 k_iconst_0 ?_
      refine v_iast (r := (R o 5)) C E dX9_clear_39 (fun I3 _ E => ?_)
      refine v_aload_n (r := (some o)) C 0 dX9_clear_40 rfl ?_
      refine v_getR (r := (some o)) C fa_X9_15 rfl rfl ho dX9_clear_41 ?_
      refine v_iload_n C 1 dX9_clear_44 rfl ?_
      refine v_iconst C dX9_clear_45 k_iconst_0 ?_
      refine v_iast (r := (R o 6)) C E dX9_clear_46 (fun I4 _ E => ?_)
      refine v_iinc (v := x1 + 1) C 1 [(1, .int (x1 + 1)), (0, va_rf (some o))] dX9_clear_47 rfl (k_inc_1 _) (Nat.le_of_ble_eq_true rfl) rfl ?_
      refine v_goto C 28 dX9_clear_50 rfl ?_
      exact v_sub [1, 0] [(0, va_rf (some o)), (1, .int (x1 + 1))] rfl (ih _ _ E)
set_option maxHeartbeats 4000000 in
theorem w_X9_clear_0 (C : Cx D cA bs Z p s m args meth c cX9_clear RX9 2 none) {o : Nat} {K : Sh} {n : Nat} {J : Jm} {R : Rf} (ho : (K o).1 = 10) (res : Im) (I : Im) (E : f_X9_clear K R o I = some res) : VW D cA bs Z p l e rX9_clear s m args below meth c 2 [(0, va_rf (some o))] K n I J R 0 0 (MQ below (QX D cA bs Z none K n res J R) args s 0 0 (fun q => bs ≤ q)) 0 [] := by
  unfold f_X9_clear at E
  refine v_aload_n (r := (some o)) C 0 dX9_clear_0 rfl ?_
  refine v_iconst C dX9_clear_1 k_iconst_0 ?_
  refine v_putI (r := (some o)) C fa_X9_24 rfl E rfl ho ⟨rfl, rfl⟩ dX9_clear_2 (fun I6 _ E => ?_)
  refine v_aload_n (r := (some o)) C 0 dX9_clear_5 rfl ?_
  refine v_iconst C dX9_clear_6 k_iconst_0 ?_
  refine v_putI (r := (some o)) C fa_X9_28 rfl E rfl ho ⟨rfl, rfl⟩ dX9_clear_7 (fun I7 _ E => ?_)
  refine v_aload_n (r := (some o)) C 0 dX9_clear_10 rfl ?_
  refine v_bipush C dX9_clear_11 k_bipush_10 ?_
  refine v_putI (r := (some o)) C fa_X9_31 rfl E rfl ho ⟨rfl, rfl⟩ dX9_clear_13 (fun I8 _ E => ?_)
  refine v_aload_n (r := (some o)) C 0 dX9_clear_16 rfl ?_
  refine v_iconst C dX9_clear_17 k_iconst_1 ?_
  refine v_putI (r := (some o)) C fa_X9_34 rfl E rfl ho ⟨rfl, rfl⟩ dX9_clear_18 (fun I9 _ E => ?_)
  refine v_aload_n (r := (some o)) C 0 dX9_clear_21 rfl ?_
  refine v_iconst C dX9_clear_22 k_iconst_0 ?_
  refine v_putI (r := (some o)) C fa_X9_37 rfl E rfl ho ⟨rfl, rfl⟩ dX9_clear_23 (fun I10 _ E => ?_)
  refine v_iconst C dX9_clear_26 k_iconst_0 ?_
  refine v_istore_n C [(1, .int 0), (0, va_rf (some o))] dX9_clear_27 (Nat.le_of_ble_eq_true rfl) rfl ?_
  exact v_sub [1, 0] [(0, va_rf (some o)), (1, .int 0)] rfl (w_X9_clear_28 C ho res  _ _ _ E)
set_option maxHeartbeats 4000000 in
theorem c_X9_clear {n : Nat} {K : Sh} {I : Im} {J : Jm} {R : Rf} {o : Nat}  (ho : (K o).1 = 10) {res : Im} (E : f_X9_clear K R o I = some res) : Met l yX9_clear (Cond.code yX9_clear cX9_clear 2 none :: tb) rX9_clear (PX D cA bs Z [.ref o] K n I J R) (QX D cA bs Z none K n res J R) 0 0 (fun q => bs ≤ q) := by
  refine met_of (lv1 := [(0, va_rf (some o))]) pn_X9 (by exact Nat.le_of_ble_eq_true rfl) (by rfl) ?_
  intro p e s m args below meth c C hn
  exact v_sub [0] [(0, va_rf (some o))] rfl (w_X9_clear_0 C ho _ _ E)
set_option maxHeartbeats 4000000 in
theorem w_X4_next_0 (C : Cx D cA bs Z p s m args meth c cX4_next RX4 1 (some .int)) {o : Nat} {K : Sh} {n : Nat} {I : Im} {J : Jm} {R : Rf} (ho : (K o).1 = 5) (res : Int32)  (E : f_X4_next K I R o  = some res) : VW D cA bs Z p l e rX4_next s m args below meth c 1 [(0, va_rf (some o))] K n I J R 0 0 (MQ below (QX D cA bs Z (some (.int res)) K n I J R) args s 0 0 (fun q => bs ≤ q)) 0 [] := by
  unfold f_X4_next at E
  refine v_aload_n (r := (some o)) C 0 dX4_next_0 rfl ?_
  refine v_getI (r := (some o)) C fa_X4_40 rfl rfl ho dX4_next_1 ?_
  refine v_if_eq C 30 E dX4_next_4 rfl (fun c3 E => ?_) (fun c3 E => ?_)
  · refine v_iconst C dX4_next_30 k_iconst_m1 ?_
    obtain rfl := Option.some.inj E
    exact v_iret C rfl dX4_next_31
  · refine v_aload_n (r := (some o)) C 0 dX4_next_7 rfl ?_
    refine v_getI (r := (some o)) C fa_X4_37 rfl rfl ho dX4_next_8 ?_
    refine v_aload_n (r := (some o)) C 0 dX4_next_11 rfl ?_
    refine v_getI (r := (some o)) C fa_X4_29 rfl rfl ho dX4_next_12 ?_
    refine v_icmp_ge C 30 E dX4_next_15 rfl (fun c2 E => ?_) (fun c2 E => ?_)
    · refine v_iconst C dX4_next_30 k_iconst_m1 ?_
      obtain rfl := Option.some.inj E
      exact v_iret C rfl dX4_next_31
    · refine v_aload_n (r := (some o)) C 0 dX4_next_18 rfl ?_
      refine v_getR (r := (some o)) C fa_X4_9 rfl rfl ho dX4_next_19 ?_
      refine v_aload_n (r := (some o)) C 0 dX4_next_22 rfl ?_
      refine v_getI (r := (some o)) C fa_X4_37 rfl rfl ho dX4_next_23 ?_
      refine v_bald (r := (R o 0)) C E dX4_next_26 (fun v1 _ E => ?_)
      refine v_goto C 31 dX4_next_27 rfl ?_
      obtain rfl := Option.some.inj E
      exact v_iret C rfl dX4_next_31
set_option maxHeartbeats 4000000 in
theorem c_X4_next {n : Nat} {K : Sh} {I : Im} {J : Jm} {R : Rf} {o : Nat}  (ho : (K o).1 = 5) {res : Int32} (E : f_X4_next K I R o = some res) : Met l yX4_next (Cond.code yX4_next cX4_next 1 (some .int) :: tb) rX4_next (PX D cA bs Z [.ref o] K n I J R) (QX D cA bs Z (some (.int res)) K n I J R) 0 0 (fun q => bs ≤ q) := by
  refine met_of (lv1 := [(0, va_rf (some o))]) pn_X4 (by exact Nat.le_of_ble_eq_true rfl) (by rfl) ?_
  intro p e s m args below meth c C hn
  exact v_sub [0] [(0, va_rf (some o))] rfl (w_X4_next_0 C ho _  E)
end WK1
