section WK8
variable {D : va_G} {cA : Nat → ClassId} {bs : Nat} {Z : Nat → Nat} {p : Program} {l : Launch} {e : Env} {s : State} {m : MethodId} {args : Array Value} {below : List Frame} {meth : Method} {c : Code}
set_option maxHeartbeats 4000000 in
theorem w_X12_count_0 (C : Cx D cA bs Z p s m args meth c cX12_count RX12 2 (some .int)) {o : Nat} {K : Sh} {n : Nat} {I : Im} {J : Jm} {R : Rf} (ho : (K o).1 = 13) (res : Int32) (x1 : Int32) (E : f_X12_count K I o x1 = some res) : VW D cA bs p l e rX12_count s m args below meth c 2 [(0, va_rf (some o)), (1, .int x1)] K n I J R 0 0 (MQ below (QX D cA bs (some (.int res)) K n I J R) args s 0 0 (fun q => bs ≤ q)) 0 [] := by
  unfold f_X12_count at E
  refine v_iload_n C 1 dX12_count_0 rfl ?_
  by_cases c1 : x1 = 0
  · have E := ite_t E c1
    refine v_tableIn (off := 43) C 44 dX12_count_1 (by rw [c1]; decide) (by rw [c1]; decide) (by rw [c1]; rfl) rfl ?_
    refine v_aload_n (r := (some o)) C 0 dX12_count_44 rfl ?_
    refine v_getI (r := (some o)) C fa_X12_7 rfl rfl ho dX12_count_45 ?_
    obtain rfl := Option.some.inj E
    exact v_iret C rfl dX12_count_48
  have E := ite_f E c1
  by_cases c2 : x1 = 1
  · have E := ite_t E c2
    refine v_tableIn (off := 48) C 49 dX12_count_1 (by rw [c2]; decide) (by rw [c2]; decide) (by rw [c2]; rfl) rfl ?_
    refine v_aload_n (r := (some o)) C 0 dX12_count_49 rfl ?_
    refine v_getI (r := (some o)) C fa_X12_93 rfl rfl ho dX12_count_50 ?_
    obtain rfl := Option.some.inj E
    exact v_iret C rfl dX12_count_53
  have E := ite_f E c2
  by_cases c3 : x1 = 2
  · have E := ite_t E c3
    refine v_tableIn (off := 53) C 54 dX12_count_1 (by rw [c3]; decide) (by rw [c3]; decide) (by rw [c3]; rfl) rfl ?_
    refine v_aload_n (r := (some o)) C 0 dX12_count_54 rfl ?_
    refine v_getI (r := (some o)) C fa_X12_96 rfl rfl ho dX12_count_55 ?_
    obtain rfl := Option.some.inj E
    exact v_iret C rfl dX12_count_58
  have E := ite_f E c3
  by_cases c4 : x1 = 3
  · have E := ite_t E c4
    refine v_tableIn (off := 58) C 59 dX12_count_1 (by rw [c4]; decide) (by rw [c4]; decide) (by rw [c4]; rfl) rfl ?_
    refine v_aload_n (r := (some o)) C 0 dX12_count_59 rfl ?_
    refine v_getI (r := (some o)) C fa_X12_165 rfl rfl ho dX12_count_60 ?_
    obtain rfl := Option.some.inj E
    exact v_iret C rfl dX12_count_63
  have E := ite_f E c4
  by_cases c5 : x1 = 4
  · have E := ite_t E c5
    refine v_tableIn (off := 63) C 64 dX12_count_1 (by rw [c5]; decide) (by rw [c5]; decide) (by rw [c5]; rfl) rfl ?_
    refine v_aload_n (r := (some o)) C 0 dX12_count_64 rfl ?_
    refine v_getI (r := (some o)) C fa_X12_99 rfl rfl ho dX12_count_65 ?_
    obtain rfl := Option.some.inj E
    exact v_iret C rfl dX12_count_68
  have E := ite_f E c5
  by_cases c6 : x1 = 5
  · have E := ite_t E c6
    refine v_tableIn (off := 68) C 69 dX12_count_1 (by rw [c6]; decide) (by rw [c6]; decide) (by rw [c6]; rfl) rfl ?_
    refine v_aload_n (r := (some o)) C 0 dX12_count_69 rfl ?_
    refine v_getI (r := (some o)) C fa_X12_16 rfl rfl ho dX12_count_70 ?_
    obtain rfl := Option.some.inj E
    exact v_iret C rfl dX12_count_73
  have E := ite_f E c6
  by_cases c7 : x1 = 6
  · have E := ite_t E c7
    refine v_tableIn (off := 73) C 74 dX12_count_1 (by rw [c7]; decide) (by rw [c7]; decide) (by rw [c7]; rfl) rfl ?_
    refine v_aload_n (r := (some o)) C 0 dX12_count_74 rfl ?_
    refine v_getI (r := (some o)) C fa_X12_214 rfl rfl ho dX12_count_75 ?_
    obtain rfl := Option.some.inj E
    exact v_iret C rfl dX12_count_78
  have E := ite_f E c7
  refine v_tableOut C 79 dX12_count_1 (by have hc1 := lv_neT c1 (show ((0 : Int32)).toInt = 0 from by decide); have hc2 := lv_neT c2 (show ((1 : Int32)).toInt = 1 from by decide); have hc3 := lv_neT c3 (show ((2 : Int32)).toInt = 2 from by decide); have hc4 := lv_neT c4 (show ((3 : Int32)).toInt = 3 from by decide); have hc5 := lv_neT c5 (show ((4 : Int32)).toInt = 4 from by decide); have hc6 := lv_neT c6 (show ((5 : Int32)).toInt = 5 from by decide); have hc7 := lv_neT c7 (show ((6 : Int32)).toInt = 6 from by decide); omega) rfl ?_
  refine v_bipush C dX12_count_79 k_bipush_m2 ?_
  obtain rfl := Option.some.inj E
  exact v_iret C rfl dX12_count_81
set_option maxHeartbeats 4000000 in
theorem c_X12_count {n : Nat} {K : Sh} {I : Im} {J : Jm} {R : Rf} {o : Nat} {x1 : Int32} (ho : (K o).1 = 13) {res : Int32} (E : f_X12_count K I o x1 = some res) : Met l yX12_count (Cond.code yX12_count cX12_count 2 (some .int) :: tb) rX12_count (PX D cA bs Z [.ref o, .int x1] K n I J R) (QX D cA bs (some (.int res)) K n I J R) 0 0 (fun q => bs ≤ q) := by
  refine met_of (lv1 := [(0, va_rf (some o)), (1, .int x1)]) pn_X12 (by exact Nat.le_of_ble_eq_true rfl) (by rfl) ?_
  intro p e s m args below meth c C hn
  exact v_sub [0, 1] [(0, va_rf (some o)), (1, .int x1)] rfl (w_X12_count_0 C ho _ _ E)
set_option maxHeartbeats 4000000 in
theorem w_X12_tape_69 (C : Cx D cA bs Z p s m args meth c cX12_tape RX12 5 (some .int)) {o : Nat} {K : Sh} {n : Nat} {R : Rf} (ho : (K o).1 = 13) (res : Int32 × Im × Jm)  : ∀ (k : Nat), ∀ (x1 : Int32) (x4 : Int32) (I : Im) (J : Jm), f_X12_tape_69 K R o k x1 x4 I J = some res → VW D cA bs p l e rX12_tape s m args below meth c 5 [(0, va_rf (some o)), (1, .int x1), (4, .int x4)] K n I J R 0 0 (MQ below (QX D cA bs (some (.int res.1)) K n res.2.1 res.2.2 R) args s 0 0 (fun q => bs ≤ q)) 69 [] := by
  intro k
  induction k with
  | zero =>
    intro x1 x4 I J E
    have E : (none : Option (Int32 × Im × Jm)) = some res := E
    cases E
  | succ k ih =>
    intro x1 x4 I J E
    unfold f_X12_tape_69 at E
    refine v_iload C 2 dX12_tape_69 rfl ?_
    refine v_bipush C dX12_tape_71 k_bipush_60 ?_
    refine v_icmp_ge C 95 E dX12_tape_73 rfl (fun c2 E => ?_) (fun c2 E => ?_)
    · refine v_iconst C dX12_tape_95 k_iconst_1 ?_
      obtain rfl := Option.some.inj E
      exact v_iret C rfl dX12_tape_96
    · refine v_aload_n (r := (some o)) C 0 dX12_tape_76 rfl ?_
      refine v_getR (r := (some o)) C fa_X12_226 rfl rfl ho dX12_tape_77 ?_
      refine v_bipush C dX12_tape_80 k_bipush_60 ?_
      refine v_iload_n C 1 dX12_tape_82 rfl ?_
      refine v_imul C dX12_tape_83 ?_
      refine v_iload C 2 dX12_tape_84 rfl ?_
      refine v_iadd C dX12_tape_86 ?_
      refine v_lconst (v := 0) C dX12_tape_87 (by decide) ?_
      refine v_last (r := (R o 71)) C E dX12_tape_88 (fun J1 _ E => ?_)
      refine v_iinc (v := x4 + 1) C 2 [(4, .int (x4 + 1)), (0, va_rf (some o)), (1, .int x1)] dX12_tape_89 rfl (k_inc_1 _) (Nat.le_of_ble_eq_true rfl) rfl ?_
      refine v_goto C 69 dX12_tape_92 rfl ?_
      exact v_sub [1, 2, 0] [(0, va_rf (some o)), (1, .int x1), (4, .int (x4 + 1))] rfl (ih _ _ _ _ E)
set_option maxHeartbeats 4000000 in
theorem w_X12_tape_65 (C : Cx D cA bs Z p s m args meth c cX12_tape RX12 5 (some .int)) {o : Nat} {K : Sh} {n : Nat} {R : Rf} (ho : (K o).1 = 13) (res : Int32 × Im × Jm) (x1 : Int32) (s0 : Option Nat) (s1 : Int32) (s2 : Int32) (I : Im) (J : Jm) (E : f_X12_tape_65 K R o x1 s0 s1 s2 I J = some res) : VW D cA bs p l e rX12_tape s m args below meth c 5 [(0, va_rf (some o)), (1, .int x1)] K n I J R 0 0 (MQ below (QX D cA bs (some (.int res.1)) K n res.2.1 res.2.2 R) args s 0 0 (fun q => bs ≤ q)) 65 [.int s2, .int s1, va_rf s0] := by
  unfold f_X12_tape_65 at E
  refine v_iast (r := s0) C E dX12_tape_65 (fun I3 _ E => ?_)
  refine v_iconst C dX12_tape_66 k_iconst_0 ?_
  refine v_istore C [(4, .int 0), (0, va_rf (some o)), (1, .int x1)] dX12_tape_67 (Nat.le_of_ble_eq_true rfl) rfl ?_
  exact v_sub [1, 2, 0] [(0, va_rf (some o)), (1, .int x1), (4, .int 0)] rfl (w_X12_tape_69 C ho res  _ _ _ _ _ E)
set_option maxHeartbeats 4000000 in
theorem w_X12_tape_44 (C : Cx D cA bs Z p s m args meth c cX12_tape RX12 5 (some .int)) {o : Nat} {K : Sh} {n : Nat} {R : Rf} (ho : (K o).1 = 13) (res : Int32 × Im × Jm) (x1 : Int32) (x2 : Int32) (x3 : Int32) (I : Im) (J : Jm) (E : f_X12_tape_44 K R o x1 x2 x3 I J = some res) : VW D cA bs p l e rX12_tape s m args below meth c 5 [(0, va_rf (some o)), (1, .int x1), (2, .int x2), (3, .int x3)] K n I J R 0 0 (MQ below (QX D cA bs (some (.int res.1)) K n res.2.1 res.2.2 R) args s 0 0 (fun q => bs ≤ q)) 44 [] := by
  unfold f_X12_tape_44 at E
  refine v_aload_n (r := (some o)) C 0 dX12_tape_44 rfl ?_
  refine v_getR (r := (some o)) C fa_X12_220 rfl rfl ho dX12_tape_45 ?_
  refine v_iload_n C 1 dX12_tape_48 rfl ?_
  refine v_iload_n C 2 dX12_tape_49 rfl ?_
  refine v_iast (r := (R o 69)) C E dX12_tape_50 (fun I4 _ E => ?_)
  refine v_aload_n (r := (some o)) C 0 dX12_tape_51 rfl ?_
  refine v_getR (r := (some o)) C fa_X12_223 rfl rfl ho dX12_tape_52 ?_
  refine v_iload_n C 1 dX12_tape_55 rfl ?_
  refine v_iload_n C 2 dX12_tape_56 rfl ?_
  refine v_if_ge C 64 E dX12_tape_57 rfl (fun c5 E => ?_) (fun c5 E => ?_)
  · refine v_iload_n C 3 dX12_tape_64 rfl ?_
    exact v_sub [0, 1] [(0, va_rf (some o)), (1, .int x1)] rfl (w_X12_tape_65 C ho res  _ _ _ _ _ _ E)
  · refine v_iconst C dX12_tape_60 k_iconst_0 ?_
    refine v_goto C 65 dX12_tape_61 rfl ?_
    exact v_sub [0, 1] [(0, va_rf (some o)), (1, .int x1)] rfl (w_X12_tape_65 C ho res  _ _ _ _ _ _ E)
set_option maxHeartbeats 4000000 in
theorem w_X12_tape_33 (C : Cx D cA bs Z p s m args meth c cX12_tape RX12 5 (some .int)) {o : Nat} {K : Sh} {n : Nat} {R : Rf} (ho : (K o).1 = 13) (res : Int32 × Im × Jm) (x1 : Int32) (x2 : Int32) (x3 : Int32) (I : Im) (J : Jm) (E : f_X12_tape_33 K R o x1 x2 x3 I J = some res) : VW D cA bs p l e rX12_tape s m args below meth c 5 [(0, va_rf (some o)), (1, .int x1), (2, .int x2), (3, .int x3)] K n I J R 0 0 (MQ below (QX D cA bs (some (.int res.1)) K n res.2.1 res.2.2 R) args s 0 0 (fun q => bs ≤ q)) 33 [] := by
  unfold f_X12_tape_33 at E
  refine v_iload_n C 2 dX12_tape_33 rfl ?_
  refine v_if_lt C 44 E dX12_tape_34 rfl (fun c7 E => ?_) (fun c7 E => ?_)
  · exact v_sub [0, 1, 2, 3] [(0, va_rf (some o)), (1, .int x1), (2, .int x2), (3, .int x3)] rfl (w_X12_tape_44 C ho res  _ _ _ _ _ E)
  · refine v_iload_n C 3 dX12_tape_37 rfl ?_
    refine v_if_ge C 44 E dX12_tape_38 rfl (fun c6 E => ?_) (fun c6 E => ?_)
    · exact v_sub [0, 1, 2, 3] [(0, va_rf (some o)), (1, .int x1), (2, .int x2), (3, .int x3)] rfl (w_X12_tape_44 C ho res  _ _ _ _ _ E)
    · refine v_bipush C dX12_tape_41 k_bipush_m14 ?_
      obtain rfl := Option.some.inj E
      exact v_iret C rfl dX12_tape_43
set_option maxHeartbeats 4000000 in
theorem w_X12_tape_0 (C : Cx D cA bs Z p s m args meth c cX12_tape RX12 5 (some .int)) {o : Nat} {K : Sh} {n : Nat} {R : Rf} (ho : (K o).1 = 13) (res : Int32 × Im × Jm) (x1 : Int32) (x2 : Int32) (x3 : Int32) (I : Im) (J : Jm) (E : f_X12_tape K R o x1 x2 x3 I J = some res) : VW D cA bs p l e rX12_tape s m args below meth c 5 [(0, va_rf (some o)), (1, .int x1), (2, .int x2), (3, .int x3)] K n I J R 0 0 (MQ below (QX D cA bs (some (.int res.1)) K n res.2.1 res.2.2 R) args s 0 0 (fun q => bs ≤ q)) 0 [] := by
  unfold f_X12_tape at E
  refine v_aload_n (r := (some o)) C 0 dX12_tape_0 rfl ?_
  refine v_iload_n C 1 dX12_tape_1 rfl ?_
  obtain ⟨q8, h9, E⟩ := bnd E
  refine v_callV (r := (some o)) (As := [.int x1]) (rv := (some (.int q8))) (st := []) (st1 := [.int q8]) (ce1 := 0) (sl1 := 0) C cv_X12_388 (c_X12_isTape (x1 := x1) ho h9) rfl ho rfl rfl ⟨rfl, rfl, Nat.le_of_ble_eq_true rfl, Nat.le_of_ble_eq_true rfl⟩ ⟨Nat.le_of_ble_eq_true rfl, Nat.le_of_ble_eq_true rfl⟩ (Nat.le_of_ble_eq_true rfl) rfl rfl rfl dX12_tape_2 ?_
  refine v_if_ne C 10 E dX12_tape_5 rfl (fun c15 E => ?_) (fun c15 E => ?_)
  · refine v_iconst C dX12_tape_8 k_iconst_m1 ?_
    obtain rfl := Option.some.inj E
    exact v_iret C rfl dX12_tape_9
  · refine v_aload_n (r := (some o)) C 0 dX12_tape_10 rfl ?_
    refine v_iload_n C 2 dX12_tape_11 rfl ?_
    refine v_iconst C dX12_tape_12 k_iconst_m1 ?_
    refine v_iconst C dX12_tape_13 k_iconst_4 ?_
    obtain ⟨q10, h11, E⟩ := bnd E
    refine v_callV (r := (some o)) (As := [.int x2, .int (-1), .int 4]) (rv := (some (.int q10))) (st := []) (st1 := [.int q10]) (ce1 := 0) (sl1 := 0) C cv_X12_233 (c_X12_in (x1 := x2) (x2 := (-1)) (x3 := 4) ho h11) rfl ho rfl rfl ⟨rfl, rfl, Nat.le_of_ble_eq_true rfl, Nat.le_of_ble_eq_true rfl⟩ ⟨Nat.le_of_ble_eq_true rfl, Nat.le_of_ble_eq_true rfl⟩ (Nat.le_of_ble_eq_true rfl) rfl rfl rfl dX12_tape_14 ?_
    refine v_if_eq C 30 E dX12_tape_17 rfl (fun c14 E => ?_) (fun c14 E => ?_)
    · refine v_bipush C dX12_tape_30 k_bipush_m2 ?_
      obtain rfl := Option.some.inj E
      exact v_iret C rfl dX12_tape_32
    · refine v_iload_n C 2 dX12_tape_20 rfl ?_
      refine v_if_lt C 33 E dX12_tape_21 rfl (fun c13 E => ?_) (fun c13 E => ?_)
      · exact v_sub [0, 1, 2, 3] [(0, va_rf (some o)), (1, .int x1), (2, .int x2), (3, .int x3)] rfl (w_X12_tape_33 C ho res  _ _ _ _ _ E)
      · refine v_iload_n C 3 dX12_tape_24 rfl ?_
        refine v_bipush C dX12_tape_25 k_bipush_60 ?_
        refine v_icmp_le C 33 E dX12_tape_27 rfl (fun c12 E => ?_) (fun c12 E => ?_)
        · exact v_sub [0, 1, 2, 3] [(0, va_rf (some o)), (1, .int x1), (2, .int x2), (3, .int x3)] rfl (w_X12_tape_33 C ho res  _ _ _ _ _ E)
        · refine v_bipush C dX12_tape_30 k_bipush_m2 ?_
          obtain rfl := Option.some.inj E
          exact v_iret C rfl dX12_tape_32
set_option maxHeartbeats 4000000 in
theorem c_X12_tape {n : Nat} {K : Sh} {I : Im} {J : Jm} {R : Rf} {o : Nat} {x1 : Int32} {x2 : Int32} {x3 : Int32} (ho : (K o).1 = 13) {res : Int32 × Im × Jm} (E : f_X12_tape K R o x1 x2 x3 I J = some res) : Met l yX12_tape (Cond.code yX12_tape cX12_tape 5 (some .int) :: tb) rX12_tape (PX D cA bs Z [.ref o, .int x1, .int x2, .int x3] K n I J R) (QX D cA bs (some (.int res.1)) K n res.2.1 res.2.2 R) 0 0 (fun q => bs ≤ q) := by
  refine met_of (lv1 := [(0, va_rf (some o)), (1, .int x1), (2, .int x2), (3, .int x3)]) pn_X12 (by exact Nat.le_of_ble_eq_true rfl) (by rfl) ?_
  intro p e s m args below meth c C hn
  exact v_sub [0, 1, 2, 3] [(0, va_rf (some o)), (1, .int x1), (2, .int x2), (3, .int x3)] rfl (w_X12_tape_0 C ho _ _ _ _ _ _ E)
set_option maxHeartbeats 4000000 in
theorem w_X12_narrow_0 (C : Cx D cA bs Z p s m args meth c cX12_narrow RX12 4 (some .long)) {o : Nat} {K : Sh} {n : Nat} {I : Im} {J : Jm} {R : Rf} (ho : (K o).1 = 13) (res : Int64) (x1 : Int32) (x2 : Int64) (E : f_X12_narrow o x1 x2 = some res) : VW D cA bs p l e rX12_narrow s m args below meth c 4 [(0, va_rf (some o)), (1, .int x1), (2, .long x2)] K n I J R 0 0 (MQ below (QX D cA bs (some (.long res)) K n I J R) args s 0 0 (fun q => bs ≤ q)) 0 [] := by
  unfold f_X12_narrow at E
  refine v_iload_n C 1 dX12_narrow_0 rfl ?_
  refine v_if_ne C 11 E dX12_narrow_1 rfl (fun c5 E => ?_) (fun c5 E => ?_)
  · refine v_lload_n C 2 dX12_narrow_4 rfl ?_
    refine v_l2i C dX12_narrow_5 ?_
    refine v_i2b C dX12_narrow_6 ?_
    refine v_i2l C dX12_narrow_7 ?_
    refine v_goto C 54 dX12_narrow_8 rfl ?_
    obtain rfl := Option.some.inj E
    exact v_lret C rfl dX12_narrow_54
  · refine v_iload_n C 1 dX12_narrow_11 rfl ?_
    refine v_iconst C dX12_narrow_12 k_iconst_1 ?_
    refine v_icmp_ne C 23 E dX12_narrow_13 rfl (fun c4 E => ?_) (fun c4 E => ?_)
    · refine v_lload_n C 2 dX12_narrow_16 rfl ?_
      refine v_l2i C dX12_narrow_17 ?_
      refine v_i2s C dX12_narrow_18 ?_
      refine v_i2l C dX12_narrow_19 ?_
      refine v_goto C 54 dX12_narrow_20 rfl ?_
      obtain rfl := Option.some.inj E
      exact v_lret C rfl dX12_narrow_54
    · refine v_iload_n C 1 dX12_narrow_23 rfl ?_
      refine v_iconst C dX12_narrow_24 k_iconst_2 ?_
      refine v_icmp_ne C 34 E dX12_narrow_25 rfl (fun c3 E => ?_) (fun c3 E => ?_)
      · refine v_lload_n C 2 dX12_narrow_28 rfl ?_
        refine v_l2i C dX12_narrow_29 ?_
        refine v_i2l C dX12_narrow_30 ?_
        refine v_goto C 54 dX12_narrow_31 rfl ?_
        obtain rfl := Option.some.inj E
        exact v_lret C rfl dX12_narrow_54
      · refine v_iload_n C 1 dX12_narrow_34 rfl ?_
        refine v_iconst C dX12_narrow_35 k_iconst_4 ?_
        refine v_icmp_ne C 53 E dX12_narrow_36 rfl (fun c2 E => ?_) (fun c2 E => ?_)
        · refine v_lload_n C 2 dX12_narrow_39 rfl ?_
          refine v_lconst (v := 0) C dX12_narrow_40 (by decide) ?_
          refine v_lcmp C dX12_narrow_41 ?_
          refine v_if_eq C 49 E dX12_narrow_42 rfl (fun c1 E => ?_) (fun c1 E => ?_)
          · refine v_lconst (v := 0) C dX12_narrow_49 (by decide) ?_
            refine v_goto C 54 dX12_narrow_50 rfl ?_
            obtain rfl := Option.some.inj E
            exact v_lret C rfl dX12_narrow_54
          · refine v_lconst (v := 1) C dX12_narrow_45 (by decide) ?_
            refine v_goto C 54 dX12_narrow_46 rfl ?_
            obtain rfl := Option.some.inj E
            exact v_lret C rfl dX12_narrow_54
        · refine v_lload_n C 2 dX12_narrow_53 rfl ?_
          obtain rfl := Option.some.inj E
          exact v_lret C rfl dX12_narrow_54
set_option maxHeartbeats 4000000 in
theorem c_X12_narrow {n : Nat} {K : Sh} {I : Im} {J : Jm} {R : Rf} {o : Nat} {x1 : Int32} {x2 : Int64} (ho : (K o).1 = 13) {res : Int64} (E : f_X12_narrow o x1 x2 = some res) : Met l yX12_narrow (Cond.code yX12_narrow cX12_narrow 4 (some .long) :: tb) rX12_narrow (PX D cA bs Z [.ref o, .int x1, .long x2] K n I J R) (QX D cA bs (some (.long res)) K n I J R) 0 0 (fun q => bs ≤ q) := by
  refine met_of (lv1 := [(0, va_rf (some o)), (1, .int x1), (2, .long x2)]) pn_X12 (by exact Nat.le_of_ble_eq_true rfl) (by rfl) ?_
  intro p e s m args below meth c C hn
  exact v_sub [0, 1, 2] [(0, va_rf (some o)), (1, .int x1), (2, .long x2)] rfl (w_X12_narrow_0 C ho _ _ _ E)
set_option maxHeartbeats 4000000 in
theorem w_X12_item_0 (C : Cx D cA bs Z p s m args meth c cX12_item RX12 5 (some .int)) {o : Nat} {K : Sh} {n : Nat} {I : Im} {R : Rf} (ho : (K o).1 = 13) (res : Int32 × Jm) (x1 : Int32) (x2 : Int32) (x3 : Int64) (J : Jm) (E : f_X12_item K I R o x1 x2 x3 J = some res) : VW D cA bs p l e rX12_item s m args below meth c 5 [(0, va_rf (some o)), (1, .int x1), (2, .int x2), (3, .long x3)] K n I J R 0 0 (MQ below (QX D cA bs (some (.int res.1)) K n I res.2 R) args s 0 0 (fun q => bs ≤ q)) 0 [] := by
  unfold f_X12_item at E
  refine v_aload_n (r := (some o)) C 0 dX12_item_0 rfl ?_
  refine v_iload_n C 1 dX12_item_1 rfl ?_
  obtain ⟨q1, h2, E⟩ := bnd E
  refine v_callV (r := (some o)) (As := [.int x1]) (rv := (some (.int q1))) (st := []) (st1 := [.int q1]) (ce1 := 0) (sl1 := 0) C cv_X12_388 (c_X12_isTape (x1 := x1) ho h2) rfl ho rfl rfl ⟨rfl, rfl, Nat.le_of_ble_eq_true rfl, Nat.le_of_ble_eq_true rfl⟩ ⟨Nat.le_of_ble_eq_true rfl, Nat.le_of_ble_eq_true rfl⟩ (Nat.le_of_ble_eq_true rfl) rfl rfl rfl dX12_item_2 ?_
  refine v_if_ne C 10 E dX12_item_5 rfl (fun c13 E => ?_) (fun c13 E => ?_)
  · refine v_iconst C dX12_item_8 k_iconst_m1 ?_
    obtain rfl := Option.some.inj E
    exact v_iret C rfl dX12_item_9
  · refine v_aload_n (r := (some o)) C 0 dX12_item_10 rfl ?_
    refine v_getR (r := (some o)) C fa_X12_220 rfl rfl ho dX12_item_11 ?_
    refine v_iload_n C 1 dX12_item_14 rfl ?_
    refine v_iald (r := (R o 69)) C E dX12_item_15 (fun v3 _ E => ?_)
    refine v_if_ge C 22 E dX12_item_16 rfl (fun c12 E => ?_) (fun c12 E => ?_)
    · refine v_aload_n (r := (some o)) C 0 dX12_item_22 rfl ?_
      refine v_iload_n C 2 dX12_item_23 rfl ?_
      refine v_iconst C dX12_item_24 k_iconst_0 ?_
      refine v_aload_n (r := (some o)) C 0 dX12_item_25 rfl ?_
      refine v_getR (r := (some o)) C fa_X12_223 rfl rfl ho dX12_item_26 ?_
      refine v_iload_n C 1 dX12_item_29 rfl ?_
      refine v_iald (r := (R o 70)) C E dX12_item_30 (fun v4 _ E => ?_)
      refine v_iconst C dX12_item_31 k_iconst_1 ?_
      refine v_isub C dX12_item_32 ?_
      obtain ⟨q5, h6, E⟩ := bnd E
      refine v_callV (r := (some o)) (As := [.int x2, .int 0, .int (v4 - 1)]) (rv := (some (.int q5))) (st := []) (st1 := [.int q5]) (ce1 := 0) (sl1 := 0) C cv_X12_233 (c_X12_in (x1 := x2) (x2 := 0) (x3 := (v4 - 1)) ho h6) rfl ho rfl rfl ⟨rfl, rfl, Nat.le_of_ble_eq_true rfl, Nat.le_of_ble_eq_true rfl⟩ ⟨Nat.le_of_ble_eq_true rfl, Nat.le_of_ble_eq_true rfl⟩ (Nat.le_of_ble_eq_true rfl) rfl rfl rfl dX12_item_33 ?_
      refine v_if_ne C 42 E dX12_item_36 rfl (fun c11 E => ?_) (fun c11 E => ?_)
      · refine v_bipush C dX12_item_39 k_bipush_m13 ?_
        obtain rfl := Option.some.inj E
        exact v_iret C rfl dX12_item_41
      · refine v_aload_n (r := (some o)) C 0 dX12_item_42 rfl ?_
        refine v_getR (r := (some o)) C fa_X12_226 rfl rfl ho dX12_item_43 ?_
        refine v_bipush C dX12_item_46 k_bipush_60 ?_
        refine v_iload_n C 1 dX12_item_48 rfl ?_
        refine v_imul C dX12_item_49 ?_
        refine v_iload_n C 2 dX12_item_50 rfl ?_
        refine v_iadd C dX12_item_51 ?_
        refine v_aload_n (r := (some o)) C 0 dX12_item_52 rfl ?_
        refine v_aload_n (r := (some o)) C 0 dX12_item_53 rfl ?_
        refine v_getR (r := (some o)) C fa_X12_220 rfl rfl ho dX12_item_54 ?_
        refine v_iload_n C 1 dX12_item_57 rfl ?_
        refine v_iald (r := (R o 69)) C E dX12_item_58 (fun v7 _ E => ?_)
        refine v_lload_n C 3 dX12_item_59 rfl ?_
        obtain ⟨q8, h9, E⟩ := bnd E
        refine v_callV (r := (some o)) (As := [.int v7, .long x3]) (rv := (some (.long q8))) (st := [.int ((60 * x1) + x2), va_rf (R o 71)]) (st1 := [.long q8, .int ((60 * x1) + x2), va_rf (R o 71)]) (ce1 := 0) (sl1 := 0) C cv_X12_424 (c_X12_narrow (x1 := v7) (x2 := x3) ho h9) rfl ho rfl rfl ⟨rfl, rfl, Nat.le_of_ble_eq_true rfl, Nat.le_of_ble_eq_true rfl⟩ ⟨Nat.le_of_ble_eq_true rfl, Nat.le_of_ble_eq_true rfl⟩ (by simp only [List.map_cons, List.map_nil, List.sum_cons, List.sum_nil, rf_cat]; exact Nat.le_of_ble_eq_true rfl) rfl rfl rfl dX12_item_60 ?_
        refine v_last (r := (R o 71)) C E dX12_item_63 (fun J10 _ E => ?_)
        refine v_iconst C dX12_item_64 k_iconst_1 ?_
        obtain rfl := Option.some.inj E
        exact v_iret C rfl dX12_item_65
    · refine v_bipush C dX12_item_19 k_bipush_m11 ?_
      obtain rfl := Option.some.inj E
      exact v_iret C rfl dX12_item_21
set_option maxHeartbeats 4000000 in
theorem c_X12_item {n : Nat} {K : Sh} {I : Im} {J : Jm} {R : Rf} {o : Nat} {x1 : Int32} {x2 : Int32} {x3 : Int64} (ho : (K o).1 = 13) {res : Int32 × Jm} (E : f_X12_item K I R o x1 x2 x3 J = some res) : Met l yX12_item (Cond.code yX12_item cX12_item 5 (some .int) :: tb) rX12_item (PX D cA bs Z [.ref o, .int x1, .int x2, .long x3] K n I J R) (QX D cA bs (some (.int res.1)) K n I res.2 R) 0 0 (fun q => bs ≤ q) := by
  refine met_of (lv1 := [(0, va_rf (some o)), (1, .int x1), (2, .int x2), (3, .long x3)]) pn_X12 (by exact Nat.le_of_ble_eq_true rfl) (by rfl) ?_
  intro p e s m args below meth c C hn
  exact v_sub [0, 1, 2, 3] [(0, va_rf (some o)), (1, .int x1), (2, .int x2), (3, .long x3)] rfl (w_X12_item_0 C ho _ _ _ _ _ E)
set_option maxHeartbeats 4000000 in
theorem w_X12_read_0 (C : Cx D cA bs Z p s m args meth c cX12_read RX12 3 (some .long)) {o : Nat} {K : Sh} {n : Nat} {I : Im} {J : Jm} {R : Rf} (ho : (K o).1 = 13) (res : Int64) (x1 : Int32) (x2 : Int32) (E : f_X12_read K I J R o x1 x2 = some res) : VW D cA bs p l e rX12_read s m args below meth c 3 [(0, va_rf (some o)), (1, .int x1), (2, .int x2)] K n I J R 0 0 (MQ below (QX D cA bs (some (.long res)) K n I J R) args s 0 0 (fun q => bs ≤ q)) 0 [] := by
  unfold f_X12_read at E
  refine v_aload_n (r := (some o)) C 0 dX12_read_0 rfl ?_
  refine v_iload_n C 1 dX12_read_1 rfl ?_
  obtain ⟨q1, h2, E⟩ := bnd E
  refine v_callV (r := (some o)) (As := [.int x1]) (rv := (some (.int q1))) (st := []) (st1 := [.int q1]) (ce1 := 0) (sl1 := 0) C cv_X12_388 (c_X12_isTape (x1 := x1) ho h2) rfl ho rfl rfl ⟨rfl, rfl, Nat.le_of_ble_eq_true rfl, Nat.le_of_ble_eq_true rfl⟩ ⟨Nat.le_of_ble_eq_true rfl, Nat.le_of_ble_eq_true rfl⟩ (Nat.le_of_ble_eq_true rfl) rfl rfl rfl dX12_read_2 ?_
  refine v_if_eq C 34 E dX12_read_5 rfl (fun c10 E => ?_) (fun c10 E => ?_)
  · refine v_ldc2 C ct_X12_377 dX12_read_34 ?_
    refine v_goto C 51 dX12_read_37 rfl ?_
    obtain rfl := Option.some.inj E
    exact v_lret C rfl dX12_read_51
  · refine v_aload_n (r := (some o)) C 0 dX12_read_8 rfl ?_
    refine v_getR (r := (some o)) C fa_X12_220 rfl rfl ho dX12_read_9 ?_
    refine v_iload_n C 1 dX12_read_12 rfl ?_
    refine v_iald (r := (R o 69)) C E dX12_read_13 (fun v3 _ E => ?_)
    refine v_if_lt C 34 E dX12_read_14 rfl (fun c9 E => ?_) (fun c9 E => ?_)
    · refine v_ldc2 C ct_X12_377 dX12_read_34 ?_
      refine v_goto C 51 dX12_read_37 rfl ?_
      obtain rfl := Option.some.inj E
      exact v_lret C rfl dX12_read_51
    · refine v_aload_n (r := (some o)) C 0 dX12_read_17 rfl ?_
      refine v_iload_n C 2 dX12_read_18 rfl ?_
      refine v_iconst C dX12_read_19 k_iconst_0 ?_
      refine v_aload_n (r := (some o)) C 0 dX12_read_20 rfl ?_
      refine v_getR (r := (some o)) C fa_X12_223 rfl rfl ho dX12_read_21 ?_
      refine v_iload_n C 1 dX12_read_24 rfl ?_
      refine v_iald (r := (R o 70)) C E dX12_read_25 (fun v4 _ E => ?_)
      refine v_iconst C dX12_read_26 k_iconst_1 ?_
      refine v_isub C dX12_read_27 ?_
      obtain ⟨q5, h6, E⟩ := bnd E
      refine v_callV (r := (some o)) (As := [.int x2, .int 0, .int (v4 - 1)]) (rv := (some (.int q5))) (st := []) (st1 := [.int q5]) (ce1 := 0) (sl1 := 0) C cv_X12_233 (c_X12_in (x1 := x2) (x2 := 0) (x3 := (v4 - 1)) ho h6) rfl ho rfl rfl ⟨rfl, rfl, Nat.le_of_ble_eq_true rfl, Nat.le_of_ble_eq_true rfl⟩ ⟨Nat.le_of_ble_eq_true rfl, Nat.le_of_ble_eq_true rfl⟩ (Nat.le_of_ble_eq_true rfl) rfl rfl rfl dX12_read_28 ?_
      refine v_if_ne C 40 E dX12_read_31 rfl (fun c8 E => ?_) (fun c8 E => ?_)
      · refine v_ldc2 C ct_X12_377 dX12_read_34 ?_
        refine v_goto C 51 dX12_read_37 rfl ?_
        obtain rfl := Option.some.inj E
        exact v_lret C rfl dX12_read_51
      · refine v_aload_n (r := (some o)) C 0 dX12_read_40 rfl ?_
        refine v_getR (r := (some o)) C fa_X12_226 rfl rfl ho dX12_read_41 ?_
        refine v_bipush C dX12_read_44 k_bipush_60 ?_
        refine v_iload_n C 1 dX12_read_46 rfl ?_
        refine v_imul C dX12_read_47 ?_
        refine v_iload_n C 2 dX12_read_48 rfl ?_
        refine v_iadd C dX12_read_49 ?_
        refine v_lald (r := (R o 71)) C E dX12_read_50 (fun v7 _ E => ?_)
        obtain rfl := Option.some.inj E
        exact v_lret C rfl dX12_read_51
set_option maxHeartbeats 4000000 in
theorem c_X12_read {n : Nat} {K : Sh} {I : Im} {J : Jm} {R : Rf} {o : Nat} {x1 : Int32} {x2 : Int32} (ho : (K o).1 = 13) {res : Int64} (E : f_X12_read K I J R o x1 x2 = some res) : Met l yX12_read (Cond.code yX12_read cX12_read 3 (some .long) :: tb) rX12_read (PX D cA bs Z [.ref o, .int x1, .int x2] K n I J R) (QX D cA bs (some (.long res)) K n I J R) 0 0 (fun q => bs ≤ q) := by
  refine met_of (lv1 := [(0, va_rf (some o)), (1, .int x1), (2, .int x2)]) pn_X12 (by exact Nat.le_of_ble_eq_true rfl) (by rfl) ?_
  intro p e s m args below meth c C hn
  exact v_sub [0, 1, 2] [(0, va_rf (some o)), (1, .int x1), (2, .int x2)] rfl (w_X12_read_0 C ho _ _ _ E)
set_option maxHeartbeats 4000000 in
theorem w_X12_shift_141 (C : Cx D cA bs Z p s m args meth c cX12_shift RX12 7 (some .int)) {o : Nat} {K : Sh} {n : Nat} {I : Im} {R : Rf} (ho : (K o).1 = 13) (res : Int32 × Jm)  : ∀ (k : Nat), ∀ (x3 : Int32) (x4 : Int32) (x5 : Int32) (x6 : Int32) (J : Jm), f_X12_shift_141 K I R o k x3 x4 x5 x6 J = some res → VW D cA bs p l e rX12_shift s m args below meth c 7 [(0, va_rf (some o)), (3, .int x3), (4, .int x4), (5, .int x5), (6, .int x6)] K n I J R 0 0 (MQ below (QX D cA bs (some (.int res.1)) K n I res.2 R) args s 0 0 (fun q => bs ≤ q)) 141 [] := by
  intro k
  induction k with
  | zero =>
    intro x3 x4 x5 x6 J E
    have E : (none : Option (Int32 × Jm)) = some res := E
    cases E
  | succ k ih =>
    intro x3 x4 x5 x6 J E
    unfold f_X12_shift_141 at E
    refine v_iload C 4 dX12_shift_141 rfl ?_
    refine v_iload C 3 dX12_shift_143 rfl ?_
    refine v_icmp_ge C 176 E dX12_shift_145 rfl (fun c3 E => ?_) (fun c3 E => ?_)
    · refine v_iload C 3 dX12_shift_176 rfl ?_
      obtain rfl := Option.some.inj E
      exact v_iret C rfl dX12_shift_178
    · refine v_aload_n (r := (some o)) C 0 dX12_shift_148 rfl ?_
      refine v_getR (r := (some o)) C fa_X12_226 rfl rfl ho dX12_shift_149 ?_
      refine v_bipush C dX12_shift_152 k_bipush_60 ?_
      refine v_iload_n C 1 dX12_shift_154 rfl ?_
      refine v_imul C dX12_shift_155 ?_
      refine v_iload C 2 dX12_shift_156 rfl ?_
      refine v_iadd C dX12_shift_158 ?_
      refine v_iload C 4 dX12_shift_159 rfl ?_
      refine v_iadd C dX12_shift_161 ?_
      refine v_aload_n (r := (some o)) C 0 dX12_shift_162 rfl ?_
      refine v_getR (r := (some o)) C fa_X12_230 rfl rfl ho dX12_shift_163 ?_
      refine v_iload C 4 dX12_shift_166 rfl ?_
      refine v_lald (r := (R o 72)) C E dX12_shift_168 (fun v1 _ E => ?_)
      refine v_last (r := (R o 71)) C E dX12_shift_169 (fun J2 _ E => ?_)
      refine v_iinc (v := x6 + 1) C 4 [(6, .int (x6 + 1)), (0, va_rf (some o)), (3, .int x3), (4, .int x4), (5, .int x5)] dX12_shift_170 rfl (k_inc_1 _) (Nat.le_of_ble_eq_true rfl) rfl ?_
      refine v_goto C 141 dX12_shift_173 rfl ?_
      exact v_sub [1, 2, 3, 4, 0] [(0, va_rf (some o)), (3, .int x3), (4, .int x4), (5, .int x5), (6, .int (x6 + 1))] rfl (ih _ _ _ _ _ E)
set_option maxHeartbeats 4000000 in
theorem w_X12_shift_104 (C : Cx D cA bs Z p s m args meth c cX12_shift RX12 7 (some .int)) {o : Nat} {K : Sh} {n : Nat} {I : Im} {R : Rf} (ho : (K o).1 = 13) (res : Int32 × Jm)  : ∀ (k : Nat), ∀ (x1 : Int32) (x2 : Int32) (x3 : Int32) (x4 : Int32) (x5 : Int32) (x6 : Int32) (J : Jm), f_X12_shift_104 K I R o k x1 x2 x3 x4 x5 x6 J = some res → VW D cA bs p l e rX12_shift s m args below meth c 7 [(0, va_rf (some o)), (1, .int x1), (2, .int x2), (3, .int x3), (4, .int x4), (5, .int x5), (6, .int x6)] K n I J R 0 0 (MQ below (QX D cA bs (some (.int res.1)) K n I res.2 R) args s 0 0 (fun q => bs ≤ q)) 104 [] := by
  intro k
  induction k with
  | zero =>
    intro x1 x2 x3 x4 x5 x6 J E
    have E : (none : Option (Int32 × Jm)) = some res := E
    cases E
  | succ k ih =>
    intro x1 x2 x3 x4 x5 x6 J E
    unfold f_X12_shift_104 at E
    refine v_iload C 6 dX12_shift_104 rfl ?_
    refine v_iload C 5 dX12_shift_106 rfl ?_
    refine v_icmp_ge C 138 E dX12_shift_108 rfl (fun c6 E => ?_) (fun c6 E => ?_)
    · refine v_iconst C dX12_shift_138 k_iconst_0 ?_
      refine v_istore C [(6, .int 0), (0, va_rf (some o)), (1, .int x1), (2, .int x2), (3, .int x3), (4, .int x4), (5, .int x5)] dX12_shift_139 (Nat.le_of_ble_eq_true rfl) rfl ?_
      exact v_sub [1, 4, 5, 6, 0] [(0, va_rf (some o)), (3, .int x3), (4, .int x4), (5, .int x5), (6, .int 0)] rfl (w_X12_shift_141 C ho res  _ _ _ _ _ _ E)
    · refine v_aload_n (r := (some o)) C 0 dX12_shift_111 rfl ?_
      refine v_getR (r := (some o)) C fa_X12_230 rfl rfl ho dX12_shift_112 ?_
      refine v_iload C 6 dX12_shift_115 rfl ?_
      refine v_aload_n (r := (some o)) C 0 dX12_shift_117 rfl ?_
      refine v_getR (r := (some o)) C fa_X12_226 rfl rfl ho dX12_shift_118 ?_
      refine v_bipush C dX12_shift_121 k_bipush_60 ?_
      refine v_iload_n C 1 dX12_shift_123 rfl ?_
      refine v_imul C dX12_shift_124 ?_
      refine v_iload_n C 2 dX12_shift_125 rfl ?_
      refine v_iadd C dX12_shift_126 ?_
      refine v_iload C 6 dX12_shift_127 rfl ?_
      refine v_iadd C dX12_shift_129 ?_
      refine v_lald (r := (R o 71)) C E dX12_shift_130 (fun v4 _ E => ?_)
      refine v_last (r := (R o 72)) C E dX12_shift_131 (fun J5 _ E => ?_)
      refine v_iinc (v := x6 + 1) C 6 [(6, .int (x6 + 1)), (0, va_rf (some o)), (1, .int x1), (2, .int x2), (3, .int x3), (4, .int x4), (5, .int x5)] dX12_shift_132 rfl (k_inc_1 _) (Nat.le_of_ble_eq_true rfl) rfl ?_
      refine v_goto C 104 dX12_shift_135 rfl ?_
      exact v_sub [1, 2, 3, 4, 5, 6, 0] [(0, va_rf (some o)), (1, .int x1), (2, .int x2), (3, .int x3), (4, .int x4), (5, .int x5), (6, .int (x6 + 1))] rfl (ih _ _ _ _ _ _ _ E)
set_option maxHeartbeats 4000000 in
theorem w_X12_shift_0 (C : Cx D cA bs Z p s m args meth c cX12_shift RX12 7 (some .int)) {o : Nat} {K : Sh} {n : Nat} {I : Im} {R : Rf} (ho : (K o).1 = 13) (res : Int32 × Jm) (x1 : Int32) (x2 : Int32) (x3 : Int32) (x4 : Int32) (x5 : Int32) (J : Jm) (E : f_X12_shift K I R o x1 x2 x3 x4 x5 J = some res) : VW D cA bs p l e rX12_shift s m args below meth c 7 [(0, va_rf (some o)), (1, .int x1), (2, .int x2), (3, .int x3), (4, .int x4), (5, .int x5)] K n I J R 0 0 (MQ below (QX D cA bs (some (.int res.1)) K n I res.2 R) args s 0 0 (fun q => bs ≤ q)) 0 [] := by
  unfold f_X12_shift at E
  refine v_aload_n (r := (some o)) C 0 dX12_shift_0 rfl ?_
  refine v_iload_n C 1 dX12_shift_1 rfl ?_
  obtain ⟨q7, h8, E⟩ := bnd E
  refine v_callV (r := (some o)) (As := [.int x1]) (rv := (some (.int q7))) (st := []) (st1 := [.int q7]) (ce1 := 0) (sl1 := 0) C cv_X12_388 (c_X12_isTape (x1 := x1) ho h8) rfl ho rfl rfl ⟨rfl, rfl, Nat.le_of_ble_eq_true rfl, Nat.le_of_ble_eq_true rfl⟩ ⟨Nat.le_of_ble_eq_true rfl, Nat.le_of_ble_eq_true rfl⟩ (Nat.le_of_ble_eq_true rfl) rfl rfl rfl dX12_shift_2 ?_
  refine v_if_eq C 16 E dX12_shift_5 rfl (fun c26 E => ?_) (fun c26 E => ?_)
  · refine v_iconst C dX12_shift_16 k_iconst_m1 ?_
    obtain rfl := Option.some.inj E
    exact v_iret C rfl dX12_shift_17
  · refine v_aload_n (r := (some o)) C 0 dX12_shift_8 rfl ?_
    refine v_iload_n C 3 dX12_shift_9 rfl ?_
    obtain ⟨q9, h10, E⟩ := bnd E
    refine v_callV (r := (some o)) (As := [.int x3]) (rv := (some (.int q9))) (st := []) (st1 := [.int q9]) (ce1 := 0) (sl1 := 0) C cv_X12_388 (c_X12_isTape (x1 := x3) ho h10) rfl ho rfl rfl ⟨rfl, rfl, Nat.le_of_ble_eq_true rfl, Nat.le_of_ble_eq_true rfl⟩ ⟨Nat.le_of_ble_eq_true rfl, Nat.le_of_ble_eq_true rfl⟩ (Nat.le_of_ble_eq_true rfl) rfl rfl rfl dX12_shift_10 ?_
    refine v_if_ne C 18 E dX12_shift_13 rfl (fun c25 E => ?_) (fun c25 E => ?_)
    · refine v_iconst C dX12_shift_16 k_iconst_m1 ?_
      obtain rfl := Option.some.inj E
      exact v_iret C rfl dX12_shift_17
    · refine v_aload_n (r := (some o)) C 0 dX12_shift_18 rfl ?_
      refine v_getR (r := (some o)) C fa_X12_220 rfl rfl ho dX12_shift_19 ?_
      refine v_iload_n C 1 dX12_shift_22 rfl ?_
      refine v_iald (r := (R o 69)) C E dX12_shift_23 (fun v11 _ E => ?_)
      refine v_if_lt C 36 E dX12_shift_24 rfl (fun c24 E => ?_) (fun c24 E => ?_)
      · refine v_bipush C dX12_shift_36 k_bipush_m11 ?_
        obtain rfl := Option.some.inj E
        exact v_iret C rfl dX12_shift_38
      · refine v_aload_n (r := (some o)) C 0 dX12_shift_27 rfl ?_
        refine v_getR (r := (some o)) C fa_X12_220 rfl rfl ho dX12_shift_28 ?_
        refine v_iload_n C 3 dX12_shift_31 rfl ?_
        refine v_iald (r := (R o 69)) C E dX12_shift_32 (fun v12 _ E => ?_)
        refine v_if_ge C 39 E dX12_shift_33 rfl (fun c23 E => ?_) (fun c23 E => ?_)
        · refine v_aload_n (r := (some o)) C 0 dX12_shift_39 rfl ?_
          refine v_getR (r := (some o)) C fa_X12_220 rfl rfl ho dX12_shift_40 ?_
          refine v_iload_n C 1 dX12_shift_43 rfl ?_
          refine v_iald (r := (R o 69)) C E dX12_shift_44 (fun v13 _ E => ?_)
          refine v_aload_n (r := (some o)) C 0 dX12_shift_45 rfl ?_
          refine v_getR (r := (some o)) C fa_X12_220 rfl rfl ho dX12_shift_46 ?_
          refine v_iload_n C 3 dX12_shift_49 rfl ?_
          refine v_iald (r := (R o 69)) C E dX12_shift_50 (fun v14 _ E => ?_)
          refine v_icmp_eq C 57 E dX12_shift_51 rfl (fun c22 E => ?_) (fun c22 E => ?_)
          · refine v_iload C 5 dX12_shift_57 rfl ?_
            refine v_if_lt C 98 E dX12_shift_59 rfl (fun c21 E => ?_) (fun c21 E => ?_)
            · refine v_bipush C dX12_shift_98 k_bipush_m13 ?_
              obtain rfl := Option.some.inj E
              exact v_iret C rfl dX12_shift_100
            · refine v_iload_n C 2 dX12_shift_62 rfl ?_
              refine v_if_lt C 98 E dX12_shift_63 rfl (fun c20 E => ?_) (fun c20 E => ?_)
              · refine v_bipush C dX12_shift_98 k_bipush_m13 ?_
                obtain rfl := Option.some.inj E
                exact v_iret C rfl dX12_shift_100
              · refine v_iload C 4 dX12_shift_66 rfl ?_
                refine v_if_lt C 98 E dX12_shift_68 rfl (fun c19 E => ?_) (fun c19 E => ?_)
                · refine v_bipush C dX12_shift_98 k_bipush_m13 ?_
                  obtain rfl := Option.some.inj E
                  exact v_iret C rfl dX12_shift_100
                · refine v_iload_n C 2 dX12_shift_71 rfl ?_
                  refine v_aload_n (r := (some o)) C 0 dX12_shift_72 rfl ?_
                  refine v_getR (r := (some o)) C fa_X12_223 rfl rfl ho dX12_shift_73 ?_
                  refine v_iload_n C 1 dX12_shift_76 rfl ?_
                  refine v_iald (r := (R o 70)) C E dX12_shift_77 (fun v15 _ E => ?_)
                  refine v_iload C 5 dX12_shift_78 rfl ?_
                  refine v_isub C dX12_shift_80 ?_
                  refine v_icmp_gt C 98 E dX12_shift_81 rfl (fun c18 E => ?_) (fun c18 E => ?_)
                  · refine v_bipush C dX12_shift_98 k_bipush_m13 ?_
                    obtain rfl := Option.some.inj E
                    exact v_iret C rfl dX12_shift_100
                  · refine v_iload C 4 dX12_shift_84 rfl ?_
                    refine v_aload_n (r := (some o)) C 0 dX12_shift_86 rfl ?_
                    refine v_getR (r := (some o)) C fa_X12_223 rfl rfl ho dX12_shift_87 ?_
                    refine v_iload_n C 3 dX12_shift_90 rfl ?_
                    refine v_iald (r := (R o 70)) C E dX12_shift_91 (fun v16 _ E => ?_)
                    refine v_iload C 5 dX12_shift_92 rfl ?_
                    refine v_isub C dX12_shift_94 ?_
                    refine v_icmp_le C 101 E dX12_shift_95 rfl (fun c17 E => ?_) (fun c17 E => ?_)
                    · refine v_iconst C dX12_shift_101 k_iconst_0 ?_
                      refine v_istore C [(6, .int 0), (0, va_rf (some o)), (1, .int x1), (2, .int x2), (3, .int x3), (4, .int x4), (5, .int x5)] dX12_shift_102 (Nat.le_of_ble_eq_true rfl) rfl ?_
                      exact v_sub [1, 2, 3, 4, 5, 6, 0] [(0, va_rf (some o)), (1, .int x1), (2, .int x2), (3, .int x3), (4, .int x4), (5, .int x5), (6, .int 0)] rfl (w_X12_shift_104 C ho res  _ _ _ _ _ _ _ _ E)
                    · refine v_bipush C dX12_shift_98 k_bipush_m13 ?_
                      obtain rfl := Option.some.inj E
                      exact v_iret C rfl dX12_shift_100
          · refine v_bipush C dX12_shift_54 k_bipush_m12 ?_
            obtain rfl := Option.some.inj E
            exact v_iret C rfl dX12_shift_56
        · refine v_bipush C dX12_shift_36 k_bipush_m11 ?_
          obtain rfl := Option.some.inj E
          exact v_iret C rfl dX12_shift_38
set_option maxHeartbeats 4000000 in
theorem c_X12_shift {n : Nat} {K : Sh} {I : Im} {J : Jm} {R : Rf} {o : Nat} {x1 : Int32} {x2 : Int32} {x3 : Int32} {x4 : Int32} {x5 : Int32} (ho : (K o).1 = 13) {res : Int32 × Jm} (E : f_X12_shift K I R o x1 x2 x3 x4 x5 J = some res) : Met l yX12_shift (Cond.code yX12_shift cX12_shift 7 (some .int) :: tb) rX12_shift (PX D cA bs Z [.ref o, .int x1, .int x2, .int x3, .int x4, .int x5] K n I J R) (QX D cA bs (some (.int res.1)) K n I res.2 R) 0 0 (fun q => bs ≤ q) := by
  refine met_of (lv1 := [(0, va_rf (some o)), (1, .int x1), (2, .int x2), (3, .int x3), (4, .int x4), (5, .int x5)]) pn_X12 (by exact Nat.le_of_ble_eq_true rfl) (by rfl) ?_
  intro p e s m args below meth c C hn
  exact v_sub [0, 1, 2, 3, 4, 5] [(0, va_rf (some o)), (1, .int x1), (2, .int x2), (3, .int x3), (4, .int x4), (5, .int x5)] rfl (w_X12_shift_0 C ho _ _ _ _ _ _ _ E)
end WK8
