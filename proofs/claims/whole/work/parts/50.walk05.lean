section WK5
variable {D : va_G} {cA : Nat → ClassId} {bs : Nat} {Z : Nat → Nat} {p : Program} {l : Launch} {e : Env} {s : State} {m : MethodId} {args : Array Value} {below : List Frame} {meth : Method} {c : Code}
set_option maxHeartbeats 4000000 in
theorem w_X12_in_0 (C : Cx D cA bs Z p s m args meth c cX12_in RX12 4 (some .boolean)) {o : Nat} {K : Sh} {n : Nat} {I : Im} {J : Jm} {R : Rf} (ho : (K o).1 = 13) (res : Int32) (x1 : Int32) (x2 : Int32) (x3 : Int32) (E : f_X12_in o x1 x2 x3 = some res) : VW D cA bs p l e rX12_in s m args below meth c 4 [(0, va_rf (some o)), (1, .int x1), (2, .int x2), (3, .int x3)] K n I J R 0 0 (MQ below (QX D cA bs (some (.int res)) K n I J R) args s 0 0 (fun q => bs ≤ q)) 0 [] := by
  unfold f_X12_in at E
  refine v_iload_n C 1 dX12_in_0 rfl ?_
  refine v_iload_n C 2 dX12_in_1 rfl ?_
  refine v_icmp_lt C 14 E dX12_in_2 rfl (fun c2 E => ?_) (fun c2 E => ?_)
  · refine v_iconst C dX12_in_14 k_iconst_0 ?_
    obtain rfl := Option.some.inj E
    exact v_zret (v := 0) C rfl nz_0 dX12_in_15
  · refine v_iload_n C 1 dX12_in_5 rfl ?_
    refine v_iload_n C 3 dX12_in_6 rfl ?_
    refine v_icmp_gt C 14 E dX12_in_7 rfl (fun c1 E => ?_) (fun c1 E => ?_)
    · refine v_iconst C dX12_in_14 k_iconst_0 ?_
      obtain rfl := Option.some.inj E
      exact v_zret (v := 0) C rfl nz_0 dX12_in_15
    · refine v_iconst C dX12_in_10 k_iconst_1 ?_
      refine v_goto C 15 dX12_in_11 rfl ?_
      obtain rfl := Option.some.inj E
      exact v_zret (v := 1) C rfl nz_1 dX12_in_15
set_option maxHeartbeats 4000000 in
theorem c_X12_in {n : Nat} {K : Sh} {I : Im} {J : Jm} {R : Rf} {o : Nat} {x1 : Int32} {x2 : Int32} {x3 : Int32} (ho : (K o).1 = 13) {res : Int32} (E : f_X12_in o x1 x2 x3 = some res) : Met l yX12_in (Cond.code yX12_in cX12_in 4 (some .boolean) :: tb) rX12_in (PX D cA bs Z [.ref o, .int x1, .int x2, .int x3] K n I J R) (QX D cA bs (some (.int res)) K n I J R) 0 0 (fun q => bs ≤ q) := by
  refine met_of (lv1 := [(0, va_rf (some o)), (1, .int x1), (2, .int x2), (3, .int x3)]) pn_X12 (by exact Nat.le_of_ble_eq_true rfl) (by rfl) ?_
  intro p e s m args below meth c C hn
  exact v_sub [0, 1, 2, 3] [(0, va_rf (some o)), (1, .int x1), (2, .int x2), (3, .int x3)] rfl (w_X12_in_0 C ho _ _ _ _ E)
set_option maxHeartbeats 4000000 in
theorem w_X12_min_0 (C : Cx D cA bs Z p s m args meth c cX12_min RX12 3 (some .int)) {o : Nat} {K : Sh} {n : Nat} {I : Im} {J : Jm} {R : Rf} (ho : (K o).1 = 13) (res : Int32) (x1 : Int32) (x2 : Int32) (E : f_X12_min o x1 x2 = some res) : VW D cA bs p l e rX12_min s m args below meth c 3 [(0, va_rf (some o)), (1, .int x1), (2, .int x2)] K n I J R 0 0 (MQ below (QX D cA bs (some (.int res)) K n I J R) args s 0 0 (fun q => bs ≤ q)) 0 [] := by
  unfold f_X12_min at E
  refine v_iload_n C 1 dX12_min_0 rfl ?_
  refine v_iload_n C 2 dX12_min_1 rfl ?_
  refine v_icmp_ge C 9 E dX12_min_2 rfl (fun c1 E => ?_) (fun c1 E => ?_)
  · refine v_iload_n C 2 dX12_min_9 rfl ?_
    obtain rfl := Option.some.inj E
    exact v_iret C rfl dX12_min_10
  · refine v_iload_n C 1 dX12_min_5 rfl ?_
    refine v_goto C 10 dX12_min_6 rfl ?_
    obtain rfl := Option.some.inj E
    exact v_iret C rfl dX12_min_10
set_option maxHeartbeats 4000000 in
theorem c_X12_min {n : Nat} {K : Sh} {I : Im} {J : Jm} {R : Rf} {o : Nat} {x1 : Int32} {x2 : Int32} (ho : (K o).1 = 13) {res : Int32} (E : f_X12_min o x1 x2 = some res) : Met l yX12_min (Cond.code yX12_min cX12_min 3 (some .int) :: tb) rX12_min (PX D cA bs Z [.ref o, .int x1, .int x2] K n I J R) (QX D cA bs (some (.int res)) K n I J R) 0 0 (fun q => bs ≤ q) := by
  refine met_of (lv1 := [(0, va_rf (some o)), (1, .int x1), (2, .int x2)]) pn_X12 (by exact Nat.le_of_ble_eq_true rfl) (by rfl) ?_
  intro p e s m args below meth c C hn
  exact v_sub [0, 1, 2] [(0, va_rf (some o)), (1, .int x1), (2, .int x2)] rfl (w_X12_min_0 C ho _ _ _ E)
set_option maxHeartbeats 4000000 in
theorem w_X12_feed_31 (C : Cx D cA bs Z p s m args meth c cX12_feed RX12 4 (some .int)) {o : Nat} {K : Sh} {n : Nat} {J : Jm} {R : Rf} (ho : (K o).1 = 13) (res : Int32 × Im)  : ∀ (k : Nat), ∀ (x1 : Int32) (x3 : Int32) (I : Im), f_X12_feed_31 K R o k x1 x3 I = some res → VW D cA bs p l e rX12_feed s m args below meth c 4 [(0, va_rf (some o)), (1, .int x1), (3, .int x3)] K n I J R 0 0 (MQ below (QX D cA bs (some (.int res.1)) K n res.2 J R) args s 0 0 (fun q => bs ≤ q)) 31 [] := by
  intro k
  induction k with
  | zero =>
    intro x1 x3 I E
    have E : (none : Option (Int32 × Im)) = some res := E
    cases E
  | succ k ih =>
    intro x1 x3 I E
    unfold f_X12_feed_31 at E
    refine v_iload_n C 2 dX12_feed_31 rfl ?_
    refine v_if_lt C 67 E dX12_feed_32 rfl (fun c3 E => ?_) (fun c3 E => ?_)
    · refine v_aload_n (r := (some o)) C 0 dX12_feed_67 rfl ?_
      refine v_getI (r := (some o)) C fa_X12_16 rfl rfl ho dX12_feed_68 ?_
      obtain rfl := Option.some.inj E
      exact v_iret C rfl dX12_feed_71
    · refine v_aload_n (r := (some o)) C 0 dX12_feed_35 rfl ?_
      refine v_getR (r := (some o)) C fa_X12_25 rfl rfl ho dX12_feed_36 ?_
      refine v_aload_n (r := (some o)) C 0 dX12_feed_39 rfl ?_
      refine v_getI (r := (some o)) C fa_X12_16 rfl rfl ho dX12_feed_40 ?_
      refine v_iload_n C 1 dX12_feed_43 rfl ?_
      refine v_bipush C dX12_feed_44 k_bipush_8 ?_
      refine v_iload_n C 2 dX12_feed_46 rfl ?_
      refine v_imul C dX12_feed_47 ?_
      refine v_ishr C dX12_feed_48 ?_
      refine v_i2b C dX12_feed_49 ?_
      refine v_iast (r := (R o 5)) C E dX12_feed_50 (fun I1 _ E => ?_)
      refine v_aload_n (r := (some o)) C 0 dX12_feed_51 rfl ?_
      refine v_dup C dX12_feed_52 (rf_cat _) ?_
      refine v_getI (r := (some o)) C fa_X12_16 rfl rfl ho dX12_feed_53 ?_
      refine v_iconst C dX12_feed_56 k_iconst_1 ?_
      refine v_iadd C dX12_feed_57 ?_
      refine v_putI (r := (some o)) C fa_X12_16 rfl E rfl ho ⟨rfl, rfl⟩ dX12_feed_58 (fun I2 _ E => ?_)
      refine v_iinc (v := x3 - 1) C 2 [(3, .int (x3 - 1)), (0, va_rf (some o)), (1, .int x1)] dX12_feed_61 rfl (k_inc_m1 _) (Nat.le_of_ble_eq_true rfl) rfl ?_
      refine v_goto C 31 dX12_feed_64 rfl ?_
      exact v_sub [1, 2, 0] [(0, va_rf (some o)), (1, .int x1), (3, .int (x3 - 1))] rfl (ih _ _ _ E)
set_option maxHeartbeats 4000000 in
theorem w_X12_feed_0 (C : Cx D cA bs Z p s m args meth c cX12_feed RX12 4 (some .int)) {o : Nat} {K : Sh} {n : Nat} {J : Jm} {R : Rf} (ho : (K o).1 = 13) (res : Int32 × Im) (x1 : Int32) (x2 : Int32) (I : Im) (E : f_X12_feed K R o x1 x2 I = some res) : VW D cA bs p l e rX12_feed s m args below meth c 4 [(0, va_rf (some o)), (1, .int x1), (2, .int x2)] K n I J R 0 0 (MQ below (QX D cA bs (some (.int res.1)) K n res.2 J R) args s 0 0 (fun q => bs ≤ q)) 0 [] := by
  unfold f_X12_feed at E
  refine v_aload_n (r := (some o)) C 0 dX12_feed_0 rfl ?_
  refine v_iload_n C 2 dX12_feed_1 rfl ?_
  refine v_iconst C dX12_feed_2 k_iconst_0 ?_
  refine v_iconst C dX12_feed_3 k_iconst_4 ?_
  obtain ⟨q4, h5, E⟩ := bnd E
  refine v_callV (r := (some o)) (As := [.int x2, .int 0, .int 4]) (rv := (some (.int q4))) (st := []) (st1 := [.int q4]) (ce1 := 0) (sl1 := 0) C cv_X12_233 (c_X12_in (x1 := x2) (x2 := 0) (x3 := 4) ho h5) rfl ho rfl rfl ⟨rfl, rfl, Nat.le_of_ble_eq_true rfl, Nat.le_of_ble_eq_true rfl⟩ ⟨Nat.le_of_ble_eq_true rfl, Nat.le_of_ble_eq_true rfl⟩ (Nat.le_of_ble_eq_true rfl) rfl rfl rfl dX12_feed_4 ?_
  refine v_if_ne C 13 E dX12_feed_7 rfl (fun c7 E => ?_) (fun c7 E => ?_)
  · refine v_bipush C dX12_feed_10 k_bipush_m2 ?_
    obtain rfl := Option.some.inj E
    exact v_iret C rfl dX12_feed_12
  · refine v_aload_n (r := (some o)) C 0 dX12_feed_13 rfl ?_
    refine v_getI (r := (some o)) C fa_X12_16 rfl rfl ho dX12_feed_14 ?_
    refine v_iload_n C 2 dX12_feed_17 rfl ?_
    refine v_iadd C dX12_feed_18 ?_
    refine v_bipush C dX12_feed_19 k_bipush_100 ?_
    refine v_icmp_le C 27 E dX12_feed_21 rfl (fun c6 E => ?_) (fun c6 E => ?_)
    · refine v_iload_n C 2 dX12_feed_27 rfl ?_
      refine v_iconst C dX12_feed_28 k_iconst_1 ?_
      refine v_isub C dX12_feed_29 ?_
      refine v_istore_n C [(3, .int (x2 - 1)), (0, va_rf (some o)), (1, .int x1), (2, .int x2)] dX12_feed_30 (Nat.le_of_ble_eq_true rfl) rfl ?_
      exact v_sub [1, 2, 0] [(0, va_rf (some o)), (1, .int x1), (3, .int (x2 - 1))] rfl (w_X12_feed_31 C ho res  _ _ _ _ E)
    · refine v_bipush C dX12_feed_24 k_bipush_m4 ?_
      obtain rfl := Option.some.inj E
      exact v_iret C rfl dX12_feed_26
set_option maxHeartbeats 4000000 in
theorem c_X12_feed {n : Nat} {K : Sh} {I : Im} {J : Jm} {R : Rf} {o : Nat} {x1 : Int32} {x2 : Int32} (ho : (K o).1 = 13) {res : Int32 × Im} (E : f_X12_feed K R o x1 x2 I = some res) : Met l yX12_feed (Cond.code yX12_feed cX12_feed 4 (some .int) :: tb) rX12_feed (PX D cA bs Z [.ref o, .int x1, .int x2] K n I J R) (QX D cA bs (some (.int res.1)) K n res.2 J R) 0 0 (fun q => bs ≤ q) := by
  refine met_of (lv1 := [(0, va_rf (some o)), (1, .int x1), (2, .int x2)]) pn_X12 (by exact Nat.le_of_ble_eq_true rfl) (by rfl) ?_
  intro p e s m args below meth c C hn
  exact v_sub [0, 1, 2] [(0, va_rf (some o)), (1, .int x1), (2, .int x2)] rfl (w_X12_feed_0 C ho _ _ _ _ E)
set_option maxHeartbeats 4000000 in
theorem w_X12_next_0 (C : Cx D cA bs Z p s m args meth c cX12_next RX12 1 (some .int)) {o : Nat} {K : Sh} {n : Nat} {I : Im} {J : Jm} {R : Rf} (ho : (K o).1 = 13) (res : Int32)  (E : f_X12_next K I R o  = some res) : VW D cA bs p l e rX12_next s m args below meth c 1 [(0, va_rf (some o))] K n I J R 0 0 (MQ below (QX D cA bs (some (.int res)) K n I J R) args s 0 0 (fun q => bs ≤ q)) 0 [] := by
  unfold f_X12_next at E
  refine v_aload_n (r := (some o)) C 0 dX12_next_0 rfl ?_
  refine v_getI (r := (some o)) C fa_X12_19 rfl rfl ho dX12_next_1 ?_
  refine v_aload_n (r := (some o)) C 0 dX12_next_4 rfl ?_
  refine v_getI (r := (some o)) C fa_X12_16 rfl rfl ho dX12_next_5 ?_
  refine v_icmp_ge C 23 E dX12_next_8 rfl (fun c2 E => ?_) (fun c2 E => ?_)
  · refine v_iconst C dX12_next_23 k_iconst_m1 ?_
    obtain rfl := Option.some.inj E
    exact v_iret C rfl dX12_next_24
  · refine v_aload_n (r := (some o)) C 0 dX12_next_11 rfl ?_
    refine v_getR (r := (some o)) C fa_X12_25 rfl rfl ho dX12_next_12 ?_
    refine v_aload_n (r := (some o)) C 0 dX12_next_15 rfl ?_
    refine v_getI (r := (some o)) C fa_X12_19 rfl rfl ho dX12_next_16 ?_
    refine v_iald (r := (R o 5)) C E dX12_next_19 (fun v1 _ E => ?_)
    refine v_goto C 24 dX12_next_20 rfl ?_
    obtain rfl := Option.some.inj E
    exact v_iret C rfl dX12_next_24
set_option maxHeartbeats 4000000 in
theorem c_X12_next {n : Nat} {K : Sh} {I : Im} {J : Jm} {R : Rf} {o : Nat}  (ho : (K o).1 = 13) {res : Int32} (E : f_X12_next K I R o = some res) : Met l yX12_next (Cond.code yX12_next cX12_next 1 (some .int) :: tb) rX12_next (PX D cA bs Z [.ref o] K n I J R) (QX D cA bs (some (.int res)) K n I J R) 0 0 (fun q => bs ≤ q) := by
  refine met_of (lv1 := [(0, va_rf (some o))]) pn_X12 (by exact Nat.le_of_ble_eq_true rfl) (by rfl) ?_
  intro p e s m args below meth c C hn
  exact v_sub [0] [(0, va_rf (some o))] rfl (w_X12_next_0 C ho _  E)
set_option maxHeartbeats 4000000 in
theorem w_X12_second_0 (C : Cx D cA bs Z p s m args meth c cX12_second RX12 1 (some .int)) {o : Nat} {K : Sh} {n : Nat} {I : Im} {J : Jm} {R : Rf} (ho : (K o).1 = 13) (res : Int32)  (E : f_X12_second K I R o  = some res) : VW D cA bs p l e rX12_second s m args below meth c 1 [(0, va_rf (some o))] K n I J R 0 0 (MQ below (QX D cA bs (some (.int res)) K n I J R) args s 0 0 (fun q => bs ≤ q)) 0 [] := by
  unfold f_X12_second at E
  refine v_aload_n (r := (some o)) C 0 dX12_second_0 rfl ?_
  refine v_getI (r := (some o)) C fa_X12_19 rfl rfl ho dX12_second_1 ?_
  refine v_iconst C dX12_second_4 k_iconst_1 ?_
  refine v_iadd C dX12_second_5 ?_
  refine v_aload_n (r := (some o)) C 0 dX12_second_6 rfl ?_
  refine v_getI (r := (some o)) C fa_X12_16 rfl rfl ho dX12_second_7 ?_
  refine v_icmp_ge C 27 E dX12_second_10 rfl (fun c2 E => ?_) (fun c2 E => ?_)
  · refine v_iconst C dX12_second_27 k_iconst_m1 ?_
    obtain rfl := Option.some.inj E
    exact v_iret C rfl dX12_second_28
  · refine v_aload_n (r := (some o)) C 0 dX12_second_13 rfl ?_
    refine v_getR (r := (some o)) C fa_X12_25 rfl rfl ho dX12_second_14 ?_
    refine v_aload_n (r := (some o)) C 0 dX12_second_17 rfl ?_
    refine v_getI (r := (some o)) C fa_X12_19 rfl rfl ho dX12_second_18 ?_
    refine v_iconst C dX12_second_21 k_iconst_1 ?_
    refine v_iadd C dX12_second_22 ?_
    refine v_iald (r := (R o 5)) C E dX12_second_23 (fun v1 _ E => ?_)
    refine v_goto C 28 dX12_second_24 rfl ?_
    obtain rfl := Option.some.inj E
    exact v_iret C rfl dX12_second_28
set_option maxHeartbeats 4000000 in
theorem c_X12_second {n : Nat} {K : Sh} {I : Im} {J : Jm} {R : Rf} {o : Nat}  (ho : (K o).1 = 13) {res : Int32} (E : f_X12_second K I R o = some res) : Met l yX12_second (Cond.code yX12_second cX12_second 1 (some .int) :: tb) rX12_second (PX D cA bs Z [.ref o] K n I J R) (QX D cA bs (some (.int res)) K n I J R) 0 0 (fun q => bs ≤ q) := by
  refine met_of (lv1 := [(0, va_rf (some o))]) pn_X12 (by exact Nat.le_of_ble_eq_true rfl) (by rfl) ?_
  intro p e s m args below meth c C hn
  exact v_sub [0] [(0, va_rf (some o))] rfl (w_X12_second_0 C ho _  E)
set_option maxHeartbeats 4000000 in
theorem w_X12_takes_0 (C : Cx D cA bs Z p s m args meth c cX12_takes RX12 2 (some .boolean)) {o : Nat} {K : Sh} {n : Nat} {J : Jm} {R : Rf} (ho : (K o).1 = 13) (res : Int32 × Im) (x1 : Int32) (I : Im) (E : f_X12_takes K R o x1 I = some res) : VW D cA bs p l e rX12_takes s m args below meth c 2 [(0, va_rf (some o)), (1, .int x1)] K n I J R 0 0 (MQ below (QX D cA bs (some (.int res.1)) K n res.2 J R) args s 0 0 (fun q => bs ≤ q)) 0 [] := by
  unfold f_X12_takes at E
  refine v_aload_n (r := (some o)) C 0 dX12_takes_0 rfl ?_
  obtain ⟨q1, h2, E⟩ := bnd E
  refine v_callV (r := (some o)) (As := []) (rv := (some (.int q1))) (st := []) (st1 := [.int q1]) (ce1 := 0) (sl1 := 0) C cv_X12_237 (c_X12_next  ho h2) rfl ho rfl rfl ⟨rfl, rfl, Nat.le_of_ble_eq_true rfl, Nat.le_of_ble_eq_true rfl⟩ ⟨Nat.le_of_ble_eq_true rfl, Nat.le_of_ble_eq_true rfl⟩ (Nat.le_of_ble_eq_true rfl) rfl rfl rfl dX12_takes_1 ?_
  refine v_iload_n C 1 dX12_takes_4 rfl ?_
  refine v_icmp_eq C 10 E dX12_takes_5 rfl (fun c4 E => ?_) (fun c4 E => ?_)
  · refine v_aload_n (r := (some o)) C 0 dX12_takes_10 rfl ?_
    refine v_dup C dX12_takes_11 (rf_cat _) ?_
    refine v_getI (r := (some o)) C fa_X12_19 rfl rfl ho dX12_takes_12 ?_
    refine v_iconst C dX12_takes_15 k_iconst_1 ?_
    refine v_iadd C dX12_takes_16 ?_
    refine v_putI (r := (some o)) C fa_X12_19 rfl E rfl ho ⟨rfl, rfl⟩ dX12_takes_17 (fun I3 _ E => ?_)
    refine v_iconst C dX12_takes_20 k_iconst_1 ?_
    obtain rfl := Option.some.inj E
    exact v_zret (v := 1) C rfl nz_1 dX12_takes_21
  · refine v_iconst C dX12_takes_8 k_iconst_0 ?_
    obtain rfl := Option.some.inj E
    exact v_zret (v := 0) C rfl nz_0 dX12_takes_9
set_option maxHeartbeats 4000000 in
theorem c_X12_takes {n : Nat} {K : Sh} {I : Im} {J : Jm} {R : Rf} {o : Nat} {x1 : Int32} (ho : (K o).1 = 13) {res : Int32 × Im} (E : f_X12_takes K R o x1 I = some res) : Met l yX12_takes (Cond.code yX12_takes cX12_takes 2 (some .boolean) :: tb) rX12_takes (PX D cA bs Z [.ref o, .int x1] K n I J R) (QX D cA bs (some (.int res.1)) K n res.2 J R) 0 0 (fun q => bs ≤ q) := by
  refine met_of (lv1 := [(0, va_rf (some o)), (1, .int x1)]) pn_X12 (by exact Nat.le_of_ble_eq_true rfl) (by rfl) ?_
  intro p e s m args below meth c C hn
  exact v_sub [0, 1] [(0, va_rf (some o)), (1, .int x1)] rfl (w_X12_takes_0 C ho _ _ _ E)
set_option maxHeartbeats 4000000 in
theorem w_X12_takesWord_4 (C : Cx D cA bs Z p s m args meth c cX12_takesWord RX12 4 (some .boolean)) {o : Nat} {K : Sh} {n : Nat} {J : Jm} {R : Rf} (ho : (K o).1 = 13) (res : Int32 × Im)  : ∀ (k : Nat), ∀ (x1 : Int32) (x3 : Int32) (I : Im), f_X12_takesWord_4 K R o k x1 x3 I = some res → VW D cA bs p l e rX12_takesWord s m args below meth c 4 [(0, va_rf (some o)), (1, .int x1), (3, .int x3)] K n I J R 0 0 (MQ below (QX D cA bs (some (.int res.1)) K n res.2 J R) args s 0 0 (fun q => bs ≤ q)) 4 [] := by
  intro k
  induction k with
  | zero =>
    intro x1 x3 I E
    have E : (none : Option (Int32 × Im)) = some res := E
    cases E
  | succ k ih =>
    intro x1 x3 I E
    unfold f_X12_takesWord_4 at E
    refine v_iload_n C 2 dX12_takesWord_4 rfl ?_
    refine v_if_lt C 34 E dX12_takesWord_5 rfl (fun c8 E => ?_) (fun c8 E => ?_)
    · refine v_aload_n (r := (some o)) C 0 dX12_takesWord_34 rfl ?_
      refine v_bipush C dX12_takesWord_35 k_bipush_32 ?_
      obtain ⟨q1, h2, E⟩ := bnd E
      refine v_callV (r := (some o)) (As := [.int 32]) (rv := (some (.int q1.1))) (st := []) (st1 := [.int q1.1]) (ce1 := 0) (sl1 := 0) C cv_X12_241 (c_X12_takes (x1 := 32) ho h2) rfl ho rfl rfl ⟨rfl, rfl, Nat.le_of_ble_eq_true rfl, Nat.le_of_ble_eq_true rfl⟩ ⟨Nat.le_of_ble_eq_true rfl, Nat.le_of_ble_eq_true rfl⟩ (Nat.le_of_ble_eq_true rfl) rfl rfl rfl dX12_takesWord_37 ?_
      obtain ⟨v3, h4, E⟩ := bnd E
      obtain ⟨h4a, h4b⟩ := gd h4
      subst h4b
      obtain rfl := Option.some.inj E
      exact v_zret C rfl (by simp [narrow, h4a]) dX12_takesWord_40
    · refine v_aload_n (r := (some o)) C 0 dX12_takesWord_8 rfl ?_
      refine v_bipush C dX12_takesWord_9 k_bipush_96 ?_
      refine v_iload_n C 1 dX12_takesWord_11 rfl ?_
      refine v_iconst C dX12_takesWord_12 k_iconst_5 ?_
      refine v_iload_n C 2 dX12_takesWord_13 rfl ?_
      refine v_imul C dX12_takesWord_14 ?_
      refine v_ishr C dX12_takesWord_15 ?_
      refine v_bipush C dX12_takesWord_16 k_bipush_31 ?_
      refine v_iand C dX12_takesWord_18 ?_
      refine v_iadd C dX12_takesWord_19 ?_
      obtain ⟨q5, h6, E⟩ := bnd E
      refine v_callV (r := (some o)) (As := [.int (96 + ((ishr x1 (5 * x3)) &&& 31))]) (rv := (some (.int q5.1))) (st := []) (st1 := [.int q5.1]) (ce1 := 0) (sl1 := 0) C cv_X12_241 (c_X12_takes (x1 := (96 + ((ishr x1 (5 * x3)) &&& 31))) ho h6) rfl ho rfl rfl ⟨rfl, rfl, Nat.le_of_ble_eq_true rfl, Nat.le_of_ble_eq_true rfl⟩ ⟨Nat.le_of_ble_eq_true rfl, Nat.le_of_ble_eq_true rfl⟩ (Nat.le_of_ble_eq_true rfl) rfl rfl rfl dX12_takesWord_20 ?_
      refine v_if_ne C 28 E dX12_takesWord_23 rfl (fun c7 E => ?_) (fun c7 E => ?_)
      · refine v_iconst C dX12_takesWord_26 k_iconst_0 ?_
        obtain rfl := Option.some.inj E
        exact v_zret (v := 0) C rfl nz_0 dX12_takesWord_27
      · refine v_iinc (v := x3 - 1) C 2 [(3, .int (x3 - 1)), (0, va_rf (some o)), (1, .int x1)] dX12_takesWord_28 rfl (k_inc_m1 _) (Nat.le_of_ble_eq_true rfl) rfl ?_
        refine v_goto C 4 dX12_takesWord_31 rfl ?_
        exact v_sub [1, 2, 0] [(0, va_rf (some o)), (1, .int x1), (3, .int (x3 - 1))] rfl (ih _ _ _ E)
set_option maxHeartbeats 4000000 in
theorem w_X12_takesWord_0 (C : Cx D cA bs Z p s m args meth c cX12_takesWord RX12 4 (some .boolean)) {o : Nat} {K : Sh} {n : Nat} {J : Jm} {R : Rf} (ho : (K o).1 = 13) (res : Int32 × Im) (x1 : Int32) (x2 : Int32) (I : Im) (E : f_X12_takesWord K R o x1 x2 I = some res) : VW D cA bs p l e rX12_takesWord s m args below meth c 4 [(0, va_rf (some o)), (1, .int x1), (2, .int x2)] K n I J R 0 0 (MQ below (QX D cA bs (some (.int res.1)) K n res.2 J R) args s 0 0 (fun q => bs ≤ q)) 0 [] := by
  unfold f_X12_takesWord at E
  refine v_iload_n C 2 dX12_takesWord_0 rfl ?_
  refine v_iconst C dX12_takesWord_1 k_iconst_1 ?_
  refine v_isub C dX12_takesWord_2 ?_
  refine v_istore_n C [(3, .int (x2 - 1)), (0, va_rf (some o)), (1, .int x1), (2, .int x2)] dX12_takesWord_3 (Nat.le_of_ble_eq_true rfl) rfl ?_
  exact v_sub [1, 2, 0] [(0, va_rf (some o)), (1, .int x1), (3, .int (x2 - 1))] rfl (w_X12_takesWord_4 C ho res  _ _ _ _ E)
set_option maxHeartbeats 4000000 in
theorem c_X12_takesWord {n : Nat} {K : Sh} {I : Im} {J : Jm} {R : Rf} {o : Nat} {x1 : Int32} {x2 : Int32} (ho : (K o).1 = 13) {res : Int32 × Im} (E : f_X12_takesWord K R o x1 x2 I = some res) : Met l yX12_takesWord (Cond.code yX12_takesWord cX12_takesWord 4 (some .boolean) :: tb) rX12_takesWord (PX D cA bs Z [.ref o, .int x1, .int x2] K n I J R) (QX D cA bs (some (.int res.1)) K n res.2 J R) 0 0 (fun q => bs ≤ q) := by
  refine met_of (lv1 := [(0, va_rf (some o)), (1, .int x1), (2, .int x2)]) pn_X12 (by exact Nat.le_of_ble_eq_true rfl) (by rfl) ?_
  intro p e s m args below meth c C hn
  exact v_sub [0, 1, 2] [(0, va_rf (some o)), (1, .int x1), (2, .int x2)] rfl (w_X12_takesWord_0 C ho _ _ _ _ E)
set_option maxHeartbeats 4000000 in
theorem w_X12_isDigit_0 (C : Cx D cA bs Z p s m args meth c cX12_isDigit RX12 1 (some .boolean)) {o : Nat} {K : Sh} {n : Nat} {I : Im} {J : Jm} {R : Rf} (ho : (K o).1 = 13) (res : Int32)  (E : f_X12_isDigit K I R o  = some res) : VW D cA bs p l e rX12_isDigit s m args below meth c 1 [(0, va_rf (some o))] K n I J R 0 0 (MQ below (QX D cA bs (some (.int res)) K n I J R) args s 0 0 (fun q => bs ≤ q)) 0 [] := by
  unfold f_X12_isDigit at E
  refine v_aload_n (r := (some o)) C 0 dX12_isDigit_0 rfl ?_
  refine v_aload_n (r := (some o)) C 0 dX12_isDigit_1 rfl ?_
  obtain ⟨q1, h2, E⟩ := bnd E
  refine v_callV (r := (some o)) (As := []) (rv := (some (.int q1))) (st := [va_rf (some o)]) (st1 := [.int q1, va_rf (some o)]) (ce1 := 0) (sl1 := 0) C cv_X12_237 (c_X12_next  ho h2) rfl ho rfl rfl ⟨rfl, rfl, Nat.le_of_ble_eq_true rfl, Nat.le_of_ble_eq_true rfl⟩ ⟨Nat.le_of_ble_eq_true rfl, Nat.le_of_ble_eq_true rfl⟩ (by simp only [List.map_cons, List.map_nil, List.sum_cons, List.sum_nil, rf_cat]; exact Nat.le_of_ble_eq_true rfl) rfl rfl rfl dX12_isDigit_2 ?_
  refine v_bipush C dX12_isDigit_5 k_bipush_48 ?_
  refine v_bipush C dX12_isDigit_7 k_bipush_57 ?_
  obtain ⟨q3, h4, E⟩ := bnd E
  refine v_callV (r := (some o)) (As := [.int q1, .int 48, .int 57]) (rv := (some (.int q3))) (st := []) (st1 := [.int q3]) (ce1 := 0) (sl1 := 0) C cv_X12_233 (c_X12_in (x1 := q1) (x2 := 48) (x3 := 57) ho h4) rfl ho rfl rfl ⟨rfl, rfl, Nat.le_of_ble_eq_true rfl, Nat.le_of_ble_eq_true rfl⟩ ⟨Nat.le_of_ble_eq_true rfl, Nat.le_of_ble_eq_true rfl⟩ (Nat.le_of_ble_eq_true rfl) rfl rfl rfl dX12_isDigit_9 ?_
  obtain ⟨v5, h6, E⟩ := bnd E
  obtain ⟨h6a, h6b⟩ := gd h6
  subst h6b
  obtain rfl := Option.some.inj E
  exact v_zret C rfl (by simp [narrow, h6a]) dX12_isDigit_12
set_option maxHeartbeats 4000000 in
theorem c_X12_isDigit {n : Nat} {K : Sh} {I : Im} {J : Jm} {R : Rf} {o : Nat}  (ho : (K o).1 = 13) {res : Int32} (E : f_X12_isDigit K I R o = some res) : Met l yX12_isDigit (Cond.code yX12_isDigit cX12_isDigit 1 (some .boolean) :: tb) rX12_isDigit (PX D cA bs Z [.ref o] K n I J R) (QX D cA bs (some (.int res)) K n I J R) 0 0 (fun q => bs ≤ q) := by
  refine met_of (lv1 := [(0, va_rf (some o))]) pn_X12 (by exact Nat.le_of_ble_eq_true rfl) (by rfl) ?_
  intro p e s m args below meth c C hn
  exact v_sub [0] [(0, va_rf (some o))] rfl (w_X12_isDigit_0 C ho _  E)
set_option maxHeartbeats 4000000 in
theorem w_X12_takesNumber_16 (C : Cx D cA bs Z p s m args meth c cX12_takesNumber RX12 3 (some .boolean)) {o : Nat} {K : Sh} {n : Nat} {J : Jm} {R : Rf} (ho : (K o).1 = 13) (res : Int32 × Im)  : ∀ (k : Nat), ∀ (x1 : Int32) (x2 : Int32) (I : Im), f_X12_takesNumber_16 K R o k x1 x2 I = some res → VW D cA bs p l e rX12_takesNumber s m args below meth c 3 [(0, va_rf (some o)), (1, .int x1), (2, .int x2)] K n I J R 0 0 (MQ below (QX D cA bs (some (.int res.1)) K n res.2 J R) args s 0 0 (fun q => bs ≤ q)) 16 [] := by
  intro k
  induction k with
  | zero =>
    intro x1 x2 I E
    have E : (none : Option (Int32 × Im)) = some res := E
    cases E
  | succ k ih =>
    intro x1 x2 I E
    unfold f_X12_takesNumber_16 at E
    refine v_iload_n C 2 dX12_takesNumber_16 rfl ?_
    refine v_iload_n C 1 dX12_takesNumber_17 rfl ?_
    refine v_icmp_ge C 63 E dX12_takesNumber_18 rfl (fun c8 E => ?_) (fun c8 E => ?_)
    · refine v_iconst C dX12_takesNumber_63 k_iconst_1 ?_
      obtain rfl := Option.some.inj E
      exact v_zret (v := 1) C rfl nz_1 dX12_takesNumber_64
    · refine v_aload_n (r := (some o)) C 0 dX12_takesNumber_21 rfl ?_
      obtain ⟨q1, h2, E⟩ := bnd E
      refine v_callV (r := (some o)) (As := []) (rv := (some (.int q1))) (st := []) (st1 := [.int q1]) (ce1 := 0) (sl1 := 0) C cv_X12_245 (c_X12_isDigit  ho h2) rfl ho rfl rfl ⟨rfl, rfl, Nat.le_of_ble_eq_true rfl, Nat.le_of_ble_eq_true rfl⟩ ⟨Nat.le_of_ble_eq_true rfl, Nat.le_of_ble_eq_true rfl⟩ (Nat.le_of_ble_eq_true rfl) rfl rfl rfl dX12_takesNumber_22 ?_
      refine v_if_eq C 63 E dX12_takesNumber_25 rfl (fun c7 E => ?_) (fun c7 E => ?_)
      · refine v_iconst C dX12_takesNumber_63 k_iconst_1 ?_
        obtain rfl := Option.some.inj E
        exact v_zret (v := 1) C rfl nz_1 dX12_takesNumber_64
      · refine v_aload_n (r := (some o)) C 0 dX12_takesNumber_28 rfl ?_
        refine v_bipush C dX12_takesNumber_29 k_bipush_10 ?_
        refine v_aload_n (r := (some o)) C 0 dX12_takesNumber_31 rfl ?_
        refine v_getI (r := (some o)) C fa_X12_22 rfl rfl ho dX12_takesNumber_32 ?_
        refine v_imul C dX12_takesNumber_35 ?_
        refine v_aload_n (r := (some o)) C 0 dX12_takesNumber_36 rfl ?_
        obtain ⟨q3, h4, E⟩ := bnd E
        refine v_callV (r := (some o)) (As := []) (rv := (some (.int q3))) (st := [.int (10 * (I o 4)), va_rf (some o)]) (st1 := [.int q3, .int (10 * (I o 4)), va_rf (some o)]) (ce1 := 0) (sl1 := 0) C cv_X12_237 (c_X12_next  ho h4) rfl ho rfl rfl ⟨rfl, rfl, Nat.le_of_ble_eq_true rfl, Nat.le_of_ble_eq_true rfl⟩ ⟨Nat.le_of_ble_eq_true rfl, Nat.le_of_ble_eq_true rfl⟩ (by simp only [List.map_cons, List.map_nil, List.sum_cons, List.sum_nil, rf_cat]; exact Nat.le_of_ble_eq_true rfl) rfl rfl rfl dX12_takesNumber_37 ?_
        refine v_iadd C dX12_takesNumber_40 ?_
        refine v_bipush C dX12_takesNumber_41 k_bipush_48 ?_
        refine v_isub C dX12_takesNumber_43 ?_
        refine v_putI (r := (some o)) C fa_X12_22 rfl E rfl ho ⟨rfl, rfl⟩ dX12_takesNumber_44 (fun I5 _ E => ?_)
        refine v_aload_n (r := (some o)) C 0 dX12_takesNumber_47 rfl ?_
        refine v_dup C dX12_takesNumber_48 (rf_cat _) ?_
        refine v_getI (r := (some o)) C fa_X12_19 rfl rfl ho dX12_takesNumber_49 ?_
        refine v_iconst C dX12_takesNumber_52 k_iconst_1 ?_
        refine v_iadd C dX12_takesNumber_53 ?_
        refine v_putI (r := (some o)) C fa_X12_19 rfl E rfl ho ⟨rfl, rfl⟩ dX12_takesNumber_54 (fun I6 _ E => ?_)
        refine v_iinc (v := x2 + 1) C 2 [(2, .int (x2 + 1)), (0, va_rf (some o)), (1, .int x1)] dX12_takesNumber_57 rfl (k_inc_1 _) (Nat.le_of_ble_eq_true rfl) rfl ?_
        refine v_goto C 16 dX12_takesNumber_60 rfl ?_
        exact v_sub [1, 2, 0] [(0, va_rf (some o)), (1, .int x1), (2, .int (x2 + 1))] rfl (ih _ _ _ E)
set_option maxHeartbeats 4000000 in
theorem w_X12_takesNumber_0 (C : Cx D cA bs Z p s m args meth c cX12_takesNumber RX12 3 (some .boolean)) {o : Nat} {K : Sh} {n : Nat} {J : Jm} {R : Rf} (ho : (K o).1 = 13) (res : Int32 × Im) (x1 : Int32) (I : Im) (E : f_X12_takesNumber K R o x1 I = some res) : VW D cA bs p l e rX12_takesNumber s m args below meth c 3 [(0, va_rf (some o)), (1, .int x1)] K n I J R 0 0 (MQ below (QX D cA bs (some (.int res.1)) K n res.2 J R) args s 0 0 (fun q => bs ≤ q)) 0 [] := by
  unfold f_X12_takesNumber at E
  refine v_aload_n (r := (some o)) C 0 dX12_takesNumber_0 rfl ?_
  obtain ⟨q9, h10, E⟩ := bnd E
  refine v_callV (r := (some o)) (As := []) (rv := (some (.int q9))) (st := []) (st1 := [.int q9]) (ce1 := 0) (sl1 := 0) C cv_X12_245 (c_X12_isDigit  ho h10) rfl ho rfl rfl ⟨rfl, rfl, Nat.le_of_ble_eq_true rfl, Nat.le_of_ble_eq_true rfl⟩ ⟨Nat.le_of_ble_eq_true rfl, Nat.le_of_ble_eq_true rfl⟩ (Nat.le_of_ble_eq_true rfl) rfl rfl rfl dX12_takesNumber_1 ?_
  refine v_if_ne C 9 E dX12_takesNumber_4 rfl (fun c12 E => ?_) (fun c12 E => ?_)
  · refine v_iconst C dX12_takesNumber_7 k_iconst_0 ?_
    obtain rfl := Option.some.inj E
    exact v_zret (v := 0) C rfl nz_0 dX12_takesNumber_8
  · refine v_aload_n (r := (some o)) C 0 dX12_takesNumber_9 rfl ?_
    refine v_iconst C dX12_takesNumber_10 k_iconst_0 ?_
    refine v_putI (r := (some o)) C fa_X12_22 rfl E rfl ho ⟨rfl, rfl⟩ dX12_takesNumber_11 (fun I11 _ E => ?_)
    refine v_iconst C dX12_takesNumber_14 k_iconst_0 ?_
    refine v_istore_n C [(2, .int 0), (0, va_rf (some o)), (1, .int x1)] dX12_takesNumber_15 (Nat.le_of_ble_eq_true rfl) rfl ?_
    exact v_sub [1, 2, 0] [(0, va_rf (some o)), (1, .int x1), (2, .int 0)] rfl (w_X12_takesNumber_16 C ho res  _ _ _ _ E)
set_option maxHeartbeats 4000000 in
theorem c_X12_takesNumber {n : Nat} {K : Sh} {I : Im} {J : Jm} {R : Rf} {o : Nat} {x1 : Int32} (ho : (K o).1 = 13) {res : Int32 × Im} (E : f_X12_takesNumber K R o x1 I = some res) : Met l yX12_takesNumber (Cond.code yX12_takesNumber cX12_takesNumber 3 (some .boolean) :: tb) rX12_takesNumber (PX D cA bs Z [.ref o, .int x1] K n I J R) (QX D cA bs (some (.int res.1)) K n res.2 J R) 0 0 (fun q => bs ≤ q) := by
  refine met_of (lv1 := [(0, va_rf (some o)), (1, .int x1)]) pn_X12 (by exact Nat.le_of_ble_eq_true rfl) (by rfl) ?_
  intro p e s m args below meth c C hn
  exact v_sub [0, 1] [(0, va_rf (some o)), (1, .int x1)] rfl (w_X12_takesNumber_0 C ho _ _ _ E)
set_option maxHeartbeats 4000000 in
theorem w_X12_put_0 (C : Cx D cA bs Z p s m args meth c cX12_put RX12 2 none) {o : Nat} {K : Sh} {n : Nat} {J : Jm} {R : Rf} (ho : (K o).1 = 13) (res : Im) (x1 : Int32) (I : Im) (E : f_X12_put K R o x1 I = some res) : VW D cA bs p l e rX12_put s m args below meth c 2 [(0, va_rf (some o)), (1, .int x1)] K n I J R 0 0 (MQ below (QX D cA bs none K n res J R) args s 0 0 (fun q => bs ≤ q)) 0 [] := by
  unfold f_X12_put at E
  refine v_aload_n (r := (some o)) C 0 dX12_put_0 rfl ?_
  refine v_getR (r := (some o)) C fa_X12_47 rfl rfl ho dX12_put_1 ?_
  refine v_aload_n (r := (some o)) C 0 dX12_put_4 rfl ?_
  refine v_getI (r := (some o)) C fa_X12_53 rfl rfl ho dX12_put_5 ?_
  refine v_iload_n C 1 dX12_put_8 rfl ?_
  refine v_iast (r := (R o 12)) C E dX12_put_9 (fun I1 _ E => ?_)
  refine v_aload_n (r := (some o)) C 0 dX12_put_10 rfl ?_
  refine v_dup C dX12_put_11 (rf_cat _) ?_
  refine v_getI (r := (some o)) C fa_X12_53 rfl rfl ho dX12_put_12 ?_
  refine v_iconst C dX12_put_15 k_iconst_1 ?_
  refine v_iadd C dX12_put_16 ?_
  refine v_putI (r := (some o)) C fa_X12_53 rfl E rfl ho ⟨rfl, rfl⟩ dX12_put_17 (fun I2 _ E => ?_)
  obtain rfl := Option.some.inj E
  exact v_vret C rfl dX12_put_20
set_option maxHeartbeats 4000000 in
theorem c_X12_put {n : Nat} {K : Sh} {I : Im} {J : Jm} {R : Rf} {o : Nat} {x1 : Int32} (ho : (K o).1 = 13) {res : Im} (E : f_X12_put K R o x1 I = some res) : Met l yX12_put (Cond.code yX12_put cX12_put 2 none :: tb) rX12_put (PX D cA bs Z [.ref o, .int x1] K n I J R) (QX D cA bs none K n res J R) 0 0 (fun q => bs ≤ q) := by
  refine met_of (lv1 := [(0, va_rf (some o)), (1, .int x1)]) pn_X12 (by exact Nat.le_of_ble_eq_true rfl) (by rfl) ?_
  intro p e s m args below meth c C hn
  exact v_sub [0, 1] [(0, va_rf (some o)), (1, .int x1)] rfl (w_X12_put_0 C ho _ _ _ E)
set_option maxHeartbeats 4000000 in
theorem w_X12_whole_0 (C : Cx D cA bs Z p s m args meth c cX12_whole RX12 1 none) {o : Nat} {K : Sh} {n : Nat} {J : Jm} {R : Rf} (ho : (K o).1 = 13) (res : Im)  : ∀ (k : Nat), ∀ (I : Im), f_X12_whole_0 K R o k I = some res → VW D cA bs p l e rX12_whole s m args below meth c 1 [(0, va_rf (some o))] K n I J R 0 0 (MQ below (QX D cA bs none K n res J R) args s 0 0 (fun q => bs ≤ q)) 0 [] := by
  intro k
  induction k with
  | zero =>
    intro I E
    have E : (none : Option (Im)) = some res := E
    cases E
  | succ k ih =>
    intro I E
    unfold f_X12_whole_0 at E
    refine v_aload_n (r := (some o)) C 0 dX12_whole_0 rfl ?_
    refine v_getI (r := (some o)) C fa_X12_56 rfl rfl ho dX12_whole_1 ?_
    refine v_if_le C 52 E dX12_whole_4 rfl (fun c7 E => ?_) (fun c7 E => ?_)
    · obtain rfl := Option.some.inj E
      exact v_vret C rfl dX12_whole_52
    · refine v_aload_n (r := (some o)) C 0 dX12_whole_7 rfl ?_
      refine v_getR (r := (some o)) C fa_X12_50 rfl rfl ho dX12_whole_8 ?_
      refine v_aload_n (r := (some o)) C 0 dX12_whole_11 rfl ?_
      refine v_getI (r := (some o)) C fa_X12_56 rfl rfl ho dX12_whole_12 ?_
      refine v_iconst C dX12_whole_15 k_iconst_1 ?_
      refine v_isub C dX12_whole_16 ?_
      refine v_iald (r := (R o 13)) C E dX12_whole_17 (fun v1 _ E => ?_)
      refine v_bipush C dX12_whole_18 k_bipush_33 ?_
      refine v_icmp_ne C 52 E dX12_whole_20 rfl (fun c6 E => ?_) (fun c6 E => ?_)
      · refine v_aload_n (r := (some o)) C 0 dX12_whole_23 rfl ?_
        refine v_bipush C dX12_whole_24 k_bipush_m33 ?_
        obtain ⟨q2, h3, E⟩ := bnd E
        refine v_callV (r := (some o)) (As := [.int (-33)]) (rv := none) (st := []) (st1 := []) (ce1 := 0) (sl1 := 0) C cv_X12_249 (c_X12_put (x1 := (-33)) ho h3) rfl ho rfl rfl ⟨rfl, rfl, Nat.le_of_ble_eq_true rfl, Nat.le_of_ble_eq_true rfl⟩ ⟨Nat.le_of_ble_eq_true rfl, Nat.le_of_ble_eq_true rfl⟩ (Nat.le_of_ble_eq_true rfl) rfl rfl rfl dX12_whole_26 ?_
        refine v_aload_n (r := (some o)) C 0 dX12_whole_29 rfl ?_
        refine v_dup C dX12_whole_30 (rf_cat _) ?_
        refine v_getI (r := (some o)) C fa_X12_56 rfl rfl ho dX12_whole_31 ?_
        refine v_iconst C dX12_whole_34 k_iconst_1 ?_
        refine v_isub C dX12_whole_35 ?_
        refine v_putI (r := (some o)) C fa_X12_56 rfl E rfl ho ⟨rfl, rfl⟩ dX12_whole_36 (fun I4 _ E => ?_)
        refine v_aload_n (r := (some o)) C 0 dX12_whole_39 rfl ?_
        refine v_dup C dX12_whole_40 (rf_cat _) ?_
        refine v_getI (r := (some o)) C fa_X12_59 rfl rfl ho dX12_whole_41 ?_
        refine v_iconst C dX12_whole_44 k_iconst_1 ?_
        refine v_isub C dX12_whole_45 ?_
        refine v_putI (r := (some o)) C fa_X12_59 rfl E rfl ho ⟨rfl, rfl⟩ dX12_whole_46 (fun I5 _ E => ?_)
        refine v_goto C 0 dX12_whole_49 rfl ?_
        exact v_sub [0] [(0, va_rf (some o))] rfl (ih _ E)
      · obtain rfl := Option.some.inj E
        exact v_vret C rfl dX12_whole_52
set_option maxHeartbeats 4000000 in
theorem c_X12_whole {n : Nat} {K : Sh} {I : Im} {J : Jm} {R : Rf} {o : Nat}  (ho : (K o).1 = 13) {res : Im} (E : f_X12_whole K R o I = some res) : Met l yX12_whole (Cond.code yX12_whole cX12_whole 1 none :: tb) rX12_whole (PX D cA bs Z [.ref o] K n I J R) (QX D cA bs none K n res J R) 0 0 (fun q => bs ≤ q) := by
  refine met_of (lv1 := [(0, va_rf (some o))]) pn_X12 (by exact Nat.le_of_ble_eq_true rfl) (by rfl) ?_
  intro p e s m args below meth c C hn
  unfold f_X12_whole at E
  exact v_sub [0] [(0, va_rf (some o))] rfl (w_X12_whole_0 C ho _ _ _ E)
set_option maxHeartbeats 4000000 in
theorem w_X12_settle_45 (C : Cx D cA bs Z p s m args meth c cX12_settle RX12 2 none) {o : Nat} {K : Sh} {n : Nat} {J : Jm} {R : Rf} (ho : (K o).1 = 13) (res : Im) (r0 : Int32 → Im → Option (Im)) (hr0 : ∀ (x1 : Int32) (I : Im), r0 x1 I = some res → VW D cA bs p l e rX12_settle s m args below meth c 2 [(0, va_rf (some o)), (1, .int x1)] K n I J R 0 0 (MQ below (QX D cA bs none K n res J R) args s 0 0 (fun q => bs ≤ q)) 0 []) (x1 : Int32) (I : Im) (E : f_X12_settle_45 K R o r0 x1 I = some res) : VW D cA bs p l e rX12_settle s m args below meth c 2 [(0, va_rf (some o)), (1, .int x1)] K n I J R 0 0 (MQ below (QX D cA bs none K n res J R) args s 0 0 (fun q => bs ≤ q)) 45 [] := by
  unfold f_X12_settle_45 at E
  refine v_aload_n (r := (some o)) C 0 dX12_settle_45 rfl ?_
  refine v_dup C dX12_settle_46 (rf_cat _) ?_
  refine v_getI (r := (some o)) C fa_X12_56 rfl rfl ho dX12_settle_47 ?_
  refine v_iconst C dX12_settle_50 k_iconst_1 ?_
  refine v_isub C dX12_settle_51 ?_
  refine v_putI (r := (some o)) C fa_X12_56 rfl E rfl ho ⟨rfl, rfl⟩ dX12_settle_52 (fun I1 _ E => ?_)
  refine v_aload_n (r := (some o)) C 0 dX12_settle_55 rfl ?_
  refine v_aload_n (r := (some o)) C 0 dX12_settle_56 rfl ?_
  refine v_getR (r := (some o)) C fa_X12_50 rfl rfl ho dX12_settle_57 ?_
  refine v_aload_n (r := (some o)) C 0 dX12_settle_60 rfl ?_
  refine v_getI (r := (some o)) C fa_X12_56 rfl rfl ho dX12_settle_61 ?_
  refine v_iald (r := (R o 13)) C E dX12_settle_64 (fun v2 _ E => ?_)
  refine v_ineg C dX12_settle_65 ?_
  obtain ⟨q3, h4, E⟩ := bnd E
  refine v_callV (r := (some o)) (As := [.int (-v2)]) (rv := none) (st := []) (st1 := []) (ce1 := 0) (sl1 := 0) C cv_X12_249 (c_X12_put (x1 := (-v2)) ho h4) rfl ho rfl rfl ⟨rfl, rfl, Nat.le_of_ble_eq_true rfl, Nat.le_of_ble_eq_true rfl⟩ ⟨Nat.le_of_ble_eq_true rfl, Nat.le_of_ble_eq_true rfl⟩ (Nat.le_of_ble_eq_true rfl) rfl rfl rfl dX12_settle_66 ?_
  refine v_goto C 0 dX12_settle_69 rfl ?_
  exact v_sub [0, 1] [(0, va_rf (some o)), (1, .int x1)] rfl (hr0 _ _ E)
set_option maxHeartbeats 4000000 in
theorem w_X12_settle_0 (C : Cx D cA bs Z p s m args meth c cX12_settle RX12 2 none) {o : Nat} {K : Sh} {n : Nat} {J : Jm} {R : Rf} (ho : (K o).1 = 13) (res : Im)  : ∀ (k : Nat), ∀ (x1 : Int32) (I : Im), f_X12_settle_0 K R o k x1 I = some res → VW D cA bs p l e rX12_settle s m args below meth c 2 [(0, va_rf (some o)), (1, .int x1)] K n I J R 0 0 (MQ below (QX D cA bs none K n res J R) args s 0 0 (fun q => bs ≤ q)) 0 [] := by
  intro k
  induction k with
  | zero =>
    intro x1 I E
    have E : (none : Option (Im)) = some res := E
    cases E
  | succ k ih =>
    intro x1 I E
    unfold f_X12_settle_0 at E
    refine v_aload_n (r := (some o)) C 0 dX12_settle_0 rfl ?_
    refine v_getI (r := (some o)) C fa_X12_56 rfl rfl ho dX12_settle_1 ?_
    refine v_if_le C 72 E dX12_settle_4 rfl (fun c10 E => ?_) (fun c10 E => ?_)
    · obtain rfl := Option.some.inj E
      exact v_vret C rfl dX12_settle_72
    · refine v_aload_n (r := (some o)) C 0 dX12_settle_7 rfl ?_
      refine v_getR (r := (some o)) C fa_X12_50 rfl rfl ho dX12_settle_8 ?_
      refine v_aload_n (r := (some o)) C 0 dX12_settle_11 rfl ?_
      refine v_getI (r := (some o)) C fa_X12_56 rfl rfl ho dX12_settle_12 ?_
      refine v_iconst C dX12_settle_15 k_iconst_1 ?_
      refine v_isub C dX12_settle_16 ?_
      refine v_iald (r := (R o 13)) C E dX12_settle_17 (fun v5 _ E => ?_)
      refine v_bipush C dX12_settle_18 k_bipush_38 ?_
      refine v_icmp_eq C 45 E dX12_settle_20 rfl (fun c9 E => ?_) (fun c9 E => ?_)
      · exact v_sub [0, 1] [(0, va_rf (some o)), (1, .int x1)] rfl (w_X12_settle_45 C ho res _ ih _ _ E)
      · refine v_aload_n (r := (some o)) C 0 dX12_settle_23 rfl ?_
        refine v_getR (r := (some o)) C fa_X12_50 rfl rfl ho dX12_settle_24 ?_
        refine v_aload_n (r := (some o)) C 0 dX12_settle_27 rfl ?_
        refine v_getI (r := (some o)) C fa_X12_56 rfl rfl ho dX12_settle_28 ?_
        refine v_iconst C dX12_settle_31 k_iconst_1 ?_
        refine v_isub C dX12_settle_32 ?_
        refine v_iald (r := (R o 13)) C E dX12_settle_33 (fun v6 _ E => ?_)
        refine v_bipush C dX12_settle_34 k_bipush_124 ?_
        refine v_icmp_ne C 72 E dX12_settle_36 rfl (fun c8 E => ?_) (fun c8 E => ?_)
        · refine v_iload_n C 1 dX12_settle_39 rfl ?_
          refine v_bipush C dX12_settle_40 k_bipush_38 ?_
          refine v_icmp_eq C 72 E dX12_settle_42 rfl (fun c7 E => ?_) (fun c7 E => ?_)
          · obtain rfl := Option.some.inj E
            exact v_vret C rfl dX12_settle_72
          · exact v_sub [0, 1] [(0, va_rf (some o)), (1, .int x1)] rfl (w_X12_settle_45 C ho res _ ih _ _ E)
        · obtain rfl := Option.some.inj E
          exact v_vret C rfl dX12_settle_72
set_option maxHeartbeats 4000000 in
theorem c_X12_settle {n : Nat} {K : Sh} {I : Im} {J : Jm} {R : Rf} {o : Nat} {x1 : Int32} (ho : (K o).1 = 13) {res : Im} (E : f_X12_settle K R o x1 I = some res) : Met l yX12_settle (Cond.code yX12_settle cX12_settle 2 none :: tb) rX12_settle (PX D cA bs Z [.ref o, .int x1] K n I J R) (QX D cA bs none K n res J R) 0 0 (fun q => bs ≤ q) := by
  refine met_of (lv1 := [(0, va_rf (some o)), (1, .int x1)]) pn_X12 (by exact Nat.le_of_ble_eq_true rfl) (by rfl) ?_
  intro p e s m args below meth c C hn
  unfold f_X12_settle at E
  exact v_sub [0, 1] [(0, va_rf (some o)), (1, .int x1)] rfl (w_X12_settle_0 C ho _ _ _ _ E)
set_option maxHeartbeats 4000000 in
theorem w_X12_place_0 (C : Cx D cA bs Z p s m args meth c cX12_place RX12 2 (some .int)) {o : Nat} {K : Sh} {n : Nat} {I : Im} {J : Jm} {R : Rf} (ho : (K o).1 = 13) (res : Int32) (x1 : Int32) (E : f_X12_place o x1 = some res) : VW D cA bs p l e rX12_place s m args below meth c 2 [(0, va_rf (some o)), (1, .int x1)] K n I J R 0 0 (MQ below (QX D cA bs (some (.int res)) K n I J R) args s 0 0 (fun q => bs ≤ q)) 0 [] := by
  unfold f_X12_place at E
  refine v_iload_n C 1 dX12_place_0 rfl ?_
  by_cases c1 : x1 = 98
  · have E := ite_t E c1
    refine v_lookup (off := 37) C 38 dX12_place_1 (by decide) (by rw [c1]; decide) rfl ?_
    refine v_iconst C dX12_place_38 k_iconst_1 ?_
    obtain rfl := Option.some.inj E
    exact v_iret C rfl dX12_place_39
  have E := ite_f E c1
  by_cases c2 : x1 = 104
  · have E := ite_t E c2
    refine v_lookup (off := 35) C 36 dX12_place_1 (by decide) (by rw [c2]; decide) rfl ?_
    refine v_iconst C dX12_place_36 k_iconst_0 ?_
    obtain rfl := Option.some.inj E
    exact v_iret C rfl dX12_place_37
  have E := ite_f E c2
  by_cases c3 : x1 = 119
  · have E := ite_t E c3
    refine v_lookup (off := 39) C 40 dX12_place_1 (by decide) (by rw [c3]; decide) rfl ?_
    refine v_iconst C dX12_place_40 k_iconst_2 ?_
    obtain rfl := Option.some.inj E
    exact v_iret C rfl dX12_place_41
  have E := ite_f E c3
  refine v_lookup (off := 41) C 42 dX12_place_1 (by decide) (by show Op.lookupswitch.offset [(98, 37), (104, 35), (119, 39)] 41 _ = _; rw [lv_osw c1 (show ((98 : Int32)).toInt = 98 from by decide), lv_osw c2 (show ((104 : Int32)).toInt = 104 from by decide), lv_osw c3 (show ((119 : Int32)).toInt = 119 from by decide)]; rfl) rfl ?_
  refine v_iconst C dX12_place_42 k_iconst_m1 ?_
  obtain rfl := Option.some.inj E
  exact v_iret C rfl dX12_place_43
set_option maxHeartbeats 4000000 in
theorem c_X12_place {n : Nat} {K : Sh} {I : Im} {J : Jm} {R : Rf} {o : Nat} {x1 : Int32} (ho : (K o).1 = 13) {res : Int32} (E : f_X12_place o x1 = some res) : Met l yX12_place (Cond.code yX12_place cX12_place 2 (some .int) :: tb) rX12_place (PX D cA bs Z [.ref o, .int x1] K n I J R) (QX D cA bs (some (.int res)) K n I J R) 0 0 (fun q => bs ≤ q) := by
  refine met_of (lv1 := [(0, va_rf (some o)), (1, .int x1)]) pn_X12 (by exact Nat.le_of_ble_eq_true rfl) (by rfl) ?_
  intro p e s m args below meth c C hn
  exact v_sub [0, 1] [(0, va_rf (some o)), (1, .int x1)] rfl (w_X12_place_0 C ho _ _ E)
set_option maxHeartbeats 4000000 in
theorem w_X12_takesTest_0 (C : Cx D cA bs Z p s m args meth c cX12_takesTest RX12 3 (some .boolean)) {o : Nat} {K : Sh} {n : Nat} {J : Jm} {R : Rf} (ho : (K o).1 = 13) (res : Int32 × Im) (I : Im) (E : f_X12_takesTest K R o I = some res) : VW D cA bs p l e rX12_takesTest s m args below meth c 3 [(0, va_rf (some o))] K n I J R 0 0 (MQ below (QX D cA bs (some (.int res.1)) K n res.2 J R) args s 0 0 (fun q => bs ≤ q)) 0 [] := by
  unfold f_X12_takesTest at E
  refine v_aload_n (r := (some o)) C 0 dX12_takesTest_0 rfl ?_
  refine v_aload_n (r := (some o)) C 0 dX12_takesTest_1 rfl ?_
  obtain ⟨q1, h2, E⟩ := bnd E
  refine v_callV (r := (some o)) (As := []) (rv := (some (.int q1))) (st := [va_rf (some o)]) (st1 := [.int q1, va_rf (some o)]) (ce1 := 0) (sl1 := 0) C cv_X12_237 (c_X12_next  ho h2) rfl ho rfl rfl ⟨rfl, rfl, Nat.le_of_ble_eq_true rfl, Nat.le_of_ble_eq_true rfl⟩ ⟨Nat.le_of_ble_eq_true rfl, Nat.le_of_ble_eq_true rfl⟩ (by simp only [List.map_cons, List.map_nil, List.sum_cons, List.sum_nil, rf_cat]; exact Nat.le_of_ble_eq_true rfl) rfl rfl rfl dX12_takesTest_2 ?_
  obtain ⟨q3, h4, E⟩ := bnd E
  refine v_callV (r := (some o)) (As := [.int q1]) (rv := (some (.int q3))) (st := []) (st1 := [.int q3]) (ce1 := 0) (sl1 := 0) C cv_X12_253 (c_X12_place (x1 := q1) ho h4) rfl ho rfl rfl ⟨rfl, rfl, Nat.le_of_ble_eq_true rfl, Nat.le_of_ble_eq_true rfl⟩ ⟨Nat.le_of_ble_eq_true rfl, Nat.le_of_ble_eq_true rfl⟩ (Nat.le_of_ble_eq_true rfl) rfl rfl rfl dX12_takesTest_5 ?_
  refine v_istore_n C [(1, .int q3), (0, va_rf (some o))] dX12_takesTest_8 (Nat.le_of_ble_eq_true rfl) rfl ?_
  refine v_iload_n C 0 dX12_takesTest_9 rfl ?_
  refine v_if_ge C 15 E dX12_takesTest_10 rfl (fun c19 E => ?_) (fun c19 E => ?_)
  · refine v_aload_n (r := (some o)) C 1 dX12_takesTest_15 rfl ?_
    refine v_dup C dX12_takesTest_16 (rf_cat _) ?_
    refine v_getI (r := (some o)) C fa_X12_19 rfl rfl ho dX12_takesTest_17 ?_
    refine v_iconst C dX12_takesTest_20 k_iconst_1 ?_
    refine v_iadd C dX12_takesTest_21 ?_
    refine v_putI (r := (some o)) C fa_X12_19 rfl E rfl ho ⟨rfl, rfl⟩ dX12_takesTest_22 (fun I5 _ E => ?_)
    refine v_aload_n (r := (some o)) C 1 dX12_takesTest_25 rfl ?_
    obtain ⟨q6, h7, E⟩ := bnd E
    refine v_callV (r := (some o)) (As := []) (rv := (some (.int q6))) (st := []) (st1 := [.int q6]) (ce1 := 0) (sl1 := 0) C cv_X12_237 (c_X12_next  ho h7) rfl ho rfl rfl ⟨rfl, rfl, Nat.le_of_ble_eq_true rfl, Nat.le_of_ble_eq_true rfl⟩ ⟨Nat.le_of_ble_eq_true rfl, Nat.le_of_ble_eq_true rfl⟩ (Nat.le_of_ble_eq_true rfl) rfl rfl rfl dX12_takesTest_26 ?_
    refine v_istore_n C [(2, .int q6), (1, .int q3), (0, va_rf (some o))] dX12_takesTest_29 (Nat.le_of_ble_eq_true rfl) rfl ?_
    refine v_aload_n (r := (some o)) C 2 dX12_takesTest_30 rfl ?_
    refine v_iload_n C 0 dX12_takesTest_31 rfl ?_
    refine v_bipush C dX12_takesTest_32 k_bipush_60 ?_
    refine v_bipush C dX12_takesTest_34 k_bipush_62 ?_
    obtain ⟨q8, h9, E⟩ := bnd E
    refine v_callV (r := (some o)) (As := [.int q6, .int 60, .int 62]) (rv := (some (.int q8))) (st := []) (st1 := [.int q8]) (ce1 := 0) (sl1 := 0) C cv_X12_233 (c_X12_in (x1 := q6) (x2 := 60) (x3 := 62) ho h9) rfl ho rfl rfl ⟨rfl, rfl, Nat.le_of_ble_eq_true rfl, Nat.le_of_ble_eq_true rfl⟩ ⟨Nat.le_of_ble_eq_true rfl, Nat.le_of_ble_eq_true rfl⟩ (Nat.le_of_ble_eq_true rfl) rfl rfl rfl dX12_takesTest_36 ?_
    refine v_if_ne C 44 E dX12_takesTest_39 rfl (fun c18 E => ?_) (fun c18 E => ?_)
    · refine v_iconst C dX12_takesTest_42 k_iconst_0 ?_
      obtain rfl := Option.some.inj E
      exact v_zret (v := 0) C rfl nz_0 dX12_takesTest_43
    · refine v_aload_n (r := (some o)) C 2 dX12_takesTest_44 rfl ?_
      refine v_dup C dX12_takesTest_45 (rf_cat _) ?_
      refine v_getI (r := (some o)) C fa_X12_19 rfl rfl ho dX12_takesTest_46 ?_
      refine v_iconst C dX12_takesTest_49 k_iconst_1 ?_
      refine v_iadd C dX12_takesTest_50 ?_
      refine v_putI (r := (some o)) C fa_X12_19 rfl E rfl ho ⟨rfl, rfl⟩ dX12_takesTest_51 (fun I10 _ E => ?_)
      refine v_aload_n (r := (some o)) C 2 dX12_takesTest_54 rfl ?_
      refine v_iconst C dX12_takesTest_55 k_iconst_2 ?_
      obtain ⟨q11, h12, E⟩ := bnd E
      refine v_callV (r := (some o)) (As := [.int 2]) (rv := (some (.int q11.1))) (st := []) (st1 := [.int q11.1]) (ce1 := 0) (sl1 := 0) C cv_X12_257 (c_X12_takesNumber (x1 := 2) ho h12) rfl ho rfl rfl ⟨rfl, rfl, Nat.le_of_ble_eq_true rfl, Nat.le_of_ble_eq_true rfl⟩ ⟨Nat.le_of_ble_eq_true rfl, Nat.le_of_ble_eq_true rfl⟩ (Nat.le_of_ble_eq_true rfl) rfl rfl rfl dX12_takesTest_56 ?_
      refine v_if_ne C 64 E dX12_takesTest_59 rfl (fun c17 E => ?_) (fun c17 E => ?_)
      · refine v_iconst C dX12_takesTest_62 k_iconst_0 ?_
        obtain rfl := Option.some.inj E
        exact v_zret (v := 0) C rfl nz_0 dX12_takesTest_63
      · refine v_aload_n (r := (some o)) C 2 dX12_takesTest_64 rfl ?_
        refine v_sipush C dX12_takesTest_65 k_sipush_1000 ?_
        refine v_iload_n C 1 dX12_takesTest_68 rfl ?_
        refine v_imul C dX12_takesTest_69 ?_
        refine v_bipush C dX12_takesTest_70 k_bipush_100 ?_
        refine v_iload_n C 0 dX12_takesTest_72 rfl ?_
        refine v_bipush C dX12_takesTest_73 k_bipush_60 ?_
        refine v_isub C dX12_takesTest_75 ?_
        refine v_imul C dX12_takesTest_76 ?_
        refine v_iadd C dX12_takesTest_77 ?_
        refine v_aload_n (r := (some o)) C 2 dX12_takesTest_78 rfl ?_
        refine v_getI (r := (some o)) C fa_X12_22 rfl rfl ho dX12_takesTest_79 ?_
        refine v_iadd C dX12_takesTest_82 ?_
        obtain ⟨q13, h14, E⟩ := bnd E
        refine v_callV (r := (some o)) (As := [.int (((1000 * q3) + (100 * (q6 - 60))) + (q11.2 o 4))]) (rv := none) (st := []) (st1 := []) (ce1 := 0) (sl1 := 0) C cv_X12_249 (c_X12_put (x1 := (((1000 * q3) + (100 * (q6 - 60))) + (q11.2 o 4))) ho h14) rfl ho rfl rfl ⟨rfl, rfl, Nat.le_of_ble_eq_true rfl, Nat.le_of_ble_eq_true rfl⟩ ⟨Nat.le_of_ble_eq_true rfl, Nat.le_of_ble_eq_true rfl⟩ (Nat.le_of_ble_eq_true rfl) rfl rfl rfl dX12_takesTest_83 ?_
        refine v_aload_n (r := (some o)) C 2 dX12_takesTest_86 rfl ?_
        obtain ⟨q15, h16, E⟩ := bnd E
        refine v_callV (r := (some o)) (As := []) (rv := none) (st := []) (st1 := []) (ce1 := 0) (sl1 := 0) C cv_X12_260 (c_X12_whole  ho h16) rfl ho rfl rfl ⟨rfl, rfl, Nat.le_of_ble_eq_true rfl, Nat.le_of_ble_eq_true rfl⟩ ⟨Nat.le_of_ble_eq_true rfl, Nat.le_of_ble_eq_true rfl⟩ (Nat.le_of_ble_eq_true rfl) rfl rfl rfl dX12_takesTest_87 ?_
        refine v_iconst C dX12_takesTest_90 k_iconst_1 ?_
        obtain rfl := Option.some.inj E
        exact v_zret (v := 1) C rfl nz_1 dX12_takesTest_91
  · refine v_iconst C dX12_takesTest_13 k_iconst_0 ?_
    obtain rfl := Option.some.inj E
    exact v_zret (v := 0) C rfl nz_0 dX12_takesTest_14
set_option maxHeartbeats 4000000 in
theorem c_X12_takesTest {n : Nat} {K : Sh} {I : Im} {J : Jm} {R : Rf} {o : Nat}  (ho : (K o).1 = 13) {res : Int32 × Im} (E : f_X12_takesTest K R o I = some res) : Met l yX12_takesTest (Cond.code yX12_takesTest cX12_takesTest 3 (some .boolean) :: tb) rX12_takesTest (PX D cA bs Z [.ref o] K n I J R) (QX D cA bs (some (.int res.1)) K n res.2 J R) 0 0 (fun q => bs ≤ q) := by
  refine met_of (lv1 := [(0, va_rf (some o))]) pn_X12 (by exact Nat.le_of_ble_eq_true rfl) (by rfl) ?_
  intro p e s m args below meth c C hn
  exact v_sub [0] [(0, va_rf (some o))] rfl (w_X12_takesTest_0 C ho _ _ E)
set_option maxHeartbeats 4000000 in
theorem w_X12_takesE_122 (C : Cx D cA bs Z p s m args meth c cX12_takesE RX12 4 (some .boolean)) {o : Nat} {K : Sh} {n : Nat} {J : Jm} {R : Rf} (ho : (K o).1 = 13) (res : Int32 × Im) (r22 : Int32 → Int32 → Im → Option (Int32 × Im)) (hr22 : ∀ (x1 : Int32) (x2 : Int32) (I : Im), r22 x1 x2 I = some res → VW D cA bs p l e rX12_takesE s m args below meth c 4 [(0, va_rf (some o)), (1, .int x1), (2, .int x2)] K n I J R 0 0 (MQ below (QX D cA bs (some (.int res.1)) K n res.2 J R) args s 0 0 (fun q => bs ≤ q)) 22 []) (x1 : Int32) (x3 : Int32) (I : Im) (E : f_X12_takesE_122 K R o r22 x1 x3 I = some res) : VW D cA bs p l e rX12_takesE s m args below meth c 4 [(0, va_rf (some o)), (1, .int x1), (3, .int x3)] K n I J R 0 0 (MQ below (QX D cA bs (some (.int res.1)) K n res.2 J R) args s 0 0 (fun q => bs ≤ q)) 122 [] := by
  unfold f_X12_takesE_122 at E
  refine v_aload_n (r := (some o)) C 0 dX12_takesE_122 rfl ?_
  refine v_iload_n C 2 dX12_takesE_123 rfl ?_
  obtain ⟨q1, h2, E⟩ := bnd E
  refine v_callV (r := (some o)) (As := [.int x3]) (rv := none) (st := []) (st1 := []) (ce1 := 0) (sl1 := 0) C cv_X12_266 (c_X12_settle (x1 := x3) ho h2) rfl ho rfl rfl ⟨rfl, rfl, Nat.le_of_ble_eq_true rfl, Nat.le_of_ble_eq_true rfl⟩ ⟨Nat.le_of_ble_eq_true rfl, Nat.le_of_ble_eq_true rfl⟩ (Nat.le_of_ble_eq_true rfl) rfl rfl rfl dX12_takesE_124 ?_
  refine v_aload_n (r := (some o)) C 0 dX12_takesE_127 rfl ?_
  refine v_getR (r := (some o)) C fa_X12_50 rfl rfl ho dX12_takesE_128 ?_
  refine v_aload_n (r := (some o)) C 0 dX12_takesE_131 rfl ?_
  refine v_getI (r := (some o)) C fa_X12_56 rfl rfl ho dX12_takesE_132 ?_
  refine v_iload_n C 2 dX12_takesE_135 rfl ?_
  refine v_iast (r := (R o 13)) C E dX12_takesE_136 (fun I3 _ E => ?_)
  refine v_aload_n (r := (some o)) C 0 dX12_takesE_137 rfl ?_
  refine v_dup C dX12_takesE_138 (rf_cat _) ?_
  refine v_getI (r := (some o)) C fa_X12_56 rfl rfl ho dX12_takesE_139 ?_
  refine v_iconst C dX12_takesE_142 k_iconst_1 ?_
  refine v_iadd C dX12_takesE_143 ?_
  refine v_putI (r := (some o)) C fa_X12_56 rfl E rfl ho ⟨rfl, rfl⟩ dX12_takesE_144 (fun I4 _ E => ?_)
  refine v_iconst C dX12_takesE_147 k_iconst_1 ?_
  refine v_istore_n C [(2, .int 1), (0, va_rf (some o)), (1, .int x1), (3, .int x3)] dX12_takesE_148 (Nat.le_of_ble_eq_true rfl) rfl ?_
  refine v_aload_n (r := (some o)) C 1 dX12_takesE_149 rfl ?_
  refine v_dup C dX12_takesE_150 (rf_cat _) ?_
  refine v_getI (r := (some o)) C fa_X12_19 rfl rfl ho dX12_takesE_151 ?_
  refine v_iconst C dX12_takesE_154 k_iconst_1 ?_
  refine v_iadd C dX12_takesE_155 ?_
  refine v_putI (r := (some o)) C fa_X12_19 rfl E rfl ho ⟨rfl, rfl⟩ dX12_takesE_156 (fun I5 _ E => ?_)
  refine v_goto C 22 dX12_takesE_159 rfl ?_
  exact v_sub [1, 2, 0] [(0, va_rf (some o)), (1, .int x1), (2, .int 1)] rfl (hr22 _ _ _ E)
set_option maxHeartbeats 4000000 in
theorem w_X12_takesE_43 (C : Cx D cA bs Z p s m args meth c cX12_takesE RX12 4 (some .boolean)) {o : Nat} {K : Sh} {n : Nat} {J : Jm} {R : Rf} (ho : (K o).1 = 13) (res : Int32 × Im) (r22 : Int32 → Int32 → Im → Option (Int32 × Im)) (hr22 : ∀ (x1 : Int32) (x2 : Int32) (I : Im), r22 x1 x2 I = some res → VW D cA bs p l e rX12_takesE s m args below meth c 4 [(0, va_rf (some o)), (1, .int x1), (2, .int x2)] K n I J R 0 0 (MQ below (QX D cA bs (some (.int res.1)) K n res.2 J R) args s 0 0 (fun q => bs ≤ q)) 22 []) (x1 : Int32) (x2 : Int32) (x3 : Int32) (I : Im) (E : f_X12_takesE_43 K R o r22 x1 x2 x3 I = some res) : VW D cA bs p l e rX12_takesE s m args below meth c 4 [(0, va_rf (some o)), (1, .int x1), (2, .int x2), (3, .int x3)] K n I J R 0 0 (MQ below (QX D cA bs (some (.int res.1)) K n res.2 J R) args s 0 0 (fun q => bs ≤ q)) 43 [] := by
  unfold f_X12_takesE_43 at E
  refine v_aload_n (r := (some o)) C 0 dX12_takesE_43 rfl ?_
  refine v_getI (r := (some o)) C fa_X12_59 rfl rfl ho dX12_takesE_44 ?_
  refine v_iconst C dX12_takesE_47 k_iconst_4 ?_
  refine v_icmp_ne C 53 E dX12_takesE_48 rfl (fun c10 E => ?_) (fun c10 E => ?_)
  · refine v_iconst C dX12_takesE_51 k_iconst_0 ?_
    obtain rfl := Option.some.inj E
    exact v_zret (v := 0) C rfl nz_0 dX12_takesE_52
  · refine v_aload_n (r := (some o)) C 0 dX12_takesE_53 rfl ?_
    refine v_dup C dX12_takesE_54 (rf_cat _) ?_
    refine v_getI (r := (some o)) C fa_X12_59 rfl rfl ho dX12_takesE_55 ?_
    refine v_iconst C dX12_takesE_58 k_iconst_1 ?_
    refine v_iadd C dX12_takesE_59 ?_
    refine v_putI (r := (some o)) C fa_X12_59 rfl E rfl ho ⟨rfl, rfl⟩ dX12_takesE_60 (fun I6 _ E => ?_)
    refine v_aload_n (r := (some o)) C 0 dX12_takesE_63 rfl ?_
    refine v_getR (r := (some o)) C fa_X12_50 rfl rfl ho dX12_takesE_64 ?_
    refine v_aload_n (r := (some o)) C 0 dX12_takesE_67 rfl ?_
    refine v_getI (r := (some o)) C fa_X12_56 rfl rfl ho dX12_takesE_68 ?_
    refine v_iload_n C 3 dX12_takesE_71 rfl ?_
    refine v_iast (r := (R o 13)) C E dX12_takesE_72 (fun I7 _ E => ?_)
    refine v_aload_n (r := (some o)) C 0 dX12_takesE_73 rfl ?_
    refine v_dup C dX12_takesE_74 (rf_cat _) ?_
    refine v_getI (r := (some o)) C fa_X12_56 rfl rfl ho dX12_takesE_75 ?_
    refine v_iconst C dX12_takesE_78 k_iconst_1 ?_
    refine v_iadd C dX12_takesE_79 ?_
    refine v_putI (r := (some o)) C fa_X12_56 rfl E rfl ho ⟨rfl, rfl⟩ dX12_takesE_80 (fun I8 _ E => ?_)
    refine v_aload_n (r := (some o)) C 0 dX12_takesE_83 rfl ?_
    refine v_dup C dX12_takesE_84 (rf_cat _) ?_
    refine v_getI (r := (some o)) C fa_X12_19 rfl rfl ho dX12_takesE_85 ?_
    refine v_iconst C dX12_takesE_88 k_iconst_1 ?_
    refine v_iadd C dX12_takesE_89 ?_
    refine v_putI (r := (some o)) C fa_X12_19 rfl E rfl ho ⟨rfl, rfl⟩ dX12_takesE_90 (fun I9 _ E => ?_)
    refine v_goto C 22 dX12_takesE_93 rfl ?_
    exact v_sub [0, 1, 2] [(0, va_rf (some o)), (1, .int x1), (2, .int x2)] rfl (hr22 _ _ _ E)
set_option maxHeartbeats 4000000 in
theorem w_X12_takesE_22 (C : Cx D cA bs Z p s m args meth c cX12_takesE RX12 4 (some .boolean)) {o : Nat} {K : Sh} {n : Nat} {J : Jm} {R : Rf} (ho : (K o).1 = 13) (res : Int32 × Im)  : ∀ (k : Nat), ∀ (x1 : Int32) (x2 : Int32) (I : Im), f_X12_takesE_22 K R o k x1 x2 I = some res → VW D cA bs p l e rX12_takesE s m args below meth c 4 [(0, va_rf (some o)), (1, .int x1), (2, .int x2)] K n I J R 0 0 (MQ below (QX D cA bs (some (.int res.1)) K n res.2 J R) args s 0 0 (fun q => bs ≤ q)) 22 [] := by
  intro k
  induction k with
  | zero =>
    intro x1 x2 I E
    have E : (none : Option (Int32 × Im)) = some res := E
    cases E
  | succ k ih =>
    intro x1 x2 I E
    unfold f_X12_takesE_22 at E
    refine v_aload_n (r := (some o)) C 0 dX12_takesE_22 rfl ?_
    obtain ⟨q11, h12, E⟩ := bnd E
    refine v_callV (r := (some o)) (As := []) (rv := (some (.int q11))) (st := []) (st1 := [.int q11]) (ce1 := 0) (sl1 := 0) C cv_X12_237 (c_X12_next  ho h12) rfl ho rfl rfl ⟨rfl, rfl, Nat.le_of_ble_eq_true rfl, Nat.le_of_ble_eq_true rfl⟩ ⟨Nat.le_of_ble_eq_true rfl, Nat.le_of_ble_eq_true rfl⟩ (Nat.le_of_ble_eq_true rfl) rfl rfl rfl dX12_takesE_23 ?_
    refine v_istore_n C [(3, .int q11), (0, va_rf (some o)), (1, .int x1), (2, .int x2)] dX12_takesE_26 (Nat.le_of_ble_eq_true rfl) rfl ?_
    refine v_iload_n C 3 dX12_takesE_27 rfl ?_
    refine v_if_eq C 110 E dX12_takesE_28 rfl (fun c30 E => ?_) (fun c30 E => ?_)
    · refine v_iload_n C 0 dX12_takesE_110 rfl ?_
      refine v_bipush C dX12_takesE_111 k_bipush_38 ?_
      refine v_icmp_eq C 122 E dX12_takesE_113 rfl (fun c24 E => ?_) (fun c24 E => ?_)
      · exact v_sub [1, 2, 0] [(0, va_rf (some o)), (1, .int x1), (3, .int q11)] rfl (w_X12_takesE_122 C ho res _ ih _ _ _ E)
      · refine v_iload_n C 0 dX12_takesE_116 rfl ?_
        refine v_bipush C dX12_takesE_117 k_bipush_124 ?_
        refine v_icmp_ne C 162 E dX12_takesE_119 rfl (fun c23 E => ?_) (fun c23 E => ?_)
        · exact v_sub [1, 2, 0] [(0, va_rf (some o)), (1, .int x1), (3, .int q11)] rfl (w_X12_takesE_122 C ho res _ ih _ _ _ E)
        · refine v_aload_n (r := (some o)) C 1 dX12_takesE_162 rfl ?_
          refine v_bipush C dX12_takesE_163 k_bipush_124 ?_
          obtain ⟨q13, h14, E⟩ := bnd E
          refine v_callV (r := (some o)) (As := [.int 124]) (rv := none) (st := []) (st1 := []) (ce1 := 0) (sl1 := 0) C cv_X12_266 (c_X12_settle (x1 := 124) ho h14) rfl ho rfl rfl ⟨rfl, rfl, Nat.le_of_ble_eq_true rfl, Nat.le_of_ble_eq_true rfl⟩ ⟨Nat.le_of_ble_eq_true rfl, Nat.le_of_ble_eq_true rfl⟩ (Nat.le_of_ble_eq_true rfl) rfl rfl rfl dX12_takesE_165 ?_
          refine v_aload_n (r := (some o)) C 1 dX12_takesE_168 rfl ?_
          refine v_getR (r := (some o)) C fa_X12_44 rfl rfl ho dX12_takesE_169 ?_
          refine v_iload_n C 2 dX12_takesE_172 rfl ?_
          refine v_aload_n (r := (some o)) C 1 dX12_takesE_173 rfl ?_
          refine v_getI (r := (some o)) C fa_X12_53 rfl rfl ho dX12_takesE_174 ?_
          refine v_iast (r := (R o 11)) C E dX12_takesE_177 (fun I15 _ E => ?_)
          refine v_aload_n (r := (some o)) C 1 dX12_takesE_178 rfl ?_
          refine v_getI (r := (some o)) C fa_X12_56 rfl rfl ho dX12_takesE_179 ?_
          refine v_if_ne C 187 E dX12_takesE_182 rfl (fun c22 E => ?_) (fun c22 E => ?_)
          · refine v_iconst C dX12_takesE_185 k_iconst_1 ?_
            obtain rfl := Option.some.inj E
            exact v_zret (v := 1) C rfl nz_1 dX12_takesE_186
          · refine v_iload_n C 0 dX12_takesE_187 rfl ?_
            refine v_bipush C dX12_takesE_188 k_bipush_41 ?_
            refine v_icmp_eq C 195 E dX12_takesE_190 rfl (fun c21 E => ?_) (fun c21 E => ?_)
            · refine v_aload_n (r := (some o)) C 1 dX12_takesE_195 rfl ?_
              refine v_dup C dX12_takesE_196 (rf_cat _) ?_
              refine v_getI (r := (some o)) C fa_X12_56 rfl rfl ho dX12_takesE_197 ?_
              refine v_iconst C dX12_takesE_200 k_iconst_1 ?_
              refine v_isub C dX12_takesE_201 ?_
              refine v_putI (r := (some o)) C fa_X12_56 rfl E rfl ho ⟨rfl, rfl⟩ dX12_takesE_202 (fun I16 _ E => ?_)
              refine v_aload_n (r := (some o)) C 1 dX12_takesE_205 rfl ?_
              refine v_dup C dX12_takesE_206 (rf_cat _) ?_
              refine v_getI (r := (some o)) C fa_X12_59 rfl rfl ho dX12_takesE_207 ?_
              refine v_iconst C dX12_takesE_210 k_iconst_1 ?_
              refine v_isub C dX12_takesE_211 ?_
              refine v_putI (r := (some o)) C fa_X12_59 rfl E rfl ho ⟨rfl, rfl⟩ dX12_takesE_212 (fun I17 _ E => ?_)
              refine v_aload_n (r := (some o)) C 1 dX12_takesE_215 rfl ?_
              refine v_dup C dX12_takesE_216 (rf_cat _) ?_
              refine v_getI (r := (some o)) C fa_X12_19 rfl rfl ho dX12_takesE_217 ?_
              refine v_iconst C dX12_takesE_220 k_iconst_1 ?_
              refine v_iadd C dX12_takesE_221 ?_
              refine v_putI (r := (some o)) C fa_X12_19 rfl E rfl ho ⟨rfl, rfl⟩ dX12_takesE_222 (fun I18 _ E => ?_)
              refine v_aload_n (r := (some o)) C 1 dX12_takesE_225 rfl ?_
              obtain ⟨q19, h20, E⟩ := bnd E
              refine v_callV (r := (some o)) (As := []) (rv := none) (st := []) (st1 := []) (ce1 := 0) (sl1 := 0) C cv_X12_260 (c_X12_whole  ho h20) rfl ho rfl rfl ⟨rfl, rfl, Nat.le_of_ble_eq_true rfl, Nat.le_of_ble_eq_true rfl⟩ ⟨Nat.le_of_ble_eq_true rfl, Nat.le_of_ble_eq_true rfl⟩ (Nat.le_of_ble_eq_true rfl) rfl rfl rfl dX12_takesE_226 ?_
              refine v_goto C 22 dX12_takesE_229 rfl ?_
              exact v_sub [1, 2, 3] [(0, va_rf (some o)), (1, .int x1), (2, .int x2)] rfl (ih _ _ _ E)
            · refine v_iconst C dX12_takesE_193 k_iconst_0 ?_
              obtain rfl := Option.some.inj E
              exact v_zret (v := 0) C rfl nz_0 dX12_takesE_194
    · refine v_iload_n C 0 dX12_takesE_31 rfl ?_
      refine v_bipush C dX12_takesE_32 k_bipush_33 ?_
      refine v_icmp_eq C 43 E dX12_takesE_34 rfl (fun c29 E => ?_) (fun c29 E => ?_)
      · exact v_sub [1, 2, 3, 0] [(0, va_rf (some o)), (1, .int x1), (2, .int x2), (3, .int q11)] rfl (w_X12_takesE_43 C ho res _ ih _ _ _ _ E)
      · refine v_iload_n C 0 dX12_takesE_37 rfl ?_
        refine v_bipush C dX12_takesE_38 k_bipush_40 ?_
        refine v_icmp_ne C 96 E dX12_takesE_40 rfl (fun c28 E => ?_) (fun c28 E => ?_)
        · exact v_sub [1, 2, 3, 0] [(0, va_rf (some o)), (1, .int x1), (2, .int x2), (3, .int q11)] rfl (w_X12_takesE_43 C ho res _ ih _ _ _ _ E)
        · refine v_aload_n (r := (some o)) C 1 dX12_takesE_96 rfl ?_
          obtain ⟨q25, h26, E⟩ := bnd E
          refine v_callV (r := (some o)) (As := []) (rv := (some (.int q25.1))) (st := []) (st1 := [.int q25.1]) (ce1 := 0) (sl1 := 0) C cv_X12_263 (c_X12_takesTest  ho h26) rfl ho rfl rfl ⟨rfl, rfl, Nat.le_of_ble_eq_true rfl, Nat.le_of_ble_eq_true rfl⟩ ⟨Nat.le_of_ble_eq_true rfl, Nat.le_of_ble_eq_true rfl⟩ (Nat.le_of_ble_eq_true rfl) rfl rfl rfl dX12_takesE_97 ?_
          refine v_if_eq C 108 E dX12_takesE_100 rfl (fun c27 E => ?_) (fun c27 E => ?_)
          · refine v_iconst C dX12_takesE_108 k_iconst_0 ?_
            obtain rfl := Option.some.inj E
            exact v_zret (v := 0) C rfl nz_0 dX12_takesE_109
          · refine v_iconst C dX12_takesE_103 k_iconst_0 ?_
            refine v_istore_n C [(2, .int 0), (3, .int q11), (0, va_rf (some o)), (1, .int x1)] dX12_takesE_104 (Nat.le_of_ble_eq_true rfl) rfl ?_
            refine v_goto C 22 dX12_takesE_105 rfl ?_
            exact v_sub [2, 3, 0] [(0, va_rf (some o)), (1, .int x1), (2, .int 0)] rfl (ih _ _ _ E)
set_option maxHeartbeats 4000000 in
theorem w_X12_takesE_0 (C : Cx D cA bs Z p s m args meth c cX12_takesE RX12 4 (some .boolean)) {o : Nat} {K : Sh} {n : Nat} {J : Jm} {R : Rf} (ho : (K o).1 = 13) (res : Int32 × Im) (x1 : Int32) (I : Im) (E : f_X12_takesE K R o x1 I = some res) : VW D cA bs p l e rX12_takesE s m args below meth c 4 [(0, va_rf (some o)), (1, .int x1)] K n I J R 0 0 (MQ below (QX D cA bs (some (.int res.1)) K n res.2 J R) args s 0 0 (fun q => bs ≤ q)) 0 [] := by
  unfold f_X12_takesE at E
  refine v_aload_n (r := (some o)) C 0 dX12_takesE_0 rfl ?_
  refine v_iconst C dX12_takesE_1 k_iconst_0 ?_
  refine v_putI (r := (some o)) C fa_X12_56 rfl E rfl ho ⟨rfl, rfl⟩ dX12_takesE_2 (fun I31 _ E => ?_)
  refine v_aload_n (r := (some o)) C 0 dX12_takesE_5 rfl ?_
  refine v_iconst C dX12_takesE_6 k_iconst_0 ?_
  refine v_putI (r := (some o)) C fa_X12_59 rfl E rfl ho ⟨rfl, rfl⟩ dX12_takesE_7 (fun I32 _ E => ?_)
  refine v_aload_n (r := (some o)) C 0 dX12_takesE_10 rfl ?_
  refine v_getR (r := (some o)) C fa_X12_41 rfl rfl ho dX12_takesE_11 ?_
  refine v_iload_n C 1 dX12_takesE_14 rfl ?_
  refine v_aload_n (r := (some o)) C 0 dX12_takesE_15 rfl ?_
  refine v_getI (r := (some o)) C fa_X12_53 rfl rfl ho dX12_takesE_16 ?_
  refine v_iast (r := (R o 10)) C E dX12_takesE_19 (fun I33 _ E => ?_)
  refine v_iconst C dX12_takesE_20 k_iconst_1 ?_
  refine v_istore_n C [(2, .int 1), (0, va_rf (some o)), (1, .int x1)] dX12_takesE_21 (Nat.le_of_ble_eq_true rfl) rfl ?_
  exact v_sub [1, 2, 0] [(0, va_rf (some o)), (1, .int x1), (2, .int 1)] rfl (w_X12_takesE_22 C ho res  _ _ _ _ E)
set_option maxHeartbeats 4000000 in
theorem c_X12_takesE {n : Nat} {K : Sh} {I : Im} {J : Jm} {R : Rf} {o : Nat} {x1 : Int32} (ho : (K o).1 = 13) {res : Int32 × Im} (E : f_X12_takesE K R o x1 I = some res) : Met l yX12_takesE (Cond.code yX12_takesE cX12_takesE 4 (some .boolean) :: tb) rX12_takesE (PX D cA bs Z [.ref o, .int x1] K n I J R) (QX D cA bs (some (.int res.1)) K n res.2 J R) 0 0 (fun q => bs ≤ q) := by
  refine met_of (lv1 := [(0, va_rf (some o)), (1, .int x1)]) pn_X12 (by exact Nat.le_of_ble_eq_true rfl) (by rfl) ?_
  intro p e s m args below meth c C hn
  exact v_sub [0, 1] [(0, va_rf (some o)), (1, .int x1)] rfl (w_X12_takesE_0 C ho _ _ _ E)
set_option maxHeartbeats 4000000 in
theorem w_X12_takesHead_68 (C : Cx D cA bs Z p s m args meth c cX12_takesHead RX12 3 (some .boolean)) {o : Nat} {K : Sh} {n : Nat} {J : Jm} {R : Rf} (ho : (K o).1 = 13) (res : Int32 × Im) (x2 : Int32) (s0 : Option Nat) (s1 : Int32) (s2 : Int32) (I : Im) (E : f_X12_takesHead_68 K R o x2 s0 s1 s2 I = some res) : VW D cA bs p l e rX12_takesHead s m args below meth c 3 [(0, va_rf (some o)), (2, .int x2)] K n I J R 0 0 (MQ below (QX D cA bs (some (.int res.1)) K n res.2 J R) args s 0 0 (fun q => bs ≤ q)) 68 [.int s2, .int s1, va_rf s0] := by
  unfold f_X12_takesHead_68 at E
  refine v_iast (r := s0) C E dX12_takesHead_68 (fun I1 _ E => ?_)
  refine v_iload_n C 1 dX12_takesHead_69 rfl ?_
  refine v_bipush C dX12_takesHead_70 k_bipush_97 ?_
  refine v_icmp_ne C 86 E dX12_takesHead_72 rfl (fun c10 E => ?_) (fun c10 E => ?_)
  · refine v_aload_n (r := (some o)) C 0 dX12_takesHead_75 rfl ?_
    refine v_sipush C dX12_takesHead_76 k_sipush_23609 ?_
    refine v_iconst C dX12_takesHead_79 k_iconst_3 ?_
    obtain ⟨q6, h7, E⟩ := bnd E
    refine v_callV (r := (some o)) (As := [.int 23609, .int 3]) (rv := (some (.int q6.1))) (st := []) (st1 := [.int q6.1]) (ce1 := 0) (sl1 := 0) C cv_X12_272 (c_X12_takesWord (x1 := 23609) (x2 := 3) ho h7) rfl ho rfl rfl ⟨rfl, rfl, Nat.le_of_ble_eq_true rfl, Nat.le_of_ble_eq_true rfl⟩ ⟨Nat.le_of_ble_eq_true rfl, Nat.le_of_ble_eq_true rfl⟩ (Nat.le_of_ble_eq_true rfl) rfl rfl rfl dX12_takesHead_80 ?_
    refine v_goto C 94 dX12_takesHead_83 rfl ?_
    obtain ⟨v8, h9, E⟩ := bnd E
    obtain ⟨h9a, h9b⟩ := gd h9
    subst h9b
    obtain rfl := Option.some.inj E
    exact v_zret C rfl (by simp [narrow, h9a]) dX12_takesHead_94
  · refine v_aload_n (r := (some o)) C 0 dX12_takesHead_86 rfl ?_
    refine v_ldcw C ct_X12_276 dX12_takesHead_87 ?_
    refine v_iconst C dX12_takesHead_90 k_iconst_4 ?_
    obtain ⟨q2, h3, E⟩ := bnd E
    refine v_callV (r := (some o)) (As := [.int 759180, .int 4]) (rv := (some (.int q2.1))) (st := []) (st1 := [.int q2.1]) (ce1 := 0) (sl1 := 0) C cv_X12_272 (c_X12_takesWord (x1 := 759180) (x2 := 4) ho h3) rfl ho rfl rfl ⟨rfl, rfl, Nat.le_of_ble_eq_true rfl, Nat.le_of_ble_eq_true rfl⟩ ⟨Nat.le_of_ble_eq_true rfl, Nat.le_of_ble_eq_true rfl⟩ (Nat.le_of_ble_eq_true rfl) rfl rfl rfl dX12_takesHead_91 ?_
    obtain ⟨v4, h5, E⟩ := bnd E
    obtain ⟨h5a, h5b⟩ := gd h5
    subst h5b
    obtain rfl := Option.some.inj E
    exact v_zret C rfl (by simp [narrow, h5a]) dX12_takesHead_94
set_option maxHeartbeats 4000000 in
theorem w_X12_takesHead_0 (C : Cx D cA bs Z p s m args meth c cX12_takesHead RX12 3 (some .boolean)) {o : Nat} {K : Sh} {n : Nat} {J : Jm} {R : Rf} (ho : (K o).1 = 13) (res : Int32 × Im) (x1 : Int32) (I : Im) (E : f_X12_takesHead K R o x1 I = some res) : VW D cA bs p l e rX12_takesHead s m args below meth c 3 [(0, va_rf (some o)), (1, .int x1)] K n I J R 0 0 (MQ below (QX D cA bs (some (.int res.1)) K n res.2 J R) args s 0 0 (fun q => bs ≤ q)) 0 [] := by
  unfold f_X12_takesHead at E
  refine v_aload_n (r := (some o)) C 0 dX12_takesHead_0 rfl ?_
  obtain ⟨q11, h12, E⟩ := bnd E
  refine v_callV (r := (some o)) (As := []) (rv := (some (.int q11))) (st := []) (st1 := [.int q11]) (ce1 := 0) (sl1 := 0) C cv_X12_269 (c_X12_second  ho h12) rfl ho rfl rfl ⟨rfl, rfl, Nat.le_of_ble_eq_true rfl, Nat.le_of_ble_eq_true rfl⟩ ⟨Nat.le_of_ble_eq_true rfl, Nat.le_of_ble_eq_true rfl⟩ (Nat.le_of_ble_eq_true rfl) rfl rfl rfl dX12_takesHead_1 ?_
  refine v_istore_n C [(2, .int q11), (0, va_rf (some o)), (1, .int x1)] dX12_takesHead_4 (Nat.le_of_ble_eq_true rfl) rfl ?_
  refine v_aload_n (r := (some o)) C 1 dX12_takesHead_5 rfl ?_
  obtain ⟨q13, h14, E⟩ := bnd E
  refine v_callV (r := (some o)) (As := []) (rv := (some (.int q13))) (st := []) (st1 := [.int q13]) (ce1 := 0) (sl1 := 0) C cv_X12_237 (c_X12_next  ho h14) rfl ho rfl rfl ⟨rfl, rfl, Nat.le_of_ble_eq_true rfl, Nat.le_of_ble_eq_true rfl⟩ ⟨Nat.le_of_ble_eq_true rfl, Nat.le_of_ble_eq_true rfl⟩ (Nat.le_of_ble_eq_true rfl) rfl rfl rfl dX12_takesHead_6 ?_
  by_cases c20 : q13 = 99
  · have E := ite_t E c20
    refine v_lookup (off := 102) C 111 dX12_takesHead_9 (by decide) (by rw [c20]; decide) rfl ?_
    refine v_aload_n (r := (some o)) C 1 dX12_takesHead_111 rfl ?_
    refine v_getR (r := (some o)) C fa_X12_32 rfl rfl ho dX12_takesHead_112 ?_
    refine v_iload_n C 2 dX12_takesHead_115 rfl ?_
    refine v_iconst C dX12_takesHead_116 k_iconst_3 ?_
    refine v_iast (r := (R o 7)) C E dX12_takesHead_117 (fun I15 _ E => ?_)
    refine v_aload_n (r := (some o)) C 1 dX12_takesHead_118 rfl ?_
    refine v_ldcw C ct_X12_278 dX12_takesHead_119 ?_
    refine v_iconst C dX12_takesHead_122 k_iconst_5 ?_
    obtain ⟨q16, h17, E⟩ := bnd E
    refine v_callV (r := (some o)) (As := [.int 3197529, .int 5]) (rv := (some (.int q16.1))) (st := []) (st1 := [.int q16.1]) (ce1 := 0) (sl1 := 0) C cv_X12_272 (c_X12_takesWord (x1 := 3197529) (x2 := 5) ho h17) rfl ho rfl rfl ⟨rfl, rfl, Nat.le_of_ble_eq_true rfl, Nat.le_of_ble_eq_true rfl⟩ ⟨Nat.le_of_ble_eq_true rfl, Nat.le_of_ble_eq_true rfl⟩ (Nat.le_of_ble_eq_true rfl) rfl rfl rfl dX12_takesHead_123 ?_
    obtain ⟨v18, h19, E⟩ := bnd E
    obtain ⟨h19a, h19b⟩ := gd h19
    subst h19b
    obtain rfl := Option.some.inj E
    exact v_zret C rfl (by simp [narrow, h19a]) dX12_takesHead_126
  have E := ite_f E c20
  by_cases c26 : q13 = 100
  · have E := ite_t E c26
    refine v_lookup (off := 86) C 95 dX12_takesHead_9 (by decide) (by rw [c26]; decide) rfl ?_
    refine v_aload_n (r := (some o)) C 1 dX12_takesHead_95 rfl ?_
    refine v_getR (r := (some o)) C fa_X12_32 rfl rfl ho dX12_takesHead_96 ?_
    refine v_iload_n C 2 dX12_takesHead_99 rfl ?_
    refine v_iconst C dX12_takesHead_100 k_iconst_2 ?_
    refine v_iast (r := (R o 7)) C E dX12_takesHead_101 (fun I21 _ E => ?_)
    refine v_aload_n (r := (some o)) C 1 dX12_takesHead_102 rfl ?_
    refine v_ldcw C ct_X12_277 dX12_takesHead_103 ?_
    refine v_iconst C dX12_takesHead_106 k_iconst_5 ?_
    obtain ⟨q22, h23, E⟩ := bnd E
    refine v_callV (r := (some o)) (As := [.int 4793803, .int 5]) (rv := (some (.int q22.1))) (st := []) (st1 := [.int q22.1]) (ce1 := 0) (sl1 := 0) C cv_X12_272 (c_X12_takesWord (x1 := 4793803) (x2 := 5) ho h23) rfl ho rfl rfl ⟨rfl, rfl, Nat.le_of_ble_eq_true rfl, Nat.le_of_ble_eq_true rfl⟩ ⟨Nat.le_of_ble_eq_true rfl, Nat.le_of_ble_eq_true rfl⟩ (Nat.le_of_ble_eq_true rfl) rfl rfl rfl dX12_takesHead_107 ?_
    obtain ⟨v24, h25, E⟩ := bnd E
    obtain ⟨h25a, h25b⟩ := gd h25
    subst h25b
    obtain rfl := Option.some.inj E
    exact v_zret C rfl (by simp [narrow, h25a]) dX12_takesHead_110
  have E := ite_f E c26
  by_cases c32 : q13 = 108
  · have E := ite_t E c32
    refine v_lookup (off := 118) C 127 dX12_takesHead_9 (by decide) (by rw [c32]; decide) rfl ?_
    refine v_aload_n (r := (some o)) C 1 dX12_takesHead_127 rfl ?_
    refine v_getR (r := (some o)) C fa_X12_32 rfl rfl ho dX12_takesHead_128 ?_
    refine v_iload_n C 2 dX12_takesHead_131 rfl ?_
    refine v_iconst C dX12_takesHead_132 k_iconst_4 ?_
    refine v_iast (r := (R o 7)) C E dX12_takesHead_133 (fun I27 _ E => ?_)
    refine v_aload_n (r := (some o)) C 1 dX12_takesHead_134 rfl ?_
    refine v_ldcw C ct_X12_279 dX12_takesHead_135 ?_
    refine v_iconst C dX12_takesHead_138 k_iconst_4 ?_
    obtain ⟨q28, h29, E⟩ := bnd E
    refine v_callV (r := (some o)) (As := [.int 408612, .int 4]) (rv := (some (.int q28.1))) (st := []) (st1 := [.int q28.1]) (ce1 := 0) (sl1 := 0) C cv_X12_272 (c_X12_takesWord (x1 := 408612) (x2 := 4) ho h29) rfl ho rfl rfl ⟨rfl, rfl, Nat.le_of_ble_eq_true rfl, Nat.le_of_ble_eq_true rfl⟩ ⟨Nat.le_of_ble_eq_true rfl, Nat.le_of_ble_eq_true rfl⟩ (Nat.le_of_ble_eq_true rfl) rfl rfl rfl dX12_takesHead_139 ?_
    obtain ⟨v30, h31, E⟩ := bnd E
    obtain ⟨h31a, h31b⟩ := gd h31
    subst h31b
    obtain rfl := Option.some.inj E
    exact v_zret C rfl (by simp [narrow, h31a]) dX12_takesHead_142
  have E := ite_f E c32
  by_cases c34 : q13 = 119
  · have E := ite_t E c34
    refine v_lookup (off := 43) C 52 dX12_takesHead_9 (by decide) (by rw [c34]; decide) rfl ?_
    refine v_aload_n (r := (some o)) C 1 dX12_takesHead_52 rfl ?_
    refine v_getR (r := (some o)) C fa_X12_32 rfl rfl ho dX12_takesHead_53 ?_
    refine v_iload_n C 2 dX12_takesHead_56 rfl ?_
    refine v_iload_n C 0 dX12_takesHead_57 rfl ?_
    refine v_bipush C dX12_takesHead_58 k_bipush_97 ?_
    refine v_icmp_ne C 67 E dX12_takesHead_60 rfl (fun c33 E => ?_) (fun c33 E => ?_)
    · refine v_iconst C dX12_takesHead_63 k_iconst_1 ?_
      refine v_goto C 68 dX12_takesHead_64 rfl ?_
      exact v_sub [1, 0] [(0, va_rf (some o)), (2, .int q11)] rfl (w_X12_takesHead_68 C ho res  _ _ _ _ _ E)
    · refine v_iconst C dX12_takesHead_67 k_iconst_0 ?_
      exact v_sub [1, 0] [(0, va_rf (some o)), (2, .int q11)] rfl (w_X12_takesHead_68 C ho res  _ _ _ _ _ E)
  have E := ite_f E c34
  refine v_lookup (off := 134) C 143 dX12_takesHead_9 (by decide) (by show Op.lookupswitch.offset [(99, 102), (100, 86), (108, 118), (119, 43)] 134 _ = _; rw [lv_osw c20 (show ((99 : Int32)).toInt = 99 from by decide), lv_osw c26 (show ((100 : Int32)).toInt = 100 from by decide), lv_osw c32 (show ((108 : Int32)).toInt = 108 from by decide), lv_osw c34 (show ((119 : Int32)).toInt = 119 from by decide)]; rfl) rfl ?_
  refine v_aload_n (r := (some o)) C 1 dX12_takesHead_143 rfl ?_
  refine v_getR (r := (some o)) C fa_X12_32 rfl rfl ho dX12_takesHead_144 ?_
  refine v_iload_n C 2 dX12_takesHead_147 rfl ?_
  refine v_iconst C dX12_takesHead_148 k_iconst_5 ?_
  refine v_iast (r := (R o 7)) C E dX12_takesHead_149 (fun I35 _ E => ?_)
  refine v_aload_n (r := (some o)) C 1 dX12_takesHead_150 rfl ?_
  refine v_ldcw C ct_X12_280 dX12_takesHead_151 ?_
  refine v_iconst C dX12_takesHead_154 k_iconst_5 ?_
  obtain ⟨q36, h37, E⟩ := bnd E
  refine v_callV (r := (some o)) (As := [.int 20579780, .int 5]) (rv := (some (.int q36.1))) (st := []) (st1 := [.int q36.1]) (ce1 := 0) (sl1 := 0) C cv_X12_272 (c_X12_takesWord (x1 := 20579780) (x2 := 5) ho h37) rfl ho rfl rfl ⟨rfl, rfl, Nat.le_of_ble_eq_true rfl, Nat.le_of_ble_eq_true rfl⟩ ⟨Nat.le_of_ble_eq_true rfl, Nat.le_of_ble_eq_true rfl⟩ (Nat.le_of_ble_eq_true rfl) rfl rfl rfl dX12_takesHead_155 ?_
  obtain ⟨v38, h39, E⟩ := bnd E
  obtain ⟨h39a, h39b⟩ := gd h39
  subst h39b
  obtain rfl := Option.some.inj E
  exact v_zret C rfl (by simp [narrow, h39a]) dX12_takesHead_158
set_option maxHeartbeats 4000000 in
theorem c_X12_takesHead {n : Nat} {K : Sh} {I : Im} {J : Jm} {R : Rf} {o : Nat} {x1 : Int32} (ho : (K o).1 = 13) {res : Int32 × Im} (E : f_X12_takesHead K R o x1 I = some res) : Met l yX12_takesHead (Cond.code yX12_takesHead cX12_takesHead 3 (some .boolean) :: tb) rX12_takesHead (PX D cA bs Z [.ref o, .int x1] K n I J R) (QX D cA bs (some (.int res.1)) K n res.2 J R) 0 0 (fun q => bs ≤ q) := by
  refine met_of (lv1 := [(0, va_rf (some o)), (1, .int x1)]) pn_X12 (by exact Nat.le_of_ble_eq_true rfl) (by rfl) ?_
  intro p e s m args below meth c C hn
  exact v_sub [0, 1] [(0, va_rf (some o)), (1, .int x1)] rfl (w_X12_takesHead_0 C ho _ _ _ E)
set_option maxHeartbeats 4000000 in
theorem w_X12_takesClause_24 (C : Cx D cA bs Z p s m args meth c cX12_takesClause RX12 2 (some .boolean)) {o : Nat} {K : Sh} {n : Nat} {J : Jm} {R : Rf} (ho : (K o).1 = 13) (res : Int32 × Im) (x1 : Int32) (s0 : Option Nat) (s1 : Int32) (I : Im) (E : f_X12_takesClause_24 K R o x1 s0 s1 I = some res) : VW D cA bs p l e rX12_takesClause s m args below meth c 2 [(0, va_rf (some o)), (1, .int x1)] K n I J R 0 0 (MQ below (QX D cA bs (some (.int res.1)) K n res.2 J R) args s 0 0 (fun q => bs ≤ q)) 24 [.int s1, va_rf s0] := by
  unfold f_X12_takesClause_24 at E
  obtain ⟨a1, h2, E⟩ := bnd E
  obtain ⟨hra1, hoa1⟩ := ob_is h2
  obtain ⟨q3, h4, E⟩ := bnd E
  refine v_callV (r := s0) (As := [.int s1]) (rv := (some (.int q3.1))) (st := []) (st1 := [.int q3.1]) (ce1 := 0) (sl1 := 0) C cv_X12_257 (c_X12_takesNumber (x1 := s1) hoa1 h4) hra1 hoa1 rfl rfl ⟨rfl, rfl, Nat.le_of_ble_eq_true rfl, Nat.le_of_ble_eq_true rfl⟩ ⟨Nat.le_of_ble_eq_true rfl, Nat.le_of_ble_eq_true rfl⟩ (Nat.le_of_ble_eq_true rfl) rfl rfl rfl dX12_takesClause_24 ?_
  refine v_if_ne C 32 E dX12_takesClause_27 rfl (fun c23 E => ?_) (fun c23 E => ?_)
  · refine v_iconst C dX12_takesClause_30 k_iconst_0 ?_
    obtain rfl := Option.some.inj E
    exact v_zret (v := 0) C rfl nz_0 dX12_takesClause_31
  · refine v_aload_n (r := (some o)) C 0 dX12_takesClause_32 rfl ?_
    refine v_getR (r := (some o)) C fa_X12_35 rfl rfl ho dX12_takesClause_33 ?_
    refine v_iload_n C 1 dX12_takesClause_36 rfl ?_
    refine v_aload_n (r := (some o)) C 0 dX12_takesClause_37 rfl ?_
    refine v_getI (r := (some o)) C fa_X12_22 rfl rfl ho dX12_takesClause_38 ?_
    refine v_iast (r := (R o 8)) C E dX12_takesClause_41 (fun I5 _ E => ?_)
    refine v_aload_n (r := (some o)) C 0 dX12_takesClause_42 rfl ?_
    refine v_getR (r := (some o)) C fa_X12_32 rfl rfl ho dX12_takesClause_43 ?_
    refine v_iload_n C 1 dX12_takesClause_46 rfl ?_
    refine v_iald (r := (R o 7)) C E dX12_takesClause_47 (fun v6 _ E => ?_)
    refine v_iconst C dX12_takesClause_48 k_iconst_2 ?_
    refine v_icmp_ne C 75 E dX12_takesClause_49 rfl (fun c22 E => ?_) (fun c22 E => ?_)
    · refine v_aload_n (r := (some o)) C 0 dX12_takesClause_52 rfl ?_
      refine v_bipush C dX12_takesClause_53 k_bipush_32 ?_
      obtain ⟨q16, h17, E⟩ := bnd E
      refine v_callV (r := (some o)) (As := [.int 32]) (rv := (some (.int q16.1))) (st := []) (st1 := [.int q16.1]) (ce1 := 0) (sl1 := 0) C cv_X12_241 (c_X12_takes (x1 := 32) ho h17) rfl ho rfl rfl ⟨rfl, rfl, Nat.le_of_ble_eq_true rfl, Nat.le_of_ble_eq_true rfl⟩ ⟨Nat.le_of_ble_eq_true rfl, Nat.le_of_ble_eq_true rfl⟩ (Nat.le_of_ble_eq_true rfl) rfl rfl rfl dX12_takesClause_55 ?_
      refine v_if_eq C 73 E dX12_takesClause_58 rfl (fun c21 E => ?_) (fun c21 E => ?_)
      · refine v_iconst C dX12_takesClause_73 k_iconst_0 ?_
        obtain rfl := Option.some.inj E
        exact v_zret (v := 0) C rfl nz_0 dX12_takesClause_74
      · refine v_aload_n (r := (some o)) C 0 dX12_takesClause_61 rfl ?_
        refine v_iload_n C 1 dX12_takesClause_62 rfl ?_
        obtain ⟨q18, h19, E⟩ := bnd E
        refine v_callV (r := (some o)) (As := [.int x1]) (rv := (some (.int q18.1))) (st := []) (st1 := [.int q18.1]) (ce1 := 0) (sl1 := 0) C cv_X12_284 (c_X12_takesE (x1 := x1) ho h19) rfl ho rfl rfl ⟨rfl, rfl, Nat.le_of_ble_eq_true rfl, Nat.le_of_ble_eq_true rfl⟩ ⟨Nat.le_of_ble_eq_true rfl, Nat.le_of_ble_eq_true rfl⟩ (Nat.le_of_ble_eq_true rfl) rfl rfl rfl dX12_takesClause_63 ?_
        refine v_if_eq C 73 E dX12_takesClause_66 rfl (fun c20 E => ?_) (fun c20 E => ?_)
        · refine v_iconst C dX12_takesClause_73 k_iconst_0 ?_
          obtain rfl := Option.some.inj E
          exact v_zret (v := 0) C rfl nz_0 dX12_takesClause_74
        · refine v_iconst C dX12_takesClause_69 k_iconst_1 ?_
          refine v_goto C 74 dX12_takesClause_70 rfl ?_
          obtain rfl := Option.some.inj E
          exact v_zret (v := 1) C rfl nz_1 dX12_takesClause_74
    · refine v_aload_n (r := (some o)) C 0 dX12_takesClause_75 rfl ?_
      refine v_getR (r := (some o)) C fa_X12_32 rfl rfl ho dX12_takesClause_76 ?_
      refine v_iload_n C 1 dX12_takesClause_79 rfl ?_
      refine v_iald (r := (R o 7)) C E dX12_takesClause_80 (fun v7 _ E => ?_)
      refine v_if_eq C 86 E dX12_takesClause_81 rfl (fun c15 E => ?_) (fun c15 E => ?_)
      · refine v_aload_n (r := (some o)) C 0 dX12_takesClause_86 rfl ?_
        refine v_bipush C dX12_takesClause_87 k_bipush_32 ?_
        obtain ⟨q8, h9, E⟩ := bnd E
        refine v_callV (r := (some o)) (As := [.int 32]) (rv := (some (.int q8.1))) (st := []) (st1 := [.int q8.1]) (ce1 := 0) (sl1 := 0) C cv_X12_241 (c_X12_takes (x1 := 32) ho h9) rfl ho rfl rfl ⟨rfl, rfl, Nat.le_of_ble_eq_true rfl, Nat.le_of_ble_eq_true rfl⟩ ⟨Nat.le_of_ble_eq_true rfl, Nat.le_of_ble_eq_true rfl⟩ (Nat.le_of_ble_eq_true rfl) rfl rfl rfl dX12_takesClause_89 ?_
        refine v_if_eq C 103 E dX12_takesClause_92 rfl (fun c14 E => ?_) (fun c14 E => ?_)
        · refine v_iconst C dX12_takesClause_103 k_iconst_0 ?_
          obtain rfl := Option.some.inj E
          exact v_zret (v := 0) C rfl nz_0 dX12_takesClause_104
        · refine v_aload_n (r := (some o)) C 0 dX12_takesClause_95 rfl ?_
          refine v_iconst C dX12_takesClause_96 k_iconst_2 ?_
          obtain ⟨q10, h11, E⟩ := bnd E
          refine v_callV (r := (some o)) (As := [.int 2]) (rv := (some (.int q10.1))) (st := []) (st1 := [.int q10.1]) (ce1 := 0) (sl1 := 0) C cv_X12_257 (c_X12_takesNumber (x1 := 2) ho h11) rfl ho rfl rfl ⟨rfl, rfl, Nat.le_of_ble_eq_true rfl, Nat.le_of_ble_eq_true rfl⟩ ⟨Nat.le_of_ble_eq_true rfl, Nat.le_of_ble_eq_true rfl⟩ (Nat.le_of_ble_eq_true rfl) rfl rfl rfl dX12_takesClause_97 ?_
          refine v_if_ne C 105 E dX12_takesClause_100 rfl (fun c13 E => ?_) (fun c13 E => ?_)
          · refine v_iconst C dX12_takesClause_103 k_iconst_0 ?_
            obtain rfl := Option.some.inj E
            exact v_zret (v := 0) C rfl nz_0 dX12_takesClause_104
          · refine v_aload_n (r := (some o)) C 0 dX12_takesClause_105 rfl ?_
            refine v_getR (r := (some o)) C fa_X12_38 rfl rfl ho dX12_takesClause_106 ?_
            refine v_iload_n C 1 dX12_takesClause_109 rfl ?_
            refine v_aload_n (r := (some o)) C 0 dX12_takesClause_110 rfl ?_
            refine v_getI (r := (some o)) C fa_X12_22 rfl rfl ho dX12_takesClause_111 ?_
            refine v_iast (r := (R o 9)) C E dX12_takesClause_114 (fun I12 _ E => ?_)
            refine v_iconst C dX12_takesClause_115 k_iconst_1 ?_
            obtain rfl := Option.some.inj E
            exact v_zret (v := 1) C rfl nz_1 dX12_takesClause_116
      · refine v_iconst C dX12_takesClause_84 k_iconst_1 ?_
        obtain rfl := Option.some.inj E
        exact v_zret (v := 1) C rfl nz_1 dX12_takesClause_85
set_option maxHeartbeats 4000000 in
theorem w_X12_takesClause_0 (C : Cx D cA bs Z p s m args meth c cX12_takesClause RX12 2 (some .boolean)) {o : Nat} {K : Sh} {n : Nat} {J : Jm} {R : Rf} (ho : (K o).1 = 13) (res : Int32 × Im) (x1 : Int32) (I : Im) (E : f_X12_takesClause K R o x1 I = some res) : VW D cA bs p l e rX12_takesClause s m args below meth c 2 [(0, va_rf (some o)), (1, .int x1)] K n I J R 0 0 (MQ below (QX D cA bs (some (.int res.1)) K n res.2 J R) args s 0 0 (fun q => bs ≤ q)) 0 [] := by
  unfold f_X12_takesClause at E
  refine v_aload_n (r := (some o)) C 0 dX12_takesClause_0 rfl ?_
  refine v_iload_n C 1 dX12_takesClause_1 rfl ?_
  obtain ⟨q24, h25, E⟩ := bnd E
  refine v_callV (r := (some o)) (As := [.int x1]) (rv := (some (.int q24.1))) (st := []) (st1 := [.int q24.1]) (ce1 := 0) (sl1 := 0) C cv_X12_281 (c_X12_takesHead (x1 := x1) ho h25) rfl ho rfl rfl ⟨rfl, rfl, Nat.le_of_ble_eq_true rfl, Nat.le_of_ble_eq_true rfl⟩ ⟨Nat.le_of_ble_eq_true rfl, Nat.le_of_ble_eq_true rfl⟩ (Nat.le_of_ble_eq_true rfl) rfl rfl rfl dX12_takesClause_2 ?_
  refine v_if_eq C 30 E dX12_takesClause_5 rfl (fun c28 E => ?_) (fun c28 E => ?_)
  · refine v_iconst C dX12_takesClause_30 k_iconst_0 ?_
    obtain rfl := Option.some.inj E
    exact v_zret (v := 0) C rfl nz_0 dX12_takesClause_31
  · refine v_aload_n (r := (some o)) C 0 dX12_takesClause_8 rfl ?_
    refine v_aload_n (r := (some o)) C 0 dX12_takesClause_9 rfl ?_
    refine v_getR (r := (some o)) C fa_X12_32 rfl rfl ho dX12_takesClause_10 ?_
    refine v_iload_n C 1 dX12_takesClause_13 rfl ?_
    refine v_iald (r := (R o 7)) C E dX12_takesClause_14 (fun v26 _ E => ?_)
    refine v_iconst C dX12_takesClause_15 k_iconst_1 ?_
    refine v_icmp_ne C 23 E dX12_takesClause_16 rfl (fun c27 E => ?_) (fun c27 E => ?_)
    · refine v_iconst C dX12_takesClause_19 k_iconst_1 ?_
      refine v_goto C 24 dX12_takesClause_20 rfl ?_
      exact v_sub [0, 1] [(0, va_rf (some o)), (1, .int x1)] rfl (w_X12_takesClause_24 C ho res  _ _ _ _ E)
    · refine v_iconst C dX12_takesClause_23 k_iconst_2 ?_
      exact v_sub [0, 1] [(0, va_rf (some o)), (1, .int x1)] rfl (w_X12_takesClause_24 C ho res  _ _ _ _ E)
set_option maxHeartbeats 4000000 in
theorem c_X12_takesClause {n : Nat} {K : Sh} {I : Im} {J : Jm} {R : Rf} {o : Nat} {x1 : Int32} (ho : (K o).1 = 13) {res : Int32 × Im} (E : f_X12_takesClause K R o x1 I = some res) : Met l yX12_takesClause (Cond.code yX12_takesClause cX12_takesClause 2 (some .boolean) :: tb) rX12_takesClause (PX D cA bs Z [.ref o, .int x1] K n I J R) (QX D cA bs (some (.int res.1)) K n res.2 J R) 0 0 (fun q => bs ≤ q) := by
  refine met_of (lv1 := [(0, va_rf (some o)), (1, .int x1)]) pn_X12 (by exact Nat.le_of_ble_eq_true rfl) (by rfl) ?_
  intro p e s m args below meth c C hn
  exact v_sub [0, 1] [(0, va_rf (some o)), (1, .int x1)] rfl (w_X12_takesClause_0 C ho _ _ _ E)
set_option maxHeartbeats 4000000 in
theorem w_X12_goesText_15 (C : Cx D cA bs Z p s m args meth c cX12_goesText RX12 3 (some .boolean)) {o : Nat} {K : Sh} {n : Nat} {J : Jm} {R : Rf} (ho : (K o).1 = 13) (res : Int32 × Im)  : ∀ (k : Nat), ∀ (x1 : Int32) (x2 : Int32) (I : Im), f_X12_goesText_15 K R o k x1 x2 I = some res → VW D cA bs p l e rX12_goesText s m args below meth c 3 [(0, va_rf (some o)), (1, .int x1), (2, .int x2)] K n I J R 0 0 (MQ below (QX D cA bs (some (.int res.1)) K n res.2 J R) args s 0 0 (fun q => bs ≤ q)) 15 [] := by
  intro k
  induction k with
  | zero =>
    intro x1 x2 I E
    have E : (none : Option (Int32 × Im)) = some res := E
    cases E
  | succ k ih =>
    intro x1 x2 I E
    unfold f_X12_goesText_15 at E
    refine v_aload_n (r := (some o)) C 0 dX12_goesText_15 rfl ?_
    refine v_bipush C dX12_goesText_16 k_bipush_12 ?_
    refine v_iload_n C 1 dX12_goesText_18 rfl ?_
    refine v_imul C dX12_goesText_19 ?_
    refine v_iload_n C 2 dX12_goesText_20 rfl ?_
    refine v_iadd C dX12_goesText_21 ?_
    obtain ⟨q1, h2, E⟩ := bnd E
    refine v_callV (r := (some o)) (As := [.int ((12 * x1) + x2)]) (rv := (some (.int q1.1))) (st := []) (st1 := [.int q1.1]) (ce1 := 0) (sl1 := 0) C cv_X12_287 (c_X12_takesClause (x1 := ((12 * x1) + x2)) ho h2) rfl ho rfl rfl ⟨rfl, rfl, Nat.le_of_ble_eq_true rfl, Nat.le_of_ble_eq_true rfl⟩ ⟨Nat.le_of_ble_eq_true rfl, Nat.le_of_ble_eq_true rfl⟩ (Nat.le_of_ble_eq_true rfl) rfl rfl rfl dX12_goesText_22 ?_
    refine v_if_ne C 30 E dX12_goesText_25 rfl (fun c9 E => ?_) (fun c9 E => ?_)
    · refine v_iconst C dX12_goesText_28 k_iconst_0 ?_
      obtain rfl := Option.some.inj E
      exact v_zret (v := 0) C rfl nz_0 dX12_goesText_29
    · refine v_iinc (v := x2 + 1) C 2 [(2, .int (x2 + 1)), (0, va_rf (some o)), (1, .int x1)] dX12_goesText_30 rfl (k_inc_1 _) (Nat.le_of_ble_eq_true rfl) rfl ?_
      refine v_aload_n (r := (some o)) C 1 dX12_goesText_33 rfl ?_
      refine v_getR (r := (some o)) C fa_X12_29 rfl rfl ho dX12_goesText_34 ?_
      refine v_iload_n C 2 dX12_goesText_37 rfl ?_
      refine v_iload_n C 0 dX12_goesText_38 rfl ?_
      refine v_iast (r := (R o 6)) C E dX12_goesText_39 (fun I3 _ E => ?_)
      refine v_aload_n (r := (some o)) C 1 dX12_goesText_40 rfl ?_
      refine v_getI (r := (some o)) C fa_X12_19 rfl rfl ho dX12_goesText_41 ?_
      refine v_aload_n (r := (some o)) C 1 dX12_goesText_44 rfl ?_
      refine v_getI (r := (some o)) C fa_X12_16 rfl rfl ho dX12_goesText_45 ?_
      refine v_icmp_ne C 53 E dX12_goesText_48 rfl (fun c8 E => ?_) (fun c8 E => ?_)
      · refine v_iconst C dX12_goesText_51 k_iconst_1 ?_
        obtain rfl := Option.some.inj E
        exact v_zret (v := 1) C rfl nz_1 dX12_goesText_52
      · refine v_iload_n C 0 dX12_goesText_53 rfl ?_
        refine v_bipush C dX12_goesText_54 k_bipush_12 ?_
        refine v_icmp_eq C 68 E dX12_goesText_56 rfl (fun c7 E => ?_) (fun c7 E => ?_)
        · refine v_iconst C dX12_goesText_68 k_iconst_0 ?_
          obtain rfl := Option.some.inj E
          exact v_zret (v := 0) C rfl nz_0 dX12_goesText_69
        · refine v_aload_n (r := (some o)) C 1 dX12_goesText_59 rfl ?_
          refine v_bipush C dX12_goesText_60 k_bipush_59 ?_
          obtain ⟨q4, h5, E⟩ := bnd E
          refine v_callV (r := (some o)) (As := [.int 59]) (rv := (some (.int q4.1))) (st := []) (st1 := [.int q4.1]) (ce1 := 0) (sl1 := 0) C cv_X12_241 (c_X12_takes (x1 := 59) ho h5) rfl ho rfl rfl ⟨rfl, rfl, Nat.le_of_ble_eq_true rfl, Nat.le_of_ble_eq_true rfl⟩ ⟨Nat.le_of_ble_eq_true rfl, Nat.le_of_ble_eq_true rfl⟩ (Nat.le_of_ble_eq_true rfl) rfl rfl rfl dX12_goesText_62 ?_
          refine v_if_ne C 15 E dX12_goesText_65 rfl (fun c6 E => ?_) (fun c6 E => ?_)
          · refine v_iconst C dX12_goesText_68 k_iconst_0 ?_
            obtain rfl := Option.some.inj E
            exact v_zret (v := 0) C rfl nz_0 dX12_goesText_69
          · exact v_sub [1, 2, 0] [(0, va_rf (some o)), (1, .int x1), (2, .int (x2 + 1))] rfl (ih _ _ _ E)
set_option maxHeartbeats 4000000 in
theorem w_X12_goesText_0 (C : Cx D cA bs Z p s m args meth c cX12_goesText RX12 3 (some .boolean)) {o : Nat} {K : Sh} {n : Nat} {J : Jm} {R : Rf} (ho : (K o).1 = 13) (res : Int32 × Im) (x1 : Int32) (I : Im) (E : f_X12_goesText K R o x1 I = some res) : VW D cA bs p l e rX12_goesText s m args below meth c 3 [(0, va_rf (some o)), (1, .int x1)] K n I J R 0 0 (MQ below (QX D cA bs (some (.int res.1)) K n res.2 J R) args s 0 0 (fun q => bs ≤ q)) 0 [] := by
  unfold f_X12_goesText at E
  refine v_aload_n (r := (some o)) C 0 dX12_goesText_0 rfl ?_
  refine v_iconst C dX12_goesText_1 k_iconst_0 ?_
  refine v_putI (r := (some o)) C fa_X12_19 rfl E rfl ho ⟨rfl, rfl⟩ dX12_goesText_2 (fun I10 _ E => ?_)
  refine v_aload_n (r := (some o)) C 0 dX12_goesText_5 rfl ?_
  refine v_bipush C dX12_goesText_6 k_bipush_100 ?_
  refine v_iload_n C 1 dX12_goesText_8 rfl ?_
  refine v_imul C dX12_goesText_9 ?_
  refine v_putI (r := (some o)) C fa_X12_53 rfl E rfl ho ⟨rfl, rfl⟩ dX12_goesText_10 (fun I11 _ E => ?_)
  refine v_iconst C dX12_goesText_13 k_iconst_0 ?_
  refine v_istore_n C [(2, .int 0), (0, va_rf (some o)), (1, .int x1)] dX12_goesText_14 (Nat.le_of_ble_eq_true rfl) rfl ?_
  exact v_sub [1, 2, 0] [(0, va_rf (some o)), (1, .int x1), (2, .int 0)] rfl (w_X12_goesText_15 C ho res  _ _ _ _ E)
set_option maxHeartbeats 4000000 in
theorem c_X12_goesText {n : Nat} {K : Sh} {I : Im} {J : Jm} {R : Rf} {o : Nat} {x1 : Int32} (ho : (K o).1 = 13) {res : Int32 × Im} (E : f_X12_goesText K R o x1 I = some res) : Met l yX12_goesText (Cond.code yX12_goesText cX12_goesText 3 (some .boolean) :: tb) rX12_goesText (PX D cA bs Z [.ref o, .int x1] K n I J R) (QX D cA bs (some (.int res.1)) K n res.2 J R) 0 0 (fun q => bs ≤ q) := by
  refine met_of (lv1 := [(0, va_rf (some o)), (1, .int x1)]) pn_X12 (by exact Nat.le_of_ble_eq_true rfl) (by rfl) ?_
  intro p e s m args below meth c C hn
  exact v_sub [0, 1] [(0, va_rf (some o)), (1, .int x1)] rfl (w_X12_goesText_0 C ho _ _ _ E)
set_option maxHeartbeats 4000000 in
theorem w_X12_first_0 (C : Cx D cA bs Z p s m args meth c cX12_first RX12 1 (some .int)) {o : Nat} {K : Sh} {n : Nat} {I : Im} {J : Jm} {R : Rf} (ho : (K o).1 = 13) (res : Int32)  (E : f_X12_first K I o  = some res) : VW D cA bs p l e rX12_first s m args below meth c 1 [(0, va_rf (some o))] K n I J R 0 0 (MQ below (QX D cA bs (some (.int res)) K n I J R) args s 0 0 (fun q => bs ≤ q)) 0 [] := by
  unfold f_X12_first at E
  refine v_aload_n (r := (some o)) C 0 dX12_first_0 rfl ?_
  refine v_getI (r := (some o)) C fa_X12_13 rfl rfl ho dX12_first_1 ?_
  refine v_if_ge C 11 E dX12_first_4 rfl (fun c1 E => ?_) (fun c1 E => ?_)
  · refine v_bipush C dX12_first_11 k_bipush_12 ?_
    refine v_aload_n (r := (some o)) C 0 dX12_first_13 rfl ?_
    refine v_getI (r := (some o)) C fa_X12_13 rfl rfl ho dX12_first_14 ?_
    refine v_imul C dX12_first_17 ?_
    obtain rfl := Option.some.inj E
    exact v_iret C rfl dX12_first_18
  · refine v_iconst C dX12_first_7 k_iconst_0 ?_
    refine v_goto C 18 dX12_first_8 rfl ?_
    obtain rfl := Option.some.inj E
    exact v_iret C rfl dX12_first_18
set_option maxHeartbeats 4000000 in
theorem c_X12_first {n : Nat} {K : Sh} {I : Im} {J : Jm} {R : Rf} {o : Nat}  (ho : (K o).1 = 13) {res : Int32} (E : f_X12_first K I o = some res) : Met l yX12_first (Cond.code yX12_first cX12_first 1 (some .int) :: tb) rX12_first (PX D cA bs Z [.ref o] K n I J R) (QX D cA bs (some (.int res)) K n I J R) 0 0 (fun q => bs ≤ q) := by
  refine met_of (lv1 := [(0, va_rf (some o))]) pn_X12 (by exact Nat.le_of_ble_eq_true rfl) (by rfl) ?_
  intro p e s m args below meth c C hn
  exact v_sub [0] [(0, va_rf (some o))] rfl (w_X12_first_0 C ho _  E)
set_option maxHeartbeats 4000000 in
theorem w_X12_behind_0 (C : Cx D cA bs Z p s m args meth c cX12_behind RX12 1 (some .int)) {o : Nat} {K : Sh} {n : Nat} {I : Im} {J : Jm} {R : Rf} (ho : (K o).1 = 13) (res : Int32)  (E : f_X12_behind K I R o  = some res) : VW D cA bs p l e rX12_behind s m args below meth c 1 [(0, va_rf (some o))] K n I J R 0 0 (MQ below (QX D cA bs (some (.int res)) K n I J R) args s 0 0 (fun q => bs ≤ q)) 0 [] := by
  unfold f_X12_behind at E
  refine v_aload_n (r := (some o)) C 0 dX12_behind_0 rfl ?_
  refine v_getI (r := (some o)) C fa_X12_13 rfl rfl ho dX12_behind_1 ?_
  refine v_if_ge C 11 E dX12_behind_4 rfl (fun c2 E => ?_) (fun c2 E => ?_)
  · refine v_bipush C dX12_behind_11 k_bipush_12 ?_
    refine v_aload_n (r := (some o)) C 0 dX12_behind_13 rfl ?_
    refine v_getI (r := (some o)) C fa_X12_13 rfl rfl ho dX12_behind_14 ?_
    refine v_imul C dX12_behind_17 ?_
    refine v_aload_n (r := (some o)) C 0 dX12_behind_18 rfl ?_
    refine v_getR (r := (some o)) C fa_X12_29 rfl rfl ho dX12_behind_19 ?_
    refine v_aload_n (r := (some o)) C 0 dX12_behind_22 rfl ?_
    refine v_getI (r := (some o)) C fa_X12_13 rfl rfl ho dX12_behind_23 ?_
    refine v_iald (r := (R o 6)) C E dX12_behind_26 (fun v1 _ E => ?_)
    refine v_iadd C dX12_behind_27 ?_
    obtain rfl := Option.some.inj E
    exact v_iret C rfl dX12_behind_28
  · refine v_iconst C dX12_behind_7 k_iconst_0 ?_
    refine v_goto C 28 dX12_behind_8 rfl ?_
    obtain rfl := Option.some.inj E
    exact v_iret C rfl dX12_behind_28
set_option maxHeartbeats 4000000 in
theorem c_X12_behind {n : Nat} {K : Sh} {I : Im} {J : Jm} {R : Rf} {o : Nat}  (ho : (K o).1 = 13) {res : Int32} (E : f_X12_behind K I R o = some res) : Met l yX12_behind (Cond.code yX12_behind cX12_behind 1 (some .int) :: tb) rX12_behind (PX D cA bs Z [.ref o] K n I J R) (QX D cA bs (some (.int res)) K n I J R) 0 0 (fun q => bs ≤ q) := by
  refine met_of (lv1 := [(0, va_rf (some o))]) pn_X12 (by exact Nat.le_of_ble_eq_true rfl) (by rfl) ?_
  intro p e s m args below meth c C hn
  exact v_sub [0] [(0, va_rf (some o))] rfl (w_X12_behind_0 C ho _  E)
set_option maxHeartbeats 4000000 in
theorem w_X12_lay_139 (C : Cx D cA bs Z p s m args meth c cX12_lay RX12 3 none) {o : Nat} {K : Sh} {n : Nat} {J : Jm} {R : Rf} (ho : (K o).1 = 13) (res : Im) (r33 : Int32 → Int32 → Im → Option (Im)) (hr33 : ∀ (x1 : Int32) (x2 : Int32) (I : Im), r33 x1 x2 I = some res → VW D cA bs p l e rX12_lay s m args below meth c 3 [(0, va_rf (some o)), (1, .int x1), (2, .int x2)] K n I J R 0 0 (MQ below (QX D cA bs none K n res J R) args s 0 0 (fun q => bs ≤ q)) 33 []) (x1 : Int32) (x2 : Int32) (s0 : Option Nat) (s1 : Int32) (s2 : Int32) (I : Im) (E : f_X12_lay_139 K R o r33 x1 x2 s0 s1 s2 I = some res) : VW D cA bs p l e rX12_lay s m args below meth c 3 [(0, va_rf (some o)), (1, .int x1), (2, .int x2)] K n I J R 0 0 (MQ below (QX D cA bs none K n res J R) args s 0 0 (fun q => bs ≤ q)) 139 [.int s2, .int s1, va_rf s0] := by
  unfold f_X12_lay_139 at E
  refine v_iast (r := s0) C E dX12_lay_139 (fun I1 _ E => ?_)
  refine v_iinc (v := x1 + 1) C 1 [(1, .int (x1 + 1)), (0, va_rf (some o)), (2, .int x2)] dX12_lay_140 rfl (k_inc_1 _) (Nat.le_of_ble_eq_true rfl) rfl ?_
  refine v_iinc (v := x2 + 1) C 2 [(2, .int (x2 + 1)), (1, .int (x1 + 1)), (0, va_rf (some o))] dX12_lay_143 rfl (k_inc_1 _) (Nat.le_of_ble_eq_true rfl) rfl ?_
  refine v_goto C 33 dX12_lay_146 rfl ?_
  exact v_sub [2, 1, 0] [(0, va_rf (some o)), (1, .int (x1 + 1)), (2, .int (x2 + 1))] rfl (hr33 _ _ _ E)
set_option maxHeartbeats 4000000 in
theorem w_X12_lay_98 (C : Cx D cA bs Z p s m args meth c cX12_lay RX12 3 none) {o : Nat} {K : Sh} {n : Nat} {J : Jm} {R : Rf} (ho : (K o).1 = 13) (res : Im) (r33 : Int32 → Int32 → Im → Option (Im)) (hr33 : ∀ (x1 : Int32) (x2 : Int32) (I : Im), r33 x1 x2 I = some res → VW D cA bs p l e rX12_lay s m args below meth c 3 [(0, va_rf (some o)), (1, .int x1), (2, .int x2)] K n I J R 0 0 (MQ below (QX D cA bs none K n res J R) args s 0 0 (fun q => bs ≤ q)) 33 []) (x1 : Int32) (x2 : Int32) (I : Im) (E : f_X12_lay_98 K R o r33 x1 x2 I = some res) : VW D cA bs p l e rX12_lay s m args below meth c 3 [(0, va_rf (some o)), (1, .int x1), (2, .int x2)] K n I J R 0 0 (MQ below (QX D cA bs none K n res J R) args s 0 0 (fun q => bs ≤ q)) 98 [] := by
  unfold f_X12_lay_98 at E
  refine v_aload_n (r := (some o)) C 0 dX12_lay_98 rfl ?_
  refine v_getR (r := (some o)) C fa_X12_32 rfl rfl ho dX12_lay_99 ?_
  refine v_iload_n C 2 dX12_lay_102 rfl ?_
  refine v_iald (r := (R o 7)) C E dX12_lay_103 (fun v2 _ E => ?_)
  refine v_iconst C dX12_lay_104 k_iconst_1 ?_
  refine v_icmp_ne C 143 E dX12_lay_105 rfl (fun c7 E => ?_) (fun c7 E => ?_)
  · refine v_iload_n C 1 dX12_lay_108 rfl ?_
    refine v_bipush C dX12_lay_109 k_bipush_6 ?_
    refine v_icmp_ge C 143 E dX12_lay_111 rfl (fun c6 E => ?_) (fun c6 E => ?_)
    · refine v_iinc (v := x2 + 1) C 2 [(2, .int (x2 + 1)), (0, va_rf (some o)), (1, .int x1)] dX12_lay_143 rfl (k_inc_1 _) (Nat.le_of_ble_eq_true rfl) rfl ?_
      refine v_goto C 33 dX12_lay_146 rfl ?_
      exact v_sub [1, 2, 0] [(0, va_rf (some o)), (1, .int x1), (2, .int (x2 + 1))] rfl (hr33 _ _ _ E)
    · refine v_aload_n (r := (some o)) C 0 dX12_lay_114 rfl ?_
      refine v_getR (r := (some o)) C fa_X12_84 rfl rfl ho dX12_lay_115 ?_
      refine v_iload_n C 1 dX12_lay_118 rfl ?_
      refine v_aload_n (r := (some o)) C 0 dX12_lay_119 rfl ?_
      refine v_getR (r := (some o)) C fa_X12_35 rfl rfl ho dX12_lay_120 ?_
      refine v_iload_n C 2 dX12_lay_123 rfl ?_
      refine v_iald (r := (R o 8)) C E dX12_lay_124 (fun v3 _ E => ?_)
      refine v_iconst C dX12_lay_125 k_iconst_1 ?_
      refine v_icmp_ge C 133 E dX12_lay_126 rfl (fun c5 E => ?_) (fun c5 E => ?_)
      · refine v_aload_n (r := (some o)) C 0 dX12_lay_133 rfl ?_
        refine v_getR (r := (some o)) C fa_X12_35 rfl rfl ho dX12_lay_134 ?_
        refine v_iload_n C 2 dX12_lay_137 rfl ?_
        refine v_iald (r := (R o 8)) C E dX12_lay_138 (fun v4 _ E => ?_)
        exact v_sub [0, 1, 2] [(0, va_rf (some o)), (1, .int x1), (2, .int x2)] rfl (w_X12_lay_139 C ho res _ hr33 _ _ _ _ _ _ E)
      · refine v_iconst C dX12_lay_129 k_iconst_1 ?_
        refine v_goto C 139 dX12_lay_130 rfl ?_
        exact v_sub [0, 1, 2] [(0, va_rf (some o)), (1, .int x1), (2, .int x2)] rfl (w_X12_lay_139 C ho res _ hr33 _ _ _ _ _ _ E)
  · refine v_iinc (v := x2 + 1) C 2 [(2, .int (x2 + 1)), (0, va_rf (some o)), (1, .int x1)] dX12_lay_143 rfl (k_inc_1 _) (Nat.le_of_ble_eq_true rfl) rfl ?_
    refine v_goto C 33 dX12_lay_146 rfl ?_
    exact v_sub [1, 2, 0] [(0, va_rf (some o)), (1, .int x1), (2, .int (x2 + 1))] rfl (hr33 _ _ _ E)
set_option maxHeartbeats 4000000 in
theorem w_X12_lay_151 (C : Cx D cA bs Z p s m args meth c cX12_lay RX12 3 none) {o : Nat} {K : Sh} {n : Nat} {J : Jm} {R : Rf} (ho : (K o).1 = 13) (res : Im)  : ∀ (k : Nat), ∀ (x2 : Int32) (I : Im), f_X12_lay_151 K R o k x2 I = some res → VW D cA bs p l e rX12_lay s m args below meth c 3 [(0, va_rf (some o)), (2, .int x2)] K n I J R 0 0 (MQ below (QX D cA bs none K n res J R) args s 0 0 (fun q => bs ≤ q)) 151 [] := by
  intro k
  induction k with
  | zero =>
    intro x2 I E
    have E : (none : Option (Im)) = some res := E
    cases E
  | succ k ih =>
    intro x2 I E
    unfold f_X12_lay_151 at E
    refine v_iload_n C 1 dX12_lay_151 rfl ?_
    refine v_aload_n (r := (some o)) C 0 dX12_lay_152 rfl ?_
    refine v_getI (r := (some o)) C fa_X12_75 rfl rfl ho dX12_lay_153 ?_
    refine v_icmp_ge C 189 E dX12_lay_156 rfl (fun c12 E => ?_) (fun c12 E => ?_)
    · obtain rfl := Option.some.inj E
      exact v_vret C rfl dX12_lay_189
    · refine v_aload_n (r := (some o)) C 0 dX12_lay_159 rfl ?_
      refine v_getR (r := (some o)) C fa_X12_87 rfl rfl ho dX12_lay_160 ?_
      refine v_iload_n C 1 dX12_lay_163 rfl ?_
      refine v_aload_n (r := (some o)) C 0 dX12_lay_164 rfl ?_
      refine v_getR (r := (some o)) C fa_X12_66 rfl rfl ho dX12_lay_165 ?_
      refine v_iload_n C 1 dX12_lay_168 rfl ?_
      refine v_iald (r := (R o 18)) C E dX12_lay_169 (fun v8 _ E => ?_)
      refine v_iast (r := (R o 25)) C E dX12_lay_170 (fun I9 _ E => ?_)
      refine v_aload_n (r := (some o)) C 0 dX12_lay_171 rfl ?_
      refine v_getR (r := (some o)) C fa_X12_90 rfl rfl ho dX12_lay_172 ?_
      refine v_iload_n C 1 dX12_lay_175 rfl ?_
      refine v_aload_n (r := (some o)) C 0 dX12_lay_176 rfl ?_
      refine v_getR (r := (some o)) C fa_X12_69 rfl rfl ho dX12_lay_177 ?_
      refine v_iload_n C 1 dX12_lay_180 rfl ?_
      refine v_iald (r := (R o 19)) C E dX12_lay_181 (fun v10 _ E => ?_)
      refine v_iast (r := (R o 26)) C E dX12_lay_182 (fun I11 _ E => ?_)
      refine v_iinc (v := x2 + 1) C 1 [(2, .int (x2 + 1)), (0, va_rf (some o))] dX12_lay_183 rfl (k_inc_1 _) (Nat.le_of_ble_eq_true rfl) rfl ?_
      refine v_goto C 151 dX12_lay_186 rfl ?_
      exact v_sub [1, 0] [(0, va_rf (some o)), (2, .int (x2 + 1))] rfl (ih _ _ E)
set_option maxHeartbeats 4000000 in
theorem w_X12_lay_33 (C : Cx D cA bs Z p s m args meth c cX12_lay RX12 3 none) {o : Nat} {K : Sh} {n : Nat} {J : Jm} {R : Rf} (ho : (K o).1 = 13) (res : Im)  : ∀ (k : Nat), ∀ (x1 : Int32) (x2 : Int32) (I : Im), f_X12_lay_33 K R o k x1 x2 I = some res → VW D cA bs p l e rX12_lay s m args below meth c 3 [(0, va_rf (some o)), (1, .int x1), (2, .int x2)] K n I J R 0 0 (MQ below (QX D cA bs none K n res J R) args s 0 0 (fun q => bs ≤ q)) 33 [] := by
  intro k
  induction k with
  | zero =>
    intro x1 x2 I E
    have E : (none : Option (Im)) = some res := E
    cases E
  | succ k ih =>
    intro x1 x2 I E
    unfold f_X12_lay_33 at E
    refine v_iload_n C 2 dX12_lay_33 rfl ?_
    refine v_aload_n (r := (some o)) C 0 dX12_lay_34 rfl ?_
    obtain ⟨q13, h14, E⟩ := bnd E
    refine v_callV (r := (some o)) (As := []) (rv := (some (.int q13))) (st := [.int x2]) (st1 := [.int q13, .int x2]) (ce1 := 0) (sl1 := 0) C cv_X12_299 (c_X12_behind  ho h14) rfl ho rfl rfl ⟨rfl, rfl, Nat.le_of_ble_eq_true rfl, Nat.le_of_ble_eq_true rfl⟩ ⟨Nat.le_of_ble_eq_true rfl, Nat.le_of_ble_eq_true rfl⟩ (Nat.le_of_ble_eq_true rfl) rfl rfl rfl dX12_lay_35 ?_
    refine v_icmp_ge C 149 E dX12_lay_38 rfl (fun c23 E => ?_) (fun c23 E => ?_)
    · refine v_iconst C dX12_lay_149 k_iconst_0 ?_
      refine v_istore_n C [(2, .int 0), (0, va_rf (some o)), (1, .int x1)] dX12_lay_150 (Nat.le_of_ble_eq_true rfl) rfl ?_
      exact v_sub [1, 0] [(0, va_rf (some o)), (2, .int 0)] rfl (w_X12_lay_151 C ho res  _ _ _ E)
    · refine v_aload_n (r := (some o)) C 0 dX12_lay_41 rfl ?_
      refine v_getR (r := (some o)) C fa_X12_32 rfl rfl ho dX12_lay_42 ?_
      refine v_iload_n C 2 dX12_lay_45 rfl ?_
      refine v_iald (r := (R o 7)) C E dX12_lay_46 (fun v15 _ E => ?_)
      refine v_if_ne C 98 E dX12_lay_47 rfl (fun c22 E => ?_) (fun c22 E => ?_)
      · refine v_aload_n (r := (some o)) C 0 dX12_lay_50 rfl ?_
        refine v_getI (r := (some o)) C fa_X12_75 rfl rfl ho dX12_lay_51 ?_
        refine v_iconst C dX12_lay_54 k_iconst_5 ?_
        refine v_icmp_ge C 98 E dX12_lay_55 rfl (fun c21 E => ?_) (fun c21 E => ?_)
        · exact v_sub [0, 1, 2] [(0, va_rf (some o)), (1, .int x1), (2, .int x2)] rfl (w_X12_lay_98 C ho res _ ih _ _ _ E)
        · refine v_aload_n (r := (some o)) C 0 dX12_lay_58 rfl ?_
          refine v_getR (r := (some o)) C fa_X12_78 rfl rfl ho dX12_lay_59 ?_
          refine v_aload_n (r := (some o)) C 0 dX12_lay_62 rfl ?_
          refine v_getI (r := (some o)) C fa_X12_75 rfl rfl ho dX12_lay_63 ?_
          refine v_aload_n (r := (some o)) C 0 dX12_lay_66 rfl ?_
          refine v_getR (r := (some o)) C fa_X12_35 rfl rfl ho dX12_lay_67 ?_
          refine v_iload_n C 2 dX12_lay_70 rfl ?_
          refine v_iald (r := (R o 8)) C E dX12_lay_71 (fun v16 _ E => ?_)
          refine v_iast (r := (R o 22)) C E dX12_lay_72 (fun I17 _ E => ?_)
          refine v_aload_n (r := (some o)) C 0 dX12_lay_73 rfl ?_
          refine v_getR (r := (some o)) C fa_X12_81 rfl rfl ho dX12_lay_74 ?_
          refine v_aload_n (r := (some o)) C 0 dX12_lay_77 rfl ?_
          refine v_getI (r := (some o)) C fa_X12_75 rfl rfl ho dX12_lay_78 ?_
          refine v_aload_n (r := (some o)) C 0 dX12_lay_81 rfl ?_
          refine v_getR (r := (some o)) C fa_X12_38 rfl rfl ho dX12_lay_82 ?_
          refine v_iload_n C 2 dX12_lay_85 rfl ?_
          refine v_iald (r := (R o 9)) C E dX12_lay_86 (fun v18 _ E => ?_)
          refine v_iast (r := (R o 23)) C E dX12_lay_87 (fun I19 _ E => ?_)
          refine v_aload_n (r := (some o)) C 0 dX12_lay_88 rfl ?_
          refine v_dup C dX12_lay_89 (rf_cat _) ?_
          refine v_getI (r := (some o)) C fa_X12_75 rfl rfl ho dX12_lay_90 ?_
          refine v_iconst C dX12_lay_93 k_iconst_1 ?_
          refine v_iadd C dX12_lay_94 ?_
          refine v_putI (r := (some o)) C fa_X12_75 rfl E rfl ho ⟨rfl, rfl⟩ dX12_lay_95 (fun I20 _ E => ?_)
          exact v_sub [0, 1, 2] [(0, va_rf (some o)), (1, .int x1), (2, .int x2)] rfl (w_X12_lay_98 C ho res _ ih _ _ _ E)
      · exact v_sub [0, 1, 2] [(0, va_rf (some o)), (1, .int x1), (2, .int x2)] rfl (w_X12_lay_98 C ho res _ ih _ _ _ E)
set_option maxHeartbeats 4000000 in
theorem w_X12_lay_9 (C : Cx D cA bs Z p s m args meth c cX12_lay RX12 3 none) {o : Nat} {K : Sh} {n : Nat} {J : Jm} {R : Rf} (ho : (K o).1 = 13) (res : Im)  : ∀ (k : Nat), ∀ (x1 : Int32) (x2 : Int32) (I : Im), f_X12_lay_9 K R o k x1 x2 I = some res → VW D cA bs p l e rX12_lay s m args below meth c 3 [(0, va_rf (some o)), (1, .int x1), (2, .int x2)] K n I J R 0 0 (MQ below (QX D cA bs none K n res J R) args s 0 0 (fun q => bs ≤ q)) 9 [] := by
  intro k
  induction k with
  | zero =>
    intro x1 x2 I E
    have E : (none : Option (Im)) = some res := E
    cases E
  | succ k ih =>
    intro x1 x2 I E
    unfold f_X12_lay_9 at E
    refine v_iload_n C 2 dX12_lay_9 rfl ?_
    refine v_bipush C dX12_lay_10 k_bipush_7 ?_
    refine v_icmp_ge C 28 E dX12_lay_12 rfl (fun c27 E => ?_) (fun c27 E => ?_)
    · refine v_aload_n (r := (some o)) C 0 dX12_lay_28 rfl ?_
      obtain ⟨q24, h25, E⟩ := bnd E
      refine v_callV (r := (some o)) (As := []) (rv := (some (.int q24))) (st := []) (st1 := [.int q24]) (ce1 := 0) (sl1 := 0) C cv_X12_296 (c_X12_first  ho h25) rfl ho rfl rfl ⟨rfl, rfl, Nat.le_of_ble_eq_true rfl, Nat.le_of_ble_eq_true rfl⟩ ⟨Nat.le_of_ble_eq_true rfl, Nat.le_of_ble_eq_true rfl⟩ (Nat.le_of_ble_eq_true rfl) rfl rfl rfl dX12_lay_29 ?_
      refine v_istore_n C [(2, .int q24), (0, va_rf (some o)), (1, .int x1)] dX12_lay_32 (Nat.le_of_ble_eq_true rfl) rfl ?_
      exact v_sub [1, 2, 0] [(0, va_rf (some o)), (1, .int x1), (2, .int q24)] rfl (w_X12_lay_33 C ho res  _ _ _ _ E)
    · refine v_aload_n (r := (some o)) C 0 dX12_lay_15 rfl ?_
      refine v_getR (r := (some o)) C fa_X12_84 rfl rfl ho dX12_lay_16 ?_
      refine v_iload_n C 2 dX12_lay_19 rfl ?_
      refine v_iconst C dX12_lay_20 k_iconst_3 ?_
      refine v_iast (r := (R o 24)) C E dX12_lay_21 (fun I26 _ E => ?_)
      refine v_iinc (v := x2 + 1) C 2 [(2, .int (x2 + 1)), (0, va_rf (some o)), (1, .int x1)] dX12_lay_22 rfl (k_inc_1 _) (Nat.le_of_ble_eq_true rfl) rfl ?_
      refine v_goto C 9 dX12_lay_25 rfl ?_
      exact v_sub [1, 2, 0] [(0, va_rf (some o)), (1, .int x1), (2, .int (x2 + 1))] rfl (ih _ _ _ E)
set_option maxHeartbeats 4000000 in
theorem w_X12_lay_0 (C : Cx D cA bs Z p s m args meth c cX12_lay RX12 3 none) {o : Nat} {K : Sh} {n : Nat} {J : Jm} {R : Rf} (ho : (K o).1 = 13) (res : Im) (I : Im) (E : f_X12_lay K R o I = some res) : VW D cA bs p l e rX12_lay s m args below meth c 3 [(0, va_rf (some o))] K n I J R 0 0 (MQ below (QX D cA bs none K n res J R) args s 0 0 (fun q => bs ≤ q)) 0 [] := by
  unfold f_X12_lay at E
  refine v_aload_n (r := (some o)) C 0 dX12_lay_0 rfl ?_
  refine v_iconst C dX12_lay_1 k_iconst_0 ?_
  refine v_putI (r := (some o)) C fa_X12_75 rfl E rfl ho ⟨rfl, rfl⟩ dX12_lay_2 (fun I28 _ E => ?_)
  refine v_iconst C dX12_lay_5 k_iconst_0 ?_
  refine v_istore_n C [(1, .int 0), (0, va_rf (some o))] dX12_lay_6 (Nat.le_of_ble_eq_true rfl) rfl ?_
  refine v_iconst C dX12_lay_7 k_iconst_0 ?_
  refine v_istore_n C [(2, .int 0), (1, .int 0), (0, va_rf (some o))] dX12_lay_8 (Nat.le_of_ble_eq_true rfl) rfl ?_
  exact v_sub [2, 1, 0] [(0, va_rf (some o)), (1, .int 0), (2, .int 0)] rfl (w_X12_lay_9 C ho res  _ _ _ _ E)
set_option maxHeartbeats 4000000 in
theorem c_X12_lay {n : Nat} {K : Sh} {I : Im} {J : Jm} {R : Rf} {o : Nat}  (ho : (K o).1 = 13) {res : Im} (E : f_X12_lay K R o I = some res) : Met l yX12_lay (Cond.code yX12_lay cX12_lay 3 none :: tb) rX12_lay (PX D cA bs Z [.ref o] K n I J R) (QX D cA bs none K n res J R) 0 0 (fun q => bs ≤ q) := by
  refine met_of (lv1 := [(0, va_rf (some o))]) pn_X12 (by exact Nat.le_of_ble_eq_true rfl) (by rfl) ?_
  intro p e s m args below meth c C hn
  exact v_sub [0] [(0, va_rf (some o))] rfl (w_X12_lay_0 C ho _ _ E)
set_option maxHeartbeats 4000000 in
theorem w_X12_fresh_6 (C : Cx D cA bs Z p s m args meth c cX12_fresh RX12 2 none) {o : Nat} {K : Sh} {n : Nat} {J : Jm} {R : Rf} (ho : (K o).1 = 13) (res : Im)  : ∀ (k : Nat), ∀ (x1 : Int32) (I : Im), f_X12_fresh_6 K R o k x1 I = some res → VW D cA bs p l e rX12_fresh s m args below meth c 2 [(0, va_rf (some o)), (1, .int x1)] K n I J R 0 0 (MQ below (QX D cA bs none K n res J R) args s 0 0 (fun q => bs ≤ q)) 6 [] := by
  intro k
  induction k with
  | zero =>
    intro x1 I E
    have E : (none : Option (Im)) = some res := E
    cases E
  | succ k ih =>
    intro x1 I E
    unfold f_X12_fresh_6 at E
    refine v_iload_n C 1 dX12_fresh_6 rfl ?_
    refine v_aload_n (r := (some o)) C 0 dX12_fresh_7 rfl ?_
    refine v_getI (r := (some o)) C fa_X12_75 rfl rfl ho dX12_fresh_8 ?_
    refine v_icmp_ge C 39 E dX12_fresh_11 rfl (fun c4 E => ?_) (fun c4 E => ?_)
    · obtain rfl := Option.some.inj E
      exact v_vret C rfl dX12_fresh_39
    · refine v_aload_n (r := (some o)) C 0 dX12_fresh_14 rfl ?_
      refine v_getR (r := (some o)) C fa_X12_66 rfl rfl ho dX12_fresh_15 ?_
      refine v_iload_n C 1 dX12_fresh_18 rfl ?_
      refine v_aload_n (r := (some o)) C 0 dX12_fresh_19 rfl ?_
      refine v_getR (r := (some o)) C fa_X12_78 rfl rfl ho dX12_fresh_20 ?_
      refine v_iload_n C 1 dX12_fresh_23 rfl ?_
      refine v_iald (r := (R o 22)) C E dX12_fresh_24 (fun v1 _ E => ?_)
      refine v_iast (r := (R o 18)) C E dX12_fresh_25 (fun I2 _ E => ?_)
      refine v_aload_n (r := (some o)) C 0 dX12_fresh_26 rfl ?_
      refine v_getR (r := (some o)) C fa_X12_69 rfl rfl ho dX12_fresh_27 ?_
      refine v_iload_n C 1 dX12_fresh_30 rfl ?_
      refine v_iconst C dX12_fresh_31 k_iconst_0 ?_
      refine v_iast (r := (R o 19)) C E dX12_fresh_32 (fun I3 _ E => ?_)
      refine v_iinc (v := x1 + 1) C 1 [(1, .int (x1 + 1)), (0, va_rf (some o))] dX12_fresh_33 rfl (k_inc_1 _) (Nat.le_of_ble_eq_true rfl) rfl ?_
      refine v_goto C 6 dX12_fresh_36 rfl ?_
      exact v_sub [1, 0] [(0, va_rf (some o)), (1, .int (x1 + 1))] rfl (ih _ _ E)
set_option maxHeartbeats 4000000 in
theorem w_X12_fresh_0 (C : Cx D cA bs Z p s m args meth c cX12_fresh RX12 2 none) {o : Nat} {K : Sh} {n : Nat} {J : Jm} {R : Rf} (ho : (K o).1 = 13) (res : Im) (I : Im) (E : f_X12_fresh K R o I = some res) : VW D cA bs p l e rX12_fresh s m args below meth c 2 [(0, va_rf (some o))] K n I J R 0 0 (MQ below (QX D cA bs none K n res J R) args s 0 0 (fun q => bs ≤ q)) 0 [] := by
  unfold f_X12_fresh at E
  refine v_aload_n (r := (some o)) C 0 dX12_fresh_0 rfl ?_
  obtain ⟨q5, h6, E⟩ := bnd E
  refine v_callV (r := (some o)) (As := []) (rv := none) (st := []) (st1 := []) (ce1 := 0) (sl1 := 0) C cv_X12_306 (c_X12_lay  ho h6) rfl ho rfl rfl ⟨rfl, rfl, Nat.le_of_ble_eq_true rfl, Nat.le_of_ble_eq_true rfl⟩ ⟨Nat.le_of_ble_eq_true rfl, Nat.le_of_ble_eq_true rfl⟩ (Nat.le_of_ble_eq_true rfl) rfl rfl rfl dX12_fresh_1 ?_
  refine v_iconst C dX12_fresh_4 k_iconst_0 ?_
  refine v_istore_n C [(1, .int 0), (0, va_rf (some o))] dX12_fresh_5 (Nat.le_of_ble_eq_true rfl) rfl ?_
  exact v_sub [1, 0] [(0, va_rf (some o)), (1, .int 0)] rfl (w_X12_fresh_6 C ho res  _ _ _ E)
set_option maxHeartbeats 4000000 in
theorem c_X12_fresh {n : Nat} {K : Sh} {I : Im} {J : Jm} {R : Rf} {o : Nat}  (ho : (K o).1 = 13) {res : Im} (E : f_X12_fresh K R o I = some res) : Met l yX12_fresh (Cond.code yX12_fresh cX12_fresh 2 none :: tb) rX12_fresh (PX D cA bs Z [.ref o] K n I J R) (QX D cA bs none K n res J R) 0 0 (fun q => bs ≤ q) := by
  refine met_of (lv1 := [(0, va_rf (some o))]) pn_X12 (by exact Nat.le_of_ble_eq_true rfl) (by rfl) ?_
  intro p e s m args below meth c C hn
  exact v_sub [0] [(0, va_rf (some o))] rfl (w_X12_fresh_0 C ho _ _ E)
set_option maxHeartbeats 4000000 in
theorem w_X12_waste_0 (C : Cx D cA bs Z p s m args meth c cX12_waste RX12 2 (some .int)) {o : Nat} {K : Sh} {n : Nat} {J : Jm} {R : Rf} (ho : (K o).1 = 13) (res : Int32 × Im) (I : Im) (E : f_X12_waste K R o I = some res) : VW D cA bs p l e rX12_waste s m args below meth c 2 [(0, va_rf (some o))] K n I J R 0 0 (MQ below (QX D cA bs (some (.int res.1)) K n res.2 J R) args s 0 0 (fun q => bs ≤ q)) 0 [] := by
  unfold f_X12_waste at E
  refine v_aload_n (r := (some o)) C 0 dX12_waste_0 rfl ?_
  refine v_getI (r := (some o)) C fa_X12_7 rfl rfl ho dX12_waste_1 ?_
  refine v_iconst C dX12_waste_4 k_iconst_5 ?_
  refine v_icmp_ne C 11 E dX12_waste_5 rfl (fun c9 E => ?_) (fun c9 E => ?_)
  · refine v_bipush C dX12_waste_8 k_bipush_m4 ?_
    obtain rfl := Option.some.inj E
    exact v_iret C rfl dX12_waste_10
  · refine v_aload_n (r := (some o)) C 0 dX12_waste_11 rfl ?_
    refine v_aload_n (r := (some o)) C 0 dX12_waste_12 rfl ?_
    refine v_getI (r := (some o)) C fa_X12_7 rfl rfl ho dX12_waste_13 ?_
    obtain ⟨q1, h2, E⟩ := bnd E
    refine v_callV (r := (some o)) (As := [.int (I o 0)]) (rv := (some (.int q1.1))) (st := []) (st1 := [.int q1.1]) (ce1 := 0) (sl1 := 0) C cv_X12_290 (c_X12_goesText (x1 := (I o 0)) ho h2) rfl ho rfl rfl ⟨rfl, rfl, Nat.le_of_ble_eq_true rfl, Nat.le_of_ble_eq_true rfl⟩ ⟨Nat.le_of_ble_eq_true rfl, Nat.le_of_ble_eq_true rfl⟩ (Nat.le_of_ble_eq_true rfl) rfl rfl rfl dX12_waste_16 ?_
    refine v_istore_n C [(1, .int q1.1), (0, va_rf (some o))] dX12_waste_19 (Nat.le_of_ble_eq_true rfl) rfl ?_
    refine v_aload_n (r := (some o)) C 1 dX12_waste_20 rfl ?_
    refine v_iconst C dX12_waste_21 k_iconst_0 ?_
    refine v_putI (r := (some o)) C fa_X12_16 rfl E rfl ho ⟨rfl, rfl⟩ dX12_waste_22 (fun I3 _ E => ?_)
    refine v_iload_n C 0 dX12_waste_25 rfl ?_
    refine v_if_ne C 37 E dX12_waste_26 rfl (fun c8 E => ?_) (fun c8 E => ?_)
    · refine v_bipush C dX12_waste_29 k_bipush_m10 ?_
      refine v_aload_n (r := (some o)) C 1 dX12_waste_31 rfl ?_
      refine v_getI (r := (some o)) C fa_X12_19 rfl rfl ho dX12_waste_32 ?_
      refine v_isub C dX12_waste_35 ?_
      obtain rfl := Option.some.inj E
      exact v_iret C rfl dX12_waste_36
    · refine v_aload_n (r := (some o)) C 1 dX12_waste_37 rfl ?_
      refine v_aload_n (r := (some o)) C 1 dX12_waste_38 rfl ?_
      refine v_getI (r := (some o)) C fa_X12_7 rfl rfl ho dX12_waste_39 ?_
      refine v_putI (r := (some o)) C fa_X12_13 rfl E rfl ho ⟨rfl, rfl⟩ dX12_waste_42 (fun I4 _ E => ?_)
      refine v_aload_n (r := (some o)) C 1 dX12_waste_45 rfl ?_
      refine v_dup C dX12_waste_46 (rf_cat _) ?_
      refine v_getI (r := (some o)) C fa_X12_7 rfl rfl ho dX12_waste_47 ?_
      refine v_iconst C dX12_waste_50 k_iconst_1 ?_
      refine v_iadd C dX12_waste_51 ?_
      refine v_putI (r := (some o)) C fa_X12_7 rfl E rfl ho ⟨rfl, rfl⟩ dX12_waste_52 (fun I5 _ E => ?_)
      refine v_aload_n (r := (some o)) C 1 dX12_waste_55 rfl ?_
      obtain ⟨q6, h7, E⟩ := bnd E
      refine v_callV (r := (some o)) (As := []) (rv := none) (st := []) (st1 := []) (ce1 := 0) (sl1 := 0) C cv_X12_293 (c_X12_fresh  ho h7) rfl ho rfl rfl ⟨rfl, rfl, Nat.le_of_ble_eq_true rfl, Nat.le_of_ble_eq_true rfl⟩ ⟨Nat.le_of_ble_eq_true rfl, Nat.le_of_ble_eq_true rfl⟩ (Nat.le_of_ble_eq_true rfl) rfl rfl rfl dX12_waste_56 ?_
      refine v_aload_n (r := (some o)) C 1 dX12_waste_59 rfl ?_
      refine v_getI (r := (some o)) C fa_X12_13 rfl rfl ho dX12_waste_60 ?_
      obtain rfl := Option.some.inj E
      exact v_iret C rfl dX12_waste_63
set_option maxHeartbeats 4000000 in
theorem c_X12_waste {n : Nat} {K : Sh} {I : Im} {J : Jm} {R : Rf} {o : Nat}  (ho : (K o).1 = 13) {res : Int32 × Im} (E : f_X12_waste K R o I = some res) : Met l yX12_waste (Cond.code yX12_waste cX12_waste 2 (some .int) :: tb) rX12_waste (PX D cA bs Z [.ref o] K n I J R) (QX D cA bs (some (.int res.1)) K n res.2 J R) 0 0 (fun q => bs ≤ q) := by
  refine met_of (lv1 := [(0, va_rf (some o))]) pn_X12 (by exact Nat.le_of_ble_eq_true rfl) (by rfl) ?_
  intro p e s m args below meth c C hn
  exact v_sub [0] [(0, va_rf (some o))] rfl (w_X12_waste_0 C ho _ _ E)
set_option maxHeartbeats 4000000 in
theorem w_X12_last_39 (C : Cx D cA bs Z p s m args meth c cX12_last RX12 5 (some .int)) {o : Nat} {K : Sh} {n : Nat} {I : Im} {J : Jm} {R : Rf} (ho : (K o).1 = 13) (res : Int32) (r8 : Int32 → Int32 → Int32 → Option (Int32)) (hr8 : ∀ (x1 : Int32) (x3 : Int32) (x4 : Int32) , r8 x1 x3 x4 = some res → VW D cA bs p l e rX12_last s m args below meth c 5 [(0, va_rf (some o)), (1, .int x1), (3, .int x3), (4, .int x4)] K n I J R 0 0 (MQ below (QX D cA bs (some (.int res)) K n I J R) args s 0 0 (fun q => bs ≤ q)) 8 []) (x1 : Int32) (x4 : Int32) (s0 : Int32) (E : f_X12_last_39 K I R o r8 x1 x4 s0 = some res) : VW D cA bs p l e rX12_last s m args below meth c 5 [(0, va_rf (some o)), (1, .int x1), (4, .int x4)] K n I J R 0 0 (MQ below (QX D cA bs (some (.int res)) K n I J R) args s 0 0 (fun q => bs ≤ q)) 39 [.int s0] := by
  unfold f_X12_last_39 at E
  refine v_istore_n C [(3, .int s0), (0, va_rf (some o)), (1, .int x1), (4, .int x4)] dX12_last_39 (Nat.le_of_ble_eq_true rfl) rfl ?_
  refine v_iinc (v := x4 + 1) C 3 [(4, .int (x4 + 1)), (3, .int s0), (0, va_rf (some o)), (1, .int x1)] dX12_last_40 rfl (k_inc_1 _) (Nat.le_of_ble_eq_true rfl) rfl ?_
  refine v_goto C 8 dX12_last_43 rfl ?_
  exact v_sub [2, 3, 1, 0] [(0, va_rf (some o)), (1, .int x1), (3, .int s0), (4, .int (x4 + 1))] rfl (hr8 _ _ _ E)
set_option maxHeartbeats 4000000 in
theorem w_X12_last_8 (C : Cx D cA bs Z p s m args meth c cX12_last RX12 5 (some .int)) {o : Nat} {K : Sh} {n : Nat} {I : Im} {J : Jm} {R : Rf} (ho : (K o).1 = 13) (res : Int32)  : ∀ (k : Nat), ∀ (x1 : Int32) (x3 : Int32) (x4 : Int32), f_X12_last_8 K I R o k x1 x3 x4 = some res → VW D cA bs p l e rX12_last s m args below meth c 5 [(0, va_rf (some o)), (1, .int x1), (3, .int x3), (4, .int x4)] K n I J R 0 0 (MQ below (QX D cA bs (some (.int res)) K n I J R) args s 0 0 (fun q => bs ≤ q)) 8 [] := by
  intro k
  induction k with
  | zero =>
    intro x1 x3 x4 E
    have E : (none : Option (Int32)) = some res := E
    cases E
  | succ k ih =>
    intro x1 x3 x4 E
    unfold f_X12_last_8 at E
    refine v_iload C 3 dX12_last_8 rfl ?_
    refine v_aload_n (r := (some o)) C 0 dX12_last_10 rfl ?_
    obtain ⟨q1, h2, E⟩ := bnd E
    refine v_callV (r := (some o)) (As := []) (rv := (some (.int q1))) (st := [.int x4]) (st1 := [.int q1, .int x4]) (ce1 := 0) (sl1 := 0) C cv_X12_299 (c_X12_behind  ho h2) rfl ho rfl rfl ⟨rfl, rfl, Nat.le_of_ble_eq_true rfl, Nat.le_of_ble_eq_true rfl⟩ ⟨Nat.le_of_ble_eq_true rfl, Nat.le_of_ble_eq_true rfl⟩ (Nat.le_of_ble_eq_true rfl) rfl rfl rfl dX12_last_11 ?_
    refine v_icmp_ge C 46 E dX12_last_14 rfl (fun c6 E => ?_) (fun c6 E => ?_)
    · refine v_iload_n C 2 dX12_last_46 rfl ?_
      obtain rfl := Option.some.inj E
      exact v_iret C rfl dX12_last_47
    · refine v_aload_n (r := (some o)) C 0 dX12_last_17 rfl ?_
      refine v_getR (r := (some o)) C fa_X12_32 rfl rfl ho dX12_last_18 ?_
      refine v_iload C 3 dX12_last_21 rfl ?_
      refine v_iald (r := (R o 7)) C E dX12_last_23 (fun v3 _ E => ?_)
      refine v_iload_n C 1 dX12_last_24 rfl ?_
      refine v_icmp_ne C 38 E dX12_last_25 rfl (fun c5 E => ?_) (fun c5 E => ?_)
      · refine v_aload_n (r := (some o)) C 0 dX12_last_28 rfl ?_
        refine v_getR (r := (some o)) C fa_X12_35 rfl rfl ho dX12_last_29 ?_
        refine v_iload C 3 dX12_last_32 rfl ?_
        refine v_iald (r := (R o 8)) C E dX12_last_34 (fun v4 _ E => ?_)
        refine v_goto C 39 dX12_last_35 rfl ?_
        exact v_sub [0, 1, 3] [(0, va_rf (some o)), (1, .int x1), (4, .int x4)] rfl (w_X12_last_39 C ho res _ ih _ _ _ E)
      · refine v_iload_n C 2 dX12_last_38 rfl ?_
        exact v_sub [0, 1, 3] [(0, va_rf (some o)), (1, .int x1), (4, .int x4)] rfl (w_X12_last_39 C ho res _ ih _ _ _ E)
set_option maxHeartbeats 4000000 in
theorem w_X12_last_0 (C : Cx D cA bs Z p s m args meth c cX12_last RX12 5 (some .int)) {o : Nat} {K : Sh} {n : Nat} {I : Im} {J : Jm} {R : Rf} (ho : (K o).1 = 13) (res : Int32) (x1 : Int32) (x2 : Int32) (E : f_X12_last K I R o x1 x2 = some res) : VW D cA bs p l e rX12_last s m args below meth c 5 [(0, va_rf (some o)), (1, .int x1), (2, .int x2)] K n I J R 0 0 (MQ below (QX D cA bs (some (.int res)) K n I J R) args s 0 0 (fun q => bs ≤ q)) 0 [] := by
  unfold f_X12_last at E
  refine v_iload_n C 2 dX12_last_0 rfl ?_
  refine v_istore_n C [(3, .int x2), (0, va_rf (some o)), (1, .int x1), (2, .int x2)] dX12_last_1 (Nat.le_of_ble_eq_true rfl) rfl ?_
  refine v_aload_n (r := (some o)) C 1 dX12_last_2 rfl ?_
  obtain ⟨q7, h8, E⟩ := bnd E
  refine v_callV (r := (some o)) (As := []) (rv := (some (.int q7))) (st := []) (st1 := [.int q7]) (ce1 := 0) (sl1 := 0) C cv_X12_296 (c_X12_first  ho h8) rfl ho rfl rfl ⟨rfl, rfl, Nat.le_of_ble_eq_true rfl, Nat.le_of_ble_eq_true rfl⟩ ⟨Nat.le_of_ble_eq_true rfl, Nat.le_of_ble_eq_true rfl⟩ (Nat.le_of_ble_eq_true rfl) rfl rfl rfl dX12_last_3 ?_
  refine v_istore C [(4, .int q7), (3, .int x2), (0, va_rf (some o)), (1, .int x1), (2, .int x2)] dX12_last_6 (Nat.le_of_ble_eq_true rfl) rfl ?_
  exact v_sub [2, 3, 1, 0] [(0, va_rf (some o)), (1, .int x1), (3, .int x2), (4, .int q7)] rfl (w_X12_last_8 C ho res  _ _ _ _ E)
set_option maxHeartbeats 4000000 in
theorem c_X12_last {n : Nat} {K : Sh} {I : Im} {J : Jm} {R : Rf} {o : Nat} {x1 : Int32} {x2 : Int32} (ho : (K o).1 = 13) {res : Int32} (E : f_X12_last K I R o x1 x2 = some res) : Met l yX12_last (Cond.code yX12_last cX12_last 5 (some .int) :: tb) rX12_last (PX D cA bs Z [.ref o, .int x1, .int x2] K n I J R) (QX D cA bs (some (.int res)) K n I J R) 0 0 (fun q => bs ≤ q) := by
  refine met_of (lv1 := [(0, va_rf (some o)), (1, .int x1), (2, .int x2)]) pn_X12 (by exact Nat.le_of_ble_eq_true rfl) (by rfl) ?_
  intro p e s m args below meth c C hn
  exact v_sub [0, 1, 2] [(0, va_rf (some o)), (1, .int x1), (2, .int x2)] rfl (w_X12_last_0 C ho _ _ _ E)
set_option maxHeartbeats 4000000 in
theorem w_X12_holdsTest_147 (C : Cx D cA bs Z p s m args meth c cX12_holdsTest RX12 10 (some .boolean)) {o : Nat} {K : Sh} {n : Nat} {J : Jm} {R : Rf} (ho : (K o).1 = 13) (res : Int32 × Im) (r11 : Int32 → Int32 → Int32 → Int32 → Int32 → Int32 → Im → Option (Int32 × Im)) (hr11 : ∀ (x1 : Int32) (x2 : Int32) (x3 : Int32) (x4 : Int32) (x5 : Int32) (x6 : Int32) (I : Im), r11 x1 x2 x3 x4 x5 x6 I = some res → VW D cA bs p l e rX12_holdsTest s m args below meth c 10 [(0, va_rf (some o)), (1, .int x1), (2, .int x2), (3, .int x3), (4, .int x4), (5, .int x5), (6, .int x6)] K n I J R 0 0 (MQ below (QX D cA bs (some (.int res.1)) K n res.2 J R) args s 0 0 (fun q => bs ≤ q)) 11 []) (x1 : Int32) (x2 : Int32) (x3 : Int32) (x4 : Int32) (x5 : Int32) (x6 : Int32) (s0 : Option Nat) (s1 : Int32) (s2 : Int32) (I : Im) (E : f_X12_holdsTest_147 K R o r11 x1 x2 x3 x4 x5 x6 s0 s1 s2 I = some res) : VW D cA bs p l e rX12_holdsTest s m args below meth c 10 [(0, va_rf (some o)), (1, .int x1), (2, .int x2), (3, .int x3), (4, .int x4), (5, .int x5), (6, .int x6)] K n I J R 0 0 (MQ below (QX D cA bs (some (.int res.1)) K n res.2 J R) args s 0 0 (fun q => bs ≤ q)) 147 [.int s2, .int s1, va_rf s0] := by
  unfold f_X12_holdsTest_147 at E
  refine v_zast (r := s0) C E dX12_holdsTest_147 (fun I1 _ E => ?_)
  refine v_goto C 264 dX12_holdsTest_148 rfl ?_
  refine v_iinc (v := x6 + 1) C 6 [(6, .int (x6 + 1)), (0, va_rf (some o)), (1, .int x1), (2, .int x2), (3, .int x3), (4, .int x4), (5, .int x5)] dX12_holdsTest_264 rfl (k_inc_1 _) (Nat.le_of_ble_eq_true rfl) rfl ?_
  refine v_goto C 11 dX12_holdsTest_267 rfl ?_
  exact v_sub [1, 2, 3, 4, 5, 6, 0] [(0, va_rf (some o)), (1, .int x1), (2, .int x2), (3, .int x3), (4, .int x4), (5, .int x5), (6, .int (x6 + 1))] rfl (hr11 _ _ _ _ _ _ _ E)
set_option maxHeartbeats 4000000 in
theorem w_X12_holdsTest_142 (C : Cx D cA bs Z p s m args meth c cX12_holdsTest RX12 10 (some .boolean)) {o : Nat} {K : Sh} {n : Nat} {J : Jm} {R : Rf} (ho : (K o).1 = 13) (res : Int32 × Im) (r11 : Int32 → Int32 → Int32 → Int32 → Int32 → Int32 → Im → Option (Int32 × Im)) (hr11 : ∀ (x1 : Int32) (x2 : Int32) (x3 : Int32) (x4 : Int32) (x5 : Int32) (x6 : Int32) (I : Im), r11 x1 x2 x3 x4 x5 x6 I = some res → VW D cA bs p l e rX12_holdsTest s m args below meth c 10 [(0, va_rf (some o)), (1, .int x1), (2, .int x2), (3, .int x3), (4, .int x4), (5, .int x5), (6, .int x6)] K n I J R 0 0 (MQ below (QX D cA bs (some (.int res.1)) K n res.2 J R) args s 0 0 (fun q => bs ≤ q)) 11 []) (x1 : Int32) (x2 : Int32) (x3 : Int32) (x4 : Int32) (x5 : Int32) (x6 : Int32) (s0 : Option Nat) (s1 : Int32) (I : Im) (E : f_X12_holdsTest_142 K R o r11 x1 x2 x3 x4 x5 x6 s0 s1 I = some res) : VW D cA bs p l e rX12_holdsTest s m args below meth c 10 [(0, va_rf (some o)), (1, .int x1), (2, .int x2), (3, .int x3), (4, .int x4), (5, .int x5), (6, .int x6)] K n I J R 0 0 (MQ below (QX D cA bs (some (.int res.1)) K n res.2 J R) args s 0 0 (fun q => bs ≤ q)) 142 [.int s1, va_rf s0] := by
  unfold f_X12_holdsTest_142 at E
  refine v_iconst C dX12_holdsTest_142 k_iconst_1 ?_
  refine v_goto C 147 dX12_holdsTest_143 rfl ?_
  exact v_sub [0, 1, 2, 3, 4, 5, 6] [(0, va_rf (some o)), (1, .int x1), (2, .int x2), (3, .int x3), (4, .int x4), (5, .int x5), (6, .int x6)] rfl (w_X12_holdsTest_147 C ho res _ hr11 _ _ _ _ _ _ _ _ _ _ E)
set_option maxHeartbeats 4000000 in
theorem w_X12_holdsTest_116 (C : Cx D cA bs Z p s m args meth c cX12_holdsTest RX12 10 (some .boolean)) {o : Nat} {K : Sh} {n : Nat} {J : Jm} {R : Rf} (ho : (K o).1 = 13) (res : Int32 × Im) (r11 : Int32 → Int32 → Int32 → Int32 → Int32 → Int32 → Im → Option (Int32 × Im)) (hr11 : ∀ (x1 : Int32) (x2 : Int32) (x3 : Int32) (x4 : Int32) (x5 : Int32) (x6 : Int32) (I : Im), r11 x1 x2 x3 x4 x5 x6 I = some res → VW D cA bs p l e rX12_holdsTest s m args below meth c 10 [(0, va_rf (some o)), (1, .int x1), (2, .int x2), (3, .int x3), (4, .int x4), (5, .int x5), (6, .int x6)] K n I J R 0 0 (MQ below (QX D cA bs (some (.int res.1)) K n res.2 J R) args s 0 0 (fun q => bs ≤ q)) 11 []) (x1 : Int32) (x2 : Int32) (x3 : Int32) (x4 : Int32) (x5 : Int32) (x6 : Int32) (s0 : Option Nat) (s1 : Int32) (I : Im) (E : f_X12_holdsTest_116 K R o r11 x1 x2 x3 x4 x5 x6 s0 s1 I = some res) : VW D cA bs p l e rX12_holdsTest s m args below meth c 10 [(0, va_rf (some o)), (1, .int x1), (2, .int x2), (3, .int x3), (4, .int x4), (5, .int x5), (6, .int x6)] K n I J R 0 0 (MQ below (QX D cA bs (some (.int res.1)) K n res.2 J R) args s 0 0 (fun q => bs ≤ q)) 116 [.int s1, va_rf s0] := by
  unfold f_X12_holdsTest_116 at E
  refine v_iconst C dX12_holdsTest_116 k_iconst_0 ?_
  refine v_goto C 147 dX12_holdsTest_117 rfl ?_
  exact v_sub [0, 1, 2, 3, 4, 5, 6] [(0, va_rf (some o)), (1, .int x1), (2, .int x2), (3, .int x3), (4, .int x4), (5, .int x5), (6, .int x6)] rfl (w_X12_holdsTest_147 C ho res _ hr11 _ _ _ _ _ _ _ _ _ _ E)
set_option maxHeartbeats 4000000 in
theorem w_X12_holdsTest_260 (C : Cx D cA bs Z p s m args meth c cX12_holdsTest RX12 10 (some .boolean)) {o : Nat} {K : Sh} {n : Nat} {J : Jm} {R : Rf} (ho : (K o).1 = 13) (res : Int32 × Im) (r11 : Int32 → Int32 → Int32 → Int32 → Int32 → Int32 → Im → Option (Int32 × Im)) (hr11 : ∀ (x1 : Int32) (x2 : Int32) (x3 : Int32) (x4 : Int32) (x5 : Int32) (x6 : Int32) (I : Im), r11 x1 x2 x3 x4 x5 x6 I = some res → VW D cA bs p l e rX12_holdsTest s m args below meth c 10 [(0, va_rf (some o)), (1, .int x1), (2, .int x2), (3, .int x3), (4, .int x4), (5, .int x5), (6, .int x6)] K n I J R 0 0 (MQ below (QX D cA bs (some (.int res.1)) K n res.2 J R) args s 0 0 (fun q => bs ≤ q)) 11 []) (x1 : Int32) (x2 : Int32) (x3 : Int32) (x4 : Int32) (x5 : Int32) (x6 : Int32) (s0 : Option Nat) (s1 : Int32) (s2 : Int32) (I : Im) (E : f_X12_holdsTest_260 K R o r11 x1 x2 x3 x4 x5 x6 s0 s1 s2 I = some res) : VW D cA bs p l e rX12_holdsTest s m args below meth c 10 [(0, va_rf (some o)), (1, .int x1), (2, .int x2), (3, .int x3), (4, .int x4), (5, .int x5), (6, .int x6)] K n I J R 0 0 (MQ below (QX D cA bs (some (.int res.1)) K n res.2 J R) args s 0 0 (fun q => bs ≤ q)) 260 [.int s2, .int s1, va_rf s0] := by
  unfold f_X12_holdsTest_260 at E
  refine v_zast (r := s0) C E dX12_holdsTest_260 (fun I2 _ E => ?_)
  refine v_iinc (v := x5 + 1) C 5 [(5, .int (x5 + 1)), (0, va_rf (some o)), (1, .int x1), (2, .int x2), (3, .int x3), (4, .int x4), (6, .int x6)] dX12_holdsTest_261 rfl (k_inc_1 _) (Nat.le_of_ble_eq_true rfl) rfl ?_
  refine v_iinc (v := x6 + 1) C 6 [(6, .int (x6 + 1)), (5, .int (x5 + 1)), (0, va_rf (some o)), (1, .int x1), (2, .int x2), (3, .int x3), (4, .int x4)] dX12_holdsTest_264 rfl (k_inc_1 _) (Nat.le_of_ble_eq_true rfl) rfl ?_
  refine v_goto C 11 dX12_holdsTest_267 rfl ?_
  exact v_sub [2, 3, 4, 5, 6, 1, 0] [(0, va_rf (some o)), (1, .int x1), (2, .int x2), (3, .int x3), (4, .int x4), (5, .int (x5 + 1)), (6, .int (x6 + 1))] rfl (hr11 _ _ _ _ _ _ _ E)
set_option maxHeartbeats 4000000 in
theorem w_X12_holdsTest_180 (C : Cx D cA bs Z p s m args meth c cX12_holdsTest RX12 10 (some .boolean)) {o : Nat} {K : Sh} {n : Nat} {J : Jm} {R : Rf} (ho : (K o).1 = 13) (res : Int32 × Im) (r11 : Int32 → Int32 → Int32 → Int32 → Int32 → Int32 → Im → Option (Int32 × Im)) (hr11 : ∀ (x1 : Int32) (x2 : Int32) (x3 : Int32) (x4 : Int32) (x5 : Int32) (x6 : Int32) (I : Im), r11 x1 x2 x3 x4 x5 x6 I = some res → VW D cA bs p l e rX12_holdsTest s m args below meth c 10 [(0, va_rf (some o)), (1, .int x1), (2, .int x2), (3, .int x3), (4, .int x4), (5, .int x5), (6, .int x6)] K n I J R 0 0 (MQ below (QX D cA bs (some (.int res.1)) K n res.2 J R) args s 0 0 (fun q => bs ≤ q)) 11 []) (x1 : Int32) (x2 : Int32) (x3 : Int32) (x4 : Int32) (x5 : Int32) (x6 : Int32) (x7 : Int32) (s0 : Int32) (I : Im) (E : f_X12_holdsTest_180 K R o r11 x1 x2 x3 x4 x5 x6 x7 s0 I = some res) : VW D cA bs p l e rX12_holdsTest s m args below meth c 10 [(0, va_rf (some o)), (1, .int x1), (2, .int x2), (3, .int x3), (4, .int x4), (5, .int x5), (6, .int x6), (7, .int x7)] K n I J R 0 0 (MQ below (QX D cA bs (some (.int res.1)) K n res.2 J R) args s 0 0 (fun q => bs ≤ q)) 180 [.int s0] := by
  unfold f_X12_holdsTest_180 at E
  refine v_istore C [(8, .int s0), (0, va_rf (some o)), (1, .int x1), (2, .int x2), (3, .int x3), (4, .int x4), (5, .int x5), (6, .int x6), (7, .int x7)] dX12_holdsTest_180 (Nat.le_of_ble_eq_true rfl) rfl ?_
  refine v_iload C 8 dX12_holdsTest_182 rfl ?_
  refine v_bipush C dX12_holdsTest_184 k_bipush_100 ?_
  refine v_idiv C dX12_holdsTest_186 k_nz_100 ?_
  refine v_bipush C dX12_holdsTest_187 k_bipush_10 ?_
  refine v_irem C dX12_holdsTest_189 k_nz_10 ?_
  refine v_istore C [(9, .int (irem (x7 / 100) 10)), (8, .int s0), (0, va_rf (some o)), (1, .int x1), (2, .int x2), (3, .int x3), (4, .int x4), (5, .int x5), (6, .int x6), (7, .int x7)] dX12_holdsTest_190 (Nat.le_of_ble_eq_true rfl) rfl ?_
  refine v_aload_n (r := (some o)) C 2 dX12_holdsTest_192 rfl ?_
  refine v_getR (r := (some o)) C fa_X12_62 rfl rfl ho dX12_holdsTest_193 ?_
  refine v_iload C 7 dX12_holdsTest_196 rfl ?_
  refine v_iload C 0 dX12_holdsTest_198 rfl ?_
  refine v_if_ne C 221 E dX12_holdsTest_200 rfl (fun c7 E => ?_) (fun c7 E => ?_)
  · refine v_iload C 1 dX12_holdsTest_203 rfl ?_
    refine v_iload C 9 dX12_holdsTest_205 rfl ?_
    refine v_bipush C dX12_holdsTest_207 k_bipush_100 ?_
    refine v_irem C dX12_holdsTest_209 k_nz_100 ?_
    refine v_icmp_ge C 217 E dX12_holdsTest_210 rfl (fun c6 E => ?_) (fun c6 E => ?_)
    · refine v_iconst C dX12_holdsTest_217 k_iconst_0 ?_
      refine v_goto C 260 dX12_holdsTest_218 rfl ?_
      exact v_sub [2, 3, 4, 5, 6, 7, 8] [(0, va_rf (some o)), (1, .int x1), (2, .int x2), (3, .int x3), (4, .int x4), (5, .int x5), (6, .int x6)] rfl (w_X12_holdsTest_260 C ho res _ hr11 _ _ _ _ _ _ _ _ _ _ E)
    · refine v_iconst C dX12_holdsTest_213 k_iconst_1 ?_
      refine v_goto C 260 dX12_holdsTest_214 rfl ?_
      exact v_sub [2, 3, 4, 5, 6, 7, 8] [(0, va_rf (some o)), (1, .int x1), (2, .int x2), (3, .int x3), (4, .int x4), (5, .int x5), (6, .int x6)] rfl (w_X12_holdsTest_260 C ho res _ hr11 _ _ _ _ _ _ _ _ _ _ E)
  · refine v_iload C 0 dX12_holdsTest_221 rfl ?_
    refine v_iconst C dX12_holdsTest_223 k_iconst_1 ?_
    refine v_icmp_ne C 245 E dX12_holdsTest_224 rfl (fun c5 E => ?_) (fun c5 E => ?_)
    · refine v_iload C 1 dX12_holdsTest_227 rfl ?_
      refine v_iload C 9 dX12_holdsTest_229 rfl ?_
      refine v_bipush C dX12_holdsTest_231 k_bipush_100 ?_
      refine v_irem C dX12_holdsTest_233 k_nz_100 ?_
      refine v_icmp_ne C 241 E dX12_holdsTest_234 rfl (fun c4 E => ?_) (fun c4 E => ?_)
      · refine v_iconst C dX12_holdsTest_237 k_iconst_1 ?_
        refine v_goto C 260 dX12_holdsTest_238 rfl ?_
        exact v_sub [2, 3, 4, 5, 6, 7, 8] [(0, va_rf (some o)), (1, .int x1), (2, .int x2), (3, .int x3), (4, .int x4), (5, .int x5), (6, .int x6)] rfl (w_X12_holdsTest_260 C ho res _ hr11 _ _ _ _ _ _ _ _ _ _ E)
      · refine v_iconst C dX12_holdsTest_241 k_iconst_0 ?_
        refine v_goto C 260 dX12_holdsTest_242 rfl ?_
        exact v_sub [2, 3, 4, 5, 6, 7, 8] [(0, va_rf (some o)), (1, .int x1), (2, .int x2), (3, .int x3), (4, .int x4), (5, .int x5), (6, .int x6)] rfl (w_X12_holdsTest_260 C ho res _ hr11 _ _ _ _ _ _ _ _ _ _ E)
    · refine v_iload C 1 dX12_holdsTest_245 rfl ?_
      refine v_iload C 9 dX12_holdsTest_247 rfl ?_
      refine v_bipush C dX12_holdsTest_249 k_bipush_100 ?_
      refine v_irem C dX12_holdsTest_251 k_nz_100 ?_
      refine v_icmp_le C 259 E dX12_holdsTest_252 rfl (fun c3 E => ?_) (fun c3 E => ?_)
      · refine v_iconst C dX12_holdsTest_259 k_iconst_0 ?_
        exact v_sub [2, 3, 4, 5, 6, 7, 8] [(0, va_rf (some o)), (1, .int x1), (2, .int x2), (3, .int x3), (4, .int x4), (5, .int x5), (6, .int x6)] rfl (w_X12_holdsTest_260 C ho res _ hr11 _ _ _ _ _ _ _ _ _ _ E)
      · refine v_iconst C dX12_holdsTest_255 k_iconst_1 ?_
        refine v_goto C 260 dX12_holdsTest_256 rfl ?_
        exact v_sub [2, 3, 4, 5, 6, 7, 8] [(0, va_rf (some o)), (1, .int x1), (2, .int x2), (3, .int x3), (4, .int x4), (5, .int x5), (6, .int x6)] rfl (w_X12_holdsTest_260 C ho res _ hr11 _ _ _ _ _ _ _ _ _ _ E)
set_option maxHeartbeats 4000000 in
theorem w_X12_holdsTest_63 (C : Cx D cA bs Z p s m args meth c cX12_holdsTest RX12 10 (some .boolean)) {o : Nat} {K : Sh} {n : Nat} {J : Jm} {R : Rf} (ho : (K o).1 = 13) (res : Int32 × Im) (r11 : Int32 → Int32 → Int32 → Int32 → Int32 → Int32 → Im → Option (Int32 × Im)) (hr11 : ∀ (x1 : Int32) (x2 : Int32) (x3 : Int32) (x4 : Int32) (x5 : Int32) (x6 : Int32) (I : Im), r11 x1 x2 x3 x4 x5 x6 I = some res → VW D cA bs p l e rX12_holdsTest s m args below meth c 10 [(0, va_rf (some o)), (1, .int x1), (2, .int x2), (3, .int x3), (4, .int x4), (5, .int x5), (6, .int x6)] K n I J R 0 0 (MQ below (QX D cA bs (some (.int res.1)) K n res.2 J R) args s 0 0 (fun q => bs ≤ q)) 11 []) (x1 : Int32) (x2 : Int32) (x3 : Int32) (x4 : Int32) (x5 : Int32) (x6 : Int32) (s0 : Option Nat) (s1 : Int32) (s2 : Int32) (I : Im) (E : f_X12_holdsTest_63 K R o r11 x1 x2 x3 x4 x5 x6 s0 s1 s2 I = some res) : VW D cA bs p l e rX12_holdsTest s m args below meth c 10 [(0, va_rf (some o)), (1, .int x1), (2, .int x2), (3, .int x3), (4, .int x4), (5, .int x5), (6, .int x6)] K n I J R 0 0 (MQ below (QX D cA bs (some (.int res.1)) K n res.2 J R) args s 0 0 (fun q => bs ≤ q)) 63 [.int s2, .int s1, va_rf s0] := by
  unfold f_X12_holdsTest_63 at E
  refine v_zast (r := s0) C E dX12_holdsTest_63 (fun I8 _ E => ?_)
  refine v_goto C 264 dX12_holdsTest_64 rfl ?_
  refine v_iinc (v := x6 + 1) C 6 [(6, .int (x6 + 1)), (0, va_rf (some o)), (1, .int x1), (2, .int x2), (3, .int x3), (4, .int x4), (5, .int x5)] dX12_holdsTest_264 rfl (k_inc_1 _) (Nat.le_of_ble_eq_true rfl) rfl ?_
  refine v_goto C 11 dX12_holdsTest_267 rfl ?_
  exact v_sub [1, 2, 3, 4, 5, 6, 0] [(0, va_rf (some o)), (1, .int x1), (2, .int x2), (3, .int x3), (4, .int x4), (5, .int x5), (6, .int (x6 + 1))] rfl (hr11 _ _ _ _ _ _ _ E)
set_option maxHeartbeats 4000000 in
theorem w_X12_holdsTest_11 (C : Cx D cA bs Z p s m args meth c cX12_holdsTest RX12 10 (some .boolean)) {o : Nat} {K : Sh} {n : Nat} {J : Jm} {R : Rf} (ho : (K o).1 = 13) (res : Int32 × Im)  : ∀ (k : Nat), ∀ (x1 : Int32) (x2 : Int32) (x3 : Int32) (x4 : Int32) (x5 : Int32) (x6 : Int32) (I : Im), f_X12_holdsTest_11 K R o k x1 x2 x3 x4 x5 x6 I = some res → VW D cA bs p l e rX12_holdsTest s m args below meth c 10 [(0, va_rf (some o)), (1, .int x1), (2, .int x2), (3, .int x3), (4, .int x4), (5, .int x5), (6, .int x6)] K n I J R 0 0 (MQ below (QX D cA bs (some (.int res.1)) K n res.2 J R) args s 0 0 (fun q => bs ≤ q)) 11 [] := by
  intro k
  induction k with
  | zero =>
    intro x1 x2 x3 x4 x5 x6 I E
    have E : (none : Option (Int32 × Im)) = some res := E
    cases E
  | succ k ih =>
    intro x1 x2 x3 x4 x5 x6 I E
    unfold f_X12_holdsTest_11 at E
    refine v_iload C 6 dX12_holdsTest_11 rfl ?_
    refine v_aload_n (r := (some o)) C 0 dX12_holdsTest_13 rfl ?_
    refine v_getR (r := (some o)) C fa_X12_44 rfl rfl ho dX12_holdsTest_14 ?_
    refine v_iload_n C 1 dX12_holdsTest_17 rfl ?_
    refine v_iald (r := (R o 11)) C E dX12_holdsTest_18 (fun v9 _ E => ?_)
    refine v_icmp_ge C 270 E dX12_holdsTest_19 rfl (fun c29 E => ?_) (fun c29 E => ?_)
    · refine v_aload_n (r := (some o)) C 0 dX12_holdsTest_270 rfl ?_
      refine v_getR (r := (some o)) C fa_X12_62 rfl rfl ho dX12_holdsTest_271 ?_
      refine v_iconst C dX12_holdsTest_274 k_iconst_0 ?_
      refine v_zald (r := (R o 17)) C E dX12_holdsTest_275 (fun v10 _ E => ?_)
      obtain ⟨v11, h12, E⟩ := bnd E
      obtain ⟨h12a, h12b⟩ := gd h12
      subst h12b
      obtain rfl := Option.some.inj E
      exact v_zret C rfl (by simp [narrow, h12a]) dX12_holdsTest_276
    · refine v_aload_n (r := (some o)) C 0 dX12_holdsTest_22 rfl ?_
      refine v_getR (r := (some o)) C fa_X12_47 rfl rfl ho dX12_holdsTest_23 ?_
      refine v_iload C 6 dX12_holdsTest_26 rfl ?_
      refine v_iald (r := (R o 12)) C E dX12_holdsTest_28 (fun v13 _ E => ?_)
      refine v_istore C [(7, .int v13), (0, va_rf (some o)), (1, .int x1), (2, .int x2), (3, .int x3), (4, .int x4), (5, .int x5), (6, .int x6)] dX12_holdsTest_29 (Nat.le_of_ble_eq_true rfl) rfl ?_
      refine v_iload C 0 dX12_holdsTest_31 rfl ?_
      refine v_bipush C dX12_holdsTest_33 k_bipush_m33 ?_
      refine v_icmp_ne C 67 E dX12_holdsTest_35 rfl (fun c28 E => ?_) (fun c28 E => ?_)
      · refine v_aload_n (r := (some o)) C 1 dX12_holdsTest_38 rfl ?_
        refine v_getR (r := (some o)) C fa_X12_62 rfl rfl ho dX12_holdsTest_39 ?_
        refine v_iload C 6 dX12_holdsTest_42 rfl ?_
        refine v_iconst C dX12_holdsTest_44 k_iconst_1 ?_
        refine v_isub C dX12_holdsTest_45 ?_
        refine v_aload_n (r := (some o)) C 1 dX12_holdsTest_46 rfl ?_
        refine v_getR (r := (some o)) C fa_X12_62 rfl rfl ho dX12_holdsTest_47 ?_
        refine v_iload C 6 dX12_holdsTest_50 rfl ?_
        refine v_iconst C dX12_holdsTest_52 k_iconst_1 ?_
        refine v_isub C dX12_holdsTest_53 ?_
        refine v_zald (r := (R o 17)) C E dX12_holdsTest_54 (fun v26 _ E => ?_)
        refine v_if_ne C 62 E dX12_holdsTest_55 rfl (fun c27 E => ?_) (fun c27 E => ?_)
        · refine v_iconst C dX12_holdsTest_58 k_iconst_1 ?_
          refine v_goto C 63 dX12_holdsTest_59 rfl ?_
          exact v_sub [1, 2, 3, 4, 5, 6, 7] [(0, va_rf (some o)), (1, .int x1), (2, .int x2), (3, .int x3), (4, .int x4), (5, .int x5), (6, .int x6)] rfl (w_X12_holdsTest_63 C ho res _ ih _ _ _ _ _ _ _ _ _ _ E)
        · refine v_iconst C dX12_holdsTest_62 k_iconst_0 ?_
          exact v_sub [1, 2, 3, 4, 5, 6, 7] [(0, va_rf (some o)), (1, .int x1), (2, .int x2), (3, .int x3), (4, .int x4), (5, .int x5), (6, .int x6)] rfl (w_X12_holdsTest_63 C ho res _ ih _ _ _ _ _ _ _ _ _ _ E)
      · refine v_iload C 0 dX12_holdsTest_67 rfl ?_
        refine v_if_ge C 151 E dX12_holdsTest_69 rfl (fun c25 E => ?_) (fun c25 E => ?_)
        · refine v_iload C 0 dX12_holdsTest_151 rfl ?_
          refine v_sipush C dX12_holdsTest_153 k_sipush_1000 ?_
          refine v_icmp_ge C 166 E dX12_holdsTest_156 rfl (fun c15 E => ?_) (fun c15 E => ?_)
          · refine v_iload C 0 dX12_holdsTest_166 rfl ?_
            refine v_sipush C dX12_holdsTest_168 k_sipush_2000 ?_
            refine v_icmp_ge C 178 E dX12_holdsTest_171 rfl (fun c14 E => ?_) (fun c14 E => ?_)
            · refine v_iload C 5 dX12_holdsTest_178 rfl ?_
              exact v_sub [1, 2, 3, 4, 5, 6, 7, 0] [(0, va_rf (some o)), (1, .int x1), (2, .int x2), (3, .int x3), (4, .int x4), (5, .int x5), (6, .int x6), (7, .int v13)] rfl (w_X12_holdsTest_180 C ho res _ ih _ _ _ _ _ _ _ _ _ E)
            · refine v_iload_n C 4 dX12_holdsTest_174 rfl ?_
              refine v_goto C 180 dX12_holdsTest_175 rfl ?_
              exact v_sub [1, 2, 3, 4, 5, 6, 7, 0] [(0, va_rf (some o)), (1, .int x1), (2, .int x2), (3, .int x3), (4, .int x4), (5, .int x5), (6, .int x6), (7, .int v13)] rfl (w_X12_holdsTest_180 C ho res _ ih _ _ _ _ _ _ _ _ _ E)
          · refine v_iload_n C 3 dX12_holdsTest_159 rfl ?_
            refine v_bipush C dX12_holdsTest_160 k_bipush_24 ?_
            refine v_irem C dX12_holdsTest_162 k_nz_24 ?_
            refine v_goto C 180 dX12_holdsTest_163 rfl ?_
            exact v_sub [1, 2, 3, 4, 5, 6, 7, 0] [(0, va_rf (some o)), (1, .int x1), (2, .int x2), (3, .int x3), (4, .int x4), (5, .int x5), (6, .int x6), (7, .int v13)] rfl (w_X12_holdsTest_180 C ho res _ ih _ _ _ _ _ _ _ _ _ E)
        · refine v_iinc (v := x5 - 1) C 6 [(5, .int (x5 - 1)), (7, .int v13), (0, va_rf (some o)), (1, .int x1), (2, .int x2), (3, .int x3), (4, .int x4), (6, .int x6)] dX12_holdsTest_72 rfl (k_inc_m1 _) (Nat.le_of_ble_eq_true rfl) rfl ?_
          refine v_aload_n (r := (some o)) C 2 dX12_holdsTest_75 rfl ?_
          refine v_getR (r := (some o)) C fa_X12_62 rfl rfl ho dX12_holdsTest_76 ?_
          refine v_iload C 0 dX12_holdsTest_79 rfl ?_
          refine v_iconst C dX12_holdsTest_81 k_iconst_1 ?_
          refine v_isub C dX12_holdsTest_82 ?_
          refine v_iload C 1 dX12_holdsTest_83 rfl ?_
          refine v_bipush C dX12_holdsTest_85 k_bipush_m38 ?_
          refine v_icmp_ne C 120 E dX12_holdsTest_87 rfl (fun c24 E => ?_) (fun c24 E => ?_)
          · refine v_aload_n (r := (some o)) C 2 dX12_holdsTest_90 rfl ?_
            refine v_getR (r := (some o)) C fa_X12_62 rfl rfl ho dX12_holdsTest_91 ?_
            refine v_iload C 0 dX12_holdsTest_94 rfl ?_
            refine v_iconst C dX12_holdsTest_96 k_iconst_1 ?_
            refine v_isub C dX12_holdsTest_97 ?_
            refine v_zald (r := (R o 17)) C E dX12_holdsTest_98 (fun v20 _ E => ?_)
            refine v_if_eq C 116 E dX12_holdsTest_99 rfl (fun c23 E => ?_) (fun c23 E => ?_)
            · exact v_sub [2, 3, 4, 5, 6, 0, 7] [(0, va_rf (some o)), (1, .int x1), (2, .int x2), (3, .int x3), (4, .int x4), (5, .int (x5 - 1)), (6, .int x6)] rfl (w_X12_holdsTest_116 C ho res _ ih _ _ _ _ _ _ _ _ _ E)
            · refine v_aload_n (r := (some o)) C 2 dX12_holdsTest_102 rfl ?_
              refine v_getR (r := (some o)) C fa_X12_62 rfl rfl ho dX12_holdsTest_103 ?_
              refine v_iload C 0 dX12_holdsTest_106 rfl ?_
              refine v_zald (r := (R o 17)) C E dX12_holdsTest_108 (fun v21 _ E => ?_)
              refine v_if_eq C 116 E dX12_holdsTest_109 rfl (fun c22 E => ?_) (fun c22 E => ?_)
              · exact v_sub [2, 3, 4, 5, 6, 0, 7] [(0, va_rf (some o)), (1, .int x1), (2, .int x2), (3, .int x3), (4, .int x4), (5, .int (x5 - 1)), (6, .int x6)] rfl (w_X12_holdsTest_116 C ho res _ ih _ _ _ _ _ _ _ _ _ E)
              · refine v_iconst C dX12_holdsTest_112 k_iconst_1 ?_
                refine v_goto C 147 dX12_holdsTest_113 rfl ?_
                exact v_sub [2, 3, 4, 5, 6, 0, 7] [(0, va_rf (some o)), (1, .int x1), (2, .int x2), (3, .int x3), (4, .int x4), (5, .int (x5 - 1)), (6, .int x6)] rfl (w_X12_holdsTest_147 C ho res _ ih _ _ _ _ _ _ _ _ _ _ E)
          · refine v_aload_n (r := (some o)) C 2 dX12_holdsTest_120 rfl ?_
            refine v_getR (r := (some o)) C fa_X12_62 rfl rfl ho dX12_holdsTest_121 ?_
            refine v_iload C 0 dX12_holdsTest_124 rfl ?_
            refine v_iconst C dX12_holdsTest_126 k_iconst_1 ?_
            refine v_isub C dX12_holdsTest_127 ?_
            refine v_zald (r := (R o 17)) C E dX12_holdsTest_128 (fun v16 _ E => ?_)
            refine v_if_ne C 142 E dX12_holdsTest_129 rfl (fun c19 E => ?_) (fun c19 E => ?_)
            · refine v_aload_n (r := (some o)) C 2 dX12_holdsTest_132 rfl ?_
              refine v_getR (r := (some o)) C fa_X12_62 rfl rfl ho dX12_holdsTest_133 ?_
              refine v_iload C 0 dX12_holdsTest_136 rfl ?_
              refine v_zald (r := (R o 17)) C E dX12_holdsTest_138 (fun v17 _ E => ?_)
              refine v_if_eq C 146 E dX12_holdsTest_139 rfl (fun c18 E => ?_) (fun c18 E => ?_)
              · refine v_iconst C dX12_holdsTest_146 k_iconst_0 ?_
                exact v_sub [2, 3, 4, 5, 6, 0, 7] [(0, va_rf (some o)), (1, .int x1), (2, .int x2), (3, .int x3), (4, .int x4), (5, .int (x5 - 1)), (6, .int x6)] rfl (w_X12_holdsTest_147 C ho res _ ih _ _ _ _ _ _ _ _ _ _ E)
              · exact v_sub [2, 3, 4, 5, 6, 0, 7] [(0, va_rf (some o)), (1, .int x1), (2, .int x2), (3, .int x3), (4, .int x4), (5, .int (x5 - 1)), (6, .int x6)] rfl (w_X12_holdsTest_142 C ho res _ ih _ _ _ _ _ _ _ _ _ E)
            · exact v_sub [2, 3, 4, 5, 6, 0, 7] [(0, va_rf (some o)), (1, .int x1), (2, .int x2), (3, .int x3), (4, .int x4), (5, .int (x5 - 1)), (6, .int x6)] rfl (w_X12_holdsTest_142 C ho res _ ih _ _ _ _ _ _ _ _ _ E)
set_option maxHeartbeats 4000000 in
theorem w_X12_holdsTest_0 (C : Cx D cA bs Z p s m args meth c cX12_holdsTest RX12 10 (some .boolean)) {o : Nat} {K : Sh} {n : Nat} {J : Jm} {R : Rf} (ho : (K o).1 = 13) (res : Int32 × Im) (x1 : Int32) (x2 : Int32) (x3 : Int32) (x4 : Int32) (I : Im) (E : f_X12_holdsTest K R o x1 x2 x3 x4 I = some res) : VW D cA bs p l e rX12_holdsTest s m args below meth c 10 [(0, va_rf (some o)), (1, .int x1), (2, .int x2), (3, .int x3), (4, .int x4)] K n I J R 0 0 (MQ below (QX D cA bs (some (.int res.1)) K n res.2 J R) args s 0 0 (fun q => bs ≤ q)) 0 [] := by
  unfold f_X12_holdsTest at E
  refine v_iconst C dX12_holdsTest_0 k_iconst_0 ?_
  refine v_istore C [(5, .int 0), (0, va_rf (some o)), (1, .int x1), (2, .int x2), (3, .int x3), (4, .int x4)] dX12_holdsTest_1 (Nat.le_of_ble_eq_true rfl) rfl ?_
  refine v_aload_n (r := (some o)) C 1 dX12_holdsTest_3 rfl ?_
  refine v_getR (r := (some o)) C fa_X12_41 rfl rfl ho dX12_holdsTest_4 ?_
  refine v_iload_n C 2 dX12_holdsTest_7 rfl ?_
  refine v_iald (r := (R o 10)) C E dX12_holdsTest_8 (fun v30 _ E => ?_)
  refine v_istore C [(6, .int v30), (5, .int 0), (0, va_rf (some o)), (1, .int x1), (2, .int x2), (3, .int x3), (4, .int x4)] dX12_holdsTest_9 (Nat.le_of_ble_eq_true rfl) rfl ?_
  exact v_sub [2, 3, 4, 5, 6, 1, 0] [(0, va_rf (some o)), (1, .int x1), (2, .int x2), (3, .int x3), (4, .int x4), (5, .int 0), (6, .int v30)] rfl (w_X12_holdsTest_11 C ho res  _ _ _ _ _ _ _ _ E)
set_option maxHeartbeats 4000000 in
theorem c_X12_holdsTest {n : Nat} {K : Sh} {I : Im} {J : Jm} {R : Rf} {o : Nat} {x1 : Int32} {x2 : Int32} {x3 : Int32} {x4 : Int32} (ho : (K o).1 = 13) {res : Int32 × Im} (E : f_X12_holdsTest K R o x1 x2 x3 x4 I = some res) : Met l yX12_holdsTest (Cond.code yX12_holdsTest cX12_holdsTest 10 (some .boolean) :: tb) rX12_holdsTest (PX D cA bs Z [.ref o, .int x1, .int x2, .int x3, .int x4] K n I J R) (QX D cA bs (some (.int res.1)) K n res.2 J R) 0 0 (fun q => bs ≤ q) := by
  refine met_of (lv1 := [(0, va_rf (some o)), (1, .int x1), (2, .int x2), (3, .int x3), (4, .int x4)]) pn_X12 (by exact Nat.le_of_ble_eq_true rfl) (by rfl) ?_
  intro p e s m args below meth c C hn
  exact v_sub [0, 1, 2, 3, 4] [(0, va_rf (some o)), (1, .int x1), (2, .int x2), (3, .int x3), (4, .int x4)] rfl (w_X12_holdsTest_0 C ho _ _ _ _ _ _ E)
set_option maxHeartbeats 4000000 in
theorem w_X12_drinksOf_54 (C : Cx D cA bs Z p s m args meth c cX12_drinksOf RX12 6 (some .int)) {o : Nat} {K : Sh} {n : Nat} {J : Jm} {R : Rf} (ho : (K o).1 = 13) (res : Int32 × Im) (r9 : Int32 → Int32 → Int32 → Int32 → Int32 → Im → Option (Int32 × Im)) (hr9 : ∀ (x1 : Int32) (x2 : Int32) (x3 : Int32) (x4 : Int32) (x5 : Int32) (I : Im), r9 x1 x2 x3 x4 x5 I = some res → VW D cA bs p l e rX12_drinksOf s m args below meth c 6 [(0, va_rf (some o)), (1, .int x1), (2, .int x2), (3, .int x3), (4, .int x4), (5, .int x5)] K n I J R 0 0 (MQ below (QX D cA bs (some (.int res.1)) K n res.2 J R) args s 0 0 (fun q => bs ≤ q)) 9 []) (x1 : Int32) (x2 : Int32) (x3 : Int32) (x5 : Int32) (s0 : Int32) (s1 : Int32) (I : Im) (E : f_X12_drinksOf_54 K R o r9 x1 x2 x3 x5 s0 s1 I = some res) : VW D cA bs p l e rX12_drinksOf s m args below meth c 6 [(0, va_rf (some o)), (1, .int x1), (2, .int x2), (3, .int x3), (5, .int x5)] K n I J R 0 0 (MQ below (QX D cA bs (some (.int res.1)) K n res.2 J R) args s 0 0 (fun q => bs ≤ q)) 54 [.int s1, .int s0] := by
  unfold f_X12_drinksOf_54 at E
  refine v_iadd C dX12_drinksOf_54 ?_
  refine v_istore C [(4, .int (s0 + s1)), (0, va_rf (some o)), (1, .int x1), (2, .int x2), (3, .int x3), (5, .int x5)] dX12_drinksOf_55 (Nat.le_of_ble_eq_true rfl) rfl ?_
  refine v_iinc (v := x5 + 1) C 5 [(5, .int (x5 + 1)), (4, .int (s0 + s1)), (0, va_rf (some o)), (1, .int x1), (2, .int x2), (3, .int x3)] dX12_drinksOf_57 rfl (k_inc_1 _) (Nat.le_of_ble_eq_true rfl) rfl ?_
  refine v_goto C 9 dX12_drinksOf_60 rfl ?_
  exact v_sub [2, 3, 4, 5, 1, 0] [(0, va_rf (some o)), (1, .int x1), (2, .int x2), (3, .int x3), (4, .int (s0 + s1)), (5, .int (x5 + 1))] rfl (hr9 _ _ _ _ _ _ E)
set_option maxHeartbeats 4000000 in
theorem w_X12_drinksOf_53 (C : Cx D cA bs Z p s m args meth c cX12_drinksOf RX12 6 (some .int)) {o : Nat} {K : Sh} {n : Nat} {J : Jm} {R : Rf} (ho : (K o).1 = 13) (res : Int32 × Im) (r9 : Int32 → Int32 → Int32 → Int32 → Int32 → Im → Option (Int32 × Im)) (hr9 : ∀ (x1 : Int32) (x2 : Int32) (x3 : Int32) (x4 : Int32) (x5 : Int32) (I : Im), r9 x1 x2 x3 x4 x5 I = some res → VW D cA bs p l e rX12_drinksOf s m args below meth c 6 [(0, va_rf (some o)), (1, .int x1), (2, .int x2), (3, .int x3), (4, .int x4), (5, .int x5)] K n I J R 0 0 (MQ below (QX D cA bs (some (.int res.1)) K n res.2 J R) args s 0 0 (fun q => bs ≤ q)) 9 []) (x1 : Int32) (x2 : Int32) (x3 : Int32) (x5 : Int32) (s0 : Int32) (I : Im) (E : f_X12_drinksOf_53 K R o r9 x1 x2 x3 x5 s0 I = some res) : VW D cA bs p l e rX12_drinksOf s m args below meth c 6 [(0, va_rf (some o)), (1, .int x1), (2, .int x2), (3, .int x3), (5, .int x5)] K n I J R 0 0 (MQ below (QX D cA bs (some (.int res.1)) K n res.2 J R) args s 0 0 (fun q => bs ≤ q)) 53 [.int s0] := by
  unfold f_X12_drinksOf_53 at E
  refine v_iconst C dX12_drinksOf_53 k_iconst_0 ?_
  exact v_sub [0, 1, 2, 3, 4] [(0, va_rf (some o)), (1, .int x1), (2, .int x2), (3, .int x3), (5, .int x5)] rfl (w_X12_drinksOf_54 C ho res _ hr9 _ _ _ _ _ _ _ E)
set_option maxHeartbeats 4000000 in
theorem w_X12_drinksOf_9 (C : Cx D cA bs Z p s m args meth c cX12_drinksOf RX12 6 (some .int)) {o : Nat} {K : Sh} {n : Nat} {J : Jm} {R : Rf} (ho : (K o).1 = 13) (res : Int32 × Im)  : ∀ (k : Nat), ∀ (x1 : Int32) (x2 : Int32) (x3 : Int32) (x4 : Int32) (x5 : Int32) (I : Im), f_X12_drinksOf_9 K R o k x1 x2 x3 x4 x5 I = some res → VW D cA bs p l e rX12_drinksOf s m args below meth c 6 [(0, va_rf (some o)), (1, .int x1), (2, .int x2), (3, .int x3), (4, .int x4), (5, .int x5)] K n I J R 0 0 (MQ below (QX D cA bs (some (.int res.1)) K n res.2 J R) args s 0 0 (fun q => bs ≤ q)) 9 [] := by
  intro k
  induction k with
  | zero =>
    intro x1 x2 x3 x4 x5 I E
    have E : (none : Option (Int32 × Im)) = some res := E
    cases E
  | succ k ih =>
    intro x1 x2 x3 x4 x5 I E
    unfold f_X12_drinksOf_9 at E
    refine v_iload C 5 dX12_drinksOf_9 rfl ?_
    refine v_aload_n (r := (some o)) C 0 dX12_drinksOf_11 rfl ?_
    obtain ⟨q1, h2, E⟩ := bnd E
    refine v_callV (r := (some o)) (As := []) (rv := (some (.int q1))) (st := [.int x5]) (st1 := [.int q1, .int x5]) (ce1 := 0) (sl1 := 0) C cv_X12_299 (c_X12_behind  ho h2) rfl ho rfl rfl ⟨rfl, rfl, Nat.le_of_ble_eq_true rfl, Nat.le_of_ble_eq_true rfl⟩ ⟨Nat.le_of_ble_eq_true rfl, Nat.le_of_ble_eq_true rfl⟩ (Nat.le_of_ble_eq_true rfl) rfl rfl rfl dX12_drinksOf_12 ?_
    refine v_icmp_ge C 63 E dX12_drinksOf_15 rfl (fun c9 E => ?_) (fun c9 E => ?_)
    · refine v_iload C 4 dX12_drinksOf_63 rfl ?_
      obtain rfl := Option.some.inj E
      exact v_iret C rfl dX12_drinksOf_65
    · refine v_iload C 4 dX12_drinksOf_18 rfl ?_
      refine v_aload_n (r := (some o)) C 0 dX12_drinksOf_20 rfl ?_
      refine v_getR (r := (some o)) C fa_X12_32 rfl rfl ho dX12_drinksOf_21 ?_
      refine v_iload C 5 dX12_drinksOf_24 rfl ?_
      refine v_iald (r := (R o 7)) C E dX12_drinksOf_26 (fun v3 _ E => ?_)
      refine v_iconst C dX12_drinksOf_27 k_iconst_2 ?_
      refine v_icmp_ne C 53 E dX12_drinksOf_28 rfl (fun c8 E => ?_) (fun c8 E => ?_)
      · refine v_aload_n (r := (some o)) C 0 dX12_drinksOf_31 rfl ?_
        refine v_iload C 5 dX12_drinksOf_32 rfl ?_
        refine v_iload_n C 2 dX12_drinksOf_34 rfl ?_
        refine v_iload_n C 3 dX12_drinksOf_35 rfl ?_
        refine v_iload_n C 1 dX12_drinksOf_36 rfl ?_
        obtain ⟨q4, h5, E⟩ := bnd E
        refine v_callV (r := (some o)) (As := [.int x5, .int x2, .int x3, .int x1]) (rv := (some (.int q4.1))) (st := [.int x4]) (st1 := [.int q4.1, .int x4]) (ce1 := 0) (sl1 := 0) C cv_X12_302 (c_X12_holdsTest (x1 := x5) (x2 := x2) (x3 := x3) (x4 := x1) ho h5) rfl ho rfl rfl ⟨rfl, rfl, Nat.le_of_ble_eq_true rfl, Nat.le_of_ble_eq_true rfl⟩ ⟨Nat.le_of_ble_eq_true rfl, Nat.le_of_ble_eq_true rfl⟩ (Nat.le_of_ble_eq_true rfl) rfl rfl rfl dX12_drinksOf_37 ?_
        refine v_if_eq C 53 E dX12_drinksOf_40 rfl (fun c7 E => ?_) (fun c7 E => ?_)
        · exact v_sub [0, 1, 2, 3, 5] [(0, va_rf (some o)), (1, .int x1), (2, .int x2), (3, .int x3), (5, .int x5)] rfl (w_X12_drinksOf_53 C ho res _ ih _ _ _ _ _ _ E)
        · refine v_aload_n (r := (some o)) C 0 dX12_drinksOf_43 rfl ?_
          refine v_getR (r := (some o)) C fa_X12_35 rfl rfl ho dX12_drinksOf_44 ?_
          refine v_iload C 5 dX12_drinksOf_47 rfl ?_
          refine v_iald (r := (R o 8)) C E dX12_drinksOf_49 (fun v6 _ E => ?_)
          refine v_goto C 54 dX12_drinksOf_50 rfl ?_
          exact v_sub [0, 1, 2, 3, 5] [(0, va_rf (some o)), (1, .int x1), (2, .int x2), (3, .int x3), (5, .int x5)] rfl (w_X12_drinksOf_54 C ho res _ ih _ _ _ _ _ _ _ E)
      · exact v_sub [0, 1, 2, 3, 5] [(0, va_rf (some o)), (1, .int x1), (2, .int x2), (3, .int x3), (5, .int x5)] rfl (w_X12_drinksOf_53 C ho res _ ih _ _ _ _ _ _ E)
set_option maxHeartbeats 4000000 in
theorem w_X12_drinksOf_0 (C : Cx D cA bs Z p s m args meth c cX12_drinksOf RX12 6 (some .int)) {o : Nat} {K : Sh} {n : Nat} {J : Jm} {R : Rf} (ho : (K o).1 = 13) (res : Int32 × Im) (x1 : Int32) (x2 : Int32) (x3 : Int32) (I : Im) (E : f_X12_drinksOf K R o x1 x2 x3 I = some res) : VW D cA bs p l e rX12_drinksOf s m args below meth c 6 [(0, va_rf (some o)), (1, .int x1), (2, .int x2), (3, .int x3)] K n I J R 0 0 (MQ below (QX D cA bs (some (.int res.1)) K n res.2 J R) args s 0 0 (fun q => bs ≤ q)) 0 [] := by
  unfold f_X12_drinksOf at E
  refine v_iconst C dX12_drinksOf_0 k_iconst_0 ?_
  refine v_istore C [(4, .int 0), (0, va_rf (some o)), (1, .int x1), (2, .int x2), (3, .int x3)] dX12_drinksOf_1 (Nat.le_of_ble_eq_true rfl) rfl ?_
  refine v_aload_n (r := (some o)) C 1 dX12_drinksOf_3 rfl ?_
  obtain ⟨q10, h11, E⟩ := bnd E
  refine v_callV (r := (some o)) (As := []) (rv := (some (.int q10))) (st := []) (st1 := [.int q10]) (ce1 := 0) (sl1 := 0) C cv_X12_296 (c_X12_first  ho h11) rfl ho rfl rfl ⟨rfl, rfl, Nat.le_of_ble_eq_true rfl, Nat.le_of_ble_eq_true rfl⟩ ⟨Nat.le_of_ble_eq_true rfl, Nat.le_of_ble_eq_true rfl⟩ (Nat.le_of_ble_eq_true rfl) rfl rfl rfl dX12_drinksOf_4 ?_
  refine v_istore C [(5, .int q10), (4, .int 0), (0, va_rf (some o)), (1, .int x1), (2, .int x2), (3, .int x3)] dX12_drinksOf_7 (Nat.le_of_ble_eq_true rfl) rfl ?_
  exact v_sub [2, 3, 4, 5, 1, 0] [(0, va_rf (some o)), (1, .int x1), (2, .int x2), (3, .int x3), (4, .int 0), (5, .int q10)] rfl (w_X12_drinksOf_9 C ho res  _ _ _ _ _ _ _ E)
set_option maxHeartbeats 4000000 in
theorem c_X12_drinksOf {n : Nat} {K : Sh} {I : Im} {J : Jm} {R : Rf} {o : Nat} {x1 : Int32} {x2 : Int32} {x3 : Int32} (ho : (K o).1 = 13) {res : Int32 × Im} (E : f_X12_drinksOf K R o x1 x2 x3 I = some res) : Met l yX12_drinksOf (Cond.code yX12_drinksOf cX12_drinksOf 6 (some .int) :: tb) rX12_drinksOf (PX D cA bs Z [.ref o, .int x1, .int x2, .int x3] K n I J R) (QX D cA bs (some (.int res.1)) K n res.2 J R) 0 0 (fun q => bs ≤ q) := by
  refine met_of (lv1 := [(0, va_rf (some o)), (1, .int x1), (2, .int x2), (3, .int x3)]) pn_X12 (by exact Nat.le_of_ble_eq_true rfl) (by rfl) ?_
  intro p e s m args below meth c C hn
  exact v_sub [0, 1, 2, 3] [(0, va_rf (some o)), (1, .int x1), (2, .int x2), (3, .int x3)] rfl (w_X12_drinksOf_0 C ho _ _ _ _ _ E)
set_option maxHeartbeats 4000000 in
theorem w_X12_heldBy_0 (C : Cx D cA bs Z p s m args meth c cX12_heldBy RX12 3 (some .int)) {o : Nat} {K : Sh} {n : Nat} {I : Im} {J : Jm} {R : Rf} (ho : (K o).1 = 13) (res : Int32) (x1 : Int32) (x2 : Int32) (E : f_X12_heldBy K I R o x1 x2 = some res) : VW D cA bs p l e rX12_heldBy s m args below meth c 3 [(0, va_rf (some o)), (1, .int x1), (2, .int x2)] K n I J R 0 0 (MQ below (QX D cA bs (some (.int res)) K n I J R) args s 0 0 (fun q => bs ≤ q)) 0 [] := by
  unfold f_X12_heldBy at E
  refine v_iload_n C 2 dX12_heldBy_0 rfl ?_
  refine v_aload_n (r := (some o)) C 0 dX12_heldBy_1 rfl ?_
  refine v_getR (r := (some o)) C fa_X12_90 rfl rfl ho dX12_heldBy_2 ?_
  refine v_iload_n C 1 dX12_heldBy_5 rfl ?_
  refine v_iald (r := (R o 26)) C E dX12_heldBy_6 (fun v1 _ E => ?_)
  refine v_icmp_gt C 19 E dX12_heldBy_7 rfl (fun c9 E => ?_) (fun c9 E => ?_)
  · refine v_aload_n (r := (some o)) C 0 dX12_heldBy_19 rfl ?_
    refine v_aload_n (r := (some o)) C 0 dX12_heldBy_20 rfl ?_
    refine v_getR (r := (some o)) C fa_X12_78 rfl rfl ho dX12_heldBy_21 ?_
    refine v_iload_n C 1 dX12_heldBy_24 rfl ?_
    refine v_iald (r := (R o 22)) C E dX12_heldBy_25 (fun v2 _ E => ?_)
    refine v_aload_n (r := (some o)) C 0 dX12_heldBy_26 rfl ?_
    refine v_getR (r := (some o)) C fa_X12_87 rfl rfl ho dX12_heldBy_27 ?_
    refine v_iload_n C 1 dX12_heldBy_30 rfl ?_
    refine v_iald (r := (R o 25)) C E dX12_heldBy_31 (fun v3 _ E => ?_)
    refine v_aload_n (r := (some o)) C 0 dX12_heldBy_32 rfl ?_
    refine v_getR (r := (some o)) C fa_X12_81 rfl rfl ho dX12_heldBy_33 ?_
    refine v_iload_n C 1 dX12_heldBy_36 rfl ?_
    refine v_iald (r := (R o 23)) C E dX12_heldBy_37 (fun v4 _ E => ?_)
    refine v_iload_n C 2 dX12_heldBy_38 rfl ?_
    refine v_aload_n (r := (some o)) C 0 dX12_heldBy_39 rfl ?_
    refine v_getR (r := (some o)) C fa_X12_90 rfl rfl ho dX12_heldBy_40 ?_
    refine v_iload_n C 1 dX12_heldBy_43 rfl ?_
    refine v_iald (r := (R o 26)) C E dX12_heldBy_44 (fun v5 _ E => ?_)
    refine v_isub C dX12_heldBy_45 ?_
    refine v_imul C dX12_heldBy_46 ?_
    refine v_iadd C dX12_heldBy_47 ?_
    obtain ⟨q6, h7, E⟩ := bnd E
    refine v_callV (r := (some o)) (As := [.int v2, .int (v3 + (v4 * (x2 - v5)))]) (rv := (some (.int q6))) (st := []) (st1 := [.int q6]) (ce1 := 0) (sl1 := 0) C cv_X12_309 (c_X12_min (x1 := v2) (x2 := (v3 + (v4 * (x2 - v5)))) ho h7) rfl ho rfl rfl ⟨rfl, rfl, Nat.le_of_ble_eq_true rfl, Nat.le_of_ble_eq_true rfl⟩ ⟨Nat.le_of_ble_eq_true rfl, Nat.le_of_ble_eq_true rfl⟩ (Nat.le_of_ble_eq_true rfl) rfl rfl rfl dX12_heldBy_48 ?_
    obtain rfl := Option.some.inj E
    exact v_iret C rfl dX12_heldBy_51
  · refine v_aload_n (r := (some o)) C 0 dX12_heldBy_10 rfl ?_
    refine v_getR (r := (some o)) C fa_X12_87 rfl rfl ho dX12_heldBy_11 ?_
    refine v_iload_n C 1 dX12_heldBy_14 rfl ?_
    refine v_iald (r := (R o 25)) C E dX12_heldBy_15 (fun v8 _ E => ?_)
    refine v_goto C 51 dX12_heldBy_16 rfl ?_
    obtain rfl := Option.some.inj E
    exact v_iret C rfl dX12_heldBy_51
set_option maxHeartbeats 4000000 in
theorem c_X12_heldBy {n : Nat} {K : Sh} {I : Im} {J : Jm} {R : Rf} {o : Nat} {x1 : Int32} {x2 : Int32} (ho : (K o).1 = 13) {res : Int32} (E : f_X12_heldBy K I R o x1 x2 = some res) : Met l yX12_heldBy (Cond.code yX12_heldBy cX12_heldBy 3 (some .int) :: tb) rX12_heldBy (PX D cA bs Z [.ref o, .int x1, .int x2] K n I J R) (QX D cA bs (some (.int res)) K n I J R) 0 0 (fun q => bs ≤ q) := by
  refine met_of (lv1 := [(0, va_rf (some o)), (1, .int x1), (2, .int x2)]) pn_X12 (by exact Nat.le_of_ble_eq_true rfl) (by rfl) ?_
  intro p e s m args below meth c C hn
  exact v_sub [0, 1, 2] [(0, va_rf (some o)), (1, .int x1), (2, .int x2)] rfl (w_X12_heldBy_0 C ho _ _ _ E)
set_option maxHeartbeats 4000000 in
theorem w_X12_isTold_0 (C : Cx D cA bs Z p s m args meth c cX12_isTold RX12 2 (some .boolean)) {o : Nat} {K : Sh} {n : Nat} {I : Im} {J : Jm} {R : Rf} (ho : (K o).1 = 13) (res : Int32) (x1 : Int32) (E : f_X12_isTold K o x1 = some res) : VW D cA bs p l e rX12_isTold s m args below meth c 2 [(0, va_rf (some o)), (1, .int x1)] K n I J R 0 0 (MQ below (QX D cA bs (some (.int res)) K n I J R) args s 0 0 (fun q => bs ≤ q)) 0 [] := by
  unfold f_X12_isTold at E
  refine v_aload_n (r := (some o)) C 0 dX12_isTold_0 rfl ?_
  refine v_iload_n C 1 dX12_isTold_1 rfl ?_
  refine v_iconst C dX12_isTold_2 k_iconst_0 ?_
  refine v_iconst C dX12_isTold_3 k_iconst_3 ?_
  obtain ⟨q1, h2, E⟩ := bnd E
  refine v_callV (r := (some o)) (As := [.int x1, .int 0, .int 3]) (rv := (some (.int q1))) (st := []) (st1 := [.int q1]) (ce1 := 0) (sl1 := 0) C cv_X12_233 (c_X12_in (x1 := x1) (x2 := 0) (x3 := 3) ho h2) rfl ho rfl rfl ⟨rfl, rfl, Nat.le_of_ble_eq_true rfl, Nat.le_of_ble_eq_true rfl⟩ ⟨Nat.le_of_ble_eq_true rfl, Nat.le_of_ble_eq_true rfl⟩ (Nat.le_of_ble_eq_true rfl) rfl rfl rfl dX12_isTold_4 ?_
  refine v_if_ne C 46 E dX12_isTold_7 rfl (fun c12 E => ?_) (fun c12 E => ?_)
  · refine v_aload_n (r := (some o)) C 0 dX12_isTold_10 rfl ?_
    refine v_iload_n C 1 dX12_isTold_11 rfl ?_
    refine v_bipush C dX12_isTold_12 k_bipush_10 ?_
    refine v_bipush C dX12_isTold_14 k_bipush_14 ?_
    obtain ⟨q3, h4, E⟩ := bnd E
    refine v_callV (r := (some o)) (As := [.int x1, .int 10, .int 14]) (rv := (some (.int q3))) (st := []) (st1 := [.int q3]) (ce1 := 0) (sl1 := 0) C cv_X12_233 (c_X12_in (x1 := x1) (x2 := 10) (x3 := 14) ho h4) rfl ho rfl rfl ⟨rfl, rfl, Nat.le_of_ble_eq_true rfl, Nat.le_of_ble_eq_true rfl⟩ ⟨Nat.le_of_ble_eq_true rfl, Nat.le_of_ble_eq_true rfl⟩ (Nat.le_of_ble_eq_true rfl) rfl rfl rfl dX12_isTold_16 ?_
    refine v_if_ne C 46 E dX12_isTold_19 rfl (fun c11 E => ?_) (fun c11 E => ?_)
    · refine v_aload_n (r := (some o)) C 0 dX12_isTold_22 rfl ?_
      refine v_iload_n C 1 dX12_isTold_23 rfl ?_
      refine v_bipush C dX12_isTold_24 k_bipush_20 ?_
      refine v_bipush C dX12_isTold_26 k_bipush_24 ?_
      obtain ⟨q5, h6, E⟩ := bnd E
      refine v_callV (r := (some o)) (As := [.int x1, .int 20, .int 24]) (rv := (some (.int q5))) (st := []) (st1 := [.int q5]) (ce1 := 0) (sl1 := 0) C cv_X12_233 (c_X12_in (x1 := x1) (x2 := 20) (x3 := 24) ho h6) rfl ho rfl rfl ⟨rfl, rfl, Nat.le_of_ble_eq_true rfl, Nat.le_of_ble_eq_true rfl⟩ ⟨Nat.le_of_ble_eq_true rfl, Nat.le_of_ble_eq_true rfl⟩ (Nat.le_of_ble_eq_true rfl) rfl rfl rfl dX12_isTold_28 ?_
      refine v_if_ne C 46 E dX12_isTold_31 rfl (fun c10 E => ?_) (fun c10 E => ?_)
      · refine v_aload_n (r := (some o)) C 0 dX12_isTold_34 rfl ?_
        refine v_iload_n C 1 dX12_isTold_35 rfl ?_
        refine v_bipush C dX12_isTold_36 k_bipush_30 ?_
        refine v_bipush C dX12_isTold_38 k_bipush_35 ?_
        obtain ⟨q7, h8, E⟩ := bnd E
        refine v_callV (r := (some o)) (As := [.int x1, .int 30, .int 35]) (rv := (some (.int q7))) (st := []) (st1 := [.int q7]) (ce1 := 0) (sl1 := 0) C cv_X12_233 (c_X12_in (x1 := x1) (x2 := 30) (x3 := 35) ho h8) rfl ho rfl rfl ⟨rfl, rfl, Nat.le_of_ble_eq_true rfl, Nat.le_of_ble_eq_true rfl⟩ ⟨Nat.le_of_ble_eq_true rfl, Nat.le_of_ble_eq_true rfl⟩ (Nat.le_of_ble_eq_true rfl) rfl rfl rfl dX12_isTold_40 ?_
        refine v_if_eq C 50 E dX12_isTold_43 rfl (fun c9 E => ?_) (fun c9 E => ?_)
        · refine v_iconst C dX12_isTold_50 k_iconst_0 ?_
          obtain rfl := Option.some.inj E
          exact v_zret (v := 0) C rfl nz_0 dX12_isTold_51
        · refine v_iconst C dX12_isTold_46 k_iconst_1 ?_
          refine v_goto C 51 dX12_isTold_47 rfl ?_
          obtain rfl := Option.some.inj E
          exact v_zret (v := 1) C rfl nz_1 dX12_isTold_51
      · refine v_iconst C dX12_isTold_46 k_iconst_1 ?_
        refine v_goto C 51 dX12_isTold_47 rfl ?_
        obtain rfl := Option.some.inj E
        exact v_zret (v := 1) C rfl nz_1 dX12_isTold_51
    · refine v_iconst C dX12_isTold_46 k_iconst_1 ?_
      refine v_goto C 51 dX12_isTold_47 rfl ?_
      obtain rfl := Option.some.inj E
      exact v_zret (v := 1) C rfl nz_1 dX12_isTold_51
  · refine v_iconst C dX12_isTold_46 k_iconst_1 ?_
    refine v_goto C 51 dX12_isTold_47 rfl ?_
    obtain rfl := Option.some.inj E
    exact v_zret (v := 1) C rfl nz_1 dX12_isTold_51
set_option maxHeartbeats 4000000 in
theorem c_X12_isTold {n : Nat} {K : Sh} {I : Im} {J : Jm} {R : Rf} {o : Nat} {x1 : Int32} (ho : (K o).1 = 13) {res : Int32} (E : f_X12_isTold K o x1 = some res) : Met l yX12_isTold (Cond.code yX12_isTold cX12_isTold 2 (some .boolean) :: tb) rX12_isTold (PX D cA bs Z [.ref o, .int x1] K n I J R) (QX D cA bs (some (.int res)) K n I J R) 0 0 (fun q => bs ≤ q) := by
  refine met_of (lv1 := [(0, va_rf (some o)), (1, .int x1)]) pn_X12 (by exact Nat.le_of_ble_eq_true rfl) (by rfl) ?_
  intro p e s m args below meth c C hn
  exact v_sub [0, 1] [(0, va_rf (some o)), (1, .int x1)] rfl (w_X12_isTold_0 C ho _ _ E)
set_option maxHeartbeats 4000000 in
theorem w_X12_of_0 (C : Cx D cA bs Z p s m args meth c cX12_of RX12 3 (some .int)) {o : Nat} {K : Sh} {n : Nat} {J : Jm} {R : Rf} (ho : (K o).1 = 13) (res : Int32 × Im) (x1 : Int32) (I : Im) (E : f_X12_of K R o x1 I = some res) : VW D cA bs p l e rX12_of s m args below meth c 3 [(0, va_rf (some o)), (1, .int x1)] K n I J R 0 0 (MQ below (QX D cA bs (some (.int res.1)) K n res.2 J R) args s 0 0 (fun q => bs ≤ q)) 0 [] := by
  unfold f_X12_of at E
  refine v_aload_n (r := (some o)) C 0 dX12_of_0 rfl ?_
  refine v_iload_n C 1 dX12_of_1 rfl ?_
  obtain ⟨q1, h2, E⟩ := bnd E
  refine v_callV (r := (some o)) (As := [.int x1]) (rv := (some (.int q1))) (st := []) (st1 := [.int q1]) (ce1 := 0) (sl1 := 0) C cv_X12_313 (c_X12_isTold (x1 := x1) ho h2) rfl ho rfl rfl ⟨rfl, rfl, Nat.le_of_ble_eq_true rfl, Nat.le_of_ble_eq_true rfl⟩ ⟨Nat.le_of_ble_eq_true rfl, Nat.le_of_ble_eq_true rfl⟩ (Nat.le_of_ble_eq_true rfl) rfl rfl rfl dX12_of_2 ?_
  refine v_if_ne C 10 E dX12_of_5 rfl (fun c23 E => ?_) (fun c23 E => ?_)
  · refine v_iconst C dX12_of_8 k_iconst_m1 ?_
    obtain rfl := Option.some.inj E
    exact v_iret C rfl dX12_of_9
  · refine v_aload_n (r := (some o)) C 0 dX12_of_10 rfl ?_
    refine v_getI (r := (some o)) C fa_X12_13 rfl rfl ho dX12_of_11 ?_
    refine v_if_ge C 20 E dX12_of_14 rfl (fun c22 E => ?_) (fun c22 E => ?_)
    · refine v_aload_n (r := (some o)) C 0 dX12_of_20 rfl ?_
      obtain ⟨q3, h4, E⟩ := bnd E
      refine v_callV (r := (some o)) (As := []) (rv := none) (st := []) (st1 := []) (ce1 := 0) (sl1 := 0) C cv_X12_306 (c_X12_lay  ho h4) rfl ho rfl rfl ⟨rfl, rfl, Nat.le_of_ble_eq_true rfl, Nat.le_of_ble_eq_true rfl⟩ ⟨Nat.le_of_ble_eq_true rfl, Nat.le_of_ble_eq_true rfl⟩ (Nat.le_of_ble_eq_true rfl) rfl rfl rfl dX12_of_21 ?_
      refine v_iload_n C 1 dX12_of_24 rfl ?_
      refine v_if_ne C 33 E dX12_of_25 rfl (fun c21 E => ?_) (fun c21 E => ?_)
      · refine v_aload_n (r := (some o)) C 0 dX12_of_28 rfl ?_
        refine v_getI (r := (some o)) C fa_X12_75 rfl rfl ho dX12_of_29 ?_
        obtain rfl := Option.some.inj E
        exact v_iret C rfl dX12_of_32
      · refine v_iload_n C 1 dX12_of_33 rfl ?_
        refine v_iconst C dX12_of_34 k_iconst_4 ?_
        refine v_icmp_ge C 74 E dX12_of_35 rfl (fun c20 E => ?_) (fun c20 E => ?_)
        · refine v_iload_n C 1 dX12_of_74 rfl ?_
          refine v_bipush C dX12_of_75 k_bipush_10 ?_
          refine v_irem C dX12_of_77 k_nz_10 ?_
          refine v_istore_n C [(2, .int (irem x1 10)), (0, va_rf (some o)), (1, .int x1)] dX12_of_78 (Nat.le_of_ble_eq_true rfl) rfl ?_
          refine v_iload_n C 2 dX12_of_79 rfl ?_
          refine v_bipush C dX12_of_80 k_bipush_30 ?_
          refine v_icmp_lt C 104 E dX12_of_82 rfl (fun c11 E => ?_) (fun c11 E => ?_)
          · refine v_iload_n C 0 dX12_of_104 rfl ?_
            refine v_aload_n (r := (some o)) C 1 dX12_of_105 rfl ?_
            refine v_getI (r := (some o)) C fa_X12_75 rfl rfl ho dX12_of_106 ?_
            refine v_icmp_lt C 116 E dX12_of_109 rfl (fun c8 E => ?_) (fun c8 E => ?_)
            · refine v_iload_n C 2 dX12_of_116 rfl ?_
              refine v_bipush C dX12_of_117 k_bipush_20 ?_
              refine v_icmp_ge C 131 E dX12_of_119 rfl (fun c7 E => ?_) (fun c7 E => ?_)
              · refine v_aload_n (r := (some o)) C 1 dX12_of_131 rfl ?_
                refine v_getR (r := (some o)) C fa_X12_81 rfl rfl ho dX12_of_132 ?_
                refine v_iload_n C 0 dX12_of_135 rfl ?_
                refine v_iald (r := (R o 23)) C E dX12_of_136 (fun v5 _ E => ?_)
                obtain rfl := Option.some.inj E
                exact v_iret C rfl dX12_of_137
              · refine v_aload_n (r := (some o)) C 1 dX12_of_122 rfl ?_
                refine v_getR (r := (some o)) C fa_X12_78 rfl rfl ho dX12_of_123 ?_
                refine v_iload_n C 0 dX12_of_126 rfl ?_
                refine v_iald (r := (R o 22)) C E dX12_of_127 (fun v6 _ E => ?_)
                refine v_goto C 137 dX12_of_128 rfl ?_
                obtain rfl := Option.some.inj E
                exact v_iret C rfl dX12_of_137
            · refine v_iconst C dX12_of_112 k_iconst_m1 ?_
              refine v_goto C 137 dX12_of_113 rfl ?_
              obtain rfl := Option.some.inj E
              exact v_iret C rfl dX12_of_137
          · refine v_iload_n C 0 dX12_of_85 rfl ?_
            refine v_aload_n (r := (some o)) C 1 dX12_of_86 rfl ?_
            refine v_getI (r := (some o)) C fa_X12_75 rfl rfl ho dX12_of_87 ?_
            refine v_icmp_gt C 102 E dX12_of_90 rfl (fun c10 E => ?_) (fun c10 E => ?_)
            · refine v_iconst C dX12_of_102 k_iconst_m1 ?_
              obtain rfl := Option.some.inj E
              exact v_iret C rfl dX12_of_103
            · refine v_aload_n (r := (some o)) C 1 dX12_of_93 rfl ?_
              refine v_getR (r := (some o)) C fa_X12_84 rfl rfl ho dX12_of_94 ?_
              refine v_iload_n C 0 dX12_of_97 rfl ?_
              refine v_iald (r := (R o 24)) C E dX12_of_98 (fun v9 _ E => ?_)
              refine v_goto C 103 dX12_of_99 rfl ?_
              obtain rfl := Option.some.inj E
              exact v_iret C rfl dX12_of_103
        · refine v_iload_n C 1 dX12_of_38 rfl ?_
          refine v_iconst C dX12_of_39 k_iconst_1 ?_
          refine v_icmp_ne C 53 E dX12_of_40 rfl (fun c19 E => ?_) (fun c19 E => ?_)
          · refine v_aload_n (r := (some o)) C 0 dX12_of_43 rfl ?_
            refine v_iconst C dX12_of_44 k_iconst_3 ?_
            refine v_bipush C dX12_of_45 k_bipush_10 ?_
            obtain ⟨q17, h18, E⟩ := bnd E
            refine v_callV (r := (some o)) (As := [.int 3, .int 10]) (rv := (some (.int q17))) (st := []) (st1 := [.int q17]) (ce1 := 0) (sl1 := 0) C cv_X12_316 (c_X12_last (x1 := 3) (x2 := 10) ho h18) rfl ho rfl rfl ⟨rfl, rfl, Nat.le_of_ble_eq_true rfl, Nat.le_of_ble_eq_true rfl⟩ ⟨Nat.le_of_ble_eq_true rfl, Nat.le_of_ble_eq_true rfl⟩ (Nat.le_of_ble_eq_true rfl) rfl rfl rfl dX12_of_47 ?_
            refine v_goto C 73 dX12_of_50 rfl ?_
            obtain rfl := Option.some.inj E
            exact v_iret C rfl dX12_of_73
          · refine v_iload_n C 1 dX12_of_53 rfl ?_
            refine v_iconst C dX12_of_54 k_iconst_2 ?_
            refine v_icmp_ne C 67 E dX12_of_55 rfl (fun c16 E => ?_) (fun c16 E => ?_)
            · refine v_aload_n (r := (some o)) C 0 dX12_of_58 rfl ?_
              refine v_iconst C dX12_of_59 k_iconst_4 ?_
              refine v_iconst C dX12_of_60 k_iconst_1 ?_
              obtain ⟨q14, h15, E⟩ := bnd E
              refine v_callV (r := (some o)) (As := [.int 4, .int 1]) (rv := (some (.int q14))) (st := []) (st1 := [.int q14]) (ce1 := 0) (sl1 := 0) C cv_X12_316 (c_X12_last (x1 := 4) (x2 := 1) ho h15) rfl ho rfl rfl ⟨rfl, rfl, Nat.le_of_ble_eq_true rfl, Nat.le_of_ble_eq_true rfl⟩ ⟨Nat.le_of_ble_eq_true rfl, Nat.le_of_ble_eq_true rfl⟩ (Nat.le_of_ble_eq_true rfl) rfl rfl rfl dX12_of_61 ?_
              refine v_goto C 73 dX12_of_64 rfl ?_
              obtain rfl := Option.some.inj E
              exact v_iret C rfl dX12_of_73
            · refine v_aload_n (r := (some o)) C 0 dX12_of_67 rfl ?_
              refine v_iconst C dX12_of_68 k_iconst_5 ?_
              refine v_iconst C dX12_of_69 k_iconst_0 ?_
              obtain ⟨q12, h13, E⟩ := bnd E
              refine v_callV (r := (some o)) (As := [.int 5, .int 0]) (rv := (some (.int q12))) (st := []) (st1 := [.int q12]) (ce1 := 0) (sl1 := 0) C cv_X12_316 (c_X12_last (x1 := 5) (x2 := 0) ho h13) rfl ho rfl rfl ⟨rfl, rfl, Nat.le_of_ble_eq_true rfl, Nat.le_of_ble_eq_true rfl⟩ ⟨Nat.le_of_ble_eq_true rfl, Nat.le_of_ble_eq_true rfl⟩ (Nat.le_of_ble_eq_true rfl) rfl rfl rfl dX12_of_70 ?_
              obtain rfl := Option.some.inj E
              exact v_iret C rfl dX12_of_73
    · refine v_bipush C dX12_of_17 k_bipush_m3 ?_
      obtain rfl := Option.some.inj E
      exact v_iret C rfl dX12_of_19
set_option maxHeartbeats 4000000 in
theorem c_X12_of {n : Nat} {K : Sh} {I : Im} {J : Jm} {R : Rf} {o : Nat} {x1 : Int32} (ho : (K o).1 = 13) {res : Int32 × Im} (E : f_X12_of K R o x1 I = some res) : Met l yX12_of (Cond.code yX12_of cX12_of 3 (some .int) :: tb) rX12_of (PX D cA bs Z [.ref o, .int x1] K n I J R) (QX D cA bs (some (.int res.1)) K n res.2 J R) 0 0 (fun q => bs ≤ q) := by
  refine met_of (lv1 := [(0, va_rf (some o)), (1, .int x1)]) pn_X12 (by exact Nat.le_of_ble_eq_true rfl) (by rfl) ?_
  intro p e s m args below meth c C hn
  exact v_sub [0, 1] [(0, va_rf (some o)), (1, .int x1)] rfl (w_X12_of_0 C ho _ _ _ E)
end WK5
