section WK3
variable {D : va_G} {cA : Nat → ClassId} {bs : Nat} {Z : Nat → Nat} {p : Program} {l : Launch} {e : Env} {s : State} {m : MethodId} {args : Array Value} {below : List Frame} {meth : Method} {c : Code}
set_option maxHeartbeats 4000000 in
theorem w_X8_walk_0 (C : Cx D cA bs Z p s m args meth c cX8_walk RX8 5 (some .boolean)) {o : Nat} {K : Sh} {n : Nat} {J : Jm} {R : Rf} (ho : (K o).1 = 9) (res : Int32 × Im) (x1 : Option Nat) (x2 : Int32) (x3 : Int32) (I : Im) (E : f_X8_walk K R o x1 x2 x3 I = some res) : VW D cA bs Z p l e rX8_walk s m args below meth c 5 [(0, va_rf (some o)), (1, va_rf x1), (2, .int x2), (3, .int x3)] K n I J R 0 0 (MQ below (QX D cA bs Z (some (.int res.1)) K n res.2 J R) args s 0 0 (fun q => bs ≤ q)) 0 [] := by
  unfold f_X8_walk at E
  refine v_aload_n (r := x1) C 1 dX8_walk_0 rfl ?_
  refine v_iload_n C 2 dX8_walk_1 rfl ?_
  refine v_aload_n (r := (some o)) C 0 dX8_walk_2 rfl ?_
  refine v_getI (r := (some o)) C fa_X8_48 rfl rfl ho dX8_walk_3 ?_
  refine v_iload_n C 3 dX8_walk_6 rfl ?_
  obtain ⟨a1, h2, E⟩ := bnd E
  obtain ⟨hra1, hoa1⟩ := ob_is h2
  obtain ⟨q3, h4, E⟩ := bnd E
  refine v_callV (r := x1) (As := [.int x2, .int (I o 4), .int x3]) (rv := (some (.int q3))) (st := []) (st1 := [.int q3]) (ce1 := 0) (sl1 := 0) C cv_X8_72 (c_X9_drunkAlong (x1 := x2) (x2 := (I o 4)) (x3 := x3) hoa1 h4) hra1 hoa1 rfl rfl ⟨rfl, rfl, Nat.le_of_ble_eq_true rfl, Nat.le_of_ble_eq_true rfl⟩ ⟨Nat.le_of_ble_eq_true rfl, Nat.le_of_ble_eq_true rfl⟩ (Nat.le_of_ble_eq_true rfl) rfl rfl rfl dX8_walk_7 ?_
  refine v_istore C [(4, .int q3), (0, va_rf (some o)), (1, va_rf x1), (2, .int x2), (3, .int x3)] dX8_walk_10 (Nat.le_of_ble_eq_true rfl) rfl ?_
  refine v_iload C 0 dX8_walk_12 rfl ?_
  refine v_aload_n (r := (some o)) C 1 dX8_walk_14 rfl ?_
  refine v_getI (r := (some o)) C fa_X8_69 rfl rfl ho dX8_walk_15 ?_
  refine v_icmp_le C 23 E dX8_walk_18 rfl (fun c8 E => ?_) (fun c8 E => ?_)
  · refine v_aload_n (r := (some o)) C 1 dX8_walk_23 rfl ?_
    refine v_dup C dX8_walk_24 (rf_cat _) ?_
    refine v_getI (r := (some o)) C fa_X8_69 rfl rfl ho dX8_walk_25 ?_
    refine v_iload C 0 dX8_walk_28 rfl ?_
    refine v_isub C dX8_walk_30 ?_
    refine v_putI (r := (some o)) C fa_X8_69 rfl E rfl ho ⟨rfl, rfl⟩ dX8_walk_31 (fun I5 _ E => ?_)
    refine v_aload_n (r := (some o)) C 1 dX8_walk_34 rfl ?_
    refine v_dup C dX8_walk_35 (rf_cat _) ?_
    refine v_getI (r := (some o)) C fa_X8_48 rfl rfl ho dX8_walk_36 ?_
    refine v_aload_n (r := x1) C 2 dX8_walk_39 rfl ?_
    refine v_getR (r := x1) C fa_X8_76 rfl hra1 hoa1 dX8_walk_40 ?_
    refine v_iload_n C 3 dX8_walk_43 rfl ?_
    refine v_iald (r := (R a1 7)) C E dX8_walk_44 (fun v6 _ E => ?_)
    refine v_iadd C dX8_walk_45 ?_
    refine v_putI (r := (some o)) C fa_X8_48 rfl E rfl ho ⟨rfl, rfl⟩ dX8_walk_46 (fun I7 _ E => ?_)
    refine v_iconst C dX8_walk_49 k_iconst_1 ?_
    obtain rfl := Option.some.inj E
    exact v_zret (v := 1) C rfl nz_1 dX8_walk_50
  · refine v_iconst C dX8_walk_21 k_iconst_0 ?_
    obtain rfl := Option.some.inj E
    exact v_zret (v := 0) C rfl nz_0 dX8_walk_22
set_option maxHeartbeats 4000000 in
theorem c_X8_walk {n : Nat} {K : Sh} {I : Im} {J : Jm} {R : Rf} {o : Nat} {x1 : Option Nat} {x2 : Int32} {x3 : Int32} (ho : (K o).1 = 9) {res : Int32 × Im} (E : f_X8_walk K R o x1 x2 x3 I = some res) : Met l yX8_walk (Cond.code yX8_walk cX8_walk 5 (some .boolean) :: tb) rX8_walk (PX D cA bs Z [.ref o, va_rf x1, .int x2, .int x3] K n I J R) (QX D cA bs Z (some (.int res.1)) K n res.2 J R) 0 0 (fun q => bs ≤ q) := by
  refine met_of (lv1 := [(0, va_rf (some o)), (1, va_rf x1), (2, .int x2), (3, .int x3)]) pn_X8 (by cases x1 <;> exact Nat.le_of_ble_eq_true rfl) (by cases x1 <;> rfl) ?_
  intro p e s m args below meth c C hn
  exact v_sub [0, 1, 2, 3] [(0, va_rf (some o)), (1, va_rf x1), (2, .int x2), (3, .int x3)] rfl (w_X8_walk_0 C ho _ _ _ _ _ E)
set_option maxHeartbeats 4000000 in
theorem w_X8_linger_0 (C : Cx D cA bs Z p s m args meth c cX8_linger RX8 2 (some .boolean)) {o : Nat} {K : Sh} {n : Nat} {J : Jm} {R : Rf} (ho : (K o).1 = 9) (res : Int32 × Im) (x1 : Int32) (I : Im) (E : f_X8_linger K o x1 I = some res) : VW D cA bs Z p l e rX8_linger s m args below meth c 2 [(0, va_rf (some o)), (1, .int x1)] K n I J R 0 0 (MQ below (QX D cA bs Z (some (.int res.1)) K n res.2 J R) args s 0 0 (fun q => bs ≤ q)) 0 [] := by
  unfold f_X8_linger at E
  refine v_iload_n C 1 dX8_linger_0 rfl ?_
  refine v_if_gt C 6 E dX8_linger_1 rfl (fun c4 E => ?_) (fun c4 E => ?_)
  · refine v_iload_n C 1 dX8_linger_6 rfl ?_
    refine v_aload_n (r := (some o)) C 0 dX8_linger_7 rfl ?_
    refine v_getI (r := (some o)) C fa_X8_66 rfl rfl ho dX8_linger_8 ?_
    refine v_imul C dX8_linger_11 ?_
    refine v_aload_n (r := (some o)) C 0 dX8_linger_12 rfl ?_
    refine v_getI (r := (some o)) C fa_X8_69 rfl rfl ho dX8_linger_13 ?_
    refine v_icmp_le C 21 E dX8_linger_16 rfl (fun c3 E => ?_) (fun c3 E => ?_)
    · refine v_aload_n (r := (some o)) C 0 dX8_linger_21 rfl ?_
      refine v_dup C dX8_linger_22 (rf_cat _) ?_
      refine v_getI (r := (some o)) C fa_X8_69 rfl rfl ho dX8_linger_23 ?_
      refine v_iload_n C 1 dX8_linger_26 rfl ?_
      refine v_aload_n (r := (some o)) C 0 dX8_linger_27 rfl ?_
      refine v_getI (r := (some o)) C fa_X8_66 rfl rfl ho dX8_linger_28 ?_
      refine v_imul C dX8_linger_31 ?_
      refine v_isub C dX8_linger_32 ?_
      refine v_putI (r := (some o)) C fa_X8_69 rfl E rfl ho ⟨rfl, rfl⟩ dX8_linger_33 (fun I1 _ E => ?_)
      refine v_aload_n (r := (some o)) C 0 dX8_linger_36 rfl ?_
      refine v_dup C dX8_linger_37 (rf_cat _) ?_
      refine v_getI (r := (some o)) C fa_X8_48 rfl rfl ho dX8_linger_38 ?_
      refine v_iload_n C 1 dX8_linger_41 rfl ?_
      refine v_iadd C dX8_linger_42 ?_
      refine v_putI (r := (some o)) C fa_X8_48 rfl E rfl ho ⟨rfl, rfl⟩ dX8_linger_43 (fun I2 _ E => ?_)
      refine v_iconst C dX8_linger_46 k_iconst_1 ?_
      obtain rfl := Option.some.inj E
      exact v_zret (v := 1) C rfl nz_1 dX8_linger_47
    · refine v_iconst C dX8_linger_19 k_iconst_0 ?_
      obtain rfl := Option.some.inj E
      exact v_zret (v := 0) C rfl nz_0 dX8_linger_20
  · refine v_iconst C dX8_linger_4 k_iconst_1 ?_
    obtain rfl := Option.some.inj E
    exact v_zret (v := 1) C rfl nz_1 dX8_linger_5
set_option maxHeartbeats 4000000 in
theorem c_X8_linger {n : Nat} {K : Sh} {I : Im} {J : Jm} {R : Rf} {o : Nat} {x1 : Int32} (ho : (K o).1 = 9) {res : Int32 × Im} (E : f_X8_linger K o x1 I = some res) : Met l yX8_linger (Cond.code yX8_linger cX8_linger 2 (some .boolean) :: tb) rX8_linger (PX D cA bs Z [.ref o, .int x1] K n I J R) (QX D cA bs Z (some (.int res.1)) K n res.2 J R) 0 0 (fun q => bs ≤ q) := by
  refine met_of (lv1 := [(0, va_rf (some o)), (1, .int x1)]) pn_X8 (by exact Nat.le_of_ble_eq_true rfl) (by rfl) ?_
  intro p e s m args below meth c C hn
  exact v_sub [0, 1] [(0, va_rf (some o)), (1, .int x1)] rfl (w_X8_linger_0 C ho _ _ _ E)
set_option maxHeartbeats 4000000 in
theorem w_X10_draw_0 (C : Cx D cA bs Z p s m args meth c cX10_draw RX10 6 (some .int)) {o : Nat} {K : Sh} {n : Nat} {J : Jm} {R : Rf} (ho : (K o).1 = 11) (res : Int32 × Im) (x1 : Int32) (x2 : Int32) (x3 : Int32) (I : Im) (E : f_X10_draw K R o x1 x2 x3 I = some res) : VW D cA bs Z p l e rX10_draw s m args below meth c 6 [(0, va_rf (some o)), (1, .int x1), (2, .int x2), (3, .int x3)] K n I J R 0 0 (MQ below (QX D cA bs Z (some (.int res.1)) K n res.2 J R) args s 0 0 (fun q => bs ≤ q)) 0 [] := by
  unfold f_X10_draw at E
  refine v_aload_n (r := (some o)) C 0 dX10_draw_0 rfl ?_
  refine v_iload_n C 1 dX10_draw_1 rfl ?_
  refine v_iload_n C 2 dX10_draw_2 rfl ?_
  obtain ⟨q1, h2, E⟩ := bnd E
  refine v_callV (r := (some o)) (As := [.int x1, .int x2]) (rv := (some (.int q1))) (st := []) (st1 := [.int q1]) (ce1 := 0) (sl1 := 0) C cv_X10_28 (c_X10_heldAt (x1 := x1) (x2 := x2) ho h2) rfl ho rfl rfl ⟨rfl, rfl, Nat.le_of_ble_eq_true rfl, Nat.le_of_ble_eq_true rfl⟩ ⟨Nat.le_of_ble_eq_true rfl, Nat.le_of_ble_eq_true rfl⟩ (Nat.le_of_ble_eq_true rfl) rfl rfl rfl dX10_draw_3 ?_
  refine v_istore C [(4, .int q1), (0, va_rf (some o)), (1, .int x1), (2, .int x2), (3, .int x3)] dX10_draw_6 (Nat.le_of_ble_eq_true rfl) rfl ?_
  refine v_iload C 0 dX10_draw_8 rfl ?_
  refine v_iload_n C 4 dX10_draw_10 rfl ?_
  refine v_min C mx_X10_32 (Nat.le_of_ble_eq_true rfl) ((Nat.le_of_ble_eq_true rfl)) (Nat.le_of_ble_eq_true rfl) (Nat.le_of_ble_eq_true rfl) dX10_draw_11 ?_
  refine v_istore C [(5, .int (imin q1 x3)), (4, .int q1), (0, va_rf (some o)), (1, .int x1), (2, .int x2), (3, .int x3)] dX10_draw_14 (Nat.le_of_ble_eq_true rfl) rfl ?_
  refine v_aload_n (r := (some o)) C 2 dX10_draw_16 rfl ?_
  refine v_getR (r := (some o)) C fa_X10_18 rfl rfl ho dX10_draw_17 ?_
  refine v_iload_n C 3 dX10_draw_20 rfl ?_
  refine v_iload C 1 dX10_draw_21 rfl ?_
  refine v_iload C 0 dX10_draw_23 rfl ?_
  refine v_isub C dX10_draw_25 ?_
  refine v_iast (r := (R o 2)) C E dX10_draw_26 (fun I3 _ E => ?_)
  refine v_aload_n (r := (some o)) C 2 dX10_draw_27 rfl ?_
  refine v_getR (r := (some o)) C fa_X10_21 rfl rfl ho dX10_draw_28 ?_
  refine v_iload_n C 3 dX10_draw_31 rfl ?_
  refine v_iload_n C 4 dX10_draw_32 rfl ?_
  refine v_iast (r := (R o 3)) C E dX10_draw_33 (fun I4 _ E => ?_)
  refine v_iload C 0 dX10_draw_34 rfl ?_
  obtain rfl := Option.some.inj E
  exact v_iret C rfl dX10_draw_36
set_option maxHeartbeats 4000000 in
theorem c_X10_draw {n : Nat} {K : Sh} {I : Im} {J : Jm} {R : Rf} {o : Nat} {x1 : Int32} {x2 : Int32} {x3 : Int32} (ho : (K o).1 = 11) {res : Int32 × Im} (E : f_X10_draw K R o x1 x2 x3 I = some res) : Met l yX10_draw (Cond.code yX10_draw cX10_draw 6 (some .int) :: tb) rX10_draw (PX D cA bs Z [.ref o, .int x1, .int x2, .int x3] K n I J R) (QX D cA bs Z (some (.int res.1)) K n res.2 J R) 0 0 (fun q => bs ≤ q) := by
  refine met_of (lv1 := [(0, va_rf (some o)), (1, .int x1), (2, .int x2), (3, .int x3)]) pn_X10 (by exact Nat.le_of_ble_eq_true rfl) (by rfl) ?_
  intro p e s m args below meth c C hn
  exact v_sub [0, 1, 2, 3] [(0, va_rf (some o)), (1, .int x1), (2, .int x2), (3, .int x3)] rfl (w_X10_draw_0 C ho _ _ _ _ _ E)
set_option maxHeartbeats 4000000 in
theorem w_X8_visit_65 (C : Cx D cA bs Z p s m args meth c cX8_visit RX8 5 (some .boolean)) {o : Nat} {K : Sh} {n : Nat} {J : Jm} {R : Rf} (ho : (K o).1 = 9) (res : Int32 × Im) (x1 : Option Nat) (x2 : Int32) (s0 : Option Nat) (s1 : Int32) (s2 : Int32) (I : Im) (E : f_X8_visit_65 K R o x1 x2 s0 s1 s2 I = some res) : VW D cA bs Z p l e rX8_visit s m args below meth c 5 [(0, va_rf (some o)), (1, va_rf x1), (2, .int x2)] K n I J R 0 0 (MQ below (QX D cA bs Z (some (.int res.1)) K n res.2 J R) args s 0 0 (fun q => bs ≤ q)) 65 [.int s2, .int s1, va_rf s0] := by
  unfold f_X8_visit_65 at E
  refine v_iast (r := s0) C E dX8_visit_65 (fun I1 _ E => ?_)
  refine v_aload_n (r := (some o)) C 0 dX8_visit_66 rfl ?_
  refine v_aload_n (r := (some o)) C 0 dX8_visit_67 rfl ?_
  refine v_getR (r := (some o)) C fa_X8_9 rfl rfl ho dX8_visit_68 ?_
  refine v_iload_n C 2 dX8_visit_71 rfl ?_
  refine v_iald (r := (R o 2)) C E dX8_visit_72 (fun v2 _ E => ?_)
  obtain ⟨q3, h4, E⟩ := bnd E
  refine v_callV (r := (some o)) (As := [.int v2]) (rv := (some (.int q3.1))) (st := []) (st1 := [.int q3.1]) (ce1 := 0) (sl1 := 0) C cv_X8_84 (c_X8_linger (x1 := v2) ho h4) rfl ho rfl rfl ⟨rfl, rfl, Nat.le_of_ble_eq_true rfl, Nat.le_of_ble_eq_true rfl⟩ ⟨Nat.le_of_ble_eq_true rfl, Nat.le_of_ble_eq_true rfl⟩ (Nat.le_of_ble_eq_true rfl) rfl rfl rfl dX8_visit_73 ?_
  refine v_if_ne C 81 E dX8_visit_76 rfl (fun c10 E => ?_) (fun c10 E => ?_)
  · refine v_iconst C dX8_visit_79 k_iconst_0 ?_
    obtain rfl := Option.some.inj E
    exact v_zret (v := 0) C rfl nz_0 dX8_visit_80
  · refine v_aload_n (r := (some o)) C 0 dX8_visit_81 rfl ?_
    refine v_dup C dX8_visit_82 (rf_cat _) ?_
    refine v_getI (r := (some o)) C fa_X8_69 rfl rfl ho dX8_visit_83 ?_
    refine v_aload_n (r := x1) C 1 dX8_visit_86 rfl ?_
    refine v_iload_n C 2 dX8_visit_87 rfl ?_
    refine v_aload_n (r := (some o)) C 0 dX8_visit_88 rfl ?_
    refine v_getI (r := (some o)) C fa_X8_48 rfl rfl ho dX8_visit_89 ?_
    refine v_aload_n (r := (some o)) C 0 dX8_visit_92 rfl ?_
    refine v_getI (r := (some o)) C fa_X8_60 rfl rfl ho dX8_visit_93 ?_
    refine v_aload_n (r := (some o)) C 0 dX8_visit_96 rfl ?_
    refine v_getI (r := (some o)) C fa_X8_69 rfl rfl ho dX8_visit_97 ?_
    refine v_isub C dX8_visit_100 ?_
    obtain ⟨a5, h6, E⟩ := bnd E
    obtain ⟨hra5, hoa5⟩ := ob_is h6
    obtain ⟨q7, h8, E⟩ := bnd E
    refine v_callV (r := x1) (As := [.int x2, .int (q3.2 o 4), .int ((q3.2 o 6) - (q3.2 o 5))]) (rv := (some (.int q7.1))) (st := [.int (q3.2 o 5), va_rf (some o)]) (st1 := [.int q7.1, .int (q3.2 o 5), va_rf (some o)]) (ce1 := 0) (sl1 := 0) C cv_X8_94 (c_X10_draw (x1 := x2) (x2 := (q3.2 o 4)) (x3 := ((q3.2 o 6) - (q3.2 o 5))) hoa5 h8) hra5 hoa5 rfl rfl ⟨rfl, rfl, Nat.le_of_ble_eq_true rfl, Nat.le_of_ble_eq_true rfl⟩ ⟨Nat.le_of_ble_eq_true rfl, Nat.le_of_ble_eq_true rfl⟩ (by simp only [List.map_cons, List.map_nil, List.sum_cons, List.sum_nil, rf_cat]; exact Nat.le_of_ble_eq_true rfl) rfl rfl rfl dX8_visit_101 ?_
    refine v_iadd C dX8_visit_104 ?_
    refine v_putI (r := (some o)) C fa_X8_69 rfl E rfl ho ⟨rfl, rfl⟩ dX8_visit_105 (fun I9 _ E => ?_)
    refine v_iconst C dX8_visit_108 k_iconst_1 ?_
    obtain rfl := Option.some.inj E
    exact v_zret (v := 1) C rfl nz_1 dX8_visit_109
set_option maxHeartbeats 4000000 in
theorem w_X8_visit_0 (C : Cx D cA bs Z p s m args meth c cX8_visit RX8 5 (some .boolean)) {o : Nat} {K : Sh} {n : Nat} {J : Jm} {R : Rf} (ho : (K o).1 = 9) (res : Int32 × Im) (x1 : Option Nat) (x2 : Int32) (x3 : Option Nat) (x4 : Option Nat) (I : Im) (E : f_X8_visit K R o x1 x2 x3 x4 I = some res) : VW D cA bs Z p l e rX8_visit s m args below meth c 5 [(0, va_rf (some o)), (1, va_rf x1), (2, .int x2), (3, va_rf x3), (4, va_rf x4)] K n I J R 0 0 (MQ below (QX D cA bs Z (some (.int res.1)) K n res.2 J R) args s 0 0 (fun q => bs ≤ q)) 0 [] := by
  unfold f_X8_visit at E
  refine v_aload_n (r := (some o)) C 0 dX8_visit_0 rfl ?_
  refine v_getR (r := (some o)) C fa_X8_15 rfl rfl ho dX8_visit_1 ?_
  refine v_iload_n C 2 dX8_visit_4 rfl ?_
  refine v_aload_n (r := (some o)) C 0 dX8_visit_5 rfl ?_
  refine v_getI (r := (some o)) C fa_X8_69 rfl rfl ho dX8_visit_6 ?_
  refine v_iast (r := (R o 3)) C E dX8_visit_9 (fun I11 _ E => ?_)
  refine v_aload_n (r := (some o)) C 0 dX8_visit_10 rfl ?_
  refine v_aload_n (r := x1) C 1 dX8_visit_11 rfl ?_
  obtain ⟨a12, h13, E⟩ := bnd E
  obtain ⟨hra12, hoa12⟩ := ob_is h13
  refine v_getR (r := x1) C fa_X8_79 rfl hra12 hoa12 dX8_visit_12 ?_
  refine v_iload_n C 2 dX8_visit_15 rfl ?_
  refine v_iald (r := (R a12 3)) C E dX8_visit_16 (fun v14 _ E => ?_)
  refine v_aload_n (r := (some o)) C 0 dX8_visit_17 rfl ?_
  refine v_getI (r := (some o)) C fa_X8_48 rfl rfl ho dX8_visit_18 ?_
  refine v_isub C dX8_visit_21 ?_
  obtain ⟨q15, h16, E⟩ := bnd E
  refine v_callV (r := (some o)) (As := [.int (v14 - (I11 o 4))]) (rv := (some (.int q15.1))) (st := []) (st1 := [.int q15.1]) (ce1 := 0) (sl1 := 0) C cv_X8_84 (c_X8_linger (x1 := (v14 - (I11 o 4))) ho h16) rfl ho rfl rfl ⟨rfl, rfl, Nat.le_of_ble_eq_true rfl, Nat.le_of_ble_eq_true rfl⟩ ⟨Nat.le_of_ble_eq_true rfl, Nat.le_of_ble_eq_true rfl⟩ (Nat.le_of_ble_eq_true rfl) rfl rfl rfl dX8_visit_22 ?_
  refine v_if_ne C 30 E dX8_visit_25 rfl (fun c23 E => ?_) (fun c23 E => ?_)
  · refine v_iconst C dX8_visit_28 k_iconst_0 ?_
    obtain rfl := Option.some.inj E
    exact v_zret (v := 0) C rfl nz_0 dX8_visit_29
  · refine v_aload_n (r := (some o)) C 0 dX8_visit_30 rfl ?_
    refine v_getR (r := (some o)) C fa_X8_9 rfl rfl ho dX8_visit_31 ?_
    refine v_iload_n C 2 dX8_visit_34 rfl ?_
    refine v_aload (r := x4) C 4 dX8_visit_35 rfl ?_
    refine v_ifnonnull (r := x4) C 61 E dX8_visit_37 rfl (fun c22 E => ?_) (fun c22 E => ?_)
    · refine v_aload_n (r := x3) C 3 dX8_visit_40 rfl ?_
      refine v_aload_n (r := x1) C 1 dX8_visit_41 rfl ?_
      refine v_iload_n C 2 dX8_visit_42 rfl ?_
      refine v_aload_n (r := (some o)) C 0 dX8_visit_43 rfl ?_
      refine v_getI (r := (some o)) C fa_X8_48 rfl rfl ho dX8_visit_44 ?_
      refine v_aload_n (r := (some o)) C 0 dX8_visit_47 rfl ?_
      refine v_getI (r := (some o)) C fa_X8_69 rfl rfl ho dX8_visit_48 ?_
      refine v_aload_n (r := (some o)) C 0 dX8_visit_51 rfl ?_
      refine v_getI (r := (some o)) C fa_X8_60 rfl rfl ho dX8_visit_52 ?_
      obtain ⟨a18, h19, E⟩ := bnd E
      obtain ⟨hra18, hoa18⟩ := ob_is h19
      obtain ⟨q20, h21, E⟩ := bnd E
      refine v_callV (r := x3) (As := [va_rf x1, .int x2, .int (q15.2 o 4), .int (q15.2 o 5), .int (q15.2 o 6)]) (rv := (some (.int q20))) (st := [.int x2, va_rf (R o 2)]) (st1 := [.int q20, .int x2, va_rf (R o 2)]) (ce1 := 0) (sl1 := 0) C cv_X8_88 (c_X5_standAt (x1 := x1) (x2 := x2) (x3 := (q15.2 o 4)) (x4 := (q15.2 o 5)) (x5 := (q15.2 o 6)) hoa18 h21) hra18 hoa18 rfl rfl ⟨rfl, rfl, Nat.le_of_ble_eq_true rfl, Nat.le_of_ble_eq_true rfl⟩ ⟨Nat.le_of_ble_eq_true rfl, Nat.le_of_ble_eq_true rfl⟩ (by simp only [List.map_cons, List.map_nil, List.sum_cons, List.sum_nil, rf_cat]; exact Nat.le_of_ble_eq_true rfl) rfl rfl rfl dX8_visit_55 ?_
      refine v_goto C 65 dX8_visit_58 rfl ?_
      exact v_sub [0, 1, 2] [(0, va_rf (some o)), (1, va_rf x1), (2, .int x2)] rfl (w_X8_visit_65 C ho res  _ _ _ _ _ _ E)
    · refine v_aload (r := x4) C 4 dX8_visit_61 rfl ?_
      refine v_iload_n C 2 dX8_visit_63 rfl ?_
      refine v_iald (r := x4) C E dX8_visit_64 (fun v17 _ E => ?_)
      exact v_sub [0, 1, 2] [(0, va_rf (some o)), (1, va_rf x1), (2, .int x2)] rfl (w_X8_visit_65 C ho res  _ _ _ _ _ _ E)
set_option maxHeartbeats 4000000 in
theorem c_X8_visit {n : Nat} {K : Sh} {I : Im} {J : Jm} {R : Rf} {o : Nat} {x1 : Option Nat} {x2 : Int32} {x3 : Option Nat} {x4 : Option Nat} (ho : (K o).1 = 9) {res : Int32 × Im} (E : f_X8_visit K R o x1 x2 x3 x4 I = some res) : Met l yX8_visit (Cond.code yX8_visit cX8_visit 5 (some .boolean) :: tb) rX8_visit (PX D cA bs Z [.ref o, va_rf x1, .int x2, va_rf x3, va_rf x4] K n I J R) (QX D cA bs Z (some (.int res.1)) K n res.2 J R) 0 0 (fun q => bs ≤ q) := by
  refine met_of (lv1 := [(0, va_rf (some o)), (1, va_rf x1), (2, .int x2), (3, va_rf x3), (4, va_rf x4)]) pn_X8 (by cases x1 <;> cases x3 <;> cases x4 <;> exact Nat.le_of_ble_eq_true rfl) (by cases x1 <;> cases x3 <;> cases x4 <;> rfl) ?_
  intro p e s m args below meth c C hn
  exact v_sub [0, 1, 2, 3, 4] [(0, va_rf (some o)), (1, va_rf x1), (2, .int x2), (3, va_rf x3), (4, va_rf x4)] rfl (w_X8_visit_0 C ho _ _ _ _ _ _ E)
set_option maxHeartbeats 4000000 in
theorem w_X8_make_80 (C : Cx D cA bs Z p s m args meth c cX8_make RX8 6 none) {o : Nat} {K : Sh} {n : Nat} {J : Jm} {R : Rf} (ho : (K o).1 = 9) (res : Im) (x1 : Option Nat) (x3 : Option Nat) (I : Im) (E : f_X8_make_80 K R o x1 x3 I = some res) : VW D cA bs Z p l e rX8_make s m args below meth c 6 [(0, va_rf (some o)), (1, va_rf x1), (3, va_rf x3)] K n I J R 0 0 (MQ below (QX D cA bs Z none K n res J R) args s 0 0 (fun q => bs ≤ q)) 80 [] := by
  unfold f_X8_make_80 at E
  refine v_aload_n (r := (some o)) C 0 dX8_make_80 rfl ?_
  refine v_getI (r := (some o)) C fa_X8_28 rfl rfl ho dX8_make_81 ?_
  refine v_bipush C dX8_make_84 k_bipush_m5 ?_
  refine v_icmp_ne C 124 E dX8_make_86 rfl (fun c10 E => ?_) (fun c10 E => ?_)
  · refine v_aload_n (r := (some o)) C 0 dX8_make_89 rfl ?_
    refine v_aload_n (r := x1) C 1 dX8_make_90 rfl ?_
    refine v_aload_n (r := x1) C 1 dX8_make_91 rfl ?_
    obtain ⟨a1, h2, E⟩ := bnd E
    obtain ⟨hra1, hoa1⟩ := ob_is h2
    refine v_getI (r := x1) C fa_X8_22 rfl hra1 hoa1 dX8_make_92 ?_
    refine v_aload_n (r := x3) C 2 dX8_make_95 rfl ?_
    obtain ⟨a3, h4, E⟩ := bnd E
    obtain ⟨hra3, hoa3⟩ := ob_is h4
    refine v_getI (r := x3) C fa_X8_31 rfl hra3 hoa3 dX8_make_96 ?_
    obtain ⟨q5, h6, E⟩ := bnd E
    refine v_callV (r := (some o)) (As := [va_rf x1, .int (I a1 0), .int (I a3 0)]) (rv := (some (.int q5.1))) (st := []) (st1 := [.int q5.1]) (ce1 := 0) (sl1 := 0) C cv_X8_36 (c_X8_walk (x1 := x1) (x2 := (I a1 0)) (x3 := (I a3 0)) ho h6) rfl ho rfl rfl ⟨rfl, rfl, Nat.le_of_ble_eq_true rfl, Nat.le_of_ble_eq_true rfl⟩ ⟨Nat.le_of_ble_eq_true rfl, Nat.le_of_ble_eq_true rfl⟩ (Nat.le_of_ble_eq_true rfl) rfl rfl rfl dX8_make_99 ?_
    refine v_if_eq C 116 E dX8_make_102 rfl (fun c9 E => ?_) (fun c9 E => ?_)
    · refine v_aload_n (r := (some o)) C 0 dX8_make_116 rfl ?_
      refine v_aload_n (r := x1) C 1 dX8_make_117 rfl ?_
      refine v_getI (r := x1) C fa_X8_22 rfl hra1 hoa1 dX8_make_118 ?_
      refine v_putI (r := (some o)) C fa_X8_28 rfl E rfl ho ⟨rfl, rfl⟩ dX8_make_121 (fun I7 _ E => ?_)
      obtain rfl := Option.some.inj E
      exact v_vret C rfl dX8_make_124
    · refine v_aload_n (r := (some o)) C 0 dX8_make_105 rfl ?_
      refine v_aload_n (r := (some o)) C 0 dX8_make_106 rfl ?_
      refine v_getI (r := (some o)) C fa_X8_48 rfl rfl ho dX8_make_107 ?_
      refine v_putI (r := (some o)) C fa_X8_51 rfl E rfl ho ⟨rfl, rfl⟩ dX8_make_110 (fun I8 _ E => ?_)
      refine v_goto C 124 dX8_make_113 rfl ?_
      obtain rfl := Option.some.inj E
      exact v_vret C rfl dX8_make_124
  · obtain rfl := Option.some.inj E
    exact v_vret C rfl dX8_make_124
set_option maxHeartbeats 4000000 in
theorem w_X8_make_9 (C : Cx D cA bs Z p s m args meth c cX8_make RX8 6 none) {o : Nat} {K : Sh} {n : Nat} {J : Jm} {R : Rf} (ho : (K o).1 = 9) (res : Im)  : ∀ (k : Nat), ∀ (x1 : Option Nat) (x2 : Option Nat) (x3 : Option Nat) (x4 : Option Nat) (x5 : Int32) (I : Im), f_X8_make_9 K R o k x1 x2 x3 x4 x5 I = some res → VW D cA bs Z p l e rX8_make s m args below meth c 6 [(0, va_rf (some o)), (1, va_rf x1), (2, va_rf x2), (3, va_rf x3), (4, va_rf x4), (5, .int x5)] K n I J R 0 0 (MQ below (QX D cA bs Z none K n res J R) args s 0 0 (fun q => bs ≤ q)) 9 [] := by
  intro k
  induction k with
  | zero =>
    intro x1 x2 x3 x4 x5 I E
    have E : (none : Option (Im)) = some res := E
    cases E
  | succ k ih =>
    intro x1 x2 x3 x4 x5 I E
    unfold f_X8_make_9 at E
    refine v_iload C 5 dX8_make_9 rfl ?_
    refine v_aload_n (r := x1) C 1 dX8_make_11 rfl ?_
    obtain ⟨a11, h12, E⟩ := bnd E
    obtain ⟨hra11, hoa11⟩ := ob_is h12
    refine v_getI (r := x1) C fa_X8_22 rfl hra11 hoa11 dX8_make_12 ?_
    refine v_icmp_ge C 80 E dX8_make_15 rfl (fun c24 E => ?_) (fun c24 E => ?_)
    · exact v_sub [0, 1, 3] [(0, va_rf (some o)), (1, va_rf x1), (3, va_rf x3)] rfl (w_X8_make_80 C ho res  _ _ _ E)
    · refine v_aload_n (r := (some o)) C 0 dX8_make_18 rfl ?_
      refine v_getI (r := (some o)) C fa_X8_28 rfl rfl ho dX8_make_19 ?_
      refine v_bipush C dX8_make_22 k_bipush_m5 ?_
      refine v_icmp_ne C 80 E dX8_make_24 rfl (fun c23 E => ?_) (fun c23 E => ?_)
      · refine v_aload_n (r := (some o)) C 0 dX8_make_27 rfl ?_
        refine v_aload_n (r := x1) C 1 dX8_make_28 rfl ?_
        refine v_iload C 5 dX8_make_29 rfl ?_
        refine v_aload_n (r := x3) C 3 dX8_make_31 rfl ?_
        obtain ⟨a13, h14, E⟩ := bnd E
        obtain ⟨hra13, hoa13⟩ := ob_is h14
        refine v_getI (r := x3) C fa_X8_31 rfl hra13 hoa13 dX8_make_32 ?_
        obtain ⟨q15, h16, E⟩ := bnd E
        refine v_callV (r := (some o)) (As := [va_rf x1, .int x5, .int (I a13 0)]) (rv := (some (.int q15.1))) (st := []) (st1 := [.int q15.1]) (ce1 := 0) (sl1 := 0) C cv_X8_36 (c_X8_walk (x1 := x1) (x2 := x5) (x3 := (I a13 0)) ho h16) rfl ho rfl rfl ⟨rfl, rfl, Nat.le_of_ble_eq_true rfl, Nat.le_of_ble_eq_true rfl⟩ ⟨Nat.le_of_ble_eq_true rfl, Nat.le_of_ble_eq_true rfl⟩ (Nat.le_of_ble_eq_true rfl) rfl rfl rfl dX8_make_35 ?_
        refine v_if_ne C 50 E dX8_make_38 rfl (fun c22 E => ?_) (fun c22 E => ?_)
        · refine v_aload_n (r := (some o)) C 0 dX8_make_41 rfl ?_
          refine v_iload C 5 dX8_make_42 rfl ?_
          refine v_putI (r := (some o)) C fa_X8_28 rfl E rfl ho ⟨rfl, rfl⟩ dX8_make_44 (fun I21 _ E => ?_)
          refine v_goto C 74 dX8_make_47 rfl ?_
          refine v_iinc (v := x5 + 1) C 5 [(5, .int (x5 + 1)), (0, va_rf (some o)), (1, va_rf x1), (2, va_rf x2), (3, va_rf x3), (4, va_rf x4)] dX8_make_74 rfl (k_inc_1 _) (Nat.le_of_ble_eq_true rfl) (by generalize x4 = rr; cases rr <;> rfl) ?_
          refine v_goto C 9 dX8_make_77 rfl ?_
          exact v_sub [1, 2, 3, 4, 5, 0] [(0, va_rf (some o)), (1, va_rf x1), (2, va_rf x2), (3, va_rf x3), (4, va_rf x4), (5, .int (x5 + 1))] rfl (ih _ _ _ _ _ _ E)
        · refine v_aload_n (r := (some o)) C 0 dX8_make_50 rfl ?_
          refine v_aload_n (r := x2) C 2 dX8_make_51 rfl ?_
          refine v_iload C 5 dX8_make_52 rfl ?_
          refine v_aload_n (r := x3) C 3 dX8_make_54 rfl ?_
          refine v_getR (r := x3) C fa_X8_40 rfl hra13 hoa13 dX8_make_55 ?_
          refine v_aload (r := x4) C 4 dX8_make_58 rfl ?_
          obtain ⟨q17, h18, E⟩ := bnd E
          refine v_callV (r := (some o)) (As := [va_rf x2, .int x5, va_rf (R a13 2), va_rf x4]) (rv := (some (.int q17.1))) (st := []) (st1 := [.int q17.1]) (ce1 := 0) (sl1 := 0) C cv_X8_44 (c_X8_visit (x1 := x2) (x2 := x5) (x3 := (R a13 2)) (x4 := x4) ho h18) rfl ho rfl rfl ⟨rfl, rfl, Nat.le_of_ble_eq_true rfl, Nat.le_of_ble_eq_true rfl⟩ ⟨Nat.le_of_ble_eq_true rfl, Nat.le_of_ble_eq_true rfl⟩ (Nat.le_of_ble_eq_true rfl) rfl rfl rfl dX8_make_60 ?_
          refine v_if_ne C 74 E dX8_make_63 rfl (fun c20 E => ?_) (fun c20 E => ?_)
          · refine v_aload_n (r := (some o)) C 0 dX8_make_66 rfl ?_
            refine v_iload C 5 dX8_make_67 rfl ?_
            refine v_iconst C dX8_make_69 k_iconst_1 ?_
            refine v_iadd C dX8_make_70 ?_
            refine v_putI (r := (some o)) C fa_X8_28 rfl E rfl ho ⟨rfl, rfl⟩ dX8_make_71 (fun I19 _ E => ?_)
            refine v_iinc (v := x5 + 1) C 5 [(5, .int (x5 + 1)), (0, va_rf (some o)), (1, va_rf x1), (2, va_rf x2), (3, va_rf x3), (4, va_rf x4)] dX8_make_74 rfl (k_inc_1 _) (Nat.le_of_ble_eq_true rfl) (by generalize x4 = rr; cases rr <;> rfl) ?_
            refine v_goto C 9 dX8_make_77 rfl ?_
            exact v_sub [1, 2, 3, 4, 5, 0] [(0, va_rf (some o)), (1, va_rf x1), (2, va_rf x2), (3, va_rf x3), (4, va_rf x4), (5, .int (x5 + 1))] rfl (ih _ _ _ _ _ _ E)
          · refine v_iinc (v := x5 + 1) C 5 [(5, .int (x5 + 1)), (0, va_rf (some o)), (1, va_rf x1), (2, va_rf x2), (3, va_rf x3), (4, va_rf x4)] dX8_make_74 rfl (k_inc_1 _) (Nat.le_of_ble_eq_true rfl) (by generalize x4 = rr; cases rr <;> rfl) ?_
            refine v_goto C 9 dX8_make_77 rfl ?_
            exact v_sub [1, 2, 3, 4, 5, 0] [(0, va_rf (some o)), (1, va_rf x1), (2, va_rf x2), (3, va_rf x3), (4, va_rf x4), (5, .int (x5 + 1))] rfl (ih _ _ _ _ _ _ E)
      · exact v_sub [0, 1, 3] [(0, va_rf (some o)), (1, va_rf x1), (3, va_rf x3)] rfl (w_X8_make_80 C ho res  _ _ _ E)
set_option maxHeartbeats 4000000 in
theorem w_X8_make_0 (C : Cx D cA bs Z p s m args meth c cX8_make RX8 6 none) {o : Nat} {K : Sh} {n : Nat} {J : Jm} {R : Rf} (ho : (K o).1 = 9) (res : Im) (x1 : Option Nat) (x2 : Option Nat) (x3 : Option Nat) (x4 : Option Nat) (I : Im) (E : f_X8_make K R o x1 x2 x3 x4 I = some res) : VW D cA bs Z p l e rX8_make s m args below meth c 6 [(0, va_rf (some o)), (1, va_rf x1), (2, va_rf x2), (3, va_rf x3), (4, va_rf x4)] K n I J R 0 0 (MQ below (QX D cA bs Z none K n res J R) args s 0 0 (fun q => bs ≤ q)) 0 [] := by
  unfold f_X8_make at E
  refine v_aload_n (r := (some o)) C 0 dX8_make_0 rfl ?_
  refine v_aload_n (r := x1) C 1 dX8_make_1 rfl ?_
  refine v_aload_n (r := x3) C 3 dX8_make_2 rfl ?_
  obtain ⟨q25, h26, E⟩ := bnd E
  refine v_callV (r := (some o)) (As := [va_rf x1, va_rf x3]) (rv := none) (st := []) (st1 := []) (ce1 := 0) (sl1 := 0) C cv_X8_18 (c_X8_begin (x1 := x1) (x2 := x3) ho h26) rfl ho rfl rfl ⟨rfl, rfl, Nat.le_of_ble_eq_true rfl, Nat.le_of_ble_eq_true rfl⟩ ⟨Nat.le_of_ble_eq_true rfl, Nat.le_of_ble_eq_true rfl⟩ (Nat.le_of_ble_eq_true rfl) rfl rfl rfl dX8_make_3 ?_
  refine v_iconst C dX8_make_6 k_iconst_0 ?_
  refine v_istore C [(5, .int 0), (0, va_rf (some o)), (1, va_rf x1), (2, va_rf x2), (3, va_rf x3), (4, va_rf x4)] dX8_make_7 (Nat.le_of_ble_eq_true rfl) (by generalize x4 = rr; cases rr <;> rfl) ?_
  exact v_sub [1, 2, 3, 4, 5, 0] [(0, va_rf (some o)), (1, va_rf x1), (2, va_rf x2), (3, va_rf x3), (4, va_rf x4), (5, .int 0)] rfl (w_X8_make_9 C ho res  _ _ _ _ _ _ _ E)
set_option maxHeartbeats 4000000 in
theorem c_X8_make {n : Nat} {K : Sh} {I : Im} {J : Jm} {R : Rf} {o : Nat} {x1 : Option Nat} {x2 : Option Nat} {x3 : Option Nat} {x4 : Option Nat} (ho : (K o).1 = 9) {res : Im} (E : f_X8_make K R o x1 x2 x3 x4 I = some res) : Met l yX8_make (Cond.code yX8_make cX8_make 6 none :: tb) rX8_make (PX D cA bs Z [.ref o, va_rf x1, va_rf x2, va_rf x3, va_rf x4] K n I J R) (QX D cA bs Z none K n res J R) 0 0 (fun q => bs ≤ q) := by
  refine met_of (lv1 := [(0, va_rf (some o)), (1, va_rf x1), (2, va_rf x2), (3, va_rf x3), (4, va_rf x4)]) pn_X8 (by cases x1 <;> cases x2 <;> cases x3 <;> cases x4 <;> exact Nat.le_of_ble_eq_true rfl) (by cases x1 <;> cases x2 <;> cases x3 <;> cases x4 <;> rfl) ?_
  intro p e s m args below meth c C hn
  exact v_sub [0, 1, 2, 3, 4] [(0, va_rf (some o)), (1, va_rf x1), (2, va_rf x2), (3, va_rf x3), (4, va_rf x4)] rfl (w_X8_make_0 C ho _ _ _ _ _ _ E)
set_option maxHeartbeats 4000000 in
theorem w_X9_init_0 (C : Cx D cA bs Z p s m args meth c cX9_init RX9 1 none) (hin : meth.name = "<init>") {o : Nat} {J : Jm} (res : Sh × Nat × Im × Rf) (K : Sh) (n : Nat) (I : Im) (R : Rf) (E : f_X9_init o K n I R = some res) : VW D cA bs Z p l e rX9_init s m args below meth c 1 [(0, va_rf (some o))] K n I J R 0 0 (MQ below (QX D cA bs Z none res.1 res.2.1 res.2.2.1 J res.2.2.2) args s 3 16 (fun q => bs ≤ q)) 0 [] := by
  unfold f_X9_init at E
  refine v_aload_n (r := (some o)) C 0 dX9_init_0 rfl ?_
  refine v_objInit (a := o) C oi_X9 oi_i oi_c (Nat.le_of_ble_eq_true rfl) (Nat.le_of_ble_eq_true rfl) dX9_init_1 ?_
  refine v_aload_n (r := (some o)) C 0 dX9_init_4 rfl ?_
  refine v_iconst C dX9_init_5 k_iconst_5 ?_
  refine v_newI (N := 5) (ce1 := 1) (sl1 := 5) C ac_int E (by decide) (by decide) rfl rfl (Nat.le_of_ble_eq_true rfl) (Nat.le_of_ble_eq_true rfl) dX9_init_6 (fun K1 _ E => ?_)
  refine v_mpI E (fun I2 _ E => ?_)
  obtain ⟨a3, h4, E⟩ := bnd E
  obtain ⟨hra3, hoa3⟩ := ob_is h4
  refine v_putRF (r := (some o)) (q := (some n)) C fa_X9_9 fo_X9_9 hin rfl E hra3 hoa3 dX9_init_8 (fun R5 _ E => ?_)
  refine v_aload_n (r := (some o)) C 0 dX9_init_11 rfl ?_
  refine v_iconst C dX9_init_12 k_iconst_5 ?_
  refine v_newI (N := 5) (ce1 := 2) (sl1 := 10) C ac_int E (by decide) (by decide) rfl rfl (Nat.le_of_ble_eq_true rfl) (Nat.le_of_ble_eq_true rfl) dX9_init_13 (fun K6 _ E => ?_)
  refine v_mpI E (fun I7 _ E => ?_)
  obtain ⟨a8, h9, E⟩ := bnd E
  obtain ⟨hra8, hoa8⟩ := ob_is h9
  refine v_putRF (r := (some o)) (q := (some (n + 1))) C fa_X9_15 fo_X9_15 hin rfl E hra8 hoa8 dX9_init_15 (fun R10 _ E => ?_)
  refine v_aload_n (r := (some o)) C 0 dX9_init_18 rfl ?_
  refine v_bipush C dX9_init_19 k_bipush_6 ?_
  refine v_newI (N := 6) (ce1 := 3) (sl1 := 16) C ac_int E (by decide) (by decide) rfl rfl (Nat.le_of_ble_eq_true rfl) (Nat.le_of_ble_eq_true rfl) dX9_init_21 (fun K11 _ E => ?_)
  refine v_mpI E (fun I12 _ E => ?_)
  obtain ⟨a13, h14, E⟩ := bnd E
  obtain ⟨hra13, hoa13⟩ := ob_is h14
  refine v_putRF (r := (some o)) (q := (some (n + 2))) C fa_X9_18 fo_X9_18 hin rfl E hra13 hoa13 dX9_init_23 (fun R15 _ E => ?_)
  refine v_aload_n (r := (some o)) C 0 dX9_init_26 rfl ?_
  refine v_null C dX9_init_27 ?_
  refine v_putR (r := (some o)) (q := none) C fa_X9_21 rfl E hra13 hoa13 dX9_init_28 (fun R16 _ E => ?_)
  obtain rfl := Option.some.inj E
  exact v_vret C rfl dX9_init_31
set_option maxHeartbeats 4000000 in
theorem c_X9_init {n : Nat} {K : Sh} {I : Im} {J : Jm} {R : Rf} {o : Nat}  {res : Sh × Nat × Im × Rf} (E : f_X9_init o K n I R = some res) : Met l yX9_init (Cond.code yX9_init cX9_init 1 none :: tb) rX9_init (PX D cA bs Z [.ref o] K n I J R) (QX D cA bs Z none res.1 res.2.1 res.2.2.1 J res.2.2.2) 3 16 (fun q => bs ≤ q) := by
  refine met_of (lv1 := [(0, va_rf (some o))]) pn_X9 (by exact Nat.le_of_ble_eq_true rfl) (by rfl) ?_
  intro p e s m args below meth c C hn
  exact v_sub [0] [(0, va_rf (some o))] rfl (w_X9_init_0 C (hn.trans rfl) _ _ _ _ _ E)
set_option maxHeartbeats 4000000 in
theorem w_X9_figure_0 (C : Cx D cA bs Z p s m args meth c cX9_figure RX9 2 (some .int)) {o : Nat} {K : Sh} {n : Nat} {I : Im} {J : Jm} {R : Rf} (ho : (K o).1 = 10) (res : Int32) (x1 : Int32) (E : f_X9_figure K I o x1 = some res) : VW D cA bs Z p l e rX9_figure s m args below meth c 2 [(0, va_rf (some o)), (1, .int x1)] K n I J R 0 0 (MQ below (QX D cA bs Z (some (.int res)) K n I J R) args s 0 0 (fun q => bs ≤ q)) 0 [] := by
  unfold f_X9_figure at E
  refine v_iload_n C 1 dX9_figure_0 rfl ?_
  by_cases c1 : x1 = 0
  · have E := ite_t E c1
    refine v_tableIn (off := 27) C 28 dX9_figure_1 (by rw [c1]; decide) (by rw [c1]; decide) (by rw [c1]; rfl) rfl ?_
    refine v_aload_n (r := (some o)) C 0 dX9_figure_28 rfl ?_
    refine v_getI (r := (some o)) C fa_X9_24 rfl rfl ho dX9_figure_29 ?_
    obtain rfl := Option.some.inj E
    exact v_iret C rfl dX9_figure_32
  have E := ite_f E c1
  by_cases c2 : x1 = 1
  · have E := ite_t E c2
    refine v_tableIn (off := 32) C 33 dX9_figure_1 (by rw [c2]; decide) (by rw [c2]; decide) (by rw [c2]; rfl) rfl ?_
    refine v_aload_n (r := (some o)) C 0 dX9_figure_33 rfl ?_
    refine v_getI (r := (some o)) C fa_X9_31 rfl rfl ho dX9_figure_34 ?_
    obtain rfl := Option.some.inj E
    exact v_iret C rfl dX9_figure_37
  have E := ite_f E c2
  by_cases c3 : x1 = 2
  · have E := ite_t E c3
    refine v_tableIn (off := 37) C 38 dX9_figure_1 (by rw [c3]; decide) (by rw [c3]; decide) (by rw [c3]; rfl) rfl ?_
    refine v_aload_n (r := (some o)) C 0 dX9_figure_38 rfl ?_
    refine v_getI (r := (some o)) C fa_X9_34 rfl rfl ho dX9_figure_39 ?_
    obtain rfl := Option.some.inj E
    exact v_iret C rfl dX9_figure_42
  have E := ite_f E c3
  refine v_tableOut C 43 dX9_figure_1 (by have hc1 := lv_neT c1 (show ((0 : Int32)).toInt = 0 from by decide); have hc2 := lv_neT c2 (show ((1 : Int32)).toInt = 1 from by decide); have hc3 := lv_neT c3 (show ((2 : Int32)).toInt = 2 from by decide); omega) rfl ?_
  refine v_aload_n (r := (some o)) C 0 dX9_figure_43 rfl ?_
  refine v_getI (r := (some o)) C fa_X9_37 rfl rfl ho dX9_figure_44 ?_
  obtain rfl := Option.some.inj E
  exact v_iret C rfl dX9_figure_47
set_option maxHeartbeats 4000000 in
theorem c_X9_figure {n : Nat} {K : Sh} {I : Im} {J : Jm} {R : Rf} {o : Nat} {x1 : Int32} (ho : (K o).1 = 10) {res : Int32} (E : f_X9_figure K I o x1 = some res) : Met l yX9_figure (Cond.code yX9_figure cX9_figure 2 (some .int) :: tb) rX9_figure (PX D cA bs Z [.ref o, .int x1] K n I J R) (QX D cA bs Z (some (.int res)) K n I J R) 0 0 (fun q => bs ≤ q) := by
  refine met_of (lv1 := [(0, va_rf (some o)), (1, .int x1)]) pn_X9 (by exact Nat.le_of_ble_eq_true rfl) (by rfl) ?_
  intro p e s m args below meth c C hn
  exact v_sub [0, 1] [(0, va_rf (some o)), (1, .int x1)] rfl (w_X9_figure_0 C ho _ _ E)
set_option maxHeartbeats 4000000 in
theorem w_X9_drunkIn_0 (C : Cx D cA bs Z p s m args meth c cX9_drunkIn RX9 5 (some .int)) {o : Nat} {K : Sh} {n : Nat} {I : Im} {J : Jm} {R : Rf} (ho : (K o).1 = 10) (res : Int32) (x1 : Int32) (x2 : Int32) (x3 : Int32) (E : f_X9_drunkIn K I R o x1 x2 x3 = some res) : VW D cA bs Z p l e rX9_drunkIn s m args below meth c 5 [(0, va_rf (some o)), (1, .int x1), (2, .int x2), (3, .int x3)] K n I J R 0 0 (MQ below (QX D cA bs Z (some (.int res)) K n I J R) args s 0 0 (fun q => bs ≤ q)) 0 [] := by
  unfold f_X9_drunkIn at E
  refine v_iload_n C 1 dX9_drunkIn_0 rfl ?_
  refine v_iload_n C 3 dX9_drunkIn_1 rfl ?_
  obtain ⟨q1, h2, E⟩ := bnd E
  refine v_callS (As := [.int x1, .int x3]) (rv := (some (.int q1))) (st := []) (st1 := [.int q1]) (ce1 := 0) (sl1 := 0) C cs_X9_46 (c_X9_sumsOf (x0 := x1) (x1 := x3) h2) rfl rfl ⟨rfl, rfl, Nat.le_of_ble_eq_true rfl, Nat.le_of_ble_eq_true rfl⟩ ⟨Nat.le_of_ble_eq_true rfl, Nat.le_of_ble_eq_true rfl⟩ (Nat.le_of_ble_eq_true rfl) rfl rfl rfl dX9_drunkIn_2 ?_
  refine v_iload_n C 2 dX9_drunkIn_5 rfl ?_
  refine v_bipush C dX9_drunkIn_6 k_bipush_24 ?_
  refine v_irem C dX9_drunkIn_8 k_nz_24 ?_
  refine v_iadd C dX9_drunkIn_9 ?_
  refine v_istore C [(4, .int (q1 + (irem x2 24))), (0, va_rf (some o)), (1, .int x1), (2, .int x2), (3, .int x3)] dX9_drunkIn_10 (Nat.le_of_ble_eq_true rfl) rfl ?_
  refine v_aload_n (r := (some o)) C 1 dX9_drunkIn_12 rfl ?_
  refine v_getR (r := (some o)) C fa_X9_21 rfl rfl ho dX9_drunkIn_13 ?_
  refine v_ifnull (r := (R o 8)) C 56 E dX9_drunkIn_16 rfl (fun c8 E => ?_) (fun c8 E => ?_)
  · refine v_iconst C dX9_drunkIn_56 k_iconst_0 ?_
    obtain rfl := Option.some.inj E
    exact v_iret C rfl dX9_drunkIn_57
  · refine v_iload C 0 dX9_drunkIn_19 rfl ?_
    refine v_if_lt C 56 E dX9_drunkIn_21 rfl (fun c7 E => ?_) (fun c7 E => ?_)
    · refine v_iconst C dX9_drunkIn_56 k_iconst_0 ?_
      obtain rfl := Option.some.inj E
      exact v_iret C rfl dX9_drunkIn_57
    · refine v_iload C 0 dX9_drunkIn_24 rfl ?_
      refine v_iconst C dX9_drunkIn_26 k_iconst_1 ?_
      refine v_iadd C dX9_drunkIn_27 ?_
      refine v_aload_n (r := (some o)) C 1 dX9_drunkIn_28 rfl ?_
      refine v_getR (r := (some o)) C fa_X9_21 rfl rfl ho dX9_drunkIn_29 ?_
      refine v_alen (r := (R o 8)) C E dX9_drunkIn_32 (fun v3 _ E => ?_)
      refine v_icmp_ge C 56 E dX9_drunkIn_33 rfl (fun c6 E => ?_) (fun c6 E => ?_)
      · refine v_iconst C dX9_drunkIn_56 k_iconst_0 ?_
        obtain rfl := Option.some.inj E
        exact v_iret C rfl dX9_drunkIn_57
      · refine v_aload_n (r := (some o)) C 1 dX9_drunkIn_36 rfl ?_
        refine v_getR (r := (some o)) C fa_X9_21 rfl rfl ho dX9_drunkIn_37 ?_
        refine v_iload C 0 dX9_drunkIn_40 rfl ?_
        refine v_iconst C dX9_drunkIn_42 k_iconst_1 ?_
        refine v_iadd C dX9_drunkIn_43 ?_
        refine v_iald (r := (R o 8)) C E dX9_drunkIn_44 (fun v4 _ E => ?_)
        refine v_aload_n (r := (some o)) C 1 dX9_drunkIn_45 rfl ?_
        refine v_getR (r := (some o)) C fa_X9_21 rfl rfl ho dX9_drunkIn_46 ?_
        refine v_iload C 0 dX9_drunkIn_49 rfl ?_
        refine v_iald (r := (R o 8)) C E dX9_drunkIn_51 (fun v5 _ E => ?_)
        refine v_isub C dX9_drunkIn_52 ?_
        refine v_goto C 57 dX9_drunkIn_53 rfl ?_
        obtain rfl := Option.some.inj E
        exact v_iret C rfl dX9_drunkIn_57
set_option maxHeartbeats 4000000 in
theorem c_X9_drunkIn {n : Nat} {K : Sh} {I : Im} {J : Jm} {R : Rf} {o : Nat} {x1 : Int32} {x2 : Int32} {x3 : Int32} (ho : (K o).1 = 10) {res : Int32} (E : f_X9_drunkIn K I R o x1 x2 x3 = some res) : Met l yX9_drunkIn (Cond.code yX9_drunkIn cX9_drunkIn 5 (some .int) :: tb) rX9_drunkIn (PX D cA bs Z [.ref o, .int x1, .int x2, .int x3] K n I J R) (QX D cA bs Z (some (.int res)) K n I J R) 0 0 (fun q => bs ≤ q) := by
  refine met_of (lv1 := [(0, va_rf (some o)), (1, .int x1), (2, .int x2), (3, .int x3)]) pn_X9 (by exact Nat.le_of_ble_eq_true rfl) (by rfl) ?_
  intro p e s m args below meth c C hn
  exact v_sub [0, 1, 2, 3] [(0, va_rf (some o)), (1, .int x1), (2, .int x2), (3, .int x3)] rfl (w_X9_drunkIn_0 C ho _ _ _ _ E)
set_option maxHeartbeats 4000000 in
theorem w_X9_becomeDug_38 (C : Cx D cA bs Z p s m args meth c cX9_becomeDug RX9 7 none) {o : Nat} {K : Sh} {n : Nat} {J : Jm} (ho : (K o).1 = 10) (res : Im × Rf) (r7 : Option Nat → Int32 → Int32 → Int32 → Int32 → Int32 → Im → Rf → Option (Im × Rf)) (hr7 : ∀ (x1 : Option Nat) (x2 : Int32) (x3 : Int32) (x4 : Int32) (x5 : Int32) (x6 : Int32) (I : Im) (R : Rf), r7 x1 x2 x3 x4 x5 x6 I R = some res → VW D cA bs Z p l e rX9_becomeDug s m args below meth c 7 [(0, va_rf (some o)), (1, va_rf x1), (2, .int x2), (3, .int x3), (4, .int x4), (5, .int x5), (6, .int x6)] K n I J R 0 0 (MQ below (QX D cA bs Z none K n res.1 J res.2) args s 0 0 (fun q => bs ≤ q)) 7 []) (x1 : Option Nat) (x2 : Int32) (x3 : Int32) (x4 : Int32) (x5 : Int32) (x6 : Int32) (I : Im) (R : Rf) (E : f_X9_becomeDug_38 K o r7 x1 x2 x3 x4 x5 x6 I R = some res) : VW D cA bs Z p l e rX9_becomeDug s m args below meth c 7 [(0, va_rf (some o)), (1, va_rf x1), (2, .int x2), (3, .int x3), (4, .int x4), (5, .int x5), (6, .int x6)] K n I J R 0 0 (MQ below (QX D cA bs Z none K n res.1 J res.2) args s 0 0 (fun q => bs ≤ q)) 38 [] := by
  unfold f_X9_becomeDug_38 at E
  refine v_aload_n (r := (some o)) C 0 dX9_becomeDug_38 rfl ?_
  refine v_aload_n (r := x1) C 1 dX9_becomeDug_39 rfl ?_
  obtain ⟨a1, h2, E⟩ := bnd E
  obtain ⟨hra1, hoa1⟩ := ob_is h2
  refine v_getR (r := x1) C fa_X9_9 rfl hra1 hoa1 dX9_becomeDug_40 ?_
  refine v_iload C 6 dX9_becomeDug_43 rfl ?_
  refine v_iald (r := (R a1 5)) C E dX9_becomeDug_45 (fun v3 _ E => ?_)
  refine v_aload_n (r := x1) C 1 dX9_becomeDug_46 rfl ?_
  refine v_getR (r := x1) C fa_X9_15 rfl hra1 hoa1 dX9_becomeDug_47 ?_
  refine v_iload C 6 dX9_becomeDug_50 rfl ?_
  refine v_iald (r := (R a1 6)) C E dX9_becomeDug_52 (fun v4 _ E => ?_)
  obtain ⟨q5, h6, E⟩ := bnd E
  refine v_callV (r := (some o)) (As := [.int v3, .int v4]) (rv := none) (st := []) (st1 := []) (ce1 := 0) (sl1 := 0) C cv_X9_52 (c_X9_addWell (x1 := v3) (x2 := v4) ho h6) rfl ho rfl rfl ⟨rfl, rfl, Nat.le_of_ble_eq_true rfl, Nat.le_of_ble_eq_true rfl⟩ ⟨Nat.le_of_ble_eq_true rfl, Nat.le_of_ble_eq_true rfl⟩ (Nat.le_of_ble_eq_true rfl) rfl rfl rfl dX9_becomeDug_53 ?_
  refine v_iinc (v := x6 + 1) C 6 [(6, .int (x6 + 1)), (0, va_rf (some o)), (1, va_rf x1), (2, .int x2), (3, .int x3), (4, .int x4), (5, .int x5)] dX9_becomeDug_56 rfl (k_inc_1 _) (Nat.le_of_ble_eq_true rfl) rfl ?_
  refine v_goto C 7 dX9_becomeDug_59 rfl ?_
  exact v_sub [1, 2, 3, 4, 5, 6, 0] [(0, va_rf (some o)), (1, va_rf x1), (2, .int x2), (3, .int x3), (4, .int x4), (5, .int x5), (6, .int (x6 + 1))] rfl (hr7 _ _ _ _ _ _ _ _ E)
set_option maxHeartbeats 4000000 in
theorem w_X9_becomeDug_81 (C : Cx D cA bs Z p s m args meth c cX9_becomeDug RX9 7 none) {o : Nat} {K : Sh} {n : Nat} {J : Jm} (ho : (K o).1 = 10) (res : Im × Rf)  : ∀ (k : Nat), ∀ (x1 : Option Nat) (x2 : Int32) (x3 : Int32) (x6 : Int32) (I : Im) (R : Rf), f_X9_becomeDug_81 K o k x1 x2 x3 x6 I R = some res → VW D cA bs Z p l e rX9_becomeDug s m args below meth c 7 [(0, va_rf (some o)), (1, va_rf x1), (2, .int x2), (3, .int x3), (6, .int x6)] K n I J R 0 0 (MQ below (QX D cA bs Z none K n res.1 J res.2) args s 0 0 (fun q => bs ≤ q)) 81 [] := by
  intro k
  induction k with
  | zero =>
    intro x1 x2 x3 x6 I R E
    have E : (none : Option (Im × Rf)) = some res := E
    cases E
  | succ k ih =>
    intro x1 x2 x3 x6 I R E
    unfold f_X9_becomeDug_81 at E
    refine v_iload C 4 dX9_becomeDug_81 rfl ?_
    refine v_aload_n (r := x1) C 1 dX9_becomeDug_83 rfl ?_
    obtain ⟨a7, h8, E⟩ := bnd E
    obtain ⟨hra7, hoa7⟩ := ob_is h8
    refine v_getI (r := x1) C fa_X9_24 rfl hra7 hoa7 dX9_becomeDug_84 ?_
    refine v_icmp_gt C 134 E dX9_becomeDug_87 rfl (fun c22 E => ?_) (fun c22 E => ?_)
    · refine v_aload_n (r := (some o)) C 0 dX9_becomeDug_134 rfl ?_
      refine v_aload_n (r := x1) C 1 dX9_becomeDug_135 rfl ?_
      refine v_getI (r := x1) C fa_X9_31 rfl hra7 hoa7 dX9_becomeDug_136 ?_
      refine v_putI (r := (some o)) C fa_X9_31 rfl E rfl ho ⟨rfl, rfl⟩ dX9_becomeDug_139 (fun I9 _ E => ?_)
      refine v_aload_n (r := (some o)) C 0 dX9_becomeDug_142 rfl ?_
      refine v_aload_n (r := x1) C 1 dX9_becomeDug_143 rfl ?_
      refine v_getI (r := x1) C fa_X9_34 rfl hra7 hoa7 dX9_becomeDug_144 ?_
      refine v_putI (r := (some o)) C fa_X9_34 rfl E rfl ho ⟨rfl, rfl⟩ dX9_becomeDug_147 (fun I10 _ E => ?_)
      refine v_aload_n (r := (some o)) C 0 dX9_becomeDug_150 rfl ?_
      refine v_aload_n (r := x1) C 1 dX9_becomeDug_151 rfl ?_
      refine v_getI (r := x1) C fa_X9_37 rfl hra7 hoa7 dX9_becomeDug_152 ?_
      refine v_putI (r := (some o)) C fa_X9_37 rfl E rfl ho ⟨rfl, rfl⟩ dX9_becomeDug_155 (fun I11 _ E => ?_)
      refine v_aload_n (r := (some o)) C 0 dX9_becomeDug_158 rfl ?_
      refine v_aload_n (r := x1) C 1 dX9_becomeDug_159 rfl ?_
      refine v_getR (r := x1) C fa_X9_21 rfl hra7 hoa7 dX9_becomeDug_160 ?_
      refine v_putR (r := (some o)) (q := (R a7 8)) C fa_X9_21 rfl E rfl ho dX9_becomeDug_163 (fun R12 _ E => ?_)
      obtain rfl := Option.some.inj E
      exact v_vret C rfl dX9_becomeDug_166
    · refine v_iload C 4 dX9_becomeDug_90 rfl ?_
      refine v_iload_n C 2 dX9_becomeDug_92 rfl ?_
      refine v_icmp_ne C 117 E dX9_becomeDug_93 rfl (fun c21 E => ?_) (fun c21 E => ?_)
      · refine v_aload_n (r := (some o)) C 0 dX9_becomeDug_96 rfl ?_
        refine v_iload_n C 3 dX9_becomeDug_97 rfl ?_
        obtain ⟨q16, h17, E⟩ := bnd E
        refine v_callV (r := (some o)) (As := [.int x3]) (rv := none) (st := []) (st1 := []) (ce1 := 0) (sl1 := 0) C cv_X9_56 (c_X9_addWay (x1 := x3) ho h17) rfl ho rfl rfl ⟨rfl, rfl, Nat.le_of_ble_eq_true rfl, Nat.le_of_ble_eq_true rfl⟩ ⟨Nat.le_of_ble_eq_true rfl, Nat.le_of_ble_eq_true rfl⟩ (Nat.le_of_ble_eq_true rfl) rfl rfl rfl dX9_becomeDug_98 ?_
        refine v_aload_n (r := (some o)) C 0 dX9_becomeDug_101 rfl ?_
        refine v_aload_n (r := x1) C 1 dX9_becomeDug_102 rfl ?_
        refine v_getR (r := x1) C fa_X9_18 rfl hra7 hoa7 dX9_becomeDug_103 ?_
        refine v_iload C 4 dX9_becomeDug_106 rfl ?_
        refine v_iald (r := (R a7 7)) C E dX9_becomeDug_108 (fun v18 _ E => ?_)
        refine v_iload_n C 3 dX9_becomeDug_109 rfl ?_
        refine v_isub C dX9_becomeDug_110 ?_
        obtain ⟨q19, h20, E⟩ := bnd E
        refine v_callV (r := (some o)) (As := [.int (v18 - x3)]) (rv := none) (st := []) (st1 := []) (ce1 := 0) (sl1 := 0) C cv_X9_56 (c_X9_addWay (x1 := (v18 - x3)) ho h20) rfl ho rfl rfl ⟨rfl, rfl, Nat.le_of_ble_eq_true rfl, Nat.le_of_ble_eq_true rfl⟩ ⟨Nat.le_of_ble_eq_true rfl, Nat.le_of_ble_eq_true rfl⟩ (Nat.le_of_ble_eq_true rfl) rfl rfl rfl dX9_becomeDug_111 ?_
        refine v_goto C 128 dX9_becomeDug_114 rfl ?_
        refine v_iinc (v := x6 + 1) C 4 [(6, .int (x6 + 1)), (0, va_rf (some o)), (1, va_rf x1), (2, .int x2), (3, .int x3)] dX9_becomeDug_128 rfl (k_inc_1 _) (Nat.le_of_ble_eq_true rfl) rfl ?_
        refine v_goto C 81 dX9_becomeDug_131 rfl ?_
        exact v_sub [1, 2, 3, 4, 0] [(0, va_rf (some o)), (1, va_rf x1), (2, .int x2), (3, .int x3), (6, .int (x6 + 1))] rfl (ih _ _ _ _ _ _ E)
      · refine v_aload_n (r := (some o)) C 0 dX9_becomeDug_117 rfl ?_
        refine v_aload_n (r := x1) C 1 dX9_becomeDug_118 rfl ?_
        refine v_getR (r := x1) C fa_X9_18 rfl hra7 hoa7 dX9_becomeDug_119 ?_
        refine v_iload C 4 dX9_becomeDug_122 rfl ?_
        refine v_iald (r := (R a7 7)) C E dX9_becomeDug_124 (fun v13 _ E => ?_)
        obtain ⟨q14, h15, E⟩ := bnd E
        refine v_callV (r := (some o)) (As := [.int v13]) (rv := none) (st := []) (st1 := []) (ce1 := 0) (sl1 := 0) C cv_X9_56 (c_X9_addWay (x1 := v13) ho h15) rfl ho rfl rfl ⟨rfl, rfl, Nat.le_of_ble_eq_true rfl, Nat.le_of_ble_eq_true rfl⟩ ⟨Nat.le_of_ble_eq_true rfl, Nat.le_of_ble_eq_true rfl⟩ (Nat.le_of_ble_eq_true rfl) rfl rfl rfl dX9_becomeDug_125 ?_
        refine v_iinc (v := x6 + 1) C 4 [(6, .int (x6 + 1)), (0, va_rf (some o)), (1, va_rf x1), (2, .int x2), (3, .int x3)] dX9_becomeDug_128 rfl (k_inc_1 _) (Nat.le_of_ble_eq_true rfl) rfl ?_
        refine v_goto C 81 dX9_becomeDug_131 rfl ?_
        exact v_sub [1, 2, 3, 4, 0] [(0, va_rf (some o)), (1, va_rf x1), (2, .int x2), (3, .int x3), (6, .int (x6 + 1))] rfl (ih _ _ _ _ _ _ E)
set_option maxHeartbeats 4000000 in
theorem w_X9_becomeDug_62 (C : Cx D cA bs Z p s m args meth c cX9_becomeDug RX9 7 none) {o : Nat} {K : Sh} {n : Nat} {J : Jm} (ho : (K o).1 = 10) (res : Im × Rf) (x1 : Option Nat) (x2 : Int32) (x3 : Int32) (x4 : Int32) (x5 : Int32) (I : Im) (R : Rf) (E : f_X9_becomeDug_62 K o x1 x2 x3 x4 x5 I R = some res) : VW D cA bs Z p l e rX9_becomeDug s m args below meth c 7 [(0, va_rf (some o)), (1, va_rf x1), (2, .int x2), (3, .int x3), (4, .int x4), (5, .int x5)] K n I J R 0 0 (MQ below (QX D cA bs Z none K n res.1 J res.2) args s 0 0 (fun q => bs ≤ q)) 62 [] := by
  unfold f_X9_becomeDug_62 at E
  refine v_iload_n C 2 dX9_becomeDug_62 rfl ?_
  refine v_aload_n (r := x1) C 1 dX9_becomeDug_63 rfl ?_
  obtain ⟨a23, h24, E⟩ := bnd E
  obtain ⟨hra23, hoa23⟩ := ob_is h24
  refine v_getI (r := x1) C fa_X9_24 rfl hra23 hoa23 dX9_becomeDug_64 ?_
  refine v_icmp_ne C 78 E dX9_becomeDug_67 rfl (fun c27 E => ?_) (fun c27 E => ?_)
  · refine v_aload_n (r := (some o)) C 0 dX9_becomeDug_70 rfl ?_
    refine v_iload C 4 dX9_becomeDug_71 rfl ?_
    refine v_iload C 5 dX9_becomeDug_73 rfl ?_
    obtain ⟨q25, h26, E⟩ := bnd E
    refine v_callV (r := (some o)) (As := [.int x4, .int x5]) (rv := none) (st := []) (st1 := []) (ce1 := 0) (sl1 := 0) C cv_X9_52 (c_X9_addWell (x1 := x4) (x2 := x5) ho h26) rfl ho rfl rfl ⟨rfl, rfl, Nat.le_of_ble_eq_true rfl, Nat.le_of_ble_eq_true rfl⟩ ⟨Nat.le_of_ble_eq_true rfl, Nat.le_of_ble_eq_true rfl⟩ (Nat.le_of_ble_eq_true rfl) rfl rfl rfl dX9_becomeDug_75 ?_
    refine v_iconst C dX9_becomeDug_78 k_iconst_0 ?_
    refine v_istore C [(6, .int 0), (0, va_rf (some o)), (1, va_rf x1), (2, .int x2), (3, .int x3), (4, .int x4), (5, .int x5)] dX9_becomeDug_79 (Nat.le_of_ble_eq_true rfl) rfl ?_
    exact v_sub [1, 2, 3, 4, 0] [(0, va_rf (some o)), (1, va_rf x1), (2, .int x2), (3, .int x3), (6, .int 0)] rfl (w_X9_becomeDug_81 C ho res  _ _ _ _ _ _ _ E)
  · refine v_iconst C dX9_becomeDug_78 k_iconst_0 ?_
    refine v_istore C [(6, .int 0), (0, va_rf (some o)), (1, va_rf x1), (2, .int x2), (3, .int x3), (4, .int x4), (5, .int x5)] dX9_becomeDug_79 (Nat.le_of_ble_eq_true rfl) rfl ?_
    exact v_sub [1, 2, 3, 4, 0] [(0, va_rf (some o)), (1, va_rf x1), (2, .int x2), (3, .int x3), (6, .int 0)] rfl (w_X9_becomeDug_81 C ho res  _ _ _ _ _ _ _ E)
set_option maxHeartbeats 4000000 in
theorem w_X9_becomeDug_7 (C : Cx D cA bs Z p s m args meth c cX9_becomeDug RX9 7 none) {o : Nat} {K : Sh} {n : Nat} {J : Jm} (ho : (K o).1 = 10) (res : Im × Rf)  : ∀ (k : Nat), ∀ (x1 : Option Nat) (x2 : Int32) (x3 : Int32) (x4 : Int32) (x5 : Int32) (x6 : Int32) (I : Im) (R : Rf), f_X9_becomeDug_7 K o k x1 x2 x3 x4 x5 x6 I R = some res → VW D cA bs Z p l e rX9_becomeDug s m args below meth c 7 [(0, va_rf (some o)), (1, va_rf x1), (2, .int x2), (3, .int x3), (4, .int x4), (5, .int x5), (6, .int x6)] K n I J R 0 0 (MQ below (QX D cA bs Z none K n res.1 J res.2) args s 0 0 (fun q => bs ≤ q)) 7 [] := by
  intro k
  induction k with
  | zero =>
    intro x1 x2 x3 x4 x5 x6 I R E
    have E : (none : Option (Im × Rf)) = some res := E
    cases E
  | succ k ih =>
    intro x1 x2 x3 x4 x5 x6 I R E
    unfold f_X9_becomeDug_7 at E
    refine v_iload C 6 dX9_becomeDug_7 rfl ?_
    refine v_aload_n (r := x1) C 1 dX9_becomeDug_9 rfl ?_
    obtain ⟨a28, h29, E⟩ := bnd E
    obtain ⟨hra28, hoa28⟩ := ob_is h29
    refine v_getI (r := x1) C fa_X9_24 rfl hra28 hoa28 dX9_becomeDug_10 ?_
    refine v_icmp_ge C 62 E dX9_becomeDug_13 rfl (fun c34 E => ?_) (fun c34 E => ?_)
    · exact v_sub [0, 1, 2, 3, 4, 5] [(0, va_rf (some o)), (1, va_rf x1), (2, .int x2), (3, .int x3), (4, .int x4), (5, .int x5)] rfl (w_X9_becomeDug_62 C ho res  _ _ _ _ _ _ _ E)
    · refine v_aload_n (r := (some o)) C 0 dX9_becomeDug_16 rfl ?_
      refine v_getI (r := (some o)) C fa_X9_24 rfl rfl ho dX9_becomeDug_17 ?_
      refine v_iconst C dX9_becomeDug_20 k_iconst_5 ?_
      refine v_icmp_ge C 62 E dX9_becomeDug_21 rfl (fun c33 E => ?_) (fun c33 E => ?_)
      · exact v_sub [0, 1, 2, 3, 4, 5] [(0, va_rf (some o)), (1, va_rf x1), (2, .int x2), (3, .int x3), (4, .int x4), (5, .int x5)] rfl (w_X9_becomeDug_62 C ho res  _ _ _ _ _ _ _ E)
      · refine v_iload C 6 dX9_becomeDug_24 rfl ?_
        refine v_iload_n C 2 dX9_becomeDug_26 rfl ?_
        refine v_icmp_ne C 38 E dX9_becomeDug_27 rfl (fun c32 E => ?_) (fun c32 E => ?_)
        · refine v_aload_n (r := (some o)) C 0 dX9_becomeDug_30 rfl ?_
          refine v_iload C 4 dX9_becomeDug_31 rfl ?_
          refine v_iload C 5 dX9_becomeDug_33 rfl ?_
          obtain ⟨q30, h31, E⟩ := bnd E
          refine v_callV (r := (some o)) (As := [.int x4, .int x5]) (rv := none) (st := []) (st1 := []) (ce1 := 0) (sl1 := 0) C cv_X9_52 (c_X9_addWell (x1 := x4) (x2 := x5) ho h31) rfl ho rfl rfl ⟨rfl, rfl, Nat.le_of_ble_eq_true rfl, Nat.le_of_ble_eq_true rfl⟩ ⟨Nat.le_of_ble_eq_true rfl, Nat.le_of_ble_eq_true rfl⟩ (Nat.le_of_ble_eq_true rfl) rfl rfl rfl dX9_becomeDug_35 ?_
          exact v_sub [0, 1, 2, 3, 4, 5, 6] [(0, va_rf (some o)), (1, va_rf x1), (2, .int x2), (3, .int x3), (4, .int x4), (5, .int x5), (6, .int x6)] rfl (w_X9_becomeDug_38 C ho res _ ih _ _ _ _ _ _ _ _ E)
        · exact v_sub [0, 1, 2, 3, 4, 5, 6] [(0, va_rf (some o)), (1, va_rf x1), (2, .int x2), (3, .int x3), (4, .int x4), (5, .int x5), (6, .int x6)] rfl (w_X9_becomeDug_38 C ho res _ ih _ _ _ _ _ _ _ _ E)
set_option maxHeartbeats 4000000 in
theorem w_X9_becomeDug_0 (C : Cx D cA bs Z p s m args meth c cX9_becomeDug RX9 7 none) {o : Nat} {K : Sh} {n : Nat} {J : Jm} (ho : (K o).1 = 10) (res : Im × Rf) (x1 : Option Nat) (x2 : Int32) (x3 : Int32) (x4 : Int32) (x5 : Int32) (I : Im) (R : Rf) (E : f_X9_becomeDug K o x1 x2 x3 x4 x5 I R = some res) : VW D cA bs Z p l e rX9_becomeDug s m args below meth c 7 [(0, va_rf (some o)), (1, va_rf x1), (2, .int x2), (3, .int x3), (4, .int x4), (5, .int x5)] K n I J R 0 0 (MQ below (QX D cA bs Z none K n res.1 J res.2) args s 0 0 (fun q => bs ≤ q)) 0 [] := by
  unfold f_X9_becomeDug at E
  refine v_aload_n (r := (some o)) C 0 dX9_becomeDug_0 rfl ?_
  obtain ⟨q35, h36, E⟩ := bnd E
  refine v_callV (r := (some o)) (As := []) (rv := none) (st := []) (st1 := []) (ce1 := 0) (sl1 := 0) C cv_X9_49 (c_X9_clear  ho h36) rfl ho rfl rfl ⟨rfl, rfl, Nat.le_of_ble_eq_true rfl, Nat.le_of_ble_eq_true rfl⟩ ⟨Nat.le_of_ble_eq_true rfl, Nat.le_of_ble_eq_true rfl⟩ (Nat.le_of_ble_eq_true rfl) rfl rfl rfl dX9_becomeDug_1 ?_
  refine v_iconst C dX9_becomeDug_4 k_iconst_0 ?_
  refine v_istore C [(6, .int 0), (0, va_rf (some o)), (1, va_rf x1), (2, .int x2), (3, .int x3), (4, .int x4), (5, .int x5)] dX9_becomeDug_5 (Nat.le_of_ble_eq_true rfl) rfl ?_
  exact v_sub [1, 2, 3, 4, 5, 6, 0] [(0, va_rf (some o)), (1, va_rf x1), (2, .int x2), (3, .int x3), (4, .int x4), (5, .int x5), (6, .int 0)] rfl (w_X9_becomeDug_7 C ho res  _ _ _ _ _ _ _ _ _ E)
set_option maxHeartbeats 4000000 in
theorem c_X9_becomeDug {n : Nat} {K : Sh} {I : Im} {J : Jm} {R : Rf} {o : Nat} {x1 : Option Nat} {x2 : Int32} {x3 : Int32} {x4 : Int32} {x5 : Int32} (ho : (K o).1 = 10) {res : Im × Rf} (E : f_X9_becomeDug K o x1 x2 x3 x4 x5 I R = some res) : Met l yX9_becomeDug (Cond.code yX9_becomeDug cX9_becomeDug 7 none :: tb) rX9_becomeDug (PX D cA bs Z [.ref o, va_rf x1, .int x2, .int x3, .int x4, .int x5] K n I J R) (QX D cA bs Z none K n res.1 J res.2) 0 0 (fun q => bs ≤ q) := by
  refine met_of (lv1 := [(0, va_rf (some o)), (1, va_rf x1), (2, .int x2), (3, .int x3), (4, .int x4), (5, .int x5)]) pn_X9 (by cases x1 <;> exact Nat.le_of_ble_eq_true rfl) (by cases x1 <;> rfl) ?_
  intro p e s m args below meth c C hn
  exact v_sub [0, 1, 2, 3, 4, 5] [(0, va_rf (some o)), (1, va_rf x1), (2, .int x2), (3, .int x3), (4, .int x4), (5, .int x5)] rfl (w_X9_becomeDug_0 C ho _ _ _ _ _ _ _ _ E)
set_option maxHeartbeats 4000000 in
theorem w_X10_fill_2 (C : Cx D cA bs Z p s m args meth c cX10_fill RX10 3 none) {o : Nat} {K : Sh} {n : Nat} {J : Jm} {R : Rf} (ho : (K o).1 = 11) (res : Im)  : ∀ (k : Nat), ∀ (x1 : Option Nat) (x2 : Int32) (I : Im), f_X10_fill_2 K R o k x1 x2 I = some res → VW D cA bs Z p l e rX10_fill s m args below meth c 3 [(0, va_rf (some o)), (1, va_rf x1), (2, .int x2)] K n I J R 0 0 (MQ below (QX D cA bs Z none K n res J R) args s 0 0 (fun q => bs ≤ q)) 2 [] := by
  intro k
  induction k with
  | zero =>
    intro x1 x2 I E
    have E : (none : Option (Im)) = some res := E
    cases E
  | succ k ih =>
    intro x1 x2 I E
    unfold f_X10_fill_2 at E
    refine v_iload_n C 2 dX10_fill_2 rfl ?_
    refine v_iconst C dX10_fill_3 k_iconst_5 ?_
    refine v_icmp_ge C 56 E dX10_fill_4 rfl (fun c10 E => ?_) (fun c10 E => ?_)
    · obtain rfl := Option.some.inj E
      exact v_vret C rfl dX10_fill_56
    · refine v_aload_n (r := (some o)) C 0 dX10_fill_7 rfl ?_
      refine v_getR (r := (some o)) C fa_X10_9 rfl rfl ho dX10_fill_8 ?_
      refine v_iload_n C 2 dX10_fill_11 rfl ?_
      refine v_aload_n (r := x1) C 1 dX10_fill_12 rfl ?_
      obtain ⟨a1, h2, E⟩ := bnd E
      obtain ⟨hra1, hoa1⟩ := ob_is h2
      refine v_getR (r := x1) C fa_X10_24 rfl hra1 hoa1 dX10_fill_13 ?_
      refine v_iload_n C 2 dX10_fill_16 rfl ?_
      refine v_iald (r := (R a1 5)) C E dX10_fill_17 (fun v3 _ E => ?_)
      refine v_iast (r := (R o 0)) C E dX10_fill_18 (fun I4 _ E => ?_)
      refine v_aload_n (r := (some o)) C 0 dX10_fill_19 rfl ?_
      refine v_getR (r := (some o)) C fa_X10_15 rfl rfl ho dX10_fill_20 ?_
      refine v_iload_n C 2 dX10_fill_23 rfl ?_
      refine v_aload_n (r := x1) C 1 dX10_fill_24 rfl ?_
      refine v_getR (r := x1) C fa_X10_27 rfl hra1 hoa1 dX10_fill_25 ?_
      refine v_iload_n C 2 dX10_fill_28 rfl ?_
      refine v_iald (r := (R a1 6)) C E dX10_fill_29 (fun v5 _ E => ?_)
      refine v_iast (r := (R o 1)) C E dX10_fill_30 (fun I6 _ E => ?_)
      refine v_aload_n (r := (some o)) C 0 dX10_fill_31 rfl ?_
      refine v_getR (r := (some o)) C fa_X10_18 rfl rfl ho dX10_fill_32 ?_
      refine v_iload_n C 2 dX10_fill_35 rfl ?_
      refine v_aload_n (r := x1) C 1 dX10_fill_36 rfl ?_
      refine v_getR (r := x1) C fa_X10_24 rfl hra1 hoa1 dX10_fill_37 ?_
      refine v_iload_n C 2 dX10_fill_40 rfl ?_
      refine v_iald (r := (R a1 5)) C E dX10_fill_41 (fun v7 _ E => ?_)
      refine v_iast (r := (R o 2)) C E dX10_fill_42 (fun I8 _ E => ?_)
      refine v_aload_n (r := (some o)) C 0 dX10_fill_43 rfl ?_
      refine v_getR (r := (some o)) C fa_X10_21 rfl rfl ho dX10_fill_44 ?_
      refine v_iload_n C 2 dX10_fill_47 rfl ?_
      refine v_iconst C dX10_fill_48 k_iconst_0 ?_
      refine v_iast (r := (R o 3)) C E dX10_fill_49 (fun I9 _ E => ?_)
      refine v_iinc (v := x2 + 1) C 2 [(2, .int (x2 + 1)), (0, va_rf (some o)), (1, va_rf x1)] dX10_fill_50 rfl (k_inc_1 _) (Nat.le_of_ble_eq_true rfl) (by generalize x1 = rr; cases rr <;> rfl) ?_
      refine v_goto C 2 dX10_fill_53 rfl ?_
      exact v_sub [1, 2, 0] [(0, va_rf (some o)), (1, va_rf x1), (2, .int (x2 + 1))] rfl (ih _ _ _ E)
set_option maxHeartbeats 4000000 in
theorem w_X10_fill_0 (C : Cx D cA bs Z p s m args meth c cX10_fill RX10 3 none) {o : Nat} {K : Sh} {n : Nat} {J : Jm} {R : Rf} (ho : (K o).1 = 11) (res : Im) (x1 : Option Nat) (I : Im) (E : f_X10_fill K R o x1 I = some res) : VW D cA bs Z p l e rX10_fill s m args below meth c 3 [(0, va_rf (some o)), (1, va_rf x1)] K n I J R 0 0 (MQ below (QX D cA bs Z none K n res J R) args s 0 0 (fun q => bs ≤ q)) 0 [] := by
  unfold f_X10_fill at E
  refine v_iconst C dX10_fill_0 k_iconst_0 ?_
  refine v_istore_n C [(2, .int 0), (0, va_rf (some o)), (1, va_rf x1)] dX10_fill_1 (Nat.le_of_ble_eq_true rfl) (by generalize x1 = rr; cases rr <;> rfl) ?_
  exact v_sub [1, 2, 0] [(0, va_rf (some o)), (1, va_rf x1), (2, .int 0)] rfl (w_X10_fill_2 C ho res  _ _ _ _ E)
set_option maxHeartbeats 4000000 in
theorem c_X10_fill {n : Nat} {K : Sh} {I : Im} {J : Jm} {R : Rf} {o : Nat} {x1 : Option Nat} (ho : (K o).1 = 11) {res : Im} (E : f_X10_fill K R o x1 I = some res) : Met l yX10_fill (Cond.code yX10_fill cX10_fill 3 none :: tb) rX10_fill (PX D cA bs Z [.ref o, va_rf x1] K n I J R) (QX D cA bs Z none K n res J R) 0 0 (fun q => bs ≤ q) := by
  refine met_of (lv1 := [(0, va_rf (some o)), (1, va_rf x1)]) pn_X10 (by cases x1 <;> exact Nat.le_of_ble_eq_true rfl) (by cases x1 <;> rfl) ?_
  intro p e s m args below meth c C hn
  exact v_sub [0, 1] [(0, va_rf (some o)), (1, va_rf x1)] rfl (w_X10_fill_0 C ho _ _ _ E)
set_option maxHeartbeats 4000000 in
theorem w_X10_dryUp_0 (C : Cx D cA bs Z p s m args meth c cX10_dryUp RX10 2 none) {o : Nat} {K : Sh} {n : Nat} {J : Jm} {R : Rf} (ho : (K o).1 = 11) (res : Im) (x1 : Int32) (I : Im) (E : f_X10_dryUp K R o x1 I = some res) : VW D cA bs Z p l e rX10_dryUp s m args below meth c 2 [(0, va_rf (some o)), (1, .int x1)] K n I J R 0 0 (MQ below (QX D cA bs Z none K n res J R) args s 0 0 (fun q => bs ≤ q)) 0 [] := by
  unfold f_X10_dryUp at E
  refine v_aload_n (r := (some o)) C 0 dX10_dryUp_0 rfl ?_
  refine v_getR (r := (some o)) C fa_X10_9 rfl rfl ho dX10_dryUp_1 ?_
  refine v_iload_n C 1 dX10_dryUp_4 rfl ?_
  refine v_iconst C dX10_dryUp_5 k_iconst_0 ?_
  refine v_iast (r := (R o 0)) C E dX10_dryUp_6 (fun I1 _ E => ?_)
  refine v_aload_n (r := (some o)) C 0 dX10_dryUp_7 rfl ?_
  refine v_getR (r := (some o)) C fa_X10_15 rfl rfl ho dX10_dryUp_8 ?_
  refine v_iload_n C 1 dX10_dryUp_11 rfl ?_
  refine v_iconst C dX10_dryUp_12 k_iconst_0 ?_
  refine v_iast (r := (R o 1)) C E dX10_dryUp_13 (fun I2 _ E => ?_)
  refine v_aload_n (r := (some o)) C 0 dX10_dryUp_14 rfl ?_
  refine v_getR (r := (some o)) C fa_X10_18 rfl rfl ho dX10_dryUp_15 ?_
  refine v_iload_n C 1 dX10_dryUp_18 rfl ?_
  refine v_iconst C dX10_dryUp_19 k_iconst_0 ?_
  refine v_iast (r := (R o 2)) C E dX10_dryUp_20 (fun I3 _ E => ?_)
  obtain rfl := Option.some.inj E
  exact v_vret C rfl dX10_dryUp_21
set_option maxHeartbeats 4000000 in
theorem c_X10_dryUp {n : Nat} {K : Sh} {I : Im} {J : Jm} {R : Rf} {o : Nat} {x1 : Int32} (ho : (K o).1 = 11) {res : Im} (E : f_X10_dryUp K R o x1 I = some res) : Met l yX10_dryUp (Cond.code yX10_dryUp cX10_dryUp 2 none :: tb) rX10_dryUp (PX D cA bs Z [.ref o, .int x1] K n I J R) (QX D cA bs Z none K n res J R) 0 0 (fun q => bs ≤ q) := by
  refine met_of (lv1 := [(0, va_rf (some o)), (1, .int x1)]) pn_X10 (by exact Nat.le_of_ble_eq_true rfl) (by rfl) ?_
  intro p e s m args below meth c C hn
  exact v_sub [0, 1] [(0, va_rf (some o)), (1, .int x1)] rfl (w_X10_dryUp_0 C ho _ _ _ E)
set_option maxHeartbeats 4000000 in
set_option maxRecDepth 100000 in
theorem w_X11_init_155 (C : Cx D cA bs Z p s m args meth c cX11_init RX11 2 none) (hin : meth.name = "<init>") {o : Nat}  (res : Sh × Nat × Im × Jm × Rf)  : ∀ (k : Nat), k ≤ 7 → ∀ (x1 : Int32) (K : Sh) (n : Nat) (I : Im) (J : Jm) (R : Rf), f_X11_init_155 o k x1 K n I J R = some res → VW D cA bs Z p l e rX11_init s m args below meth c 2 [(0, va_rf (some o)), (1, .int x1)] K n I J R (49 + (7 - k) * 2) (755 + (7 - k) * 63) (MQ below (QX D cA bs Z none res.1 res.2.1 res.2.2.1 res.2.2.2.1 res.2.2.2.2) args s 63 1196 (fun q => bs ≤ q)) 155 [] := by
  intro k
  induction k with
  | zero =>
    intro hkF x1 K n I J R E
    have E : (none : Option (Sh × Nat × Im × Jm × Rf)) = some res := E
    cases E
  | succ k ih =>
    intro hkF x1 K n I J R E
    have ih := ih (by omega)
    unfold f_X11_init_155 at E
    refine v_iload_n C 1 dX11_init_155 rfl ?_
    refine v_bipush C dX11_init_156 k_bipush_6 ?_
    refine v_icmp_ge C 180 E dX11_init_158 rfl (fun c9 E => ?_) (fun c9 E => ?_)
    · refine v_widen (k1 := 63) (k2 := 1196) (by omega) (by omega) ?_
      obtain rfl := Option.some.inj E
      exact v_vret C rfl dX11_init_180
    · refine v_aload_n (r := (some o)) C 0 dX11_init_161 rfl ?_
      obtain ⟨a1, h2, E⟩ := bnd E
      obtain ⟨hra1, hoa1⟩ := ob_is h2
      refine v_getR (r := (some o)) C fa_X11_46 rfl hra1 hoa1 dX11_init_162 ?_
      refine v_iload_n C 1 dX11_init_165 rfl ?_
      refine v_new (ce1 := ((49 + (7 - (k + 1)) * 2) + 1)) (sl1 := ((755 + (7 - (k + 1)) * 63) + 3)) C nc_X11_44 E rfl rfl (by show _ ≤ 63; omega) (by show _ ≤ 1196; omega) dX11_init_166 (fun K3 _ E => ?_)
      refine v_mpI E (fun I4 _ E => ?_)
      refine v_mpR E (fun R5 _ E => ?_)
      refine v_dup C dX11_init_169 (rf_cat _) ?_
      obtain ⟨q6, h7, E⟩ := bnd E
      refine v_callI (r := (some n)) (a := n) (As := []) (st := [va_rf (some n), .int x1, va_rf (R a1 10)]) (ce1 := (((49 + (7 - (k + 1)) * 2) + 1) + 1)) (sl1 := (((755 + (7 - (k + 1)) * 63) + 3) + 60)) C ci_X11_100 (c_X7_init  h7) rfl rfl rfl ⟨rfl, rfl, Nat.le_of_ble_eq_true rfl, Nat.le_of_ble_eq_true rfl⟩ ⟨by show _ ≤ 63; omega, by show _ ≤ 1196; omega⟩ (by simp only [List.map_cons, List.map_nil, List.sum_cons, List.sum_nil, rf_cat]; exact Nat.le_of_ble_eq_true rfl) rfl rfl dX11_init_170 ?_
      refine v_aast (r := (R a1 10)) (q := (some n)) C (by decide) E dX11_init_173 (fun R8 _ E => ?_)
      refine v_iinc (v := x1 + 1) C 1 [(1, .int (x1 + 1)), (0, va_rf (some o))] dX11_init_174 rfl (k_inc_1 _) (Nat.le_of_ble_eq_true rfl) rfl ?_
      refine v_goto C 155 dX11_init_177 rfl ?_
      refine v_widen (k1 := (49 + (7 - k) * 2)) (k2 := (755 + (7 - k) * 63)) (by omega) (by omega) ?_
      exact v_sub [1, 0] [(0, va_rf (some o)), (1, .int (x1 + 1))] rfl (ih _ _ _ _ _ _ E)
set_option maxHeartbeats 4000000 in
set_option maxRecDepth 100000 in
theorem w_X11_init_0 (C : Cx D cA bs Z p s m args meth c cX11_init RX11 2 none) (hin : meth.name = "<init>") {o : Nat}  (res : Sh × Nat × Im × Jm × Rf) (K : Sh) (n : Nat) (I : Im) (J : Jm) (R : Rf) (E : f_X11_init o K n I J R = some res) : VW D cA bs Z p l e rX11_init s m args below meth c 2 [(0, va_rf (some o))] K n I J R 0 0 (MQ below (QX D cA bs Z none res.1 res.2.1 res.2.2.1 res.2.2.2.1 res.2.2.2.2) args s 63 1196 (fun q => bs ≤ q)) 0 [] := by
  unfold f_X11_init at E
  refine v_aload_n (r := (some o)) C 0 dX11_init_0 rfl ?_
  refine v_objInit (a := o) C oi_X11 oi_i oi_c (Nat.le_of_ble_eq_true rfl) (Nat.le_of_ble_eq_true rfl) dX11_init_1 ?_
  refine v_aload_n (r := (some o)) C 0 dX11_init_4 rfl ?_
  refine v_new (ce1 := 1) (sl1 := 10) C nc_X11_9 E rfl rfl (Nat.le_of_ble_eq_true rfl) (Nat.le_of_ble_eq_true rfl) dX11_init_5 (fun K10 _ E => ?_)
  refine v_mpI E (fun I11 _ E => ?_)
  refine v_mpR E (fun R12 _ E => ?_)
  refine v_dup C dX11_init_8 (rf_cat _) ?_
  obtain ⟨q13, h14, E⟩ := bnd E
  refine v_callI (r := (some n)) (a := n) (As := []) (st := [va_rf (some n), va_rf (some o)]) (ce1 := 5) (sl1 := 146) C ci_X11_11 (c_X4_init  h14) rfl rfl rfl ⟨rfl, rfl, Nat.le_of_ble_eq_true rfl, Nat.le_of_ble_eq_true rfl⟩ ⟨Nat.le_of_ble_eq_true rfl, Nat.le_of_ble_eq_true rfl⟩ (by simp only [List.map_cons, List.map_nil, List.sum_cons, List.sum_nil, rf_cat]; exact Nat.le_of_ble_eq_true rfl) rfl rfl dX11_init_9 ?_
  obtain ⟨a15, h16, E⟩ := bnd E
  obtain ⟨hra15, hoa15⟩ := ob_is h16
  refine v_putRF (r := (some o)) (q := (some n)) C fa_X11_12 fo_X11_12 hin rfl E hra15 hoa15 dX11_init_12 (fun R17 _ E => ?_)
  refine v_aload_n (r := (some o)) C 0 dX11_init_15 rfl ?_
  refine v_null C dX11_init_16 ?_
  refine v_putR (r := (some o)) (q := none) C fa_X11_18 rfl E hra15 hoa15 dX11_init_17 (fun R18 _ E => ?_)
  refine v_aload_n (r := (some o)) C 0 dX11_init_20 rfl ?_
  refine v_bipush C dX11_init_21 k_bipush_10 ?_
  refine v_anew (t := 5) (N := 10) (ce1 := 6) (sl1 := 156) C (by decide) rfl cl_X11_22 E (by decide) (by decide) rfl rfl (Nat.le_of_ble_eq_true rfl) (Nat.le_of_ble_eq_true rfl) dX11_init_23 (fun K19 _ E => ?_)
  refine v_mpR E (fun R20 _ E => ?_)
  obtain ⟨a21, h22, E⟩ := bnd E
  obtain ⟨hra21, hoa21⟩ := ob_is h22
  refine v_putRF (r := (some o)) (q := (some q13.2.1)) C fa_X11_24 fo_X11_24 hin rfl E hra21 hoa21 dX11_init_26 (fun R23 _ E => ?_)
  refine v_aload_n (r := (some o)) C 0 dX11_init_29 rfl ?_
  refine v_bipush C dX11_init_30 k_bipush_6 ?_
  refine v_anew (t := 4) (N := 6) (ce1 := 7) (sl1 := 162) C (by decide) rfl cl_X11_28 E (by decide) (by decide) rfl rfl (Nat.le_of_ble_eq_true rfl) (Nat.le_of_ble_eq_true rfl) dX11_init_32 (fun K24 _ E => ?_)
  refine v_mpR E (fun R25 _ E => ?_)
  obtain ⟨a26, h27, E⟩ := bnd E
  obtain ⟨hra26, hoa26⟩ := ob_is h27
  refine v_putRF (r := (some o)) (q := (some (q13.2.1 + 1))) C fa_X11_30 fo_X11_30 hin rfl E hra26 hoa26 dX11_init_35 (fun R28 _ E => ?_)
  refine v_aload_n (r := (some o)) C 0 dX11_init_38 rfl ?_
  refine v_new (ce1 := 8) (sl1 := 169) C nc_X11_34 E rfl rfl (Nat.le_of_ble_eq_true rfl) (Nat.le_of_ble_eq_true rfl) dX11_init_39 (fun K29 _ E => ?_)
  refine v_mpI E (fun I30 _ E => ?_)
  refine v_mpR E (fun R31 _ E => ?_)
  refine v_dup C dX11_init_42 (rf_cat _) ?_
  obtain ⟨q32, h33, E⟩ := bnd E
  refine v_callI (r := (some (q13.2.1 + 2))) (a := (q13.2.1 + 2)) (As := []) (st := [va_rf (some (q13.2.1 + 2)), va_rf (some o)]) (ce1 := 16) (sl1 := 206) C ci_X11_36 (c_X6_init  h33) rfl rfl rfl ⟨rfl, rfl, Nat.le_of_ble_eq_true rfl, Nat.le_of_ble_eq_true rfl⟩ ⟨Nat.le_of_ble_eq_true rfl, Nat.le_of_ble_eq_true rfl⟩ (by simp only [List.map_cons, List.map_nil, List.sum_cons, List.sum_nil, rf_cat]; exact Nat.le_of_ble_eq_true rfl) rfl rfl dX11_init_43 ?_
  obtain ⟨a34, h35, E⟩ := bnd E
  obtain ⟨hra34, hoa34⟩ := ob_is h35
  refine v_putRF (r := (some o)) (q := (some (q13.2.1 + 2))) C fa_X11_37 fo_X11_37 hin rfl E hra34 hoa34 dX11_init_46 (fun R36 _ E => ?_)
  refine v_aload_n (r := (some o)) C 0 dX11_init_49 rfl ?_
  refine v_new (ce1 := 17) (sl1 := 213) C nc_X11_34 E rfl rfl (Nat.le_of_ble_eq_true rfl) (Nat.le_of_ble_eq_true rfl) dX11_init_50 (fun K37 _ E => ?_)
  refine v_mpI E (fun I38 _ E => ?_)
  refine v_mpR E (fun R39 _ E => ?_)
  refine v_dup C dX11_init_53 (rf_cat _) ?_
  obtain ⟨q40, h41, E⟩ := bnd E
  refine v_callI (r := (some q32.2.1)) (a := q32.2.1) (As := []) (st := [va_rf (some q32.2.1), va_rf (some o)]) (ce1 := 25) (sl1 := 250) C ci_X11_36 (c_X6_init  h41) rfl rfl rfl ⟨rfl, rfl, Nat.le_of_ble_eq_true rfl, Nat.le_of_ble_eq_true rfl⟩ ⟨Nat.le_of_ble_eq_true rfl, Nat.le_of_ble_eq_true rfl⟩ (by simp only [List.map_cons, List.map_nil, List.sum_cons, List.sum_nil, rf_cat]; exact Nat.le_of_ble_eq_true rfl) rfl rfl dX11_init_54 ?_
  obtain ⟨a42, h43, E⟩ := bnd E
  obtain ⟨hra42, hoa42⟩ := ob_is h43
  refine v_putRF (r := (some o)) (q := (some q32.2.1)) C fa_X11_41 fo_X11_41 hin rfl E hra42 hoa42 dX11_init_57 (fun R44 _ E => ?_)
  refine v_aload_n (r := (some o)) C 0 dX11_init_60 rfl ?_
  refine v_bipush C dX11_init_61 k_bipush_6 ?_
  refine v_anew (t := 6) (N := 6) (ce1 := 26) (sl1 := 256) C (by decide) rfl cl_X11_44 E (by decide) (by decide) rfl rfl (Nat.le_of_ble_eq_true rfl) (Nat.le_of_ble_eq_true rfl) dX11_init_63 (fun K45 _ E => ?_)
  refine v_mpR E (fun R46 _ E => ?_)
  obtain ⟨a47, h48, E⟩ := bnd E
  obtain ⟨hra47, hoa47⟩ := ob_is h48
  refine v_putRF (r := (some o)) (q := (some q40.2.1)) C fa_X11_46 fo_X11_46 hin rfl E hra47 hoa47 dX11_init_66 (fun R49 _ E => ?_)
  refine v_aload_n (r := (some o)) C 0 dX11_init_69 rfl ?_
  refine v_new (ce1 := 27) (sl1 := 258) C nc_X11_50 E rfl rfl (Nat.le_of_ble_eq_true rfl) (Nat.le_of_ble_eq_true rfl) dX11_init_70 (fun K50 _ E => ?_)
  refine v_mpI E (fun I51 _ E => ?_)
  refine v_mpR E (fun R52 _ E => ?_)
  refine v_dup C dX11_init_73 (rf_cat _) ?_
  obtain ⟨q53, h54, E⟩ := bnd E
  refine v_callI (r := (some (q40.2.1 + 1))) (a := (q40.2.1 + 1)) (As := []) (st := [va_rf (some (q40.2.1 + 1)), va_rf (some o)]) (ce1 := 28) (sl1 := 278) C ci_X11_52 (c_X0_init  h54) rfl rfl rfl ⟨rfl, rfl, Nat.le_of_ble_eq_true rfl, Nat.le_of_ble_eq_true rfl⟩ ⟨Nat.le_of_ble_eq_true rfl, Nat.le_of_ble_eq_true rfl⟩ (by simp only [List.map_cons, List.map_nil, List.sum_cons, List.sum_nil, rf_cat]; exact Nat.le_of_ble_eq_true rfl) rfl rfl dX11_init_74 ?_
  obtain ⟨a55, h56, E⟩ := bnd E
  obtain ⟨hra55, hoa55⟩ := ob_is h56
  refine v_putRF (r := (some o)) (q := (some (q40.2.1 + 1))) C fa_X11_53 fo_X11_53 hin rfl E hra55 hoa55 dX11_init_77 (fun R57 _ E => ?_)
  refine v_aload_n (r := (some o)) C 0 dX11_init_80 rfl ?_
  refine v_new (ce1 := 29) (sl1 := 286) C nc_X11_57 E rfl rfl (Nat.le_of_ble_eq_true rfl) (Nat.le_of_ble_eq_true rfl) dX11_init_81 (fun K58 _ E => ?_)
  refine v_mpI E (fun I59 _ E => ?_)
  refine v_mpR E (fun R60 _ E => ?_)
  refine v_dup C dX11_init_84 (rf_cat _) ?_
  obtain ⟨q61, h62, E⟩ := bnd E
  refine v_callI (r := (some q53.2.1)) (a := q53.2.1) (As := []) (st := [va_rf (some q53.2.1), va_rf (some o)]) (ce1 := 31) (sl1 := 296) C ci_X11_59 (c_X8_init  h62) rfl rfl rfl ⟨rfl, rfl, Nat.le_of_ble_eq_true rfl, Nat.le_of_ble_eq_true rfl⟩ ⟨Nat.le_of_ble_eq_true rfl, Nat.le_of_ble_eq_true rfl⟩ (by simp only [List.map_cons, List.map_nil, List.sum_cons, List.sum_nil, rf_cat]; exact Nat.le_of_ble_eq_true rfl) rfl rfl dX11_init_85 ?_
  obtain ⟨a63, h64, E⟩ := bnd E
  obtain ⟨hra63, hoa63⟩ := ob_is h64
  refine v_putRF (r := (some o)) (q := (some q53.2.1)) C fa_X11_60 fo_X11_60 hin rfl E hra63 hoa63 dX11_init_88 (fun R65 _ E => ?_)
  refine v_aload_n (r := (some o)) C 0 dX11_init_91 rfl ?_
  refine v_new (ce1 := 32) (sl1 := 306) C nc_X11_64 E rfl rfl (Nat.le_of_ble_eq_true rfl) (Nat.le_of_ble_eq_true rfl) dX11_init_92 (fun K66 _ E => ?_)
  refine v_mpI E (fun I67 _ E => ?_)
  refine v_mpR E (fun R68 _ E => ?_)
  refine v_dup C dX11_init_95 (rf_cat _) ?_
  obtain ⟨q69, h70, E⟩ := bnd E
  refine v_callI (r := (some q61.2.1)) (a := q61.2.1) (As := []) (st := [va_rf (some q61.2.1), va_rf (some o)]) (ce1 := 36) (sl1 := 689) C ci_X11_66 (c_X3_init  h70) rfl rfl rfl ⟨rfl, rfl, Nat.le_of_ble_eq_true rfl, Nat.le_of_ble_eq_true rfl⟩ ⟨Nat.le_of_ble_eq_true rfl, Nat.le_of_ble_eq_true rfl⟩ (by simp only [List.map_cons, List.map_nil, List.sum_cons, List.sum_nil, rf_cat]; exact Nat.le_of_ble_eq_true rfl) rfl rfl dX11_init_96 ?_
  obtain ⟨a71, h72, E⟩ := bnd E
  obtain ⟨hra71, hoa71⟩ := ob_is h72
  refine v_putRF (r := (some o)) (q := (some q61.2.1)) C fa_X11_67 fo_X11_67 hin rfl E hra71 hoa71 dX11_init_99 (fun R73 _ E => ?_)
  refine v_aload_n (r := (some o)) C 0 dX11_init_102 rfl ?_
  refine v_new (ce1 := 37) (sl1 := 695) C nc_X11_71 E rfl rfl (Nat.le_of_ble_eq_true rfl) (Nat.le_of_ble_eq_true rfl) dX11_init_103 (fun K74 _ E => ?_)
  refine v_mpI E (fun I75 _ E => ?_)
  refine v_mpR E (fun R76 _ E => ?_)
  refine v_dup C dX11_init_106 (rf_cat _) ?_
  obtain ⟨q77, h78, E⟩ := bnd E
  refine v_callI (r := (some q69.2.1)) (a := q69.2.1) (As := []) (st := [va_rf (some q69.2.1), va_rf (some o)]) (ce1 := 38) (sl1 := 698) C ci_X11_73 (c_X2_init  h78) rfl rfl rfl ⟨rfl, rfl, Nat.le_of_ble_eq_true rfl, Nat.le_of_ble_eq_true rfl⟩ ⟨Nat.le_of_ble_eq_true rfl, Nat.le_of_ble_eq_true rfl⟩ (by simp only [List.map_cons, List.map_nil, List.sum_cons, List.sum_nil, rf_cat]; exact Nat.le_of_ble_eq_true rfl) rfl rfl dX11_init_107 ?_
  obtain ⟨a79, h80, E⟩ := bnd E
  obtain ⟨hra79, hoa79⟩ := ob_is h80
  refine v_putRF (r := (some o)) (q := (some q69.2.1)) C fa_X11_74 fo_X11_74 hin rfl E hra79 hoa79 dX11_init_110 (fun R81 _ E => ?_)
  refine v_aload_n (r := (some o)) C 0 dX11_init_113 rfl ?_
  refine v_new (ce1 := 39) (sl1 := 702) C nc_X11_78 E rfl rfl (Nat.le_of_ble_eq_true rfl) (Nat.le_of_ble_eq_true rfl) dX11_init_114 (fun K82 _ E => ?_)
  refine v_mpI E (fun I83 _ E => ?_)
  refine v_mpR E (fun R84 _ E => ?_)
  refine v_dup C dX11_init_117 (rf_cat _) ?_
  obtain ⟨q85, h86, E⟩ := bnd E
  refine v_callI (r := (some q77.2.1)) (a := q77.2.1) (As := []) (st := [va_rf (some q77.2.1), va_rf (some o)]) (ce1 := 43) (sl1 := 722) C ci_X11_80 (c_X10_init  h86) rfl rfl rfl ⟨rfl, rfl, Nat.le_of_ble_eq_true rfl, Nat.le_of_ble_eq_true rfl⟩ ⟨Nat.le_of_ble_eq_true rfl, Nat.le_of_ble_eq_true rfl⟩ (by simp only [List.map_cons, List.map_nil, List.sum_cons, List.sum_nil, rf_cat]; exact Nat.le_of_ble_eq_true rfl) rfl rfl dX11_init_118 ?_
  obtain ⟨a87, h88, E⟩ := bnd E
  obtain ⟨hra87, hoa87⟩ := ob_is h88
  refine v_putRF (r := (some o)) (q := (some q77.2.1)) C fa_X11_81 fo_X11_81 hin rfl E hra87 hoa87 dX11_init_121 (fun R89 _ E => ?_)
  refine v_aload_n (r := (some o)) C 0 dX11_init_124 rfl ?_
  refine v_new (ce1 := 44) (sl1 := 731) C nc_X11_85 E rfl rfl (Nat.le_of_ble_eq_true rfl) (Nat.le_of_ble_eq_true rfl) dX11_init_125 (fun K90 _ E => ?_)
  refine v_mpI E (fun I91 _ E => ?_)
  refine v_mpR E (fun R92 _ E => ?_)
  refine v_dup C dX11_init_128 (rf_cat _) ?_
  obtain ⟨q93, h94, E⟩ := bnd E
  refine v_callI (r := (some q85.2.1)) (a := q85.2.1) (As := []) (st := [va_rf (some q85.2.1), va_rf (some o)]) (ce1 := 47) (sl1 := 747) C ci_X11_87 (c_X9_init  h94) rfl rfl rfl ⟨rfl, rfl, Nat.le_of_ble_eq_true rfl, Nat.le_of_ble_eq_true rfl⟩ ⟨Nat.le_of_ble_eq_true rfl, Nat.le_of_ble_eq_true rfl⟩ (by simp only [List.map_cons, List.map_nil, List.sum_cons, List.sum_nil, rf_cat]; exact Nat.le_of_ble_eq_true rfl) rfl rfl dX11_init_129 ?_
  obtain ⟨a95, h96, E⟩ := bnd E
  obtain ⟨hra95, hoa95⟩ := ob_is h96
  refine v_putRF (r := (some o)) (q := (some q85.2.1)) C fa_X11_88 fo_X11_88 hin rfl E hra95 hoa95 dX11_init_132 (fun R97 _ E => ?_)
  refine v_aload_n (r := (some o)) C 0 dX11_init_135 rfl ?_
  refine v_new (ce1 := 48) (sl1 := 750) C nc_X11_28 E rfl rfl (Nat.le_of_ble_eq_true rfl) (Nat.le_of_ble_eq_true rfl) dX11_init_136 (fun K98 _ E => ?_)
  refine v_mpI E (fun I99 _ E => ?_)
  refine v_mpR E (fun R100 _ E => ?_)
  refine v_dup C dX11_init_139 (rf_cat _) ?_
  obtain ⟨a101, h102, E⟩ := bnd E
  obtain ⟨hra101, hoa101⟩ := ob_is h102
  obtain ⟨q103, h104, E⟩ := bnd E
  refine v_callI (r := (some q93.2.1)) (a := a101) (As := []) (st := [va_rf (some q93.2.1), va_rf (some o)]) (ce1 := 48) (sl1 := 750) C ci_X11_91 (c_X1_init  hoa101 h104) hra101 rfl rfl ⟨rfl, rfl, Nat.le_of_ble_eq_true rfl, Nat.le_of_ble_eq_true rfl⟩ ⟨Nat.le_of_ble_eq_true rfl, Nat.le_of_ble_eq_true rfl⟩ (by simp only [List.map_cons, List.map_nil, List.sum_cons, List.sum_nil, rf_cat]; exact Nat.le_of_ble_eq_true rfl) rfl rfl dX11_init_140 ?_
  obtain ⟨a105, h106, E⟩ := bnd E
  obtain ⟨hra105, hoa105⟩ := ob_is h106
  refine v_putRF (r := (some o)) (q := (some q93.2.1)) C fa_X11_92 fo_X11_92 hin rfl E hra105 hoa105 dX11_init_143 (fun R107 _ E => ?_)
  refine v_aload_n (r := (some o)) C 0 dX11_init_146 rfl ?_
  refine v_iconst C dX11_init_147 k_iconst_5 ?_
  refine v_newI (N := 5) (ce1 := 49) (sl1 := 755) C ac_int E (by decide) (by decide) rfl rfl (Nat.le_of_ble_eq_true rfl) (Nat.le_of_ble_eq_true rfl) dX11_init_148 (fun K108 _ E => ?_)
  refine v_mpI E (fun I109 _ E => ?_)
  obtain ⟨a110, h111, E⟩ := bnd E
  obtain ⟨hra110, hoa110⟩ := ob_is h111
  refine v_putRF (r := (some o)) (q := (some (q93.2.1 + 1))) C fa_X11_96 fo_X11_96 hin rfl E hra110 hoa110 dX11_init_150 (fun R112 _ E => ?_)
  refine v_iconst C dX11_init_153 k_iconst_0 ?_
  refine v_istore_n C [(1, .int 0), (0, va_rf (some o))] dX11_init_154 (Nat.le_of_ble_eq_true rfl) rfl ?_
  refine v_widen (k1 := (49 + (7 - 7) * 2)) (k2 := (755 + (7 - 7) * 63)) (by omega) (by omega) ?_
  exact v_sub [1, 0] [(0, va_rf (some o)), (1, .int 0)] rfl (w_X11_init_155 C hin res  _ (Nat.le_refl _) _ _ _ _ _ _ E)
set_option maxHeartbeats 4000000 in
theorem c_X11_init {n : Nat} {K : Sh} {I : Im} {J : Jm} {R : Rf} {o : Nat}  {res : Sh × Nat × Im × Jm × Rf} (E : f_X11_init o K n I J R = some res) : Met l yX11_init (Cond.code yX11_init cX11_init 2 none :: tb) rX11_init (PX D cA bs Z [.ref o] K n I J R) (QX D cA bs Z none res.1 res.2.1 res.2.2.1 res.2.2.2.1 res.2.2.2.2) 63 1196 (fun q => bs ≤ q) := by
  refine met_of (lv1 := [(0, va_rf (some o))]) pn_X11 (by exact Nat.le_of_ble_eq_true rfl) (by rfl) ?_
  intro p e s m args below meth c C hn
  exact v_sub [0] [(0, va_rf (some o))] rfl (w_X11_init_0 C (hn.trans rfl) _ _ _ _ _ _ E)
set_option maxHeartbeats 4000000 in
theorem w_X11_within_0 (C : Cx D cA bs Z p s m args meth c cX11_within RX11 3 (some .boolean)) {K : Sh} {n : Nat} {I : Im} {J : Jm} {R : Rf} (res : Int32) (x0 : Int32) (x1 : Int32) (x2 : Int32) (E : f_X11_within  x0 x1 x2 = some res) : VW D cA bs Z p l e rX11_within s m args below meth c 3 [(0, .int x0), (1, .int x1), (2, .int x2)] K n I J R 0 0 (MQ below (QX D cA bs Z (some (.int res)) K n I J R) args s 0 0 (fun q => bs ≤ q)) 0 [] := by
  unfold f_X11_within at E
  refine v_iload_n C 0 dX11_within_0 rfl ?_
  refine v_iload_n C 1 dX11_within_1 rfl ?_
  refine v_icmp_lt C 14 E dX11_within_2 rfl (fun c2 E => ?_) (fun c2 E => ?_)
  · refine v_iconst C dX11_within_14 k_iconst_0 ?_
    obtain rfl := Option.some.inj E
    exact v_zret (v := 0) C rfl nz_0 dX11_within_15
  · refine v_iload_n C 0 dX11_within_5 rfl ?_
    refine v_iload_n C 2 dX11_within_6 rfl ?_
    refine v_icmp_gt C 14 E dX11_within_7 rfl (fun c1 E => ?_) (fun c1 E => ?_)
    · refine v_iconst C dX11_within_14 k_iconst_0 ?_
      obtain rfl := Option.some.inj E
      exact v_zret (v := 0) C rfl nz_0 dX11_within_15
    · refine v_iconst C dX11_within_10 k_iconst_1 ?_
      refine v_goto C 15 dX11_within_11 rfl ?_
      obtain rfl := Option.some.inj E
      exact v_zret (v := 1) C rfl nz_1 dX11_within_15
set_option maxHeartbeats 4000000 in
theorem c_X11_within {n : Nat} {K : Sh} {I : Im} {J : Jm} {R : Rf} {x0 : Int32} {x1 : Int32} {x2 : Int32} {res : Int32} (E : f_X11_within x0 x1 x2 = some res) : Met l yX11_within (Cond.code yX11_within cX11_within 3 (some .boolean) :: tb) rX11_within (PX D cA bs Z [.int x0, .int x1, .int x2] K n I J R) (QX D cA bs Z (some (.int res)) K n I J R) 0 0 (fun q => bs ≤ q) := by
  refine met_of (lv1 := [(0, .int x0), (1, .int x1), (2, .int x2)]) pn_X11 (by exact Nat.le_of_ble_eq_true rfl) (by rfl) ?_
  intro p e s m args below meth c C hn
  exact v_sub [0, 1, 2] [(0, .int x0), (1, .int x1), (2, .int x2)] rfl (w_X11_within_0 C _ _ _ _ E)
set_option maxHeartbeats 4000000 in
theorem w_X11_feed_33 (C : Cx D cA bs Z p s m args meth c cX11_feed RX11 4 (some .int)) {o : Nat} {K : Sh} {n : Nat} {J : Jm} {R : Rf} (ho : (K o).1 = 12) (res : Int32 × Im)  : ∀ (k : Nat), ∀ (x1 : Int32) (x3 : Int32) (I : Im), f_X11_feed_33 K R o k x1 x3 I = some res → VW D cA bs Z p l e rX11_feed s m args below meth c 4 [(0, va_rf (some o)), (1, .int x1), (3, .int x3)] K n I J R 0 0 (MQ below (QX D cA bs Z (some (.int res.1)) K n res.2 J R) args s 0 0 (fun q => bs ≤ q)) 33 [] := by
  intro k
  induction k with
  | zero =>
    intro x1 x3 I E
    have E : (none : Option (Int32 × Im)) = some res := E
    cases E
  | succ k ih =>
    intro x1 x3 I E
    unfold f_X11_feed_33 at E
    refine v_iload_n C 2 dX11_feed_33 rfl ?_
    refine v_if_lt C 57 E dX11_feed_34 rfl (fun c7 E => ?_) (fun c7 E => ?_)
    · refine v_aload_n (r := (some o)) C 0 dX11_feed_57 rfl ?_
      refine v_getR (r := (some o)) C fa_X11_12 rfl rfl ho dX11_feed_58 ?_
      obtain ⟨a1, h2, E⟩ := bnd E
      obtain ⟨hra1, hoa1⟩ := ob_is h2
      refine v_getI (r := (R o 0)) C fa_X11_105 rfl hra1 hoa1 dX11_feed_61 ?_
      obtain rfl := Option.some.inj E
      exact v_iret C rfl dX11_feed_64
    · refine v_aload_n (r := (some o)) C 0 dX11_feed_37 rfl ?_
      refine v_getR (r := (some o)) C fa_X11_12 rfl rfl ho dX11_feed_38 ?_
      refine v_iload_n C 1 dX11_feed_41 rfl ?_
      refine v_bipush C dX11_feed_42 k_bipush_8 ?_
      refine v_iload_n C 2 dX11_feed_44 rfl ?_
      refine v_imul C dX11_feed_45 ?_
      refine v_ishr C dX11_feed_46 ?_
      refine v_i2b C dX11_feed_47 ?_
      obtain ⟨a3, h4, E⟩ := bnd E
      obtain ⟨hra3, hoa3⟩ := ob_is h4
      obtain ⟨q5, h6, E⟩ := bnd E
      refine v_callV (r := (R o 0)) (As := [.int ((ishr x1 (8 * x3)).toInt8.toInt32)]) (rv := none) (st := []) (st1 := []) (ce1 := 0) (sl1 := 0) C cv_X11_109 (c_X4_put (x1 := ((ishr x1 (8 * x3)).toInt8.toInt32)) hoa3 h6) hra3 hoa3 rfl rfl ⟨rfl, rfl, Nat.le_of_ble_eq_true rfl, Nat.le_of_ble_eq_true rfl⟩ ⟨Nat.le_of_ble_eq_true rfl, Nat.le_of_ble_eq_true rfl⟩ (Nat.le_of_ble_eq_true rfl) rfl rfl rfl dX11_feed_48 ?_
      refine v_iinc (v := x3 - 1) C 2 [(3, .int (x3 - 1)), (0, va_rf (some o)), (1, .int x1)] dX11_feed_51 rfl (k_inc_m1 _) (Nat.le_of_ble_eq_true rfl) rfl ?_
      refine v_goto C 33 dX11_feed_54 rfl ?_
      exact v_sub [1, 2, 0] [(0, va_rf (some o)), (1, .int x1), (3, .int (x3 - 1))] rfl (ih _ _ _ E)
set_option maxHeartbeats 4000000 in
theorem w_X11_feed_0 (C : Cx D cA bs Z p s m args meth c cX11_feed RX11 4 (some .int)) {o : Nat} {K : Sh} {n : Nat} {J : Jm} {R : Rf} (ho : (K o).1 = 12) (res : Int32 × Im) (x1 : Int32) (x2 : Int32) (I : Im) (E : f_X11_feed K R o x1 x2 I = some res) : VW D cA bs Z p l e rX11_feed s m args below meth c 4 [(0, va_rf (some o)), (1, .int x1), (2, .int x2)] K n I J R 0 0 (MQ below (QX D cA bs Z (some (.int res.1)) K n res.2 J R) args s 0 0 (fun q => bs ≤ q)) 0 [] := by
  unfold f_X11_feed at E
  refine v_iload_n C 2 dX11_feed_0 rfl ?_
  refine v_iconst C dX11_feed_1 k_iconst_0 ?_
  refine v_iconst C dX11_feed_2 k_iconst_4 ?_
  obtain ⟨q8, h9, E⟩ := bnd E
  refine v_callS (As := [.int x2, .int 0, .int 4]) (rv := (some (.int q8))) (st := []) (st1 := [.int q8]) (ce1 := 0) (sl1 := 0) C cs_X11_101 (c_X11_within (x0 := x2) (x1 := 0) (x2 := 4) h9) rfl rfl ⟨rfl, rfl, Nat.le_of_ble_eq_true rfl, Nat.le_of_ble_eq_true rfl⟩ ⟨Nat.le_of_ble_eq_true rfl, Nat.le_of_ble_eq_true rfl⟩ (Nat.le_of_ble_eq_true rfl) rfl rfl rfl dX11_feed_3 ?_
  refine v_if_ne C 12 E dX11_feed_6 rfl (fun c13 E => ?_) (fun c13 E => ?_)
  · refine v_bipush C dX11_feed_9 k_bipush_m2 ?_
    obtain rfl := Option.some.inj E
    exact v_iret C rfl dX11_feed_11
  · refine v_aload_n (r := (some o)) C 0 dX11_feed_12 rfl ?_
    refine v_getR (r := (some o)) C fa_X11_12 rfl rfl ho dX11_feed_13 ?_
    obtain ⟨a10, h11, E⟩ := bnd E
    obtain ⟨hra10, hoa10⟩ := ob_is h11
    refine v_getI (r := (R o 0)) C fa_X11_105 rfl hra10 hoa10 dX11_feed_16 ?_
    refine v_iload_n C 2 dX11_feed_19 rfl ?_
    refine v_iadd C dX11_feed_20 ?_
    refine v_bipush C dX11_feed_21 k_bipush_100 ?_
    refine v_icmp_le C 29 E dX11_feed_23 rfl (fun c12 E => ?_) (fun c12 E => ?_)
    · refine v_iload_n C 2 dX11_feed_29 rfl ?_
      refine v_iconst C dX11_feed_30 k_iconst_1 ?_
      refine v_isub C dX11_feed_31 ?_
      refine v_istore_n C [(3, .int (x2 - 1)), (0, va_rf (some o)), (1, .int x1), (2, .int x2)] dX11_feed_32 (Nat.le_of_ble_eq_true rfl) rfl ?_
      exact v_sub [1, 2, 0] [(0, va_rf (some o)), (1, .int x1), (3, .int (x2 - 1))] rfl (w_X11_feed_33 C ho res  _ _ _ _ E)
    · refine v_bipush C dX11_feed_26 k_bipush_m4 ?_
      obtain rfl := Option.some.inj E
      exact v_iret C rfl dX11_feed_28
set_option maxHeartbeats 4000000 in
theorem c_X11_feed {n : Nat} {K : Sh} {I : Im} {J : Jm} {R : Rf} {o : Nat} {x1 : Int32} {x2 : Int32} (ho : (K o).1 = 12) {res : Int32 × Im} (E : f_X11_feed K R o x1 x2 I = some res) : Met l yX11_feed (Cond.code yX11_feed cX11_feed 4 (some .int) :: tb) rX11_feed (PX D cA bs Z [.ref o, .int x1, .int x2] K n I J R) (QX D cA bs Z (some (.int res.1)) K n res.2 J R) 0 0 (fun q => bs ≤ q) := by
  refine met_of (lv1 := [(0, va_rf (some o)), (1, .int x1), (2, .int x2)]) pn_X11 (by exact Nat.le_of_ble_eq_true rfl) (by rfl) ?_
  intro p e s m args below meth c C hn
  exact v_sub [0, 1, 2] [(0, va_rf (some o)), (1, .int x1), (2, .int x2)] rfl (w_X11_feed_0 C ho _ _ _ _ E)
set_option maxHeartbeats 4000000 in
theorem w_X11_waste_29 (C : Cx D cA bs Z p s m args meth c cX11_waste RX11 2 (some .int)) {o : Nat} {J : Jm} (res : Int32 × Sh × Nat × Im × Rf) (K : Sh) (n : Nat) (I : Im) (R : Rf) (E : f_X11_waste_29 Z o K n I R = some res) : VW D cA bs Z p l e rX11_waste s m args below meth c 2 [(0, va_rf (some o))] K n I J R 4 25 (MQ below (QX D cA bs Z (some (.int res.1)) res.2.1 res.2.2.1 res.2.2.2.1 J res.2.2.2.2) args s 5 1807 (fun q => bs ≤ q)) 29 [] := by
  unfold f_X11_waste_29 at E
  refine v_aload_n (r := (some o)) C 0 dX11_waste_29 rfl ?_
  obtain ⟨a1, h2, E⟩ := bnd E
  obtain ⟨hra1, hoa1⟩ := ob_is h2
  refine v_getR (r := (some o)) C fa_X11_12 rfl hra1 hoa1 dX11_waste_30 ?_
  refine v_aload_n (r := (some o)) C 0 dX11_waste_33 rfl ?_
  refine v_getR (r := (some o)) C fa_X11_18 rfl hra1 hoa1 dX11_waste_34 ?_
  obtain ⟨a3, h4, E⟩ := bnd E
  obtain ⟨hra3, hoa3⟩ := ob_is h4
  obtain ⟨q5, h6, E⟩ := bnd E
  refine v_callV (r := (R a1 0)) (As := [va_rf (R a1 2)]) (rv := (some (.int q5.1))) (st := []) (st1 := [.int q5.1]) (ce1 := 5) (sl1 := 1807) C cv_X11_116 (c_X4_readInto (x1 := (R a1 2)) h6) hra3 hoa3 rfl rfl ⟨rfl, rfl, Nat.le_of_ble_eq_true rfl, Nat.le_of_ble_eq_true rfl⟩ ⟨Nat.le_of_ble_eq_true rfl, Nat.le_of_ble_eq_true rfl⟩ (Nat.le_of_ble_eq_true rfl) rfl rfl rfl dX11_waste_37 ?_
  refine v_istore_n C [(1, .int q5.1), (0, va_rf (some o))] dX11_waste_40 (Nat.le_of_ble_eq_true rfl) rfl ?_
  refine v_aload_n (r := (some o)) C 1 dX11_waste_41 rfl ?_
  obtain ⟨a7, h8, E⟩ := bnd E
  obtain ⟨hra7, hoa7⟩ := ob_is h8
  refine v_getR (r := (some o)) C fa_X11_12 rfl hra7 hoa7 dX11_waste_42 ?_
  refine v_iconst C dX11_waste_45 k_iconst_0 ?_
  obtain ⟨a9, h10, E⟩ := bnd E
  obtain ⟨hra9, hoa9⟩ := ob_is h10
  refine v_putI (r := (q5.2.2.2.2 a7 0)) C fa_X11_105 rfl E hra9 hoa9 ⟨rfl, rfl⟩ dX11_waste_46 (fun I11 _ E => ?_)
  refine v_iload_n C 0 dX11_waste_49 rfl ?_
  refine v_if_lt C 58 E dX11_waste_50 rfl (fun c23 E => ?_) (fun c23 E => ?_)
  · refine v_aload_n (r := (some o)) C 1 dX11_waste_58 rfl ?_
    refine v_getR (r := (some o)) C fa_X11_37 rfl hra7 hoa7 dX11_waste_59 ?_
    refine v_aload_n (r := (some o)) C 1 dX11_waste_62 rfl ?_
    refine v_getR (r := (some o)) C fa_X11_18 rfl hra7 hoa7 dX11_waste_63 ?_
    obtain ⟨a12, h13, E⟩ := bnd E
    obtain ⟨hra12, hoa12⟩ := ob_is h13
    refine v_putR (r := (q5.2.2.2.2 a7 7)) (q := (q5.2.2.2.2 a7 2)) C fa_X11_120 rfl E hra12 hoa12 dX11_waste_66 (fun R14 _ E => ?_)
    refine v_aload_n (r := (some o)) C 1 dX11_waste_69 rfl ?_
    refine v_getR (r := (some o)) C fa_X11_37 rfl hra7 hoa7 dX11_waste_70 ?_
    obtain ⟨a15, h16, E⟩ := bnd E
    obtain ⟨hra15, hoa15⟩ := ob_is h16
    refine v_getR (r := (R14 a7 7)) C fa_X11_123 rfl hra15 hoa15 dX11_waste_73 ?_
    refine v_aload_n (r := (some o)) C 1 dX11_waste_76 rfl ?_
    refine v_getR (r := (some o)) C fa_X11_18 rfl hra7 hoa7 dX11_waste_77 ?_
    obtain ⟨a17, h18, E⟩ := bnd E
    obtain ⟨hra17, hoa17⟩ := ob_is h18
    obtain ⟨q19, h20, E⟩ := bnd E
    refine v_callV (r := (R14 a15 1)) (As := [va_rf (R14 a7 2)]) (rv := none) (st := []) (st1 := []) (ce1 := 5) (sl1 := 1807) C cv_X11_126 (c_X10_fill (x1 := (R14 a7 2)) hoa17 h20) hra17 hoa17 rfl rfl ⟨rfl, rfl, Nat.le_of_ble_eq_true rfl, Nat.le_of_ble_eq_true rfl⟩ ⟨Nat.le_of_ble_eq_true rfl, Nat.le_of_ble_eq_true rfl⟩ (Nat.le_of_ble_eq_true rfl) rfl rfl rfl dX11_waste_80 ?_
    refine v_aload_n (r := (some o)) C 1 dX11_waste_83 rfl ?_
    refine v_null C dX11_waste_84 ?_
    refine v_putR (r := (some o)) (q := none) C fa_X11_18 rfl E hra7 hoa7 dX11_waste_85 (fun R21 _ E => ?_)
    refine v_aload_n (r := (some o)) C 1 dX11_waste_88 rfl ?_
    refine v_dup C dX11_waste_89 (rf_cat _) ?_
    refine v_getI (r := (some o)) C fa_X11_113 rfl hra7 hoa7 dX11_waste_90 ?_
    refine v_iconst C dX11_waste_93 k_iconst_1 ?_
    refine v_iadd C dX11_waste_94 ?_
    refine v_putI (r := (some o)) C fa_X11_113 rfl E hra7 hoa7 ⟨rfl, rfl⟩ dX11_waste_95 (fun I22 _ E => ?_)
    refine v_aload_n (r := (some o)) C 1 dX11_waste_98 rfl ?_
    refine v_getI (r := (some o)) C fa_X11_113 rfl hra7 hoa7 dX11_waste_99 ?_
    refine v_iconst C dX11_waste_102 k_iconst_1 ?_
    refine v_isub C dX11_waste_103 ?_
    obtain rfl := Option.some.inj E
    exact v_iret C rfl dX11_waste_104
  · refine v_bipush C dX11_waste_53 k_bipush_m10 ?_
    refine v_iload_n C 0 dX11_waste_55 rfl ?_
    refine v_isub C dX11_waste_56 ?_
    obtain rfl := Option.some.inj E
    exact v_iret C rfl dX11_waste_57
set_option maxHeartbeats 4000000 in
theorem w_X11_waste_0 (C : Cx D cA bs Z p s m args meth c cX11_waste RX11 2 (some .int)) {o : Nat} {J : Jm} (res : Int32 × Sh × Nat × Im × Rf) (K : Sh) (n : Nat) (I : Im) (R : Rf) (E : f_X11_waste Z o K n I R = some res) : VW D cA bs Z p l e rX11_waste s m args below meth c 2 [(0, va_rf (some o))] K n I J R 0 0 (MQ below (QX D cA bs Z (some (.int res.1)) res.2.1 res.2.2.1 res.2.2.2.1 J res.2.2.2.2) args s 5 1807 (fun q => bs ≤ q)) 0 [] := by
  unfold f_X11_waste at E
  refine v_aload_n (r := (some o)) C 0 dX11_waste_0 rfl ?_
  obtain ⟨a24, h25, E⟩ := bnd E
  obtain ⟨hra24, hoa24⟩ := ob_is h25
  refine v_getI (r := (some o)) C fa_X11_113 rfl hra24 hoa24 dX11_waste_1 ?_
  refine v_iconst C dX11_waste_4 k_iconst_5 ?_
  refine v_icmp_lt C 11 E dX11_waste_5 rfl (fun c35 E => ?_) (fun c35 E => ?_)
  · refine v_aload_n (r := (some o)) C 0 dX11_waste_11 rfl ?_
    refine v_getR (r := (some o)) C fa_X11_18 rfl hra24 hoa24 dX11_waste_12 ?_
    refine v_ifnonnull (r := (R a24 2)) C 29 E dX11_waste_15 rfl (fun c34 E => ?_) (fun c34 E => ?_)
    · refine v_aload_n (r := (some o)) C 0 dX11_waste_18 rfl ?_
      refine v_new (ce1 := 1) (sl1 := 9) C nc_X11_85 E rfl rfl (Nat.le_of_ble_eq_true rfl) (Nat.le_of_ble_eq_true rfl) dX11_waste_19 (fun K26 _ E => ?_)
      refine v_mpI E (fun I27 _ E => ?_)
      refine v_mpR E (fun R28 _ E => ?_)
      refine v_dup C dX11_waste_22 (rf_cat _) ?_
      obtain ⟨q29, h30, E⟩ := bnd E
      refine v_callI (r := (some n)) (a := n) (As := []) (st := [va_rf (some n), va_rf (some o)]) (ce1 := 4) (sl1 := 25) C ci_X11_87 (c_X9_init  h30) rfl rfl rfl ⟨rfl, rfl, Nat.le_of_ble_eq_true rfl, Nat.le_of_ble_eq_true rfl⟩ ⟨Nat.le_of_ble_eq_true rfl, Nat.le_of_ble_eq_true rfl⟩ (by simp only [List.map_cons, List.map_nil, List.sum_cons, List.sum_nil, rf_cat]; exact Nat.le_of_ble_eq_true rfl) rfl rfl dX11_waste_23 ?_
      obtain ⟨a31, h32, E⟩ := bnd E
      obtain ⟨hra31, hoa31⟩ := ob_is h32
      refine v_putR (r := (some o)) (q := (some n)) C fa_X11_18 rfl E hra31 hoa31 dX11_waste_26 (fun R33 _ E => ?_)
      exact v_sub [0] [(0, va_rf (some o))] rfl (w_X11_waste_29 C res  _ _ _ _ E)
    · refine v_widen (k1 := 4) (k2 := 25) (Nat.le_of_ble_eq_true rfl) (Nat.le_of_ble_eq_true rfl) ?_
      exact v_sub [0] [(0, va_rf (some o))] rfl (w_X11_waste_29 C res  _ _ _ _ E)
  · refine v_bipush C dX11_waste_8 k_bipush_m4 ?_
    refine v_widen (k1 := 5) (k2 := 1807) (Nat.le_of_ble_eq_true rfl) (Nat.le_of_ble_eq_true rfl) ?_
    obtain rfl := Option.some.inj E
    exact v_iret C rfl dX11_waste_10
set_option maxHeartbeats 4000000 in
theorem c_X11_waste {n : Nat} {K : Sh} {I : Im} {J : Jm} {R : Rf} {o : Nat}  {res : Int32 × Sh × Nat × Im × Rf} (E : f_X11_waste Z o K n I R = some res) : Met l yX11_waste (Cond.code yX11_waste cX11_waste 2 (some .int) :: tb) rX11_waste (PX D cA bs Z [.ref o] K n I J R) (QX D cA bs Z (some (.int res.1)) res.2.1 res.2.2.1 res.2.2.2.1 J res.2.2.2.2) 5 1807 (fun q => bs ≤ q) := by
  refine met_of (lv1 := [(0, va_rf (some o))]) pn_X11 (by exact Nat.le_of_ble_eq_true rfl) (by rfl) ?_
  intro p e s m args below meth c C hn
  exact v_sub [0] [(0, va_rf (some o))] rfl (w_X11_waste_0 C _ _ _ _ _ E)
set_option maxHeartbeats 4000000 in
theorem w_X11_of_44 (C : Cx D cA bs Z p s m args meth c cX11_of RX11 4 (some .int)) {o : Nat} {K : Sh} {n : Nat} {I : Im} {J : Jm} {R : Rf} (ho : (K o).1 = 12) (res : Int32) (x1 : Int32) (E : f_X11_of_44 K I R o x1 = some res) : VW D cA bs Z p l e rX11_of s m args below meth c 4 [(0, va_rf (some o)), (1, .int x1)] K n I J R 0 0 (MQ below (QX D cA bs Z (some (.int res)) K n I J R) args s 0 0 (fun q => bs ≤ q)) 44 [] := by
  unfold f_X11_of_44 at E
  refine v_aload_n (r := (some o)) C 0 dX11_of_44 rfl ?_
  refine v_getR (r := (some o)) C fa_X11_37 rfl rfl ho dX11_of_45 ?_
  obtain ⟨a1, h2, E⟩ := bnd E
  obtain ⟨hra1, hoa1⟩ := ob_is h2
  refine v_getR (r := (R o 7)) C fa_X11_120 rfl hra1 hoa1 dX11_of_48 ?_
  refine v_astore_n (r := (R a1 0)) C [(2, va_rf (R a1 0)), (0, va_rf (some o)), (1, .int x1)] dX11_of_51 (Nat.le_of_ble_eq_true rfl) rfl ?_
  refine v_aload_n (r := (R a1 0)) C 0 dX11_of_52 rfl ?_
  refine v_ifnonnull (r := (R a1 0)) C 59 E dX11_of_53 rfl (fun c22 E => ?_) (fun c22 E => ?_)
  · refine v_bipush C dX11_of_56 k_bipush_m3 ?_
    obtain rfl := Option.some.inj E
    exact v_iret C rfl dX11_of_58
  · refine v_iload_n C 2 dX11_of_59 rfl ?_
    refine v_bipush C dX11_of_60 k_bipush_10 ?_
    refine v_irem C dX11_of_62 k_nz_10 ?_
    refine v_istore_n C [(3, .int (irem x1 10)), (2, va_rf (R a1 0)), (0, va_rf (some o)), (1, .int x1)] dX11_of_63 (Nat.le_of_ble_eq_true rfl) (by generalize (R a1 0) = rr; cases rr <;> rfl) ?_
    refine v_iload_n C 3 dX11_of_64 rfl ?_
    refine v_bipush C dX11_of_65 k_bipush_10 ?_
    refine v_idiv C dX11_of_67 k_nz_10 ?_
    by_cases c7 : (x1 / 10) = 0
    · have E := ite_t E c7
      refine v_tableIn (off := 28) C 96 dX11_of_68 (by rw [c7]; decide) (by rw [c7]; decide) (by rw [c7]; rfl) rfl ?_
      refine v_aload_n (r := (R a1 0)) C 1 dX11_of_96 rfl ?_
      refine v_iload_n C 0 dX11_of_97 rfl ?_
      obtain ⟨a3, h4, E⟩ := bnd E
      obtain ⟨hra3, hoa3⟩ := ob_is h4
      obtain ⟨q5, h6, E⟩ := bnd E
      refine v_callV (r := (R a1 0)) (As := [.int (irem x1 10)]) (rv := (some (.int q5))) (st := []) (st1 := [.int q5]) (ce1 := 0) (sl1 := 0) C cv_X11_130 (c_X9_figure (x1 := (irem x1 10)) hoa3 h6) hra3 hoa3 rfl rfl ⟨rfl, rfl, Nat.le_of_ble_eq_true rfl, Nat.le_of_ble_eq_true rfl⟩ ⟨Nat.le_of_ble_eq_true rfl, Nat.le_of_ble_eq_true rfl⟩ (Nat.le_of_ble_eq_true rfl) rfl rfl rfl dX11_of_98 ?_
      obtain rfl := Option.some.inj E
      exact v_iret C rfl dX11_of_101
    have E := ite_f E c7
    by_cases c12 : (x1 / 10) = 1
    · have E := ite_t E c12
      refine v_tableIn (off := 34) C 102 dX11_of_68 (by rw [c12]; decide) (by rw [c12]; decide) (by rw [c12]; rfl) rfl ?_
      refine v_iload_n C 0 dX11_of_102 rfl ?_
      refine v_aload_n (r := (R a1 0)) C 1 dX11_of_103 rfl ?_
      obtain ⟨a8, h9, E⟩ := bnd E
      obtain ⟨hra8, hoa8⟩ := ob_is h9
      refine v_getI (r := (R a1 0)) C fa_X11_134 rfl hra8 hoa8 dX11_of_104 ?_
      refine v_icmp_ge C 119 E dX11_of_107 rfl (fun c11 E => ?_) (fun c11 E => ?_)
      · refine v_iconst C dX11_of_119 k_iconst_m1 ?_
        obtain rfl := Option.some.inj E
        exact v_iret C rfl dX11_of_120
      · refine v_aload_n (r := (R a1 0)) C 1 dX11_of_110 rfl ?_
        refine v_getR (r := (R a1 0)) C fa_X11_136 rfl hra8 hoa8 dX11_of_111 ?_
        refine v_iload_n C 0 dX11_of_114 rfl ?_
        refine v_iald (r := (R a8 5)) C E dX11_of_115 (fun v10 _ E => ?_)
        refine v_goto C 120 dX11_of_116 rfl ?_
        obtain rfl := Option.some.inj E
        exact v_iret C rfl dX11_of_120
    have E := ite_f E c12
    by_cases c17 : (x1 / 10) = 2
    · have E := ite_t E c17
      refine v_tableIn (off := 53) C 121 dX11_of_68 (by rw [c17]; decide) (by rw [c17]; decide) (by rw [c17]; rfl) rfl ?_
      refine v_iload_n C 0 dX11_of_121 rfl ?_
      refine v_aload_n (r := (R a1 0)) C 1 dX11_of_122 rfl ?_
      obtain ⟨a13, h14, E⟩ := bnd E
      obtain ⟨hra13, hoa13⟩ := ob_is h14
      refine v_getI (r := (R a1 0)) C fa_X11_134 rfl hra13 hoa13 dX11_of_123 ?_
      refine v_icmp_ge C 138 E dX11_of_126 rfl (fun c16 E => ?_) (fun c16 E => ?_)
      · refine v_iconst C dX11_of_138 k_iconst_m1 ?_
        obtain rfl := Option.some.inj E
        exact v_iret C rfl dX11_of_139
      · refine v_aload_n (r := (R a1 0)) C 1 dX11_of_129 rfl ?_
        refine v_getR (r := (R a1 0)) C fa_X11_139 rfl hra13 hoa13 dX11_of_130 ?_
        refine v_iload_n C 0 dX11_of_133 rfl ?_
        refine v_iald (r := (R a13 6)) C E dX11_of_134 (fun v15 _ E => ?_)
        refine v_goto C 139 dX11_of_135 rfl ?_
        obtain rfl := Option.some.inj E
        exact v_iret C rfl dX11_of_139
    have E := ite_f E c17
    refine v_tableOut C 140 dX11_of_68 (by have hc7 := lv_neT c7 (show ((0 : Int32)).toInt = 0 from by decide); have hc12 := lv_neT c12 (show ((1 : Int32)).toInt = 1 from by decide); have hc17 := lv_neT c17 (show ((2 : Int32)).toInt = 2 from by decide); omega) rfl ?_
    refine v_iload_n C 0 dX11_of_140 rfl ?_
    refine v_aload_n (r := (R a1 0)) C 1 dX11_of_141 rfl ?_
    obtain ⟨a18, h19, E⟩ := bnd E
    obtain ⟨hra18, hoa18⟩ := ob_is h19
    refine v_getI (r := (R a1 0)) C fa_X11_134 rfl hra18 hoa18 dX11_of_142 ?_
    refine v_icmp_gt C 157 E dX11_of_145 rfl (fun c21 E => ?_) (fun c21 E => ?_)
    · refine v_iconst C dX11_of_157 k_iconst_m1 ?_
      obtain rfl := Option.some.inj E
      exact v_iret C rfl dX11_of_158
    · refine v_aload_n (r := (R a1 0)) C 1 dX11_of_148 rfl ?_
      refine v_getR (r := (R a1 0)) C fa_X11_142 rfl hra18 hoa18 dX11_of_149 ?_
      refine v_iload_n C 0 dX11_of_152 rfl ?_
      refine v_iald (r := (R a18 7)) C E dX11_of_153 (fun v20 _ E => ?_)
      refine v_goto C 158 dX11_of_154 rfl ?_
      obtain rfl := Option.some.inj E
      exact v_iret C rfl dX11_of_158
set_option maxHeartbeats 4000000 in
theorem w_X11_of_0 (C : Cx D cA bs Z p s m args meth c cX11_of RX11 4 (some .int)) {o : Nat} {K : Sh} {n : Nat} {I : Im} {J : Jm} {R : Rf} (ho : (K o).1 = 12) (res : Int32) (x1 : Int32) (E : f_X11_of K I R o x1 = some res) : VW D cA bs Z p l e rX11_of s m args below meth c 4 [(0, va_rf (some o)), (1, .int x1)] K n I J R 0 0 (MQ below (QX D cA bs Z (some (.int res)) K n I J R) args s 0 0 (fun q => bs ≤ q)) 0 [] := by
  unfold f_X11_of at E
  refine v_iload_n C 1 dX11_of_0 rfl ?_
  refine v_iconst C dX11_of_1 k_iconst_0 ?_
  refine v_iconst C dX11_of_2 k_iconst_3 ?_
  obtain ⟨q23, h24, E⟩ := bnd E
  refine v_callS (As := [.int x1, .int 0, .int 3]) (rv := (some (.int q23))) (st := []) (st1 := [.int q23]) (ce1 := 0) (sl1 := 0) C cs_X11_101 (c_X11_within (x0 := x1) (x1 := 0) (x2 := 3) h24) rfl rfl ⟨rfl, rfl, Nat.le_of_ble_eq_true rfl, Nat.le_of_ble_eq_true rfl⟩ ⟨Nat.le_of_ble_eq_true rfl, Nat.le_of_ble_eq_true rfl⟩ (Nat.le_of_ble_eq_true rfl) rfl rfl rfl dX11_of_3 ?_
  refine v_if_ne C 44 E dX11_of_6 rfl (fun c34 E => ?_) (fun c34 E => ?_)
  · refine v_iload_n C 1 dX11_of_9 rfl ?_
    refine v_bipush C dX11_of_10 k_bipush_10 ?_
    refine v_bipush C dX11_of_12 k_bipush_14 ?_
    obtain ⟨q25, h26, E⟩ := bnd E
    refine v_callS (As := [.int x1, .int 10, .int 14]) (rv := (some (.int q25))) (st := []) (st1 := [.int q25]) (ce1 := 0) (sl1 := 0) C cs_X11_101 (c_X11_within (x0 := x1) (x1 := 10) (x2 := 14) h26) rfl rfl ⟨rfl, rfl, Nat.le_of_ble_eq_true rfl, Nat.le_of_ble_eq_true rfl⟩ ⟨Nat.le_of_ble_eq_true rfl, Nat.le_of_ble_eq_true rfl⟩ (Nat.le_of_ble_eq_true rfl) rfl rfl rfl dX11_of_14 ?_
    refine v_if_ne C 44 E dX11_of_17 rfl (fun c33 E => ?_) (fun c33 E => ?_)
    · refine v_iload_n C 1 dX11_of_20 rfl ?_
      refine v_bipush C dX11_of_21 k_bipush_20 ?_
      refine v_bipush C dX11_of_23 k_bipush_24 ?_
      obtain ⟨q27, h28, E⟩ := bnd E
      refine v_callS (As := [.int x1, .int 20, .int 24]) (rv := (some (.int q27))) (st := []) (st1 := [.int q27]) (ce1 := 0) (sl1 := 0) C cs_X11_101 (c_X11_within (x0 := x1) (x1 := 20) (x2 := 24) h28) rfl rfl ⟨rfl, rfl, Nat.le_of_ble_eq_true rfl, Nat.le_of_ble_eq_true rfl⟩ ⟨Nat.le_of_ble_eq_true rfl, Nat.le_of_ble_eq_true rfl⟩ (Nat.le_of_ble_eq_true rfl) rfl rfl rfl dX11_of_25 ?_
      refine v_if_ne C 44 E dX11_of_28 rfl (fun c32 E => ?_) (fun c32 E => ?_)
      · refine v_iload_n C 1 dX11_of_31 rfl ?_
        refine v_bipush C dX11_of_32 k_bipush_30 ?_
        refine v_bipush C dX11_of_34 k_bipush_35 ?_
        obtain ⟨q29, h30, E⟩ := bnd E
        refine v_callS (As := [.int x1, .int 30, .int 35]) (rv := (some (.int q29))) (st := []) (st1 := [.int q29]) (ce1 := 0) (sl1 := 0) C cs_X11_101 (c_X11_within (x0 := x1) (x1 := 30) (x2 := 35) h30) rfl rfl ⟨rfl, rfl, Nat.le_of_ble_eq_true rfl, Nat.le_of_ble_eq_true rfl⟩ ⟨Nat.le_of_ble_eq_true rfl, Nat.le_of_ble_eq_true rfl⟩ (Nat.le_of_ble_eq_true rfl) rfl rfl rfl dX11_of_36 ?_
        refine v_if_ne C 44 E dX11_of_39 rfl (fun c31 E => ?_) (fun c31 E => ?_)
        · refine v_iconst C dX11_of_42 k_iconst_m1 ?_
          obtain rfl := Option.some.inj E
          exact v_iret C rfl dX11_of_43
        · exact v_sub [0, 1] [(0, va_rf (some o)), (1, .int x1)] rfl (w_X11_of_44 C ho res  _ E)
      · exact v_sub [0, 1] [(0, va_rf (some o)), (1, .int x1)] rfl (w_X11_of_44 C ho res  _ E)
    · exact v_sub [0, 1] [(0, va_rf (some o)), (1, .int x1)] rfl (w_X11_of_44 C ho res  _ E)
  · exact v_sub [0, 1] [(0, va_rf (some o)), (1, .int x1)] rfl (w_X11_of_44 C ho res  _ E)
set_option maxHeartbeats 4000000 in
theorem c_X11_of {n : Nat} {K : Sh} {I : Im} {J : Jm} {R : Rf} {o : Nat} {x1 : Int32} (ho : (K o).1 = 12) {res : Int32} (E : f_X11_of K I R o x1 = some res) : Met l yX11_of (Cond.code yX11_of cX11_of 4 (some .int) :: tb) rX11_of (PX D cA bs Z [.ref o, .int x1] K n I J R) (QX D cA bs Z (some (.int res)) K n I J R) 0 0 (fun q => bs ≤ q) := by
  refine met_of (lv1 := [(0, va_rf (some o)), (1, .int x1)]) pn_X11 (by exact Nat.le_of_ble_eq_true rfl) (by rfl) ?_
  intro p e s m args below meth c C hn
  exact v_sub [0, 1] [(0, va_rf (some o)), (1, .int x1)] rfl (w_X11_of_0 C ho _ _ E)
set_option maxHeartbeats 4000000 in
theorem w_X11_holds_0 (C : Cx D cA bs Z p s m args meth c cX11_holds RX11 3 (some .int)) {o : Nat} {K : Sh} {n : Nat} {I : Im} {J : Jm} {R : Rf} (ho : (K o).1 = 12) (res : Int32) (x1 : Int32) (x2 : Int32) (E : f_X11_holds K I R o x1 x2 = some res) : VW D cA bs Z p l e rX11_holds s m args below meth c 3 [(0, va_rf (some o)), (1, .int x1), (2, .int x2)] K n I J R 0 0 (MQ below (QX D cA bs Z (some (.int res)) K n I J R) args s 0 0 (fun q => bs ≤ q)) 0 [] := by
  unfold f_X11_holds at E
  refine v_iload_n C 1 dX11_holds_0 rfl ?_
  refine v_iconst C dX11_holds_1 k_iconst_0 ?_
  refine v_iconst C dX11_holds_2 k_iconst_4 ?_
  obtain ⟨q1, h2, E⟩ := bnd E
  refine v_callS (As := [.int x1, .int 0, .int 4]) (rv := (some (.int q1))) (st := []) (st1 := [.int q1]) (ce1 := 0) (sl1 := 0) C cs_X11_101 (c_X11_within (x0 := x1) (x1 := 0) (x2 := 4) h2) rfl rfl ⟨rfl, rfl, Nat.le_of_ble_eq_true rfl, Nat.le_of_ble_eq_true rfl⟩ ⟨Nat.le_of_ble_eq_true rfl, Nat.le_of_ble_eq_true rfl⟩ (Nat.le_of_ble_eq_true rfl) rfl rfl rfl dX11_holds_3 ?_
  refine v_if_ne C 11 E dX11_holds_6 rfl (fun c16 E => ?_) (fun c16 E => ?_)
  · refine v_iconst C dX11_holds_9 k_iconst_m1 ?_
    obtain rfl := Option.some.inj E
    exact v_iret C rfl dX11_holds_10
  · refine v_iload_n C 2 dX11_holds_11 rfl ?_
    refine v_iconst C dX11_holds_12 k_iconst_0 ?_
    refine v_sipush C dX11_holds_13 k_sipush_999 ?_
    obtain ⟨q3, h4, E⟩ := bnd E
    refine v_callS (As := [.int x2, .int 0, .int 999]) (rv := (some (.int q3))) (st := []) (st1 := [.int q3]) (ce1 := 0) (sl1 := 0) C cs_X11_101 (c_X11_within (x0 := x2) (x1 := 0) (x2 := 999) h4) rfl rfl ⟨rfl, rfl, Nat.le_of_ble_eq_true rfl, Nat.le_of_ble_eq_true rfl⟩ ⟨Nat.le_of_ble_eq_true rfl, Nat.le_of_ble_eq_true rfl⟩ (Nat.le_of_ble_eq_true rfl) rfl rfl rfl dX11_holds_16 ?_
    refine v_if_ne C 25 E dX11_holds_19 rfl (fun c15 E => ?_) (fun c15 E => ?_)
    · refine v_bipush C dX11_holds_22 k_bipush_m2 ?_
      obtain rfl := Option.some.inj E
      exact v_iret C rfl dX11_holds_24
    · refine v_aload_n (r := (some o)) C 0 dX11_holds_25 rfl ?_
      refine v_getR (r := (some o)) C fa_X11_37 rfl rfl ho dX11_holds_26 ?_
      obtain ⟨a5, h6, E⟩ := bnd E
      obtain ⟨hra5, hoa5⟩ := ob_is h6
      refine v_getR (r := (R o 7)) C fa_X11_120 rfl hra5 hoa5 dX11_holds_29 ?_
      refine v_ifnonnull (r := (R a5 0)) C 38 E dX11_holds_32 rfl (fun c14 E => ?_) (fun c14 E => ?_)
      · refine v_bipush C dX11_holds_35 k_bipush_m3 ?_
        obtain rfl := Option.some.inj E
        exact v_iret C rfl dX11_holds_37
      · refine v_iload_n C 1 dX11_holds_38 rfl ?_
        refine v_aload_n (r := (some o)) C 0 dX11_holds_39 rfl ?_
        refine v_getR (r := (some o)) C fa_X11_37 rfl rfl ho dX11_holds_40 ?_
        refine v_getR (r := (R o 7)) C fa_X11_120 rfl hra5 hoa5 dX11_holds_43 ?_
        obtain ⟨a7, h8, E⟩ := bnd E
        obtain ⟨hra7, hoa7⟩ := ob_is h8
        refine v_getI (r := (R a5 0)) C fa_X11_134 rfl hra7 hoa7 dX11_holds_46 ?_
        refine v_icmp_ge C 67 E dX11_holds_49 rfl (fun c13 E => ?_) (fun c13 E => ?_)
        · refine v_iconst C dX11_holds_67 k_iconst_m1 ?_
          obtain rfl := Option.some.inj E
          exact v_iret C rfl dX11_holds_68
        · refine v_aload_n (r := (some o)) C 0 dX11_holds_52 rfl ?_
          refine v_getR (r := (some o)) C fa_X11_37 rfl rfl ho dX11_holds_53 ?_
          refine v_getR (r := (R o 7)) C fa_X11_123 rfl hra5 hoa5 dX11_holds_56 ?_
          refine v_iload_n C 1 dX11_holds_59 rfl ?_
          refine v_iload_n C 2 dX11_holds_60 rfl ?_
          obtain ⟨a9, h10, E⟩ := bnd E
          obtain ⟨hra9, hoa9⟩ := ob_is h10
          obtain ⟨q11, h12, E⟩ := bnd E
          refine v_callV (r := (R a5 1)) (As := [.int x1, .int x2]) (rv := (some (.int q11))) (st := []) (st1 := [.int q11]) (ce1 := 0) (sl1 := 0) C cv_X11_145 (c_X10_heldAt (x1 := x1) (x2 := x2) hoa9 h12) hra9 hoa9 rfl rfl ⟨rfl, rfl, Nat.le_of_ble_eq_true rfl, Nat.le_of_ble_eq_true rfl⟩ ⟨Nat.le_of_ble_eq_true rfl, Nat.le_of_ble_eq_true rfl⟩ (Nat.le_of_ble_eq_true rfl) rfl rfl rfl dX11_holds_61 ?_
          refine v_goto C 68 dX11_holds_64 rfl ?_
          obtain rfl := Option.some.inj E
          exact v_iret C rfl dX11_holds_68
set_option maxHeartbeats 4000000 in
theorem c_X11_holds {n : Nat} {K : Sh} {I : Im} {J : Jm} {R : Rf} {o : Nat} {x1 : Int32} {x2 : Int32} (ho : (K o).1 = 12) {res : Int32} (E : f_X11_holds K I R o x1 x2 = some res) : Met l yX11_holds (Cond.code yX11_holds cX11_holds 3 (some .int) :: tb) rX11_holds (PX D cA bs Z [.ref o, .int x1, .int x2] K n I J R) (QX D cA bs Z (some (.int res)) K n I J R) 0 0 (fun q => bs ≤ q) := by
  refine met_of (lv1 := [(0, va_rf (some o)), (1, .int x1), (2, .int x2)]) pn_X11 (by exact Nat.le_of_ble_eq_true rfl) (by rfl) ?_
  intro p e s m args below meth c C hn
  exact v_sub [0, 1, 2] [(0, va_rf (some o)), (1, .int x1), (2, .int x2)] rfl (w_X11_holds_0 C ho _ _ _ E)
set_option maxHeartbeats 4000000 in
theorem w_X11_drinks_0 (C : Cx D cA bs Z p s m args meth c cX11_drinks RX11 4 (some .int)) {o : Nat} {K : Sh} {n : Nat} {I : Im} {J : Jm} {R : Rf} (ho : (K o).1 = 12) (res : Int32) (x1 : Int32) (x2 : Int32) (x3 : Int32) (E : f_X11_drinks K I R o x1 x2 x3 = some res) : VW D cA bs Z p l e rX11_drinks s m args below meth c 4 [(0, va_rf (some o)), (1, .int x1), (2, .int x2), (3, .int x3)] K n I J R 0 0 (MQ below (QX D cA bs Z (some (.int res)) K n I J R) args s 0 0 (fun q => bs ≤ q)) 0 [] := by
  unfold f_X11_drinks at E
  refine v_iload_n C 1 dX11_drinks_0 rfl ?_
  refine v_iconst C dX11_drinks_1 k_iconst_0 ?_
  refine v_iconst C dX11_drinks_2 k_iconst_5 ?_
  obtain ⟨q1, h2, E⟩ := bnd E
  refine v_callS (As := [.int x1, .int 0, .int 5]) (rv := (some (.int q1))) (st := []) (st1 := [.int q1]) (ce1 := 0) (sl1 := 0) C cs_X11_101 (c_X11_within (x0 := x1) (x1 := 0) (x2 := 5) h2) rfl rfl ⟨rfl, rfl, Nat.le_of_ble_eq_true rfl, Nat.le_of_ble_eq_true rfl⟩ ⟨Nat.le_of_ble_eq_true rfl, Nat.le_of_ble_eq_true rfl⟩ (Nat.le_of_ble_eq_true rfl) rfl rfl rfl dX11_drinks_3 ?_
  refine v_if_ne C 11 E dX11_drinks_6 rfl (fun c17 E => ?_) (fun c17 E => ?_)
  · refine v_iconst C dX11_drinks_9 k_iconst_m1 ?_
    obtain rfl := Option.some.inj E
    exact v_iret C rfl dX11_drinks_10
  · refine v_iload_n C 2 dX11_drinks_11 rfl ?_
    refine v_iconst C dX11_drinks_12 k_iconst_0 ?_
    refine v_sipush C dX11_drinks_13 k_sipush_999 ?_
    obtain ⟨q3, h4, E⟩ := bnd E
    refine v_callS (As := [.int x2, .int 0, .int 999]) (rv := (some (.int q3))) (st := []) (st1 := [.int q3]) (ce1 := 0) (sl1 := 0) C cs_X11_101 (c_X11_within (x0 := x2) (x1 := 0) (x2 := 999) h4) rfl rfl ⟨rfl, rfl, Nat.le_of_ble_eq_true rfl, Nat.le_of_ble_eq_true rfl⟩ ⟨Nat.le_of_ble_eq_true rfl, Nat.le_of_ble_eq_true rfl⟩ (Nat.le_of_ble_eq_true rfl) rfl rfl rfl dX11_drinks_16 ?_
    refine v_if_eq C 32 E dX11_drinks_19 rfl (fun c16 E => ?_) (fun c16 E => ?_)
    · refine v_bipush C dX11_drinks_32 k_bipush_m2 ?_
      obtain rfl := Option.some.inj E
      exact v_iret C rfl dX11_drinks_34
    · refine v_iload_n C 3 dX11_drinks_22 rfl ?_
      refine v_iconst C dX11_drinks_23 k_iconst_1 ?_
      refine v_bipush C dX11_drinks_24 k_bipush_9 ?_
      obtain ⟨q5, h6, E⟩ := bnd E
      refine v_callS (As := [.int x3, .int 1, .int 9]) (rv := (some (.int q5))) (st := []) (st1 := [.int q5]) (ce1 := 0) (sl1 := 0) C cs_X11_101 (c_X11_within (x0 := x3) (x1 := 1) (x2 := 9) h6) rfl rfl ⟨rfl, rfl, Nat.le_of_ble_eq_true rfl, Nat.le_of_ble_eq_true rfl⟩ ⟨Nat.le_of_ble_eq_true rfl, Nat.le_of_ble_eq_true rfl⟩ (Nat.le_of_ble_eq_true rfl) rfl rfl rfl dX11_drinks_26 ?_
      refine v_if_ne C 35 E dX11_drinks_29 rfl (fun c15 E => ?_) (fun c15 E => ?_)
      · refine v_bipush C dX11_drinks_32 k_bipush_m2 ?_
        obtain rfl := Option.some.inj E
        exact v_iret C rfl dX11_drinks_34
      · refine v_aload_n (r := (some o)) C 0 dX11_drinks_35 rfl ?_
        refine v_getR (r := (some o)) C fa_X11_37 rfl rfl ho dX11_drinks_36 ?_
        obtain ⟨a7, h8, E⟩ := bnd E
        obtain ⟨hra7, hoa7⟩ := ob_is h8
        refine v_getR (r := (R o 7)) C fa_X11_120 rfl hra7 hoa7 dX11_drinks_39 ?_
        refine v_ifnonnull (r := (R a7 0)) C 48 E dX11_drinks_42 rfl (fun c14 E => ?_) (fun c14 E => ?_)
        · refine v_bipush C dX11_drinks_45 k_bipush_m3 ?_
          obtain rfl := Option.some.inj E
          exact v_iret C rfl dX11_drinks_47
        · refine v_iload_n C 1 dX11_drinks_48 rfl ?_
          refine v_aload_n (r := (some o)) C 0 dX11_drinks_49 rfl ?_
          refine v_getR (r := (some o)) C fa_X11_37 rfl rfl ho dX11_drinks_50 ?_
          refine v_getR (r := (R o 7)) C fa_X11_120 rfl hra7 hoa7 dX11_drinks_53 ?_
          obtain ⟨a9, h10, E⟩ := bnd E
          obtain ⟨hra9, hoa9⟩ := ob_is h10
          refine v_getI (r := (R a7 0)) C fa_X11_134 rfl hra9 hoa9 dX11_drinks_56 ?_
          refine v_icmp_gt C 78 E dX11_drinks_59 rfl (fun c13 E => ?_) (fun c13 E => ?_)
          · refine v_iconst C dX11_drinks_78 k_iconst_m1 ?_
            obtain rfl := Option.some.inj E
            exact v_iret C rfl dX11_drinks_79
          · refine v_aload_n (r := (some o)) C 0 dX11_drinks_62 rfl ?_
            refine v_getR (r := (some o)) C fa_X11_37 rfl rfl ho dX11_drinks_63 ?_
            refine v_getR (r := (R o 7)) C fa_X11_120 rfl hra7 hoa7 dX11_drinks_66 ?_
            refine v_iload_n C 1 dX11_drinks_69 rfl ?_
            refine v_iload_n C 2 dX11_drinks_70 rfl ?_
            refine v_iload_n C 3 dX11_drinks_71 rfl ?_
            obtain ⟨q11, h12, E⟩ := bnd E
            refine v_callV (r := (R a7 0)) (As := [.int x1, .int x2, .int x3]) (rv := (some (.int q11))) (st := []) (st1 := [.int q11]) (ce1 := 0) (sl1 := 0) C cv_X11_149 (c_X9_drunkIn (x1 := x1) (x2 := x2) (x3 := x3) hoa9 h12) hra9 hoa9 rfl rfl ⟨rfl, rfl, Nat.le_of_ble_eq_true rfl, Nat.le_of_ble_eq_true rfl⟩ ⟨Nat.le_of_ble_eq_true rfl, Nat.le_of_ble_eq_true rfl⟩ (Nat.le_of_ble_eq_true rfl) rfl rfl rfl dX11_drinks_72 ?_
            refine v_goto C 79 dX11_drinks_75 rfl ?_
            obtain rfl := Option.some.inj E
            exact v_iret C rfl dX11_drinks_79
set_option maxHeartbeats 4000000 in
theorem c_X11_drinks {n : Nat} {K : Sh} {I : Im} {J : Jm} {R : Rf} {o : Nat} {x1 : Int32} {x2 : Int32} {x3 : Int32} (ho : (K o).1 = 12) {res : Int32} (E : f_X11_drinks K I R o x1 x2 x3 = some res) : Met l yX11_drinks (Cond.code yX11_drinks cX11_drinks 4 (some .int) :: tb) rX11_drinks (PX D cA bs Z [.ref o, .int x1, .int x2, .int x3] K n I J R) (QX D cA bs Z (some (.int res)) K n I J R) 0 0 (fun q => bs ≤ q) := by
  refine met_of (lv1 := [(0, va_rf (some o)), (1, .int x1), (2, .int x2), (3, .int x3)]) pn_X11 (by exact Nat.le_of_ble_eq_true rfl) (by rfl) ?_
  intro p e s m args below meth c C hn
  exact v_sub [0, 1, 2, 3] [(0, va_rf (some o)), (1, .int x1), (2, .int x2), (3, .int x3)] rfl (w_X11_drinks_0 C ho _ _ _ _ E)
set_option maxHeartbeats 4000000 in
theorem w_X11_odds_0 (C : Cx D cA bs Z p s m args meth c cX11_odds RX11 4 (some .int)) {o : Nat} {K : Sh} {n : Nat} {J : Jm} {R : Rf} (ho : (K o).1 = 12) (res : Int32 × Im) (x1 : Int32) (x2 : Int32) (I : Im) (E : f_X11_odds K R o x1 x2 I = some res) : VW D cA bs Z p l e rX11_odds s m args below meth c 4 [(0, va_rf (some o)), (1, .int x1), (2, .int x2)] K n I J R 0 0 (MQ below (QX D cA bs Z (some (.int res.1)) K n res.2 J R) args s 0 0 (fun q => bs ≤ q)) 0 [] := by
  unfold f_X11_odds at E
  refine v_iload_n C 1 dX11_odds_0 rfl ?_
  refine v_iconst C dX11_odds_1 k_iconst_0 ?_
  refine v_iconst C dX11_odds_2 k_iconst_4 ?_
  obtain ⟨q1, h2, E⟩ := bnd E
  refine v_callS (As := [.int x1, .int 0, .int 4]) (rv := (some (.int q1))) (st := []) (st1 := [.int q1]) (ce1 := 0) (sl1 := 0) C cs_X11_101 (c_X11_within (x0 := x1) (x1 := 0) (x2 := 4) h2) rfl rfl ⟨rfl, rfl, Nat.le_of_ble_eq_true rfl, Nat.le_of_ble_eq_true rfl⟩ ⟨Nat.le_of_ble_eq_true rfl, Nat.le_of_ble_eq_true rfl⟩ (Nat.le_of_ble_eq_true rfl) rfl rfl rfl dX11_odds_3 ?_
  refine v_if_ne C 11 E dX11_odds_6 rfl (fun c10 E => ?_) (fun c10 E => ?_)
  · refine v_iconst C dX11_odds_9 k_iconst_m1 ?_
    obtain rfl := Option.some.inj E
    exact v_iret C rfl dX11_odds_10
  · refine v_iload_n C 2 dX11_odds_11 rfl ?_
    refine v_iconst C dX11_odds_12 k_iconst_0 ?_
    refine v_bipush C dX11_odds_13 k_bipush_10 ?_
    obtain ⟨q3, h4, E⟩ := bnd E
    refine v_callS (As := [.int x2, .int 0, .int 10]) (rv := (some (.int q3))) (st := []) (st1 := [.int q3]) (ce1 := 0) (sl1 := 0) C cs_X11_101 (c_X11_within (x0 := x2) (x1 := 0) (x2 := 10) h4) rfl rfl ⟨rfl, rfl, Nat.le_of_ble_eq_true rfl, Nat.le_of_ble_eq_true rfl⟩ ⟨Nat.le_of_ble_eq_true rfl, Nat.le_of_ble_eq_true rfl⟩ (Nat.le_of_ble_eq_true rfl) rfl rfl rfl dX11_odds_15 ?_
    refine v_if_ne C 24 E dX11_odds_18 rfl (fun c9 E => ?_) (fun c9 E => ?_)
    · refine v_bipush C dX11_odds_21 k_bipush_m2 ?_
      obtain rfl := Option.some.inj E
      exact v_iret C rfl dX11_odds_23
    · refine v_aload_n (r := (some o)) C 0 dX11_odds_24 rfl ?_
      refine v_getR (r := (some o)) C fa_X11_37 rfl rfl ho dX11_odds_25 ?_
      obtain ⟨a5, h6, E⟩ := bnd E
      obtain ⟨hra5, hoa5⟩ := ob_is h6
      refine v_getR (r := (R o 7)) C fa_X11_153 rfl hra5 hoa5 dX11_odds_28 ?_
      refine v_iload_n C 1 dX11_odds_31 rfl ?_
      refine v_iald (r := (R a5 2)) C E dX11_odds_32 (fun v7 _ E => ?_)
      refine v_istore_n C [(3, .int v7), (0, va_rf (some o)), (1, .int x1), (2, .int x2)] dX11_odds_33 (Nat.le_of_ble_eq_true rfl) rfl ?_
      refine v_aload_n (r := (some o)) C 1 dX11_odds_34 rfl ?_
      refine v_getR (r := (some o)) C fa_X11_37 rfl rfl ho dX11_odds_35 ?_
      refine v_getR (r := (R o 7)) C fa_X11_153 rfl hra5 hoa5 dX11_odds_38 ?_
      refine v_iload_n C 2 dX11_odds_41 rfl ?_
      refine v_iload_n C 3 dX11_odds_42 rfl ?_
      refine v_iast (r := (R a5 2)) C E dX11_odds_43 (fun I8 _ E => ?_)
      refine v_iload_n C 0 dX11_odds_44 rfl ?_
      obtain rfl := Option.some.inj E
      exact v_iret C rfl dX11_odds_45
set_option maxHeartbeats 4000000 in
theorem c_X11_odds {n : Nat} {K : Sh} {I : Im} {J : Jm} {R : Rf} {o : Nat} {x1 : Int32} {x2 : Int32} (ho : (K o).1 = 12) {res : Int32 × Im} (E : f_X11_odds K R o x1 x2 I = some res) : Met l yX11_odds (Cond.code yX11_odds cX11_odds 4 (some .int) :: tb) rX11_odds (PX D cA bs Z [.ref o, .int x1, .int x2] K n I J R) (QX D cA bs Z (some (.int res.1)) K n res.2 J R) 0 0 (fun q => bs ≤ q) := by
  refine met_of (lv1 := [(0, va_rf (some o)), (1, .int x1), (2, .int x2)]) pn_X11 (by exact Nat.le_of_ble_eq_true rfl) (by rfl) ?_
  intro p e s m args below meth c C hn
  exact v_sub [0, 1, 2] [(0, va_rf (some o)), (1, .int x1), (2, .int x2)] rfl (w_X11_odds_0 C ho _ _ _ _ E)
set_option maxHeartbeats 4000000 in
theorem w_X11_ever_34 (C : Cx D cA bs Z p s m args meth c cX11_ever RX11 5 (some .int)) {o : Nat} {K : Sh} {n : Nat} {I : Im} {J : Jm} {R : Rf} (ho : (K o).1 = 12) (res : Int32)  : ∀ (k : Nat), ∀ (x1 : Int32) (x2 : Option Nat) (x3 : Int32) (x4 : Int32), f_X11_ever_34 K I R o k x1 x2 x3 x4 = some res → VW D cA bs Z p l e rX11_ever s m args below meth c 5 [(0, va_rf (some o)), (1, .int x1), (2, va_rf x2), (3, .int x3), (4, .int x4)] K n I J R 0 0 (MQ below (QX D cA bs Z (some (.int res)) K n I J R) args s 0 0 (fun q => bs ≤ q)) 34 [] := by
  intro k
  induction k with
  | zero =>
    intro x1 x2 x3 x4 E
    have E : (none : Option (Int32)) = some res := E
    cases E
  | succ k ih =>
    intro x1 x2 x3 x4 E
    unfold f_X11_ever_34 at E
    refine v_iload C 4 dX11_ever_34 rfl ?_
    refine v_aload_n (r := x2) C 2 dX11_ever_36 rfl ?_
    obtain ⟨a1, h2, E⟩ := bnd E
    obtain ⟨hra1, hoa1⟩ := ob_is h2
    refine v_getI (r := x2) C fa_X11_134 rfl hra1 hoa1 dX11_ever_37 ?_
    refine v_icmp_ge C 79 E dX11_ever_40 rfl (fun c7 E => ?_) (fun c7 E => ?_)
    · refine v_iload_n C 3 dX11_ever_79 rfl ?_
      obtain rfl := Option.some.inj E
      exact v_iret C rfl dX11_ever_80
    · refine v_iload_n C 3 dX11_ever_43 rfl ?_
      refine v_aload_n (r := x2) C 2 dX11_ever_44 rfl ?_
      refine v_getR (r := x2) C fa_X11_136 rfl hra1 hoa1 dX11_ever_45 ?_
      refine v_iload C 4 dX11_ever_48 rfl ?_
      refine v_iald (r := (R a1 5)) C E dX11_ever_50 (fun v3 _ E => ?_)
      refine v_iload_n C 1 dX11_ever_51 rfl ?_
      refine v_aload_n (r := x2) C 2 dX11_ever_52 rfl ?_
      refine v_getR (r := x2) C fa_X11_136 rfl hra1 hoa1 dX11_ever_53 ?_
      refine v_iload C 4 dX11_ever_56 rfl ?_
      refine v_iald (r := (R a1 5)) C E dX11_ever_58 (fun v4 _ E => ?_)
      refine v_aload_n (r := x2) C 2 dX11_ever_59 rfl ?_
      refine v_getR (r := x2) C fa_X11_139 rfl hra1 hoa1 dX11_ever_60 ?_
      refine v_iload C 4 dX11_ever_63 rfl ?_
      refine v_iald (r := (R a1 6)) C E dX11_ever_65 (fun v5 _ E => ?_)
      refine v_min C mx_X11_156 (Nat.le_of_ble_eq_true rfl) ((Nat.le_of_ble_eq_true rfl)) (Nat.le_of_ble_eq_true rfl) (Nat.le_of_ble_eq_true rfl) dX11_ever_66 ?_
      refine v_imul C dX11_ever_69 ?_
      refine v_iadd C dX11_ever_70 ?_
      refine v_iadd C dX11_ever_71 ?_
      refine v_nmI E (fun v6 _ E => ?_)
      refine v_istore_n C [(3, .int v6), (0, va_rf (some o)), (1, .int x1), (2, va_rf x2), (4, .int x4)] dX11_ever_72 (Nat.le_of_ble_eq_true rfl) (by generalize x2 = rr; cases rr <;> rfl) ?_
      refine v_iinc (v := x4 + 1) C 4 [(4, .int (x4 + 1)), (3, .int v6), (0, va_rf (some o)), (1, .int x1), (2, va_rf x2)] dX11_ever_73 rfl (k_inc_1 _) (Nat.le_of_ble_eq_true rfl) rfl ?_
      refine v_goto C 34 dX11_ever_76 rfl ?_
      exact v_sub [2, 3, 4, 1, 0] [(0, va_rf (some o)), (1, .int x1), (2, va_rf x2), (3, .int v6), (4, .int (x4 + 1))] rfl (ih _ _ _ _ E)
set_option maxHeartbeats 4000000 in
theorem w_X11_ever_0 (C : Cx D cA bs Z p s m args meth c cX11_ever RX11 5 (some .int)) {o : Nat} {K : Sh} {n : Nat} {I : Im} {J : Jm} {R : Rf} (ho : (K o).1 = 12) (res : Int32) (x1 : Int32) (E : f_X11_ever K I R o x1 = some res) : VW D cA bs Z p l e rX11_ever s m args below meth c 5 [(0, va_rf (some o)), (1, .int x1)] K n I J R 0 0 (MQ below (QX D cA bs Z (some (.int res)) K n I J R) args s 0 0 (fun q => bs ≤ q)) 0 [] := by
  unfold f_X11_ever at E
  refine v_iload_n C 1 dX11_ever_0 rfl ?_
  refine v_iconst C dX11_ever_1 k_iconst_0 ?_
  refine v_sipush C dX11_ever_2 k_sipush_999 ?_
  obtain ⟨q8, h9, E⟩ := bnd E
  refine v_callS (As := [.int x1, .int 0, .int 999]) (rv := (some (.int q8))) (st := []) (st1 := [.int q8]) (ce1 := 0) (sl1 := 0) C cs_X11_101 (c_X11_within (x0 := x1) (x1 := 0) (x2 := 999) h9) rfl rfl ⟨rfl, rfl, Nat.le_of_ble_eq_true rfl, Nat.le_of_ble_eq_true rfl⟩ ⟨Nat.le_of_ble_eq_true rfl, Nat.le_of_ble_eq_true rfl⟩ (Nat.le_of_ble_eq_true rfl) rfl rfl rfl dX11_ever_5 ?_
  refine v_if_ne C 14 E dX11_ever_8 rfl (fun c13 E => ?_) (fun c13 E => ?_)
  · refine v_bipush C dX11_ever_11 k_bipush_m2 ?_
    obtain rfl := Option.some.inj E
    exact v_iret C rfl dX11_ever_13
  · refine v_aload_n (r := (some o)) C 0 dX11_ever_14 rfl ?_
    refine v_getR (r := (some o)) C fa_X11_37 rfl rfl ho dX11_ever_15 ?_
    obtain ⟨a10, h11, E⟩ := bnd E
    obtain ⟨hra10, hoa10⟩ := ob_is h11
    refine v_getR (r := (R o 7)) C fa_X11_120 rfl hra10 hoa10 dX11_ever_18 ?_
    refine v_astore_n (r := (R a10 0)) C [(2, va_rf (R a10 0)), (0, va_rf (some o)), (1, .int x1)] dX11_ever_21 (Nat.le_of_ble_eq_true rfl) rfl ?_
    refine v_aload_n (r := (R a10 0)) C 0 dX11_ever_22 rfl ?_
    refine v_ifnonnull (r := (R a10 0)) C 29 E dX11_ever_23 rfl (fun c12 E => ?_) (fun c12 E => ?_)
    · refine v_bipush C dX11_ever_26 k_bipush_m3 ?_
      obtain rfl := Option.some.inj E
      exact v_iret C rfl dX11_ever_28
    · refine v_iconst C dX11_ever_29 k_iconst_0 ?_
      refine v_istore_n C [(3, .int 0), (2, va_rf (R a10 0)), (0, va_rf (some o)), (1, .int x1)] dX11_ever_30 (Nat.le_of_ble_eq_true rfl) (by generalize (R a10 0) = rr; cases rr <;> rfl) ?_
      refine v_iconst C dX11_ever_31 k_iconst_0 ?_
      refine v_istore C [(4, .int 0), (3, .int 0), (2, va_rf (R a10 0)), (0, va_rf (some o)), (1, .int x1)] dX11_ever_32 (Nat.le_of_ble_eq_true rfl) rfl ?_
      exact v_sub [3, 4, 2, 1, 0] [(0, va_rf (some o)), (1, .int x1), (2, va_rf (R a10 0)), (3, .int 0), (4, .int 0)] rfl (w_X11_ever_34 C ho res  _ _ _ _ _ E)
set_option maxHeartbeats 4000000 in
theorem c_X11_ever {n : Nat} {K : Sh} {I : Im} {J : Jm} {R : Rf} {o : Nat} {x1 : Int32} (ho : (K o).1 = 12) {res : Int32} (E : f_X11_ever K I R o x1 = some res) : Met l yX11_ever (Cond.code yX11_ever cX11_ever 5 (some .int) :: tb) rX11_ever (PX D cA bs Z [.ref o, .int x1] K n I J R) (QX D cA bs Z (some (.int res)) K n I J R) 0 0 (fun q => bs ≤ q) := by
  refine met_of (lv1 := [(0, va_rf (some o)), (1, .int x1)]) pn_X11 (by exact Nat.le_of_ble_eq_true rfl) (by rfl) ?_
  intro p e s m args below meth c C hn
  exact v_sub [0, 1] [(0, va_rf (some o)), (1, .int x1)] rfl (w_X11_ever_0 C ho _ _ E)
set_option maxHeartbeats 4000000 in
theorem w_X11_rule_0 (C : Cx D cA bs Z p s m args meth c cX11_rule RX11 3 (some .int)) {o : Nat} {J : Jm} (res : Int32 × Sh × Nat × Im × Rf) (x1 : Int32) (x2 : Int32) (K : Sh) (n : Nat) (I : Im) (R : Rf) (E : f_X11_rule o x1 x2 K n I R = some res) : VW D cA bs Z p l e rX11_rule s m args below meth c 3 [(0, va_rf (some o)), (1, .int x1), (2, .int x2)] K n I J R 0 0 (MQ below (QX D cA bs Z (some (.int res.1)) res.2.1 res.2.2.1 res.2.2.2.1 J res.2.2.2.2) args s 2 10 (fun q => bs ≤ q)) 0 [] := by
  unfold f_X11_rule at E
  refine v_iload_n C 1 dX11_rule_0 rfl ?_
  refine v_iconst C dX11_rule_1 k_iconst_0 ?_
  refine v_bipush C dX11_rule_2 k_bipush_6 ?_
  obtain ⟨q1, h2, E⟩ := bnd E
  refine v_callS (As := [.int x1, .int 0, .int 6]) (rv := (some (.int q1))) (st := []) (st1 := [.int q1]) (ce1 := 0) (sl1 := 0) C cs_X11_101 (c_X11_within (x0 := x1) (x1 := 0) (x2 := 6) h2) rfl rfl ⟨rfl, rfl, Nat.le_of_ble_eq_true rfl, Nat.le_of_ble_eq_true rfl⟩ ⟨Nat.le_of_ble_eq_true rfl, Nat.le_of_ble_eq_true rfl⟩ (Nat.le_of_ble_eq_true rfl) rfl rfl rfl dX11_rule_4 ?_
  refine v_if_ne C 12 E dX11_rule_7 rfl (fun c20 E => ?_) (fun c20 E => ?_)
  · refine v_iconst C dX11_rule_10 k_iconst_m1 ?_
    refine v_widen (k1 := 2) (k2 := 10) (Nat.le_of_ble_eq_true rfl) (Nat.le_of_ble_eq_true rfl) ?_
    obtain rfl := Option.some.inj E
    exact v_iret C rfl dX11_rule_11
  · refine v_iload_n C 2 dX11_rule_12 rfl ?_
    refine v_iconst C dX11_rule_13 k_iconst_0 ?_
    refine v_bipush C dX11_rule_14 k_bipush_6 ?_
    obtain ⟨q3, h4, E⟩ := bnd E
    refine v_callS (As := [.int x2, .int 0, .int 6]) (rv := (some (.int q3))) (st := []) (st1 := [.int q3]) (ce1 := 0) (sl1 := 0) C cs_X11_101 (c_X11_within (x0 := x2) (x1 := 0) (x2 := 6) h4) rfl rfl ⟨rfl, rfl, Nat.le_of_ble_eq_true rfl, Nat.le_of_ble_eq_true rfl⟩ ⟨Nat.le_of_ble_eq_true rfl, Nat.le_of_ble_eq_true rfl⟩ (Nat.le_of_ble_eq_true rfl) rfl rfl rfl dX11_rule_16 ?_
    refine v_if_ne C 25 E dX11_rule_19 rfl (fun c19 E => ?_) (fun c19 E => ?_)
    · refine v_bipush C dX11_rule_22 k_bipush_m2 ?_
      refine v_widen (k1 := 2) (k2 := 10) (Nat.le_of_ble_eq_true rfl) (Nat.le_of_ble_eq_true rfl) ?_
      obtain rfl := Option.some.inj E
      exact v_iret C rfl dX11_rule_24
    · refine v_aload_n (r := (some o)) C 0 dX11_rule_25 rfl ?_
      obtain ⟨a5, h6, E⟩ := bnd E
      obtain ⟨hra5, hoa5⟩ := ob_is h6
      refine v_getI (r := (some o)) C fa_X11_161 rfl hra5 hoa5 dX11_rule_26 ?_
      refine v_bipush C dX11_rule_29 k_bipush_10 ?_
      refine v_icmp_lt C 37 E dX11_rule_31 rfl (fun c18 E => ?_) (fun c18 E => ?_)
      · refine v_aload_n (r := (some o)) C 0 dX11_rule_37 rfl ?_
        refine v_getR (r := (some o)) C fa_X11_24 rfl hra5 hoa5 dX11_rule_38 ?_
        refine v_aload_n (r := (some o)) C 0 dX11_rule_41 rfl ?_
        refine v_getI (r := (some o)) C fa_X11_161 rfl hra5 hoa5 dX11_rule_42 ?_
        refine v_new (ce1 := 1) (sl1 := 5) C nc_X11_22 E rfl rfl (Nat.le_of_ble_eq_true rfl) (Nat.le_of_ble_eq_true rfl) dX11_rule_45 (fun K7 _ E => ?_)
        refine v_mpI E (fun I8 _ E => ?_)
        refine v_mpR E (fun R9 _ E => ?_)
        refine v_dup C dX11_rule_48 (rf_cat _) ?_
        refine v_iload_n C 1 dX11_rule_49 rfl ?_
        refine v_aload_n (r := (some o)) C 0 dX11_rule_50 rfl ?_
        obtain ⟨a10, h11, E⟩ := bnd E
        obtain ⟨hra10, hoa10⟩ := ob_is h11
        refine v_getI (r := (some o)) C fa_X11_161 rfl hra10 hoa10 dX11_rule_51 ?_
        refine v_iload_n C 2 dX11_rule_54 rfl ?_
        obtain ⟨q12, h13, E⟩ := bnd E
        refine v_callI (r := (some n)) (a := n) (As := [.int x1, .int (I8 a10 4), .int x2]) (st := [va_rf (some n), .int (I a5 4), va_rf (R a5 3)]) (ce1 := 2) (sl1 := 10) C ci_X11_164 (c_X5_init (x1 := x1) (x2 := (I8 a10 4)) (x3 := x2) h13) rfl rfl rfl ⟨rfl, rfl, Nat.le_of_ble_eq_true rfl, Nat.le_of_ble_eq_true rfl⟩ ⟨Nat.le_of_ble_eq_true rfl, Nat.le_of_ble_eq_true rfl⟩ (by simp only [List.map_cons, List.map_nil, List.sum_cons, List.sum_nil, rf_cat]; exact Nat.le_of_ble_eq_true rfl) rfl rfl dX11_rule_55 ?_
        refine v_aast (r := (R a5 3)) (q := (some n)) C (by decide) E dX11_rule_58 (fun R14 _ E => ?_)
        refine v_aload_n (r := (some o)) C 0 dX11_rule_59 rfl ?_
        refine v_dup C dX11_rule_60 (rf_cat _) ?_
        obtain ⟨a15, h16, E⟩ := bnd E
        obtain ⟨hra15, hoa15⟩ := ob_is h16
        refine v_getI (r := (some o)) C fa_X11_161 rfl hra15 hoa15 dX11_rule_61 ?_
        refine v_iconst C dX11_rule_64 k_iconst_1 ?_
        refine v_iadd C dX11_rule_65 ?_
        refine v_putI (r := (some o)) C fa_X11_161 rfl E hra15 hoa15 ⟨rfl, rfl⟩ dX11_rule_66 (fun I17 _ E => ?_)
        refine v_aload_n (r := (some o)) C 0 dX11_rule_69 rfl ?_
        refine v_getI (r := (some o)) C fa_X11_161 rfl hra15 hoa15 dX11_rule_70 ?_
        refine v_iconst C dX11_rule_73 k_iconst_1 ?_
        refine v_isub C dX11_rule_74 ?_
        obtain rfl := Option.some.inj E
        exact v_iret C rfl dX11_rule_75
      · refine v_bipush C dX11_rule_34 k_bipush_m4 ?_
        refine v_widen (k1 := 2) (k2 := 10) (Nat.le_of_ble_eq_true rfl) (Nat.le_of_ble_eq_true rfl) ?_
        obtain rfl := Option.some.inj E
        exact v_iret C rfl dX11_rule_36
set_option maxHeartbeats 4000000 in
theorem c_X11_rule {n : Nat} {K : Sh} {I : Im} {J : Jm} {R : Rf} {o : Nat} {x1 : Int32} {x2 : Int32} {res : Int32 × Sh × Nat × Im × Rf} (E : f_X11_rule o x1 x2 K n I R = some res) : Met l yX11_rule (Cond.code yX11_rule cX11_rule 3 (some .int) :: tb) rX11_rule (PX D cA bs Z [.ref o, .int x1, .int x2] K n I J R) (QX D cA bs Z (some (.int res.1)) res.2.1 res.2.2.1 res.2.2.2.1 J res.2.2.2.2) 2 10 (fun q => bs ≤ q) := by
  refine met_of (lv1 := [(0, va_rf (some o)), (1, .int x1), (2, .int x2)]) pn_X11 (by exact Nat.le_of_ble_eq_true rfl) (by rfl) ?_
  intro p e s m args below meth c C hn
  exact v_sub [0, 1, 2] [(0, va_rf (some o)), (1, .int x1), (2, .int x2)] rfl (w_X11_rule_0 C _ _ _ _ _ _ _ E)
set_option maxHeartbeats 4000000 in
theorem w_X11_ruleAt_0 (C : Cx D cA bs Z p s m args meth c cX11_ruleAt RX11 2 (some (.object "SlowWells$Rule"))) {o : Nat} {K : Sh} {n : Nat} {I : Im} {J : Jm} {R : Rf} (ho : (K o).1 = 12) (res : (Option Nat)) (x1 : Int32) (E : f_X11_ruleAt K I R o x1 = some res) : VW D cA bs Z p l e rX11_ruleAt s m args below meth c 2 [(0, va_rf (some o)), (1, .int x1)] K n I J R 0 0 (MQ below (QX D cA bs Z (some (va_rf res)) K n I J R) args s 0 0 (fun q => bs ≤ q)) 0 [] := by
  unfold f_X11_ruleAt at E
  refine v_iload_n C 1 dX11_ruleAt_0 rfl ?_
  refine v_if_lt C 21 E dX11_ruleAt_1 rfl (fun c3 E => ?_) (fun c3 E => ?_)
  · refine v_null C dX11_ruleAt_21 ?_
    obtain rfl := Option.some.inj E
    exact v_aret C rfl dX11_ruleAt_22
  · refine v_iload_n C 1 dX11_ruleAt_4 rfl ?_
    refine v_aload_n (r := (some o)) C 0 dX11_ruleAt_5 rfl ?_
    refine v_getI (r := (some o)) C fa_X11_161 rfl rfl ho dX11_ruleAt_6 ?_
    refine v_icmp_ge C 21 E dX11_ruleAt_9 rfl (fun c2 E => ?_) (fun c2 E => ?_)
    · refine v_null C dX11_ruleAt_21 ?_
      obtain rfl := Option.some.inj E
      exact v_aret C rfl dX11_ruleAt_22
    · refine v_aload_n (r := (some o)) C 0 dX11_ruleAt_12 rfl ?_
      refine v_getR (r := (some o)) C fa_X11_24 rfl rfl ho dX11_ruleAt_13 ?_
      refine v_iload_n C 1 dX11_ruleAt_16 rfl ?_
      refine v_aald (r := (R o 3)) C (by decide) E dX11_ruleAt_17 (fun v1 _ E => ?_)
      refine v_goto C 22 dX11_ruleAt_18 rfl ?_
      obtain rfl := Option.some.inj E
      exact v_aret C rfl dX11_ruleAt_22
set_option maxHeartbeats 4000000 in
theorem c_X11_ruleAt {n : Nat} {K : Sh} {I : Im} {J : Jm} {R : Rf} {o : Nat} {x1 : Int32} (ho : (K o).1 = 12) {res : (Option Nat)} (E : f_X11_ruleAt K I R o x1 = some res) : Met l yX11_ruleAt (Cond.code yX11_ruleAt cX11_ruleAt 2 (some (.object "SlowWells$Rule")) :: tb) rX11_ruleAt (PX D cA bs Z [.ref o, .int x1] K n I J R) (QX D cA bs Z (some (va_rf res)) K n I J R) 0 0 (fun q => bs ≤ q) := by
  refine met_of (lv1 := [(0, va_rf (some o)), (1, .int x1)]) pn_X11 (by exact Nat.le_of_ble_eq_true rfl) (by rfl) ?_
  intro p e s m args below meth c C hn
  exact v_sub [0, 1] [(0, va_rf (some o)), (1, .int x1)] rfl (w_X11_ruleAt_0 C ho _ _ E)
set_option maxHeartbeats 4000000 in
theorem w_X11_row_0 (C : Cx D cA bs Z p s m args meth c cX11_row RX11 4 (some .int)) {o : Nat} {K : Sh} {n : Nat} {J : Jm} {R : Rf} (ho : (K o).1 = 12) (res : Int32 × Im) (x1 : Int32) (x2 : Int32) (I : Im) (E : f_X11_row K R o x1 x2 I = some res) : VW D cA bs Z p l e rX11_row s m args below meth c 4 [(0, va_rf (some o)), (1, .int x1), (2, .int x2)] K n I J R 0 0 (MQ below (QX D cA bs Z (some (.int res.1)) K n res.2 J R) args s 0 0 (fun q => bs ≤ q)) 0 [] := by
  unfold f_X11_row at E
  refine v_aload_n (r := (some o)) C 0 dX11_row_0 rfl ?_
  refine v_iload_n C 1 dX11_row_1 rfl ?_
  obtain ⟨q1, h2, E⟩ := bnd E
  refine v_callV (r := (some o)) (As := [.int x1]) (rv := (some (va_rf q1))) (st := []) (st1 := [va_rf q1]) (ce1 := 0) (sl1 := 0) C cv_X11_167 (c_X11_ruleAt (x1 := x1) ho h2) rfl ho rfl rfl ⟨rfl, rfl, Nat.le_of_ble_eq_true rfl, Nat.le_of_ble_eq_true rfl⟩ ⟨Nat.le_of_ble_eq_true rfl, Nat.le_of_ble_eq_true rfl⟩ (Nat.le_of_ble_eq_true rfl) rfl rfl rfl dX11_row_2 ?_
  refine v_astore_n (r := q1) C [(3, va_rf q1), (0, va_rf (some o)), (1, .int x1), (2, .int x2)] dX11_row_5 (Nat.le_of_ble_eq_true rfl) rfl ?_
  refine v_aload_n (r := q1) C 0 dX11_row_6 rfl ?_
  refine v_ifnonnull (r := q1) C 12 E dX11_row_7 rfl (fun c12 E => ?_) (fun c12 E => ?_)
  · refine v_iconst C dX11_row_10 k_iconst_m1 ?_
    obtain rfl := Option.some.inj E
    exact v_iret C rfl dX11_row_11
  · refine v_iload_n C 3 dX11_row_12 rfl ?_
    refine v_iconst C dX11_row_13 k_iconst_0 ?_
    refine v_bipush C dX11_row_14 k_bipush_6 ?_
    obtain ⟨q3, h4, E⟩ := bnd E
    refine v_callS (As := [.int x2, .int 0, .int 6]) (rv := (some (.int q3))) (st := []) (st1 := [.int q3]) (ce1 := 0) (sl1 := 0) C cs_X11_101 (c_X11_within (x0 := x2) (x1 := 0) (x2 := 6) h4) rfl rfl ⟨rfl, rfl, Nat.le_of_ble_eq_true rfl, Nat.le_of_ble_eq_true rfl⟩ ⟨Nat.le_of_ble_eq_true rfl, Nat.le_of_ble_eq_true rfl⟩ (Nat.le_of_ble_eq_true rfl) rfl rfl rfl dX11_row_16 ?_
    refine v_if_ne C 25 E dX11_row_19 rfl (fun c11 E => ?_) (fun c11 E => ?_)
    · refine v_bipush C dX11_row_22 k_bipush_m2 ?_
      obtain rfl := Option.some.inj E
      exact v_iret C rfl dX11_row_24
    · refine v_aload_n (r := q1) C 0 dX11_row_25 rfl ?_
      obtain ⟨a5, h6, E⟩ := bnd E
      obtain ⟨hra5, hoa5⟩ := ob_is h6
      refine v_getI (r := q1) C fa_X11_171 rfl hra5 hoa5 dX11_row_26 ?_
      refine v_iconst C dX11_row_29 k_iconst_3 ?_
      refine v_icmp_eq C 36 E dX11_row_30 rfl (fun c10 E => ?_) (fun c10 E => ?_)
      · refine v_aload_n (r := q1) C 0 dX11_row_36 rfl ?_
        refine v_getI (r := q1) C fa_X11_174 rfl hra5 hoa5 dX11_row_37 ?_
        refine v_iconst C dX11_row_40 k_iconst_5 ?_
        refine v_icmp_lt C 47 E dX11_row_41 rfl (fun c9 E => ?_) (fun c9 E => ?_)
        · refine v_aload_n (r := q1) C 0 dX11_row_47 rfl ?_
          refine v_getR (r := q1) C fa_X11_177 rfl hra5 hoa5 dX11_row_48 ?_
          refine v_aload_n (r := q1) C 0 dX11_row_51 rfl ?_
          refine v_getI (r := q1) C fa_X11_174 rfl hra5 hoa5 dX11_row_52 ?_
          refine v_iload_n C 3 dX11_row_55 rfl ?_
          refine v_iast (r := (R a5 3)) C E dX11_row_56 (fun I7 _ E => ?_)
          refine v_aload_n (r := q1) C 0 dX11_row_57 rfl ?_
          refine v_dup C dX11_row_58 (rf_cat _) ?_
          refine v_getI (r := q1) C fa_X11_174 rfl hra5 hoa5 dX11_row_59 ?_
          refine v_iconst C dX11_row_62 k_iconst_1 ?_
          refine v_iadd C dX11_row_63 ?_
          refine v_putI (r := q1) C fa_X11_174 rfl E hra5 hoa5 ⟨rfl, rfl⟩ dX11_row_64 (fun I8 _ E => ?_)
          refine v_aload_n (r := q1) C 0 dX11_row_67 rfl ?_
          refine v_getI (r := q1) C fa_X11_174 rfl hra5 hoa5 dX11_row_68 ?_
          obtain rfl := Option.some.inj E
          exact v_iret C rfl dX11_row_71
        · refine v_bipush C dX11_row_44 k_bipush_m4 ?_
          obtain rfl := Option.some.inj E
          exact v_iret C rfl dX11_row_46
      · refine v_bipush C dX11_row_33 k_bipush_m3 ?_
        obtain rfl := Option.some.inj E
        exact v_iret C rfl dX11_row_35
set_option maxHeartbeats 4000000 in
theorem c_X11_row {n : Nat} {K : Sh} {I : Im} {J : Jm} {R : Rf} {o : Nat} {x1 : Int32} {x2 : Int32} (ho : (K o).1 = 12) {res : Int32 × Im} (E : f_X11_row K R o x1 x2 I = some res) : Met l yX11_row (Cond.code yX11_row cX11_row 4 (some .int) :: tb) rX11_row (PX D cA bs Z [.ref o, .int x1, .int x2] K n I J R) (QX D cA bs Z (some (.int res.1)) K n res.2 J R) 0 0 (fun q => bs ≤ q) := by
  refine met_of (lv1 := [(0, va_rf (some o)), (1, .int x1), (2, .int x2)]) pn_X11 (by exact Nat.le_of_ble_eq_true rfl) (by rfl) ?_
  intro p e s m args below meth c C hn
  exact v_sub [0, 1, 2] [(0, va_rf (some o)), (1, .int x1), (2, .int x2)] rfl (w_X11_row_0 C ho _ _ _ _ E)
set_option maxHeartbeats 4000000 in
theorem w_X11_caravan_0 (C : Cx D cA bs Z p s m args meth c cX11_caravan RX11 6 (some .int)) {o : Nat} {J : Jm} (res : Int32 × Sh × Nat × Im × Rf) (x1 : Int32) (x2 : Int32) (x3 : Int32) (K : Sh) (n : Nat) (I : Im) (R : Rf) (E : f_X11_caravan o x1 x2 x3 K n I R = some res) : VW D cA bs Z p l e rX11_caravan s m args below meth c 6 [(0, va_rf (some o)), (1, .int x1), (2, .int x2), (3, .int x3)] K n I J R 0 0 (MQ below (QX D cA bs Z (some (.int res.1)) res.2.1 res.2.2.1 res.2.2.2.1 J res.2.2.2.2) args s 1 3 (fun q => bs ≤ q)) 0 [] := by
  unfold f_X11_caravan at E
  refine v_aload_n (r := (some o)) C 0 dX11_caravan_0 rfl ?_
  refine v_iload_n C 3 dX11_caravan_1 rfl ?_
  obtain ⟨a1, h2, E⟩ := bnd E
  obtain ⟨hra1, hoa1⟩ := ob_is h2
  obtain ⟨q3, h4, E⟩ := bnd E
  refine v_callV (r := (some o)) (As := [.int x3]) (rv := (some (va_rf q3))) (st := []) (st1 := [va_rf q3]) (ce1 := 0) (sl1 := 0) C cv_X11_167 (c_X11_ruleAt (x1 := x3) hoa1 h4) hra1 hoa1 rfl rfl ⟨rfl, rfl, Nat.le_of_ble_eq_true rfl, Nat.le_of_ble_eq_true rfl⟩ ⟨Nat.le_of_ble_eq_true rfl, Nat.le_of_ble_eq_true rfl⟩ (Nat.le_of_ble_eq_true rfl) rfl rfl rfl dX11_caravan_2 ?_
  refine v_astore (r := q3) C [(4, va_rf q3), (0, va_rf (some o)), (1, .int x1), (2, .int x2), (3, .int x3)] dX11_caravan_5 (Nat.le_of_ble_eq_true rfl) rfl ?_
  refine v_aload (r := q3) C 0 dX11_caravan_7 rfl ?_
  refine v_ifnonnull (r := q3) C 14 E dX11_caravan_9 rfl (fun c25 E => ?_) (fun c25 E => ?_)
  · refine v_iconst C dX11_caravan_12 k_iconst_m1 ?_
    refine v_widen (k1 := 1) (k2 := 3) (Nat.le_of_ble_eq_true rfl) (Nat.le_of_ble_eq_true rfl) ?_
    obtain rfl := Option.some.inj E
    exact v_iret C rfl dX11_caravan_13
  · refine v_iload_n C 2 dX11_caravan_14 rfl ?_
    refine v_iconst C dX11_caravan_15 k_iconst_1 ?_
    refine v_bipush C dX11_caravan_16 k_bipush_9 ?_
    obtain ⟨q5, h6, E⟩ := bnd E
    refine v_callS (As := [.int x1, .int 1, .int 9]) (rv := (some (.int q5))) (st := []) (st1 := [.int q5]) (ce1 := 0) (sl1 := 0) C cs_X11_101 (c_X11_within (x0 := x1) (x1 := 1) (x2 := 9) h6) rfl rfl ⟨rfl, rfl, Nat.le_of_ble_eq_true rfl, Nat.le_of_ble_eq_true rfl⟩ ⟨Nat.le_of_ble_eq_true rfl, Nat.le_of_ble_eq_true rfl⟩ (Nat.le_of_ble_eq_true rfl) rfl rfl rfl dX11_caravan_18 ?_
    refine v_if_eq C 34 E dX11_caravan_21 rfl (fun c24 E => ?_) (fun c24 E => ?_)
    · refine v_bipush C dX11_caravan_34 k_bipush_m2 ?_
      refine v_widen (k1 := 1) (k2 := 3) (Nat.le_of_ble_eq_true rfl) (Nat.le_of_ble_eq_true rfl) ?_
      obtain rfl := Option.some.inj E
      exact v_iret C rfl dX11_caravan_36
    · refine v_iload_n C 3 dX11_caravan_24 rfl ?_
      refine v_iconst C dX11_caravan_25 k_iconst_0 ?_
      refine v_bipush C dX11_caravan_26 k_bipush_99 ?_
      obtain ⟨q7, h8, E⟩ := bnd E
      refine v_callS (As := [.int x2, .int 0, .int 99]) (rv := (some (.int q7))) (st := []) (st1 := [.int q7]) (ce1 := 0) (sl1 := 0) C cs_X11_101 (c_X11_within (x0 := x2) (x1 := 0) (x2 := 99) h8) rfl rfl ⟨rfl, rfl, Nat.le_of_ble_eq_true rfl, Nat.le_of_ble_eq_true rfl⟩ ⟨Nat.le_of_ble_eq_true rfl, Nat.le_of_ble_eq_true rfl⟩ (Nat.le_of_ble_eq_true rfl) rfl rfl rfl dX11_caravan_28 ?_
      refine v_if_ne C 37 E dX11_caravan_31 rfl (fun c23 E => ?_) (fun c23 E => ?_)
      · refine v_bipush C dX11_caravan_34 k_bipush_m2 ?_
        refine v_widen (k1 := 1) (k2 := 3) (Nat.le_of_ble_eq_true rfl) (Nat.le_of_ble_eq_true rfl) ?_
        obtain rfl := Option.some.inj E
        exact v_iret C rfl dX11_caravan_36
      · refine v_aload_n (r := (some o)) C 1 dX11_caravan_37 rfl ?_
        refine v_getI (r := (some o)) C fa_X11_180 rfl hra1 hoa1 dX11_caravan_38 ?_
        refine v_bipush C dX11_caravan_41 k_bipush_6 ?_
        refine v_icmp_lt C 49 E dX11_caravan_43 rfl (fun c22 E => ?_) (fun c22 E => ?_)
        · refine v_new (ce1 := 1) (sl1 := 3) C nc_X11_28 E rfl rfl (Nat.le_of_ble_eq_true rfl) (Nat.le_of_ble_eq_true rfl) dX11_caravan_49 (fun K9 _ E => ?_)
          refine v_mpI E (fun I10 _ E => ?_)
          refine v_mpR E (fun R11 _ E => ?_)
          refine v_dup C dX11_caravan_52 (rf_cat _) ?_
          obtain ⟨a12, h13, E⟩ := bnd E
          obtain ⟨hra12, hoa12⟩ := ob_is h13
          obtain ⟨q14, h15, E⟩ := bnd E
          refine v_callI (r := (some n)) (a := a12) (As := []) (st := [va_rf (some n)]) (ce1 := 1) (sl1 := 3) C ci_X11_91 (c_X1_init  hoa12 h15) hra12 rfl rfl ⟨rfl, rfl, Nat.le_of_ble_eq_true rfl, Nat.le_of_ble_eq_true rfl⟩ ⟨Nat.le_of_ble_eq_true rfl, Nat.le_of_ble_eq_true rfl⟩ (by simp only [List.map_cons, List.map_nil, List.sum_cons, List.sum_nil, rf_cat]; exact Nat.le_of_ble_eq_true rfl) rfl rfl dX11_caravan_53 ?_
          refine v_astore (r := (some n)) C [(5, va_rf (some n)), (4, va_rf q3), (0, va_rf (some o)), (1, .int x1), (2, .int x2), (3, .int x3)] dX11_caravan_56 (Nat.le_of_ble_eq_true rfl) (by generalize q3 = rr; cases rr <;> rfl) ?_
          refine v_aload (r := (some n)) C 0 dX11_caravan_58 rfl ?_
          refine v_iload_n C 3 dX11_caravan_60 rfl ?_
          refine v_iload_n C 4 dX11_caravan_61 rfl ?_
          refine v_aload (r := q3) C 1 dX11_caravan_62 rfl ?_
          obtain ⟨q16, h17, E⟩ := bnd E
          refine v_callV (r := (some n)) (As := [.int x1, .int x2, va_rf q3]) (rv := none) (st := []) (st1 := []) (ce1 := 1) (sl1 := 3) C cv_X11_183 (c_X1_become (x1 := x1) (x2 := x2) (x3 := q3) hoa12 h17) hra12 hoa12 rfl rfl ⟨rfl, rfl, Nat.le_of_ble_eq_true rfl, Nat.le_of_ble_eq_true rfl⟩ ⟨Nat.le_of_ble_eq_true rfl, Nat.le_of_ble_eq_true rfl⟩ (Nat.le_of_ble_eq_true rfl) rfl rfl rfl dX11_caravan_64 ?_
          refine v_aload_n (r := (some o)) C 2 dX11_caravan_67 rfl ?_
          obtain ⟨a18, h19, E⟩ := bnd E
          obtain ⟨hra18, hoa18⟩ := ob_is h19
          refine v_getR (r := (some o)) C fa_X11_30 rfl hra18 hoa18 dX11_caravan_68 ?_
          refine v_aload_n (r := (some o)) C 2 dX11_caravan_71 rfl ?_
          refine v_getI (r := (some o)) C fa_X11_180 rfl hra18 hoa18 dX11_caravan_72 ?_
          refine v_aload (r := (some n)) C 0 dX11_caravan_75 rfl ?_
          refine v_aast (r := (q16.2 a18 5)) (q := (some n)) C (by decide) E dX11_caravan_77 (fun R20 _ E => ?_)
          refine v_aload_n (r := (some o)) C 2 dX11_caravan_78 rfl ?_
          refine v_dup C dX11_caravan_79 (rf_cat _) ?_
          refine v_getI (r := (some o)) C fa_X11_180 rfl hra18 hoa18 dX11_caravan_80 ?_
          refine v_iconst C dX11_caravan_83 k_iconst_1 ?_
          refine v_iadd C dX11_caravan_84 ?_
          refine v_putI (r := (some o)) C fa_X11_180 rfl E hra18 hoa18 ⟨rfl, rfl⟩ dX11_caravan_85 (fun I21 _ E => ?_)
          refine v_aload_n (r := (some o)) C 2 dX11_caravan_88 rfl ?_
          refine v_getI (r := (some o)) C fa_X11_180 rfl hra18 hoa18 dX11_caravan_89 ?_
          refine v_iconst C dX11_caravan_92 k_iconst_1 ?_
          refine v_isub C dX11_caravan_93 ?_
          obtain rfl := Option.some.inj E
          exact v_iret C rfl dX11_caravan_94
        · refine v_bipush C dX11_caravan_46 k_bipush_m4 ?_
          refine v_widen (k1 := 1) (k2 := 3) (Nat.le_of_ble_eq_true rfl) (Nat.le_of_ble_eq_true rfl) ?_
          obtain rfl := Option.some.inj E
          exact v_iret C rfl dX11_caravan_48
set_option maxHeartbeats 4000000 in
theorem c_X11_caravan {n : Nat} {K : Sh} {I : Im} {J : Jm} {R : Rf} {o : Nat} {x1 : Int32} {x2 : Int32} {x3 : Int32} {res : Int32 × Sh × Nat × Im × Rf} (E : f_X11_caravan o x1 x2 x3 K n I R = some res) : Met l yX11_caravan (Cond.code yX11_caravan cX11_caravan 6 (some .int) :: tb) rX11_caravan (PX D cA bs Z [.ref o, .int x1, .int x2, .int x3] K n I J R) (QX D cA bs Z (some (.int res.1)) res.2.1 res.2.2.1 res.2.2.2.1 J res.2.2.2.2) 1 3 (fun q => bs ≤ q) := by
  refine met_of (lv1 := [(0, va_rf (some o)), (1, .int x1), (2, .int x2), (3, .int x3)]) pn_X11 (by exact Nat.le_of_ble_eq_true rfl) (by rfl) ?_
  intro p e s m args below meth c C hn
  exact v_sub [0, 1, 2, 3] [(0, va_rf (some o)), (1, .int x1), (2, .int x2), (3, .int x3)] rfl (w_X11_caravan_0 C _ _ _ _ _ _ _ _ E)
set_option maxHeartbeats 4000000 in
theorem w_X11_caravanAt_0 (C : Cx D cA bs Z p s m args meth c cX11_caravanAt RX11 2 (some (.object "SlowWells$Caravan"))) {o : Nat} {K : Sh} {n : Nat} {I : Im} {J : Jm} {R : Rf} (ho : (K o).1 = 12) (res : (Option Nat)) (x1 : Int32) (E : f_X11_caravanAt K I R o x1 = some res) : VW D cA bs Z p l e rX11_caravanAt s m args below meth c 2 [(0, va_rf (some o)), (1, .int x1)] K n I J R 0 0 (MQ below (QX D cA bs Z (some (va_rf res)) K n I J R) args s 0 0 (fun q => bs ≤ q)) 0 [] := by
  unfold f_X11_caravanAt at E
  refine v_iload_n C 1 dX11_caravanAt_0 rfl ?_
  refine v_if_lt C 21 E dX11_caravanAt_1 rfl (fun c3 E => ?_) (fun c3 E => ?_)
  · refine v_null C dX11_caravanAt_21 ?_
    obtain rfl := Option.some.inj E
    exact v_aret C rfl dX11_caravanAt_22
  · refine v_iload_n C 1 dX11_caravanAt_4 rfl ?_
    refine v_aload_n (r := (some o)) C 0 dX11_caravanAt_5 rfl ?_
    refine v_getI (r := (some o)) C fa_X11_180 rfl rfl ho dX11_caravanAt_6 ?_
    refine v_icmp_ge C 21 E dX11_caravanAt_9 rfl (fun c2 E => ?_) (fun c2 E => ?_)
    · refine v_null C dX11_caravanAt_21 ?_
      obtain rfl := Option.some.inj E
      exact v_aret C rfl dX11_caravanAt_22
    · refine v_aload_n (r := (some o)) C 0 dX11_caravanAt_12 rfl ?_
      refine v_getR (r := (some o)) C fa_X11_30 rfl rfl ho dX11_caravanAt_13 ?_
      refine v_iload_n C 1 dX11_caravanAt_16 rfl ?_
      refine v_aald (r := (R o 5)) C (by decide) E dX11_caravanAt_17 (fun v1 _ E => ?_)
      refine v_goto C 22 dX11_caravanAt_18 rfl ?_
      obtain rfl := Option.some.inj E
      exact v_aret C rfl dX11_caravanAt_22
set_option maxHeartbeats 4000000 in
theorem c_X11_caravanAt {n : Nat} {K : Sh} {I : Im} {J : Jm} {R : Rf} {o : Nat} {x1 : Int32} (ho : (K o).1 = 12) {res : (Option Nat)} (E : f_X11_caravanAt K I R o x1 = some res) : Met l yX11_caravanAt (Cond.code yX11_caravanAt cX11_caravanAt 2 (some (.object "SlowWells$Caravan")) :: tb) rX11_caravanAt (PX D cA bs Z [.ref o, .int x1] K n I J R) (QX D cA bs Z (some (va_rf res)) K n I J R) 0 0 (fun q => bs ≤ q) := by
  refine met_of (lv1 := [(0, va_rf (some o)), (1, .int x1)]) pn_X11 (by exact Nat.le_of_ble_eq_true rfl) (by rfl) ?_
  intro p e s m args below meth c C hn
  exact v_sub [0, 1] [(0, va_rf (some o)), (1, .int x1)] rfl (w_X11_caravanAt_0 C ho _ _ E)
set_option maxHeartbeats 4000000 in
theorem w_X11_isAskedOfTrip_0 (C : Cx D cA bs Z p s m args meth c cX11_isAskedOfTrip RX11 1 (some .boolean)) {K : Sh} {n : Nat} {I : Im} {J : Jm} {R : Rf} (res : Int32) (x0 : Int32) (E : f_X11_isAskedOfTrip K x0 = some res) : VW D cA bs Z p l e rX11_isAskedOfTrip s m args below meth c 1 [(0, .int x0)] K n I J R 0 0 (MQ below (QX D cA bs Z (some (.int res)) K n I J R) args s 0 0 (fun q => bs ≤ q)) 0 [] := by
  unfold f_X11_isAskedOfTrip at E
  refine v_iload_n C 0 dX11_isAskedOfTrip_0 rfl ?_
  refine v_iconst C dX11_isAskedOfTrip_1 k_iconst_0 ?_
  refine v_iconst C dX11_isAskedOfTrip_2 k_iconst_2 ?_
  obtain ⟨q1, h2, E⟩ := bnd E
  refine v_callS (As := [.int x0, .int 0, .int 2]) (rv := (some (.int q1))) (st := []) (st1 := [.int q1]) (ce1 := 0) (sl1 := 0) C cs_X11_101 (c_X11_within (x0 := x0) (x1 := 0) (x2 := 2) h2) rfl rfl ⟨rfl, rfl, Nat.le_of_ble_eq_true rfl, Nat.le_of_ble_eq_true rfl⟩ ⟨Nat.le_of_ble_eq_true rfl, Nat.le_of_ble_eq_true rfl⟩ (Nat.le_of_ble_eq_true rfl) rfl rfl rfl dX11_isAskedOfTrip_3 ?_
  refine v_if_ne C 31 E dX11_isAskedOfTrip_6 rfl (fun c9 E => ?_) (fun c9 E => ?_)
  · refine v_iload_n C 0 dX11_isAskedOfTrip_9 rfl ?_
    refine v_bipush C dX11_isAskedOfTrip_10 k_bipush_10 ?_
    refine v_bipush C dX11_isAskedOfTrip_12 k_bipush_14 ?_
    obtain ⟨q3, h4, E⟩ := bnd E
    refine v_callS (As := [.int x0, .int 10, .int 14]) (rv := (some (.int q3))) (st := []) (st1 := [.int q3]) (ce1 := 0) (sl1 := 0) C cs_X11_101 (c_X11_within (x0 := x0) (x1 := 10) (x2 := 14) h4) rfl rfl ⟨rfl, rfl, Nat.le_of_ble_eq_true rfl, Nat.le_of_ble_eq_true rfl⟩ ⟨Nat.le_of_ble_eq_true rfl, Nat.le_of_ble_eq_true rfl⟩ (Nat.le_of_ble_eq_true rfl) rfl rfl rfl dX11_isAskedOfTrip_14 ?_
    refine v_if_ne C 31 E dX11_isAskedOfTrip_17 rfl (fun c8 E => ?_) (fun c8 E => ?_)
    · refine v_iload_n C 0 dX11_isAskedOfTrip_20 rfl ?_
      refine v_bipush C dX11_isAskedOfTrip_21 k_bipush_20 ?_
      refine v_bipush C dX11_isAskedOfTrip_23 k_bipush_24 ?_
      obtain ⟨q5, h6, E⟩ := bnd E
      refine v_callS (As := [.int x0, .int 20, .int 24]) (rv := (some (.int q5))) (st := []) (st1 := [.int q5]) (ce1 := 0) (sl1 := 0) C cs_X11_101 (c_X11_within (x0 := x0) (x1 := 20) (x2 := 24) h6) rfl rfl ⟨rfl, rfl, Nat.le_of_ble_eq_true rfl, Nat.le_of_ble_eq_true rfl⟩ ⟨Nat.le_of_ble_eq_true rfl, Nat.le_of_ble_eq_true rfl⟩ (Nat.le_of_ble_eq_true rfl) rfl rfl rfl dX11_isAskedOfTrip_25 ?_
      refine v_if_eq C 35 E dX11_isAskedOfTrip_28 rfl (fun c7 E => ?_) (fun c7 E => ?_)
      · refine v_iconst C dX11_isAskedOfTrip_35 k_iconst_0 ?_
        obtain rfl := Option.some.inj E
        exact v_zret (v := 0) C rfl nz_0 dX11_isAskedOfTrip_36
      · refine v_iconst C dX11_isAskedOfTrip_31 k_iconst_1 ?_
        refine v_goto C 36 dX11_isAskedOfTrip_32 rfl ?_
        obtain rfl := Option.some.inj E
        exact v_zret (v := 1) C rfl nz_1 dX11_isAskedOfTrip_36
    · refine v_iconst C dX11_isAskedOfTrip_31 k_iconst_1 ?_
      refine v_goto C 36 dX11_isAskedOfTrip_32 rfl ?_
      obtain rfl := Option.some.inj E
      exact v_zret (v := 1) C rfl nz_1 dX11_isAskedOfTrip_36
  · refine v_iconst C dX11_isAskedOfTrip_31 k_iconst_1 ?_
    refine v_goto C 36 dX11_isAskedOfTrip_32 rfl ?_
    obtain rfl := Option.some.inj E
    exact v_zret (v := 1) C rfl nz_1 dX11_isAskedOfTrip_36
set_option maxHeartbeats 4000000 in
theorem c_X11_isAskedOfTrip {n : Nat} {K : Sh} {I : Im} {J : Jm} {R : Rf} {x0 : Int32} {res : Int32} (E : f_X11_isAskedOfTrip K x0 = some res) : Met l yX11_isAskedOfTrip (Cond.code yX11_isAskedOfTrip cX11_isAskedOfTrip 1 (some .boolean) :: tb) rX11_isAskedOfTrip (PX D cA bs Z [.int x0] K n I J R) (QX D cA bs Z (some (.int res)) K n I J R) 0 0 (fun q => bs ≤ q) := by
  refine met_of (lv1 := [(0, .int x0)]) pn_X11 (by exact Nat.le_of_ble_eq_true rfl) (by rfl) ?_
  intro p e s m args below meth c C hn
  exact v_sub [0] [(0, .int x0)] rfl (w_X11_isAskedOfTrip_0 C _ _ E)
set_option maxHeartbeats 4000000 in
theorem w_X11_send_64 (C : Cx D cA bs Z p s m args meth c cX11_send RX11 5 none) {o : Nat} {K : Sh} {n : Nat} {J : Jm} (ho : (K o).1 = 12) (res : Im × Rf) (x1 : Option Nat) (x2 : Option Nat) (x3 : Option Nat) (x4 : Option Nat) (I : Im) (R : Rf) (E : f_X11_send_64 K o x1 x2 x3 x4 I R = some res) : VW D cA bs Z p l e rX11_send s m args below meth c 5 [(0, va_rf (some o)), (1, va_rf x1), (2, va_rf x2), (3, va_rf x3), (4, va_rf x4)] K n I J R 0 0 (MQ below (QX D cA bs Z none K n res.1 J res.2) args s 0 0 (fun q => bs ≤ q)) 64 [] := by
  unfold f_X11_send_64 at E
  refine v_aload_n (r := (some o)) C 0 dX11_send_64 rfl ?_
  refine v_getR (r := (some o)) C fa_X11_60 rfl rfl ho dX11_send_65 ?_
  refine v_aload_n (r := x1) C 1 dX11_send_68 rfl ?_
  refine v_aload_n (r := x2) C 2 dX11_send_69 rfl ?_
  refine v_aload_n (r := x3) C 3 dX11_send_70 rfl ?_
  refine v_aload (r := x4) C 4 dX11_send_71 rfl ?_
  obtain ⟨a1, h2, E⟩ := bnd E
  obtain ⟨hra1, hoa1⟩ := ob_is h2
  obtain ⟨q3, h4, E⟩ := bnd E
  refine v_callV (r := (R o 12)) (As := [va_rf x1, va_rf x2, va_rf x3, va_rf x4]) (rv := none) (st := []) (st1 := []) (ce1 := 0) (sl1 := 0) C cv_X11_220 (c_X8_make (x1 := x1) (x2 := x2) (x3 := x3) (x4 := x4) hoa1 h4) hra1 hoa1 rfl rfl ⟨rfl, rfl, Nat.le_of_ble_eq_true rfl, Nat.le_of_ble_eq_true rfl⟩ ⟨Nat.le_of_ble_eq_true rfl, Nat.le_of_ble_eq_true rfl⟩ (Nat.le_of_ble_eq_true rfl) rfl rfl rfl dX11_send_73 ?_
  obtain rfl := Option.some.inj E
  exact v_vret C rfl dX11_send_76
set_option maxHeartbeats 4000000 in
theorem w_X11_send_0 (C : Cx D cA bs Z p s m args meth c cX11_send RX11 5 none) {o : Nat} {K : Sh} {n : Nat} {J : Jm} (ho : (K o).1 = 12) (res : Im × Rf) (x1 : Option Nat) (x2 : Option Nat) (x3 : Option Nat) (I : Im) (R : Rf) (E : f_X11_send K o x1 x2 x3 I R = some res) : VW D cA bs Z p l e rX11_send s m args below meth c 5 [(0, va_rf (some o)), (1, va_rf x1), (2, va_rf x2), (3, va_rf x3)] K n I J R 0 0 (MQ below (QX D cA bs Z none K n res.1 J res.2) args s 0 0 (fun q => bs ≤ q)) 0 [] := by
  unfold f_X11_send at E
  refine v_null C dX11_send_0 ?_
  refine v_astore (r := none) C [(4, va_rf none), (0, va_rf (some o)), (1, va_rf x1), (2, va_rf x2), (3, va_rf x3)] dX11_send_1 (Nat.le_of_ble_eq_true rfl) (by generalize x3 = rr; cases rr <;> rfl) ?_
  refine v_aload_n (r := x3) C 4 dX11_send_3 rfl ?_
  obtain ⟨a5, h6, E⟩ := bnd E
  obtain ⟨hra5, hoa5⟩ := ob_is h6
  refine v_getR (r := x3) C fa_X11_348 rfl hra5 hoa5 dX11_send_4 ?_
  obtain ⟨a7, h8, E⟩ := bnd E
  obtain ⟨hra7, hoa7⟩ := ob_is h8
  refine v_getI (r := (R a5 2)) C fa_X11_171 rfl hra7 hoa7 dX11_send_7 ?_
  refine v_iconst C dX11_send_10 k_iconst_3 ?_
  refine v_icmp_ne C 26 E dX11_send_11 rfl (fun c18 E => ?_) (fun c18 E => ?_)
  · refine v_aload_n (r := x3) C 4 dX11_send_14 rfl ?_
    refine v_getR (r := x3) C fa_X11_348 rfl hra5 hoa5 dX11_send_15 ?_
    refine v_getR (r := (R a5 2)) C fa_X11_177 rfl hra7 hoa7 dX11_send_18 ?_
    refine v_astore (r := (R a7 3)) C [(4, va_rf (R a7 3)), (0, va_rf (some o)), (1, va_rf x1), (2, va_rf x2), (3, va_rf x3)] dX11_send_21 (Nat.le_of_ble_eq_true rfl) (by generalize x3 = rr; cases rr <;> rfl) ?_
    refine v_goto C 64 dX11_send_23 rfl ?_
    exact v_sub [1, 2, 3, 4, 0] [(0, va_rf (some o)), (1, va_rf x1), (2, va_rf x2), (3, va_rf x3), (4, va_rf (R a7 3))] rfl (w_X11_send_64 C ho res  _ _ _ _ _ _ E)
  · refine v_aload_n (r := x3) C 4 dX11_send_26 rfl ?_
    refine v_getR (r := x3) C fa_X11_348 rfl hra5 hoa5 dX11_send_27 ?_
    refine v_getI (r := (R a5 2)) C fa_X11_171 rfl hra7 hoa7 dX11_send_30 ?_
    refine v_iconst C dX11_send_33 k_iconst_5 ?_
    refine v_icmp_ne C 64 E dX11_send_34 rfl (fun c17 E => ?_) (fun c17 E => ?_)
    · refine v_aload_n (r := (some o)) C 1 dX11_send_37 rfl ?_
      refine v_getR (r := (some o)) C fa_X11_67 rfl rfl ho dX11_send_38 ?_
      refine v_aload_n (r := x1) C 2 dX11_send_41 rfl ?_
      refine v_aload_n (r := x2) C 3 dX11_send_42 rfl ?_
      refine v_aload_n (r := x3) C 4 dX11_send_43 rfl ?_
      obtain ⟨a9, h10, E⟩ := bnd E
      obtain ⟨hra9, hoa9⟩ := ob_is h10
      obtain ⟨q11, h12, E⟩ := bnd E
      refine v_callV (r := (R o 13)) (As := [va_rf x1, va_rf x2, va_rf x3]) (rv := (some (.int q11.1))) (st := []) (st1 := [.int q11.1]) (ce1 := 0) (sl1 := 0) C cv_X11_275 (c_X3_earliest (x1 := x1) (x2 := x2) (x3 := x3) hoa9 h12) hra9 hoa9 rfl rfl ⟨rfl, rfl, Nat.le_of_ble_eq_true rfl, Nat.le_of_ble_eq_true rfl⟩ ⟨Nat.le_of_ble_eq_true rfl, Nat.le_of_ble_eq_true rfl⟩ (Nat.le_of_ble_eq_true rfl) rfl rfl rfl dX11_send_44 ?_
      refine v_pop C dX11_send_47 rfl ?_
      refine v_aload_n (r := (some o)) C 1 dX11_send_48 rfl ?_
      refine v_getR (r := (some o)) C fa_X11_67 rfl rfl ho dX11_send_49 ?_
      obtain ⟨a13, h14, E⟩ := bnd E
      obtain ⟨hra13, hoa13⟩ := ob_is h14
      obtain ⟨q15, h16, E⟩ := bnd E
      refine v_callV (r := (q11.2.2 o 13)) (As := []) (rv := none) (st := []) (st1 := []) (ce1 := 0) (sl1 := 0) C cv_X11_352 (c_X3_plan  hoa13 h16) hra13 hoa13 rfl rfl ⟨rfl, rfl, Nat.le_of_ble_eq_true rfl, Nat.le_of_ble_eq_true rfl⟩ ⟨Nat.le_of_ble_eq_true rfl, Nat.le_of_ble_eq_true rfl⟩ (Nat.le_of_ble_eq_true rfl) rfl rfl rfl dX11_send_52 ?_
      refine v_aload_n (r := (some o)) C 1 dX11_send_55 rfl ?_
      refine v_getR (r := (some o)) C fa_X11_67 rfl rfl ho dX11_send_56 ?_
      refine v_getR (r := (q11.2.2 o 13)) C fa_X11_355 rfl hra13 hoa13 dX11_send_59 ?_
      refine v_astore (r := (q11.2.2 a13 0)) C [(4, va_rf (q11.2.2 a13 0)), (0, va_rf (some o)), (1, va_rf x1), (2, va_rf x2), (3, va_rf x3)] dX11_send_62 (Nat.le_of_ble_eq_true rfl) (by generalize x3 = rr; cases rr <;> rfl) ?_
      exact v_sub [1, 2, 3, 4, 0] [(0, va_rf (some o)), (1, va_rf x1), (2, va_rf x2), (3, va_rf x3), (4, va_rf (q11.2.2 a13 0))] rfl (w_X11_send_64 C ho res  _ _ _ _ _ _ E)
    · exact v_sub [1, 2, 3, 4, 0] [(0, va_rf (some o)), (1, va_rf x1), (2, va_rf x2), (3, va_rf x3), (4, va_rf none)] rfl (w_X11_send_64 C ho res  _ _ _ _ _ _ E)
set_option maxHeartbeats 4000000 in
theorem c_X11_send {n : Nat} {K : Sh} {I : Im} {J : Jm} {R : Rf} {o : Nat} {x1 : Option Nat} {x2 : Option Nat} {x3 : Option Nat} (ho : (K o).1 = 12) {res : Im × Rf} (E : f_X11_send K o x1 x2 x3 I R = some res) : Met l yX11_send (Cond.code yX11_send cX11_send 5 none :: tb) rX11_send (PX D cA bs Z [.ref o, va_rf x1, va_rf x2, va_rf x3] K n I J R) (QX D cA bs Z none K n res.1 J res.2) 0 0 (fun q => bs ≤ q) := by
  refine met_of (lv1 := [(0, va_rf (some o)), (1, va_rf x1), (2, va_rf x2), (3, va_rf x3)]) pn_X11 (by cases x1 <;> cases x2 <;> cases x3 <;> exact Nat.le_of_ble_eq_true rfl) (by cases x1 <;> cases x2 <;> cases x3 <;> rfl) ?_
  intro p e s m args below meth c C hn
  exact v_sub [0, 1, 2, 3] [(0, va_rf (some o)), (1, va_rf x1), (2, va_rf x2), (3, va_rf x3)] rfl (w_X11_send_0 C ho _ _ _ _ _ _ E)
set_option maxHeartbeats 4000000 in
theorem w_X11_worthOf_0 (C : Cx D cA bs Z p s m args meth c cX11_worthOf RX11 2 (some .int)) {o : Nat} {K : Sh} {n : Nat} {I : Im} {J : Jm} {R : Rf} (ho : (K o).1 = 12) (res : Int32) (x1 : Int32) (E : f_X11_worthOf K I R o x1 = some res) : VW D cA bs Z p l e rX11_worthOf s m args below meth c 2 [(0, va_rf (some o)), (1, .int x1)] K n I J R 0 0 (MQ below (QX D cA bs Z (some (.int res)) K n I J R) args s 0 0 (fun q => bs ≤ q)) 0 [] := by
  unfold f_X11_worthOf at E
  refine v_aload_n (r := (some o)) C 0 dX11_worthOf_0 rfl ?_
  refine v_getR (r := (some o)) C fa_X11_60 rfl rfl ho dX11_worthOf_1 ?_
  obtain ⟨a1, h2, E⟩ := bnd E
  obtain ⟨hra1, hoa1⟩ := ob_is h2
  refine v_getI (r := (R o 12)) C fa_X11_208 rfl hra1 hoa1 dX11_worthOf_4 ?_
  refine v_bipush C dX11_worthOf_7 k_bipush_m5 ?_
  refine v_icmp_ne C 16 E dX11_worthOf_9 rfl (fun c7 E => ?_) (fun c7 E => ?_)
  · refine v_iconst C dX11_worthOf_12 k_iconst_0 ?_
    refine v_goto C 28 dX11_worthOf_13 rfl ?_
    obtain rfl := Option.some.inj E
    exact v_iret C rfl dX11_worthOf_28
  · refine v_aload_n (r := (some o)) C 0 dX11_worthOf_16 rfl ?_
    refine v_getR (r := (some o)) C fa_X11_37 rfl rfl ho dX11_worthOf_17 ?_
    obtain ⟨a3, h4, E⟩ := bnd E
    obtain ⟨hra3, hoa3⟩ := ob_is h4
    refine v_getR (r := (R o 7)) C fa_X11_120 rfl hra3 hoa3 dX11_worthOf_20 ?_
    obtain ⟨a5, h6, E⟩ := bnd E
    obtain ⟨hra5, hoa5⟩ := ob_is h6
    refine v_getI (r := (R a3 0)) C fa_X11_345 rfl hra5 hoa5 dX11_worthOf_23 ?_
    refine v_iload_n C 1 dX11_worthOf_26 rfl ?_
    refine v_imul C dX11_worthOf_27 ?_
    obtain rfl := Option.some.inj E
    exact v_iret C rfl dX11_worthOf_28
set_option maxHeartbeats 4000000 in
theorem c_X11_worthOf {n : Nat} {K : Sh} {I : Im} {J : Jm} {R : Rf} {o : Nat} {x1 : Int32} (ho : (K o).1 = 12) {res : Int32} (E : f_X11_worthOf K I R o x1 = some res) : Met l yX11_worthOf (Cond.code yX11_worthOf cX11_worthOf 2 (some .int) :: tb) rX11_worthOf (PX D cA bs Z [.ref o, .int x1] K n I J R) (QX D cA bs Z (some (.int res)) K n I J R) 0 0 (fun q => bs ≤ q) := by
  refine met_of (lv1 := [(0, va_rf (some o)), (1, .int x1)]) pn_X11 (by exact Nat.le_of_ble_eq_true rfl) (by rfl) ?_
  intro p e s m args below meth c C hn
  exact v_sub [0, 1] [(0, va_rf (some o)), (1, .int x1)] rfl (w_X11_worthOf_0 C ho _ _ E)
set_option maxHeartbeats 4000000 in
theorem w_X11_tellTrip_0 (C : Cx D cA bs Z p s m args meth c cX11_tellTrip RX11 4 (some .int)) {o : Nat} {K : Sh} {n : Nat} {I : Im} {J : Jm} {R : Rf} (ho : (K o).1 = 12) (res : Int32) (x1 : Int32) (x2 : Int32) (E : f_X11_tellTrip K I R o x1 x2 = some res) : VW D cA bs Z p l e rX11_tellTrip s m args below meth c 4 [(0, va_rf (some o)), (1, .int x1), (2, .int x2)] K n I J R 0 0 (MQ below (QX D cA bs Z (some (.int res)) K n I J R) args s 0 0 (fun q => bs ≤ q)) 0 [] := by
  unfold f_X11_tellTrip at E
  refine v_iload_n C 1 dX11_tellTrip_0 rfl ?_
  by_cases c3 : x1 = 0
  · have E := ite_t E c3
    refine v_tableIn (off := 27) C 28 dX11_tellTrip_1 (by rw [c3]; decide) (by rw [c3]; decide) (by rw [c3]; rfl) rfl ?_
    refine v_aload_n (r := (some o)) C 0 dX11_tellTrip_28 rfl ?_
    refine v_getR (r := (some o)) C fa_X11_60 rfl rfl ho dX11_tellTrip_29 ?_
    obtain ⟨a1, h2, E⟩ := bnd E
    obtain ⟨hra1, hoa1⟩ := ob_is h2
    refine v_getI (r := (R o 12)) C fa_X11_208 rfl hra1 hoa1 dX11_tellTrip_32 ?_
    obtain rfl := Option.some.inj E
    exact v_iret C rfl dX11_tellTrip_35
  have E := ite_f E c3
  by_cases c6 : x1 = 1
  · have E := ite_t E c6
    refine v_tableIn (off := 35) C 36 dX11_tellTrip_1 (by rw [c6]; decide) (by rw [c6]; decide) (by rw [c6]; rfl) rfl ?_
    refine v_aload_n (r := (some o)) C 0 dX11_tellTrip_36 rfl ?_
    refine v_getR (r := (some o)) C fa_X11_60 rfl rfl ho dX11_tellTrip_37 ?_
    obtain ⟨a4, h5, E⟩ := bnd E
    obtain ⟨hra4, hoa4⟩ := ob_is h5
    refine v_getI (r := (R o 12)) C fa_X11_290 rfl hra4 hoa4 dX11_tellTrip_40 ?_
    obtain rfl := Option.some.inj E
    exact v_iret C rfl dX11_tellTrip_43
  have E := ite_f E c6
  by_cases c9 : x1 = 2
  · have E := ite_t E c9
    refine v_tableIn (off := 43) C 44 dX11_tellTrip_1 (by rw [c9]; decide) (by rw [c9]; decide) (by rw [c9]; rfl) rfl ?_
    refine v_aload_n (r := (some o)) C 0 dX11_tellTrip_44 rfl ?_
    refine v_iload_n C 2 dX11_tellTrip_45 rfl ?_
    obtain ⟨q7, h8, E⟩ := bnd E
    refine v_callV (r := (some o)) (As := [.int x2]) (rv := (some (.int q7))) (st := []) (st1 := [.int q7]) (ce1 := 0) (sl1 := 0) C cv_X11_224 (c_X11_worthOf (x1 := x2) ho h8) rfl ho rfl rfl ⟨rfl, rfl, Nat.le_of_ble_eq_true rfl, Nat.le_of_ble_eq_true rfl⟩ ⟨Nat.le_of_ble_eq_true rfl, Nat.le_of_ble_eq_true rfl⟩ (Nat.le_of_ble_eq_true rfl) rfl rfl rfl dX11_tellTrip_46 ?_
    obtain rfl := Option.some.inj E
    exact v_iret C rfl dX11_tellTrip_49
  have E := ite_f E c9
  refine v_tableOut C 50 dX11_tellTrip_1 (by have hc3 := lv_neT c3 (show ((0 : Int32)).toInt = 0 from by decide); have hc6 := lv_neT c6 (show ((1 : Int32)).toInt = 1 from by decide); have hc9 := lv_neT c9 (show ((2 : Int32)).toInt = 2 from by decide); omega) rfl ?_
  refine v_iload_n C 1 dX11_tellTrip_50 rfl ?_
  refine v_bipush C dX11_tellTrip_51 k_bipush_10 ?_
  refine v_irem C dX11_tellTrip_53 k_nz_10 ?_
  refine v_istore_n C [(3, .int (irem x1 10)), (0, va_rf (some o)), (1, .int x1), (2, .int x2)] dX11_tellTrip_54 (Nat.le_of_ble_eq_true rfl) rfl ?_
  refine v_iload_n C 0 dX11_tellTrip_55 rfl ?_
  refine v_aload_n (r := (some o)) C 1 dX11_tellTrip_56 rfl ?_
  refine v_getR (r := (some o)) C fa_X11_37 rfl rfl ho dX11_tellTrip_57 ?_
  obtain ⟨a10, h11, E⟩ := bnd E
  obtain ⟨hra10, hoa10⟩ := ob_is h11
  refine v_getR (r := (R o 7)) C fa_X11_120 rfl hra10 hoa10 dX11_tellTrip_60 ?_
  obtain ⟨a12, h13, E⟩ := bnd E
  obtain ⟨hra12, hoa12⟩ := ob_is h13
  refine v_getI (r := (R a10 0)) C fa_X11_134 rfl hra12 hoa12 dX11_tellTrip_63 ?_
  refine v_icmp_lt C 71 E dX11_tellTrip_66 rfl (fun c21 E => ?_) (fun c21 E => ?_)
  · refine v_iload_n C 2 dX11_tellTrip_71 rfl ?_
    refine v_bipush C dX11_tellTrip_72 k_bipush_20 ?_
    refine v_icmp_ge C 89 E dX11_tellTrip_74 rfl (fun c20 E => ?_) (fun c20 E => ?_)
    · refine v_aload_n (r := (some o)) C 1 dX11_tellTrip_89 rfl ?_
      refine v_getR (r := (some o)) C fa_X11_60 rfl rfl ho dX11_tellTrip_90 ?_
      obtain ⟨a14, h15, E⟩ := bnd E
      obtain ⟨hra14, hoa14⟩ := ob_is h15
      refine v_getR (r := (R o 12)) C fa_X11_342 rfl hra14 hoa14 dX11_tellTrip_93 ?_
      refine v_iload_n C 0 dX11_tellTrip_96 rfl ?_
      refine v_iald (r := (R a14 3)) C E dX11_tellTrip_97 (fun v16 _ E => ?_)
      obtain rfl := Option.some.inj E
      exact v_iret C rfl dX11_tellTrip_98
    · refine v_aload_n (r := (some o)) C 1 dX11_tellTrip_77 rfl ?_
      refine v_getR (r := (some o)) C fa_X11_60 rfl rfl ho dX11_tellTrip_78 ?_
      obtain ⟨a17, h18, E⟩ := bnd E
      obtain ⟨hra17, hoa17⟩ := ob_is h18
      refine v_getR (r := (R o 12)) C fa_X11_339 rfl hra17 hoa17 dX11_tellTrip_81 ?_
      refine v_iload_n C 0 dX11_tellTrip_84 rfl ?_
      refine v_iald (r := (R a17 2)) C E dX11_tellTrip_85 (fun v19 _ E => ?_)
      refine v_goto C 98 dX11_tellTrip_86 rfl ?_
      obtain rfl := Option.some.inj E
      exact v_iret C rfl dX11_tellTrip_98
  · refine v_iconst C dX11_tellTrip_69 k_iconst_m1 ?_
    obtain rfl := Option.some.inj E
    exact v_iret C rfl dX11_tellTrip_70
set_option maxHeartbeats 4000000 in
theorem c_X11_tellTrip {n : Nat} {K : Sh} {I : Im} {J : Jm} {R : Rf} {o : Nat} {x1 : Int32} {x2 : Int32} (ho : (K o).1 = 12) {res : Int32} (E : f_X11_tellTrip K I R o x1 x2 = some res) : Met l yX11_tellTrip (Cond.code yX11_tellTrip cX11_tellTrip 4 (some .int) :: tb) rX11_tellTrip (PX D cA bs Z [.ref o, .int x1, .int x2] K n I J R) (QX D cA bs Z (some (.int res)) K n I J R) 0 0 (fun q => bs ≤ q) := by
  refine met_of (lv1 := [(0, va_rf (some o)), (1, .int x1), (2, .int x2)]) pn_X11 (by exact Nat.le_of_ble_eq_true rfl) (by rfl) ?_
  intro p e s m args below meth c C hn
  exact v_sub [0, 1, 2] [(0, va_rf (some o)), (1, .int x1), (2, .int x2)] rfl (w_X11_tellTrip_0 C ho _ _ _ E)
end WK3
