section WK5
variable {D : va_G} {cA : Nat → ClassId} {bs : Nat} {Z : Nat → Nat} {p : Program} {l : Launch} {e : Env} {s : State} {m : MethodId} {args : Array Value} {below : List Frame} {meth : Method} {c : Code}
set_option maxHeartbeats 4000000 in
theorem w_X11_tape_62 (C : Cx D cA bs Z p s m args meth c cX11_tape RX11 5 (some .int)) {o : Nat} {K : Sh} {n : Nat} {R : Rf} (ho : (K o).1 = 12) (res : Int32 × Im × Jm) (s0 : Option Nat) (s1 : Int32) (s2 : Int32) (I : Im) (J : Jm) (E : f_X11_tape_62 K R o s0 s1 s2 I J = some res) : VW D cA bs Z p l e rX11_tape s m args below meth c 5 [(0, va_rf (some o))] K n I J R 0 0 (MQ below (QX D cA bs Z (some (.int res.1)) K n res.2.1 res.2.2 R) args s 0 0 (fun q => bs ≤ q)) 62 [.int s2, .int s1, va_rf s0] := by
  unfold f_X11_tape_62 at E
  obtain ⟨a1, h2, E⟩ := bnd E
  obtain ⟨hra1, hoa1⟩ := ob_is h2
  obtain ⟨q3, h4, E⟩ := bnd E
  refine v_callV (r := s0) (As := [.int s1, .int s2]) (rv := none) (st := []) (st1 := []) (ce1 := 0) (sl1 := 0) C cv_X11_316 (c_X7_become (x1 := s1) (x2 := s2) hoa1 h4) hra1 hoa1 rfl rfl ⟨rfl, rfl, Nat.le_of_ble_eq_true rfl, Nat.le_of_ble_eq_true rfl⟩ ⟨Nat.le_of_ble_eq_true rfl, Nat.le_of_ble_eq_true rfl⟩ (Nat.le_of_ble_eq_true rfl) rfl rfl rfl dX11_tape_62 ?_
  refine v_iconst C dX11_tape_65 k_iconst_1 ?_
  obtain rfl := Option.some.inj E
  exact v_iret C rfl dX11_tape_66
set_option maxHeartbeats 4000000 in
theorem w_X11_tape_49 (C : Cx D cA bs Z p s m args meth c cX11_tape RX11 5 (some .int)) {o : Nat} {K : Sh} {n : Nat} {R : Rf} (ho : (K o).1 = 12) (res : Int32 × Im × Jm) (x2 : Int32) (x3 : Int32) (x4 : Option Nat) (I : Im) (J : Jm) (E : f_X11_tape_49 K R o x2 x3 x4 I J = some res) : VW D cA bs Z p l e rX11_tape s m args below meth c 5 [(0, va_rf (some o)), (2, .int x2), (3, .int x3), (4, va_rf x4)] K n I J R 0 0 (MQ below (QX D cA bs Z (some (.int res.1)) K n res.2.1 res.2.2 R) args s 0 0 (fun q => bs ≤ q)) 49 [] := by
  unfold f_X11_tape_49 at E
  refine v_aload (r := x4) C 3 dX11_tape_49 rfl ?_
  refine v_iload_n C 1 dX11_tape_51 rfl ?_
  refine v_iload_n C 1 dX11_tape_52 rfl ?_
  refine v_iconst C dX11_tape_53 k_iconst_m1 ?_
  refine v_icmp_ne C 61 E dX11_tape_54 rfl (fun c5 E => ?_) (fun c5 E => ?_)
  · refine v_iconst C dX11_tape_57 k_iconst_0 ?_
    refine v_goto C 62 dX11_tape_58 rfl ?_
    exact v_sub [0] [(0, va_rf (some o))] rfl (w_X11_tape_62 C ho res  _ _ _ _ _ E)
  · refine v_iload_n C 2 dX11_tape_61 rfl ?_
    exact v_sub [0] [(0, va_rf (some o))] rfl (w_X11_tape_62 C ho res  _ _ _ _ _ E)
set_option maxHeartbeats 4000000 in
theorem w_X11_tape_37 (C : Cx D cA bs Z p s m args meth c cX11_tape RX11 5 (some .int)) {o : Nat} {K : Sh} {n : Nat} {R : Rf} (ho : (K o).1 = 12) (res : Int32 × Im × Jm) (x2 : Int32) (x3 : Int32) (x4 : Option Nat) (I : Im) (J : Jm) (E : f_X11_tape_37 K R o x2 x3 x4 I J = some res) : VW D cA bs Z p l e rX11_tape s m args below meth c 5 [(0, va_rf (some o)), (2, .int x2), (3, .int x3), (4, va_rf x4)] K n I J R 0 0 (MQ below (QX D cA bs Z (some (.int res.1)) K n res.2.1 res.2.2 R) args s 0 0 (fun q => bs ≤ q)) 37 [] := by
  unfold f_X11_tape_37 at E
  refine v_iload_n C 1 dX11_tape_37 rfl ?_
  refine v_iconst C dX11_tape_38 k_iconst_m1 ?_
  refine v_icmp_eq C 49 E dX11_tape_39 rfl (fun c7 E => ?_) (fun c7 E => ?_)
  · exact v_sub [0, 1, 2, 3] [(0, va_rf (some o)), (2, .int x2), (3, .int x3), (4, va_rf x4)] rfl (w_X11_tape_49 C ho res  _ _ _ _ _ E)
  · refine v_iload_n C 2 dX11_tape_42 rfl ?_
    refine v_if_ge C 49 E dX11_tape_43 rfl (fun c6 E => ?_) (fun c6 E => ?_)
    · exact v_sub [0, 1, 2, 3] [(0, va_rf (some o)), (2, .int x2), (3, .int x3), (4, va_rf x4)] rfl (w_X11_tape_49 C ho res  _ _ _ _ _ E)
    · refine v_bipush C dX11_tape_46 k_bipush_m14 ?_
      obtain rfl := Option.some.inj E
      exact v_iret C rfl dX11_tape_48
set_option maxHeartbeats 4000000 in
theorem w_X11_tape_0 (C : Cx D cA bs Z p s m args meth c cX11_tape RX11 5 (some .int)) {o : Nat} {K : Sh} {n : Nat} {R : Rf} (ho : (K o).1 = 12) (res : Int32 × Im × Jm) (x1 : Int32) (x2 : Int32) (x3 : Int32) (I : Im) (J : Jm) (E : f_X11_tape K R o x1 x2 x3 I J = some res) : VW D cA bs Z p l e rX11_tape s m args below meth c 5 [(0, va_rf (some o)), (1, .int x1), (2, .int x2), (3, .int x3)] K n I J R 0 0 (MQ below (QX D cA bs Z (some (.int res.1)) K n res.2.1 res.2.2 R) args s 0 0 (fun q => bs ≤ q)) 0 [] := by
  unfold f_X11_tape at E
  refine v_aload_n (r := (some o)) C 0 dX11_tape_0 rfl ?_
  refine v_iload_n C 1 dX11_tape_1 rfl ?_
  obtain ⟨q8, h9, E⟩ := bnd E
  refine v_callV (r := (some o)) (As := [.int x1]) (rv := (some (va_rf q8))) (st := []) (st1 := [va_rf q8]) (ce1 := 0) (sl1 := 0) C cv_X11_279 (c_X11_tapeAt (x1 := x1) ho h9) rfl ho rfl rfl ⟨rfl, rfl, Nat.le_of_ble_eq_true rfl, Nat.le_of_ble_eq_true rfl⟩ ⟨Nat.le_of_ble_eq_true rfl, Nat.le_of_ble_eq_true rfl⟩ (Nat.le_of_ble_eq_true rfl) rfl rfl rfl dX11_tape_2 ?_
  refine v_astore (r := q8) C [(4, va_rf q8), (0, va_rf (some o)), (1, .int x1), (2, .int x2), (3, .int x3)] dX11_tape_5 (Nat.le_of_ble_eq_true rfl) rfl ?_
  refine v_aload (r := q8) C 0 dX11_tape_7 rfl ?_
  refine v_ifnonnull (r := q8) C 14 E dX11_tape_9 rfl (fun c15 E => ?_) (fun c15 E => ?_)
  · refine v_iconst C dX11_tape_12 k_iconst_m1 ?_
    obtain rfl := Option.some.inj E
    exact v_iret C rfl dX11_tape_13
  · refine v_iload_n C 3 dX11_tape_14 rfl ?_
    refine v_iconst C dX11_tape_15 k_iconst_m1 ?_
    refine v_iconst C dX11_tape_16 k_iconst_4 ?_
    obtain ⟨q10, h11, E⟩ := bnd E
    refine v_callS (As := [.int x2, .int (-1), .int 4]) (rv := (some (.int q10))) (st := []) (st1 := [.int q10]) (ce1 := 0) (sl1 := 0) C cs_X11_101 (c_X11_within (x0 := x2) (x1 := (-1)) (x2 := 4) h11) rfl rfl ⟨rfl, rfl, Nat.le_of_ble_eq_true rfl, Nat.le_of_ble_eq_true rfl⟩ ⟨Nat.le_of_ble_eq_true rfl, Nat.le_of_ble_eq_true rfl⟩ (Nat.le_of_ble_eq_true rfl) rfl rfl rfl dX11_tape_17 ?_
    refine v_if_eq C 34 E dX11_tape_20 rfl (fun c14 E => ?_) (fun c14 E => ?_)
    · refine v_bipush C dX11_tape_34 k_bipush_m2 ?_
      obtain rfl := Option.some.inj E
      exact v_iret C rfl dX11_tape_36
    · refine v_iload_n C 3 dX11_tape_23 rfl ?_
      refine v_iconst C dX11_tape_24 k_iconst_m1 ?_
      refine v_icmp_eq C 37 E dX11_tape_25 rfl (fun c13 E => ?_) (fun c13 E => ?_)
      · exact v_sub [1, 3, 4, 0] [(0, va_rf (some o)), (2, .int x2), (3, .int x3), (4, va_rf q8)] rfl (w_X11_tape_37 C ho res  _ _ _ _ _ E)
      · refine v_iload_n C 4 dX11_tape_28 rfl ?_
        refine v_bipush C dX11_tape_29 k_bipush_60 ?_
        refine v_icmp_le C 37 E dX11_tape_31 rfl (fun c12 E => ?_) (fun c12 E => ?_)
        · exact v_sub [1, 3, 4, 0] [(0, va_rf (some o)), (2, .int x2), (3, .int x3), (4, va_rf q8)] rfl (w_X11_tape_37 C ho res  _ _ _ _ _ E)
        · refine v_bipush C dX11_tape_34 k_bipush_m2 ?_
          obtain rfl := Option.some.inj E
          exact v_iret C rfl dX11_tape_36
set_option maxHeartbeats 4000000 in
theorem c_X11_tape {n : Nat} {K : Sh} {I : Im} {J : Jm} {R : Rf} {o : Nat} {x1 : Int32} {x2 : Int32} {x3 : Int32} (ho : (K o).1 = 12) {res : Int32 × Im × Jm} (E : f_X11_tape K R o x1 x2 x3 I J = some res) : Met l yX11_tape (Cond.code yX11_tape cX11_tape 5 (some .int) :: tb) rX11_tape (PX D cA bs Z [.ref o, .int x1, .int x2, .int x3] K n I J R) (QX D cA bs Z (some (.int res.1)) K n res.2.1 res.2.2 R) 0 0 (fun q => bs ≤ q) := by
  refine met_of (lv1 := [(0, va_rf (some o)), (1, .int x1), (2, .int x2), (3, .int x3)]) pn_X11 (by exact Nat.le_of_ble_eq_true rfl) (by rfl) ?_
  intro p e s m args below meth c C hn
  exact v_sub [0, 1, 2, 3] [(0, va_rf (some o)), (1, .int x1), (2, .int x2), (3, .int x3)] rfl (w_X11_tape_0 C ho _ _ _ _ _ _ E)
set_option maxHeartbeats 4000000 in
theorem w_X11_item_0 (C : Cx D cA bs Z p s m args meth c cX11_item RX11 6 (some .int)) {o : Nat} {K : Sh} {n : Nat} {I : Im} {R : Rf} (ho : (K o).1 = 12) (res : Int32 × Jm) (x1 : Int32) (x2 : Int32) (x3 : Int64) (J : Jm) (E : f_X11_item K I R o x1 x2 x3 J = some res) : VW D cA bs Z p l e rX11_item s m args below meth c 6 [(0, va_rf (some o)), (1, .int x1), (2, .int x2), (3, .long x3)] K n I J R 0 0 (MQ below (QX D cA bs Z (some (.int res.1)) K n I res.2 R) args s 0 0 (fun q => bs ≤ q)) 0 [] := by
  unfold f_X11_item at E
  refine v_aload_n (r := (some o)) C 0 dX11_item_0 rfl ?_
  refine v_iload_n C 1 dX11_item_1 rfl ?_
  obtain ⟨q1, h2, E⟩ := bnd E
  refine v_callV (r := (some o)) (As := [.int x1]) (rv := (some (va_rf q1))) (st := []) (st1 := [va_rf q1]) (ce1 := 0) (sl1 := 0) C cv_X11_279 (c_X11_tapeAt (x1 := x1) ho h2) rfl ho rfl rfl ⟨rfl, rfl, Nat.le_of_ble_eq_true rfl, Nat.le_of_ble_eq_true rfl⟩ ⟨Nat.le_of_ble_eq_true rfl, Nat.le_of_ble_eq_true rfl⟩ (Nat.le_of_ble_eq_true rfl) rfl rfl rfl dX11_item_2 ?_
  refine v_astore (r := q1) C [(5, va_rf q1), (0, va_rf (some o)), (1, .int x1), (2, .int x2), (3, .long x3)] dX11_item_5 (Nat.le_of_ble_eq_true rfl) rfl ?_
  refine v_aload (r := q1) C 0 dX11_item_7 rfl ?_
  refine v_ifnonnull (r := q1) C 14 E dX11_item_9 rfl (fun c12 E => ?_) (fun c12 E => ?_)
  · refine v_iconst C dX11_item_12 k_iconst_m1 ?_
    obtain rfl := Option.some.inj E
    exact v_iret C rfl dX11_item_13
  · refine v_aload (r := q1) C 0 dX11_item_14 rfl ?_
    obtain ⟨a3, h4, E⟩ := bnd E
    obtain ⟨hra3, hoa3⟩ := ob_is h4
    refine v_getI (r := q1) C fa_X11_283 rfl hra3 hoa3 dX11_item_16 ?_
    refine v_iconst C dX11_item_19 k_iconst_m1 ?_
    refine v_icmp_ne C 26 E dX11_item_20 rfl (fun c11 E => ?_) (fun c11 E => ?_)
    · refine v_bipush C dX11_item_23 k_bipush_m11 ?_
      obtain rfl := Option.some.inj E
      exact v_iret C rfl dX11_item_25
    · refine v_aload (r := q1) C 0 dX11_item_26 rfl ?_
      refine v_iload_n C 3 dX11_item_28 rfl ?_
      obtain ⟨q5, h6, E⟩ := bnd E
      refine v_callV (r := q1) (As := [.int x2]) (rv := (some (.int q5))) (st := []) (st1 := [.int q5]) (ce1 := 0) (sl1 := 0) C cv_X11_293 (c_X7_isPlace (x1 := x2) hoa3 h6) hra3 hoa3 rfl rfl ⟨rfl, rfl, Nat.le_of_ble_eq_true rfl, Nat.le_of_ble_eq_true rfl⟩ ⟨Nat.le_of_ble_eq_true rfl, Nat.le_of_ble_eq_true rfl⟩ (Nat.le_of_ble_eq_true rfl) rfl rfl rfl dX11_item_29 ?_
      refine v_if_ne C 38 E dX11_item_32 rfl (fun c10 E => ?_) (fun c10 E => ?_)
      · refine v_bipush C dX11_item_35 k_bipush_m13 ?_
        obtain rfl := Option.some.inj E
        exact v_iret C rfl dX11_item_37
      · refine v_aload (r := q1) C 0 dX11_item_38 rfl ?_
        refine v_getR (r := q1) C fa_X11_319 rfl hra3 hoa3 dX11_item_40 ?_
        refine v_iload_n C 3 dX11_item_43 rfl ?_
        refine v_aload (r := q1) C 0 dX11_item_44 rfl ?_
        refine v_lload_n C 4 dX11_item_46 rfl ?_
        obtain ⟨q7, h8, E⟩ := bnd E
        refine v_callV (r := q1) (As := [.long x3]) (rv := (some (.long q7))) (st := [.int x2, va_rf (R a3 2)]) (st1 := [.long q7, .int x2, va_rf (R a3 2)]) (ce1 := 0) (sl1 := 0) C cv_X11_323 (c_X7_narrowed (x1 := x3) hoa3 h8) hra3 hoa3 rfl rfl ⟨rfl, rfl, Nat.le_of_ble_eq_true rfl, Nat.le_of_ble_eq_true rfl⟩ ⟨Nat.le_of_ble_eq_true rfl, Nat.le_of_ble_eq_true rfl⟩ (by simp only [List.map_cons, List.map_nil, List.sum_cons, List.sum_nil, rf_cat]; exact Nat.le_of_ble_eq_true rfl) rfl rfl rfl dX11_item_47 ?_
        refine v_last (r := (R a3 2)) C E dX11_item_50 (fun J9 _ E => ?_)
        refine v_iconst C dX11_item_51 k_iconst_1 ?_
        obtain rfl := Option.some.inj E
        exact v_iret C rfl dX11_item_52
set_option maxHeartbeats 4000000 in
theorem c_X11_item {n : Nat} {K : Sh} {I : Im} {J : Jm} {R : Rf} {o : Nat} {x1 : Int32} {x2 : Int32} {x3 : Int64} (ho : (K o).1 = 12) {res : Int32 × Jm} (E : f_X11_item K I R o x1 x2 x3 J = some res) : Met l yX11_item (Cond.code yX11_item cX11_item 6 (some .int) :: tb) rX11_item (PX D cA bs Z [.ref o, .int x1, .int x2, .long x3] K n I J R) (QX D cA bs Z (some (.int res.1)) K n I res.2 R) 0 0 (fun q => bs ≤ q) := by
  refine met_of (lv1 := [(0, va_rf (some o)), (1, .int x1), (2, .int x2), (3, .long x3)]) pn_X11 (by exact Nat.le_of_ble_eq_true rfl) (by rfl) ?_
  intro p e s m args below meth c C hn
  exact v_sub [0, 1, 2, 3] [(0, va_rf (some o)), (1, .int x1), (2, .int x2), (3, .long x3)] rfl (w_X11_item_0 C ho _ _ _ _ _ E)
set_option maxHeartbeats 4000000 in
theorem w_X11_read_0 (C : Cx D cA bs Z p s m args meth c cX11_read RX11 4 (some .long)) {o : Nat} {K : Sh} {n : Nat} {I : Im} {J : Jm} {R : Rf} (ho : (K o).1 = 12) (res : Int64) (x1 : Int32) (x2 : Int32) (E : f_X11_read K I J R o x1 x2 = some res) : VW D cA bs Z p l e rX11_read s m args below meth c 4 [(0, va_rf (some o)), (1, .int x1), (2, .int x2)] K n I J R 0 0 (MQ below (QX D cA bs Z (some (.long res)) K n I J R) args s 0 0 (fun q => bs ≤ q)) 0 [] := by
  unfold f_X11_read at E
  refine v_aload_n (r := (some o)) C 0 dX11_read_0 rfl ?_
  refine v_iload_n C 1 dX11_read_1 rfl ?_
  obtain ⟨q1, h2, E⟩ := bnd E
  refine v_callV (r := (some o)) (As := [.int x1]) (rv := (some (va_rf q1))) (st := []) (st1 := [va_rf q1]) (ce1 := 0) (sl1 := 0) C cv_X11_279 (c_X11_tapeAt (x1 := x1) ho h2) rfl ho rfl rfl ⟨rfl, rfl, Nat.le_of_ble_eq_true rfl, Nat.le_of_ble_eq_true rfl⟩ ⟨Nat.le_of_ble_eq_true rfl, Nat.le_of_ble_eq_true rfl⟩ (Nat.le_of_ble_eq_true rfl) rfl rfl rfl dX11_read_2 ?_
  refine v_astore_n (r := q1) C [(3, va_rf q1), (0, va_rf (some o)), (1, .int x1), (2, .int x2)] dX11_read_5 (Nat.le_of_ble_eq_true rfl) rfl ?_
  refine v_aload_n (r := q1) C 0 dX11_read_6 rfl ?_
  refine v_ifnull (r := q1) C 27 E dX11_read_7 rfl (fun c9 E => ?_) (fun c9 E => ?_)
  · refine v_ldc2 C ct_X11_259 dX11_read_27 ?_
    obtain rfl := Option.some.inj E
    exact v_lret C rfl dX11_read_30
  · refine v_aload_n (r := q1) C 0 dX11_read_10 rfl ?_
    refine v_iload_n C 3 dX11_read_11 rfl ?_
    obtain ⟨a3, h4, E⟩ := bnd E
    obtain ⟨hra3, hoa3⟩ := ob_is h4
    obtain ⟨q5, h6, E⟩ := bnd E
    refine v_callV (r := q1) (As := [.int x2]) (rv := (some (.int q5))) (st := []) (st1 := [.int q5]) (ce1 := 0) (sl1 := 0) C cv_X11_293 (c_X7_isPlace (x1 := x2) hoa3 h6) hra3 hoa3 rfl rfl ⟨rfl, rfl, Nat.le_of_ble_eq_true rfl, Nat.le_of_ble_eq_true rfl⟩ ⟨Nat.le_of_ble_eq_true rfl, Nat.le_of_ble_eq_true rfl⟩ (Nat.le_of_ble_eq_true rfl) rfl rfl rfl dX11_read_12 ?_
    refine v_if_eq C 27 E dX11_read_15 rfl (fun c8 E => ?_) (fun c8 E => ?_)
    · refine v_ldc2 C ct_X11_259 dX11_read_27 ?_
      obtain rfl := Option.some.inj E
      exact v_lret C rfl dX11_read_30
    · refine v_aload_n (r := q1) C 0 dX11_read_18 rfl ?_
      refine v_getR (r := q1) C fa_X11_319 rfl hra3 hoa3 dX11_read_19 ?_
      refine v_iload_n C 3 dX11_read_22 rfl ?_
      refine v_lald (r := (R a3 2)) C E dX11_read_23 (fun v7 _ E => ?_)
      refine v_goto C 30 dX11_read_24 rfl ?_
      obtain rfl := Option.some.inj E
      exact v_lret C rfl dX11_read_30
set_option maxHeartbeats 4000000 in
theorem c_X11_read {n : Nat} {K : Sh} {I : Im} {J : Jm} {R : Rf} {o : Nat} {x1 : Int32} {x2 : Int32} (ho : (K o).1 = 12) {res : Int64} (E : f_X11_read K I J R o x1 x2 = some res) : Met l yX11_read (Cond.code yX11_read cX11_read 4 (some .long) :: tb) rX11_read (PX D cA bs Z [.ref o, .int x1, .int x2] K n I J R) (QX D cA bs Z (some (.long res)) K n I J R) 0 0 (fun q => bs ≤ q) := by
  refine met_of (lv1 := [(0, va_rf (some o)), (1, .int x1), (2, .int x2)]) pn_X11 (by exact Nat.le_of_ble_eq_true rfl) (by rfl) ?_
  intro p e s m args below meth c C hn
  exact v_sub [0, 1, 2] [(0, va_rf (some o)), (1, .int x1), (2, .int x2)] rfl (w_X11_read_0 C ho _ _ _ E)
set_option maxHeartbeats 4000000 in
theorem w_X11_shift_0 (C : Cx D cA bs Z p s m args meth c cX11_shift RX11 8 (some .int)) {o : Nat} {K : Sh} {n : Nat} {I : Im} {R : Rf} (ho : (K o).1 = 12) (res : Int32 × Jm) (x1 : Int32) (x2 : Int32) (x3 : Int32) (x4 : Int32) (x5 : Int32) (J : Jm) (E : f_X11_shift K I R o x1 x2 x3 x4 x5 J = some res) : VW D cA bs Z p l e rX11_shift s m args below meth c 8 [(0, va_rf (some o)), (1, .int x1), (2, .int x2), (3, .int x3), (4, .int x4), (5, .int x5)] K n I J R 0 0 (MQ below (QX D cA bs Z (some (.int res.1)) K n I res.2 R) args s 0 0 (fun q => bs ≤ q)) 0 [] := by
  unfold f_X11_shift at E
  refine v_aload_n (r := (some o)) C 0 dX11_shift_0 rfl ?_
  refine v_iload_n C 1 dX11_shift_1 rfl ?_
  obtain ⟨q1, h2, E⟩ := bnd E
  refine v_callV (r := (some o)) (As := [.int x1]) (rv := (some (va_rf q1))) (st := []) (st1 := [va_rf q1]) (ce1 := 0) (sl1 := 0) C cv_X11_279 (c_X11_tapeAt (x1 := x1) ho h2) rfl ho rfl rfl ⟨rfl, rfl, Nat.le_of_ble_eq_true rfl, Nat.le_of_ble_eq_true rfl⟩ ⟨Nat.le_of_ble_eq_true rfl, Nat.le_of_ble_eq_true rfl⟩ (Nat.le_of_ble_eq_true rfl) rfl rfl rfl dX11_shift_2 ?_
  refine v_astore (r := q1) C [(6, va_rf q1), (0, va_rf (some o)), (1, .int x1), (2, .int x2), (3, .int x3), (4, .int x4), (5, .int x5)] dX11_shift_5 (Nat.le_of_ble_eq_true rfl) rfl ?_
  refine v_aload_n (r := (some o)) C 1 dX11_shift_7 rfl ?_
  refine v_iload_n C 4 dX11_shift_8 rfl ?_
  obtain ⟨q3, h4, E⟩ := bnd E
  refine v_callV (r := (some o)) (As := [.int x3]) (rv := (some (va_rf q3))) (st := []) (st1 := [va_rf q3]) (ce1 := 0) (sl1 := 0) C cv_X11_279 (c_X11_tapeAt (x1 := x3) ho h4) rfl ho rfl rfl ⟨rfl, rfl, Nat.le_of_ble_eq_true rfl, Nat.le_of_ble_eq_true rfl⟩ ⟨Nat.le_of_ble_eq_true rfl, Nat.le_of_ble_eq_true rfl⟩ (Nat.le_of_ble_eq_true rfl) rfl rfl rfl dX11_shift_9 ?_
  refine v_astore (r := q3) C [(7, va_rf q3), (6, va_rf q1), (0, va_rf (some o)), (1, .int x1), (2, .int x2), (3, .int x3), (4, .int x4), (5, .int x5)] dX11_shift_12 (Nat.le_of_ble_eq_true rfl) (by generalize q1 = rr; cases rr <;> rfl) ?_
  refine v_aload (r := q1) C 1 dX11_shift_14 rfl ?_
  refine v_ifnull (r := q1) C 24 E dX11_shift_16 rfl (fun c20 E => ?_) (fun c20 E => ?_)
  · refine v_iconst C dX11_shift_24 k_iconst_m1 ?_
    obtain rfl := Option.some.inj E
    exact v_iret C rfl dX11_shift_25
  · refine v_aload (r := q3) C 0 dX11_shift_19 rfl ?_
    refine v_ifnonnull (r := q3) C 26 E dX11_shift_21 rfl (fun c19 E => ?_) (fun c19 E => ?_)
    · refine v_iconst C dX11_shift_24 k_iconst_m1 ?_
      obtain rfl := Option.some.inj E
      exact v_iret C rfl dX11_shift_25
    · refine v_aload (r := q1) C 1 dX11_shift_26 rfl ?_
      obtain ⟨a5, h6, E⟩ := bnd E
      obtain ⟨hra5, hoa5⟩ := ob_is h6
      refine v_getI (r := q1) C fa_X11_283 rfl hra5 hoa5 dX11_shift_28 ?_
      refine v_iconst C dX11_shift_31 k_iconst_m1 ?_
      refine v_icmp_eq C 44 E dX11_shift_32 rfl (fun c18 E => ?_) (fun c18 E => ?_)
      · refine v_bipush C dX11_shift_44 k_bipush_m11 ?_
        obtain rfl := Option.some.inj E
        exact v_iret C rfl dX11_shift_46
      · refine v_aload (r := q3) C 0 dX11_shift_35 rfl ?_
        obtain ⟨a7, h8, E⟩ := bnd E
        obtain ⟨hra7, hoa7⟩ := ob_is h8
        refine v_getI (r := q3) C fa_X11_283 rfl hra7 hoa7 dX11_shift_37 ?_
        refine v_iconst C dX11_shift_40 k_iconst_m1 ?_
        refine v_icmp_ne C 47 E dX11_shift_41 rfl (fun c17 E => ?_) (fun c17 E => ?_)
        · refine v_bipush C dX11_shift_44 k_bipush_m11 ?_
          obtain rfl := Option.some.inj E
          exact v_iret C rfl dX11_shift_46
        · refine v_aload (r := q1) C 1 dX11_shift_47 rfl ?_
          refine v_getI (r := q1) C fa_X11_283 rfl hra5 hoa5 dX11_shift_49 ?_
          refine v_aload (r := q3) C 0 dX11_shift_52 rfl ?_
          refine v_getI (r := q3) C fa_X11_283 rfl hra7 hoa7 dX11_shift_54 ?_
          refine v_icmp_eq C 63 E dX11_shift_57 rfl (fun c16 E => ?_) (fun c16 E => ?_)
          · refine v_aload (r := q1) C 1 dX11_shift_63 rfl ?_
            refine v_iload_n C 4 dX11_shift_65 rfl ?_
            refine v_iload C 7 dX11_shift_66 rfl ?_
            obtain ⟨q9, h10, E⟩ := bnd E
            refine v_callV (r := q1) (As := [.int x2, .int x5]) (rv := (some (.int q9))) (st := []) (st1 := [.int q9]) (ce1 := 0) (sl1 := 0) C cv_X11_327 (c_X7_isStretch (x1 := x2) (x2 := x5) hoa5 h10) hra5 hoa5 rfl rfl ⟨rfl, rfl, Nat.le_of_ble_eq_true rfl, Nat.le_of_ble_eq_true rfl⟩ ⟨Nat.le_of_ble_eq_true rfl, Nat.le_of_ble_eq_true rfl⟩ (Nat.le_of_ble_eq_true rfl) rfl rfl rfl dX11_shift_68 ?_
            refine v_if_eq C 86 E dX11_shift_71 rfl (fun c15 E => ?_) (fun c15 E => ?_)
            · refine v_bipush C dX11_shift_86 k_bipush_m13 ?_
              obtain rfl := Option.some.inj E
              exact v_iret C rfl dX11_shift_88
            · refine v_aload (r := q3) C 0 dX11_shift_74 rfl ?_
              refine v_iload C 6 dX11_shift_76 rfl ?_
              refine v_iload C 7 dX11_shift_78 rfl ?_
              obtain ⟨q11, h12, E⟩ := bnd E
              refine v_callV (r := q3) (As := [.int x4, .int x5]) (rv := (some (.int q11))) (st := []) (st1 := [.int q11]) (ce1 := 0) (sl1 := 0) C cv_X11_327 (c_X7_isStretch (x1 := x4) (x2 := x5) hoa7 h12) hra7 hoa7 rfl rfl ⟨rfl, rfl, Nat.le_of_ble_eq_true rfl, Nat.le_of_ble_eq_true rfl⟩ ⟨Nat.le_of_ble_eq_true rfl, Nat.le_of_ble_eq_true rfl⟩ (Nat.le_of_ble_eq_true rfl) rfl rfl rfl dX11_shift_80 ?_
              refine v_if_ne C 89 E dX11_shift_83 rfl (fun c14 E => ?_) (fun c14 E => ?_)
              · refine v_bipush C dX11_shift_86 k_bipush_m13 ?_
                obtain rfl := Option.some.inj E
                exact v_iret C rfl dX11_shift_88
              · refine v_aload (r := q1) C 1 dX11_shift_89 rfl ?_
                refine v_getR (r := q1) C fa_X11_319 rfl hra5 hoa5 dX11_shift_91 ?_
                refine v_iload_n C 4 dX11_shift_94 rfl ?_
                refine v_aload (r := q3) C 0 dX11_shift_95 rfl ?_
                refine v_getR (r := q3) C fa_X11_319 rfl hra7 hoa7 dX11_shift_97 ?_
                refine v_iload C 6 dX11_shift_100 rfl ?_
                refine v_iload C 7 dX11_shift_102 rfl ?_
                refine v_copyJ (r := (R a5 2)) (q := (R a7 2)) C cp_w (Nat.le_of_ble_eq_true rfl) ((Nat.le_of_ble_eq_true rfl)) E dX11_shift_104 (fun J13 _ E => ?_)
                refine v_iload C 7 dX11_shift_107 rfl ?_
                obtain rfl := Option.some.inj E
                exact v_iret C rfl dX11_shift_109
          · refine v_bipush C dX11_shift_60 k_bipush_m12 ?_
            obtain rfl := Option.some.inj E
            exact v_iret C rfl dX11_shift_62
set_option maxHeartbeats 4000000 in
theorem c_X11_shift {n : Nat} {K : Sh} {I : Im} {J : Jm} {R : Rf} {o : Nat} {x1 : Int32} {x2 : Int32} {x3 : Int32} {x4 : Int32} {x5 : Int32} (ho : (K o).1 = 12) {res : Int32 × Jm} (E : f_X11_shift K I R o x1 x2 x3 x4 x5 J = some res) : Met l yX11_shift (Cond.code yX11_shift cX11_shift 8 (some .int) :: tb) rX11_shift (PX D cA bs Z [.ref o, .int x1, .int x2, .int x3, .int x4, .int x5] K n I J R) (QX D cA bs Z (some (.int res.1)) K n I res.2 R) 0 0 (fun q => bs ≤ q) := by
  refine met_of (lv1 := [(0, va_rf (some o)), (1, .int x1), (2, .int x2), (3, .int x3), (4, .int x4), (5, .int x5)]) pn_X11 (by exact Nat.le_of_ble_eq_true rfl) (by rfl) ?_
  intro p e s m args below meth c C hn
  exact v_sub [0, 1, 2, 3, 4, 5] [(0, va_rf (some o)), (1, .int x1), (2, .int x2), (3, .int x3), (4, .int x4), (5, .int x5)] rfl (w_X11_shift_0 C ho _ _ _ _ _ _ _ E)
set_option maxHeartbeats 4000000 in
set_option maxRecDepth 100000 in
theorem w_X12_init_0 (C : Cx D cA bs Z p s m args meth c cX12_init RX12 1 none) (hin : meth.name = "<init>") {o : Nat}  (res : Sh × Nat × Im × Jm × Rf) (K : Sh) (n : Nat) (I : Im) (J : Jm) (R : Rf) (E : f_X12_init o K n I J R = some res) : VW D cA bs Z p l e rX12_init s m args below meth c 1 [(0, va_rf (some o))] K n I J R 0 0 (MQ below (QX D cA bs Z none res.1 res.2.1 res.2.2.1 res.2.2.2.1 res.2.2.2.2) args s 47 1957 (fun q => bs ≤ q)) 0 [] := by
  unfold f_X12_init at E
  refine v_aload_n (r := (some o)) C 0 dX12_init_0 rfl ?_
  refine v_objInit (a := o) C oi_X12 oi_i oi_c (Nat.le_of_ble_eq_true rfl) (Nat.le_of_ble_eq_true rfl) dX12_init_1 ?_
  refine v_aload_n (r := (some o)) C 0 dX12_init_4 rfl ?_
  refine v_iconst C dX12_init_5 k_iconst_0 ?_
  obtain ⟨a1, h2, E⟩ := bnd E
  obtain ⟨hra1, hoa1⟩ := ob_is h2
  refine v_putI (r := (some o)) C fa_X12_7 rfl E hra1 hoa1 ⟨rfl, rfl⟩ dX12_init_6 (fun I3 _ E => ?_)
  refine v_aload_n (r := (some o)) C 0 dX12_init_9 rfl ?_
  refine v_iconst C dX12_init_10 k_iconst_m1 ?_
  refine v_putI (r := (some o)) C fa_X12_13 rfl E hra1 hoa1 ⟨rfl, rfl⟩ dX12_init_11 (fun I4 _ E => ?_)
  refine v_aload_n (r := (some o)) C 0 dX12_init_14 rfl ?_
  refine v_iconst C dX12_init_15 k_iconst_0 ?_
  refine v_putI (r := (some o)) C fa_X12_16 rfl E hra1 hoa1 ⟨rfl, rfl⟩ dX12_init_16 (fun I5 _ E => ?_)
  refine v_aload_n (r := (some o)) C 0 dX12_init_19 rfl ?_
  refine v_iconst C dX12_init_20 k_iconst_0 ?_
  refine v_putI (r := (some o)) C fa_X12_19 rfl E hra1 hoa1 ⟨rfl, rfl⟩ dX12_init_21 (fun I6 _ E => ?_)
  refine v_aload_n (r := (some o)) C 0 dX12_init_24 rfl ?_
  refine v_iconst C dX12_init_25 k_iconst_0 ?_
  refine v_putI (r := (some o)) C fa_X12_22 rfl E hra1 hoa1 ⟨rfl, rfl⟩ dX12_init_26 (fun I7 _ E => ?_)
  refine v_aload_n (r := (some o)) C 0 dX12_init_29 rfl ?_
  refine v_bipush C dX12_init_30 k_bipush_100 ?_
  refine v_newI (N := 100) (ce1 := 1) (sl1 := 100) C ac_int E (by decide) (by decide) rfl rfl (Nat.le_of_ble_eq_true rfl) (Nat.le_of_ble_eq_true rfl) dX12_init_32 (fun K8 _ E => ?_)
  refine v_mpI E (fun I9 _ E => ?_)
  obtain ⟨a10, h11, E⟩ := bnd E
  obtain ⟨hra10, hoa10⟩ := ob_is h11
  refine v_putRF (r := (some o)) (q := (some n)) C fa_X12_25 fo_X12_25 hin rfl E hra10 hoa10 dX12_init_34 (fun R12 _ E => ?_)
  refine v_aload_n (r := (some o)) C 0 dX12_init_37 rfl ?_
  refine v_iconst C dX12_init_38 k_iconst_5 ?_
  refine v_newI (N := 5) (ce1 := 2) (sl1 := 105) C ac_int E (by decide) (by decide) rfl rfl (Nat.le_of_ble_eq_true rfl) (Nat.le_of_ble_eq_true rfl) dX12_init_39 (fun K13 _ E => ?_)
  refine v_mpI E (fun I14 _ E => ?_)
  obtain ⟨a15, h16, E⟩ := bnd E
  obtain ⟨hra15, hoa15⟩ := ob_is h16
  refine v_putRF (r := (some o)) (q := (some (n + 1))) C fa_X12_29 fo_X12_29 hin rfl E hra15 hoa15 dX12_init_41 (fun R17 _ E => ?_)
  refine v_aload_n (r := (some o)) C 0 dX12_init_44 rfl ?_
  refine v_bipush C dX12_init_45 k_bipush_60 ?_
  refine v_newI (N := 60) (ce1 := 3) (sl1 := 165) C ac_int E (by decide) (by decide) rfl rfl (Nat.le_of_ble_eq_true rfl) (Nat.le_of_ble_eq_true rfl) dX12_init_47 (fun K18 _ E => ?_)
  refine v_mpI E (fun I19 _ E => ?_)
  obtain ⟨a20, h21, E⟩ := bnd E
  obtain ⟨hra20, hoa20⟩ := ob_is h21
  refine v_putRF (r := (some o)) (q := (some (n + 2))) C fa_X12_32 fo_X12_32 hin rfl E hra20 hoa20 dX12_init_49 (fun R22 _ E => ?_)
  refine v_aload_n (r := (some o)) C 0 dX12_init_52 rfl ?_
  refine v_bipush C dX12_init_53 k_bipush_60 ?_
  refine v_newI (N := 60) (ce1 := 4) (sl1 := 225) C ac_int E (by decide) (by decide) rfl rfl (Nat.le_of_ble_eq_true rfl) (Nat.le_of_ble_eq_true rfl) dX12_init_55 (fun K23 _ E => ?_)
  refine v_mpI E (fun I24 _ E => ?_)
  obtain ⟨a25, h26, E⟩ := bnd E
  obtain ⟨hra25, hoa25⟩ := ob_is h26
  refine v_putRF (r := (some o)) (q := (some (n + 3))) C fa_X12_35 fo_X12_35 hin rfl E hra25 hoa25 dX12_init_57 (fun R27 _ E => ?_)
  refine v_aload_n (r := (some o)) C 0 dX12_init_60 rfl ?_
  refine v_bipush C dX12_init_61 k_bipush_60 ?_
  refine v_newI (N := 60) (ce1 := 5) (sl1 := 285) C ac_int E (by decide) (by decide) rfl rfl (Nat.le_of_ble_eq_true rfl) (Nat.le_of_ble_eq_true rfl) dX12_init_63 (fun K28 _ E => ?_)
  refine v_mpI E (fun I29 _ E => ?_)
  obtain ⟨a30, h31, E⟩ := bnd E
  obtain ⟨hra30, hoa30⟩ := ob_is h31
  refine v_putRF (r := (some o)) (q := (some (n + 4))) C fa_X12_38 fo_X12_38 hin rfl E hra30 hoa30 dX12_init_65 (fun R32 _ E => ?_)
  refine v_aload_n (r := (some o)) C 0 dX12_init_68 rfl ?_
  refine v_bipush C dX12_init_69 k_bipush_60 ?_
  refine v_newI (N := 60) (ce1 := 6) (sl1 := 345) C ac_int E (by decide) (by decide) rfl rfl (Nat.le_of_ble_eq_true rfl) (Nat.le_of_ble_eq_true rfl) dX12_init_71 (fun K33 _ E => ?_)
  refine v_mpI E (fun I34 _ E => ?_)
  obtain ⟨a35, h36, E⟩ := bnd E
  obtain ⟨hra35, hoa35⟩ := ob_is h36
  refine v_putRF (r := (some o)) (q := (some (n + 5))) C fa_X12_41 fo_X12_41 hin rfl E hra35 hoa35 dX12_init_73 (fun R37 _ E => ?_)
  refine v_aload_n (r := (some o)) C 0 dX12_init_76 rfl ?_
  refine v_bipush C dX12_init_77 k_bipush_60 ?_
  refine v_newI (N := 60) (ce1 := 7) (sl1 := 405) C ac_int E (by decide) (by decide) rfl rfl (Nat.le_of_ble_eq_true rfl) (Nat.le_of_ble_eq_true rfl) dX12_init_79 (fun K38 _ E => ?_)
  refine v_mpI E (fun I39 _ E => ?_)
  obtain ⟨a40, h41, E⟩ := bnd E
  obtain ⟨hra40, hoa40⟩ := ob_is h41
  refine v_putRF (r := (some o)) (q := (some (n + 6))) C fa_X12_44 fo_X12_44 hin rfl E hra40 hoa40 dX12_init_81 (fun R42 _ E => ?_)
  refine v_aload_n (r := (some o)) C 0 dX12_init_84 rfl ?_
  refine v_sipush C dX12_init_85 k_sipush_500 ?_
  refine v_newI (N := 500) (ce1 := 8) (sl1 := 905) C ac_int E (by decide) (by decide) rfl rfl (Nat.le_of_ble_eq_true rfl) (Nat.le_of_ble_eq_true rfl) dX12_init_88 (fun K43 _ E => ?_)
  refine v_mpI E (fun I44 _ E => ?_)
  obtain ⟨a45, h46, E⟩ := bnd E
  obtain ⟨hra45, hoa45⟩ := ob_is h46
  refine v_putRF (r := (some o)) (q := (some (n + 7))) C fa_X12_47 fo_X12_47 hin rfl E hra45 hoa45 dX12_init_90 (fun R47 _ E => ?_)
  refine v_aload_n (r := (some o)) C 0 dX12_init_93 rfl ?_
  refine v_bipush C dX12_init_94 k_bipush_101 ?_
  refine v_newI (N := 101) (ce1 := 9) (sl1 := 1006) C ac_int E (by decide) (by decide) rfl rfl (Nat.le_of_ble_eq_true rfl) (Nat.le_of_ble_eq_true rfl) dX12_init_96 (fun K48 _ E => ?_)
  refine v_mpI E (fun I49 _ E => ?_)
  obtain ⟨a50, h51, E⟩ := bnd E
  obtain ⟨hra50, hoa50⟩ := ob_is h51
  refine v_putRF (r := (some o)) (q := (some (n + 8))) C fa_X12_50 fo_X12_50 hin rfl E hra50 hoa50 dX12_init_98 (fun R52 _ E => ?_)
  refine v_aload_n (r := (some o)) C 0 dX12_init_101 rfl ?_
  refine v_iconst C dX12_init_102 k_iconst_0 ?_
  refine v_putI (r := (some o)) C fa_X12_53 rfl E hra50 hoa50 ⟨rfl, rfl⟩ dX12_init_103 (fun I53 _ E => ?_)
  refine v_aload_n (r := (some o)) C 0 dX12_init_106 rfl ?_
  refine v_iconst C dX12_init_107 k_iconst_0 ?_
  refine v_putI (r := (some o)) C fa_X12_56 rfl E hra50 hoa50 ⟨rfl, rfl⟩ dX12_init_108 (fun I54 _ E => ?_)
  refine v_aload_n (r := (some o)) C 0 dX12_init_111 rfl ?_
  refine v_iconst C dX12_init_112 k_iconst_0 ?_
  refine v_putI (r := (some o)) C fa_X12_59 rfl E hra50 hoa50 ⟨rfl, rfl⟩ dX12_init_113 (fun I55 _ E => ?_)
  refine v_aload_n (r := (some o)) C 0 dX12_init_116 rfl ?_
  refine v_bipush C dX12_init_117 k_bipush_100 ?_
  refine v_newZ (N := 100) (ce1 := 10) (sl1 := 1106) C ac_boolean E (by decide) (by decide) rfl rfl (Nat.le_of_ble_eq_true rfl) (Nat.le_of_ble_eq_true rfl) dX12_init_119 (fun K56 _ E => ?_)
  refine v_mpI E (fun I57 _ E => ?_)
  obtain ⟨a58, h59, E⟩ := bnd E
  obtain ⟨hra58, hoa58⟩ := ob_is h59
  refine v_putRF (r := (some o)) (q := (some (n + 9))) C fa_X12_62 fo_X12_62 hin rfl E hra58 hoa58 dX12_init_121 (fun R60 _ E => ?_)
  refine v_aload_n (r := (some o)) C 0 dX12_init_124 rfl ?_
  refine v_iconst C dX12_init_125 k_iconst_5 ?_
  refine v_newI (N := 5) (ce1 := 11) (sl1 := 1111) C ac_int E (by decide) (by decide) rfl rfl (Nat.le_of_ble_eq_true rfl) (Nat.le_of_ble_eq_true rfl) dX12_init_126 (fun K61 _ E => ?_)
  refine v_mpI E (fun I62 _ E => ?_)
  obtain ⟨a63, h64, E⟩ := bnd E
  obtain ⟨hra63, hoa63⟩ := ob_is h64
  refine v_putRF (r := (some o)) (q := (some (n + 10))) C fa_X12_66 fo_X12_66 hin rfl E hra63 hoa63 dX12_init_128 (fun R65 _ E => ?_)
  refine v_aload_n (r := (some o)) C 0 dX12_init_131 rfl ?_
  refine v_iconst C dX12_init_132 k_iconst_5 ?_
  refine v_newI (N := 5) (ce1 := 12) (sl1 := 1116) C ac_int E (by decide) (by decide) rfl rfl (Nat.le_of_ble_eq_true rfl) (Nat.le_of_ble_eq_true rfl) dX12_init_133 (fun K66 _ E => ?_)
  refine v_mpI E (fun I67 _ E => ?_)
  obtain ⟨a68, h69, E⟩ := bnd E
  obtain ⟨hra68, hoa68⟩ := ob_is h69
  refine v_putRF (r := (some o)) (q := (some (n + 11))) C fa_X12_69 fo_X12_69 hin rfl E hra68 hoa68 dX12_init_135 (fun R70 _ E => ?_)
  refine v_aload_n (r := (some o)) C 0 dX12_init_138 rfl ?_
  refine v_iconst C dX12_init_139 k_iconst_5 ?_
  refine v_newI (N := 5) (ce1 := 13) (sl1 := 1121) C ac_int E (by decide) (by decide) rfl rfl (Nat.le_of_ble_eq_true rfl) (Nat.le_of_ble_eq_true rfl) dX12_init_140 (fun K71 _ E => ?_)
  refine v_mpI E (fun I72 _ E => ?_)
  obtain ⟨a73, h74, E⟩ := bnd E
  obtain ⟨hra73, hoa73⟩ := ob_is h74
  refine v_putRF (r := (some o)) (q := (some (n + 12))) C fa_X12_72 fo_X12_72 hin rfl E hra73 hoa73 dX12_init_142 (fun R75 _ E => ?_)
  refine v_aload_n (r := (some o)) C 0 dX12_init_145 rfl ?_
  refine v_iconst C dX12_init_146 k_iconst_0 ?_
  refine v_putI (r := (some o)) C fa_X12_75 rfl E hra73 hoa73 ⟨rfl, rfl⟩ dX12_init_147 (fun I76 _ E => ?_)
  refine v_aload_n (r := (some o)) C 0 dX12_init_150 rfl ?_
  refine v_bipush C dX12_init_151 k_bipush_6 ?_
  refine v_newI (N := 6) (ce1 := 14) (sl1 := 1127) C ac_int E (by decide) (by decide) rfl rfl (Nat.le_of_ble_eq_true rfl) (Nat.le_of_ble_eq_true rfl) dX12_init_153 (fun K77 _ E => ?_)
  refine v_mpI E (fun I78 _ E => ?_)
  obtain ⟨a79, h80, E⟩ := bnd E
  obtain ⟨hra79, hoa79⟩ := ob_is h80
  refine v_putRF (r := (some o)) (q := (some (n + 13))) C fa_X12_78 fo_X12_78 hin rfl E hra79 hoa79 dX12_init_155 (fun R81 _ E => ?_)
  refine v_aload_n (r := (some o)) C 0 dX12_init_158 rfl ?_
  refine v_bipush C dX12_init_159 k_bipush_6 ?_
  refine v_newI (N := 6) (ce1 := 15) (sl1 := 1133) C ac_int E (by decide) (by decide) rfl rfl (Nat.le_of_ble_eq_true rfl) (Nat.le_of_ble_eq_true rfl) dX12_init_161 (fun K82 _ E => ?_)
  refine v_mpI E (fun I83 _ E => ?_)
  obtain ⟨a84, h85, E⟩ := bnd E
  obtain ⟨hra84, hoa84⟩ := ob_is h85
  refine v_putRF (r := (some o)) (q := (some (n + 14))) C fa_X12_81 fo_X12_81 hin rfl E hra84 hoa84 dX12_init_163 (fun R86 _ E => ?_)
  refine v_aload_n (r := (some o)) C 0 dX12_init_166 rfl ?_
  refine v_bipush C dX12_init_167 k_bipush_7 ?_
  refine v_newI (N := 7) (ce1 := 16) (sl1 := 1140) C ac_int E (by decide) (by decide) rfl rfl (Nat.le_of_ble_eq_true rfl) (Nat.le_of_ble_eq_true rfl) dX12_init_169 (fun K87 _ E => ?_)
  refine v_mpI E (fun I88 _ E => ?_)
  obtain ⟨a89, h90, E⟩ := bnd E
  obtain ⟨hra89, hoa89⟩ := ob_is h90
  refine v_putRF (r := (some o)) (q := (some (n + 15))) C fa_X12_84 fo_X12_84 hin rfl E hra89 hoa89 dX12_init_171 (fun R91 _ E => ?_)
  refine v_aload_n (r := (some o)) C 0 dX12_init_174 rfl ?_
  refine v_bipush C dX12_init_175 k_bipush_6 ?_
  refine v_newI (N := 6) (ce1 := 17) (sl1 := 1146) C ac_int E (by decide) (by decide) rfl rfl (Nat.le_of_ble_eq_true rfl) (Nat.le_of_ble_eq_true rfl) dX12_init_177 (fun K92 _ E => ?_)
  refine v_mpI E (fun I93 _ E => ?_)
  obtain ⟨a94, h95, E⟩ := bnd E
  obtain ⟨hra94, hoa94⟩ := ob_is h95
  refine v_putRF (r := (some o)) (q := (some (n + 16))) C fa_X12_87 fo_X12_87 hin rfl E hra94 hoa94 dX12_init_179 (fun R96 _ E => ?_)
  refine v_aload_n (r := (some o)) C 0 dX12_init_182 rfl ?_
  refine v_bipush C dX12_init_183 k_bipush_6 ?_
  refine v_newI (N := 6) (ce1 := 18) (sl1 := 1152) C ac_int E (by decide) (by decide) rfl rfl (Nat.le_of_ble_eq_true rfl) (Nat.le_of_ble_eq_true rfl) dX12_init_185 (fun K97 _ E => ?_)
  refine v_mpI E (fun I98 _ E => ?_)
  obtain ⟨a99, h100, E⟩ := bnd E
  obtain ⟨hra99, hoa99⟩ := ob_is h100
  refine v_putRF (r := (some o)) (q := (some (n + 17))) C fa_X12_90 fo_X12_90 hin rfl E hra99 hoa99 dX12_init_187 (fun R101 _ E => ?_)
  refine v_aload_n (r := (some o)) C 0 dX12_init_190 rfl ?_
  refine v_iconst C dX12_init_191 k_iconst_0 ?_
  refine v_putI (r := (some o)) C fa_X12_93 rfl E hra99 hoa99 ⟨rfl, rfl⟩ dX12_init_192 (fun I102 _ E => ?_)
  refine v_aload_n (r := (some o)) C 0 dX12_init_195 rfl ?_
  refine v_iconst C dX12_init_196 k_iconst_0 ?_
  refine v_putI (r := (some o)) C fa_X12_96 rfl E hra99 hoa99 ⟨rfl, rfl⟩ dX12_init_197 (fun I103 _ E => ?_)
  refine v_aload_n (r := (some o)) C 0 dX12_init_200 rfl ?_
  refine v_iconst C dX12_init_201 k_iconst_0 ?_
  refine v_putI (r := (some o)) C fa_X12_99 rfl E hra99 hoa99 ⟨rfl, rfl⟩ dX12_init_202 (fun I104 _ E => ?_)
  refine v_aload_n (r := (some o)) C 0 dX12_init_205 rfl ?_
  refine v_bipush C dX12_init_206 k_bipush_11 ?_
  refine v_newI (N := 11) (ce1 := 19) (sl1 := 1163) C ac_int E (by decide) (by decide) rfl rfl (Nat.le_of_ble_eq_true rfl) (Nat.le_of_ble_eq_true rfl) dX12_init_208 (fun K105 _ E => ?_)
  refine v_mpI E (fun I106 _ E => ?_)
  obtain ⟨a107, h108, E⟩ := bnd E
  obtain ⟨hra107, hoa107⟩ := ob_is h108
  refine v_putRF (r := (some o)) (q := (some (n + 18))) C fa_X12_102 fo_X12_102 hin rfl E hra107 hoa107 dX12_init_210 (fun R109 _ E => ?_)
  refine v_aload_n (r := (some o)) C 0 dX12_init_213 rfl ?_
  refine v_bipush C dX12_init_214 k_bipush_11 ?_
  refine v_newI (N := 11) (ce1 := 20) (sl1 := 1174) C ac_int E (by decide) (by decide) rfl rfl (Nat.le_of_ble_eq_true rfl) (Nat.le_of_ble_eq_true rfl) dX12_init_216 (fun K110 _ E => ?_)
  refine v_mpI E (fun I111 _ E => ?_)
  obtain ⟨a112, h113, E⟩ := bnd E
  obtain ⟨hra112, hoa112⟩ := ob_is h113
  refine v_putRF (r := (some o)) (q := (some (n + 19))) C fa_X12_105 fo_X12_105 hin rfl E hra112 hoa112 dX12_init_218 (fun R114 _ E => ?_)
  refine v_aload_n (r := (some o)) C 0 dX12_init_221 rfl ?_
  refine v_bipush C dX12_init_222 k_bipush_11 ?_
  refine v_newI (N := 11) (ce1 := 21) (sl1 := 1185) C ac_int E (by decide) (by decide) rfl rfl (Nat.le_of_ble_eq_true rfl) (Nat.le_of_ble_eq_true rfl) dX12_init_224 (fun K115 _ E => ?_)
  refine v_mpI E (fun I116 _ E => ?_)
  obtain ⟨a117, h118, E⟩ := bnd E
  obtain ⟨hra117, hoa117⟩ := ob_is h118
  refine v_putRF (r := (some o)) (q := (some (n + 20))) C fa_X12_108 fo_X12_108 hin rfl E hra117 hoa117 dX12_init_226 (fun R119 _ E => ?_)
  refine v_aload_n (r := (some o)) C 0 dX12_init_229 rfl ?_
  refine v_bipush C dX12_init_230 k_bipush_55 ?_
  refine v_newI (N := 55) (ce1 := 22) (sl1 := 1240) C ac_int E (by decide) (by decide) rfl rfl (Nat.le_of_ble_eq_true rfl) (Nat.le_of_ble_eq_true rfl) dX12_init_232 (fun K120 _ E => ?_)
  refine v_mpI E (fun I121 _ E => ?_)
  obtain ⟨a122, h123, E⟩ := bnd E
  obtain ⟨hra122, hoa122⟩ := ob_is h123
  refine v_putRF (r := (some o)) (q := (some (n + 21))) C fa_X12_111 fo_X12_111 hin rfl E hra122 hoa122 dX12_init_234 (fun R124 _ E => ?_)
  refine v_aload_n (r := (some o)) C 0 dX12_init_237 rfl ?_
  refine v_bipush C dX12_init_238 k_bipush_7 ?_
  refine v_newI (N := 7) (ce1 := 23) (sl1 := 1247) C ac_int E (by decide) (by decide) rfl rfl (Nat.le_of_ble_eq_true rfl) (Nat.le_of_ble_eq_true rfl) dX12_init_240 (fun K125 _ E => ?_)
  refine v_mpI E (fun I126 _ E => ?_)
  obtain ⟨a127, h128, E⟩ := bnd E
  obtain ⟨hra127, hoa127⟩ := ob_is h128
  refine v_putRF (r := (some o)) (q := (some (n + 22))) C fa_X12_114 fo_X12_114 hin rfl E hra127 hoa127 dX12_init_242 (fun R129 _ E => ?_)
  refine v_aload_n (r := (some o)) C 0 dX12_init_245 rfl ?_
  refine v_bipush C dX12_init_246 k_bipush_7 ?_
  refine v_newI (N := 7) (ce1 := 24) (sl1 := 1254) C ac_int E (by decide) (by decide) rfl rfl (Nat.le_of_ble_eq_true rfl) (Nat.le_of_ble_eq_true rfl) dX12_init_248 (fun K130 _ E => ?_)
  refine v_mpI E (fun I131 _ E => ?_)
  obtain ⟨a132, h133, E⟩ := bnd E
  obtain ⟨hra132, hoa132⟩ := ob_is h133
  refine v_putRF (r := (some o)) (q := (some (n + 23))) C fa_X12_117 fo_X12_117 hin rfl E hra132 hoa132 dX12_init_250 (fun R134 _ E => ?_)
  refine v_aload_n (r := (some o)) C 0 dX12_init_253 rfl ?_
  refine v_bipush C dX12_init_254 k_bipush_7 ?_
  refine v_newI (N := 7) (ce1 := 25) (sl1 := 1261) C ac_int E (by decide) (by decide) rfl rfl (Nat.le_of_ble_eq_true rfl) (Nat.le_of_ble_eq_true rfl) dX12_init_256 (fun K135 _ E => ?_)
  refine v_mpI E (fun I136 _ E => ?_)
  obtain ⟨a137, h138, E⟩ := bnd E
  obtain ⟨hra137, hoa137⟩ := ob_is h138
  refine v_putRF (r := (some o)) (q := (some (n + 24))) C fa_X12_120 fo_X12_120 hin rfl E hra137 hoa137 dX12_init_258 (fun R139 _ E => ?_)
  refine v_aload_n (r := (some o)) C 0 dX12_init_261 rfl ?_
  refine v_iconst C dX12_init_262 k_iconst_5 ?_
  refine v_newI (N := 5) (ce1 := 26) (sl1 := 1266) C ac_int E (by decide) (by decide) rfl rfl (Nat.le_of_ble_eq_true rfl) (Nat.le_of_ble_eq_true rfl) dX12_init_263 (fun K140 _ E => ?_)
  refine v_mpI E (fun I141 _ E => ?_)
  obtain ⟨a142, h143, E⟩ := bnd E
  obtain ⟨hra142, hoa142⟩ := ob_is h143
  refine v_putRF (r := (some o)) (q := (some (n + 25))) C fa_X12_123 fo_X12_123 hin rfl E hra142 hoa142 dX12_init_265 (fun R144 _ E => ?_)
  refine v_aload_n (r := (some o)) C 0 dX12_init_268 rfl ?_
  refine v_sipush C dX12_init_269 k_sipush_168 ?_
  refine v_newI (N := 168) (ce1 := 27) (sl1 := 1434) C ac_int E (by decide) (by decide) rfl rfl (Nat.le_of_ble_eq_true rfl) (Nat.le_of_ble_eq_true rfl) dX12_init_272 (fun K145 _ E => ?_)
  refine v_mpI E (fun I146 _ E => ?_)
  obtain ⟨a147, h148, E⟩ := bnd E
  obtain ⟨hra147, hoa147⟩ := ob_is h148
  refine v_putRF (r := (some o)) (q := (some (n + 26))) C fa_X12_126 fo_X12_126 hin rfl E hra147 hoa147 dX12_init_274 (fun R149 _ E => ?_)
  refine v_aload_n (r := (some o)) C 0 dX12_init_277 rfl ?_
  refine v_bipush C dX12_init_278 k_bipush_6 ?_
  refine v_newI (N := 6) (ce1 := 28) (sl1 := 1440) C ac_int E (by decide) (by decide) rfl rfl (Nat.le_of_ble_eq_true rfl) (Nat.le_of_ble_eq_true rfl) dX12_init_280 (fun K150 _ E => ?_)
  refine v_mpI E (fun I151 _ E => ?_)
  obtain ⟨a152, h153, E⟩ := bnd E
  obtain ⟨hra152, hoa152⟩ := ob_is h153
  refine v_putRF (r := (some o)) (q := (some (n + 27))) C fa_X12_129 fo_X12_129 hin rfl E hra152 hoa152 dX12_init_282 (fun R154 _ E => ?_)
  refine v_aload_n (r := (some o)) C 0 dX12_init_285 rfl ?_
  refine v_bipush C dX12_init_286 k_bipush_6 ?_
  refine v_newI (N := 6) (ce1 := 29) (sl1 := 1446) C ac_int E (by decide) (by decide) rfl rfl (Nat.le_of_ble_eq_true rfl) (Nat.le_of_ble_eq_true rfl) dX12_init_288 (fun K155 _ E => ?_)
  refine v_mpI E (fun I156 _ E => ?_)
  obtain ⟨a157, h158, E⟩ := bnd E
  obtain ⟨hra157, hoa157⟩ := ob_is h158
  refine v_putRF (r := (some o)) (q := (some (n + 28))) C fa_X12_132 fo_X12_132 hin rfl E hra157 hoa157 dX12_init_290 (fun R159 _ E => ?_)
  refine v_aload_n (r := (some o)) C 0 dX12_init_293 rfl ?_
  refine v_bipush C dX12_init_294 k_bipush_6 ?_
  refine v_newI (N := 6) (ce1 := 30) (sl1 := 1452) C ac_int E (by decide) (by decide) rfl rfl (Nat.le_of_ble_eq_true rfl) (Nat.le_of_ble_eq_true rfl) dX12_init_296 (fun K160 _ E => ?_)
  refine v_mpI E (fun I161 _ E => ?_)
  obtain ⟨a162, h163, E⟩ := bnd E
  obtain ⟨hra162, hoa162⟩ := ob_is h163
  refine v_putRF (r := (some o)) (q := (some (n + 29))) C fa_X12_135 fo_X12_135 hin rfl E hra162 hoa162 dX12_init_298 (fun R164 _ E => ?_)
  refine v_aload_n (r := (some o)) C 0 dX12_init_301 rfl ?_
  refine v_bipush C dX12_init_302 k_bipush_6 ?_
  refine v_newI (N := 6) (ce1 := 31) (sl1 := 1458) C ac_int E (by decide) (by decide) rfl rfl (Nat.le_of_ble_eq_true rfl) (Nat.le_of_ble_eq_true rfl) dX12_init_304 (fun K165 _ E => ?_)
  refine v_mpI E (fun I166 _ E => ?_)
  obtain ⟨a167, h168, E⟩ := bnd E
  obtain ⟨hra167, hoa167⟩ := ob_is h168
  refine v_putRF (r := (some o)) (q := (some (n + 30))) C fa_X12_138 fo_X12_138 hin rfl E hra167 hoa167 dX12_init_306 (fun R169 _ E => ?_)
  refine v_aload_n (r := (some o)) C 0 dX12_init_309 rfl ?_
  refine v_bipush C dX12_init_310 k_bipush_6 ?_
  refine v_newI (N := 6) (ce1 := 32) (sl1 := 1464) C ac_int E (by decide) (by decide) rfl rfl (Nat.le_of_ble_eq_true rfl) (Nat.le_of_ble_eq_true rfl) dX12_init_312 (fun K170 _ E => ?_)
  refine v_mpI E (fun I171 _ E => ?_)
  obtain ⟨a172, h173, E⟩ := bnd E
  obtain ⟨hra172, hoa172⟩ := ob_is h173
  refine v_putRF (r := (some o)) (q := (some (n + 31))) C fa_X12_141 fo_X12_141 hin rfl E hra172 hoa172 dX12_init_314 (fun R174 _ E => ?_)
  refine v_aload_n (r := (some o)) C 0 dX12_init_317 rfl ?_
  refine v_bipush C dX12_init_318 k_bipush_6 ?_
  refine v_newI (N := 6) (ce1 := 33) (sl1 := 1470) C ac_int E (by decide) (by decide) rfl rfl (Nat.le_of_ble_eq_true rfl) (Nat.le_of_ble_eq_true rfl) dX12_init_320 (fun K175 _ E => ?_)
  refine v_mpI E (fun I176 _ E => ?_)
  obtain ⟨a177, h178, E⟩ := bnd E
  obtain ⟨hra177, hoa177⟩ := ob_is h178
  refine v_putRF (r := (some o)) (q := (some (n + 32))) C fa_X12_144 fo_X12_144 hin rfl E hra177 hoa177 dX12_init_322 (fun R179 _ E => ?_)
  refine v_aload_n (r := (some o)) C 0 dX12_init_325 rfl ?_
  refine v_iconst C dX12_init_326 k_iconst_0 ?_
  refine v_putI (r := (some o)) C fa_X12_147 rfl E hra177 hoa177 ⟨rfl, rfl⟩ dX12_init_327 (fun I180 _ E => ?_)
  refine v_aload_n (r := (some o)) C 0 dX12_init_330 rfl ?_
  refine v_iconst C dX12_init_331 k_iconst_0 ?_
  refine v_putI (r := (some o)) C fa_X12_150 rfl E hra177 hoa177 ⟨rfl, rfl⟩ dX12_init_332 (fun I181 _ E => ?_)
  refine v_aload_n (r := (some o)) C 0 dX12_init_335 rfl ?_
  refine v_iconst C dX12_init_336 k_iconst_0 ?_
  refine v_putI (r := (some o)) C fa_X12_153 rfl E hra177 hoa177 ⟨rfl, rfl⟩ dX12_init_337 (fun I182 _ E => ?_)
  refine v_aload_n (r := (some o)) C 0 dX12_init_340 rfl ?_
  refine v_iconst C dX12_init_341 k_iconst_0 ?_
  refine v_putI (r := (some o)) C fa_X12_156 rfl E hra177 hoa177 ⟨rfl, rfl⟩ dX12_init_342 (fun I183 _ E => ?_)
  refine v_aload_n (r := (some o)) C 0 dX12_init_345 rfl ?_
  refine v_bipush C dX12_init_346 k_bipush_m5 ?_
  refine v_putI (r := (some o)) C fa_X12_159 rfl E hra177 hoa177 ⟨rfl, rfl⟩ dX12_init_348 (fun I184 _ E => ?_)
  refine v_aload_n (r := (some o)) C 0 dX12_init_351 rfl ?_
  refine v_bipush C dX12_init_352 k_bipush_m5 ?_
  refine v_putI (r := (some o)) C fa_X12_162 rfl E hra177 hoa177 ⟨rfl, rfl⟩ dX12_init_354 (fun I185 _ E => ?_)
  refine v_aload_n (r := (some o)) C 0 dX12_init_357 rfl ?_
  refine v_iconst C dX12_init_358 k_iconst_0 ?_
  refine v_putI (r := (some o)) C fa_X12_165 rfl E hra177 hoa177 ⟨rfl, rfl⟩ dX12_init_359 (fun I186 _ E => ?_)
  refine v_aload_n (r := (some o)) C 0 dX12_init_362 rfl ?_
  refine v_iconst C dX12_init_363 k_iconst_3 ?_
  refine v_newI (N := 3) (ce1 := 34) (sl1 := 1473) C ac_int E (by decide) (by decide) rfl rfl (Nat.le_of_ble_eq_true rfl) (Nat.le_of_ble_eq_true rfl) dX12_init_364 (fun K187 _ E => ?_)
  refine v_mpI E (fun I188 _ E => ?_)
  obtain ⟨a189, h190, E⟩ := bnd E
  obtain ⟨hra189, hoa189⟩ := ob_is h190
  refine v_putRF (r := (some o)) (q := (some (n + 33))) C fa_X12_168 fo_X12_168 hin rfl E hra189 hoa189 dX12_init_366 (fun R191 _ E => ?_)
  refine v_aload_n (r := (some o)) C 0 dX12_init_369 rfl ?_
  refine v_iconst C dX12_init_370 k_iconst_3 ?_
  refine v_newI (N := 3) (ce1 := 35) (sl1 := 1476) C ac_int E (by decide) (by decide) rfl rfl (Nat.le_of_ble_eq_true rfl) (Nat.le_of_ble_eq_true rfl) dX12_init_371 (fun K192 _ E => ?_)
  refine v_mpI E (fun I193 _ E => ?_)
  obtain ⟨a194, h195, E⟩ := bnd E
  obtain ⟨hra194, hoa194⟩ := ob_is h195
  refine v_putRF (r := (some o)) (q := (some (n + 34))) C fa_X12_171 fo_X12_171 hin rfl E hra194 hoa194 dX12_init_373 (fun R196 _ E => ?_)
  refine v_aload_n (r := (some o)) C 0 dX12_init_376 rfl ?_
  refine v_iconst C dX12_init_377 k_iconst_3 ?_
  refine v_newI (N := 3) (ce1 := 36) (sl1 := 1479) C ac_int E (by decide) (by decide) rfl rfl (Nat.le_of_ble_eq_true rfl) (Nat.le_of_ble_eq_true rfl) dX12_init_378 (fun K197 _ E => ?_)
  refine v_mpI E (fun I198 _ E => ?_)
  obtain ⟨a199, h200, E⟩ := bnd E
  obtain ⟨hra199, hoa199⟩ := ob_is h200
  refine v_putRF (r := (some o)) (q := (some (n + 35))) C fa_X12_174 fo_X12_174 hin rfl E hra199 hoa199 dX12_init_380 (fun R201 _ E => ?_)
  refine v_aload_n (r := (some o)) C 0 dX12_init_383 rfl ?_
  refine v_iconst C dX12_init_384 k_iconst_3 ?_
  refine v_newI (N := 3) (ce1 := 37) (sl1 := 1482) C ac_int E (by decide) (by decide) rfl rfl (Nat.le_of_ble_eq_true rfl) (Nat.le_of_ble_eq_true rfl) dX12_init_385 (fun K202 _ E => ?_)
  refine v_mpI E (fun I203 _ E => ?_)
  obtain ⟨a204, h205, E⟩ := bnd E
  obtain ⟨hra204, hoa204⟩ := ob_is h205
  refine v_putRF (r := (some o)) (q := (some (n + 36))) C fa_X12_177 fo_X12_177 hin rfl E hra204 hoa204 dX12_init_387 (fun R206 _ E => ?_)
  refine v_aload_n (r := (some o)) C 0 dX12_init_390 rfl ?_
  refine v_iconst C dX12_init_391 k_iconst_0 ?_
  refine v_putI (r := (some o)) C fa_X12_180 rfl E hra204 hoa204 ⟨rfl, rfl⟩ dX12_init_392 (fun I207 _ E => ?_)
  refine v_aload_n (r := (some o)) C 0 dX12_init_395 rfl ?_
  refine v_iconst C dX12_init_396 k_iconst_0 ?_
  refine v_putI (r := (some o)) C fa_X12_183 rfl E hra204 hoa204 ⟨rfl, rfl⟩ dX12_init_397 (fun I208 _ E => ?_)
  refine v_aload_n (r := (some o)) C 0 dX12_init_400 rfl ?_
  refine v_iconst C dX12_init_401 k_iconst_0 ?_
  refine v_putI (r := (some o)) C fa_X12_186 rfl E hra204 hoa204 (by decide) dX12_init_402 (fun I209 _ E => ?_)
  refine v_aload_n (r := (some o)) C 0 dX12_init_405 rfl ?_
  refine v_iconst C dX12_init_406 k_iconst_m1 ?_
  refine v_putI (r := (some o)) C fa_X12_190 rfl E hra204 hoa204 ⟨rfl, rfl⟩ dX12_init_407 (fun I210 _ E => ?_)
  refine v_aload_n (r := (some o)) C 0 dX12_init_410 rfl ?_
  refine v_iconst C dX12_init_411 k_iconst_0 ?_
  refine v_putI (r := (some o)) C fa_X12_193 rfl E hra204 hoa204 ⟨rfl, rfl⟩ dX12_init_412 (fun I211 _ E => ?_)
  refine v_aload_n (r := (some o)) C 0 dX12_init_415 rfl ?_
  refine v_iconst C dX12_init_416 k_iconst_0 ?_
  refine v_putI (r := (some o)) C fa_X12_196 rfl E hra204 hoa204 ⟨rfl, rfl⟩ dX12_init_417 (fun I212 _ E => ?_)
  refine v_aload_n (r := (some o)) C 0 dX12_init_420 rfl ?_
  refine v_iconst C dX12_init_421 k_iconst_5 ?_
  refine v_newI (N := 5) (ce1 := 38) (sl1 := 1487) C ac_int E (by decide) (by decide) rfl rfl (Nat.le_of_ble_eq_true rfl) (Nat.le_of_ble_eq_true rfl) dX12_init_422 (fun K213 _ E => ?_)
  refine v_mpI E (fun I214 _ E => ?_)
  obtain ⟨a215, h216, E⟩ := bnd E
  obtain ⟨hra215, hoa215⟩ := ob_is h216
  refine v_putRF (r := (some o)) (q := (some (n + 37))) C fa_X12_199 fo_X12_199 hin rfl E hra215 hoa215 dX12_init_424 (fun R217 _ E => ?_)
  refine v_aload_n (r := (some o)) C 0 dX12_init_427 rfl ?_
  refine v_iconst C dX12_init_428 k_iconst_5 ?_
  refine v_newI (N := 5) (ce1 := 39) (sl1 := 1492) C ac_int E (by decide) (by decide) rfl rfl (Nat.le_of_ble_eq_true rfl) (Nat.le_of_ble_eq_true rfl) dX12_init_429 (fun K218 _ E => ?_)
  refine v_mpI E (fun I219 _ E => ?_)
  obtain ⟨a220, h221, E⟩ := bnd E
  obtain ⟨hra220, hoa220⟩ := ob_is h221
  refine v_putRF (r := (some o)) (q := (some (n + 38))) C fa_X12_202 fo_X12_202 hin rfl E hra220 hoa220 dX12_init_431 (fun R222 _ E => ?_)
  refine v_aload_n (r := (some o)) C 0 dX12_init_434 rfl ?_
  refine v_iconst C dX12_init_435 k_iconst_5 ?_
  refine v_newI (N := 5) (ce1 := 40) (sl1 := 1497) C ac_int E (by decide) (by decide) rfl rfl (Nat.le_of_ble_eq_true rfl) (Nat.le_of_ble_eq_true rfl) dX12_init_436 (fun K223 _ E => ?_)
  refine v_mpI E (fun I224 _ E => ?_)
  obtain ⟨a225, h226, E⟩ := bnd E
  obtain ⟨hra225, hoa225⟩ := ob_is h226
  refine v_putRF (r := (some o)) (q := (some (n + 39))) C fa_X12_205 fo_X12_205 hin rfl E hra225 hoa225 dX12_init_438 (fun R227 _ E => ?_)
  refine v_aload_n (r := (some o)) C 0 dX12_init_441 rfl ?_
  refine v_iconst C dX12_init_442 k_iconst_3 ?_
  refine v_newI (N := 3) (ce1 := 41) (sl1 := 1500) C ac_int E (by decide) (by decide) rfl rfl (Nat.le_of_ble_eq_true rfl) (Nat.le_of_ble_eq_true rfl) dX12_init_443 (fun K228 _ E => ?_)
  refine v_mpI E (fun I229 _ E => ?_)
  obtain ⟨a230, h231, E⟩ := bnd E
  obtain ⟨hra230, hoa230⟩ := ob_is h231
  refine v_putRF (r := (some o)) (q := (some (n + 40))) C fa_X12_208 fo_X12_208 hin rfl E hra230 hoa230 dX12_init_445 (fun R232 _ E => ?_)
  refine v_aload_n (r := (some o)) C 0 dX12_init_448 rfl ?_
  refine v_iconst C dX12_init_449 k_iconst_5 ?_
  refine v_newI (N := 5) (ce1 := 42) (sl1 := 1505) C ac_int E (by decide) (by decide) rfl rfl (Nat.le_of_ble_eq_true rfl) (Nat.le_of_ble_eq_true rfl) dX12_init_450 (fun K233 _ E => ?_)
  refine v_mpI E (fun I234 _ E => ?_)
  obtain ⟨a235, h236, E⟩ := bnd E
  obtain ⟨hra235, hoa235⟩ := ob_is h236
  refine v_putRF (r := (some o)) (q := (some (n + 41))) C fa_X12_211 fo_X12_211 hin rfl E hra235 hoa235 dX12_init_452 (fun R237 _ E => ?_)
  refine v_aload_n (r := (some o)) C 0 dX12_init_455 rfl ?_
  refine v_iconst C dX12_init_456 k_iconst_0 ?_
  refine v_putI (r := (some o)) C fa_X12_214 rfl E hra235 hoa235 ⟨rfl, rfl⟩ dX12_init_457 (fun I238 _ E => ?_)
  refine v_aload_n (r := (some o)) C 0 dX12_init_460 rfl ?_
  refine v_bipush C dX12_init_461 k_bipush_20 ?_
  refine v_newI (N := 20) (ce1 := 43) (sl1 := 1525) C ac_int E (by decide) (by decide) rfl rfl (Nat.le_of_ble_eq_true rfl) (Nat.le_of_ble_eq_true rfl) dX12_init_463 (fun K239 _ E => ?_)
  refine v_mpI E (fun I240 _ E => ?_)
  obtain ⟨a241, h242, E⟩ := bnd E
  obtain ⟨hra241, hoa241⟩ := ob_is h242
  refine v_putRF (r := (some o)) (q := (some (n + 42))) C fa_X12_217 fo_X12_217 hin rfl E hra241 hoa241 dX12_init_465 (fun R243 _ E => ?_)
  refine v_aload_n (r := (some o)) C 0 dX12_init_468 rfl ?_
  refine v_bipush C dX12_init_469 k_bipush_6 ?_
  refine v_newI (N := 6) (ce1 := 44) (sl1 := 1531) C ac_int E (by decide) (by decide) rfl rfl (Nat.le_of_ble_eq_true rfl) (Nat.le_of_ble_eq_true rfl) dX12_init_471 (fun K244 _ E => ?_)
  refine v_mpI E (fun I245 _ E => ?_)
  refine v_dup C dX12_init_473 (rf_cat _) ?_
  refine v_iconst C dX12_init_474 k_iconst_0 ?_
  refine v_iconst C dX12_init_475 k_iconst_m1 ?_
  refine v_iast (r := (some (n + 43))) C E dX12_init_476 (fun I246 _ E => ?_)
  refine v_dup C dX12_init_477 (rf_cat _) ?_
  refine v_iconst C dX12_init_478 k_iconst_1 ?_
  refine v_iconst C dX12_init_479 k_iconst_m1 ?_
  refine v_iast (r := (some (n + 43))) C E dX12_init_480 (fun I247 _ E => ?_)
  refine v_dup C dX12_init_481 (rf_cat _) ?_
  refine v_iconst C dX12_init_482 k_iconst_2 ?_
  refine v_iconst C dX12_init_483 k_iconst_m1 ?_
  refine v_iast (r := (some (n + 43))) C E dX12_init_484 (fun I248 _ E => ?_)
  refine v_dup C dX12_init_485 (rf_cat _) ?_
  refine v_iconst C dX12_init_486 k_iconst_3 ?_
  refine v_iconst C dX12_init_487 k_iconst_m1 ?_
  refine v_iast (r := (some (n + 43))) C E dX12_init_488 (fun I249 _ E => ?_)
  refine v_dup C dX12_init_489 (rf_cat _) ?_
  refine v_iconst C dX12_init_490 k_iconst_4 ?_
  refine v_iconst C dX12_init_491 k_iconst_m1 ?_
  refine v_iast (r := (some (n + 43))) C E dX12_init_492 (fun I250 _ E => ?_)
  refine v_dup C dX12_init_493 (rf_cat _) ?_
  refine v_iconst C dX12_init_494 k_iconst_5 ?_
  refine v_iconst C dX12_init_495 k_iconst_m1 ?_
  refine v_iast (r := (some (n + 43))) C E dX12_init_496 (fun I251 _ E => ?_)
  obtain ⟨a252, h253, E⟩ := bnd E
  obtain ⟨hra252, hoa252⟩ := ob_is h253
  refine v_putRF (r := (some o)) (q := (some (n + 43))) C fa_X12_220 fo_X12_220 hin rfl E hra252 hoa252 dX12_init_497 (fun R254 _ E => ?_)
  refine v_aload_n (r := (some o)) C 0 dX12_init_500 rfl ?_
  refine v_bipush C dX12_init_501 k_bipush_6 ?_
  refine v_newI (N := 6) (ce1 := 45) (sl1 := 1537) C ac_int E (by decide) (by decide) rfl rfl (Nat.le_of_ble_eq_true rfl) (Nat.le_of_ble_eq_true rfl) dX12_init_503 (fun K255 _ E => ?_)
  refine v_mpI E (fun I256 _ E => ?_)
  obtain ⟨a257, h258, E⟩ := bnd E
  obtain ⟨hra257, hoa257⟩ := ob_is h258
  refine v_putRF (r := (some o)) (q := (some (n + 44))) C fa_X12_223 fo_X12_223 hin rfl E hra257 hoa257 dX12_init_505 (fun R259 _ E => ?_)
  refine v_aload_n (r := (some o)) C 0 dX12_init_508 rfl ?_
  refine v_sipush C dX12_init_509 k_sipush_360 ?_
  refine v_newJ (N := 360) (ce1 := 46) (sl1 := 1897) C ac_long E (by decide) (by decide) rfl rfl (Nat.le_of_ble_eq_true rfl) (Nat.le_of_ble_eq_true rfl) dX12_init_512 (fun K260 _ E => ?_)
  refine v_mpJ E (fun J261 _ E => ?_)
  obtain ⟨a262, h263, E⟩ := bnd E
  obtain ⟨hra262, hoa262⟩ := ob_is h263
  refine v_putRF (r := (some o)) (q := (some (n + 45))) C fa_X12_226 fo_X12_226 hin rfl E hra262 hoa262 dX12_init_514 (fun R264 _ E => ?_)
  refine v_aload_n (r := (some o)) C 0 dX12_init_517 rfl ?_
  refine v_bipush C dX12_init_518 k_bipush_60 ?_
  refine v_newJ (N := 60) (ce1 := 47) (sl1 := 1957) C ac_long E (by decide) (by decide) rfl rfl (Nat.le_of_ble_eq_true rfl) (Nat.le_of_ble_eq_true rfl) dX12_init_520 (fun K265 _ E => ?_)
  refine v_mpJ E (fun J266 _ E => ?_)
  obtain ⟨a267, h268, E⟩ := bnd E
  obtain ⟨hra267, hoa267⟩ := ob_is h268
  refine v_putRF (r := (some o)) (q := (some (n + 46))) C fa_X12_230 fo_X12_230 hin rfl E hra267 hoa267 dX12_init_522 (fun R269 _ E => ?_)
  obtain rfl := Option.some.inj E
  exact v_vret C rfl dX12_init_525
set_option maxHeartbeats 4000000 in
theorem c_X12_init {n : Nat} {K : Sh} {I : Im} {J : Jm} {R : Rf} {o : Nat}  {res : Sh × Nat × Im × Jm × Rf} (E : f_X12_init o K n I J R = some res) : Met l yX12_init (Cond.code yX12_init cX12_init 1 none :: tb) rX12_init (PX D cA bs Z [.ref o] K n I J R) (QX D cA bs Z none res.1 res.2.1 res.2.2.1 res.2.2.2.1 res.2.2.2.2) 47 1957 (fun q => bs ≤ q) := by
  refine met_of (lv1 := [(0, va_rf (some o))]) pn_X12 (by exact Nat.le_of_ble_eq_true rfl) (by rfl) ?_
  intro p e s m args below meth c C hn
  exact v_sub [0] [(0, va_rf (some o))] rfl (w_X12_init_0 C (hn.trans rfl) _ _ _ _ _ _ E)
set_option maxHeartbeats 4000000 in
theorem w_X12_in_0 (C : Cx D cA bs Z p s m args meth c cX12_in RX12 4 (some .boolean)) {o : Nat} {K : Sh} {n : Nat} {I : Im} {J : Jm} {R : Rf} (ho : (K o).1 = 13) (res : Int32) (x1 : Int32) (x2 : Int32) (x3 : Int32) (E : f_X12_in o x1 x2 x3 = some res) : VW D cA bs Z p l e rX12_in s m args below meth c 4 [(0, va_rf (some o)), (1, .int x1), (2, .int x2), (3, .int x3)] K n I J R 0 0 (MQ below (QX D cA bs Z (some (.int res)) K n I J R) args s 0 0 (fun q => bs ≤ q)) 0 [] := by
  unfold f_X12_in at E
  refine v_iload_n C 1 dX12_in_0 rfl ?_
  refine v_iload_n C 2 dX12_in_1 rfl ?_
  refine v_icmp_lt C 14 E dX12_in_2 rfl (fun c2 E => ?_) (fun c2 E => ?_)
  · refine v_iconst C dX12_in_14 k_iconst_0 ?_
    obtain rfl := Option.some.inj E
    exact v_zret (v := 0) C rfl nz_0 dX12_in_15
  · refine v_iload_n C 1 dX12_in_5 rfl ?_
    refine v_iload_n C 3 dX12_in_6 rfl ?_
    refine v_icmp_gt C 14 E dX12_in_7 rfl (fun c1 E => ?_) (fun c1 E => ?_)
    · refine v_iconst C dX12_in_14 k_iconst_0 ?_
      obtain rfl := Option.some.inj E
      exact v_zret (v := 0) C rfl nz_0 dX12_in_15
    · refine v_iconst C dX12_in_10 k_iconst_1 ?_
      refine v_goto C 15 dX12_in_11 rfl ?_
      obtain rfl := Option.some.inj E
      exact v_zret (v := 1) C rfl nz_1 dX12_in_15
set_option maxHeartbeats 4000000 in
theorem c_X12_in {n : Nat} {K : Sh} {I : Im} {J : Jm} {R : Rf} {o : Nat} {x1 : Int32} {x2 : Int32} {x3 : Int32} (ho : (K o).1 = 13) {res : Int32} (E : f_X12_in o x1 x2 x3 = some res) : Met l yX12_in (Cond.code yX12_in cX12_in 4 (some .boolean) :: tb) rX12_in (PX D cA bs Z [.ref o, .int x1, .int x2, .int x3] K n I J R) (QX D cA bs Z (some (.int res)) K n I J R) 0 0 (fun q => bs ≤ q) := by
  refine met_of (lv1 := [(0, va_rf (some o)), (1, .int x1), (2, .int x2), (3, .int x3)]) pn_X12 (by exact Nat.le_of_ble_eq_true rfl) (by rfl) ?_
  intro p e s m args below meth c C hn
  exact v_sub [0, 1, 2, 3] [(0, va_rf (some o)), (1, .int x1), (2, .int x2), (3, .int x3)] rfl (w_X12_in_0 C ho _ _ _ _ E)
set_option maxHeartbeats 4000000 in
theorem w_X12_min_0 (C : Cx D cA bs Z p s m args meth c cX12_min RX12 3 (some .int)) {o : Nat} {K : Sh} {n : Nat} {I : Im} {J : Jm} {R : Rf} (ho : (K o).1 = 13) (res : Int32) (x1 : Int32) (x2 : Int32) (E : f_X12_min o x1 x2 = some res) : VW D cA bs Z p l e rX12_min s m args below meth c 3 [(0, va_rf (some o)), (1, .int x1), (2, .int x2)] K n I J R 0 0 (MQ below (QX D cA bs Z (some (.int res)) K n I J R) args s 0 0 (fun q => bs ≤ q)) 0 [] := by
  unfold f_X12_min at E
  refine v_iload_n C 1 dX12_min_0 rfl ?_
  refine v_iload_n C 2 dX12_min_1 rfl ?_
  refine v_icmp_ge C 9 E dX12_min_2 rfl (fun c1 E => ?_) (fun c1 E => ?_)
  · refine v_iload_n C 2 dX12_min_9 rfl ?_
    obtain rfl := Option.some.inj E
    exact v_iret C rfl dX12_min_10
  · refine v_iload_n C 1 dX12_min_5 rfl ?_
    refine v_goto C 10 dX12_min_6 rfl ?_
    obtain rfl := Option.some.inj E
    exact v_iret C rfl dX12_min_10
set_option maxHeartbeats 4000000 in
theorem c_X12_min {n : Nat} {K : Sh} {I : Im} {J : Jm} {R : Rf} {o : Nat} {x1 : Int32} {x2 : Int32} (ho : (K o).1 = 13) {res : Int32} (E : f_X12_min o x1 x2 = some res) : Met l yX12_min (Cond.code yX12_min cX12_min 3 (some .int) :: tb) rX12_min (PX D cA bs Z [.ref o, .int x1, .int x2] K n I J R) (QX D cA bs Z (some (.int res)) K n I J R) 0 0 (fun q => bs ≤ q) := by
  refine met_of (lv1 := [(0, va_rf (some o)), (1, .int x1), (2, .int x2)]) pn_X12 (by exact Nat.le_of_ble_eq_true rfl) (by rfl) ?_
  intro p e s m args below meth c C hn
  exact v_sub [0, 1, 2] [(0, va_rf (some o)), (1, .int x1), (2, .int x2)] rfl (w_X12_min_0 C ho _ _ _ E)
set_option maxHeartbeats 4000000 in
theorem w_X12_feed_31 (C : Cx D cA bs Z p s m args meth c cX12_feed RX12 4 (some .int)) {o : Nat} {K : Sh} {n : Nat} {J : Jm} {R : Rf} (ho : (K o).1 = 13) (res : Int32 × Im)  : ∀ (k : Nat), ∀ (x1 : Int32) (x3 : Int32) (I : Im), f_X12_feed_31 K R o k x1 x3 I = some res → VW D cA bs Z p l e rX12_feed s m args below meth c 4 [(0, va_rf (some o)), (1, .int x1), (3, .int x3)] K n I J R 0 0 (MQ below (QX D cA bs Z (some (.int res.1)) K n res.2 J R) args s 0 0 (fun q => bs ≤ q)) 31 [] := by
  intro k
  induction k with
  | zero =>
    intro x1 x3 I E
    have E : (none : Option (Int32 × Im)) = some res := E
    cases E
  | succ k ih =>
    intro x1 x3 I E
    unfold f_X12_feed_31 at E
    refine v_iload_n C 2 dX12_feed_31 rfl ?_
    refine v_if_lt C 67 E dX12_feed_32 rfl (fun c3 E => ?_) (fun c3 E => ?_)
    · refine v_aload_n (r := (some o)) C 0 dX12_feed_67 rfl ?_
      refine v_getI (r := (some o)) C fa_X12_16 rfl rfl ho dX12_feed_68 ?_
      obtain rfl := Option.some.inj E
      exact v_iret C rfl dX12_feed_71
    · refine v_aload_n (r := (some o)) C 0 dX12_feed_35 rfl ?_
      refine v_getR (r := (some o)) C fa_X12_25 rfl rfl ho dX12_feed_36 ?_
      refine v_aload_n (r := (some o)) C 0 dX12_feed_39 rfl ?_
      refine v_getI (r := (some o)) C fa_X12_16 rfl rfl ho dX12_feed_40 ?_
      refine v_iload_n C 1 dX12_feed_43 rfl ?_
      refine v_bipush C dX12_feed_44 k_bipush_8 ?_
      refine v_iload_n C 2 dX12_feed_46 rfl ?_
      refine v_imul C dX12_feed_47 ?_
      refine v_ishr C dX12_feed_48 ?_
      refine v_i2b C dX12_feed_49 ?_
      refine v_iast (r := (R o 5)) C E dX12_feed_50 (fun I1 _ E => ?_)
      refine v_aload_n (r := (some o)) C 0 dX12_feed_51 rfl ?_
      refine v_dup C dX12_feed_52 (rf_cat _) ?_
      refine v_getI (r := (some o)) C fa_X12_16 rfl rfl ho dX12_feed_53 ?_
      refine v_iconst C dX12_feed_56 k_iconst_1 ?_
      refine v_iadd C dX12_feed_57 ?_
      refine v_putI (r := (some o)) C fa_X12_16 rfl E rfl ho ⟨rfl, rfl⟩ dX12_feed_58 (fun I2 _ E => ?_)
      refine v_iinc (v := x3 - 1) C 2 [(3, .int (x3 - 1)), (0, va_rf (some o)), (1, .int x1)] dX12_feed_61 rfl (k_inc_m1 _) (Nat.le_of_ble_eq_true rfl) rfl ?_
      refine v_goto C 31 dX12_feed_64 rfl ?_
      exact v_sub [1, 2, 0] [(0, va_rf (some o)), (1, .int x1), (3, .int (x3 - 1))] rfl (ih _ _ _ E)
set_option maxHeartbeats 4000000 in
theorem w_X12_feed_0 (C : Cx D cA bs Z p s m args meth c cX12_feed RX12 4 (some .int)) {o : Nat} {K : Sh} {n : Nat} {J : Jm} {R : Rf} (ho : (K o).1 = 13) (res : Int32 × Im) (x1 : Int32) (x2 : Int32) (I : Im) (E : f_X12_feed K R o x1 x2 I = some res) : VW D cA bs Z p l e rX12_feed s m args below meth c 4 [(0, va_rf (some o)), (1, .int x1), (2, .int x2)] K n I J R 0 0 (MQ below (QX D cA bs Z (some (.int res.1)) K n res.2 J R) args s 0 0 (fun q => bs ≤ q)) 0 [] := by
  unfold f_X12_feed at E
  refine v_aload_n (r := (some o)) C 0 dX12_feed_0 rfl ?_
  refine v_iload_n C 2 dX12_feed_1 rfl ?_
  refine v_iconst C dX12_feed_2 k_iconst_0 ?_
  refine v_iconst C dX12_feed_3 k_iconst_4 ?_
  obtain ⟨q4, h5, E⟩ := bnd E
  refine v_callV (r := (some o)) (As := [.int x2, .int 0, .int 4]) (rv := (some (.int q4))) (st := []) (st1 := [.int q4]) (ce1 := 0) (sl1 := 0) C cv_X12_233 (c_X12_in (x1 := x2) (x2 := 0) (x3 := 4) ho h5) rfl ho rfl rfl ⟨rfl, rfl, Nat.le_of_ble_eq_true rfl, Nat.le_of_ble_eq_true rfl⟩ ⟨Nat.le_of_ble_eq_true rfl, Nat.le_of_ble_eq_true rfl⟩ (Nat.le_of_ble_eq_true rfl) rfl rfl rfl dX12_feed_4 ?_
  refine v_if_ne C 13 E dX12_feed_7 rfl (fun c7 E => ?_) (fun c7 E => ?_)
  · refine v_bipush C dX12_feed_10 k_bipush_m2 ?_
    obtain rfl := Option.some.inj E
    exact v_iret C rfl dX12_feed_12
  · refine v_aload_n (r := (some o)) C 0 dX12_feed_13 rfl ?_
    refine v_getI (r := (some o)) C fa_X12_16 rfl rfl ho dX12_feed_14 ?_
    refine v_iload_n C 2 dX12_feed_17 rfl ?_
    refine v_iadd C dX12_feed_18 ?_
    refine v_bipush C dX12_feed_19 k_bipush_100 ?_
    refine v_icmp_le C 27 E dX12_feed_21 rfl (fun c6 E => ?_) (fun c6 E => ?_)
    · refine v_iload_n C 2 dX12_feed_27 rfl ?_
      refine v_iconst C dX12_feed_28 k_iconst_1 ?_
      refine v_isub C dX12_feed_29 ?_
      refine v_istore_n C [(3, .int (x2 - 1)), (0, va_rf (some o)), (1, .int x1), (2, .int x2)] dX12_feed_30 (Nat.le_of_ble_eq_true rfl) rfl ?_
      exact v_sub [1, 2, 0] [(0, va_rf (some o)), (1, .int x1), (3, .int (x2 - 1))] rfl (w_X12_feed_31 C ho res  _ _ _ _ E)
    · refine v_bipush C dX12_feed_24 k_bipush_m4 ?_
      obtain rfl := Option.some.inj E
      exact v_iret C rfl dX12_feed_26
set_option maxHeartbeats 4000000 in
theorem c_X12_feed {n : Nat} {K : Sh} {I : Im} {J : Jm} {R : Rf} {o : Nat} {x1 : Int32} {x2 : Int32} (ho : (K o).1 = 13) {res : Int32 × Im} (E : f_X12_feed K R o x1 x2 I = some res) : Met l yX12_feed (Cond.code yX12_feed cX12_feed 4 (some .int) :: tb) rX12_feed (PX D cA bs Z [.ref o, .int x1, .int x2] K n I J R) (QX D cA bs Z (some (.int res.1)) K n res.2 J R) 0 0 (fun q => bs ≤ q) := by
  refine met_of (lv1 := [(0, va_rf (some o)), (1, .int x1), (2, .int x2)]) pn_X12 (by exact Nat.le_of_ble_eq_true rfl) (by rfl) ?_
  intro p e s m args below meth c C hn
  exact v_sub [0, 1, 2] [(0, va_rf (some o)), (1, .int x1), (2, .int x2)] rfl (w_X12_feed_0 C ho _ _ _ _ E)
set_option maxHeartbeats 4000000 in
theorem w_X12_next_0 (C : Cx D cA bs Z p s m args meth c cX12_next RX12 1 (some .int)) {o : Nat} {K : Sh} {n : Nat} {I : Im} {J : Jm} {R : Rf} (ho : (K o).1 = 13) (res : Int32)  (E : f_X12_next K I R o  = some res) : VW D cA bs Z p l e rX12_next s m args below meth c 1 [(0, va_rf (some o))] K n I J R 0 0 (MQ below (QX D cA bs Z (some (.int res)) K n I J R) args s 0 0 (fun q => bs ≤ q)) 0 [] := by
  unfold f_X12_next at E
  refine v_aload_n (r := (some o)) C 0 dX12_next_0 rfl ?_
  refine v_getI (r := (some o)) C fa_X12_19 rfl rfl ho dX12_next_1 ?_
  refine v_aload_n (r := (some o)) C 0 dX12_next_4 rfl ?_
  refine v_getI (r := (some o)) C fa_X12_16 rfl rfl ho dX12_next_5 ?_
  refine v_icmp_ge C 23 E dX12_next_8 rfl (fun c2 E => ?_) (fun c2 E => ?_)
  · refine v_iconst C dX12_next_23 k_iconst_m1 ?_
    obtain rfl := Option.some.inj E
    exact v_iret C rfl dX12_next_24
  · refine v_aload_n (r := (some o)) C 0 dX12_next_11 rfl ?_
    refine v_getR (r := (some o)) C fa_X12_25 rfl rfl ho dX12_next_12 ?_
    refine v_aload_n (r := (some o)) C 0 dX12_next_15 rfl ?_
    refine v_getI (r := (some o)) C fa_X12_19 rfl rfl ho dX12_next_16 ?_
    refine v_iald (r := (R o 5)) C E dX12_next_19 (fun v1 _ E => ?_)
    refine v_goto C 24 dX12_next_20 rfl ?_
    obtain rfl := Option.some.inj E
    exact v_iret C rfl dX12_next_24
set_option maxHeartbeats 4000000 in
theorem c_X12_next {n : Nat} {K : Sh} {I : Im} {J : Jm} {R : Rf} {o : Nat}  (ho : (K o).1 = 13) {res : Int32} (E : f_X12_next K I R o = some res) : Met l yX12_next (Cond.code yX12_next cX12_next 1 (some .int) :: tb) rX12_next (PX D cA bs Z [.ref o] K n I J R) (QX D cA bs Z (some (.int res)) K n I J R) 0 0 (fun q => bs ≤ q) := by
  refine met_of (lv1 := [(0, va_rf (some o))]) pn_X12 (by exact Nat.le_of_ble_eq_true rfl) (by rfl) ?_
  intro p e s m args below meth c C hn
  exact v_sub [0] [(0, va_rf (some o))] rfl (w_X12_next_0 C ho _  E)
set_option maxHeartbeats 4000000 in
theorem w_X12_second_0 (C : Cx D cA bs Z p s m args meth c cX12_second RX12 1 (some .int)) {o : Nat} {K : Sh} {n : Nat} {I : Im} {J : Jm} {R : Rf} (ho : (K o).1 = 13) (res : Int32)  (E : f_X12_second K I R o  = some res) : VW D cA bs Z p l e rX12_second s m args below meth c 1 [(0, va_rf (some o))] K n I J R 0 0 (MQ below (QX D cA bs Z (some (.int res)) K n I J R) args s 0 0 (fun q => bs ≤ q)) 0 [] := by
  unfold f_X12_second at E
  refine v_aload_n (r := (some o)) C 0 dX12_second_0 rfl ?_
  refine v_getI (r := (some o)) C fa_X12_19 rfl rfl ho dX12_second_1 ?_
  refine v_iconst C dX12_second_4 k_iconst_1 ?_
  refine v_iadd C dX12_second_5 ?_
  refine v_aload_n (r := (some o)) C 0 dX12_second_6 rfl ?_
  refine v_getI (r := (some o)) C fa_X12_16 rfl rfl ho dX12_second_7 ?_
  refine v_icmp_ge C 27 E dX12_second_10 rfl (fun c2 E => ?_) (fun c2 E => ?_)
  · refine v_iconst C dX12_second_27 k_iconst_m1 ?_
    obtain rfl := Option.some.inj E
    exact v_iret C rfl dX12_second_28
  · refine v_aload_n (r := (some o)) C 0 dX12_second_13 rfl ?_
    refine v_getR (r := (some o)) C fa_X12_25 rfl rfl ho dX12_second_14 ?_
    refine v_aload_n (r := (some o)) C 0 dX12_second_17 rfl ?_
    refine v_getI (r := (some o)) C fa_X12_19 rfl rfl ho dX12_second_18 ?_
    refine v_iconst C dX12_second_21 k_iconst_1 ?_
    refine v_iadd C dX12_second_22 ?_
    refine v_iald (r := (R o 5)) C E dX12_second_23 (fun v1 _ E => ?_)
    refine v_goto C 28 dX12_second_24 rfl ?_
    obtain rfl := Option.some.inj E
    exact v_iret C rfl dX12_second_28
set_option maxHeartbeats 4000000 in
theorem c_X12_second {n : Nat} {K : Sh} {I : Im} {J : Jm} {R : Rf} {o : Nat}  (ho : (K o).1 = 13) {res : Int32} (E : f_X12_second K I R o = some res) : Met l yX12_second (Cond.code yX12_second cX12_second 1 (some .int) :: tb) rX12_second (PX D cA bs Z [.ref o] K n I J R) (QX D cA bs Z (some (.int res)) K n I J R) 0 0 (fun q => bs ≤ q) := by
  refine met_of (lv1 := [(0, va_rf (some o))]) pn_X12 (by exact Nat.le_of_ble_eq_true rfl) (by rfl) ?_
  intro p e s m args below meth c C hn
  exact v_sub [0] [(0, va_rf (some o))] rfl (w_X12_second_0 C ho _  E)
set_option maxHeartbeats 4000000 in
theorem w_X12_takes_0 (C : Cx D cA bs Z p s m args meth c cX12_takes RX12 2 (some .boolean)) {o : Nat} {K : Sh} {n : Nat} {J : Jm} {R : Rf} (ho : (K o).1 = 13) (res : Int32 × Im) (x1 : Int32) (I : Im) (E : f_X12_takes K R o x1 I = some res) : VW D cA bs Z p l e rX12_takes s m args below meth c 2 [(0, va_rf (some o)), (1, .int x1)] K n I J R 0 0 (MQ below (QX D cA bs Z (some (.int res.1)) K n res.2 J R) args s 0 0 (fun q => bs ≤ q)) 0 [] := by
  unfold f_X12_takes at E
  refine v_aload_n (r := (some o)) C 0 dX12_takes_0 rfl ?_
  obtain ⟨q1, h2, E⟩ := bnd E
  refine v_callV (r := (some o)) (As := []) (rv := (some (.int q1))) (st := []) (st1 := [.int q1]) (ce1 := 0) (sl1 := 0) C cv_X12_237 (c_X12_next  ho h2) rfl ho rfl rfl ⟨rfl, rfl, Nat.le_of_ble_eq_true rfl, Nat.le_of_ble_eq_true rfl⟩ ⟨Nat.le_of_ble_eq_true rfl, Nat.le_of_ble_eq_true rfl⟩ (Nat.le_of_ble_eq_true rfl) rfl rfl rfl dX12_takes_1 ?_
  refine v_iload_n C 1 dX12_takes_4 rfl ?_
  refine v_icmp_eq C 10 E dX12_takes_5 rfl (fun c4 E => ?_) (fun c4 E => ?_)
  · refine v_aload_n (r := (some o)) C 0 dX12_takes_10 rfl ?_
    refine v_dup C dX12_takes_11 (rf_cat _) ?_
    refine v_getI (r := (some o)) C fa_X12_19 rfl rfl ho dX12_takes_12 ?_
    refine v_iconst C dX12_takes_15 k_iconst_1 ?_
    refine v_iadd C dX12_takes_16 ?_
    refine v_putI (r := (some o)) C fa_X12_19 rfl E rfl ho ⟨rfl, rfl⟩ dX12_takes_17 (fun I3 _ E => ?_)
    refine v_iconst C dX12_takes_20 k_iconst_1 ?_
    obtain rfl := Option.some.inj E
    exact v_zret (v := 1) C rfl nz_1 dX12_takes_21
  · refine v_iconst C dX12_takes_8 k_iconst_0 ?_
    obtain rfl := Option.some.inj E
    exact v_zret (v := 0) C rfl nz_0 dX12_takes_9
set_option maxHeartbeats 4000000 in
theorem c_X12_takes {n : Nat} {K : Sh} {I : Im} {J : Jm} {R : Rf} {o : Nat} {x1 : Int32} (ho : (K o).1 = 13) {res : Int32 × Im} (E : f_X12_takes K R o x1 I = some res) : Met l yX12_takes (Cond.code yX12_takes cX12_takes 2 (some .boolean) :: tb) rX12_takes (PX D cA bs Z [.ref o, .int x1] K n I J R) (QX D cA bs Z (some (.int res.1)) K n res.2 J R) 0 0 (fun q => bs ≤ q) := by
  refine met_of (lv1 := [(0, va_rf (some o)), (1, .int x1)]) pn_X12 (by exact Nat.le_of_ble_eq_true rfl) (by rfl) ?_
  intro p e s m args below meth c C hn
  exact v_sub [0, 1] [(0, va_rf (some o)), (1, .int x1)] rfl (w_X12_takes_0 C ho _ _ _ E)
set_option maxHeartbeats 4000000 in
theorem w_X12_takesWord_4 (C : Cx D cA bs Z p s m args meth c cX12_takesWord RX12 4 (some .boolean)) {o : Nat} {K : Sh} {n : Nat} {J : Jm} {R : Rf} (ho : (K o).1 = 13) (res : Int32 × Im)  : ∀ (k : Nat), ∀ (x1 : Int32) (x3 : Int32) (I : Im), f_X12_takesWord_4 K R o k x1 x3 I = some res → VW D cA bs Z p l e rX12_takesWord s m args below meth c 4 [(0, va_rf (some o)), (1, .int x1), (3, .int x3)] K n I J R 0 0 (MQ below (QX D cA bs Z (some (.int res.1)) K n res.2 J R) args s 0 0 (fun q => bs ≤ q)) 4 [] := by
  intro k
  induction k with
  | zero =>
    intro x1 x3 I E
    have E : (none : Option (Int32 × Im)) = some res := E
    cases E
  | succ k ih =>
    intro x1 x3 I E
    unfold f_X12_takesWord_4 at E
    refine v_iload_n C 2 dX12_takesWord_4 rfl ?_
    refine v_if_lt C 34 E dX12_takesWord_5 rfl (fun c8 E => ?_) (fun c8 E => ?_)
    · refine v_aload_n (r := (some o)) C 0 dX12_takesWord_34 rfl ?_
      refine v_bipush C dX12_takesWord_35 k_bipush_32 ?_
      obtain ⟨q1, h2, E⟩ := bnd E
      refine v_callV (r := (some o)) (As := [.int 32]) (rv := (some (.int q1.1))) (st := []) (st1 := [.int q1.1]) (ce1 := 0) (sl1 := 0) C cv_X12_241 (c_X12_takes (x1 := 32) ho h2) rfl ho rfl rfl ⟨rfl, rfl, Nat.le_of_ble_eq_true rfl, Nat.le_of_ble_eq_true rfl⟩ ⟨Nat.le_of_ble_eq_true rfl, Nat.le_of_ble_eq_true rfl⟩ (Nat.le_of_ble_eq_true rfl) rfl rfl rfl dX12_takesWord_37 ?_
      obtain ⟨v3, h4, E⟩ := bnd E
      obtain ⟨h4a, h4b⟩ := gd h4
      subst h4b
      obtain rfl := Option.some.inj E
      exact v_zret C rfl (by simp [narrow, h4a]) dX12_takesWord_40
    · refine v_aload_n (r := (some o)) C 0 dX12_takesWord_8 rfl ?_
      refine v_bipush C dX12_takesWord_9 k_bipush_96 ?_
      refine v_iload_n C 1 dX12_takesWord_11 rfl ?_
      refine v_iconst C dX12_takesWord_12 k_iconst_5 ?_
      refine v_iload_n C 2 dX12_takesWord_13 rfl ?_
      refine v_imul C dX12_takesWord_14 ?_
      refine v_ishr C dX12_takesWord_15 ?_
      refine v_bipush C dX12_takesWord_16 k_bipush_31 ?_
      refine v_iand C dX12_takesWord_18 ?_
      refine v_iadd C dX12_takesWord_19 ?_
      obtain ⟨q5, h6, E⟩ := bnd E
      refine v_callV (r := (some o)) (As := [.int (96 + ((ishr x1 (5 * x3)) &&& 31))]) (rv := (some (.int q5.1))) (st := []) (st1 := [.int q5.1]) (ce1 := 0) (sl1 := 0) C cv_X12_241 (c_X12_takes (x1 := (96 + ((ishr x1 (5 * x3)) &&& 31))) ho h6) rfl ho rfl rfl ⟨rfl, rfl, Nat.le_of_ble_eq_true rfl, Nat.le_of_ble_eq_true rfl⟩ ⟨Nat.le_of_ble_eq_true rfl, Nat.le_of_ble_eq_true rfl⟩ (Nat.le_of_ble_eq_true rfl) rfl rfl rfl dX12_takesWord_20 ?_
      refine v_if_ne C 28 E dX12_takesWord_23 rfl (fun c7 E => ?_) (fun c7 E => ?_)
      · refine v_iconst C dX12_takesWord_26 k_iconst_0 ?_
        obtain rfl := Option.some.inj E
        exact v_zret (v := 0) C rfl nz_0 dX12_takesWord_27
      · refine v_iinc (v := x3 - 1) C 2 [(3, .int (x3 - 1)), (0, va_rf (some o)), (1, .int x1)] dX12_takesWord_28 rfl (k_inc_m1 _) (Nat.le_of_ble_eq_true rfl) rfl ?_
        refine v_goto C 4 dX12_takesWord_31 rfl ?_
        exact v_sub [1, 2, 0] [(0, va_rf (some o)), (1, .int x1), (3, .int (x3 - 1))] rfl (ih _ _ _ E)
set_option maxHeartbeats 4000000 in
theorem w_X12_takesWord_0 (C : Cx D cA bs Z p s m args meth c cX12_takesWord RX12 4 (some .boolean)) {o : Nat} {K : Sh} {n : Nat} {J : Jm} {R : Rf} (ho : (K o).1 = 13) (res : Int32 × Im) (x1 : Int32) (x2 : Int32) (I : Im) (E : f_X12_takesWord K R o x1 x2 I = some res) : VW D cA bs Z p l e rX12_takesWord s m args below meth c 4 [(0, va_rf (some o)), (1, .int x1), (2, .int x2)] K n I J R 0 0 (MQ below (QX D cA bs Z (some (.int res.1)) K n res.2 J R) args s 0 0 (fun q => bs ≤ q)) 0 [] := by
  unfold f_X12_takesWord at E
  refine v_iload_n C 2 dX12_takesWord_0 rfl ?_
  refine v_iconst C dX12_takesWord_1 k_iconst_1 ?_
  refine v_isub C dX12_takesWord_2 ?_
  refine v_istore_n C [(3, .int (x2 - 1)), (0, va_rf (some o)), (1, .int x1), (2, .int x2)] dX12_takesWord_3 (Nat.le_of_ble_eq_true rfl) rfl ?_
  exact v_sub [1, 2, 0] [(0, va_rf (some o)), (1, .int x1), (3, .int (x2 - 1))] rfl (w_X12_takesWord_4 C ho res  _ _ _ _ E)
set_option maxHeartbeats 4000000 in
theorem c_X12_takesWord {n : Nat} {K : Sh} {I : Im} {J : Jm} {R : Rf} {o : Nat} {x1 : Int32} {x2 : Int32} (ho : (K o).1 = 13) {res : Int32 × Im} (E : f_X12_takesWord K R o x1 x2 I = some res) : Met l yX12_takesWord (Cond.code yX12_takesWord cX12_takesWord 4 (some .boolean) :: tb) rX12_takesWord (PX D cA bs Z [.ref o, .int x1, .int x2] K n I J R) (QX D cA bs Z (some (.int res.1)) K n res.2 J R) 0 0 (fun q => bs ≤ q) := by
  refine met_of (lv1 := [(0, va_rf (some o)), (1, .int x1), (2, .int x2)]) pn_X12 (by exact Nat.le_of_ble_eq_true rfl) (by rfl) ?_
  intro p e s m args below meth c C hn
  exact v_sub [0, 1, 2] [(0, va_rf (some o)), (1, .int x1), (2, .int x2)] rfl (w_X12_takesWord_0 C ho _ _ _ _ E)
set_option maxHeartbeats 4000000 in
theorem w_X12_isDigit_0 (C : Cx D cA bs Z p s m args meth c cX12_isDigit RX12 1 (some .boolean)) {o : Nat} {K : Sh} {n : Nat} {I : Im} {J : Jm} {R : Rf} (ho : (K o).1 = 13) (res : Int32)  (E : f_X12_isDigit K I R o  = some res) : VW D cA bs Z p l e rX12_isDigit s m args below meth c 1 [(0, va_rf (some o))] K n I J R 0 0 (MQ below (QX D cA bs Z (some (.int res)) K n I J R) args s 0 0 (fun q => bs ≤ q)) 0 [] := by
  unfold f_X12_isDigit at E
  refine v_aload_n (r := (some o)) C 0 dX12_isDigit_0 rfl ?_
  refine v_aload_n (r := (some o)) C 0 dX12_isDigit_1 rfl ?_
  obtain ⟨q1, h2, E⟩ := bnd E
  refine v_callV (r := (some o)) (As := []) (rv := (some (.int q1))) (st := [va_rf (some o)]) (st1 := [.int q1, va_rf (some o)]) (ce1 := 0) (sl1 := 0) C cv_X12_237 (c_X12_next  ho h2) rfl ho rfl rfl ⟨rfl, rfl, Nat.le_of_ble_eq_true rfl, Nat.le_of_ble_eq_true rfl⟩ ⟨Nat.le_of_ble_eq_true rfl, Nat.le_of_ble_eq_true rfl⟩ (by simp only [List.map_cons, List.map_nil, List.sum_cons, List.sum_nil, rf_cat]; exact Nat.le_of_ble_eq_true rfl) rfl rfl rfl dX12_isDigit_2 ?_
  refine v_bipush C dX12_isDigit_5 k_bipush_48 ?_
  refine v_bipush C dX12_isDigit_7 k_bipush_57 ?_
  obtain ⟨q3, h4, E⟩ := bnd E
  refine v_callV (r := (some o)) (As := [.int q1, .int 48, .int 57]) (rv := (some (.int q3))) (st := []) (st1 := [.int q3]) (ce1 := 0) (sl1 := 0) C cv_X12_233 (c_X12_in (x1 := q1) (x2 := 48) (x3 := 57) ho h4) rfl ho rfl rfl ⟨rfl, rfl, Nat.le_of_ble_eq_true rfl, Nat.le_of_ble_eq_true rfl⟩ ⟨Nat.le_of_ble_eq_true rfl, Nat.le_of_ble_eq_true rfl⟩ (Nat.le_of_ble_eq_true rfl) rfl rfl rfl dX12_isDigit_9 ?_
  obtain ⟨v5, h6, E⟩ := bnd E
  obtain ⟨h6a, h6b⟩ := gd h6
  subst h6b
  obtain rfl := Option.some.inj E
  exact v_zret C rfl (by simp [narrow, h6a]) dX12_isDigit_12
set_option maxHeartbeats 4000000 in
theorem c_X12_isDigit {n : Nat} {K : Sh} {I : Im} {J : Jm} {R : Rf} {o : Nat}  (ho : (K o).1 = 13) {res : Int32} (E : f_X12_isDigit K I R o = some res) : Met l yX12_isDigit (Cond.code yX12_isDigit cX12_isDigit 1 (some .boolean) :: tb) rX12_isDigit (PX D cA bs Z [.ref o] K n I J R) (QX D cA bs Z (some (.int res)) K n I J R) 0 0 (fun q => bs ≤ q) := by
  refine met_of (lv1 := [(0, va_rf (some o))]) pn_X12 (by exact Nat.le_of_ble_eq_true rfl) (by rfl) ?_
  intro p e s m args below meth c C hn
  exact v_sub [0] [(0, va_rf (some o))] rfl (w_X12_isDigit_0 C ho _  E)
set_option maxHeartbeats 4000000 in
theorem w_X12_takesNumber_16 (C : Cx D cA bs Z p s m args meth c cX12_takesNumber RX12 3 (some .boolean)) {o : Nat} {K : Sh} {n : Nat} {J : Jm} {R : Rf} (ho : (K o).1 = 13) (res : Int32 × Im)  : ∀ (k : Nat), ∀ (x1 : Int32) (x2 : Int32) (I : Im), f_X12_takesNumber_16 K R o k x1 x2 I = some res → VW D cA bs Z p l e rX12_takesNumber s m args below meth c 3 [(0, va_rf (some o)), (1, .int x1), (2, .int x2)] K n I J R 0 0 (MQ below (QX D cA bs Z (some (.int res.1)) K n res.2 J R) args s 0 0 (fun q => bs ≤ q)) 16 [] := by
  intro k
  induction k with
  | zero =>
    intro x1 x2 I E
    have E : (none : Option (Int32 × Im)) = some res := E
    cases E
  | succ k ih =>
    intro x1 x2 I E
    unfold f_X12_takesNumber_16 at E
    refine v_iload_n C 2 dX12_takesNumber_16 rfl ?_
    refine v_iload_n C 1 dX12_takesNumber_17 rfl ?_
    refine v_icmp_ge C 63 E dX12_takesNumber_18 rfl (fun c8 E => ?_) (fun c8 E => ?_)
    · refine v_iconst C dX12_takesNumber_63 k_iconst_1 ?_
      obtain rfl := Option.some.inj E
      exact v_zret (v := 1) C rfl nz_1 dX12_takesNumber_64
    · refine v_aload_n (r := (some o)) C 0 dX12_takesNumber_21 rfl ?_
      obtain ⟨q1, h2, E⟩ := bnd E
      refine v_callV (r := (some o)) (As := []) (rv := (some (.int q1))) (st := []) (st1 := [.int q1]) (ce1 := 0) (sl1 := 0) C cv_X12_245 (c_X12_isDigit  ho h2) rfl ho rfl rfl ⟨rfl, rfl, Nat.le_of_ble_eq_true rfl, Nat.le_of_ble_eq_true rfl⟩ ⟨Nat.le_of_ble_eq_true rfl, Nat.le_of_ble_eq_true rfl⟩ (Nat.le_of_ble_eq_true rfl) rfl rfl rfl dX12_takesNumber_22 ?_
      refine v_if_eq C 63 E dX12_takesNumber_25 rfl (fun c7 E => ?_) (fun c7 E => ?_)
      · refine v_iconst C dX12_takesNumber_63 k_iconst_1 ?_
        obtain rfl := Option.some.inj E
        exact v_zret (v := 1) C rfl nz_1 dX12_takesNumber_64
      · refine v_aload_n (r := (some o)) C 0 dX12_takesNumber_28 rfl ?_
        refine v_bipush C dX12_takesNumber_29 k_bipush_10 ?_
        refine v_aload_n (r := (some o)) C 0 dX12_takesNumber_31 rfl ?_
        refine v_getI (r := (some o)) C fa_X12_22 rfl rfl ho dX12_takesNumber_32 ?_
        refine v_imul C dX12_takesNumber_35 ?_
        refine v_aload_n (r := (some o)) C 0 dX12_takesNumber_36 rfl ?_
        obtain ⟨q3, h4, E⟩ := bnd E
        refine v_callV (r := (some o)) (As := []) (rv := (some (.int q3))) (st := [.int (10 * (I o 4)), va_rf (some o)]) (st1 := [.int q3, .int (10 * (I o 4)), va_rf (some o)]) (ce1 := 0) (sl1 := 0) C cv_X12_237 (c_X12_next  ho h4) rfl ho rfl rfl ⟨rfl, rfl, Nat.le_of_ble_eq_true rfl, Nat.le_of_ble_eq_true rfl⟩ ⟨Nat.le_of_ble_eq_true rfl, Nat.le_of_ble_eq_true rfl⟩ (by simp only [List.map_cons, List.map_nil, List.sum_cons, List.sum_nil, rf_cat]; exact Nat.le_of_ble_eq_true rfl) rfl rfl rfl dX12_takesNumber_37 ?_
        refine v_iadd C dX12_takesNumber_40 ?_
        refine v_bipush C dX12_takesNumber_41 k_bipush_48 ?_
        refine v_isub C dX12_takesNumber_43 ?_
        refine v_putI (r := (some o)) C fa_X12_22 rfl E rfl ho ⟨rfl, rfl⟩ dX12_takesNumber_44 (fun I5 _ E => ?_)
        refine v_aload_n (r := (some o)) C 0 dX12_takesNumber_47 rfl ?_
        refine v_dup C dX12_takesNumber_48 (rf_cat _) ?_
        refine v_getI (r := (some o)) C fa_X12_19 rfl rfl ho dX12_takesNumber_49 ?_
        refine v_iconst C dX12_takesNumber_52 k_iconst_1 ?_
        refine v_iadd C dX12_takesNumber_53 ?_
        refine v_putI (r := (some o)) C fa_X12_19 rfl E rfl ho ⟨rfl, rfl⟩ dX12_takesNumber_54 (fun I6 _ E => ?_)
        refine v_iinc (v := x2 + 1) C 2 [(2, .int (x2 + 1)), (0, va_rf (some o)), (1, .int x1)] dX12_takesNumber_57 rfl (k_inc_1 _) (Nat.le_of_ble_eq_true rfl) rfl ?_
        refine v_goto C 16 dX12_takesNumber_60 rfl ?_
        exact v_sub [1, 2, 0] [(0, va_rf (some o)), (1, .int x1), (2, .int (x2 + 1))] rfl (ih _ _ _ E)
set_option maxHeartbeats 4000000 in
theorem w_X12_takesNumber_0 (C : Cx D cA bs Z p s m args meth c cX12_takesNumber RX12 3 (some .boolean)) {o : Nat} {K : Sh} {n : Nat} {J : Jm} {R : Rf} (ho : (K o).1 = 13) (res : Int32 × Im) (x1 : Int32) (I : Im) (E : f_X12_takesNumber K R o x1 I = some res) : VW D cA bs Z p l e rX12_takesNumber s m args below meth c 3 [(0, va_rf (some o)), (1, .int x1)] K n I J R 0 0 (MQ below (QX D cA bs Z (some (.int res.1)) K n res.2 J R) args s 0 0 (fun q => bs ≤ q)) 0 [] := by
  unfold f_X12_takesNumber at E
  refine v_aload_n (r := (some o)) C 0 dX12_takesNumber_0 rfl ?_
  obtain ⟨q9, h10, E⟩ := bnd E
  refine v_callV (r := (some o)) (As := []) (rv := (some (.int q9))) (st := []) (st1 := [.int q9]) (ce1 := 0) (sl1 := 0) C cv_X12_245 (c_X12_isDigit  ho h10) rfl ho rfl rfl ⟨rfl, rfl, Nat.le_of_ble_eq_true rfl, Nat.le_of_ble_eq_true rfl⟩ ⟨Nat.le_of_ble_eq_true rfl, Nat.le_of_ble_eq_true rfl⟩ (Nat.le_of_ble_eq_true rfl) rfl rfl rfl dX12_takesNumber_1 ?_
  refine v_if_ne C 9 E dX12_takesNumber_4 rfl (fun c12 E => ?_) (fun c12 E => ?_)
  · refine v_iconst C dX12_takesNumber_7 k_iconst_0 ?_
    obtain rfl := Option.some.inj E
    exact v_zret (v := 0) C rfl nz_0 dX12_takesNumber_8
  · refine v_aload_n (r := (some o)) C 0 dX12_takesNumber_9 rfl ?_
    refine v_iconst C dX12_takesNumber_10 k_iconst_0 ?_
    refine v_putI (r := (some o)) C fa_X12_22 rfl E rfl ho ⟨rfl, rfl⟩ dX12_takesNumber_11 (fun I11 _ E => ?_)
    refine v_iconst C dX12_takesNumber_14 k_iconst_0 ?_
    refine v_istore_n C [(2, .int 0), (0, va_rf (some o)), (1, .int x1)] dX12_takesNumber_15 (Nat.le_of_ble_eq_true rfl) rfl ?_
    exact v_sub [1, 2, 0] [(0, va_rf (some o)), (1, .int x1), (2, .int 0)] rfl (w_X12_takesNumber_16 C ho res  _ _ _ _ E)
set_option maxHeartbeats 4000000 in
theorem c_X12_takesNumber {n : Nat} {K : Sh} {I : Im} {J : Jm} {R : Rf} {o : Nat} {x1 : Int32} (ho : (K o).1 = 13) {res : Int32 × Im} (E : f_X12_takesNumber K R o x1 I = some res) : Met l yX12_takesNumber (Cond.code yX12_takesNumber cX12_takesNumber 3 (some .boolean) :: tb) rX12_takesNumber (PX D cA bs Z [.ref o, .int x1] K n I J R) (QX D cA bs Z (some (.int res.1)) K n res.2 J R) 0 0 (fun q => bs ≤ q) := by
  refine met_of (lv1 := [(0, va_rf (some o)), (1, .int x1)]) pn_X12 (by exact Nat.le_of_ble_eq_true rfl) (by rfl) ?_
  intro p e s m args below meth c C hn
  exact v_sub [0, 1] [(0, va_rf (some o)), (1, .int x1)] rfl (w_X12_takesNumber_0 C ho _ _ _ E)
set_option maxHeartbeats 4000000 in
theorem w_X12_put_0 (C : Cx D cA bs Z p s m args meth c cX12_put RX12 2 none) {o : Nat} {K : Sh} {n : Nat} {J : Jm} {R : Rf} (ho : (K o).1 = 13) (res : Im) (x1 : Int32) (I : Im) (E : f_X12_put K R o x1 I = some res) : VW D cA bs Z p l e rX12_put s m args below meth c 2 [(0, va_rf (some o)), (1, .int x1)] K n I J R 0 0 (MQ below (QX D cA bs Z none K n res J R) args s 0 0 (fun q => bs ≤ q)) 0 [] := by
  unfold f_X12_put at E
  refine v_aload_n (r := (some o)) C 0 dX12_put_0 rfl ?_
  refine v_getR (r := (some o)) C fa_X12_47 rfl rfl ho dX12_put_1 ?_
  refine v_aload_n (r := (some o)) C 0 dX12_put_4 rfl ?_
  refine v_getI (r := (some o)) C fa_X12_53 rfl rfl ho dX12_put_5 ?_
  refine v_iload_n C 1 dX12_put_8 rfl ?_
  refine v_iast (r := (R o 12)) C E dX12_put_9 (fun I1 _ E => ?_)
  refine v_aload_n (r := (some o)) C 0 dX12_put_10 rfl ?_
  refine v_dup C dX12_put_11 (rf_cat _) ?_
  refine v_getI (r := (some o)) C fa_X12_53 rfl rfl ho dX12_put_12 ?_
  refine v_iconst C dX12_put_15 k_iconst_1 ?_
  refine v_iadd C dX12_put_16 ?_
  refine v_putI (r := (some o)) C fa_X12_53 rfl E rfl ho ⟨rfl, rfl⟩ dX12_put_17 (fun I2 _ E => ?_)
  obtain rfl := Option.some.inj E
  exact v_vret C rfl dX12_put_20
set_option maxHeartbeats 4000000 in
theorem c_X12_put {n : Nat} {K : Sh} {I : Im} {J : Jm} {R : Rf} {o : Nat} {x1 : Int32} (ho : (K o).1 = 13) {res : Im} (E : f_X12_put K R o x1 I = some res) : Met l yX12_put (Cond.code yX12_put cX12_put 2 none :: tb) rX12_put (PX D cA bs Z [.ref o, .int x1] K n I J R) (QX D cA bs Z none K n res J R) 0 0 (fun q => bs ≤ q) := by
  refine met_of (lv1 := [(0, va_rf (some o)), (1, .int x1)]) pn_X12 (by exact Nat.le_of_ble_eq_true rfl) (by rfl) ?_
  intro p e s m args below meth c C hn
  exact v_sub [0, 1] [(0, va_rf (some o)), (1, .int x1)] rfl (w_X12_put_0 C ho _ _ _ E)
set_option maxHeartbeats 4000000 in
theorem w_X12_whole_0 (C : Cx D cA bs Z p s m args meth c cX12_whole RX12 1 none) {o : Nat} {K : Sh} {n : Nat} {J : Jm} {R : Rf} (ho : (K o).1 = 13) (res : Im)  : ∀ (k : Nat), ∀ (I : Im), f_X12_whole_0 K R o k I = some res → VW D cA bs Z p l e rX12_whole s m args below meth c 1 [(0, va_rf (some o))] K n I J R 0 0 (MQ below (QX D cA bs Z none K n res J R) args s 0 0 (fun q => bs ≤ q)) 0 [] := by
  intro k
  induction k with
  | zero =>
    intro I E
    have E : (none : Option (Im)) = some res := E
    cases E
  | succ k ih =>
    intro I E
    unfold f_X12_whole_0 at E
    refine v_aload_n (r := (some o)) C 0 dX12_whole_0 rfl ?_
    refine v_getI (r := (some o)) C fa_X12_56 rfl rfl ho dX12_whole_1 ?_
    refine v_if_le C 52 E dX12_whole_4 rfl (fun c7 E => ?_) (fun c7 E => ?_)
    · obtain rfl := Option.some.inj E
      exact v_vret C rfl dX12_whole_52
    · refine v_aload_n (r := (some o)) C 0 dX12_whole_7 rfl ?_
      refine v_getR (r := (some o)) C fa_X12_50 rfl rfl ho dX12_whole_8 ?_
      refine v_aload_n (r := (some o)) C 0 dX12_whole_11 rfl ?_
      refine v_getI (r := (some o)) C fa_X12_56 rfl rfl ho dX12_whole_12 ?_
      refine v_iconst C dX12_whole_15 k_iconst_1 ?_
      refine v_isub C dX12_whole_16 ?_
      refine v_iald (r := (R o 13)) C E dX12_whole_17 (fun v1 _ E => ?_)
      refine v_bipush C dX12_whole_18 k_bipush_33 ?_
      refine v_icmp_ne C 52 E dX12_whole_20 rfl (fun c6 E => ?_) (fun c6 E => ?_)
      · refine v_aload_n (r := (some o)) C 0 dX12_whole_23 rfl ?_
        refine v_bipush C dX12_whole_24 k_bipush_m33 ?_
        obtain ⟨q2, h3, E⟩ := bnd E
        refine v_callV (r := (some o)) (As := [.int (-33)]) (rv := none) (st := []) (st1 := []) (ce1 := 0) (sl1 := 0) C cv_X12_249 (c_X12_put (x1 := (-33)) ho h3) rfl ho rfl rfl ⟨rfl, rfl, Nat.le_of_ble_eq_true rfl, Nat.le_of_ble_eq_true rfl⟩ ⟨Nat.le_of_ble_eq_true rfl, Nat.le_of_ble_eq_true rfl⟩ (Nat.le_of_ble_eq_true rfl) rfl rfl rfl dX12_whole_26 ?_
        refine v_aload_n (r := (some o)) C 0 dX12_whole_29 rfl ?_
        refine v_dup C dX12_whole_30 (rf_cat _) ?_
        refine v_getI (r := (some o)) C fa_X12_56 rfl rfl ho dX12_whole_31 ?_
        refine v_iconst C dX12_whole_34 k_iconst_1 ?_
        refine v_isub C dX12_whole_35 ?_
        refine v_putI (r := (some o)) C fa_X12_56 rfl E rfl ho ⟨rfl, rfl⟩ dX12_whole_36 (fun I4 _ E => ?_)
        refine v_aload_n (r := (some o)) C 0 dX12_whole_39 rfl ?_
        refine v_dup C dX12_whole_40 (rf_cat _) ?_
        refine v_getI (r := (some o)) C fa_X12_59 rfl rfl ho dX12_whole_41 ?_
        refine v_iconst C dX12_whole_44 k_iconst_1 ?_
        refine v_isub C dX12_whole_45 ?_
        refine v_putI (r := (some o)) C fa_X12_59 rfl E rfl ho ⟨rfl, rfl⟩ dX12_whole_46 (fun I5 _ E => ?_)
        refine v_goto C 0 dX12_whole_49 rfl ?_
        exact v_sub [0] [(0, va_rf (some o))] rfl (ih _ E)
      · obtain rfl := Option.some.inj E
        exact v_vret C rfl dX12_whole_52
set_option maxHeartbeats 4000000 in
theorem c_X12_whole {n : Nat} {K : Sh} {I : Im} {J : Jm} {R : Rf} {o : Nat}  (ho : (K o).1 = 13) {res : Im} (E : f_X12_whole K R o I = some res) : Met l yX12_whole (Cond.code yX12_whole cX12_whole 1 none :: tb) rX12_whole (PX D cA bs Z [.ref o] K n I J R) (QX D cA bs Z none K n res J R) 0 0 (fun q => bs ≤ q) := by
  refine met_of (lv1 := [(0, va_rf (some o))]) pn_X12 (by exact Nat.le_of_ble_eq_true rfl) (by rfl) ?_
  intro p e s m args below meth c C hn
  unfold f_X12_whole at E
  exact v_sub [0] [(0, va_rf (some o))] rfl (w_X12_whole_0 C ho _ _ _ E)
set_option maxHeartbeats 4000000 in
theorem w_X12_settle_45 (C : Cx D cA bs Z p s m args meth c cX12_settle RX12 2 none) {o : Nat} {K : Sh} {n : Nat} {J : Jm} {R : Rf} (ho : (K o).1 = 13) (res : Im) (r0 : Int32 → Im → Option (Im)) (hr0 : ∀ (x1 : Int32) (I : Im), r0 x1 I = some res → VW D cA bs Z p l e rX12_settle s m args below meth c 2 [(0, va_rf (some o)), (1, .int x1)] K n I J R 0 0 (MQ below (QX D cA bs Z none K n res J R) args s 0 0 (fun q => bs ≤ q)) 0 []) (x1 : Int32) (I : Im) (E : f_X12_settle_45 K R o r0 x1 I = some res) : VW D cA bs Z p l e rX12_settle s m args below meth c 2 [(0, va_rf (some o)), (1, .int x1)] K n I J R 0 0 (MQ below (QX D cA bs Z none K n res J R) args s 0 0 (fun q => bs ≤ q)) 45 [] := by
  unfold f_X12_settle_45 at E
  refine v_aload_n (r := (some o)) C 0 dX12_settle_45 rfl ?_
  refine v_dup C dX12_settle_46 (rf_cat _) ?_
  refine v_getI (r := (some o)) C fa_X12_56 rfl rfl ho dX12_settle_47 ?_
  refine v_iconst C dX12_settle_50 k_iconst_1 ?_
  refine v_isub C dX12_settle_51 ?_
  refine v_putI (r := (some o)) C fa_X12_56 rfl E rfl ho ⟨rfl, rfl⟩ dX12_settle_52 (fun I1 _ E => ?_)
  refine v_aload_n (r := (some o)) C 0 dX12_settle_55 rfl ?_
  refine v_aload_n (r := (some o)) C 0 dX12_settle_56 rfl ?_
  refine v_getR (r := (some o)) C fa_X12_50 rfl rfl ho dX12_settle_57 ?_
  refine v_aload_n (r := (some o)) C 0 dX12_settle_60 rfl ?_
  refine v_getI (r := (some o)) C fa_X12_56 rfl rfl ho dX12_settle_61 ?_
  refine v_iald (r := (R o 13)) C E dX12_settle_64 (fun v2 _ E => ?_)
  refine v_ineg C dX12_settle_65 ?_
  obtain ⟨q3, h4, E⟩ := bnd E
  refine v_callV (r := (some o)) (As := [.int (-v2)]) (rv := none) (st := []) (st1 := []) (ce1 := 0) (sl1 := 0) C cv_X12_249 (c_X12_put (x1 := (-v2)) ho h4) rfl ho rfl rfl ⟨rfl, rfl, Nat.le_of_ble_eq_true rfl, Nat.le_of_ble_eq_true rfl⟩ ⟨Nat.le_of_ble_eq_true rfl, Nat.le_of_ble_eq_true rfl⟩ (Nat.le_of_ble_eq_true rfl) rfl rfl rfl dX12_settle_66 ?_
  refine v_goto C 0 dX12_settle_69 rfl ?_
  exact v_sub [0, 1] [(0, va_rf (some o)), (1, .int x1)] rfl (hr0 _ _ E)
set_option maxHeartbeats 4000000 in
theorem w_X12_settle_0 (C : Cx D cA bs Z p s m args meth c cX12_settle RX12 2 none) {o : Nat} {K : Sh} {n : Nat} {J : Jm} {R : Rf} (ho : (K o).1 = 13) (res : Im)  : ∀ (k : Nat), ∀ (x1 : Int32) (I : Im), f_X12_settle_0 K R o k x1 I = some res → VW D cA bs Z p l e rX12_settle s m args below meth c 2 [(0, va_rf (some o)), (1, .int x1)] K n I J R 0 0 (MQ below (QX D cA bs Z none K n res J R) args s 0 0 (fun q => bs ≤ q)) 0 [] := by
  intro k
  induction k with
  | zero =>
    intro x1 I E
    have E : (none : Option (Im)) = some res := E
    cases E
  | succ k ih =>
    intro x1 I E
    unfold f_X12_settle_0 at E
    refine v_aload_n (r := (some o)) C 0 dX12_settle_0 rfl ?_
    refine v_getI (r := (some o)) C fa_X12_56 rfl rfl ho dX12_settle_1 ?_
    refine v_if_le C 72 E dX12_settle_4 rfl (fun c10 E => ?_) (fun c10 E => ?_)
    · obtain rfl := Option.some.inj E
      exact v_vret C rfl dX12_settle_72
    · refine v_aload_n (r := (some o)) C 0 dX12_settle_7 rfl ?_
      refine v_getR (r := (some o)) C fa_X12_50 rfl rfl ho dX12_settle_8 ?_
      refine v_aload_n (r := (some o)) C 0 dX12_settle_11 rfl ?_
      refine v_getI (r := (some o)) C fa_X12_56 rfl rfl ho dX12_settle_12 ?_
      refine v_iconst C dX12_settle_15 k_iconst_1 ?_
      refine v_isub C dX12_settle_16 ?_
      refine v_iald (r := (R o 13)) C E dX12_settle_17 (fun v5 _ E => ?_)
      refine v_bipush C dX12_settle_18 k_bipush_38 ?_
      refine v_icmp_eq C 45 E dX12_settle_20 rfl (fun c9 E => ?_) (fun c9 E => ?_)
      · exact v_sub [0, 1] [(0, va_rf (some o)), (1, .int x1)] rfl (w_X12_settle_45 C ho res _ ih _ _ E)
      · refine v_aload_n (r := (some o)) C 0 dX12_settle_23 rfl ?_
        refine v_getR (r := (some o)) C fa_X12_50 rfl rfl ho dX12_settle_24 ?_
        refine v_aload_n (r := (some o)) C 0 dX12_settle_27 rfl ?_
        refine v_getI (r := (some o)) C fa_X12_56 rfl rfl ho dX12_settle_28 ?_
        refine v_iconst C dX12_settle_31 k_iconst_1 ?_
        refine v_isub C dX12_settle_32 ?_
        refine v_iald (r := (R o 13)) C E dX12_settle_33 (fun v6 _ E => ?_)
        refine v_bipush C dX12_settle_34 k_bipush_124 ?_
        refine v_icmp_ne C 72 E dX12_settle_36 rfl (fun c8 E => ?_) (fun c8 E => ?_)
        · refine v_iload_n C 1 dX12_settle_39 rfl ?_
          refine v_bipush C dX12_settle_40 k_bipush_38 ?_
          refine v_icmp_eq C 72 E dX12_settle_42 rfl (fun c7 E => ?_) (fun c7 E => ?_)
          · obtain rfl := Option.some.inj E
            exact v_vret C rfl dX12_settle_72
          · exact v_sub [0, 1] [(0, va_rf (some o)), (1, .int x1)] rfl (w_X12_settle_45 C ho res _ ih _ _ E)
        · obtain rfl := Option.some.inj E
          exact v_vret C rfl dX12_settle_72
set_option maxHeartbeats 4000000 in
theorem c_X12_settle {n : Nat} {K : Sh} {I : Im} {J : Jm} {R : Rf} {o : Nat} {x1 : Int32} (ho : (K o).1 = 13) {res : Im} (E : f_X12_settle K R o x1 I = some res) : Met l yX12_settle (Cond.code yX12_settle cX12_settle 2 none :: tb) rX12_settle (PX D cA bs Z [.ref o, .int x1] K n I J R) (QX D cA bs Z none K n res J R) 0 0 (fun q => bs ≤ q) := by
  refine met_of (lv1 := [(0, va_rf (some o)), (1, .int x1)]) pn_X12 (by exact Nat.le_of_ble_eq_true rfl) (by rfl) ?_
  intro p e s m args below meth c C hn
  unfold f_X12_settle at E
  exact v_sub [0, 1] [(0, va_rf (some o)), (1, .int x1)] rfl (w_X12_settle_0 C ho _ _ _ _ E)
set_option maxHeartbeats 4000000 in
theorem w_X12_place_0 (C : Cx D cA bs Z p s m args meth c cX12_place RX12 2 (some .int)) {o : Nat} {K : Sh} {n : Nat} {I : Im} {J : Jm} {R : Rf} (ho : (K o).1 = 13) (res : Int32) (x1 : Int32) (E : f_X12_place o x1 = some res) : VW D cA bs Z p l e rX12_place s m args below meth c 2 [(0, va_rf (some o)), (1, .int x1)] K n I J R 0 0 (MQ below (QX D cA bs Z (some (.int res)) K n I J R) args s 0 0 (fun q => bs ≤ q)) 0 [] := by
  unfold f_X12_place at E
  refine v_iload_n C 1 dX12_place_0 rfl ?_
  by_cases c1 : x1 = 98
  · have E := ite_t E c1
    refine v_lookup (off := 37) C 38 dX12_place_1 (by decide) (by rw [c1]; decide) rfl ?_
    refine v_iconst C dX12_place_38 k_iconst_1 ?_
    obtain rfl := Option.some.inj E
    exact v_iret C rfl dX12_place_39
  have E := ite_f E c1
  by_cases c2 : x1 = 104
  · have E := ite_t E c2
    refine v_lookup (off := 35) C 36 dX12_place_1 (by decide) (by rw [c2]; decide) rfl ?_
    refine v_iconst C dX12_place_36 k_iconst_0 ?_
    obtain rfl := Option.some.inj E
    exact v_iret C rfl dX12_place_37
  have E := ite_f E c2
  by_cases c3 : x1 = 119
  · have E := ite_t E c3
    refine v_lookup (off := 39) C 40 dX12_place_1 (by decide) (by rw [c3]; decide) rfl ?_
    refine v_iconst C dX12_place_40 k_iconst_2 ?_
    obtain rfl := Option.some.inj E
    exact v_iret C rfl dX12_place_41
  have E := ite_f E c3
  refine v_lookup (off := 41) C 42 dX12_place_1 (by decide) (by show Op.lookupswitch.offset [(98, 37), (104, 35), (119, 39)] 41 _ = _; rw [lv_osw c1 (show ((98 : Int32)).toInt = 98 from by decide), lv_osw c2 (show ((104 : Int32)).toInt = 104 from by decide), lv_osw c3 (show ((119 : Int32)).toInt = 119 from by decide)]; rfl) rfl ?_
  refine v_iconst C dX12_place_42 k_iconst_m1 ?_
  obtain rfl := Option.some.inj E
  exact v_iret C rfl dX12_place_43
set_option maxHeartbeats 4000000 in
theorem c_X12_place {n : Nat} {K : Sh} {I : Im} {J : Jm} {R : Rf} {o : Nat} {x1 : Int32} (ho : (K o).1 = 13) {res : Int32} (E : f_X12_place o x1 = some res) : Met l yX12_place (Cond.code yX12_place cX12_place 2 (some .int) :: tb) rX12_place (PX D cA bs Z [.ref o, .int x1] K n I J R) (QX D cA bs Z (some (.int res)) K n I J R) 0 0 (fun q => bs ≤ q) := by
  refine met_of (lv1 := [(0, va_rf (some o)), (1, .int x1)]) pn_X12 (by exact Nat.le_of_ble_eq_true rfl) (by rfl) ?_
  intro p e s m args below meth c C hn
  exact v_sub [0, 1] [(0, va_rf (some o)), (1, .int x1)] rfl (w_X12_place_0 C ho _ _ E)
set_option maxHeartbeats 4000000 in
theorem w_X12_takesTest_0 (C : Cx D cA bs Z p s m args meth c cX12_takesTest RX12 3 (some .boolean)) {o : Nat} {K : Sh} {n : Nat} {J : Jm} {R : Rf} (ho : (K o).1 = 13) (res : Int32 × Im) (I : Im) (E : f_X12_takesTest K R o I = some res) : VW D cA bs Z p l e rX12_takesTest s m args below meth c 3 [(0, va_rf (some o))] K n I J R 0 0 (MQ below (QX D cA bs Z (some (.int res.1)) K n res.2 J R) args s 0 0 (fun q => bs ≤ q)) 0 [] := by
  unfold f_X12_takesTest at E
  refine v_aload_n (r := (some o)) C 0 dX12_takesTest_0 rfl ?_
  refine v_aload_n (r := (some o)) C 0 dX12_takesTest_1 rfl ?_
  obtain ⟨q1, h2, E⟩ := bnd E
  refine v_callV (r := (some o)) (As := []) (rv := (some (.int q1))) (st := [va_rf (some o)]) (st1 := [.int q1, va_rf (some o)]) (ce1 := 0) (sl1 := 0) C cv_X12_237 (c_X12_next  ho h2) rfl ho rfl rfl ⟨rfl, rfl, Nat.le_of_ble_eq_true rfl, Nat.le_of_ble_eq_true rfl⟩ ⟨Nat.le_of_ble_eq_true rfl, Nat.le_of_ble_eq_true rfl⟩ (by simp only [List.map_cons, List.map_nil, List.sum_cons, List.sum_nil, rf_cat]; exact Nat.le_of_ble_eq_true rfl) rfl rfl rfl dX12_takesTest_2 ?_
  obtain ⟨q3, h4, E⟩ := bnd E
  refine v_callV (r := (some o)) (As := [.int q1]) (rv := (some (.int q3))) (st := []) (st1 := [.int q3]) (ce1 := 0) (sl1 := 0) C cv_X12_253 (c_X12_place (x1 := q1) ho h4) rfl ho rfl rfl ⟨rfl, rfl, Nat.le_of_ble_eq_true rfl, Nat.le_of_ble_eq_true rfl⟩ ⟨Nat.le_of_ble_eq_true rfl, Nat.le_of_ble_eq_true rfl⟩ (Nat.le_of_ble_eq_true rfl) rfl rfl rfl dX12_takesTest_5 ?_
  refine v_istore_n C [(1, .int q3), (0, va_rf (some o))] dX12_takesTest_8 (Nat.le_of_ble_eq_true rfl) rfl ?_
  refine v_iload_n C 0 dX12_takesTest_9 rfl ?_
  refine v_if_ge C 15 E dX12_takesTest_10 rfl (fun c19 E => ?_) (fun c19 E => ?_)
  · refine v_aload_n (r := (some o)) C 1 dX12_takesTest_15 rfl ?_
    refine v_dup C dX12_takesTest_16 (rf_cat _) ?_
    refine v_getI (r := (some o)) C fa_X12_19 rfl rfl ho dX12_takesTest_17 ?_
    refine v_iconst C dX12_takesTest_20 k_iconst_1 ?_
    refine v_iadd C dX12_takesTest_21 ?_
    refine v_putI (r := (some o)) C fa_X12_19 rfl E rfl ho ⟨rfl, rfl⟩ dX12_takesTest_22 (fun I5 _ E => ?_)
    refine v_aload_n (r := (some o)) C 1 dX12_takesTest_25 rfl ?_
    obtain ⟨q6, h7, E⟩ := bnd E
    refine v_callV (r := (some o)) (As := []) (rv := (some (.int q6))) (st := []) (st1 := [.int q6]) (ce1 := 0) (sl1 := 0) C cv_X12_237 (c_X12_next  ho h7) rfl ho rfl rfl ⟨rfl, rfl, Nat.le_of_ble_eq_true rfl, Nat.le_of_ble_eq_true rfl⟩ ⟨Nat.le_of_ble_eq_true rfl, Nat.le_of_ble_eq_true rfl⟩ (Nat.le_of_ble_eq_true rfl) rfl rfl rfl dX12_takesTest_26 ?_
    refine v_istore_n C [(2, .int q6), (1, .int q3), (0, va_rf (some o))] dX12_takesTest_29 (Nat.le_of_ble_eq_true rfl) rfl ?_
    refine v_aload_n (r := (some o)) C 2 dX12_takesTest_30 rfl ?_
    refine v_iload_n C 0 dX12_takesTest_31 rfl ?_
    refine v_bipush C dX12_takesTest_32 k_bipush_60 ?_
    refine v_bipush C dX12_takesTest_34 k_bipush_62 ?_
    obtain ⟨q8, h9, E⟩ := bnd E
    refine v_callV (r := (some o)) (As := [.int q6, .int 60, .int 62]) (rv := (some (.int q8))) (st := []) (st1 := [.int q8]) (ce1 := 0) (sl1 := 0) C cv_X12_233 (c_X12_in (x1 := q6) (x2 := 60) (x3 := 62) ho h9) rfl ho rfl rfl ⟨rfl, rfl, Nat.le_of_ble_eq_true rfl, Nat.le_of_ble_eq_true rfl⟩ ⟨Nat.le_of_ble_eq_true rfl, Nat.le_of_ble_eq_true rfl⟩ (Nat.le_of_ble_eq_true rfl) rfl rfl rfl dX12_takesTest_36 ?_
    refine v_if_ne C 44 E dX12_takesTest_39 rfl (fun c18 E => ?_) (fun c18 E => ?_)
    · refine v_iconst C dX12_takesTest_42 k_iconst_0 ?_
      obtain rfl := Option.some.inj E
      exact v_zret (v := 0) C rfl nz_0 dX12_takesTest_43
    · refine v_aload_n (r := (some o)) C 2 dX12_takesTest_44 rfl ?_
      refine v_dup C dX12_takesTest_45 (rf_cat _) ?_
      refine v_getI (r := (some o)) C fa_X12_19 rfl rfl ho dX12_takesTest_46 ?_
      refine v_iconst C dX12_takesTest_49 k_iconst_1 ?_
      refine v_iadd C dX12_takesTest_50 ?_
      refine v_putI (r := (some o)) C fa_X12_19 rfl E rfl ho ⟨rfl, rfl⟩ dX12_takesTest_51 (fun I10 _ E => ?_)
      refine v_aload_n (r := (some o)) C 2 dX12_takesTest_54 rfl ?_
      refine v_iconst C dX12_takesTest_55 k_iconst_2 ?_
      obtain ⟨q11, h12, E⟩ := bnd E
      refine v_callV (r := (some o)) (As := [.int 2]) (rv := (some (.int q11.1))) (st := []) (st1 := [.int q11.1]) (ce1 := 0) (sl1 := 0) C cv_X12_257 (c_X12_takesNumber (x1 := 2) ho h12) rfl ho rfl rfl ⟨rfl, rfl, Nat.le_of_ble_eq_true rfl, Nat.le_of_ble_eq_true rfl⟩ ⟨Nat.le_of_ble_eq_true rfl, Nat.le_of_ble_eq_true rfl⟩ (Nat.le_of_ble_eq_true rfl) rfl rfl rfl dX12_takesTest_56 ?_
      refine v_if_ne C 64 E dX12_takesTest_59 rfl (fun c17 E => ?_) (fun c17 E => ?_)
      · refine v_iconst C dX12_takesTest_62 k_iconst_0 ?_
        obtain rfl := Option.some.inj E
        exact v_zret (v := 0) C rfl nz_0 dX12_takesTest_63
      · refine v_aload_n (r := (some o)) C 2 dX12_takesTest_64 rfl ?_
        refine v_sipush C dX12_takesTest_65 k_sipush_1000 ?_
        refine v_iload_n C 1 dX12_takesTest_68 rfl ?_
        refine v_imul C dX12_takesTest_69 ?_
        refine v_bipush C dX12_takesTest_70 k_bipush_100 ?_
        refine v_iload_n C 0 dX12_takesTest_72 rfl ?_
        refine v_bipush C dX12_takesTest_73 k_bipush_60 ?_
        refine v_isub C dX12_takesTest_75 ?_
        refine v_imul C dX12_takesTest_76 ?_
        refine v_iadd C dX12_takesTest_77 ?_
        refine v_aload_n (r := (some o)) C 2 dX12_takesTest_78 rfl ?_
        refine v_getI (r := (some o)) C fa_X12_22 rfl rfl ho dX12_takesTest_79 ?_
        refine v_iadd C dX12_takesTest_82 ?_
        obtain ⟨q13, h14, E⟩ := bnd E
        refine v_callV (r := (some o)) (As := [.int (((1000 * q3) + (100 * (q6 - 60))) + (q11.2 o 4))]) (rv := none) (st := []) (st1 := []) (ce1 := 0) (sl1 := 0) C cv_X12_249 (c_X12_put (x1 := (((1000 * q3) + (100 * (q6 - 60))) + (q11.2 o 4))) ho h14) rfl ho rfl rfl ⟨rfl, rfl, Nat.le_of_ble_eq_true rfl, Nat.le_of_ble_eq_true rfl⟩ ⟨Nat.le_of_ble_eq_true rfl, Nat.le_of_ble_eq_true rfl⟩ (Nat.le_of_ble_eq_true rfl) rfl rfl rfl dX12_takesTest_83 ?_
        refine v_aload_n (r := (some o)) C 2 dX12_takesTest_86 rfl ?_
        obtain ⟨q15, h16, E⟩ := bnd E
        refine v_callV (r := (some o)) (As := []) (rv := none) (st := []) (st1 := []) (ce1 := 0) (sl1 := 0) C cv_X12_260 (c_X12_whole  ho h16) rfl ho rfl rfl ⟨rfl, rfl, Nat.le_of_ble_eq_true rfl, Nat.le_of_ble_eq_true rfl⟩ ⟨Nat.le_of_ble_eq_true rfl, Nat.le_of_ble_eq_true rfl⟩ (Nat.le_of_ble_eq_true rfl) rfl rfl rfl dX12_takesTest_87 ?_
        refine v_iconst C dX12_takesTest_90 k_iconst_1 ?_
        obtain rfl := Option.some.inj E
        exact v_zret (v := 1) C rfl nz_1 dX12_takesTest_91
  · refine v_iconst C dX12_takesTest_13 k_iconst_0 ?_
    obtain rfl := Option.some.inj E
    exact v_zret (v := 0) C rfl nz_0 dX12_takesTest_14
set_option maxHeartbeats 4000000 in
theorem c_X12_takesTest {n : Nat} {K : Sh} {I : Im} {J : Jm} {R : Rf} {o : Nat}  (ho : (K o).1 = 13) {res : Int32 × Im} (E : f_X12_takesTest K R o I = some res) : Met l yX12_takesTest (Cond.code yX12_takesTest cX12_takesTest 3 (some .boolean) :: tb) rX12_takesTest (PX D cA bs Z [.ref o] K n I J R) (QX D cA bs Z (some (.int res.1)) K n res.2 J R) 0 0 (fun q => bs ≤ q) := by
  refine met_of (lv1 := [(0, va_rf (some o))]) pn_X12 (by exact Nat.le_of_ble_eq_true rfl) (by rfl) ?_
  intro p e s m args below meth c C hn
  exact v_sub [0] [(0, va_rf (some o))] rfl (w_X12_takesTest_0 C ho _ _ E)
set_option maxHeartbeats 4000000 in
theorem w_X12_takesE_122 (C : Cx D cA bs Z p s m args meth c cX12_takesE RX12 4 (some .boolean)) {o : Nat} {K : Sh} {n : Nat} {J : Jm} {R : Rf} (ho : (K o).1 = 13) (res : Int32 × Im) (r22 : Int32 → Int32 → Im → Option (Int32 × Im)) (hr22 : ∀ (x1 : Int32) (x2 : Int32) (I : Im), r22 x1 x2 I = some res → VW D cA bs Z p l e rX12_takesE s m args below meth c 4 [(0, va_rf (some o)), (1, .int x1), (2, .int x2)] K n I J R 0 0 (MQ below (QX D cA bs Z (some (.int res.1)) K n res.2 J R) args s 0 0 (fun q => bs ≤ q)) 22 []) (x1 : Int32) (x3 : Int32) (I : Im) (E : f_X12_takesE_122 K R o r22 x1 x3 I = some res) : VW D cA bs Z p l e rX12_takesE s m args below meth c 4 [(0, va_rf (some o)), (1, .int x1), (3, .int x3)] K n I J R 0 0 (MQ below (QX D cA bs Z (some (.int res.1)) K n res.2 J R) args s 0 0 (fun q => bs ≤ q)) 122 [] := by
  unfold f_X12_takesE_122 at E
  refine v_aload_n (r := (some o)) C 0 dX12_takesE_122 rfl ?_
  refine v_iload_n C 2 dX12_takesE_123 rfl ?_
  obtain ⟨q1, h2, E⟩ := bnd E
  refine v_callV (r := (some o)) (As := [.int x3]) (rv := none) (st := []) (st1 := []) (ce1 := 0) (sl1 := 0) C cv_X12_266 (c_X12_settle (x1 := x3) ho h2) rfl ho rfl rfl ⟨rfl, rfl, Nat.le_of_ble_eq_true rfl, Nat.le_of_ble_eq_true rfl⟩ ⟨Nat.le_of_ble_eq_true rfl, Nat.le_of_ble_eq_true rfl⟩ (Nat.le_of_ble_eq_true rfl) rfl rfl rfl dX12_takesE_124 ?_
  refine v_aload_n (r := (some o)) C 0 dX12_takesE_127 rfl ?_
  refine v_getR (r := (some o)) C fa_X12_50 rfl rfl ho dX12_takesE_128 ?_
  refine v_aload_n (r := (some o)) C 0 dX12_takesE_131 rfl ?_
  refine v_getI (r := (some o)) C fa_X12_56 rfl rfl ho dX12_takesE_132 ?_
  refine v_iload_n C 2 dX12_takesE_135 rfl ?_
  refine v_iast (r := (R o 13)) C E dX12_takesE_136 (fun I3 _ E => ?_)
  refine v_aload_n (r := (some o)) C 0 dX12_takesE_137 rfl ?_
  refine v_dup C dX12_takesE_138 (rf_cat _) ?_
  refine v_getI (r := (some o)) C fa_X12_56 rfl rfl ho dX12_takesE_139 ?_
  refine v_iconst C dX12_takesE_142 k_iconst_1 ?_
  refine v_iadd C dX12_takesE_143 ?_
  refine v_putI (r := (some o)) C fa_X12_56 rfl E rfl ho ⟨rfl, rfl⟩ dX12_takesE_144 (fun I4 _ E => ?_)
  refine v_iconst C dX12_takesE_147 k_iconst_1 ?_
  refine v_istore_n C [(2, .int 1), (0, va_rf (some o)), (1, .int x1), (3, .int x3)] dX12_takesE_148 (Nat.le_of_ble_eq_true rfl) rfl ?_
  refine v_aload_n (r := (some o)) C 1 dX12_takesE_149 rfl ?_
  refine v_dup C dX12_takesE_150 (rf_cat _) ?_
  refine v_getI (r := (some o)) C fa_X12_19 rfl rfl ho dX12_takesE_151 ?_
  refine v_iconst C dX12_takesE_154 k_iconst_1 ?_
  refine v_iadd C dX12_takesE_155 ?_
  refine v_putI (r := (some o)) C fa_X12_19 rfl E rfl ho ⟨rfl, rfl⟩ dX12_takesE_156 (fun I5 _ E => ?_)
  refine v_goto C 22 dX12_takesE_159 rfl ?_
  exact v_sub [1, 2, 0] [(0, va_rf (some o)), (1, .int x1), (2, .int 1)] rfl (hr22 _ _ _ E)
set_option maxHeartbeats 4000000 in
theorem w_X12_takesE_43 (C : Cx D cA bs Z p s m args meth c cX12_takesE RX12 4 (some .boolean)) {o : Nat} {K : Sh} {n : Nat} {J : Jm} {R : Rf} (ho : (K o).1 = 13) (res : Int32 × Im) (r22 : Int32 → Int32 → Im → Option (Int32 × Im)) (hr22 : ∀ (x1 : Int32) (x2 : Int32) (I : Im), r22 x1 x2 I = some res → VW D cA bs Z p l e rX12_takesE s m args below meth c 4 [(0, va_rf (some o)), (1, .int x1), (2, .int x2)] K n I J R 0 0 (MQ below (QX D cA bs Z (some (.int res.1)) K n res.2 J R) args s 0 0 (fun q => bs ≤ q)) 22 []) (x1 : Int32) (x2 : Int32) (x3 : Int32) (I : Im) (E : f_X12_takesE_43 K R o r22 x1 x2 x3 I = some res) : VW D cA bs Z p l e rX12_takesE s m args below meth c 4 [(0, va_rf (some o)), (1, .int x1), (2, .int x2), (3, .int x3)] K n I J R 0 0 (MQ below (QX D cA bs Z (some (.int res.1)) K n res.2 J R) args s 0 0 (fun q => bs ≤ q)) 43 [] := by
  unfold f_X12_takesE_43 at E
  refine v_aload_n (r := (some o)) C 0 dX12_takesE_43 rfl ?_
  refine v_getI (r := (some o)) C fa_X12_59 rfl rfl ho dX12_takesE_44 ?_
  refine v_iconst C dX12_takesE_47 k_iconst_4 ?_
  refine v_icmp_ne C 53 E dX12_takesE_48 rfl (fun c10 E => ?_) (fun c10 E => ?_)
  · refine v_iconst C dX12_takesE_51 k_iconst_0 ?_
    obtain rfl := Option.some.inj E
    exact v_zret (v := 0) C rfl nz_0 dX12_takesE_52
  · refine v_aload_n (r := (some o)) C 0 dX12_takesE_53 rfl ?_
    refine v_dup C dX12_takesE_54 (rf_cat _) ?_
    refine v_getI (r := (some o)) C fa_X12_59 rfl rfl ho dX12_takesE_55 ?_
    refine v_iconst C dX12_takesE_58 k_iconst_1 ?_
    refine v_iadd C dX12_takesE_59 ?_
    refine v_putI (r := (some o)) C fa_X12_59 rfl E rfl ho ⟨rfl, rfl⟩ dX12_takesE_60 (fun I6 _ E => ?_)
    refine v_aload_n (r := (some o)) C 0 dX12_takesE_63 rfl ?_
    refine v_getR (r := (some o)) C fa_X12_50 rfl rfl ho dX12_takesE_64 ?_
    refine v_aload_n (r := (some o)) C 0 dX12_takesE_67 rfl ?_
    refine v_getI (r := (some o)) C fa_X12_56 rfl rfl ho dX12_takesE_68 ?_
    refine v_iload_n C 3 dX12_takesE_71 rfl ?_
    refine v_iast (r := (R o 13)) C E dX12_takesE_72 (fun I7 _ E => ?_)
    refine v_aload_n (r := (some o)) C 0 dX12_takesE_73 rfl ?_
    refine v_dup C dX12_takesE_74 (rf_cat _) ?_
    refine v_getI (r := (some o)) C fa_X12_56 rfl rfl ho dX12_takesE_75 ?_
    refine v_iconst C dX12_takesE_78 k_iconst_1 ?_
    refine v_iadd C dX12_takesE_79 ?_
    refine v_putI (r := (some o)) C fa_X12_56 rfl E rfl ho ⟨rfl, rfl⟩ dX12_takesE_80 (fun I8 _ E => ?_)
    refine v_aload_n (r := (some o)) C 0 dX12_takesE_83 rfl ?_
    refine v_dup C dX12_takesE_84 (rf_cat _) ?_
    refine v_getI (r := (some o)) C fa_X12_19 rfl rfl ho dX12_takesE_85 ?_
    refine v_iconst C dX12_takesE_88 k_iconst_1 ?_
    refine v_iadd C dX12_takesE_89 ?_
    refine v_putI (r := (some o)) C fa_X12_19 rfl E rfl ho ⟨rfl, rfl⟩ dX12_takesE_90 (fun I9 _ E => ?_)
    refine v_goto C 22 dX12_takesE_93 rfl ?_
    exact v_sub [0, 1, 2] [(0, va_rf (some o)), (1, .int x1), (2, .int x2)] rfl (hr22 _ _ _ E)
set_option maxHeartbeats 4000000 in
theorem w_X12_takesE_22 (C : Cx D cA bs Z p s m args meth c cX12_takesE RX12 4 (some .boolean)) {o : Nat} {K : Sh} {n : Nat} {J : Jm} {R : Rf} (ho : (K o).1 = 13) (res : Int32 × Im)  : ∀ (k : Nat), ∀ (x1 : Int32) (x2 : Int32) (I : Im), f_X12_takesE_22 K R o k x1 x2 I = some res → VW D cA bs Z p l e rX12_takesE s m args below meth c 4 [(0, va_rf (some o)), (1, .int x1), (2, .int x2)] K n I J R 0 0 (MQ below (QX D cA bs Z (some (.int res.1)) K n res.2 J R) args s 0 0 (fun q => bs ≤ q)) 22 [] := by
  intro k
  induction k with
  | zero =>
    intro x1 x2 I E
    have E : (none : Option (Int32 × Im)) = some res := E
    cases E
  | succ k ih =>
    intro x1 x2 I E
    unfold f_X12_takesE_22 at E
    refine v_aload_n (r := (some o)) C 0 dX12_takesE_22 rfl ?_
    obtain ⟨q11, h12, E⟩ := bnd E
    refine v_callV (r := (some o)) (As := []) (rv := (some (.int q11))) (st := []) (st1 := [.int q11]) (ce1 := 0) (sl1 := 0) C cv_X12_237 (c_X12_next  ho h12) rfl ho rfl rfl ⟨rfl, rfl, Nat.le_of_ble_eq_true rfl, Nat.le_of_ble_eq_true rfl⟩ ⟨Nat.le_of_ble_eq_true rfl, Nat.le_of_ble_eq_true rfl⟩ (Nat.le_of_ble_eq_true rfl) rfl rfl rfl dX12_takesE_23 ?_
    refine v_istore_n C [(3, .int q11), (0, va_rf (some o)), (1, .int x1), (2, .int x2)] dX12_takesE_26 (Nat.le_of_ble_eq_true rfl) rfl ?_
    refine v_iload_n C 3 dX12_takesE_27 rfl ?_
    refine v_if_eq C 110 E dX12_takesE_28 rfl (fun c30 E => ?_) (fun c30 E => ?_)
    · refine v_iload_n C 0 dX12_takesE_110 rfl ?_
      refine v_bipush C dX12_takesE_111 k_bipush_38 ?_
      refine v_icmp_eq C 122 E dX12_takesE_113 rfl (fun c24 E => ?_) (fun c24 E => ?_)
      · exact v_sub [1, 2, 0] [(0, va_rf (some o)), (1, .int x1), (3, .int q11)] rfl (w_X12_takesE_122 C ho res _ ih _ _ _ E)
      · refine v_iload_n C 0 dX12_takesE_116 rfl ?_
        refine v_bipush C dX12_takesE_117 k_bipush_124 ?_
        refine v_icmp_ne C 162 E dX12_takesE_119 rfl (fun c23 E => ?_) (fun c23 E => ?_)
        · exact v_sub [1, 2, 0] [(0, va_rf (some o)), (1, .int x1), (3, .int q11)] rfl (w_X12_takesE_122 C ho res _ ih _ _ _ E)
        · refine v_aload_n (r := (some o)) C 1 dX12_takesE_162 rfl ?_
          refine v_bipush C dX12_takesE_163 k_bipush_124 ?_
          obtain ⟨q13, h14, E⟩ := bnd E
          refine v_callV (r := (some o)) (As := [.int 124]) (rv := none) (st := []) (st1 := []) (ce1 := 0) (sl1 := 0) C cv_X12_266 (c_X12_settle (x1 := 124) ho h14) rfl ho rfl rfl ⟨rfl, rfl, Nat.le_of_ble_eq_true rfl, Nat.le_of_ble_eq_true rfl⟩ ⟨Nat.le_of_ble_eq_true rfl, Nat.le_of_ble_eq_true rfl⟩ (Nat.le_of_ble_eq_true rfl) rfl rfl rfl dX12_takesE_165 ?_
          refine v_aload_n (r := (some o)) C 1 dX12_takesE_168 rfl ?_
          refine v_getR (r := (some o)) C fa_X12_44 rfl rfl ho dX12_takesE_169 ?_
          refine v_iload_n C 2 dX12_takesE_172 rfl ?_
          refine v_aload_n (r := (some o)) C 1 dX12_takesE_173 rfl ?_
          refine v_getI (r := (some o)) C fa_X12_53 rfl rfl ho dX12_takesE_174 ?_
          refine v_iast (r := (R o 11)) C E dX12_takesE_177 (fun I15 _ E => ?_)
          refine v_aload_n (r := (some o)) C 1 dX12_takesE_178 rfl ?_
          refine v_getI (r := (some o)) C fa_X12_56 rfl rfl ho dX12_takesE_179 ?_
          refine v_if_ne C 187 E dX12_takesE_182 rfl (fun c22 E => ?_) (fun c22 E => ?_)
          · refine v_iconst C dX12_takesE_185 k_iconst_1 ?_
            obtain rfl := Option.some.inj E
            exact v_zret (v := 1) C rfl nz_1 dX12_takesE_186
          · refine v_iload_n C 0 dX12_takesE_187 rfl ?_
            refine v_bipush C dX12_takesE_188 k_bipush_41 ?_
            refine v_icmp_eq C 195 E dX12_takesE_190 rfl (fun c21 E => ?_) (fun c21 E => ?_)
            · refine v_aload_n (r := (some o)) C 1 dX12_takesE_195 rfl ?_
              refine v_dup C dX12_takesE_196 (rf_cat _) ?_
              refine v_getI (r := (some o)) C fa_X12_56 rfl rfl ho dX12_takesE_197 ?_
              refine v_iconst C dX12_takesE_200 k_iconst_1 ?_
              refine v_isub C dX12_takesE_201 ?_
              refine v_putI (r := (some o)) C fa_X12_56 rfl E rfl ho ⟨rfl, rfl⟩ dX12_takesE_202 (fun I16 _ E => ?_)
              refine v_aload_n (r := (some o)) C 1 dX12_takesE_205 rfl ?_
              refine v_dup C dX12_takesE_206 (rf_cat _) ?_
              refine v_getI (r := (some o)) C fa_X12_59 rfl rfl ho dX12_takesE_207 ?_
              refine v_iconst C dX12_takesE_210 k_iconst_1 ?_
              refine v_isub C dX12_takesE_211 ?_
              refine v_putI (r := (some o)) C fa_X12_59 rfl E rfl ho ⟨rfl, rfl⟩ dX12_takesE_212 (fun I17 _ E => ?_)
              refine v_aload_n (r := (some o)) C 1 dX12_takesE_215 rfl ?_
              refine v_dup C dX12_takesE_216 (rf_cat _) ?_
              refine v_getI (r := (some o)) C fa_X12_19 rfl rfl ho dX12_takesE_217 ?_
              refine v_iconst C dX12_takesE_220 k_iconst_1 ?_
              refine v_iadd C dX12_takesE_221 ?_
              refine v_putI (r := (some o)) C fa_X12_19 rfl E rfl ho ⟨rfl, rfl⟩ dX12_takesE_222 (fun I18 _ E => ?_)
              refine v_aload_n (r := (some o)) C 1 dX12_takesE_225 rfl ?_
              obtain ⟨q19, h20, E⟩ := bnd E
              refine v_callV (r := (some o)) (As := []) (rv := none) (st := []) (st1 := []) (ce1 := 0) (sl1 := 0) C cv_X12_260 (c_X12_whole  ho h20) rfl ho rfl rfl ⟨rfl, rfl, Nat.le_of_ble_eq_true rfl, Nat.le_of_ble_eq_true rfl⟩ ⟨Nat.le_of_ble_eq_true rfl, Nat.le_of_ble_eq_true rfl⟩ (Nat.le_of_ble_eq_true rfl) rfl rfl rfl dX12_takesE_226 ?_
              refine v_goto C 22 dX12_takesE_229 rfl ?_
              exact v_sub [1, 2, 3] [(0, va_rf (some o)), (1, .int x1), (2, .int x2)] rfl (ih _ _ _ E)
            · refine v_iconst C dX12_takesE_193 k_iconst_0 ?_
              obtain rfl := Option.some.inj E
              exact v_zret (v := 0) C rfl nz_0 dX12_takesE_194
    · refine v_iload_n C 0 dX12_takesE_31 rfl ?_
      refine v_bipush C dX12_takesE_32 k_bipush_33 ?_
      refine v_icmp_eq C 43 E dX12_takesE_34 rfl (fun c29 E => ?_) (fun c29 E => ?_)
      · exact v_sub [1, 2, 3, 0] [(0, va_rf (some o)), (1, .int x1), (2, .int x2), (3, .int q11)] rfl (w_X12_takesE_43 C ho res _ ih _ _ _ _ E)
      · refine v_iload_n C 0 dX12_takesE_37 rfl ?_
        refine v_bipush C dX12_takesE_38 k_bipush_40 ?_
        refine v_icmp_ne C 96 E dX12_takesE_40 rfl (fun c28 E => ?_) (fun c28 E => ?_)
        · exact v_sub [1, 2, 3, 0] [(0, va_rf (some o)), (1, .int x1), (2, .int x2), (3, .int q11)] rfl (w_X12_takesE_43 C ho res _ ih _ _ _ _ E)
        · refine v_aload_n (r := (some o)) C 1 dX12_takesE_96 rfl ?_
          obtain ⟨q25, h26, E⟩ := bnd E
          refine v_callV (r := (some o)) (As := []) (rv := (some (.int q25.1))) (st := []) (st1 := [.int q25.1]) (ce1 := 0) (sl1 := 0) C cv_X12_263 (c_X12_takesTest  ho h26) rfl ho rfl rfl ⟨rfl, rfl, Nat.le_of_ble_eq_true rfl, Nat.le_of_ble_eq_true rfl⟩ ⟨Nat.le_of_ble_eq_true rfl, Nat.le_of_ble_eq_true rfl⟩ (Nat.le_of_ble_eq_true rfl) rfl rfl rfl dX12_takesE_97 ?_
          refine v_if_eq C 108 E dX12_takesE_100 rfl (fun c27 E => ?_) (fun c27 E => ?_)
          · refine v_iconst C dX12_takesE_108 k_iconst_0 ?_
            obtain rfl := Option.some.inj E
            exact v_zret (v := 0) C rfl nz_0 dX12_takesE_109
          · refine v_iconst C dX12_takesE_103 k_iconst_0 ?_
            refine v_istore_n C [(2, .int 0), (3, .int q11), (0, va_rf (some o)), (1, .int x1)] dX12_takesE_104 (Nat.le_of_ble_eq_true rfl) rfl ?_
            refine v_goto C 22 dX12_takesE_105 rfl ?_
            exact v_sub [2, 3, 0] [(0, va_rf (some o)), (1, .int x1), (2, .int 0)] rfl (ih _ _ _ E)
set_option maxHeartbeats 4000000 in
theorem w_X12_takesE_0 (C : Cx D cA bs Z p s m args meth c cX12_takesE RX12 4 (some .boolean)) {o : Nat} {K : Sh} {n : Nat} {J : Jm} {R : Rf} (ho : (K o).1 = 13) (res : Int32 × Im) (x1 : Int32) (I : Im) (E : f_X12_takesE K R o x1 I = some res) : VW D cA bs Z p l e rX12_takesE s m args below meth c 4 [(0, va_rf (some o)), (1, .int x1)] K n I J R 0 0 (MQ below (QX D cA bs Z (some (.int res.1)) K n res.2 J R) args s 0 0 (fun q => bs ≤ q)) 0 [] := by
  unfold f_X12_takesE at E
  refine v_aload_n (r := (some o)) C 0 dX12_takesE_0 rfl ?_
  refine v_iconst C dX12_takesE_1 k_iconst_0 ?_
  refine v_putI (r := (some o)) C fa_X12_56 rfl E rfl ho ⟨rfl, rfl⟩ dX12_takesE_2 (fun I31 _ E => ?_)
  refine v_aload_n (r := (some o)) C 0 dX12_takesE_5 rfl ?_
  refine v_iconst C dX12_takesE_6 k_iconst_0 ?_
  refine v_putI (r := (some o)) C fa_X12_59 rfl E rfl ho ⟨rfl, rfl⟩ dX12_takesE_7 (fun I32 _ E => ?_)
  refine v_aload_n (r := (some o)) C 0 dX12_takesE_10 rfl ?_
  refine v_getR (r := (some o)) C fa_X12_41 rfl rfl ho dX12_takesE_11 ?_
  refine v_iload_n C 1 dX12_takesE_14 rfl ?_
  refine v_aload_n (r := (some o)) C 0 dX12_takesE_15 rfl ?_
  refine v_getI (r := (some o)) C fa_X12_53 rfl rfl ho dX12_takesE_16 ?_
  refine v_iast (r := (R o 10)) C E dX12_takesE_19 (fun I33 _ E => ?_)
  refine v_iconst C dX12_takesE_20 k_iconst_1 ?_
  refine v_istore_n C [(2, .int 1), (0, va_rf (some o)), (1, .int x1)] dX12_takesE_21 (Nat.le_of_ble_eq_true rfl) rfl ?_
  exact v_sub [1, 2, 0] [(0, va_rf (some o)), (1, .int x1), (2, .int 1)] rfl (w_X12_takesE_22 C ho res  _ _ _ _ E)
set_option maxHeartbeats 4000000 in
theorem c_X12_takesE {n : Nat} {K : Sh} {I : Im} {J : Jm} {R : Rf} {o : Nat} {x1 : Int32} (ho : (K o).1 = 13) {res : Int32 × Im} (E : f_X12_takesE K R o x1 I = some res) : Met l yX12_takesE (Cond.code yX12_takesE cX12_takesE 4 (some .boolean) :: tb) rX12_takesE (PX D cA bs Z [.ref o, .int x1] K n I J R) (QX D cA bs Z (some (.int res.1)) K n res.2 J R) 0 0 (fun q => bs ≤ q) := by
  refine met_of (lv1 := [(0, va_rf (some o)), (1, .int x1)]) pn_X12 (by exact Nat.le_of_ble_eq_true rfl) (by rfl) ?_
  intro p e s m args below meth c C hn
  exact v_sub [0, 1] [(0, va_rf (some o)), (1, .int x1)] rfl (w_X12_takesE_0 C ho _ _ _ E)
set_option maxHeartbeats 4000000 in
theorem w_X12_takesHead_68 (C : Cx D cA bs Z p s m args meth c cX12_takesHead RX12 3 (some .boolean)) {o : Nat} {K : Sh} {n : Nat} {J : Jm} {R : Rf} (ho : (K o).1 = 13) (res : Int32 × Im) (x2 : Int32) (s0 : Option Nat) (s1 : Int32) (s2 : Int32) (I : Im) (E : f_X12_takesHead_68 K R o x2 s0 s1 s2 I = some res) : VW D cA bs Z p l e rX12_takesHead s m args below meth c 3 [(0, va_rf (some o)), (2, .int x2)] K n I J R 0 0 (MQ below (QX D cA bs Z (some (.int res.1)) K n res.2 J R) args s 0 0 (fun q => bs ≤ q)) 68 [.int s2, .int s1, va_rf s0] := by
  unfold f_X12_takesHead_68 at E
  refine v_iast (r := s0) C E dX12_takesHead_68 (fun I1 _ E => ?_)
  refine v_iload_n C 1 dX12_takesHead_69 rfl ?_
  refine v_bipush C dX12_takesHead_70 k_bipush_97 ?_
  refine v_icmp_ne C 86 E dX12_takesHead_72 rfl (fun c10 E => ?_) (fun c10 E => ?_)
  · refine v_aload_n (r := (some o)) C 0 dX12_takesHead_75 rfl ?_
    refine v_sipush C dX12_takesHead_76 k_sipush_23609 ?_
    refine v_iconst C dX12_takesHead_79 k_iconst_3 ?_
    obtain ⟨q6, h7, E⟩ := bnd E
    refine v_callV (r := (some o)) (As := [.int 23609, .int 3]) (rv := (some (.int q6.1))) (st := []) (st1 := [.int q6.1]) (ce1 := 0) (sl1 := 0) C cv_X12_272 (c_X12_takesWord (x1 := 23609) (x2 := 3) ho h7) rfl ho rfl rfl ⟨rfl, rfl, Nat.le_of_ble_eq_true rfl, Nat.le_of_ble_eq_true rfl⟩ ⟨Nat.le_of_ble_eq_true rfl, Nat.le_of_ble_eq_true rfl⟩ (Nat.le_of_ble_eq_true rfl) rfl rfl rfl dX12_takesHead_80 ?_
    refine v_goto C 94 dX12_takesHead_83 rfl ?_
    obtain ⟨v8, h9, E⟩ := bnd E
    obtain ⟨h9a, h9b⟩ := gd h9
    subst h9b
    obtain rfl := Option.some.inj E
    exact v_zret C rfl (by simp [narrow, h9a]) dX12_takesHead_94
  · refine v_aload_n (r := (some o)) C 0 dX12_takesHead_86 rfl ?_
    refine v_ldcw C ct_X12_276 dX12_takesHead_87 ?_
    refine v_iconst C dX12_takesHead_90 k_iconst_4 ?_
    obtain ⟨q2, h3, E⟩ := bnd E
    refine v_callV (r := (some o)) (As := [.int 759180, .int 4]) (rv := (some (.int q2.1))) (st := []) (st1 := [.int q2.1]) (ce1 := 0) (sl1 := 0) C cv_X12_272 (c_X12_takesWord (x1 := 759180) (x2 := 4) ho h3) rfl ho rfl rfl ⟨rfl, rfl, Nat.le_of_ble_eq_true rfl, Nat.le_of_ble_eq_true rfl⟩ ⟨Nat.le_of_ble_eq_true rfl, Nat.le_of_ble_eq_true rfl⟩ (Nat.le_of_ble_eq_true rfl) rfl rfl rfl dX12_takesHead_91 ?_
    obtain ⟨v4, h5, E⟩ := bnd E
    obtain ⟨h5a, h5b⟩ := gd h5
    subst h5b
    obtain rfl := Option.some.inj E
    exact v_zret C rfl (by simp [narrow, h5a]) dX12_takesHead_94
set_option maxHeartbeats 4000000 in
theorem w_X12_takesHead_0 (C : Cx D cA bs Z p s m args meth c cX12_takesHead RX12 3 (some .boolean)) {o : Nat} {K : Sh} {n : Nat} {J : Jm} {R : Rf} (ho : (K o).1 = 13) (res : Int32 × Im) (x1 : Int32) (I : Im) (E : f_X12_takesHead K R o x1 I = some res) : VW D cA bs Z p l e rX12_takesHead s m args below meth c 3 [(0, va_rf (some o)), (1, .int x1)] K n I J R 0 0 (MQ below (QX D cA bs Z (some (.int res.1)) K n res.2 J R) args s 0 0 (fun q => bs ≤ q)) 0 [] := by
  unfold f_X12_takesHead at E
  refine v_aload_n (r := (some o)) C 0 dX12_takesHead_0 rfl ?_
  obtain ⟨q11, h12, E⟩ := bnd E
  refine v_callV (r := (some o)) (As := []) (rv := (some (.int q11))) (st := []) (st1 := [.int q11]) (ce1 := 0) (sl1 := 0) C cv_X12_269 (c_X12_second  ho h12) rfl ho rfl rfl ⟨rfl, rfl, Nat.le_of_ble_eq_true rfl, Nat.le_of_ble_eq_true rfl⟩ ⟨Nat.le_of_ble_eq_true rfl, Nat.le_of_ble_eq_true rfl⟩ (Nat.le_of_ble_eq_true rfl) rfl rfl rfl dX12_takesHead_1 ?_
  refine v_istore_n C [(2, .int q11), (0, va_rf (some o)), (1, .int x1)] dX12_takesHead_4 (Nat.le_of_ble_eq_true rfl) rfl ?_
  refine v_aload_n (r := (some o)) C 1 dX12_takesHead_5 rfl ?_
  obtain ⟨q13, h14, E⟩ := bnd E
  refine v_callV (r := (some o)) (As := []) (rv := (some (.int q13))) (st := []) (st1 := [.int q13]) (ce1 := 0) (sl1 := 0) C cv_X12_237 (c_X12_next  ho h14) rfl ho rfl rfl ⟨rfl, rfl, Nat.le_of_ble_eq_true rfl, Nat.le_of_ble_eq_true rfl⟩ ⟨Nat.le_of_ble_eq_true rfl, Nat.le_of_ble_eq_true rfl⟩ (Nat.le_of_ble_eq_true rfl) rfl rfl rfl dX12_takesHead_6 ?_
  by_cases c20 : q13 = 99
  · have E := ite_t E c20
    refine v_lookup (off := 102) C 111 dX12_takesHead_9 (by decide) (by rw [c20]; decide) rfl ?_
    refine v_aload_n (r := (some o)) C 1 dX12_takesHead_111 rfl ?_
    refine v_getR (r := (some o)) C fa_X12_32 rfl rfl ho dX12_takesHead_112 ?_
    refine v_iload_n C 2 dX12_takesHead_115 rfl ?_
    refine v_iconst C dX12_takesHead_116 k_iconst_3 ?_
    refine v_iast (r := (R o 7)) C E dX12_takesHead_117 (fun I15 _ E => ?_)
    refine v_aload_n (r := (some o)) C 1 dX12_takesHead_118 rfl ?_
    refine v_ldcw C ct_X12_278 dX12_takesHead_119 ?_
    refine v_iconst C dX12_takesHead_122 k_iconst_5 ?_
    obtain ⟨q16, h17, E⟩ := bnd E
    refine v_callV (r := (some o)) (As := [.int 3197529, .int 5]) (rv := (some (.int q16.1))) (st := []) (st1 := [.int q16.1]) (ce1 := 0) (sl1 := 0) C cv_X12_272 (c_X12_takesWord (x1 := 3197529) (x2 := 5) ho h17) rfl ho rfl rfl ⟨rfl, rfl, Nat.le_of_ble_eq_true rfl, Nat.le_of_ble_eq_true rfl⟩ ⟨Nat.le_of_ble_eq_true rfl, Nat.le_of_ble_eq_true rfl⟩ (Nat.le_of_ble_eq_true rfl) rfl rfl rfl dX12_takesHead_123 ?_
    obtain ⟨v18, h19, E⟩ := bnd E
    obtain ⟨h19a, h19b⟩ := gd h19
    subst h19b
    obtain rfl := Option.some.inj E
    exact v_zret C rfl (by simp [narrow, h19a]) dX12_takesHead_126
  have E := ite_f E c20
  by_cases c26 : q13 = 100
  · have E := ite_t E c26
    refine v_lookup (off := 86) C 95 dX12_takesHead_9 (by decide) (by rw [c26]; decide) rfl ?_
    refine v_aload_n (r := (some o)) C 1 dX12_takesHead_95 rfl ?_
    refine v_getR (r := (some o)) C fa_X12_32 rfl rfl ho dX12_takesHead_96 ?_
    refine v_iload_n C 2 dX12_takesHead_99 rfl ?_
    refine v_iconst C dX12_takesHead_100 k_iconst_2 ?_
    refine v_iast (r := (R o 7)) C E dX12_takesHead_101 (fun I21 _ E => ?_)
    refine v_aload_n (r := (some o)) C 1 dX12_takesHead_102 rfl ?_
    refine v_ldcw C ct_X12_277 dX12_takesHead_103 ?_
    refine v_iconst C dX12_takesHead_106 k_iconst_5 ?_
    obtain ⟨q22, h23, E⟩ := bnd E
    refine v_callV (r := (some o)) (As := [.int 4793803, .int 5]) (rv := (some (.int q22.1))) (st := []) (st1 := [.int q22.1]) (ce1 := 0) (sl1 := 0) C cv_X12_272 (c_X12_takesWord (x1 := 4793803) (x2 := 5) ho h23) rfl ho rfl rfl ⟨rfl, rfl, Nat.le_of_ble_eq_true rfl, Nat.le_of_ble_eq_true rfl⟩ ⟨Nat.le_of_ble_eq_true rfl, Nat.le_of_ble_eq_true rfl⟩ (Nat.le_of_ble_eq_true rfl) rfl rfl rfl dX12_takesHead_107 ?_
    obtain ⟨v24, h25, E⟩ := bnd E
    obtain ⟨h25a, h25b⟩ := gd h25
    subst h25b
    obtain rfl := Option.some.inj E
    exact v_zret C rfl (by simp [narrow, h25a]) dX12_takesHead_110
  have E := ite_f E c26
  by_cases c32 : q13 = 108
  · have E := ite_t E c32
    refine v_lookup (off := 118) C 127 dX12_takesHead_9 (by decide) (by rw [c32]; decide) rfl ?_
    refine v_aload_n (r := (some o)) C 1 dX12_takesHead_127 rfl ?_
    refine v_getR (r := (some o)) C fa_X12_32 rfl rfl ho dX12_takesHead_128 ?_
    refine v_iload_n C 2 dX12_takesHead_131 rfl ?_
    refine v_iconst C dX12_takesHead_132 k_iconst_4 ?_
    refine v_iast (r := (R o 7)) C E dX12_takesHead_133 (fun I27 _ E => ?_)
    refine v_aload_n (r := (some o)) C 1 dX12_takesHead_134 rfl ?_
    refine v_ldcw C ct_X12_279 dX12_takesHead_135 ?_
    refine v_iconst C dX12_takesHead_138 k_iconst_4 ?_
    obtain ⟨q28, h29, E⟩ := bnd E
    refine v_callV (r := (some o)) (As := [.int 408612, .int 4]) (rv := (some (.int q28.1))) (st := []) (st1 := [.int q28.1]) (ce1 := 0) (sl1 := 0) C cv_X12_272 (c_X12_takesWord (x1 := 408612) (x2 := 4) ho h29) rfl ho rfl rfl ⟨rfl, rfl, Nat.le_of_ble_eq_true rfl, Nat.le_of_ble_eq_true rfl⟩ ⟨Nat.le_of_ble_eq_true rfl, Nat.le_of_ble_eq_true rfl⟩ (Nat.le_of_ble_eq_true rfl) rfl rfl rfl dX12_takesHead_139 ?_
    obtain ⟨v30, h31, E⟩ := bnd E
    obtain ⟨h31a, h31b⟩ := gd h31
    subst h31b
    obtain rfl := Option.some.inj E
    exact v_zret C rfl (by simp [narrow, h31a]) dX12_takesHead_142
  have E := ite_f E c32
  by_cases c34 : q13 = 119
  · have E := ite_t E c34
    refine v_lookup (off := 43) C 52 dX12_takesHead_9 (by decide) (by rw [c34]; decide) rfl ?_
    refine v_aload_n (r := (some o)) C 1 dX12_takesHead_52 rfl ?_
    refine v_getR (r := (some o)) C fa_X12_32 rfl rfl ho dX12_takesHead_53 ?_
    refine v_iload_n C 2 dX12_takesHead_56 rfl ?_
    refine v_iload_n C 0 dX12_takesHead_57 rfl ?_
    refine v_bipush C dX12_takesHead_58 k_bipush_97 ?_
    refine v_icmp_ne C 67 E dX12_takesHead_60 rfl (fun c33 E => ?_) (fun c33 E => ?_)
    · refine v_iconst C dX12_takesHead_63 k_iconst_1 ?_
      refine v_goto C 68 dX12_takesHead_64 rfl ?_
      exact v_sub [1, 0] [(0, va_rf (some o)), (2, .int q11)] rfl (w_X12_takesHead_68 C ho res  _ _ _ _ _ E)
    · refine v_iconst C dX12_takesHead_67 k_iconst_0 ?_
      exact v_sub [1, 0] [(0, va_rf (some o)), (2, .int q11)] rfl (w_X12_takesHead_68 C ho res  _ _ _ _ _ E)
  have E := ite_f E c34
  refine v_lookup (off := 134) C 143 dX12_takesHead_9 (by decide) (by show Op.lookupswitch.offset [(99, 102), (100, 86), (108, 118), (119, 43)] 134 _ = _; rw [lv_osw c20 (show ((99 : Int32)).toInt = 99 from by decide), lv_osw c26 (show ((100 : Int32)).toInt = 100 from by decide), lv_osw c32 (show ((108 : Int32)).toInt = 108 from by decide), lv_osw c34 (show ((119 : Int32)).toInt = 119 from by decide)]; rfl) rfl ?_
  refine v_aload_n (r := (some o)) C 1 dX12_takesHead_143 rfl ?_
  refine v_getR (r := (some o)) C fa_X12_32 rfl rfl ho dX12_takesHead_144 ?_
  refine v_iload_n C 2 dX12_takesHead_147 rfl ?_
  refine v_iconst C dX12_takesHead_148 k_iconst_5 ?_
  refine v_iast (r := (R o 7)) C E dX12_takesHead_149 (fun I35 _ E => ?_)
  refine v_aload_n (r := (some o)) C 1 dX12_takesHead_150 rfl ?_
  refine v_ldcw C ct_X12_280 dX12_takesHead_151 ?_
  refine v_iconst C dX12_takesHead_154 k_iconst_5 ?_
  obtain ⟨q36, h37, E⟩ := bnd E
  refine v_callV (r := (some o)) (As := [.int 20579780, .int 5]) (rv := (some (.int q36.1))) (st := []) (st1 := [.int q36.1]) (ce1 := 0) (sl1 := 0) C cv_X12_272 (c_X12_takesWord (x1 := 20579780) (x2 := 5) ho h37) rfl ho rfl rfl ⟨rfl, rfl, Nat.le_of_ble_eq_true rfl, Nat.le_of_ble_eq_true rfl⟩ ⟨Nat.le_of_ble_eq_true rfl, Nat.le_of_ble_eq_true rfl⟩ (Nat.le_of_ble_eq_true rfl) rfl rfl rfl dX12_takesHead_155 ?_
  obtain ⟨v38, h39, E⟩ := bnd E
  obtain ⟨h39a, h39b⟩ := gd h39
  subst h39b
  obtain rfl := Option.some.inj E
  exact v_zret C rfl (by simp [narrow, h39a]) dX12_takesHead_158
set_option maxHeartbeats 4000000 in
theorem c_X12_takesHead {n : Nat} {K : Sh} {I : Im} {J : Jm} {R : Rf} {o : Nat} {x1 : Int32} (ho : (K o).1 = 13) {res : Int32 × Im} (E : f_X12_takesHead K R o x1 I = some res) : Met l yX12_takesHead (Cond.code yX12_takesHead cX12_takesHead 3 (some .boolean) :: tb) rX12_takesHead (PX D cA bs Z [.ref o, .int x1] K n I J R) (QX D cA bs Z (some (.int res.1)) K n res.2 J R) 0 0 (fun q => bs ≤ q) := by
  refine met_of (lv1 := [(0, va_rf (some o)), (1, .int x1)]) pn_X12 (by exact Nat.le_of_ble_eq_true rfl) (by rfl) ?_
  intro p e s m args below meth c C hn
  exact v_sub [0, 1] [(0, va_rf (some o)), (1, .int x1)] rfl (w_X12_takesHead_0 C ho _ _ _ E)
set_option maxHeartbeats 4000000 in
theorem w_X12_takesClause_24 (C : Cx D cA bs Z p s m args meth c cX12_takesClause RX12 2 (some .boolean)) {o : Nat} {K : Sh} {n : Nat} {J : Jm} {R : Rf} (ho : (K o).1 = 13) (res : Int32 × Im) (x1 : Int32) (s0 : Option Nat) (s1 : Int32) (I : Im) (E : f_X12_takesClause_24 K R o x1 s0 s1 I = some res) : VW D cA bs Z p l e rX12_takesClause s m args below meth c 2 [(0, va_rf (some o)), (1, .int x1)] K n I J R 0 0 (MQ below (QX D cA bs Z (some (.int res.1)) K n res.2 J R) args s 0 0 (fun q => bs ≤ q)) 24 [.int s1, va_rf s0] := by
  unfold f_X12_takesClause_24 at E
  obtain ⟨a1, h2, E⟩ := bnd E
  obtain ⟨hra1, hoa1⟩ := ob_is h2
  obtain ⟨q3, h4, E⟩ := bnd E
  refine v_callV (r := s0) (As := [.int s1]) (rv := (some (.int q3.1))) (st := []) (st1 := [.int q3.1]) (ce1 := 0) (sl1 := 0) C cv_X12_257 (c_X12_takesNumber (x1 := s1) hoa1 h4) hra1 hoa1 rfl rfl ⟨rfl, rfl, Nat.le_of_ble_eq_true rfl, Nat.le_of_ble_eq_true rfl⟩ ⟨Nat.le_of_ble_eq_true rfl, Nat.le_of_ble_eq_true rfl⟩ (Nat.le_of_ble_eq_true rfl) rfl rfl rfl dX12_takesClause_24 ?_
  refine v_if_ne C 32 E dX12_takesClause_27 rfl (fun c23 E => ?_) (fun c23 E => ?_)
  · refine v_iconst C dX12_takesClause_30 k_iconst_0 ?_
    obtain rfl := Option.some.inj E
    exact v_zret (v := 0) C rfl nz_0 dX12_takesClause_31
  · refine v_aload_n (r := (some o)) C 0 dX12_takesClause_32 rfl ?_
    refine v_getR (r := (some o)) C fa_X12_35 rfl rfl ho dX12_takesClause_33 ?_
    refine v_iload_n C 1 dX12_takesClause_36 rfl ?_
    refine v_aload_n (r := (some o)) C 0 dX12_takesClause_37 rfl ?_
    refine v_getI (r := (some o)) C fa_X12_22 rfl rfl ho dX12_takesClause_38 ?_
    refine v_iast (r := (R o 8)) C E dX12_takesClause_41 (fun I5 _ E => ?_)
    refine v_aload_n (r := (some o)) C 0 dX12_takesClause_42 rfl ?_
    refine v_getR (r := (some o)) C fa_X12_32 rfl rfl ho dX12_takesClause_43 ?_
    refine v_iload_n C 1 dX12_takesClause_46 rfl ?_
    refine v_iald (r := (R o 7)) C E dX12_takesClause_47 (fun v6 _ E => ?_)
    refine v_iconst C dX12_takesClause_48 k_iconst_2 ?_
    refine v_icmp_ne C 75 E dX12_takesClause_49 rfl (fun c22 E => ?_) (fun c22 E => ?_)
    · refine v_aload_n (r := (some o)) C 0 dX12_takesClause_52 rfl ?_
      refine v_bipush C dX12_takesClause_53 k_bipush_32 ?_
      obtain ⟨q16, h17, E⟩ := bnd E
      refine v_callV (r := (some o)) (As := [.int 32]) (rv := (some (.int q16.1))) (st := []) (st1 := [.int q16.1]) (ce1 := 0) (sl1 := 0) C cv_X12_241 (c_X12_takes (x1 := 32) ho h17) rfl ho rfl rfl ⟨rfl, rfl, Nat.le_of_ble_eq_true rfl, Nat.le_of_ble_eq_true rfl⟩ ⟨Nat.le_of_ble_eq_true rfl, Nat.le_of_ble_eq_true rfl⟩ (Nat.le_of_ble_eq_true rfl) rfl rfl rfl dX12_takesClause_55 ?_
      refine v_if_eq C 73 E dX12_takesClause_58 rfl (fun c21 E => ?_) (fun c21 E => ?_)
      · refine v_iconst C dX12_takesClause_73 k_iconst_0 ?_
        obtain rfl := Option.some.inj E
        exact v_zret (v := 0) C rfl nz_0 dX12_takesClause_74
      · refine v_aload_n (r := (some o)) C 0 dX12_takesClause_61 rfl ?_
        refine v_iload_n C 1 dX12_takesClause_62 rfl ?_
        obtain ⟨q18, h19, E⟩ := bnd E
        refine v_callV (r := (some o)) (As := [.int x1]) (rv := (some (.int q18.1))) (st := []) (st1 := [.int q18.1]) (ce1 := 0) (sl1 := 0) C cv_X12_284 (c_X12_takesE (x1 := x1) ho h19) rfl ho rfl rfl ⟨rfl, rfl, Nat.le_of_ble_eq_true rfl, Nat.le_of_ble_eq_true rfl⟩ ⟨Nat.le_of_ble_eq_true rfl, Nat.le_of_ble_eq_true rfl⟩ (Nat.le_of_ble_eq_true rfl) rfl rfl rfl dX12_takesClause_63 ?_
        refine v_if_eq C 73 E dX12_takesClause_66 rfl (fun c20 E => ?_) (fun c20 E => ?_)
        · refine v_iconst C dX12_takesClause_73 k_iconst_0 ?_
          obtain rfl := Option.some.inj E
          exact v_zret (v := 0) C rfl nz_0 dX12_takesClause_74
        · refine v_iconst C dX12_takesClause_69 k_iconst_1 ?_
          refine v_goto C 74 dX12_takesClause_70 rfl ?_
          obtain rfl := Option.some.inj E
          exact v_zret (v := 1) C rfl nz_1 dX12_takesClause_74
    · refine v_aload_n (r := (some o)) C 0 dX12_takesClause_75 rfl ?_
      refine v_getR (r := (some o)) C fa_X12_32 rfl rfl ho dX12_takesClause_76 ?_
      refine v_iload_n C 1 dX12_takesClause_79 rfl ?_
      refine v_iald (r := (R o 7)) C E dX12_takesClause_80 (fun v7 _ E => ?_)
      refine v_if_eq C 86 E dX12_takesClause_81 rfl (fun c15 E => ?_) (fun c15 E => ?_)
      · refine v_aload_n (r := (some o)) C 0 dX12_takesClause_86 rfl ?_
        refine v_bipush C dX12_takesClause_87 k_bipush_32 ?_
        obtain ⟨q8, h9, E⟩ := bnd E
        refine v_callV (r := (some o)) (As := [.int 32]) (rv := (some (.int q8.1))) (st := []) (st1 := [.int q8.1]) (ce1 := 0) (sl1 := 0) C cv_X12_241 (c_X12_takes (x1 := 32) ho h9) rfl ho rfl rfl ⟨rfl, rfl, Nat.le_of_ble_eq_true rfl, Nat.le_of_ble_eq_true rfl⟩ ⟨Nat.le_of_ble_eq_true rfl, Nat.le_of_ble_eq_true rfl⟩ (Nat.le_of_ble_eq_true rfl) rfl rfl rfl dX12_takesClause_89 ?_
        refine v_if_eq C 103 E dX12_takesClause_92 rfl (fun c14 E => ?_) (fun c14 E => ?_)
        · refine v_iconst C dX12_takesClause_103 k_iconst_0 ?_
          obtain rfl := Option.some.inj E
          exact v_zret (v := 0) C rfl nz_0 dX12_takesClause_104
        · refine v_aload_n (r := (some o)) C 0 dX12_takesClause_95 rfl ?_
          refine v_iconst C dX12_takesClause_96 k_iconst_2 ?_
          obtain ⟨q10, h11, E⟩ := bnd E
          refine v_callV (r := (some o)) (As := [.int 2]) (rv := (some (.int q10.1))) (st := []) (st1 := [.int q10.1]) (ce1 := 0) (sl1 := 0) C cv_X12_257 (c_X12_takesNumber (x1 := 2) ho h11) rfl ho rfl rfl ⟨rfl, rfl, Nat.le_of_ble_eq_true rfl, Nat.le_of_ble_eq_true rfl⟩ ⟨Nat.le_of_ble_eq_true rfl, Nat.le_of_ble_eq_true rfl⟩ (Nat.le_of_ble_eq_true rfl) rfl rfl rfl dX12_takesClause_97 ?_
          refine v_if_ne C 105 E dX12_takesClause_100 rfl (fun c13 E => ?_) (fun c13 E => ?_)
          · refine v_iconst C dX12_takesClause_103 k_iconst_0 ?_
            obtain rfl := Option.some.inj E
            exact v_zret (v := 0) C rfl nz_0 dX12_takesClause_104
          · refine v_aload_n (r := (some o)) C 0 dX12_takesClause_105 rfl ?_
            refine v_getR (r := (some o)) C fa_X12_38 rfl rfl ho dX12_takesClause_106 ?_
            refine v_iload_n C 1 dX12_takesClause_109 rfl ?_
            refine v_aload_n (r := (some o)) C 0 dX12_takesClause_110 rfl ?_
            refine v_getI (r := (some o)) C fa_X12_22 rfl rfl ho dX12_takesClause_111 ?_
            refine v_iast (r := (R o 9)) C E dX12_takesClause_114 (fun I12 _ E => ?_)
            refine v_iconst C dX12_takesClause_115 k_iconst_1 ?_
            obtain rfl := Option.some.inj E
            exact v_zret (v := 1) C rfl nz_1 dX12_takesClause_116
      · refine v_iconst C dX12_takesClause_84 k_iconst_1 ?_
        obtain rfl := Option.some.inj E
        exact v_zret (v := 1) C rfl nz_1 dX12_takesClause_85
set_option maxHeartbeats 4000000 in
theorem w_X12_takesClause_0 (C : Cx D cA bs Z p s m args meth c cX12_takesClause RX12 2 (some .boolean)) {o : Nat} {K : Sh} {n : Nat} {J : Jm} {R : Rf} (ho : (K o).1 = 13) (res : Int32 × Im) (x1 : Int32) (I : Im) (E : f_X12_takesClause K R o x1 I = some res) : VW D cA bs Z p l e rX12_takesClause s m args below meth c 2 [(0, va_rf (some o)), (1, .int x1)] K n I J R 0 0 (MQ below (QX D cA bs Z (some (.int res.1)) K n res.2 J R) args s 0 0 (fun q => bs ≤ q)) 0 [] := by
  unfold f_X12_takesClause at E
  refine v_aload_n (r := (some o)) C 0 dX12_takesClause_0 rfl ?_
  refine v_iload_n C 1 dX12_takesClause_1 rfl ?_
  obtain ⟨q24, h25, E⟩ := bnd E
  refine v_callV (r := (some o)) (As := [.int x1]) (rv := (some (.int q24.1))) (st := []) (st1 := [.int q24.1]) (ce1 := 0) (sl1 := 0) C cv_X12_281 (c_X12_takesHead (x1 := x1) ho h25) rfl ho rfl rfl ⟨rfl, rfl, Nat.le_of_ble_eq_true rfl, Nat.le_of_ble_eq_true rfl⟩ ⟨Nat.le_of_ble_eq_true rfl, Nat.le_of_ble_eq_true rfl⟩ (Nat.le_of_ble_eq_true rfl) rfl rfl rfl dX12_takesClause_2 ?_
  refine v_if_eq C 30 E dX12_takesClause_5 rfl (fun c28 E => ?_) (fun c28 E => ?_)
  · refine v_iconst C dX12_takesClause_30 k_iconst_0 ?_
    obtain rfl := Option.some.inj E
    exact v_zret (v := 0) C rfl nz_0 dX12_takesClause_31
  · refine v_aload_n (r := (some o)) C 0 dX12_takesClause_8 rfl ?_
    refine v_aload_n (r := (some o)) C 0 dX12_takesClause_9 rfl ?_
    refine v_getR (r := (some o)) C fa_X12_32 rfl rfl ho dX12_takesClause_10 ?_
    refine v_iload_n C 1 dX12_takesClause_13 rfl ?_
    refine v_iald (r := (R o 7)) C E dX12_takesClause_14 (fun v26 _ E => ?_)
    refine v_iconst C dX12_takesClause_15 k_iconst_1 ?_
    refine v_icmp_ne C 23 E dX12_takesClause_16 rfl (fun c27 E => ?_) (fun c27 E => ?_)
    · refine v_iconst C dX12_takesClause_19 k_iconst_1 ?_
      refine v_goto C 24 dX12_takesClause_20 rfl ?_
      exact v_sub [0, 1] [(0, va_rf (some o)), (1, .int x1)] rfl (w_X12_takesClause_24 C ho res  _ _ _ _ E)
    · refine v_iconst C dX12_takesClause_23 k_iconst_2 ?_
      exact v_sub [0, 1] [(0, va_rf (some o)), (1, .int x1)] rfl (w_X12_takesClause_24 C ho res  _ _ _ _ E)
set_option maxHeartbeats 4000000 in
theorem c_X12_takesClause {n : Nat} {K : Sh} {I : Im} {J : Jm} {R : Rf} {o : Nat} {x1 : Int32} (ho : (K o).1 = 13) {res : Int32 × Im} (E : f_X12_takesClause K R o x1 I = some res) : Met l yX12_takesClause (Cond.code yX12_takesClause cX12_takesClause 2 (some .boolean) :: tb) rX12_takesClause (PX D cA bs Z [.ref o, .int x1] K n I J R) (QX D cA bs Z (some (.int res.1)) K n res.2 J R) 0 0 (fun q => bs ≤ q) := by
  refine met_of (lv1 := [(0, va_rf (some o)), (1, .int x1)]) pn_X12 (by exact Nat.le_of_ble_eq_true rfl) (by rfl) ?_
  intro p e s m args below meth c C hn
  exact v_sub [0, 1] [(0, va_rf (some o)), (1, .int x1)] rfl (w_X12_takesClause_0 C ho _ _ _ E)
set_option maxHeartbeats 4000000 in
theorem w_X12_goesText_15 (C : Cx D cA bs Z p s m args meth c cX12_goesText RX12 3 (some .boolean)) {o : Nat} {K : Sh} {n : Nat} {J : Jm} {R : Rf} (ho : (K o).1 = 13) (res : Int32 × Im)  : ∀ (k : Nat), ∀ (x1 : Int32) (x2 : Int32) (I : Im), f_X12_goesText_15 K R o k x1 x2 I = some res → VW D cA bs Z p l e rX12_goesText s m args below meth c 3 [(0, va_rf (some o)), (1, .int x1), (2, .int x2)] K n I J R 0 0 (MQ below (QX D cA bs Z (some (.int res.1)) K n res.2 J R) args s 0 0 (fun q => bs ≤ q)) 15 [] := by
  intro k
  induction k with
  | zero =>
    intro x1 x2 I E
    have E : (none : Option (Int32 × Im)) = some res := E
    cases E
  | succ k ih =>
    intro x1 x2 I E
    unfold f_X12_goesText_15 at E
    refine v_aload_n (r := (some o)) C 0 dX12_goesText_15 rfl ?_
    refine v_bipush C dX12_goesText_16 k_bipush_12 ?_
    refine v_iload_n C 1 dX12_goesText_18 rfl ?_
    refine v_imul C dX12_goesText_19 ?_
    refine v_iload_n C 2 dX12_goesText_20 rfl ?_
    refine v_iadd C dX12_goesText_21 ?_
    obtain ⟨q1, h2, E⟩ := bnd E
    refine v_callV (r := (some o)) (As := [.int ((12 * x1) + x2)]) (rv := (some (.int q1.1))) (st := []) (st1 := [.int q1.1]) (ce1 := 0) (sl1 := 0) C cv_X12_287 (c_X12_takesClause (x1 := ((12 * x1) + x2)) ho h2) rfl ho rfl rfl ⟨rfl, rfl, Nat.le_of_ble_eq_true rfl, Nat.le_of_ble_eq_true rfl⟩ ⟨Nat.le_of_ble_eq_true rfl, Nat.le_of_ble_eq_true rfl⟩ (Nat.le_of_ble_eq_true rfl) rfl rfl rfl dX12_goesText_22 ?_
    refine v_if_ne C 30 E dX12_goesText_25 rfl (fun c9 E => ?_) (fun c9 E => ?_)
    · refine v_iconst C dX12_goesText_28 k_iconst_0 ?_
      obtain rfl := Option.some.inj E
      exact v_zret (v := 0) C rfl nz_0 dX12_goesText_29
    · refine v_iinc (v := x2 + 1) C 2 [(2, .int (x2 + 1)), (0, va_rf (some o)), (1, .int x1)] dX12_goesText_30 rfl (k_inc_1 _) (Nat.le_of_ble_eq_true rfl) rfl ?_
      refine v_aload_n (r := (some o)) C 1 dX12_goesText_33 rfl ?_
      refine v_getR (r := (some o)) C fa_X12_29 rfl rfl ho dX12_goesText_34 ?_
      refine v_iload_n C 2 dX12_goesText_37 rfl ?_
      refine v_iload_n C 0 dX12_goesText_38 rfl ?_
      refine v_iast (r := (R o 6)) C E dX12_goesText_39 (fun I3 _ E => ?_)
      refine v_aload_n (r := (some o)) C 1 dX12_goesText_40 rfl ?_
      refine v_getI (r := (some o)) C fa_X12_19 rfl rfl ho dX12_goesText_41 ?_
      refine v_aload_n (r := (some o)) C 1 dX12_goesText_44 rfl ?_
      refine v_getI (r := (some o)) C fa_X12_16 rfl rfl ho dX12_goesText_45 ?_
      refine v_icmp_ne C 53 E dX12_goesText_48 rfl (fun c8 E => ?_) (fun c8 E => ?_)
      · refine v_iconst C dX12_goesText_51 k_iconst_1 ?_
        obtain rfl := Option.some.inj E
        exact v_zret (v := 1) C rfl nz_1 dX12_goesText_52
      · refine v_iload_n C 0 dX12_goesText_53 rfl ?_
        refine v_bipush C dX12_goesText_54 k_bipush_12 ?_
        refine v_icmp_eq C 68 E dX12_goesText_56 rfl (fun c7 E => ?_) (fun c7 E => ?_)
        · refine v_iconst C dX12_goesText_68 k_iconst_0 ?_
          obtain rfl := Option.some.inj E
          exact v_zret (v := 0) C rfl nz_0 dX12_goesText_69
        · refine v_aload_n (r := (some o)) C 1 dX12_goesText_59 rfl ?_
          refine v_bipush C dX12_goesText_60 k_bipush_59 ?_
          obtain ⟨q4, h5, E⟩ := bnd E
          refine v_callV (r := (some o)) (As := [.int 59]) (rv := (some (.int q4.1))) (st := []) (st1 := [.int q4.1]) (ce1 := 0) (sl1 := 0) C cv_X12_241 (c_X12_takes (x1 := 59) ho h5) rfl ho rfl rfl ⟨rfl, rfl, Nat.le_of_ble_eq_true rfl, Nat.le_of_ble_eq_true rfl⟩ ⟨Nat.le_of_ble_eq_true rfl, Nat.le_of_ble_eq_true rfl⟩ (Nat.le_of_ble_eq_true rfl) rfl rfl rfl dX12_goesText_62 ?_
          refine v_if_ne C 15 E dX12_goesText_65 rfl (fun c6 E => ?_) (fun c6 E => ?_)
          · refine v_iconst C dX12_goesText_68 k_iconst_0 ?_
            obtain rfl := Option.some.inj E
            exact v_zret (v := 0) C rfl nz_0 dX12_goesText_69
          · exact v_sub [1, 2, 0] [(0, va_rf (some o)), (1, .int x1), (2, .int (x2 + 1))] rfl (ih _ _ _ E)
set_option maxHeartbeats 4000000 in
theorem w_X12_goesText_0 (C : Cx D cA bs Z p s m args meth c cX12_goesText RX12 3 (some .boolean)) {o : Nat} {K : Sh} {n : Nat} {J : Jm} {R : Rf} (ho : (K o).1 = 13) (res : Int32 × Im) (x1 : Int32) (I : Im) (E : f_X12_goesText K R o x1 I = some res) : VW D cA bs Z p l e rX12_goesText s m args below meth c 3 [(0, va_rf (some o)), (1, .int x1)] K n I J R 0 0 (MQ below (QX D cA bs Z (some (.int res.1)) K n res.2 J R) args s 0 0 (fun q => bs ≤ q)) 0 [] := by
  unfold f_X12_goesText at E
  refine v_aload_n (r := (some o)) C 0 dX12_goesText_0 rfl ?_
  refine v_iconst C dX12_goesText_1 k_iconst_0 ?_
  refine v_putI (r := (some o)) C fa_X12_19 rfl E rfl ho ⟨rfl, rfl⟩ dX12_goesText_2 (fun I10 _ E => ?_)
  refine v_aload_n (r := (some o)) C 0 dX12_goesText_5 rfl ?_
  refine v_bipush C dX12_goesText_6 k_bipush_100 ?_
  refine v_iload_n C 1 dX12_goesText_8 rfl ?_
  refine v_imul C dX12_goesText_9 ?_
  refine v_putI (r := (some o)) C fa_X12_53 rfl E rfl ho ⟨rfl, rfl⟩ dX12_goesText_10 (fun I11 _ E => ?_)
  refine v_iconst C dX12_goesText_13 k_iconst_0 ?_
  refine v_istore_n C [(2, .int 0), (0, va_rf (some o)), (1, .int x1)] dX12_goesText_14 (Nat.le_of_ble_eq_true rfl) rfl ?_
  exact v_sub [1, 2, 0] [(0, va_rf (some o)), (1, .int x1), (2, .int 0)] rfl (w_X12_goesText_15 C ho res  _ _ _ _ E)
set_option maxHeartbeats 4000000 in
theorem c_X12_goesText {n : Nat} {K : Sh} {I : Im} {J : Jm} {R : Rf} {o : Nat} {x1 : Int32} (ho : (K o).1 = 13) {res : Int32 × Im} (E : f_X12_goesText K R o x1 I = some res) : Met l yX12_goesText (Cond.code yX12_goesText cX12_goesText 3 (some .boolean) :: tb) rX12_goesText (PX D cA bs Z [.ref o, .int x1] K n I J R) (QX D cA bs Z (some (.int res.1)) K n res.2 J R) 0 0 (fun q => bs ≤ q) := by
  refine met_of (lv1 := [(0, va_rf (some o)), (1, .int x1)]) pn_X12 (by exact Nat.le_of_ble_eq_true rfl) (by rfl) ?_
  intro p e s m args below meth c C hn
  exact v_sub [0, 1] [(0, va_rf (some o)), (1, .int x1)] rfl (w_X12_goesText_0 C ho _ _ _ E)
set_option maxHeartbeats 4000000 in
theorem w_X12_first_0 (C : Cx D cA bs Z p s m args meth c cX12_first RX12 1 (some .int)) {o : Nat} {K : Sh} {n : Nat} {I : Im} {J : Jm} {R : Rf} (ho : (K o).1 = 13) (res : Int32)  (E : f_X12_first K I o  = some res) : VW D cA bs Z p l e rX12_first s m args below meth c 1 [(0, va_rf (some o))] K n I J R 0 0 (MQ below (QX D cA bs Z (some (.int res)) K n I J R) args s 0 0 (fun q => bs ≤ q)) 0 [] := by
  unfold f_X12_first at E
  refine v_aload_n (r := (some o)) C 0 dX12_first_0 rfl ?_
  refine v_getI (r := (some o)) C fa_X12_13 rfl rfl ho dX12_first_1 ?_
  refine v_if_ge C 11 E dX12_first_4 rfl (fun c1 E => ?_) (fun c1 E => ?_)
  · refine v_bipush C dX12_first_11 k_bipush_12 ?_
    refine v_aload_n (r := (some o)) C 0 dX12_first_13 rfl ?_
    refine v_getI (r := (some o)) C fa_X12_13 rfl rfl ho dX12_first_14 ?_
    refine v_imul C dX12_first_17 ?_
    obtain rfl := Option.some.inj E
    exact v_iret C rfl dX12_first_18
  · refine v_iconst C dX12_first_7 k_iconst_0 ?_
    refine v_goto C 18 dX12_first_8 rfl ?_
    obtain rfl := Option.some.inj E
    exact v_iret C rfl dX12_first_18
set_option maxHeartbeats 4000000 in
theorem c_X12_first {n : Nat} {K : Sh} {I : Im} {J : Jm} {R : Rf} {o : Nat}  (ho : (K o).1 = 13) {res : Int32} (E : f_X12_first K I o = some res) : Met l yX12_first (Cond.code yX12_first cX12_first 1 (some .int) :: tb) rX12_first (PX D cA bs Z [.ref o] K n I J R) (QX D cA bs Z (some (.int res)) K n I J R) 0 0 (fun q => bs ≤ q) := by
  refine met_of (lv1 := [(0, va_rf (some o))]) pn_X12 (by exact Nat.le_of_ble_eq_true rfl) (by rfl) ?_
  intro p e s m args below meth c C hn
  exact v_sub [0] [(0, va_rf (some o))] rfl (w_X12_first_0 C ho _  E)
set_option maxHeartbeats 4000000 in
theorem w_X12_behind_0 (C : Cx D cA bs Z p s m args meth c cX12_behind RX12 1 (some .int)) {o : Nat} {K : Sh} {n : Nat} {I : Im} {J : Jm} {R : Rf} (ho : (K o).1 = 13) (res : Int32)  (E : f_X12_behind K I R o  = some res) : VW D cA bs Z p l e rX12_behind s m args below meth c 1 [(0, va_rf (some o))] K n I J R 0 0 (MQ below (QX D cA bs Z (some (.int res)) K n I J R) args s 0 0 (fun q => bs ≤ q)) 0 [] := by
  unfold f_X12_behind at E
  refine v_aload_n (r := (some o)) C 0 dX12_behind_0 rfl ?_
  refine v_getI (r := (some o)) C fa_X12_13 rfl rfl ho dX12_behind_1 ?_
  refine v_if_ge C 11 E dX12_behind_4 rfl (fun c2 E => ?_) (fun c2 E => ?_)
  · refine v_bipush C dX12_behind_11 k_bipush_12 ?_
    refine v_aload_n (r := (some o)) C 0 dX12_behind_13 rfl ?_
    refine v_getI (r := (some o)) C fa_X12_13 rfl rfl ho dX12_behind_14 ?_
    refine v_imul C dX12_behind_17 ?_
    refine v_aload_n (r := (some o)) C 0 dX12_behind_18 rfl ?_
    refine v_getR (r := (some o)) C fa_X12_29 rfl rfl ho dX12_behind_19 ?_
    refine v_aload_n (r := (some o)) C 0 dX12_behind_22 rfl ?_
    refine v_getI (r := (some o)) C fa_X12_13 rfl rfl ho dX12_behind_23 ?_
    refine v_iald (r := (R o 6)) C E dX12_behind_26 (fun v1 _ E => ?_)
    refine v_iadd C dX12_behind_27 ?_
    obtain rfl := Option.some.inj E
    exact v_iret C rfl dX12_behind_28
  · refine v_iconst C dX12_behind_7 k_iconst_0 ?_
    refine v_goto C 28 dX12_behind_8 rfl ?_
    obtain rfl := Option.some.inj E
    exact v_iret C rfl dX12_behind_28
set_option maxHeartbeats 4000000 in
theorem c_X12_behind {n : Nat} {K : Sh} {I : Im} {J : Jm} {R : Rf} {o : Nat}  (ho : (K o).1 = 13) {res : Int32} (E : f_X12_behind K I R o = some res) : Met l yX12_behind (Cond.code yX12_behind cX12_behind 1 (some .int) :: tb) rX12_behind (PX D cA bs Z [.ref o] K n I J R) (QX D cA bs Z (some (.int res)) K n I J R) 0 0 (fun q => bs ≤ q) := by
  refine met_of (lv1 := [(0, va_rf (some o))]) pn_X12 (by exact Nat.le_of_ble_eq_true rfl) (by rfl) ?_
  intro p e s m args below meth c C hn
  exact v_sub [0] [(0, va_rf (some o))] rfl (w_X12_behind_0 C ho _  E)
set_option maxHeartbeats 4000000 in
theorem w_X12_lay_139 (C : Cx D cA bs Z p s m args meth c cX12_lay RX12 3 none) {o : Nat} {K : Sh} {n : Nat} {J : Jm} {R : Rf} (ho : (K o).1 = 13) (res : Im) (r33 : Int32 → Int32 → Im → Option (Im)) (hr33 : ∀ (x1 : Int32) (x2 : Int32) (I : Im), r33 x1 x2 I = some res → VW D cA bs Z p l e rX12_lay s m args below meth c 3 [(0, va_rf (some o)), (1, .int x1), (2, .int x2)] K n I J R 0 0 (MQ below (QX D cA bs Z none K n res J R) args s 0 0 (fun q => bs ≤ q)) 33 []) (x1 : Int32) (x2 : Int32) (s0 : Option Nat) (s1 : Int32) (s2 : Int32) (I : Im) (E : f_X12_lay_139 K R o r33 x1 x2 s0 s1 s2 I = some res) : VW D cA bs Z p l e rX12_lay s m args below meth c 3 [(0, va_rf (some o)), (1, .int x1), (2, .int x2)] K n I J R 0 0 (MQ below (QX D cA bs Z none K n res J R) args s 0 0 (fun q => bs ≤ q)) 139 [.int s2, .int s1, va_rf s0] := by
  unfold f_X12_lay_139 at E
  refine v_iast (r := s0) C E dX12_lay_139 (fun I1 _ E => ?_)
  refine v_iinc (v := x1 + 1) C 1 [(1, .int (x1 + 1)), (0, va_rf (some o)), (2, .int x2)] dX12_lay_140 rfl (k_inc_1 _) (Nat.le_of_ble_eq_true rfl) rfl ?_
  refine v_iinc (v := x2 + 1) C 2 [(2, .int (x2 + 1)), (1, .int (x1 + 1)), (0, va_rf (some o))] dX12_lay_143 rfl (k_inc_1 _) (Nat.le_of_ble_eq_true rfl) rfl ?_
  refine v_goto C 33 dX12_lay_146 rfl ?_
  exact v_sub [2, 1, 0] [(0, va_rf (some o)), (1, .int (x1 + 1)), (2, .int (x2 + 1))] rfl (hr33 _ _ _ E)
set_option maxHeartbeats 4000000 in
theorem w_X12_lay_98 (C : Cx D cA bs Z p s m args meth c cX12_lay RX12 3 none) {o : Nat} {K : Sh} {n : Nat} {J : Jm} {R : Rf} (ho : (K o).1 = 13) (res : Im) (r33 : Int32 → Int32 → Im → Option (Im)) (hr33 : ∀ (x1 : Int32) (x2 : Int32) (I : Im), r33 x1 x2 I = some res → VW D cA bs Z p l e rX12_lay s m args below meth c 3 [(0, va_rf (some o)), (1, .int x1), (2, .int x2)] K n I J R 0 0 (MQ below (QX D cA bs Z none K n res J R) args s 0 0 (fun q => bs ≤ q)) 33 []) (x1 : Int32) (x2 : Int32) (I : Im) (E : f_X12_lay_98 K R o r33 x1 x2 I = some res) : VW D cA bs Z p l e rX12_lay s m args below meth c 3 [(0, va_rf (some o)), (1, .int x1), (2, .int x2)] K n I J R 0 0 (MQ below (QX D cA bs Z none K n res J R) args s 0 0 (fun q => bs ≤ q)) 98 [] := by
  unfold f_X12_lay_98 at E
  refine v_aload_n (r := (some o)) C 0 dX12_lay_98 rfl ?_
  refine v_getR (r := (some o)) C fa_X12_32 rfl rfl ho dX12_lay_99 ?_
  refine v_iload_n C 2 dX12_lay_102 rfl ?_
  refine v_iald (r := (R o 7)) C E dX12_lay_103 (fun v2 _ E => ?_)
  refine v_iconst C dX12_lay_104 k_iconst_1 ?_
  refine v_icmp_ne C 143 E dX12_lay_105 rfl (fun c7 E => ?_) (fun c7 E => ?_)
  · refine v_iload_n C 1 dX12_lay_108 rfl ?_
    refine v_bipush C dX12_lay_109 k_bipush_6 ?_
    refine v_icmp_ge C 143 E dX12_lay_111 rfl (fun c6 E => ?_) (fun c6 E => ?_)
    · refine v_iinc (v := x2 + 1) C 2 [(2, .int (x2 + 1)), (0, va_rf (some o)), (1, .int x1)] dX12_lay_143 rfl (k_inc_1 _) (Nat.le_of_ble_eq_true rfl) rfl ?_
      refine v_goto C 33 dX12_lay_146 rfl ?_
      exact v_sub [1, 2, 0] [(0, va_rf (some o)), (1, .int x1), (2, .int (x2 + 1))] rfl (hr33 _ _ _ E)
    · refine v_aload_n (r := (some o)) C 0 dX12_lay_114 rfl ?_
      refine v_getR (r := (some o)) C fa_X12_84 rfl rfl ho dX12_lay_115 ?_
      refine v_iload_n C 1 dX12_lay_118 rfl ?_
      refine v_aload_n (r := (some o)) C 0 dX12_lay_119 rfl ?_
      refine v_getR (r := (some o)) C fa_X12_35 rfl rfl ho dX12_lay_120 ?_
      refine v_iload_n C 2 dX12_lay_123 rfl ?_
      refine v_iald (r := (R o 8)) C E dX12_lay_124 (fun v3 _ E => ?_)
      refine v_iconst C dX12_lay_125 k_iconst_1 ?_
      refine v_icmp_ge C 133 E dX12_lay_126 rfl (fun c5 E => ?_) (fun c5 E => ?_)
      · refine v_aload_n (r := (some o)) C 0 dX12_lay_133 rfl ?_
        refine v_getR (r := (some o)) C fa_X12_35 rfl rfl ho dX12_lay_134 ?_
        refine v_iload_n C 2 dX12_lay_137 rfl ?_
        refine v_iald (r := (R o 8)) C E dX12_lay_138 (fun v4 _ E => ?_)
        exact v_sub [0, 1, 2] [(0, va_rf (some o)), (1, .int x1), (2, .int x2)] rfl (w_X12_lay_139 C ho res _ hr33 _ _ _ _ _ _ E)
      · refine v_iconst C dX12_lay_129 k_iconst_1 ?_
        refine v_goto C 139 dX12_lay_130 rfl ?_
        exact v_sub [0, 1, 2] [(0, va_rf (some o)), (1, .int x1), (2, .int x2)] rfl (w_X12_lay_139 C ho res _ hr33 _ _ _ _ _ _ E)
  · refine v_iinc (v := x2 + 1) C 2 [(2, .int (x2 + 1)), (0, va_rf (some o)), (1, .int x1)] dX12_lay_143 rfl (k_inc_1 _) (Nat.le_of_ble_eq_true rfl) rfl ?_
    refine v_goto C 33 dX12_lay_146 rfl ?_
    exact v_sub [1, 2, 0] [(0, va_rf (some o)), (1, .int x1), (2, .int (x2 + 1))] rfl (hr33 _ _ _ E)
set_option maxHeartbeats 4000000 in
theorem w_X12_lay_151 (C : Cx D cA bs Z p s m args meth c cX12_lay RX12 3 none) {o : Nat} {K : Sh} {n : Nat} {J : Jm} {R : Rf} (ho : (K o).1 = 13) (res : Im)  : ∀ (k : Nat), ∀ (x2 : Int32) (I : Im), f_X12_lay_151 K R o k x2 I = some res → VW D cA bs Z p l e rX12_lay s m args below meth c 3 [(0, va_rf (some o)), (2, .int x2)] K n I J R 0 0 (MQ below (QX D cA bs Z none K n res J R) args s 0 0 (fun q => bs ≤ q)) 151 [] := by
  intro k
  induction k with
  | zero =>
    intro x2 I E
    have E : (none : Option (Im)) = some res := E
    cases E
  | succ k ih =>
    intro x2 I E
    unfold f_X12_lay_151 at E
    refine v_iload_n C 1 dX12_lay_151 rfl ?_
    refine v_aload_n (r := (some o)) C 0 dX12_lay_152 rfl ?_
    refine v_getI (r := (some o)) C fa_X12_75 rfl rfl ho dX12_lay_153 ?_
    refine v_icmp_ge C 189 E dX12_lay_156 rfl (fun c12 E => ?_) (fun c12 E => ?_)
    · obtain rfl := Option.some.inj E
      exact v_vret C rfl dX12_lay_189
    · refine v_aload_n (r := (some o)) C 0 dX12_lay_159 rfl ?_
      refine v_getR (r := (some o)) C fa_X12_87 rfl rfl ho dX12_lay_160 ?_
      refine v_iload_n C 1 dX12_lay_163 rfl ?_
      refine v_aload_n (r := (some o)) C 0 dX12_lay_164 rfl ?_
      refine v_getR (r := (some o)) C fa_X12_66 rfl rfl ho dX12_lay_165 ?_
      refine v_iload_n C 1 dX12_lay_168 rfl ?_
      refine v_iald (r := (R o 18)) C E dX12_lay_169 (fun v8 _ E => ?_)
      refine v_iast (r := (R o 25)) C E dX12_lay_170 (fun I9 _ E => ?_)
      refine v_aload_n (r := (some o)) C 0 dX12_lay_171 rfl ?_
      refine v_getR (r := (some o)) C fa_X12_90 rfl rfl ho dX12_lay_172 ?_
      refine v_iload_n C 1 dX12_lay_175 rfl ?_
      refine v_aload_n (r := (some o)) C 0 dX12_lay_176 rfl ?_
      refine v_getR (r := (some o)) C fa_X12_69 rfl rfl ho dX12_lay_177 ?_
      refine v_iload_n C 1 dX12_lay_180 rfl ?_
      refine v_iald (r := (R o 19)) C E dX12_lay_181 (fun v10 _ E => ?_)
      refine v_iast (r := (R o 26)) C E dX12_lay_182 (fun I11 _ E => ?_)
      refine v_iinc (v := x2 + 1) C 1 [(2, .int (x2 + 1)), (0, va_rf (some o))] dX12_lay_183 rfl (k_inc_1 _) (Nat.le_of_ble_eq_true rfl) rfl ?_
      refine v_goto C 151 dX12_lay_186 rfl ?_
      exact v_sub [1, 0] [(0, va_rf (some o)), (2, .int (x2 + 1))] rfl (ih _ _ E)
set_option maxHeartbeats 4000000 in
theorem w_X12_lay_33 (C : Cx D cA bs Z p s m args meth c cX12_lay RX12 3 none) {o : Nat} {K : Sh} {n : Nat} {J : Jm} {R : Rf} (ho : (K o).1 = 13) (res : Im)  : ∀ (k : Nat), ∀ (x1 : Int32) (x2 : Int32) (I : Im), f_X12_lay_33 K R o k x1 x2 I = some res → VW D cA bs Z p l e rX12_lay s m args below meth c 3 [(0, va_rf (some o)), (1, .int x1), (2, .int x2)] K n I J R 0 0 (MQ below (QX D cA bs Z none K n res J R) args s 0 0 (fun q => bs ≤ q)) 33 [] := by
  intro k
  induction k with
  | zero =>
    intro x1 x2 I E
    have E : (none : Option (Im)) = some res := E
    cases E
  | succ k ih =>
    intro x1 x2 I E
    unfold f_X12_lay_33 at E
    refine v_iload_n C 2 dX12_lay_33 rfl ?_
    refine v_aload_n (r := (some o)) C 0 dX12_lay_34 rfl ?_
    obtain ⟨q13, h14, E⟩ := bnd E
    refine v_callV (r := (some o)) (As := []) (rv := (some (.int q13))) (st := [.int x2]) (st1 := [.int q13, .int x2]) (ce1 := 0) (sl1 := 0) C cv_X12_299 (c_X12_behind  ho h14) rfl ho rfl rfl ⟨rfl, rfl, Nat.le_of_ble_eq_true rfl, Nat.le_of_ble_eq_true rfl⟩ ⟨Nat.le_of_ble_eq_true rfl, Nat.le_of_ble_eq_true rfl⟩ (Nat.le_of_ble_eq_true rfl) rfl rfl rfl dX12_lay_35 ?_
    refine v_icmp_ge C 149 E dX12_lay_38 rfl (fun c23 E => ?_) (fun c23 E => ?_)
    · refine v_iconst C dX12_lay_149 k_iconst_0 ?_
      refine v_istore_n C [(2, .int 0), (0, va_rf (some o)), (1, .int x1)] dX12_lay_150 (Nat.le_of_ble_eq_true rfl) rfl ?_
      exact v_sub [1, 0] [(0, va_rf (some o)), (2, .int 0)] rfl (w_X12_lay_151 C ho res  _ _ _ E)
    · refine v_aload_n (r := (some o)) C 0 dX12_lay_41 rfl ?_
      refine v_getR (r := (some o)) C fa_X12_32 rfl rfl ho dX12_lay_42 ?_
      refine v_iload_n C 2 dX12_lay_45 rfl ?_
      refine v_iald (r := (R o 7)) C E dX12_lay_46 (fun v15 _ E => ?_)
      refine v_if_ne C 98 E dX12_lay_47 rfl (fun c22 E => ?_) (fun c22 E => ?_)
      · refine v_aload_n (r := (some o)) C 0 dX12_lay_50 rfl ?_
        refine v_getI (r := (some o)) C fa_X12_75 rfl rfl ho dX12_lay_51 ?_
        refine v_iconst C dX12_lay_54 k_iconst_5 ?_
        refine v_icmp_ge C 98 E dX12_lay_55 rfl (fun c21 E => ?_) (fun c21 E => ?_)
        · exact v_sub [0, 1, 2] [(0, va_rf (some o)), (1, .int x1), (2, .int x2)] rfl (w_X12_lay_98 C ho res _ ih _ _ _ E)
        · refine v_aload_n (r := (some o)) C 0 dX12_lay_58 rfl ?_
          refine v_getR (r := (some o)) C fa_X12_78 rfl rfl ho dX12_lay_59 ?_
          refine v_aload_n (r := (some o)) C 0 dX12_lay_62 rfl ?_
          refine v_getI (r := (some o)) C fa_X12_75 rfl rfl ho dX12_lay_63 ?_
          refine v_aload_n (r := (some o)) C 0 dX12_lay_66 rfl ?_
          refine v_getR (r := (some o)) C fa_X12_35 rfl rfl ho dX12_lay_67 ?_
          refine v_iload_n C 2 dX12_lay_70 rfl ?_
          refine v_iald (r := (R o 8)) C E dX12_lay_71 (fun v16 _ E => ?_)
          refine v_iast (r := (R o 22)) C E dX12_lay_72 (fun I17 _ E => ?_)
          refine v_aload_n (r := (some o)) C 0 dX12_lay_73 rfl ?_
          refine v_getR (r := (some o)) C fa_X12_81 rfl rfl ho dX12_lay_74 ?_
          refine v_aload_n (r := (some o)) C 0 dX12_lay_77 rfl ?_
          refine v_getI (r := (some o)) C fa_X12_75 rfl rfl ho dX12_lay_78 ?_
          refine v_aload_n (r := (some o)) C 0 dX12_lay_81 rfl ?_
          refine v_getR (r := (some o)) C fa_X12_38 rfl rfl ho dX12_lay_82 ?_
          refine v_iload_n C 2 dX12_lay_85 rfl ?_
          refine v_iald (r := (R o 9)) C E dX12_lay_86 (fun v18 _ E => ?_)
          refine v_iast (r := (R o 23)) C E dX12_lay_87 (fun I19 _ E => ?_)
          refine v_aload_n (r := (some o)) C 0 dX12_lay_88 rfl ?_
          refine v_dup C dX12_lay_89 (rf_cat _) ?_
          refine v_getI (r := (some o)) C fa_X12_75 rfl rfl ho dX12_lay_90 ?_
          refine v_iconst C dX12_lay_93 k_iconst_1 ?_
          refine v_iadd C dX12_lay_94 ?_
          refine v_putI (r := (some o)) C fa_X12_75 rfl E rfl ho ⟨rfl, rfl⟩ dX12_lay_95 (fun I20 _ E => ?_)
          exact v_sub [0, 1, 2] [(0, va_rf (some o)), (1, .int x1), (2, .int x2)] rfl (w_X12_lay_98 C ho res _ ih _ _ _ E)
      · exact v_sub [0, 1, 2] [(0, va_rf (some o)), (1, .int x1), (2, .int x2)] rfl (w_X12_lay_98 C ho res _ ih _ _ _ E)
set_option maxHeartbeats 4000000 in
theorem w_X12_lay_9 (C : Cx D cA bs Z p s m args meth c cX12_lay RX12 3 none) {o : Nat} {K : Sh} {n : Nat} {J : Jm} {R : Rf} (ho : (K o).1 = 13) (res : Im)  : ∀ (k : Nat), ∀ (x1 : Int32) (x2 : Int32) (I : Im), f_X12_lay_9 K R o k x1 x2 I = some res → VW D cA bs Z p l e rX12_lay s m args below meth c 3 [(0, va_rf (some o)), (1, .int x1), (2, .int x2)] K n I J R 0 0 (MQ below (QX D cA bs Z none K n res J R) args s 0 0 (fun q => bs ≤ q)) 9 [] := by
  intro k
  induction k with
  | zero =>
    intro x1 x2 I E
    have E : (none : Option (Im)) = some res := E
    cases E
  | succ k ih =>
    intro x1 x2 I E
    unfold f_X12_lay_9 at E
    refine v_iload_n C 2 dX12_lay_9 rfl ?_
    refine v_bipush C dX12_lay_10 k_bipush_7 ?_
    refine v_icmp_ge C 28 E dX12_lay_12 rfl (fun c27 E => ?_) (fun c27 E => ?_)
    · refine v_aload_n (r := (some o)) C 0 dX12_lay_28 rfl ?_
      obtain ⟨q24, h25, E⟩ := bnd E
      refine v_callV (r := (some o)) (As := []) (rv := (some (.int q24))) (st := []) (st1 := [.int q24]) (ce1 := 0) (sl1 := 0) C cv_X12_296 (c_X12_first  ho h25) rfl ho rfl rfl ⟨rfl, rfl, Nat.le_of_ble_eq_true rfl, Nat.le_of_ble_eq_true rfl⟩ ⟨Nat.le_of_ble_eq_true rfl, Nat.le_of_ble_eq_true rfl⟩ (Nat.le_of_ble_eq_true rfl) rfl rfl rfl dX12_lay_29 ?_
      refine v_istore_n C [(2, .int q24), (0, va_rf (some o)), (1, .int x1)] dX12_lay_32 (Nat.le_of_ble_eq_true rfl) rfl ?_
      exact v_sub [1, 2, 0] [(0, va_rf (some o)), (1, .int x1), (2, .int q24)] rfl (w_X12_lay_33 C ho res  _ _ _ _ E)
    · refine v_aload_n (r := (some o)) C 0 dX12_lay_15 rfl ?_
      refine v_getR (r := (some o)) C fa_X12_84 rfl rfl ho dX12_lay_16 ?_
      refine v_iload_n C 2 dX12_lay_19 rfl ?_
      refine v_iconst C dX12_lay_20 k_iconst_3 ?_
      refine v_iast (r := (R o 24)) C E dX12_lay_21 (fun I26 _ E => ?_)
      refine v_iinc (v := x2 + 1) C 2 [(2, .int (x2 + 1)), (0, va_rf (some o)), (1, .int x1)] dX12_lay_22 rfl (k_inc_1 _) (Nat.le_of_ble_eq_true rfl) rfl ?_
      refine v_goto C 9 dX12_lay_25 rfl ?_
      exact v_sub [1, 2, 0] [(0, va_rf (some o)), (1, .int x1), (2, .int (x2 + 1))] rfl (ih _ _ _ E)
set_option maxHeartbeats 4000000 in
theorem w_X12_lay_0 (C : Cx D cA bs Z p s m args meth c cX12_lay RX12 3 none) {o : Nat} {K : Sh} {n : Nat} {J : Jm} {R : Rf} (ho : (K o).1 = 13) (res : Im) (I : Im) (E : f_X12_lay K R o I = some res) : VW D cA bs Z p l e rX12_lay s m args below meth c 3 [(0, va_rf (some o))] K n I J R 0 0 (MQ below (QX D cA bs Z none K n res J R) args s 0 0 (fun q => bs ≤ q)) 0 [] := by
  unfold f_X12_lay at E
  refine v_aload_n (r := (some o)) C 0 dX12_lay_0 rfl ?_
  refine v_iconst C dX12_lay_1 k_iconst_0 ?_
  refine v_putI (r := (some o)) C fa_X12_75 rfl E rfl ho ⟨rfl, rfl⟩ dX12_lay_2 (fun I28 _ E => ?_)
  refine v_iconst C dX12_lay_5 k_iconst_0 ?_
  refine v_istore_n C [(1, .int 0), (0, va_rf (some o))] dX12_lay_6 (Nat.le_of_ble_eq_true rfl) rfl ?_
  refine v_iconst C dX12_lay_7 k_iconst_0 ?_
  refine v_istore_n C [(2, .int 0), (1, .int 0), (0, va_rf (some o))] dX12_lay_8 (Nat.le_of_ble_eq_true rfl) rfl ?_
  exact v_sub [2, 1, 0] [(0, va_rf (some o)), (1, .int 0), (2, .int 0)] rfl (w_X12_lay_9 C ho res  _ _ _ _ E)
set_option maxHeartbeats 4000000 in
theorem c_X12_lay {n : Nat} {K : Sh} {I : Im} {J : Jm} {R : Rf} {o : Nat}  (ho : (K o).1 = 13) {res : Im} (E : f_X12_lay K R o I = some res) : Met l yX12_lay (Cond.code yX12_lay cX12_lay 3 none :: tb) rX12_lay (PX D cA bs Z [.ref o] K n I J R) (QX D cA bs Z none K n res J R) 0 0 (fun q => bs ≤ q) := by
  refine met_of (lv1 := [(0, va_rf (some o))]) pn_X12 (by exact Nat.le_of_ble_eq_true rfl) (by rfl) ?_
  intro p e s m args below meth c C hn
  exact v_sub [0] [(0, va_rf (some o))] rfl (w_X12_lay_0 C ho _ _ E)
end WK5
