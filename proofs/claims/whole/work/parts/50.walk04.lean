section WK4
variable {D : va_G} {cA : Nat → ClassId} {bs : Nat} {Z : Nat → Nat} {p : Program} {l : Launch} {e : Env} {s : State} {m : MethodId} {args : Array Value} {below : List Frame} {meth : Method} {c : Code}
set_option maxHeartbeats 4000000 in
theorem w_X11_would_0 (C : Cx D cA bs Z p s m args meth c cX11_would RX11 4 (some .int)) {o : Nat} {K : Sh} {n : Nat} {J : Jm} (ho : (K o).1 = 12) (res : Int32 × Im × Rf) (x1 : Int32) (x2 : Int32) (I : Im) (R : Rf) (E : f_X11_would K o x1 x2 I R = some res) : VW D cA bs Z p l e rX11_would s m args below meth c 4 [(0, va_rf (some o)), (1, .int x1), (2, .int x2)] K n I J R 0 0 (MQ below (QX D cA bs Z (some (.int res.1)) K n res.2.1 J res.2.2) args s 0 0 (fun q => bs ≤ q)) 0 [] := by
  unfold f_X11_would at E
  refine v_aload_n (r := (some o)) C 0 dX11_would_0 rfl ?_
  refine v_iload_n C 1 dX11_would_1 rfl ?_
  obtain ⟨q1, h2, E⟩ := bnd E
  refine v_callV (r := (some o)) (As := [.int x1]) (rv := (some (va_rf q1))) (st := []) (st1 := [va_rf q1]) (ce1 := 0) (sl1 := 0) C cv_X11_187 (c_X11_caravanAt (x1 := x1) ho h2) rfl ho rfl rfl ⟨rfl, rfl, Nat.le_of_ble_eq_true rfl, Nat.le_of_ble_eq_true rfl⟩ ⟨Nat.le_of_ble_eq_true rfl, Nat.le_of_ble_eq_true rfl⟩ (Nat.le_of_ble_eq_true rfl) rfl rfl rfl dX11_would_2 ?_
  refine v_astore_n (r := q1) C [(3, va_rf q1), (0, va_rf (some o)), (1, .int x1), (2, .int x2)] dX11_would_5 (Nat.le_of_ble_eq_true rfl) rfl ?_
  refine v_aload_n (r := q1) C 0 dX11_would_6 rfl ?_
  refine v_ifnull (r := q1) C 17 E dX11_would_7 rfl (fun c19 E => ?_) (fun c19 E => ?_)
  · refine v_iconst C dX11_would_17 k_iconst_m1 ?_
    obtain rfl := Option.some.inj E
    exact v_iret C rfl dX11_would_18
  · refine v_iload_n C 3 dX11_would_10 rfl ?_
    obtain ⟨q3, h4, E⟩ := bnd E
    refine v_callS (As := [.int x2]) (rv := (some (.int q3))) (st := []) (st1 := [.int q3]) (ce1 := 0) (sl1 := 0) C cs_X11_191 (c_X11_isAskedOfTrip (x0 := x2) h4) rfl rfl ⟨rfl, rfl, Nat.le_of_ble_eq_true rfl, Nat.le_of_ble_eq_true rfl⟩ ⟨Nat.le_of_ble_eq_true rfl, Nat.le_of_ble_eq_true rfl⟩ (Nat.le_of_ble_eq_true rfl) rfl rfl rfl dX11_would_11 ?_
    refine v_if_ne C 19 E dX11_would_14 rfl (fun c18 E => ?_) (fun c18 E => ?_)
    · refine v_iconst C dX11_would_17 k_iconst_m1 ?_
      obtain rfl := Option.some.inj E
      exact v_iret C rfl dX11_would_18
    · refine v_aload_n (r := (some o)) C 1 dX11_would_19 rfl ?_
      refine v_getR (r := (some o)) C fa_X11_37 rfl rfl ho dX11_would_20 ?_
      obtain ⟨a5, h6, E⟩ := bnd E
      obtain ⟨hra5, hoa5⟩ := ob_is h6
      refine v_getR (r := (R o 7)) C fa_X11_120 rfl hra5 hoa5 dX11_would_23 ?_
      refine v_ifnonnull (r := (R a5 0)) C 32 E dX11_would_26 rfl (fun c17 E => ?_) (fun c17 E => ?_)
      · refine v_bipush C dX11_would_29 k_bipush_m3 ?_
        obtain rfl := Option.some.inj E
        exact v_iret C rfl dX11_would_31
      · refine v_aload_n (r := (some o)) C 1 dX11_would_32 rfl ?_
        refine v_getR (r := (some o)) C fa_X11_81 rfl rfl ho dX11_would_33 ?_
        refine v_aload_n (r := (some o)) C 1 dX11_would_36 rfl ?_
        refine v_getR (r := (some o)) C fa_X11_37 rfl rfl ho dX11_would_37 ?_
        refine v_getR (r := (R o 7)) C fa_X11_123 rfl hra5 hoa5 dX11_would_40 ?_
        obtain ⟨a7, h8, E⟩ := bnd E
        obtain ⟨hra7, hoa7⟩ := ob_is h8
        obtain ⟨q9, h10, E⟩ := bnd E
        refine v_callV (r := (R o 15)) (As := [va_rf (R a5 1)]) (rv := none) (st := []) (st1 := []) (ce1 := 0) (sl1 := 0) C cv_X11_195 (c_X10_become (x1 := (R a5 1)) hoa7 h10) hra7 hoa7 rfl rfl ⟨rfl, rfl, Nat.le_of_ble_eq_true rfl, Nat.le_of_ble_eq_true rfl⟩ ⟨Nat.le_of_ble_eq_true rfl, Nat.le_of_ble_eq_true rfl⟩ (Nat.le_of_ble_eq_true rfl) rfl rfl rfl dX11_would_43 ?_
        refine v_aload_n (r := (some o)) C 1 dX11_would_46 rfl ?_
        refine v_aload_n (r := (some o)) C 1 dX11_would_47 rfl ?_
        refine v_getR (r := (some o)) C fa_X11_37 rfl rfl ho dX11_would_48 ?_
        refine v_getR (r := (R o 7)) C fa_X11_120 rfl hra5 hoa5 dX11_would_51 ?_
        refine v_aload_n (r := (some o)) C 1 dX11_would_54 rfl ?_
        refine v_getR (r := (some o)) C fa_X11_81 rfl rfl ho dX11_would_55 ?_
        refine v_aload_n (r := q1) C 0 dX11_would_58 rfl ?_
        obtain ⟨q11, h12, E⟩ := bnd E
        refine v_callV (r := (some o)) (As := [va_rf (R a5 0), va_rf (R o 15), va_rf q1]) (rv := none) (st := []) (st1 := []) (ce1 := 0) (sl1 := 0) C cv_X11_198 (c_X11_send (x1 := (R a5 0)) (x2 := (R o 15)) (x3 := q1) ho h12) rfl ho rfl rfl ⟨rfl, rfl, Nat.le_of_ble_eq_true rfl, Nat.le_of_ble_eq_true rfl⟩ ⟨Nat.le_of_ble_eq_true rfl, Nat.le_of_ble_eq_true rfl⟩ (Nat.le_of_ble_eq_true rfl) rfl rfl rfl dX11_would_59 ?_
        refine v_aload_n (r := (some o)) C 1 dX11_would_62 rfl ?_
        refine v_iload_n C 3 dX11_would_63 rfl ?_
        refine v_aload_n (r := q1) C 0 dX11_would_64 rfl ?_
        obtain ⟨a13, h14, E⟩ := bnd E
        obtain ⟨hra13, hoa13⟩ := ob_is h14
        refine v_getI (r := q1) C fa_X11_202 rfl hra13 hoa13 dX11_would_65 ?_
        obtain ⟨q15, h16, E⟩ := bnd E
        refine v_callV (r := (some o)) (As := [.int x2, .int (q11.1 a13 0)]) (rv := (some (.int q15))) (st := []) (st1 := [.int q15]) (ce1 := 0) (sl1 := 0) C cv_X11_205 (c_X11_tellTrip (x1 := x2) (x2 := (q11.1 a13 0)) ho h16) rfl ho rfl rfl ⟨rfl, rfl, Nat.le_of_ble_eq_true rfl, Nat.le_of_ble_eq_true rfl⟩ ⟨Nat.le_of_ble_eq_true rfl, Nat.le_of_ble_eq_true rfl⟩ (Nat.le_of_ble_eq_true rfl) rfl rfl rfl dX11_would_68 ?_
        obtain rfl := Option.some.inj E
        exact v_iret C rfl dX11_would_71
set_option maxHeartbeats 4000000 in
theorem c_X11_would {n : Nat} {K : Sh} {I : Im} {J : Jm} {R : Rf} {o : Nat} {x1 : Int32} {x2 : Int32} (ho : (K o).1 = 12) {res : Int32 × Im × Rf} (E : f_X11_would K o x1 x2 I R = some res) : Met l yX11_would (Cond.code yX11_would cX11_would 4 (some .int) :: tb) rX11_would (PX D cA bs Z [.ref o, .int x1, .int x2] K n I J R) (QX D cA bs Z (some (.int res.1)) K n res.2.1 J res.2.2) 0 0 (fun q => bs ≤ q) := by
  refine met_of (lv1 := [(0, va_rf (some o)), (1, .int x1), (2, .int x2)]) pn_X11 (by exact Nat.le_of_ble_eq_true rfl) (by rfl) ?_
  intro p e s m args below meth c C hn
  exact v_sub [0, 1, 2] [(0, va_rf (some o)), (1, .int x1), (2, .int x2)] rfl (w_X11_would_0 C ho _ _ _ _ _ E)
set_option maxHeartbeats 4000000 in
theorem w_X11_goes_0 (C : Cx D cA bs Z p s m args meth c cX11_goes RX11 3 (some .int)) {o : Nat} {K : Sh} {n : Nat} {J : Jm} (ho : (K o).1 = 12) (res : Int32 × Im × Rf) (x1 : Int32) (I : Im) (R : Rf) (E : f_X11_goes K o x1 I R = some res) : VW D cA bs Z p l e rX11_goes s m args below meth c 3 [(0, va_rf (some o)), (1, .int x1)] K n I J R 0 0 (MQ below (QX D cA bs Z (some (.int res.1)) K n res.2.1 J res.2.2) args s 0 0 (fun q => bs ≤ q)) 0 [] := by
  unfold f_X11_goes at E
  refine v_aload_n (r := (some o)) C 0 dX11_goes_0 rfl ?_
  refine v_iload_n C 1 dX11_goes_1 rfl ?_
  obtain ⟨q1, h2, E⟩ := bnd E
  refine v_callV (r := (some o)) (As := [.int x1]) (rv := (some (va_rf q1))) (st := []) (st1 := [va_rf q1]) (ce1 := 0) (sl1 := 0) C cv_X11_187 (c_X11_caravanAt (x1 := x1) ho h2) rfl ho rfl rfl ⟨rfl, rfl, Nat.le_of_ble_eq_true rfl, Nat.le_of_ble_eq_true rfl⟩ ⟨Nat.le_of_ble_eq_true rfl, Nat.le_of_ble_eq_true rfl⟩ (Nat.le_of_ble_eq_true rfl) rfl rfl rfl dX11_goes_2 ?_
  refine v_astore_n (r := q1) C [(2, va_rf q1), (0, va_rf (some o)), (1, .int x1)] dX11_goes_5 (Nat.le_of_ble_eq_true rfl) rfl ?_
  refine v_aload_n (r := q1) C 0 dX11_goes_6 rfl ?_
  refine v_ifnonnull (r := q1) C 12 E dX11_goes_7 rfl (fun c10 E => ?_) (fun c10 E => ?_)
  · refine v_iconst C dX11_goes_10 k_iconst_m1 ?_
    obtain rfl := Option.some.inj E
    exact v_iret C rfl dX11_goes_11
  · refine v_aload_n (r := (some o)) C 1 dX11_goes_12 rfl ?_
    refine v_getR (r := (some o)) C fa_X11_37 rfl rfl ho dX11_goes_13 ?_
    obtain ⟨a3, h4, E⟩ := bnd E
    obtain ⟨hra3, hoa3⟩ := ob_is h4
    refine v_getR (r := (R o 7)) C fa_X11_120 rfl hra3 hoa3 dX11_goes_16 ?_
    refine v_ifnonnull (r := (R a3 0)) C 25 E dX11_goes_19 rfl (fun c9 E => ?_) (fun c9 E => ?_)
    · refine v_bipush C dX11_goes_22 k_bipush_m3 ?_
      obtain rfl := Option.some.inj E
      exact v_iret C rfl dX11_goes_24
    · refine v_aload_n (r := (some o)) C 1 dX11_goes_25 rfl ?_
      refine v_aload_n (r := (some o)) C 1 dX11_goes_26 rfl ?_
      refine v_getR (r := (some o)) C fa_X11_37 rfl rfl ho dX11_goes_27 ?_
      refine v_getR (r := (R o 7)) C fa_X11_120 rfl hra3 hoa3 dX11_goes_30 ?_
      refine v_aload_n (r := (some o)) C 1 dX11_goes_33 rfl ?_
      refine v_getR (r := (some o)) C fa_X11_37 rfl rfl ho dX11_goes_34 ?_
      refine v_getR (r := (R o 7)) C fa_X11_123 rfl hra3 hoa3 dX11_goes_37 ?_
      refine v_aload_n (r := q1) C 0 dX11_goes_40 rfl ?_
      obtain ⟨q5, h6, E⟩ := bnd E
      refine v_callV (r := (some o)) (As := [va_rf (R a3 0), va_rf (R a3 1), va_rf q1]) (rv := none) (st := []) (st1 := []) (ce1 := 0) (sl1 := 0) C cv_X11_198 (c_X11_send (x1 := (R a3 0)) (x2 := (R a3 1)) (x3 := q1) ho h6) rfl ho rfl rfl ⟨rfl, rfl, Nat.le_of_ble_eq_true rfl, Nat.le_of_ble_eq_true rfl⟩ ⟨Nat.le_of_ble_eq_true rfl, Nat.le_of_ble_eq_true rfl⟩ (Nat.le_of_ble_eq_true rfl) rfl rfl rfl dX11_goes_41 ?_
      refine v_aload_n (r := (some o)) C 1 dX11_goes_44 rfl ?_
      refine v_getR (r := (some o)) C fa_X11_60 rfl rfl ho dX11_goes_45 ?_
      obtain ⟨a7, h8, E⟩ := bnd E
      obtain ⟨hra7, hoa7⟩ := ob_is h8
      refine v_getI (r := (q5.2 o 12)) C fa_X11_208 rfl hra7 hoa7 dX11_goes_48 ?_
      obtain rfl := Option.some.inj E
      exact v_iret C rfl dX11_goes_51
set_option maxHeartbeats 4000000 in
theorem c_X11_goes {n : Nat} {K : Sh} {I : Im} {J : Jm} {R : Rf} {o : Nat} {x1 : Int32} (ho : (K o).1 = 12) {res : Int32 × Im × Rf} (E : f_X11_goes K o x1 I R = some res) : Met l yX11_goes (Cond.code yX11_goes cX11_goes 3 (some .int) :: tb) rX11_goes (PX D cA bs Z [.ref o, .int x1] K n I J R) (QX D cA bs Z (some (.int res.1)) K n res.2.1 J res.2.2) 0 0 (fun q => bs ≤ q) := by
  refine met_of (lv1 := [(0, va_rf (some o)), (1, .int x1)]) pn_X11 (by exact Nat.le_of_ble_eq_true rfl) (by rfl) ?_
  intro p e s m args below meth c C hn
  exact v_sub [0, 1] [(0, va_rf (some o)), (1, .int x1)] rfl (w_X11_goes_0 C ho _ _ _ _ E)
set_option maxHeartbeats 4000000 in
theorem w_X11_hand_0 (C : Cx D cA bs Z p s m args meth c cX11_hand RX11 2 (some .int)) {o : Nat} {K : Sh} {n : Nat} {J : Jm} {R : Rf} (ho : (K o).1 = 12) (res : Int32 × Im) (x1 : Int32) (I : Im) (E : f_X11_hand K R o x1 I = some res) : VW D cA bs Z p l e rX11_hand s m args below meth c 2 [(0, va_rf (some o)), (1, .int x1)] K n I J R 0 0 (MQ below (QX D cA bs Z (some (.int res.1)) K n res.2 J R) args s 0 0 (fun q => bs ≤ q)) 0 [] := by
  unfold f_X11_hand at E
  refine v_iload_n C 1 dX11_hand_0 rfl ?_
  refine v_iconst C dX11_hand_1 k_iconst_m1 ?_
  refine v_icmp_ne C 14 E dX11_hand_2 rfl (fun c13 E => ?_) (fun c13 E => ?_)
  · refine v_aload_n (r := (some o)) C 0 dX11_hand_5 rfl ?_
    refine v_getR (r := (some o)) C fa_X11_37 rfl rfl ho dX11_hand_6 ?_
    obtain ⟨a9, h10, E⟩ := bnd E
    obtain ⟨hra9, hoa9⟩ := ob_is h10
    obtain ⟨q11, h12, E⟩ := bnd E
    refine v_callV (r := (R o 7)) (As := []) (rv := none) (st := []) (st1 := []) (ce1 := 0) (sl1 := 0) C cv_X11_211 (c_X6_emptyHand  hoa9 h12) hra9 hoa9 rfl rfl ⟨rfl, rfl, Nat.le_of_ble_eq_true rfl, Nat.le_of_ble_eq_true rfl⟩ ⟨Nat.le_of_ble_eq_true rfl, Nat.le_of_ble_eq_true rfl⟩ (Nat.le_of_ble_eq_true rfl) rfl rfl rfl dX11_hand_9 ?_
    refine v_iconst C dX11_hand_12 k_iconst_0 ?_
    obtain rfl := Option.some.inj E
    exact v_iret C rfl dX11_hand_13
  · refine v_iload_n C 1 dX11_hand_14 rfl ?_
    refine v_iconst C dX11_hand_15 k_iconst_0 ?_
    refine v_bipush C dX11_hand_16 k_bipush_6 ?_
    obtain ⟨q1, h2, E⟩ := bnd E
    refine v_callS (As := [.int x1, .int 0, .int 6]) (rv := (some (.int q1))) (st := []) (st1 := [.int q1]) (ce1 := 0) (sl1 := 0) C cs_X11_101 (c_X11_within (x0 := x1) (x1 := 0) (x2 := 6) h2) rfl rfl ⟨rfl, rfl, Nat.le_of_ble_eq_true rfl, Nat.le_of_ble_eq_true rfl⟩ ⟨Nat.le_of_ble_eq_true rfl, Nat.le_of_ble_eq_true rfl⟩ (Nat.le_of_ble_eq_true rfl) rfl rfl rfl dX11_hand_18 ?_
    refine v_if_ne C 27 E dX11_hand_21 rfl (fun c8 E => ?_) (fun c8 E => ?_)
    · refine v_bipush C dX11_hand_24 k_bipush_m2 ?_
      obtain rfl := Option.some.inj E
      exact v_iret C rfl dX11_hand_26
    · refine v_aload_n (r := (some o)) C 0 dX11_hand_27 rfl ?_
      refine v_getR (r := (some o)) C fa_X11_37 rfl rfl ho dX11_hand_28 ?_
      obtain ⟨a3, h4, E⟩ := bnd E
      obtain ⟨hra3, hoa3⟩ := ob_is h4
      refine v_getI (r := (R o 7)) C fa_X11_214 rfl hra3 hoa3 dX11_hand_31 ?_
      refine v_iconst C dX11_hand_34 k_iconst_5 ?_
      refine v_icmp_lt C 41 E dX11_hand_35 rfl (fun c7 E => ?_) (fun c7 E => ?_)
      · refine v_aload_n (r := (some o)) C 0 dX11_hand_41 rfl ?_
        refine v_getR (r := (some o)) C fa_X11_37 rfl rfl ho dX11_hand_42 ?_
        refine v_getR (r := (R o 7)) C fa_X11_217 rfl hra3 hoa3 dX11_hand_45 ?_
        refine v_aload_n (r := (some o)) C 0 dX11_hand_48 rfl ?_
        refine v_getR (r := (some o)) C fa_X11_37 rfl rfl ho dX11_hand_49 ?_
        refine v_getI (r := (R o 7)) C fa_X11_214 rfl hra3 hoa3 dX11_hand_52 ?_
        refine v_iload_n C 1 dX11_hand_55 rfl ?_
        refine v_iast (r := (R a3 5)) C E dX11_hand_56 (fun I5 _ E => ?_)
        refine v_aload_n (r := (some o)) C 0 dX11_hand_57 rfl ?_
        refine v_getR (r := (some o)) C fa_X11_37 rfl rfl ho dX11_hand_58 ?_
        refine v_dup C dX11_hand_61 (rf_cat _) ?_
        refine v_getI (r := (R o 7)) C fa_X11_214 rfl hra3 hoa3 dX11_hand_62 ?_
        refine v_iconst C dX11_hand_65 k_iconst_1 ?_
        refine v_iadd C dX11_hand_66 ?_
        refine v_putI (r := (R o 7)) C fa_X11_214 rfl E hra3 hoa3 ⟨rfl, rfl⟩ dX11_hand_67 (fun I6 _ E => ?_)
        refine v_aload_n (r := (some o)) C 0 dX11_hand_70 rfl ?_
        refine v_getR (r := (some o)) C fa_X11_37 rfl rfl ho dX11_hand_71 ?_
        refine v_getI (r := (R o 7)) C fa_X11_214 rfl hra3 hoa3 dX11_hand_74 ?_
        obtain rfl := Option.some.inj E
        exact v_iret C rfl dX11_hand_77
      · refine v_bipush C dX11_hand_38 k_bipush_m4 ?_
        obtain rfl := Option.some.inj E
        exact v_iret C rfl dX11_hand_40
set_option maxHeartbeats 4000000 in
theorem c_X11_hand {n : Nat} {K : Sh} {I : Im} {J : Jm} {R : Rf} {o : Nat} {x1 : Int32} (ho : (K o).1 = 12) {res : Int32 × Im} (E : f_X11_hand K R o x1 I = some res) : Met l yX11_hand (Cond.code yX11_hand cX11_hand 2 (some .int) :: tb) rX11_hand (PX D cA bs Z [.ref o, .int x1] K n I J R) (QX D cA bs Z (some (.int res.1)) K n res.2 J R) 0 0 (fun q => bs ≤ q) := by
  refine met_of (lv1 := [(0, va_rf (some o)), (1, .int x1)]) pn_X11 (by exact Nat.le_of_ble_eq_true rfl) (by rfl) ?_
  intro p e s m args below meth c C hn
  exact v_sub [0, 1] [(0, va_rf (some o)), (1, .int x1)] rfl (w_X11_hand_0 C ho _ _ _ E)
set_option maxHeartbeats 4000000 in
theorem w_X11_gone_0 (C : Cx D cA bs Z p s m args meth c cX11_gone RX11 4 (some .int)) {o : Nat} {K : Sh} {n : Nat} {J : Jm} {R : Rf} (ho : (K o).1 = 12) (res : Int32 × Im) (x1 : Int32) (x2 : Int32) (I : Im) (E : f_X11_gone K R o x1 x2 I = some res) : VW D cA bs Z p l e rX11_gone s m args below meth c 4 [(0, va_rf (some o)), (1, .int x1), (2, .int x2)] K n I J R 0 0 (MQ below (QX D cA bs Z (some (.int res.1)) K n res.2 J R) args s 0 0 (fun q => bs ≤ q)) 0 [] := by
  unfold f_X11_gone at E
  refine v_aload_n (r := (some o)) C 0 dX11_gone_0 rfl ?_
  refine v_iload_n C 1 dX11_gone_1 rfl ?_
  obtain ⟨q1, h2, E⟩ := bnd E
  refine v_callV (r := (some o)) (As := [.int x1]) (rv := (some (va_rf q1))) (st := []) (st1 := [va_rf q1]) (ce1 := 0) (sl1 := 0) C cv_X11_187 (c_X11_caravanAt (x1 := x1) ho h2) rfl ho rfl rfl ⟨rfl, rfl, Nat.le_of_ble_eq_true rfl, Nat.le_of_ble_eq_true rfl⟩ ⟨Nat.le_of_ble_eq_true rfl, Nat.le_of_ble_eq_true rfl⟩ (Nat.le_of_ble_eq_true rfl) rfl rfl rfl dX11_gone_2 ?_
  refine v_astore_n (r := q1) C [(3, va_rf q1), (0, va_rf (some o)), (1, .int x1), (2, .int x2)] dX11_gone_5 (Nat.le_of_ble_eq_true rfl) rfl ?_
  refine v_aload_n (r := q1) C 0 dX11_gone_6 rfl ?_
  refine v_ifnull (r := q1) C 17 E dX11_gone_7 rfl (fun c21 E => ?_) (fun c21 E => ?_)
  · refine v_iconst C dX11_gone_17 k_iconst_m1 ?_
    obtain rfl := Option.some.inj E
    exact v_iret C rfl dX11_gone_18
  · refine v_iload_n C 3 dX11_gone_10 rfl ?_
    obtain ⟨q3, h4, E⟩ := bnd E
    refine v_callS (As := [.int x2]) (rv := (some (.int q3))) (st := []) (st1 := [.int q3]) (ce1 := 0) (sl1 := 0) C cs_X11_191 (c_X11_isAskedOfTrip (x0 := x2) h4) rfl rfl ⟨rfl, rfl, Nat.le_of_ble_eq_true rfl, Nat.le_of_ble_eq_true rfl⟩ ⟨Nat.le_of_ble_eq_true rfl, Nat.le_of_ble_eq_true rfl⟩ (Nat.le_of_ble_eq_true rfl) rfl rfl rfl dX11_gone_11 ?_
    refine v_if_ne C 19 E dX11_gone_14 rfl (fun c20 E => ?_) (fun c20 E => ?_)
    · refine v_iconst C dX11_gone_17 k_iconst_m1 ?_
      obtain rfl := Option.some.inj E
      exact v_iret C rfl dX11_gone_18
    · refine v_aload_n (r := (some o)) C 1 dX11_gone_19 rfl ?_
      refine v_getR (r := (some o)) C fa_X11_37 rfl rfl ho dX11_gone_20 ?_
      obtain ⟨a5, h6, E⟩ := bnd E
      obtain ⟨hra5, hoa5⟩ := ob_is h6
      refine v_getR (r := (R o 7)) C fa_X11_120 rfl hra5 hoa5 dX11_gone_23 ?_
      refine v_ifnonnull (r := (R a5 0)) C 32 E dX11_gone_26 rfl (fun c19 E => ?_) (fun c19 E => ?_)
      · refine v_bipush C dX11_gone_29 k_bipush_m3 ?_
        obtain rfl := Option.some.inj E
        exact v_iret C rfl dX11_gone_31
      · refine v_aload_n (r := (some o)) C 1 dX11_gone_32 rfl ?_
        refine v_getR (r := (some o)) C fa_X11_81 rfl rfl ho dX11_gone_33 ?_
        refine v_aload_n (r := (some o)) C 1 dX11_gone_36 rfl ?_
        refine v_getR (r := (some o)) C fa_X11_37 rfl rfl ho dX11_gone_37 ?_
        refine v_getR (r := (R o 7)) C fa_X11_123 rfl hra5 hoa5 dX11_gone_40 ?_
        obtain ⟨a7, h8, E⟩ := bnd E
        obtain ⟨hra7, hoa7⟩ := ob_is h8
        obtain ⟨q9, h10, E⟩ := bnd E
        refine v_callV (r := (R o 15)) (As := [va_rf (R a5 1)]) (rv := none) (st := []) (st1 := []) (ce1 := 0) (sl1 := 0) C cv_X11_195 (c_X10_become (x1 := (R a5 1)) hoa7 h10) hra7 hoa7 rfl rfl ⟨rfl, rfl, Nat.le_of_ble_eq_true rfl, Nat.le_of_ble_eq_true rfl⟩ ⟨Nat.le_of_ble_eq_true rfl, Nat.le_of_ble_eq_true rfl⟩ (Nat.le_of_ble_eq_true rfl) rfl rfl rfl dX11_gone_43 ?_
        refine v_aload_n (r := (some o)) C 1 dX11_gone_46 rfl ?_
        refine v_getR (r := (some o)) C fa_X11_60 rfl rfl ho dX11_gone_47 ?_
        refine v_aload_n (r := (some o)) C 1 dX11_gone_50 rfl ?_
        refine v_getR (r := (some o)) C fa_X11_37 rfl rfl ho dX11_gone_51 ?_
        refine v_getR (r := (R o 7)) C fa_X11_120 rfl hra5 hoa5 dX11_gone_54 ?_
        refine v_aload_n (r := (some o)) C 1 dX11_gone_57 rfl ?_
        refine v_getR (r := (some o)) C fa_X11_81 rfl rfl ho dX11_gone_58 ?_
        refine v_aload_n (r := q1) C 0 dX11_gone_61 rfl ?_
        refine v_aload_n (r := (some o)) C 1 dX11_gone_62 rfl ?_
        refine v_getR (r := (some o)) C fa_X11_37 rfl rfl ho dX11_gone_63 ?_
        refine v_getR (r := (R o 7)) C fa_X11_217 rfl hra5 hoa5 dX11_gone_66 ?_
        obtain ⟨a11, h12, E⟩ := bnd E
        obtain ⟨hra11, hoa11⟩ := ob_is h12
        obtain ⟨q13, h14, E⟩ := bnd E
        refine v_callV (r := (R o 12)) (As := [va_rf (R a5 0), va_rf (R o 15), va_rf q1, va_rf (R a5 5)]) (rv := none) (st := []) (st1 := []) (ce1 := 0) (sl1 := 0) C cv_X11_220 (c_X8_make (x1 := (R a5 0)) (x2 := (R o 15)) (x3 := q1) (x4 := (R a5 5)) hoa11 h14) hra11 hoa11 rfl rfl ⟨rfl, rfl, Nat.le_of_ble_eq_true rfl, Nat.le_of_ble_eq_true rfl⟩ ⟨Nat.le_of_ble_eq_true rfl, Nat.le_of_ble_eq_true rfl⟩ (Nat.le_of_ble_eq_true rfl) rfl rfl rfl dX11_gone_69 ?_
        refine v_aload_n (r := (some o)) C 1 dX11_gone_72 rfl ?_
        refine v_iload_n C 3 dX11_gone_73 rfl ?_
        refine v_aload_n (r := q1) C 0 dX11_gone_74 rfl ?_
        obtain ⟨a15, h16, E⟩ := bnd E
        obtain ⟨hra15, hoa15⟩ := ob_is h16
        refine v_getI (r := q1) C fa_X11_202 rfl hra15 hoa15 dX11_gone_75 ?_
        obtain ⟨q17, h18, E⟩ := bnd E
        refine v_callV (r := (some o)) (As := [.int x2, .int (q13 a15 0)]) (rv := (some (.int q17))) (st := []) (st1 := [.int q17]) (ce1 := 0) (sl1 := 0) C cv_X11_205 (c_X11_tellTrip (x1 := x2) (x2 := (q13 a15 0)) ho h18) rfl ho rfl rfl ⟨rfl, rfl, Nat.le_of_ble_eq_true rfl, Nat.le_of_ble_eq_true rfl⟩ ⟨Nat.le_of_ble_eq_true rfl, Nat.le_of_ble_eq_true rfl⟩ (Nat.le_of_ble_eq_true rfl) rfl rfl rfl dX11_gone_78 ?_
        obtain rfl := Option.some.inj E
        exact v_iret C rfl dX11_gone_81
set_option maxHeartbeats 4000000 in
theorem c_X11_gone {n : Nat} {K : Sh} {I : Im} {J : Jm} {R : Rf} {o : Nat} {x1 : Int32} {x2 : Int32} (ho : (K o).1 = 12) {res : Int32 × Im} (E : f_X11_gone K R o x1 x2 I = some res) : Met l yX11_gone (Cond.code yX11_gone cX11_gone 4 (some .int) :: tb) rX11_gone (PX D cA bs Z [.ref o, .int x1, .int x2] K n I J R) (QX D cA bs Z (some (.int res.1)) K n res.2 J R) 0 0 (fun q => bs ≤ q) := by
  refine met_of (lv1 := [(0, va_rf (some o)), (1, .int x1), (2, .int x2)]) pn_X11 (by exact Nat.le_of_ble_eq_true rfl) (by rfl) ?_
  intro p e s m args below meth c C hn
  exact v_sub [0, 1, 2] [(0, va_rf (some o)), (1, .int x1), (2, .int x2)] rfl (w_X11_gone_0 C ho _ _ _ _ E)
set_option maxHeartbeats 4000000 in
theorem w_X11_size_134 (C : Cx D cA bs Z p s m args meth c cX11_size RX11 9 (some .int)) {o : Nat} {K : Sh} {n : Nat} {J : Jm} (ho : (K o).1 = 12) (res : Int32 × Im × Rf) (r61 : Int32 → Int32 → Option Nat → Int32 → Int32 → Int32 → Int32 → Im → Rf → Option (Int32 × Im × Rf)) (hr61 : ∀ (x1 : Int32) (x3 : Int32) (x4 : Option Nat) (x5 : Int32) (x6 : Int32) (x7 : Int32) (x8 : Int32) (I : Im) (R : Rf), r61 x1 x3 x4 x5 x6 x7 x8 I R = some res → VW D cA bs Z p l e rX11_size s m args below meth c 9 [(0, va_rf (some o)), (1, .int x1), (3, .int x3), (4, va_rf x4), (5, .int x5), (6, .int x6), (7, .int x7), (8, .int x8)] K n I J R 0 0 (MQ below (QX D cA bs Z (some (.int res.1)) K n res.2.1 J res.2.2) args s 0 0 (fun q => bs ≤ q)) 61 []) (x1 : Int32) (x3 : Int32) (x4 : Option Nat) (x5 : Int32) (x6 : Int32) (x7 : Int32) (x8 : Int32) (I : Im) (R : Rf) (E : f_X11_size_134 K o r61 x1 x3 x4 x5 x6 x7 x8 I R = some res) : VW D cA bs Z p l e rX11_size s m args below meth c 9 [(0, va_rf (some o)), (1, .int x1), (3, .int x3), (4, va_rf x4), (5, .int x5), (6, .int x6), (7, .int x7), (8, .int x8)] K n I J R 0 0 (MQ below (QX D cA bs Z (some (.int res.1)) K n res.2.1 J res.2.2) args s 0 0 (fun q => bs ≤ q)) 134 [] := by
  unfold f_X11_size_134 at E
  refine v_aload_n (r := (some o)) C 0 dX11_size_134 rfl ?_
  refine v_getR (r := (some o)) C fa_X11_60 rfl rfl ho dX11_size_135 ?_
  obtain ⟨a1, h2, E⟩ := bnd E
  obtain ⟨hra1, hoa1⟩ := ob_is h2
  refine v_getI (r := (R o 12)) C fa_X11_208 rfl hra1 hoa1 dX11_size_138 ?_
  refine v_bipush C dX11_size_141 k_bipush_m5 ?_
  refine v_icmp_eq C 169 E dX11_size_143 rfl (fun c8 E => ?_) (fun c8 E => ?_)
  · refine v_iinc (v := x8 + 1) C 7 [(8, .int (x8 + 1)), (0, va_rf (some o)), (1, .int x1), (3, .int x3), (4, va_rf x4), (5, .int x5), (6, .int x6), (7, .int x7)] dX11_size_169 rfl (k_inc_1 _) (Nat.le_of_ble_eq_true rfl) rfl ?_
    refine v_goto C 61 dX11_size_172 rfl ?_
    exact v_sub [1, 2, 3, 4, 5, 6, 7, 0] [(0, va_rf (some o)), (1, .int x1), (3, .int x3), (4, va_rf x4), (5, .int x5), (6, .int x6), (7, .int x7), (8, .int (x8 + 1))] rfl (hr61 _ _ _ _ _ _ _ _ _ E)
  · refine v_aload_n (r := (some o)) C 0 dX11_size_146 rfl ?_
    refine v_iload C 7 dX11_size_147 rfl ?_
    obtain ⟨q3, h4, E⟩ := bnd E
    refine v_callV (r := (some o)) (As := [.int x8]) (rv := (some (.int q3))) (st := []) (st1 := [.int q3]) (ce1 := 0) (sl1 := 0) C cv_X11_224 (c_X11_worthOf (x1 := x8) ho h4) rfl ho rfl rfl ⟨rfl, rfl, Nat.le_of_ble_eq_true rfl, Nat.le_of_ble_eq_true rfl⟩ ⟨Nat.le_of_ble_eq_true rfl, Nat.le_of_ble_eq_true rfl⟩ (Nat.le_of_ble_eq_true rfl) rfl rfl rfl dX11_size_149 ?_
    refine v_iload C 4 dX11_size_152 rfl ?_
    refine v_icmp_le C 169 E dX11_size_154 rfl (fun c7 E => ?_) (fun c7 E => ?_)
    · refine v_iinc (v := x8 + 1) C 7 [(8, .int (x8 + 1)), (0, va_rf (some o)), (1, .int x1), (3, .int x3), (4, va_rf x4), (5, .int x5), (6, .int x6), (7, .int x7)] dX11_size_169 rfl (k_inc_1 _) (Nat.le_of_ble_eq_true rfl) rfl ?_
      refine v_goto C 61 dX11_size_172 rfl ?_
      exact v_sub [1, 2, 3, 4, 5, 6, 7, 0] [(0, va_rf (some o)), (1, .int x1), (3, .int x3), (4, va_rf x4), (5, .int x5), (6, .int x6), (7, .int x7), (8, .int (x8 + 1))] rfl (hr61 _ _ _ _ _ _ _ _ _ E)
    · refine v_aload_n (r := (some o)) C 0 dX11_size_157 rfl ?_
      refine v_iload C 7 dX11_size_158 rfl ?_
      obtain ⟨q5, h6, E⟩ := bnd E
      refine v_callV (r := (some o)) (As := [.int x8]) (rv := (some (.int q5))) (st := []) (st1 := [.int q5]) (ce1 := 0) (sl1 := 0) C cv_X11_224 (c_X11_worthOf (x1 := x8) ho h6) rfl ho rfl rfl ⟨rfl, rfl, Nat.le_of_ble_eq_true rfl, Nat.le_of_ble_eq_true rfl⟩ ⟨Nat.le_of_ble_eq_true rfl, Nat.le_of_ble_eq_true rfl⟩ (Nat.le_of_ble_eq_true rfl) rfl rfl rfl dX11_size_160 ?_
      refine v_istore C [(5, .int q5), (0, va_rf (some o)), (1, .int x1), (3, .int x3), (4, va_rf x4), (6, .int x6), (7, .int x7), (8, .int x8)] dX11_size_163 (Nat.le_of_ble_eq_true rfl) (by generalize x4 = rr; cases rr <;> rfl) ?_
      refine v_iload C 7 dX11_size_165 rfl ?_
      refine v_istore C [(6, .int x8), (5, .int q5), (0, va_rf (some o)), (1, .int x1), (3, .int x3), (4, va_rf x4), (7, .int x7), (8, .int x8)] dX11_size_167 (Nat.le_of_ble_eq_true rfl) rfl ?_
      refine v_iinc (v := x8 + 1) C 7 [(8, .int (x8 + 1)), (6, .int x8), (5, .int q5), (0, va_rf (some o)), (1, .int x1), (3, .int x3), (4, va_rf x4), (7, .int x7)] dX11_size_169 rfl (k_inc_1 _) (Nat.le_of_ble_eq_true rfl) rfl ?_
      refine v_goto C 61 dX11_size_172 rfl ?_
      exact v_sub [3, 4, 5, 6, 2, 1, 7, 0] [(0, va_rf (some o)), (1, .int x1), (3, .int x3), (4, va_rf x4), (5, .int q5), (6, .int x8), (7, .int x7), (8, .int (x8 + 1))] rfl (hr61 _ _ _ _ _ _ _ _ _ E)
set_option maxHeartbeats 4000000 in
theorem w_X11_size_61 (C : Cx D cA bs Z p s m args meth c cX11_size RX11 9 (some .int)) {o : Nat} {K : Sh} {n : Nat} {J : Jm} (ho : (K o).1 = 12) (res : Int32 × Im × Rf)  : ∀ (k : Nat), ∀ (x1 : Int32) (x3 : Int32) (x4 : Option Nat) (x5 : Int32) (x6 : Int32) (x7 : Int32) (x8 : Int32) (I : Im) (R : Rf), f_X11_size_61 K o k x1 x3 x4 x5 x6 x7 x8 I R = some res → VW D cA bs Z p l e rX11_size s m args below meth c 9 [(0, va_rf (some o)), (1, .int x1), (3, .int x3), (4, va_rf x4), (5, .int x5), (6, .int x6), (7, .int x7), (8, .int x8)] K n I J R 0 0 (MQ below (QX D cA bs Z (some (.int res.1)) K n res.2.1 J res.2.2) args s 0 0 (fun q => bs ≤ q)) 61 [] := by
  intro k
  induction k with
  | zero =>
    intro x1 x3 x4 x5 x6 x7 x8 I R E
    have E : (none : Option (Int32 × Im × Rf)) = some res := E
    cases E
  | succ k ih =>
    intro x1 x3 x4 x5 x6 x7 x8 I R E
    unfold f_X11_size_61 at E
    refine v_iload C 7 dX11_size_61 rfl ?_
    refine v_bipush C dX11_size_63 k_bipush_9 ?_
    refine v_icmp_gt C 175 E dX11_size_65 rfl (fun c26 E => ?_) (fun c26 E => ?_)
    · refine v_iload_n C 2 dX11_size_175 rfl ?_
      refine v_if_ne C 184 E dX11_size_176 rfl (fun c9 E => ?_) (fun c9 E => ?_)
      · refine v_iload C 5 dX11_size_179 rfl ?_
        refine v_goto C 186 dX11_size_181 rfl ?_
        obtain rfl := Option.some.inj E
        exact v_iret C rfl dX11_size_186
      · refine v_iload C 6 dX11_size_184 rfl ?_
        obtain rfl := Option.some.inj E
        exact v_iret C rfl dX11_size_186
    · refine v_aload_n (r := (some o)) C 0 dX11_size_68 rfl ?_
      refine v_getR (r := (some o)) C fa_X11_92 rfl rfl ho dX11_size_69 ?_
      refine v_iload C 7 dX11_size_72 rfl ?_
      refine v_iload_n C 1 dX11_size_74 rfl ?_
      refine v_aload (r := x4) C 3 dX11_size_75 rfl ?_
      obtain ⟨a10, h11, E⟩ := bnd E
      obtain ⟨hra10, hoa10⟩ := ob_is h11
      obtain ⟨q12, h13, E⟩ := bnd E
      refine v_callV (r := (R o 17)) (As := [.int x8, .int x1, va_rf x4]) (rv := none) (st := []) (st1 := []) (ce1 := 0) (sl1 := 0) C cv_X11_183 (c_X1_become (x1 := x8) (x2 := x1) (x3 := x4) hoa10 h13) hra10 hoa10 rfl rfl ⟨rfl, rfl, Nat.le_of_ble_eq_true rfl, Nat.le_of_ble_eq_true rfl⟩ ⟨Nat.le_of_ble_eq_true rfl, Nat.le_of_ble_eq_true rfl⟩ (Nat.le_of_ble_eq_true rfl) rfl rfl rfl dX11_size_77 ?_
      refine v_aload_n (r := (some o)) C 0 dX11_size_80 rfl ?_
      refine v_getR (r := (some o)) C fa_X11_81 rfl rfl ho dX11_size_81 ?_
      refine v_aload_n (r := (some o)) C 0 dX11_size_84 rfl ?_
      refine v_getR (r := (some o)) C fa_X11_37 rfl rfl ho dX11_size_85 ?_
      obtain ⟨a14, h15, E⟩ := bnd E
      obtain ⟨hra14, hoa14⟩ := ob_is h15
      refine v_getR (r := (q12.2 o 7)) C fa_X11_123 rfl hra14 hoa14 dX11_size_88 ?_
      obtain ⟨a16, h17, E⟩ := bnd E
      obtain ⟨hra16, hoa16⟩ := ob_is h17
      obtain ⟨q18, h19, E⟩ := bnd E
      refine v_callV (r := (q12.2 o 15)) (As := [va_rf (q12.2 a14 1)]) (rv := none) (st := []) (st1 := []) (ce1 := 0) (sl1 := 0) C cv_X11_195 (c_X10_become (x1 := (q12.2 a14 1)) hoa16 h19) hra16 hoa16 rfl rfl ⟨rfl, rfl, Nat.le_of_ble_eq_true rfl, Nat.le_of_ble_eq_true rfl⟩ ⟨Nat.le_of_ble_eq_true rfl, Nat.le_of_ble_eq_true rfl⟩ (Nat.le_of_ble_eq_true rfl) rfl rfl rfl dX11_size_91 ?_
      refine v_aload_n (r := (some o)) C 0 dX11_size_94 rfl ?_
      refine v_aload_n (r := (some o)) C 0 dX11_size_95 rfl ?_
      refine v_getR (r := (some o)) C fa_X11_37 rfl rfl ho dX11_size_96 ?_
      refine v_getR (r := (q12.2 o 7)) C fa_X11_120 rfl hra14 hoa14 dX11_size_99 ?_
      refine v_aload_n (r := (some o)) C 0 dX11_size_102 rfl ?_
      refine v_getR (r := (some o)) C fa_X11_81 rfl rfl ho dX11_size_103 ?_
      refine v_aload_n (r := (some o)) C 0 dX11_size_106 rfl ?_
      refine v_getR (r := (some o)) C fa_X11_92 rfl rfl ho dX11_size_107 ?_
      obtain ⟨q20, h21, E⟩ := bnd E
      refine v_callV (r := (some o)) (As := [va_rf (q12.2 a14 0), va_rf (q12.2 o 15), va_rf (q12.2 o 17)]) (rv := none) (st := []) (st1 := []) (ce1 := 0) (sl1 := 0) C cv_X11_198 (c_X11_send (x1 := (q12.2 a14 0)) (x2 := (q12.2 o 15)) (x3 := (q12.2 o 17)) ho h21) rfl ho rfl rfl ⟨rfl, rfl, Nat.le_of_ble_eq_true rfl, Nat.le_of_ble_eq_true rfl⟩ ⟨Nat.le_of_ble_eq_true rfl, Nat.le_of_ble_eq_true rfl⟩ (Nat.le_of_ble_eq_true rfl) rfl rfl rfl dX11_size_110 ?_
      refine v_aload_n (r := (some o)) C 0 dX11_size_113 rfl ?_
      refine v_getR (r := (some o)) C fa_X11_60 rfl rfl ho dX11_size_114 ?_
      obtain ⟨a22, h23, E⟩ := bnd E
      obtain ⟨hra22, hoa22⟩ := ob_is h23
      refine v_getI (r := (q20.2 o 12)) C fa_X11_208 rfl hra22 hoa22 dX11_size_117 ?_
      refine v_bipush C dX11_size_120 k_bipush_m5 ?_
      refine v_icmp_ne C 134 E dX11_size_122 rfl (fun c25 E => ?_) (fun c25 E => ?_)
      · refine v_iload C 6 dX11_size_125 rfl ?_
        refine v_if_ne C 134 E dX11_size_127 rfl (fun c24 E => ?_) (fun c24 E => ?_)
        · refine v_iload C 7 dX11_size_130 rfl ?_
          refine v_istore C [(7, .int x8), (0, va_rf (some o)), (1, .int x1), (3, .int x3), (4, va_rf x4), (5, .int x5), (6, .int x6), (8, .int x8)] dX11_size_132 (Nat.le_of_ble_eq_true rfl) rfl ?_
          exact v_sub [1, 2, 3, 4, 5, 6, 0, 7] [(0, va_rf (some o)), (1, .int x1), (3, .int x3), (4, va_rf x4), (5, .int x5), (6, .int x6), (7, .int x8), (8, .int x8)] rfl (w_X11_size_134 C ho res _ ih _ _ _ _ _ _ _ _ _ E)
        · exact v_sub [0, 1, 2, 3, 4, 5, 6, 7] [(0, va_rf (some o)), (1, .int x1), (3, .int x3), (4, va_rf x4), (5, .int x5), (6, .int x6), (7, .int x7), (8, .int x8)] rfl (w_X11_size_134 C ho res _ ih _ _ _ _ _ _ _ _ _ E)
      · exact v_sub [0, 1, 2, 3, 4, 5, 6, 7] [(0, va_rf (some o)), (1, .int x1), (3, .int x3), (4, va_rf x4), (5, .int x5), (6, .int x6), (7, .int x7), (8, .int x8)] rfl (w_X11_size_134 C ho res _ ih _ _ _ _ _ _ _ _ _ E)
set_option maxHeartbeats 4000000 in
theorem w_X11_size_0 (C : Cx D cA bs Z p s m args meth c cX11_size RX11 9 (some .int)) {o : Nat} {K : Sh} {n : Nat} {J : Jm} (ho : (K o).1 = 12) (res : Int32 × Im × Rf) (x1 : Int32) (x2 : Int32) (x3 : Int32) (I : Im) (R : Rf) (E : f_X11_size K o x1 x2 x3 I R = some res) : VW D cA bs Z p l e rX11_size s m args below meth c 9 [(0, va_rf (some o)), (1, .int x1), (2, .int x2), (3, .int x3)] K n I J R 0 0 (MQ below (QX D cA bs Z (some (.int res.1)) K n res.2.1 J res.2.2) args s 0 0 (fun q => bs ≤ q)) 0 [] := by
  unfold f_X11_size at E
  refine v_aload_n (r := (some o)) C 0 dX11_size_0 rfl ?_
  refine v_iload_n C 2 dX11_size_1 rfl ?_
  obtain ⟨q27, h28, E⟩ := bnd E
  refine v_callV (r := (some o)) (As := [.int x2]) (rv := (some (va_rf q27))) (st := []) (st1 := [va_rf q27]) (ce1 := 0) (sl1 := 0) C cv_X11_167 (c_X11_ruleAt (x1 := x2) ho h28) rfl ho rfl rfl ⟨rfl, rfl, Nat.le_of_ble_eq_true rfl, Nat.le_of_ble_eq_true rfl⟩ ⟨Nat.le_of_ble_eq_true rfl, Nat.le_of_ble_eq_true rfl⟩ (Nat.le_of_ble_eq_true rfl) rfl rfl rfl dX11_size_2 ?_
  refine v_astore (r := q27) C [(4, va_rf q27), (0, va_rf (some o)), (1, .int x1), (2, .int x2), (3, .int x3)] dX11_size_5 (Nat.le_of_ble_eq_true rfl) rfl ?_
  refine v_aload (r := q27) C 0 dX11_size_7 rfl ?_
  refine v_ifnull (r := q27) C 21 E dX11_size_9 rfl (fun c38 E => ?_) (fun c38 E => ?_)
  · refine v_iconst C dX11_size_21 k_iconst_m1 ?_
    obtain rfl := Option.some.inj E
    exact v_iret C rfl dX11_size_22
  · refine v_iload_n C 4 dX11_size_12 rfl ?_
    refine v_iconst C dX11_size_13 k_iconst_0 ?_
    refine v_iconst C dX11_size_14 k_iconst_1 ?_
    obtain ⟨q29, h30, E⟩ := bnd E
    refine v_callS (As := [.int x3, .int 0, .int 1]) (rv := (some (.int q29))) (st := []) (st1 := [.int q29]) (ce1 := 0) (sl1 := 0) C cs_X11_101 (c_X11_within (x0 := x3) (x1 := 0) (x2 := 1) h30) rfl rfl ⟨rfl, rfl, Nat.le_of_ble_eq_true rfl, Nat.le_of_ble_eq_true rfl⟩ ⟨Nat.le_of_ble_eq_true rfl, Nat.le_of_ble_eq_true rfl⟩ (Nat.le_of_ble_eq_true rfl) rfl rfl rfl dX11_size_15 ?_
    refine v_if_ne C 23 E dX11_size_18 rfl (fun c37 E => ?_) (fun c37 E => ?_)
    · refine v_iconst C dX11_size_21 k_iconst_m1 ?_
      obtain rfl := Option.some.inj E
      exact v_iret C rfl dX11_size_22
    · refine v_iload_n C 2 dX11_size_23 rfl ?_
      refine v_iconst C dX11_size_24 k_iconst_0 ?_
      refine v_bipush C dX11_size_25 k_bipush_99 ?_
      obtain ⟨q31, h32, E⟩ := bnd E
      refine v_callS (As := [.int x1, .int 0, .int 99]) (rv := (some (.int q31))) (st := []) (st1 := [.int q31]) (ce1 := 0) (sl1 := 0) C cs_X11_101 (c_X11_within (x0 := x1) (x1 := 0) (x2 := 99) h32) rfl rfl ⟨rfl, rfl, Nat.le_of_ble_eq_true rfl, Nat.le_of_ble_eq_true rfl⟩ ⟨Nat.le_of_ble_eq_true rfl, Nat.le_of_ble_eq_true rfl⟩ (Nat.le_of_ble_eq_true rfl) rfl rfl rfl dX11_size_27 ?_
      refine v_if_ne C 36 E dX11_size_30 rfl (fun c36 E => ?_) (fun c36 E => ?_)
      · refine v_bipush C dX11_size_33 k_bipush_m2 ?_
        obtain rfl := Option.some.inj E
        exact v_iret C rfl dX11_size_35
      · refine v_aload_n (r := (some o)) C 1 dX11_size_36 rfl ?_
        refine v_getR (r := (some o)) C fa_X11_37 rfl rfl ho dX11_size_37 ?_
        obtain ⟨a33, h34, E⟩ := bnd E
        obtain ⟨hra33, hoa33⟩ := ob_is h34
        refine v_getR (r := (R o 7)) C fa_X11_120 rfl hra33 hoa33 dX11_size_40 ?_
        refine v_ifnonnull (r := (R a33 0)) C 49 E dX11_size_43 rfl (fun c35 E => ?_) (fun c35 E => ?_)
        · refine v_bipush C dX11_size_46 k_bipush_m3 ?_
          obtain rfl := Option.some.inj E
          exact v_iret C rfl dX11_size_48
        · refine v_iconst C dX11_size_49 k_iconst_m1 ?_
          refine v_istore C [(5, .int (-1)), (4, va_rf q27), (0, va_rf (some o)), (1, .int x1), (2, .int x2), (3, .int x3)] dX11_size_50 (Nat.le_of_ble_eq_true rfl) (by generalize q27 = rr; cases rr <;> rfl) ?_
          refine v_iconst C dX11_size_52 k_iconst_0 ?_
          refine v_istore C [(6, .int 0), (5, .int (-1)), (4, va_rf q27), (0, va_rf (some o)), (1, .int x1), (2, .int x2), (3, .int x3)] dX11_size_53 (Nat.le_of_ble_eq_true rfl) rfl ?_
          refine v_iconst C dX11_size_55 k_iconst_0 ?_
          refine v_istore C [(7, .int 0), (6, .int 0), (5, .int (-1)), (4, va_rf q27), (0, va_rf (some o)), (1, .int x1), (2, .int x2), (3, .int x3)] dX11_size_56 (Nat.le_of_ble_eq_true rfl) rfl ?_
          refine v_iconst C dX11_size_58 k_iconst_1 ?_
          refine v_istore C [(8, .int 1), (7, .int 0), (6, .int 0), (5, .int (-1)), (4, va_rf q27), (0, va_rf (some o)), (1, .int x1), (2, .int x2), (3, .int x3)] dX11_size_59 (Nat.le_of_ble_eq_true rfl) rfl ?_
          exact v_sub [5, 6, 8, 4, 3, 2, 1, 0] [(0, va_rf (some o)), (1, .int x1), (3, .int x3), (4, va_rf q27), (5, .int (-1)), (6, .int 0), (7, .int 0), (8, .int 1)] rfl (w_X11_size_61 C ho res  _ _ _ _ _ _ _ _ _ _ E)
set_option maxHeartbeats 4000000 in
theorem c_X11_size {n : Nat} {K : Sh} {I : Im} {J : Jm} {R : Rf} {o : Nat} {x1 : Int32} {x2 : Int32} {x3 : Int32} (ho : (K o).1 = 12) {res : Int32 × Im × Rf} (E : f_X11_size K o x1 x2 x3 I R = some res) : Met l yX11_size (Cond.code yX11_size cX11_size 9 (some .int) :: tb) rX11_size (PX D cA bs Z [.ref o, .int x1, .int x2, .int x3] K n I J R) (QX D cA bs Z (some (.int res.1)) K n res.2.1 J res.2.2) 0 0 (fun q => bs ≤ q) := by
  refine met_of (lv1 := [(0, va_rf (some o)), (1, .int x1), (2, .int x2), (3, .int x3)]) pn_X11 (by exact Nat.le_of_ble_eq_true rfl) (by rfl) ?_
  intro p e s m args below meth c C hn
  exact v_sub [0, 1, 2, 3] [(0, va_rf (some o)), (1, .int x1), (2, .int x2), (3, .int x3)] rfl (w_X11_size_0 C ho _ _ _ _ _ _ E)
set_option maxHeartbeats 4000000 in
theorem w_X11_several_0 (C : Cx D cA bs Z p s m args meth c cX11_several RX11 2 (some .int)) {o : Nat} {K : Sh} {n : Nat} {J : Jm} {R : Rf} (ho : (K o).1 = 12) (res : Int32 × Im) (x1 : Int32) (I : Im) (E : f_X11_several K R o x1 I = some res) : VW D cA bs Z p l e rX11_several s m args below meth c 2 [(0, va_rf (some o)), (1, .int x1)] K n I J R 0 0 (MQ below (QX D cA bs Z (some (.int res.1)) K n res.2 J R) args s 0 0 (fun q => bs ≤ q)) 0 [] := by
  unfold f_X11_several at E
  refine v_iload_n C 1 dX11_several_0 rfl ?_
  refine v_iconst C dX11_several_1 k_iconst_m1 ?_
  refine v_icmp_ne C 15 E dX11_several_2 rfl (fun c12 E => ?_) (fun c12 E => ?_)
  · refine v_aload_n (r := (some o)) C 0 dX11_several_5 rfl ?_
    refine v_getR (r := (some o)) C fa_X11_37 rfl rfl ho dX11_several_6 ?_
    refine v_iconst C dX11_several_9 k_iconst_0 ?_
    obtain ⟨a9, h10, E⟩ := bnd E
    obtain ⟨hra9, hoa9⟩ := ob_is h10
    refine v_putI (r := (R o 7)) C fa_X11_227 rfl E hra9 hoa9 ⟨rfl, rfl⟩ dX11_several_10 (fun I11 _ E => ?_)
    refine v_iconst C dX11_several_13 k_iconst_0 ?_
    obtain rfl := Option.some.inj E
    exact v_iret C rfl dX11_several_14
  · refine v_aload_n (r := (some o)) C 0 dX11_several_15 rfl ?_
    refine v_iload_n C 1 dX11_several_16 rfl ?_
    obtain ⟨q1, h2, E⟩ := bnd E
    refine v_callV (r := (some o)) (As := [.int x1]) (rv := (some (va_rf q1))) (st := []) (st1 := [va_rf q1]) (ce1 := 0) (sl1 := 0) C cv_X11_187 (c_X11_caravanAt (x1 := x1) ho h2) rfl ho rfl rfl ⟨rfl, rfl, Nat.le_of_ble_eq_true rfl, Nat.le_of_ble_eq_true rfl⟩ ⟨Nat.le_of_ble_eq_true rfl, Nat.le_of_ble_eq_true rfl⟩ (Nat.le_of_ble_eq_true rfl) rfl rfl rfl dX11_several_17 ?_
    refine v_ifnonnull (r := q1) C 25 E dX11_several_20 rfl (fun c8 E => ?_) (fun c8 E => ?_)
    · refine v_iconst C dX11_several_23 k_iconst_m1 ?_
      obtain rfl := Option.some.inj E
      exact v_iret C rfl dX11_several_24
    · refine v_aload_n (r := (some o)) C 0 dX11_several_25 rfl ?_
      refine v_getR (r := (some o)) C fa_X11_37 rfl rfl ho dX11_several_26 ?_
      obtain ⟨a3, h4, E⟩ := bnd E
      obtain ⟨hra3, hoa3⟩ := ob_is h4
      refine v_getI (r := (R o 7)) C fa_X11_227 rfl hra3 hoa3 dX11_several_29 ?_
      refine v_iconst C dX11_several_32 k_iconst_3 ?_
      refine v_icmp_lt C 39 E dX11_several_33 rfl (fun c7 E => ?_) (fun c7 E => ?_)
      · refine v_aload_n (r := (some o)) C 0 dX11_several_39 rfl ?_
        refine v_getR (r := (some o)) C fa_X11_37 rfl rfl ho dX11_several_40 ?_
        refine v_getR (r := (R o 7)) C fa_X11_230 rfl hra3 hoa3 dX11_several_43 ?_
        refine v_aload_n (r := (some o)) C 0 dX11_several_46 rfl ?_
        refine v_getR (r := (some o)) C fa_X11_37 rfl rfl ho dX11_several_47 ?_
        refine v_getI (r := (R o 7)) C fa_X11_227 rfl hra3 hoa3 dX11_several_50 ?_
        refine v_iload_n C 1 dX11_several_53 rfl ?_
        refine v_iast (r := (R a3 3)) C E dX11_several_54 (fun I5 _ E => ?_)
        refine v_aload_n (r := (some o)) C 0 dX11_several_55 rfl ?_
        refine v_getR (r := (some o)) C fa_X11_37 rfl rfl ho dX11_several_56 ?_
        refine v_dup C dX11_several_59 (rf_cat _) ?_
        refine v_getI (r := (R o 7)) C fa_X11_227 rfl hra3 hoa3 dX11_several_60 ?_
        refine v_iconst C dX11_several_63 k_iconst_1 ?_
        refine v_iadd C dX11_several_64 ?_
        refine v_putI (r := (R o 7)) C fa_X11_227 rfl E hra3 hoa3 ⟨rfl, rfl⟩ dX11_several_65 (fun I6 _ E => ?_)
        refine v_aload_n (r := (some o)) C 0 dX11_several_68 rfl ?_
        refine v_getR (r := (some o)) C fa_X11_37 rfl rfl ho dX11_several_69 ?_
        refine v_getI (r := (R o 7)) C fa_X11_227 rfl hra3 hoa3 dX11_several_72 ?_
        obtain rfl := Option.some.inj E
        exact v_iret C rfl dX11_several_75
      · refine v_bipush C dX11_several_36 k_bipush_m4 ?_
        obtain rfl := Option.some.inj E
        exact v_iret C rfl dX11_several_38
set_option maxHeartbeats 4000000 in
theorem c_X11_several {n : Nat} {K : Sh} {I : Im} {J : Jm} {R : Rf} {o : Nat} {x1 : Int32} (ho : (K o).1 = 12) {res : Int32 × Im} (E : f_X11_several K R o x1 I = some res) : Met l yX11_several (Cond.code yX11_several cX11_several 2 (some .int) :: tb) rX11_several (PX D cA bs Z [.ref o, .int x1] K n I J R) (QX D cA bs Z (some (.int res.1)) K n res.2 J R) 0 0 (fun q => bs ≤ q) := by
  refine met_of (lv1 := [(0, va_rf (some o)), (1, .int x1)]) pn_X11 (by exact Nat.le_of_ble_eq_true rfl) (by rfl) ?_
  intro p e s m args below meth c C hn
  exact v_sub [0, 1] [(0, va_rf (some o)), (1, .int x1)] rfl (w_X11_several_0 C ho _ _ _ E)
set_option maxHeartbeats 4000000 in
theorem w_X11_sendSeveral_23 (C : Cx D cA bs Z p s m args meth c cX11_sendSeveral RX11 5 none) {o : Nat} {K : Sh} {n : Nat} {J : Jm} (ho : (K o).1 = 12) (res : Im × Rf)  : ∀ (k : Nat), ∀ (x1 : Int32) (x2 : Int32) (I : Im) (R : Rf), f_X11_sendSeveral_23 Z K o k x1 x2 I R = some res → VW D cA bs Z p l e rX11_sendSeveral s m args below meth c 5 [(0, va_rf (some o)), (1, .int x1), (2, .int x2)] K n I J R 0 0 (MQ below (QX D cA bs Z none K n res.1 J res.2) args s 0 0 (fun q => bs ≤ q)) 23 [] := by
  intro k
  induction k with
  | zero =>
    intro x1 x2 I R E
    have E : (none : Option (Im × Rf)) = some res := E
    cases E
  | succ k ih =>
    intro x1 x2 I R E
    unfold f_X11_sendSeveral_23 at E
    refine v_iload_n C 2 dX11_sendSeveral_23 rfl ?_
    refine v_aload_n (r := (some o)) C 0 dX11_sendSeveral_24 rfl ?_
    refine v_getR (r := (some o)) C fa_X11_37 rfl rfl ho dX11_sendSeveral_25 ?_
    obtain ⟨a1, h2, E⟩ := bnd E
    obtain ⟨hra1, hoa1⟩ := ob_is h2
    refine v_getI (r := (R o 7)) C fa_X11_227 rfl hra1 hoa1 dX11_sendSeveral_28 ?_
    refine v_icmp_ge C 111 E dX11_sendSeveral_31 rfl (fun c20 E => ?_) (fun c20 E => ?_)
    · obtain rfl := Option.some.inj E
      exact v_vret C rfl dX11_sendSeveral_111
    · refine v_gets C 1 (by decide) gs_X11_243 dX11_sendSeveral_34 ?_
      refine v_iload_n C 1 dX11_sendSeveral_37 rfl ?_
      refine v_iconst C dX11_sendSeveral_38 k_iconst_3 ?_
      refine v_imul C dX11_sendSeveral_39 ?_
      refine v_iload_n C 2 dX11_sendSeveral_40 rfl ?_
      refine v_iadd C dX11_sendSeveral_41 ?_
      refine v_iald (r := (some (Z 1))) C E dX11_sendSeveral_42 (fun v3 _ E => ?_)
      refine v_istore_n C [(3, .int v3), (0, va_rf (some o)), (1, .int x1), (2, .int x2)] dX11_sendSeveral_43 (Nat.le_of_ble_eq_true rfl) rfl ?_
      refine v_aload_n (r := (some o)) C 1 dX11_sendSeveral_44 rfl ?_
      refine v_aload_n (r := (some o)) C 1 dX11_sendSeveral_45 rfl ?_
      refine v_getR (r := (some o)) C fa_X11_37 rfl rfl ho dX11_sendSeveral_46 ?_
      refine v_getR (r := (R o 7)) C fa_X11_230 rfl hra1 hoa1 dX11_sendSeveral_49 ?_
      refine v_iload_n C 0 dX11_sendSeveral_52 rfl ?_
      refine v_iald (r := (R a1 3)) C E dX11_sendSeveral_53 (fun v4 _ E => ?_)
      obtain ⟨q5, h6, E⟩ := bnd E
      refine v_callV (r := (some o)) (As := [.int v4]) (rv := (some (va_rf q5))) (st := []) (st1 := [va_rf q5]) (ce1 := 0) (sl1 := 0) C cv_X11_187 (c_X11_caravanAt (x1 := v4) ho h6) rfl ho rfl rfl ⟨rfl, rfl, Nat.le_of_ble_eq_true rfl, Nat.le_of_ble_eq_true rfl⟩ ⟨Nat.le_of_ble_eq_true rfl, Nat.le_of_ble_eq_true rfl⟩ (Nat.le_of_ble_eq_true rfl) rfl rfl rfl dX11_sendSeveral_54 ?_
      refine v_astore (r := q5) C [(4, va_rf q5), (3, .int v3), (0, va_rf (some o)), (1, .int x1), (2, .int x2)] dX11_sendSeveral_57 (Nat.le_of_ble_eq_true rfl) rfl ?_
      refine v_aload (r := q5) C 0 dX11_sendSeveral_59 rfl ?_
      refine v_ifnull (r := q5) C 105 E dX11_sendSeveral_61 rfl (fun c19 E => ?_) (fun c19 E => ?_)
      · refine v_iinc (v := x2 + 1) C 4 [(2, .int (x2 + 1)), (4, va_rf q5), (3, .int v3), (0, va_rf (some o)), (1, .int x1)] dX11_sendSeveral_105 rfl (k_inc_1 _) (Nat.le_of_ble_eq_true rfl) rfl ?_
        refine v_goto C 23 dX11_sendSeveral_108 rfl ?_
        exact v_sub [3, 4, 0] [(0, va_rf (some o)), (1, .int x1), (2, .int (x2 + 1))] rfl (ih _ _ _ _ E)
      · refine v_aload_n (r := (some o)) C 2 dX11_sendSeveral_64 rfl ?_
        refine v_aload_n (r := (some o)) C 2 dX11_sendSeveral_65 rfl ?_
        refine v_getR (r := (some o)) C fa_X11_37 rfl rfl ho dX11_sendSeveral_66 ?_
        refine v_getR (r := (R o 7)) C fa_X11_120 rfl hra1 hoa1 dX11_sendSeveral_69 ?_
        refine v_aload_n (r := (some o)) C 2 dX11_sendSeveral_72 rfl ?_
        refine v_getR (r := (some o)) C fa_X11_81 rfl rfl ho dX11_sendSeveral_73 ?_
        refine v_aload (r := q5) C 0 dX11_sendSeveral_76 rfl ?_
        obtain ⟨q7, h8, E⟩ := bnd E
        refine v_callV (r := (some o)) (As := [va_rf (R a1 0), va_rf (R o 15), va_rf q5]) (rv := none) (st := []) (st1 := []) (ce1 := 0) (sl1 := 0) C cv_X11_198 (c_X11_send (x1 := (R a1 0)) (x2 := (R o 15)) (x3 := q5) ho h8) rfl ho rfl rfl ⟨rfl, rfl, Nat.le_of_ble_eq_true rfl, Nat.le_of_ble_eq_true rfl⟩ ⟨Nat.le_of_ble_eq_true rfl, Nat.le_of_ble_eq_true rfl⟩ (Nat.le_of_ble_eq_true rfl) rfl rfl rfl dX11_sendSeveral_78 ?_
        refine v_aload_n (r := (some o)) C 2 dX11_sendSeveral_81 rfl ?_
        refine v_getR (r := (some o)) C fa_X11_74 rfl rfl ho dX11_sendSeveral_82 ?_
        refine v_iload_n C 1 dX11_sendSeveral_85 rfl ?_
        refine v_aload_n (r := (some o)) C 2 dX11_sendSeveral_86 rfl ?_
        refine v_getR (r := (some o)) C fa_X11_60 rfl rfl ho dX11_sendSeveral_87 ?_
        obtain ⟨a9, h10, E⟩ := bnd E
        obtain ⟨hra9, hoa9⟩ := ob_is h10
        refine v_getI (r := (q7.2 o 12)) C fa_X11_208 rfl hra9 hoa9 dX11_sendSeveral_90 ?_
        refine v_aload_n (r := (some o)) C 2 dX11_sendSeveral_93 rfl ?_
        refine v_aload (r := q5) C 0 dX11_sendSeveral_94 rfl ?_
        obtain ⟨a11, h12, E⟩ := bnd E
        obtain ⟨hra11, hoa11⟩ := ob_is h12
        refine v_getI (r := q5) C fa_X11_202 rfl hra11 hoa11 dX11_sendSeveral_96 ?_
        obtain ⟨q13, h14, E⟩ := bnd E
        refine v_callV (r := (some o)) (As := [.int (q7.1 a11 0)]) (rv := (some (.int q13))) (st := [.int (q7.1 a9 0), .int v3, va_rf (q7.2 o 14)]) (st1 := [.int q13, .int (q7.1 a9 0), .int v3, va_rf (q7.2 o 14)]) (ce1 := 0) (sl1 := 0) C cv_X11_224 (c_X11_worthOf (x1 := (q7.1 a11 0)) ho h14) rfl ho rfl rfl ⟨rfl, rfl, Nat.le_of_ble_eq_true rfl, Nat.le_of_ble_eq_true rfl⟩ ⟨Nat.le_of_ble_eq_true rfl, Nat.le_of_ble_eq_true rfl⟩ (by simp only [List.map_cons, List.map_nil, List.sum_cons, List.sum_nil, rf_cat]; exact Nat.le_of_ble_eq_true rfl) rfl rfl rfl dX11_sendSeveral_99 ?_
        obtain ⟨a15, h16, E⟩ := bnd E
        obtain ⟨hra15, hoa15⟩ := ob_is h16
        obtain ⟨q17, h18, E⟩ := bnd E
        refine v_callV (r := (q7.2 o 14)) (As := [.int v3, .int (q7.1 a9 0), .int q13]) (rv := none) (st := []) (st1 := []) (ce1 := 0) (sl1 := 0) C cv_X11_359 (c_X2_note (x1 := v3) (x2 := (q7.1 a9 0)) (x3 := q13) hoa15 h18) hra15 hoa15 rfl rfl ⟨rfl, rfl, Nat.le_of_ble_eq_true rfl, Nat.le_of_ble_eq_true rfl⟩ ⟨Nat.le_of_ble_eq_true rfl, Nat.le_of_ble_eq_true rfl⟩ (Nat.le_of_ble_eq_true rfl) rfl rfl rfl dX11_sendSeveral_102 ?_
        refine v_iinc (v := x2 + 1) C 4 [(2, .int (x2 + 1)), (4, va_rf q5), (3, .int v3), (0, va_rf (some o)), (1, .int x1)] dX11_sendSeveral_105 rfl (k_inc_1 _) (Nat.le_of_ble_eq_true rfl) rfl ?_
        refine v_goto C 23 dX11_sendSeveral_108 rfl ?_
        exact v_sub [3, 4, 0] [(0, va_rf (some o)), (1, .int x1), (2, .int (x2 + 1))] rfl (ih _ _ _ _ E)
set_option maxHeartbeats 4000000 in
theorem w_X11_sendSeveral_0 (C : Cx D cA bs Z p s m args meth c cX11_sendSeveral RX11 5 none) {o : Nat} {K : Sh} {n : Nat} {J : Jm} (ho : (K o).1 = 12) (res : Im × Rf) (x1 : Int32) (I : Im) (R : Rf) (E : f_X11_sendSeveral Z K o x1 I R = some res) : VW D cA bs Z p l e rX11_sendSeveral s m args below meth c 5 [(0, va_rf (some o)), (1, .int x1)] K n I J R 0 0 (MQ below (QX D cA bs Z none K n res.1 J res.2) args s 0 0 (fun q => bs ≤ q)) 0 [] := by
  unfold f_X11_sendSeveral at E
  refine v_aload_n (r := (some o)) C 0 dX11_sendSeveral_0 rfl ?_
  refine v_getR (r := (some o)) C fa_X11_81 rfl rfl ho dX11_sendSeveral_1 ?_
  refine v_aload_n (r := (some o)) C 0 dX11_sendSeveral_4 rfl ?_
  refine v_getR (r := (some o)) C fa_X11_37 rfl rfl ho dX11_sendSeveral_5 ?_
  obtain ⟨a21, h22, E⟩ := bnd E
  obtain ⟨hra21, hoa21⟩ := ob_is h22
  refine v_getR (r := (R o 7)) C fa_X11_123 rfl hra21 hoa21 dX11_sendSeveral_8 ?_
  obtain ⟨a23, h24, E⟩ := bnd E
  obtain ⟨hra23, hoa23⟩ := ob_is h24
  obtain ⟨q25, h26, E⟩ := bnd E
  refine v_callV (r := (R o 15)) (As := [va_rf (R a21 1)]) (rv := none) (st := []) (st1 := []) (ce1 := 0) (sl1 := 0) C cv_X11_195 (c_X10_become (x1 := (R a21 1)) hoa23 h26) hra23 hoa23 rfl rfl ⟨rfl, rfl, Nat.le_of_ble_eq_true rfl, Nat.le_of_ble_eq_true rfl⟩ ⟨Nat.le_of_ble_eq_true rfl, Nat.le_of_ble_eq_true rfl⟩ (Nat.le_of_ble_eq_true rfl) rfl rfl rfl dX11_sendSeveral_11 ?_
  refine v_aload_n (r := (some o)) C 0 dX11_sendSeveral_14 rfl ?_
  refine v_getR (r := (some o)) C fa_X11_74 rfl rfl ho dX11_sendSeveral_15 ?_
  obtain ⟨a27, h28, E⟩ := bnd E
  obtain ⟨hra27, hoa27⟩ := ob_is h28
  obtain ⟨q29, h30, E⟩ := bnd E
  refine v_callV (r := (R o 14)) (As := []) (rv := none) (st := []) (st1 := []) (ce1 := 0) (sl1 := 0) C cv_X11_356 (c_X2_begin  hoa27 h30) hra27 hoa27 rfl rfl ⟨rfl, rfl, Nat.le_of_ble_eq_true rfl, Nat.le_of_ble_eq_true rfl⟩ ⟨Nat.le_of_ble_eq_true rfl, Nat.le_of_ble_eq_true rfl⟩ (Nat.le_of_ble_eq_true rfl) rfl rfl rfl dX11_sendSeveral_18 ?_
  refine v_iconst C dX11_sendSeveral_21 k_iconst_0 ?_
  refine v_istore_n C [(2, .int 0), (0, va_rf (some o)), (1, .int x1)] dX11_sendSeveral_22 (Nat.le_of_ble_eq_true rfl) rfl ?_
  exact v_sub [1, 2, 0] [(0, va_rf (some o)), (1, .int x1), (2, .int 0)] rfl (w_X11_sendSeveral_23 C ho res  _ _ _ _ _ E)
set_option maxHeartbeats 4000000 in
theorem c_X11_sendSeveral {n : Nat} {K : Sh} {I : Im} {J : Jm} {R : Rf} {o : Nat} {x1 : Int32} (ho : (K o).1 = 12) {res : Im × Rf} (E : f_X11_sendSeveral Z K o x1 I R = some res) : Met l yX11_sendSeveral (Cond.code yX11_sendSeveral cX11_sendSeveral 5 none :: tb) rX11_sendSeveral (PX D cA bs Z [.ref o, .int x1] K n I J R) (QX D cA bs Z none K n res.1 J res.2) 0 0 (fun q => bs ≤ q) := by
  refine met_of (lv1 := [(0, va_rf (some o)), (1, .int x1)]) pn_X11 (by exact Nat.le_of_ble_eq_true rfl) (by rfl) ?_
  intro p e s m args below meth c C hn
  exact v_sub [0, 1] [(0, va_rf (some o)), (1, .int x1)] rfl (w_X11_sendSeveral_0 C ho _ _ _ _ E)
set_option maxHeartbeats 4000000 in
theorem w_X11_isOrderOf_2 (C : Cx D cA bs Z p s m args meth c cX11_isOrderOf RX11 3 (some .boolean)) {K : Sh} {n : Nat} {I : Im} {J : Jm} {R : Rf} (res : Int32)  : ∀ (k : Nat), ∀ (x0 : Int32) (x2 : Int32), f_X11_isOrderOf_2 Z K I k x0 x2 = some res → VW D cA bs Z p l e rX11_isOrderOf s m args below meth c 3 [(0, .int x0), (2, .int x2)] K n I J R 0 0 (MQ below (QX D cA bs Z (some (.int res)) K n I J R) args s 0 0 (fun q => bs ≤ q)) 2 [] := by
  intro k
  induction k with
  | zero =>
    intro x0 x2 E
    have E : (none : Option (Int32)) = some res := E
    cases E
  | succ k ih =>
    intro x0 x2 E
    unfold f_X11_isOrderOf_2 at E
    refine v_iload_n C 1 dX11_isOrderOf_2 rfl ?_
    refine v_iconst C dX11_isOrderOf_3 k_iconst_3 ?_
    refine v_icmp_ge C 28 E dX11_isOrderOf_4 rfl (fun c3 E => ?_) (fun c3 E => ?_)
    · refine v_iconst C dX11_isOrderOf_28 k_iconst_1 ?_
      obtain rfl := Option.some.inj E
      exact v_zret (v := 1) C rfl nz_1 dX11_isOrderOf_29
    · refine v_gets C 1 (by decide) gs_X11_243 dX11_isOrderOf_7 ?_
      refine v_iload_n C 0 dX11_isOrderOf_10 rfl ?_
      refine v_iconst C dX11_isOrderOf_11 k_iconst_3 ?_
      refine v_imul C dX11_isOrderOf_12 ?_
      refine v_iload_n C 1 dX11_isOrderOf_13 rfl ?_
      refine v_iadd C dX11_isOrderOf_14 ?_
      refine v_iald (r := (some (Z 1))) C E dX11_isOrderOf_15 (fun v1 _ E => ?_)
      refine v_iload_n C 1 dX11_isOrderOf_16 rfl ?_
      refine v_icmp_eq C 22 E dX11_isOrderOf_17 rfl (fun c2 E => ?_) (fun c2 E => ?_)
      · refine v_iinc (v := x2 + 1) C 1 [(2, .int (x2 + 1)), (0, .int x0)] dX11_isOrderOf_22 rfl (k_inc_1 _) (Nat.le_of_ble_eq_true rfl) rfl ?_
        refine v_goto C 2 dX11_isOrderOf_25 rfl ?_
        exact v_sub [1, 0] [(0, .int x0), (2, .int (x2 + 1))] rfl (ih _ _ E)
      · refine v_iconst C dX11_isOrderOf_20 k_iconst_0 ?_
        obtain rfl := Option.some.inj E
        exact v_zret (v := 0) C rfl nz_0 dX11_isOrderOf_21
set_option maxHeartbeats 4000000 in
theorem w_X11_isOrderOf_0 (C : Cx D cA bs Z p s m args meth c cX11_isOrderOf RX11 3 (some .boolean)) {K : Sh} {n : Nat} {I : Im} {J : Jm} {R : Rf} (res : Int32) (x0 : Int32) (x1 : Int32) (E : f_X11_isOrderOf Z K I x0 x1 = some res) : VW D cA bs Z p l e rX11_isOrderOf s m args below meth c 3 [(0, .int x0), (1, .int x1)] K n I J R 0 0 (MQ below (QX D cA bs Z (some (.int res)) K n I J R) args s 0 0 (fun q => bs ≤ q)) 0 [] := by
  unfold f_X11_isOrderOf at E
  refine v_iload_n C 1 dX11_isOrderOf_0 rfl ?_
  refine v_istore_n C [(2, .int x1), (0, .int x0), (1, .int x1)] dX11_isOrderOf_1 (Nat.le_of_ble_eq_true rfl) rfl ?_
  exact v_sub [1, 0] [(0, .int x0), (2, .int x1)] rfl (w_X11_isOrderOf_2 C res  _ _ _ E)
set_option maxHeartbeats 4000000 in
theorem c_X11_isOrderOf {n : Nat} {K : Sh} {I : Im} {J : Jm} {R : Rf} {x0 : Int32} {x1 : Int32} {res : Int32} (E : f_X11_isOrderOf Z K I x0 x1 = some res) : Met l yX11_isOrderOf (Cond.code yX11_isOrderOf cX11_isOrderOf 3 (some .boolean) :: tb) rX11_isOrderOf (PX D cA bs Z [.int x0, .int x1] K n I J R) (QX D cA bs Z (some (.int res)) K n I J R) 0 0 (fun q => bs ≤ q) := by
  refine met_of (lv1 := [(0, .int x0), (1, .int x1)]) pn_X11 (by exact Nat.le_of_ble_eq_true rfl) (by rfl) ?_
  intro p e s m args below meth c C hn
  exact v_sub [0, 1] [(0, .int x0), (1, .int x1)] rfl (w_X11_isOrderOf_0 C _ _ _ E)
set_option maxHeartbeats 4000000 in
theorem w_X11_all_76 (C : Cx D cA bs Z p s m args meth c cX11_all RX11 3 (some .int)) {o : Nat} {K : Sh} {n : Nat} {J : Jm} (ho : (K o).1 = 12) (res : Int32 × Im × Rf)  : ∀ (k : Nat), ∀ (x1 : Int32) (x2 : Int32) (I : Im) (R : Rf), f_X11_all_76 Z K o k x1 x2 I R = some res → VW D cA bs Z p l e rX11_all s m args below meth c 3 [(0, va_rf (some o)), (1, .int x1), (2, .int x2)] K n I J R 0 0 (MQ below (QX D cA bs Z (some (.int res.1)) K n res.2.1 J res.2.2) args s 0 0 (fun q => bs ≤ q)) 76 [] := by
  intro k
  induction k with
  | zero =>
    intro x1 x2 I R E
    have E : (none : Option (Int32 × Im × Rf)) = some res := E
    cases E
  | succ k ih =>
    intro x1 x2 I R E
    unfold f_X11_all_76 at E
    refine v_iload_n C 2 dX11_all_76 rfl ?_
    refine v_iconst C dX11_all_77 k_iconst_3 ?_
    refine v_imul C dX11_all_78 ?_
    refine v_gets C 1 (by decide) gs_X11_243 dX11_all_79 ?_
    refine v_alen (r := (some (Z 1))) C E dX11_all_82 (fun v1 _ E => ?_)
    refine v_icmp_ge C 119 E dX11_all_83 rfl (fun c22 E => ?_) (fun c22 E => ?_)
    · refine v_iload_n C 1 dX11_all_119 rfl ?_
      refine v_iconst C dX11_all_120 k_iconst_5 ?_
      refine v_icmp_ne C 134 E dX11_all_121 rfl (fun c10 E => ?_) (fun c10 E => ?_)
      · refine v_aload_n (r := (some o)) C 0 dX11_all_124 rfl ?_
        refine v_getR (r := (some o)) C fa_X11_74 rfl rfl ho dX11_all_125 ?_
        obtain ⟨a8, h9, E⟩ := bnd E
        obtain ⟨hra8, hoa8⟩ := ob_is h9
        refine v_getI (r := (R o 14)) C fa_X11_253 rfl hra8 hoa8 dX11_all_128 ?_
        refine v_goto C 151 dX11_all_131 rfl ?_
        obtain rfl := Option.some.inj E
        exact v_iret C rfl dX11_all_151
      · refine v_aload_n (r := (some o)) C 0 dX11_all_134 rfl ?_
        refine v_getR (r := (some o)) C fa_X11_74 rfl rfl ho dX11_all_135 ?_
        refine v_iload_n C 1 dX11_all_138 rfl ?_
        refine v_iconst C dX11_all_139 k_iconst_2 ?_
        refine v_isub C dX11_all_140 ?_
        refine v_aload_n (r := (some o)) C 0 dX11_all_141 rfl ?_
        refine v_getR (r := (some o)) C fa_X11_37 rfl rfl ho dX11_all_142 ?_
        obtain ⟨a2, h3, E⟩ := bnd E
        obtain ⟨hra2, hoa2⟩ := ob_is h3
        refine v_getI (r := (R o 7)) C fa_X11_227 rfl hra2 hoa2 dX11_all_145 ?_
        obtain ⟨a4, h5, E⟩ := bnd E
        obtain ⟨hra4, hoa4⟩ := ob_is h5
        obtain ⟨q6, h7, E⟩ := bnd E
        refine v_callV (r := (R o 14)) (As := [.int (x1 - 2), .int (I a2 4)]) (rv := (some (.int q6))) (st := []) (st1 := [.int q6]) (ce1 := 0) (sl1 := 0) C cv_X11_256 (c_X2_placeAt (x1 := (x1 - 2)) (x2 := (I a2 4)) hoa4 h7) hra4 hoa4 rfl rfl ⟨rfl, rfl, Nat.le_of_ble_eq_true rfl, Nat.le_of_ble_eq_true rfl⟩ ⟨Nat.le_of_ble_eq_true rfl, Nat.le_of_ble_eq_true rfl⟩ (Nat.le_of_ble_eq_true rfl) rfl rfl rfl dX11_all_148 ?_
        obtain rfl := Option.some.inj E
        exact v_iret C rfl dX11_all_151
    · refine v_iload_n C 2 dX11_all_86 rfl ?_
      refine v_aload_n (r := (some o)) C 0 dX11_all_87 rfl ?_
      refine v_getR (r := (some o)) C fa_X11_37 rfl rfl ho dX11_all_88 ?_
      obtain ⟨a11, h12, E⟩ := bnd E
      obtain ⟨hra11, hoa11⟩ := ob_is h12
      refine v_getI (r := (R o 7)) C fa_X11_227 rfl hra11 hoa11 dX11_all_91 ?_
      obtain ⟨q13, h14, E⟩ := bnd E
      refine v_callS (As := [.int x2, .int (I a11 4)]) (rv := (some (.int q13))) (st := []) (st1 := [.int q13]) (ce1 := 0) (sl1 := 0) C cs_X11_246 (c_X11_isOrderOf (x0 := x2) (x1 := (I a11 4)) h14) rfl rfl ⟨rfl, rfl, Nat.le_of_ble_eq_true rfl, Nat.le_of_ble_eq_true rfl⟩ ⟨Nat.le_of_ble_eq_true rfl, Nat.le_of_ble_eq_true rfl⟩ (Nat.le_of_ble_eq_true rfl) rfl rfl rfl dX11_all_94 ?_
      refine v_if_eq C 113 E dX11_all_97 rfl (fun c21 E => ?_) (fun c21 E => ?_)
      · refine v_iinc (v := x2 + 1) C 2 [(2, .int (x2 + 1)), (0, va_rf (some o)), (1, .int x1)] dX11_all_113 rfl (k_inc_1 _) (Nat.le_of_ble_eq_true rfl) rfl ?_
        refine v_goto C 76 dX11_all_116 rfl ?_
        exact v_sub [1, 2, 0] [(0, va_rf (some o)), (1, .int x1), (2, .int (x2 + 1))] rfl (ih _ _ _ _ E)
      · refine v_aload_n (r := (some o)) C 0 dX11_all_100 rfl ?_
        refine v_iload_n C 2 dX11_all_101 rfl ?_
        obtain ⟨q15, h16, E⟩ := bnd E
        refine v_callV (r := (some o)) (As := [.int x2]) (rv := none) (st := []) (st1 := []) (ce1 := 0) (sl1 := 0) C cv_X11_233 (c_X11_sendSeveral (x1 := x2) ho h16) rfl ho rfl rfl ⟨rfl, rfl, Nat.le_of_ble_eq_true rfl, Nat.le_of_ble_eq_true rfl⟩ ⟨Nat.le_of_ble_eq_true rfl, Nat.le_of_ble_eq_true rfl⟩ (Nat.le_of_ble_eq_true rfl) rfl rfl rfl dX11_all_102 ?_
        refine v_aload_n (r := (some o)) C 0 dX11_all_105 rfl ?_
        refine v_getR (r := (some o)) C fa_X11_74 rfl rfl ho dX11_all_106 ?_
        refine v_iload_n C 2 dX11_all_109 rfl ?_
        obtain ⟨a17, h18, E⟩ := bnd E
        obtain ⟨hra17, hoa17⟩ := ob_is h18
        obtain ⟨q19, h20, E⟩ := bnd E
        refine v_callV (r := (q15.2 o 14)) (As := [.int x2]) (rv := none) (st := []) (st1 := []) (ce1 := 0) (sl1 := 0) C cv_X11_250 (c_X2_compare (x1 := x2) hoa17 h20) hra17 hoa17 rfl rfl ⟨rfl, rfl, Nat.le_of_ble_eq_true rfl, Nat.le_of_ble_eq_true rfl⟩ ⟨Nat.le_of_ble_eq_true rfl, Nat.le_of_ble_eq_true rfl⟩ (Nat.le_of_ble_eq_true rfl) rfl rfl rfl dX11_all_110 ?_
        refine v_iinc (v := x2 + 1) C 2 [(2, .int (x2 + 1)), (0, va_rf (some o)), (1, .int x1)] dX11_all_113 rfl (k_inc_1 _) (Nat.le_of_ble_eq_true rfl) rfl ?_
        refine v_goto C 76 dX11_all_116 rfl ?_
        exact v_sub [1, 2, 0] [(0, va_rf (some o)), (1, .int x1), (2, .int (x2 + 1))] rfl (ih _ _ _ _ E)
set_option maxHeartbeats 4000000 in
theorem w_X11_all_53 (C : Cx D cA bs Z p s m args meth c cX11_all RX11 3 (some .int)) {o : Nat} {K : Sh} {n : Nat} {J : Jm} (ho : (K o).1 = 12) (res : Int32 × Im × Rf) (x1 : Int32) (I : Im) (R : Rf) (E : f_X11_all_53 Z K o x1 I R = some res) : VW D cA bs Z p l e rX11_all s m args below meth c 3 [(0, va_rf (some o)), (1, .int x1)] K n I J R 0 0 (MQ below (QX D cA bs Z (some (.int res.1)) K n res.2.1 J res.2.2) args s 0 0 (fun q => bs ≤ q)) 53 [] := by
  unfold f_X11_all_53 at E
  refine v_aload_n (r := (some o)) C 0 dX11_all_53 rfl ?_
  refine v_iconst C dX11_all_54 k_iconst_0 ?_
  obtain ⟨q23, h24, E⟩ := bnd E
  refine v_callV (r := (some o)) (As := [.int 0]) (rv := none) (st := []) (st1 := []) (ce1 := 0) (sl1 := 0) C cv_X11_233 (c_X11_sendSeveral (x1 := 0) ho h24) rfl ho rfl rfl ⟨rfl, rfl, Nat.le_of_ble_eq_true rfl, Nat.le_of_ble_eq_true rfl⟩ ⟨Nat.le_of_ble_eq_true rfl, Nat.le_of_ble_eq_true rfl⟩ (Nat.le_of_ble_eq_true rfl) rfl rfl rfl dX11_all_55 ?_
  refine v_aload_n (r := (some o)) C 0 dX11_all_58 rfl ?_
  refine v_getR (r := (some o)) C fa_X11_74 rfl rfl ho dX11_all_59 ?_
  refine v_iload_n C 1 dX11_all_62 rfl ?_
  obtain ⟨a25, h26, E⟩ := bnd E
  obtain ⟨hra25, hoa25⟩ := ob_is h26
  obtain ⟨q27, h28, E⟩ := bnd E
  refine v_callV (r := (q23.2 o 14)) (As := [.int x1]) (rv := (some (.int q27))) (st := []) (st1 := [.int q27]) (ce1 := 0) (sl1 := 0) C cv_X11_237 (c_X2_tell (x1 := x1) hoa25 h28) hra25 hoa25 rfl rfl ⟨rfl, rfl, Nat.le_of_ble_eq_true rfl, Nat.le_of_ble_eq_true rfl⟩ ⟨Nat.le_of_ble_eq_true rfl, Nat.le_of_ble_eq_true rfl⟩ (Nat.le_of_ble_eq_true rfl) rfl rfl rfl dX11_all_63 ?_
  obtain rfl := Option.some.inj E
  exact v_iret C rfl dX11_all_66
set_option maxHeartbeats 4000000 in
theorem w_X11_all_30 (C : Cx D cA bs Z p s m args meth c cX11_all RX11 3 (some .int)) {o : Nat} {K : Sh} {n : Nat} {J : Jm} (ho : (K o).1 = 12) (res : Int32 × Im × Rf) (x1 : Int32) (I : Im) (R : Rf) (E : f_X11_all_30 Z K o x1 I R = some res) : VW D cA bs Z p l e rX11_all s m args below meth c 3 [(0, va_rf (some o)), (1, .int x1)] K n I J R 0 0 (MQ below (QX D cA bs Z (some (.int res.1)) K n res.2.1 J res.2.2) args s 0 0 (fun q => bs ≤ q)) 30 [] := by
  unfold f_X11_all_30 at E
  refine v_aload_n (r := (some o)) C 0 dX11_all_30 rfl ?_
  refine v_getR (r := (some o)) C fa_X11_37 rfl rfl ho dX11_all_31 ?_
  obtain ⟨a29, h30, E⟩ := bnd E
  obtain ⟨hra29, hoa29⟩ := ob_is h30
  refine v_getR (r := (R o 7)) C fa_X11_120 rfl hra29 hoa29 dX11_all_34 ?_
  refine v_ifnonnull (r := (R a29 0)) C 43 E dX11_all_37 rfl (fun c37 E => ?_) (fun c37 E => ?_)
  · refine v_bipush C dX11_all_40 k_bipush_m3 ?_
    obtain rfl := Option.some.inj E
    exact v_iret C rfl dX11_all_42
  · refine v_iload_n C 1 dX11_all_43 rfl ?_
    refine v_iconst C dX11_all_44 k_iconst_2 ?_
    refine v_icmp_lt C 53 E dX11_all_45 rfl (fun c36 E => ?_) (fun c36 E => ?_)
    · exact v_sub [0, 1] [(0, va_rf (some o)), (1, .int x1)] rfl (w_X11_all_53 C ho res  _ _ _ E)
    · refine v_iload_n C 1 dX11_all_48 rfl ?_
      refine v_iconst C dX11_all_49 k_iconst_5 ?_
      refine v_icmp_le C 67 E dX11_all_50 rfl (fun c35 E => ?_) (fun c35 E => ?_)
      · refine v_aload_n (r := (some o)) C 0 dX11_all_67 rfl ?_
        refine v_getR (r := (some o)) C fa_X11_74 rfl rfl ho dX11_all_68 ?_
        obtain ⟨a31, h32, E⟩ := bnd E
        obtain ⟨hra31, hoa31⟩ := ob_is h32
        obtain ⟨q33, h34, E⟩ := bnd E
        refine v_callV (r := (R o 14)) (As := []) (rv := none) (st := []) (st1 := []) (ce1 := 0) (sl1 := 0) C cv_X11_240 (c_X2_forgetOrder  hoa31 h34) hra31 hoa31 rfl rfl ⟨rfl, rfl, Nat.le_of_ble_eq_true rfl, Nat.le_of_ble_eq_true rfl⟩ ⟨Nat.le_of_ble_eq_true rfl, Nat.le_of_ble_eq_true rfl⟩ (Nat.le_of_ble_eq_true rfl) rfl rfl rfl dX11_all_71 ?_
        refine v_iconst C dX11_all_74 k_iconst_0 ?_
        refine v_istore_n C [(2, .int 0), (0, va_rf (some o)), (1, .int x1)] dX11_all_75 (Nat.le_of_ble_eq_true rfl) rfl ?_
        exact v_sub [1, 2, 0] [(0, va_rf (some o)), (1, .int x1), (2, .int 0)] rfl (w_X11_all_76 C ho res  _ _ _ _ _ E)
      · exact v_sub [0, 1] [(0, va_rf (some o)), (1, .int x1)] rfl (w_X11_all_53 C ho res  _ _ _ E)
set_option maxHeartbeats 4000000 in
theorem w_X11_all_0 (C : Cx D cA bs Z p s m args meth c cX11_all RX11 3 (some .int)) {o : Nat} {K : Sh} {n : Nat} {J : Jm} (ho : (K o).1 = 12) (res : Int32 × Im × Rf) (x1 : Int32) (I : Im) (R : Rf) (E : f_X11_all Z K o x1 I R = some res) : VW D cA bs Z p l e rX11_all s m args below meth c 3 [(0, va_rf (some o)), (1, .int x1)] K n I J R 0 0 (MQ below (QX D cA bs Z (some (.int res.1)) K n res.2.1 J res.2.2) args s 0 0 (fun q => bs ≤ q)) 0 [] := by
  unfold f_X11_all at E
  refine v_iload_n C 1 dX11_all_0 rfl ?_
  refine v_iconst C dX11_all_1 k_iconst_0 ?_
  refine v_iconst C dX11_all_2 k_iconst_5 ?_
  obtain ⟨q38, h39, E⟩ := bnd E
  refine v_callS (As := [.int x1, .int 0, .int 5]) (rv := (some (.int q38))) (st := []) (st1 := [.int q38]) (ce1 := 0) (sl1 := 0) C cs_X11_101 (c_X11_within (x0 := x1) (x1 := 0) (x2 := 5) h39) rfl rfl ⟨rfl, rfl, Nat.le_of_ble_eq_true rfl, Nat.le_of_ble_eq_true rfl⟩ ⟨Nat.le_of_ble_eq_true rfl, Nat.le_of_ble_eq_true rfl⟩ (Nat.le_of_ble_eq_true rfl) rfl rfl rfl dX11_all_3 ?_
  refine v_if_ne C 30 E dX11_all_6 rfl (fun c45 E => ?_) (fun c45 E => ?_)
  · refine v_iload_n C 1 dX11_all_9 rfl ?_
    refine v_bipush C dX11_all_10 k_bipush_10 ?_
    refine v_bipush C dX11_all_12 k_bipush_9 ?_
    refine v_aload_n (r := (some o)) C 0 dX11_all_14 rfl ?_
    refine v_getR (r := (some o)) C fa_X11_37 rfl rfl ho dX11_all_15 ?_
    obtain ⟨a40, h41, E⟩ := bnd E
    obtain ⟨hra40, hoa40⟩ := ob_is h41
    refine v_getI (r := (R o 7)) C fa_X11_227 rfl hra40 hoa40 dX11_all_18 ?_
    refine v_iadd C dX11_all_21 ?_
    obtain ⟨q42, h43, E⟩ := bnd E
    refine v_callS (As := [.int x1, .int 10, .int (9 + (I a40 4))]) (rv := (some (.int q42))) (st := []) (st1 := [.int q42]) (ce1 := 0) (sl1 := 0) C cs_X11_101 (c_X11_within (x0 := x1) (x1 := 10) (x2 := (9 + (I a40 4))) h43) rfl rfl ⟨rfl, rfl, Nat.le_of_ble_eq_true rfl, Nat.le_of_ble_eq_true rfl⟩ ⟨Nat.le_of_ble_eq_true rfl, Nat.le_of_ble_eq_true rfl⟩ (Nat.le_of_ble_eq_true rfl) rfl rfl rfl dX11_all_22 ?_
    refine v_if_ne C 30 E dX11_all_25 rfl (fun c44 E => ?_) (fun c44 E => ?_)
    · refine v_iconst C dX11_all_28 k_iconst_m1 ?_
      obtain rfl := Option.some.inj E
      exact v_iret C rfl dX11_all_29
    · exact v_sub [0, 1] [(0, va_rf (some o)), (1, .int x1)] rfl (w_X11_all_30 C ho res  _ _ _ E)
  · exact v_sub [0, 1] [(0, va_rf (some o)), (1, .int x1)] rfl (w_X11_all_30 C ho res  _ _ _ E)
set_option maxHeartbeats 4000000 in
theorem c_X11_all {n : Nat} {K : Sh} {I : Im} {J : Jm} {R : Rf} {o : Nat} {x1 : Int32} (ho : (K o).1 = 12) {res : Int32 × Im × Rf} (E : f_X11_all Z K o x1 I R = some res) : Met l yX11_all (Cond.code yX11_all cX11_all 3 (some .int) :: tb) rX11_all (PX D cA bs Z [.ref o, .int x1] K n I J R) (QX D cA bs Z (some (.int res.1)) K n res.2.1 J res.2.2) 0 0 (fun q => bs ≤ q) := by
  refine met_of (lv1 := [(0, va_rf (some o)), (1, .int x1)]) pn_X11 (by exact Nat.le_of_ble_eq_true rfl) (by rfl) ?_
  intro p e s m args below meth c C hn
  exact v_sub [0, 1] [(0, va_rf (some o)), (1, .int x1)] rfl (w_X11_all_0 C ho _ _ _ _ E)
set_option maxHeartbeats 4000000 in
theorem w_X11_weightOf_64 (C : Cx D cA bs Z p s m args meth c cX11_weightOf RX11 5 (some .int)) {o : Nat} {K : Sh} {n : Nat} {I : Im} {J : Jm} {R : Rf} (ho : (K o).1 = 12) (res : Int32) (r4 : Int32 → Int32 → Int32 → Option (Int32)) (hr4 : ∀ (x1 : Int32) (x2 : Int32) (x3 : Int32) , r4 x1 x2 x3 = some res → VW D cA bs Z p l e rX11_weightOf s m args below meth c 5 [(0, va_rf (some o)), (1, .int x1), (2, .int x2), (3, .int x3)] K n I J R 0 0 (MQ below (QX D cA bs Z (some (.int res)) K n I J R) args s 0 0 (fun q => bs ≤ q)) 4 []) (x1 : Int32) (x3 : Int32) (s0 : Int32) (s1 : Int32) (E : f_X11_weightOf_64 K I R o r4 x1 x3 s0 s1 = some res) : VW D cA bs Z p l e rX11_weightOf s m args below meth c 5 [(0, va_rf (some o)), (1, .int x1), (3, .int x3)] K n I J R 0 0 (MQ below (QX D cA bs Z (some (.int res)) K n I J R) args s 0 0 (fun q => bs ≤ q)) 64 [.int s1, .int s0] := by
  unfold f_X11_weightOf_64 at E
  refine v_imul C dX11_weightOf_64 ?_
  refine v_istore_n C [(2, .int (s0 * s1)), (0, va_rf (some o)), (1, .int x1), (3, .int x3)] dX11_weightOf_65 (Nat.le_of_ble_eq_true rfl) rfl ?_
  refine v_iinc (v := x3 + 1) C 3 [(3, .int (x3 + 1)), (2, .int (s0 * s1)), (0, va_rf (some o)), (1, .int x1)] dX11_weightOf_66 rfl (k_inc_1 _) (Nat.le_of_ble_eq_true rfl) rfl ?_
  refine v_goto C 4 dX11_weightOf_69 rfl ?_
  exact v_sub [2, 3, 1, 0] [(0, va_rf (some o)), (1, .int x1), (2, .int (s0 * s1)), (3, .int (x3 + 1))] rfl (hr4 _ _ _ E)
set_option maxHeartbeats 4000000 in
theorem w_X11_weightOf_32 (C : Cx D cA bs Z p s m args meth c cX11_weightOf RX11 5 (some .int)) {o : Nat} {K : Sh} {n : Nat} {I : Im} {J : Jm} {R : Rf} (ho : (K o).1 = 12) (res : Int32) (r4 : Int32 → Int32 → Int32 → Option (Int32)) (hr4 : ∀ (x1 : Int32) (x2 : Int32) (x3 : Int32) , r4 x1 x2 x3 = some res → VW D cA bs Z p l e rX11_weightOf s m args below meth c 5 [(0, va_rf (some o)), (1, .int x1), (2, .int x2), (3, .int x3)] K n I J R 0 0 (MQ below (QX D cA bs Z (some (.int res)) K n I J R) args s 0 0 (fun q => bs ≤ q)) 4 []) (x1 : Int32) (x2 : Int32) (x3 : Int32) (s0 : Int32) (E : f_X11_weightOf_32 K I R o r4 x1 x2 x3 s0 = some res) : VW D cA bs Z p l e rX11_weightOf s m args below meth c 5 [(0, va_rf (some o)), (1, .int x1), (2, .int x2), (3, .int x3)] K n I J R 0 0 (MQ below (QX D cA bs Z (some (.int res)) K n I J R) args s 0 0 (fun q => bs ≤ q)) 32 [.int s0] := by
  unfold f_X11_weightOf_32 at E
  refine v_istore C [(4, .int s0), (0, va_rf (some o)), (1, .int x1), (2, .int x2), (3, .int x3)] dX11_weightOf_32 (Nat.le_of_ble_eq_true rfl) rfl ?_
  refine v_iload_n C 3 dX11_weightOf_34 rfl ?_
  refine v_iload C 0 dX11_weightOf_35 rfl ?_
  refine v_if_eq C 52 E dX11_weightOf_37 rfl (fun c7 E => ?_) (fun c7 E => ?_)
  · refine v_bipush C dX11_weightOf_52 k_bipush_10 ?_
    refine v_aload_n (r := (some o)) C 1 dX11_weightOf_54 rfl ?_
    refine v_getR (r := (some o)) C fa_X11_37 rfl rfl ho dX11_weightOf_55 ?_
    obtain ⟨a1, h2, E⟩ := bnd E
    obtain ⟨hra1, hoa1⟩ := ob_is h2
    refine v_getR (r := (R o 7)) C fa_X11_153 rfl hra1 hoa1 dX11_weightOf_58 ?_
    refine v_iload_n C 4 dX11_weightOf_61 rfl ?_
    refine v_iald (r := (R a1 2)) C E dX11_weightOf_62 (fun v3 _ E => ?_)
    refine v_isub C dX11_weightOf_63 ?_
    exact v_sub [1, 2, 4] [(0, va_rf (some o)), (1, .int x1), (3, .int x3)] rfl (w_X11_weightOf_64 C ho res _ hr4 _ _ _ _ E)
  · refine v_aload_n (r := (some o)) C 1 dX11_weightOf_40 rfl ?_
    refine v_getR (r := (some o)) C fa_X11_37 rfl rfl ho dX11_weightOf_41 ?_
    obtain ⟨a4, h5, E⟩ := bnd E
    obtain ⟨hra4, hoa4⟩ := ob_is h5
    refine v_getR (r := (R o 7)) C fa_X11_153 rfl hra4 hoa4 dX11_weightOf_44 ?_
    refine v_iload_n C 4 dX11_weightOf_47 rfl ?_
    refine v_iald (r := (R a4 2)) C E dX11_weightOf_48 (fun v6 _ E => ?_)
    refine v_goto C 64 dX11_weightOf_49 rfl ?_
    exact v_sub [1, 2, 4] [(0, va_rf (some o)), (1, .int x1), (3, .int x3)] rfl (w_X11_weightOf_64 C ho res _ hr4 _ _ _ _ E)
set_option maxHeartbeats 4000000 in
theorem w_X11_weightOf_4 (C : Cx D cA bs Z p s m args meth c cX11_weightOf RX11 5 (some .int)) {o : Nat} {K : Sh} {n : Nat} {I : Im} {J : Jm} {R : Rf} (ho : (K o).1 = 12) (res : Int32)  : ∀ (k : Nat), ∀ (x1 : Int32) (x2 : Int32) (x3 : Int32), f_X11_weightOf_4 K I R o k x1 x2 x3 = some res → VW D cA bs Z p l e rX11_weightOf s m args below meth c 5 [(0, va_rf (some o)), (1, .int x1), (2, .int x2), (3, .int x3)] K n I J R 0 0 (MQ below (QX D cA bs Z (some (.int res)) K n I J R) args s 0 0 (fun q => bs ≤ q)) 4 [] := by
  intro k
  induction k with
  | zero =>
    intro x1 x2 x3 E
    have E : (none : Option (Int32)) = some res := E
    cases E
  | succ k ih =>
    intro x1 x2 x3 E
    unfold f_X11_weightOf_4 at E
    refine v_iload_n C 3 dX11_weightOf_4 rfl ?_
    refine v_aload_n (r := (some o)) C 0 dX11_weightOf_5 rfl ?_
    refine v_getR (r := (some o)) C fa_X11_37 rfl rfl ho dX11_weightOf_6 ?_
    obtain ⟨a8, h9, E⟩ := bnd E
    obtain ⟨hra8, hoa8⟩ := ob_is h9
    refine v_getR (r := (R o 7)) C fa_X11_120 rfl hra8 hoa8 dX11_weightOf_9 ?_
    obtain ⟨a10, h11, E⟩ := bnd E
    obtain ⟨hra10, hoa10⟩ := ob_is h11
    refine v_getI (r := (R a8 0)) C fa_X11_134 rfl hra10 hoa10 dX11_weightOf_12 ?_
    refine v_icmp_ge C 72 E dX11_weightOf_15 rfl (fun c13 E => ?_) (fun c13 E => ?_)
    · refine v_iload_n C 2 dX11_weightOf_72 rfl ?_
      obtain rfl := Option.some.inj E
      exact v_iret C rfl dX11_weightOf_73
    · refine v_iload_n C 1 dX11_weightOf_18 rfl ?_
      refine v_iload_n C 3 dX11_weightOf_19 rfl ?_
      refine v_ishr C dX11_weightOf_20 ?_
      refine v_iconst C dX11_weightOf_21 k_iconst_1 ?_
      refine v_iand C dX11_weightOf_22 ?_
      refine v_iconst C dX11_weightOf_23 k_iconst_1 ?_
      refine v_icmp_ne C 31 E dX11_weightOf_24 rfl (fun c12 E => ?_) (fun c12 E => ?_)
      · refine v_iconst C dX11_weightOf_27 k_iconst_1 ?_
        refine v_goto C 32 dX11_weightOf_28 rfl ?_
        exact v_sub [0, 1, 2, 3] [(0, va_rf (some o)), (1, .int x1), (2, .int x2), (3, .int x3)] rfl (w_X11_weightOf_32 C ho res _ ih _ _ _ _ E)
      · refine v_iconst C dX11_weightOf_31 k_iconst_0 ?_
        exact v_sub [0, 1, 2, 3] [(0, va_rf (some o)), (1, .int x1), (2, .int x2), (3, .int x3)] rfl (w_X11_weightOf_32 C ho res _ ih _ _ _ _ E)
set_option maxHeartbeats 4000000 in
theorem w_X11_weightOf_0 (C : Cx D cA bs Z p s m args meth c cX11_weightOf RX11 5 (some .int)) {o : Nat} {K : Sh} {n : Nat} {I : Im} {J : Jm} {R : Rf} (ho : (K o).1 = 12) (res : Int32) (x1 : Int32) (E : f_X11_weightOf K I R o x1 = some res) : VW D cA bs Z p l e rX11_weightOf s m args below meth c 5 [(0, va_rf (some o)), (1, .int x1)] K n I J R 0 0 (MQ below (QX D cA bs Z (some (.int res)) K n I J R) args s 0 0 (fun q => bs ≤ q)) 0 [] := by
  unfold f_X11_weightOf at E
  refine v_iconst C dX11_weightOf_0 k_iconst_1 ?_
  refine v_istore_n C [(2, .int 1), (0, va_rf (some o)), (1, .int x1)] dX11_weightOf_1 (Nat.le_of_ble_eq_true rfl) rfl ?_
  refine v_iconst C dX11_weightOf_2 k_iconst_0 ?_
  refine v_istore_n C [(3, .int 0), (2, .int 1), (0, va_rf (some o)), (1, .int x1)] dX11_weightOf_3 (Nat.le_of_ble_eq_true rfl) rfl ?_
  exact v_sub [2, 3, 1, 0] [(0, va_rf (some o)), (1, .int x1), (2, .int 1), (3, .int 0)] rfl (w_X11_weightOf_4 C ho res  _ _ _ _ E)
set_option maxHeartbeats 4000000 in
theorem c_X11_weightOf {n : Nat} {K : Sh} {I : Im} {J : Jm} {R : Rf} {o : Nat} {x1 : Int32} (ho : (K o).1 = 12) {res : Int32} (E : f_X11_weightOf K I R o x1 = some res) : Met l yX11_weightOf (Cond.code yX11_weightOf cX11_weightOf 5 (some .int) :: tb) rX11_weightOf (PX D cA bs Z [.ref o, .int x1] K n I J R) (QX D cA bs Z (some (.int res)) K n I J R) 0 0 (fun q => bs ≤ q) := by
  refine met_of (lv1 := [(0, va_rf (some o)), (1, .int x1)]) pn_X11 (by exact Nat.le_of_ble_eq_true rfl) (by rfl) ?_
  intro p e s m args below meth c C hn
  exact v_sub [0, 1] [(0, va_rf (some o)), (1, .int x1)] rfl (w_X11_weightOf_0 C ho _ _ E)
set_option maxHeartbeats 4000000 in
theorem w_X11_comesOverWithDry_16 (C : Cx D cA bs Z p s m args meth c cX11_comesOverWithDry RX11 4 (some .boolean)) {o : Nat} {K : Sh} {n : Nat} {J : Jm} (ho : (K o).1 = 12) (res : Int32 × Im × Rf)  : ∀ (k : Nat), ∀ (x1 : Int32) (x2 : Option Nat) (x3 : Int32) (I : Im) (R : Rf), f_X11_comesOverWithDry_16 K o k x1 x2 x3 I R = some res → VW D cA bs Z p l e rX11_comesOverWithDry s m args below meth c 4 [(0, va_rf (some o)), (1, .int x1), (2, va_rf x2), (3, .int x3)] K n I J R 0 0 (MQ below (QX D cA bs Z (some (.int res.1)) K n res.2.1 J res.2.2) args s 0 0 (fun q => bs ≤ q)) 16 [] := by
  intro k
  induction k with
  | zero =>
    intro x1 x2 x3 I R E
    have E : (none : Option (Int32 × Im × Rf)) = some res := E
    cases E
  | succ k ih =>
    intro x1 x2 x3 I R E
    unfold f_X11_comesOverWithDry_16 at E
    refine v_iload_n C 3 dX11_comesOverWithDry_16 rfl ?_
    refine v_aload_n (r := (some o)) C 0 dX11_comesOverWithDry_17 rfl ?_
    refine v_getR (r := (some o)) C fa_X11_37 rfl rfl ho dX11_comesOverWithDry_18 ?_
    obtain ⟨a1, h2, E⟩ := bnd E
    obtain ⟨hra1, hoa1⟩ := ob_is h2
    refine v_getR (r := (R o 7)) C fa_X11_120 rfl hra1 hoa1 dX11_comesOverWithDry_21 ?_
    obtain ⟨a3, h4, E⟩ := bnd E
    obtain ⟨hra3, hoa3⟩ := ob_is h4
    refine v_getI (r := (R a1 0)) C fa_X11_134 rfl hra3 hoa3 dX11_comesOverWithDry_24 ?_
    refine v_icmp_ge C 53 E dX11_comesOverWithDry_27 rfl (fun c15 E => ?_) (fun c15 E => ?_)
    · refine v_aload_n (r := (some o)) C 0 dX11_comesOverWithDry_53 rfl ?_
      refine v_aload_n (r := (some o)) C 0 dX11_comesOverWithDry_54 rfl ?_
      refine v_getR (r := (some o)) C fa_X11_37 rfl rfl ho dX11_comesOverWithDry_55 ?_
      refine v_getR (r := (R o 7)) C fa_X11_120 rfl hra1 hoa1 dX11_comesOverWithDry_58 ?_
      refine v_aload_n (r := (some o)) C 0 dX11_comesOverWithDry_61 rfl ?_
      refine v_getR (r := (some o)) C fa_X11_81 rfl rfl ho dX11_comesOverWithDry_62 ?_
      refine v_aload_n (r := x2) C 2 dX11_comesOverWithDry_65 rfl ?_
      obtain ⟨q5, h6, E⟩ := bnd E
      refine v_callV (r := (some o)) (As := [va_rf (R a1 0), va_rf (R o 15), va_rf x2]) (rv := none) (st := []) (st1 := []) (ce1 := 0) (sl1 := 0) C cv_X11_198 (c_X11_send (x1 := (R a1 0)) (x2 := (R o 15)) (x3 := x2) ho h6) rfl ho rfl rfl ⟨rfl, rfl, Nat.le_of_ble_eq_true rfl, Nat.le_of_ble_eq_true rfl⟩ ⟨Nat.le_of_ble_eq_true rfl, Nat.le_of_ble_eq_true rfl⟩ (Nat.le_of_ble_eq_true rfl) rfl rfl rfl dX11_comesOverWithDry_66 ?_
      refine v_aload_n (r := (some o)) C 0 dX11_comesOverWithDry_69 rfl ?_
      refine v_getR (r := (some o)) C fa_X11_60 rfl rfl ho dX11_comesOverWithDry_70 ?_
      obtain ⟨a7, h8, E⟩ := bnd E
      obtain ⟨hra7, hoa7⟩ := ob_is h8
      refine v_getI (r := (q5.2 o 12)) C fa_X11_208 rfl hra7 hoa7 dX11_comesOverWithDry_73 ?_
      refine v_bipush C dX11_comesOverWithDry_76 k_bipush_m5 ?_
      refine v_icmp_eq C 85 E dX11_comesOverWithDry_78 rfl (fun c9 E => ?_) (fun c9 E => ?_)
      · refine v_iconst C dX11_comesOverWithDry_85 k_iconst_0 ?_
        obtain rfl := Option.some.inj E
        exact v_zret (v := 0) C rfl nz_0 dX11_comesOverWithDry_86
      · refine v_iconst C dX11_comesOverWithDry_81 k_iconst_1 ?_
        refine v_goto C 86 dX11_comesOverWithDry_82 rfl ?_
        obtain rfl := Option.some.inj E
        exact v_zret (v := 1) C rfl nz_1 dX11_comesOverWithDry_86
    · refine v_iload_n C 1 dX11_comesOverWithDry_30 rfl ?_
      refine v_iload_n C 3 dX11_comesOverWithDry_31 rfl ?_
      refine v_ishr C dX11_comesOverWithDry_32 ?_
      refine v_iconst C dX11_comesOverWithDry_33 k_iconst_1 ?_
      refine v_iand C dX11_comesOverWithDry_34 ?_
      refine v_iconst C dX11_comesOverWithDry_35 k_iconst_1 ?_
      refine v_icmp_ne C 47 E dX11_comesOverWithDry_36 rfl (fun c14 E => ?_) (fun c14 E => ?_)
      · refine v_aload_n (r := (some o)) C 0 dX11_comesOverWithDry_39 rfl ?_
        refine v_getR (r := (some o)) C fa_X11_81 rfl rfl ho dX11_comesOverWithDry_40 ?_
        refine v_iload_n C 3 dX11_comesOverWithDry_43 rfl ?_
        obtain ⟨a10, h11, E⟩ := bnd E
        obtain ⟨hra10, hoa10⟩ := ob_is h11
        obtain ⟨q12, h13, E⟩ := bnd E
        refine v_callV (r := (R o 15)) (As := [.int x3]) (rv := none) (st := []) (st1 := []) (ce1 := 0) (sl1 := 0) C cv_X11_362 (c_X10_dryUp (x1 := x3) hoa10 h13) hra10 hoa10 rfl rfl ⟨rfl, rfl, Nat.le_of_ble_eq_true rfl, Nat.le_of_ble_eq_true rfl⟩ ⟨Nat.le_of_ble_eq_true rfl, Nat.le_of_ble_eq_true rfl⟩ (Nat.le_of_ble_eq_true rfl) rfl rfl rfl dX11_comesOverWithDry_44 ?_
        refine v_iinc (v := x3 + 1) C 3 [(3, .int (x3 + 1)), (0, va_rf (some o)), (1, .int x1), (2, va_rf x2)] dX11_comesOverWithDry_47 rfl (k_inc_1 _) (Nat.le_of_ble_eq_true rfl) (by generalize x2 = rr; cases rr <;> rfl) ?_
        refine v_goto C 16 dX11_comesOverWithDry_50 rfl ?_
        exact v_sub [1, 2, 3, 0] [(0, va_rf (some o)), (1, .int x1), (2, va_rf x2), (3, .int (x3 + 1))] rfl (ih _ _ _ _ _ E)
      · refine v_iinc (v := x3 + 1) C 3 [(3, .int (x3 + 1)), (0, va_rf (some o)), (1, .int x1), (2, va_rf x2)] dX11_comesOverWithDry_47 rfl (k_inc_1 _) (Nat.le_of_ble_eq_true rfl) (by generalize x2 = rr; cases rr <;> rfl) ?_
        refine v_goto C 16 dX11_comesOverWithDry_50 rfl ?_
        exact v_sub [1, 2, 3, 0] [(0, va_rf (some o)), (1, .int x1), (2, va_rf x2), (3, .int (x3 + 1))] rfl (ih _ _ _ _ _ E)
set_option maxHeartbeats 4000000 in
theorem w_X11_comesOverWithDry_0 (C : Cx D cA bs Z p s m args meth c cX11_comesOverWithDry RX11 4 (some .boolean)) {o : Nat} {K : Sh} {n : Nat} {J : Jm} (ho : (K o).1 = 12) (res : Int32 × Im × Rf) (x1 : Int32) (x2 : Option Nat) (I : Im) (R : Rf) (E : f_X11_comesOverWithDry K o x1 x2 I R = some res) : VW D cA bs Z p l e rX11_comesOverWithDry s m args below meth c 4 [(0, va_rf (some o)), (1, .int x1), (2, va_rf x2)] K n I J R 0 0 (MQ below (QX D cA bs Z (some (.int res.1)) K n res.2.1 J res.2.2) args s 0 0 (fun q => bs ≤ q)) 0 [] := by
  unfold f_X11_comesOverWithDry at E
  refine v_aload_n (r := (some o)) C 0 dX11_comesOverWithDry_0 rfl ?_
  refine v_getR (r := (some o)) C fa_X11_81 rfl rfl ho dX11_comesOverWithDry_1 ?_
  refine v_aload_n (r := (some o)) C 0 dX11_comesOverWithDry_4 rfl ?_
  refine v_getR (r := (some o)) C fa_X11_37 rfl rfl ho dX11_comesOverWithDry_5 ?_
  obtain ⟨a16, h17, E⟩ := bnd E
  obtain ⟨hra16, hoa16⟩ := ob_is h17
  refine v_getR (r := (R o 7)) C fa_X11_123 rfl hra16 hoa16 dX11_comesOverWithDry_8 ?_
  obtain ⟨a18, h19, E⟩ := bnd E
  obtain ⟨hra18, hoa18⟩ := ob_is h19
  obtain ⟨q20, h21, E⟩ := bnd E
  refine v_callV (r := (R o 15)) (As := [va_rf (R a16 1)]) (rv := none) (st := []) (st1 := []) (ce1 := 0) (sl1 := 0) C cv_X11_195 (c_X10_become (x1 := (R a16 1)) hoa18 h21) hra18 hoa18 rfl rfl ⟨rfl, rfl, Nat.le_of_ble_eq_true rfl, Nat.le_of_ble_eq_true rfl⟩ ⟨Nat.le_of_ble_eq_true rfl, Nat.le_of_ble_eq_true rfl⟩ (Nat.le_of_ble_eq_true rfl) rfl rfl rfl dX11_comesOverWithDry_11 ?_
  refine v_iconst C dX11_comesOverWithDry_14 k_iconst_0 ?_
  refine v_istore_n C [(3, .int 0), (0, va_rf (some o)), (1, .int x1), (2, va_rf x2)] dX11_comesOverWithDry_15 (Nat.le_of_ble_eq_true rfl) (by generalize x2 = rr; cases rr <;> rfl) ?_
  exact v_sub [1, 2, 3, 0] [(0, va_rf (some o)), (1, .int x1), (2, va_rf x2), (3, .int 0)] rfl (w_X11_comesOverWithDry_16 C ho res  _ _ _ _ _ _ E)
set_option maxHeartbeats 4000000 in
theorem c_X11_comesOverWithDry {n : Nat} {K : Sh} {I : Im} {J : Jm} {R : Rf} {o : Nat} {x1 : Int32} {x2 : Option Nat} (ho : (K o).1 = 12) {res : Int32 × Im × Rf} (E : f_X11_comesOverWithDry K o x1 x2 I R = some res) : Met l yX11_comesOverWithDry (Cond.code yX11_comesOverWithDry cX11_comesOverWithDry 4 (some .boolean) :: tb) rX11_comesOverWithDry (PX D cA bs Z [.ref o, .int x1, va_rf x2] K n I J R) (QX D cA bs Z (some (.int res.1)) K n res.2.1 J res.2.2) 0 0 (fun q => bs ≤ q) := by
  refine met_of (lv1 := [(0, va_rf (some o)), (1, .int x1), (2, va_rf x2)]) pn_X11 (by cases x2 <;> exact Nat.le_of_ble_eq_true rfl) (by cases x2 <;> rfl) ?_
  intro p e s m args below meth c C hn
  exact v_sub [0, 1, 2] [(0, va_rf (some o)), (1, .int x1), (2, va_rf x2)] rfl (w_X11_comesOverWithDry_0 C ho _ _ _ _ _ E)
set_option maxHeartbeats 4000000 in
theorem w_X11_commonDivisor_7 (C : Cx D cA bs Z p s m args meth c cX11_commonDivisor RX11 6 (some .int)) {K : Sh} {n : Nat} {I : Im} {J : Jm} {R : Rf} (res : Int32)  : ∀ (k : Nat), ∀ (x2 : Int32) (x3 : Int32) (x4 : Int32), f_X11_commonDivisor_7  k x2 x3 x4 = some res → VW D cA bs Z p l e rX11_commonDivisor s m args below meth c 6 [(2, .int x2), (3, .int x3), (4, .int x4)] K n I J R 0 0 (MQ below (QX D cA bs Z (some (.int res)) K n I J R) args s 0 0 (fun q => bs ≤ q)) 7 [] := by
  intro k
  induction k with
  | zero =>
    intro x2 x3 x4 E
    have E : (none : Option (Int32)) = some res := E
    cases E
  | succ k ih =>
    intro x2 x3 x4 E
    unfold f_X11_commonDivisor_7 at E
    refine v_iload C 2 dX11_commonDivisor_7 rfl ?_
    refine v_bipush C dX11_commonDivisor_9 k_bipush_100 ?_
    refine v_icmp_ge C 34 E dX11_commonDivisor_11 rfl (fun c3 E => ?_) (fun c3 E => ?_)
    · refine v_iload_n C 0 dX11_commonDivisor_34 rfl ?_
      obtain rfl := Option.some.inj E
      exact v_iret C rfl dX11_commonDivisor_35
    · refine v_iload_n C 1 dX11_commonDivisor_14 rfl ?_
      refine v_if_eq C 34 E dX11_commonDivisor_15 rfl (fun c2 E => ?_) (fun c2 E => ?_)
      · refine v_iload_n C 0 dX11_commonDivisor_34 rfl ?_
        obtain rfl := Option.some.inj E
        exact v_iret C rfl dX11_commonDivisor_35
      · refine v_iload_n C 0 dX11_commonDivisor_18 rfl ?_
        refine v_iload_n C 1 dX11_commonDivisor_19 rfl ?_
        refine v_iremq C E dX11_commonDivisor_20 (fun v1 _ E => ?_)
        refine v_istore C [(5, .int v1), (2, .int x2), (3, .int x3), (4, .int x4)] dX11_commonDivisor_21 (Nat.le_of_ble_eq_true rfl) rfl ?_
        refine v_iload_n C 2 dX11_commonDivisor_23 rfl ?_
        refine v_istore_n C [(2, .int x3), (5, .int v1), (3, .int x3), (4, .int x4)] dX11_commonDivisor_24 (Nat.le_of_ble_eq_true rfl) rfl ?_
        refine v_iload C 1 dX11_commonDivisor_25 rfl ?_
        refine v_istore_n C [(3, .int v1), (2, .int x3), (5, .int v1), (4, .int x4)] dX11_commonDivisor_27 (Nat.le_of_ble_eq_true rfl) rfl ?_
        refine v_iinc (v := x4 + 1) C 3 [(4, .int (x4 + 1)), (3, .int v1), (2, .int x3), (5, .int v1)] dX11_commonDivisor_28 rfl (k_inc_1 _) (Nat.le_of_ble_eq_true rfl) rfl ?_
        refine v_goto C 7 dX11_commonDivisor_31 rfl ?_
        exact v_sub [2, 1, 0] [(2, .int x3), (3, .int v1), (4, .int (x4 + 1))] rfl (ih _ _ _ E)
set_option maxHeartbeats 4000000 in
theorem w_X11_commonDivisor_0 (C : Cx D cA bs Z p s m args meth c cX11_commonDivisor RX11 6 (some .int)) {K : Sh} {n : Nat} {I : Im} {J : Jm} {R : Rf} (res : Int32) (x0 : Int32) (x1 : Int32) (E : f_X11_commonDivisor  x0 x1 = some res) : VW D cA bs Z p l e rX11_commonDivisor s m args below meth c 6 [(0, .int x0), (1, .int x1)] K n I J R 0 0 (MQ below (QX D cA bs Z (some (.int res)) K n I J R) args s 0 0 (fun q => bs ≤ q)) 0 [] := by
  unfold f_X11_commonDivisor at E
  refine v_iload_n C 0 dX11_commonDivisor_0 rfl ?_
  refine v_istore_n C [(2, .int x0), (0, .int x0), (1, .int x1)] dX11_commonDivisor_1 (Nat.le_of_ble_eq_true rfl) rfl ?_
  refine v_iload_n C 2 dX11_commonDivisor_2 rfl ?_
  refine v_istore_n C [(3, .int x1), (2, .int x0), (0, .int x0), (1, .int x1)] dX11_commonDivisor_3 (Nat.le_of_ble_eq_true rfl) rfl ?_
  refine v_iconst C dX11_commonDivisor_4 k_iconst_0 ?_
  refine v_istore C [(4, .int 0), (3, .int x1), (2, .int x0), (0, .int x0), (1, .int x1)] dX11_commonDivisor_5 (Nat.le_of_ble_eq_true rfl) rfl ?_
  exact v_sub [2, 1, 0] [(2, .int x0), (3, .int x1), (4, .int 0)] rfl (w_X11_commonDivisor_7 C res  _ _ _ _ E)
set_option maxHeartbeats 4000000 in
theorem c_X11_commonDivisor {n : Nat} {K : Sh} {I : Im} {J : Jm} {R : Rf} {x0 : Int32} {x1 : Int32} {res : Int32} (E : f_X11_commonDivisor x0 x1 = some res) : Met l yX11_commonDivisor (Cond.code yX11_commonDivisor cX11_commonDivisor 6 (some .int) :: tb) rX11_commonDivisor (PX D cA bs Z [.int x0, .int x1] K n I J R) (QX D cA bs Z (some (.int res)) K n I J R) 0 0 (fun q => bs ≤ q) := by
  refine met_of (lv1 := [(0, .int x0), (1, .int x1)]) pn_X11 (by exact Nat.le_of_ble_eq_true rfl) (by rfl) ?_
  intro p e s m args below meth c C hn
  exact v_sub [0, 1] [(0, .int x0), (1, .int x1)] rfl (w_X11_commonDivisor_0 C _ _ _ E)
set_option maxHeartbeats 4000000 in
theorem w_X11_likely_73 (C : Cx D cA bs Z p s m args meth c cX11_likely RX11 8 (some .long)) {o : Nat} {K : Sh} {n : Nat} {J : Jm} (ho : (K o).1 = 12) (res : Int64 × Im × Rf)  : ∀ (k : Nat), ∀ (x2 : Int32) (x3 : Option Nat) (x4 : Int32) (x5 : Int32) (x6 : Int32) (I : Im) (R : Rf), f_X11_likely_73 K o k x2 x3 x4 x5 x6 I R = some res → VW D cA bs Z p l e rX11_likely s m args below meth c 8 [(0, va_rf (some o)), (2, .int x2), (3, va_rf x3), (4, .int x4), (5, .int x5), (6, .int x6)] K n I J R 0 0 (MQ below (QX D cA bs Z (some (.long res.1)) K n res.2.1 J res.2.2) args s 0 0 (fun q => bs ≤ q)) 73 [] := by
  intro k
  induction k with
  | zero =>
    intro x2 x3 x4 x5 x6 I R E
    have E : (none : Option (Int64 × Im × Rf)) = some res := E
    cases E
  | succ k ih =>
    intro x2 x3 x4 x5 x6 I R E
    unfold f_X11_likely_73 at E
    refine v_iload C 5 dX11_likely_73 rfl ?_
    refine v_iconst C dX11_likely_75 k_iconst_1 ?_
    refine v_aload_n (r := (some o)) C 0 dX11_likely_76 rfl ?_
    refine v_getR (r := (some o)) C fa_X11_37 rfl rfl ho dX11_likely_77 ?_
    obtain ⟨a1, h2, E⟩ := bnd E
    obtain ⟨hra1, hoa1⟩ := ob_is h2
    refine v_getR (r := (R o 7)) C fa_X11_120 rfl hra1 hoa1 dX11_likely_80 ?_
    obtain ⟨a3, h4, E⟩ := bnd E
    obtain ⟨hra3, hoa3⟩ := ob_is h4
    refine v_getI (r := (R a1 0)) C fa_X11_134 rfl hra3 hoa3 dX11_likely_83 ?_
    refine v_ishl C dX11_likely_86 ?_
    refine v_icmp_ge C 126 E dX11_likely_87 rfl (fun c17 E => ?_) (fun c17 E => ?_)
    · refine v_iload C 3 dX11_likely_126 rfl ?_
      refine v_iload C 4 dX11_likely_128 rfl ?_
      obtain ⟨q5, h6, E⟩ := bnd E
      refine v_callS (As := [.int x4, .int x5]) (rv := (some (.int q5))) (st := []) (st1 := [.int q5]) (ce1 := 0) (sl1 := 0) C cs_X11_268 (c_X11_commonDivisor (x0 := x4) (x1 := x5) h6) rfl rfl ⟨rfl, rfl, Nat.le_of_ble_eq_true rfl, Nat.le_of_ble_eq_true rfl⟩ ⟨Nat.le_of_ble_eq_true rfl, Nat.le_of_ble_eq_true rfl⟩ (Nat.le_of_ble_eq_true rfl) rfl rfl rfl dX11_likely_130 ?_
      refine v_istore C [(6, .int q5), (0, va_rf (some o)), (2, .int x2), (3, va_rf x3), (4, .int x4), (5, .int x5)] dX11_likely_133 (Nat.le_of_ble_eq_true rfl) rfl ?_
      refine v_iload C 0 dX11_likely_135 rfl ?_
      refine v_iconst C dX11_likely_137 k_iconst_1 ?_
      refine v_icmp_ge C 145 E dX11_likely_138 rfl (fun c10 E => ?_) (fun c10 E => ?_)
      · refine v_iload_n C 2 dX11_likely_145 rfl ?_
        refine v_if_ne C 158 E dX11_likely_146 rfl (fun c9 E => ?_) (fun c9 E => ?_)
        · refine v_iload C 4 dX11_likely_149 rfl ?_
          refine v_iload C 0 dX11_likely_151 rfl ?_
          refine v_idivq C E dX11_likely_153 (fun v8 _ E => ?_)
          refine v_i2l C dX11_likely_154 ?_
          refine v_goto C 164 dX11_likely_155 rfl ?_
          obtain rfl := Option.some.inj E
          exact v_lret C rfl dX11_likely_164
        · refine v_iload C 5 dX11_likely_158 rfl ?_
          refine v_iload C 0 dX11_likely_160 rfl ?_
          refine v_idivq C E dX11_likely_162 (fun v7 _ E => ?_)
          refine v_i2l C dX11_likely_163 ?_
          obtain rfl := Option.some.inj E
          exact v_lret C rfl dX11_likely_164
      · refine v_ldc2 C ct_X11_259 dX11_likely_141 ?_
        obtain rfl := Option.some.inj E
        exact v_lret C rfl dX11_likely_144
    · refine v_aload_n (r := (some o)) C 0 dX11_likely_90 rfl ?_
      refine v_iload C 5 dX11_likely_91 rfl ?_
      obtain ⟨q11, h12, E⟩ := bnd E
      refine v_callV (r := (some o)) (As := [.int x6]) (rv := (some (.int q11))) (st := []) (st1 := [.int q11]) (ce1 := 0) (sl1 := 0) C cv_X11_261 (c_X11_weightOf (x1 := x6) ho h12) rfl ho rfl rfl ⟨rfl, rfl, Nat.le_of_ble_eq_true rfl, Nat.le_of_ble_eq_true rfl⟩ ⟨Nat.le_of_ble_eq_true rfl, Nat.le_of_ble_eq_true rfl⟩ (Nat.le_of_ble_eq_true rfl) rfl rfl rfl dX11_likely_93 ?_
      refine v_istore C [(7, .int q11), (0, va_rf (some o)), (2, .int x2), (3, va_rf x3), (4, .int x4), (5, .int x5), (6, .int x6)] dX11_likely_96 (Nat.le_of_ble_eq_true rfl) rfl ?_
      refine v_iload C 0 dX11_likely_98 rfl ?_
      refine v_if_le C 120 E dX11_likely_100 rfl (fun c16 E => ?_) (fun c16 E => ?_)
      · refine v_iinc (v := x6 + 1) C 6 [(6, .int (x6 + 1)), (7, .int q11), (0, va_rf (some o)), (2, .int x2), (3, va_rf x3), (4, .int x4), (5, .int x5)] dX11_likely_120 rfl (k_inc_1 _) (Nat.le_of_ble_eq_true rfl) rfl ?_
        refine v_goto C 73 dX11_likely_123 rfl ?_
        exact v_sub [2, 3, 4, 5, 6, 0] [(0, va_rf (some o)), (2, .int x2), (3, va_rf x3), (4, .int x4), (5, .int x5), (6, .int (x6 + 1))] rfl (ih _ _ _ _ _ _ _ E)
      · refine v_aload_n (r := (some o)) C 1 dX11_likely_103 rfl ?_
        refine v_iload C 6 dX11_likely_104 rfl ?_
        refine v_aload_n (r := x3) C 3 dX11_likely_106 rfl ?_
        obtain ⟨q13, h14, E⟩ := bnd E
        refine v_callV (r := (some o)) (As := [.int x6, va_rf x3]) (rv := (some (.int q13.1))) (st := []) (st1 := [.int q13.1]) (ce1 := 0) (sl1 := 0) C cv_X11_264 (c_X11_comesOverWithDry (x1 := x6) (x2 := x3) ho h14) rfl ho rfl rfl ⟨rfl, rfl, Nat.le_of_ble_eq_true rfl, Nat.le_of_ble_eq_true rfl⟩ ⟨Nat.le_of_ble_eq_true rfl, Nat.le_of_ble_eq_true rfl⟩ (Nat.le_of_ble_eq_true rfl) rfl rfl rfl dX11_likely_107 ?_
        refine v_if_eq C 120 E dX11_likely_110 rfl (fun c15 E => ?_) (fun c15 E => ?_)
        · refine v_iinc (v := x6 + 1) C 6 [(6, .int (x6 + 1)), (7, .int q11), (0, va_rf (some o)), (2, .int x2), (3, va_rf x3), (4, .int x4), (5, .int x5)] dX11_likely_120 rfl (k_inc_1 _) (Nat.le_of_ble_eq_true rfl) rfl ?_
          refine v_goto C 73 dX11_likely_123 rfl ?_
          exact v_sub [2, 3, 4, 5, 6, 0] [(0, va_rf (some o)), (2, .int x2), (3, va_rf x3), (4, .int x4), (5, .int x5), (6, .int (x6 + 1))] rfl (ih _ _ _ _ _ _ _ E)
        · refine v_iload C 4 dX11_likely_113 rfl ?_
          refine v_iload C 0 dX11_likely_115 rfl ?_
          refine v_iadd C dX11_likely_117 ?_
          refine v_istore C [(4, .int (x4 + q11)), (7, .int q11), (0, va_rf (some o)), (2, .int x2), (3, va_rf x3), (5, .int x5), (6, .int x6)] dX11_likely_118 (Nat.le_of_ble_eq_true rfl) (by generalize x3 = rr; cases rr <;> rfl) ?_
          refine v_iinc (v := x6 + 1) C 6 [(6, .int (x6 + 1)), (4, .int (x4 + q11)), (7, .int q11), (0, va_rf (some o)), (2, .int x2), (3, va_rf x3), (5, .int x5)] dX11_likely_120 rfl (k_inc_1 _) (Nat.le_of_ble_eq_true rfl) rfl ?_
          refine v_goto C 73 dX11_likely_123 rfl ?_
          exact v_sub [3, 4, 5, 1, 6, 0] [(0, va_rf (some o)), (2, .int x2), (3, va_rf x3), (4, .int (x4 + q11)), (5, .int x5), (6, .int (x6 + 1))] rfl (ih _ _ _ _ _ _ _ E)
set_option maxHeartbeats 4000000 in
theorem w_X11_likely_42 (C : Cx D cA bs Z p s m args meth c cX11_likely RX11 8 (some .long)) {o : Nat} {K : Sh} {n : Nat} {J : Jm} (ho : (K o).1 = 12) (res : Int64 × Im × Rf)  : ∀ (k : Nat), ∀ (x2 : Int32) (x3 : Option Nat) (x4 : Int32) (x5 : Int32) (x6 : Int32) (I : Im) (R : Rf), f_X11_likely_42 K o k x2 x3 x4 x5 x6 I R = some res → VW D cA bs Z p l e rX11_likely s m args below meth c 8 [(0, va_rf (some o)), (2, .int x2), (3, va_rf x3), (4, .int x4), (5, .int x5), (6, .int x6)] K n I J R 0 0 (MQ below (QX D cA bs Z (some (.long res.1)) K n res.2.1 J res.2.2) args s 0 0 (fun q => bs ≤ q)) 42 [] := by
  intro k
  induction k with
  | zero =>
    intro x2 x3 x4 x5 x6 I R E
    have E : (none : Option (Int64 × Im × Rf)) = some res := E
    cases E
  | succ k ih =>
    intro x2 x3 x4 x5 x6 I R E
    unfold f_X11_likely_42 at E
    refine v_iload C 5 dX11_likely_42 rfl ?_
    refine v_aload_n (r := (some o)) C 0 dX11_likely_44 rfl ?_
    refine v_getR (r := (some o)) C fa_X11_37 rfl rfl ho dX11_likely_45 ?_
    obtain ⟨a18, h19, E⟩ := bnd E
    obtain ⟨hra18, hoa18⟩ := ob_is h19
    refine v_getR (r := (R o 7)) C fa_X11_120 rfl hra18 hoa18 dX11_likely_48 ?_
    obtain ⟨a20, h21, E⟩ := bnd E
    obtain ⟨hra20, hoa20⟩ := ob_is h21
    refine v_getI (r := (R a18 0)) C fa_X11_134 rfl hra20 hoa20 dX11_likely_51 ?_
    refine v_icmp_ge C 70 E dX11_likely_54 rfl (fun c22 E => ?_) (fun c22 E => ?_)
    · refine v_iconst C dX11_likely_70 k_iconst_0 ?_
      refine v_istore C [(6, .int 0), (0, va_rf (some o)), (2, .int x2), (3, va_rf x3), (4, .int x4), (5, .int x5)] dX11_likely_71 (Nat.le_of_ble_eq_true rfl) rfl ?_
      exact v_sub [1, 2, 3, 4, 5, 0] [(0, va_rf (some o)), (2, .int x2), (3, va_rf x3), (4, .int x4), (5, .int x5), (6, .int 0)] rfl (w_X11_likely_73 C ho res  _ _ _ _ _ _ _ _ E)
    · refine v_iload C 4 dX11_likely_57 rfl ?_
      refine v_bipush C dX11_likely_59 k_bipush_10 ?_
      refine v_imul C dX11_likely_61 ?_
      refine v_istore C [(5, .int (x5 * 10)), (0, va_rf (some o)), (2, .int x2), (3, va_rf x3), (4, .int x4), (6, .int x6)] dX11_likely_62 (Nat.le_of_ble_eq_true rfl) rfl ?_
      refine v_iinc (v := x6 + 1) C 5 [(6, .int (x6 + 1)), (5, .int (x5 * 10)), (0, va_rf (some o)), (2, .int x2), (3, va_rf x3), (4, .int x4)] dX11_likely_64 rfl (k_inc_1 _) (Nat.le_of_ble_eq_true rfl) rfl ?_
      refine v_goto C 42 dX11_likely_67 rfl ?_
      exact v_sub [2, 3, 4, 5, 1, 0] [(0, va_rf (some o)), (2, .int x2), (3, va_rf x3), (4, .int x4), (5, .int (x5 * 10)), (6, .int (x6 + 1))] rfl (ih _ _ _ _ _ _ _ E)
set_option maxHeartbeats 4000000 in
theorem w_X11_likely_0 (C : Cx D cA bs Z p s m args meth c cX11_likely RX11 8 (some .long)) {o : Nat} {K : Sh} {n : Nat} {J : Jm} (ho : (K o).1 = 12) (res : Int64 × Im × Rf) (x1 : Int32) (x2 : Int32) (I : Im) (R : Rf) (E : f_X11_likely K o x1 x2 I R = some res) : VW D cA bs Z p l e rX11_likely s m args below meth c 8 [(0, va_rf (some o)), (1, .int x1), (2, .int x2)] K n I J R 0 0 (MQ below (QX D cA bs Z (some (.long res.1)) K n res.2.1 J res.2.2) args s 0 0 (fun q => bs ≤ q)) 0 [] := by
  unfold f_X11_likely at E
  refine v_aload_n (r := (some o)) C 0 dX11_likely_0 rfl ?_
  refine v_iload_n C 1 dX11_likely_1 rfl ?_
  obtain ⟨q23, h24, E⟩ := bnd E
  refine v_callV (r := (some o)) (As := [.int x1]) (rv := (some (va_rf q23))) (st := []) (st1 := [va_rf q23]) (ce1 := 0) (sl1 := 0) C cv_X11_187 (c_X11_caravanAt (x1 := x1) ho h24) rfl ho rfl rfl ⟨rfl, rfl, Nat.le_of_ble_eq_true rfl, Nat.le_of_ble_eq_true rfl⟩ ⟨Nat.le_of_ble_eq_true rfl, Nat.le_of_ble_eq_true rfl⟩ (Nat.le_of_ble_eq_true rfl) rfl rfl rfl dX11_likely_2 ?_
  refine v_astore_n (r := q23) C [(3, va_rf q23), (0, va_rf (some o)), (1, .int x1), (2, .int x2)] dX11_likely_5 (Nat.le_of_ble_eq_true rfl) rfl ?_
  refine v_aload_n (r := q23) C 0 dX11_likely_6 rfl ?_
  refine v_ifnull (r := q23) C 29 E dX11_likely_7 rfl (fun c31 E => ?_) (fun c31 E => ?_)
  · refine v_ldc2 C ct_X11_259 dX11_likely_29 ?_
    obtain rfl := Option.some.inj E
    exact v_lret C rfl dX11_likely_32
  · refine v_iload_n C 3 dX11_likely_10 rfl ?_
    refine v_iconst C dX11_likely_11 k_iconst_0 ?_
    refine v_iconst C dX11_likely_12 k_iconst_1 ?_
    obtain ⟨q25, h26, E⟩ := bnd E
    refine v_callS (As := [.int x2, .int 0, .int 1]) (rv := (some (.int q25))) (st := []) (st1 := [.int q25]) (ce1 := 0) (sl1 := 0) C cs_X11_101 (c_X11_within (x0 := x2) (x1 := 0) (x2 := 1) h26) rfl rfl ⟨rfl, rfl, Nat.le_of_ble_eq_true rfl, Nat.le_of_ble_eq_true rfl⟩ ⟨Nat.le_of_ble_eq_true rfl, Nat.le_of_ble_eq_true rfl⟩ (Nat.le_of_ble_eq_true rfl) rfl rfl rfl dX11_likely_13 ?_
    refine v_if_eq C 29 E dX11_likely_16 rfl (fun c30 E => ?_) (fun c30 E => ?_)
    · refine v_ldc2 C ct_X11_259 dX11_likely_29 ?_
      obtain rfl := Option.some.inj E
      exact v_lret C rfl dX11_likely_32
    · refine v_aload_n (r := (some o)) C 1 dX11_likely_19 rfl ?_
      refine v_getR (r := (some o)) C fa_X11_37 rfl rfl ho dX11_likely_20 ?_
      obtain ⟨a27, h28, E⟩ := bnd E
      obtain ⟨hra27, hoa27⟩ := ob_is h28
      refine v_getR (r := (R o 7)) C fa_X11_120 rfl hra27 hoa27 dX11_likely_23 ?_
      refine v_ifnonnull (r := (R a27 0)) C 33 E dX11_likely_26 rfl (fun c29 E => ?_) (fun c29 E => ?_)
      · refine v_ldc2 C ct_X11_259 dX11_likely_29 ?_
        obtain rfl := Option.some.inj E
        exact v_lret C rfl dX11_likely_32
      · refine v_iconst C dX11_likely_33 k_iconst_0 ?_
        refine v_istore C [(4, .int 0), (3, va_rf q23), (0, va_rf (some o)), (1, .int x1), (2, .int x2)] dX11_likely_34 (Nat.le_of_ble_eq_true rfl) (by generalize q23 = rr; cases rr <;> rfl) ?_
        refine v_iconst C dX11_likely_36 k_iconst_1 ?_
        refine v_istore C [(5, .int 1), (4, .int 0), (3, va_rf q23), (0, va_rf (some o)), (1, .int x1), (2, .int x2)] dX11_likely_37 (Nat.le_of_ble_eq_true rfl) rfl ?_
        refine v_iconst C dX11_likely_39 k_iconst_0 ?_
        refine v_istore C [(6, .int 0), (5, .int 1), (4, .int 0), (3, va_rf q23), (0, va_rf (some o)), (1, .int x1), (2, .int x2)] dX11_likely_40 (Nat.le_of_ble_eq_true rfl) rfl ?_
        exact v_sub [4, 6, 3, 2, 1, 0] [(0, va_rf (some o)), (2, .int x2), (3, va_rf q23), (4, .int 0), (5, .int 1), (6, .int 0)] rfl (w_X11_likely_42 C ho res  _ _ _ _ _ _ _ _ E)
set_option maxHeartbeats 4000000 in
theorem c_X11_likely {n : Nat} {K : Sh} {I : Im} {J : Jm} {R : Rf} {o : Nat} {x1 : Int32} {x2 : Int32} (ho : (K o).1 = 12) {res : Int64 × Im × Rf} (E : f_X11_likely K o x1 x2 I R = some res) : Met l yX11_likely (Cond.code yX11_likely cX11_likely 8 (some .long) :: tb) rX11_likely (PX D cA bs Z [.ref o, .int x1, .int x2] K n I J R) (QX D cA bs Z (some (.long res.1)) K n res.2.1 J res.2.2) 0 0 (fun q => bs ≤ q) := by
  refine met_of (lv1 := [(0, va_rf (some o)), (1, .int x1), (2, .int x2)]) pn_X11 (by exact Nat.le_of_ble_eq_true rfl) (by rfl) ?_
  intro p e s m args below meth c C hn
  exact v_sub [0, 1, 2] [(0, va_rf (some o)), (1, .int x1), (2, .int x2)] rfl (w_X11_likely_0 C ho _ _ _ _ _ E)
set_option maxHeartbeats 4000000 in
theorem w_X11_dig_176 (C : Cx D cA bs Z p s m args meth c cX11_dig RX11 12 (some .int)) {o : Nat} {K : Sh} {n : Nat} {J : Jm} (ho : (K o).1 = 12) (res : Int32 × Im × Rf) (r75 : Int32 → Int32 → Int32 → Option Nat → Option Nat → Int32 → Int32 → Int32 → Im → Rf → Option (Int32 × Im × Rf)) (hr75 : ∀ (x2 : Int32) (x3 : Int32) (x4 : Int32) (x5 : Option Nat) (x6 : Option Nat) (x7 : Int32) (x8 : Int32) (x9 : Int32) (I : Im) (R : Rf), r75 x2 x3 x4 x5 x6 x7 x8 x9 I R = some res → VW D cA bs Z p l e rX11_dig s m args below meth c 12 [(0, va_rf (some o)), (2, .int x2), (3, .int x3), (4, .int x4), (5, va_rf x5), (6, va_rf x6), (7, .int x7), (8, .int x8), (9, .int x9)] K n I J R 0 0 (MQ below (QX D cA bs Z (some (.int res.1)) K n res.2.1 J res.2.2) args s 0 0 (fun q => bs ≤ q)) 75 []) (r97 : Int32 → Int32 → Int32 → Option Nat → Option Nat → Int32 → Int32 → Int32 → Int32 → Im → Rf → Option (Int32 × Im × Rf)) (hr97 : ∀ (x2 : Int32) (x3 : Int32) (x4 : Int32) (x5 : Option Nat) (x6 : Option Nat) (x7 : Int32) (x8 : Int32) (x9 : Int32) (x10 : Int32) (I : Im) (R : Rf), r97 x2 x3 x4 x5 x6 x7 x8 x9 x10 I R = some res → VW D cA bs Z p l e rX11_dig s m args below meth c 12 [(0, va_rf (some o)), (2, .int x2), (3, .int x3), (4, .int x4), (5, va_rf x5), (6, va_rf x6), (7, .int x7), (8, .int x8), (9, .int x9), (10, .int x10)] K n I J R 0 0 (MQ below (QX D cA bs Z (some (.int res.1)) K n res.2.1 J res.2.2) args s 0 0 (fun q => bs ≤ q)) 97 []) (x2 : Int32) (x3 : Int32) (x4 : Int32) (x5 : Option Nat) (x6 : Option Nat) (x9 : Int32) (x10 : Int32) (x11 : Int32) (I : Im) (R : Rf) (E : f_X11_dig_176 K o r75 r97 x2 x3 x4 x5 x6 x9 x10 x11 I R = some res) : VW D cA bs Z p l e rX11_dig s m args below meth c 12 [(0, va_rf (some o)), (2, .int x2), (3, .int x3), (4, .int x4), (5, va_rf x5), (6, va_rf x6), (9, .int x9), (10, .int x10), (11, .int x11)] K n I J R 0 0 (MQ below (QX D cA bs Z (some (.int res.1)) K n res.2.1 J res.2.2) args s 0 0 (fun q => bs ≤ q)) 176 [] := by
  unfold f_X11_dig_176 at E
  refine v_iload C 8 dX11_dig_176 rfl ?_
  refine v_istore C [(7, .int x11), (0, va_rf (some o)), (2, .int x2), (3, .int x3), (4, .int x4), (5, va_rf x5), (6, va_rf x6), (9, .int x9), (10, .int x10), (11, .int x11)] dX11_dig_178 (Nat.le_of_ble_eq_true rfl) (by generalize x6 = rr; cases rr <;> rfl) ?_
  refine v_bipush C dX11_dig_180 k_bipush_100 ?_
  refine v_iload C 7 dX11_dig_182 rfl ?_
  refine v_imul C dX11_dig_184 ?_
  refine v_iload C 8 dX11_dig_185 rfl ?_
  refine v_iadd C dX11_dig_187 ?_
  refine v_istore C [(8, .int ((100 * x9) + x10)), (7, .int x11), (0, va_rf (some o)), (2, .int x2), (3, .int x3), (4, .int x4), (5, va_rf x5), (6, va_rf x6), (9, .int x9), (10, .int x10), (11, .int x11)] dX11_dig_188 (Nat.le_of_ble_eq_true rfl) rfl ?_
  refine v_iinc (v := x10 + 1) C 9 [(10, .int (x10 + 1)), (8, .int ((100 * x9) + x10)), (7, .int x11), (0, va_rf (some o)), (2, .int x2), (3, .int x3), (4, .int x4), (5, va_rf x5), (6, va_rf x6), (9, .int x9), (11, .int x11)] dX11_dig_190 rfl (k_inc_1 _) (Nat.le_of_ble_eq_true rfl) rfl ?_
  refine v_goto C 97 dX11_dig_193 rfl ?_
  exact v_sub [3, 4, 5, 6, 7, 8, 2, 1, 9, 0] [(0, va_rf (some o)), (2, .int x2), (3, .int x3), (4, .int x4), (5, va_rf x5), (6, va_rf x6), (7, .int x11), (8, .int ((100 * x9) + x10)), (9, .int x9), (10, .int (x10 + 1))] rfl (hr97 _ _ _ _ _ _ _ _ _ _ _ E)
set_option maxHeartbeats 4000000 in
theorem w_X11_dig_97 (C : Cx D cA bs Z p s m args meth c cX11_dig RX11 12 (some .int)) {o : Nat} {K : Sh} {n : Nat} {J : Jm} (ho : (K o).1 = 12) (res : Int32 × Im × Rf) (r75 : Int32 → Int32 → Int32 → Option Nat → Option Nat → Int32 → Int32 → Int32 → Im → Rf → Option (Int32 × Im × Rf)) (hr75 : ∀ (x2 : Int32) (x3 : Int32) (x4 : Int32) (x5 : Option Nat) (x6 : Option Nat) (x7 : Int32) (x8 : Int32) (x9 : Int32) (I : Im) (R : Rf), r75 x2 x3 x4 x5 x6 x7 x8 x9 I R = some res → VW D cA bs Z p l e rX11_dig s m args below meth c 12 [(0, va_rf (some o)), (2, .int x2), (3, .int x3), (4, .int x4), (5, va_rf x5), (6, va_rf x6), (7, .int x7), (8, .int x8), (9, .int x9)] K n I J R 0 0 (MQ below (QX D cA bs Z (some (.int res.1)) K n res.2.1 J res.2.2) args s 0 0 (fun q => bs ≤ q)) 75 [])  : ∀ (k : Nat), ∀ (x2 : Int32) (x3 : Int32) (x4 : Int32) (x5 : Option Nat) (x6 : Option Nat) (x7 : Int32) (x8 : Int32) (x9 : Int32) (x10 : Int32) (I : Im) (R : Rf), f_X11_dig_97 K o r75 k x2 x3 x4 x5 x6 x7 x8 x9 x10 I R = some res → VW D cA bs Z p l e rX11_dig s m args below meth c 12 [(0, va_rf (some o)), (2, .int x2), (3, .int x3), (4, .int x4), (5, va_rf x5), (6, va_rf x6), (7, .int x7), (8, .int x8), (9, .int x9), (10, .int x10)] K n I J R 0 0 (MQ below (QX D cA bs Z (some (.int res.1)) K n res.2.1 J res.2.2) args s 0 0 (fun q => bs ≤ q)) 97 [] := by
  intro k
  induction k with
  | zero =>
    intro x2 x3 x4 x5 x6 x7 x8 x9 x10 I R E
    have E : (none : Option (Int32 × Im × Rf)) = some res := E
    cases E
  | succ k ih =>
    intro x2 x3 x4 x5 x6 x7 x8 x9 x10 I R E
    unfold f_X11_dig_97 at E
    refine v_iload C 9 dX11_dig_97 rfl ?_
    refine v_aload (r := x6) C 5 dX11_dig_99 rfl ?_
    obtain ⟨a1, h2, E⟩ := bnd E
    obtain ⟨hra1, hoa1⟩ := ob_is h2
    refine v_getR (r := x6) C fa_X11_142 rfl hra1 hoa1 dX11_dig_101 ?_
    refine v_iload C 8 dX11_dig_104 rfl ?_
    refine v_iald (r := (R a1 7)) C E dX11_dig_106 (fun v3 _ E => ?_)
    refine v_icmp_ge C 196 E dX11_dig_107 rfl (fun c19 E => ?_) (fun c19 E => ?_)
    · refine v_iinc (v := x9 + 1) C 8 [(9, .int (x9 + 1)), (0, va_rf (some o)), (2, .int x2), (3, .int x3), (4, .int x4), (5, va_rf x5), (6, va_rf x6), (7, .int x7), (8, .int x8), (10, .int x10)] dX11_dig_196 rfl (k_inc_1 _) (Nat.le_of_ble_eq_true rfl) rfl ?_
      refine v_goto C 75 dX11_dig_199 rfl ?_
      exact v_sub [1, 2, 3, 4, 5, 6, 7, 8, 0] [(0, va_rf (some o)), (2, .int x2), (3, .int x3), (4, .int x4), (5, va_rf x5), (6, va_rf x6), (7, .int x7), (8, .int x8), (9, .int (x9 + 1))] rfl (hr75 _ _ _ _ _ _ _ _ _ _ E)
    · refine v_aload_n (r := (some o)) C 0 dX11_dig_110 rfl ?_
      refine v_getR (r := (some o)) C fa_X11_88 rfl rfl ho dX11_dig_111 ?_
      refine v_aload (r := x6) C 5 dX11_dig_114 rfl ?_
      refine v_iload C 8 dX11_dig_116 rfl ?_
      refine v_iload C 9 dX11_dig_118 rfl ?_
      refine v_iload_n C 1 dX11_dig_120 rfl ?_
      refine v_iload_n C 2 dX11_dig_121 rfl ?_
      obtain ⟨a4, h5, E⟩ := bnd E
      obtain ⟨hra4, hoa4⟩ := ob_is h5
      obtain ⟨q6, h7, E⟩ := bnd E
      refine v_callV (r := (R o 16)) (As := [va_rf x6, .int x9, .int x10, .int x2, .int x3]) (rv := none) (st := []) (st1 := []) (ce1 := 0) (sl1 := 0) C cv_X11_271 (c_X9_becomeDug (x1 := x6) (x2 := x9) (x3 := x10) (x4 := x2) (x5 := x3) hoa4 h7) hra4 hoa4 rfl rfl ⟨rfl, rfl, Nat.le_of_ble_eq_true rfl, Nat.le_of_ble_eq_true rfl⟩ ⟨Nat.le_of_ble_eq_true rfl, Nat.le_of_ble_eq_true rfl⟩ (Nat.le_of_ble_eq_true rfl) rfl rfl rfl dX11_dig_122 ?_
      refine v_aload_n (r := (some o)) C 0 dX11_dig_125 rfl ?_
      refine v_getR (r := (some o)) C fa_X11_81 rfl rfl ho dX11_dig_126 ?_
      refine v_aload_n (r := (some o)) C 0 dX11_dig_129 rfl ?_
      refine v_getR (r := (some o)) C fa_X11_88 rfl rfl ho dX11_dig_130 ?_
      obtain ⟨a8, h9, E⟩ := bnd E
      obtain ⟨hra8, hoa8⟩ := ob_is h9
      obtain ⟨q10, h11, E⟩ := bnd E
      refine v_callV (r := (q6.2 o 15)) (As := [va_rf (q6.2 o 16)]) (rv := none) (st := []) (st1 := []) (ce1 := 0) (sl1 := 0) C cv_X11_126 (c_X10_fill (x1 := (q6.2 o 16)) hoa8 h11) hra8 hoa8 rfl rfl ⟨rfl, rfl, Nat.le_of_ble_eq_true rfl, Nat.le_of_ble_eq_true rfl⟩ ⟨Nat.le_of_ble_eq_true rfl, Nat.le_of_ble_eq_true rfl⟩ (Nat.le_of_ble_eq_true rfl) rfl rfl rfl dX11_dig_133 ?_
      refine v_aload_n (r := (some o)) C 0 dX11_dig_136 rfl ?_
      refine v_getR (r := (some o)) C fa_X11_67 rfl rfl ho dX11_dig_137 ?_
      refine v_aload_n (r := (some o)) C 0 dX11_dig_140 rfl ?_
      refine v_getR (r := (some o)) C fa_X11_88 rfl rfl ho dX11_dig_141 ?_
      refine v_aload_n (r := (some o)) C 0 dX11_dig_144 rfl ?_
      refine v_getR (r := (some o)) C fa_X11_81 rfl rfl ho dX11_dig_145 ?_
      refine v_aload (r := x5) C 4 dX11_dig_148 rfl ?_
      obtain ⟨a12, h13, E⟩ := bnd E
      obtain ⟨hra12, hoa12⟩ := ob_is h13
      obtain ⟨q14, h15, E⟩ := bnd E
      refine v_callV (r := (q6.2 o 13)) (As := [va_rf (q6.2 o 16), va_rf (q6.2 o 15), va_rf x5]) (rv := (some (.int q14.1))) (st := []) (st1 := [.int q14.1]) (ce1 := 0) (sl1 := 0) C cv_X11_275 (c_X3_earliest (x1 := (q6.2 o 16)) (x2 := (q6.2 o 15)) (x3 := x5) hoa12 h15) hra12 hoa12 rfl rfl ⟨rfl, rfl, Nat.le_of_ble_eq_true rfl, Nat.le_of_ble_eq_true rfl⟩ ⟨Nat.le_of_ble_eq_true rfl, Nat.le_of_ble_eq_true rfl⟩ (Nat.le_of_ble_eq_true rfl) rfl rfl rfl dX11_dig_150 ?_
      refine v_istore C [(11, .int q14.1), (0, va_rf (some o)), (2, .int x2), (3, .int x3), (4, .int x4), (5, va_rf x5), (6, va_rf x6), (7, .int x7), (8, .int x8), (9, .int x9), (10, .int x10)] dX11_dig_153 (Nat.le_of_ble_eq_true rfl) rfl ?_
      refine v_iload C 0 dX11_dig_155 rfl ?_
      refine v_bipush C dX11_dig_157 k_bipush_m5 ?_
      refine v_icmp_eq C 190 E dX11_dig_159 rfl (fun c18 E => ?_) (fun c18 E => ?_)
      · refine v_iinc (v := x10 + 1) C 10 [(10, .int (x10 + 1)), (11, .int q14.1), (0, va_rf (some o)), (2, .int x2), (3, .int x3), (4, .int x4), (5, va_rf x5), (6, va_rf x6), (7, .int x7), (8, .int x8), (9, .int x9)] dX11_dig_190 rfl (k_inc_1 _) (Nat.le_of_ble_eq_true rfl) rfl ?_
        refine v_goto C 97 dX11_dig_193 rfl ?_
        exact v_sub [2, 3, 4, 5, 6, 7, 8, 9, 10, 0] [(0, va_rf (some o)), (2, .int x2), (3, .int x3), (4, .int x4), (5, va_rf x5), (6, va_rf x6), (7, .int x7), (8, .int x8), (9, .int x9), (10, .int (x10 + 1))] rfl (ih _ _ _ _ _ _ _ _ _ _ _ E)
      · refine v_iload C 7 dX11_dig_162 rfl ?_
        refine v_bipush C dX11_dig_164 k_bipush_m5 ?_
        refine v_icmp_eq C 176 E dX11_dig_166 rfl (fun c17 E => ?_) (fun c17 E => ?_)
        · exact v_sub [1, 2, 3, 4, 5, 6, 9, 10, 0] [(0, va_rf (some o)), (2, .int x2), (3, .int x3), (4, .int x4), (5, va_rf x5), (6, va_rf x6), (9, .int x9), (10, .int x10), (11, .int q14.1)] rfl (w_X11_dig_176 C ho res _ hr75 _ ih _ _ _ _ _ _ _ _ _ _ E)
        · refine v_iload C 0 dX11_dig_169 rfl ?_
          refine v_iload C 7 dX11_dig_171 rfl ?_
          refine v_icmp_ge C 190 E dX11_dig_173 rfl (fun c16 E => ?_) (fun c16 E => ?_)
          · refine v_iinc (v := x10 + 1) C 10 [(10, .int (x10 + 1)), (11, .int q14.1), (0, va_rf (some o)), (2, .int x2), (3, .int x3), (4, .int x4), (5, va_rf x5), (6, va_rf x6), (7, .int x7), (8, .int x8), (9, .int x9)] dX11_dig_190 rfl (k_inc_1 _) (Nat.le_of_ble_eq_true rfl) rfl ?_
            refine v_goto C 97 dX11_dig_193 rfl ?_
            exact v_sub [2, 3, 4, 5, 6, 7, 8, 9, 10, 0] [(0, va_rf (some o)), (2, .int x2), (3, .int x3), (4, .int x4), (5, va_rf x5), (6, va_rf x6), (7, .int x7), (8, .int x8), (9, .int x9), (10, .int (x10 + 1))] rfl (ih _ _ _ _ _ _ _ _ _ _ _ E)
          · exact v_sub [1, 2, 3, 4, 5, 6, 9, 10, 0] [(0, va_rf (some o)), (2, .int x2), (3, .int x3), (4, .int x4), (5, va_rf x5), (6, va_rf x6), (9, .int x9), (10, .int x10), (11, .int q14.1)] rfl (w_X11_dig_176 C ho res _ hr75 _ ih _ _ _ _ _ _ _ _ _ _ E)
set_option maxHeartbeats 4000000 in
theorem w_X11_dig_202 (C : Cx D cA bs Z p s m args meth c cX11_dig RX11 12 (some .int)) {o : Nat} {K : Sh} {n : Nat} {J : Jm} (ho : (K o).1 = 12) (res : Int32 × Im × Rf) (x4 : Int32) (x7 : Int32) (x8 : Int32) (I : Im) (R : Rf) (E : f_X11_dig_202 K o x4 x7 x8 I R = some res) : VW D cA bs Z p l e rX11_dig s m args below meth c 12 [(0, va_rf (some o)), (4, .int x4), (7, .int x7), (8, .int x8)] K n I J R 0 0 (MQ below (QX D cA bs Z (some (.int res.1)) K n res.2.1 J res.2.2) args s 0 0 (fun q => bs ≤ q)) 202 [] := by
  unfold f_X11_dig_202 at E
  refine v_iload C 1 dX11_dig_202 rfl ?_
  refine v_if_ne C 212 E dX11_dig_204 rfl (fun c20 E => ?_) (fun c20 E => ?_)
  · refine v_iload C 3 dX11_dig_207 rfl ?_
    refine v_goto C 214 dX11_dig_209 rfl ?_
    obtain rfl := Option.some.inj E
    exact v_iret C rfl dX11_dig_214
  · refine v_iload C 2 dX11_dig_212 rfl ?_
    obtain rfl := Option.some.inj E
    exact v_iret C rfl dX11_dig_214
set_option maxHeartbeats 4000000 in
theorem w_X11_dig_75 (C : Cx D cA bs Z p s m args meth c cX11_dig RX11 12 (some .int)) {o : Nat} {K : Sh} {n : Nat} {J : Jm} (ho : (K o).1 = 12) (res : Int32 × Im × Rf)  : ∀ (k : Nat), ∀ (x2 : Int32) (x3 : Int32) (x4 : Int32) (x5 : Option Nat) (x6 : Option Nat) (x7 : Int32) (x8 : Int32) (x9 : Int32) (I : Im) (R : Rf), f_X11_dig_75 K o k x2 x3 x4 x5 x6 x7 x8 x9 I R = some res → VW D cA bs Z p l e rX11_dig s m args below meth c 12 [(0, va_rf (some o)), (2, .int x2), (3, .int x3), (4, .int x4), (5, va_rf x5), (6, va_rf x6), (7, .int x7), (8, .int x8), (9, .int x9)] K n I J R 0 0 (MQ below (QX D cA bs Z (some (.int res.1)) K n res.2.1 J res.2.2) args s 0 0 (fun q => bs ≤ q)) 75 [] := by
  intro k
  induction k with
  | zero =>
    intro x2 x3 x4 x5 x6 x7 x8 x9 I R E
    have E : (none : Option (Int32 × Im × Rf)) = some res := E
    cases E
  | succ k ih =>
    intro x2 x3 x4 x5 x6 x7 x8 x9 I R E
    unfold f_X11_dig_75 at E
    refine v_iload C 8 dX11_dig_75 rfl ?_
    refine v_aload (r := x6) C 5 dX11_dig_77 rfl ?_
    obtain ⟨a21, h22, E⟩ := bnd E
    obtain ⟨hra21, hoa21⟩ := ob_is h22
    refine v_getI (r := x6) C fa_X11_134 rfl hra21 hoa21 dX11_dig_79 ?_
    refine v_icmp_gt C 202 E dX11_dig_82 rfl (fun c24 E => ?_) (fun c24 E => ?_)
    · exact v_sub [0, 3, 6, 7] [(0, va_rf (some o)), (4, .int x4), (7, .int x7), (8, .int x8)] rfl (w_X11_dig_202 C ho res  _ _ _ _ _ E)
    · refine v_aload (r := x6) C 5 dX11_dig_85 rfl ?_
      refine v_getI (r := x6) C fa_X11_134 rfl hra21 hoa21 dX11_dig_87 ?_
      refine v_iconst C dX11_dig_90 k_iconst_5 ?_
      refine v_icmp_ge C 202 E dX11_dig_91 rfl (fun c23 E => ?_) (fun c23 E => ?_)
      · exact v_sub [0, 3, 6, 7] [(0, va_rf (some o)), (4, .int x4), (7, .int x7), (8, .int x8)] rfl (w_X11_dig_202 C ho res  _ _ _ _ _ E)
      · refine v_iconst C dX11_dig_94 k_iconst_1 ?_
        refine v_istore C [(10, .int 1), (0, va_rf (some o)), (2, .int x2), (3, .int x3), (4, .int x4), (5, va_rf x5), (6, va_rf x6), (7, .int x7), (8, .int x8), (9, .int x9)] dX11_dig_95 (Nat.le_of_ble_eq_true rfl) rfl ?_
        exact v_sub [1, 2, 3, 4, 5, 6, 7, 8, 9, 0] [(0, va_rf (some o)), (2, .int x2), (3, .int x3), (4, .int x4), (5, va_rf x5), (6, va_rf x6), (7, .int x7), (8, .int x8), (9, .int x9), (10, .int 1)] rfl (w_X11_dig_97 C ho res _ ih _ _ _ _ _ _ _ _ _ _ _ _ E)
set_option maxHeartbeats 4000000 in
theorem w_X11_dig_0 (C : Cx D cA bs Z p s m args meth c cX11_dig RX11 12 (some .int)) {o : Nat} {K : Sh} {n : Nat} {J : Jm} (ho : (K o).1 = 12) (res : Int32 × Im × Rf) (x1 : Int32) (x2 : Int32) (x3 : Int32) (x4 : Int32) (I : Im) (R : Rf) (E : f_X11_dig K o x1 x2 x3 x4 I R = some res) : VW D cA bs Z p l e rX11_dig s m args below meth c 12 [(0, va_rf (some o)), (1, .int x1), (2, .int x2), (3, .int x3), (4, .int x4)] K n I J R 0 0 (MQ below (QX D cA bs Z (some (.int res.1)) K n res.2.1 J res.2.2) args s 0 0 (fun q => bs ≤ q)) 0 [] := by
  unfold f_X11_dig at E
  refine v_aload_n (r := (some o)) C 0 dX11_dig_0 rfl ?_
  refine v_iload_n C 1 dX11_dig_1 rfl ?_
  obtain ⟨q25, h26, E⟩ := bnd E
  refine v_callV (r := (some o)) (As := [.int x1]) (rv := (some (va_rf q25))) (st := []) (st1 := [va_rf q25]) (ce1 := 0) (sl1 := 0) C cv_X11_187 (c_X11_caravanAt (x1 := x1) ho h26) rfl ho rfl rfl ⟨rfl, rfl, Nat.le_of_ble_eq_true rfl, Nat.le_of_ble_eq_true rfl⟩ ⟨Nat.le_of_ble_eq_true rfl, Nat.le_of_ble_eq_true rfl⟩ (Nat.le_of_ble_eq_true rfl) rfl rfl rfl dX11_dig_2 ?_
  refine v_astore (r := q25) C [(5, va_rf q25), (0, va_rf (some o)), (1, .int x1), (2, .int x2), (3, .int x3), (4, .int x4)] dX11_dig_5 (Nat.le_of_ble_eq_true rfl) rfl ?_
  refine v_aload (r := q25) C 0 dX11_dig_7 rfl ?_
  refine v_ifnull (r := q25) C 22 E dX11_dig_9 rfl (fun c39 E => ?_) (fun c39 E => ?_)
  · refine v_iconst C dX11_dig_22 k_iconst_m1 ?_
    obtain rfl := Option.some.inj E
    exact v_iret C rfl dX11_dig_23
  · refine v_iload C 5 dX11_dig_12 rfl ?_
    refine v_iconst C dX11_dig_14 k_iconst_0 ?_
    refine v_iconst C dX11_dig_15 k_iconst_1 ?_
    obtain ⟨q27, h28, E⟩ := bnd E
    refine v_callS (As := [.int x4, .int 0, .int 1]) (rv := (some (.int q27))) (st := []) (st1 := [.int q27]) (ce1 := 0) (sl1 := 0) C cs_X11_101 (c_X11_within (x0 := x4) (x1 := 0) (x2 := 1) h28) rfl rfl ⟨rfl, rfl, Nat.le_of_ble_eq_true rfl, Nat.le_of_ble_eq_true rfl⟩ ⟨Nat.le_of_ble_eq_true rfl, Nat.le_of_ble_eq_true rfl⟩ (Nat.le_of_ble_eq_true rfl) rfl rfl rfl dX11_dig_16 ?_
    refine v_if_ne C 24 E dX11_dig_19 rfl (fun c38 E => ?_) (fun c38 E => ?_)
    · refine v_iconst C dX11_dig_22 k_iconst_m1 ?_
      obtain rfl := Option.some.inj E
      exact v_iret C rfl dX11_dig_23
    · refine v_iload_n C 3 dX11_dig_24 rfl ?_
      refine v_iconst C dX11_dig_25 k_iconst_0 ?_
      refine v_bipush C dX11_dig_26 k_bipush_99 ?_
      obtain ⟨q29, h30, E⟩ := bnd E
      refine v_callS (As := [.int x2, .int 0, .int 99]) (rv := (some (.int q29))) (st := []) (st1 := [.int q29]) (ce1 := 0) (sl1 := 0) C cs_X11_101 (c_X11_within (x0 := x2) (x1 := 0) (x2 := 99) h30) rfl rfl ⟨rfl, rfl, Nat.le_of_ble_eq_true rfl, Nat.le_of_ble_eq_true rfl⟩ ⟨Nat.le_of_ble_eq_true rfl, Nat.le_of_ble_eq_true rfl⟩ (Nat.le_of_ble_eq_true rfl) rfl rfl rfl dX11_dig_28 ?_
      refine v_if_eq C 44 E dX11_dig_31 rfl (fun c37 E => ?_) (fun c37 E => ?_)
      · refine v_bipush C dX11_dig_44 k_bipush_m2 ?_
        obtain rfl := Option.some.inj E
        exact v_iret C rfl dX11_dig_46
      · refine v_iload_n C 4 dX11_dig_34 rfl ?_
        refine v_iconst C dX11_dig_35 k_iconst_0 ?_
        refine v_bipush C dX11_dig_36 k_bipush_99 ?_
        obtain ⟨q31, h32, E⟩ := bnd E
        refine v_callS (As := [.int x3, .int 0, .int 99]) (rv := (some (.int q31))) (st := []) (st1 := [.int q31]) (ce1 := 0) (sl1 := 0) C cs_X11_101 (c_X11_within (x0 := x3) (x1 := 0) (x2 := 99) h32) rfl rfl ⟨rfl, rfl, Nat.le_of_ble_eq_true rfl, Nat.le_of_ble_eq_true rfl⟩ ⟨Nat.le_of_ble_eq_true rfl, Nat.le_of_ble_eq_true rfl⟩ (Nat.le_of_ble_eq_true rfl) rfl rfl rfl dX11_dig_38 ?_
        refine v_if_ne C 47 E dX11_dig_41 rfl (fun c36 E => ?_) (fun c36 E => ?_)
        · refine v_bipush C dX11_dig_44 k_bipush_m2 ?_
          obtain rfl := Option.some.inj E
          exact v_iret C rfl dX11_dig_46
        · refine v_aload_n (r := (some o)) C 1 dX11_dig_47 rfl ?_
          refine v_getR (r := (some o)) C fa_X11_37 rfl rfl ho dX11_dig_48 ?_
          obtain ⟨a33, h34, E⟩ := bnd E
          obtain ⟨hra33, hoa33⟩ := ob_is h34
          refine v_getR (r := (R o 7)) C fa_X11_120 rfl hra33 hoa33 dX11_dig_51 ?_
          refine v_astore (r := (R a33 0)) C [(6, va_rf (R a33 0)), (5, va_rf q25), (0, va_rf (some o)), (1, .int x1), (2, .int x2), (3, .int x3), (4, .int x4)] dX11_dig_54 (Nat.le_of_ble_eq_true rfl) (by generalize q25 = rr; cases rr <;> rfl) ?_
          refine v_aload (r := (R a33 0)) C 0 dX11_dig_56 rfl ?_
          refine v_ifnonnull (r := (R a33 0)) C 64 E dX11_dig_58 rfl (fun c35 E => ?_) (fun c35 E => ?_)
          · refine v_bipush C dX11_dig_61 k_bipush_m3 ?_
            obtain rfl := Option.some.inj E
            exact v_iret C rfl dX11_dig_63
          · refine v_bipush C dX11_dig_64 k_bipush_m5 ?_
            refine v_istore C [(7, .int (-5)), (6, va_rf (R a33 0)), (5, va_rf q25), (0, va_rf (some o)), (1, .int x1), (2, .int x2), (3, .int x3), (4, .int x4)] dX11_dig_66 (Nat.le_of_ble_eq_true rfl) (by generalize (R a33 0) = rr; cases rr <;> rfl) ?_
            refine v_bipush C dX11_dig_68 k_bipush_m5 ?_
            refine v_istore C [(8, .int (-5)), (7, .int (-5)), (6, va_rf (R a33 0)), (5, va_rf q25), (0, va_rf (some o)), (1, .int x1), (2, .int x2), (3, .int x3), (4, .int x4)] dX11_dig_70 (Nat.le_of_ble_eq_true rfl) rfl ?_
            refine v_iconst C dX11_dig_72 k_iconst_0 ?_
            refine v_istore C [(9, .int 0), (8, .int (-5)), (7, .int (-5)), (6, va_rf (R a33 0)), (5, va_rf q25), (0, va_rf (some o)), (1, .int x1), (2, .int x2), (3, .int x3), (4, .int x4)] dX11_dig_73 (Nat.le_of_ble_eq_true rfl) rfl ?_
            exact v_sub [5, 7, 8, 9, 4, 3, 2, 1, 0] [(0, va_rf (some o)), (2, .int x2), (3, .int x3), (4, .int x4), (5, va_rf q25), (6, va_rf (R a33 0)), (7, .int (-5)), (8, .int (-5)), (9, .int 0)] rfl (w_X11_dig_75 C ho res  _ _ _ _ _ _ _ _ _ _ _ E)
set_option maxHeartbeats 4000000 in
theorem c_X11_dig {n : Nat} {K : Sh} {I : Im} {J : Jm} {R : Rf} {o : Nat} {x1 : Int32} {x2 : Int32} {x3 : Int32} {x4 : Int32} (ho : (K o).1 = 12) {res : Int32 × Im × Rf} (E : f_X11_dig K o x1 x2 x3 x4 I R = some res) : Met l yX11_dig (Cond.code yX11_dig cX11_dig 12 (some .int) :: tb) rX11_dig (PX D cA bs Z [.ref o, .int x1, .int x2, .int x3, .int x4] K n I J R) (QX D cA bs Z (some (.int res.1)) K n res.2.1 J res.2.2) 0 0 (fun q => bs ≤ q) := by
  refine met_of (lv1 := [(0, va_rf (some o)), (1, .int x1), (2, .int x2), (3, .int x3), (4, .int x4)]) pn_X11 (by exact Nat.le_of_ble_eq_true rfl) (by rfl) ?_
  intro p e s m args below meth c C hn
  exact v_sub [0, 1, 2, 3, 4] [(0, va_rf (some o)), (1, .int x1), (2, .int x2), (3, .int x3), (4, .int x4)] rfl (w_X11_dig_0 C ho _ _ _ _ _ _ _ E)
set_option maxHeartbeats 4000000 in
theorem w_X11_tapeAt_0 (C : Cx D cA bs Z p s m args meth c cX11_tapeAt RX11 2 (some (.object "SlowWells$Tape"))) {o : Nat} {K : Sh} {n : Nat} {I : Im} {J : Jm} {R : Rf} (ho : (K o).1 = 12) (res : (Option Nat)) (x1 : Int32) (E : f_X11_tapeAt K R o x1 = some res) : VW D cA bs Z p l e rX11_tapeAt s m args below meth c 2 [(0, va_rf (some o)), (1, .int x1)] K n I J R 0 0 (MQ below (QX D cA bs Z (some (va_rf res)) K n I J R) args s 0 0 (fun q => bs ≤ q)) 0 [] := by
  unfold f_X11_tapeAt at E
  refine v_iload_n C 1 dX11_tapeAt_0 rfl ?_
  refine v_if_lt C 19 E dX11_tapeAt_1 rfl (fun c3 E => ?_) (fun c3 E => ?_)
  · refine v_null C dX11_tapeAt_19 ?_
    obtain rfl := Option.some.inj E
    exact v_aret C rfl dX11_tapeAt_20
  · refine v_iload_n C 1 dX11_tapeAt_4 rfl ?_
    refine v_bipush C dX11_tapeAt_5 k_bipush_6 ?_
    refine v_icmp_ge C 19 E dX11_tapeAt_7 rfl (fun c2 E => ?_) (fun c2 E => ?_)
    · refine v_null C dX11_tapeAt_19 ?_
      obtain rfl := Option.some.inj E
      exact v_aret C rfl dX11_tapeAt_20
    · refine v_aload_n (r := (some o)) C 0 dX11_tapeAt_10 rfl ?_
      refine v_getR (r := (some o)) C fa_X11_46 rfl rfl ho dX11_tapeAt_11 ?_
      refine v_iload_n C 1 dX11_tapeAt_14 rfl ?_
      refine v_aald (r := (R o 10)) C (by decide) E dX11_tapeAt_15 (fun v1 _ E => ?_)
      refine v_goto C 20 dX11_tapeAt_16 rfl ?_
      obtain rfl := Option.some.inj E
      exact v_aret C rfl dX11_tapeAt_20
set_option maxHeartbeats 4000000 in
theorem c_X11_tapeAt {n : Nat} {K : Sh} {I : Im} {J : Jm} {R : Rf} {o : Nat} {x1 : Int32} (ho : (K o).1 = 12) {res : (Option Nat)} (E : f_X11_tapeAt K R o x1 = some res) : Met l yX11_tapeAt (Cond.code yX11_tapeAt cX11_tapeAt 2 (some (.object "SlowWells$Tape")) :: tb) rX11_tapeAt (PX D cA bs Z [.ref o, .int x1] K n I J R) (QX D cA bs Z (some (va_rf res)) K n I J R) 0 0 (fun q => bs ≤ q) := by
  refine met_of (lv1 := [(0, va_rf (some o)), (1, .int x1)]) pn_X11 (by exact Nat.le_of_ble_eq_true rfl) (by rfl) ?_
  intro p e s m args below meth c C hn
  exact v_sub [0, 1] [(0, va_rf (some o)), (1, .int x1)] rfl (w_X11_tapeAt_0 C ho _ _ E)
set_option maxHeartbeats 4000000 in
theorem w_X11_copyStands_39 (C : Cx D cA bs Z p s m args meth c cX11_copyStands RX11 6 (some .int)) {o : Nat} {K : Sh} {n : Nat} {J : Jm} {R : Rf} (ho : (K o).1 = 12) (res : Int32 × Im)  : ∀ (k : Nat), ∀ (x1 : Option Nat) (x2 : Int32) (x3 : Int32) (x4 : Int32) (x5 : Int32) (I : Im), f_X11_copyStands_39 K J R o k x1 x2 x3 x4 x5 I = some res → VW D cA bs Z p l e rX11_copyStands s m args below meth c 6 [(0, va_rf (some o)), (1, va_rf x1), (2, .int x2), (3, .int x3), (4, .int x4), (5, .int x5)] K n I J R 0 0 (MQ below (QX D cA bs Z (some (.int res.1)) K n res.2 J R) args s 0 0 (fun q => bs ≤ q)) 39 [] := by
  intro k
  induction k with
  | zero =>
    intro x1 x2 x3 x4 x5 I E
    have E : (none : Option (Int32 × Im)) = some res := E
    cases E
  | succ k ih =>
    intro x1 x2 x3 x4 x5 I E
    unfold f_X11_copyStands_39 at E
    refine v_iload C 5 dX11_copyStands_39 rfl ?_
    refine v_iload_n C 3 dX11_copyStands_41 rfl ?_
    refine v_icmp_ge C 119 E dX11_copyStands_42 rfl (fun c13 E => ?_) (fun c13 E => ?_)
    · refine v_iload C 4 dX11_copyStands_119 rfl ?_
      obtain rfl := Option.some.inj E
      exact v_iret C rfl dX11_copyStands_121
    · refine v_iload C 4 dX11_copyStands_45 rfl ?_
      refine v_iload C 5 dX11_copyStands_47 rfl ?_
      refine v_icmp_ne C 119 E dX11_copyStands_49 rfl (fun c12 E => ?_) (fun c12 E => ?_)
      · refine v_aload_n (r := x1) C 1 dX11_copyStands_52 rfl ?_
        refine v_iload_n C 2 dX11_copyStands_53 rfl ?_
        refine v_iload C 5 dX11_copyStands_54 rfl ?_
        refine v_iadd C dX11_copyStands_56 ?_
        obtain ⟨a1, h2, E⟩ := bnd E
        obtain ⟨hra1, hoa1⟩ := ob_is h2
        obtain ⟨q3, h4, E⟩ := bnd E
        refine v_callV (r := x1) (As := [.int (x2 + x5)]) (rv := (some (.int q3))) (st := []) (st1 := [.int q3]) (ce1 := 0) (sl1 := 0) C cv_X11_293 (c_X7_isPlace (x1 := (x2 + x5)) hoa1 h4) hra1 hoa1 rfl rfl ⟨rfl, rfl, Nat.le_of_ble_eq_true rfl, Nat.le_of_ble_eq_true rfl⟩ ⟨Nat.le_of_ble_eq_true rfl, Nat.le_of_ble_eq_true rfl⟩ (Nat.le_of_ble_eq_true rfl) rfl rfl rfl dX11_copyStands_57 ?_
        refine v_if_eq C 113 E dX11_copyStands_60 rfl (fun c11 E => ?_) (fun c11 E => ?_)
        · refine v_iinc (v := x5 + 1) C 5 [(5, .int (x5 + 1)), (0, va_rf (some o)), (1, va_rf x1), (2, .int x2), (3, .int x3), (4, .int x4)] dX11_copyStands_113 rfl (k_inc_1 _) (Nat.le_of_ble_eq_true rfl) rfl ?_
          refine v_goto C 39 dX11_copyStands_116 rfl ?_
          exact v_sub [1, 2, 3, 4, 5, 0] [(0, va_rf (some o)), (1, va_rf x1), (2, .int x2), (3, .int x3), (4, .int x4), (5, .int (x5 + 1))] rfl (ih _ _ _ _ _ _ E)
        · refine v_aload_n (r := x1) C 1 dX11_copyStands_63 rfl ?_
          refine v_getR (r := x1) C fa_X11_319 rfl hra1 hoa1 dX11_copyStands_64 ?_
          refine v_iload_n C 2 dX11_copyStands_67 rfl ?_
          refine v_iload C 5 dX11_copyStands_68 rfl ?_
          refine v_iadd C dX11_copyStands_70 ?_
          refine v_lald (r := (R a1 2)) C E dX11_copyStands_71 (fun v5 _ E => ?_)
          refine v_lconst (v := 0) C dX11_copyStands_72 (by decide) ?_
          refine v_lcmp C dX11_copyStands_73 ?_
          refine v_if_lt C 113 E dX11_copyStands_74 rfl (fun c10 E => ?_) (fun c10 E => ?_)
          · refine v_iinc (v := x5 + 1) C 5 [(5, .int (x5 + 1)), (0, va_rf (some o)), (1, va_rf x1), (2, .int x2), (3, .int x3), (4, .int x4)] dX11_copyStands_113 rfl (k_inc_1 _) (Nat.le_of_ble_eq_true rfl) rfl ?_
            refine v_goto C 39 dX11_copyStands_116 rfl ?_
            exact v_sub [1, 2, 3, 4, 5, 0] [(0, va_rf (some o)), (1, va_rf x1), (2, .int x2), (3, .int x3), (4, .int x4), (5, .int (x5 + 1))] rfl (ih _ _ _ _ _ _ E)
          · refine v_aload_n (r := x1) C 1 dX11_copyStands_77 rfl ?_
            refine v_getR (r := x1) C fa_X11_319 rfl hra1 hoa1 dX11_copyStands_78 ?_
            refine v_iload_n C 2 dX11_copyStands_81 rfl ?_
            refine v_iload C 5 dX11_copyStands_82 rfl ?_
            refine v_iadd C dX11_copyStands_84 ?_
            refine v_lald (r := (R a1 2)) C E dX11_copyStands_85 (fun v6 _ E => ?_)
            refine v_ldc2 C ct_X11_365 dX11_copyStands_86 ?_
            refine v_lcmp C dX11_copyStands_89 ?_
            refine v_if_gt C 113 E dX11_copyStands_90 rfl (fun c9 E => ?_) (fun c9 E => ?_)
            · refine v_iinc (v := x5 + 1) C 5 [(5, .int (x5 + 1)), (0, va_rf (some o)), (1, va_rf x1), (2, .int x2), (3, .int x3), (4, .int x4)] dX11_copyStands_113 rfl (k_inc_1 _) (Nat.le_of_ble_eq_true rfl) rfl ?_
              refine v_goto C 39 dX11_copyStands_116 rfl ?_
              exact v_sub [1, 2, 3, 4, 5, 0] [(0, va_rf (some o)), (1, va_rf x1), (2, .int x2), (3, .int x3), (4, .int x4), (5, .int (x5 + 1))] rfl (ih _ _ _ _ _ _ E)
            · refine v_aload_n (r := (some o)) C 0 dX11_copyStands_93 rfl ?_
              refine v_getR (r := (some o)) C fa_X11_96 rfl rfl ho dX11_copyStands_94 ?_
              refine v_iload C 5 dX11_copyStands_97 rfl ?_
              refine v_aload_n (r := x1) C 1 dX11_copyStands_99 rfl ?_
              refine v_getR (r := x1) C fa_X11_319 rfl hra1 hoa1 dX11_copyStands_100 ?_
              refine v_iload_n C 2 dX11_copyStands_103 rfl ?_
              refine v_iload C 5 dX11_copyStands_104 rfl ?_
              refine v_iadd C dX11_copyStands_106 ?_
              refine v_lald (r := (R a1 2)) C E dX11_copyStands_107 (fun v7 _ E => ?_)
              refine v_l2i C dX11_copyStands_108 ?_
              refine v_iast (r := (R o 18)) C E dX11_copyStands_109 (fun I8 _ E => ?_)
              refine v_iinc (v := x4 + 1) C 4 [(4, .int (x4 + 1)), (0, va_rf (some o)), (1, va_rf x1), (2, .int x2), (3, .int x3), (5, .int x5)] dX11_copyStands_110 rfl (k_inc_1 _) (Nat.le_of_ble_eq_true rfl) rfl ?_
              refine v_iinc (v := x5 + 1) C 5 [(5, .int (x5 + 1)), (4, .int (x4 + 1)), (0, va_rf (some o)), (1, va_rf x1), (2, .int x2), (3, .int x3)] dX11_copyStands_113 rfl (k_inc_1 _) (Nat.le_of_ble_eq_true rfl) rfl ?_
              refine v_goto C 39 dX11_copyStands_116 rfl ?_
              exact v_sub [2, 3, 4, 5, 1, 0] [(0, va_rf (some o)), (1, va_rf x1), (2, .int x2), (3, .int x3), (4, .int (x4 + 1)), (5, .int (x5 + 1))] rfl (ih _ _ _ _ _ _ E)
      · refine v_iload C 4 dX11_copyStands_119 rfl ?_
        obtain rfl := Option.some.inj E
        exact v_iret C rfl dX11_copyStands_121
set_option maxHeartbeats 4000000 in
theorem w_X11_copyStands_3 (C : Cx D cA bs Z p s m args meth c cX11_copyStands RX11 6 (some .int)) {o : Nat} {K : Sh} {n : Nat} {J : Jm} {R : Rf} (ho : (K o).1 = 12) (res : Int32 × Im)  : ∀ (k : Nat), ∀ (x1 : Option Nat) (x2 : Int32) (x3 : Int32) (x4 : Int32) (I : Im), f_X11_copyStands_3 K J R o k x1 x2 x3 x4 I = some res → VW D cA bs Z p l e rX11_copyStands s m args below meth c 6 [(0, va_rf (some o)), (1, va_rf x1), (2, .int x2), (3, .int x3), (4, .int x4)] K n I J R 0 0 (MQ below (QX D cA bs Z (some (.int res.1)) K n res.2 J R) args s 0 0 (fun q => bs ≤ q)) 3 [] := by
  intro k
  induction k with
  | zero =>
    intro x1 x2 x3 x4 I E
    have E : (none : Option (Int32 × Im)) = some res := E
    cases E
  | succ k ih =>
    intro x1 x2 x3 x4 I E
    unfold f_X11_copyStands_3 at E
    refine v_iload C 4 dX11_copyStands_3 rfl ?_
    refine v_iconst C dX11_copyStands_5 k_iconst_5 ?_
    refine v_icmp_ge C 23 E dX11_copyStands_6 rfl (fun c20 E => ?_) (fun c20 E => ?_)
    · refine v_aload_n (r := x1) C 1 dX11_copyStands_23 rfl ?_
      refine v_iload_n C 2 dX11_copyStands_24 rfl ?_
      obtain ⟨a14, h15, E⟩ := bnd E
      obtain ⟨hra14, hoa14⟩ := ob_is h15
      obtain ⟨q16, h17, E⟩ := bnd E
      refine v_callV (r := x1) (As := [.int x2]) (rv := (some (.int q16))) (st := []) (st1 := [.int q16]) (ce1 := 0) (sl1 := 0) C cv_X11_293 (c_X7_isPlace (x1 := x2) hoa14 h17) hra14 hoa14 rfl rfl ⟨rfl, rfl, Nat.le_of_ble_eq_true rfl, Nat.le_of_ble_eq_true rfl⟩ ⟨Nat.le_of_ble_eq_true rfl, Nat.le_of_ble_eq_true rfl⟩ (Nat.le_of_ble_eq_true rfl) rfl rfl rfl dX11_copyStands_25 ?_
      refine v_if_ne C 33 E dX11_copyStands_28 rfl (fun c18 E => ?_) (fun c18 E => ?_)
      · refine v_iconst C dX11_copyStands_31 k_iconst_0 ?_
        obtain rfl := Option.some.inj E
        exact v_iret C rfl dX11_copyStands_32
      · refine v_iconst C dX11_copyStands_33 k_iconst_0 ?_
        refine v_istore C [(4, .int 0), (0, va_rf (some o)), (1, va_rf x1), (2, .int x2), (3, .int x3)] dX11_copyStands_34 (Nat.le_of_ble_eq_true rfl) rfl ?_
        refine v_iconst C dX11_copyStands_36 k_iconst_0 ?_
        refine v_istore C [(5, .int 0), (4, .int 0), (0, va_rf (some o)), (1, va_rf x1), (2, .int x2), (3, .int x3)] dX11_copyStands_37 (Nat.le_of_ble_eq_true rfl) rfl ?_
        exact v_sub [2, 3, 4, 5, 1, 0] [(0, va_rf (some o)), (1, va_rf x1), (2, .int x2), (3, .int x3), (4, .int 0), (5, .int 0)] rfl (w_X11_copyStands_39 C ho res  _ _ _ _ _ _ _ E)
    · refine v_aload_n (r := (some o)) C 0 dX11_copyStands_9 rfl ?_
      refine v_getR (r := (some o)) C fa_X11_96 rfl rfl ho dX11_copyStands_10 ?_
      refine v_iload C 4 dX11_copyStands_13 rfl ?_
      refine v_iconst C dX11_copyStands_15 k_iconst_0 ?_
      refine v_iast (r := (R o 18)) C E dX11_copyStands_16 (fun I19 _ E => ?_)
      refine v_iinc (v := x4 + 1) C 4 [(4, .int (x4 + 1)), (0, va_rf (some o)), (1, va_rf x1), (2, .int x2), (3, .int x3)] dX11_copyStands_17 rfl (k_inc_1 _) (Nat.le_of_ble_eq_true rfl) rfl ?_
      refine v_goto C 3 dX11_copyStands_20 rfl ?_
      exact v_sub [1, 2, 3, 4, 0] [(0, va_rf (some o)), (1, va_rf x1), (2, .int x2), (3, .int x3), (4, .int (x4 + 1))] rfl (ih _ _ _ _ _ E)
set_option maxHeartbeats 4000000 in
theorem w_X11_copyStands_0 (C : Cx D cA bs Z p s m args meth c cX11_copyStands RX11 6 (some .int)) {o : Nat} {K : Sh} {n : Nat} {J : Jm} {R : Rf} (ho : (K o).1 = 12) (res : Int32 × Im) (x1 : Option Nat) (x2 : Int32) (x3 : Int32) (I : Im) (E : f_X11_copyStands K J R o x1 x2 x3 I = some res) : VW D cA bs Z p l e rX11_copyStands s m args below meth c 6 [(0, va_rf (some o)), (1, va_rf x1), (2, .int x2), (3, .int x3)] K n I J R 0 0 (MQ below (QX D cA bs Z (some (.int res.1)) K n res.2 J R) args s 0 0 (fun q => bs ≤ q)) 0 [] := by
  unfold f_X11_copyStands at E
  refine v_iconst C dX11_copyStands_0 k_iconst_0 ?_
  refine v_istore C [(4, .int 0), (0, va_rf (some o)), (1, va_rf x1), (2, .int x2), (3, .int x3)] dX11_copyStands_1 (Nat.le_of_ble_eq_true rfl) rfl ?_
  exact v_sub [1, 2, 3, 4, 0] [(0, va_rf (some o)), (1, va_rf x1), (2, .int x2), (3, .int x3), (4, .int 0)] rfl (w_X11_copyStands_3 C ho res  _ _ _ _ _ _ E)
set_option maxHeartbeats 4000000 in
theorem c_X11_copyStands {n : Nat} {K : Sh} {I : Im} {J : Jm} {R : Rf} {o : Nat} {x1 : Option Nat} {x2 : Int32} {x3 : Int32} (ho : (K o).1 = 12) {res : Int32 × Im} (E : f_X11_copyStands K J R o x1 x2 x3 I = some res) : Met l yX11_copyStands (Cond.code yX11_copyStands cX11_copyStands 6 (some .int) :: tb) rX11_copyStands (PX D cA bs Z [.ref o, va_rf x1, .int x2, .int x3] K n I J R) (QX D cA bs Z (some (.int res.1)) K n res.2 J R) 0 0 (fun q => bs ≤ q) := by
  refine met_of (lv1 := [(0, va_rf (some o)), (1, va_rf x1), (2, .int x2), (3, .int x3)]) pn_X11 (by cases x1 <;> exact Nat.le_of_ble_eq_true rfl) (by cases x1 <;> rfl) ?_
  intro p e s m args below meth c C hn
  exact v_sub [0, 1, 2, 3] [(0, va_rf (some o)), (1, va_rf x1), (2, .int x2), (3, .int x3)] rfl (w_X11_copyStands_0 C ho _ _ _ _ _ E)
set_option maxHeartbeats 4000000 in
theorem w_X11_judge_179 (C : Cx D cA bs Z p s m args meth c cX11_judge RX11 8 (some .int)) {o : Nat} {K : Sh} {n : Nat} {J : Jm} {R : Rf} (ho : (K o).1 = 12) (res : Int32 × Im) (x7 : Int32) (I : Im) (E : f_X11_judge_179 K J R o x7 I = some res) : VW D cA bs Z p l e rX11_judge s m args below meth c 8 [(0, va_rf (some o)), (7, .int x7)] K n I J R 0 0 (MQ below (QX D cA bs Z (some (.int res.1)) K n res.2 J R) args s 0 0 (fun q => bs ≤ q)) 179 [] := by
  unfold f_X11_judge_179 at E
  refine v_bipush C dX11_judge_179 k_bipush_100 ?_
  refine v_iload C 1 dX11_judge_181 rfl ?_
  refine v_iadd C dX11_judge_183 ?_
  refine v_iconst C dX11_judge_184 k_iconst_1 ?_
  refine v_iadd C dX11_judge_185 ?_
  obtain rfl := Option.some.inj E
  exact v_iret C rfl dX11_judge_186
set_option maxHeartbeats 4000000 in
theorem w_X11_judge_153 (C : Cx D cA bs Z p s m args meth c cX11_judge RX11 8 (some .int)) {o : Nat} {K : Sh} {n : Nat} {J : Jm} {R : Rf} (ho : (K o).1 = 12) (res : Int32 × Im) (x2 : Int32) (x4 : Option Nat) (x7 : Int32) (I : Im) (E : f_X11_judge_153 K J R o x2 x4 x7 I = some res) : VW D cA bs Z p l e rX11_judge s m args below meth c 8 [(0, va_rf (some o)), (2, .int x2), (4, va_rf x4), (7, .int x7)] K n I J R 0 0 (MQ below (QX D cA bs Z (some (.int res.1)) K n res.2 J R) args s 0 0 (fun q => bs ≤ q)) 153 [] := by
  unfold f_X11_judge_153 at E
  refine v_aload (r := x4) C 2 dX11_judge_153 rfl ?_
  refine v_iload_n C 1 dX11_judge_155 rfl ?_
  obtain ⟨a1, h2, E⟩ := bnd E
  obtain ⟨hra1, hoa1⟩ := ob_is h2
  obtain ⟨q3, h4, E⟩ := bnd E
  refine v_callV (r := x4) (As := [.int x2]) (rv := (some (.int q3))) (st := []) (st1 := [.int q3]) (ce1 := 0) (sl1 := 0) C cv_X11_293 (c_X7_isPlace (x1 := x2) hoa1 h4) hra1 hoa1 rfl rfl ⟨rfl, rfl, Nat.le_of_ble_eq_true rfl, Nat.le_of_ble_eq_true rfl⟩ ⟨Nat.le_of_ble_eq_true rfl, Nat.le_of_ble_eq_true rfl⟩ (Nat.le_of_ble_eq_true rfl) rfl rfl rfl dX11_judge_156 ?_
  refine v_if_eq C 179 E dX11_judge_159 rfl (fun c8 E => ?_) (fun c8 E => ?_)
  · exact v_sub [0, 3] [(0, va_rf (some o)), (7, .int x7)] rfl (w_X11_judge_179 C ho res  _ _ E)
  · refine v_aload (r := x4) C 2 dX11_judge_162 rfl ?_
    refine v_iload_n C 1 dX11_judge_164 rfl ?_
    refine v_iload C 3 dX11_judge_165 rfl ?_
    refine v_iadd C dX11_judge_167 ?_
    obtain ⟨q5, h6, E⟩ := bnd E
    refine v_callV (r := x4) (As := [.int (x2 + x7)]) (rv := (some (.int q5))) (st := []) (st1 := [.int q5]) (ce1 := 0) (sl1 := 0) C cv_X11_293 (c_X7_isPlace (x1 := (x2 + x7)) hoa1 h6) hra1 hoa1 rfl rfl ⟨rfl, rfl, Nat.le_of_ble_eq_true rfl, Nat.le_of_ble_eq_true rfl⟩ ⟨Nat.le_of_ble_eq_true rfl, Nat.le_of_ble_eq_true rfl⟩ (Nat.le_of_ble_eq_true rfl) rfl rfl rfl dX11_judge_168 ?_
    refine v_if_eq C 179 E dX11_judge_171 rfl (fun c7 E => ?_) (fun c7 E => ?_)
    · exact v_sub [0, 3] [(0, va_rf (some o)), (7, .int x7)] rfl (w_X11_judge_179 C ho res  _ _ E)
    · refine v_iload C 3 dX11_judge_174 rfl ?_
      refine v_goto C 186 dX11_judge_176 rfl ?_
      obtain rfl := Option.some.inj E
      exact v_iret C rfl dX11_judge_186
set_option maxHeartbeats 4000000 in
theorem w_X11_judge_64 (C : Cx D cA bs Z p s m args meth c cX11_judge RX11 8 (some .int)) {o : Nat} {K : Sh} {n : Nat} {J : Jm} {R : Rf} (ho : (K o).1 = 12) (res : Int32 × Im) (x2 : Int32) (x4 : Option Nat) (x5 : Option Nat) (x6 : Option Nat) (I : Im) (E : f_X11_judge_64 K J R o x2 x4 x5 x6 I = some res) : VW D cA bs Z p l e rX11_judge s m args below meth c 8 [(0, va_rf (some o)), (2, .int x2), (4, va_rf x4), (5, va_rf x5), (6, va_rf x6)] K n I J R 0 0 (MQ below (QX D cA bs Z (some (.int res.1)) K n res.2 J R) args s 0 0 (fun q => bs ≤ q)) 64 [] := by
  unfold f_X11_judge_64 at E
  refine v_aload_n (r := (some o)) C 0 dX11_judge_64 rfl ?_
  refine v_aload (r := x4) C 2 dX11_judge_65 rfl ?_
  refine v_iload_n C 1 dX11_judge_67 rfl ?_
  refine v_aload (r := x6) C 4 dX11_judge_68 rfl ?_
  obtain ⟨a9, h10, E⟩ := bnd E
  obtain ⟨hra9, hoa9⟩ := ob_is h10
  refine v_getI (r := x6) C fa_X11_134 rfl hra9 hoa9 dX11_judge_70 ?_
  obtain ⟨q11, h12, E⟩ := bnd E
  refine v_callV (r := (some o)) (As := [va_rf x4, .int x2, .int (I a9 0)]) (rv := (some (.int q11.1))) (st := []) (st1 := [.int q11.1]) (ce1 := 0) (sl1 := 0) C cv_X11_286 (c_X11_copyStands (x1 := x4) (x2 := x2) (x3 := (I a9 0)) ho h12) rfl ho rfl rfl ⟨rfl, rfl, Nat.le_of_ble_eq_true rfl, Nat.le_of_ble_eq_true rfl⟩ ⟨Nat.le_of_ble_eq_true rfl, Nat.le_of_ble_eq_true rfl⟩ (Nat.le_of_ble_eq_true rfl) rfl rfl rfl dX11_judge_73 ?_
  refine v_istore C [(7, .int q11.1), (0, va_rf (some o)), (2, .int x2), (4, va_rf x4), (5, va_rf x5), (6, va_rf x6)] dX11_judge_76 (Nat.le_of_ble_eq_true rfl) (by generalize x6 = rr; cases rr <;> rfl) ?_
  refine v_aload_n (r := (some o)) C 1 dX11_judge_78 rfl ?_
  refine v_getR (r := (some o)) C fa_X11_81 rfl rfl ho dX11_judge_79 ?_
  refine v_aload_n (r := (some o)) C 1 dX11_judge_82 rfl ?_
  refine v_getR (r := (some o)) C fa_X11_37 rfl rfl ho dX11_judge_83 ?_
  obtain ⟨a13, h14, E⟩ := bnd E
  obtain ⟨hra13, hoa13⟩ := ob_is h14
  refine v_getR (r := (R o 7)) C fa_X11_123 rfl hra13 hoa13 dX11_judge_86 ?_
  obtain ⟨a15, h16, E⟩ := bnd E
  obtain ⟨hra15, hoa15⟩ := ob_is h16
  obtain ⟨q17, h18, E⟩ := bnd E
  refine v_callV (r := (R o 15)) (As := [va_rf (R a13 1)]) (rv := none) (st := []) (st1 := []) (ce1 := 0) (sl1 := 0) C cv_X11_195 (c_X10_become (x1 := (R a13 1)) hoa15 h18) hra15 hoa15 rfl rfl ⟨rfl, rfl, Nat.le_of_ble_eq_true rfl, Nat.le_of_ble_eq_true rfl⟩ ⟨Nat.le_of_ble_eq_true rfl, Nat.le_of_ble_eq_true rfl⟩ (Nat.le_of_ble_eq_true rfl) rfl rfl rfl dX11_judge_89 ?_
  refine v_aload_n (r := (some o)) C 1 dX11_judge_92 rfl ?_
  refine v_getR (r := (some o)) C fa_X11_60 rfl rfl ho dX11_judge_93 ?_
  refine v_aload (r := x6) C 5 dX11_judge_96 rfl ?_
  refine v_aload_n (r := (some o)) C 1 dX11_judge_98 rfl ?_
  refine v_getR (r := (some o)) C fa_X11_81 rfl rfl ho dX11_judge_99 ?_
  refine v_aload (r := x5) C 4 dX11_judge_102 rfl ?_
  refine v_aload_n (r := (some o)) C 1 dX11_judge_104 rfl ?_
  refine v_getR (r := (some o)) C fa_X11_96 rfl rfl ho dX11_judge_105 ?_
  obtain ⟨a19, h20, E⟩ := bnd E
  obtain ⟨hra19, hoa19⟩ := ob_is h20
  obtain ⟨q21, h22, E⟩ := bnd E
  refine v_callV (r := (R o 12)) (As := [va_rf x6, va_rf (R o 15), va_rf x5, va_rf (R o 18)]) (rv := none) (st := []) (st1 := []) (ce1 := 0) (sl1 := 0) C cv_X11_220 (c_X8_make (x1 := x6) (x2 := (R o 15)) (x3 := x5) (x4 := (R o 18)) hoa19 h22) hra19 hoa19 rfl rfl ⟨rfl, rfl, Nat.le_of_ble_eq_true rfl, Nat.le_of_ble_eq_true rfl⟩ ⟨Nat.le_of_ble_eq_true rfl, Nat.le_of_ble_eq_true rfl⟩ (Nat.le_of_ble_eq_true rfl) rfl rfl rfl dX11_judge_108 ?_
  refine v_iload C 0 dX11_judge_111 rfl ?_
  refine v_aload (r := x6) C 5 dX11_judge_113 rfl ?_
  refine v_getI (r := x6) C fa_X11_134 rfl hra9 hoa9 dX11_judge_115 ?_
  refine v_icmp_ge C 145 E dX11_judge_118 rfl (fun c25 E => ?_) (fun c25 E => ?_)
  · refine v_aload_n (r := (some o)) C 1 dX11_judge_145 rfl ?_
    refine v_getR (r := (some o)) C fa_X11_60 rfl rfl ho dX11_judge_146 ?_
    refine v_getI (r := (R o 12)) C fa_X11_290 rfl hra19 hoa19 dX11_judge_149 ?_
    obtain rfl := Option.some.inj E
    exact v_iret C rfl dX11_judge_152
  · refine v_aload_n (r := (some o)) C 1 dX11_judge_121 rfl ?_
    refine v_getR (r := (some o)) C fa_X11_60 rfl rfl ho dX11_judge_122 ?_
    refine v_getI (r := (R o 12)) C fa_X11_290 rfl hra19 hoa19 dX11_judge_125 ?_
    refine v_bipush C dX11_judge_128 k_bipush_m5 ?_
    refine v_icmp_eq C 153 E dX11_judge_130 rfl (fun c24 E => ?_) (fun c24 E => ?_)
    · exact v_sub [1, 2, 3, 0] [(0, va_rf (some o)), (2, .int x2), (4, va_rf x4), (7, .int q11.1)] rfl (w_X11_judge_153 C ho res  _ _ _ _ E)
    · refine v_aload_n (r := (some o)) C 1 dX11_judge_133 rfl ?_
      refine v_getR (r := (some o)) C fa_X11_60 rfl rfl ho dX11_judge_134 ?_
      refine v_getI (r := (R o 12)) C fa_X11_290 rfl hra19 hoa19 dX11_judge_137 ?_
      refine v_iload C 0 dX11_judge_140 rfl ?_
      refine v_icmp_gt C 153 E dX11_judge_142 rfl (fun c23 E => ?_) (fun c23 E => ?_)
      · exact v_sub [1, 2, 3, 0] [(0, va_rf (some o)), (2, .int x2), (4, va_rf x4), (7, .int q11.1)] rfl (w_X11_judge_153 C ho res  _ _ _ _ E)
      · refine v_aload_n (r := (some o)) C 1 dX11_judge_145 rfl ?_
        refine v_getR (r := (some o)) C fa_X11_60 rfl rfl ho dX11_judge_146 ?_
        refine v_getI (r := (R o 12)) C fa_X11_290 rfl hra19 hoa19 dX11_judge_149 ?_
        obtain rfl := Option.some.inj E
        exact v_iret C rfl dX11_judge_152
set_option maxHeartbeats 4000000 in
theorem w_X11_judge_0 (C : Cx D cA bs Z p s m args meth c cX11_judge RX11 8 (some .int)) {o : Nat} {K : Sh} {n : Nat} {J : Jm} {R : Rf} (ho : (K o).1 = 12) (res : Int32 × Im) (x1 : Int32) (x2 : Int32) (x3 : Int32) (I : Im) (E : f_X11_judge K J R o x1 x2 x3 I = some res) : VW D cA bs Z p l e rX11_judge s m args below meth c 8 [(0, va_rf (some o)), (1, .int x1), (2, .int x2), (3, .int x3)] K n I J R 0 0 (MQ below (QX D cA bs Z (some (.int res.1)) K n res.2 J R) args s 0 0 (fun q => bs ≤ q)) 0 [] := by
  unfold f_X11_judge at E
  refine v_aload_n (r := (some o)) C 0 dX11_judge_0 rfl ?_
  refine v_iload_n C 1 dX11_judge_1 rfl ?_
  obtain ⟨q26, h27, E⟩ := bnd E
  refine v_callV (r := (some o)) (As := [.int x1]) (rv := (some (va_rf q26))) (st := []) (st1 := [va_rf q26]) (ce1 := 0) (sl1 := 0) C cv_X11_279 (c_X11_tapeAt (x1 := x1) ho h27) rfl ho rfl rfl ⟨rfl, rfl, Nat.le_of_ble_eq_true rfl, Nat.le_of_ble_eq_true rfl⟩ ⟨Nat.le_of_ble_eq_true rfl, Nat.le_of_ble_eq_true rfl⟩ (Nat.le_of_ble_eq_true rfl) rfl rfl rfl dX11_judge_2 ?_
  refine v_astore (r := q26) C [(4, va_rf q26), (0, va_rf (some o)), (1, .int x1), (2, .int x2), (3, .int x3)] dX11_judge_5 (Nat.le_of_ble_eq_true rfl) rfl ?_
  refine v_aload_n (r := (some o)) C 1 dX11_judge_7 rfl ?_
  refine v_iload_n C 4 dX11_judge_8 rfl ?_
  obtain ⟨q28, h29, E⟩ := bnd E
  refine v_callV (r := (some o)) (As := [.int x3]) (rv := (some (va_rf q28))) (st := []) (st1 := [va_rf q28]) (ce1 := 0) (sl1 := 0) C cv_X11_187 (c_X11_caravanAt (x1 := x3) ho h29) rfl ho rfl rfl ⟨rfl, rfl, Nat.le_of_ble_eq_true rfl, Nat.le_of_ble_eq_true rfl⟩ ⟨Nat.le_of_ble_eq_true rfl, Nat.le_of_ble_eq_true rfl⟩ (Nat.le_of_ble_eq_true rfl) rfl rfl rfl dX11_judge_9 ?_
  refine v_astore (r := q28) C [(5, va_rf q28), (4, va_rf q26), (0, va_rf (some o)), (1, .int x1), (2, .int x2), (3, .int x3)] dX11_judge_12 (Nat.le_of_ble_eq_true rfl) (by generalize q26 = rr; cases rr <;> rfl) ?_
  refine v_aload (r := q26) C 1 dX11_judge_14 rfl ?_
  refine v_ifnull (r := q26) C 24 E dX11_judge_16 rfl (fun c38 E => ?_) (fun c38 E => ?_)
  · refine v_iconst C dX11_judge_24 k_iconst_m1 ?_
    obtain rfl := Option.some.inj E
    exact v_iret C rfl dX11_judge_25
  · refine v_aload (r := q28) C 0 dX11_judge_19 rfl ?_
    refine v_ifnonnull (r := q28) C 26 E dX11_judge_21 rfl (fun c37 E => ?_) (fun c37 E => ?_)
    · refine v_iconst C dX11_judge_24 k_iconst_m1 ?_
      obtain rfl := Option.some.inj E
      exact v_iret C rfl dX11_judge_25
    · refine v_aload_n (r := (some o)) C 2 dX11_judge_26 rfl ?_
      refine v_getR (r := (some o)) C fa_X11_37 rfl rfl ho dX11_judge_27 ?_
      obtain ⟨a30, h31, E⟩ := bnd E
      obtain ⟨hra30, hoa30⟩ := ob_is h31
      refine v_getR (r := (R o 7)) C fa_X11_120 rfl hra30 hoa30 dX11_judge_30 ?_
      refine v_astore (r := (R a30 0)) C [(6, va_rf (R a30 0)), (5, va_rf q28), (4, va_rf q26), (0, va_rf (some o)), (1, .int x1), (2, .int x2), (3, .int x3)] dX11_judge_33 (Nat.le_of_ble_eq_true rfl) (by generalize q28 = rr; cases rr <;> rfl) ?_
      refine v_aload (r := (R a30 0)) C 0 dX11_judge_35 rfl ?_
      refine v_ifnonnull (r := (R a30 0)) C 43 E dX11_judge_37 rfl (fun c36 E => ?_) (fun c36 E => ?_)
      · refine v_bipush C dX11_judge_40 k_bipush_m3 ?_
        obtain rfl := Option.some.inj E
        exact v_iret C rfl dX11_judge_42
      · refine v_aload (r := q26) C 2 dX11_judge_43 rfl ?_
        obtain ⟨a32, h33, E⟩ := bnd E
        obtain ⟨hra32, hoa32⟩ := ob_is h33
        refine v_getI (r := q26) C fa_X11_283 rfl hra32 hoa32 dX11_judge_45 ?_
        refine v_iconst C dX11_judge_48 k_iconst_m1 ?_
        refine v_icmp_eq C 64 E dX11_judge_49 rfl (fun c35 E => ?_) (fun c35 E => ?_)
        · exact v_sub [3, 5, 2, 1, 0] [(0, va_rf (some o)), (2, .int x2), (4, va_rf q26), (5, va_rf q28), (6, va_rf (R a30 0))] rfl (w_X11_judge_64 C ho res  _ _ _ _ _ E)
        · refine v_aload (r := q26) C 2 dX11_judge_52 rfl ?_
          refine v_getI (r := q26) C fa_X11_283 rfl hra32 hoa32 dX11_judge_54 ?_
          refine v_iconst C dX11_judge_57 k_iconst_2 ?_
          refine v_icmp_eq C 64 E dX11_judge_58 rfl (fun c34 E => ?_) (fun c34 E => ?_)
          · exact v_sub [3, 5, 2, 1, 0] [(0, va_rf (some o)), (2, .int x2), (4, va_rf q26), (5, va_rf q28), (6, va_rf (R a30 0))] rfl (w_X11_judge_64 C ho res  _ _ _ _ _ E)
          · refine v_bipush C dX11_judge_61 k_bipush_m12 ?_
            obtain rfl := Option.some.inj E
            exact v_iret C rfl dX11_judge_63
set_option maxHeartbeats 4000000 in
theorem c_X11_judge {n : Nat} {K : Sh} {I : Im} {J : Jm} {R : Rf} {o : Nat} {x1 : Int32} {x2 : Int32} {x3 : Int32} (ho : (K o).1 = 12) {res : Int32 × Im} (E : f_X11_judge K J R o x1 x2 x3 I = some res) : Met l yX11_judge (Cond.code yX11_judge cX11_judge 8 (some .int) :: tb) rX11_judge (PX D cA bs Z [.ref o, .int x1, .int x2, .int x3] K n I J R) (QX D cA bs Z (some (.int res.1)) K n res.2 J R) 0 0 (fun q => bs ≤ q) := by
  refine met_of (lv1 := [(0, va_rf (some o)), (1, .int x1), (2, .int x2), (3, .int x3)]) pn_X11 (by exact Nat.le_of_ble_eq_true rfl) (by rfl) ?_
  intro p e s m args below meth c C hn
  exact v_sub [0, 1, 2, 3] [(0, va_rf (some o)), (1, .int x1), (2, .int x2), (3, .int x3)] rfl (w_X11_judge_0 C ho _ _ _ _ _ E)
set_option maxHeartbeats 4000000 in
theorem w_X11_image_0 (C : Cx D cA bs Z p s m args meth c cX11_image RX11 1 (some .int)) {o : Nat} {K : Sh} {n : Nat} {J : Jm} (ho : (K o).1 = 12) (res : Int32 × Im × Rf) (I : Im) (R : Rf) (E : f_X11_image K o I R = some res) : VW D cA bs Z p l e rX11_image s m args below meth c 1 [(0, va_rf (some o))] K n I J R 0 0 (MQ below (QX D cA bs Z (some (.int res.1)) K n res.2.1 J res.2.2) args s 0 0 (fun q => bs ≤ q)) 0 [] := by
  unfold f_X11_image at E
  refine v_aload_n (r := (some o)) C 0 dX11_image_0 rfl ?_
  refine v_getR (r := (some o)) C fa_X11_41 rfl rfl ho dX11_image_1 ?_
  refine v_aload_n (r := (some o)) C 0 dX11_image_4 rfl ?_
  refine v_getR (r := (some o)) C fa_X11_37 rfl rfl ho dX11_image_5 ?_
  obtain ⟨a1, h2, E⟩ := bnd E
  obtain ⟨hra1, hoa1⟩ := ob_is h2
  obtain ⟨q3, h4, E⟩ := bnd E
  refine v_callV (r := (R o 8)) (As := [va_rf (R o 7)]) (rv := none) (st := []) (st1 := []) (ce1 := 0) (sl1 := 0) C cv_X11_296 (c_X6_become (x1 := (R o 7)) hoa1 h4) hra1 hoa1 rfl rfl ⟨rfl, rfl, Nat.le_of_ble_eq_true rfl, Nat.le_of_ble_eq_true rfl⟩ ⟨Nat.le_of_ble_eq_true rfl, Nat.le_of_ble_eq_true rfl⟩ (Nat.le_of_ble_eq_true rfl) rfl rfl rfl dX11_image_8 ?_
  refine v_aload_n (r := (some o)) C 0 dX11_image_11 rfl ?_
  refine v_iconst C dX11_image_12 k_iconst_1 ?_
  refine v_putI (r := (some o)) C fa_X11_299 rfl E rfl ho (by decide) dX11_image_13 (fun I5 _ E => ?_)
  refine v_aload_n (r := (some o)) C 0 dX11_image_16 rfl ?_
  refine v_getR (r := (some o)) C fa_X11_37 rfl rfl ho dX11_image_17 ?_
  obtain ⟨a6, h7, E⟩ := bnd E
  obtain ⟨hra6, hoa6⟩ := ob_is h7
  refine v_getI (r := (q3.2 o 7)) C fa_X11_227 rfl hra6 hoa6 dX11_image_20 ?_
  obtain rfl := Option.some.inj E
  exact v_iret C rfl dX11_image_23
set_option maxHeartbeats 4000000 in
theorem c_X11_image {n : Nat} {K : Sh} {I : Im} {J : Jm} {R : Rf} {o : Nat}  (ho : (K o).1 = 12) {res : Int32 × Im × Rf} (E : f_X11_image K o I R = some res) : Met l yX11_image (Cond.code yX11_image cX11_image 1 (some .int) :: tb) rX11_image (PX D cA bs Z [.ref o] K n I J R) (QX D cA bs Z (some (.int res.1)) K n res.2.1 J res.2.2) 0 0 (fun q => bs ≤ q) := by
  refine met_of (lv1 := [(0, va_rf (some o))]) pn_X11 (by exact Nat.le_of_ble_eq_true rfl) (by rfl) ?_
  intro p e s m args below meth c C hn
  exact v_sub [0] [(0, va_rf (some o))] rfl (w_X11_image_0 C ho _ _ _ E)
set_option maxHeartbeats 4000000 in
theorem w_X11_undo_0 (C : Cx D cA bs Z p s m args meth c cX11_undo RX11 1 (some .int)) {o : Nat} {K : Sh} {n : Nat} {J : Jm} (ho : (K o).1 = 12) (res : Int32 × Im × Rf) (I : Im) (R : Rf) (E : f_X11_undo K o I R = some res) : VW D cA bs Z p l e rX11_undo s m args below meth c 1 [(0, va_rf (some o))] K n I J R 0 0 (MQ below (QX D cA bs Z (some (.int res.1)) K n res.2.1 J res.2.2) args s 0 0 (fun q => bs ≤ q)) 0 [] := by
  unfold f_X11_undo at E
  refine v_aload_n (r := (some o)) C 0 dX11_undo_0 rfl ?_
  refine v_getI (r := (some o)) C fa_X11_299 rfl rfl ho dX11_undo_1 ?_
  refine v_if_ne C 10 E dX11_undo_4 rfl (fun c7 E => ?_) (fun c7 E => ?_)
  · refine v_bipush C dX11_undo_7 k_bipush_m3 ?_
    obtain rfl := Option.some.inj E
    exact v_iret C rfl dX11_undo_9
  · refine v_aload_n (r := (some o)) C 0 dX11_undo_10 rfl ?_
    refine v_getR (r := (some o)) C fa_X11_37 rfl rfl ho dX11_undo_11 ?_
    refine v_aload_n (r := (some o)) C 0 dX11_undo_14 rfl ?_
    refine v_getR (r := (some o)) C fa_X11_41 rfl rfl ho dX11_undo_15 ?_
    obtain ⟨a1, h2, E⟩ := bnd E
    obtain ⟨hra1, hoa1⟩ := ob_is h2
    obtain ⟨q3, h4, E⟩ := bnd E
    refine v_callV (r := (R o 7)) (As := [va_rf (R o 8)]) (rv := none) (st := []) (st1 := []) (ce1 := 0) (sl1 := 0) C cv_X11_296 (c_X6_become (x1 := (R o 8)) hoa1 h4) hra1 hoa1 rfl rfl ⟨rfl, rfl, Nat.le_of_ble_eq_true rfl, Nat.le_of_ble_eq_true rfl⟩ ⟨Nat.le_of_ble_eq_true rfl, Nat.le_of_ble_eq_true rfl⟩ (Nat.le_of_ble_eq_true rfl) rfl rfl rfl dX11_undo_18 ?_
    refine v_aload_n (r := (some o)) C 0 dX11_undo_21 rfl ?_
    refine v_getR (r := (some o)) C fa_X11_37 rfl rfl ho dX11_undo_22 ?_
    obtain ⟨a5, h6, E⟩ := bnd E
    obtain ⟨hra5, hoa5⟩ := ob_is h6
    refine v_getI (r := (q3.2 o 7)) C fa_X11_227 rfl hra5 hoa5 dX11_undo_25 ?_
    obtain rfl := Option.some.inj E
    exact v_iret C rfl dX11_undo_28
set_option maxHeartbeats 4000000 in
theorem c_X11_undo {n : Nat} {K : Sh} {I : Im} {J : Jm} {R : Rf} {o : Nat}  (ho : (K o).1 = 12) {res : Int32 × Im × Rf} (E : f_X11_undo K o I R = some res) : Met l yX11_undo (Cond.code yX11_undo cX11_undo 1 (some .int) :: tb) rX11_undo (PX D cA bs Z [.ref o] K n I J R) (QX D cA bs Z (some (.int res.1)) K n res.2.1 J res.2.2) 0 0 (fun q => bs ≤ q) := by
  refine met_of (lv1 := [(0, va_rf (some o))]) pn_X11 (by exact Nat.le_of_ble_eq_true rfl) (by rfl) ?_
  intro p e s m args below meth c C hn
  exact v_sub [0] [(0, va_rf (some o))] rfl (w_X11_undo_0 C ho _ _ _ E)
set_option maxHeartbeats 4000000 in
theorem w_X11_act_0 (C : Cx D cA bs Z p s m args meth c cX11_act RX11 5 (some .int)) {o : Nat} {K : Sh} {n : Nat} {J : Jm} {R : Rf} (ho : (K o).1 = 12) (res : Int32 × Im) (x1 : Int32) (x2 : Int32) (x3 : Int32) (I : Im) (E : f_X11_act Z K R o x1 x2 x3 I = some res) : VW D cA bs Z p l e rX11_act s m args below meth c 5 [(0, va_rf (some o)), (1, .int x1), (2, .int x2), (3, .int x3)] K n I J R 0 0 (MQ below (QX D cA bs Z (some (.int res.1)) K n res.2 J R) args s 0 0 (fun q => bs ≤ q)) 0 [] := by
  unfold f_X11_act at E
  refine v_aload_n (r := (some o)) C 0 dX11_act_0 rfl ?_
  refine v_getR (r := (some o)) C fa_X11_53 rfl rfl ho dX11_act_1 ?_
  refine v_iconst C dX11_act_4 k_iconst_0 ?_
  obtain ⟨a1, h2, E⟩ := bnd E
  obtain ⟨hra1, hoa1⟩ := ob_is h2
  refine v_putI (r := (R o 11)) C fa_X11_303 rfl E hra1 hoa1 ⟨rfl, rfl⟩ dX11_act_5 (fun I3 _ E => ?_)
  refine v_aload_n (r := (some o)) C 0 dX11_act_8 rfl ?_
  refine v_iload_n C 1 dX11_act_9 rfl ?_
  obtain ⟨q4, h5, E⟩ := bnd E
  refine v_callV (r := (some o)) (As := [.int x1]) (rv := (some (va_rf q4))) (st := []) (st1 := [va_rf q4]) (ce1 := 0) (sl1 := 0) C cv_X11_167 (c_X11_ruleAt (x1 := x1) ho h5) rfl ho rfl rfl ⟨rfl, rfl, Nat.le_of_ble_eq_true rfl, Nat.le_of_ble_eq_true rfl⟩ ⟨Nat.le_of_ble_eq_true rfl, Nat.le_of_ble_eq_true rfl⟩ (Nat.le_of_ble_eq_true rfl) rfl rfl rfl dX11_act_10 ?_
  refine v_astore (r := q4) C [(4, va_rf q4), (0, va_rf (some o)), (1, .int x1), (2, .int x2), (3, .int x3)] dX11_act_13 (Nat.le_of_ble_eq_true rfl) rfl ?_
  refine v_aload (r := q4) C 0 dX11_act_15 rfl ?_
  refine v_ifnull (r := q4) C 29 E dX11_act_17 rfl (fun c13 E => ?_) (fun c13 E => ?_)
  · refine v_iconst C dX11_act_29 k_iconst_0 ?_
    obtain rfl := Option.some.inj E
    exact v_iret C rfl dX11_act_30
  · refine v_iload_n C 3 dX11_act_20 rfl ?_
    refine v_iconst C dX11_act_21 k_iconst_0 ?_
    refine v_iconst C dX11_act_22 k_iconst_2 ?_
    obtain ⟨q6, h7, E⟩ := bnd E
    refine v_callS (As := [.int x2, .int 0, .int 2]) (rv := (some (.int q6))) (st := []) (st1 := [.int q6]) (ce1 := 0) (sl1 := 0) C cs_X11_101 (c_X11_within (x0 := x2) (x1 := 0) (x2 := 2) h7) rfl rfl ⟨rfl, rfl, Nat.le_of_ble_eq_true rfl, Nat.le_of_ble_eq_true rfl⟩ ⟨Nat.le_of_ble_eq_true rfl, Nat.le_of_ble_eq_true rfl⟩ (Nat.le_of_ble_eq_true rfl) rfl rfl rfl dX11_act_23 ?_
    refine v_if_ne C 31 E dX11_act_26 rfl (fun c12 E => ?_) (fun c12 E => ?_)
    · refine v_iconst C dX11_act_29 k_iconst_0 ?_
      obtain rfl := Option.some.inj E
      exact v_iret C rfl dX11_act_30
    · refine v_aload_n (r := (some o)) C 1 dX11_act_31 rfl ?_
      refine v_getR (r := (some o)) C fa_X11_53 rfl rfl ho dX11_act_32 ?_
      refine v_aload (r := q4) C 0 dX11_act_35 rfl ?_
      refine v_aload (r := q4) C 0 dX11_act_37 rfl ?_
      obtain ⟨a8, h9, E⟩ := bnd E
      obtain ⟨hra8, hoa8⟩ := ob_is h9
      refine v_getI (r := q4) C fa_X11_171 rfl hra8 hoa8 dX11_act_39 ?_
      refine v_iload_n C 3 dX11_act_42 rfl ?_
      refine v_iload_n C 4 dX11_act_43 rfl ?_
      refine v_iconst C dX11_act_44 k_iconst_0 ?_
      obtain ⟨q10, h11, E⟩ := bnd E
      refine v_callS (As := [va_rf (R o 11), va_rf q4, .int (I3 a8 0), .int x2, .int x3, .int 0]) (rv := (some (.int q10.1))) (st := []) (st1 := [.int q10.1]) (ce1 := 0) (sl1 := 0) C cs_X11_306 (c_X0_perform (x0 := (R o 11)) (x1 := q4) (x2 := (I3 a8 0)) (x3 := x2) (x4 := x3) (x5 := 0) h11) rfl rfl ⟨rfl, rfl, Nat.le_of_ble_eq_true rfl, Nat.le_of_ble_eq_true rfl⟩ ⟨Nat.le_of_ble_eq_true rfl, Nat.le_of_ble_eq_true rfl⟩ (Nat.le_of_ble_eq_true rfl) rfl rfl rfl dX11_act_45 ?_
      obtain rfl := Option.some.inj E
      exact v_iret C rfl dX11_act_48
set_option maxHeartbeats 4000000 in
theorem c_X11_act {n : Nat} {K : Sh} {I : Im} {J : Jm} {R : Rf} {o : Nat} {x1 : Int32} {x2 : Int32} {x3 : Int32} (ho : (K o).1 = 12) {res : Int32 × Im} (E : f_X11_act Z K R o x1 x2 x3 I = some res) : Met l yX11_act (Cond.code yX11_act cX11_act 5 (some .int) :: tb) rX11_act (PX D cA bs Z [.ref o, .int x1, .int x2, .int x3] K n I J R) (QX D cA bs Z (some (.int res.1)) K n res.2 J R) 0 0 (fun q => bs ≤ q) := by
  refine met_of (lv1 := [(0, va_rf (some o)), (1, .int x1), (2, .int x2), (3, .int x3)]) pn_X11 (by exact Nat.le_of_ble_eq_true rfl) (by rfl) ?_
  intro p e s m args below meth c C hn
  exact v_sub [0, 1, 2, 3] [(0, va_rf (some o)), (1, .int x1), (2, .int x2), (3, .int x3)] rfl (w_X11_act_0 C ho _ _ _ _ _ E)
set_option maxHeartbeats 4000000 in
theorem w_X11_trace_0 (C : Cx D cA bs Z p s m args meth c cX11_trace RX11 2 (some .int)) {o : Nat} {K : Sh} {n : Nat} {I : Im} {J : Jm} {R : Rf} (ho : (K o).1 = 12) (res : Int32) (x1 : Int32) (E : f_X11_trace K I R o x1 = some res) : VW D cA bs Z p l e rX11_trace s m args below meth c 2 [(0, va_rf (some o)), (1, .int x1)] K n I J R 0 0 (MQ below (QX D cA bs Z (some (.int res)) K n I J R) args s 0 0 (fun q => bs ≤ q)) 0 [] := by
  unfold f_X11_trace at E
  refine v_iload_n C 1 dX11_trace_0 rfl ?_
  refine v_if_lt C 33 E dX11_trace_1 rfl (fun c6 E => ?_) (fun c6 E => ?_)
  · refine v_iconst C dX11_trace_33 k_iconst_m1 ?_
    obtain rfl := Option.some.inj E
    exact v_iret C rfl dX11_trace_34
  · refine v_iload_n C 1 dX11_trace_4 rfl ?_
    refine v_aload_n (r := (some o)) C 0 dX11_trace_5 rfl ?_
    refine v_getR (r := (some o)) C fa_X11_53 rfl rfl ho dX11_trace_6 ?_
    obtain ⟨a1, h2, E⟩ := bnd E
    obtain ⟨hra1, hoa1⟩ := ob_is h2
    refine v_getI (r := (R o 11)) C fa_X11_303 rfl hra1 hoa1 dX11_trace_9 ?_
    refine v_icmp_ge C 33 E dX11_trace_12 rfl (fun c5 E => ?_) (fun c5 E => ?_)
    · refine v_iconst C dX11_trace_33 k_iconst_m1 ?_
      obtain rfl := Option.some.inj E
      exact v_iret C rfl dX11_trace_34
    · refine v_iload_n C 1 dX11_trace_15 rfl ?_
      refine v_bipush C dX11_trace_16 k_bipush_20 ?_
      refine v_icmp_ge C 33 E dX11_trace_18 rfl (fun c4 E => ?_) (fun c4 E => ?_)
      · refine v_iconst C dX11_trace_33 k_iconst_m1 ?_
        obtain rfl := Option.some.inj E
        exact v_iret C rfl dX11_trace_34
      · refine v_aload_n (r := (some o)) C 0 dX11_trace_21 rfl ?_
        refine v_getR (r := (some o)) C fa_X11_53 rfl rfl ho dX11_trace_22 ?_
        refine v_getR (r := (R o 11)) C fa_X11_310 rfl hra1 hoa1 dX11_trace_25 ?_
        refine v_iload_n C 1 dX11_trace_28 rfl ?_
        refine v_iald (r := (R a1 0)) C E dX11_trace_29 (fun v3 _ E => ?_)
        refine v_goto C 34 dX11_trace_30 rfl ?_
        obtain rfl := Option.some.inj E
        exact v_iret C rfl dX11_trace_34
set_option maxHeartbeats 4000000 in
theorem c_X11_trace {n : Nat} {K : Sh} {I : Im} {J : Jm} {R : Rf} {o : Nat} {x1 : Int32} (ho : (K o).1 = 12) {res : Int32} (E : f_X11_trace K I R o x1 = some res) : Met l yX11_trace (Cond.code yX11_trace cX11_trace 2 (some .int) :: tb) rX11_trace (PX D cA bs Z [.ref o, .int x1] K n I J R) (QX D cA bs Z (some (.int res)) K n I J R) 0 0 (fun q => bs ≤ q) := by
  refine met_of (lv1 := [(0, va_rf (some o)), (1, .int x1)]) pn_X11 (by exact Nat.le_of_ble_eq_true rfl) (by rfl) ?_
  intro p e s m args below meth c C hn
  exact v_sub [0, 1] [(0, va_rf (some o)), (1, .int x1)] rfl (w_X11_trace_0 C ho _ _ E)
set_option maxHeartbeats 4000000 in
theorem w_X11_isUnder_4 (C : Cx D cA bs Z p s m args meth c cX11_isUnder RX11 4 (some .boolean)) {K : Sh} {n : Nat} {I : Im} {J : Jm} {R : Rf} (res : Int32)  : ∀ (k : Nat), ∀ (x1 : Int32) (x2 : Int32) (x3 : Int32), f_X11_isUnder_4 Z K I k x1 x2 x3 = some res → VW D cA bs Z p l e rX11_isUnder s m args below meth c 4 [(1, .int x1), (2, .int x2), (3, .int x3)] K n I J R 0 0 (MQ below (QX D cA bs Z (some (.int res)) K n I J R) args s 0 0 (fun q => bs ≤ q)) 4 [] := by
  intro k
  induction k with
  | zero =>
    intro x1 x2 x3 E
    have E : (none : Option (Int32)) = some res := E
    cases E
  | succ k ih =>
    intro x1 x2 x3 E
    unfold f_X11_isUnder_4 at E
    refine v_iload_n C 2 dX11_isUnder_4 rfl ?_
    refine v_gets C 0 (by decide) gs_X11_336 dX11_isUnder_5 ?_
    refine v_alen (r := (some (Z 0))) C E dX11_isUnder_8 (fun v1 _ E => ?_)
    refine v_icmp_ge C 43 E dX11_isUnder_9 rfl (fun c7 E => ?_) (fun c7 E => ?_)
    · refine v_iconst C dX11_isUnder_43 k_iconst_0 ?_
      obtain rfl := Option.some.inj E
      exact v_zret (v := 0) C rfl nz_0 dX11_isUnder_44
    · refine v_iload_n C 1 dX11_isUnder_12 rfl ?_
      refine v_if_lt C 43 E dX11_isUnder_13 rfl (fun c6 E => ?_) (fun c6 E => ?_)
      · refine v_iconst C dX11_isUnder_43 k_iconst_0 ?_
        obtain rfl := Option.some.inj E
        exact v_zret (v := 0) C rfl nz_0 dX11_isUnder_44
      · refine v_iload_n C 1 dX11_isUnder_16 rfl ?_
        refine v_gets C 0 (by decide) gs_X11_336 dX11_isUnder_17 ?_
        refine v_alen (r := (some (Z 0))) C E dX11_isUnder_20 (fun v2 _ E => ?_)
        refine v_icmp_ge C 43 E dX11_isUnder_21 rfl (fun c5 E => ?_) (fun c5 E => ?_)
        · refine v_iconst C dX11_isUnder_43 k_iconst_0 ?_
          obtain rfl := Option.some.inj E
          exact v_zret (v := 0) C rfl nz_0 dX11_isUnder_44
        · refine v_iload_n C 1 dX11_isUnder_24 rfl ?_
          refine v_iload_n C 0 dX11_isUnder_25 rfl ?_
          refine v_icmp_ne C 31 E dX11_isUnder_26 rfl (fun c4 E => ?_) (fun c4 E => ?_)
          · refine v_iconst C dX11_isUnder_29 k_iconst_1 ?_
            obtain rfl := Option.some.inj E
            exact v_zret (v := 1) C rfl nz_1 dX11_isUnder_30
          · refine v_gets C 0 (by decide) gs_X11_336 dX11_isUnder_31 ?_
            refine v_iload_n C 1 dX11_isUnder_34 rfl ?_
            refine v_iald (r := (some (Z 0))) C E dX11_isUnder_35 (fun v3 _ E => ?_)
            refine v_istore_n C [(2, .int v3), (1, .int x1), (3, .int x3)] dX11_isUnder_36 (Nat.le_of_ble_eq_true rfl) rfl ?_
            refine v_iinc (v := x3 + 1) C 2 [(3, .int (x3 + 1)), (2, .int v3), (1, .int x1)] dX11_isUnder_37 rfl (k_inc_1 _) (Nat.le_of_ble_eq_true rfl) rfl ?_
            refine v_goto C 4 dX11_isUnder_40 rfl ?_
            exact v_sub [2, 1, 0] [(1, .int x1), (2, .int v3), (3, .int (x3 + 1))] rfl (ih _ _ _ E)
set_option maxHeartbeats 4000000 in
theorem w_X11_isUnder_0 (C : Cx D cA bs Z p s m args meth c cX11_isUnder RX11 4 (some .boolean)) {K : Sh} {n : Nat} {I : Im} {J : Jm} {R : Rf} (res : Int32) (x0 : Int32) (x1 : Int32) (E : f_X11_isUnder Z K I x0 x1 = some res) : VW D cA bs Z p l e rX11_isUnder s m args below meth c 4 [(0, .int x0), (1, .int x1)] K n I J R 0 0 (MQ below (QX D cA bs Z (some (.int res)) K n I J R) args s 0 0 (fun q => bs ≤ q)) 0 [] := by
  unfold f_X11_isUnder at E
  refine v_iload_n C 0 dX11_isUnder_0 rfl ?_
  refine v_istore_n C [(2, .int x0), (0, .int x0), (1, .int x1)] dX11_isUnder_1 (Nat.le_of_ble_eq_true rfl) rfl ?_
  refine v_iconst C dX11_isUnder_2 k_iconst_0 ?_
  refine v_istore_n C [(3, .int 0), (2, .int x0), (0, .int x0), (1, .int x1)] dX11_isUnder_3 (Nat.le_of_ble_eq_true rfl) rfl ?_
  exact v_sub [3, 1, 0] [(1, .int x1), (2, .int x0), (3, .int 0)] rfl (w_X11_isUnder_4 C res  _ _ _ _ E)
set_option maxHeartbeats 4000000 in
theorem c_X11_isUnder {n : Nat} {K : Sh} {I : Im} {J : Jm} {R : Rf} {x0 : Int32} {x1 : Int32} {res : Int32} (E : f_X11_isUnder Z K I x0 x1 = some res) : Met l yX11_isUnder (Cond.code yX11_isUnder cX11_isUnder 4 (some .boolean) :: tb) rX11_isUnder (PX D cA bs Z [.int x0, .int x1] K n I J R) (QX D cA bs Z (some (.int res)) K n I J R) 0 0 (fun q => bs ≤ q) := by
  refine met_of (lv1 := [(0, .int x0), (1, .int x1)]) pn_X11 (by exact Nat.le_of_ble_eq_true rfl) (by rfl) ?_
  intro p e s m args below meth c C hn
  exact v_sub [0, 1] [(0, .int x0), (1, .int x1)] rfl (w_X11_isUnder_0 C _ _ _ E)
set_option maxHeartbeats 4000000 in
theorem w_X11_taken_0 (C : Cx D cA bs Z p s m args meth c cX11_taken RX11 4 (some .int)) {o : Nat} {K : Sh} {n : Nat} {I : Im} {J : Jm} {R : Rf} (ho : (K o).1 = 12) (res : Int32) (x1 : Int32) (x2 : Int32) (E : f_X11_taken Z K I R o x1 x2 = some res) : VW D cA bs Z p l e rX11_taken s m args below meth c 4 [(0, va_rf (some o)), (1, .int x1), (2, .int x2)] K n I J R 0 0 (MQ below (QX D cA bs Z (some (.int res)) K n I J R) args s 0 0 (fun q => bs ≤ q)) 0 [] := by
  unfold f_X11_taken at E
  refine v_iload_n C 2 dX11_taken_0 rfl ?_
  refine v_iconst C dX11_taken_1 k_iconst_0 ?_
  refine v_bipush C dX11_taken_2 k_bipush_6 ?_
  obtain ⟨q1, h2, E⟩ := bnd E
  refine v_callS (As := [.int x2, .int 0, .int 6]) (rv := (some (.int q1))) (st := []) (st1 := [.int q1]) (ce1 := 0) (sl1 := 0) C cs_X11_101 (c_X11_within (x0 := x2) (x1 := 0) (x2 := 6) h2) rfl rfl ⟨rfl, rfl, Nat.le_of_ble_eq_true rfl, Nat.le_of_ble_eq_true rfl⟩ ⟨Nat.le_of_ble_eq_true rfl, Nat.le_of_ble_eq_true rfl⟩ (Nat.le_of_ble_eq_true rfl) rfl rfl rfl dX11_taken_4 ?_
  refine v_if_ne C 13 E dX11_taken_7 rfl (fun c11 E => ?_) (fun c11 E => ?_)
  · refine v_bipush C dX11_taken_10 k_bipush_m2 ?_
    obtain rfl := Option.some.inj E
    exact v_iret C rfl dX11_taken_12
  · refine v_aload_n (r := (some o)) C 0 dX11_taken_13 rfl ?_
    refine v_iload_n C 1 dX11_taken_14 rfl ?_
    obtain ⟨q3, h4, E⟩ := bnd E
    refine v_callV (r := (some o)) (As := [.int x1]) (rv := (some (va_rf q3))) (st := []) (st1 := [va_rf q3]) (ce1 := 0) (sl1 := 0) C cv_X11_167 (c_X11_ruleAt (x1 := x1) ho h4) rfl ho rfl rfl ⟨rfl, rfl, Nat.le_of_ble_eq_true rfl, Nat.le_of_ble_eq_true rfl⟩ ⟨Nat.le_of_ble_eq_true rfl, Nat.le_of_ble_eq_true rfl⟩ (Nat.le_of_ble_eq_true rfl) rfl rfl rfl dX11_taken_15 ?_
    refine v_astore_n (r := q3) C [(3, va_rf q3), (0, va_rf (some o)), (1, .int x1), (2, .int x2)] dX11_taken_18 (Nat.le_of_ble_eq_true rfl) rfl ?_
    refine v_aload_n (r := q3) C 0 dX11_taken_19 rfl ?_
    refine v_ifnonnull (r := q3) C 26 E dX11_taken_20 rfl (fun c10 E => ?_) (fun c10 E => ?_)
    · refine v_bipush C dX11_taken_23 k_bipush_m11 ?_
      obtain rfl := Option.some.inj E
      exact v_iret C rfl dX11_taken_25
    · refine v_aload_n (r := q3) C 0 dX11_taken_26 rfl ?_
      obtain ⟨a5, h6, E⟩ := bnd E
      obtain ⟨hra5, hoa5⟩ := ob_is h6
      refine v_getI (r := q3) C fa_X11_171 rfl hra5 hoa5 dX11_taken_27 ?_
      refine v_iload_n C 3 dX11_taken_30 rfl ?_
      obtain ⟨q7, h8, E⟩ := bnd E
      refine v_callS (As := [.int (I a5 0), .int x2]) (rv := (some (.int q7))) (st := []) (st1 := [.int q7]) (ce1 := 0) (sl1 := 0) C cs_X11_313 (c_X11_isUnder (x0 := (I a5 0)) (x1 := x2) h8) rfl rfl ⟨rfl, rfl, Nat.le_of_ble_eq_true rfl, Nat.le_of_ble_eq_true rfl⟩ ⟨Nat.le_of_ble_eq_true rfl, Nat.le_of_ble_eq_true rfl⟩ (Nat.le_of_ble_eq_true rfl) rfl rfl rfl dX11_taken_31 ?_
      refine v_if_eq C 44 E dX11_taken_34 rfl (fun c9 E => ?_) (fun c9 E => ?_)
      · refine v_bipush C dX11_taken_44 k_bipush_m12 ?_
        obtain rfl := Option.some.inj E
        exact v_iret C rfl dX11_taken_46
      · refine v_aload_n (r := q3) C 0 dX11_taken_37 rfl ?_
        refine v_getI (r := q3) C fa_X11_171 rfl hra5 hoa5 dX11_taken_38 ?_
        refine v_goto C 46 dX11_taken_41 rfl ?_
        obtain rfl := Option.some.inj E
        exact v_iret C rfl dX11_taken_46
set_option maxHeartbeats 4000000 in
theorem c_X11_taken {n : Nat} {K : Sh} {I : Im} {J : Jm} {R : Rf} {o : Nat} {x1 : Int32} {x2 : Int32} (ho : (K o).1 = 12) {res : Int32} (E : f_X11_taken Z K I R o x1 x2 = some res) : Met l yX11_taken (Cond.code yX11_taken cX11_taken 4 (some .int) :: tb) rX11_taken (PX D cA bs Z [.ref o, .int x1, .int x2] K n I J R) (QX D cA bs Z (some (.int res)) K n I J R) 0 0 (fun q => bs ≤ q) := by
  refine met_of (lv1 := [(0, va_rf (some o)), (1, .int x1), (2, .int x2)]) pn_X11 (by exact Nat.le_of_ble_eq_true rfl) (by rfl) ?_
  intro p e s m args below meth c C hn
  exact v_sub [0, 1, 2] [(0, va_rf (some o)), (1, .int x1), (2, .int x2)] rfl (w_X11_taken_0 C ho _ _ _ E)
set_option maxHeartbeats 4000000 in
theorem w_X11_count_0 (C : Cx D cA bs Z p s m args meth c cX11_count RX11 2 (some .int)) {o : Nat} {K : Sh} {n : Nat} {I : Im} {J : Jm} {R : Rf} (ho : (K o).1 = 12) (res : Int32) (x1 : Int32) (E : f_X11_count K I R o x1 = some res) : VW D cA bs Z p l e rX11_count s m args below meth c 2 [(0, va_rf (some o)), (1, .int x1)] K n I J R 0 0 (MQ below (QX D cA bs Z (some (.int res)) K n I J R) args s 0 0 (fun q => bs ≤ q)) 0 [] := by
  unfold f_X11_count at E
  refine v_iload_n C 1 dX11_count_0 rfl ?_
  by_cases c1 : x1 = 0
  · have E := ite_t E c1
    refine v_tableIn (off := 43) C 44 dX11_count_1 (by rw [c1]; decide) (by rw [c1]; decide) (by rw [c1]; rfl) rfl ?_
    refine v_aload_n (r := (some o)) C 0 dX11_count_44 rfl ?_
    refine v_getI (r := (some o)) C fa_X11_113 rfl rfl ho dX11_count_45 ?_
    obtain rfl := Option.some.inj E
    exact v_iret C rfl dX11_count_48
  have E := ite_f E c1
  by_cases c2 : x1 = 1
  · have E := ite_t E c2
    refine v_tableIn (off := 48) C 49 dX11_count_1 (by rw [c2]; decide) (by rw [c2]; decide) (by rw [c2]; rfl) rfl ?_
    refine v_aload_n (r := (some o)) C 0 dX11_count_49 rfl ?_
    refine v_getI (r := (some o)) C fa_X11_161 rfl rfl ho dX11_count_50 ?_
    obtain rfl := Option.some.inj E
    exact v_iret C rfl dX11_count_53
  have E := ite_f E c2
  by_cases c3 : x1 = 2
  · have E := ite_t E c3
    refine v_tableIn (off := 53) C 54 dX11_count_1 (by rw [c3]; decide) (by rw [c3]; decide) (by rw [c3]; rfl) rfl ?_
    refine v_aload_n (r := (some o)) C 0 dX11_count_54 rfl ?_
    refine v_getI (r := (some o)) C fa_X11_180 rfl rfl ho dX11_count_55 ?_
    obtain rfl := Option.some.inj E
    exact v_iret C rfl dX11_count_58
  have E := ite_f E c3
  by_cases c6 : x1 = 3
  · have E := ite_t E c6
    refine v_tableIn (off := 58) C 59 dX11_count_1 (by rw [c6]; decide) (by rw [c6]; decide) (by rw [c6]; rfl) rfl ?_
    refine v_aload_n (r := (some o)) C 0 dX11_count_59 rfl ?_
    refine v_getR (r := (some o)) C fa_X11_37 rfl rfl ho dX11_count_60 ?_
    obtain ⟨a4, h5, E⟩ := bnd E
    obtain ⟨hra4, hoa4⟩ := ob_is h5
    refine v_getI (r := (R o 7)) C fa_X11_227 rfl hra4 hoa4 dX11_count_63 ?_
    obtain rfl := Option.some.inj E
    exact v_iret C rfl dX11_count_66
  have E := ite_f E c6
  by_cases c9 : x1 = 4
  · have E := ite_t E c9
    refine v_tableIn (off := 66) C 67 dX11_count_1 (by rw [c9]; decide) (by rw [c9]; decide) (by rw [c9]; rfl) rfl ?_
    refine v_aload_n (r := (some o)) C 0 dX11_count_67 rfl ?_
    refine v_getR (r := (some o)) C fa_X11_37 rfl rfl ho dX11_count_68 ?_
    obtain ⟨a7, h8, E⟩ := bnd E
    obtain ⟨hra7, hoa7⟩ := ob_is h8
    refine v_getI (r := (R o 7)) C fa_X11_214 rfl hra7 hoa7 dX11_count_71 ?_
    obtain rfl := Option.some.inj E
    exact v_iret C rfl dX11_count_74
  have E := ite_f E c9
  by_cases c12 : x1 = 5
  · have E := ite_t E c12
    refine v_tableIn (off := 74) C 75 dX11_count_1 (by rw [c12]; decide) (by rw [c12]; decide) (by rw [c12]; rfl) rfl ?_
    refine v_aload_n (r := (some o)) C 0 dX11_count_75 rfl ?_
    refine v_getR (r := (some o)) C fa_X11_12 rfl rfl ho dX11_count_76 ?_
    obtain ⟨a10, h11, E⟩ := bnd E
    obtain ⟨hra10, hoa10⟩ := ob_is h11
    refine v_getI (r := (R o 0)) C fa_X11_105 rfl hra10 hoa10 dX11_count_79 ?_
    obtain rfl := Option.some.inj E
    exact v_iret C rfl dX11_count_82
  have E := ite_f E c12
  by_cases c15 : x1 = 6
  · have E := ite_t E c15
    refine v_tableIn (off := 82) C 83 dX11_count_1 (by rw [c15]; decide) (by rw [c15]; decide) (by rw [c15]; rfl) rfl ?_
    refine v_aload_n (r := (some o)) C 0 dX11_count_83 rfl ?_
    refine v_getR (r := (some o)) C fa_X11_53 rfl rfl ho dX11_count_84 ?_
    obtain ⟨a13, h14, E⟩ := bnd E
    obtain ⟨hra13, hoa13⟩ := ob_is h14
    refine v_getI (r := (R o 11)) C fa_X11_303 rfl hra13 hoa13 dX11_count_87 ?_
    obtain rfl := Option.some.inj E
    exact v_iret C rfl dX11_count_90
  have E := ite_f E c15
  refine v_tableOut C 91 dX11_count_1 (by have hc1 := lv_neT c1 (show ((0 : Int32)).toInt = 0 from by decide); have hc2 := lv_neT c2 (show ((1 : Int32)).toInt = 1 from by decide); have hc3 := lv_neT c3 (show ((2 : Int32)).toInt = 2 from by decide); have hc6 := lv_neT c6 (show ((3 : Int32)).toInt = 3 from by decide); have hc9 := lv_neT c9 (show ((4 : Int32)).toInt = 4 from by decide); have hc12 := lv_neT c12 (show ((5 : Int32)).toInt = 5 from by decide); have hc15 := lv_neT c15 (show ((6 : Int32)).toInt = 6 from by decide); omega) rfl ?_
  refine v_bipush C dX11_count_91 k_bipush_m2 ?_
  obtain rfl := Option.some.inj E
  exact v_iret C rfl dX11_count_93
set_option maxHeartbeats 4000000 in
theorem c_X11_count {n : Nat} {K : Sh} {I : Im} {J : Jm} {R : Rf} {o : Nat} {x1 : Int32} (ho : (K o).1 = 12) {res : Int32} (E : f_X11_count K I R o x1 = some res) : Met l yX11_count (Cond.code yX11_count cX11_count 2 (some .int) :: tb) rX11_count (PX D cA bs Z [.ref o, .int x1] K n I J R) (QX D cA bs Z (some (.int res)) K n I J R) 0 0 (fun q => bs ≤ q) := by
  refine met_of (lv1 := [(0, va_rf (some o)), (1, .int x1)]) pn_X11 (by exact Nat.le_of_ble_eq_true rfl) (by rfl) ?_
  intro p e s m args below meth c C hn
  exact v_sub [0, 1] [(0, va_rf (some o)), (1, .int x1)] rfl (w_X11_count_0 C ho _ _ E)
end WK4
