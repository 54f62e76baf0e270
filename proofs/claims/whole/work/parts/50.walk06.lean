section WK6
variable {D : va_G} {cA : Nat → ClassId} {bs : Nat} {Z : Nat → Nat} {p : Program} {l : Launch} {e : Env} {s : State} {m : MethodId} {args : Array Value} {below : List Frame} {meth : Method} {c : Code}
set_option maxHeartbeats 4000000 in
theorem w_X12_fresh_6 (C : Cx D cA bs Z p s m args meth c cX12_fresh RX12 2 none) {o : Nat} {K : Sh} {n : Nat} {J : Jm} {R : Rf} (ho : (K o).1 = 13) (res : Im)  : ∀ (k : Nat), ∀ (x1 : Int32) (I : Im), f_X12_fresh_6 K R o k x1 I = some res → VW D cA bs Z p l e rX12_fresh s m args below meth c 2 [(0, va_rf (some o)), (1, .int x1)] K n I J R 0 0 (MQ below (QX D cA bs Z none K n res J R) args s 0 0 (fun q => bs ≤ q)) 6 [] := by
  intro k
  induction k with
  | zero =>
    intro x1 I E
    have E : (none : Option (Im)) = some res := E
    cases E
  | succ k ih =>
    intro x1 I E
    unfold f_X12_fresh_6 at E
    refine v_iload_n C 1 dX12_fresh_6 rfl ?_
    refine v_aload_n (r := (some o)) C 0 dX12_fresh_7 rfl ?_
    refine v_getI (r := (some o)) C fa_X12_75 rfl rfl ho dX12_fresh_8 ?_
    refine v_icmp_ge C 39 E dX12_fresh_11 rfl (fun c4 E => ?_) (fun c4 E => ?_)
    · obtain rfl := Option.some.inj E
      exact v_vret C rfl dX12_fresh_39
    · refine v_aload_n (r := (some o)) C 0 dX12_fresh_14 rfl ?_
      refine v_getR (r := (some o)) C fa_X12_66 rfl rfl ho dX12_fresh_15 ?_
      refine v_iload_n C 1 dX12_fresh_18 rfl ?_
      refine v_aload_n (r := (some o)) C 0 dX12_fresh_19 rfl ?_
      refine v_getR (r := (some o)) C fa_X12_78 rfl rfl ho dX12_fresh_20 ?_
      refine v_iload_n C 1 dX12_fresh_23 rfl ?_
      refine v_iald (r := (R o 22)) C E dX12_fresh_24 (fun v1 _ E => ?_)
      refine v_iast (r := (R o 18)) C E dX12_fresh_25 (fun I2 _ E => ?_)
      refine v_aload_n (r := (some o)) C 0 dX12_fresh_26 rfl ?_
      refine v_getR (r := (some o)) C fa_X12_69 rfl rfl ho dX12_fresh_27 ?_
      refine v_iload_n C 1 dX12_fresh_30 rfl ?_
      refine v_iconst C dX12_fresh_31 k_iconst_0 ?_
      refine v_iast (r := (R o 19)) C E dX12_fresh_32 (fun I3 _ E => ?_)
      refine v_iinc (v := x1 + 1) C 1 [(1, .int (x1 + 1)), (0, va_rf (some o))] dX12_fresh_33 rfl (k_inc_1 _) (Nat.le_of_ble_eq_true rfl) rfl ?_
      refine v_goto C 6 dX12_fresh_36 rfl ?_
      exact v_sub [1, 0] [(0, va_rf (some o)), (1, .int (x1 + 1))] rfl (ih _ _ E)
set_option maxHeartbeats 4000000 in
theorem w_X12_fresh_0 (C : Cx D cA bs Z p s m args meth c cX12_fresh RX12 2 none) {o : Nat} {K : Sh} {n : Nat} {J : Jm} {R : Rf} (ho : (K o).1 = 13) (res : Im) (I : Im) (E : f_X12_fresh K R o I = some res) : VW D cA bs Z p l e rX12_fresh s m args below meth c 2 [(0, va_rf (some o))] K n I J R 0 0 (MQ below (QX D cA bs Z none K n res J R) args s 0 0 (fun q => bs ≤ q)) 0 [] := by
  unfold f_X12_fresh at E
  refine v_aload_n (r := (some o)) C 0 dX12_fresh_0 rfl ?_
  obtain ⟨q5, h6, E⟩ := bnd E
  refine v_callV (r := (some o)) (As := []) (rv := none) (st := []) (st1 := []) (ce1 := 0) (sl1 := 0) C cv_X12_306 (c_X12_lay  ho h6) rfl ho rfl rfl ⟨rfl, rfl, Nat.le_of_ble_eq_true rfl, Nat.le_of_ble_eq_true rfl⟩ ⟨Nat.le_of_ble_eq_true rfl, Nat.le_of_ble_eq_true rfl⟩ (Nat.le_of_ble_eq_true rfl) rfl rfl rfl dX12_fresh_1 ?_
  refine v_iconst C dX12_fresh_4 k_iconst_0 ?_
  refine v_istore_n C [(1, .int 0), (0, va_rf (some o))] dX12_fresh_5 (Nat.le_of_ble_eq_true rfl) rfl ?_
  exact v_sub [1, 0] [(0, va_rf (some o)), (1, .int 0)] rfl (w_X12_fresh_6 C ho res  _ _ _ E)
set_option maxHeartbeats 4000000 in
theorem c_X12_fresh {n : Nat} {K : Sh} {I : Im} {J : Jm} {R : Rf} {o : Nat}  (ho : (K o).1 = 13) {res : Im} (E : f_X12_fresh K R o I = some res) : Met l yX12_fresh (Cond.code yX12_fresh cX12_fresh 2 none :: tb) rX12_fresh (PX D cA bs Z [.ref o] K n I J R) (QX D cA bs Z none K n res J R) 0 0 (fun q => bs ≤ q) := by
  refine met_of (lv1 := [(0, va_rf (some o))]) pn_X12 (by exact Nat.le_of_ble_eq_true rfl) (by rfl) ?_
  intro p e s m args below meth c C hn
  exact v_sub [0] [(0, va_rf (some o))] rfl (w_X12_fresh_0 C ho _ _ E)
set_option maxHeartbeats 4000000 in
theorem w_X12_waste_0 (C : Cx D cA bs Z p s m args meth c cX12_waste RX12 2 (some .int)) {o : Nat} {K : Sh} {n : Nat} {J : Jm} {R : Rf} (ho : (K o).1 = 13) (res : Int32 × Im) (I : Im) (E : f_X12_waste K R o I = some res) : VW D cA bs Z p l e rX12_waste s m args below meth c 2 [(0, va_rf (some o))] K n I J R 0 0 (MQ below (QX D cA bs Z (some (.int res.1)) K n res.2 J R) args s 0 0 (fun q => bs ≤ q)) 0 [] := by
  unfold f_X12_waste at E
  refine v_aload_n (r := (some o)) C 0 dX12_waste_0 rfl ?_
  refine v_getI (r := (some o)) C fa_X12_7 rfl rfl ho dX12_waste_1 ?_
  refine v_iconst C dX12_waste_4 k_iconst_5 ?_
  refine v_icmp_ne C 11 E dX12_waste_5 rfl (fun c9 E => ?_) (fun c9 E => ?_)
  · refine v_bipush C dX12_waste_8 k_bipush_m4 ?_
    obtain rfl := Option.some.inj E
    exact v_iret C rfl dX12_waste_10
  · refine v_aload_n (r := (some o)) C 0 dX12_waste_11 rfl ?_
    refine v_aload_n (r := (some o)) C 0 dX12_waste_12 rfl ?_
    refine v_getI (r := (some o)) C fa_X12_7 rfl rfl ho dX12_waste_13 ?_
    obtain ⟨q1, h2, E⟩ := bnd E
    refine v_callV (r := (some o)) (As := [.int (I o 0)]) (rv := (some (.int q1.1))) (st := []) (st1 := [.int q1.1]) (ce1 := 0) (sl1 := 0) C cv_X12_290 (c_X12_goesText (x1 := (I o 0)) ho h2) rfl ho rfl rfl ⟨rfl, rfl, Nat.le_of_ble_eq_true rfl, Nat.le_of_ble_eq_true rfl⟩ ⟨Nat.le_of_ble_eq_true rfl, Nat.le_of_ble_eq_true rfl⟩ (Nat.le_of_ble_eq_true rfl) rfl rfl rfl dX12_waste_16 ?_
    refine v_istore_n C [(1, .int q1.1), (0, va_rf (some o))] dX12_waste_19 (Nat.le_of_ble_eq_true rfl) rfl ?_
    refine v_aload_n (r := (some o)) C 1 dX12_waste_20 rfl ?_
    refine v_iconst C dX12_waste_21 k_iconst_0 ?_
    refine v_putI (r := (some o)) C fa_X12_16 rfl E rfl ho ⟨rfl, rfl⟩ dX12_waste_22 (fun I3 _ E => ?_)
    refine v_iload_n C 0 dX12_waste_25 rfl ?_
    refine v_if_ne C 37 E dX12_waste_26 rfl (fun c8 E => ?_) (fun c8 E => ?_)
    · refine v_bipush C dX12_waste_29 k_bipush_m10 ?_
      refine v_aload_n (r := (some o)) C 1 dX12_waste_31 rfl ?_
      refine v_getI (r := (some o)) C fa_X12_19 rfl rfl ho dX12_waste_32 ?_
      refine v_isub C dX12_waste_35 ?_
      obtain rfl := Option.some.inj E
      exact v_iret C rfl dX12_waste_36
    · refine v_aload_n (r := (some o)) C 1 dX12_waste_37 rfl ?_
      refine v_aload_n (r := (some o)) C 1 dX12_waste_38 rfl ?_
      refine v_getI (r := (some o)) C fa_X12_7 rfl rfl ho dX12_waste_39 ?_
      refine v_putI (r := (some o)) C fa_X12_13 rfl E rfl ho ⟨rfl, rfl⟩ dX12_waste_42 (fun I4 _ E => ?_)
      refine v_aload_n (r := (some o)) C 1 dX12_waste_45 rfl ?_
      refine v_dup C dX12_waste_46 (rf_cat _) ?_
      refine v_getI (r := (some o)) C fa_X12_7 rfl rfl ho dX12_waste_47 ?_
      refine v_iconst C dX12_waste_50 k_iconst_1 ?_
      refine v_iadd C dX12_waste_51 ?_
      refine v_putI (r := (some o)) C fa_X12_7 rfl E rfl ho ⟨rfl, rfl⟩ dX12_waste_52 (fun I5 _ E => ?_)
      refine v_aload_n (r := (some o)) C 1 dX12_waste_55 rfl ?_
      obtain ⟨q6, h7, E⟩ := bnd E
      refine v_callV (r := (some o)) (As := []) (rv := none) (st := []) (st1 := []) (ce1 := 0) (sl1 := 0) C cv_X12_293 (c_X12_fresh  ho h7) rfl ho rfl rfl ⟨rfl, rfl, Nat.le_of_ble_eq_true rfl, Nat.le_of_ble_eq_true rfl⟩ ⟨Nat.le_of_ble_eq_true rfl, Nat.le_of_ble_eq_true rfl⟩ (Nat.le_of_ble_eq_true rfl) rfl rfl rfl dX12_waste_56 ?_
      refine v_aload_n (r := (some o)) C 1 dX12_waste_59 rfl ?_
      refine v_getI (r := (some o)) C fa_X12_13 rfl rfl ho dX12_waste_60 ?_
      obtain rfl := Option.some.inj E
      exact v_iret C rfl dX12_waste_63
set_option maxHeartbeats 4000000 in
theorem c_X12_waste {n : Nat} {K : Sh} {I : Im} {J : Jm} {R : Rf} {o : Nat}  (ho : (K o).1 = 13) {res : Int32 × Im} (E : f_X12_waste K R o I = some res) : Met l yX12_waste (Cond.code yX12_waste cX12_waste 2 (some .int) :: tb) rX12_waste (PX D cA bs Z [.ref o] K n I J R) (QX D cA bs Z (some (.int res.1)) K n res.2 J R) 0 0 (fun q => bs ≤ q) := by
  refine met_of (lv1 := [(0, va_rf (some o))]) pn_X12 (by exact Nat.le_of_ble_eq_true rfl) (by rfl) ?_
  intro p e s m args below meth c C hn
  exact v_sub [0] [(0, va_rf (some o))] rfl (w_X12_waste_0 C ho _ _ E)
set_option maxHeartbeats 4000000 in
theorem w_X12_last_39 (C : Cx D cA bs Z p s m args meth c cX12_last RX12 5 (some .int)) {o : Nat} {K : Sh} {n : Nat} {I : Im} {J : Jm} {R : Rf} (ho : (K o).1 = 13) (res : Int32) (r8 : Int32 → Int32 → Int32 → Option (Int32)) (hr8 : ∀ (x1 : Int32) (x3 : Int32) (x4 : Int32) , r8 x1 x3 x4 = some res → VW D cA bs Z p l e rX12_last s m args below meth c 5 [(0, va_rf (some o)), (1, .int x1), (3, .int x3), (4, .int x4)] K n I J R 0 0 (MQ below (QX D cA bs Z (some (.int res)) K n I J R) args s 0 0 (fun q => bs ≤ q)) 8 []) (x1 : Int32) (x4 : Int32) (s0 : Int32) (E : f_X12_last_39 K I R o r8 x1 x4 s0 = some res) : VW D cA bs Z p l e rX12_last s m args below meth c 5 [(0, va_rf (some o)), (1, .int x1), (4, .int x4)] K n I J R 0 0 (MQ below (QX D cA bs Z (some (.int res)) K n I J R) args s 0 0 (fun q => bs ≤ q)) 39 [.int s0] := by
  unfold f_X12_last_39 at E
  refine v_istore_n C [(3, .int s0), (0, va_rf (some o)), (1, .int x1), (4, .int x4)] dX12_last_39 (Nat.le_of_ble_eq_true rfl) rfl ?_
  refine v_iinc (v := x4 + 1) C 3 [(4, .int (x4 + 1)), (3, .int s0), (0, va_rf (some o)), (1, .int x1)] dX12_last_40 rfl (k_inc_1 _) (Nat.le_of_ble_eq_true rfl) rfl ?_
  refine v_goto C 8 dX12_last_43 rfl ?_
  exact v_sub [2, 3, 1, 0] [(0, va_rf (some o)), (1, .int x1), (3, .int s0), (4, .int (x4 + 1))] rfl (hr8 _ _ _ E)
set_option maxHeartbeats 4000000 in
theorem w_X12_last_8 (C : Cx D cA bs Z p s m args meth c cX12_last RX12 5 (some .int)) {o : Nat} {K : Sh} {n : Nat} {I : Im} {J : Jm} {R : Rf} (ho : (K o).1 = 13) (res : Int32)  : ∀ (k : Nat), ∀ (x1 : Int32) (x3 : Int32) (x4 : Int32), f_X12_last_8 K I R o k x1 x3 x4 = some res → VW D cA bs Z p l e rX12_last s m args below meth c 5 [(0, va_rf (some o)), (1, .int x1), (3, .int x3), (4, .int x4)] K n I J R 0 0 (MQ below (QX D cA bs Z (some (.int res)) K n I J R) args s 0 0 (fun q => bs ≤ q)) 8 [] := by
  intro k
  induction k with
  | zero =>
    intro x1 x3 x4 E
    have E : (none : Option (Int32)) = some res := E
    cases E
  | succ k ih =>
    intro x1 x3 x4 E
    unfold f_X12_last_8 at E
    refine v_iload C 3 dX12_last_8 rfl ?_
    refine v_aload_n (r := (some o)) C 0 dX12_last_10 rfl ?_
    obtain ⟨q1, h2, E⟩ := bnd E
    refine v_callV (r := (some o)) (As := []) (rv := (some (.int q1))) (st := [.int x4]) (st1 := [.int q1, .int x4]) (ce1 := 0) (sl1 := 0) C cv_X12_299 (c_X12_behind  ho h2) rfl ho rfl rfl ⟨rfl, rfl, Nat.le_of_ble_eq_true rfl, Nat.le_of_ble_eq_true rfl⟩ ⟨Nat.le_of_ble_eq_true rfl, Nat.le_of_ble_eq_true rfl⟩ (Nat.le_of_ble_eq_true rfl) rfl rfl rfl dX12_last_11 ?_
    refine v_icmp_ge C 46 E dX12_last_14 rfl (fun c6 E => ?_) (fun c6 E => ?_)
    · refine v_iload_n C 2 dX12_last_46 rfl ?_
      obtain rfl := Option.some.inj E
      exact v_iret C rfl dX12_last_47
    · refine v_aload_n (r := (some o)) C 0 dX12_last_17 rfl ?_
      refine v_getR (r := (some o)) C fa_X12_32 rfl rfl ho dX12_last_18 ?_
      refine v_iload C 3 dX12_last_21 rfl ?_
      refine v_iald (r := (R o 7)) C E dX12_last_23 (fun v3 _ E => ?_)
      refine v_iload_n C 1 dX12_last_24 rfl ?_
      refine v_icmp_ne C 38 E dX12_last_25 rfl (fun c5 E => ?_) (fun c5 E => ?_)
      · refine v_aload_n (r := (some o)) C 0 dX12_last_28 rfl ?_
        refine v_getR (r := (some o)) C fa_X12_35 rfl rfl ho dX12_last_29 ?_
        refine v_iload C 3 dX12_last_32 rfl ?_
        refine v_iald (r := (R o 8)) C E dX12_last_34 (fun v4 _ E => ?_)
        refine v_goto C 39 dX12_last_35 rfl ?_
        exact v_sub [0, 1, 3] [(0, va_rf (some o)), (1, .int x1), (4, .int x4)] rfl (w_X12_last_39 C ho res _ ih _ _ _ E)
      · refine v_iload_n C 2 dX12_last_38 rfl ?_
        exact v_sub [0, 1, 3] [(0, va_rf (some o)), (1, .int x1), (4, .int x4)] rfl (w_X12_last_39 C ho res _ ih _ _ _ E)
set_option maxHeartbeats 4000000 in
theorem w_X12_last_0 (C : Cx D cA bs Z p s m args meth c cX12_last RX12 5 (some .int)) {o : Nat} {K : Sh} {n : Nat} {I : Im} {J : Jm} {R : Rf} (ho : (K o).1 = 13) (res : Int32) (x1 : Int32) (x2 : Int32) (E : f_X12_last K I R o x1 x2 = some res) : VW D cA bs Z p l e rX12_last s m args below meth c 5 [(0, va_rf (some o)), (1, .int x1), (2, .int x2)] K n I J R 0 0 (MQ below (QX D cA bs Z (some (.int res)) K n I J R) args s 0 0 (fun q => bs ≤ q)) 0 [] := by
  unfold f_X12_last at E
  refine v_iload_n C 2 dX12_last_0 rfl ?_
  refine v_istore_n C [(3, .int x2), (0, va_rf (some o)), (1, .int x1), (2, .int x2)] dX12_last_1 (Nat.le_of_ble_eq_true rfl) rfl ?_
  refine v_aload_n (r := (some o)) C 1 dX12_last_2 rfl ?_
  obtain ⟨q7, h8, E⟩ := bnd E
  refine v_callV (r := (some o)) (As := []) (rv := (some (.int q7))) (st := []) (st1 := [.int q7]) (ce1 := 0) (sl1 := 0) C cv_X12_296 (c_X12_first  ho h8) rfl ho rfl rfl ⟨rfl, rfl, Nat.le_of_ble_eq_true rfl, Nat.le_of_ble_eq_true rfl⟩ ⟨Nat.le_of_ble_eq_true rfl, Nat.le_of_ble_eq_true rfl⟩ (Nat.le_of_ble_eq_true rfl) rfl rfl rfl dX12_last_3 ?_
  refine v_istore C [(4, .int q7), (3, .int x2), (0, va_rf (some o)), (1, .int x1), (2, .int x2)] dX12_last_6 (Nat.le_of_ble_eq_true rfl) rfl ?_
  exact v_sub [2, 3, 1, 0] [(0, va_rf (some o)), (1, .int x1), (3, .int x2), (4, .int q7)] rfl (w_X12_last_8 C ho res  _ _ _ _ E)
set_option maxHeartbeats 4000000 in
theorem c_X12_last {n : Nat} {K : Sh} {I : Im} {J : Jm} {R : Rf} {o : Nat} {x1 : Int32} {x2 : Int32} (ho : (K o).1 = 13) {res : Int32} (E : f_X12_last K I R o x1 x2 = some res) : Met l yX12_last (Cond.code yX12_last cX12_last 5 (some .int) :: tb) rX12_last (PX D cA bs Z [.ref o, .int x1, .int x2] K n I J R) (QX D cA bs Z (some (.int res)) K n I J R) 0 0 (fun q => bs ≤ q) := by
  refine met_of (lv1 := [(0, va_rf (some o)), (1, .int x1), (2, .int x2)]) pn_X12 (by exact Nat.le_of_ble_eq_true rfl) (by rfl) ?_
  intro p e s m args below meth c C hn
  exact v_sub [0, 1, 2] [(0, va_rf (some o)), (1, .int x1), (2, .int x2)] rfl (w_X12_last_0 C ho _ _ _ E)
set_option maxHeartbeats 4000000 in
theorem w_X12_holdsTest_147 (C : Cx D cA bs Z p s m args meth c cX12_holdsTest RX12 10 (some .boolean)) {o : Nat} {K : Sh} {n : Nat} {J : Jm} {R : Rf} (ho : (K o).1 = 13) (res : Int32 × Im) (r11 : Int32 → Int32 → Int32 → Int32 → Int32 → Int32 → Im → Option (Int32 × Im)) (hr11 : ∀ (x1 : Int32) (x2 : Int32) (x3 : Int32) (x4 : Int32) (x5 : Int32) (x6 : Int32) (I : Im), r11 x1 x2 x3 x4 x5 x6 I = some res → VW D cA bs Z p l e rX12_holdsTest s m args below meth c 10 [(0, va_rf (some o)), (1, .int x1), (2, .int x2), (3, .int x3), (4, .int x4), (5, .int x5), (6, .int x6)] K n I J R 0 0 (MQ below (QX D cA bs Z (some (.int res.1)) K n res.2 J R) args s 0 0 (fun q => bs ≤ q)) 11 []) (x1 : Int32) (x2 : Int32) (x3 : Int32) (x4 : Int32) (x5 : Int32) (x6 : Int32) (s0 : Option Nat) (s1 : Int32) (s2 : Int32) (I : Im) (E : f_X12_holdsTest_147 K R o r11 x1 x2 x3 x4 x5 x6 s0 s1 s2 I = some res) : VW D cA bs Z p l e rX12_holdsTest s m args below meth c 10 [(0, va_rf (some o)), (1, .int x1), (2, .int x2), (3, .int x3), (4, .int x4), (5, .int x5), (6, .int x6)] K n I J R 0 0 (MQ below (QX D cA bs Z (some (.int res.1)) K n res.2 J R) args s 0 0 (fun q => bs ≤ q)) 147 [.int s2, .int s1, va_rf s0] := by
  unfold f_X12_holdsTest_147 at E
  refine v_zast (r := s0) C E dX12_holdsTest_147 (fun I1 _ E => ?_)
  refine v_goto C 264 dX12_holdsTest_148 rfl ?_
  refine v_iinc (v := x6 + 1) C 6 [(6, .int (x6 + 1)), (0, va_rf (some o)), (1, .int x1), (2, .int x2), (3, .int x3), (4, .int x4), (5, .int x5)] dX12_holdsTest_264 rfl (k_inc_1 _) (Nat.le_of_ble_eq_true rfl) rfl ?_
  refine v_goto C 11 dX12_holdsTest_267 rfl ?_
  exact v_sub [1, 2, 3, 4, 5, 6, 0] [(0, va_rf (some o)), (1, .int x1), (2, .int x2), (3, .int x3), (4, .int x4), (5, .int x5), (6, .int (x6 + 1))] rfl (hr11 _ _ _ _ _ _ _ E)
set_option maxHeartbeats 4000000 in
theorem w_X12_holdsTest_142 (C : Cx D cA bs Z p s m args meth c cX12_holdsTest RX12 10 (some .boolean)) {o : Nat} {K : Sh} {n : Nat} {J : Jm} {R : Rf} (ho : (K o).1 = 13) (res : Int32 × Im) (r11 : Int32 → Int32 → Int32 → Int32 → Int32 → Int32 → Im → Option (Int32 × Im)) (hr11 : ∀ (x1 : Int32) (x2 : Int32) (x3 : Int32) (x4 : Int32) (x5 : Int32) (x6 : Int32) (I : Im), r11 x1 x2 x3 x4 x5 x6 I = some res → VW D cA bs Z p l e rX12_holdsTest s m args below meth c 10 [(0, va_rf (some o)), (1, .int x1), (2, .int x2), (3, .int x3), (4, .int x4), (5, .int x5), (6, .int x6)] K n I J R 0 0 (MQ below (QX D cA bs Z (some (.int res.1)) K n res.2 J R) args s 0 0 (fun q => bs ≤ q)) 11 []) (x1 : Int32) (x2 : Int32) (x3 : Int32) (x4 : Int32) (x5 : Int32) (x6 : Int32) (s0 : Option Nat) (s1 : Int32) (I : Im) (E : f_X12_holdsTest_142 K R o r11 x1 x2 x3 x4 x5 x6 s0 s1 I = some res) : VW D cA bs Z p l e rX12_holdsTest s m args below meth c 10 [(0, va_rf (some o)), (1, .int x1), (2, .int x2), (3, .int x3), (4, .int x4), (5, .int x5), (6, .int x6)] K n I J R 0 0 (MQ below (QX D cA bs Z (some (.int res.1)) K n res.2 J R) args s 0 0 (fun q => bs ≤ q)) 142 [.int s1, va_rf s0] := by
  unfold f_X12_holdsTest_142 at E
  refine v_iconst C dX12_holdsTest_142 k_iconst_1 ?_
  refine v_goto C 147 dX12_holdsTest_143 rfl ?_
  exact v_sub [0, 1, 2, 3, 4, 5, 6] [(0, va_rf (some o)), (1, .int x1), (2, .int x2), (3, .int x3), (4, .int x4), (5, .int x5), (6, .int x6)] rfl (w_X12_holdsTest_147 C ho res _ hr11 _ _ _ _ _ _ _ _ _ _ E)
set_option maxHeartbeats 4000000 in
theorem w_X12_holdsTest_116 (C : Cx D cA bs Z p s m args meth c cX12_holdsTest RX12 10 (some .boolean)) {o : Nat} {K : Sh} {n : Nat} {J : Jm} {R : Rf} (ho : (K o).1 = 13) (res : Int32 × Im) (r11 : Int32 → Int32 → Int32 → Int32 → Int32 → Int32 → Im → Option (Int32 × Im)) (hr11 : ∀ (x1 : Int32) (x2 : Int32) (x3 : Int32) (x4 : Int32) (x5 : Int32) (x6 : Int32) (I : Im), r11 x1 x2 x3 x4 x5 x6 I = some res → VW D cA bs Z p l e rX12_holdsTest s m args below meth c 10 [(0, va_rf (some o)), (1, .int x1), (2, .int x2), (3, .int x3), (4, .int x4), (5, .int x5), (6, .int x6)] K n I J R 0 0 (MQ below (QX D cA bs Z (some (.int res.1)) K n res.2 J R) args s 0 0 (fun q => bs ≤ q)) 11 []) (x1 : Int32) (x2 : Int32) (x3 : Int32) (x4 : Int32) (x5 : Int32) (x6 : Int32) (s0 : Option Nat) (s1 : Int32) (I : Im) (E : f_X12_holdsTest_116 K R o r11 x1 x2 x3 x4 x5 x6 s0 s1 I = some res) : VW D cA bs Z p l e rX12_holdsTest s m args below meth c 10 [(0, va_rf (some o)), (1, .int x1), (2, .int x2), (3, .int x3), (4, .int x4), (5, .int x5), (6, .int x6)] K n I J R 0 0 (MQ below (QX D cA bs Z (some (.int res.1)) K n res.2 J R) args s 0 0 (fun q => bs ≤ q)) 116 [.int s1, va_rf s0] := by
  unfold f_X12_holdsTest_116 at E
  refine v_iconst C dX12_holdsTest_116 k_iconst_0 ?_
  refine v_goto C 147 dX12_holdsTest_117 rfl ?_
  exact v_sub [0, 1, 2, 3, 4, 5, 6] [(0, va_rf (some o)), (1, .int x1), (2, .int x2), (3, .int x3), (4, .int x4), (5, .int x5), (6, .int x6)] rfl (w_X12_holdsTest_147 C ho res _ hr11 _ _ _ _ _ _ _ _ _ _ E)
set_option maxHeartbeats 4000000 in
theorem w_X12_holdsTest_260 (C : Cx D cA bs Z p s m args meth c cX12_holdsTest RX12 10 (some .boolean)) {o : Nat} {K : Sh} {n : Nat} {J : Jm} {R : Rf} (ho : (K o).1 = 13) (res : Int32 × Im) (r11 : Int32 → Int32 → Int32 → Int32 → Int32 → Int32 → Im → Option (Int32 × Im)) (hr11 : ∀ (x1 : Int32) (x2 : Int32) (x3 : Int32) (x4 : Int32) (x5 : Int32) (x6 : Int32) (I : Im), r11 x1 x2 x3 x4 x5 x6 I = some res → VW D cA bs Z p l e rX12_holdsTest s m args below meth c 10 [(0, va_rf (some o)), (1, .int x1), (2, .int x2), (3, .int x3), (4, .int x4), (5, .int x5), (6, .int x6)] K n I J R 0 0 (MQ below (QX D cA bs Z (some (.int res.1)) K n res.2 J R) args s 0 0 (fun q => bs ≤ q)) 11 []) (x1 : Int32) (x2 : Int32) (x3 : Int32) (x4 : Int32) (x5 : Int32) (x6 : Int32) (s0 : Option Nat) (s1 : Int32) (s2 : Int32) (I : Im) (E : f_X12_holdsTest_260 K R o r11 x1 x2 x3 x4 x5 x6 s0 s1 s2 I = some res) : VW D cA bs Z p l e rX12_holdsTest s m args below meth c 10 [(0, va_rf (some o)), (1, .int x1), (2, .int x2), (3, .int x3), (4, .int x4), (5, .int x5), (6, .int x6)] K n I J R 0 0 (MQ below (QX D cA bs Z (some (.int res.1)) K n res.2 J R) args s 0 0 (fun q => bs ≤ q)) 260 [.int s2, .int s1, va_rf s0] := by
  unfold f_X12_holdsTest_260 at E
  refine v_zast (r := s0) C E dX12_holdsTest_260 (fun I2 _ E => ?_)
  refine v_iinc (v := x5 + 1) C 5 [(5, .int (x5 + 1)), (0, va_rf (some o)), (1, .int x1), (2, .int x2), (3, .int x3), (4, .int x4), (6, .int x6)] dX12_holdsTest_261 rfl (k_inc_1 _) (Nat.le_of_ble_eq_true rfl) rfl ?_
  refine v_iinc (v := x6 + 1) C 6 [(6, .int (x6 + 1)), (5, .int (x5 + 1)), (0, va_rf (some o)), (1, .int x1), (2, .int x2), (3, .int x3), (4, .int x4)] dX12_holdsTest_264 rfl (k_inc_1 _) (Nat.le_of_ble_eq_true rfl) rfl ?_
  refine v_goto C 11 dX12_holdsTest_267 rfl ?_
  exact v_sub [2, 3, 4, 5, 6, 1, 0] [(0, va_rf (some o)), (1, .int x1), (2, .int x2), (3, .int x3), (4, .int x4), (5, .int (x5 + 1)), (6, .int (x6 + 1))] rfl (hr11 _ _ _ _ _ _ _ E)
set_option maxHeartbeats 4000000 in
theorem w_X12_holdsTest_180 (C : Cx D cA bs Z p s m args meth c cX12_holdsTest RX12 10 (some .boolean)) {o : Nat} {K : Sh} {n : Nat} {J : Jm} {R : Rf} (ho : (K o).1 = 13) (res : Int32 × Im) (r11 : Int32 → Int32 → Int32 → Int32 → Int32 → Int32 → Im → Option (Int32 × Im)) (hr11 : ∀ (x1 : Int32) (x2 : Int32) (x3 : Int32) (x4 : Int32) (x5 : Int32) (x6 : Int32) (I : Im), r11 x1 x2 x3 x4 x5 x6 I = some res → VW D cA bs Z p l e rX12_holdsTest s m args below meth c 10 [(0, va_rf (some o)), (1, .int x1), (2, .int x2), (3, .int x3), (4, .int x4), (5, .int x5), (6, .int x6)] K n I J R 0 0 (MQ below (QX D cA bs Z (some (.int res.1)) K n res.2 J R) args s 0 0 (fun q => bs ≤ q)) 11 []) (x1 : Int32) (x2 : Int32) (x3 : Int32) (x4 : Int32) (x5 : Int32) (x6 : Int32) (x7 : Int32) (s0 : Int32) (I : Im) (E : f_X12_holdsTest_180 K R o r11 x1 x2 x3 x4 x5 x6 x7 s0 I = some res) : VW D cA bs Z p l e rX12_holdsTest s m args below meth c 10 [(0, va_rf (some o)), (1, .int x1), (2, .int x2), (3, .int x3), (4, .int x4), (5, .int x5), (6, .int x6), (7, .int x7)] K n I J R 0 0 (MQ below (QX D cA bs Z (some (.int res.1)) K n res.2 J R) args s 0 0 (fun q => bs ≤ q)) 180 [.int s0] := by
  unfold f_X12_holdsTest_180 at E
  refine v_istore C [(8, .int s0), (0, va_rf (some o)), (1, .int x1), (2, .int x2), (3, .int x3), (4, .int x4), (5, .int x5), (6, .int x6), (7, .int x7)] dX12_holdsTest_180 (Nat.le_of_ble_eq_true rfl) rfl ?_
  refine v_iload C 8 dX12_holdsTest_182 rfl ?_
  refine v_bipush C dX12_holdsTest_184 k_bipush_100 ?_
  refine v_idiv C dX12_holdsTest_186 k_nz_100 ?_
  refine v_bipush C dX12_holdsTest_187 k_bipush_10 ?_
  refine v_irem C dX12_holdsTest_189 k_nz_10 ?_
  refine v_istore C [(9, .int (irem (x7 / 100) 10)), (8, .int s0), (0, va_rf (some o)), (1, .int x1), (2, .int x2), (3, .int x3), (4, .int x4), (5, .int x5), (6, .int x6), (7, .int x7)] dX12_holdsTest_190 (Nat.le_of_ble_eq_true rfl) rfl ?_
  refine v_aload_n (r := (some o)) C 2 dX12_holdsTest_192 rfl ?_
  refine v_getR (r := (some o)) C fa_X12_62 rfl rfl ho dX12_holdsTest_193 ?_
  refine v_iload C 7 dX12_holdsTest_196 rfl ?_
  refine v_iload C 0 dX12_holdsTest_198 rfl ?_
  refine v_if_ne C 221 E dX12_holdsTest_200 rfl (fun c7 E => ?_) (fun c7 E => ?_)
  · refine v_iload C 1 dX12_holdsTest_203 rfl ?_
    refine v_iload C 9 dX12_holdsTest_205 rfl ?_
    refine v_bipush C dX12_holdsTest_207 k_bipush_100 ?_
    refine v_irem C dX12_holdsTest_209 k_nz_100 ?_
    refine v_icmp_ge C 217 E dX12_holdsTest_210 rfl (fun c6 E => ?_) (fun c6 E => ?_)
    · refine v_iconst C dX12_holdsTest_217 k_iconst_0 ?_
      refine v_goto C 260 dX12_holdsTest_218 rfl ?_
      exact v_sub [2, 3, 4, 5, 6, 7, 8] [(0, va_rf (some o)), (1, .int x1), (2, .int x2), (3, .int x3), (4, .int x4), (5, .int x5), (6, .int x6)] rfl (w_X12_holdsTest_260 C ho res _ hr11 _ _ _ _ _ _ _ _ _ _ E)
    · refine v_iconst C dX12_holdsTest_213 k_iconst_1 ?_
      refine v_goto C 260 dX12_holdsTest_214 rfl ?_
      exact v_sub [2, 3, 4, 5, 6, 7, 8] [(0, va_rf (some o)), (1, .int x1), (2, .int x2), (3, .int x3), (4, .int x4), (5, .int x5), (6, .int x6)] rfl (w_X12_holdsTest_260 C ho res _ hr11 _ _ _ _ _ _ _ _ _ _ E)
  · refine v_iload C 0 dX12_holdsTest_221 rfl ?_
    refine v_iconst C dX12_holdsTest_223 k_iconst_1 ?_
    refine v_icmp_ne C 245 E dX12_holdsTest_224 rfl (fun c5 E => ?_) (fun c5 E => ?_)
    · refine v_iload C 1 dX12_holdsTest_227 rfl ?_
      refine v_iload C 9 dX12_holdsTest_229 rfl ?_
      refine v_bipush C dX12_holdsTest_231 k_bipush_100 ?_
      refine v_irem C dX12_holdsTest_233 k_nz_100 ?_
      refine v_icmp_ne C 241 E dX12_holdsTest_234 rfl (fun c4 E => ?_) (fun c4 E => ?_)
      · refine v_iconst C dX12_holdsTest_237 k_iconst_1 ?_
        refine v_goto C 260 dX12_holdsTest_238 rfl ?_
        exact v_sub [2, 3, 4, 5, 6, 7, 8] [(0, va_rf (some o)), (1, .int x1), (2, .int x2), (3, .int x3), (4, .int x4), (5, .int x5), (6, .int x6)] rfl (w_X12_holdsTest_260 C ho res _ hr11 _ _ _ _ _ _ _ _ _ _ E)
      · refine v_iconst C dX12_holdsTest_241 k_iconst_0 ?_
        refine v_goto C 260 dX12_holdsTest_242 rfl ?_
        exact v_sub [2, 3, 4, 5, 6, 7, 8] [(0, va_rf (some o)), (1, .int x1), (2, .int x2), (3, .int x3), (4, .int x4), (5, .int x5), (6, .int x6)] rfl (w_X12_holdsTest_260 C ho res _ hr11 _ _ _ _ _ _ _ _ _ _ E)
    · refine v_iload C 1 dX12_holdsTest_245 rfl ?_
      refine v_iload C 9 dX12_holdsTest_247 rfl ?_
      refine v_bipush C dX12_holdsTest_249 k_bipush_100 ?_
      refine v_irem C dX12_holdsTest_251 k_nz_100 ?_
      refine v_icmp_le C 259 E dX12_holdsTest_252 rfl (fun c3 E => ?_) (fun c3 E => ?_)
      · refine v_iconst C dX12_holdsTest_259 k_iconst_0 ?_
        exact v_sub [2, 3, 4, 5, 6, 7, 8] [(0, va_rf (some o)), (1, .int x1), (2, .int x2), (3, .int x3), (4, .int x4), (5, .int x5), (6, .int x6)] rfl (w_X12_holdsTest_260 C ho res _ hr11 _ _ _ _ _ _ _ _ _ _ E)
      · refine v_iconst C dX12_holdsTest_255 k_iconst_1 ?_
        refine v_goto C 260 dX12_holdsTest_256 rfl ?_
        exact v_sub [2, 3, 4, 5, 6, 7, 8] [(0, va_rf (some o)), (1, .int x1), (2, .int x2), (3, .int x3), (4, .int x4), (5, .int x5), (6, .int x6)] rfl (w_X12_holdsTest_260 C ho res _ hr11 _ _ _ _ _ _ _ _ _ _ E)
set_option maxHeartbeats 4000000 in
theorem w_X12_holdsTest_63 (C : Cx D cA bs Z p s m args meth c cX12_holdsTest RX12 10 (some .boolean)) {o : Nat} {K : Sh} {n : Nat} {J : Jm} {R : Rf} (ho : (K o).1 = 13) (res : Int32 × Im) (r11 : Int32 → Int32 → Int32 → Int32 → Int32 → Int32 → Im → Option (Int32 × Im)) (hr11 : ∀ (x1 : Int32) (x2 : Int32) (x3 : Int32) (x4 : Int32) (x5 : Int32) (x6 : Int32) (I : Im), r11 x1 x2 x3 x4 x5 x6 I = some res → VW D cA bs Z p l e rX12_holdsTest s m args below meth c 10 [(0, va_rf (some o)), (1, .int x1), (2, .int x2), (3, .int x3), (4, .int x4), (5, .int x5), (6, .int x6)] K n I J R 0 0 (MQ below (QX D cA bs Z (some (.int res.1)) K n res.2 J R) args s 0 0 (fun q => bs ≤ q)) 11 []) (x1 : Int32) (x2 : Int32) (x3 : Int32) (x4 : Int32) (x5 : Int32) (x6 : Int32) (s0 : Option Nat) (s1 : Int32) (s2 : Int32) (I : Im) (E : f_X12_holdsTest_63 K R o r11 x1 x2 x3 x4 x5 x6 s0 s1 s2 I = some res) : VW D cA bs Z p l e rX12_holdsTest s m args below meth c 10 [(0, va_rf (some o)), (1, .int x1), (2, .int x2), (3, .int x3), (4, .int x4), (5, .int x5), (6, .int x6)] K n I J R 0 0 (MQ below (QX D cA bs Z (some (.int res.1)) K n res.2 J R) args s 0 0 (fun q => bs ≤ q)) 63 [.int s2, .int s1, va_rf s0] := by
  unfold f_X12_holdsTest_63 at E
  refine v_zast (r := s0) C E dX12_holdsTest_63 (fun I8 _ E => ?_)
  refine v_goto C 264 dX12_holdsTest_64 rfl ?_
  refine v_iinc (v := x6 + 1) C 6 [(6, .int (x6 + 1)), (0, va_rf (some o)), (1, .int x1), (2, .int x2), (3, .int x3), (4, .int x4), (5, .int x5)] dX12_holdsTest_264 rfl (k_inc_1 _) (Nat.le_of_ble_eq_true rfl) rfl ?_
  refine v_goto C 11 dX12_holdsTest_267 rfl ?_
  exact v_sub [1, 2, 3, 4, 5, 6, 0] [(0, va_rf (some o)), (1, .int x1), (2, .int x2), (3, .int x3), (4, .int x4), (5, .int x5), (6, .int (x6 + 1))] rfl (hr11 _ _ _ _ _ _ _ E)
set_option maxHeartbeats 4000000 in
theorem w_X12_holdsTest_11 (C : Cx D cA bs Z p s m args meth c cX12_holdsTest RX12 10 (some .boolean)) {o : Nat} {K : Sh} {n : Nat} {J : Jm} {R : Rf} (ho : (K o).1 = 13) (res : Int32 × Im)  : ∀ (k : Nat), ∀ (x1 : Int32) (x2 : Int32) (x3 : Int32) (x4 : Int32) (x5 : Int32) (x6 : Int32) (I : Im), f_X12_holdsTest_11 K R o k x1 x2 x3 x4 x5 x6 I = some res → VW D cA bs Z p l e rX12_holdsTest s m args below meth c 10 [(0, va_rf (some o)), (1, .int x1), (2, .int x2), (3, .int x3), (4, .int x4), (5, .int x5), (6, .int x6)] K n I J R 0 0 (MQ below (QX D cA bs Z (some (.int res.1)) K n res.2 J R) args s 0 0 (fun q => bs ≤ q)) 11 [] := by
  intro k
  induction k with
  | zero =>
    intro x1 x2 x3 x4 x5 x6 I E
    have E : (none : Option (Int32 × Im)) = some res := E
    cases E
  | succ k ih =>
    intro x1 x2 x3 x4 x5 x6 I E
    unfold f_X12_holdsTest_11 at E
    refine v_iload C 6 dX12_holdsTest_11 rfl ?_
    refine v_aload_n (r := (some o)) C 0 dX12_holdsTest_13 rfl ?_
    refine v_getR (r := (some o)) C fa_X12_44 rfl rfl ho dX12_holdsTest_14 ?_
    refine v_iload_n C 1 dX12_holdsTest_17 rfl ?_
    refine v_iald (r := (R o 11)) C E dX12_holdsTest_18 (fun v9 _ E => ?_)
    refine v_icmp_ge C 270 E dX12_holdsTest_19 rfl (fun c29 E => ?_) (fun c29 E => ?_)
    · refine v_aload_n (r := (some o)) C 0 dX12_holdsTest_270 rfl ?_
      refine v_getR (r := (some o)) C fa_X12_62 rfl rfl ho dX12_holdsTest_271 ?_
      refine v_iconst C dX12_holdsTest_274 k_iconst_0 ?_
      refine v_zald (r := (R o 17)) C E dX12_holdsTest_275 (fun v10 _ E => ?_)
      obtain ⟨v11, h12, E⟩ := bnd E
      obtain ⟨h12a, h12b⟩ := gd h12
      subst h12b
      obtain rfl := Option.some.inj E
      exact v_zret C rfl (by simp [narrow, h12a]) dX12_holdsTest_276
    · refine v_aload_n (r := (some o)) C 0 dX12_holdsTest_22 rfl ?_
      refine v_getR (r := (some o)) C fa_X12_47 rfl rfl ho dX12_holdsTest_23 ?_
      refine v_iload C 6 dX12_holdsTest_26 rfl ?_
      refine v_iald (r := (R o 12)) C E dX12_holdsTest_28 (fun v13 _ E => ?_)
      refine v_istore C [(7, .int v13), (0, va_rf (some o)), (1, .int x1), (2, .int x2), (3, .int x3), (4, .int x4), (5, .int x5), (6, .int x6)] dX12_holdsTest_29 (Nat.le_of_ble_eq_true rfl) rfl ?_
      refine v_iload C 0 dX12_holdsTest_31 rfl ?_
      refine v_bipush C dX12_holdsTest_33 k_bipush_m33 ?_
      refine v_icmp_ne C 67 E dX12_holdsTest_35 rfl (fun c28 E => ?_) (fun c28 E => ?_)
      · refine v_aload_n (r := (some o)) C 1 dX12_holdsTest_38 rfl ?_
        refine v_getR (r := (some o)) C fa_X12_62 rfl rfl ho dX12_holdsTest_39 ?_
        refine v_iload C 6 dX12_holdsTest_42 rfl ?_
        refine v_iconst C dX12_holdsTest_44 k_iconst_1 ?_
        refine v_isub C dX12_holdsTest_45 ?_
        refine v_aload_n (r := (some o)) C 1 dX12_holdsTest_46 rfl ?_
        refine v_getR (r := (some o)) C fa_X12_62 rfl rfl ho dX12_holdsTest_47 ?_
        refine v_iload C 6 dX12_holdsTest_50 rfl ?_
        refine v_iconst C dX12_holdsTest_52 k_iconst_1 ?_
        refine v_isub C dX12_holdsTest_53 ?_
        refine v_zald (r := (R o 17)) C E dX12_holdsTest_54 (fun v26 _ E => ?_)
        refine v_if_ne C 62 E dX12_holdsTest_55 rfl (fun c27 E => ?_) (fun c27 E => ?_)
        · refine v_iconst C dX12_holdsTest_58 k_iconst_1 ?_
          refine v_goto C 63 dX12_holdsTest_59 rfl ?_
          exact v_sub [1, 2, 3, 4, 5, 6, 7] [(0, va_rf (some o)), (1, .int x1), (2, .int x2), (3, .int x3), (4, .int x4), (5, .int x5), (6, .int x6)] rfl (w_X12_holdsTest_63 C ho res _ ih _ _ _ _ _ _ _ _ _ _ E)
        · refine v_iconst C dX12_holdsTest_62 k_iconst_0 ?_
          exact v_sub [1, 2, 3, 4, 5, 6, 7] [(0, va_rf (some o)), (1, .int x1), (2, .int x2), (3, .int x3), (4, .int x4), (5, .int x5), (6, .int x6)] rfl (w_X12_holdsTest_63 C ho res _ ih _ _ _ _ _ _ _ _ _ _ E)
      · refine v_iload C 0 dX12_holdsTest_67 rfl ?_
        refine v_if_ge C 151 E dX12_holdsTest_69 rfl (fun c25 E => ?_) (fun c25 E => ?_)
        · refine v_iload C 0 dX12_holdsTest_151 rfl ?_
          refine v_sipush C dX12_holdsTest_153 k_sipush_1000 ?_
          refine v_icmp_ge C 166 E dX12_holdsTest_156 rfl (fun c15 E => ?_) (fun c15 E => ?_)
          · refine v_iload C 0 dX12_holdsTest_166 rfl ?_
            refine v_sipush C dX12_holdsTest_168 k_sipush_2000 ?_
            refine v_icmp_ge C 178 E dX12_holdsTest_171 rfl (fun c14 E => ?_) (fun c14 E => ?_)
            · refine v_iload C 5 dX12_holdsTest_178 rfl ?_
              exact v_sub [1, 2, 3, 4, 5, 6, 7, 0] [(0, va_rf (some o)), (1, .int x1), (2, .int x2), (3, .int x3), (4, .int x4), (5, .int x5), (6, .int x6), (7, .int v13)] rfl (w_X12_holdsTest_180 C ho res _ ih _ _ _ _ _ _ _ _ _ E)
            · refine v_iload_n C 4 dX12_holdsTest_174 rfl ?_
              refine v_goto C 180 dX12_holdsTest_175 rfl ?_
              exact v_sub [1, 2, 3, 4, 5, 6, 7, 0] [(0, va_rf (some o)), (1, .int x1), (2, .int x2), (3, .int x3), (4, .int x4), (5, .int x5), (6, .int x6), (7, .int v13)] rfl (w_X12_holdsTest_180 C ho res _ ih _ _ _ _ _ _ _ _ _ E)
          · refine v_iload_n C 3 dX12_holdsTest_159 rfl ?_
            refine v_bipush C dX12_holdsTest_160 k_bipush_24 ?_
            refine v_irem C dX12_holdsTest_162 k_nz_24 ?_
            refine v_goto C 180 dX12_holdsTest_163 rfl ?_
            exact v_sub [1, 2, 3, 4, 5, 6, 7, 0] [(0, va_rf (some o)), (1, .int x1), (2, .int x2), (3, .int x3), (4, .int x4), (5, .int x5), (6, .int x6), (7, .int v13)] rfl (w_X12_holdsTest_180 C ho res _ ih _ _ _ _ _ _ _ _ _ E)
        · refine v_iinc (v := x5 - 1) C 6 [(5, .int (x5 - 1)), (7, .int v13), (0, va_rf (some o)), (1, .int x1), (2, .int x2), (3, .int x3), (4, .int x4), (6, .int x6)] dX12_holdsTest_72 rfl (k_inc_m1 _) (Nat.le_of_ble_eq_true rfl) rfl ?_
          refine v_aload_n (r := (some o)) C 2 dX12_holdsTest_75 rfl ?_
          refine v_getR (r := (some o)) C fa_X12_62 rfl rfl ho dX12_holdsTest_76 ?_
          refine v_iload C 0 dX12_holdsTest_79 rfl ?_
          refine v_iconst C dX12_holdsTest_81 k_iconst_1 ?_
          refine v_isub C dX12_holdsTest_82 ?_
          refine v_iload C 1 dX12_holdsTest_83 rfl ?_
          refine v_bipush C dX12_holdsTest_85 k_bipush_m38 ?_
          refine v_icmp_ne C 120 E dX12_holdsTest_87 rfl (fun c24 E => ?_) (fun c24 E => ?_)
          · refine v_aload_n (r := (some o)) C 2 dX12_holdsTest_90 rfl ?_
            refine v_getR (r := (some o)) C fa_X12_62 rfl rfl ho dX12_holdsTest_91 ?_
            refine v_iload C 0 dX12_holdsTest_94 rfl ?_
            refine v_iconst C dX12_holdsTest_96 k_iconst_1 ?_
            refine v_isub C dX12_holdsTest_97 ?_
            refine v_zald (r := (R o 17)) C E dX12_holdsTest_98 (fun v20 _ E => ?_)
            refine v_if_eq C 116 E dX12_holdsTest_99 rfl (fun c23 E => ?_) (fun c23 E => ?_)
            · exact v_sub [2, 3, 4, 5, 6, 0, 7] [(0, va_rf (some o)), (1, .int x1), (2, .int x2), (3, .int x3), (4, .int x4), (5, .int (x5 - 1)), (6, .int x6)] rfl (w_X12_holdsTest_116 C ho res _ ih _ _ _ _ _ _ _ _ _ E)
            · refine v_aload_n (r := (some o)) C 2 dX12_holdsTest_102 rfl ?_
              refine v_getR (r := (some o)) C fa_X12_62 rfl rfl ho dX12_holdsTest_103 ?_
              refine v_iload C 0 dX12_holdsTest_106 rfl ?_
              refine v_zald (r := (R o 17)) C E dX12_holdsTest_108 (fun v21 _ E => ?_)
              refine v_if_eq C 116 E dX12_holdsTest_109 rfl (fun c22 E => ?_) (fun c22 E => ?_)
              · exact v_sub [2, 3, 4, 5, 6, 0, 7] [(0, va_rf (some o)), (1, .int x1), (2, .int x2), (3, .int x3), (4, .int x4), (5, .int (x5 - 1)), (6, .int x6)] rfl (w_X12_holdsTest_116 C ho res _ ih _ _ _ _ _ _ _ _ _ E)
              · refine v_iconst C dX12_holdsTest_112 k_iconst_1 ?_
                refine v_goto C 147 dX12_holdsTest_113 rfl ?_
                exact v_sub [2, 3, 4, 5, 6, 0, 7] [(0, va_rf (some o)), (1, .int x1), (2, .int x2), (3, .int x3), (4, .int x4), (5, .int (x5 - 1)), (6, .int x6)] rfl (w_X12_holdsTest_147 C ho res _ ih _ _ _ _ _ _ _ _ _ _ E)
          · refine v_aload_n (r := (some o)) C 2 dX12_holdsTest_120 rfl ?_
            refine v_getR (r := (some o)) C fa_X12_62 rfl rfl ho dX12_holdsTest_121 ?_
            refine v_iload C 0 dX12_holdsTest_124 rfl ?_
            refine v_iconst C dX12_holdsTest_126 k_iconst_1 ?_
            refine v_isub C dX12_holdsTest_127 ?_
            refine v_zald (r := (R o 17)) C E dX12_holdsTest_128 (fun v16 _ E => ?_)
            refine v_if_ne C 142 E dX12_holdsTest_129 rfl (fun c19 E => ?_) (fun c19 E => ?_)
            · refine v_aload_n (r := (some o)) C 2 dX12_holdsTest_132 rfl ?_
              refine v_getR (r := (some o)) C fa_X12_62 rfl rfl ho dX12_holdsTest_133 ?_
              refine v_iload C 0 dX12_holdsTest_136 rfl ?_
              refine v_zald (r := (R o 17)) C E dX12_holdsTest_138 (fun v17 _ E => ?_)
              refine v_if_eq C 146 E dX12_holdsTest_139 rfl (fun c18 E => ?_) (fun c18 E => ?_)
              · refine v_iconst C dX12_holdsTest_146 k_iconst_0 ?_
                exact v_sub [2, 3, 4, 5, 6, 0, 7] [(0, va_rf (some o)), (1, .int x1), (2, .int x2), (3, .int x3), (4, .int x4), (5, .int (x5 - 1)), (6, .int x6)] rfl (w_X12_holdsTest_147 C ho res _ ih _ _ _ _ _ _ _ _ _ _ E)
              · exact v_sub [2, 3, 4, 5, 6, 0, 7] [(0, va_rf (some o)), (1, .int x1), (2, .int x2), (3, .int x3), (4, .int x4), (5, .int (x5 - 1)), (6, .int x6)] rfl (w_X12_holdsTest_142 C ho res _ ih _ _ _ _ _ _ _ _ _ E)
            · exact v_sub [2, 3, 4, 5, 6, 0, 7] [(0, va_rf (some o)), (1, .int x1), (2, .int x2), (3, .int x3), (4, .int x4), (5, .int (x5 - 1)), (6, .int x6)] rfl (w_X12_holdsTest_142 C ho res _ ih _ _ _ _ _ _ _ _ _ E)
set_option maxHeartbeats 4000000 in
theorem w_X12_holdsTest_0 (C : Cx D cA bs Z p s m args meth c cX12_holdsTest RX12 10 (some .boolean)) {o : Nat} {K : Sh} {n : Nat} {J : Jm} {R : Rf} (ho : (K o).1 = 13) (res : Int32 × Im) (x1 : Int32) (x2 : Int32) (x3 : Int32) (x4 : Int32) (I : Im) (E : f_X12_holdsTest K R o x1 x2 x3 x4 I = some res) : VW D cA bs Z p l e rX12_holdsTest s m args below meth c 10 [(0, va_rf (some o)), (1, .int x1), (2, .int x2), (3, .int x3), (4, .int x4)] K n I J R 0 0 (MQ below (QX D cA bs Z (some (.int res.1)) K n res.2 J R) args s 0 0 (fun q => bs ≤ q)) 0 [] := by
  unfold f_X12_holdsTest at E
  refine v_iconst C dX12_holdsTest_0 k_iconst_0 ?_
  refine v_istore C [(5, .int 0), (0, va_rf (some o)), (1, .int x1), (2, .int x2), (3, .int x3), (4, .int x4)] dX12_holdsTest_1 (Nat.le_of_ble_eq_true rfl) rfl ?_
  refine v_aload_n (r := (some o)) C 1 dX12_holdsTest_3 rfl ?_
  refine v_getR (r := (some o)) C fa_X12_41 rfl rfl ho dX12_holdsTest_4 ?_
  refine v_iload_n C 2 dX12_holdsTest_7 rfl ?_
  refine v_iald (r := (R o 10)) C E dX12_holdsTest_8 (fun v30 _ E => ?_)
  refine v_istore C [(6, .int v30), (5, .int 0), (0, va_rf (some o)), (1, .int x1), (2, .int x2), (3, .int x3), (4, .int x4)] dX12_holdsTest_9 (Nat.le_of_ble_eq_true rfl) rfl ?_
  exact v_sub [2, 3, 4, 5, 6, 1, 0] [(0, va_rf (some o)), (1, .int x1), (2, .int x2), (3, .int x3), (4, .int x4), (5, .int 0), (6, .int v30)] rfl (w_X12_holdsTest_11 C ho res  _ _ _ _ _ _ _ _ E)
set_option maxHeartbeats 4000000 in
theorem c_X12_holdsTest {n : Nat} {K : Sh} {I : Im} {J : Jm} {R : Rf} {o : Nat} {x1 : Int32} {x2 : Int32} {x3 : Int32} {x4 : Int32} (ho : (K o).1 = 13) {res : Int32 × Im} (E : f_X12_holdsTest K R o x1 x2 x3 x4 I = some res) : Met l yX12_holdsTest (Cond.code yX12_holdsTest cX12_holdsTest 10 (some .boolean) :: tb) rX12_holdsTest (PX D cA bs Z [.ref o, .int x1, .int x2, .int x3, .int x4] K n I J R) (QX D cA bs Z (some (.int res.1)) K n res.2 J R) 0 0 (fun q => bs ≤ q) := by
  refine met_of (lv1 := [(0, va_rf (some o)), (1, .int x1), (2, .int x2), (3, .int x3), (4, .int x4)]) pn_X12 (by exact Nat.le_of_ble_eq_true rfl) (by rfl) ?_
  intro p e s m args below meth c C hn
  exact v_sub [0, 1, 2, 3, 4] [(0, va_rf (some o)), (1, .int x1), (2, .int x2), (3, .int x3), (4, .int x4)] rfl (w_X12_holdsTest_0 C ho _ _ _ _ _ _ E)
set_option maxHeartbeats 4000000 in
theorem w_X12_drinksOf_54 (C : Cx D cA bs Z p s m args meth c cX12_drinksOf RX12 6 (some .int)) {o : Nat} {K : Sh} {n : Nat} {J : Jm} {R : Rf} (ho : (K o).1 = 13) (res : Int32 × Im) (r9 : Int32 → Int32 → Int32 → Int32 → Int32 → Im → Option (Int32 × Im)) (hr9 : ∀ (x1 : Int32) (x2 : Int32) (x3 : Int32) (x4 : Int32) (x5 : Int32) (I : Im), r9 x1 x2 x3 x4 x5 I = some res → VW D cA bs Z p l e rX12_drinksOf s m args below meth c 6 [(0, va_rf (some o)), (1, .int x1), (2, .int x2), (3, .int x3), (4, .int x4), (5, .int x5)] K n I J R 0 0 (MQ below (QX D cA bs Z (some (.int res.1)) K n res.2 J R) args s 0 0 (fun q => bs ≤ q)) 9 []) (x1 : Int32) (x2 : Int32) (x3 : Int32) (x5 : Int32) (s0 : Int32) (s1 : Int32) (I : Im) (E : f_X12_drinksOf_54 K R o r9 x1 x2 x3 x5 s0 s1 I = some res) : VW D cA bs Z p l e rX12_drinksOf s m args below meth c 6 [(0, va_rf (some o)), (1, .int x1), (2, .int x2), (3, .int x3), (5, .int x5)] K n I J R 0 0 (MQ below (QX D cA bs Z (some (.int res.1)) K n res.2 J R) args s 0 0 (fun q => bs ≤ q)) 54 [.int s1, .int s0] := by
  unfold f_X12_drinksOf_54 at E
  refine v_iadd C dX12_drinksOf_54 ?_
  refine v_istore C [(4, .int (s0 + s1)), (0, va_rf (some o)), (1, .int x1), (2, .int x2), (3, .int x3), (5, .int x5)] dX12_drinksOf_55 (Nat.le_of_ble_eq_true rfl) rfl ?_
  refine v_iinc (v := x5 + 1) C 5 [(5, .int (x5 + 1)), (4, .int (s0 + s1)), (0, va_rf (some o)), (1, .int x1), (2, .int x2), (3, .int x3)] dX12_drinksOf_57 rfl (k_inc_1 _) (Nat.le_of_ble_eq_true rfl) rfl ?_
  refine v_goto C 9 dX12_drinksOf_60 rfl ?_
  exact v_sub [2, 3, 4, 5, 1, 0] [(0, va_rf (some o)), (1, .int x1), (2, .int x2), (3, .int x3), (4, .int (s0 + s1)), (5, .int (x5 + 1))] rfl (hr9 _ _ _ _ _ _ E)
set_option maxHeartbeats 4000000 in
theorem w_X12_drinksOf_53 (C : Cx D cA bs Z p s m args meth c cX12_drinksOf RX12 6 (some .int)) {o : Nat} {K : Sh} {n : Nat} {J : Jm} {R : Rf} (ho : (K o).1 = 13) (res : Int32 × Im) (r9 : Int32 → Int32 → Int32 → Int32 → Int32 → Im → Option (Int32 × Im)) (hr9 : ∀ (x1 : Int32) (x2 : Int32) (x3 : Int32) (x4 : Int32) (x5 : Int32) (I : Im), r9 x1 x2 x3 x4 x5 I = some res → VW D cA bs Z p l e rX12_drinksOf s m args below meth c 6 [(0, va_rf (some o)), (1, .int x1), (2, .int x2), (3, .int x3), (4, .int x4), (5, .int x5)] K n I J R 0 0 (MQ below (QX D cA bs Z (some (.int res.1)) K n res.2 J R) args s 0 0 (fun q => bs ≤ q)) 9 []) (x1 : Int32) (x2 : Int32) (x3 : Int32) (x5 : Int32) (s0 : Int32) (I : Im) (E : f_X12_drinksOf_53 K R o r9 x1 x2 x3 x5 s0 I = some res) : VW D cA bs Z p l e rX12_drinksOf s m args below meth c 6 [(0, va_rf (some o)), (1, .int x1), (2, .int x2), (3, .int x3), (5, .int x5)] K n I J R 0 0 (MQ below (QX D cA bs Z (some (.int res.1)) K n res.2 J R) args s 0 0 (fun q => bs ≤ q)) 53 [.int s0] := by
  unfold f_X12_drinksOf_53 at E
  refine v_iconst C dX12_drinksOf_53 k_iconst_0 ?_
  exact v_sub [0, 1, 2, 3, 4] [(0, va_rf (some o)), (1, .int x1), (2, .int x2), (3, .int x3), (5, .int x5)] rfl (w_X12_drinksOf_54 C ho res _ hr9 _ _ _ _ _ _ _ E)
set_option maxHeartbeats 4000000 in
theorem w_X12_drinksOf_9 (C : Cx D cA bs Z p s m args meth c cX12_drinksOf RX12 6 (some .int)) {o : Nat} {K : Sh} {n : Nat} {J : Jm} {R : Rf} (ho : (K o).1 = 13) (res : Int32 × Im)  : ∀ (k : Nat), ∀ (x1 : Int32) (x2 : Int32) (x3 : Int32) (x4 : Int32) (x5 : Int32) (I : Im), f_X12_drinksOf_9 K R o k x1 x2 x3 x4 x5 I = some res → VW D cA bs Z p l e rX12_drinksOf s m args below meth c 6 [(0, va_rf (some o)), (1, .int x1), (2, .int x2), (3, .int x3), (4, .int x4), (5, .int x5)] K n I J R 0 0 (MQ below (QX D cA bs Z (some (.int res.1)) K n res.2 J R) args s 0 0 (fun q => bs ≤ q)) 9 [] := by
  intro k
  induction k with
  | zero =>
    intro x1 x2 x3 x4 x5 I E
    have E : (none : Option (Int32 × Im)) = some res := E
    cases E
  | succ k ih =>
    intro x1 x2 x3 x4 x5 I E
    unfold f_X12_drinksOf_9 at E
    refine v_iload C 5 dX12_drinksOf_9 rfl ?_
    refine v_aload_n (r := (some o)) C 0 dX12_drinksOf_11 rfl ?_
    obtain ⟨q1, h2, E⟩ := bnd E
    refine v_callV (r := (some o)) (As := []) (rv := (some (.int q1))) (st := [.int x5]) (st1 := [.int q1, .int x5]) (ce1 := 0) (sl1 := 0) C cv_X12_299 (c_X12_behind  ho h2) rfl ho rfl rfl ⟨rfl, rfl, Nat.le_of_ble_eq_true rfl, Nat.le_of_ble_eq_true rfl⟩ ⟨Nat.le_of_ble_eq_true rfl, Nat.le_of_ble_eq_true rfl⟩ (Nat.le_of_ble_eq_true rfl) rfl rfl rfl dX12_drinksOf_12 ?_
    refine v_icmp_ge C 63 E dX12_drinksOf_15 rfl (fun c9 E => ?_) (fun c9 E => ?_)
    · refine v_iload C 4 dX12_drinksOf_63 rfl ?_
      obtain rfl := Option.some.inj E
      exact v_iret C rfl dX12_drinksOf_65
    · refine v_iload C 4 dX12_drinksOf_18 rfl ?_
      refine v_aload_n (r := (some o)) C 0 dX12_drinksOf_20 rfl ?_
      refine v_getR (r := (some o)) C fa_X12_32 rfl rfl ho dX12_drinksOf_21 ?_
      refine v_iload C 5 dX12_drinksOf_24 rfl ?_
      refine v_iald (r := (R o 7)) C E dX12_drinksOf_26 (fun v3 _ E => ?_)
      refine v_iconst C dX12_drinksOf_27 k_iconst_2 ?_
      refine v_icmp_ne C 53 E dX12_drinksOf_28 rfl (fun c8 E => ?_) (fun c8 E => ?_)
      · refine v_aload_n (r := (some o)) C 0 dX12_drinksOf_31 rfl ?_
        refine v_iload C 5 dX12_drinksOf_32 rfl ?_
        refine v_iload_n C 2 dX12_drinksOf_34 rfl ?_
        refine v_iload_n C 3 dX12_drinksOf_35 rfl ?_
        refine v_iload_n C 1 dX12_drinksOf_36 rfl ?_
        obtain ⟨q4, h5, E⟩ := bnd E
        refine v_callV (r := (some o)) (As := [.int x5, .int x2, .int x3, .int x1]) (rv := (some (.int q4.1))) (st := [.int x4]) (st1 := [.int q4.1, .int x4]) (ce1 := 0) (sl1 := 0) C cv_X12_302 (c_X12_holdsTest (x1 := x5) (x2 := x2) (x3 := x3) (x4 := x1) ho h5) rfl ho rfl rfl ⟨rfl, rfl, Nat.le_of_ble_eq_true rfl, Nat.le_of_ble_eq_true rfl⟩ ⟨Nat.le_of_ble_eq_true rfl, Nat.le_of_ble_eq_true rfl⟩ (Nat.le_of_ble_eq_true rfl) rfl rfl rfl dX12_drinksOf_37 ?_
        refine v_if_eq C 53 E dX12_drinksOf_40 rfl (fun c7 E => ?_) (fun c7 E => ?_)
        · exact v_sub [0, 1, 2, 3, 5] [(0, va_rf (some o)), (1, .int x1), (2, .int x2), (3, .int x3), (5, .int x5)] rfl (w_X12_drinksOf_53 C ho res _ ih _ _ _ _ _ _ E)
        · refine v_aload_n (r := (some o)) C 0 dX12_drinksOf_43 rfl ?_
          refine v_getR (r := (some o)) C fa_X12_35 rfl rfl ho dX12_drinksOf_44 ?_
          refine v_iload C 5 dX12_drinksOf_47 rfl ?_
          refine v_iald (r := (R o 8)) C E dX12_drinksOf_49 (fun v6 _ E => ?_)
          refine v_goto C 54 dX12_drinksOf_50 rfl ?_
          exact v_sub [0, 1, 2, 3, 5] [(0, va_rf (some o)), (1, .int x1), (2, .int x2), (3, .int x3), (5, .int x5)] rfl (w_X12_drinksOf_54 C ho res _ ih _ _ _ _ _ _ _ E)
      · exact v_sub [0, 1, 2, 3, 5] [(0, va_rf (some o)), (1, .int x1), (2, .int x2), (3, .int x3), (5, .int x5)] rfl (w_X12_drinksOf_53 C ho res _ ih _ _ _ _ _ _ E)
set_option maxHeartbeats 4000000 in
theorem w_X12_drinksOf_0 (C : Cx D cA bs Z p s m args meth c cX12_drinksOf RX12 6 (some .int)) {o : Nat} {K : Sh} {n : Nat} {J : Jm} {R : Rf} (ho : (K o).1 = 13) (res : Int32 × Im) (x1 : Int32) (x2 : Int32) (x3 : Int32) (I : Im) (E : f_X12_drinksOf K R o x1 x2 x3 I = some res) : VW D cA bs Z p l e rX12_drinksOf s m args below meth c 6 [(0, va_rf (some o)), (1, .int x1), (2, .int x2), (3, .int x3)] K n I J R 0 0 (MQ below (QX D cA bs Z (some (.int res.1)) K n res.2 J R) args s 0 0 (fun q => bs ≤ q)) 0 [] := by
  unfold f_X12_drinksOf at E
  refine v_iconst C dX12_drinksOf_0 k_iconst_0 ?_
  refine v_istore C [(4, .int 0), (0, va_rf (some o)), (1, .int x1), (2, .int x2), (3, .int x3)] dX12_drinksOf_1 (Nat.le_of_ble_eq_true rfl) rfl ?_
  refine v_aload_n (r := (some o)) C 1 dX12_drinksOf_3 rfl ?_
  obtain ⟨q10, h11, E⟩ := bnd E
  refine v_callV (r := (some o)) (As := []) (rv := (some (.int q10))) (st := []) (st1 := [.int q10]) (ce1 := 0) (sl1 := 0) C cv_X12_296 (c_X12_first  ho h11) rfl ho rfl rfl ⟨rfl, rfl, Nat.le_of_ble_eq_true rfl, Nat.le_of_ble_eq_true rfl⟩ ⟨Nat.le_of_ble_eq_true rfl, Nat.le_of_ble_eq_true rfl⟩ (Nat.le_of_ble_eq_true rfl) rfl rfl rfl dX12_drinksOf_4 ?_
  refine v_istore C [(5, .int q10), (4, .int 0), (0, va_rf (some o)), (1, .int x1), (2, .int x2), (3, .int x3)] dX12_drinksOf_7 (Nat.le_of_ble_eq_true rfl) rfl ?_
  exact v_sub [2, 3, 4, 5, 1, 0] [(0, va_rf (some o)), (1, .int x1), (2, .int x2), (3, .int x3), (4, .int 0), (5, .int q10)] rfl (w_X12_drinksOf_9 C ho res  _ _ _ _ _ _ _ E)
set_option maxHeartbeats 4000000 in
theorem c_X12_drinksOf {n : Nat} {K : Sh} {I : Im} {J : Jm} {R : Rf} {o : Nat} {x1 : Int32} {x2 : Int32} {x3 : Int32} (ho : (K o).1 = 13) {res : Int32 × Im} (E : f_X12_drinksOf K R o x1 x2 x3 I = some res) : Met l yX12_drinksOf (Cond.code yX12_drinksOf cX12_drinksOf 6 (some .int) :: tb) rX12_drinksOf (PX D cA bs Z [.ref o, .int x1, .int x2, .int x3] K n I J R) (QX D cA bs Z (some (.int res.1)) K n res.2 J R) 0 0 (fun q => bs ≤ q) := by
  refine met_of (lv1 := [(0, va_rf (some o)), (1, .int x1), (2, .int x2), (3, .int x3)]) pn_X12 (by exact Nat.le_of_ble_eq_true rfl) (by rfl) ?_
  intro p e s m args below meth c C hn
  exact v_sub [0, 1, 2, 3] [(0, va_rf (some o)), (1, .int x1), (2, .int x2), (3, .int x3)] rfl (w_X12_drinksOf_0 C ho _ _ _ _ _ E)
set_option maxHeartbeats 4000000 in
theorem w_X12_heldBy_0 (C : Cx D cA bs Z p s m args meth c cX12_heldBy RX12 3 (some .int)) {o : Nat} {K : Sh} {n : Nat} {I : Im} {J : Jm} {R : Rf} (ho : (K o).1 = 13) (res : Int32) (x1 : Int32) (x2 : Int32) (E : f_X12_heldBy K I R o x1 x2 = some res) : VW D cA bs Z p l e rX12_heldBy s m args below meth c 3 [(0, va_rf (some o)), (1, .int x1), (2, .int x2)] K n I J R 0 0 (MQ below (QX D cA bs Z (some (.int res)) K n I J R) args s 0 0 (fun q => bs ≤ q)) 0 [] := by
  unfold f_X12_heldBy at E
  refine v_iload_n C 2 dX12_heldBy_0 rfl ?_
  refine v_aload_n (r := (some o)) C 0 dX12_heldBy_1 rfl ?_
  refine v_getR (r := (some o)) C fa_X12_90 rfl rfl ho dX12_heldBy_2 ?_
  refine v_iload_n C 1 dX12_heldBy_5 rfl ?_
  refine v_iald (r := (R o 26)) C E dX12_heldBy_6 (fun v1 _ E => ?_)
  refine v_icmp_gt C 19 E dX12_heldBy_7 rfl (fun c9 E => ?_) (fun c9 E => ?_)
  · refine v_aload_n (r := (some o)) C 0 dX12_heldBy_19 rfl ?_
    refine v_aload_n (r := (some o)) C 0 dX12_heldBy_20 rfl ?_
    refine v_getR (r := (some o)) C fa_X12_78 rfl rfl ho dX12_heldBy_21 ?_
    refine v_iload_n C 1 dX12_heldBy_24 rfl ?_
    refine v_iald (r := (R o 22)) C E dX12_heldBy_25 (fun v2 _ E => ?_)
    refine v_aload_n (r := (some o)) C 0 dX12_heldBy_26 rfl ?_
    refine v_getR (r := (some o)) C fa_X12_87 rfl rfl ho dX12_heldBy_27 ?_
    refine v_iload_n C 1 dX12_heldBy_30 rfl ?_
    refine v_iald (r := (R o 25)) C E dX12_heldBy_31 (fun v3 _ E => ?_)
    refine v_aload_n (r := (some o)) C 0 dX12_heldBy_32 rfl ?_
    refine v_getR (r := (some o)) C fa_X12_81 rfl rfl ho dX12_heldBy_33 ?_
    refine v_iload_n C 1 dX12_heldBy_36 rfl ?_
    refine v_iald (r := (R o 23)) C E dX12_heldBy_37 (fun v4 _ E => ?_)
    refine v_iload_n C 2 dX12_heldBy_38 rfl ?_
    refine v_aload_n (r := (some o)) C 0 dX12_heldBy_39 rfl ?_
    refine v_getR (r := (some o)) C fa_X12_90 rfl rfl ho dX12_heldBy_40 ?_
    refine v_iload_n C 1 dX12_heldBy_43 rfl ?_
    refine v_iald (r := (R o 26)) C E dX12_heldBy_44 (fun v5 _ E => ?_)
    refine v_isub C dX12_heldBy_45 ?_
    refine v_imul C dX12_heldBy_46 ?_
    refine v_iadd C dX12_heldBy_47 ?_
    obtain ⟨q6, h7, E⟩ := bnd E
    refine v_callV (r := (some o)) (As := [.int v2, .int (v3 + (v4 * (x2 - v5)))]) (rv := (some (.int q6))) (st := []) (st1 := [.int q6]) (ce1 := 0) (sl1 := 0) C cv_X12_309 (c_X12_min (x1 := v2) (x2 := (v3 + (v4 * (x2 - v5)))) ho h7) rfl ho rfl rfl ⟨rfl, rfl, Nat.le_of_ble_eq_true rfl, Nat.le_of_ble_eq_true rfl⟩ ⟨Nat.le_of_ble_eq_true rfl, Nat.le_of_ble_eq_true rfl⟩ (Nat.le_of_ble_eq_true rfl) rfl rfl rfl dX12_heldBy_48 ?_
    obtain rfl := Option.some.inj E
    exact v_iret C rfl dX12_heldBy_51
  · refine v_aload_n (r := (some o)) C 0 dX12_heldBy_10 rfl ?_
    refine v_getR (r := (some o)) C fa_X12_87 rfl rfl ho dX12_heldBy_11 ?_
    refine v_iload_n C 1 dX12_heldBy_14 rfl ?_
    refine v_iald (r := (R o 25)) C E dX12_heldBy_15 (fun v8 _ E => ?_)
    refine v_goto C 51 dX12_heldBy_16 rfl ?_
    obtain rfl := Option.some.inj E
    exact v_iret C rfl dX12_heldBy_51
set_option maxHeartbeats 4000000 in
theorem c_X12_heldBy {n : Nat} {K : Sh} {I : Im} {J : Jm} {R : Rf} {o : Nat} {x1 : Int32} {x2 : Int32} (ho : (K o).1 = 13) {res : Int32} (E : f_X12_heldBy K I R o x1 x2 = some res) : Met l yX12_heldBy (Cond.code yX12_heldBy cX12_heldBy 3 (some .int) :: tb) rX12_heldBy (PX D cA bs Z [.ref o, .int x1, .int x2] K n I J R) (QX D cA bs Z (some (.int res)) K n I J R) 0 0 (fun q => bs ≤ q) := by
  refine met_of (lv1 := [(0, va_rf (some o)), (1, .int x1), (2, .int x2)]) pn_X12 (by exact Nat.le_of_ble_eq_true rfl) (by rfl) ?_
  intro p e s m args below meth c C hn
  exact v_sub [0, 1, 2] [(0, va_rf (some o)), (1, .int x1), (2, .int x2)] rfl (w_X12_heldBy_0 C ho _ _ _ E)
set_option maxHeartbeats 4000000 in
theorem w_X12_isTold_0 (C : Cx D cA bs Z p s m args meth c cX12_isTold RX12 2 (some .boolean)) {o : Nat} {K : Sh} {n : Nat} {I : Im} {J : Jm} {R : Rf} (ho : (K o).1 = 13) (res : Int32) (x1 : Int32) (E : f_X12_isTold K o x1 = some res) : VW D cA bs Z p l e rX12_isTold s m args below meth c 2 [(0, va_rf (some o)), (1, .int x1)] K n I J R 0 0 (MQ below (QX D cA bs Z (some (.int res)) K n I J R) args s 0 0 (fun q => bs ≤ q)) 0 [] := by
  unfold f_X12_isTold at E
  refine v_aload_n (r := (some o)) C 0 dX12_isTold_0 rfl ?_
  refine v_iload_n C 1 dX12_isTold_1 rfl ?_
  refine v_iconst C dX12_isTold_2 k_iconst_0 ?_
  refine v_iconst C dX12_isTold_3 k_iconst_3 ?_
  obtain ⟨q1, h2, E⟩ := bnd E
  refine v_callV (r := (some o)) (As := [.int x1, .int 0, .int 3]) (rv := (some (.int q1))) (st := []) (st1 := [.int q1]) (ce1 := 0) (sl1 := 0) C cv_X12_233 (c_X12_in (x1 := x1) (x2 := 0) (x3 := 3) ho h2) rfl ho rfl rfl ⟨rfl, rfl, Nat.le_of_ble_eq_true rfl, Nat.le_of_ble_eq_true rfl⟩ ⟨Nat.le_of_ble_eq_true rfl, Nat.le_of_ble_eq_true rfl⟩ (Nat.le_of_ble_eq_true rfl) rfl rfl rfl dX12_isTold_4 ?_
  refine v_if_ne C 46 E dX12_isTold_7 rfl (fun c12 E => ?_) (fun c12 E => ?_)
  · refine v_aload_n (r := (some o)) C 0 dX12_isTold_10 rfl ?_
    refine v_iload_n C 1 dX12_isTold_11 rfl ?_
    refine v_bipush C dX12_isTold_12 k_bipush_10 ?_
    refine v_bipush C dX12_isTold_14 k_bipush_14 ?_
    obtain ⟨q3, h4, E⟩ := bnd E
    refine v_callV (r := (some o)) (As := [.int x1, .int 10, .int 14]) (rv := (some (.int q3))) (st := []) (st1 := [.int q3]) (ce1 := 0) (sl1 := 0) C cv_X12_233 (c_X12_in (x1 := x1) (x2 := 10) (x3 := 14) ho h4) rfl ho rfl rfl ⟨rfl, rfl, Nat.le_of_ble_eq_true rfl, Nat.le_of_ble_eq_true rfl⟩ ⟨Nat.le_of_ble_eq_true rfl, Nat.le_of_ble_eq_true rfl⟩ (Nat.le_of_ble_eq_true rfl) rfl rfl rfl dX12_isTold_16 ?_
    refine v_if_ne C 46 E dX12_isTold_19 rfl (fun c11 E => ?_) (fun c11 E => ?_)
    · refine v_aload_n (r := (some o)) C 0 dX12_isTold_22 rfl ?_
      refine v_iload_n C 1 dX12_isTold_23 rfl ?_
      refine v_bipush C dX12_isTold_24 k_bipush_20 ?_
      refine v_bipush C dX12_isTold_26 k_bipush_24 ?_
      obtain ⟨q5, h6, E⟩ := bnd E
      refine v_callV (r := (some o)) (As := [.int x1, .int 20, .int 24]) (rv := (some (.int q5))) (st := []) (st1 := [.int q5]) (ce1 := 0) (sl1 := 0) C cv_X12_233 (c_X12_in (x1 := x1) (x2 := 20) (x3 := 24) ho h6) rfl ho rfl rfl ⟨rfl, rfl, Nat.le_of_ble_eq_true rfl, Nat.le_of_ble_eq_true rfl⟩ ⟨Nat.le_of_ble_eq_true rfl, Nat.le_of_ble_eq_true rfl⟩ (Nat.le_of_ble_eq_true rfl) rfl rfl rfl dX12_isTold_28 ?_
      refine v_if_ne C 46 E dX12_isTold_31 rfl (fun c10 E => ?_) (fun c10 E => ?_)
      · refine v_aload_n (r := (some o)) C 0 dX12_isTold_34 rfl ?_
        refine v_iload_n C 1 dX12_isTold_35 rfl ?_
        refine v_bipush C dX12_isTold_36 k_bipush_30 ?_
        refine v_bipush C dX12_isTold_38 k_bipush_35 ?_
        obtain ⟨q7, h8, E⟩ := bnd E
        refine v_callV (r := (some o)) (As := [.int x1, .int 30, .int 35]) (rv := (some (.int q7))) (st := []) (st1 := [.int q7]) (ce1 := 0) (sl1 := 0) C cv_X12_233 (c_X12_in (x1 := x1) (x2 := 30) (x3 := 35) ho h8) rfl ho rfl rfl ⟨rfl, rfl, Nat.le_of_ble_eq_true rfl, Nat.le_of_ble_eq_true rfl⟩ ⟨Nat.le_of_ble_eq_true rfl, Nat.le_of_ble_eq_true rfl⟩ (Nat.le_of_ble_eq_true rfl) rfl rfl rfl dX12_isTold_40 ?_
        refine v_if_eq C 50 E dX12_isTold_43 rfl (fun c9 E => ?_) (fun c9 E => ?_)
        · refine v_iconst C dX12_isTold_50 k_iconst_0 ?_
          obtain rfl := Option.some.inj E
          exact v_zret (v := 0) C rfl nz_0 dX12_isTold_51
        · refine v_iconst C dX12_isTold_46 k_iconst_1 ?_
          refine v_goto C 51 dX12_isTold_47 rfl ?_
          obtain rfl := Option.some.inj E
          exact v_zret (v := 1) C rfl nz_1 dX12_isTold_51
      · refine v_iconst C dX12_isTold_46 k_iconst_1 ?_
        refine v_goto C 51 dX12_isTold_47 rfl ?_
        obtain rfl := Option.some.inj E
        exact v_zret (v := 1) C rfl nz_1 dX12_isTold_51
    · refine v_iconst C dX12_isTold_46 k_iconst_1 ?_
      refine v_goto C 51 dX12_isTold_47 rfl ?_
      obtain rfl := Option.some.inj E
      exact v_zret (v := 1) C rfl nz_1 dX12_isTold_51
  · refine v_iconst C dX12_isTold_46 k_iconst_1 ?_
    refine v_goto C 51 dX12_isTold_47 rfl ?_
    obtain rfl := Option.some.inj E
    exact v_zret (v := 1) C rfl nz_1 dX12_isTold_51
set_option maxHeartbeats 4000000 in
theorem c_X12_isTold {n : Nat} {K : Sh} {I : Im} {J : Jm} {R : Rf} {o : Nat} {x1 : Int32} (ho : (K o).1 = 13) {res : Int32} (E : f_X12_isTold K o x1 = some res) : Met l yX12_isTold (Cond.code yX12_isTold cX12_isTold 2 (some .boolean) :: tb) rX12_isTold (PX D cA bs Z [.ref o, .int x1] K n I J R) (QX D cA bs Z (some (.int res)) K n I J R) 0 0 (fun q => bs ≤ q) := by
  refine met_of (lv1 := [(0, va_rf (some o)), (1, .int x1)]) pn_X12 (by exact Nat.le_of_ble_eq_true rfl) (by rfl) ?_
  intro p e s m args below meth c C hn
  exact v_sub [0, 1] [(0, va_rf (some o)), (1, .int x1)] rfl (w_X12_isTold_0 C ho _ _ E)
set_option maxHeartbeats 4000000 in
theorem w_X12_of_0 (C : Cx D cA bs Z p s m args meth c cX12_of RX12 3 (some .int)) {o : Nat} {K : Sh} {n : Nat} {J : Jm} {R : Rf} (ho : (K o).1 = 13) (res : Int32 × Im) (x1 : Int32) (I : Im) (E : f_X12_of K R o x1 I = some res) : VW D cA bs Z p l e rX12_of s m args below meth c 3 [(0, va_rf (some o)), (1, .int x1)] K n I J R 0 0 (MQ below (QX D cA bs Z (some (.int res.1)) K n res.2 J R) args s 0 0 (fun q => bs ≤ q)) 0 [] := by
  unfold f_X12_of at E
  refine v_aload_n (r := (some o)) C 0 dX12_of_0 rfl ?_
  refine v_iload_n C 1 dX12_of_1 rfl ?_
  obtain ⟨q1, h2, E⟩ := bnd E
  refine v_callV (r := (some o)) (As := [.int x1]) (rv := (some (.int q1))) (st := []) (st1 := [.int q1]) (ce1 := 0) (sl1 := 0) C cv_X12_313 (c_X12_isTold (x1 := x1) ho h2) rfl ho rfl rfl ⟨rfl, rfl, Nat.le_of_ble_eq_true rfl, Nat.le_of_ble_eq_true rfl⟩ ⟨Nat.le_of_ble_eq_true rfl, Nat.le_of_ble_eq_true rfl⟩ (Nat.le_of_ble_eq_true rfl) rfl rfl rfl dX12_of_2 ?_
  refine v_if_ne C 10 E dX12_of_5 rfl (fun c23 E => ?_) (fun c23 E => ?_)
  · refine v_iconst C dX12_of_8 k_iconst_m1 ?_
    obtain rfl := Option.some.inj E
    exact v_iret C rfl dX12_of_9
  · refine v_aload_n (r := (some o)) C 0 dX12_of_10 rfl ?_
    refine v_getI (r := (some o)) C fa_X12_13 rfl rfl ho dX12_of_11 ?_
    refine v_if_ge C 20 E dX12_of_14 rfl (fun c22 E => ?_) (fun c22 E => ?_)
    · refine v_aload_n (r := (some o)) C 0 dX12_of_20 rfl ?_
      obtain ⟨q3, h4, E⟩ := bnd E
      refine v_callV (r := (some o)) (As := []) (rv := none) (st := []) (st1 := []) (ce1 := 0) (sl1 := 0) C cv_X12_306 (c_X12_lay  ho h4) rfl ho rfl rfl ⟨rfl, rfl, Nat.le_of_ble_eq_true rfl, Nat.le_of_ble_eq_true rfl⟩ ⟨Nat.le_of_ble_eq_true rfl, Nat.le_of_ble_eq_true rfl⟩ (Nat.le_of_ble_eq_true rfl) rfl rfl rfl dX12_of_21 ?_
      refine v_iload_n C 1 dX12_of_24 rfl ?_
      refine v_if_ne C 33 E dX12_of_25 rfl (fun c21 E => ?_) (fun c21 E => ?_)
      · refine v_aload_n (r := (some o)) C 0 dX12_of_28 rfl ?_
        refine v_getI (r := (some o)) C fa_X12_75 rfl rfl ho dX12_of_29 ?_
        obtain rfl := Option.some.inj E
        exact v_iret C rfl dX12_of_32
      · refine v_iload_n C 1 dX12_of_33 rfl ?_
        refine v_iconst C dX12_of_34 k_iconst_4 ?_
        refine v_icmp_ge C 74 E dX12_of_35 rfl (fun c20 E => ?_) (fun c20 E => ?_)
        · refine v_iload_n C 1 dX12_of_74 rfl ?_
          refine v_bipush C dX12_of_75 k_bipush_10 ?_
          refine v_irem C dX12_of_77 k_nz_10 ?_
          refine v_istore_n C [(2, .int (irem x1 10)), (0, va_rf (some o)), (1, .int x1)] dX12_of_78 (Nat.le_of_ble_eq_true rfl) rfl ?_
          refine v_iload_n C 2 dX12_of_79 rfl ?_
          refine v_bipush C dX12_of_80 k_bipush_30 ?_
          refine v_icmp_lt C 104 E dX12_of_82 rfl (fun c11 E => ?_) (fun c11 E => ?_)
          · refine v_iload_n C 0 dX12_of_104 rfl ?_
            refine v_aload_n (r := (some o)) C 1 dX12_of_105 rfl ?_
            refine v_getI (r := (some o)) C fa_X12_75 rfl rfl ho dX12_of_106 ?_
            refine v_icmp_lt C 116 E dX12_of_109 rfl (fun c8 E => ?_) (fun c8 E => ?_)
            · refine v_iload_n C 2 dX12_of_116 rfl ?_
              refine v_bipush C dX12_of_117 k_bipush_20 ?_
              refine v_icmp_ge C 131 E dX12_of_119 rfl (fun c7 E => ?_) (fun c7 E => ?_)
              · refine v_aload_n (r := (some o)) C 1 dX12_of_131 rfl ?_
                refine v_getR (r := (some o)) C fa_X12_81 rfl rfl ho dX12_of_132 ?_
                refine v_iload_n C 0 dX12_of_135 rfl ?_
                refine v_iald (r := (R o 23)) C E dX12_of_136 (fun v5 _ E => ?_)
                obtain rfl := Option.some.inj E
                exact v_iret C rfl dX12_of_137
              · refine v_aload_n (r := (some o)) C 1 dX12_of_122 rfl ?_
                refine v_getR (r := (some o)) C fa_X12_78 rfl rfl ho dX12_of_123 ?_
                refine v_iload_n C 0 dX12_of_126 rfl ?_
                refine v_iald (r := (R o 22)) C E dX12_of_127 (fun v6 _ E => ?_)
                refine v_goto C 137 dX12_of_128 rfl ?_
                obtain rfl := Option.some.inj E
                exact v_iret C rfl dX12_of_137
            · refine v_iconst C dX12_of_112 k_iconst_m1 ?_
              refine v_goto C 137 dX12_of_113 rfl ?_
              obtain rfl := Option.some.inj E
              exact v_iret C rfl dX12_of_137
          · refine v_iload_n C 0 dX12_of_85 rfl ?_
            refine v_aload_n (r := (some o)) C 1 dX12_of_86 rfl ?_
            refine v_getI (r := (some o)) C fa_X12_75 rfl rfl ho dX12_of_87 ?_
            refine v_icmp_gt C 102 E dX12_of_90 rfl (fun c10 E => ?_) (fun c10 E => ?_)
            · refine v_iconst C dX12_of_102 k_iconst_m1 ?_
              obtain rfl := Option.some.inj E
              exact v_iret C rfl dX12_of_103
            · refine v_aload_n (r := (some o)) C 1 dX12_of_93 rfl ?_
              refine v_getR (r := (some o)) C fa_X12_84 rfl rfl ho dX12_of_94 ?_
              refine v_iload_n C 0 dX12_of_97 rfl ?_
              refine v_iald (r := (R o 24)) C E dX12_of_98 (fun v9 _ E => ?_)
              refine v_goto C 103 dX12_of_99 rfl ?_
              obtain rfl := Option.some.inj E
              exact v_iret C rfl dX12_of_103
        · refine v_iload_n C 1 dX12_of_38 rfl ?_
          refine v_iconst C dX12_of_39 k_iconst_1 ?_
          refine v_icmp_ne C 53 E dX12_of_40 rfl (fun c19 E => ?_) (fun c19 E => ?_)
          · refine v_aload_n (r := (some o)) C 0 dX12_of_43 rfl ?_
            refine v_iconst C dX12_of_44 k_iconst_3 ?_
            refine v_bipush C dX12_of_45 k_bipush_10 ?_
            obtain ⟨q17, h18, E⟩ := bnd E
            refine v_callV (r := (some o)) (As := [.int 3, .int 10]) (rv := (some (.int q17))) (st := []) (st1 := [.int q17]) (ce1 := 0) (sl1 := 0) C cv_X12_316 (c_X12_last (x1 := 3) (x2 := 10) ho h18) rfl ho rfl rfl ⟨rfl, rfl, Nat.le_of_ble_eq_true rfl, Nat.le_of_ble_eq_true rfl⟩ ⟨Nat.le_of_ble_eq_true rfl, Nat.le_of_ble_eq_true rfl⟩ (Nat.le_of_ble_eq_true rfl) rfl rfl rfl dX12_of_47 ?_
            refine v_goto C 73 dX12_of_50 rfl ?_
            obtain rfl := Option.some.inj E
            exact v_iret C rfl dX12_of_73
          · refine v_iload_n C 1 dX12_of_53 rfl ?_
            refine v_iconst C dX12_of_54 k_iconst_2 ?_
            refine v_icmp_ne C 67 E dX12_of_55 rfl (fun c16 E => ?_) (fun c16 E => ?_)
            · refine v_aload_n (r := (some o)) C 0 dX12_of_58 rfl ?_
              refine v_iconst C dX12_of_59 k_iconst_4 ?_
              refine v_iconst C dX12_of_60 k_iconst_1 ?_
              obtain ⟨q14, h15, E⟩ := bnd E
              refine v_callV (r := (some o)) (As := [.int 4, .int 1]) (rv := (some (.int q14))) (st := []) (st1 := [.int q14]) (ce1 := 0) (sl1 := 0) C cv_X12_316 (c_X12_last (x1 := 4) (x2 := 1) ho h15) rfl ho rfl rfl ⟨rfl, rfl, Nat.le_of_ble_eq_true rfl, Nat.le_of_ble_eq_true rfl⟩ ⟨Nat.le_of_ble_eq_true rfl, Nat.le_of_ble_eq_true rfl⟩ (Nat.le_of_ble_eq_true rfl) rfl rfl rfl dX12_of_61 ?_
              refine v_goto C 73 dX12_of_64 rfl ?_
              obtain rfl := Option.some.inj E
              exact v_iret C rfl dX12_of_73
            · refine v_aload_n (r := (some o)) C 0 dX12_of_67 rfl ?_
              refine v_iconst C dX12_of_68 k_iconst_5 ?_
              refine v_iconst C dX12_of_69 k_iconst_0 ?_
              obtain ⟨q12, h13, E⟩ := bnd E
              refine v_callV (r := (some o)) (As := [.int 5, .int 0]) (rv := (some (.int q12))) (st := []) (st1 := [.int q12]) (ce1 := 0) (sl1 := 0) C cv_X12_316 (c_X12_last (x1 := 5) (x2 := 0) ho h13) rfl ho rfl rfl ⟨rfl, rfl, Nat.le_of_ble_eq_true rfl, Nat.le_of_ble_eq_true rfl⟩ ⟨Nat.le_of_ble_eq_true rfl, Nat.le_of_ble_eq_true rfl⟩ (Nat.le_of_ble_eq_true rfl) rfl rfl rfl dX12_of_70 ?_
              obtain rfl := Option.some.inj E
              exact v_iret C rfl dX12_of_73
    · refine v_bipush C dX12_of_17 k_bipush_m3 ?_
      obtain rfl := Option.some.inj E
      exact v_iret C rfl dX12_of_19
set_option maxHeartbeats 4000000 in
theorem c_X12_of {n : Nat} {K : Sh} {I : Im} {J : Jm} {R : Rf} {o : Nat} {x1 : Int32} (ho : (K o).1 = 13) {res : Int32 × Im} (E : f_X12_of K R o x1 I = some res) : Met l yX12_of (Cond.code yX12_of cX12_of 3 (some .int) :: tb) rX12_of (PX D cA bs Z [.ref o, .int x1] K n I J R) (QX D cA bs Z (some (.int res.1)) K n res.2 J R) 0 0 (fun q => bs ≤ q) := by
  refine met_of (lv1 := [(0, va_rf (some o)), (1, .int x1)]) pn_X12 (by exact Nat.le_of_ble_eq_true rfl) (by rfl) ?_
  intro p e s m args below meth c C hn
  exact v_sub [0, 1] [(0, va_rf (some o)), (1, .int x1)] rfl (w_X12_of_0 C ho _ _ _ E)
set_option maxHeartbeats 4000000 in
theorem w_X12_isHour_0 (C : Cx D cA bs Z p s m args meth c cX12_isHour RX12 2 (some .boolean)) {o : Nat} {K : Sh} {n : Nat} {I : Im} {J : Jm} {R : Rf} (ho : (K o).1 = 13) (res : Int32) (x1 : Int32) (E : f_X12_isHour K o x1 = some res) : VW D cA bs Z p l e rX12_isHour s m args below meth c 2 [(0, va_rf (some o)), (1, .int x1)] K n I J R 0 0 (MQ below (QX D cA bs Z (some (.int res)) K n I J R) args s 0 0 (fun q => bs ≤ q)) 0 [] := by
  unfold f_X12_isHour at E
  refine v_aload_n (r := (some o)) C 0 dX12_isHour_0 rfl ?_
  refine v_iload_n C 1 dX12_isHour_1 rfl ?_
  refine v_iconst C dX12_isHour_2 k_iconst_0 ?_
  refine v_sipush C dX12_isHour_3 k_sipush_999 ?_
  obtain ⟨q1, h2, E⟩ := bnd E
  refine v_callV (r := (some o)) (As := [.int x1, .int 0, .int 999]) (rv := (some (.int q1))) (st := []) (st1 := [.int q1]) (ce1 := 0) (sl1 := 0) C cv_X12_233 (c_X12_in (x1 := x1) (x2 := 0) (x3 := 999) ho h2) rfl ho rfl rfl ⟨rfl, rfl, Nat.le_of_ble_eq_true rfl, Nat.le_of_ble_eq_true rfl⟩ ⟨Nat.le_of_ble_eq_true rfl, Nat.le_of_ble_eq_true rfl⟩ (Nat.le_of_ble_eq_true rfl) rfl rfl rfl dX12_isHour_6 ?_
  obtain ⟨v3, h4, E⟩ := bnd E
  obtain ⟨h4a, h4b⟩ := gd h4
  subst h4b
  obtain rfl := Option.some.inj E
  exact v_zret C rfl (by simp [narrow, h4a]) dX12_isHour_9
set_option maxHeartbeats 4000000 in
theorem c_X12_isHour {n : Nat} {K : Sh} {I : Im} {J : Jm} {R : Rf} {o : Nat} {x1 : Int32} (ho : (K o).1 = 13) {res : Int32} (E : f_X12_isHour K o x1 = some res) : Met l yX12_isHour (Cond.code yX12_isHour cX12_isHour 2 (some .boolean) :: tb) rX12_isHour (PX D cA bs Z [.ref o, .int x1] K n I J R) (QX D cA bs Z (some (.int res)) K n I J R) 0 0 (fun q => bs ≤ q) := by
  refine met_of (lv1 := [(0, va_rf (some o)), (1, .int x1)]) pn_X12 (by exact Nat.le_of_ble_eq_true rfl) (by rfl) ?_
  intro p e s m args below meth c C hn
  exact v_sub [0, 1] [(0, va_rf (some o)), (1, .int x1)] rfl (w_X12_isHour_0 C ho _ _ E)
set_option maxHeartbeats 4000000 in
theorem w_X12_holds_0 (C : Cx D cA bs Z p s m args meth c cX12_holds RX12 3 (some .int)) {o : Nat} {K : Sh} {n : Nat} {J : Jm} {R : Rf} (ho : (K o).1 = 13) (res : Int32 × Im) (x1 : Int32) (x2 : Int32) (I : Im) (E : f_X12_holds K R o x1 x2 I = some res) : VW D cA bs Z p l e rX12_holds s m args below meth c 3 [(0, va_rf (some o)), (1, .int x1), (2, .int x2)] K n I J R 0 0 (MQ below (QX D cA bs Z (some (.int res.1)) K n res.2 J R) args s 0 0 (fun q => bs ≤ q)) 0 [] := by
  unfold f_X12_holds at E
  refine v_aload_n (r := (some o)) C 0 dX12_holds_0 rfl ?_
  refine v_iload_n C 1 dX12_holds_1 rfl ?_
  refine v_iconst C dX12_holds_2 k_iconst_0 ?_
  refine v_iconst C dX12_holds_3 k_iconst_4 ?_
  obtain ⟨q1, h2, E⟩ := bnd E
  refine v_callV (r := (some o)) (As := [.int x1, .int 0, .int 4]) (rv := (some (.int q1))) (st := []) (st1 := [.int q1]) (ce1 := 0) (sl1 := 0) C cv_X12_233 (c_X12_in (x1 := x1) (x2 := 0) (x3 := 4) ho h2) rfl ho rfl rfl ⟨rfl, rfl, Nat.le_of_ble_eq_true rfl, Nat.le_of_ble_eq_true rfl⟩ ⟨Nat.le_of_ble_eq_true rfl, Nat.le_of_ble_eq_true rfl⟩ (Nat.le_of_ble_eq_true rfl) rfl rfl rfl dX12_holds_4 ?_
  refine v_if_ne C 12 E dX12_holds_7 rfl (fun c12 E => ?_) (fun c12 E => ?_)
  · refine v_iconst C dX12_holds_10 k_iconst_m1 ?_
    obtain rfl := Option.some.inj E
    exact v_iret C rfl dX12_holds_11
  · refine v_aload_n (r := (some o)) C 0 dX12_holds_12 rfl ?_
    refine v_iload_n C 2 dX12_holds_13 rfl ?_
    obtain ⟨q3, h4, E⟩ := bnd E
    refine v_callV (r := (some o)) (As := [.int x2]) (rv := (some (.int q3))) (st := []) (st1 := [.int q3]) (ce1 := 0) (sl1 := 0) C cv_X12_319 (c_X12_isHour (x1 := x2) ho h4) rfl ho rfl rfl ⟨rfl, rfl, Nat.le_of_ble_eq_true rfl, Nat.le_of_ble_eq_true rfl⟩ ⟨Nat.le_of_ble_eq_true rfl, Nat.le_of_ble_eq_true rfl⟩ (Nat.le_of_ble_eq_true rfl) rfl rfl rfl dX12_holds_14 ?_
    refine v_if_ne C 23 E dX12_holds_17 rfl (fun c11 E => ?_) (fun c11 E => ?_)
    · refine v_bipush C dX12_holds_20 k_bipush_m2 ?_
      obtain rfl := Option.some.inj E
      exact v_iret C rfl dX12_holds_22
    · refine v_aload_n (r := (some o)) C 0 dX12_holds_23 rfl ?_
      refine v_getI (r := (some o)) C fa_X12_13 rfl rfl ho dX12_holds_24 ?_
      refine v_if_ge C 33 E dX12_holds_27 rfl (fun c10 E => ?_) (fun c10 E => ?_)
      · refine v_aload_n (r := (some o)) C 0 dX12_holds_33 rfl ?_
        obtain ⟨q5, h6, E⟩ := bnd E
        refine v_callV (r := (some o)) (As := []) (rv := none) (st := []) (st1 := []) (ce1 := 0) (sl1 := 0) C cv_X12_306 (c_X12_lay  ho h6) rfl ho rfl rfl ⟨rfl, rfl, Nat.le_of_ble_eq_true rfl, Nat.le_of_ble_eq_true rfl⟩ ⟨Nat.le_of_ble_eq_true rfl, Nat.le_of_ble_eq_true rfl⟩ (Nat.le_of_ble_eq_true rfl) rfl rfl rfl dX12_holds_34 ?_
        refine v_iload_n C 1 dX12_holds_37 rfl ?_
        refine v_aload_n (r := (some o)) C 0 dX12_holds_38 rfl ?_
        refine v_getI (r := (some o)) C fa_X12_75 rfl rfl ho dX12_holds_39 ?_
        refine v_icmp_ge C 54 E dX12_holds_42 rfl (fun c9 E => ?_) (fun c9 E => ?_)
        · refine v_iconst C dX12_holds_54 k_iconst_m1 ?_
          obtain rfl := Option.some.inj E
          exact v_iret C rfl dX12_holds_55
        · refine v_aload_n (r := (some o)) C 0 dX12_holds_45 rfl ?_
          refine v_iload_n C 1 dX12_holds_46 rfl ?_
          refine v_iload_n C 2 dX12_holds_47 rfl ?_
          obtain ⟨q7, h8, E⟩ := bnd E
          refine v_callV (r := (some o)) (As := [.int x1, .int x2]) (rv := (some (.int q7))) (st := []) (st1 := [.int q7]) (ce1 := 0) (sl1 := 0) C cv_X12_322 (c_X12_heldBy (x1 := x1) (x2 := x2) ho h8) rfl ho rfl rfl ⟨rfl, rfl, Nat.le_of_ble_eq_true rfl, Nat.le_of_ble_eq_true rfl⟩ ⟨Nat.le_of_ble_eq_true rfl, Nat.le_of_ble_eq_true rfl⟩ (Nat.le_of_ble_eq_true rfl) rfl rfl rfl dX12_holds_48 ?_
          refine v_goto C 55 dX12_holds_51 rfl ?_
          obtain rfl := Option.some.inj E
          exact v_iret C rfl dX12_holds_55
      · refine v_bipush C dX12_holds_30 k_bipush_m3 ?_
        obtain rfl := Option.some.inj E
        exact v_iret C rfl dX12_holds_32
set_option maxHeartbeats 4000000 in
theorem c_X12_holds {n : Nat} {K : Sh} {I : Im} {J : Jm} {R : Rf} {o : Nat} {x1 : Int32} {x2 : Int32} (ho : (K o).1 = 13) {res : Int32 × Im} (E : f_X12_holds K R o x1 x2 I = some res) : Met l yX12_holds (Cond.code yX12_holds cX12_holds 3 (some .int) :: tb) rX12_holds (PX D cA bs Z [.ref o, .int x1, .int x2] K n I J R) (QX D cA bs Z (some (.int res.1)) K n res.2 J R) 0 0 (fun q => bs ≤ q) := by
  refine met_of (lv1 := [(0, va_rf (some o)), (1, .int x1), (2, .int x2)]) pn_X12 (by exact Nat.le_of_ble_eq_true rfl) (by rfl) ?_
  intro p e s m args below meth c C hn
  exact v_sub [0, 1, 2] [(0, va_rf (some o)), (1, .int x1), (2, .int x2)] rfl (w_X12_holds_0 C ho _ _ _ _ E)
set_option maxHeartbeats 4000000 in
theorem w_X12_drinks_0 (C : Cx D cA bs Z p s m args meth c cX12_drinks RX12 4 (some .int)) {o : Nat} {K : Sh} {n : Nat} {J : Jm} {R : Rf} (ho : (K o).1 = 13) (res : Int32 × Im) (x1 : Int32) (x2 : Int32) (x3 : Int32) (I : Im) (E : f_X12_drinks K R o x1 x2 x3 I = some res) : VW D cA bs Z p l e rX12_drinks s m args below meth c 4 [(0, va_rf (some o)), (1, .int x1), (2, .int x2), (3, .int x3)] K n I J R 0 0 (MQ below (QX D cA bs Z (some (.int res.1)) K n res.2 J R) args s 0 0 (fun q => bs ≤ q)) 0 [] := by
  unfold f_X12_drinks at E
  refine v_aload_n (r := (some o)) C 0 dX12_drinks_0 rfl ?_
  refine v_iload_n C 1 dX12_drinks_1 rfl ?_
  refine v_iconst C dX12_drinks_2 k_iconst_0 ?_
  refine v_iconst C dX12_drinks_3 k_iconst_5 ?_
  obtain ⟨q1, h2, E⟩ := bnd E
  refine v_callV (r := (some o)) (As := [.int x1, .int 0, .int 5]) (rv := (some (.int q1))) (st := []) (st1 := [.int q1]) (ce1 := 0) (sl1 := 0) C cv_X12_233 (c_X12_in (x1 := x1) (x2 := 0) (x3 := 5) ho h2) rfl ho rfl rfl ⟨rfl, rfl, Nat.le_of_ble_eq_true rfl, Nat.le_of_ble_eq_true rfl⟩ ⟨Nat.le_of_ble_eq_true rfl, Nat.le_of_ble_eq_true rfl⟩ (Nat.le_of_ble_eq_true rfl) rfl rfl rfl dX12_drinks_4 ?_
  refine v_if_ne C 12 E dX12_drinks_7 rfl (fun c15 E => ?_) (fun c15 E => ?_)
  · refine v_iconst C dX12_drinks_10 k_iconst_m1 ?_
    obtain rfl := Option.some.inj E
    exact v_iret C rfl dX12_drinks_11
  · refine v_aload_n (r := (some o)) C 0 dX12_drinks_12 rfl ?_
    refine v_iload_n C 2 dX12_drinks_13 rfl ?_
    obtain ⟨q3, h4, E⟩ := bnd E
    refine v_callV (r := (some o)) (As := [.int x2]) (rv := (some (.int q3))) (st := []) (st1 := [.int q3]) (ce1 := 0) (sl1 := 0) C cv_X12_319 (c_X12_isHour (x1 := x2) ho h4) rfl ho rfl rfl ⟨rfl, rfl, Nat.le_of_ble_eq_true rfl, Nat.le_of_ble_eq_true rfl⟩ ⟨Nat.le_of_ble_eq_true rfl, Nat.le_of_ble_eq_true rfl⟩ (Nat.le_of_ble_eq_true rfl) rfl rfl rfl dX12_drinks_14 ?_
    refine v_if_eq C 31 E dX12_drinks_17 rfl (fun c14 E => ?_) (fun c14 E => ?_)
    · refine v_bipush C dX12_drinks_31 k_bipush_m2 ?_
      obtain rfl := Option.some.inj E
      exact v_iret C rfl dX12_drinks_33
    · refine v_aload_n (r := (some o)) C 0 dX12_drinks_20 rfl ?_
      refine v_iload_n C 3 dX12_drinks_21 rfl ?_
      refine v_iconst C dX12_drinks_22 k_iconst_1 ?_
      refine v_bipush C dX12_drinks_23 k_bipush_9 ?_
      obtain ⟨q5, h6, E⟩ := bnd E
      refine v_callV (r := (some o)) (As := [.int x3, .int 1, .int 9]) (rv := (some (.int q5))) (st := []) (st1 := [.int q5]) (ce1 := 0) (sl1 := 0) C cv_X12_233 (c_X12_in (x1 := x3) (x2 := 1) (x3 := 9) ho h6) rfl ho rfl rfl ⟨rfl, rfl, Nat.le_of_ble_eq_true rfl, Nat.le_of_ble_eq_true rfl⟩ ⟨Nat.le_of_ble_eq_true rfl, Nat.le_of_ble_eq_true rfl⟩ (Nat.le_of_ble_eq_true rfl) rfl rfl rfl dX12_drinks_25 ?_
      refine v_if_ne C 34 E dX12_drinks_28 rfl (fun c13 E => ?_) (fun c13 E => ?_)
      · refine v_bipush C dX12_drinks_31 k_bipush_m2 ?_
        obtain rfl := Option.some.inj E
        exact v_iret C rfl dX12_drinks_33
      · refine v_aload_n (r := (some o)) C 0 dX12_drinks_34 rfl ?_
        refine v_getI (r := (some o)) C fa_X12_13 rfl rfl ho dX12_drinks_35 ?_
        refine v_if_ge C 44 E dX12_drinks_38 rfl (fun c12 E => ?_) (fun c12 E => ?_)
        · refine v_aload_n (r := (some o)) C 0 dX12_drinks_44 rfl ?_
          obtain ⟨q7, h8, E⟩ := bnd E
          refine v_callV (r := (some o)) (As := []) (rv := none) (st := []) (st1 := []) (ce1 := 0) (sl1 := 0) C cv_X12_306 (c_X12_lay  ho h8) rfl ho rfl rfl ⟨rfl, rfl, Nat.le_of_ble_eq_true rfl, Nat.le_of_ble_eq_true rfl⟩ ⟨Nat.le_of_ble_eq_true rfl, Nat.le_of_ble_eq_true rfl⟩ (Nat.le_of_ble_eq_true rfl) rfl rfl rfl dX12_drinks_45 ?_
          refine v_iload_n C 1 dX12_drinks_48 rfl ?_
          refine v_aload_n (r := (some o)) C 0 dX12_drinks_49 rfl ?_
          refine v_getI (r := (some o)) C fa_X12_75 rfl rfl ho dX12_drinks_50 ?_
          refine v_icmp_gt C 66 E dX12_drinks_53 rfl (fun c11 E => ?_) (fun c11 E => ?_)
          · refine v_iconst C dX12_drinks_66 k_iconst_m1 ?_
            obtain rfl := Option.some.inj E
            exact v_iret C rfl dX12_drinks_67
          · refine v_aload_n (r := (some o)) C 0 dX12_drinks_56 rfl ?_
            refine v_iload_n C 1 dX12_drinks_57 rfl ?_
            refine v_iload_n C 2 dX12_drinks_58 rfl ?_
            refine v_iload_n C 3 dX12_drinks_59 rfl ?_
            obtain ⟨q9, h10, E⟩ := bnd E
            refine v_callV (r := (some o)) (As := [.int x1, .int x2, .int x3]) (rv := (some (.int q9.1))) (st := []) (st1 := [.int q9.1]) (ce1 := 0) (sl1 := 0) C cv_X12_325 (c_X12_drinksOf (x1 := x1) (x2 := x2) (x3 := x3) ho h10) rfl ho rfl rfl ⟨rfl, rfl, Nat.le_of_ble_eq_true rfl, Nat.le_of_ble_eq_true rfl⟩ ⟨Nat.le_of_ble_eq_true rfl, Nat.le_of_ble_eq_true rfl⟩ (Nat.le_of_ble_eq_true rfl) rfl rfl rfl dX12_drinks_60 ?_
            refine v_goto C 67 dX12_drinks_63 rfl ?_
            obtain rfl := Option.some.inj E
            exact v_iret C rfl dX12_drinks_67
        · refine v_bipush C dX12_drinks_41 k_bipush_m3 ?_
          obtain rfl := Option.some.inj E
          exact v_iret C rfl dX12_drinks_43
set_option maxHeartbeats 4000000 in
theorem c_X12_drinks {n : Nat} {K : Sh} {I : Im} {J : Jm} {R : Rf} {o : Nat} {x1 : Int32} {x2 : Int32} {x3 : Int32} (ho : (K o).1 = 13) {res : Int32 × Im} (E : f_X12_drinks K R o x1 x2 x3 I = some res) : Met l yX12_drinks (Cond.code yX12_drinks cX12_drinks 4 (some .int) :: tb) rX12_drinks (PX D cA bs Z [.ref o, .int x1, .int x2, .int x3] K n I J R) (QX D cA bs Z (some (.int res.1)) K n res.2 J R) 0 0 (fun q => bs ≤ q) := by
  refine met_of (lv1 := [(0, va_rf (some o)), (1, .int x1), (2, .int x2), (3, .int x3)]) pn_X12 (by exact Nat.le_of_ble_eq_true rfl) (by rfl) ?_
  intro p e s m args below meth c C hn
  exact v_sub [0, 1, 2, 3] [(0, va_rf (some o)), (1, .int x1), (2, .int x2), (3, .int x3)] rfl (w_X12_drinks_0 C ho _ _ _ _ _ E)
set_option maxHeartbeats 4000000 in
theorem w_X12_odds_0 (C : Cx D cA bs Z p s m args meth c cX12_odds RX12 4 (some .int)) {o : Nat} {K : Sh} {n : Nat} {J : Jm} {R : Rf} (ho : (K o).1 = 13) (res : Int32 × Im) (x1 : Int32) (x2 : Int32) (I : Im) (E : f_X12_odds K R o x1 x2 I = some res) : VW D cA bs Z p l e rX12_odds s m args below meth c 4 [(0, va_rf (some o)), (1, .int x1), (2, .int x2)] K n I J R 0 0 (MQ below (QX D cA bs Z (some (.int res.1)) K n res.2 J R) args s 0 0 (fun q => bs ≤ q)) 0 [] := by
  unfold f_X12_odds at E
  refine v_aload_n (r := (some o)) C 0 dX12_odds_0 rfl ?_
  refine v_iload_n C 1 dX12_odds_1 rfl ?_
  refine v_iconst C dX12_odds_2 k_iconst_0 ?_
  refine v_iconst C dX12_odds_3 k_iconst_4 ?_
  obtain ⟨q1, h2, E⟩ := bnd E
  refine v_callV (r := (some o)) (As := [.int x1, .int 0, .int 4]) (rv := (some (.int q1))) (st := []) (st1 := [.int q1]) (ce1 := 0) (sl1 := 0) C cv_X12_233 (c_X12_in (x1 := x1) (x2 := 0) (x3 := 4) ho h2) rfl ho rfl rfl ⟨rfl, rfl, Nat.le_of_ble_eq_true rfl, Nat.le_of_ble_eq_true rfl⟩ ⟨Nat.le_of_ble_eq_true rfl, Nat.le_of_ble_eq_true rfl⟩ (Nat.le_of_ble_eq_true rfl) rfl rfl rfl dX12_odds_4 ?_
  refine v_if_ne C 12 E dX12_odds_7 rfl (fun c8 E => ?_) (fun c8 E => ?_)
  · refine v_iconst C dX12_odds_10 k_iconst_m1 ?_
    obtain rfl := Option.some.inj E
    exact v_iret C rfl dX12_odds_11
  · refine v_aload_n (r := (some o)) C 0 dX12_odds_12 rfl ?_
    refine v_iload_n C 2 dX12_odds_13 rfl ?_
    refine v_iconst C dX12_odds_14 k_iconst_0 ?_
    refine v_bipush C dX12_odds_15 k_bipush_10 ?_
    obtain ⟨q3, h4, E⟩ := bnd E
    refine v_callV (r := (some o)) (As := [.int x2, .int 0, .int 10]) (rv := (some (.int q3))) (st := []) (st1 := [.int q3]) (ce1 := 0) (sl1 := 0) C cv_X12_233 (c_X12_in (x1 := x2) (x2 := 0) (x3 := 10) ho h4) rfl ho rfl rfl ⟨rfl, rfl, Nat.le_of_ble_eq_true rfl, Nat.le_of_ble_eq_true rfl⟩ ⟨Nat.le_of_ble_eq_true rfl, Nat.le_of_ble_eq_true rfl⟩ (Nat.le_of_ble_eq_true rfl) rfl rfl rfl dX12_odds_17 ?_
    refine v_if_ne C 26 E dX12_odds_20 rfl (fun c7 E => ?_) (fun c7 E => ?_)
    · refine v_bipush C dX12_odds_23 k_bipush_m2 ?_
      obtain rfl := Option.some.inj E
      exact v_iret C rfl dX12_odds_25
    · refine v_aload_n (r := (some o)) C 0 dX12_odds_26 rfl ?_
      refine v_getR (r := (some o)) C fa_X12_72 rfl rfl ho dX12_odds_27 ?_
      refine v_iload_n C 1 dX12_odds_30 rfl ?_
      refine v_iald (r := (R o 20)) C E dX12_odds_31 (fun v5 _ E => ?_)
      refine v_istore_n C [(3, .int v5), (0, va_rf (some o)), (1, .int x1), (2, .int x2)] dX12_odds_32 (Nat.le_of_ble_eq_true rfl) rfl ?_
      refine v_aload_n (r := (some o)) C 1 dX12_odds_33 rfl ?_
      refine v_getR (r := (some o)) C fa_X12_72 rfl rfl ho dX12_odds_34 ?_
      refine v_iload_n C 2 dX12_odds_37 rfl ?_
      refine v_iload_n C 3 dX12_odds_38 rfl ?_
      refine v_iast (r := (R o 20)) C E dX12_odds_39 (fun I6 _ E => ?_)
      refine v_iload_n C 0 dX12_odds_40 rfl ?_
      obtain rfl := Option.some.inj E
      exact v_iret C rfl dX12_odds_41
set_option maxHeartbeats 4000000 in
theorem c_X12_odds {n : Nat} {K : Sh} {I : Im} {J : Jm} {R : Rf} {o : Nat} {x1 : Int32} {x2 : Int32} (ho : (K o).1 = 13) {res : Int32 × Im} (E : f_X12_odds K R o x1 x2 I = some res) : Met l yX12_odds (Cond.code yX12_odds cX12_odds 4 (some .int) :: tb) rX12_odds (PX D cA bs Z [.ref o, .int x1, .int x2] K n I J R) (QX D cA bs Z (some (.int res.1)) K n res.2 J R) 0 0 (fun q => bs ≤ q) := by
  refine met_of (lv1 := [(0, va_rf (some o)), (1, .int x1), (2, .int x2)]) pn_X12 (by exact Nat.le_of_ble_eq_true rfl) (by rfl) ?_
  intro p e s m args below meth c C hn
  exact v_sub [0, 1, 2] [(0, va_rf (some o)), (1, .int x1), (2, .int x2)] rfl (w_X12_odds_0 C ho _ _ _ _ E)
set_option maxHeartbeats 4000000 in
theorem w_X12_ever_29 (C : Cx D cA bs Z p s m args meth c cX12_ever RX12 4 (some .int)) {o : Nat} {K : Sh} {n : Nat} {J : Jm} {R : Rf} (ho : (K o).1 = 13) (res : Int32 × Im)  : ∀ (k : Nat), ∀ (x1 : Int32) (x2 : Int32) (x3 : Int32) (I : Im), f_X12_ever_29 K R o k x1 x2 x3 I = some res → VW D cA bs Z p l e rX12_ever s m args below meth c 4 [(0, va_rf (some o)), (1, .int x1), (2, .int x2), (3, .int x3)] K n I J R 0 0 (MQ below (QX D cA bs Z (some (.int res.1)) K n res.2 J R) args s 0 0 (fun q => bs ≤ q)) 29 [] := by
  intro k
  induction k with
  | zero =>
    intro x1 x2 x3 I E
    have E : (none : Option (Int32 × Im)) = some res := E
    cases E
  | succ k ih =>
    intro x1 x2 x3 I E
    unfold f_X12_ever_29 at E
    refine v_iload_n C 3 dX12_ever_29 rfl ?_
    refine v_aload_n (r := (some o)) C 0 dX12_ever_30 rfl ?_
    refine v_getI (r := (some o)) C fa_X12_75 rfl rfl ho dX12_ever_31 ?_
    refine v_icmp_ge C 71 E dX12_ever_34 rfl (fun c6 E => ?_) (fun c6 E => ?_)
    · refine v_iload_n C 2 dX12_ever_71 rfl ?_
      obtain rfl := Option.some.inj E
      exact v_iret C rfl dX12_ever_72
    · refine v_iload_n C 2 dX12_ever_37 rfl ?_
      refine v_aload_n (r := (some o)) C 0 dX12_ever_38 rfl ?_
      refine v_getR (r := (some o)) C fa_X12_78 rfl rfl ho dX12_ever_39 ?_
      refine v_iload_n C 3 dX12_ever_42 rfl ?_
      refine v_iald (r := (R o 22)) C E dX12_ever_43 (fun v1 _ E => ?_)
      refine v_iload_n C 1 dX12_ever_44 rfl ?_
      refine v_aload_n (r := (some o)) C 0 dX12_ever_45 rfl ?_
      refine v_aload_n (r := (some o)) C 0 dX12_ever_46 rfl ?_
      refine v_getR (r := (some o)) C fa_X12_78 rfl rfl ho dX12_ever_47 ?_
      refine v_iload_n C 3 dX12_ever_50 rfl ?_
      refine v_iald (r := (R o 22)) C E dX12_ever_51 (fun v2 _ E => ?_)
      refine v_aload_n (r := (some o)) C 0 dX12_ever_52 rfl ?_
      refine v_getR (r := (some o)) C fa_X12_81 rfl rfl ho dX12_ever_53 ?_
      refine v_iload_n C 3 dX12_ever_56 rfl ?_
      refine v_iald (r := (R o 23)) C E dX12_ever_57 (fun v3 _ E => ?_)
      obtain ⟨q4, h5, E⟩ := bnd E
      refine v_callV (r := (some o)) (As := [.int v2, .int v3]) (rv := (some (.int q4))) (st := [.int x1, .int v1, .int x2]) (st1 := [.int q4, .int x1, .int v1, .int x2]) (ce1 := 0) (sl1 := 0) C cv_X12_309 (c_X12_min (x1 := v2) (x2 := v3) ho h5) rfl ho rfl rfl ⟨rfl, rfl, Nat.le_of_ble_eq_true rfl, Nat.le_of_ble_eq_true rfl⟩ ⟨Nat.le_of_ble_eq_true rfl, Nat.le_of_ble_eq_true rfl⟩ (Nat.le_of_ble_eq_true rfl) rfl rfl rfl dX12_ever_58 ?_
      refine v_imul C dX12_ever_61 ?_
      refine v_iadd C dX12_ever_62 ?_
      refine v_iadd C dX12_ever_63 ?_
      refine v_istore_n C [(2, .int (x2 + (v1 + (x1 * q4)))), (0, va_rf (some o)), (1, .int x1), (3, .int x3)] dX12_ever_64 (Nat.le_of_ble_eq_true rfl) rfl ?_
      refine v_iinc (v := x3 + 1) C 3 [(3, .int (x3 + 1)), (2, .int (x2 + (v1 + (x1 * q4)))), (0, va_rf (some o)), (1, .int x1)] dX12_ever_65 rfl (k_inc_1 _) (Nat.le_of_ble_eq_true rfl) rfl ?_
      refine v_goto C 29 dX12_ever_68 rfl ?_
      exact v_sub [2, 3, 1, 0] [(0, va_rf (some o)), (1, .int x1), (2, .int (x2 + (v1 + (x1 * q4)))), (3, .int (x3 + 1))] rfl (ih _ _ _ _ E)
set_option maxHeartbeats 4000000 in
theorem w_X12_ever_0 (C : Cx D cA bs Z p s m args meth c cX12_ever RX12 4 (some .int)) {o : Nat} {K : Sh} {n : Nat} {J : Jm} {R : Rf} (ho : (K o).1 = 13) (res : Int32 × Im) (x1 : Int32) (I : Im) (E : f_X12_ever K R o x1 I = some res) : VW D cA bs Z p l e rX12_ever s m args below meth c 4 [(0, va_rf (some o)), (1, .int x1)] K n I J R 0 0 (MQ below (QX D cA bs Z (some (.int res.1)) K n res.2 J R) args s 0 0 (fun q => bs ≤ q)) 0 [] := by
  unfold f_X12_ever at E
  refine v_aload_n (r := (some o)) C 0 dX12_ever_0 rfl ?_
  refine v_iload_n C 1 dX12_ever_1 rfl ?_
  obtain ⟨q7, h8, E⟩ := bnd E
  refine v_callV (r := (some o)) (As := [.int x1]) (rv := (some (.int q7))) (st := []) (st1 := [.int q7]) (ce1 := 0) (sl1 := 0) C cv_X12_319 (c_X12_isHour (x1 := x1) ho h8) rfl ho rfl rfl ⟨rfl, rfl, Nat.le_of_ble_eq_true rfl, Nat.le_of_ble_eq_true rfl⟩ ⟨Nat.le_of_ble_eq_true rfl, Nat.le_of_ble_eq_true rfl⟩ (Nat.le_of_ble_eq_true rfl) rfl rfl rfl dX12_ever_2 ?_
  refine v_if_ne C 11 E dX12_ever_5 rfl (fun c12 E => ?_) (fun c12 E => ?_)
  · refine v_bipush C dX12_ever_8 k_bipush_m2 ?_
    obtain rfl := Option.some.inj E
    exact v_iret C rfl dX12_ever_10
  · refine v_aload_n (r := (some o)) C 0 dX12_ever_11 rfl ?_
    refine v_getI (r := (some o)) C fa_X12_13 rfl rfl ho dX12_ever_12 ?_
    refine v_if_ge C 21 E dX12_ever_15 rfl (fun c11 E => ?_) (fun c11 E => ?_)
    · refine v_aload_n (r := (some o)) C 0 dX12_ever_21 rfl ?_
      obtain ⟨q9, h10, E⟩ := bnd E
      refine v_callV (r := (some o)) (As := []) (rv := none) (st := []) (st1 := []) (ce1 := 0) (sl1 := 0) C cv_X12_306 (c_X12_lay  ho h10) rfl ho rfl rfl ⟨rfl, rfl, Nat.le_of_ble_eq_true rfl, Nat.le_of_ble_eq_true rfl⟩ ⟨Nat.le_of_ble_eq_true rfl, Nat.le_of_ble_eq_true rfl⟩ (Nat.le_of_ble_eq_true rfl) rfl rfl rfl dX12_ever_22 ?_
      refine v_iconst C dX12_ever_25 k_iconst_0 ?_
      refine v_istore_n C [(2, .int 0), (0, va_rf (some o)), (1, .int x1)] dX12_ever_26 (Nat.le_of_ble_eq_true rfl) rfl ?_
      refine v_iconst C dX12_ever_27 k_iconst_0 ?_
      refine v_istore_n C [(3, .int 0), (2, .int 0), (0, va_rf (some o)), (1, .int x1)] dX12_ever_28 (Nat.le_of_ble_eq_true rfl) rfl ?_
      exact v_sub [2, 3, 1, 0] [(0, va_rf (some o)), (1, .int x1), (2, .int 0), (3, .int 0)] rfl (w_X12_ever_29 C ho res  _ _ _ _ _ E)
    · refine v_bipush C dX12_ever_18 k_bipush_m3 ?_
      obtain rfl := Option.some.inj E
      exact v_iret C rfl dX12_ever_20
set_option maxHeartbeats 4000000 in
theorem c_X12_ever {n : Nat} {K : Sh} {I : Im} {J : Jm} {R : Rf} {o : Nat} {x1 : Int32} (ho : (K o).1 = 13) {res : Int32 × Im} (E : f_X12_ever K R o x1 I = some res) : Met l yX12_ever (Cond.code yX12_ever cX12_ever 4 (some .int) :: tb) rX12_ever (PX D cA bs Z [.ref o, .int x1] K n I J R) (QX D cA bs Z (some (.int res.1)) K n res.2 J R) 0 0 (fun q => bs ≤ q) := by
  refine met_of (lv1 := [(0, va_rf (some o)), (1, .int x1)]) pn_X12 (by exact Nat.le_of_ble_eq_true rfl) (by rfl) ?_
  intro p e s m args below meth c C hn
  exact v_sub [0, 1] [(0, va_rf (some o)), (1, .int x1)] rfl (w_X12_ever_0 C ho _ _ _ E)
set_option maxHeartbeats 4000000 in
theorem w_X12_isRule_0 (C : Cx D cA bs Z p s m args meth c cX12_isRule RX12 2 (some .boolean)) {o : Nat} {K : Sh} {n : Nat} {I : Im} {J : Jm} {R : Rf} (ho : (K o).1 = 13) (res : Int32) (x1 : Int32) (E : f_X12_isRule K I o x1 = some res) : VW D cA bs Z p l e rX12_isRule s m args below meth c 2 [(0, va_rf (some o)), (1, .int x1)] K n I J R 0 0 (MQ below (QX D cA bs Z (some (.int res)) K n I J R) args s 0 0 (fun q => bs ≤ q)) 0 [] := by
  unfold f_X12_isRule at E
  refine v_aload_n (r := (some o)) C 0 dX12_isRule_0 rfl ?_
  refine v_iload_n C 1 dX12_isRule_1 rfl ?_
  refine v_iconst C dX12_isRule_2 k_iconst_0 ?_
  refine v_aload_n (r := (some o)) C 0 dX12_isRule_3 rfl ?_
  refine v_getI (r := (some o)) C fa_X12_93 rfl rfl ho dX12_isRule_4 ?_
  refine v_iconst C dX12_isRule_7 k_iconst_1 ?_
  refine v_isub C dX12_isRule_8 ?_
  obtain ⟨q1, h2, E⟩ := bnd E
  refine v_callV (r := (some o)) (As := [.int x1, .int 0, .int ((I o 27) - 1)]) (rv := (some (.int q1))) (st := []) (st1 := [.int q1]) (ce1 := 0) (sl1 := 0) C cv_X12_233 (c_X12_in (x1 := x1) (x2 := 0) (x3 := ((I o 27) - 1)) ho h2) rfl ho rfl rfl ⟨rfl, rfl, Nat.le_of_ble_eq_true rfl, Nat.le_of_ble_eq_true rfl⟩ ⟨Nat.le_of_ble_eq_true rfl, Nat.le_of_ble_eq_true rfl⟩ (Nat.le_of_ble_eq_true rfl) rfl rfl rfl dX12_isRule_9 ?_
  obtain ⟨v3, h4, E⟩ := bnd E
  obtain ⟨h4a, h4b⟩ := gd h4
  subst h4b
  obtain rfl := Option.some.inj E
  exact v_zret C rfl (by simp [narrow, h4a]) dX12_isRule_12
set_option maxHeartbeats 4000000 in
theorem c_X12_isRule {n : Nat} {K : Sh} {I : Im} {J : Jm} {R : Rf} {o : Nat} {x1 : Int32} (ho : (K o).1 = 13) {res : Int32} (E : f_X12_isRule K I o x1 = some res) : Met l yX12_isRule (Cond.code yX12_isRule cX12_isRule 2 (some .boolean) :: tb) rX12_isRule (PX D cA bs Z [.ref o, .int x1] K n I J R) (QX D cA bs Z (some (.int res)) K n I J R) 0 0 (fun q => bs ≤ q) := by
  refine met_of (lv1 := [(0, va_rf (some o)), (1, .int x1)]) pn_X12 (by exact Nat.le_of_ble_eq_true rfl) (by rfl) ?_
  intro p e s m args below meth c C hn
  exact v_sub [0, 1] [(0, va_rf (some o)), (1, .int x1)] rfl (w_X12_isRule_0 C ho _ _ E)
set_option maxHeartbeats 4000000 in
theorem w_X12_isCaravan_0 (C : Cx D cA bs Z p s m args meth c cX12_isCaravan RX12 2 (some .boolean)) {o : Nat} {K : Sh} {n : Nat} {I : Im} {J : Jm} {R : Rf} (ho : (K o).1 = 13) (res : Int32) (x1 : Int32) (E : f_X12_isCaravan K I o x1 = some res) : VW D cA bs Z p l e rX12_isCaravan s m args below meth c 2 [(0, va_rf (some o)), (1, .int x1)] K n I J R 0 0 (MQ below (QX D cA bs Z (some (.int res)) K n I J R) args s 0 0 (fun q => bs ≤ q)) 0 [] := by
  unfold f_X12_isCaravan at E
  refine v_aload_n (r := (some o)) C 0 dX12_isCaravan_0 rfl ?_
  refine v_iload_n C 1 dX12_isCaravan_1 rfl ?_
  refine v_iconst C dX12_isCaravan_2 k_iconst_0 ?_
  refine v_aload_n (r := (some o)) C 0 dX12_isCaravan_3 rfl ?_
  refine v_getI (r := (some o)) C fa_X12_96 rfl rfl ho dX12_isCaravan_4 ?_
  refine v_iconst C dX12_isCaravan_7 k_iconst_1 ?_
  refine v_isub C dX12_isCaravan_8 ?_
  obtain ⟨q1, h2, E⟩ := bnd E
  refine v_callV (r := (some o)) (As := [.int x1, .int 0, .int ((I o 28) - 1)]) (rv := (some (.int q1))) (st := []) (st1 := [.int q1]) (ce1 := 0) (sl1 := 0) C cv_X12_233 (c_X12_in (x1 := x1) (x2 := 0) (x3 := ((I o 28) - 1)) ho h2) rfl ho rfl rfl ⟨rfl, rfl, Nat.le_of_ble_eq_true rfl, Nat.le_of_ble_eq_true rfl⟩ ⟨Nat.le_of_ble_eq_true rfl, Nat.le_of_ble_eq_true rfl⟩ (Nat.le_of_ble_eq_true rfl) rfl rfl rfl dX12_isCaravan_9 ?_
  obtain ⟨v3, h4, E⟩ := bnd E
  obtain ⟨h4a, h4b⟩ := gd h4
  subst h4b
  obtain rfl := Option.some.inj E
  exact v_zret C rfl (by simp [narrow, h4a]) dX12_isCaravan_12
set_option maxHeartbeats 4000000 in
theorem c_X12_isCaravan {n : Nat} {K : Sh} {I : Im} {J : Jm} {R : Rf} {o : Nat} {x1 : Int32} (ho : (K o).1 = 13) {res : Int32} (E : f_X12_isCaravan K I o x1 = some res) : Met l yX12_isCaravan (Cond.code yX12_isCaravan cX12_isCaravan 2 (some .boolean) :: tb) rX12_isCaravan (PX D cA bs Z [.ref o, .int x1] K n I J R) (QX D cA bs Z (some (.int res)) K n I J R) 0 0 (fun q => bs ≤ q) := by
  refine met_of (lv1 := [(0, va_rf (some o)), (1, .int x1)]) pn_X12 (by exact Nat.le_of_ble_eq_true rfl) (by rfl) ?_
  intro p e s m args below meth c C hn
  exact v_sub [0, 1] [(0, va_rf (some o)), (1, .int x1)] rfl (w_X12_isCaravan_0 C ho _ _ E)
set_option maxHeartbeats 4000000 in
theorem w_X12_rule_0 (C : Cx D cA bs Z p s m args meth c cX12_rule RX12 3 (some .int)) {o : Nat} {K : Sh} {n : Nat} {J : Jm} {R : Rf} (ho : (K o).1 = 13) (res : Int32 × Im) (x1 : Int32) (x2 : Int32) (I : Im) (E : f_X12_rule K R o x1 x2 I = some res) : VW D cA bs Z p l e rX12_rule s m args below meth c 3 [(0, va_rf (some o)), (1, .int x1), (2, .int x2)] K n I J R 0 0 (MQ below (QX D cA bs Z (some (.int res.1)) K n res.2 J R) args s 0 0 (fun q => bs ≤ q)) 0 [] := by
  unfold f_X12_rule at E
  refine v_aload_n (r := (some o)) C 0 dX12_rule_0 rfl ?_
  refine v_iload_n C 1 dX12_rule_1 rfl ?_
  refine v_iconst C dX12_rule_2 k_iconst_0 ?_
  refine v_bipush C dX12_rule_3 k_bipush_6 ?_
  obtain ⟨q1, h2, E⟩ := bnd E
  refine v_callV (r := (some o)) (As := [.int x1, .int 0, .int 6]) (rv := (some (.int q1))) (st := []) (st1 := [.int q1]) (ce1 := 0) (sl1 := 0) C cv_X12_233 (c_X12_in (x1 := x1) (x2 := 0) (x3 := 6) ho h2) rfl ho rfl rfl ⟨rfl, rfl, Nat.le_of_ble_eq_true rfl, Nat.le_of_ble_eq_true rfl⟩ ⟨Nat.le_of_ble_eq_true rfl, Nat.le_of_ble_eq_true rfl⟩ (Nat.le_of_ble_eq_true rfl) rfl rfl rfl dX12_rule_5 ?_
  refine v_if_ne C 13 E dX12_rule_8 rfl (fun c11 E => ?_) (fun c11 E => ?_)
  · refine v_iconst C dX12_rule_11 k_iconst_m1 ?_
    obtain rfl := Option.some.inj E
    exact v_iret C rfl dX12_rule_12
  · refine v_aload_n (r := (some o)) C 0 dX12_rule_13 rfl ?_
    refine v_iload_n C 2 dX12_rule_14 rfl ?_
    refine v_iconst C dX12_rule_15 k_iconst_0 ?_
    refine v_bipush C dX12_rule_16 k_bipush_6 ?_
    obtain ⟨q3, h4, E⟩ := bnd E
    refine v_callV (r := (some o)) (As := [.int x2, .int 0, .int 6]) (rv := (some (.int q3))) (st := []) (st1 := [.int q3]) (ce1 := 0) (sl1 := 0) C cv_X12_233 (c_X12_in (x1 := x2) (x2 := 0) (x3 := 6) ho h4) rfl ho rfl rfl ⟨rfl, rfl, Nat.le_of_ble_eq_true rfl, Nat.le_of_ble_eq_true rfl⟩ ⟨Nat.le_of_ble_eq_true rfl, Nat.le_of_ble_eq_true rfl⟩ (Nat.le_of_ble_eq_true rfl) rfl rfl rfl dX12_rule_18 ?_
    refine v_if_ne C 27 E dX12_rule_21 rfl (fun c10 E => ?_) (fun c10 E => ?_)
    · refine v_bipush C dX12_rule_24 k_bipush_m2 ?_
      obtain rfl := Option.some.inj E
      exact v_iret C rfl dX12_rule_26
    · refine v_aload_n (r := (some o)) C 0 dX12_rule_27 rfl ?_
      refine v_getI (r := (some o)) C fa_X12_93 rfl rfl ho dX12_rule_28 ?_
      refine v_bipush C dX12_rule_31 k_bipush_10 ?_
      refine v_icmp_ne C 39 E dX12_rule_33 rfl (fun c9 E => ?_) (fun c9 E => ?_)
      · refine v_bipush C dX12_rule_36 k_bipush_m4 ?_
        obtain rfl := Option.some.inj E
        exact v_iret C rfl dX12_rule_38
      · refine v_aload_n (r := (some o)) C 0 dX12_rule_39 rfl ?_
        refine v_getR (r := (some o)) C fa_X12_102 rfl rfl ho dX12_rule_40 ?_
        refine v_aload_n (r := (some o)) C 0 dX12_rule_43 rfl ?_
        refine v_getI (r := (some o)) C fa_X12_93 rfl rfl ho dX12_rule_44 ?_
        refine v_iload_n C 1 dX12_rule_47 rfl ?_
        refine v_iast (r := (R o 30)) C E dX12_rule_48 (fun I5 _ E => ?_)
        refine v_aload_n (r := (some o)) C 0 dX12_rule_49 rfl ?_
        refine v_getR (r := (some o)) C fa_X12_105 rfl rfl ho dX12_rule_50 ?_
        refine v_aload_n (r := (some o)) C 0 dX12_rule_53 rfl ?_
        refine v_getI (r := (some o)) C fa_X12_93 rfl rfl ho dX12_rule_54 ?_
        refine v_iload_n C 2 dX12_rule_57 rfl ?_
        refine v_iast (r := (R o 31)) C E dX12_rule_58 (fun I6 _ E => ?_)
        refine v_aload_n (r := (some o)) C 0 dX12_rule_59 rfl ?_
        refine v_getR (r := (some o)) C fa_X12_108 rfl rfl ho dX12_rule_60 ?_
        refine v_aload_n (r := (some o)) C 0 dX12_rule_63 rfl ?_
        refine v_getI (r := (some o)) C fa_X12_93 rfl rfl ho dX12_rule_64 ?_
        refine v_iconst C dX12_rule_67 k_iconst_0 ?_
        refine v_iast (r := (R o 32)) C E dX12_rule_68 (fun I7 _ E => ?_)
        refine v_aload_n (r := (some o)) C 0 dX12_rule_69 rfl ?_
        refine v_dup C dX12_rule_70 (rf_cat _) ?_
        refine v_getI (r := (some o)) C fa_X12_93 rfl rfl ho dX12_rule_71 ?_
        refine v_iconst C dX12_rule_74 k_iconst_1 ?_
        refine v_iadd C dX12_rule_75 ?_
        refine v_putI (r := (some o)) C fa_X12_93 rfl E rfl ho ⟨rfl, rfl⟩ dX12_rule_76 (fun I8 _ E => ?_)
        refine v_aload_n (r := (some o)) C 0 dX12_rule_79 rfl ?_
        refine v_getI (r := (some o)) C fa_X12_93 rfl rfl ho dX12_rule_80 ?_
        refine v_iconst C dX12_rule_83 k_iconst_1 ?_
        refine v_isub C dX12_rule_84 ?_
        obtain rfl := Option.some.inj E
        exact v_iret C rfl dX12_rule_85
set_option maxHeartbeats 4000000 in
theorem c_X12_rule {n : Nat} {K : Sh} {I : Im} {J : Jm} {R : Rf} {o : Nat} {x1 : Int32} {x2 : Int32} (ho : (K o).1 = 13) {res : Int32 × Im} (E : f_X12_rule K R o x1 x2 I = some res) : Met l yX12_rule (Cond.code yX12_rule cX12_rule 3 (some .int) :: tb) rX12_rule (PX D cA bs Z [.ref o, .int x1, .int x2] K n I J R) (QX D cA bs Z (some (.int res.1)) K n res.2 J R) 0 0 (fun q => bs ≤ q) := by
  refine met_of (lv1 := [(0, va_rf (some o)), (1, .int x1), (2, .int x2)]) pn_X12 (by exact Nat.le_of_ble_eq_true rfl) (by rfl) ?_
  intro p e s m args below meth c C hn
  exact v_sub [0, 1, 2] [(0, va_rf (some o)), (1, .int x1), (2, .int x2)] rfl (w_X12_rule_0 C ho _ _ _ _ E)
set_option maxHeartbeats 4000000 in
theorem w_X12_row_0 (C : Cx D cA bs Z p s m args meth c cX12_row RX12 3 (some .int)) {o : Nat} {K : Sh} {n : Nat} {J : Jm} {R : Rf} (ho : (K o).1 = 13) (res : Int32 × Im) (x1 : Int32) (x2 : Int32) (I : Im) (E : f_X12_row K R o x1 x2 I = some res) : VW D cA bs Z p l e rX12_row s m args below meth c 3 [(0, va_rf (some o)), (1, .int x1), (2, .int x2)] K n I J R 0 0 (MQ below (QX D cA bs Z (some (.int res.1)) K n res.2 J R) args s 0 0 (fun q => bs ≤ q)) 0 [] := by
  unfold f_X12_row at E
  refine v_aload_n (r := (some o)) C 0 dX12_row_0 rfl ?_
  refine v_iload_n C 1 dX12_row_1 rfl ?_
  obtain ⟨q1, h2, E⟩ := bnd E
  refine v_callV (r := (some o)) (As := [.int x1]) (rv := (some (.int q1))) (st := []) (st1 := [.int q1]) (ce1 := 0) (sl1 := 0) C cv_X12_329 (c_X12_isRule (x1 := x1) ho h2) rfl ho rfl rfl ⟨rfl, rfl, Nat.le_of_ble_eq_true rfl, Nat.le_of_ble_eq_true rfl⟩ ⟨Nat.le_of_ble_eq_true rfl, Nat.le_of_ble_eq_true rfl⟩ (Nat.le_of_ble_eq_true rfl) rfl rfl rfl dX12_row_2 ?_
  refine v_if_ne C 10 E dX12_row_5 rfl (fun c15 E => ?_) (fun c15 E => ?_)
  · refine v_iconst C dX12_row_8 k_iconst_m1 ?_
    obtain rfl := Option.some.inj E
    exact v_iret C rfl dX12_row_9
  · refine v_aload_n (r := (some o)) C 0 dX12_row_10 rfl ?_
    refine v_iload_n C 2 dX12_row_11 rfl ?_
    refine v_iconst C dX12_row_12 k_iconst_0 ?_
    refine v_bipush C dX12_row_13 k_bipush_6 ?_
    obtain ⟨q3, h4, E⟩ := bnd E
    refine v_callV (r := (some o)) (As := [.int x2, .int 0, .int 6]) (rv := (some (.int q3))) (st := []) (st1 := [.int q3]) (ce1 := 0) (sl1 := 0) C cv_X12_233 (c_X12_in (x1 := x2) (x2 := 0) (x3 := 6) ho h4) rfl ho rfl rfl ⟨rfl, rfl, Nat.le_of_ble_eq_true rfl, Nat.le_of_ble_eq_true rfl⟩ ⟨Nat.le_of_ble_eq_true rfl, Nat.le_of_ble_eq_true rfl⟩ (Nat.le_of_ble_eq_true rfl) rfl rfl rfl dX12_row_15 ?_
    refine v_if_ne C 24 E dX12_row_18 rfl (fun c14 E => ?_) (fun c14 E => ?_)
    · refine v_bipush C dX12_row_21 k_bipush_m2 ?_
      obtain rfl := Option.some.inj E
      exact v_iret C rfl dX12_row_23
    · refine v_aload_n (r := (some o)) C 0 dX12_row_24 rfl ?_
      refine v_getR (r := (some o)) C fa_X12_102 rfl rfl ho dX12_row_25 ?_
      refine v_iload_n C 1 dX12_row_28 rfl ?_
      refine v_iald (r := (R o 30)) C E dX12_row_29 (fun v5 _ E => ?_)
      refine v_iconst C dX12_row_30 k_iconst_3 ?_
      refine v_icmp_eq C 37 E dX12_row_31 rfl (fun c13 E => ?_) (fun c13 E => ?_)
      · refine v_aload_n (r := (some o)) C 0 dX12_row_37 rfl ?_
        refine v_getR (r := (some o)) C fa_X12_108 rfl rfl ho dX12_row_38 ?_
        refine v_iload_n C 1 dX12_row_41 rfl ?_
        refine v_iald (r := (R o 32)) C E dX12_row_42 (fun v6 _ E => ?_)
        refine v_iconst C dX12_row_43 k_iconst_5 ?_
        refine v_icmp_ne C 50 E dX12_row_44 rfl (fun c12 E => ?_) (fun c12 E => ?_)
        · refine v_bipush C dX12_row_47 k_bipush_m4 ?_
          obtain rfl := Option.some.inj E
          exact v_iret C rfl dX12_row_49
        · refine v_aload_n (r := (some o)) C 0 dX12_row_50 rfl ?_
          refine v_getR (r := (some o)) C fa_X12_111 rfl rfl ho dX12_row_51 ?_
          refine v_iconst C dX12_row_54 k_iconst_5 ?_
          refine v_iload_n C 1 dX12_row_55 rfl ?_
          refine v_imul C dX12_row_56 ?_
          refine v_aload_n (r := (some o)) C 0 dX12_row_57 rfl ?_
          refine v_getR (r := (some o)) C fa_X12_108 rfl rfl ho dX12_row_58 ?_
          refine v_iload_n C 1 dX12_row_61 rfl ?_
          refine v_iald (r := (R o 32)) C E dX12_row_62 (fun v7 _ E => ?_)
          refine v_iadd C dX12_row_63 ?_
          refine v_iload_n C 2 dX12_row_64 rfl ?_
          refine v_iast (r := (R o 33)) C E dX12_row_65 (fun I8 _ E => ?_)
          refine v_aload_n (r := (some o)) C 0 dX12_row_66 rfl ?_
          refine v_getR (r := (some o)) C fa_X12_108 rfl rfl ho dX12_row_67 ?_
          refine v_iload_n C 1 dX12_row_70 rfl ?_
          refine v_dup2 C dX12_row_71 rfl (rf_cat _) ?_
          refine v_iald (r := (R o 32)) C E dX12_row_72 (fun v9 _ E => ?_)
          refine v_iconst C dX12_row_73 k_iconst_1 ?_
          refine v_iadd C dX12_row_74 ?_
          refine v_iast (r := (R o 32)) C E dX12_row_75 (fun I10 _ E => ?_)
          refine v_aload_n (r := (some o)) C 0 dX12_row_76 rfl ?_
          refine v_getR (r := (some o)) C fa_X12_108 rfl rfl ho dX12_row_77 ?_
          refine v_iload_n C 1 dX12_row_80 rfl ?_
          refine v_iald (r := (R o 32)) C E dX12_row_81 (fun v11 _ E => ?_)
          obtain rfl := Option.some.inj E
          exact v_iret C rfl dX12_row_82
      · refine v_bipush C dX12_row_34 k_bipush_m3 ?_
        obtain rfl := Option.some.inj E
        exact v_iret C rfl dX12_row_36
set_option maxHeartbeats 4000000 in
theorem c_X12_row {n : Nat} {K : Sh} {I : Im} {J : Jm} {R : Rf} {o : Nat} {x1 : Int32} {x2 : Int32} (ho : (K o).1 = 13) {res : Int32 × Im} (E : f_X12_row K R o x1 x2 I = some res) : Met l yX12_row (Cond.code yX12_row cX12_row 3 (some .int) :: tb) rX12_row (PX D cA bs Z [.ref o, .int x1, .int x2] K n I J R) (QX D cA bs Z (some (.int res.1)) K n res.2 J R) 0 0 (fun q => bs ≤ q) := by
  refine met_of (lv1 := [(0, va_rf (some o)), (1, .int x1), (2, .int x2)]) pn_X12 (by exact Nat.le_of_ble_eq_true rfl) (by rfl) ?_
  intro p e s m args below meth c C hn
  exact v_sub [0, 1, 2] [(0, va_rf (some o)), (1, .int x1), (2, .int x2)] rfl (w_X12_row_0 C ho _ _ _ _ E)
set_option maxHeartbeats 4000000 in
theorem w_X12_caravan_0 (C : Cx D cA bs Z p s m args meth c cX12_caravan RX12 4 (some .int)) {o : Nat} {K : Sh} {n : Nat} {J : Jm} {R : Rf} (ho : (K o).1 = 13) (res : Int32 × Im) (x1 : Int32) (x2 : Int32) (x3 : Int32) (I : Im) (E : f_X12_caravan K R o x1 x2 x3 I = some res) : VW D cA bs Z p l e rX12_caravan s m args below meth c 4 [(0, va_rf (some o)), (1, .int x1), (2, .int x2), (3, .int x3)] K n I J R 0 0 (MQ below (QX D cA bs Z (some (.int res.1)) K n res.2 J R) args s 0 0 (fun q => bs ≤ q)) 0 [] := by
  unfold f_X12_caravan at E
  refine v_aload_n (r := (some o)) C 0 dX12_caravan_0 rfl ?_
  refine v_iload_n C 3 dX12_caravan_1 rfl ?_
  obtain ⟨q1, h2, E⟩ := bnd E
  refine v_callV (r := (some o)) (As := [.int x3]) (rv := (some (.int q1))) (st := []) (st1 := [.int q1]) (ce1 := 0) (sl1 := 0) C cv_X12_329 (c_X12_isRule (x1 := x3) ho h2) rfl ho rfl rfl ⟨rfl, rfl, Nat.le_of_ble_eq_true rfl, Nat.le_of_ble_eq_true rfl⟩ ⟨Nat.le_of_ble_eq_true rfl, Nat.le_of_ble_eq_true rfl⟩ (Nat.le_of_ble_eq_true rfl) rfl rfl rfl dX12_caravan_2 ?_
  refine v_if_ne C 10 E dX12_caravan_5 rfl (fun c14 E => ?_) (fun c14 E => ?_)
  · refine v_iconst C dX12_caravan_8 k_iconst_m1 ?_
    obtain rfl := Option.some.inj E
    exact v_iret C rfl dX12_caravan_9
  · refine v_aload_n (r := (some o)) C 0 dX12_caravan_10 rfl ?_
    refine v_iload_n C 1 dX12_caravan_11 rfl ?_
    refine v_iconst C dX12_caravan_12 k_iconst_1 ?_
    refine v_bipush C dX12_caravan_13 k_bipush_9 ?_
    obtain ⟨q3, h4, E⟩ := bnd E
    refine v_callV (r := (some o)) (As := [.int x1, .int 1, .int 9]) (rv := (some (.int q3))) (st := []) (st1 := [.int q3]) (ce1 := 0) (sl1 := 0) C cv_X12_233 (c_X12_in (x1 := x1) (x2 := 1) (x3 := 9) ho h4) rfl ho rfl rfl ⟨rfl, rfl, Nat.le_of_ble_eq_true rfl, Nat.le_of_ble_eq_true rfl⟩ ⟨Nat.le_of_ble_eq_true rfl, Nat.le_of_ble_eq_true rfl⟩ (Nat.le_of_ble_eq_true rfl) rfl rfl rfl dX12_caravan_15 ?_
    refine v_if_eq C 32 E dX12_caravan_18 rfl (fun c13 E => ?_) (fun c13 E => ?_)
    · refine v_bipush C dX12_caravan_32 k_bipush_m2 ?_
      obtain rfl := Option.some.inj E
      exact v_iret C rfl dX12_caravan_34
    · refine v_aload_n (r := (some o)) C 0 dX12_caravan_21 rfl ?_
      refine v_iload_n C 2 dX12_caravan_22 rfl ?_
      refine v_iconst C dX12_caravan_23 k_iconst_0 ?_
      refine v_bipush C dX12_caravan_24 k_bipush_99 ?_
      obtain ⟨q5, h6, E⟩ := bnd E
      refine v_callV (r := (some o)) (As := [.int x2, .int 0, .int 99]) (rv := (some (.int q5))) (st := []) (st1 := [.int q5]) (ce1 := 0) (sl1 := 0) C cv_X12_233 (c_X12_in (x1 := x2) (x2 := 0) (x3 := 99) ho h6) rfl ho rfl rfl ⟨rfl, rfl, Nat.le_of_ble_eq_true rfl, Nat.le_of_ble_eq_true rfl⟩ ⟨Nat.le_of_ble_eq_true rfl, Nat.le_of_ble_eq_true rfl⟩ (Nat.le_of_ble_eq_true rfl) rfl rfl rfl dX12_caravan_26 ?_
      refine v_if_ne C 35 E dX12_caravan_29 rfl (fun c12 E => ?_) (fun c12 E => ?_)
      · refine v_bipush C dX12_caravan_32 k_bipush_m2 ?_
        obtain rfl := Option.some.inj E
        exact v_iret C rfl dX12_caravan_34
      · refine v_aload_n (r := (some o)) C 0 dX12_caravan_35 rfl ?_
        refine v_getI (r := (some o)) C fa_X12_96 rfl rfl ho dX12_caravan_36 ?_
        refine v_bipush C dX12_caravan_39 k_bipush_6 ?_
        refine v_icmp_ne C 47 E dX12_caravan_41 rfl (fun c11 E => ?_) (fun c11 E => ?_)
        · refine v_bipush C dX12_caravan_44 k_bipush_m4 ?_
          obtain rfl := Option.some.inj E
          exact v_iret C rfl dX12_caravan_46
        · refine v_aload_n (r := (some o)) C 0 dX12_caravan_47 rfl ?_
          refine v_getR (r := (some o)) C fa_X12_114 rfl rfl ho dX12_caravan_48 ?_
          refine v_aload_n (r := (some o)) C 0 dX12_caravan_51 rfl ?_
          refine v_getI (r := (some o)) C fa_X12_96 rfl rfl ho dX12_caravan_52 ?_
          refine v_iload_n C 1 dX12_caravan_55 rfl ?_
          refine v_iast (r := (R o 34)) C E dX12_caravan_56 (fun I7 _ E => ?_)
          refine v_aload_n (r := (some o)) C 0 dX12_caravan_57 rfl ?_
          refine v_getR (r := (some o)) C fa_X12_117 rfl rfl ho dX12_caravan_58 ?_
          refine v_aload_n (r := (some o)) C 0 dX12_caravan_61 rfl ?_
          refine v_getI (r := (some o)) C fa_X12_96 rfl rfl ho dX12_caravan_62 ?_
          refine v_iload_n C 2 dX12_caravan_65 rfl ?_
          refine v_iast (r := (R o 35)) C E dX12_caravan_66 (fun I8 _ E => ?_)
          refine v_aload_n (r := (some o)) C 0 dX12_caravan_67 rfl ?_
          refine v_getR (r := (some o)) C fa_X12_120 rfl rfl ho dX12_caravan_68 ?_
          refine v_aload_n (r := (some o)) C 0 dX12_caravan_71 rfl ?_
          refine v_getI (r := (some o)) C fa_X12_96 rfl rfl ho dX12_caravan_72 ?_
          refine v_iload_n C 3 dX12_caravan_75 rfl ?_
          refine v_iast (r := (R o 36)) C E dX12_caravan_76 (fun I9 _ E => ?_)
          refine v_aload_n (r := (some o)) C 0 dX12_caravan_77 rfl ?_
          refine v_dup C dX12_caravan_78 (rf_cat _) ?_
          refine v_getI (r := (some o)) C fa_X12_96 rfl rfl ho dX12_caravan_79 ?_
          refine v_iconst C dX12_caravan_82 k_iconst_1 ?_
          refine v_iadd C dX12_caravan_83 ?_
          refine v_putI (r := (some o)) C fa_X12_96 rfl E rfl ho ⟨rfl, rfl⟩ dX12_caravan_84 (fun I10 _ E => ?_)
          refine v_aload_n (r := (some o)) C 0 dX12_caravan_87 rfl ?_
          refine v_getI (r := (some o)) C fa_X12_96 rfl rfl ho dX12_caravan_88 ?_
          refine v_iconst C dX12_caravan_91 k_iconst_1 ?_
          refine v_isub C dX12_caravan_92 ?_
          obtain rfl := Option.some.inj E
          exact v_iret C rfl dX12_caravan_93
set_option maxHeartbeats 4000000 in
theorem c_X12_caravan {n : Nat} {K : Sh} {I : Im} {J : Jm} {R : Rf} {o : Nat} {x1 : Int32} {x2 : Int32} {x3 : Int32} (ho : (K o).1 = 13) {res : Int32 × Im} (E : f_X12_caravan K R o x1 x2 x3 I = some res) : Met l yX12_caravan (Cond.code yX12_caravan cX12_caravan 4 (some .int) :: tb) rX12_caravan (PX D cA bs Z [.ref o, .int x1, .int x2, .int x3] K n I J R) (QX D cA bs Z (some (.int res.1)) K n res.2 J R) 0 0 (fun q => bs ≤ q) := by
  refine met_of (lv1 := [(0, va_rf (some o)), (1, .int x1), (2, .int x2), (3, .int x3)]) pn_X12 (by exact Nat.le_of_ble_eq_true rfl) (by rfl) ?_
  intro p e s m args below meth c C hn
  exact v_sub [0, 1, 2, 3] [(0, va_rf (some o)), (1, .int x1), (2, .int x2), (3, .int x3)] rfl (w_X12_caravan_0 C ho _ _ _ _ _ E)
set_option maxHeartbeats 4000000 in
theorem w_X12_hand_0 (C : Cx D cA bs Z p s m args meth c cX12_hand RX12 2 (some .int)) {o : Nat} {K : Sh} {n : Nat} {J : Jm} {R : Rf} (ho : (K o).1 = 13) (res : Int32 × Im) (x1 : Int32) (I : Im) (E : f_X12_hand K R o x1 I = some res) : VW D cA bs Z p l e rX12_hand s m args below meth c 2 [(0, va_rf (some o)), (1, .int x1)] K n I J R 0 0 (MQ below (QX D cA bs Z (some (.int res.1)) K n res.2 J R) args s 0 0 (fun q => bs ≤ q)) 0 [] := by
  unfold f_X12_hand at E
  refine v_iload_n C 1 dX12_hand_0 rfl ?_
  refine v_iconst C dX12_hand_1 k_iconst_m1 ?_
  refine v_icmp_ne C 12 E dX12_hand_2 rfl (fun c8 E => ?_) (fun c8 E => ?_)
  · refine v_aload_n (r := (some o)) C 0 dX12_hand_5 rfl ?_
    refine v_iconst C dX12_hand_6 k_iconst_0 ?_
    refine v_putI (r := (some o)) C fa_X12_99 rfl E rfl ho ⟨rfl, rfl⟩ dX12_hand_7 (fun I7 _ E => ?_)
    refine v_iconst C dX12_hand_10 k_iconst_0 ?_
    obtain rfl := Option.some.inj E
    exact v_iret C rfl dX12_hand_11
  · refine v_aload_n (r := (some o)) C 0 dX12_hand_12 rfl ?_
    refine v_iload_n C 1 dX12_hand_13 rfl ?_
    refine v_iconst C dX12_hand_14 k_iconst_0 ?_
    refine v_bipush C dX12_hand_15 k_bipush_6 ?_
    obtain ⟨q1, h2, E⟩ := bnd E
    refine v_callV (r := (some o)) (As := [.int x1, .int 0, .int 6]) (rv := (some (.int q1))) (st := []) (st1 := [.int q1]) (ce1 := 0) (sl1 := 0) C cv_X12_233 (c_X12_in (x1 := x1) (x2 := 0) (x3 := 6) ho h2) rfl ho rfl rfl ⟨rfl, rfl, Nat.le_of_ble_eq_true rfl, Nat.le_of_ble_eq_true rfl⟩ ⟨Nat.le_of_ble_eq_true rfl, Nat.le_of_ble_eq_true rfl⟩ (Nat.le_of_ble_eq_true rfl) rfl rfl rfl dX12_hand_17 ?_
    refine v_if_ne C 26 E dX12_hand_20 rfl (fun c6 E => ?_) (fun c6 E => ?_)
    · refine v_bipush C dX12_hand_23 k_bipush_m2 ?_
      obtain rfl := Option.some.inj E
      exact v_iret C rfl dX12_hand_25
    · refine v_aload_n (r := (some o)) C 0 dX12_hand_26 rfl ?_
      refine v_getI (r := (some o)) C fa_X12_99 rfl rfl ho dX12_hand_27 ?_
      refine v_iconst C dX12_hand_30 k_iconst_5 ?_
      refine v_icmp_ne C 37 E dX12_hand_31 rfl (fun c5 E => ?_) (fun c5 E => ?_)
      · refine v_bipush C dX12_hand_34 k_bipush_m4 ?_
        obtain rfl := Option.some.inj E
        exact v_iret C rfl dX12_hand_36
      · refine v_aload_n (r := (some o)) C 0 dX12_hand_37 rfl ?_
        refine v_getR (r := (some o)) C fa_X12_123 rfl rfl ho dX12_hand_38 ?_
        refine v_aload_n (r := (some o)) C 0 dX12_hand_41 rfl ?_
        refine v_getI (r := (some o)) C fa_X12_99 rfl rfl ho dX12_hand_42 ?_
        refine v_iload_n C 1 dX12_hand_45 rfl ?_
        refine v_iast (r := (R o 37)) C E dX12_hand_46 (fun I3 _ E => ?_)
        refine v_aload_n (r := (some o)) C 0 dX12_hand_47 rfl ?_
        refine v_dup C dX12_hand_48 (rf_cat _) ?_
        refine v_getI (r := (some o)) C fa_X12_99 rfl rfl ho dX12_hand_49 ?_
        refine v_iconst C dX12_hand_52 k_iconst_1 ?_
        refine v_iadd C dX12_hand_53 ?_
        refine v_putI (r := (some o)) C fa_X12_99 rfl E rfl ho ⟨rfl, rfl⟩ dX12_hand_54 (fun I4 _ E => ?_)
        refine v_aload_n (r := (some o)) C 0 dX12_hand_57 rfl ?_
        refine v_getI (r := (some o)) C fa_X12_99 rfl rfl ho dX12_hand_58 ?_
        obtain rfl := Option.some.inj E
        exact v_iret C rfl dX12_hand_61
set_option maxHeartbeats 4000000 in
theorem c_X12_hand {n : Nat} {K : Sh} {I : Im} {J : Jm} {R : Rf} {o : Nat} {x1 : Int32} (ho : (K o).1 = 13) {res : Int32 × Im} (E : f_X12_hand K R o x1 I = some res) : Met l yX12_hand (Cond.code yX12_hand cX12_hand 2 (some .int) :: tb) rX12_hand (PX D cA bs Z [.ref o, .int x1] K n I J R) (QX D cA bs Z (some (.int res.1)) K n res.2 J R) 0 0 (fun q => bs ≤ q) := by
  refine met_of (lv1 := [(0, va_rf (some o)), (1, .int x1)]) pn_X12 (by exact Nat.le_of_ble_eq_true rfl) (by rfl) ?_
  intro p e s m args below meth c C hn
  exact v_sub [0, 1] [(0, va_rf (some o)), (1, .int x1)] rfl (w_X12_hand_0 C ho _ _ _ E)
set_option maxHeartbeats 4000000 in
theorem w_X12_layThirst_12 (C : Cx D cA bs Z p s m args meth c cX12_layThirst RX12 4 none) {o : Nat} {K : Sh} {n : Nat} {J : Jm} {R : Rf} (ho : (K o).1 = 13) (res : Im) (r2 : Int32 → Int32 → Im → Option (Im)) (hr2 : ∀ (x1 : Int32) (x2 : Int32) (I : Im), r2 x1 x2 I = some res → VW D cA bs Z p l e rX12_layThirst s m args below meth c 4 [(0, va_rf (some o)), (1, .int x1), (2, .int x2)] K n I J R 0 0 (MQ below (QX D cA bs Z none K n res J R) args s 0 0 (fun q => bs ≤ q)) 2 [])  : ∀ (k : Nat), ∀ (x1 : Int32) (x2 : Int32) (x3 : Int32) (I : Im), f_X12_layThirst_12 K R o r2 k x1 x2 x3 I = some res → VW D cA bs Z p l e rX12_layThirst s m args below meth c 4 [(0, va_rf (some o)), (1, .int x1), (2, .int x2), (3, .int x3)] K n I J R 0 0 (MQ below (QX D cA bs Z none K n res J R) args s 0 0 (fun q => bs ≤ q)) 12 [] := by
  intro k
  induction k with
  | zero =>
    intro x1 x2 x3 I E
    have E : (none : Option (Im)) = some res := E
    cases E
  | succ k ih =>
    intro x1 x2 x3 I E
    unfold f_X12_layThirst_12 at E
    refine v_iload_n C 3 dX12_layThirst_12 rfl ?_
    refine v_bipush C dX12_layThirst_13 k_bipush_24 ?_
    refine v_icmp_ge C 44 E dX12_layThirst_15 rfl (fun c4 E => ?_) (fun c4 E => ?_)
    · refine v_iinc (v := x2 + 1) C 2 [(2, .int (x2 + 1)), (0, va_rf (some o)), (1, .int x1), (3, .int x3)] dX12_layThirst_44 rfl (k_inc_1 _) (Nat.le_of_ble_eq_true rfl) rfl ?_
      refine v_goto C 2 dX12_layThirst_47 rfl ?_
      exact v_sub [1, 2, 0] [(0, va_rf (some o)), (1, .int x1), (2, .int (x2 + 1))] rfl (hr2 _ _ _ E)
    · refine v_aload_n (r := (some o)) C 0 dX12_layThirst_18 rfl ?_
      refine v_getR (r := (some o)) C fa_X12_126 rfl rfl ho dX12_layThirst_19 ?_
      refine v_bipush C dX12_layThirst_22 k_bipush_24 ?_
      refine v_iload_n C 2 dX12_layThirst_24 rfl ?_
      refine v_imul C dX12_layThirst_25 ?_
      refine v_iload_n C 3 dX12_layThirst_26 rfl ?_
      refine v_iadd C dX12_layThirst_27 ?_
      refine v_iload_n C 1 dX12_layThirst_28 rfl ?_
      refine v_aload_n (r := (some o)) C 0 dX12_layThirst_29 rfl ?_
      refine v_iload_n C 2 dX12_layThirst_30 rfl ?_
      refine v_iload_n C 3 dX12_layThirst_31 rfl ?_
      refine v_iload_n C 1 dX12_layThirst_32 rfl ?_
      obtain ⟨q1, h2, E⟩ := bnd E
      refine v_callV (r := (some o)) (As := [.int x2, .int x3, .int x1]) (rv := (some (.int q1.1))) (st := [.int x1, .int ((24 * x2) + x3), va_rf (R o 38)]) (st1 := [.int q1.1, .int x1, .int ((24 * x2) + x3), va_rf (R o 38)]) (ce1 := 0) (sl1 := 0) C cv_X12_325 (c_X12_drinksOf (x1 := x2) (x2 := x3) (x3 := x1) ho h2) rfl ho rfl rfl ⟨rfl, rfl, Nat.le_of_ble_eq_true rfl, Nat.le_of_ble_eq_true rfl⟩ ⟨Nat.le_of_ble_eq_true rfl, Nat.le_of_ble_eq_true rfl⟩ (by simp only [List.map_cons, List.map_nil, List.sum_cons, List.sum_nil, rf_cat]; exact Nat.le_of_ble_eq_true rfl) rfl rfl rfl dX12_layThirst_33 ?_
      refine v_imul C dX12_layThirst_36 ?_
      refine v_iast (r := (R o 38)) C E dX12_layThirst_37 (fun I3 _ E => ?_)
      refine v_iinc (v := x3 + 1) C 3 [(3, .int (x3 + 1)), (0, va_rf (some o)), (1, .int x1), (2, .int x2)] dX12_layThirst_38 rfl (k_inc_1 _) (Nat.le_of_ble_eq_true rfl) rfl ?_
      refine v_goto C 12 dX12_layThirst_41 rfl ?_
      exact v_sub [1, 2, 3, 0] [(0, va_rf (some o)), (1, .int x1), (2, .int x2), (3, .int (x3 + 1))] rfl (ih _ _ _ _ E)
set_option maxHeartbeats 4000000 in
theorem w_X12_layThirst_2 (C : Cx D cA bs Z p s m args meth c cX12_layThirst RX12 4 none) {o : Nat} {K : Sh} {n : Nat} {J : Jm} {R : Rf} (ho : (K o).1 = 13) (res : Im)  : ∀ (k : Nat), ∀ (x1 : Int32) (x2 : Int32) (I : Im), f_X12_layThirst_2 K R o k x1 x2 I = some res → VW D cA bs Z p l e rX12_layThirst s m args below meth c 4 [(0, va_rf (some o)), (1, .int x1), (2, .int x2)] K n I J R 0 0 (MQ below (QX D cA bs Z none K n res J R) args s 0 0 (fun q => bs ≤ q)) 2 [] := by
  intro k
  induction k with
  | zero =>
    intro x1 x2 I E
    have E : (none : Option (Im)) = some res := E
    cases E
  | succ k ih =>
    intro x1 x2 I E
    unfold f_X12_layThirst_2 at E
    refine v_iload_n C 2 dX12_layThirst_2 rfl ?_
    refine v_aload_n (r := (some o)) C 0 dX12_layThirst_3 rfl ?_
    refine v_getI (r := (some o)) C fa_X12_75 rfl rfl ho dX12_layThirst_4 ?_
    refine v_icmp_gt C 50 E dX12_layThirst_7 rfl (fun c11 E => ?_) (fun c11 E => ?_)
    · refine v_aload_n (r := (some o)) C 0 dX12_layThirst_50 rfl ?_
      refine v_iload_n C 1 dX12_layThirst_51 rfl ?_
      refine v_aload_n (r := (some o)) C 0 dX12_layThirst_52 rfl ?_
      refine v_iconst C dX12_layThirst_53 k_iconst_5 ?_
      refine v_iconst C dX12_layThirst_54 k_iconst_0 ?_
      obtain ⟨q5, h6, E⟩ := bnd E
      refine v_callV (r := (some o)) (As := [.int 5, .int 0]) (rv := (some (.int q5))) (st := [.int x1, va_rf (some o)]) (st1 := [.int q5, .int x1, va_rf (some o)]) (ce1 := 0) (sl1 := 0) C cv_X12_316 (c_X12_last (x1 := 5) (x2 := 0) ho h6) rfl ho rfl rfl ⟨rfl, rfl, Nat.le_of_ble_eq_true rfl, Nat.le_of_ble_eq_true rfl⟩ ⟨Nat.le_of_ble_eq_true rfl, Nat.le_of_ble_eq_true rfl⟩ (by simp only [List.map_cons, List.map_nil, List.sum_cons, List.sum_nil, rf_cat]; exact Nat.le_of_ble_eq_true rfl) rfl rfl rfl dX12_layThirst_55 ?_
      refine v_imul C dX12_layThirst_58 ?_
      refine v_putI (r := (some o)) C fa_X12_147 rfl E rfl ho ⟨rfl, rfl⟩ dX12_layThirst_59 (fun I7 _ E => ?_)
      refine v_aload_n (r := (some o)) C 0 dX12_layThirst_62 rfl ?_
      refine v_iload_n C 1 dX12_layThirst_63 rfl ?_
      refine v_aload_n (r := (some o)) C 0 dX12_layThirst_64 rfl ?_
      refine v_iconst C dX12_layThirst_65 k_iconst_3 ?_
      refine v_bipush C dX12_layThirst_66 k_bipush_10 ?_
      obtain ⟨q8, h9, E⟩ := bnd E
      refine v_callV (r := (some o)) (As := [.int 3, .int 10]) (rv := (some (.int q8))) (st := [.int x1, va_rf (some o)]) (st1 := [.int q8, .int x1, va_rf (some o)]) (ce1 := 0) (sl1 := 0) C cv_X12_316 (c_X12_last (x1 := 3) (x2 := 10) ho h9) rfl ho rfl rfl ⟨rfl, rfl, Nat.le_of_ble_eq_true rfl, Nat.le_of_ble_eq_true rfl⟩ ⟨Nat.le_of_ble_eq_true rfl, Nat.le_of_ble_eq_true rfl⟩ (by simp only [List.map_cons, List.map_nil, List.sum_cons, List.sum_nil, rf_cat]; exact Nat.le_of_ble_eq_true rfl) rfl rfl rfl dX12_layThirst_68 ?_
      refine v_imul C dX12_layThirst_71 ?_
      refine v_putI (r := (some o)) C fa_X12_150 rfl E rfl ho ⟨rfl, rfl⟩ dX12_layThirst_72 (fun I10 _ E => ?_)
      obtain rfl := Option.some.inj E
      exact v_vret C rfl dX12_layThirst_75
    · refine v_iconst C dX12_layThirst_10 k_iconst_0 ?_
      refine v_istore_n C [(3, .int 0), (0, va_rf (some o)), (1, .int x1), (2, .int x2)] dX12_layThirst_11 (Nat.le_of_ble_eq_true rfl) rfl ?_
      exact v_sub [1, 2, 3, 0] [(0, va_rf (some o)), (1, .int x1), (2, .int x2), (3, .int 0)] rfl (w_X12_layThirst_12 C ho res _ ih _ _ _ _ _ E)
set_option maxHeartbeats 4000000 in
theorem w_X12_layThirst_0 (C : Cx D cA bs Z p s m args meth c cX12_layThirst RX12 4 none) {o : Nat} {K : Sh} {n : Nat} {J : Jm} {R : Rf} (ho : (K o).1 = 13) (res : Im) (x1 : Int32) (I : Im) (E : f_X12_layThirst K R o x1 I = some res) : VW D cA bs Z p l e rX12_layThirst s m args below meth c 4 [(0, va_rf (some o)), (1, .int x1)] K n I J R 0 0 (MQ below (QX D cA bs Z none K n res J R) args s 0 0 (fun q => bs ≤ q)) 0 [] := by
  unfold f_X12_layThirst at E
  refine v_iconst C dX12_layThirst_0 k_iconst_0 ?_
  refine v_istore_n C [(2, .int 0), (0, va_rf (some o)), (1, .int x1)] dX12_layThirst_1 (Nat.le_of_ble_eq_true rfl) rfl ?_
  exact v_sub [1, 2, 0] [(0, va_rf (some o)), (1, .int x1), (2, .int 0)] rfl (w_X12_layThirst_2 C ho res  _ _ _ _ E)
set_option maxHeartbeats 4000000 in
theorem c_X12_layThirst {n : Nat} {K : Sh} {I : Im} {J : Jm} {R : Rf} {o : Nat} {x1 : Int32} (ho : (K o).1 = 13) {res : Im} (E : f_X12_layThirst K R o x1 I = some res) : Met l yX12_layThirst (Cond.code yX12_layThirst cX12_layThirst 4 none :: tb) rX12_layThirst (PX D cA bs Z [.ref o, .int x1] K n I J R) (QX D cA bs Z none K n res J R) 0 0 (fun q => bs ≤ q) := by
  refine met_of (lv1 := [(0, va_rf (some o)), (1, .int x1)]) pn_X12 (by exact Nat.le_of_ble_eq_true rfl) (by rfl) ?_
  intro p e s m args below meth c C hn
  exact v_sub [0, 1] [(0, va_rf (some o)), (1, .int x1)] rfl (w_X12_layThirst_0 C ho _ _ _ E)
set_option maxHeartbeats 4000000 in
theorem w_X12_goesWay_2 (C : Cx D cA bs Z p s m args meth c cX12_goesWay RX12 4 (some .boolean)) {o : Nat} {K : Sh} {n : Nat} {J : Jm} {R : Rf} (ho : (K o).1 = 13) (res : Int32 × Im)  : ∀ (k : Nat), ∀ (x1 : Int32) (x2 : Int32) (I : Im), f_X12_goesWay_2 K R o k x1 x2 I = some res → VW D cA bs Z p l e rX12_goesWay s m args below meth c 4 [(0, va_rf (some o)), (1, .int x1), (2, .int x2)] K n I J R 0 0 (MQ below (QX D cA bs Z (some (.int res.1)) K n res.2 J R) args s 0 0 (fun q => bs ≤ q)) 2 [] := by
  intro k
  induction k with
  | zero =>
    intro x1 x2 I E
    have E : (none : Option (Int32 × Im)) = some res := E
    cases E
  | succ k ih =>
    intro x1 x2 I E
    unfold f_X12_goesWay_2 at E
    refine v_iload_n C 2 dX12_goesWay_2 rfl ?_
    refine v_aload_n (r := (some o)) C 0 dX12_goesWay_3 rfl ?_
    refine v_getR (r := (some o)) C fa_X12_84 rfl rfl ho dX12_goesWay_4 ?_
    refine v_iload_n C 1 dX12_goesWay_7 rfl ?_
    refine v_iald (r := (R o 24)) C E dX12_goesWay_8 (fun v1 _ E => ?_)
    refine v_icmp_ge C 66 E dX12_goesWay_9 rfl (fun c6 E => ?_) (fun c6 E => ?_)
    · refine v_iconst C dX12_goesWay_66 k_iconst_1 ?_
      obtain rfl := Option.some.inj E
      exact v_zret (v := 1) C rfl nz_1 dX12_goesWay_67
    · refine v_aload_n (r := (some o)) C 0 dX12_goesWay_12 rfl ?_
      refine v_getR (r := (some o)) C fa_X12_126 rfl rfl ho dX12_goesWay_13 ?_
      refine v_bipush C dX12_goesWay_16 k_bipush_24 ?_
      refine v_iload_n C 1 dX12_goesWay_18 rfl ?_
      refine v_imul C dX12_goesWay_19 ?_
      refine v_aload_n (r := (some o)) C 0 dX12_goesWay_20 rfl ?_
      refine v_getI (r := (some o)) C fa_X12_153 rfl rfl ho dX12_goesWay_21 ?_
      refine v_bipush C dX12_goesWay_24 k_bipush_24 ?_
      refine v_irem C dX12_goesWay_26 k_nz_24 ?_
      refine v_iadd C dX12_goesWay_27 ?_
      refine v_iald (r := (R o 38)) C E dX12_goesWay_28 (fun v2 _ E => ?_)
      refine v_istore_n C [(3, .int v2), (0, va_rf (some o)), (1, .int x1), (2, .int x2)] dX12_goesWay_29 (Nat.le_of_ble_eq_true rfl) rfl ?_
      refine v_aload_n (r := (some o)) C 1 dX12_goesWay_30 rfl ?_
      refine v_getI (r := (some o)) C fa_X12_156 rfl rfl ho dX12_goesWay_31 ?_
      refine v_iload_n C 0 dX12_goesWay_34 rfl ?_
      refine v_icmp_ge C 40 E dX12_goesWay_35 rfl (fun c5 E => ?_) (fun c5 E => ?_)
      · refine v_aload_n (r := (some o)) C 1 dX12_goesWay_40 rfl ?_
        refine v_dup C dX12_goesWay_41 (rf_cat _) ?_
        refine v_getI (r := (some o)) C fa_X12_156 rfl rfl ho dX12_goesWay_42 ?_
        refine v_iload_n C 0 dX12_goesWay_45 rfl ?_
        refine v_isub C dX12_goesWay_46 ?_
        refine v_putI (r := (some o)) C fa_X12_156 rfl E rfl ho ⟨rfl, rfl⟩ dX12_goesWay_47 (fun I3 _ E => ?_)
        refine v_aload_n (r := (some o)) C 1 dX12_goesWay_50 rfl ?_
        refine v_dup C dX12_goesWay_51 (rf_cat _) ?_
        refine v_getI (r := (some o)) C fa_X12_153 rfl rfl ho dX12_goesWay_52 ?_
        refine v_iconst C dX12_goesWay_55 k_iconst_1 ?_
        refine v_iadd C dX12_goesWay_56 ?_
        refine v_putI (r := (some o)) C fa_X12_153 rfl E rfl ho ⟨rfl, rfl⟩ dX12_goesWay_57 (fun I4 _ E => ?_)
        refine v_iinc (v := x2 + 1) C 3 [(2, .int (x2 + 1)), (3, .int v2), (0, va_rf (some o)), (1, .int x1)] dX12_goesWay_60 rfl (k_inc_1 _) (Nat.le_of_ble_eq_true rfl) rfl ?_
        refine v_goto C 2 dX12_goesWay_63 rfl ?_
        exact v_sub [2, 3, 0] [(0, va_rf (some o)), (1, .int x1), (2, .int (x2 + 1))] rfl (ih _ _ _ E)
      · refine v_iconst C dX12_goesWay_38 k_iconst_0 ?_
        obtain rfl := Option.some.inj E
        exact v_zret (v := 0) C rfl nz_0 dX12_goesWay_39
set_option maxHeartbeats 4000000 in
theorem w_X12_goesWay_0 (C : Cx D cA bs Z p s m args meth c cX12_goesWay RX12 4 (some .boolean)) {o : Nat} {K : Sh} {n : Nat} {J : Jm} {R : Rf} (ho : (K o).1 = 13) (res : Int32 × Im) (x1 : Int32) (I : Im) (E : f_X12_goesWay K R o x1 I = some res) : VW D cA bs Z p l e rX12_goesWay s m args below meth c 4 [(0, va_rf (some o)), (1, .int x1)] K n I J R 0 0 (MQ below (QX D cA bs Z (some (.int res.1)) K n res.2 J R) args s 0 0 (fun q => bs ≤ q)) 0 [] := by
  unfold f_X12_goesWay at E
  refine v_iconst C dX12_goesWay_0 k_iconst_0 ?_
  refine v_istore_n C [(2, .int 0), (0, va_rf (some o)), (1, .int x1)] dX12_goesWay_1 (Nat.le_of_ble_eq_true rfl) rfl ?_
  exact v_sub [1, 2, 0] [(0, va_rf (some o)), (1, .int x1), (2, .int 0)] rfl (w_X12_goesWay_2 C ho res  _ _ _ _ E)
set_option maxHeartbeats 4000000 in
theorem c_X12_goesWay {n : Nat} {K : Sh} {I : Im} {J : Jm} {R : Rf} {o : Nat} {x1 : Int32} (ho : (K o).1 = 13) {res : Int32 × Im} (E : f_X12_goesWay K R o x1 I = some res) : Met l yX12_goesWay (Cond.code yX12_goesWay cX12_goesWay 4 (some .boolean) :: tb) rX12_goesWay (PX D cA bs Z [.ref o, .int x1] K n I J R) (QX D cA bs Z (some (.int res.1)) K n res.2 J R) 0 0 (fun q => bs ≤ q) := by
  refine met_of (lv1 := [(0, va_rf (some o)), (1, .int x1)]) pn_X12 (by exact Nat.le_of_ble_eq_true rfl) (by rfl) ?_
  intro p e s m args below meth c C hn
  exact v_sub [0, 1] [(0, va_rf (some o)), (1, .int x1)] rfl (w_X12_goesWay_0 C ho _ _ _ E)
set_option maxHeartbeats 4000000 in
theorem w_X12_standsFor_0 (C : Cx D cA bs Z p s m args meth c cX12_standsFor RX12 2 (some .boolean)) {o : Nat} {K : Sh} {n : Nat} {J : Jm} {R : Rf} (ho : (K o).1 = 13) (res : Int32 × Im) (x1 : Int32) (I : Im) (E : f_X12_standsFor K o x1 I = some res) : VW D cA bs Z p l e rX12_standsFor s m args below meth c 2 [(0, va_rf (some o)), (1, .int x1)] K n I J R 0 0 (MQ below (QX D cA bs Z (some (.int res.1)) K n res.2 J R) args s 0 0 (fun q => bs ≤ q)) 0 [] := by
  unfold f_X12_standsFor at E
  refine v_aload_n (r := (some o)) C 0 dX12_standsFor_0 rfl ?_
  refine v_getI (r := (some o)) C fa_X12_156 rfl rfl ho dX12_standsFor_1 ?_
  refine v_iload_n C 1 dX12_standsFor_4 rfl ?_
  refine v_aload_n (r := (some o)) C 0 dX12_standsFor_5 rfl ?_
  refine v_getI (r := (some o)) C fa_X12_147 rfl rfl ho dX12_standsFor_6 ?_
  refine v_imul C dX12_standsFor_9 ?_
  refine v_icmp_ge C 15 E dX12_standsFor_10 rfl (fun c3 E => ?_) (fun c3 E => ?_)
  · refine v_aload_n (r := (some o)) C 0 dX12_standsFor_15 rfl ?_
    refine v_dup C dX12_standsFor_16 (rf_cat _) ?_
    refine v_getI (r := (some o)) C fa_X12_156 rfl rfl ho dX12_standsFor_17 ?_
    refine v_iload_n C 1 dX12_standsFor_20 rfl ?_
    refine v_aload_n (r := (some o)) C 0 dX12_standsFor_21 rfl ?_
    refine v_getI (r := (some o)) C fa_X12_147 rfl rfl ho dX12_standsFor_22 ?_
    refine v_imul C dX12_standsFor_25 ?_
    refine v_isub C dX12_standsFor_26 ?_
    refine v_putI (r := (some o)) C fa_X12_156 rfl E rfl ho ⟨rfl, rfl⟩ dX12_standsFor_27 (fun I1 _ E => ?_)
    refine v_aload_n (r := (some o)) C 0 dX12_standsFor_30 rfl ?_
    refine v_dup C dX12_standsFor_31 (rf_cat _) ?_
    refine v_getI (r := (some o)) C fa_X12_153 rfl rfl ho dX12_standsFor_32 ?_
    refine v_iload_n C 1 dX12_standsFor_35 rfl ?_
    refine v_iadd C dX12_standsFor_36 ?_
    refine v_putI (r := (some o)) C fa_X12_153 rfl E rfl ho ⟨rfl, rfl⟩ dX12_standsFor_37 (fun I2 _ E => ?_)
    refine v_iconst C dX12_standsFor_40 k_iconst_1 ?_
    obtain rfl := Option.some.inj E
    exact v_zret (v := 1) C rfl nz_1 dX12_standsFor_41
  · refine v_iconst C dX12_standsFor_13 k_iconst_0 ?_
    obtain rfl := Option.some.inj E
    exact v_zret (v := 0) C rfl nz_0 dX12_standsFor_14
set_option maxHeartbeats 4000000 in
theorem c_X12_standsFor {n : Nat} {K : Sh} {I : Im} {J : Jm} {R : Rf} {o : Nat} {x1 : Int32} (ho : (K o).1 = 13) {res : Int32 × Im} (E : f_X12_standsFor K o x1 I = some res) : Met l yX12_standsFor (Cond.code yX12_standsFor cX12_standsFor 2 (some .boolean) :: tb) rX12_standsFor (PX D cA bs Z [.ref o, .int x1] K n I J R) (QX D cA bs Z (some (.int res.1)) K n res.2 J R) 0 0 (fun q => bs ≤ q) := by
  refine met_of (lv1 := [(0, va_rf (some o)), (1, .int x1)]) pn_X12 (by exact Nat.le_of_ble_eq_true rfl) (by rfl) ?_
  intro p e s m args below meth c C hn
  exact v_sub [0, 1] [(0, va_rf (some o)), (1, .int x1)] rfl (w_X12_standsFor_0 C ho _ _ _ E)
set_option maxHeartbeats 4000000 in
theorem w_X12_waitsAt_0 (C : Cx D cA bs Z p s m args meth c cX12_waitsAt RX12 2 (some .boolean)) {o : Nat} {K : Sh} {n : Nat} {J : Jm} {R : Rf} (ho : (K o).1 = 13) (res : Int32 × Im) (x1 : Int32) (I : Im) (E : f_X12_waitsAt K R o x1 I = some res) : VW D cA bs Z p l e rX12_waitsAt s m args below meth c 2 [(0, va_rf (some o)), (1, .int x1)] K n I J R 0 0 (MQ below (QX D cA bs Z (some (.int res.1)) K n res.2 J R) args s 0 0 (fun q => bs ≤ q)) 0 [] := by
  unfold f_X12_waitsAt at E
  refine v_aload_n (r := (some o)) C 0 dX12_waitsAt_0 rfl ?_
  refine v_getI (r := (some o)) C fa_X12_153 rfl rfl ho dX12_waitsAt_1 ?_
  refine v_aload_n (r := (some o)) C 0 dX12_waitsAt_4 rfl ?_
  refine v_getR (r := (some o)) C fa_X12_90 rfl rfl ho dX12_waitsAt_5 ?_
  refine v_iload_n C 1 dX12_waitsAt_8 rfl ?_
  refine v_iald (r := (R o 26)) C E dX12_waitsAt_9 (fun v1 _ E => ?_)
  refine v_icmp_ge C 31 E dX12_waitsAt_10 rfl (fun c6 E => ?_) (fun c6 E => ?_)
  · refine v_iconst C dX12_waitsAt_31 k_iconst_1 ?_
    refine v_goto C 36 dX12_waitsAt_32 rfl ?_
    obtain rfl := Option.some.inj E
    exact v_zret (v := 1) C rfl nz_1 dX12_waitsAt_36
  · refine v_aload_n (r := (some o)) C 0 dX12_waitsAt_13 rfl ?_
    refine v_aload_n (r := (some o)) C 0 dX12_waitsAt_14 rfl ?_
    refine v_getR (r := (some o)) C fa_X12_90 rfl rfl ho dX12_waitsAt_15 ?_
    refine v_iload_n C 1 dX12_waitsAt_18 rfl ?_
    refine v_iald (r := (R o 26)) C E dX12_waitsAt_19 (fun v2 _ E => ?_)
    refine v_aload_n (r := (some o)) C 0 dX12_waitsAt_20 rfl ?_
    refine v_getI (r := (some o)) C fa_X12_153 rfl rfl ho dX12_waitsAt_21 ?_
    refine v_isub C dX12_waitsAt_24 ?_
    obtain ⟨q3, h4, E⟩ := bnd E
    refine v_callV (r := (some o)) (As := [.int (v2 - (I o 47))]) (rv := (some (.int q3.1))) (st := []) (st1 := [.int q3.1]) (ce1 := 0) (sl1 := 0) C cv_X12_332 (c_X12_standsFor (x1 := (v2 - (I o 47))) ho h4) rfl ho rfl rfl ⟨rfl, rfl, Nat.le_of_ble_eq_true rfl, Nat.le_of_ble_eq_true rfl⟩ ⟨Nat.le_of_ble_eq_true rfl, Nat.le_of_ble_eq_true rfl⟩ (Nat.le_of_ble_eq_true rfl) rfl rfl rfl dX12_waitsAt_25 ?_
    refine v_if_eq C 35 E dX12_waitsAt_28 rfl (fun c5 E => ?_) (fun c5 E => ?_)
    · refine v_iconst C dX12_waitsAt_35 k_iconst_0 ?_
      obtain rfl := Option.some.inj E
      exact v_zret (v := 0) C rfl nz_0 dX12_waitsAt_36
    · refine v_iconst C dX12_waitsAt_31 k_iconst_1 ?_
      refine v_goto C 36 dX12_waitsAt_32 rfl ?_
      obtain rfl := Option.some.inj E
      exact v_zret (v := 1) C rfl nz_1 dX12_waitsAt_36
set_option maxHeartbeats 4000000 in
theorem c_X12_waitsAt {n : Nat} {K : Sh} {I : Im} {J : Jm} {R : Rf} {o : Nat} {x1 : Int32} (ho : (K o).1 = 13) {res : Int32 × Im} (E : f_X12_waitsAt K R o x1 I = some res) : Met l yX12_waitsAt (Cond.code yX12_waitsAt cX12_waitsAt 2 (some .boolean) :: tb) rX12_waitsAt (PX D cA bs Z [.ref o, .int x1] K n I J R) (QX D cA bs Z (some (.int res.1)) K n res.2 J R) 0 0 (fun q => bs ≤ q) := by
  refine met_of (lv1 := [(0, va_rf (some o)), (1, .int x1)]) pn_X12 (by exact Nat.le_of_ble_eq_true rfl) (by rfl) ?_
  intro p e s m args below meth c C hn
  exact v_sub [0, 1] [(0, va_rf (some o)), (1, .int x1)] rfl (w_X12_waitsAt_0 C ho _ _ _ E)
set_option maxHeartbeats 4000000 in
theorem w_X12_drawsAt_0 (C : Cx D cA bs Z p s m args meth c cX12_drawsAt RX12 5 none) {o : Nat} {K : Sh} {n : Nat} {J : Jm} {R : Rf} (ho : (K o).1 = 13) (res : Im) (x1 : Int32) (x2 : Int32) (I : Im) (E : f_X12_drawsAt K R o x1 x2 I = some res) : VW D cA bs Z p l e rX12_drawsAt s m args below meth c 5 [(0, va_rf (some o)), (1, .int x1), (2, .int x2)] K n I J R 0 0 (MQ below (QX D cA bs Z none K n res J R) args s 0 0 (fun q => bs ≤ q)) 0 [] := by
  unfold f_X12_drawsAt at E
  refine v_aload_n (r := (some o)) C 0 dX12_drawsAt_0 rfl ?_
  refine v_iload_n C 1 dX12_drawsAt_1 rfl ?_
  refine v_aload_n (r := (some o)) C 0 dX12_drawsAt_2 rfl ?_
  refine v_getI (r := (some o)) C fa_X12_153 rfl rfl ho dX12_drawsAt_3 ?_
  obtain ⟨q1, h2, E⟩ := bnd E
  refine v_callV (r := (some o)) (As := [.int x1, .int (I o 47)]) (rv := (some (.int q1))) (st := []) (st1 := [.int q1]) (ce1 := 0) (sl1 := 0) C cv_X12_322 (c_X12_heldBy (x1 := x1) (x2 := (I o 47)) ho h2) rfl ho rfl rfl ⟨rfl, rfl, Nat.le_of_ble_eq_true rfl, Nat.le_of_ble_eq_true rfl⟩ ⟨Nat.le_of_ble_eq_true rfl, Nat.le_of_ble_eq_true rfl⟩ (Nat.le_of_ble_eq_true rfl) rfl rfl rfl dX12_drawsAt_6 ?_
  refine v_istore_n C [(3, .int q1), (0, va_rf (some o)), (1, .int x1), (2, .int x2)] dX12_drawsAt_9 (Nat.le_of_ble_eq_true rfl) rfl ?_
  refine v_aload_n (r := (some o)) C 1 dX12_drawsAt_10 rfl ?_
  refine v_iload_n C 0 dX12_drawsAt_11 rfl ?_
  refine v_aload_n (r := (some o)) C 1 dX12_drawsAt_12 rfl ?_
  refine v_getI (r := (some o)) C fa_X12_150 rfl rfl ho dX12_drawsAt_13 ?_
  refine v_aload_n (r := (some o)) C 1 dX12_drawsAt_16 rfl ?_
  refine v_getI (r := (some o)) C fa_X12_156 rfl rfl ho dX12_drawsAt_17 ?_
  refine v_isub C dX12_drawsAt_20 ?_
  obtain ⟨q3, h4, E⟩ := bnd E
  refine v_callV (r := (some o)) (As := [.int q1, .int ((I o 46) - (I o 48))]) (rv := (some (.int q3))) (st := []) (st1 := [.int q3]) (ce1 := 0) (sl1 := 0) C cv_X12_309 (c_X12_min (x1 := q1) (x2 := ((I o 46) - (I o 48))) ho h4) rfl ho rfl rfl ⟨rfl, rfl, Nat.le_of_ble_eq_true rfl, Nat.le_of_ble_eq_true rfl⟩ ⟨Nat.le_of_ble_eq_true rfl, Nat.le_of_ble_eq_true rfl⟩ (Nat.le_of_ble_eq_true rfl) rfl rfl rfl dX12_drawsAt_21 ?_
  refine v_istore C [(4, .int q3), (3, .int q1), (0, va_rf (some o)), (1, .int x1), (2, .int x2)] dX12_drawsAt_24 (Nat.le_of_ble_eq_true rfl) rfl ?_
  refine v_aload_n (r := (some o)) C 2 dX12_drawsAt_26 rfl ?_
  refine v_dup C dX12_drawsAt_27 (rf_cat _) ?_
  refine v_getI (r := (some o)) C fa_X12_156 rfl rfl ho dX12_drawsAt_28 ?_
  refine v_iload C 0 dX12_drawsAt_31 rfl ?_
  refine v_iadd C dX12_drawsAt_33 ?_
  refine v_putI (r := (some o)) C fa_X12_156 rfl E rfl ho ⟨rfl, rfl⟩ dX12_drawsAt_34 (fun I5 _ E => ?_)
  refine v_iload_n C 4 dX12_drawsAt_37 rfl ?_
  refine v_if_ne C 42 E dX12_drawsAt_38 rfl (fun c8 E => ?_) (fun c8 E => ?_)
  · obtain rfl := Option.some.inj E
    exact v_vret C rfl dX12_drawsAt_41
  · refine v_aload_n (r := (some o)) C 2 dX12_drawsAt_42 rfl ?_
    refine v_getR (r := (some o)) C fa_X12_87 rfl rfl ho dX12_drawsAt_43 ?_
    refine v_iload_n C 3 dX12_drawsAt_46 rfl ?_
    refine v_iload_n C 1 dX12_drawsAt_47 rfl ?_
    refine v_iload C 0 dX12_drawsAt_48 rfl ?_
    refine v_isub C dX12_drawsAt_50 ?_
    refine v_iast (r := (R o 25)) C E dX12_drawsAt_51 (fun I6 _ E => ?_)
    refine v_aload_n (r := (some o)) C 2 dX12_drawsAt_52 rfl ?_
    refine v_getR (r := (some o)) C fa_X12_90 rfl rfl ho dX12_drawsAt_53 ?_
    refine v_iload_n C 3 dX12_drawsAt_56 rfl ?_
    refine v_aload_n (r := (some o)) C 2 dX12_drawsAt_57 rfl ?_
    refine v_getI (r := (some o)) C fa_X12_153 rfl rfl ho dX12_drawsAt_58 ?_
    refine v_iast (r := (R o 26)) C E dX12_drawsAt_61 (fun I7 _ E => ?_)
    obtain rfl := Option.some.inj E
    exact v_vret C rfl dX12_drawsAt_62
set_option maxHeartbeats 4000000 in
theorem c_X12_drawsAt {n : Nat} {K : Sh} {I : Im} {J : Jm} {R : Rf} {o : Nat} {x1 : Int32} {x2 : Int32} (ho : (K o).1 = 13) {res : Im} (E : f_X12_drawsAt K R o x1 x2 I = some res) : Met l yX12_drawsAt (Cond.code yX12_drawsAt cX12_drawsAt 5 none :: tb) rX12_drawsAt (PX D cA bs Z [.ref o, .int x1, .int x2] K n I J R) (QX D cA bs Z none K n res J R) 0 0 (fun q => bs ≤ q) := by
  refine met_of (lv1 := [(0, va_rf (some o)), (1, .int x1), (2, .int x2)]) pn_X12 (by exact Nat.le_of_ble_eq_true rfl) (by rfl) ?_
  intro p e s m args below meth c C hn
  exact v_sub [0, 1, 2] [(0, va_rf (some o)), (1, .int x1), (2, .int x2)] rfl (w_X12_drawsAt_0 C ho _ _ _ _ E)
set_option maxHeartbeats 4000000 in
theorem w_X12_standOf_162 (C : Cx D cA bs Z p s m args meth c cX12_standOf RX12 5 (some .int)) {o : Nat} {K : Sh} {n : Nat} {I : Im} {J : Jm} {R : Rf} (ho : (K o).1 = 13) (res : Int32) (x3 : Int32) (x4 : Int32) (E : f_X12_standOf_162 K I R o x3 x4 = some res) : VW D cA bs Z p l e rX12_standOf s m args below meth c 5 [(0, va_rf (some o)), (3, .int x3), (4, .int x4)] K n I J R 0 0 (MQ below (QX D cA bs Z (some (.int res)) K n I J R) args s 0 0 (fun q => bs ≤ q)) 162 [] := by
  unfold f_X12_standOf_162 at E
  refine v_iload_n C 1 dX12_standOf_162 rfl ?_
  refine v_bipush C dX12_standOf_163 k_bipush_6 ?_
  refine v_icmp_ne C 185 E dX12_standOf_165 rfl (fun c2 E => ?_) (fun c2 E => ?_)
  · refine v_iconst C dX12_standOf_168 k_iconst_2 ?_
    refine v_aload_n (r := (some o)) C 0 dX12_standOf_169 rfl ?_
    refine v_getI (r := (some o)) C fa_X12_156 rfl rfl ho dX12_standOf_170 ?_
    refine v_imul C dX12_standOf_173 ?_
    refine v_aload_n (r := (some o)) C 0 dX12_standOf_174 rfl ?_
    refine v_getI (r := (some o)) C fa_X12_150 rfl rfl ho dX12_standOf_175 ?_
    refine v_icmp_ge C 185 E dX12_standOf_178 rfl (fun c1 E => ?_) (fun c1 E => ?_)
    · refine v_iload C 2 dX12_standOf_185 rfl ?_
      obtain rfl := Option.some.inj E
      exact v_iret C rfl dX12_standOf_187
    · refine v_iconst C dX12_standOf_181 k_iconst_0 ?_
      refine v_goto C 187 dX12_standOf_182 rfl ?_
      obtain rfl := Option.some.inj E
      exact v_iret C rfl dX12_standOf_187
  · refine v_iload C 2 dX12_standOf_185 rfl ?_
    obtain rfl := Option.some.inj E
    exact v_iret C rfl dX12_standOf_187
set_option maxHeartbeats 4000000 in
theorem w_X12_standOf_130 (C : Cx D cA bs Z p s m args meth c cX12_standOf RX12 5 (some .int)) {o : Nat} {K : Sh} {n : Nat} {I : Im} {J : Jm} {R : Rf} (ho : (K o).1 = 13) (res : Int32)  : ∀ (k : Nat), ∀ (x1 : Int32) (x3 : Int32) (x4 : Int32), f_X12_standOf_130 K I R o k x1 x3 x4 = some res → VW D cA bs Z p l e rX12_standOf s m args below meth c 5 [(0, va_rf (some o)), (1, .int x1), (3, .int x3), (4, .int x4)] K n I J R 0 0 (MQ below (QX D cA bs Z (some (.int res)) K n I J R) args s 0 0 (fun q => bs ≤ q)) 130 [] := by
  intro k
  induction k with
  | zero =>
    intro x1 x3 x4 E
    have E : (none : Option (Int32)) = some res := E
    cases E
  | succ k ih =>
    intro x1 x3 x4 E
    unfold f_X12_standOf_130 at E
    refine v_iload C 3 dX12_standOf_130 rfl ?_
    refine v_aload_n (r := (some o)) C 0 dX12_standOf_132 rfl ?_
    refine v_getR (r := (some o)) C fa_X12_105 rfl rfl ho dX12_standOf_133 ?_
    refine v_iload_n C 1 dX12_standOf_136 rfl ?_
    refine v_iald (r := (R o 31)) C E dX12_standOf_137 (fun v3 _ E => ?_)
    refine v_icmp_ge C 162 E dX12_standOf_138 rfl (fun c5 E => ?_) (fun c5 E => ?_)
    · exact v_sub [0, 2, 3] [(0, va_rf (some o)), (3, .int x3), (4, .int x4)] rfl (w_X12_standOf_162 C ho res  _ _ E)
    · refine v_aload_n (r := (some o)) C 0 dX12_standOf_141 rfl ?_
      refine v_getI (r := (some o)) C fa_X12_153 rfl rfl ho dX12_standOf_142 ?_
      refine v_iload C 3 dX12_standOf_145 rfl ?_
      refine v_iadd C dX12_standOf_147 ?_
      refine v_bipush C dX12_standOf_148 k_bipush_24 ?_
      refine v_irem C dX12_standOf_150 k_nz_24 ?_
      refine v_bipush C dX12_standOf_151 k_bipush_12 ?_
      refine v_icmp_ge C 162 E dX12_standOf_153 rfl (fun c4 E => ?_) (fun c4 E => ?_)
      · exact v_sub [0, 2, 3] [(0, va_rf (some o)), (3, .int x3), (4, .int x4)] rfl (w_X12_standOf_162 C ho res  _ _ E)
      · refine v_iinc (v := x4 + 1) C 3 [(4, .int (x4 + 1)), (0, va_rf (some o)), (1, .int x1), (3, .int x3)] dX12_standOf_156 rfl (k_inc_1 _) (Nat.le_of_ble_eq_true rfl) rfl ?_
        refine v_goto C 130 dX12_standOf_159 rfl ?_
        exact v_sub [1, 2, 3, 0] [(0, va_rf (some o)), (1, .int x1), (3, .int x3), (4, .int (x4 + 1))] rfl (ih _ _ _ E)
set_option maxHeartbeats 4000000 in
theorem w_X12_standOf_109 (C : Cx D cA bs Z p s m args meth c cX12_standOf RX12 5 (some .int)) {o : Nat} {K : Sh} {n : Nat} {I : Im} {J : Jm} {R : Rf} (ho : (K o).1 = 13) (res : Int32) (x3 : Int32) (x4 : Int32) (E : f_X12_standOf_109 K I R o x3 x4 = some res) : VW D cA bs Z p l e rX12_standOf s m args below meth c 5 [(0, va_rf (some o)), (3, .int x3), (4, .int x4)] K n I J R 0 0 (MQ below (QX D cA bs Z (some (.int res)) K n I J R) args s 0 0 (fun q => bs ≤ q)) 109 [] := by
  unfold f_X12_standOf_109 at E
  refine v_iload_n C 1 dX12_standOf_109 rfl ?_
  refine v_iconst C dX12_standOf_110 k_iconst_1 ?_
  refine v_icmp_ne C 119 E dX12_standOf_111 rfl (fun c8 E => ?_) (fun c8 E => ?_)
  · refine v_iload C 2 dX12_standOf_114 rfl ?_
    refine v_goto C 129 dX12_standOf_116 rfl ?_
    obtain rfl := Option.some.inj E
    exact v_iret C rfl dX12_standOf_129
  · refine v_aload_n (r := (some o)) C 0 dX12_standOf_119 rfl ?_
    refine v_bipush C dX12_standOf_120 k_bipush_6 ?_
    refine v_iload C 2 dX12_standOf_122 rfl ?_
    refine v_iconst C dX12_standOf_124 k_iconst_1 ?_
    refine v_iadd C dX12_standOf_125 ?_
    obtain ⟨q6, h7, E⟩ := bnd E
    refine v_callV (r := (some o)) (As := [.int 6, .int (x4 + 1)]) (rv := (some (.int q6))) (st := []) (st1 := [.int q6]) (ce1 := 0) (sl1 := 0) C cv_X12_309 (c_X12_min (x1 := 6) (x2 := (x4 + 1)) ho h7) rfl ho rfl rfl ⟨rfl, rfl, Nat.le_of_ble_eq_true rfl, Nat.le_of_ble_eq_true rfl⟩ ⟨Nat.le_of_ble_eq_true rfl, Nat.le_of_ble_eq_true rfl⟩ (Nat.le_of_ble_eq_true rfl) rfl rfl rfl dX12_standOf_126 ?_
    obtain rfl := Option.some.inj E
    exact v_iret C rfl dX12_standOf_129
set_option maxHeartbeats 4000000 in
theorem w_X12_standOf_68 (C : Cx D cA bs Z p s m args meth c cX12_standOf RX12 5 (some .int)) {o : Nat} {K : Sh} {n : Nat} {I : Im} {J : Jm} {R : Rf} (ho : (K o).1 = 13) (res : Int32)  : ∀ (k : Nat), ∀ (x1 : Int32) (x2 : Int32) (x3 : Int32) (x4 : Int32), f_X12_standOf_68 K I R o k x1 x2 x3 x4 = some res → VW D cA bs Z p l e rX12_standOf s m args below meth c 5 [(0, va_rf (some o)), (1, .int x1), (2, .int x2), (3, .int x3), (4, .int x4)] K n I J R 0 0 (MQ below (QX D cA bs Z (some (.int res)) K n I J R) args s 0 0 (fun q => bs ≤ q)) 68 [] := by
  intro k
  induction k with
  | zero =>
    intro x1 x2 x3 x4 E
    have E : (none : Option (Int32)) = some res := E
    cases E
  | succ k ih =>
    intro x1 x2 x3 x4 E
    unfold f_X12_standOf_68 at E
    refine v_iload C 4 dX12_standOf_68 rfl ?_
    refine v_aload_n (r := (some o)) C 0 dX12_standOf_70 rfl ?_
    refine v_getR (r := (some o)) C fa_X12_105 rfl rfl ho dX12_standOf_71 ?_
    refine v_iload_n C 1 dX12_standOf_74 rfl ?_
    refine v_iald (r := (R o 31)) C E dX12_standOf_75 (fun v9 _ E => ?_)
    refine v_icmp_ge C 109 E dX12_standOf_76 rfl (fun c13 E => ?_) (fun c13 E => ?_)
    · exact v_sub [0, 3, 4] [(0, va_rf (some o)), (3, .int x3), (4, .int x4)] rfl (w_X12_standOf_109 C ho res  _ _ E)
    · refine v_aload_n (r := (some o)) C 0 dX12_standOf_79 rfl ?_
      refine v_iload_n C 2 dX12_standOf_80 rfl ?_
      refine v_aload_n (r := (some o)) C 0 dX12_standOf_81 rfl ?_
      refine v_getI (r := (some o)) C fa_X12_153 rfl rfl ho dX12_standOf_82 ?_
      refine v_iload C 4 dX12_standOf_85 rfl ?_
      refine v_iadd C dX12_standOf_87 ?_
      obtain ⟨q10, h11, E⟩ := bnd E
      refine v_callV (r := (some o)) (As := [.int x2, .int ((I o 47) + x4)]) (rv := (some (.int q10))) (st := []) (st1 := [.int q10]) (ce1 := 0) (sl1 := 0) C cv_X12_322 (c_X12_heldBy (x1 := x2) (x2 := ((I o 47) + x4)) ho h11) rfl ho rfl rfl ⟨rfl, rfl, Nat.le_of_ble_eq_true rfl, Nat.le_of_ble_eq_true rfl⟩ ⟨Nat.le_of_ble_eq_true rfl, Nat.le_of_ble_eq_true rfl⟩ (Nat.le_of_ble_eq_true rfl) rfl rfl rfl dX12_standOf_88 ?_
      refine v_aload_n (r := (some o)) C 0 dX12_standOf_91 rfl ?_
      refine v_getI (r := (some o)) C fa_X12_150 rfl rfl ho dX12_standOf_92 ?_
      refine v_aload_n (r := (some o)) C 0 dX12_standOf_95 rfl ?_
      refine v_getI (r := (some o)) C fa_X12_156 rfl rfl ho dX12_standOf_96 ?_
      refine v_isub C dX12_standOf_99 ?_
      refine v_icmp_ge C 109 E dX12_standOf_100 rfl (fun c12 E => ?_) (fun c12 E => ?_)
      · exact v_sub [0, 3, 4] [(0, va_rf (some o)), (3, .int x3), (4, .int x4)] rfl (w_X12_standOf_109 C ho res  _ _ E)
      · refine v_iinc (v := x4 + 1) C 4 [(4, .int (x4 + 1)), (0, va_rf (some o)), (1, .int x1), (2, .int x2), (3, .int x3)] dX12_standOf_103 rfl (k_inc_1 _) (Nat.le_of_ble_eq_true rfl) rfl ?_
        refine v_goto C 68 dX12_standOf_106 rfl ?_
        exact v_sub [1, 2, 3, 4, 0] [(0, va_rf (some o)), (1, .int x1), (2, .int x2), (3, .int x3), (4, .int (x4 + 1))] rfl (ih _ _ _ _ E)
set_option maxHeartbeats 4000000 in
theorem w_X12_standOf_0 (C : Cx D cA bs Z p s m args meth c cX12_standOf RX12 5 (some .int)) {o : Nat} {K : Sh} {n : Nat} {I : Im} {J : Jm} {R : Rf} (ho : (K o).1 = 13) (res : Int32) (x1 : Int32) (x2 : Int32) (x3 : Int32) (E : f_X12_standOf K I R o x1 x2 x3 = some res) : VW D cA bs Z p l e rX12_standOf s m args below meth c 5 [(0, va_rf (some o)), (1, .int x1), (2, .int x2), (3, .int x3)] K n I J R 0 0 (MQ below (QX D cA bs Z (some (.int res)) K n I J R) args s 0 0 (fun q => bs ≤ q)) 0 [] := by
  unfold f_X12_standOf at E
  refine v_iload_n C 3 dX12_standOf_0 rfl ?_
  refine v_bipush C dX12_standOf_1 k_bipush_7 ?_
  refine v_icmp_ne C 25 E dX12_standOf_3 rfl (fun c26 E => ?_) (fun c26 E => ?_)
  · refine v_iload_n C 2 dX12_standOf_6 rfl ?_
    refine v_aload_n (r := (some o)) C 0 dX12_standOf_7 rfl ?_
    refine v_getI (r := (some o)) C fa_X12_99 rfl rfl ho dX12_standOf_8 ?_
    refine v_icmp_ge C 23 E dX12_standOf_11 rfl (fun c25 E => ?_) (fun c25 E => ?_)
    · refine v_iconst C dX12_standOf_23 k_iconst_0 ?_
      obtain rfl := Option.some.inj E
      exact v_iret C rfl dX12_standOf_24
    · refine v_aload_n (r := (some o)) C 0 dX12_standOf_14 rfl ?_
      refine v_getR (r := (some o)) C fa_X12_123 rfl rfl ho dX12_standOf_15 ?_
      refine v_iload_n C 2 dX12_standOf_18 rfl ?_
      refine v_iald (r := (R o 37)) C E dX12_standOf_19 (fun v24 _ E => ?_)
      refine v_goto C 24 dX12_standOf_20 rfl ?_
      obtain rfl := Option.some.inj E
      exact v_iret C rfl dX12_standOf_24
  · refine v_iconst C dX12_standOf_25 k_iconst_0 ?_
    refine v_istore C [(4, .int 0), (0, va_rf (some o)), (1, .int x1), (2, .int x2), (3, .int x3)] dX12_standOf_26 (Nat.le_of_ble_eq_true rfl) rfl ?_
    refine v_iload_n C 4 dX12_standOf_28 rfl ?_
    by_cases c14 : x3 = 1
    · have E := ite_t E c14
      refine v_tableIn (off := 39) C 68 dX12_standOf_29 (by rw [c14]; decide) (by rw [c14]; decide) (by rw [c14]; rfl) rfl ?_
      exact v_sub [1, 2, 3, 4, 0] [(0, va_rf (some o)), (1, .int x1), (2, .int x2), (3, .int x3), (4, .int 0)] rfl (w_X12_standOf_68 C ho res  _ _ _ _ _ E)
    have E := ite_f E c14
    by_cases c15 : x3 = 2
    · have E := ite_t E c15
      refine v_tableIn (off := 101) C 130 dX12_standOf_29 (by rw [c15]; decide) (by rw [c15]; decide) (by rw [c15]; rfl) rfl ?_
      exact v_sub [1, 2, 4, 0] [(0, va_rf (some o)), (1, .int x1), (3, .int x3), (4, .int 0)] rfl (w_X12_standOf_130 C ho res  _ _ _ _ E)
    have E := ite_f E c15
    by_cases c19 : x3 = 3
    · have E := ite_t E c19
      refine v_tableIn (off := 159) C 188 dX12_standOf_29 (by rw [c19]; decide) (by rw [c19]; decide) (by rw [c19]; rfl) rfl ?_
      refine v_iload_n C 3 dX12_standOf_188 rfl ?_
      refine v_aload_n (r := (some o)) C 1 dX12_standOf_189 rfl ?_
      refine v_getR (r := (some o)) C fa_X12_108 rfl rfl ho dX12_standOf_190 ?_
      refine v_iload_n C 2 dX12_standOf_193 rfl ?_
      refine v_iald (r := (R o 32)) C E dX12_standOf_194 (fun v16 _ E => ?_)
      refine v_icmp_ge C 211 E dX12_standOf_195 rfl (fun c18 E => ?_) (fun c18 E => ?_)
      · refine v_iconst C dX12_standOf_211 k_iconst_0 ?_
        obtain rfl := Option.some.inj E
        exact v_iret C rfl dX12_standOf_212
      · refine v_aload_n (r := (some o)) C 1 dX12_standOf_198 rfl ?_
        refine v_getR (r := (some o)) C fa_X12_111 rfl rfl ho dX12_standOf_199 ?_
        refine v_iconst C dX12_standOf_202 k_iconst_5 ?_
        refine v_iload_n C 2 dX12_standOf_203 rfl ?_
        refine v_imul C dX12_standOf_204 ?_
        refine v_iload_n C 3 dX12_standOf_205 rfl ?_
        refine v_iadd C dX12_standOf_206 ?_
        refine v_iald (r := (R o 33)) C E dX12_standOf_207 (fun v17 _ E => ?_)
        refine v_goto C 212 dX12_standOf_208 rfl ?_
        obtain rfl := Option.some.inj E
        exact v_iret C rfl dX12_standOf_212
    have E := ite_f E c19
    by_cases c20 : x3 = 4
    · have E := ite_t E c20
      refine v_tableIn (off := 39) C 68 dX12_standOf_29 (by rw [c20]; decide) (by rw [c20]; decide) (by rw [c20]; rfl) rfl ?_
      exact v_sub [1, 2, 3, 4, 0] [(0, va_rf (some o)), (1, .int x1), (2, .int x2), (3, .int x3), (4, .int 0)] rfl (w_X12_standOf_68 C ho res  _ _ _ _ _ E)
    have E := ite_f E c20
    by_cases c22 : x3 = 5
    · have E := ite_t E c22
      refine v_tableIn (off := 184) C 213 dX12_standOf_29 (by rw [c22]; decide) (by rw [c22]; decide) (by rw [c22]; rfl) rfl ?_
      refine v_aload_n (r := (some o)) C 1 dX12_standOf_213 rfl ?_
      refine v_getR (r := (some o)) C fa_X12_135 rfl rfl ho dX12_standOf_214 ?_
      refine v_iload_n C 3 dX12_standOf_217 rfl ?_
      refine v_iald (r := (R o 41)) C E dX12_standOf_218 (fun v21 _ E => ?_)
      obtain rfl := Option.some.inj E
      exact v_iret C rfl dX12_standOf_219
    have E := ite_f E c22
    by_cases c23 : x3 = 6
    · have E := ite_t E c23
      refine v_tableIn (off := 101) C 130 dX12_standOf_29 (by rw [c23]; decide) (by rw [c23]; decide) (by rw [c23]; rfl) rfl ?_
      exact v_sub [1, 2, 4, 0] [(0, va_rf (some o)), (1, .int x1), (3, .int x3), (4, .int 0)] rfl (w_X12_standOf_130 C ho res  _ _ _ _ E)
    have E := ite_f E c23
    refine v_tableOut C 220 dX12_standOf_29 (by have hc14 := lv_neT c14 (show ((1 : Int32)).toInt = 1 from by decide); have hc15 := lv_neT c15 (show ((2 : Int32)).toInt = 2 from by decide); have hc19 := lv_neT c19 (show ((3 : Int32)).toInt = 3 from by decide); have hc20 := lv_neT c20 (show ((4 : Int32)).toInt = 4 from by decide); have hc22 := lv_neT c22 (show ((5 : Int32)).toInt = 5 from by decide); have hc23 := lv_neT c23 (show ((6 : Int32)).toInt = 6 from by decide); omega) rfl ?_
    refine v_iconst C dX12_standOf_220 k_iconst_0 ?_
    obtain rfl := Option.some.inj E
    exact v_iret C rfl dX12_standOf_221
set_option maxHeartbeats 4000000 in
theorem c_X12_standOf {n : Nat} {K : Sh} {I : Im} {J : Jm} {R : Rf} {o : Nat} {x1 : Int32} {x2 : Int32} {x3 : Int32} (ho : (K o).1 = 13) {res : Int32} (E : f_X12_standOf K I R o x1 x2 x3 = some res) : Met l yX12_standOf (Cond.code yX12_standOf cX12_standOf 5 (some .int) :: tb) rX12_standOf (PX D cA bs Z [.ref o, .int x1, .int x2, .int x3] K n I J R) (QX D cA bs Z (some (.int res)) K n I J R) 0 0 (fun q => bs ≤ q) := by
  refine met_of (lv1 := [(0, va_rf (some o)), (1, .int x1), (2, .int x2), (3, .int x3)]) pn_X12 (by exact Nat.le_of_ble_eq_true rfl) (by rfl) ?_
  intro p e s m args below meth c C hn
  exact v_sub [0, 1, 2, 3] [(0, va_rf (some o)), (1, .int x1), (2, .int x2), (3, .int x3)] rfl (w_X12_standOf_0 C ho _ _ _ _ E)
set_option maxHeartbeats 4000000 in
theorem w_X12_findBest_258 (C : Cx D cA bs Z p s m args meth c cX12_findBest RX12 6 none) {o : Nat} {K : Sh} {n : Nat} {J : Jm} {R : Rf} (ho : (K o).1 = 13) (res : Im) (r89 : Int32 → Int32 → Im → Option (Im)) (hr89 : ∀ (x2 : Int32) (x3 : Int32) (I : Im), r89 x2 x3 I = some res → VW D cA bs Z p l e rX12_findBest s m args below meth c 6 [(0, va_rf (some o)), (2, .int x2), (3, .int x3)] K n I J R 0 0 (MQ below (QX D cA bs Z none K n res J R) args s 0 0 (fun q => bs ≤ q)) 89 [])  : ∀ (k : Nat), ∀ (x2 : Int32) (x3 : Int32) (x5 : Int32) (I : Im), f_X12_findBest_258 K R o r89 k x2 x3 x5 I = some res → VW D cA bs Z p l e rX12_findBest s m args below meth c 6 [(0, va_rf (some o)), (2, .int x2), (3, .int x3), (5, .int x5)] K n I J R 0 0 (MQ below (QX D cA bs Z none K n res J R) args s 0 0 (fun q => bs ≤ q)) 258 [] := by
  intro k
  induction k with
  | zero =>
    intro x2 x3 x5 I E
    have E : (none : Option (Im)) = some res := E
    cases E
  | succ k ih =>
    intro x2 x3 x5 I E
    unfold f_X12_findBest_258 at E
    refine v_iload C 3 dX12_findBest_258 rfl ?_
    refine v_aload_n (r := (some o)) C 0 dX12_findBest_260 rfl ?_
    refine v_getI (r := (some o)) C fa_X12_75 rfl rfl ho dX12_findBest_261 ?_
    refine v_icmp_ge C 289 E dX12_findBest_264 rfl (fun c3 E => ?_) (fun c3 E => ?_)
    · refine v_goto C 89 dX12_findBest_289 rfl ?_
      exact v_sub [0, 1, 2] [(0, va_rf (some o)), (2, .int x2), (3, .int x3)] rfl (hr89 _ _ _ E)
    · refine v_aload_n (r := (some o)) C 0 dX12_findBest_267 rfl ?_
      refine v_getR (r := (some o)) C fa_X12_135 rfl rfl ho dX12_findBest_268 ?_
      refine v_iload C 3 dX12_findBest_271 rfl ?_
      refine v_aload_n (r := (some o)) C 0 dX12_findBest_273 rfl ?_
      refine v_getR (r := (some o)) C fa_X12_138 rfl rfl ho dX12_findBest_274 ?_
      refine v_iload C 3 dX12_findBest_277 rfl ?_
      refine v_iald (r := (R o 42)) C E dX12_findBest_279 (fun v1 _ E => ?_)
      refine v_iconst C dX12_findBest_280 k_iconst_1 ?_
      refine v_isub C dX12_findBest_281 ?_
      refine v_iast (r := (R o 41)) C E dX12_findBest_282 (fun I2 _ E => ?_)
      refine v_iinc (v := x5 + 1) C 3 [(5, .int (x5 + 1)), (0, va_rf (some o)), (2, .int x2), (3, .int x3)] dX12_findBest_283 rfl (k_inc_1 _) (Nat.le_of_ble_eq_true rfl) rfl ?_
      refine v_goto C 258 dX12_findBest_286 rfl ?_
      exact v_sub [1, 2, 3, 0] [(0, va_rf (some o)), (2, .int x2), (3, .int x3), (5, .int (x5 + 1))] rfl (ih _ _ _ _ E)
set_option maxHeartbeats 4000000 in
theorem w_X12_findBest_250 (C : Cx D cA bs Z p s m args meth c cX12_findBest RX12 6 none) {o : Nat} {K : Sh} {n : Nat} {J : Jm} {R : Rf} (ho : (K o).1 = 13) (res : Im) (r89 : Int32 → Int32 → Im → Option (Im)) (hr89 : ∀ (x2 : Int32) (x3 : Int32) (I : Im), r89 x2 x3 I = some res → VW D cA bs Z p l e rX12_findBest s m args below meth c 6 [(0, va_rf (some o)), (2, .int x2), (3, .int x3)] K n I J R 0 0 (MQ below (QX D cA bs Z none K n res J R) args s 0 0 (fun q => bs ≤ q)) 89 []) (x3 : Int32) (I : Im) (E : f_X12_findBest_250 K R o r89 x3 I = some res) : VW D cA bs Z p l e rX12_findBest s m args below meth c 6 [(0, va_rf (some o)), (3, .int x3)] K n I J R 0 0 (MQ below (QX D cA bs Z none K n res J R) args s 0 0 (fun q => bs ≤ q)) 250 [] := by
  unfold f_X12_findBest_250 at E
  refine v_aload_n (r := (some o)) C 0 dX12_findBest_250 rfl ?_
  refine v_getI (r := (some o)) C fa_X12_153 rfl rfl ho dX12_findBest_251 ?_
  refine v_istore_n C [(2, .int (I o 47)), (0, va_rf (some o)), (3, .int x3)] dX12_findBest_254 (Nat.le_of_ble_eq_true rfl) rfl ?_
  refine v_iconst C dX12_findBest_255 k_iconst_0 ?_
  refine v_istore C [(5, .int 0), (2, .int (I o 47)), (0, va_rf (some o)), (3, .int x3)] dX12_findBest_256 (Nat.le_of_ble_eq_true rfl) rfl ?_
  exact v_sub [2, 1, 3, 0] [(0, va_rf (some o)), (2, .int (I o 47)), (3, .int x3), (5, .int 0)] rfl (w_X12_findBest_258 C ho res _ hr89 _ _ _ _ _ E)
set_option maxHeartbeats 4000000 in
theorem w_X12_findBest_89 (C : Cx D cA bs Z p s m args meth c cX12_findBest RX12 6 none) {o : Nat} {K : Sh} {n : Nat} {J : Jm} {R : Rf} (ho : (K o).1 = 13) (res : Im)  : ∀ (k : Nat), ∀ (x2 : Int32) (x3 : Int32) (I : Im), f_X12_findBest_89 K R o k x2 x3 I = some res → VW D cA bs Z p l e rX12_findBest s m args below meth c 6 [(0, va_rf (some o)), (2, .int x2), (3, .int x3)] K n I J R 0 0 (MQ below (QX D cA bs Z none K n res J R) args s 0 0 (fun q => bs ≤ q)) 89 [] := by
  intro k
  induction k with
  | zero =>
    intro x2 x3 I E
    have E : (none : Option (Im)) = some res := E
    cases E
  | succ k ih =>
    intro x2 x3 I E
    unfold f_X12_findBest_89 at E
    refine v_iload_n C 2 dX12_findBest_89 rfl ?_
    refine v_if_lt C 292 E dX12_findBest_90 rfl (fun c30 E => ?_) (fun c30 E => ?_)
    · obtain rfl := Option.some.inj E
      exact v_vret C rfl dX12_findBest_292
    · refine v_aload_n (r := (some o)) C 0 dX12_findBest_93 rfl ?_
      refine v_getR (r := (some o)) C fa_X12_138 rfl rfl ho dX12_findBest_94 ?_
      refine v_iload_n C 2 dX12_findBest_97 rfl ?_
      refine v_iald (r := (R o 42)) C E dX12_findBest_98 (fun v4 _ E => ?_)
      refine v_bipush C dX12_findBest_99 k_bipush_6 ?_
      refine v_icmp_le C 110 E dX12_findBest_101 rfl (fun c29 E => ?_) (fun c29 E => ?_)
      · refine v_aload_n (r := (some o)) C 0 dX12_findBest_110 rfl ?_
        refine v_aload_n (r := (some o)) C 0 dX12_findBest_111 rfl ?_
        refine v_getR (r := (some o)) C fa_X12_141 rfl rfl ho dX12_findBest_112 ?_
        refine v_iload_n C 2 dX12_findBest_115 rfl ?_
        refine v_iald (r := (R o 43)) C E dX12_findBest_116 (fun v5 _ E => ?_)
        refine v_putI (r := (some o)) C fa_X12_153 rfl E rfl ho ⟨rfl, rfl⟩ dX12_findBest_117 (fun I6 _ E => ?_)
        refine v_aload_n (r := (some o)) C 0 dX12_findBest_120 rfl ?_
        refine v_aload_n (r := (some o)) C 0 dX12_findBest_121 rfl ?_
        refine v_getR (r := (some o)) C fa_X12_144 rfl rfl ho dX12_findBest_122 ?_
        refine v_iload_n C 2 dX12_findBest_125 rfl ?_
        refine v_iald (r := (R o 44)) C E dX12_findBest_126 (fun v7 _ E => ?_)
        refine v_putI (r := (some o)) C fa_X12_156 rfl E rfl ho ⟨rfl, rfl⟩ dX12_findBest_127 (fun I8 _ E => ?_)
        refine v_aload_n (r := (some o)) C 0 dX12_findBest_130 rfl ?_
        refine v_getR (r := (some o)) C fa_X12_138 rfl rfl ho dX12_findBest_131 ?_
        refine v_iload_n C 2 dX12_findBest_134 rfl ?_
        refine v_iald (r := (R o 42)) C E dX12_findBest_135 (fun v9 _ E => ?_)
        refine v_istore C [(4, .int v9), (0, va_rf (some o)), (2, .int x2), (3, .int x3)] dX12_findBest_136 (Nat.le_of_ble_eq_true rfl) rfl ?_
        refine v_aload_n (r := (some o)) C 1 dX12_findBest_138 rfl ?_
        refine v_getR (r := (some o)) C fa_X12_138 rfl rfl ho dX12_findBest_139 ?_
        refine v_iload_n C 3 dX12_findBest_142 rfl ?_
        refine v_dup2 C dX12_findBest_143 rfl (rf_cat _) ?_
        refine v_iald (r := (R o 42)) C E dX12_findBest_144 (fun v10 _ E => ?_)
        refine v_iconst C dX12_findBest_145 k_iconst_1 ?_
        refine v_iadd C dX12_findBest_146 ?_
        refine v_iast (r := (R o 42)) C E dX12_findBest_147 (fun I11 _ E => ?_)
        refine v_aload_n (r := (some o)) C 1 dX12_findBest_148 rfl ?_
        refine v_iload C 0 dX12_findBest_149 rfl ?_
        obtain ⟨q12, h13, E⟩ := bnd E
        refine v_callV (r := (some o)) (As := [.int v9]) (rv := (some (.int q12.1))) (st := []) (st1 := [.int q12.1]) (ce1 := 0) (sl1 := 0) C cv_X12_332 (c_X12_standsFor (x1 := v9) ho h13) rfl ho rfl rfl ⟨rfl, rfl, Nat.le_of_ble_eq_true rfl, Nat.le_of_ble_eq_true rfl⟩ ⟨Nat.le_of_ble_eq_true rfl, Nat.le_of_ble_eq_true rfl⟩ (Nat.le_of_ble_eq_true rfl) rfl rfl rfl dX12_findBest_151 ?_
        refine v_if_ne C 160 E dX12_findBest_154 rfl (fun c28 E => ?_) (fun c28 E => ?_)
        · refine v_goto C 89 dX12_findBest_157 rfl ?_
          exact v_sub [1, 2, 3] [(0, va_rf (some o)), (2, .int x2), (3, .int x3)] rfl (ih _ _ _ E)
        · refine v_aload_n (r := (some o)) C 1 dX12_findBest_160 rfl ?_
          refine v_iload_n C 3 dX12_findBest_161 rfl ?_
          refine v_iconst C dX12_findBest_162 k_iconst_0 ?_
          obtain ⟨q14, h15, E⟩ := bnd E
          refine v_callV (r := (some o)) (As := [.int x3, .int 0]) (rv := none) (st := []) (st1 := []) (ce1 := 0) (sl1 := 0) C cv_X12_341 (c_X12_drawsAt (x1 := x3) (x2 := 0) ho h15) rfl ho rfl rfl ⟨rfl, rfl, Nat.le_of_ble_eq_true rfl, Nat.le_of_ble_eq_true rfl⟩ ⟨Nat.le_of_ble_eq_true rfl, Nat.le_of_ble_eq_true rfl⟩ (Nat.le_of_ble_eq_true rfl) rfl rfl rfl dX12_findBest_163 ?_
          refine v_aload_n (r := (some o)) C 1 dX12_findBest_166 rfl ?_
          refine v_iload_n C 3 dX12_findBest_167 rfl ?_
          refine v_iconst C dX12_findBest_168 k_iconst_1 ?_
          refine v_iadd C dX12_findBest_169 ?_
          obtain ⟨q16, h17, E⟩ := bnd E
          refine v_callV (r := (some o)) (As := [.int (x3 + 1)]) (rv := (some (.int q16.1))) (st := []) (st1 := [.int q16.1]) (ce1 := 0) (sl1 := 0) C cv_X12_335 (c_X12_goesWay (x1 := (x3 + 1)) ho h17) rfl ho rfl rfl ⟨rfl, rfl, Nat.le_of_ble_eq_true rfl, Nat.le_of_ble_eq_true rfl⟩ ⟨Nat.le_of_ble_eq_true rfl, Nat.le_of_ble_eq_true rfl⟩ (Nat.le_of_ble_eq_true rfl) rfl rfl rfl dX12_findBest_170 ?_
          refine v_if_ne C 179 E dX12_findBest_173 rfl (fun c27 E => ?_) (fun c27 E => ?_)
          · refine v_goto C 89 dX12_findBest_176 rfl ?_
            exact v_sub [1, 2, 3] [(0, va_rf (some o)), (2, .int x2), (3, .int x3)] rfl (ih _ _ _ E)
          · refine v_iload_n C 3 dX12_findBest_179 rfl ?_
            refine v_iconst C dX12_findBest_180 k_iconst_1 ?_
            refine v_iadd C dX12_findBest_181 ?_
            refine v_aload_n (r := (some o)) C 1 dX12_findBest_182 rfl ?_
            refine v_getI (r := (some o)) C fa_X12_75 rfl rfl ho dX12_findBest_183 ?_
            refine v_icmp_ge C 235 E dX12_findBest_186 rfl (fun c26 E => ?_) (fun c26 E => ?_)
            · refine v_iload_n C 2 dX12_findBest_235 rfl ?_
              refine v_if_lt C 250 E dX12_findBest_236 rfl (fun c19 E => ?_) (fun c19 E => ?_)
              · exact v_sub [1, 3] [(0, va_rf (some o)), (3, .int x3)] rfl (w_X12_findBest_250 C ho res _ ih _ _ E)
              · refine v_aload_n (r := (some o)) C 1 dX12_findBest_239 rfl ?_
                refine v_getI (r := (some o)) C fa_X12_153 rfl rfl ho dX12_findBest_240 ?_
                refine v_iload_n C 2 dX12_findBest_243 rfl ?_
                refine v_icmp_lt C 250 E dX12_findBest_244 rfl (fun c18 E => ?_) (fun c18 E => ?_)
                · exact v_sub [1, 3] [(0, va_rf (some o)), (3, .int x3)] rfl (w_X12_findBest_250 C ho res _ ih _ _ E)
                · refine v_goto C 89 dX12_findBest_247 rfl ?_
                  exact v_sub [1, 2, 3] [(0, va_rf (some o)), (2, .int x2), (3, .int x3)] rfl (ih _ _ _ E)
            · refine v_aload_n (r := (some o)) C 1 dX12_findBest_189 rfl ?_
              refine v_iload_n C 3 dX12_findBest_190 rfl ?_
              refine v_iconst C dX12_findBest_191 k_iconst_1 ?_
              refine v_iadd C dX12_findBest_192 ?_
              obtain ⟨q20, h21, E⟩ := bnd E
              refine v_callV (r := (some o)) (As := [.int (x3 + 1)]) (rv := (some (.int q20.1))) (st := []) (st1 := [.int q20.1]) (ce1 := 0) (sl1 := 0) C cv_X12_338 (c_X12_waitsAt (x1 := (x3 + 1)) ho h21) rfl ho rfl rfl ⟨rfl, rfl, Nat.le_of_ble_eq_true rfl, Nat.le_of_ble_eq_true rfl⟩ ⟨Nat.le_of_ble_eq_true rfl, Nat.le_of_ble_eq_true rfl⟩ (Nat.le_of_ble_eq_true rfl) rfl rfl rfl dX12_findBest_193 ?_
              refine v_if_ne C 202 E dX12_findBest_196 rfl (fun c25 E => ?_) (fun c25 E => ?_)
              · refine v_goto C 89 dX12_findBest_199 rfl ?_
                exact v_sub [1, 2, 3] [(0, va_rf (some o)), (2, .int x2), (3, .int x3)] rfl (ih _ _ _ E)
              · refine v_iinc (v := x3 + 1) C 3 [(3, .int (x3 + 1)), (4, .int v9), (0, va_rf (some o)), (2, .int x2)] dX12_findBest_202 rfl (k_inc_1 _) (Nat.le_of_ble_eq_true rfl) rfl ?_
                refine v_aload_n (r := (some o)) C 2 dX12_findBest_205 rfl ?_
                refine v_getR (r := (some o)) C fa_X12_141 rfl rfl ho dX12_findBest_206 ?_
                refine v_iload_n C 0 dX12_findBest_209 rfl ?_
                refine v_aload_n (r := (some o)) C 2 dX12_findBest_210 rfl ?_
                refine v_getI (r := (some o)) C fa_X12_153 rfl rfl ho dX12_findBest_211 ?_
                refine v_iast (r := (R o 43)) C E dX12_findBest_214 (fun I22 _ E => ?_)
                refine v_aload_n (r := (some o)) C 2 dX12_findBest_215 rfl ?_
                refine v_getR (r := (some o)) C fa_X12_144 rfl rfl ho dX12_findBest_216 ?_
                refine v_iload_n C 0 dX12_findBest_219 rfl ?_
                refine v_aload_n (r := (some o)) C 2 dX12_findBest_220 rfl ?_
                refine v_getI (r := (some o)) C fa_X12_156 rfl rfl ho dX12_findBest_221 ?_
                refine v_iast (r := (R o 44)) C E dX12_findBest_224 (fun I23 _ E => ?_)
                refine v_aload_n (r := (some o)) C 2 dX12_findBest_225 rfl ?_
                refine v_getR (r := (some o)) C fa_X12_138 rfl rfl ho dX12_findBest_226 ?_
                refine v_iload_n C 0 dX12_findBest_229 rfl ?_
                refine v_iconst C dX12_findBest_230 k_iconst_0 ?_
                refine v_iast (r := (R o 42)) C E dX12_findBest_231 (fun I24 _ E => ?_)
                refine v_goto C 89 dX12_findBest_232 rfl ?_
                exact v_sub [2, 3, 0] [(0, va_rf (some o)), (2, .int x2), (3, .int (x3 + 1))] rfl (ih _ _ _ E)
      · refine v_iinc (v := x3 - 1) C 2 [(3, .int (x3 - 1)), (0, va_rf (some o)), (2, .int x2)] dX12_findBest_104 rfl (k_inc_m1 _) (Nat.le_of_ble_eq_true rfl) rfl ?_
        refine v_goto C 89 dX12_findBest_107 rfl ?_
        exact v_sub [1, 2, 0] [(0, va_rf (some o)), (2, .int x2), (3, .int (x3 - 1))] rfl (ih _ _ _ E)
set_option maxHeartbeats 4000000 in
theorem w_X12_findBest_2 (C : Cx D cA bs Z p s m args meth c cX12_findBest RX12 6 none) {o : Nat} {K : Sh} {n : Nat} {J : Jm} {R : Rf} (ho : (K o).1 = 13) (res : Im)  : ∀ (k : Nat), ∀ (x1 : Int32) (x2 : Int32) (I : Im), f_X12_findBest_2 K R o k x1 x2 I = some res → VW D cA bs Z p l e rX12_findBest s m args below meth c 6 [(0, va_rf (some o)), (1, .int x1), (2, .int x2)] K n I J R 0 0 (MQ below (QX D cA bs Z none K n res J R) args s 0 0 (fun q => bs ≤ q)) 2 [] := by
  intro k
  induction k with
  | zero =>
    intro x1 x2 I E
    have E : (none : Option (Im)) = some res := E
    cases E
  | succ k ih =>
    intro x1 x2 I E
    unfold f_X12_findBest_2 at E
    refine v_iload_n C 2 dX12_findBest_2 rfl ?_
    refine v_bipush C dX12_findBest_3 k_bipush_6 ?_
    refine v_icmp_ge C 21 E dX12_findBest_5 rfl (fun c44 E => ?_) (fun c44 E => ?_)
    · refine v_aload_n (r := (some o)) C 0 dX12_findBest_21 rfl ?_
      refine v_iload_n C 1 dX12_findBest_22 rfl ?_
      refine v_putI (r := (some o)) C fa_X12_153 rfl E rfl ho ⟨rfl, rfl⟩ dX12_findBest_23 (fun I31 _ E => ?_)
      refine v_aload_n (r := (some o)) C 0 dX12_findBest_26 rfl ?_
      refine v_aload_n (r := (some o)) C 0 dX12_findBest_27 rfl ?_
      refine v_getI (r := (some o)) C fa_X12_150 rfl rfl ho dX12_findBest_28 ?_
      refine v_putI (r := (some o)) C fa_X12_156 rfl E rfl ho ⟨rfl, rfl⟩ dX12_findBest_31 (fun I32 _ E => ?_)
      refine v_aload_n (r := (some o)) C 0 dX12_findBest_34 rfl ?_
      refine v_getI (r := (some o)) C fa_X12_75 rfl rfl ho dX12_findBest_35 ?_
      refine v_if_eq C 57 E dX12_findBest_38 rfl (fun c42 E => ?_) (fun c42 E => ?_)
      · obtain rfl := Option.some.inj E
        exact v_vret C rfl dX12_findBest_57
      · refine v_aload_n (r := (some o)) C 0 dX12_findBest_41 rfl ?_
        refine v_iconst C dX12_findBest_42 k_iconst_0 ?_
        obtain ⟨q33, h34, E⟩ := bnd E
        refine v_callV (r := (some o)) (As := [.int 0]) (rv := (some (.int q33.1))) (st := []) (st1 := [.int q33.1]) (ce1 := 0) (sl1 := 0) C cv_X12_335 (c_X12_goesWay (x1 := 0) ho h34) rfl ho rfl rfl ⟨rfl, rfl, Nat.le_of_ble_eq_true rfl, Nat.le_of_ble_eq_true rfl⟩ ⟨Nat.le_of_ble_eq_true rfl, Nat.le_of_ble_eq_true rfl⟩ (Nat.le_of_ble_eq_true rfl) rfl rfl rfl dX12_findBest_43 ?_
        refine v_if_eq C 57 E dX12_findBest_46 rfl (fun c41 E => ?_) (fun c41 E => ?_)
        · obtain rfl := Option.some.inj E
          exact v_vret C rfl dX12_findBest_57
        · refine v_aload_n (r := (some o)) C 0 dX12_findBest_49 rfl ?_
          refine v_iconst C dX12_findBest_50 k_iconst_0 ?_
          obtain ⟨q35, h36, E⟩ := bnd E
          refine v_callV (r := (some o)) (As := [.int 0]) (rv := (some (.int q35.1))) (st := []) (st1 := [.int q35.1]) (ce1 := 0) (sl1 := 0) C cv_X12_338 (c_X12_waitsAt (x1 := 0) ho h36) rfl ho rfl rfl ⟨rfl, rfl, Nat.le_of_ble_eq_true rfl, Nat.le_of_ble_eq_true rfl⟩ ⟨Nat.le_of_ble_eq_true rfl, Nat.le_of_ble_eq_true rfl⟩ (Nat.le_of_ble_eq_true rfl) rfl rfl rfl dX12_findBest_51 ?_
          refine v_if_ne C 58 E dX12_findBest_54 rfl (fun c40 E => ?_) (fun c40 E => ?_)
          · obtain rfl := Option.some.inj E
            exact v_vret C rfl dX12_findBest_57
          · refine v_iconst C dX12_findBest_58 k_iconst_m1 ?_
            refine v_istore_n C [(2, .int (-1)), (0, va_rf (some o)), (1, .int x1)] dX12_findBest_59 (Nat.le_of_ble_eq_true rfl) rfl ?_
            refine v_iconst C dX12_findBest_60 k_iconst_0 ?_
            refine v_istore_n C [(3, .int 0), (2, .int (-1)), (0, va_rf (some o)), (1, .int x1)] dX12_findBest_61 (Nat.le_of_ble_eq_true rfl) rfl ?_
            refine v_aload_n (r := (some o)) C 2 dX12_findBest_62 rfl ?_
            refine v_getR (r := (some o)) C fa_X12_141 rfl rfl ho dX12_findBest_63 ?_
            refine v_iconst C dX12_findBest_66 k_iconst_0 ?_
            refine v_aload_n (r := (some o)) C 2 dX12_findBest_67 rfl ?_
            refine v_getI (r := (some o)) C fa_X12_153 rfl rfl ho dX12_findBest_68 ?_
            refine v_iast (r := (R o 43)) C E dX12_findBest_71 (fun I37 _ E => ?_)
            refine v_aload_n (r := (some o)) C 2 dX12_findBest_72 rfl ?_
            refine v_getR (r := (some o)) C fa_X12_144 rfl rfl ho dX12_findBest_73 ?_
            refine v_iconst C dX12_findBest_76 k_iconst_0 ?_
            refine v_aload_n (r := (some o)) C 2 dX12_findBest_77 rfl ?_
            refine v_getI (r := (some o)) C fa_X12_156 rfl rfl ho dX12_findBest_78 ?_
            refine v_iast (r := (R o 44)) C E dX12_findBest_81 (fun I38 _ E => ?_)
            refine v_aload_n (r := (some o)) C 2 dX12_findBest_82 rfl ?_
            refine v_getR (r := (some o)) C fa_X12_138 rfl rfl ho dX12_findBest_83 ?_
            refine v_iconst C dX12_findBest_86 k_iconst_0 ?_
            refine v_iconst C dX12_findBest_87 k_iconst_0 ?_
            refine v_iast (r := (R o 42)) C E dX12_findBest_88 (fun I39 _ E => ?_)
            exact v_sub [2, 1, 0] [(0, va_rf (some o)), (2, .int (-1)), (3, .int 0)] rfl (w_X12_findBest_89 C ho res  _ _ _ _ E)
    · refine v_aload_n (r := (some o)) C 0 dX12_findBest_8 rfl ?_
      refine v_getR (r := (some o)) C fa_X12_135 rfl rfl ho dX12_findBest_9 ?_
      refine v_iload_n C 2 dX12_findBest_12 rfl ?_
      refine v_iconst C dX12_findBest_13 k_iconst_0 ?_
      refine v_iast (r := (R o 41)) C E dX12_findBest_14 (fun I43 _ E => ?_)
      refine v_iinc (v := x2 + 1) C 2 [(2, .int (x2 + 1)), (0, va_rf (some o)), (1, .int x1)] dX12_findBest_15 rfl (k_inc_1 _) (Nat.le_of_ble_eq_true rfl) rfl ?_
      refine v_goto C 2 dX12_findBest_18 rfl ?_
      exact v_sub [1, 2, 0] [(0, va_rf (some o)), (1, .int x1), (2, .int (x2 + 1))] rfl (ih _ _ _ E)
set_option maxHeartbeats 4000000 in
theorem w_X12_findBest_0 (C : Cx D cA bs Z p s m args meth c cX12_findBest RX12 6 none) {o : Nat} {K : Sh} {n : Nat} {J : Jm} {R : Rf} (ho : (K o).1 = 13) (res : Im) (x1 : Int32) (I : Im) (E : f_X12_findBest K R o x1 I = some res) : VW D cA bs Z p l e rX12_findBest s m args below meth c 6 [(0, va_rf (some o)), (1, .int x1)] K n I J R 0 0 (MQ below (QX D cA bs Z none K n res J R) args s 0 0 (fun q => bs ≤ q)) 0 [] := by
  unfold f_X12_findBest at E
  refine v_iconst C dX12_findBest_0 k_iconst_0 ?_
  refine v_istore_n C [(2, .int 0), (0, va_rf (some o)), (1, .int x1)] dX12_findBest_1 (Nat.le_of_ble_eq_true rfl) rfl ?_
  exact v_sub [1, 2, 0] [(0, va_rf (some o)), (1, .int x1), (2, .int 0)] rfl (w_X12_findBest_2 C ho res  _ _ _ _ E)
set_option maxHeartbeats 4000000 in
theorem c_X12_findBest {n : Nat} {K : Sh} {I : Im} {J : Jm} {R : Rf} {o : Nat} {x1 : Int32} (ho : (K o).1 = 13) {res : Im} (E : f_X12_findBest K R o x1 I = some res) : Met l yX12_findBest (Cond.code yX12_findBest cX12_findBest 6 none :: tb) rX12_findBest (PX D cA bs Z [.ref o, .int x1] K n I J R) (QX D cA bs Z none K n res J R) 0 0 (fun q => bs ≤ q) := by
  refine met_of (lv1 := [(0, va_rf (some o)), (1, .int x1)]) pn_X12 (by exact Nat.le_of_ble_eq_true rfl) (by rfl) ?_
  intro p e s m args below meth c C hn
  exact v_sub [0, 1] [(0, va_rf (some o)), (1, .int x1)] rfl (w_X12_findBest_0 C ho _ _ _ E)
end WK6
