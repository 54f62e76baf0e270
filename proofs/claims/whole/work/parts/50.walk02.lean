section WK2
variable {D : va_G} {cA : Nat → ClassId} {bs : Nat} {Z : Nat → Nat} {p : Program} {l : Launch} {e : Env} {s : State} {m : MethodId} {args : Array Value} {below : List Frame} {meth : Method} {c : Code}
set_option maxHeartbeats 4000000 in
theorem w_X4_take_0 (C : Cx D cA bs Z p s m args meth c cX4_take RX4 2 none) {o : Nat} {K : Sh} {n : Nat} {J : Jm} {R : Rf} (ho : (K o).1 = 5) (res : Im) (x1 : Int32) (I : Im) (E : f_X4_take K R o x1 I = some res) : VW D cA bs Z p l e rX4_take s m args below meth c 2 [(0, va_rf (some o)), (1, .int x1)] K n I J R 0 0 (MQ below (QX D cA bs Z none K n res J R) args s 0 0 (fun q => bs ≤ q)) 0 [] := by
  unfold f_X4_take at E
  refine v_aload_n (r := (some o)) C 0 dX4_take_0 rfl ?_
  obtain ⟨q1, h2, E⟩ := bnd E
  refine v_callV (r := (some o)) (As := []) (rv := (some (.int q1))) (st := []) (st1 := [.int q1]) (ce1 := 0) (sl1 := 0) C cv_X4_51 (c_X4_next  ho h2) rfl ho rfl rfl ⟨rfl, rfl, Nat.le_of_ble_eq_true rfl, Nat.le_of_ble_eq_true rfl⟩ ⟨Nat.le_of_ble_eq_true rfl, Nat.le_of_ble_eq_true rfl⟩ (Nat.le_of_ble_eq_true rfl) rfl rfl rfl dX4_take_1 ?_
  refine v_iload_n C 1 dX4_take_4 rfl ?_
  refine v_icmp_ne C 21 E dX4_take_5 rfl (fun c5 E => ?_) (fun c5 E => ?_)
  · refine v_aload_n (r := (some o)) C 0 dX4_take_8 rfl ?_
    refine v_dup C dX4_take_9 (rf_cat _) ?_
    refine v_getI (r := (some o)) C fa_X4_37 rfl rfl ho dX4_take_10 ?_
    refine v_iconst C dX4_take_13 k_iconst_1 ?_
    refine v_iadd C dX4_take_14 ?_
    refine v_putI (r := (some o)) C fa_X4_37 rfl E rfl ho ⟨rfl, rfl⟩ dX4_take_15 (fun I4 _ E => ?_)
    refine v_goto C 26 dX4_take_18 rfl ?_
    obtain rfl := Option.some.inj E
    exact v_vret C rfl dX4_take_26
  · refine v_aload_n (r := (some o)) C 0 dX4_take_21 rfl ?_
    refine v_iconst C dX4_take_22 k_iconst_0 ?_
    refine v_putI (r := (some o)) C fa_X4_40 rfl E rfl ho (by decide) dX4_take_23 (fun I3 _ E => ?_)
    obtain rfl := Option.some.inj E
    exact v_vret C rfl dX4_take_26
set_option maxHeartbeats 4000000 in
theorem c_X4_take {n : Nat} {K : Sh} {I : Im} {J : Jm} {R : Rf} {o : Nat} {x1 : Int32} (ho : (K o).1 = 5) {res : Im} (E : f_X4_take K R o x1 I = some res) : Met l yX4_take (Cond.code yX4_take cX4_take 2 none :: tb) rX4_take (PX D cA bs Z [.ref o, .int x1] K n I J R) (QX D cA bs Z none K n res J R) 0 0 (fun q => bs ≤ q) := by
  refine met_of (lv1 := [(0, va_rf (some o)), (1, .int x1)]) pn_X4 (by exact Nat.le_of_ble_eq_true rfl) (by rfl) ?_
  intro p e s m args below meth c C hn
  exact v_sub [0, 1] [(0, va_rf (some o)), (1, .int x1)] rfl (w_X4_take_0 C ho _ _ _ E)
set_option maxHeartbeats 4000000 in
theorem w_X4_takeWord_2 (C : Cx D cA bs Z p s m args meth c cX4_takeWord RX4 3 none) {o : Nat} {K : Sh} {n : Nat} {J : Jm} {R : Rf} (ho : (K o).1 = 5) (res : Im)  : ∀ (k : Nat), ∀ (x1 : Option Nat) (x2 : Int32) (I : Im), f_X4_takeWord_2 Z K R o k x1 x2 I = some res → VW D cA bs Z p l e rX4_takeWord s m args below meth c 3 [(0, va_rf (some o)), (1, va_rf x1), (2, .int x2)] K n I J R 0 0 (MQ below (QX D cA bs Z none K n res J R) args s 0 0 (fun q => bs ≤ q)) 2 [] := by
  intro k
  induction k with
  | zero =>
    intro x1 x2 I E
    have E : (none : Option (Im)) = some res := E
    cases E
  | succ k ih =>
    intro x1 x2 I E
    unfold f_X4_takeWord_2 at E
    refine v_iload_n C 2 dX4_takeWord_2 rfl ?_
    refine v_aload_n (r := x1) C 1 dX4_takeWord_3 rfl ?_
    refine v_slen (r := x1) C E (Nat.le_of_ble_eq_true rfl) (Nat.le_of_ble_eq_true rfl) ⟨Nat.le_of_ble_eq_true rfl, Nat.le_of_ble_eq_true rfl⟩ (Nat.le_of_ble_eq_true rfl) dX4_takeWord_4 (fun v1 _ E => ?_)
    refine v_icmp_ge C 25 E dX4_takeWord_7 rfl (fun c7 E => ?_) (fun c7 E => ?_)
    · refine v_aload_n (r := (some o)) C 0 dX4_takeWord_25 rfl ?_
      refine v_bipush C dX4_takeWord_26 k_bipush_32 ?_
      obtain ⟨q2, h3, E⟩ := bnd E
      refine v_callV (r := (some o)) (As := [.int 32]) (rv := none) (st := []) (st1 := []) (ce1 := 0) (sl1 := 0) C cv_X4_70 (c_X4_take (x1 := 32) ho h3) rfl ho rfl rfl ⟨rfl, rfl, Nat.le_of_ble_eq_true rfl, Nat.le_of_ble_eq_true rfl⟩ ⟨Nat.le_of_ble_eq_true rfl, Nat.le_of_ble_eq_true rfl⟩ (Nat.le_of_ble_eq_true rfl) rfl rfl rfl dX4_takeWord_28 ?_
      obtain rfl := Option.some.inj E
      exact v_vret C rfl dX4_takeWord_31
    · refine v_aload_n (r := (some o)) C 0 dX4_takeWord_10 rfl ?_
      refine v_aload_n (r := x1) C 1 dX4_takeWord_11 rfl ?_
      refine v_iload_n C 2 dX4_takeWord_12 rfl ?_
      refine v_schr (r := x1) C E (Nat.le_of_ble_eq_true rfl) (Nat.le_of_ble_eq_true rfl) ⟨Nat.le_of_ble_eq_true rfl, Nat.le_of_ble_eq_true rfl⟩ (by simp only [List.map_cons, List.map_nil, List.sum_cons, List.sum_nil, rf_cat]; exact Nat.le_of_ble_eq_true rfl) dX4_takeWord_13 (fun v4 _ E => ?_)
      obtain ⟨q5, h6, E⟩ := bnd E
      refine v_callV (r := (some o)) (As := [.int v4]) (rv := none) (st := []) (st1 := []) (ce1 := 0) (sl1 := 0) C cv_X4_70 (c_X4_take (x1 := v4) ho h6) rfl ho rfl rfl ⟨rfl, rfl, Nat.le_of_ble_eq_true rfl, Nat.le_of_ble_eq_true rfl⟩ ⟨Nat.le_of_ble_eq_true rfl, Nat.le_of_ble_eq_true rfl⟩ (Nat.le_of_ble_eq_true rfl) rfl rfl rfl dX4_takeWord_16 ?_
      refine v_iinc (v := x2 + 1) C 2 [(2, .int (x2 + 1)), (0, va_rf (some o)), (1, va_rf x1)] dX4_takeWord_19 rfl (k_inc_1 _) (Nat.le_of_ble_eq_true rfl) (by generalize x1 = rr; cases rr <;> rfl) ?_
      refine v_goto C 2 dX4_takeWord_22 rfl ?_
      exact v_sub [1, 2, 0] [(0, va_rf (some o)), (1, va_rf x1), (2, .int (x2 + 1))] rfl (ih _ _ _ E)
set_option maxHeartbeats 4000000 in
theorem w_X4_takeWord_0 (C : Cx D cA bs Z p s m args meth c cX4_takeWord RX4 3 none) {o : Nat} {K : Sh} {n : Nat} {J : Jm} {R : Rf} (ho : (K o).1 = 5) (res : Im) (x1 : Option Nat) (I : Im) (E : f_X4_takeWord Z K R o x1 I = some res) : VW D cA bs Z p l e rX4_takeWord s m args below meth c 3 [(0, va_rf (some o)), (1, va_rf x1)] K n I J R 0 0 (MQ below (QX D cA bs Z none K n res J R) args s 0 0 (fun q => bs ≤ q)) 0 [] := by
  unfold f_X4_takeWord at E
  refine v_iconst C dX4_takeWord_0 k_iconst_0 ?_
  refine v_istore_n C [(2, .int 0), (0, va_rf (some o)), (1, va_rf x1)] dX4_takeWord_1 (Nat.le_of_ble_eq_true rfl) (by generalize x1 = rr; cases rr <;> rfl) ?_
  exact v_sub [1, 2, 0] [(0, va_rf (some o)), (1, va_rf x1), (2, .int 0)] rfl (w_X4_takeWord_2 C ho res  _ _ _ _ E)
set_option maxHeartbeats 4000000 in
theorem c_X4_takeWord {n : Nat} {K : Sh} {I : Im} {J : Jm} {R : Rf} {o : Nat} {x1 : Option Nat} (ho : (K o).1 = 5) {res : Im} (E : f_X4_takeWord Z K R o x1 I = some res) : Met l yX4_takeWord (Cond.code yX4_takeWord cX4_takeWord 3 none :: tb) rX4_takeWord (PX D cA bs Z [.ref o, va_rf x1] K n I J R) (QX D cA bs Z none K n res J R) 0 0 (fun q => bs ≤ q) := by
  refine met_of (lv1 := [(0, va_rf (some o)), (1, va_rf x1)]) pn_X4 (by cases x1 <;> exact Nat.le_of_ble_eq_true rfl) (by cases x1 <;> rfl) ?_
  intro p e s m args below meth c C hn
  exact v_sub [0, 1] [(0, va_rf (some o)), (1, va_rf x1)] rfl (w_X4_takeWord_0 C ho _ _ _ E)
set_option maxHeartbeats 4000000 in
theorem w_X4_readNumber_53 (C : Cx D cA bs Z p s m args meth c cX4_readNumber RX4 5 (some .int)) {o : Nat} {K : Sh} {n : Nat} {J : Jm} {R : Rf} (ho : (K o).1 = 5) (res : Int32 × Im) (r4 : Int32 → Int32 → Int32 → Im → Option (Int32 × Im)) (hr4 : ∀ (x1 : Int32) (x2 : Int32) (x3 : Int32) (I : Im), r4 x1 x2 x3 I = some res → VW D cA bs Z p l e rX4_readNumber s m args below meth c 5 [(0, va_rf (some o)), (1, .int x1), (2, .int x2), (3, .int x3)] K n I J R 0 0 (MQ below (QX D cA bs Z (some (.int res.1)) K n res.2 J R) args s 0 0 (fun q => bs ≤ q)) 4 []) (x1 : Int32) (x2 : Int32) (x3 : Int32) (I : Im) (E : f_X4_readNumber_53 K R o r4 x1 x2 x3 I = some res) : VW D cA bs Z p l e rX4_readNumber s m args below meth c 5 [(0, va_rf (some o)), (1, .int x1), (2, .int x2), (3, .int x3)] K n I J R 0 0 (MQ below (QX D cA bs Z (some (.int res.1)) K n res.2 J R) args s 0 0 (fun q => bs ≤ q)) 53 [] := by
  unfold f_X4_readNumber_53 at E
  refine v_iload_n C 3 dX4_readNumber_53 rfl ?_
  refine v_if_ne C 65 E dX4_readNumber_54 rfl (fun c2 E => ?_) (fun c2 E => ?_)
  · refine v_aload_n (r := (some o)) C 0 dX4_readNumber_57 rfl ?_
    refine v_iconst C dX4_readNumber_58 k_iconst_0 ?_
    refine v_putI (r := (some o)) C fa_X4_40 rfl E rfl ho (by decide) dX4_readNumber_59 (fun I1 _ E => ?_)
    refine v_goto C 67 dX4_readNumber_62 rfl ?_
    refine v_iinc (v := x3 + 1) C 3 [(3, .int (x3 + 1)), (0, va_rf (some o)), (1, .int x1), (2, .int x2)] dX4_readNumber_67 rfl (k_inc_1 _) (Nat.le_of_ble_eq_true rfl) rfl ?_
    refine v_goto C 4 dX4_readNumber_70 rfl ?_
    exact v_sub [1, 2, 3, 0] [(0, va_rf (some o)), (1, .int x1), (2, .int x2), (3, .int (x3 + 1))] rfl (hr4 _ _ _ _ E)
  · refine v_iload_n C 2 dX4_readNumber_65 rfl ?_
    obtain rfl := Option.some.inj E
    exact v_iret C rfl dX4_readNumber_66
set_option maxHeartbeats 4000000 in
theorem w_X4_readNumber_4 (C : Cx D cA bs Z p s m args meth c cX4_readNumber RX4 5 (some .int)) {o : Nat} {K : Sh} {n : Nat} {J : Jm} {R : Rf} (ho : (K o).1 = 5) (res : Int32 × Im)  : ∀ (k : Nat), ∀ (x1 : Int32) (x2 : Int32) (x3 : Int32) (I : Im), f_X4_readNumber_4 K R o k x1 x2 x3 I = some res → VW D cA bs Z p l e rX4_readNumber s m args below meth c 5 [(0, va_rf (some o)), (1, .int x1), (2, .int x2), (3, .int x3)] K n I J R 0 0 (MQ below (QX D cA bs Z (some (.int res.1)) K n res.2 J R) args s 0 0 (fun q => bs ≤ q)) 4 [] := by
  intro k
  induction k with
  | zero =>
    intro x1 x2 x3 I E
    have E : (none : Option (Int32 × Im)) = some res := E
    cases E
  | succ k ih =>
    intro x1 x2 x3 I E
    unfold f_X4_readNumber_4 at E
    refine v_iload_n C 3 dX4_readNumber_4 rfl ?_
    refine v_iload_n C 1 dX4_readNumber_5 rfl ?_
    refine v_icmp_ge C 73 E dX4_readNumber_6 rfl (fun c8 E => ?_) (fun c8 E => ?_)
    · refine v_iload_n C 2 dX4_readNumber_73 rfl ?_
      obtain rfl := Option.some.inj E
      exact v_iret C rfl dX4_readNumber_74
    · refine v_aload_n (r := (some o)) C 0 dX4_readNumber_9 rfl ?_
      obtain ⟨q3, h4, E⟩ := bnd E
      refine v_callV (r := (some o)) (As := []) (rv := (some (.int q3))) (st := []) (st1 := [.int q3]) (ce1 := 0) (sl1 := 0) C cv_X4_51 (c_X4_next  ho h4) rfl ho rfl rfl ⟨rfl, rfl, Nat.le_of_ble_eq_true rfl, Nat.le_of_ble_eq_true rfl⟩ ⟨Nat.le_of_ble_eq_true rfl, Nat.le_of_ble_eq_true rfl⟩ (Nat.le_of_ble_eq_true rfl) rfl rfl rfl dX4_readNumber_10 ?_
      refine v_istore C [(4, .int q3), (0, va_rf (some o)), (1, .int x1), (2, .int x2), (3, .int x3)] dX4_readNumber_13 (Nat.le_of_ble_eq_true rfl) rfl ?_
      refine v_iload C 0 dX4_readNumber_15 rfl ?_
      refine v_bipush C dX4_readNumber_17 k_bipush_48 ?_
      refine v_icmp_lt C 53 E dX4_readNumber_19 rfl (fun c7 E => ?_) (fun c7 E => ?_)
      · exact v_sub [1, 2, 3, 4] [(0, va_rf (some o)), (1, .int x1), (2, .int x2), (3, .int x3)] rfl (w_X4_readNumber_53 C ho res _ ih _ _ _ _ E)
      · refine v_iload C 0 dX4_readNumber_22 rfl ?_
        refine v_bipush C dX4_readNumber_24 k_bipush_57 ?_
        refine v_icmp_gt C 53 E dX4_readNumber_26 rfl (fun c6 E => ?_) (fun c6 E => ?_)
        · exact v_sub [1, 2, 3, 4] [(0, va_rf (some o)), (1, .int x1), (2, .int x2), (3, .int x3)] rfl (w_X4_readNumber_53 C ho res _ ih _ _ _ _ E)
        · refine v_iload_n C 3 dX4_readNumber_29 rfl ?_
          refine v_bipush C dX4_readNumber_30 k_bipush_10 ?_
          refine v_imul C dX4_readNumber_32 ?_
          refine v_iload C 0 dX4_readNumber_33 rfl ?_
          refine v_iadd C dX4_readNumber_35 ?_
          refine v_bipush C dX4_readNumber_36 k_bipush_48 ?_
          refine v_isub C dX4_readNumber_38 ?_
          refine v_istore_n C [(2, .int (((x2 * 10) + q3) - 48)), (4, .int q3), (0, va_rf (some o)), (1, .int x1), (3, .int x3)] dX4_readNumber_39 (Nat.le_of_ble_eq_true rfl) rfl ?_
          refine v_aload_n (r := (some o)) C 2 dX4_readNumber_40 rfl ?_
          refine v_dup C dX4_readNumber_41 (rf_cat _) ?_
          refine v_getI (r := (some o)) C fa_X4_37 rfl rfl ho dX4_readNumber_42 ?_
          refine v_iconst C dX4_readNumber_45 k_iconst_1 ?_
          refine v_iadd C dX4_readNumber_46 ?_
          refine v_putI (r := (some o)) C fa_X4_37 rfl E rfl ho ⟨rfl, rfl⟩ dX4_readNumber_47 (fun I5 _ E => ?_)
          refine v_goto C 67 dX4_readNumber_50 rfl ?_
          refine v_iinc (v := x3 + 1) C 4 [(3, .int (x3 + 1)), (2, .int (((x2 * 10) + q3) - 48)), (4, .int q3), (0, va_rf (some o)), (1, .int x1)] dX4_readNumber_67 rfl (k_inc_1 _) (Nat.le_of_ble_eq_true rfl) rfl ?_
          refine v_goto C 4 dX4_readNumber_70 rfl ?_
          exact v_sub [3, 4, 1, 0] [(0, va_rf (some o)), (1, .int x1), (2, .int (((x2 * 10) + q3) - 48)), (3, .int (x3 + 1))] rfl (ih _ _ _ _ E)
set_option maxHeartbeats 4000000 in
theorem w_X4_readNumber_0 (C : Cx D cA bs Z p s m args meth c cX4_readNumber RX4 5 (some .int)) {o : Nat} {K : Sh} {n : Nat} {J : Jm} {R : Rf} (ho : (K o).1 = 5) (res : Int32 × Im) (x1 : Int32) (I : Im) (E : f_X4_readNumber K R o x1 I = some res) : VW D cA bs Z p l e rX4_readNumber s m args below meth c 5 [(0, va_rf (some o)), (1, .int x1)] K n I J R 0 0 (MQ below (QX D cA bs Z (some (.int res.1)) K n res.2 J R) args s 0 0 (fun q => bs ≤ q)) 0 [] := by
  unfold f_X4_readNumber at E
  refine v_iconst C dX4_readNumber_0 k_iconst_0 ?_
  refine v_istore_n C [(2, .int 0), (0, va_rf (some o)), (1, .int x1)] dX4_readNumber_1 (Nat.le_of_ble_eq_true rfl) rfl ?_
  refine v_iconst C dX4_readNumber_2 k_iconst_0 ?_
  refine v_istore_n C [(3, .int 0), (2, .int 0), (0, va_rf (some o)), (1, .int x1)] dX4_readNumber_3 (Nat.le_of_ble_eq_true rfl) rfl ?_
  exact v_sub [2, 3, 1, 0] [(0, va_rf (some o)), (1, .int x1), (2, .int 0), (3, .int 0)] rfl (w_X4_readNumber_4 C ho res  _ _ _ _ _ E)
set_option maxHeartbeats 4000000 in
theorem c_X4_readNumber {n : Nat} {K : Sh} {I : Im} {J : Jm} {R : Rf} {o : Nat} {x1 : Int32} (ho : (K o).1 = 5) {res : Int32 × Im} (E : f_X4_readNumber K R o x1 I = some res) : Met l yX4_readNumber (Cond.code yX4_readNumber cX4_readNumber 5 (some .int) :: tb) rX4_readNumber (PX D cA bs Z [.ref o, .int x1] K n I J R) (QX D cA bs Z (some (.int res.1)) K n res.2 J R) 0 0 (fun q => bs ≤ q) := by
  refine met_of (lv1 := [(0, va_rf (some o)), (1, .int x1)]) pn_X4 (by exact Nat.le_of_ble_eq_true rfl) (by rfl) ?_
  intro p e s m args below meth c C hn
  exact v_sub [0, 1] [(0, va_rf (some o)), (1, .int x1)] rfl (w_X4_readNumber_0 C ho _ _ _ E)
set_option maxHeartbeats 4000000 in
theorem w_X9_addWay_0 (C : Cx D cA bs Z p s m args meth c cX9_addWay RX9 2 none) {o : Nat} {K : Sh} {n : Nat} {J : Jm} {R : Rf} (ho : (K o).1 = 10) (res : Im) (x1 : Int32) (I : Im) (E : f_X9_addWay K R o x1 I = some res) : VW D cA bs Z p l e rX9_addWay s m args below meth c 2 [(0, va_rf (some o)), (1, .int x1)] K n I J R 0 0 (MQ below (QX D cA bs Z none K n res J R) args s 0 0 (fun q => bs ≤ q)) 0 [] := by
  unfold f_X9_addWay at E
  refine v_aload_n (r := (some o)) C 0 dX9_addWay_0 rfl ?_
  refine v_getI (r := (some o)) C fa_X9_28 rfl rfl ho dX9_addWay_1 ?_
  refine v_bipush C dX9_addWay_4 k_bipush_6 ?_
  refine v_icmp_ge C 33 E dX9_addWay_6 rfl (fun c3 E => ?_) (fun c3 E => ?_)
  · obtain rfl := Option.some.inj E
    exact v_vret C rfl dX9_addWay_33
  · refine v_aload_n (r := (some o)) C 0 dX9_addWay_9 rfl ?_
    refine v_getR (r := (some o)) C fa_X9_18 rfl rfl ho dX9_addWay_10 ?_
    refine v_aload_n (r := (some o)) C 0 dX9_addWay_13 rfl ?_
    refine v_getI (r := (some o)) C fa_X9_28 rfl rfl ho dX9_addWay_14 ?_
    refine v_iload_n C 1 dX9_addWay_17 rfl ?_
    refine v_iconst C dX9_addWay_18 k_iconst_1 ?_
    refine v_max C mx_X9_40 (Nat.le_of_ble_eq_true rfl) ((by simp only [List.map_cons, List.map_nil, List.sum_cons, List.sum_nil, rf_cat]; exact Nat.le_of_ble_eq_true rfl)) (Nat.le_of_ble_eq_true rfl) (Nat.le_of_ble_eq_true rfl) dX9_addWay_19 ?_
    refine v_iast (r := (R o 7)) C E dX9_addWay_22 (fun I1 _ E => ?_)
    refine v_aload_n (r := (some o)) C 0 dX9_addWay_23 rfl ?_
    refine v_dup C dX9_addWay_24 (rf_cat _) ?_
    refine v_getI (r := (some o)) C fa_X9_28 rfl rfl ho dX9_addWay_25 ?_
    refine v_iconst C dX9_addWay_28 k_iconst_1 ?_
    refine v_iadd C dX9_addWay_29 ?_
    refine v_putI (r := (some o)) C fa_X9_28 rfl E rfl ho ⟨rfl, rfl⟩ dX9_addWay_30 (fun I2 _ E => ?_)
    obtain rfl := Option.some.inj E
    exact v_vret C rfl dX9_addWay_33
set_option maxHeartbeats 4000000 in
theorem c_X9_addWay {n : Nat} {K : Sh} {I : Im} {J : Jm} {R : Rf} {o : Nat} {x1 : Int32} (ho : (K o).1 = 10) {res : Im} (E : f_X9_addWay K R o x1 I = some res) : Met l yX9_addWay (Cond.code yX9_addWay cX9_addWay 2 none :: tb) rX9_addWay (PX D cA bs Z [.ref o, .int x1] K n I J R) (QX D cA bs Z none K n res J R) 0 0 (fun q => bs ≤ q) := by
  refine met_of (lv1 := [(0, va_rf (some o)), (1, .int x1)]) pn_X9 (by exact Nat.le_of_ble_eq_true rfl) (by rfl) ?_
  intro p e s m args below meth c C hn
  exact v_sub [0, 1] [(0, va_rf (some o)), (1, .int x1)] rfl (w_X9_addWay_0 C ho _ _ _ E)
set_option maxHeartbeats 4000000 in
theorem w_X9_addWell_0 (C : Cx D cA bs Z p s m args meth c cX9_addWell RX9 3 none) {o : Nat} {K : Sh} {n : Nat} {J : Jm} {R : Rf} (ho : (K o).1 = 10) (res : Im) (x1 : Int32) (x2 : Int32) (I : Im) (E : f_X9_addWell K R o x1 x2 I = some res) : VW D cA bs Z p l e rX9_addWell s m args below meth c 3 [(0, va_rf (some o)), (1, .int x1), (2, .int x2)] K n I J R 0 0 (MQ below (QX D cA bs Z none K n res J R) args s 0 0 (fun q => bs ≤ q)) 0 [] := by
  unfold f_X9_addWell at E
  refine v_aload_n (r := (some o)) C 0 dX9_addWell_0 rfl ?_
  refine v_getI (r := (some o)) C fa_X9_24 rfl rfl ho dX9_addWell_1 ?_
  refine v_iconst C dX9_addWell_4 k_iconst_5 ?_
  refine v_icmp_ge C 38 E dX9_addWell_5 rfl (fun c4 E => ?_) (fun c4 E => ?_)
  · obtain rfl := Option.some.inj E
    exact v_vret C rfl dX9_addWell_38
  · refine v_aload_n (r := (some o)) C 0 dX9_addWell_8 rfl ?_
    refine v_getR (r := (some o)) C fa_X9_9 rfl rfl ho dX9_addWell_9 ?_
    refine v_aload_n (r := (some o)) C 0 dX9_addWell_12 rfl ?_
    refine v_getI (r := (some o)) C fa_X9_24 rfl rfl ho dX9_addWell_13 ?_
    refine v_iload_n C 1 dX9_addWell_16 rfl ?_
    refine v_iast (r := (R o 5)) C E dX9_addWell_17 (fun I1 _ E => ?_)
    refine v_aload_n (r := (some o)) C 0 dX9_addWell_18 rfl ?_
    refine v_getR (r := (some o)) C fa_X9_15 rfl rfl ho dX9_addWell_19 ?_
    refine v_aload_n (r := (some o)) C 0 dX9_addWell_22 rfl ?_
    refine v_getI (r := (some o)) C fa_X9_24 rfl rfl ho dX9_addWell_23 ?_
    refine v_iload_n C 2 dX9_addWell_26 rfl ?_
    refine v_iast (r := (R o 6)) C E dX9_addWell_27 (fun I2 _ E => ?_)
    refine v_aload_n (r := (some o)) C 0 dX9_addWell_28 rfl ?_
    refine v_dup C dX9_addWell_29 (rf_cat _) ?_
    refine v_getI (r := (some o)) C fa_X9_24 rfl rfl ho dX9_addWell_30 ?_
    refine v_iconst C dX9_addWell_33 k_iconst_1 ?_
    refine v_iadd C dX9_addWell_34 ?_
    refine v_putI (r := (some o)) C fa_X9_24 rfl E rfl ho ⟨rfl, rfl⟩ dX9_addWell_35 (fun I3 _ E => ?_)
    obtain rfl := Option.some.inj E
    exact v_vret C rfl dX9_addWell_38
set_option maxHeartbeats 4000000 in
theorem c_X9_addWell {n : Nat} {K : Sh} {I : Im} {J : Jm} {R : Rf} {o : Nat} {x1 : Int32} {x2 : Int32} (ho : (K o).1 = 10) {res : Im} (E : f_X9_addWell K R o x1 x2 I = some res) : Met l yX9_addWell (Cond.code yX9_addWell cX9_addWell 3 none :: tb) rX9_addWell (PX D cA bs Z [.ref o, .int x1, .int x2] K n I J R) (QX D cA bs Z none K n res J R) 0 0 (fun q => bs ≤ q) := by
  refine met_of (lv1 := [(0, va_rf (some o)), (1, .int x1), (2, .int x2)]) pn_X9 (by exact Nat.le_of_ble_eq_true rfl) (by rfl) ?_
  intro p e s m args below meth c C hn
  exact v_sub [0, 1, 2] [(0, va_rf (some o)), (1, .int x1), (2, .int x2)] rfl (w_X9_addWell_0 C ho _ _ _ _ E)
set_option maxHeartbeats 4000000 in
theorem w_X4_readWellOrWay_45 (C : Cx D cA bs Z p s m args meth c cX4_readWellOrWay RX4 3 none) {o : Nat} {K : Sh} {n : Nat} {J : Jm} {R : Rf} (ho : (K o).1 = 5) (res : Im) (x1 : Option Nat) (I : Im) (E : f_X4_readWellOrWay_45 Z K R o x1 I = some res) : VW D cA bs Z p l e rX4_readWellOrWay s m args below meth c 3 [(0, va_rf (some o)), (1, va_rf x1)] K n I J R 0 0 (MQ below (QX D cA bs Z none K n res J R) args s 0 0 (fun q => bs ≤ q)) 45 [] := by
  unfold f_X4_readWellOrWay_45 at E
  refine v_aload_n (r := (some o)) C 0 dX4_readWellOrWay_45 rfl ?_
  refine v_ldcS C 5 (by decide) dX4_readWellOrWay_46 ?_
  obtain ⟨q1, h2, E⟩ := bnd E
  refine v_callV (r := (some o)) (As := [va_rf (some (Z 15))]) (rv := none) (st := []) (st1 := []) (ce1 := 0) (sl1 := 0) C cv_X4_79 (c_X4_takeWord (x1 := (some (Z 15))) ho h2) rfl ho rfl rfl ⟨rfl, rfl, Nat.le_of_ble_eq_true rfl, Nat.le_of_ble_eq_true rfl⟩ ⟨Nat.le_of_ble_eq_true rfl, Nat.le_of_ble_eq_true rfl⟩ (Nat.le_of_ble_eq_true rfl) rfl rfl rfl dX4_readWellOrWay_48 ?_
  refine v_aload_n (r := (some o)) C 0 dX4_readWellOrWay_51 rfl ?_
  refine v_iconst C dX4_readWellOrWay_52 k_iconst_2 ?_
  obtain ⟨q3, h4, E⟩ := bnd E
  refine v_callV (r := (some o)) (As := [.int 2]) (rv := (some (.int q3.1))) (st := []) (st1 := [.int q3.1]) (ce1 := 0) (sl1 := 0) C cv_X4_83 (c_X4_readNumber (x1 := 2) ho h4) rfl ho rfl rfl ⟨rfl, rfl, Nat.le_of_ble_eq_true rfl, Nat.le_of_ble_eq_true rfl⟩ ⟨Nat.le_of_ble_eq_true rfl, Nat.le_of_ble_eq_true rfl⟩ (Nat.le_of_ble_eq_true rfl) rfl rfl rfl dX4_readWellOrWay_53 ?_
  refine v_istore_n C [(2, .int q3.1), (0, va_rf (some o)), (1, va_rf x1)] dX4_readWellOrWay_56 (Nat.le_of_ble_eq_true rfl) (by generalize x1 = rr; cases rr <;> rfl) ?_
  refine v_aload_n (r := (some o)) C 1 dX4_readWellOrWay_57 rfl ?_
  refine v_bipush C dX4_readWellOrWay_58 k_bipush_32 ?_
  obtain ⟨q5, h6, E⟩ := bnd E
  refine v_callV (r := (some o)) (As := [.int 32]) (rv := none) (st := []) (st1 := []) (ce1 := 0) (sl1 := 0) C cv_X4_70 (c_X4_take (x1 := 32) ho h6) rfl ho rfl rfl ⟨rfl, rfl, Nat.le_of_ble_eq_true rfl, Nat.le_of_ble_eq_true rfl⟩ ⟨Nat.le_of_ble_eq_true rfl, Nat.le_of_ble_eq_true rfl⟩ (Nat.le_of_ble_eq_true rfl) rfl rfl rfl dX4_readWellOrWay_60 ?_
  refine v_aload_n (r := x1) C 2 dX4_readWellOrWay_63 rfl ?_
  refine v_iload_n C 0 dX4_readWellOrWay_64 rfl ?_
  refine v_aload_n (r := (some o)) C 1 dX4_readWellOrWay_65 rfl ?_
  refine v_iconst C dX4_readWellOrWay_66 k_iconst_2 ?_
  obtain ⟨q7, h8, E⟩ := bnd E
  refine v_callV (r := (some o)) (As := [.int 2]) (rv := (some (.int q7.1))) (st := [.int q3.1, va_rf x1]) (st1 := [.int q7.1, .int q3.1, va_rf x1]) (ce1 := 0) (sl1 := 0) C cv_X4_83 (c_X4_readNumber (x1 := 2) ho h8) rfl ho rfl rfl ⟨rfl, rfl, Nat.le_of_ble_eq_true rfl, Nat.le_of_ble_eq_true rfl⟩ ⟨Nat.le_of_ble_eq_true rfl, Nat.le_of_ble_eq_true rfl⟩ (by simp only [List.map_cons, List.map_nil, List.sum_cons, List.sum_nil, rf_cat]; exact Nat.le_of_ble_eq_true rfl) rfl rfl rfl dX4_readWellOrWay_67 ?_
  obtain ⟨a9, h10, E⟩ := bnd E
  obtain ⟨hra9, hoa9⟩ := ob_is h10
  obtain ⟨q11, h12, E⟩ := bnd E
  refine v_callV (r := x1) (As := [.int q3.1, .int q7.1]) (rv := none) (st := []) (st1 := []) (ce1 := 0) (sl1 := 0) C cv_X4_114 (c_X9_addWell (x1 := q3.1) (x2 := q7.1) hoa9 h12) hra9 hoa9 rfl rfl ⟨rfl, rfl, Nat.le_of_ble_eq_true rfl, Nat.le_of_ble_eq_true rfl⟩ ⟨Nat.le_of_ble_eq_true rfl, Nat.le_of_ble_eq_true rfl⟩ (Nat.le_of_ble_eq_true rfl) rfl rfl rfl dX4_readWellOrWay_70 ?_
  obtain rfl := Option.some.inj E
  exact v_vret C rfl dX4_readWellOrWay_73
set_option maxHeartbeats 4000000 in
theorem w_X4_readWellOrWay_0 (C : Cx D cA bs Z p s m args meth c cX4_readWellOrWay RX4 3 none) {o : Nat} {K : Sh} {n : Nat} {J : Jm} {R : Rf} (ho : (K o).1 = 5) (res : Im) (x1 : Option Nat) (I : Im) (E : f_X4_readWellOrWay Z K R o x1 I = some res) : VW D cA bs Z p l e rX4_readWellOrWay s m args below meth c 3 [(0, va_rf (some o)), (1, va_rf x1)] K n I J R 0 0 (MQ below (QX D cA bs Z none K n res J R) args s 0 0 (fun q => bs ≤ q)) 0 [] := by
  unfold f_X4_readWellOrWay at E
  refine v_aload_n (r := (some o)) C 0 dX4_readWellOrWay_0 rfl ?_
  refine v_getI (r := (some o)) C fa_X4_37 rfl rfl ho dX4_readWellOrWay_1 ?_
  refine v_iconst C dX4_readWellOrWay_4 k_iconst_1 ?_
  refine v_iadd C dX4_readWellOrWay_5 ?_
  refine v_aload_n (r := (some o)) C 0 dX4_readWellOrWay_6 rfl ?_
  refine v_getI (r := (some o)) C fa_X4_29 rfl rfl ho dX4_readWellOrWay_7 ?_
  refine v_icmp_ge C 45 E dX4_readWellOrWay_10 rfl (fun c23 E => ?_) (fun c23 E => ?_)
  · exact v_sub [0, 1] [(0, va_rf (some o)), (1, va_rf x1)] rfl (w_X4_readWellOrWay_45 C ho res  _ _ E)
  · refine v_aload_n (r := (some o)) C 0 dX4_readWellOrWay_13 rfl ?_
    refine v_getR (r := (some o)) C fa_X4_9 rfl rfl ho dX4_readWellOrWay_14 ?_
    refine v_aload_n (r := (some o)) C 0 dX4_readWellOrWay_17 rfl ?_
    refine v_getI (r := (some o)) C fa_X4_37 rfl rfl ho dX4_readWellOrWay_18 ?_
    refine v_iconst C dX4_readWellOrWay_21 k_iconst_1 ?_
    refine v_iadd C dX4_readWellOrWay_22 ?_
    refine v_bald (r := (R o 0)) C E dX4_readWellOrWay_23 (fun v13 _ E => ?_)
    refine v_bipush C dX4_readWellOrWay_24 k_bipush_97 ?_
    refine v_icmp_ne C 45 E dX4_readWellOrWay_26 rfl (fun c22 E => ?_) (fun c22 E => ?_)
    · refine v_aload_n (r := (some o)) C 0 dX4_readWellOrWay_29 rfl ?_
      refine v_ldcS C 4 (by decide) dX4_readWellOrWay_30 ?_
      obtain ⟨q14, h15, E⟩ := bnd E
      refine v_callV (r := (some o)) (As := [va_rf (some (Z 14))]) (rv := none) (st := []) (st1 := []) (ce1 := 0) (sl1 := 0) C cv_X4_79 (c_X4_takeWord (x1 := (some (Z 14))) ho h15) rfl ho rfl rfl ⟨rfl, rfl, Nat.le_of_ble_eq_true rfl, Nat.le_of_ble_eq_true rfl⟩ ⟨Nat.le_of_ble_eq_true rfl, Nat.le_of_ble_eq_true rfl⟩ (Nat.le_of_ble_eq_true rfl) rfl rfl rfl dX4_readWellOrWay_32 ?_
      refine v_aload_n (r := x1) C 1 dX4_readWellOrWay_35 rfl ?_
      refine v_aload_n (r := (some o)) C 0 dX4_readWellOrWay_36 rfl ?_
      refine v_iconst C dX4_readWellOrWay_37 k_iconst_1 ?_
      obtain ⟨q16, h17, E⟩ := bnd E
      refine v_callV (r := (some o)) (As := [.int 1]) (rv := (some (.int q16.1))) (st := [va_rf x1]) (st1 := [.int q16.1, va_rf x1]) (ce1 := 0) (sl1 := 0) C cv_X4_83 (c_X4_readNumber (x1 := 1) ho h17) rfl ho rfl rfl ⟨rfl, rfl, Nat.le_of_ble_eq_true rfl, Nat.le_of_ble_eq_true rfl⟩ ⟨Nat.le_of_ble_eq_true rfl, Nat.le_of_ble_eq_true rfl⟩ (by simp only [List.map_cons, List.map_nil, List.sum_cons, List.sum_nil, rf_cat]; exact Nat.le_of_ble_eq_true rfl) rfl rfl rfl dX4_readWellOrWay_38 ?_
      obtain ⟨a18, h19, E⟩ := bnd E
      obtain ⟨hra18, hoa18⟩ := ob_is h19
      obtain ⟨q20, h21, E⟩ := bnd E
      refine v_callV (r := x1) (As := [.int q16.1]) (rv := none) (st := []) (st1 := []) (ce1 := 0) (sl1 := 0) C cv_X4_108 (c_X9_addWay (x1 := q16.1) hoa18 h21) hra18 hoa18 rfl rfl ⟨rfl, rfl, Nat.le_of_ble_eq_true rfl, Nat.le_of_ble_eq_true rfl⟩ ⟨Nat.le_of_ble_eq_true rfl, Nat.le_of_ble_eq_true rfl⟩ (Nat.le_of_ble_eq_true rfl) rfl rfl rfl dX4_readWellOrWay_41 ?_
      obtain rfl := Option.some.inj E
      exact v_vret C rfl dX4_readWellOrWay_44
    · exact v_sub [0, 1] [(0, va_rf (some o)), (1, va_rf x1)] rfl (w_X4_readWellOrWay_45 C ho res  _ _ E)
set_option maxHeartbeats 4000000 in
theorem c_X4_readWellOrWay {n : Nat} {K : Sh} {I : Im} {J : Jm} {R : Rf} {o : Nat} {x1 : Option Nat} (ho : (K o).1 = 5) {res : Im} (E : f_X4_readWellOrWay Z K R o x1 I = some res) : Met l yX4_readWellOrWay (Cond.code yX4_readWellOrWay cX4_readWellOrWay 3 none :: tb) rX4_readWellOrWay (PX D cA bs Z [.ref o, va_rf x1] K n I J R) (QX D cA bs Z none K n res J R) 0 0 (fun q => bs ≤ q) := by
  refine met_of (lv1 := [(0, va_rf (some o)), (1, va_rf x1)]) pn_X4 (by cases x1 <;> exact Nat.le_of_ble_eq_true rfl) (by cases x1 <;> rfl) ?_
  intro p e s m args below meth c C hn
  exact v_sub [0, 1] [(0, va_rf (some o)), (1, va_rf x1)] rfl (w_X4_readWellOrWay_0 C ho _ _ _ E)
set_option maxHeartbeats 4000000 in
theorem w_X4_hoursBelow_0 (C : Cx D cA bs Z p s m args meth c cX4_hoursBelow RX4 1 (some .int)) {K : Sh} {n : Nat} {I : Im} {J : Jm} {R : Rf} (res : Int32) (x0 : Int32) (E : f_X4_hoursBelow  x0 = some res) : VW D cA bs Z p l e rX4_hoursBelow s m args below meth c 1 [(0, .int x0)] K n I J R 0 0 (MQ below (QX D cA bs Z (some (.int res)) K n I J R) args s 0 0 (fun q => bs ≤ q)) 0 [] := by
  unfold f_X4_hoursBelow at E
  refine v_iload_n C 0 dX4_hoursBelow_0 rfl ?_
  refine v_bipush C dX4_hoursBelow_1 k_bipush_24 ?_
  refine v_icmp_lt C 11 E dX4_hoursBelow_3 rfl (fun c1 E => ?_) (fun c1 E => ?_)
  · refine v_iconst C dX4_hoursBelow_11 k_iconst_1 ?_
    refine v_iload_n C 0 dX4_hoursBelow_12 rfl ?_
    refine v_ishl C dX4_hoursBelow_13 ?_
    refine v_iconst C dX4_hoursBelow_14 k_iconst_1 ?_
    refine v_isub C dX4_hoursBelow_15 ?_
    obtain rfl := Option.some.inj E
    exact v_iret C rfl dX4_hoursBelow_16
  · refine v_ldc C ct_X4_120 dX4_hoursBelow_6 ?_
    refine v_goto C 16 dX4_hoursBelow_8 rfl ?_
    obtain rfl := Option.some.inj E
    exact v_iret C rfl dX4_hoursBelow_16
set_option maxHeartbeats 4000000 in
theorem c_X4_hoursBelow {n : Nat} {K : Sh} {I : Im} {J : Jm} {R : Rf} {x0 : Int32} {res : Int32} (E : f_X4_hoursBelow x0 = some res) : Met l yX4_hoursBelow (Cond.code yX4_hoursBelow cX4_hoursBelow 1 (some .int) :: tb) rX4_hoursBelow (PX D cA bs Z [.int x0] K n I J R) (QX D cA bs Z (some (.int res)) K n I J R) 0 0 (fun q => bs ≤ q) := by
  refine met_of (lv1 := [(0, .int x0)]) pn_X4 (by exact Nat.le_of_ble_eq_true rfl) (by rfl) ?_
  intro p e s m args below meth c C hn
  exact v_sub [0] [(0, .int x0)] rfl (w_X4_hoursBelow_0 C _ _ E)
set_option maxHeartbeats 4000000 in
theorem w_X4_hoursThat_0 (C : Cx D cA bs Z p s m args meth c cX4_hoursThat RX4 2 (some .int)) {K : Sh} {n : Nat} {I : Im} {J : Jm} {R : Rf} (res : Int32) (x0 : Int32) (x1 : Int32) (E : f_X4_hoursThat K x0 x1 = some res) : VW D cA bs Z p l e rX4_hoursThat s m args below meth c 2 [(0, .int x0), (1, .int x1)] K n I J R 0 0 (MQ below (QX D cA bs Z (some (.int res)) K n I J R) args s 0 0 (fun q => bs ≤ q)) 0 [] := by
  unfold f_X4_hoursThat at E
  refine v_iload_n C 0 dX4_hoursThat_0 rfl ?_
  refine v_bipush C dX4_hoursThat_1 k_bipush_60 ?_
  refine v_icmp_ne C 11 E dX4_hoursThat_3 rfl (fun c10 E => ?_) (fun c10 E => ?_)
  · refine v_iload_n C 1 dX4_hoursThat_6 rfl ?_
    obtain ⟨q8, h9, E⟩ := bnd E
    refine v_callS (As := [.int x1]) (rv := (some (.int q8))) (st := []) (st1 := [.int q8]) (ce1 := 0) (sl1 := 0) C cs_X4_134 (c_X4_hoursBelow (x0 := x1) h9) rfl rfl ⟨rfl, rfl, Nat.le_of_ble_eq_true rfl, Nat.le_of_ble_eq_true rfl⟩ ⟨Nat.le_of_ble_eq_true rfl, Nat.le_of_ble_eq_true rfl⟩ (Nat.le_of_ble_eq_true rfl) rfl rfl rfl dX4_hoursThat_7 ?_
    obtain rfl := Option.some.inj E
    exact v_iret C rfl dX4_hoursThat_10
  · refine v_iload_n C 0 dX4_hoursThat_11 rfl ?_
    refine v_bipush C dX4_hoursThat_12 k_bipush_62 ?_
    refine v_icmp_ne C 31 E dX4_hoursThat_14 rfl (fun c7 E => ?_) (fun c7 E => ?_)
    · refine v_ldc C ct_X4_120 dX4_hoursThat_17 ?_
      refine v_iload_n C 1 dX4_hoursThat_19 rfl ?_
      refine v_iconst C dX4_hoursThat_20 k_iconst_1 ?_
      refine v_iadd C dX4_hoursThat_21 ?_
      obtain ⟨q5, h6, E⟩ := bnd E
      refine v_callS (As := [.int (x1 + 1)]) (rv := (some (.int q5))) (st := [.int 16777215]) (st1 := [.int q5, .int 16777215]) (ce1 := 0) (sl1 := 0) C cs_X4_134 (c_X4_hoursBelow (x0 := (x1 + 1)) h6) rfl rfl ⟨rfl, rfl, Nat.le_of_ble_eq_true rfl, Nat.le_of_ble_eq_true rfl⟩ ⟨Nat.le_of_ble_eq_true rfl, Nat.le_of_ble_eq_true rfl⟩ (Nat.le_of_ble_eq_true rfl) rfl rfl rfl dX4_hoursThat_22 ?_
      refine v_iconst C dX4_hoursThat_25 k_iconst_m1 ?_
      refine v_ixor C dX4_hoursThat_26 ?_
      refine v_iand C dX4_hoursThat_27 ?_
      refine v_goto C 44 dX4_hoursThat_28 rfl ?_
      obtain rfl := Option.some.inj E
      exact v_iret C rfl dX4_hoursThat_44
    · refine v_iload_n C 1 dX4_hoursThat_31 rfl ?_
      refine v_iconst C dX4_hoursThat_32 k_iconst_1 ?_
      refine v_iadd C dX4_hoursThat_33 ?_
      obtain ⟨q1, h2, E⟩ := bnd E
      refine v_callS (As := [.int (x1 + 1)]) (rv := (some (.int q1))) (st := []) (st1 := [.int q1]) (ce1 := 0) (sl1 := 0) C cs_X4_134 (c_X4_hoursBelow (x0 := (x1 + 1)) h2) rfl rfl ⟨rfl, rfl, Nat.le_of_ble_eq_true rfl, Nat.le_of_ble_eq_true rfl⟩ ⟨Nat.le_of_ble_eq_true rfl, Nat.le_of_ble_eq_true rfl⟩ (Nat.le_of_ble_eq_true rfl) rfl rfl rfl dX4_hoursThat_34 ?_
      refine v_iload_n C 1 dX4_hoursThat_37 rfl ?_
      obtain ⟨q3, h4, E⟩ := bnd E
      refine v_callS (As := [.int x1]) (rv := (some (.int q3))) (st := [.int q1]) (st1 := [.int q3, .int q1]) (ce1 := 0) (sl1 := 0) C cs_X4_134 (c_X4_hoursBelow (x0 := x1) h4) rfl rfl ⟨rfl, rfl, Nat.le_of_ble_eq_true rfl, Nat.le_of_ble_eq_true rfl⟩ ⟨Nat.le_of_ble_eq_true rfl, Nat.le_of_ble_eq_true rfl⟩ (Nat.le_of_ble_eq_true rfl) rfl rfl rfl dX4_hoursThat_38 ?_
      refine v_iconst C dX4_hoursThat_41 k_iconst_m1 ?_
      refine v_ixor C dX4_hoursThat_42 ?_
      refine v_iand C dX4_hoursThat_43 ?_
      obtain rfl := Option.some.inj E
      exact v_iret C rfl dX4_hoursThat_44
set_option maxHeartbeats 4000000 in
theorem c_X4_hoursThat {n : Nat} {K : Sh} {I : Im} {J : Jm} {R : Rf} {x0 : Int32} {x1 : Int32} {res : Int32} (E : f_X4_hoursThat K x0 x1 = some res) : Met l yX4_hoursThat (Cond.code yX4_hoursThat cX4_hoursThat 2 (some .int) :: tb) rX4_hoursThat (PX D cA bs Z [.int x0, .int x1] K n I J R) (QX D cA bs Z (some (.int res)) K n I J R) 0 0 (fun q => bs ≤ q) := by
  refine met_of (lv1 := [(0, .int x0), (1, .int x1)]) pn_X4 (by exact Nat.le_of_ble_eq_true rfl) (by rfl) ?_
  intro p e s m args below meth c C hn
  exact v_sub [0, 1] [(0, .int x0), (1, .int x1)] rfl (w_X4_hoursThat_0 C _ _ _ E)
set_option maxHeartbeats 4000000 in
theorem w_X4_matches_0 (C : Cx D cA bs Z p s m args meth c cX4_matches RX4 3 (some .boolean)) {K : Sh} {n : Nat} {I : Im} {J : Jm} {R : Rf} (res : Int32) (x0 : Int32) (x1 : Int32) (x2 : Int32) (E : f_X4_matches  x0 x1 x2 = some res) : VW D cA bs Z p l e rX4_matches s m args below meth c 3 [(0, .int x0), (1, .int x1), (2, .int x2)] K n I J R 0 0 (MQ below (QX D cA bs Z (some (.int res)) K n I J R) args s 0 0 (fun q => bs ≤ q)) 0 [] := by
  unfold f_X4_matches at E
  refine v_iload_n C 1 dX4_matches_0 rfl ?_
  refine v_bipush C dX4_matches_1 k_bipush_60 ?_
  refine v_icmp_ne C 17 E dX4_matches_3 rfl (fun c5 E => ?_) (fun c5 E => ?_)
  · refine v_iload_n C 0 dX4_matches_6 rfl ?_
    refine v_iload_n C 2 dX4_matches_7 rfl ?_
    refine v_icmp_ge C 15 E dX4_matches_8 rfl (fun c4 E => ?_) (fun c4 E => ?_)
    · refine v_iconst C dX4_matches_15 k_iconst_0 ?_
      obtain rfl := Option.some.inj E
      exact v_zret (v := 0) C rfl nz_0 dX4_matches_16
    · refine v_iconst C dX4_matches_11 k_iconst_1 ?_
      refine v_goto C 16 dX4_matches_12 rfl ?_
      obtain rfl := Option.some.inj E
      exact v_zret (v := 1) C rfl nz_1 dX4_matches_16
  · refine v_iload_n C 1 dX4_matches_17 rfl ?_
    refine v_bipush C dX4_matches_18 k_bipush_62 ?_
    refine v_icmp_ne C 36 E dX4_matches_20 rfl (fun c3 E => ?_) (fun c3 E => ?_)
    · refine v_iload_n C 0 dX4_matches_23 rfl ?_
      refine v_iload_n C 2 dX4_matches_24 rfl ?_
      refine v_icmp_le C 32 E dX4_matches_25 rfl (fun c2 E => ?_) (fun c2 E => ?_)
      · refine v_iconst C dX4_matches_32 k_iconst_0 ?_
        refine v_goto C 46 dX4_matches_33 rfl ?_
        obtain rfl := Option.some.inj E
        exact v_zret (v := 0) C rfl nz_0 dX4_matches_46
      · refine v_iconst C dX4_matches_28 k_iconst_1 ?_
        refine v_goto C 46 dX4_matches_29 rfl ?_
        obtain rfl := Option.some.inj E
        exact v_zret (v := 1) C rfl nz_1 dX4_matches_46
    · refine v_iload_n C 0 dX4_matches_36 rfl ?_
      refine v_iload_n C 2 dX4_matches_37 rfl ?_
      refine v_icmp_ne C 45 E dX4_matches_38 rfl (fun c1 E => ?_) (fun c1 E => ?_)
      · refine v_iconst C dX4_matches_41 k_iconst_1 ?_
        refine v_goto C 46 dX4_matches_42 rfl ?_
        obtain rfl := Option.some.inj E
        exact v_zret (v := 1) C rfl nz_1 dX4_matches_46
      · refine v_iconst C dX4_matches_45 k_iconst_0 ?_
        obtain rfl := Option.some.inj E
        exact v_zret (v := 0) C rfl nz_0 dX4_matches_46
set_option maxHeartbeats 4000000 in
theorem c_X4_matches {n : Nat} {K : Sh} {I : Im} {J : Jm} {R : Rf} {x0 : Int32} {x1 : Int32} {x2 : Int32} {res : Int32} (E : f_X4_matches x0 x1 x2 = some res) : Met l yX4_matches (Cond.code yX4_matches cX4_matches 3 (some .boolean) :: tb) rX4_matches (PX D cA bs Z [.int x0, .int x1, .int x2] K n I J R) (QX D cA bs Z (some (.int res)) K n I J R) 0 0 (fun q => bs ≤ q) := by
  refine met_of (lv1 := [(0, .int x0), (1, .int x1), (2, .int x2)]) pn_X4 (by exact Nat.le_of_ble_eq_true rfl) (by rfl) ?_
  intro p e s m args below meth c C hn
  exact v_sub [0, 1, 2] [(0, .int x0), (1, .int x1), (2, .int x2)] rfl (w_X4_matches_0 C _ _ _ _ E)
set_option maxHeartbeats 4000000 in
theorem w_X4_readTest_115 (C : Cx D cA bs Z p s m args meth c cX4_readTest RX4 4 (some .int)) {o : Nat} {K : Sh} {n : Nat} {J : Jm} {R : Rf} (ho : (K o).1 = 5) (res : Int32 × Im) (x2 : Int32) (x3 : Int32) (s0 : Int32) (I : Im) (E : f_X4_readTest_115 K R o x2 x3 s0 I = some res) : VW D cA bs Z p l e rX4_readTest s m args below meth c 4 [(0, va_rf (some o)), (2, .int x2), (3, .int x3)] K n I J R 0 0 (MQ below (QX D cA bs Z (some (.int res.1)) K n res.2 J R) args s 0 0 (fun q => bs ≤ q)) 115 [.int s0] := by
  unfold f_X4_readTest_115 at E
  refine v_iload_n C 1 dX4_readTest_115 rfl ?_
  refine v_iload_n C 2 dX4_readTest_116 rfl ?_
  obtain ⟨q1, h2, E⟩ := bnd E
  refine v_callS (As := [.int s0, .int x2, .int x3]) (rv := (some (.int q1))) (st := []) (st1 := [.int q1]) (ce1 := 0) (sl1 := 0) C cs_X4_130 (c_X4_matches (x0 := s0) (x1 := x2) (x2 := x3) h2) rfl rfl ⟨rfl, rfl, Nat.le_of_ble_eq_true rfl, Nat.le_of_ble_eq_true rfl⟩ ⟨Nat.le_of_ble_eq_true rfl, Nat.le_of_ble_eq_true rfl⟩ (Nat.le_of_ble_eq_true rfl) rfl rfl rfl dX4_readTest_117 ?_
  refine v_if_eq C 128 E dX4_readTest_120 rfl (fun c3 E => ?_) (fun c3 E => ?_)
  · refine v_iconst C dX4_readTest_128 k_iconst_0 ?_
    obtain rfl := Option.some.inj E
    exact v_iret C rfl dX4_readTest_129
  · refine v_ldc C ct_X4_120 dX4_readTest_123 ?_
    refine v_goto C 129 dX4_readTest_125 rfl ?_
    obtain rfl := Option.some.inj E
    exact v_iret C rfl dX4_readTest_129
set_option maxHeartbeats 4000000 in
theorem w_X4_readTest_70 (C : Cx D cA bs Z p s m args meth c cX4_readTest RX4 4 (some .int)) {o : Nat} {K : Sh} {n : Nat} {J : Jm} {R : Rf} (ho : (K o).1 = 5) (res : Int32 × Im) (x1 : Int32) (x2 : Int32) (I : Im) (E : f_X4_readTest_70 K R o x1 x2 I = some res) : VW D cA bs Z p l e rX4_readTest s m args below meth c 4 [(0, va_rf (some o)), (1, .int x1), (2, .int x2)] K n I J R 0 0 (MQ below (QX D cA bs Z (some (.int res.1)) K n res.2 J R) args s 0 0 (fun q => bs ≤ q)) 70 [] := by
  unfold f_X4_readTest_70 at E
  refine v_aload_n (r := (some o)) C 0 dX4_readTest_70 rfl ?_
  refine v_dup C dX4_readTest_71 (rf_cat _) ?_
  refine v_getI (r := (some o)) C fa_X4_37 rfl rfl ho dX4_readTest_72 ?_
  refine v_iconst C dX4_readTest_75 k_iconst_1 ?_
  refine v_iadd C dX4_readTest_76 ?_
  refine v_putI (r := (some o)) C fa_X4_37 rfl E rfl ho ⟨rfl, rfl⟩ dX4_readTest_77 (fun I4 _ E => ?_)
  refine v_aload_n (r := (some o)) C 0 dX4_readTest_80 rfl ?_
  refine v_iconst C dX4_readTest_81 k_iconst_2 ?_
  obtain ⟨q5, h6, E⟩ := bnd E
  refine v_callV (r := (some o)) (As := [.int 2]) (rv := (some (.int q5.1))) (st := []) (st1 := [.int q5.1]) (ce1 := 0) (sl1 := 0) C cv_X4_83 (c_X4_readNumber (x1 := 2) ho h6) rfl ho rfl rfl ⟨rfl, rfl, Nat.le_of_ble_eq_true rfl, Nat.le_of_ble_eq_true rfl⟩ ⟨Nat.le_of_ble_eq_true rfl, Nat.le_of_ble_eq_true rfl⟩ (Nat.le_of_ble_eq_true rfl) rfl rfl rfl dX4_readTest_82 ?_
  refine v_istore_n C [(3, .int q5.1), (0, va_rf (some o)), (1, .int x1), (2, .int x2)] dX4_readTest_85 (Nat.le_of_ble_eq_true rfl) rfl ?_
  refine v_iload_n C 2 dX4_readTest_86 rfl ?_
  refine v_bipush C dX4_readTest_87 k_bipush_104 ?_
  refine v_icmp_ne C 98 E dX4_readTest_89 rfl (fun c10 E => ?_) (fun c10 E => ?_)
  · refine v_iload_n C 3 dX4_readTest_92 rfl ?_
    refine v_iload_n C 0 dX4_readTest_93 rfl ?_
    obtain ⟨q8, h9, E⟩ := bnd E
    refine v_callS (As := [.int x2, .int q5.1]) (rv := (some (.int q8))) (st := []) (st1 := [.int q8]) (ce1 := 0) (sl1 := 0) C cs_X4_124 (c_X4_hoursThat (x0 := x2) (x1 := q5.1) h9) rfl rfl ⟨rfl, rfl, Nat.le_of_ble_eq_true rfl, Nat.le_of_ble_eq_true rfl⟩ ⟨Nat.le_of_ble_eq_true rfl, Nat.le_of_ble_eq_true rfl⟩ (Nat.le_of_ble_eq_true rfl) rfl rfl rfl dX4_readTest_94 ?_
    obtain rfl := Option.some.inj E
    exact v_iret C rfl dX4_readTest_97
  · refine v_iload_n C 2 dX4_readTest_98 rfl ?_
    refine v_bipush C dX4_readTest_99 k_bipush_98 ?_
    refine v_icmp_ne C 111 E dX4_readTest_101 rfl (fun c7 E => ?_) (fun c7 E => ?_)
    · refine v_aload_n (r := (some o)) C 1 dX4_readTest_104 rfl ?_
      refine v_getI (r := (some o)) C fa_X4_25 rfl rfl ho dX4_readTest_105 ?_
      refine v_goto C 115 dX4_readTest_108 rfl ?_
      exact v_sub [1, 3, 0] [(0, va_rf (some o)), (2, .int x2), (3, .int q5.1)] rfl (w_X4_readTest_115 C ho res  _ _ _ _ E)
    · refine v_aload_n (r := (some o)) C 1 dX4_readTest_111 rfl ?_
      refine v_getI (r := (some o)) C fa_X4_128 rfl rfl ho dX4_readTest_112 ?_
      exact v_sub [1, 3, 0] [(0, va_rf (some o)), (2, .int x2), (3, .int q5.1)] rfl (w_X4_readTest_115 C ho res  _ _ _ _ E)
set_option maxHeartbeats 4000000 in
theorem w_X4_readTest_30 (C : Cx D cA bs Z p s m args meth c cX4_readTest RX4 4 (some .int)) {o : Nat} {K : Sh} {n : Nat} {J : Jm} {R : Rf} (ho : (K o).1 = 5) (res : Int32 × Im) (x1 : Int32) (I : Im) (E : f_X4_readTest_30 K R o x1 I = some res) : VW D cA bs Z p l e rX4_readTest s m args below meth c 4 [(0, va_rf (some o)), (1, .int x1)] K n I J R 0 0 (MQ below (QX D cA bs Z (some (.int res.1)) K n res.2 J R) args s 0 0 (fun q => bs ≤ q)) 30 [] := by
  unfold f_X4_readTest_30 at E
  refine v_aload_n (r := (some o)) C 0 dX4_readTest_30 rfl ?_
  refine v_dup C dX4_readTest_31 (rf_cat _) ?_
  refine v_getI (r := (some o)) C fa_X4_37 rfl rfl ho dX4_readTest_32 ?_
  refine v_iconst C dX4_readTest_35 k_iconst_1 ?_
  refine v_iadd C dX4_readTest_36 ?_
  refine v_putI (r := (some o)) C fa_X4_37 rfl E rfl ho ⟨rfl, rfl⟩ dX4_readTest_37 (fun I11 _ E => ?_)
  refine v_aload_n (r := (some o)) C 0 dX4_readTest_40 rfl ?_
  obtain ⟨q12, h13, E⟩ := bnd E
  refine v_callV (r := (some o)) (As := []) (rv := (some (.int q12))) (st := []) (st1 := [.int q12]) (ce1 := 0) (sl1 := 0) C cv_X4_51 (c_X4_next  ho h13) rfl ho rfl rfl ⟨rfl, rfl, Nat.le_of_ble_eq_true rfl, Nat.le_of_ble_eq_true rfl⟩ ⟨Nat.le_of_ble_eq_true rfl, Nat.le_of_ble_eq_true rfl⟩ (Nat.le_of_ble_eq_true rfl) rfl rfl rfl dX4_readTest_41 ?_
  refine v_istore_n C [(2, .int q12), (0, va_rf (some o)), (1, .int x1)] dX4_readTest_44 (Nat.le_of_ble_eq_true rfl) rfl ?_
  refine v_iload_n C 0 dX4_readTest_45 rfl ?_
  refine v_bipush C dX4_readTest_46 k_bipush_60 ?_
  refine v_icmp_eq C 70 E dX4_readTest_48 rfl (fun c17 E => ?_) (fun c17 E => ?_)
  · exact v_sub [1, 2, 0] [(0, va_rf (some o)), (1, .int x1), (2, .int q12)] rfl (w_X4_readTest_70 C ho res  _ _ _ E)
  · refine v_iload_n C 0 dX4_readTest_51 rfl ?_
    refine v_bipush C dX4_readTest_52 k_bipush_61 ?_
    refine v_icmp_eq C 70 E dX4_readTest_54 rfl (fun c16 E => ?_) (fun c16 E => ?_)
    · exact v_sub [1, 2, 0] [(0, va_rf (some o)), (1, .int x1), (2, .int q12)] rfl (w_X4_readTest_70 C ho res  _ _ _ E)
    · refine v_iload_n C 0 dX4_readTest_57 rfl ?_
      refine v_bipush C dX4_readTest_58 k_bipush_62 ?_
      refine v_icmp_eq C 70 E dX4_readTest_60 rfl (fun c15 E => ?_) (fun c15 E => ?_)
      · exact v_sub [1, 2, 0] [(0, va_rf (some o)), (1, .int x1), (2, .int q12)] rfl (w_X4_readTest_70 C ho res  _ _ _ E)
      · refine v_aload_n (r := (some o)) C 1 dX4_readTest_63 rfl ?_
        refine v_iconst C dX4_readTest_64 k_iconst_0 ?_
        refine v_putI (r := (some o)) C fa_X4_40 rfl E rfl ho (by decide) dX4_readTest_65 (fun I14 _ E => ?_)
        refine v_iconst C dX4_readTest_68 k_iconst_0 ?_
        obtain rfl := Option.some.inj E
        exact v_iret C rfl dX4_readTest_69
set_option maxHeartbeats 4000000 in
theorem w_X4_readTest_0 (C : Cx D cA bs Z p s m args meth c cX4_readTest RX4 4 (some .int)) {o : Nat} {K : Sh} {n : Nat} {J : Jm} {R : Rf} (ho : (K o).1 = 5) (res : Int32 × Im) (I : Im) (E : f_X4_readTest K R o I = some res) : VW D cA bs Z p l e rX4_readTest s m args below meth c 4 [(0, va_rf (some o))] K n I J R 0 0 (MQ below (QX D cA bs Z (some (.int res.1)) K n res.2 J R) args s 0 0 (fun q => bs ≤ q)) 0 [] := by
  unfold f_X4_readTest at E
  refine v_aload_n (r := (some o)) C 0 dX4_readTest_0 rfl ?_
  obtain ⟨q18, h19, E⟩ := bnd E
  refine v_callV (r := (some o)) (As := []) (rv := (some (.int q18))) (st := []) (st1 := [.int q18]) (ce1 := 0) (sl1 := 0) C cv_X4_51 (c_X4_next  ho h19) rfl ho rfl rfl ⟨rfl, rfl, Nat.le_of_ble_eq_true rfl, Nat.le_of_ble_eq_true rfl⟩ ⟨Nat.le_of_ble_eq_true rfl, Nat.le_of_ble_eq_true rfl⟩ (Nat.le_of_ble_eq_true rfl) rfl rfl rfl dX4_readTest_1 ?_
  refine v_istore_n C [(1, .int q18), (0, va_rf (some o))] dX4_readTest_4 (Nat.le_of_ble_eq_true rfl) rfl ?_
  refine v_iload_n C 0 dX4_readTest_5 rfl ?_
  refine v_bipush C dX4_readTest_6 k_bipush_104 ?_
  refine v_icmp_eq C 30 E dX4_readTest_8 rfl (fun c23 E => ?_) (fun c23 E => ?_)
  · exact v_sub [1, 0] [(0, va_rf (some o)), (1, .int q18)] rfl (w_X4_readTest_30 C ho res  _ _ E)
  · refine v_iload_n C 0 dX4_readTest_11 rfl ?_
    refine v_bipush C dX4_readTest_12 k_bipush_98 ?_
    refine v_icmp_eq C 30 E dX4_readTest_14 rfl (fun c22 E => ?_) (fun c22 E => ?_)
    · exact v_sub [1, 0] [(0, va_rf (some o)), (1, .int q18)] rfl (w_X4_readTest_30 C ho res  _ _ E)
    · refine v_iload_n C 0 dX4_readTest_17 rfl ?_
      refine v_bipush C dX4_readTest_18 k_bipush_119 ?_
      refine v_icmp_eq C 30 E dX4_readTest_20 rfl (fun c21 E => ?_) (fun c21 E => ?_)
      · exact v_sub [1, 0] [(0, va_rf (some o)), (1, .int q18)] rfl (w_X4_readTest_30 C ho res  _ _ E)
      · refine v_aload_n (r := (some o)) C 1 dX4_readTest_23 rfl ?_
        refine v_iconst C dX4_readTest_24 k_iconst_0 ?_
        refine v_putI (r := (some o)) C fa_X4_40 rfl E rfl ho (by decide) dX4_readTest_25 (fun I20 _ E => ?_)
        refine v_iconst C dX4_readTest_28 k_iconst_0 ?_
        obtain rfl := Option.some.inj E
        exact v_iret C rfl dX4_readTest_29
set_option maxHeartbeats 4000000 in
theorem c_X4_readTest {n : Nat} {K : Sh} {I : Im} {J : Jm} {R : Rf} {o : Nat}  (ho : (K o).1 = 5) {res : Int32 × Im} (E : f_X4_readTest K R o I = some res) : Met l yX4_readTest (Cond.code yX4_readTest cX4_readTest 4 (some .int) :: tb) rX4_readTest (PX D cA bs Z [.ref o] K n I J R) (QX D cA bs Z (some (.int res.1)) K n res.2 J R) 0 0 (fun q => bs ≤ q) := by
  refine met_of (lv1 := [(0, va_rf (some o))]) pn_X4 (by exact Nat.le_of_ble_eq_true rfl) (by rfl) ?_
  intro p e s m args below meth c C hn
  exact v_sub [0] [(0, va_rf (some o))] rfl (w_X4_readTest_0 C ho _ _ E)
set_option maxHeartbeats 4000000 in
theorem w_X4_readPart_85 (C : Cx D cA bs Z p s m args meth c cX4_readPart RX4 5 (some .int)) {o : Nat} {K : Sh} {n : Nat} {J : Jm} {R : Rf} (d : Nat) (g_X4_readEither : Nat → Int32 → Im → Option (Int32 × Im)) (hg_X4_readEither : ∀ (o : Nat) (x1 : Int32) (I : Im) (res : Int32 × Im), (K o).1 = 5 → g_X4_readEither o x1 I = some res → Met l yX4_readEither (Cond.code yX4_readEither cX4_readEither 7 (some .int) :: tb) (rX4_EP d) (PX D cA bs Z [.ref o, .int x1] K n I J R) (QX D cA bs Z (some (.int res.1)) K n res.2 J R) 0 0 (fun q => bs ≤ q)) (g_X4_readPart : Nat → Int32 → Im → Option (Int32 × Im)) (hg_X4_readPart : ∀ (o : Nat) (x1 : Int32) (I : Im) (res : Int32 × Im), (K o).1 = 5 → g_X4_readPart o x1 I = some res → Met l yX4_readPart (Cond.code yX4_readPart cX4_readPart 5 (some .int) :: tb) (rX4_EP d) (PX D cA bs Z [.ref o, .int x1] K n I J R) (QX D cA bs Z (some (.int res.1)) K n res.2 J R) 0 0 (fun q => bs ≤ q)) (ho : (K o).1 = 5) (res : Int32 × Im) (x3 : Int32) (I : Im) (E : f_X4_readPart_85 K R o g_X4_readEither g_X4_readPart x3 I = some res) : VW D cA bs Z p l e (rX4_EP (d + 1)) s m args below meth c 5 [(0, va_rf (some o)), (3, .int x3)] K n I J R 0 0 (MQ below (QX D cA bs Z (some (.int res.1)) K n res.2 J R) args s 0 0 (fun q => bs ≤ q)) 85 [] := by
  unfold f_X4_readPart_85 at E
  refine v_iload_n C 1 dX4_readPart_85 rfl ?_
  refine v_aload_n (r := (some o)) C 0 dX4_readPart_86 rfl ?_
  obtain ⟨q1, h2, E⟩ := bnd E
  refine v_callV (r := (some o)) (As := []) (rv := (some (.int q1.1))) (st := [.int x3]) (st1 := [.int q1.1, .int x3]) (ce1 := 0) (sl1 := 0) C cv_X4_121 (c_X4_readTest  ho h2) rfl ho rfl rfl ⟨rfl, rfl, by show _ ≤ _; simp only [rX4_EP, rX4_readTest]; omega, by show _ ≤ _; simp only [rX4_EP, rX4_readTest]; omega⟩ ⟨Nat.le_refl _, Nat.le_refl _⟩ (Nat.le_of_ble_eq_true rfl) rfl rfl rfl dX4_readPart_87 ?_
  refine v_ixor C dX4_readPart_90 ?_
  obtain rfl := Option.some.inj E
  exact v_iret C rfl dX4_readPart_91
set_option maxHeartbeats 4000000 in
theorem w_X4_readPart_41 (C : Cx D cA bs Z p s m args meth c cX4_readPart RX4 5 (some .int)) {o : Nat} {K : Sh} {n : Nat} {J : Jm} {R : Rf} (d : Nat) (g_X4_readEither : Nat → Int32 → Im → Option (Int32 × Im)) (hg_X4_readEither : ∀ (o : Nat) (x1 : Int32) (I : Im) (res : Int32 × Im), (K o).1 = 5 → g_X4_readEither o x1 I = some res → Met l yX4_readEither (Cond.code yX4_readEither cX4_readEither 7 (some .int) :: tb) (rX4_EP d) (PX D cA bs Z [.ref o, .int x1] K n I J R) (QX D cA bs Z (some (.int res.1)) K n res.2 J R) 0 0 (fun q => bs ≤ q)) (g_X4_readPart : Nat → Int32 → Im → Option (Int32 × Im)) (hg_X4_readPart : ∀ (o : Nat) (x1 : Int32) (I : Im) (res : Int32 × Im), (K o).1 = 5 → g_X4_readPart o x1 I = some res → Met l yX4_readPart (Cond.code yX4_readPart cX4_readPart 5 (some .int) :: tb) (rX4_EP d) (PX D cA bs Z [.ref o, .int x1] K n I J R) (QX D cA bs Z (some (.int res.1)) K n res.2 J R) 0 0 (fun q => bs ≤ q)) (ho : (K o).1 = 5) (res : Int32 × Im) (x2 : Int32) (x3 : Int32) (I : Im) (E : f_X4_readPart_41 K R o g_X4_readEither g_X4_readPart x2 x3 I = some res) : VW D cA bs Z p l e (rX4_EP (d + 1)) s m args below meth c 5 [(0, va_rf (some o)), (2, .int x2), (3, .int x3)] K n I J R 0 0 (MQ below (QX D cA bs Z (some (.int res.1)) K n res.2 J R) args s 0 0 (fun q => bs ≤ q)) 41 [] := by
  unfold f_X4_readPart_41 at E
  refine v_iload_n C 1 dX4_readPart_41 rfl ?_
  refine v_iconst C dX4_readPart_42 k_iconst_4 ?_
  refine v_icmp_ge C 85 E dX4_readPart_43 rfl (fun c11 E => ?_) (fun c11 E => ?_)
  · exact v_sub [0, 2] [(0, va_rf (some o)), (3, .int x3)] rfl (w_X4_readPart_85 C d g_X4_readEither hg_X4_readEither g_X4_readPart hg_X4_readPart ho res  _ _ E)
  · refine v_aload_n (r := (some o)) C 0 dX4_readPart_46 rfl ?_
    obtain ⟨q3, h4, E⟩ := bnd E
    refine v_callV (r := (some o)) (As := []) (rv := (some (.int q3))) (st := []) (st1 := [.int q3]) (ce1 := 0) (sl1 := 0) C cv_X4_51 (c_X4_next  ho h4) rfl ho rfl rfl ⟨rfl, rfl, by show _ ≤ _; simp only [rX4_EP, rX4_next]; omega, by show _ ≤ _; simp only [rX4_EP, rX4_next]; omega⟩ ⟨Nat.le_refl _, Nat.le_refl _⟩ (Nat.le_of_ble_eq_true rfl) rfl rfl rfl dX4_readPart_47 ?_
    refine v_bipush C dX4_readPart_50 k_bipush_40 ?_
    refine v_icmp_ne C 85 E dX4_readPart_52 rfl (fun c10 E => ?_) (fun c10 E => ?_)
    · refine v_aload_n (r := (some o)) C 0 dX4_readPart_55 rfl ?_
      refine v_dup C dX4_readPart_56 (rf_cat _) ?_
      refine v_getI (r := (some o)) C fa_X4_37 rfl rfl ho dX4_readPart_57 ?_
      refine v_iconst C dX4_readPart_60 k_iconst_1 ?_
      refine v_iadd C dX4_readPart_61 ?_
      refine v_putI (r := (some o)) C fa_X4_37 rfl E rfl ho ⟨rfl, rfl⟩ dX4_readPart_62 (fun I5 _ E => ?_)
      refine v_aload_n (r := (some o)) C 0 dX4_readPart_65 rfl ?_
      refine v_iload_n C 1 dX4_readPart_66 rfl ?_
      refine v_iconst C dX4_readPart_67 k_iconst_1 ?_
      refine v_iadd C dX4_readPart_68 ?_
      obtain ⟨q6, h7, E⟩ := bnd E
      refine v_callV (r := (some o)) (As := [.int (x2 + 1)]) (rv := (some (.int q6.1))) (st := []) (st1 := [.int q6.1]) (ce1 := 0) (sl1 := 0) C cv_X4_87 (hg_X4_readEither _ _ _ _ ho  h7) rfl ho rfl rfl ⟨rfl, rfl, by show _ ≤ _; simp only [rX4_EP]; omega, by show _ ≤ _; simp only [rX4_EP]; omega⟩ ⟨Nat.le_refl _, Nat.le_refl _⟩ (Nat.le_of_ble_eq_true rfl) rfl rfl rfl dX4_readPart_69 ?_
      refine v_istore C [(4, .int q6.1), (0, va_rf (some o)), (2, .int x2), (3, .int x3)] dX4_readPart_72 (Nat.le_of_ble_eq_true rfl) rfl ?_
      refine v_aload_n (r := (some o)) C 1 dX4_readPart_74 rfl ?_
      refine v_bipush C dX4_readPart_75 k_bipush_41 ?_
      obtain ⟨q8, h9, E⟩ := bnd E
      refine v_callV (r := (some o)) (As := [.int 41]) (rv := none) (st := []) (st1 := []) (ce1 := 0) (sl1 := 0) C cv_X4_70 (c_X4_take (x1 := 41) ho h9) rfl ho rfl rfl ⟨rfl, rfl, by show _ ≤ _; simp only [rX4_EP, rX4_take]; omega, by show _ ≤ _; simp only [rX4_EP, rX4_take]; omega⟩ ⟨Nat.le_refl _, Nat.le_refl _⟩ (Nat.le_of_ble_eq_true rfl) rfl rfl rfl dX4_readPart_77 ?_
      refine v_iload_n C 3 dX4_readPart_80 rfl ?_
      refine v_iload C 0 dX4_readPart_81 rfl ?_
      refine v_ixor C dX4_readPart_83 ?_
      obtain rfl := Option.some.inj E
      exact v_iret C rfl dX4_readPart_84
    · exact v_sub [0, 2] [(0, va_rf (some o)), (3, .int x3)] rfl (w_X4_readPart_85 C d g_X4_readEither hg_X4_readEither g_X4_readPart hg_X4_readPart ho res  _ _ E)
set_option maxHeartbeats 4000000 in
theorem w_X4_readPart_4 (C : Cx D cA bs Z p s m args meth c cX4_readPart RX4 5 (some .int)) {o : Nat} {K : Sh} {n : Nat} {J : Jm} {R : Rf} (d : Nat) (g_X4_readEither : Nat → Int32 → Im → Option (Int32 × Im)) (hg_X4_readEither : ∀ (o : Nat) (x1 : Int32) (I : Im) (res : Int32 × Im), (K o).1 = 5 → g_X4_readEither o x1 I = some res → Met l yX4_readEither (Cond.code yX4_readEither cX4_readEither 7 (some .int) :: tb) (rX4_EP d) (PX D cA bs Z [.ref o, .int x1] K n I J R) (QX D cA bs Z (some (.int res.1)) K n res.2 J R) 0 0 (fun q => bs ≤ q)) (g_X4_readPart : Nat → Int32 → Im → Option (Int32 × Im)) (hg_X4_readPart : ∀ (o : Nat) (x1 : Int32) (I : Im) (res : Int32 × Im), (K o).1 = 5 → g_X4_readPart o x1 I = some res → Met l yX4_readPart (Cond.code yX4_readPart cX4_readPart 5 (some .int) :: tb) (rX4_EP d) (PX D cA bs Z [.ref o, .int x1] K n I J R) (QX D cA bs Z (some (.int res.1)) K n res.2 J R) 0 0 (fun q => bs ≤ q)) (ho : (K o).1 = 5) (res : Int32 × Im)  : ∀ (k : Nat), ∀ (x2 : Int32) (x3 : Int32) (I : Im), f_X4_readPart_4 K R o g_X4_readEither g_X4_readPart k x2 x3 I = some res → VW D cA bs Z p l e (rX4_EP (d + 1)) s m args below meth c 5 [(0, va_rf (some o)), (2, .int x2), (3, .int x3)] K n I J R 0 0 (MQ below (QX D cA bs Z (some (.int res.1)) K n res.2 J R) args s 0 0 (fun q => bs ≤ q)) 4 [] := by
  intro k
  induction k with
  | zero =>
    intro x2 x3 I E
    have E : (none : Option (Int32 × Im)) = some res := E
    cases E
  | succ k ih =>
    intro x2 x3 I E
    unfold f_X4_readPart_4 at E
    refine v_iload_n C 1 dX4_readPart_4 rfl ?_
    refine v_iconst C dX4_readPart_5 k_iconst_4 ?_
    refine v_icmp_ge C 41 E dX4_readPart_6 rfl (fun c16 E => ?_) (fun c16 E => ?_)
    · exact v_sub [0, 1, 2] [(0, va_rf (some o)), (2, .int x2), (3, .int x3)] rfl (w_X4_readPart_41 C d g_X4_readEither hg_X4_readEither g_X4_readPart hg_X4_readPart ho res  _ _ _ E)
    · refine v_aload_n (r := (some o)) C 0 dX4_readPart_9 rfl ?_
      obtain ⟨q12, h13, E⟩ := bnd E
      refine v_callV (r := (some o)) (As := []) (rv := (some (.int q12))) (st := []) (st1 := [.int q12]) (ce1 := 0) (sl1 := 0) C cv_X4_51 (c_X4_next  ho h13) rfl ho rfl rfl ⟨rfl, rfl, by show _ ≤ _; simp only [rX4_EP, rX4_next]; omega, by show _ ≤ _; simp only [rX4_EP, rX4_next]; omega⟩ ⟨Nat.le_refl _, Nat.le_refl _⟩ (Nat.le_of_ble_eq_true rfl) rfl rfl rfl dX4_readPart_10 ?_
      refine v_bipush C dX4_readPart_13 k_bipush_33 ?_
      refine v_icmp_ne C 41 E dX4_readPart_15 rfl (fun c15 E => ?_) (fun c15 E => ?_)
      · refine v_aload_n (r := (some o)) C 0 dX4_readPart_18 rfl ?_
        refine v_dup C dX4_readPart_19 (rf_cat _) ?_
        refine v_getI (r := (some o)) C fa_X4_37 rfl rfl ho dX4_readPart_20 ?_
        refine v_iconst C dX4_readPart_23 k_iconst_1 ?_
        refine v_iadd C dX4_readPart_24 ?_
        refine v_putI (r := (some o)) C fa_X4_37 rfl E rfl ho ⟨rfl, rfl⟩ dX4_readPart_25 (fun I14 _ E => ?_)
        refine v_ldc C ct_X4_120 dX4_readPart_28 ?_
        refine v_iload_n C 2 dX4_readPart_30 rfl ?_
        refine v_iconst C dX4_readPart_31 k_iconst_m1 ?_
        refine v_ixor C dX4_readPart_32 ?_
        refine v_iand C dX4_readPart_33 ?_
        refine v_istore_n C [(3, .int (16777215 &&& (x3 ^^^ (-1)))), (0, va_rf (some o)), (2, .int x2)] dX4_readPart_34 (Nat.le_of_ble_eq_true rfl) rfl ?_
        refine v_iinc (v := x2 + 1) C 2 [(2, .int (x2 + 1)), (3, .int (16777215 &&& (x3 ^^^ (-1)))), (0, va_rf (some o))] dX4_readPart_35 rfl (k_inc_1 _) (Nat.le_of_ble_eq_true rfl) rfl ?_
        refine v_goto C 4 dX4_readPart_38 rfl ?_
        exact v_sub [2, 0, 1] [(0, va_rf (some o)), (2, .int (x2 + 1)), (3, .int (16777215 &&& (x3 ^^^ (-1))))] rfl (ih _ _ _ E)
      · exact v_sub [0, 1, 2] [(0, va_rf (some o)), (2, .int x2), (3, .int x3)] rfl (w_X4_readPart_41 C d g_X4_readEither hg_X4_readEither g_X4_readPart hg_X4_readPart ho res  _ _ _ E)
set_option maxHeartbeats 4000000 in
theorem w_X4_readPart_0 (C : Cx D cA bs Z p s m args meth c cX4_readPart RX4 5 (some .int)) {o : Nat} {K : Sh} {n : Nat} {J : Jm} {R : Rf} (d : Nat) (g_X4_readEither : Nat → Int32 → Im → Option (Int32 × Im)) (hg_X4_readEither : ∀ (o : Nat) (x1 : Int32) (I : Im) (res : Int32 × Im), (K o).1 = 5 → g_X4_readEither o x1 I = some res → Met l yX4_readEither (Cond.code yX4_readEither cX4_readEither 7 (some .int) :: tb) (rX4_EP d) (PX D cA bs Z [.ref o, .int x1] K n I J R) (QX D cA bs Z (some (.int res.1)) K n res.2 J R) 0 0 (fun q => bs ≤ q)) (g_X4_readPart : Nat → Int32 → Im → Option (Int32 × Im)) (hg_X4_readPart : ∀ (o : Nat) (x1 : Int32) (I : Im) (res : Int32 × Im), (K o).1 = 5 → g_X4_readPart o x1 I = some res → Met l yX4_readPart (Cond.code yX4_readPart cX4_readPart 5 (some .int) :: tb) (rX4_EP d) (PX D cA bs Z [.ref o, .int x1] K n I J R) (QX D cA bs Z (some (.int res.1)) K n res.2 J R) 0 0 (fun q => bs ≤ q)) (ho : (K o).1 = 5) (res : Int32 × Im) (x1 : Int32) (I : Im) (E : f_X4_readPart_0 K R o g_X4_readEither g_X4_readPart x1 I = some res) : VW D cA bs Z p l e (rX4_EP (d + 1)) s m args below meth c 5 [(0, va_rf (some o)), (1, .int x1)] K n I J R 0 0 (MQ below (QX D cA bs Z (some (.int res.1)) K n res.2 J R) args s 0 0 (fun q => bs ≤ q)) 0 [] := by
  unfold f_X4_readPart_0 at E
  refine v_iload_n C 1 dX4_readPart_0 rfl ?_
  refine v_istore_n C [(2, .int x1), (0, va_rf (some o)), (1, .int x1)] dX4_readPart_1 (Nat.le_of_ble_eq_true rfl) rfl ?_
  refine v_iconst C dX4_readPart_2 k_iconst_0 ?_
  refine v_istore_n C [(3, .int 0), (2, .int x1), (0, va_rf (some o)), (1, .int x1)] dX4_readPart_3 (Nat.le_of_ble_eq_true rfl) rfl ?_
  exact v_sub [2, 1, 0] [(0, va_rf (some o)), (2, .int x1), (3, .int 0)] rfl (w_X4_readPart_4 C d g_X4_readEither hg_X4_readEither g_X4_readPart hg_X4_readPart ho res  _ _ _ _ E)
set_option maxHeartbeats 4000000 in
theorem w_X4_readEither_96 (C : Cx D cA bs Z p s m args meth c cX4_readEither RX4 7 (some .int)) {o : Nat} {K : Sh} {n : Nat} {J : Jm} {R : Rf} (d : Nat) (g_X4_readEither : Nat → Int32 → Im → Option (Int32 × Im)) (hg_X4_readEither : ∀ (o : Nat) (x1 : Int32) (I : Im) (res : Int32 × Im), (K o).1 = 5 → g_X4_readEither o x1 I = some res → Met l yX4_readEither (Cond.code yX4_readEither cX4_readEither 7 (some .int) :: tb) (rX4_EP d) (PX D cA bs Z [.ref o, .int x1] K n I J R) (QX D cA bs Z (some (.int res.1)) K n res.2 J R) 0 0 (fun q => bs ≤ q)) (g_X4_readPart : Nat → Int32 → Im → Option (Int32 × Im)) (hg_X4_readPart : ∀ (o : Nat) (x1 : Int32) (I : Im) (res : Int32 × Im), (K o).1 = 5 → g_X4_readPart o x1 I = some res → Met l yX4_readPart (Cond.code yX4_readPart cX4_readPart 5 (some .int) :: tb) (rX4_EP d) (PX D cA bs Z [.ref o, .int x1] K n I J R) (QX D cA bs Z (some (.int res.1)) K n res.2 J R) 0 0 (fun q => bs ≤ q)) (ho : (K o).1 = 5) (res : Int32 × Im) (r11 : Int32 → Int32 → Int32 → Int32 → Im → Option (Int32 × Im)) (hr11 : ∀ (x1 : Int32) (x2 : Int32) (x3 : Int32) (x4 : Int32) (I : Im), r11 x1 x2 x3 x4 I = some res → VW D cA bs Z p l e (rX4_EP (d + 1)) s m args below meth c 7 [(0, va_rf (some o)), (1, .int x1), (2, .int x2), (3, .int x3), (4, .int x4)] K n I J R 0 0 (MQ below (QX D cA bs Z (some (.int res.1)) K n res.2 J R) args s 0 0 (fun q => bs ≤ q)) 11 []) (x1 : Int32) (x2 : Int32) (x4 : Int32) (s0 : Int32) (I : Im) (E : f_X4_readEither_96 K R o g_X4_readEither g_X4_readPart r11 x1 x2 x4 s0 I = some res) : VW D cA bs Z p l e (rX4_EP (d + 1)) s m args below meth c 7 [(0, va_rf (some o)), (1, .int x1), (2, .int x2), (4, .int x4)] K n I J R 0 0 (MQ below (QX D cA bs Z (some (.int res.1)) K n res.2 J R) args s 0 0 (fun q => bs ≤ q)) 96 [.int s0] := by
  unfold f_X4_readEither_96 at E
  refine v_istore_n C [(3, .int s0), (0, va_rf (some o)), (1, .int x1), (2, .int x2), (4, .int x4)] dX4_readEither_96 (Nat.le_of_ble_eq_true rfl) rfl ?_
  refine v_iinc (v := x4 + 1) C 4 [(4, .int (x4 + 1)), (3, .int s0), (0, va_rf (some o)), (1, .int x1), (2, .int x2)] dX4_readEither_97 rfl (k_inc_1 _) (Nat.le_of_ble_eq_true rfl) rfl ?_
  refine v_goto C 11 dX4_readEither_100 rfl ?_
  exact v_sub [2, 3, 4, 1, 0] [(0, va_rf (some o)), (1, .int x1), (2, .int x2), (3, .int s0), (4, .int (x4 + 1))] rfl (hr11 _ _ _ _ _ E)
set_option maxHeartbeats 4000000 in
theorem w_X4_readEither_80 (C : Cx D cA bs Z p s m args meth c cX4_readEither RX4 7 (some .int)) {o : Nat} {K : Sh} {n : Nat} {J : Jm} {R : Rf} (d : Nat) (g_X4_readEither : Nat → Int32 → Im → Option (Int32 × Im)) (hg_X4_readEither : ∀ (o : Nat) (x1 : Int32) (I : Im) (res : Int32 × Im), (K o).1 = 5 → g_X4_readEither o x1 I = some res → Met l yX4_readEither (Cond.code yX4_readEither cX4_readEither 7 (some .int) :: tb) (rX4_EP d) (PX D cA bs Z [.ref o, .int x1] K n I J R) (QX D cA bs Z (some (.int res.1)) K n res.2 J R) 0 0 (fun q => bs ≤ q)) (g_X4_readPart : Nat → Int32 → Im → Option (Int32 × Im)) (hg_X4_readPart : ∀ (o : Nat) (x1 : Int32) (I : Im) (res : Int32 × Im), (K o).1 = 5 → g_X4_readPart o x1 I = some res → Met l yX4_readPart (Cond.code yX4_readPart cX4_readPart 5 (some .int) :: tb) (rX4_EP d) (PX D cA bs Z [.ref o, .int x1] K n I J R) (QX D cA bs Z (some (.int res.1)) K n res.2 J R) 0 0 (fun q => bs ≤ q)) (ho : (K o).1 = 5) (res : Int32 × Im) (r11 : Int32 → Int32 → Int32 → Int32 → Im → Option (Int32 × Im)) (hr11 : ∀ (x1 : Int32) (x2 : Int32) (x3 : Int32) (x4 : Int32) (I : Im), r11 x1 x2 x3 x4 I = some res → VW D cA bs Z p l e (rX4_EP (d + 1)) s m args below meth c 7 [(0, va_rf (some o)), (1, .int x1), (2, .int x2), (3, .int x3), (4, .int x4)] K n I J R 0 0 (MQ below (QX D cA bs Z (some (.int res.1)) K n res.2 J R) args s 0 0 (fun q => bs ≤ q)) 11 []) (x1 : Int32) (x3 : Int32) (x4 : Int32) (x5 : Int32) (x6 : Int32) (s0 : Int32) (s1 : Int32) (I : Im) (E : f_X4_readEither_80 K R o g_X4_readEither g_X4_readPart r11 x1 x3 x4 x5 x6 s0 s1 I = some res) : VW D cA bs Z p l e (rX4_EP (d + 1)) s m args below meth c 7 [(0, va_rf (some o)), (1, .int x1), (3, .int x3), (4, .int x4), (5, .int x5), (6, .int x6)] K n I J R 0 0 (MQ below (QX D cA bs Z (some (.int res.1)) K n res.2 J R) args s 0 0 (fun q => bs ≤ q)) 80 [.int s1, .int s0] := by
  unfold f_X4_readEither_80 at E
  refine v_ior C dX4_readEither_80 ?_
  refine v_istore_n C [(2, .int (s0 ||| s1)), (0, va_rf (some o)), (1, .int x1), (3, .int x3), (4, .int x4), (5, .int x5), (6, .int x6)] dX4_readEither_81 (Nat.le_of_ble_eq_true rfl) rfl ?_
  refine v_iload C 5 dX4_readEither_82 rfl ?_
  refine v_if_eq C 92 E dX4_readEither_84 rfl (fun c1 E => ?_) (fun c1 E => ?_)
  · refine v_iload_n C 3 dX4_readEither_92 rfl ?_
    refine v_iload C 6 dX4_readEither_93 rfl ?_
    refine v_iand C dX4_readEither_95 ?_
    exact v_sub [1, 2, 0, 4] [(0, va_rf (some o)), (1, .int x1), (2, .int (s0 ||| s1)), (4, .int x4)] rfl (w_X4_readEither_96 C d g_X4_readEither hg_X4_readEither g_X4_readPart hg_X4_readPart ho res _ hr11 _ _ _ _ _ E)
  · refine v_iload C 6 dX4_readEither_87 rfl ?_
    refine v_goto C 96 dX4_readEither_89 rfl ?_
    exact v_sub [1, 2, 0, 4] [(0, va_rf (some o)), (1, .int x1), (2, .int (s0 ||| s1)), (4, .int x4)] rfl (w_X4_readEither_96 C d g_X4_readEither hg_X4_readEither g_X4_readPart hg_X4_readPart ho res _ hr11 _ _ _ _ _ E)
set_option maxHeartbeats 4000000 in
theorem w_X4_readEither_50 (C : Cx D cA bs Z p s m args meth c cX4_readEither RX4 7 (some .int)) {o : Nat} {K : Sh} {n : Nat} {J : Jm} {R : Rf} (d : Nat) (g_X4_readEither : Nat → Int32 → Im → Option (Int32 × Im)) (hg_X4_readEither : ∀ (o : Nat) (x1 : Int32) (I : Im) (res : Int32 × Im), (K o).1 = 5 → g_X4_readEither o x1 I = some res → Met l yX4_readEither (Cond.code yX4_readEither cX4_readEither 7 (some .int) :: tb) (rX4_EP d) (PX D cA bs Z [.ref o, .int x1] K n I J R) (QX D cA bs Z (some (.int res.1)) K n res.2 J R) 0 0 (fun q => bs ≤ q)) (g_X4_readPart : Nat → Int32 → Im → Option (Int32 × Im)) (hg_X4_readPart : ∀ (o : Nat) (x1 : Int32) (I : Im) (res : Int32 × Im), (K o).1 = 5 → g_X4_readPart o x1 I = some res → Met l yX4_readPart (Cond.code yX4_readPart cX4_readPart 5 (some .int) :: tb) (rX4_EP d) (PX D cA bs Z [.ref o, .int x1] K n I J R) (QX D cA bs Z (some (.int res.1)) K n res.2 J R) 0 0 (fun q => bs ≤ q)) (ho : (K o).1 = 5) (res : Int32 × Im) (r11 : Int32 → Int32 → Int32 → Int32 → Im → Option (Int32 × Im)) (hr11 : ∀ (x1 : Int32) (x2 : Int32) (x3 : Int32) (x4 : Int32) (I : Im), r11 x1 x2 x3 x4 I = some res → VW D cA bs Z p l e (rX4_EP (d + 1)) s m args below meth c 7 [(0, va_rf (some o)), (1, .int x1), (2, .int x2), (3, .int x3), (4, .int x4)] K n I J R 0 0 (MQ below (QX D cA bs Z (some (.int res.1)) K n res.2 J R) args s 0 0 (fun q => bs ≤ q)) 11 []) (x1 : Int32) (x2 : Int32) (x3 : Int32) (x4 : Int32) (s0 : Int32) (I : Im) (E : f_X4_readEither_50 K R o g_X4_readEither g_X4_readPart r11 x1 x2 x3 x4 s0 I = some res) : VW D cA bs Z p l e (rX4_EP (d + 1)) s m args below meth c 7 [(0, va_rf (some o)), (1, .int x1), (2, .int x2), (3, .int x3), (4, .int x4)] K n I J R 0 0 (MQ below (QX D cA bs Z (some (.int res.1)) K n res.2 J R) args s 0 0 (fun q => bs ≤ q)) 50 [.int s0] := by
  unfold f_X4_readEither_50 at E
  refine v_istore C [(5, .int s0), (0, va_rf (some o)), (1, .int x1), (2, .int x2), (3, .int x3), (4, .int x4)] dX4_readEither_50 (Nat.le_of_ble_eq_true rfl) rfl ?_
  refine v_aload_n (r := (some o)) C 1 dX4_readEither_52 rfl ?_
  refine v_dup C dX4_readEither_53 (rf_cat _) ?_
  refine v_getI (r := (some o)) C fa_X4_37 rfl rfl ho dX4_readEither_54 ?_
  refine v_iconst C dX4_readEither_57 k_iconst_1 ?_
  refine v_iadd C dX4_readEither_58 ?_
  refine v_putI (r := (some o)) C fa_X4_37 rfl E rfl ho ⟨rfl, rfl⟩ dX4_readEither_59 (fun I2 _ E => ?_)
  refine v_aload_n (r := (some o)) C 1 dX4_readEither_62 rfl ?_
  refine v_iload_n C 2 dX4_readEither_63 rfl ?_
  obtain ⟨q3, h4, E⟩ := bnd E
  refine v_callV (r := (some o)) (As := [.int x1]) (rv := (some (.int q3.1))) (st := []) (st1 := [.int q3.1]) (ce1 := 0) (sl1 := 0) C cv_X4_117 (hg_X4_readPart _ _ _ _ ho  h4) rfl ho rfl rfl ⟨rfl, rfl, by show _ ≤ _; simp only [rX4_EP]; omega, by show _ ≤ _; simp only [rX4_EP]; omega⟩ ⟨Nat.le_refl _, Nat.le_refl _⟩ (Nat.le_of_ble_eq_true rfl) rfl rfl rfl dX4_readEither_64 ?_
  refine v_istore C [(6, .int q3.1), (5, .int s0), (0, va_rf (some o)), (1, .int x1), (2, .int x2), (3, .int x3), (4, .int x4)] dX4_readEither_67 (Nat.le_of_ble_eq_true rfl) rfl ?_
  refine v_iload_n C 4 dX4_readEither_69 rfl ?_
  refine v_iload C 1 dX4_readEither_70 rfl ?_
  refine v_if_eq C 79 E dX4_readEither_72 rfl (fun c5 E => ?_) (fun c5 E => ?_)
  · refine v_iconst C dX4_readEither_79 k_iconst_0 ?_
    exact v_sub [2, 3, 5, 6, 1, 0] [(0, va_rf (some o)), (1, .int x1), (3, .int x3), (4, .int x4), (5, .int s0), (6, .int q3.1)] rfl (w_X4_readEither_80 C d g_X4_readEither hg_X4_readEither g_X4_readPart hg_X4_readPart ho res _ hr11 _ _ _ _ _ _ _ _ E)
  · refine v_iload_n C 5 dX4_readEither_75 rfl ?_
    refine v_goto C 80 dX4_readEither_76 rfl ?_
    exact v_sub [2, 3, 5, 6, 1, 0] [(0, va_rf (some o)), (1, .int x1), (3, .int x3), (4, .int x4), (5, .int s0), (6, .int q3.1)] rfl (w_X4_readEither_80 C d g_X4_readEither hg_X4_readEither g_X4_readPart hg_X4_readPart ho res _ hr11 _ _ _ _ _ _ _ _ E)
set_option maxHeartbeats 4000000 in
theorem w_X4_readEither_36 (C : Cx D cA bs Z p s m args meth c cX4_readEither RX4 7 (some .int)) {o : Nat} {K : Sh} {n : Nat} {J : Jm} {R : Rf} (d : Nat) (g_X4_readEither : Nat → Int32 → Im → Option (Int32 × Im)) (hg_X4_readEither : ∀ (o : Nat) (x1 : Int32) (I : Im) (res : Int32 × Im), (K o).1 = 5 → g_X4_readEither o x1 I = some res → Met l yX4_readEither (Cond.code yX4_readEither cX4_readEither 7 (some .int) :: tb) (rX4_EP d) (PX D cA bs Z [.ref o, .int x1] K n I J R) (QX D cA bs Z (some (.int res.1)) K n res.2 J R) 0 0 (fun q => bs ≤ q)) (g_X4_readPart : Nat → Int32 → Im → Option (Int32 × Im)) (hg_X4_readPart : ∀ (o : Nat) (x1 : Int32) (I : Im) (res : Int32 × Im), (K o).1 = 5 → g_X4_readPart o x1 I = some res → Met l yX4_readPart (Cond.code yX4_readPart cX4_readPart 5 (some .int) :: tb) (rX4_EP d) (PX D cA bs Z [.ref o, .int x1] K n I J R) (QX D cA bs Z (some (.int res.1)) K n res.2 J R) 0 0 (fun q => bs ≤ q)) (ho : (K o).1 = 5) (res : Int32 × Im) (r11 : Int32 → Int32 → Int32 → Int32 → Im → Option (Int32 × Im)) (hr11 : ∀ (x1 : Int32) (x2 : Int32) (x3 : Int32) (x4 : Int32) (I : Im), r11 x1 x2 x3 x4 I = some res → VW D cA bs Z p l e (rX4_EP (d + 1)) s m args below meth c 7 [(0, va_rf (some o)), (1, .int x1), (2, .int x2), (3, .int x3), (4, .int x4)] K n I J R 0 0 (MQ below (QX D cA bs Z (some (.int res.1)) K n res.2 J R) args s 0 0 (fun q => bs ≤ q)) 11 []) (x1 : Int32) (x2 : Int32) (x3 : Int32) (x4 : Int32) (I : Im) (E : f_X4_readEither_36 K R o g_X4_readEither g_X4_readPart r11 x1 x2 x3 x4 I = some res) : VW D cA bs Z p l e (rX4_EP (d + 1)) s m args below meth c 7 [(0, va_rf (some o)), (1, .int x1), (2, .int x2), (3, .int x3), (4, .int x4)] K n I J R 0 0 (MQ below (QX D cA bs Z (some (.int res.1)) K n res.2 J R) args s 0 0 (fun q => bs ≤ q)) 36 [] := by
  unfold f_X4_readEither_36 at E
  refine v_aload_n (r := (some o)) C 0 dX4_readEither_36 rfl ?_
  obtain ⟨q6, h7, E⟩ := bnd E
  refine v_callV (r := (some o)) (As := []) (rv := (some (.int q6))) (st := []) (st1 := [.int q6]) (ce1 := 0) (sl1 := 0) C cv_X4_51 (c_X4_next  ho h7) rfl ho rfl rfl ⟨rfl, rfl, by show _ ≤ _; simp only [rX4_EP, rX4_next]; omega, by show _ ≤ _; simp only [rX4_EP, rX4_next]; omega⟩ ⟨Nat.le_refl _, Nat.le_refl _⟩ (Nat.le_of_ble_eq_true rfl) rfl rfl rfl dX4_readEither_37 ?_
  refine v_bipush C dX4_readEither_40 k_bipush_124 ?_
  refine v_icmp_ne C 49 E dX4_readEither_42 rfl (fun c8 E => ?_) (fun c8 E => ?_)
  · refine v_iconst C dX4_readEither_45 k_iconst_1 ?_
    refine v_goto C 50 dX4_readEither_46 rfl ?_
    exact v_sub [0, 1, 2, 3, 4] [(0, va_rf (some o)), (1, .int x1), (2, .int x2), (3, .int x3), (4, .int x4)] rfl (w_X4_readEither_50 C d g_X4_readEither hg_X4_readEither g_X4_readPart hg_X4_readPart ho res _ hr11 _ _ _ _ _ _ E)
  · refine v_iconst C dX4_readEither_49 k_iconst_0 ?_
    exact v_sub [0, 1, 2, 3, 4] [(0, va_rf (some o)), (1, .int x1), (2, .int x2), (3, .int x3), (4, .int x4)] rfl (w_X4_readEither_50 C d g_X4_readEither hg_X4_readEither g_X4_readPart hg_X4_readPart ho res _ hr11 _ _ _ _ _ _ E)
set_option maxHeartbeats 4000000 in
theorem w_X4_readEither_11 (C : Cx D cA bs Z p s m args meth c cX4_readEither RX4 7 (some .int)) {o : Nat} {K : Sh} {n : Nat} {J : Jm} {R : Rf} (d : Nat) (g_X4_readEither : Nat → Int32 → Im → Option (Int32 × Im)) (hg_X4_readEither : ∀ (o : Nat) (x1 : Int32) (I : Im) (res : Int32 × Im), (K o).1 = 5 → g_X4_readEither o x1 I = some res → Met l yX4_readEither (Cond.code yX4_readEither cX4_readEither 7 (some .int) :: tb) (rX4_EP d) (PX D cA bs Z [.ref o, .int x1] K n I J R) (QX D cA bs Z (some (.int res.1)) K n res.2 J R) 0 0 (fun q => bs ≤ q)) (g_X4_readPart : Nat → Int32 → Im → Option (Int32 × Im)) (hg_X4_readPart : ∀ (o : Nat) (x1 : Int32) (I : Im) (res : Int32 × Im), (K o).1 = 5 → g_X4_readPart o x1 I = some res → Met l yX4_readPart (Cond.code yX4_readPart cX4_readPart 5 (some .int) :: tb) (rX4_EP d) (PX D cA bs Z [.ref o, .int x1] K n I J R) (QX D cA bs Z (some (.int res.1)) K n res.2 J R) 0 0 (fun q => bs ≤ q)) (ho : (K o).1 = 5) (res : Int32 × Im)  : ∀ (k : Nat), ∀ (x1 : Int32) (x2 : Int32) (x3 : Int32) (x4 : Int32) (I : Im), f_X4_readEither_11 K R o g_X4_readEither g_X4_readPart k x1 x2 x3 x4 I = some res → VW D cA bs Z p l e (rX4_EP (d + 1)) s m args below meth c 7 [(0, va_rf (some o)), (1, .int x1), (2, .int x2), (3, .int x3), (4, .int x4)] K n I J R 0 0 (MQ below (QX D cA bs Z (some (.int res.1)) K n res.2 J R) args s 0 0 (fun q => bs ≤ q)) 11 [] := by
  intro k
  induction k with
  | zero =>
    intro x1 x2 x3 x4 I E
    have E : (none : Option (Int32 × Im)) = some res := E
    cases E
  | succ k ih =>
    intro x1 x2 x3 x4 I E
    unfold f_X4_readEither_11 at E
    refine v_iload C 4 dX4_readEither_11 rfl ?_
    refine v_bipush C dX4_readEither_13 k_bipush_100 ?_
    refine v_icmp_ge C 103 E dX4_readEither_15 rfl (fun c15 E => ?_) (fun c15 E => ?_)
    · refine v_iload_n C 2 dX4_readEither_103 rfl ?_
      refine v_iload_n C 3 dX4_readEither_104 rfl ?_
      refine v_ior C dX4_readEither_105 ?_
      obtain rfl := Option.some.inj E
      exact v_iret C rfl dX4_readEither_106
    · refine v_aload_n (r := (some o)) C 0 dX4_readEither_18 rfl ?_
      obtain ⟨q9, h10, E⟩ := bnd E
      refine v_callV (r := (some o)) (As := []) (rv := (some (.int q9))) (st := []) (st1 := [.int q9]) (ce1 := 0) (sl1 := 0) C cv_X4_51 (c_X4_next  ho h10) rfl ho rfl rfl ⟨rfl, rfl, by show _ ≤ _; simp only [rX4_EP, rX4_next]; omega, by show _ ≤ _; simp only [rX4_EP, rX4_next]; omega⟩ ⟨Nat.le_refl _, Nat.le_refl _⟩ (Nat.le_of_ble_eq_true rfl) rfl rfl rfl dX4_readEither_19 ?_
      refine v_bipush C dX4_readEither_22 k_bipush_124 ?_
      refine v_icmp_eq C 36 E dX4_readEither_24 rfl (fun c14 E => ?_) (fun c14 E => ?_)
      · exact v_sub [0, 1, 2, 3, 4] [(0, va_rf (some o)), (1, .int x1), (2, .int x2), (3, .int x3), (4, .int x4)] rfl (w_X4_readEither_36 C d g_X4_readEither hg_X4_readEither g_X4_readPart hg_X4_readPart ho res _ ih _ _ _ _ _ E)
      · refine v_aload_n (r := (some o)) C 0 dX4_readEither_27 rfl ?_
        obtain ⟨q11, h12, E⟩ := bnd E
        refine v_callV (r := (some o)) (As := []) (rv := (some (.int q11))) (st := []) (st1 := [.int q11]) (ce1 := 0) (sl1 := 0) C cv_X4_51 (c_X4_next  ho h12) rfl ho rfl rfl ⟨rfl, rfl, by show _ ≤ _; simp only [rX4_EP, rX4_next]; omega, by show _ ≤ _; simp only [rX4_EP, rX4_next]; omega⟩ ⟨Nat.le_refl _, Nat.le_refl _⟩ (Nat.le_of_ble_eq_true rfl) rfl rfl rfl dX4_readEither_28 ?_
        refine v_bipush C dX4_readEither_31 k_bipush_38 ?_
        refine v_icmp_ne C 103 E dX4_readEither_33 rfl (fun c13 E => ?_) (fun c13 E => ?_)
        · exact v_sub [0, 1, 2, 3, 4] [(0, va_rf (some o)), (1, .int x1), (2, .int x2), (3, .int x3), (4, .int x4)] rfl (w_X4_readEither_36 C d g_X4_readEither hg_X4_readEither g_X4_readPart hg_X4_readPart ho res _ ih _ _ _ _ _ E)
        · refine v_iload_n C 2 dX4_readEither_103 rfl ?_
          refine v_iload_n C 3 dX4_readEither_104 rfl ?_
          refine v_ior C dX4_readEither_105 ?_
          obtain rfl := Option.some.inj E
          exact v_iret C rfl dX4_readEither_106
set_option maxHeartbeats 4000000 in
theorem w_X4_readEither_0 (C : Cx D cA bs Z p s m args meth c cX4_readEither RX4 7 (some .int)) {o : Nat} {K : Sh} {n : Nat} {J : Jm} {R : Rf} (d : Nat) (g_X4_readEither : Nat → Int32 → Im → Option (Int32 × Im)) (hg_X4_readEither : ∀ (o : Nat) (x1 : Int32) (I : Im) (res : Int32 × Im), (K o).1 = 5 → g_X4_readEither o x1 I = some res → Met l yX4_readEither (Cond.code yX4_readEither cX4_readEither 7 (some .int) :: tb) (rX4_EP d) (PX D cA bs Z [.ref o, .int x1] K n I J R) (QX D cA bs Z (some (.int res.1)) K n res.2 J R) 0 0 (fun q => bs ≤ q)) (g_X4_readPart : Nat → Int32 → Im → Option (Int32 × Im)) (hg_X4_readPart : ∀ (o : Nat) (x1 : Int32) (I : Im) (res : Int32 × Im), (K o).1 = 5 → g_X4_readPart o x1 I = some res → Met l yX4_readPart (Cond.code yX4_readPart cX4_readPart 5 (some .int) :: tb) (rX4_EP d) (PX D cA bs Z [.ref o, .int x1] K n I J R) (QX D cA bs Z (some (.int res.1)) K n res.2 J R) 0 0 (fun q => bs ≤ q)) (ho : (K o).1 = 5) (res : Int32 × Im) (x1 : Int32) (I : Im) (E : f_X4_readEither_0 K R o g_X4_readEither g_X4_readPart x1 I = some res) : VW D cA bs Z p l e (rX4_EP (d + 1)) s m args below meth c 7 [(0, va_rf (some o)), (1, .int x1)] K n I J R 0 0 (MQ below (QX D cA bs Z (some (.int res.1)) K n res.2 J R) args s 0 0 (fun q => bs ≤ q)) 0 [] := by
  unfold f_X4_readEither_0 at E
  refine v_iconst C dX4_readEither_0 k_iconst_0 ?_
  refine v_istore_n C [(2, .int 0), (0, va_rf (some o)), (1, .int x1)] dX4_readEither_1 (Nat.le_of_ble_eq_true rfl) rfl ?_
  refine v_aload_n (r := (some o)) C 1 dX4_readEither_2 rfl ?_
  refine v_iload_n C 2 dX4_readEither_3 rfl ?_
  obtain ⟨q16, h17, E⟩ := bnd E
  refine v_callV (r := (some o)) (As := [.int x1]) (rv := (some (.int q16.1))) (st := []) (st1 := [.int q16.1]) (ce1 := 0) (sl1 := 0) C cv_X4_117 (hg_X4_readPart _ _ _ _ ho  h17) rfl ho rfl rfl ⟨rfl, rfl, by show _ ≤ _; simp only [rX4_EP]; omega, by show _ ≤ _; simp only [rX4_EP]; omega⟩ ⟨Nat.le_refl _, Nat.le_refl _⟩ (Nat.le_of_ble_eq_true rfl) rfl rfl rfl dX4_readEither_4 ?_
  refine v_istore_n C [(3, .int q16.1), (2, .int 0), (0, va_rf (some o)), (1, .int x1)] dX4_readEither_7 (Nat.le_of_ble_eq_true rfl) rfl ?_
  refine v_iconst C dX4_readEither_8 k_iconst_0 ?_
  refine v_istore C [(4, .int 0), (3, .int q16.1), (2, .int 0), (0, va_rf (some o)), (1, .int x1)] dX4_readEither_9 (Nat.le_of_ble_eq_true rfl) rfl ?_
  exact v_sub [3, 4, 2, 1, 0] [(0, va_rf (some o)), (1, .int x1), (2, .int 0), (3, .int q16.1), (4, .int 0)] rfl (w_X4_readEither_11 C d g_X4_readEither hg_X4_readEither g_X4_readPart hg_X4_readPart ho res  _ _ _ _ _ _ E)
set_option maxHeartbeats 4000000 in
theorem c_X4_EP {K : Sh} {n : Nat} {J : Jm} {R : Rf} : ∀ d : Nat, (∀ (o : Nat) (x1 : Int32) (I : Im) (res : Int32 × Im), (K o).1 = 5 → (F_X4_EP K R d).1 o x1 I = some res → Met l yX4_readEither (Cond.code yX4_readEither cX4_readEither 7 (some .int) :: tb) (rX4_EP d) (PX D cA bs Z [.ref o, .int x1] K n I J R) (QX D cA bs Z (some (.int res.1)) K n res.2 J R) 0 0 (fun q => bs ≤ q)) ∧ (∀ (o : Nat) (x1 : Int32) (I : Im) (res : Int32 × Im), (K o).1 = 5 → (F_X4_EP K R d).2 o x1 I = some res → Met l yX4_readPart (Cond.code yX4_readPart cX4_readPart 5 (some .int) :: tb) (rX4_EP d) (PX D cA bs Z [.ref o, .int x1] K n I J R) (QX D cA bs Z (some (.int res.1)) K n res.2 J R) 0 0 (fun q => bs ≤ q)) := by
  intro d
  induction d with
  | zero =>
    exact ⟨(by intro o x1 I res ho E; have E : (none : Option (Int32 × Im)) = some res := E; cases E), (by intro o x1 I res ho E; have E : (none : Option (Int32 × Im)) = some res := E; cases E)⟩
  | succ d ih =>
    refine ⟨?_, ?_⟩
    · intro o x1 I res ho E
      refine met_of (lv1 := [(0, va_rf (some o)), (1, .int x1)]) pn_X4 (by exact Nat.le_of_ble_eq_true rfl) (by rfl) ?_
      intro p e s m args below meth c C hn
      exact v_sub [0, 1] [(0, va_rf (some o)), (1, .int x1)] rfl (w_X4_readEither_0 C d _ ih.1 _ ih.2 ho res _ _ E)
    · intro o x1 I res ho E
      refine met_of (lv1 := [(0, va_rf (some o)), (1, .int x1)]) pn_X4 (by exact Nat.le_of_ble_eq_true rfl) (by rfl) ?_
      intro p e s m args below meth c C hn
      exact v_sub [0, 1] [(0, va_rf (some o)), (1, .int x1)] rfl (w_X4_readPart_0 C d _ ih.1 _ ih.2 ho res _ _ E)
theorem c_X4_readEither {n : Nat} {K : Sh} {I : Im} {J : Jm} {R : Rf} {o : Nat} {x1 : Int32} (ho : (K o).1 = 5) {res : Int32 × Im} (E : f_X4_readEither K R o x1 I = some res) : Met l yX4_readEither (Cond.code yX4_readEither cX4_readEither 7 (some .int) :: tb) rX4_readEither (PX D cA bs Z [.ref o, .int x1] K n I J R) (QX D cA bs Z (some (.int res.1)) K n res.2 J R) 0 0 (fun q => bs ≤ q) := (c_X4_EP 14).1 _ _ _ _ ho E
theorem c_X4_readPart {n : Nat} {K : Sh} {I : Im} {J : Jm} {R : Rf} {o : Nat} {x1 : Int32} (ho : (K o).1 = 5) {res : Int32 × Im} (E : f_X4_readPart K R o x1 I = some res) : Met l yX4_readPart (Cond.code yX4_readPart cX4_readPart 5 (some .int) :: tb) rX4_readPart (PX D cA bs Z [.ref o, .int x1] K n I J R) (QX D cA bs Z (some (.int res.1)) K n res.2 J R) 0 0 (fun q => bs ≤ q) := (c_X4_EP 14).2 _ _ _ _ ho E
set_option maxHeartbeats 4000000 in
theorem w_X4_keepDrink_0 (C : Cx D cA bs Z p s m args meth c cX4_keepDrink RX4 3 none) {o : Nat} {K : Sh} {n : Nat} {J : Jm} {R : Rf} (ho : (K o).1 = 5) (res : Im) (x1 : Int32) (x2 : Int32) (I : Im) (E : f_X4_keepDrink K R o x1 x2 I = some res) : VW D cA bs Z p l e rX4_keepDrink s m args below meth c 3 [(0, va_rf (some o)), (1, .int x1), (2, .int x2)] K n I J R 0 0 (MQ below (QX D cA bs Z none K n res J R) args s 0 0 (fun q => bs ≤ q)) 0 [] := by
  unfold f_X4_keepDrink at E
  refine v_aload_n (r := (some o)) C 0 dX4_keepDrink_0 rfl ?_
  refine v_getI (r := (some o)) C fa_X4_44 rfl rfl ho dX4_keepDrink_1 ?_
  refine v_bipush C dX4_keepDrink_4 k_bipush_12 ?_
  refine v_icmp_ge C 39 E dX4_keepDrink_6 rfl (fun c4 E => ?_) (fun c4 E => ?_)
  · obtain rfl := Option.some.inj E
    exact v_vret C rfl dX4_keepDrink_39
  · refine v_aload_n (r := (some o)) C 0 dX4_keepDrink_9 rfl ?_
    refine v_getR (r := (some o)) C fa_X4_15 rfl rfl ho dX4_keepDrink_10 ?_
    refine v_aload_n (r := (some o)) C 0 dX4_keepDrink_13 rfl ?_
    refine v_getI (r := (some o)) C fa_X4_44 rfl rfl ho dX4_keepDrink_14 ?_
    refine v_iload_n C 1 dX4_keepDrink_17 rfl ?_
    refine v_iast (r := (R o 5)) C E dX4_keepDrink_18 (fun I1 _ E => ?_)
    refine v_aload_n (r := (some o)) C 0 dX4_keepDrink_19 rfl ?_
    refine v_getR (r := (some o)) C fa_X4_19 rfl rfl ho dX4_keepDrink_20 ?_
    refine v_aload_n (r := (some o)) C 0 dX4_keepDrink_23 rfl ?_
    refine v_getI (r := (some o)) C fa_X4_44 rfl rfl ho dX4_keepDrink_24 ?_
    refine v_iload_n C 2 dX4_keepDrink_27 rfl ?_
    refine v_iast (r := (R o 6)) C E dX4_keepDrink_28 (fun I2 _ E => ?_)
    refine v_aload_n (r := (some o)) C 0 dX4_keepDrink_29 rfl ?_
    refine v_dup C dX4_keepDrink_30 (rf_cat _) ?_
    refine v_getI (r := (some o)) C fa_X4_44 rfl rfl ho dX4_keepDrink_31 ?_
    refine v_iconst C dX4_keepDrink_34 k_iconst_1 ?_
    refine v_iadd C dX4_keepDrink_35 ?_
    refine v_putI (r := (some o)) C fa_X4_44 rfl E rfl ho ⟨rfl, rfl⟩ dX4_keepDrink_36 (fun I3 _ E => ?_)
    obtain rfl := Option.some.inj E
    exact v_vret C rfl dX4_keepDrink_39
set_option maxHeartbeats 4000000 in
theorem c_X4_keepDrink {n : Nat} {K : Sh} {I : Im} {J : Jm} {R : Rf} {o : Nat} {x1 : Int32} {x2 : Int32} (ho : (K o).1 = 5) {res : Im} (E : f_X4_keepDrink K R o x1 x2 I = some res) : Met l yX4_keepDrink (Cond.code yX4_keepDrink cX4_keepDrink 3 none :: tb) rX4_keepDrink (PX D cA bs Z [.ref o, .int x1, .int x2] K n I J R) (QX D cA bs Z none K n res J R) 0 0 (fun q => bs ≤ q) := by
  refine met_of (lv1 := [(0, va_rf (some o)), (1, .int x1), (2, .int x2)]) pn_X4 (by exact Nat.le_of_ble_eq_true rfl) (by rfl) ?_
  intro p e s m args below meth c C hn
  exact v_sub [0, 1, 2] [(0, va_rf (some o)), (1, .int x1), (2, .int x2)] rfl (w_X4_keepDrink_0 C ho _ _ _ _ E)
set_option maxHeartbeats 4000000 in
theorem w_X4_readClause_0 (C : Cx D cA bs Z p s m args meth c cX4_readClause RX4 4 none) {o : Nat} {K : Sh} {n : Nat} {J : Jm} {R : Rf} (ho : (K o).1 = 5) (res : Im) (x1 : Option Nat) (I : Im) (E : f_X4_readClause Z K R o x1 I = some res) : VW D cA bs Z p l e rX4_readClause s m args below meth c 4 [(0, va_rf (some o)), (1, va_rf x1)] K n I J R 0 0 (MQ below (QX D cA bs Z none K n res J R) args s 0 0 (fun q => bs ≤ q)) 0 [] := by
  unfold f_X4_readClause at E
  refine v_aload_n (r := (some o)) C 0 dX4_readClause_0 rfl ?_
  obtain ⟨q1, h2, E⟩ := bnd E
  refine v_callV (r := (some o)) (As := []) (rv := (some (.int q1))) (st := []) (st1 := [.int q1]) (ce1 := 0) (sl1 := 0) C cv_X4_51 (c_X4_next  ho h2) rfl ho rfl rfl ⟨rfl, rfl, Nat.le_of_ble_eq_true rfl, Nat.le_of_ble_eq_true rfl⟩ ⟨Nat.le_of_ble_eq_true rfl, Nat.le_of_ble_eq_true rfl⟩ (Nat.le_of_ble_eq_true rfl) rfl rfl rfl dX4_readClause_1 ?_
  by_cases c10 : q1 = 99
  · have E := ite_t E c10
    refine v_lookup (off := 98) C 102 dX4_readClause_4 (by decide) (by rw [c10]; decide) rfl ?_
    refine v_aload_n (r := (some o)) C 0 dX4_readClause_102 rfl ?_
    refine v_ldcS C 1 (by decide) dX4_readClause_103 ?_
    obtain ⟨q3, h4, E⟩ := bnd E
    refine v_callV (r := (some o)) (As := [va_rf (some (Z 11))]) (rv := none) (st := []) (st1 := []) (ce1 := 0) (sl1 := 0) C cv_X4_79 (c_X4_takeWord (x1 := (some (Z 11))) ho h4) rfl ho rfl rfl ⟨rfl, rfl, Nat.le_of_ble_eq_true rfl, Nat.le_of_ble_eq_true rfl⟩ ⟨Nat.le_of_ble_eq_true rfl, Nat.le_of_ble_eq_true rfl⟩ (Nat.le_of_ble_eq_true rfl) rfl rfl rfl dX4_readClause_105 ?_
    refine v_aload_n (r := x1) C 1 dX4_readClause_108 rfl ?_
    refine v_aload_n (r := (some o)) C 0 dX4_readClause_109 rfl ?_
    refine v_iconst C dX4_readClause_110 k_iconst_2 ?_
    obtain ⟨q5, h6, E⟩ := bnd E
    refine v_callV (r := (some o)) (As := [.int 2]) (rv := (some (.int q5.1))) (st := [va_rf x1]) (st1 := [.int q5.1, va_rf x1]) (ce1 := 0) (sl1 := 0) C cv_X4_83 (c_X4_readNumber (x1 := 2) ho h6) rfl ho rfl rfl ⟨rfl, rfl, Nat.le_of_ble_eq_true rfl, Nat.le_of_ble_eq_true rfl⟩ ⟨Nat.le_of_ble_eq_true rfl, Nat.le_of_ble_eq_true rfl⟩ (by simp only [List.map_cons, List.map_nil, List.sum_cons, List.sum_nil, rf_cat]; exact Nat.le_of_ble_eq_true rfl) rfl rfl rfl dX4_readClause_111 ?_
    obtain ⟨a7, h8, E⟩ := bnd E
    obtain ⟨hra7, hoa7⟩ := ob_is h8
    refine v_putI (r := x1) C fa_X4_96 rfl E hra7 hoa7 ⟨rfl, rfl⟩ dX4_readClause_114 (fun I9 _ E => ?_)
    refine v_goto C 161 dX4_readClause_117 rfl ?_
    obtain rfl := Option.some.inj E
    exact v_vret C rfl dX4_readClause_161
  have E := ite_f E c10
  by_cases c21 : q1 = 100
  · have E := ite_t E c21
    refine v_lookup (off := 60) C 64 dX4_readClause_4 (by decide) (by rw [c21]; decide) rfl ?_
    refine v_aload_n (r := (some o)) C 0 dX4_readClause_64 rfl ?_
    refine v_ldcS C 0 (by decide) dX4_readClause_65 ?_
    obtain ⟨q11, h12, E⟩ := bnd E
    refine v_callV (r := (some o)) (As := [va_rf (some (Z 10))]) (rv := none) (st := []) (st1 := []) (ce1 := 0) (sl1 := 0) C cv_X4_79 (c_X4_takeWord (x1 := (some (Z 10))) ho h12) rfl ho rfl rfl ⟨rfl, rfl, Nat.le_of_ble_eq_true rfl, Nat.le_of_ble_eq_true rfl⟩ ⟨Nat.le_of_ble_eq_true rfl, Nat.le_of_ble_eq_true rfl⟩ (Nat.le_of_ble_eq_true rfl) rfl rfl rfl dX4_readClause_67 ?_
    refine v_aload_n (r := (some o)) C 0 dX4_readClause_70 rfl ?_
    refine v_iconst C dX4_readClause_71 k_iconst_2 ?_
    obtain ⟨q13, h14, E⟩ := bnd E
    refine v_callV (r := (some o)) (As := [.int 2]) (rv := (some (.int q13.1))) (st := []) (st1 := [.int q13.1]) (ce1 := 0) (sl1 := 0) C cv_X4_83 (c_X4_readNumber (x1 := 2) ho h14) rfl ho rfl rfl ⟨rfl, rfl, Nat.le_of_ble_eq_true rfl, Nat.le_of_ble_eq_true rfl⟩ ⟨Nat.le_of_ble_eq_true rfl, Nat.le_of_ble_eq_true rfl⟩ (Nat.le_of_ble_eq_true rfl) rfl rfl rfl dX4_readClause_72 ?_
    refine v_istore_n C [(2, .int q13.1), (0, va_rf (some o)), (1, va_rf x1)] dX4_readClause_75 (Nat.le_of_ble_eq_true rfl) (by generalize x1 = rr; cases rr <;> rfl) ?_
    refine v_aload_n (r := (some o)) C 1 dX4_readClause_76 rfl ?_
    refine v_bipush C dX4_readClause_77 k_bipush_32 ?_
    obtain ⟨q15, h16, E⟩ := bnd E
    refine v_callV (r := (some o)) (As := [.int 32]) (rv := none) (st := []) (st1 := []) (ce1 := 0) (sl1 := 0) C cv_X4_70 (c_X4_take (x1 := 32) ho h16) rfl ho rfl rfl ⟨rfl, rfl, Nat.le_of_ble_eq_true rfl, Nat.le_of_ble_eq_true rfl⟩ ⟨Nat.le_of_ble_eq_true rfl, Nat.le_of_ble_eq_true rfl⟩ (Nat.le_of_ble_eq_true rfl) rfl rfl rfl dX4_readClause_79 ?_
    refine v_aload_n (r := (some o)) C 1 dX4_readClause_82 rfl ?_
    refine v_getI (r := (some o)) C fa_X4_37 rfl rfl ho dX4_readClause_83 ?_
    refine v_istore_n C [(3, .int (q15 o 2)), (2, .int q13.1), (0, va_rf (some o)), (1, va_rf x1)] dX4_readClause_86 (Nat.le_of_ble_eq_true rfl) rfl ?_
    refine v_aload_n (r := (some o)) C 2 dX4_readClause_87 rfl ?_
    refine v_iconst C dX4_readClause_88 k_iconst_0 ?_
    obtain ⟨q17, h18, E⟩ := bnd E
    refine v_callV (r := (some o)) (As := [.int 0]) (rv := (some (.int q17.1))) (st := []) (st1 := [.int q17.1]) (ce1 := 0) (sl1 := 0) C cv_X4_87 (c_X4_readEither (x1 := 0) ho h18) rfl ho rfl rfl ⟨rfl, rfl, Nat.le_of_ble_eq_true rfl, Nat.le_of_ble_eq_true rfl⟩ ⟨Nat.le_of_ble_eq_true rfl, Nat.le_of_ble_eq_true rfl⟩ (Nat.le_of_ble_eq_true rfl) rfl rfl rfl dX4_readClause_89 ?_
    refine v_pop C dX4_readClause_92 rfl ?_
    refine v_aload_n (r := (some o)) C 2 dX4_readClause_93 rfl ?_
    refine v_iload_n C 1 dX4_readClause_94 rfl ?_
    refine v_iload_n C 0 dX4_readClause_95 rfl ?_
    obtain ⟨q19, h20, E⟩ := bnd E
    refine v_callV (r := (some o)) (As := [.int q13.1, .int (q15 o 2)]) (rv := none) (st := []) (st1 := []) (ce1 := 0) (sl1 := 0) C cv_X4_90 (c_X4_keepDrink (x1 := q13.1) (x2 := (q15 o 2)) ho h20) rfl ho rfl rfl ⟨rfl, rfl, Nat.le_of_ble_eq_true rfl, Nat.le_of_ble_eq_true rfl⟩ ⟨Nat.le_of_ble_eq_true rfl, Nat.le_of_ble_eq_true rfl⟩ (Nat.le_of_ble_eq_true rfl) rfl rfl rfl dX4_readClause_96 ?_
    refine v_goto C 161 dX4_readClause_99 rfl ?_
    obtain rfl := Option.some.inj E
    exact v_vret C rfl dX4_readClause_161
  have E := ite_f E c21
  by_cases c29 : q1 = 108
  · have E := ite_t E c29
    refine v_lookup (off := 116) C 120 dX4_readClause_4 (by decide) (by rw [c29]; decide) rfl ?_
    refine v_aload_n (r := (some o)) C 0 dX4_readClause_120 rfl ?_
    refine v_ldcS C 2 (by decide) dX4_readClause_121 ?_
    obtain ⟨q22, h23, E⟩ := bnd E
    refine v_callV (r := (some o)) (As := [va_rf (some (Z 12))]) (rv := none) (st := []) (st1 := []) (ce1 := 0) (sl1 := 0) C cv_X4_79 (c_X4_takeWord (x1 := (some (Z 12))) ho h23) rfl ho rfl rfl ⟨rfl, rfl, Nat.le_of_ble_eq_true rfl, Nat.le_of_ble_eq_true rfl⟩ ⟨Nat.le_of_ble_eq_true rfl, Nat.le_of_ble_eq_true rfl⟩ (Nat.le_of_ble_eq_true rfl) rfl rfl rfl dX4_readClause_123 ?_
    refine v_aload_n (r := x1) C 1 dX4_readClause_126 rfl ?_
    refine v_aload_n (r := (some o)) C 0 dX4_readClause_127 rfl ?_
    refine v_iconst C dX4_readClause_128 k_iconst_2 ?_
    obtain ⟨q24, h25, E⟩ := bnd E
    refine v_callV (r := (some o)) (As := [.int 2]) (rv := (some (.int q24.1))) (st := [va_rf x1]) (st1 := [.int q24.1, va_rf x1]) (ce1 := 0) (sl1 := 0) C cv_X4_83 (c_X4_readNumber (x1 := 2) ho h25) rfl ho rfl rfl ⟨rfl, rfl, Nat.le_of_ble_eq_true rfl, Nat.le_of_ble_eq_true rfl⟩ ⟨Nat.le_of_ble_eq_true rfl, Nat.le_of_ble_eq_true rfl⟩ (by simp only [List.map_cons, List.map_nil, List.sum_cons, List.sum_nil, rf_cat]; exact Nat.le_of_ble_eq_true rfl) rfl rfl rfl dX4_readClause_129 ?_
    obtain ⟨a26, h27, E⟩ := bnd E
    obtain ⟨hra26, hoa26⟩ := ob_is h27
    refine v_putI (r := x1) C fa_X4_100 rfl E hra26 hoa26 ⟨rfl, rfl⟩ dX4_readClause_132 (fun I28 _ E => ?_)
    refine v_goto C 161 dX4_readClause_135 rfl ?_
    obtain rfl := Option.some.inj E
    exact v_vret C rfl dX4_readClause_161
  have E := ite_f E c29
  by_cases c37 : q1 = 115
  · have E := ite_t E c37
    refine v_lookup (off := 134) C 138 dX4_readClause_4 (by decide) (by rw [c37]; decide) rfl ?_
    refine v_aload_n (r := (some o)) C 0 dX4_readClause_138 rfl ?_
    refine v_ldcS C 3 (by decide) dX4_readClause_139 ?_
    obtain ⟨q30, h31, E⟩ := bnd E
    refine v_callV (r := (some o)) (As := [va_rf (some (Z 13))]) (rv := none) (st := []) (st1 := []) (ce1 := 0) (sl1 := 0) C cv_X4_79 (c_X4_takeWord (x1 := (some (Z 13))) ho h31) rfl ho rfl rfl ⟨rfl, rfl, Nat.le_of_ble_eq_true rfl, Nat.le_of_ble_eq_true rfl⟩ ⟨Nat.le_of_ble_eq_true rfl, Nat.le_of_ble_eq_true rfl⟩ (Nat.le_of_ble_eq_true rfl) rfl rfl rfl dX4_readClause_141 ?_
    refine v_aload_n (r := x1) C 1 dX4_readClause_144 rfl ?_
    refine v_aload_n (r := (some o)) C 0 dX4_readClause_145 rfl ?_
    refine v_iconst C dX4_readClause_146 k_iconst_2 ?_
    obtain ⟨q32, h33, E⟩ := bnd E
    refine v_callV (r := (some o)) (As := [.int 2]) (rv := (some (.int q32.1))) (st := [va_rf x1]) (st1 := [.int q32.1, va_rf x1]) (ce1 := 0) (sl1 := 0) C cv_X4_83 (c_X4_readNumber (x1 := 2) ho h33) rfl ho rfl rfl ⟨rfl, rfl, Nat.le_of_ble_eq_true rfl, Nat.le_of_ble_eq_true rfl⟩ ⟨Nat.le_of_ble_eq_true rfl, Nat.le_of_ble_eq_true rfl⟩ (by simp only [List.map_cons, List.map_nil, List.sum_cons, List.sum_nil, rf_cat]; exact Nat.le_of_ble_eq_true rfl) rfl rfl rfl dX4_readClause_147 ?_
    obtain ⟨a34, h35, E⟩ := bnd E
    obtain ⟨hra34, hoa34⟩ := ob_is h35
    refine v_putI (r := x1) C fa_X4_104 rfl E hra34 hoa34 ⟨rfl, rfl⟩ dX4_readClause_150 (fun I36 _ E => ?_)
    refine v_goto C 161 dX4_readClause_153 rfl ?_
    obtain rfl := Option.some.inj E
    exact v_vret C rfl dX4_readClause_161
  have E := ite_f E c37
  by_cases c40 : q1 = 119
  · have E := ite_t E c40
    refine v_lookup (off := 52) C 56 dX4_readClause_4 (by decide) (by rw [c40]; decide) rfl ?_
    refine v_aload_n (r := (some o)) C 0 dX4_readClause_56 rfl ?_
    refine v_aload_n (r := x1) C 1 dX4_readClause_57 rfl ?_
    obtain ⟨q38, h39, E⟩ := bnd E
    refine v_callV (r := (some o)) (As := [va_rf x1]) (rv := none) (st := []) (st1 := []) (ce1 := 0) (sl1 := 0) C cv_X4_74 (c_X4_readWellOrWay (x1 := x1) ho h39) rfl ho rfl rfl ⟨rfl, rfl, Nat.le_of_ble_eq_true rfl, Nat.le_of_ble_eq_true rfl⟩ ⟨Nat.le_of_ble_eq_true rfl, Nat.le_of_ble_eq_true rfl⟩ (Nat.le_of_ble_eq_true rfl) rfl rfl rfl dX4_readClause_58 ?_
    refine v_goto C 161 dX4_readClause_61 rfl ?_
    obtain rfl := Option.some.inj E
    exact v_vret C rfl dX4_readClause_161
  have E := ite_f E c40
  refine v_lookup (off := 152) C 156 dX4_readClause_4 (by decide) (by show Op.lookupswitch.offset [(99, 98), (100, 60), (108, 116), (115, 134), (119, 52)] 152 _ = _; rw [lv_osw c10 (show ((99 : Int32)).toInt = 99 from by decide), lv_osw c21 (show ((100 : Int32)).toInt = 100 from by decide), lv_osw c29 (show ((108 : Int32)).toInt = 108 from by decide), lv_osw c37 (show ((115 : Int32)).toInt = 115 from by decide), lv_osw c40 (show ((119 : Int32)).toInt = 119 from by decide)]; rfl) rfl ?_
  refine v_aload_n (r := (some o)) C 0 dX4_readClause_156 rfl ?_
  refine v_iconst C dX4_readClause_157 k_iconst_0 ?_
  refine v_putI (r := (some o)) C fa_X4_40 rfl E rfl ho (by decide) dX4_readClause_158 (fun I41 _ E => ?_)
  obtain rfl := Option.some.inj E
  exact v_vret C rfl dX4_readClause_161
set_option maxHeartbeats 4000000 in
theorem c_X4_readClause {n : Nat} {K : Sh} {I : Im} {J : Jm} {R : Rf} {o : Nat} {x1 : Option Nat} (ho : (K o).1 = 5) {res : Im} (E : f_X4_readClause Z K R o x1 I = some res) : Met l yX4_readClause (Cond.code yX4_readClause cX4_readClause 4 none :: tb) rX4_readClause (PX D cA bs Z [.ref o, va_rf x1] K n I J R) (QX D cA bs Z none K n res J R) 0 0 (fun q => bs ≤ q) := by
  refine met_of (lv1 := [(0, va_rf (some o)), (1, va_rf x1)]) pn_X4 (by cases x1 <;> exact Nat.le_of_ble_eq_true rfl) (by cases x1 <;> rfl) ?_
  intro p e s m args below meth c C hn
  exact v_sub [0, 1] [(0, va_rf (some o)), (1, va_rf x1)] rfl (w_X4_readClause_0 C ho _ _ _ E)
set_option maxHeartbeats 4000000 in
theorem w_X9_makeSums_0 (C : Cx D cA bs Z p s m args meth c cX9_makeSums RX9 1 none) {o : Nat} {J : Jm} (res : Sh × Nat × Im × Rf) (K : Sh) (n : Nat) (I : Im) (R : Rf) (E : f_X9_makeSums o K n I R = some res) : VW D cA bs Z p l e rX9_makeSums s m args below meth c 1 [(0, va_rf (some o))] K n I J R 0 0 (MQ below (QX D cA bs Z none res.1 res.2.1 res.2.2.1 J res.2.2.2) args s 1 1782 (fun q => bs ≤ q)) 0 [] := by
  unfold f_X9_makeSums at E
  refine v_aload_n (r := (some o)) C 0 dX9_makeSums_0 rfl ?_
  obtain ⟨a1, h2, E⟩ := bnd E
  obtain ⟨hra1, hoa1⟩ := ob_is h2
  refine v_getR (r := (some o)) C fa_X9_21 rfl hra1 hoa1 dX9_makeSums_1 ?_
  refine v_ifnonnull (r := (R a1 8)) C 16 E dX9_makeSums_4 rfl (fun c8 E => ?_) (fun c8 E => ?_)
  · refine v_aload_n (r := (some o)) C 0 dX9_makeSums_7 rfl ?_
    refine v_sipush C dX9_makeSums_8 k_sipush_1782 ?_
    refine v_newI (N := 1782) (ce1 := 1) (sl1 := 1782) C ac_int E (by decide) (by decide) rfl rfl (Nat.le_of_ble_eq_true rfl) (Nat.le_of_ble_eq_true rfl) dX9_makeSums_11 (fun K3 _ E => ?_)
    refine v_mpI E (fun I4 _ E => ?_)
    obtain ⟨a5, h6, E⟩ := bnd E
    obtain ⟨hra5, hoa5⟩ := ob_is h6
    refine v_putR (r := (some o)) (q := (some n)) C fa_X9_21 rfl E hra5 hoa5 dX9_makeSums_13 (fun R7 _ E => ?_)
    obtain rfl := Option.some.inj E
    exact v_vret C rfl dX9_makeSums_16
  · refine v_widen (k1 := 1) (k2 := 1782) (Nat.le_of_ble_eq_true rfl) (Nat.le_of_ble_eq_true rfl) ?_
    obtain rfl := Option.some.inj E
    exact v_vret C rfl dX9_makeSums_16
set_option maxHeartbeats 4000000 in
theorem c_X9_makeSums {n : Nat} {K : Sh} {I : Im} {J : Jm} {R : Rf} {o : Nat}  {res : Sh × Nat × Im × Rf} (E : f_X9_makeSums o K n I R = some res) : Met l yX9_makeSums (Cond.code yX9_makeSums cX9_makeSums 1 none :: tb) rX9_makeSums (PX D cA bs Z [.ref o] K n I J R) (QX D cA bs Z none res.1 res.2.1 res.2.2.1 J res.2.2.2) 1 1782 (fun q => bs ≤ q) := by
  refine met_of (lv1 := [(0, va_rf (some o))]) pn_X9 (by exact Nat.le_of_ble_eq_true rfl) (by rfl) ?_
  intro p e s m args below meth c C hn
  exact v_sub [0] [(0, va_rf (some o))] rfl (w_X9_makeSums_0 C _ _ _ _ _ E)
set_option maxHeartbeats 4000000 in
theorem w_X4_sumUp_93 (C : Cx D cA bs Z p s m args meth c cX4_sumUp RX4 8 none) {o : Nat} {K : Sh} {n : Nat} {J : Jm} {R : Rf} (ho : (K o).1 = 5) (res : Im) (r69 : Option Nat → Int32 → Int32 → Im → Option (Im)) (hr69 : ∀ (x1 : Option Nat) (x4 : Int32) (x5 : Int32) (I : Im), r69 x1 x4 x5 I = some res → VW D cA bs Z p l e rX4_sumUp s m args below meth c 8 [(0, va_rf (some o)), (1, va_rf x1), (4, .int x4), (5, .int x5)] K n I J R 0 0 (MQ below (QX D cA bs Z none K n res J R) args s 0 0 (fun q => bs ≤ q)) 69 [])  : ∀ (k : Nat), ∀ (x1 : Option Nat) (x4 : Int32) (x5 : Int32) (x6 : Int32) (x7 : Int32) (I : Im), f_X4_sumUp_93 K R o r69 k x1 x4 x5 x6 x7 I = some res → VW D cA bs Z p l e rX4_sumUp s m args below meth c 8 [(0, va_rf (some o)), (1, va_rf x1), (4, .int x4), (5, .int x5), (6, .int x6), (7, .int x7)] K n I J R 0 0 (MQ below (QX D cA bs Z none K n res J R) args s 0 0 (fun q => bs ≤ q)) 93 [] := by
  intro k
  induction k with
  | zero =>
    intro x1 x4 x5 x6 x7 I E
    have E : (none : Option (Im)) = some res := E
    cases E
  | succ k ih =>
    intro x1 x4 x5 x6 x7 I E
    unfold f_X4_sumUp_93 at E
    refine v_iload C 5 dX4_sumUp_93 rfl ?_
    refine v_aload_n (r := (some o)) C 0 dX4_sumUp_95 rfl ?_
    refine v_getI (r := (some o)) C fa_X4_44 rfl rfl ho dX4_sumUp_96 ?_
    refine v_icmp_ge C 139 E dX4_sumUp_99 rfl (fun c7 E => ?_) (fun c7 E => ?_)
    · refine v_aload_n (r := x1) C 1 dX4_sumUp_139 rfl ?_
      obtain ⟨a1, h2, E⟩ := bnd E
      obtain ⟨hra1, hoa1⟩ := ob_is h2
      refine v_getR (r := x1) C fa_X4_140 rfl hra1 hoa1 dX4_sumUp_140 ?_
      refine v_iload C 2 dX4_sumUp_143 rfl ?_
      refine v_iload C 3 dX4_sumUp_145 rfl ?_
      refine v_iadd C dX4_sumUp_147 ?_
      refine v_iconst C dX4_sumUp_148 k_iconst_1 ?_
      refine v_iadd C dX4_sumUp_149 ?_
      refine v_iload C 4 dX4_sumUp_150 rfl ?_
      refine v_iast (r := (R a1 8)) C E dX4_sumUp_152 (fun I3 _ E => ?_)
      refine v_iinc (v := x5 + 1) C 3 [(5, .int (x5 + 1)), (0, va_rf (some o)), (1, va_rf x1), (4, .int x4), (6, .int x6), (7, .int x7)] dX4_sumUp_153 rfl (k_inc_1 _) (Nat.le_of_ble_eq_true rfl) rfl ?_
      refine v_goto C 69 dX4_sumUp_156 rfl ?_
      exact v_sub [1, 2, 3, 0] [(0, va_rf (some o)), (1, va_rf x1), (4, .int x4), (5, .int (x5 + 1))] rfl (hr69 _ _ _ _ E)
    · refine v_aload_n (r := (some o)) C 0 dX4_sumUp_102 rfl ?_
      refine v_getR (r := (some o)) C fa_X4_22 rfl rfl ho dX4_sumUp_103 ?_
      refine v_iload C 5 dX4_sumUp_106 rfl ?_
      refine v_iald (r := (R o 7)) C E dX4_sumUp_108 (fun v4 _ E => ?_)
      refine v_iload C 3 dX4_sumUp_109 rfl ?_
      refine v_bipush C dX4_sumUp_111 k_bipush_24 ?_
      refine v_irem C dX4_sumUp_113 k_nz_24 ?_
      refine v_ishr C dX4_sumUp_114 ?_
      refine v_iconst C dX4_sumUp_115 k_iconst_1 ?_
      refine v_iand C dX4_sumUp_116 ?_
      refine v_iconst C dX4_sumUp_117 k_iconst_1 ?_
      refine v_icmp_ne C 133 E dX4_sumUp_118 rfl (fun c6 E => ?_) (fun c6 E => ?_)
      · refine v_iload C 4 dX4_sumUp_121 rfl ?_
        refine v_aload_n (r := (some o)) C 0 dX4_sumUp_123 rfl ?_
        refine v_getR (r := (some o)) C fa_X4_15 rfl rfl ho dX4_sumUp_124 ?_
        refine v_iload C 5 dX4_sumUp_127 rfl ?_
        refine v_iald (r := (R o 5)) C E dX4_sumUp_129 (fun v5 _ E => ?_)
        refine v_iadd C dX4_sumUp_130 ?_
        refine v_istore C [(6, .int (x6 + v5)), (0, va_rf (some o)), (1, va_rf x1), (4, .int x4), (5, .int x5), (7, .int x7)] dX4_sumUp_131 (Nat.le_of_ble_eq_true rfl) rfl ?_
        refine v_iinc (v := x7 + 1) C 5 [(7, .int (x7 + 1)), (6, .int (x6 + v5)), (0, va_rf (some o)), (1, va_rf x1), (4, .int x4), (5, .int x5)] dX4_sumUp_133 rfl (k_inc_1 _) (Nat.le_of_ble_eq_true rfl) rfl ?_
        refine v_goto C 93 dX4_sumUp_136 rfl ?_
        exact v_sub [2, 3, 4, 5, 1, 0] [(0, va_rf (some o)), (1, va_rf x1), (4, .int x4), (5, .int x5), (6, .int (x6 + v5)), (7, .int (x7 + 1))] rfl (ih _ _ _ _ _ _ E)
      · refine v_iinc (v := x7 + 1) C 5 [(7, .int (x7 + 1)), (0, va_rf (some o)), (1, va_rf x1), (4, .int x4), (5, .int x5), (6, .int x6)] dX4_sumUp_133 rfl (k_inc_1 _) (Nat.le_of_ble_eq_true rfl) rfl ?_
        refine v_goto C 93 dX4_sumUp_136 rfl ?_
        exact v_sub [1, 2, 3, 4, 5, 0] [(0, va_rf (some o)), (1, va_rf x1), (4, .int x4), (5, .int x5), (6, .int x6), (7, .int (x7 + 1))] rfl (ih _ _ _ _ _ _ E)
set_option maxHeartbeats 4000000 in
theorem w_X4_sumUp_69 (C : Cx D cA bs Z p s m args meth c cX4_sumUp RX4 8 none) {o : Nat} {K : Sh} {n : Nat} {J : Jm} {R : Rf} (ho : (K o).1 = 5) (res : Im)  : ∀ (k : Nat), ∀ (x1 : Option Nat) (x4 : Int32) (x5 : Int32) (I : Im), f_X4_sumUp_69 K R o k x1 x4 x5 I = some res → VW D cA bs Z p l e rX4_sumUp s m args below meth c 8 [(0, va_rf (some o)), (1, va_rf x1), (4, .int x4), (5, .int x5)] K n I J R 0 0 (MQ below (QX D cA bs Z none K n res J R) args s 0 0 (fun q => bs ≤ q)) 69 [] := by
  intro k
  induction k with
  | zero =>
    intro x1 x4 x5 I E
    have E : (none : Option (Im)) = some res := E
    cases E
  | succ k ih =>
    intro x1 x4 x5 I E
    unfold f_X4_sumUp_69 at E
    refine v_iload C 3 dX4_sumUp_69 rfl ?_
    refine v_iconst C dX4_sumUp_71 k_iconst_1 ?_
    refine v_iadd C dX4_sumUp_72 ?_
    refine v_bipush C dX4_sumUp_73 k_bipush_33 ?_
    refine v_icmp_ge C 159 E dX4_sumUp_75 rfl (fun c11 E => ?_) (fun c11 E => ?_)
    · obtain rfl := Option.some.inj E
      exact v_vret C rfl dX4_sumUp_159
    · refine v_aload_n (r := x1) C 1 dX4_sumUp_78 rfl ?_
      obtain ⟨a8, h9, E⟩ := bnd E
      obtain ⟨hra8, hoa8⟩ := ob_is h9
      refine v_getR (r := x1) C fa_X4_140 rfl hra8 hoa8 dX4_sumUp_79 ?_
      refine v_iload C 2 dX4_sumUp_82 rfl ?_
      refine v_iload C 3 dX4_sumUp_84 rfl ?_
      refine v_iadd C dX4_sumUp_86 ?_
      refine v_iald (r := (R a8 8)) C E dX4_sumUp_87 (fun v10 _ E => ?_)
      refine v_istore C [(6, .int v10), (0, va_rf (some o)), (1, va_rf x1), (4, .int x4), (5, .int x5)] dX4_sumUp_88 (Nat.le_of_ble_eq_true rfl) rfl ?_
      refine v_iconst C dX4_sumUp_90 k_iconst_0 ?_
      refine v_istore C [(7, .int 0), (6, .int v10), (0, va_rf (some o)), (1, va_rf x1), (4, .int x4), (5, .int x5)] dX4_sumUp_91 (Nat.le_of_ble_eq_true rfl) rfl ?_
      exact v_sub [2, 3, 4, 5, 1, 0] [(0, va_rf (some o)), (1, va_rf x1), (4, .int x4), (5, .int x5), (6, .int v10), (7, .int 0)] rfl (w_X4_sumUp_93 C ho res _ ih _ _ _ _ _ _ _ E)
set_option maxHeartbeats 4000000 in
theorem w_X4_sumUp_13 (C : Cx D cA bs Z p s m args meth c cX4_sumUp RX4 8 none) {o : Nat} {K : Sh} {n : Nat} {J : Jm} {R : Rf} (ho : (K o).1 = 5) (res : Im)  : ∀ (k : Nat), ∀ (x1 : Option Nat) (x2 : Int32) (x3 : Int32) (x4 : Int32) (I : Im), f_X4_sumUp_13 K R o k x1 x2 x3 x4 I = some res → VW D cA bs Z p l e rX4_sumUp s m args below meth c 8 [(0, va_rf (some o)), (1, va_rf x1), (2, .int x2), (3, .int x3), (4, .int x4)] K n I J R 0 0 (MQ below (QX D cA bs Z none K n res J R) args s 0 0 (fun q => bs ≤ q)) 13 [] := by
  intro k
  induction k with
  | zero =>
    intro x1 x2 x3 x4 I E
    have E : (none : Option (Im)) = some res := E
    cases E
  | succ k ih =>
    intro x1 x2 x3 x4 I E
    unfold f_X4_sumUp_13 at E
    refine v_iload C 4 dX4_sumUp_13 rfl ?_
    refine v_aload_n (r := (some o)) C 0 dX4_sumUp_15 rfl ?_
    refine v_getI (r := (some o)) C fa_X4_44 rfl rfl ho dX4_sumUp_16 ?_
    refine v_icmp_ge C 51 E dX4_sumUp_19 rfl (fun c22 E => ?_) (fun c22 E => ?_)
    · refine v_iload_n C 2 dX4_sumUp_51 rfl ?_
      refine v_iload_n C 3 dX4_sumUp_52 rfl ?_
      obtain ⟨q12, h13, E⟩ := bnd E
      refine v_callS (As := [.int x2, .int x3]) (rv := (some (.int q12))) (st := []) (st1 := [.int q12]) (ce1 := 0) (sl1 := 0) C cs_X4_137 (c_X9_sumsOf (x0 := x2) (x1 := x3) h13) rfl rfl ⟨rfl, rfl, Nat.le_of_ble_eq_true rfl, Nat.le_of_ble_eq_true rfl⟩ ⟨Nat.le_of_ble_eq_true rfl, Nat.le_of_ble_eq_true rfl⟩ (Nat.le_of_ble_eq_true rfl) rfl rfl rfl dX4_sumUp_53 ?_
      refine v_istore C [(4, .int q12), (0, va_rf (some o)), (1, va_rf x1), (2, .int x2), (3, .int x3)] dX4_sumUp_56 (Nat.le_of_ble_eq_true rfl) rfl ?_
      refine v_aload_n (r := x1) C 2 dX4_sumUp_58 rfl ?_
      obtain ⟨a14, h15, E⟩ := bnd E
      obtain ⟨hra14, hoa14⟩ := ob_is h15
      refine v_getR (r := x1) C fa_X4_140 rfl hra14 hoa14 dX4_sumUp_59 ?_
      refine v_iload C 0 dX4_sumUp_62 rfl ?_
      refine v_iconst C dX4_sumUp_64 k_iconst_0 ?_
      refine v_iast (r := (R a14 8)) C E dX4_sumUp_65 (fun I16 _ E => ?_)
      refine v_iconst C dX4_sumUp_66 k_iconst_0 ?_
      refine v_istore C [(5, .int 0), (4, .int q12), (0, va_rf (some o)), (1, va_rf x1), (2, .int x2), (3, .int x3)] dX4_sumUp_67 (Nat.le_of_ble_eq_true rfl) rfl ?_
      exact v_sub [2, 3, 1, 0] [(0, va_rf (some o)), (1, va_rf x1), (4, .int q12), (5, .int 0)] rfl (w_X4_sumUp_69 C ho res  _ _ _ _ _ E)
    · refine v_aload_n (r := (some o)) C 0 dX4_sumUp_22 rfl ?_
      refine v_aload_n (r := (some o)) C 0 dX4_sumUp_23 rfl ?_
      refine v_getR (r := (some o)) C fa_X4_19 rfl rfl ho dX4_sumUp_24 ?_
      refine v_iload C 4 dX4_sumUp_27 rfl ?_
      refine v_iald (r := (R o 6)) C E dX4_sumUp_29 (fun v17 _ E => ?_)
      refine v_putI (r := (some o)) C fa_X4_37 rfl E rfl ho ⟨rfl, rfl⟩ dX4_sumUp_30 (fun I18 _ E => ?_)
      refine v_aload_n (r := (some o)) C 0 dX4_sumUp_33 rfl ?_
      refine v_getR (r := (some o)) C fa_X4_22 rfl rfl ho dX4_sumUp_34 ?_
      refine v_iload C 4 dX4_sumUp_37 rfl ?_
      refine v_aload_n (r := (some o)) C 0 dX4_sumUp_39 rfl ?_
      refine v_iconst C dX4_sumUp_40 k_iconst_0 ?_
      obtain ⟨q19, h20, E⟩ := bnd E
      refine v_callV (r := (some o)) (As := [.int 0]) (rv := (some (.int q19.1))) (st := [.int x4, va_rf (R o 7)]) (st1 := [.int q19.1, .int x4, va_rf (R o 7)]) (ce1 := 0) (sl1 := 0) C cv_X4_87 (c_X4_readEither (x1 := 0) ho h20) rfl ho rfl rfl ⟨rfl, rfl, Nat.le_of_ble_eq_true rfl, Nat.le_of_ble_eq_true rfl⟩ ⟨Nat.le_of_ble_eq_true rfl, Nat.le_of_ble_eq_true rfl⟩ (by simp only [List.map_cons, List.map_nil, List.sum_cons, List.sum_nil, rf_cat]; exact Nat.le_of_ble_eq_true rfl) rfl rfl rfl dX4_sumUp_41 ?_
      refine v_iast (r := (R o 7)) C E dX4_sumUp_44 (fun I21 _ E => ?_)
      refine v_iinc (v := x4 + 1) C 4 [(4, .int (x4 + 1)), (0, va_rf (some o)), (1, va_rf x1), (2, .int x2), (3, .int x3)] dX4_sumUp_45 rfl (k_inc_1 _) (Nat.le_of_ble_eq_true rfl) rfl ?_
      refine v_goto C 13 dX4_sumUp_48 rfl ?_
      exact v_sub [1, 2, 3, 4, 0] [(0, va_rf (some o)), (1, va_rf x1), (2, .int x2), (3, .int x3), (4, .int (x4 + 1))] rfl (ih _ _ _ _ _ E)
set_option maxHeartbeats 4000000 in
theorem w_X4_sumUp_0 (C : Cx D cA bs Z p s m args meth c cX4_sumUp RX4 8 none) {o : Nat} {K : Sh} {n : Nat} {J : Jm} {R : Rf} (ho : (K o).1 = 5) (res : Im) (x1 : Option Nat) (x2 : Int32) (x3 : Int32) (I : Im) (E : f_X4_sumUp K R o x1 x2 x3 I = some res) : VW D cA bs Z p l e rX4_sumUp s m args below meth c 8 [(0, va_rf (some o)), (1, va_rf x1), (2, .int x2), (3, .int x3)] K n I J R 0 0 (MQ below (QX D cA bs Z none K n res J R) args s 0 0 (fun q => bs ≤ q)) 0 [] := by
  unfold f_X4_sumUp at E
  refine v_aload_n (r := (some o)) C 0 dX4_sumUp_0 rfl ?_
  refine v_iload_n C 3 dX4_sumUp_1 rfl ?_
  refine v_putI (r := (some o)) C fa_X4_25 rfl E rfl ho ⟨rfl, rfl⟩ dX4_sumUp_2 (fun I23 _ E => ?_)
  refine v_aload_n (r := (some o)) C 0 dX4_sumUp_5 rfl ?_
  refine v_iload_n C 2 dX4_sumUp_6 rfl ?_
  refine v_putI (r := (some o)) C fa_X4_128 rfl E rfl ho ⟨rfl, rfl⟩ dX4_sumUp_7 (fun I24 _ E => ?_)
  refine v_iconst C dX4_sumUp_10 k_iconst_0 ?_
  refine v_istore C [(4, .int 0), (0, va_rf (some o)), (1, va_rf x1), (2, .int x2), (3, .int x3)] dX4_sumUp_11 (Nat.le_of_ble_eq_true rfl) rfl ?_
  exact v_sub [1, 2, 3, 4, 0] [(0, va_rf (some o)), (1, va_rf x1), (2, .int x2), (3, .int x3), (4, .int 0)] rfl (w_X4_sumUp_13 C ho res  _ _ _ _ _ _ E)
set_option maxHeartbeats 4000000 in
theorem c_X4_sumUp {n : Nat} {K : Sh} {I : Im} {J : Jm} {R : Rf} {o : Nat} {x1 : Option Nat} {x2 : Int32} {x3 : Int32} (ho : (K o).1 = 5) {res : Im} (E : f_X4_sumUp K R o x1 x2 x3 I = some res) : Met l yX4_sumUp (Cond.code yX4_sumUp cX4_sumUp 8 none :: tb) rX4_sumUp (PX D cA bs Z [.ref o, va_rf x1, .int x2, .int x3] K n I J R) (QX D cA bs Z none K n res J R) 0 0 (fun q => bs ≤ q) := by
  refine met_of (lv1 := [(0, va_rf (some o)), (1, va_rf x1), (2, .int x2), (3, .int x3)]) pn_X4 (by cases x1 <;> exact Nat.le_of_ble_eq_true rfl) (by cases x1 <;> rfl) ?_
  intro p e s m args below meth c C hn
  exact v_sub [0, 1, 2, 3] [(0, va_rf (some o)), (1, va_rf x1), (2, .int x2), (3, .int x3)] rfl (w_X4_sumUp_0 C ho _ _ _ _ _ E)
set_option maxHeartbeats 4000000 in
theorem w_X4_readInto_99 (C : Cx D cA bs Z p s m args meth c cX4_readInto RX4 4 (some .int)) {o : Nat} {J : Jm} (res : Int32 × Sh × Nat × Im × Rf) (r91 : Option Nat → Int32 → Sh → Nat → Im → Rf → Option (Int32 × Sh × Nat × Im × Rf)) (hr91 : ∀ (x1 : Option Nat) (x2 : Int32) (K : Sh) (n : Nat) (I : Im) (R : Rf), r91 x1 x2 K n I R = some res → VW D cA bs Z p l e rX4_readInto s m args below meth c 4 [(0, va_rf (some o)), (1, va_rf x1), (2, .int x2)] K n I J R 1 1782 (MQ below (QX D cA bs Z (some (.int res.1)) res.2.1 res.2.2.1 res.2.2.2.1 J res.2.2.2.2) args s 1 1782 (fun q => bs ≤ q)) 91 [])  : ∀ (k : Nat), ∀ (x1 : Option Nat) (x2 : Int32) (x3 : Int32) (K : Sh) (n : Nat) (I : Im) (R : Rf), f_X4_readInto_99 Z o r91 k x1 x2 x3 K n I R = some res → VW D cA bs Z p l e rX4_readInto s m args below meth c 4 [(0, va_rf (some o)), (1, va_rf x1), (2, .int x2), (3, .int x3)] K n I J R 1 1782 (MQ below (QX D cA bs Z (some (.int res.1)) res.2.1 res.2.2.1 res.2.2.2.1 J res.2.2.2.2) args s 1 1782 (fun q => bs ≤ q)) 99 [] := by
  intro k
  induction k with
  | zero =>
    intro x1 x2 x3 K n I R E
    have E : (none : Option (Int32 × Sh × Nat × Im × Rf)) = some res := E
    cases E
  | succ k ih =>
    intro x1 x2 x3 K n I R E
    unfold f_X4_readInto_99 at E
    refine v_iload_n C 3 dX4_readInto_99 rfl ?_
    refine v_bipush C dX4_readInto_100 k_bipush_9 ?_
    refine v_icmp_gt C 118 E dX4_readInto_102 rfl (fun c5 E => ?_) (fun c5 E => ?_)
    · refine v_iinc (v := x2 + 1) C 2 [(2, .int (x2 + 1)), (0, va_rf (some o)), (1, va_rf x1), (3, .int x3)] dX4_readInto_118 rfl (k_inc_1 _) (Nat.le_of_ble_eq_true rfl) (by generalize x1 = rr; cases rr <;> rfl) ?_
      refine v_goto C 91 dX4_readInto_121 rfl ?_
      exact v_sub [1, 2, 0] [(0, va_rf (some o)), (1, va_rf x1), (2, .int (x2 + 1))] rfl (hr91 _ _ _ _ _ _ E)
    · refine v_aload_n (r := (some o)) C 0 dX4_readInto_105 rfl ?_
      refine v_aload_n (r := x1) C 1 dX4_readInto_106 rfl ?_
      refine v_iload_n C 2 dX4_readInto_107 rfl ?_
      refine v_iload_n C 3 dX4_readInto_108 rfl ?_
      obtain ⟨a1, h2, E⟩ := bnd E
      obtain ⟨hra1, hoa1⟩ := ob_is h2
      obtain ⟨q3, h4, E⟩ := bnd E
      refine v_callV (r := (some o)) (As := [va_rf x1, .int x2, .int x3]) (rv := none) (st := []) (st1 := []) (ce1 := 1) (sl1 := 1782) C cv_X4_58 (c_X4_sumUp (x1 := x1) (x2 := x2) (x3 := x3) hoa1 h4) hra1 hoa1 rfl rfl ⟨rfl, rfl, Nat.le_of_ble_eq_true rfl, Nat.le_of_ble_eq_true rfl⟩ ⟨Nat.le_of_ble_eq_true rfl, Nat.le_of_ble_eq_true rfl⟩ (Nat.le_of_ble_eq_true rfl) rfl rfl rfl dX4_readInto_109 ?_
      refine v_iinc (v := x3 + 1) C 3 [(3, .int (x3 + 1)), (0, va_rf (some o)), (1, va_rf x1), (2, .int x2)] dX4_readInto_112 rfl (k_inc_1 _) (Nat.le_of_ble_eq_true rfl) rfl ?_
      refine v_goto C 99 dX4_readInto_115 rfl ?_
      exact v_sub [1, 2, 3, 0] [(0, va_rf (some o)), (1, va_rf x1), (2, .int x2), (3, .int (x3 + 1))] rfl (ih _ _ _ _ _ _ _ E)
set_option maxHeartbeats 4000000 in
theorem w_X4_readInto_91 (C : Cx D cA bs Z p s m args meth c cX4_readInto RX4 4 (some .int)) {o : Nat} {J : Jm} (res : Int32 × Sh × Nat × Im × Rf)  : ∀ (k : Nat), ∀ (x1 : Option Nat) (x2 : Int32) (K : Sh) (n : Nat) (I : Im) (R : Rf), f_X4_readInto_91 Z o k x1 x2 K n I R = some res → VW D cA bs Z p l e rX4_readInto s m args below meth c 4 [(0, va_rf (some o)), (1, va_rf x1), (2, .int x2)] K n I J R 1 1782 (MQ below (QX D cA bs Z (some (.int res.1)) res.2.1 res.2.2.1 res.2.2.2.1 J res.2.2.2.2) args s 1 1782 (fun q => bs ≤ q)) 91 [] := by
  intro k
  induction k with
  | zero =>
    intro x1 x2 K n I R E
    have E : (none : Option (Int32 × Sh × Nat × Im × Rf)) = some res := E
    cases E
  | succ k ih =>
    intro x1 x2 K n I R E
    unfold f_X4_readInto_91 at E
    refine v_iload_n C 2 dX4_readInto_91 rfl ?_
    refine v_bipush C dX4_readInto_92 k_bipush_6 ?_
    refine v_icmp_ge C 124 E dX4_readInto_94 rfl (fun c6 E => ?_) (fun c6 E => ?_)
    · refine v_iconst C dX4_readInto_124 k_iconst_m1 ?_
      obtain rfl := Option.some.inj E
      exact v_iret C rfl dX4_readInto_125
    · refine v_iconst C dX4_readInto_97 k_iconst_1 ?_
      refine v_istore_n C [(3, .int 1), (0, va_rf (some o)), (1, va_rf x1), (2, .int x2)] dX4_readInto_98 (Nat.le_of_ble_eq_true rfl) rfl ?_
      exact v_sub [1, 2, 3, 0] [(0, va_rf (some o)), (1, va_rf x1), (2, .int x2), (3, .int 1)] rfl (w_X4_readInto_99 C res _ ih _ _ _ _ _ _ _ _ E)
set_option maxHeartbeats 4000000 in
theorem w_X4_readInto_62 (C : Cx D cA bs Z p s m args meth c cX4_readInto RX4 4 (some .int)) {o : Nat} {J : Jm} (res : Int32 × Sh × Nat × Im × Rf) (x1 : Option Nat) (K : Sh) (n : Nat) (I : Im) (R : Rf) (E : f_X4_readInto_62 Z o x1 K n I R = some res) : VW D cA bs Z p l e rX4_readInto s m args below meth c 4 [(0, va_rf (some o)), (1, va_rf x1)] K n I J R 0 0 (MQ below (QX D cA bs Z (some (.int res.1)) res.2.1 res.2.2.1 res.2.2.2.1 J res.2.2.2.2) args s 1 1782 (fun q => bs ≤ q)) 62 [] := by
  unfold f_X4_readInto_62 at E
  refine v_aload_n (r := (some o)) C 0 dX4_readInto_62 rfl ?_
  obtain ⟨a7, h8, E⟩ := bnd E
  obtain ⟨hra7, hoa7⟩ := ob_is h8
  refine v_getI (r := (some o)) C fa_X4_40 rfl hra7 hoa7 dX4_readInto_63 ?_
  refine v_if_eq C 80 E dX4_readInto_66 rfl (fun c14 E => ?_) (fun c14 E => ?_)
  · refine v_aload_n (r := (some o)) C 0 dX4_readInto_80 rfl ?_
    refine v_getI (r := (some o)) C fa_X4_37 rfl hra7 hoa7 dX4_readInto_81 ?_
    refine v_widen (k1 := 1) (k2 := 1782) (Nat.le_of_ble_eq_true rfl) (Nat.le_of_ble_eq_true rfl) ?_
    obtain rfl := Option.some.inj E
    exact v_iret C rfl dX4_readInto_84
  · refine v_aload_n (r := (some o)) C 0 dX4_readInto_69 rfl ?_
    refine v_getI (r := (some o)) C fa_X4_37 rfl hra7 hoa7 dX4_readInto_70 ?_
    refine v_aload_n (r := (some o)) C 0 dX4_readInto_73 rfl ?_
    refine v_getI (r := (some o)) C fa_X4_29 rfl hra7 hoa7 dX4_readInto_74 ?_
    refine v_icmp_ge C 85 E dX4_readInto_77 rfl (fun c13 E => ?_) (fun c13 E => ?_)
    · refine v_aload_n (r := x1) C 1 dX4_readInto_85 rfl ?_
      obtain ⟨a9, h10, E⟩ := bnd E
      obtain ⟨hra9, hoa9⟩ := ob_is h10
      obtain ⟨q11, h12, E⟩ := bnd E
      refine v_callV (r := x1) (As := []) (rv := none) (st := []) (st1 := []) (ce1 := 1) (sl1 := 1782) C cv_X4_55 (c_X9_makeSums  h12) hra9 hoa9 rfl rfl ⟨rfl, rfl, Nat.le_of_ble_eq_true rfl, Nat.le_of_ble_eq_true rfl⟩ ⟨Nat.le_of_ble_eq_true rfl, Nat.le_of_ble_eq_true rfl⟩ (Nat.le_of_ble_eq_true rfl) rfl rfl rfl dX4_readInto_86 ?_
      refine v_iconst C dX4_readInto_89 k_iconst_0 ?_
      refine v_istore_n C [(2, .int 0), (0, va_rf (some o)), (1, va_rf x1)] dX4_readInto_90 (Nat.le_of_ble_eq_true rfl) (by generalize x1 = rr; cases rr <;> rfl) ?_
      exact v_sub [1, 2, 0] [(0, va_rf (some o)), (1, va_rf x1), (2, .int 0)] rfl (w_X4_readInto_91 C res  _ _ _ _ _ _ _ E)
    · refine v_aload_n (r := (some o)) C 0 dX4_readInto_80 rfl ?_
      refine v_getI (r := (some o)) C fa_X4_37 rfl hra7 hoa7 dX4_readInto_81 ?_
      refine v_widen (k1 := 1) (k2 := 1782) (Nat.le_of_ble_eq_true rfl) (Nat.le_of_ble_eq_true rfl) ?_
      obtain rfl := Option.some.inj E
      exact v_iret C rfl dX4_readInto_84
set_option maxHeartbeats 4000000 in
theorem w_X4_readInto_26 (C : Cx D cA bs Z p s m args meth c cX4_readInto RX4 4 (some .int)) {o : Nat} {J : Jm} (res : Int32 × Sh × Nat × Im × Rf)  : ∀ (k : Nat), ∀ (x1 : Option Nat) (x2 : Int32) (K : Sh) (n : Nat) (I : Im) (R : Rf), f_X4_readInto_26 Z o k x1 x2 K n I R = some res → VW D cA bs Z p l e rX4_readInto s m args below meth c 4 [(0, va_rf (some o)), (1, va_rf x1), (2, .int x2)] K n I J R 0 0 (MQ below (QX D cA bs Z (some (.int res.1)) res.2.1 res.2.2.1 res.2.2.2.1 J res.2.2.2.2) args s 1 1782 (fun q => bs ≤ q)) 26 [] := by
  intro k
  induction k with
  | zero =>
    intro x1 x2 K n I R E
    have E : (none : Option (Int32 × Sh × Nat × Im × Rf)) = some res := E
    cases E
  | succ k ih =>
    intro x1 x2 K n I R E
    unfold f_X4_readInto_26 at E
    refine v_iload_n C 2 dX4_readInto_26 rfl ?_
    refine v_bipush C dX4_readInto_27 k_bipush_12 ?_
    refine v_icmp_ge C 62 E dX4_readInto_29 rfl (fun c23 E => ?_) (fun c23 E => ?_)
    · exact v_sub [0, 1] [(0, va_rf (some o)), (1, va_rf x1)] rfl (w_X4_readInto_62 C res  _ _ _ _ _ E)
    · refine v_aload_n (r := (some o)) C 0 dX4_readInto_32 rfl ?_
      obtain ⟨a15, h16, E⟩ := bnd E
      obtain ⟨hra15, hoa15⟩ := ob_is h16
      obtain ⟨q17, h18, E⟩ := bnd E
      refine v_callV (r := (some o)) (As := []) (rv := (some (.int q17))) (st := []) (st1 := [.int q17]) (ce1 := 0) (sl1 := 0) C cv_X4_51 (c_X4_next  hoa15 h18) hra15 hoa15 rfl rfl ⟨rfl, rfl, Nat.le_of_ble_eq_true rfl, Nat.le_of_ble_eq_true rfl⟩ ⟨Nat.le_of_ble_eq_true rfl, Nat.le_of_ble_eq_true rfl⟩ (Nat.le_of_ble_eq_true rfl) rfl rfl rfl dX4_readInto_33 ?_
      refine v_bipush C dX4_readInto_36 k_bipush_59 ?_
      refine v_icmp_ne C 62 E dX4_readInto_38 rfl (fun c22 E => ?_) (fun c22 E => ?_)
      · refine v_aload_n (r := (some o)) C 0 dX4_readInto_41 rfl ?_
        refine v_dup C dX4_readInto_42 (rf_cat _) ?_
        refine v_getI (r := (some o)) C fa_X4_37 rfl hra15 hoa15 dX4_readInto_43 ?_
        refine v_iconst C dX4_readInto_46 k_iconst_1 ?_
        refine v_iadd C dX4_readInto_47 ?_
        refine v_putI (r := (some o)) C fa_X4_37 rfl E hra15 hoa15 ⟨rfl, rfl⟩ dX4_readInto_48 (fun I19 _ E => ?_)
        refine v_aload_n (r := (some o)) C 0 dX4_readInto_51 rfl ?_
        refine v_aload_n (r := x1) C 1 dX4_readInto_52 rfl ?_
        obtain ⟨q20, h21, E⟩ := bnd E
        refine v_callV (r := (some o)) (As := [va_rf x1]) (rv := none) (st := []) (st1 := []) (ce1 := 0) (sl1 := 0) C cv_X4_47 (c_X4_readClause (x1 := x1) hoa15 h21) hra15 hoa15 rfl rfl ⟨rfl, rfl, Nat.le_of_ble_eq_true rfl, Nat.le_of_ble_eq_true rfl⟩ ⟨Nat.le_of_ble_eq_true rfl, Nat.le_of_ble_eq_true rfl⟩ (Nat.le_of_ble_eq_true rfl) rfl rfl rfl dX4_readInto_53 ?_
        refine v_iinc (v := x2 + 1) C 2 [(2, .int (x2 + 1)), (0, va_rf (some o)), (1, va_rf x1)] dX4_readInto_56 rfl (k_inc_1 _) (Nat.le_of_ble_eq_true rfl) (by generalize x1 = rr; cases rr <;> rfl) ?_
        refine v_goto C 26 dX4_readInto_59 rfl ?_
        exact v_sub [1, 2, 0] [(0, va_rf (some o)), (1, va_rf x1), (2, .int (x2 + 1))] rfl (ih _ _ _ _ _ _ E)
      · exact v_sub [0, 1] [(0, va_rf (some o)), (1, va_rf x1)] rfl (w_X4_readInto_62 C res  _ _ _ _ _ E)
set_option maxHeartbeats 4000000 in
theorem w_X4_readInto_0 (C : Cx D cA bs Z p s m args meth c cX4_readInto RX4 4 (some .int)) {o : Nat} {J : Jm} (res : Int32 × Sh × Nat × Im × Rf) (x1 : Option Nat) (K : Sh) (n : Nat) (I : Im) (R : Rf) (E : f_X4_readInto Z o x1 K n I R = some res) : VW D cA bs Z p l e rX4_readInto s m args below meth c 4 [(0, va_rf (some o)), (1, va_rf x1)] K n I J R 0 0 (MQ below (QX D cA bs Z (some (.int res.1)) res.2.1 res.2.2.1 res.2.2.2.1 J res.2.2.2.2) args s 1 1782 (fun q => bs ≤ q)) 0 [] := by
  unfold f_X4_readInto at E
  refine v_aload_n (r := x1) C 1 dX4_readInto_0 rfl ?_
  obtain ⟨a24, h25, E⟩ := bnd E
  obtain ⟨hra24, hoa24⟩ := ob_is h25
  obtain ⟨q26, h27, E⟩ := bnd E
  refine v_callV (r := x1) (As := []) (rv := none) (st := []) (st1 := []) (ce1 := 0) (sl1 := 0) C cv_X4_32 (c_X9_clear  hoa24 h27) hra24 hoa24 rfl rfl ⟨rfl, rfl, Nat.le_of_ble_eq_true rfl, Nat.le_of_ble_eq_true rfl⟩ ⟨Nat.le_of_ble_eq_true rfl, Nat.le_of_ble_eq_true rfl⟩ (Nat.le_of_ble_eq_true rfl) rfl rfl rfl dX4_readInto_1 ?_
  refine v_aload_n (r := (some o)) C 0 dX4_readInto_4 rfl ?_
  refine v_iconst C dX4_readInto_5 k_iconst_0 ?_
  obtain ⟨a28, h29, E⟩ := bnd E
  obtain ⟨hra28, hoa28⟩ := ob_is h29
  refine v_putI (r := (some o)) C fa_X4_37 rfl E hra28 hoa28 ⟨rfl, rfl⟩ dX4_readInto_6 (fun I30 _ E => ?_)
  refine v_aload_n (r := (some o)) C 0 dX4_readInto_9 rfl ?_
  refine v_iconst C dX4_readInto_10 k_iconst_1 ?_
  refine v_putI (r := (some o)) C fa_X4_40 rfl E hra28 hoa28 (by decide) dX4_readInto_11 (fun I31 _ E => ?_)
  refine v_aload_n (r := (some o)) C 0 dX4_readInto_14 rfl ?_
  refine v_iconst C dX4_readInto_15 k_iconst_0 ?_
  refine v_putI (r := (some o)) C fa_X4_44 rfl E hra28 hoa28 ⟨rfl, rfl⟩ dX4_readInto_16 (fun I32 _ E => ?_)
  refine v_aload_n (r := (some o)) C 0 dX4_readInto_19 rfl ?_
  refine v_aload_n (r := x1) C 1 dX4_readInto_20 rfl ?_
  obtain ⟨q33, h34, E⟩ := bnd E
  refine v_callV (r := (some o)) (As := [va_rf x1]) (rv := none) (st := []) (st1 := []) (ce1 := 0) (sl1 := 0) C cv_X4_47 (c_X4_readClause (x1 := x1) hoa28 h34) hra28 hoa28 rfl rfl ⟨rfl, rfl, Nat.le_of_ble_eq_true rfl, Nat.le_of_ble_eq_true rfl⟩ ⟨Nat.le_of_ble_eq_true rfl, Nat.le_of_ble_eq_true rfl⟩ (Nat.le_of_ble_eq_true rfl) rfl rfl rfl dX4_readInto_21 ?_
  refine v_iconst C dX4_readInto_24 k_iconst_1 ?_
  refine v_istore_n C [(2, .int 1), (0, va_rf (some o)), (1, va_rf x1)] dX4_readInto_25 (Nat.le_of_ble_eq_true rfl) (by generalize x1 = rr; cases rr <;> rfl) ?_
  exact v_sub [1, 2, 0] [(0, va_rf (some o)), (1, va_rf x1), (2, .int 1)] rfl (w_X4_readInto_26 C res  _ _ _ _ _ _ _ E)
set_option maxHeartbeats 4000000 in
theorem c_X4_readInto {n : Nat} {K : Sh} {I : Im} {J : Jm} {R : Rf} {o : Nat} {x1 : Option Nat} {res : Int32 × Sh × Nat × Im × Rf} (E : f_X4_readInto Z o x1 K n I R = some res) : Met l yX4_readInto (Cond.code yX4_readInto cX4_readInto 4 (some .int) :: tb) rX4_readInto (PX D cA bs Z [.ref o, va_rf x1] K n I J R) (QX D cA bs Z (some (.int res.1)) res.2.1 res.2.2.1 res.2.2.2.1 J res.2.2.2.2) 1 1782 (fun q => bs ≤ q) := by
  refine met_of (lv1 := [(0, va_rf (some o)), (1, va_rf x1)]) pn_X4 (by cases x1 <;> exact Nat.le_of_ble_eq_true rfl) (by cases x1 <;> rfl) ?_
  intro p e s m args below meth c C hn
  exact v_sub [0, 1] [(0, va_rf (some o)), (1, va_rf x1)] rfl (w_X4_readInto_0 C _ _ _ _ _ _ E)
set_option maxHeartbeats 4000000 in
theorem w_X5_init_0 (C : Cx D cA bs Z p s m args meth c cX5_init RX5 4 none) (hin : meth.name = "<init>") {o : Nat} {J : Jm} (res : Sh × Nat × Im × Rf) (x1 : Int32) (x2 : Int32) (x3 : Int32) (K : Sh) (n : Nat) (I : Im) (R : Rf) (E : f_X5_init o x1 x2 x3 K n I R = some res) : VW D cA bs Z p l e rX5_init s m args below meth c 4 [(0, va_rf (some o)), (1, .int x1), (2, .int x2), (3, .int x3)] K n I J R 0 0 (MQ below (QX D cA bs Z none res.1 res.2.1 res.2.2.1 J res.2.2.2) args s 1 5 (fun q => bs ≤ q)) 0 [] := by
  unfold f_X5_init at E
  refine v_aload_n (r := (some o)) C 0 dX5_init_0 rfl ?_
  refine v_objInit (a := o) C oi_X5 oi_i oi_c (Nat.le_of_ble_eq_true rfl) (Nat.le_of_ble_eq_true rfl) dX5_init_1 ?_
  refine v_aload_n (r := (some o)) C 0 dX5_init_4 rfl ?_
  refine v_iconst C dX5_init_5 k_iconst_5 ?_
  refine v_newI (N := 5) (ce1 := 1) (sl1 := 5) C ac_int E (by decide) (by decide) rfl rfl (Nat.le_of_ble_eq_true rfl) (Nat.le_of_ble_eq_true rfl) dX5_init_6 (fun K1 _ E => ?_)
  refine v_mpI E (fun I2 _ E => ?_)
  obtain ⟨a3, h4, E⟩ := bnd E
  obtain ⟨hra3, hoa3⟩ := ob_is h4
  refine v_putRF (r := (some o)) (q := (some n)) C fa_X5_9 fo_X5_9 hin rfl E hra3 hoa3 dX5_init_8 (fun R5 _ E => ?_)
  refine v_aload_n (r := (some o)) C 0 dX5_init_11 rfl ?_
  refine v_iload_n C 1 dX5_init_12 rfl ?_
  refine v_putIF (r := (some o)) C fa_X5_15 fo_X5_15 hin rfl E hra3 hoa3 ⟨rfl, rfl⟩ dX5_init_13 (fun I6 _ E => ?_)
  refine v_aload_n (r := (some o)) C 0 dX5_init_16 rfl ?_
  refine v_iload_n C 2 dX5_init_17 rfl ?_
  refine v_putIF (r := (some o)) C fa_X5_19 fo_X5_19 hin rfl E hra3 hoa3 ⟨rfl, rfl⟩ dX5_init_18 (fun I7 _ E => ?_)
  refine v_aload_n (r := (some o)) C 0 dX5_init_21 rfl ?_
  refine v_iload_n C 3 dX5_init_22 rfl ?_
  refine v_putIF (r := (some o)) C fa_X5_22 fo_X5_22 hin rfl E hra3 hoa3 ⟨rfl, rfl⟩ dX5_init_23 (fun I8 _ E => ?_)
  obtain rfl := Option.some.inj E
  exact v_vret C rfl dX5_init_26
set_option maxHeartbeats 4000000 in
theorem c_X5_init {n : Nat} {K : Sh} {I : Im} {J : Jm} {R : Rf} {o : Nat} {x1 : Int32} {x2 : Int32} {x3 : Int32} {res : Sh × Nat × Im × Rf} (E : f_X5_init o x1 x2 x3 K n I R = some res) : Met l yX5_init (Cond.code yX5_init cX5_init 4 none :: tb) rX5_init (PX D cA bs Z [.ref o, .int x1, .int x2, .int x3] K n I J R) (QX D cA bs Z none res.1 res.2.1 res.2.2.1 J res.2.2.2) 1 5 (fun q => bs ≤ q) := by
  refine met_of (lv1 := [(0, va_rf (some o)), (1, .int x1), (2, .int x2), (3, .int x3)]) pn_X5 (by exact Nat.le_of_ble_eq_true rfl) (by rfl) ?_
  intro p e s m args below meth c C hn
  exact v_sub [0, 1, 2, 3] [(0, va_rf (some o)), (1, .int x1), (2, .int x2), (3, .int x3)] rfl (w_X5_init_0 C (hn.trans rfl) _ _ _ _ _ _ _ _ E)
set_option maxHeartbeats 4000000 in
theorem w_X5_waitFor_3 (C : Cx D cA bs Z p s m args meth c cX5_waitFor RX5 6 (some .int)) {o : Nat} {K : Sh} {n : Nat} {I : Im} {J : Jm} {R : Rf} (ho : (K o).1 = 6) (res : Int32)  : ∀ (k : Nat), ∀ (x1 : Option Nat) (x2 : Int32) (x3 : Int32) (x4 : Int32) (x5 : Int32), f_X5_waitFor_3 K I R o k x1 x2 x3 x4 x5 = some res → VW D cA bs Z p l e rX5_waitFor s m args below meth c 6 [(0, va_rf (some o)), (1, va_rf x1), (2, .int x2), (3, .int x3), (4, .int x4), (5, .int x5)] K n I J R 0 0 (MQ below (QX D cA bs Z (some (.int res)) K n I J R) args s 0 0 (fun q => bs ≤ q)) 3 [] := by
  intro k
  induction k with
  | zero =>
    intro x1 x2 x3 x4 x5 E
    have E : (none : Option (Int32)) = some res := E
    cases E
  | succ k ih =>
    intro x1 x2 x3 x4 x5 E
    unfold f_X5_waitFor_3 at E
    refine v_iload C 5 dX5_waitFor_3 rfl ?_
    refine v_aload_n (r := (some o)) C 0 dX5_waitFor_5 rfl ?_
    refine v_getI (r := (some o)) C fa_X5_22 rfl rfl ho dX5_waitFor_6 ?_
    refine v_icmp_ge C 35 E dX5_waitFor_9 rfl (fun c6 E => ?_) (fun c6 E => ?_)
    · refine v_aload_n (r := (some o)) C 0 dX5_waitFor_35 rfl ?_
      refine v_getI (r := (some o)) C fa_X5_22 rfl rfl ho dX5_waitFor_36 ?_
      obtain rfl := Option.some.inj E
      exact v_iret C rfl dX5_waitFor_39
    · refine v_aload_n (r := x1) C 1 dX5_waitFor_12 rfl ?_
      refine v_iload_n C 2 dX5_waitFor_13 rfl ?_
      refine v_iload_n C 3 dX5_waitFor_14 rfl ?_
      refine v_iload C 5 dX5_waitFor_15 rfl ?_
      refine v_iadd C dX5_waitFor_17 ?_
      obtain ⟨a1, h2, E⟩ := bnd E
      obtain ⟨hra1, hoa1⟩ := ob_is h2
      obtain ⟨q3, h4, E⟩ := bnd E
      refine v_callV (r := x1) (As := [.int x2, .int (x3 + x5)]) (rv := (some (.int q3))) (st := []) (st1 := [.int q3]) (ce1 := 0) (sl1 := 0) C cv_X5_39 (c_X10_heldAt (x1 := x2) (x2 := (x3 + x5)) hoa1 h4) hra1 hoa1 rfl rfl ⟨rfl, rfl, Nat.le_of_ble_eq_true rfl, Nat.le_of_ble_eq_true rfl⟩ ⟨Nat.le_of_ble_eq_true rfl, Nat.le_of_ble_eq_true rfl⟩ (Nat.le_of_ble_eq_true rfl) rfl rfl rfl dX5_waitFor_18 ?_
      refine v_iload C 4 dX5_waitFor_21 rfl ?_
      refine v_icmp_lt C 29 E dX5_waitFor_23 rfl (fun c5 E => ?_) (fun c5 E => ?_)
      · refine v_iinc (v := x5 + 1) C 5 [(5, .int (x5 + 1)), (0, va_rf (some o)), (1, va_rf x1), (2, .int x2), (3, .int x3), (4, .int x4)] dX5_waitFor_29 rfl (k_inc_1 _) (Nat.le_of_ble_eq_true rfl) rfl ?_
        refine v_goto C 3 dX5_waitFor_32 rfl ?_
        exact v_sub [1, 2, 3, 4, 5, 0] [(0, va_rf (some o)), (1, va_rf x1), (2, .int x2), (3, .int x3), (4, .int x4), (5, .int (x5 + 1))] rfl (ih _ _ _ _ _ E)
      · refine v_iload C 5 dX5_waitFor_26 rfl ?_
        obtain rfl := Option.some.inj E
        exact v_iret C rfl dX5_waitFor_28
set_option maxHeartbeats 4000000 in
theorem w_X5_waitFor_0 (C : Cx D cA bs Z p s m args meth c cX5_waitFor RX5 6 (some .int)) {o : Nat} {K : Sh} {n : Nat} {I : Im} {J : Jm} {R : Rf} (ho : (K o).1 = 6) (res : Int32) (x1 : Option Nat) (x2 : Int32) (x3 : Int32) (x4 : Int32) (E : f_X5_waitFor K I R o x1 x2 x3 x4 = some res) : VW D cA bs Z p l e rX5_waitFor s m args below meth c 6 [(0, va_rf (some o)), (1, va_rf x1), (2, .int x2), (3, .int x3), (4, .int x4)] K n I J R 0 0 (MQ below (QX D cA bs Z (some (.int res)) K n I J R) args s 0 0 (fun q => bs ≤ q)) 0 [] := by
  unfold f_X5_waitFor at E
  refine v_iconst C dX5_waitFor_0 k_iconst_0 ?_
  refine v_istore C [(5, .int 0), (0, va_rf (some o)), (1, va_rf x1), (2, .int x2), (3, .int x3), (4, .int x4)] dX5_waitFor_1 (Nat.le_of_ble_eq_true rfl) rfl ?_
  exact v_sub [1, 2, 3, 4, 5, 0] [(0, va_rf (some o)), (1, va_rf x1), (2, .int x2), (3, .int x3), (4, .int x4), (5, .int 0)] rfl (w_X5_waitFor_3 C ho res  _ _ _ _ _ _ E)
set_option maxHeartbeats 4000000 in
theorem c_X5_waitFor {n : Nat} {K : Sh} {I : Im} {J : Jm} {R : Rf} {o : Nat} {x1 : Option Nat} {x2 : Int32} {x3 : Int32} {x4 : Int32} (ho : (K o).1 = 6) {res : Int32} (E : f_X5_waitFor K I R o x1 x2 x3 x4 = some res) : Met l yX5_waitFor (Cond.code yX5_waitFor cX5_waitFor 6 (some .int) :: tb) rX5_waitFor (PX D cA bs Z [.ref o, va_rf x1, .int x2, .int x3, .int x4] K n I J R) (QX D cA bs Z (some (.int res)) K n I J R) 0 0 (fun q => bs ≤ q) := by
  refine met_of (lv1 := [(0, va_rf (some o)), (1, va_rf x1), (2, .int x2), (3, .int x3), (4, .int x4)]) pn_X5 (by cases x1 <;> exact Nat.le_of_ble_eq_true rfl) (by cases x1 <;> rfl) ?_
  intro p e s m args below meth c C hn
  exact v_sub [0, 1, 2, 3, 4] [(0, va_rf (some o)), (1, va_rf x1), (2, .int x2), (3, .int x3), (4, .int x4)] rfl (w_X5_waitFor_0 C ho _ _ _ _ _ E)
set_option maxHeartbeats 4000000 in
theorem w_X5_tillNoon_0 (C : Cx D cA bs Z p s m args meth c cX5_tillNoon RX5 3 (some .int)) {o : Nat} {K : Sh} {n : Nat} {I : Im} {J : Jm} {R : Rf} (ho : (K o).1 = 6) (res : Int32) (x1 : Int32) (E : f_X5_tillNoon K I o x1 = some res) : VW D cA bs Z p l e rX5_tillNoon s m args below meth c 3 [(0, va_rf (some o)), (1, .int x1)] K n I J R 0 0 (MQ below (QX D cA bs Z (some (.int res)) K n I J R) args s 0 0 (fun q => bs ≤ q)) 0 [] := by
  unfold f_X5_tillNoon at E
  refine v_iload_n C 1 dX5_tillNoon_0 rfl ?_
  refine v_bipush C dX5_tillNoon_1 k_bipush_24 ?_
  refine v_irem C dX5_tillNoon_3 k_nz_24 ?_
  refine v_istore_n C [(2, .int (irem x1 24)), (0, va_rf (some o)), (1, .int x1)] dX5_tillNoon_4 (Nat.le_of_ble_eq_true rfl) rfl ?_
  refine v_iload_n C 0 dX5_tillNoon_5 rfl ?_
  refine v_bipush C dX5_tillNoon_6 k_bipush_12 ?_
  refine v_icmp_lt C 15 E dX5_tillNoon_8 rfl (fun c1 E => ?_) (fun c1 E => ?_)
  · refine v_bipush C dX5_tillNoon_15 k_bipush_12 ?_
    refine v_iload_n C 0 dX5_tillNoon_17 rfl ?_
    refine v_isub C dX5_tillNoon_18 ?_
    refine v_aload_n (r := (some o)) C 1 dX5_tillNoon_19 rfl ?_
    refine v_getI (r := (some o)) C fa_X5_22 rfl rfl ho dX5_tillNoon_20 ?_
    refine v_min C mx_X5_29 (Nat.le_of_ble_eq_true rfl) ((Nat.le_of_ble_eq_true rfl)) (Nat.le_of_ble_eq_true rfl) (Nat.le_of_ble_eq_true rfl) dX5_tillNoon_23 ?_
    obtain rfl := Option.some.inj E
    exact v_iret C rfl dX5_tillNoon_26
  · refine v_iconst C dX5_tillNoon_11 k_iconst_0 ?_
    refine v_goto C 26 dX5_tillNoon_12 rfl ?_
    obtain rfl := Option.some.inj E
    exact v_iret C rfl dX5_tillNoon_26
set_option maxHeartbeats 4000000 in
theorem c_X5_tillNoon {n : Nat} {K : Sh} {I : Im} {J : Jm} {R : Rf} {o : Nat} {x1 : Int32} (ho : (K o).1 = 6) {res : Int32} (E : f_X5_tillNoon K I o x1 = some res) : Met l yX5_tillNoon (Cond.code yX5_tillNoon cX5_tillNoon 3 (some .int) :: tb) rX5_tillNoon (PX D cA bs Z [.ref o, .int x1] K n I J R) (QX D cA bs Z (some (.int res)) K n I J R) 0 0 (fun q => bs ≤ q) := by
  refine met_of (lv1 := [(0, va_rf (some o)), (1, .int x1)]) pn_X5 (by exact Nat.le_of_ble_eq_true rfl) (by rfl) ?_
  intro p e s m args below meth c C hn
  exact v_sub [0, 1] [(0, va_rf (some o)), (1, .int x1)] rfl (w_X5_tillNoon_0 C ho _ _ E)
set_option maxHeartbeats 4000000 in
theorem w_X5_standAt_0 (C : Cx D cA bs Z p s m args meth c cX5_standAt RX5 6 (some .int)) {o : Nat} {K : Sh} {n : Nat} {I : Im} {J : Jm} {R : Rf} (ho : (K o).1 = 6) (res : Int32) (x1 : Option Nat) (x2 : Int32) (x3 : Int32) (x4 : Int32) (x5 : Int32) (E : f_X5_standAt K I R o x1 x2 x3 x4 x5 = some res) : VW D cA bs Z p l e rX5_standAt s m args below meth c 6 [(0, va_rf (some o)), (1, va_rf x1), (2, .int x2), (3, .int x3), (4, .int x4), (5, .int x5)] K n I J R 0 0 (MQ below (QX D cA bs Z (some (.int res)) K n I J R) args s 0 0 (fun q => bs ≤ q)) 0 [] := by
  unfold f_X5_standAt at E
  refine v_aload_n (r := (some o)) C 0 dX5_standAt_0 rfl ?_
  refine v_getI (r := (some o)) C fa_X5_15 rfl rfl ho dX5_standAt_1 ?_
  by_cases c3 : (I o 0) = 1
  · have E := ite_t E c3
    refine v_tableIn (off := 40) C 44 dX5_standAt_4 (by rw [c3]; decide) (by rw [c3]; decide) (by rw [c3]; rfl) rfl ?_
    refine v_aload_n (r := (some o)) C 0 dX5_standAt_44 rfl ?_
    refine v_aload_n (r := x1) C 1 dX5_standAt_45 rfl ?_
    refine v_iload_n C 2 dX5_standAt_46 rfl ?_
    refine v_iload_n C 3 dX5_standAt_47 rfl ?_
    refine v_iload C 5 dX5_standAt_48 rfl ?_
    refine v_iload C 4 dX5_standAt_50 rfl ?_
    refine v_isub C dX5_standAt_52 ?_
    obtain ⟨q1, h2, E⟩ := bnd E
    refine v_callV (r := (some o)) (As := [va_rf x1, .int x2, .int x3, .int (x5 - x4)]) (rv := (some (.int q1))) (st := []) (st1 := [.int q1]) (ce1 := 0) (sl1 := 0) C cv_X5_25 (c_X5_waitFor (x1 := x1) (x2 := x2) (x3 := x3) (x4 := (x5 - x4)) ho h2) rfl ho rfl rfl ⟨rfl, rfl, Nat.le_of_ble_eq_true rfl, Nat.le_of_ble_eq_true rfl⟩ ⟨Nat.le_of_ble_eq_true rfl, Nat.le_of_ble_eq_true rfl⟩ (Nat.le_of_ble_eq_true rfl) rfl rfl rfl dX5_standAt_53 ?_
    obtain rfl := Option.some.inj E
    exact v_iret C rfl dX5_standAt_56
  have E := ite_f E c3
  by_cases c6 : (I o 0) = 2
  · have E := ite_t E c6
    refine v_tableIn (off := 73) C 77 dX5_standAt_4 (by rw [c6]; decide) (by rw [c6]; decide) (by rw [c6]; rfl) rfl ?_
    refine v_aload_n (r := (some o)) C 0 dX5_standAt_77 rfl ?_
    refine v_iload_n C 3 dX5_standAt_78 rfl ?_
    obtain ⟨q4, h5, E⟩ := bnd E
    refine v_callV (r := (some o)) (As := [.int x3]) (rv := (some (.int q4))) (st := []) (st1 := [.int q4]) (ce1 := 0) (sl1 := 0) C cv_X5_35 (c_X5_tillNoon (x1 := x3) ho h5) rfl ho rfl rfl ⟨rfl, rfl, Nat.le_of_ble_eq_true rfl, Nat.le_of_ble_eq_true rfl⟩ ⟨Nat.le_of_ble_eq_true rfl, Nat.le_of_ble_eq_true rfl⟩ (Nat.le_of_ble_eq_true rfl) rfl rfl rfl dX5_standAt_79 ?_
    obtain rfl := Option.some.inj E
    exact v_iret C rfl dX5_standAt_82
  have E := ite_f E c6
  by_cases c7 : (I o 0) = 3
  · have E := ite_t E c7
    refine v_tableIn (off := 98) C 102 dX5_standAt_4 (by rw [c7]; decide) (by rw [c7]; decide) (by rw [c7]; rfl) rfl ?_
    refine v_iconst C dX5_standAt_102 k_iconst_0 ?_
    obtain rfl := Option.some.inj E
    exact v_iret C rfl dX5_standAt_103
  have E := ite_f E c7
  by_cases c10 : (I o 0) = 4
  · have E := ite_t E c10
    refine v_tableIn (off := 53) C 57 dX5_standAt_4 (by rw [c10]; decide) (by rw [c10]; decide) (by rw [c10]; rfl) rfl ?_
    refine v_aload_n (r := (some o)) C 0 dX5_standAt_57 rfl ?_
    refine v_aload_n (r := x1) C 1 dX5_standAt_58 rfl ?_
    refine v_iload_n C 2 dX5_standAt_59 rfl ?_
    refine v_iload_n C 3 dX5_standAt_60 rfl ?_
    refine v_iload C 5 dX5_standAt_61 rfl ?_
    refine v_iload C 4 dX5_standAt_63 rfl ?_
    refine v_isub C dX5_standAt_65 ?_
    obtain ⟨q8, h9, E⟩ := bnd E
    refine v_callV (r := (some o)) (As := [va_rf x1, .int x2, .int x3, .int (x5 - x4)]) (rv := (some (.int q8))) (st := []) (st1 := [.int q8]) (ce1 := 0) (sl1 := 0) C cv_X5_25 (c_X5_waitFor (x1 := x1) (x2 := x2) (x3 := x3) (x4 := (x5 - x4)) ho h9) rfl ho rfl rfl ⟨rfl, rfl, Nat.le_of_ble_eq_true rfl, Nat.le_of_ble_eq_true rfl⟩ ⟨Nat.le_of_ble_eq_true rfl, Nat.le_of_ble_eq_true rfl⟩ (Nat.le_of_ble_eq_true rfl) rfl rfl rfl dX5_standAt_66 ?_
    refine v_iconst C dX5_standAt_69 k_iconst_1 ?_
    refine v_iadd C dX5_standAt_70 ?_
    refine v_bipush C dX5_standAt_71 k_bipush_6 ?_
    refine v_min C mx_X5_29 (Nat.le_of_ble_eq_true rfl) ((Nat.le_of_ble_eq_true rfl)) (Nat.le_of_ble_eq_true rfl) (Nat.le_of_ble_eq_true rfl) dX5_standAt_73 ?_
    obtain rfl := Option.some.inj E
    exact v_iret C rfl dX5_standAt_76
  have E := ite_f E c10
  by_cases c11 : (I o 0) = 5
  · have E := ite_t E c11
    refine v_tableIn (off := 98) C 102 dX5_standAt_4 (by rw [c11]; decide) (by rw [c11]; decide) (by rw [c11]; rfl) rfl ?_
    refine v_iconst C dX5_standAt_102 k_iconst_0 ?_
    obtain rfl := Option.some.inj E
    exact v_iret C rfl dX5_standAt_103
  have E := ite_f E c11
  by_cases c15 : (I o 0) = 6
  · have E := ite_t E c15
    refine v_tableIn (off := 79) C 83 dX5_standAt_4 (by rw [c15]; decide) (by rw [c15]; decide) (by rw [c15]; rfl) rfl ?_
    refine v_iconst C dX5_standAt_83 k_iconst_2 ?_
    refine v_iload C 4 dX5_standAt_84 rfl ?_
    refine v_imul C dX5_standAt_86 ?_
    refine v_iload C 5 dX5_standAt_87 rfl ?_
    refine v_icmp_ge C 96 E dX5_standAt_89 rfl (fun c14 E => ?_) (fun c14 E => ?_)
    · refine v_aload_n (r := (some o)) C 0 dX5_standAt_96 rfl ?_
      refine v_iload_n C 3 dX5_standAt_97 rfl ?_
      obtain ⟨q12, h13, E⟩ := bnd E
      refine v_callV (r := (some o)) (As := [.int x3]) (rv := (some (.int q12))) (st := []) (st1 := [.int q12]) (ce1 := 0) (sl1 := 0) C cv_X5_35 (c_X5_tillNoon (x1 := x3) ho h13) rfl ho rfl rfl ⟨rfl, rfl, Nat.le_of_ble_eq_true rfl, Nat.le_of_ble_eq_true rfl⟩ ⟨Nat.le_of_ble_eq_true rfl, Nat.le_of_ble_eq_true rfl⟩ (Nat.le_of_ble_eq_true rfl) rfl rfl rfl dX5_standAt_98 ?_
      obtain rfl := Option.some.inj E
      exact v_iret C rfl dX5_standAt_101
    · refine v_iconst C dX5_standAt_92 k_iconst_0 ?_
      refine v_goto C 101 dX5_standAt_93 rfl ?_
      obtain rfl := Option.some.inj E
      exact v_iret C rfl dX5_standAt_101
  have E := ite_f E c15
  refine v_tableOut C 102 dX5_standAt_4 (by have hc3 := lv_neT c3 (show ((1 : Int32)).toInt = 1 from by decide); have hc6 := lv_neT c6 (show ((2 : Int32)).toInt = 2 from by decide); have hc7 := lv_neT c7 (show ((3 : Int32)).toInt = 3 from by decide); have hc10 := lv_neT c10 (show ((4 : Int32)).toInt = 4 from by decide); have hc11 := lv_neT c11 (show ((5 : Int32)).toInt = 5 from by decide); have hc15 := lv_neT c15 (show ((6 : Int32)).toInt = 6 from by decide); omega) rfl ?_
  refine v_iconst C dX5_standAt_102 k_iconst_0 ?_
  obtain rfl := Option.some.inj E
  exact v_iret C rfl dX5_standAt_103
set_option maxHeartbeats 4000000 in
theorem c_X5_standAt {n : Nat} {K : Sh} {I : Im} {J : Jm} {R : Rf} {o : Nat} {x1 : Option Nat} {x2 : Int32} {x3 : Int32} {x4 : Int32} {x5 : Int32} (ho : (K o).1 = 6) {res : Int32} (E : f_X5_standAt K I R o x1 x2 x3 x4 x5 = some res) : Met l yX5_standAt (Cond.code yX5_standAt cX5_standAt 6 (some .int) :: tb) rX5_standAt (PX D cA bs Z [.ref o, va_rf x1, .int x2, .int x3, .int x4, .int x5] K n I J R) (QX D cA bs Z (some (.int res)) K n I J R) 0 0 (fun q => bs ≤ q) := by
  refine met_of (lv1 := [(0, va_rf (some o)), (1, va_rf x1), (2, .int x2), (3, .int x3), (4, .int x4), (5, .int x5)]) pn_X5 (by cases x1 <;> exact Nat.le_of_ble_eq_true rfl) (by cases x1 <;> rfl) ?_
  intro p e s m args below meth c C hn
  exact v_sub [0, 1, 2, 3, 4, 5] [(0, va_rf (some o)), (1, va_rf x1), (2, .int x2), (3, .int x3), (4, .int x4), (5, .int x5)] rfl (w_X5_standAt_0 C ho _ _ _ _ _ _ E)
set_option maxHeartbeats 4000000 in
theorem w_X10_init_0 (C : Cx D cA bs Z p s m args meth c cX10_init RX10 1 none) (hin : meth.name = "<init>") {o : Nat} {J : Jm} (res : Sh × Nat × Im × Rf) (K : Sh) (n : Nat) (I : Im) (R : Rf) (E : f_X10_init o K n I R = some res) : VW D cA bs Z p l e rX10_init s m args below meth c 1 [(0, va_rf (some o))] K n I J R 0 0 (MQ below (QX D cA bs Z none res.1 res.2.1 res.2.2.1 J res.2.2.2) args s 4 20 (fun q => bs ≤ q)) 0 [] := by
  unfold f_X10_init at E
  refine v_aload_n (r := (some o)) C 0 dX10_init_0 rfl ?_
  refine v_objInit (a := o) C oi_X10 oi_i oi_c (Nat.le_of_ble_eq_true rfl) (Nat.le_of_ble_eq_true rfl) dX10_init_1 ?_
  refine v_aload_n (r := (some o)) C 0 dX10_init_4 rfl ?_
  refine v_iconst C dX10_init_5 k_iconst_5 ?_
  refine v_newI (N := 5) (ce1 := 1) (sl1 := 5) C ac_int E (by decide) (by decide) rfl rfl (Nat.le_of_ble_eq_true rfl) (Nat.le_of_ble_eq_true rfl) dX10_init_6 (fun K1 _ E => ?_)
  refine v_mpI E (fun I2 _ E => ?_)
  obtain ⟨a3, h4, E⟩ := bnd E
  obtain ⟨hra3, hoa3⟩ := ob_is h4
  refine v_putRF (r := (some o)) (q := (some n)) C fa_X10_9 fo_X10_9 hin rfl E hra3 hoa3 dX10_init_8 (fun R5 _ E => ?_)
  refine v_aload_n (r := (some o)) C 0 dX10_init_11 rfl ?_
  refine v_iconst C dX10_init_12 k_iconst_5 ?_
  refine v_newI (N := 5) (ce1 := 2) (sl1 := 10) C ac_int E (by decide) (by decide) rfl rfl (Nat.le_of_ble_eq_true rfl) (Nat.le_of_ble_eq_true rfl) dX10_init_13 (fun K6 _ E => ?_)
  refine v_mpI E (fun I7 _ E => ?_)
  obtain ⟨a8, h9, E⟩ := bnd E
  obtain ⟨hra8, hoa8⟩ := ob_is h9
  refine v_putRF (r := (some o)) (q := (some (n + 1))) C fa_X10_15 fo_X10_15 hin rfl E hra8 hoa8 dX10_init_15 (fun R10 _ E => ?_)
  refine v_aload_n (r := (some o)) C 0 dX10_init_18 rfl ?_
  refine v_iconst C dX10_init_19 k_iconst_5 ?_
  refine v_newI (N := 5) (ce1 := 3) (sl1 := 15) C ac_int E (by decide) (by decide) rfl rfl (Nat.le_of_ble_eq_true rfl) (Nat.le_of_ble_eq_true rfl) dX10_init_20 (fun K11 _ E => ?_)
  refine v_mpI E (fun I12 _ E => ?_)
  obtain ⟨a13, h14, E⟩ := bnd E
  obtain ⟨hra13, hoa13⟩ := ob_is h14
  refine v_putRF (r := (some o)) (q := (some (n + 2))) C fa_X10_18 fo_X10_18 hin rfl E hra13 hoa13 dX10_init_22 (fun R15 _ E => ?_)
  refine v_aload_n (r := (some o)) C 0 dX10_init_25 rfl ?_
  refine v_iconst C dX10_init_26 k_iconst_5 ?_
  refine v_newI (N := 5) (ce1 := 4) (sl1 := 20) C ac_int E (by decide) (by decide) rfl rfl (Nat.le_of_ble_eq_true rfl) (Nat.le_of_ble_eq_true rfl) dX10_init_27 (fun K16 _ E => ?_)
  refine v_mpI E (fun I17 _ E => ?_)
  obtain ⟨a18, h19, E⟩ := bnd E
  obtain ⟨hra18, hoa18⟩ := ob_is h19
  refine v_putRF (r := (some o)) (q := (some (n + 3))) C fa_X10_21 fo_X10_21 hin rfl E hra18 hoa18 dX10_init_29 (fun R20 _ E => ?_)
  obtain rfl := Option.some.inj E
  exact v_vret C rfl dX10_init_32
set_option maxHeartbeats 4000000 in
theorem c_X10_init {n : Nat} {K : Sh} {I : Im} {J : Jm} {R : Rf} {o : Nat}  {res : Sh × Nat × Im × Rf} (E : f_X10_init o K n I R = some res) : Met l yX10_init (Cond.code yX10_init cX10_init 1 none :: tb) rX10_init (PX D cA bs Z [.ref o] K n I J R) (QX D cA bs Z none res.1 res.2.1 res.2.2.1 J res.2.2.2) 4 20 (fun q => bs ≤ q) := by
  refine met_of (lv1 := [(0, va_rf (some o))]) pn_X10 (by exact Nat.le_of_ble_eq_true rfl) (by rfl) ?_
  intro p e s m args below meth c C hn
  exact v_sub [0] [(0, va_rf (some o))] rfl (w_X10_init_0 C (hn.trans rfl) _ _ _ _ _ E)
set_option maxHeartbeats 4000000 in
theorem w_X6_init_0 (C : Cx D cA bs Z p s m args meth c cX6_init RX6 1 none) (hin : meth.name = "<init>") {o : Nat} {J : Jm} (res : Sh × Nat × Im × Rf) (K : Sh) (n : Nat) (I : Im) (R : Rf) (E : f_X6_init o K n I R = some res) : VW D cA bs Z p l e rX6_init s m args below meth c 1 [(0, va_rf (some o))] K n I J R 0 0 (MQ below (QX D cA bs Z none res.1 res.2.1 res.2.2.1 J res.2.2.2) args s 8 37 (fun q => bs ≤ q)) 0 [] := by
  unfold f_X6_init at E
  refine v_aload_n (r := (some o)) C 0 dX6_init_0 rfl ?_
  refine v_objInit (a := o) C oi_X6 oi_i oi_c (Nat.le_of_ble_eq_true rfl) (Nat.le_of_ble_eq_true rfl) dX6_init_1 ?_
  refine v_aload_n (r := (some o)) C 0 dX6_init_4 rfl ?_
  refine v_null C dX6_init_5 ?_
  obtain ⟨a1, h2, E⟩ := bnd E
  obtain ⟨hra1, hoa1⟩ := ob_is h2
  refine v_putR (r := (some o)) (q := none) C fa_X6_9 rfl E hra1 hoa1 dX6_init_6 (fun R3 _ E => ?_)
  refine v_aload_n (r := (some o)) C 0 dX6_init_9 rfl ?_
  refine v_new (ce1 := 1) (sl1 := 4) C nc_X6_15 E rfl rfl (Nat.le_of_ble_eq_true rfl) (Nat.le_of_ble_eq_true rfl) dX6_init_10 (fun K4 _ E => ?_)
  refine v_mpI E (fun I5 _ E => ?_)
  refine v_mpR E (fun R6 _ E => ?_)
  refine v_dup C dX6_init_13 (rf_cat _) ?_
  obtain ⟨q7, h8, E⟩ := bnd E
  refine v_callI (r := (some n)) (a := n) (As := []) (st := [va_rf (some n), va_rf (some o)]) (ce1 := 5) (sl1 := 24) C ci_X6_17 (c_X10_init  h8) rfl rfl rfl ⟨rfl, rfl, Nat.le_of_ble_eq_true rfl, Nat.le_of_ble_eq_true rfl⟩ ⟨Nat.le_of_ble_eq_true rfl, Nat.le_of_ble_eq_true rfl⟩ (by simp only [List.map_cons, List.map_nil, List.sum_cons, List.sum_nil, rf_cat]; exact Nat.le_of_ble_eq_true rfl) rfl rfl dX6_init_14 ?_
  obtain ⟨a9, h10, E⟩ := bnd E
  obtain ⟨hra9, hoa9⟩ := ob_is h10
  refine v_putRF (r := (some o)) (q := (some n)) C fa_X6_18 fo_X6_18 hin rfl E hra9 hoa9 dX6_init_17 (fun R11 _ E => ?_)
  refine v_aload_n (r := (some o)) C 0 dX6_init_20 rfl ?_
  refine v_iconst C dX6_init_21 k_iconst_5 ?_
  refine v_newI (N := 5) (ce1 := 6) (sl1 := 29) C ac_int E (by decide) (by decide) rfl rfl (Nat.le_of_ble_eq_true rfl) (Nat.le_of_ble_eq_true rfl) dX6_init_22 (fun K12 _ E => ?_)
  refine v_mpI E (fun I13 _ E => ?_)
  obtain ⟨a14, h15, E⟩ := bnd E
  obtain ⟨hra14, hoa14⟩ := ob_is h15
  refine v_putRF (r := (some o)) (q := (some q7.2.1)) C fa_X6_22 fo_X6_22 hin rfl E hra14 hoa14 dX6_init_24 (fun R16 _ E => ?_)
  refine v_aload_n (r := (some o)) C 0 dX6_init_27 rfl ?_
  refine v_iconst C dX6_init_28 k_iconst_3 ?_
  refine v_newI (N := 3) (ce1 := 7) (sl1 := 32) C ac_int E (by decide) (by decide) rfl rfl (Nat.le_of_ble_eq_true rfl) (Nat.le_of_ble_eq_true rfl) dX6_init_29 (fun K17 _ E => ?_)
  refine v_mpI E (fun I18 _ E => ?_)
  obtain ⟨a19, h20, E⟩ := bnd E
  obtain ⟨hra19, hoa19⟩ := ob_is h20
  refine v_putRF (r := (some o)) (q := (some (q7.2.1 + 1))) C fa_X6_26 fo_X6_26 hin rfl E hra19 hoa19 dX6_init_31 (fun R21 _ E => ?_)
  refine v_aload_n (r := (some o)) C 0 dX6_init_34 rfl ?_
  refine v_iconst C dX6_init_35 k_iconst_5 ?_
  refine v_newI (N := 5) (ce1 := 8) (sl1 := 37) C ac_int E (by decide) (by decide) rfl rfl (Nat.le_of_ble_eq_true rfl) (Nat.le_of_ble_eq_true rfl) dX6_init_36 (fun K22 _ E => ?_)
  refine v_mpI E (fun I23 _ E => ?_)
  obtain ⟨a24, h25, E⟩ := bnd E
  obtain ⟨hra24, hoa24⟩ := ob_is h25
  refine v_putRF (r := (some o)) (q := (some (q7.2.1 + 2))) C fa_X6_29 fo_X6_29 hin rfl E hra24 hoa24 dX6_init_38 (fun R26 _ E => ?_)
  obtain rfl := Option.some.inj E
  exact v_vret C rfl dX6_init_41
set_option maxHeartbeats 4000000 in
theorem c_X6_init {n : Nat} {K : Sh} {I : Im} {J : Jm} {R : Rf} {o : Nat}  {res : Sh × Nat × Im × Rf} (E : f_X6_init o K n I R = some res) : Met l yX6_init (Cond.code yX6_init cX6_init 1 none :: tb) rX6_init (PX D cA bs Z [.ref o] K n I J R) (QX D cA bs Z none res.1 res.2.1 res.2.2.1 J res.2.2.2) 8 37 (fun q => bs ≤ q) := by
  refine met_of (lv1 := [(0, va_rf (some o))]) pn_X6 (by exact Nat.le_of_ble_eq_true rfl) (by rfl) ?_
  intro p e s m args below meth c C hn
  exact v_sub [0] [(0, va_rf (some o))] rfl (w_X6_init_0 C (hn.trans rfl) _ _ _ _ _ E)
set_option maxHeartbeats 4000000 in
theorem w_X10_become_2 (C : Cx D cA bs Z p s m args meth c cX10_become RX10 3 none) {o : Nat} {K : Sh} {n : Nat} {J : Jm} {R : Rf} (ho : (K o).1 = 11) (res : Im)  : ∀ (k : Nat), ∀ (x1 : Option Nat) (x2 : Int32) (I : Im), f_X10_become_2 K R o k x1 x2 I = some res → VW D cA bs Z p l e rX10_become s m args below meth c 3 [(0, va_rf (some o)), (1, va_rf x1), (2, .int x2)] K n I J R 0 0 (MQ below (QX D cA bs Z none K n res J R) args s 0 0 (fun q => bs ≤ q)) 2 [] := by
  intro k
  induction k with
  | zero =>
    intro x1 x2 I E
    have E : (none : Option (Im)) = some res := E
    cases E
  | succ k ih =>
    intro x1 x2 I E
    unfold f_X10_become_2 at E
    refine v_iload_n C 2 dX10_become_2 rfl ?_
    refine v_iconst C dX10_become_3 k_iconst_5 ?_
    refine v_icmp_ge C 61 E dX10_become_4 rfl (fun c11 E => ?_) (fun c11 E => ?_)
    · obtain rfl := Option.some.inj E
      exact v_vret C rfl dX10_become_61
    · refine v_aload_n (r := (some o)) C 0 dX10_become_7 rfl ?_
      refine v_getR (r := (some o)) C fa_X10_9 rfl rfl ho dX10_become_8 ?_
      refine v_iload_n C 2 dX10_become_11 rfl ?_
      refine v_aload_n (r := x1) C 1 dX10_become_12 rfl ?_
      obtain ⟨a1, h2, E⟩ := bnd E
      obtain ⟨hra1, hoa1⟩ := ob_is h2
      refine v_getR (r := x1) C fa_X10_9 rfl hra1 hoa1 dX10_become_13 ?_
      refine v_iload_n C 2 dX10_become_16 rfl ?_
      refine v_iald (r := (R a1 0)) C E dX10_become_17 (fun v3 _ E => ?_)
      refine v_iast (r := (R o 0)) C E dX10_become_18 (fun I4 _ E => ?_)
      refine v_aload_n (r := (some o)) C 0 dX10_become_19 rfl ?_
      refine v_getR (r := (some o)) C fa_X10_15 rfl rfl ho dX10_become_20 ?_
      refine v_iload_n C 2 dX10_become_23 rfl ?_
      refine v_aload_n (r := x1) C 1 dX10_become_24 rfl ?_
      refine v_getR (r := x1) C fa_X10_15 rfl hra1 hoa1 dX10_become_25 ?_
      refine v_iload_n C 2 dX10_become_28 rfl ?_
      refine v_iald (r := (R a1 1)) C E dX10_become_29 (fun v5 _ E => ?_)
      refine v_iast (r := (R o 1)) C E dX10_become_30 (fun I6 _ E => ?_)
      refine v_aload_n (r := (some o)) C 0 dX10_become_31 rfl ?_
      refine v_getR (r := (some o)) C fa_X10_18 rfl rfl ho dX10_become_32 ?_
      refine v_iload_n C 2 dX10_become_35 rfl ?_
      refine v_aload_n (r := x1) C 1 dX10_become_36 rfl ?_
      refine v_getR (r := x1) C fa_X10_18 rfl hra1 hoa1 dX10_become_37 ?_
      refine v_iload_n C 2 dX10_become_40 rfl ?_
      refine v_iald (r := (R a1 2)) C E dX10_become_41 (fun v7 _ E => ?_)
      refine v_iast (r := (R o 2)) C E dX10_become_42 (fun I8 _ E => ?_)
      refine v_aload_n (r := (some o)) C 0 dX10_become_43 rfl ?_
      refine v_getR (r := (some o)) C fa_X10_21 rfl rfl ho dX10_become_44 ?_
      refine v_iload_n C 2 dX10_become_47 rfl ?_
      refine v_aload_n (r := x1) C 1 dX10_become_48 rfl ?_
      refine v_getR (r := x1) C fa_X10_21 rfl hra1 hoa1 dX10_become_49 ?_
      refine v_iload_n C 2 dX10_become_52 rfl ?_
      refine v_iald (r := (R a1 3)) C E dX10_become_53 (fun v9 _ E => ?_)
      refine v_iast (r := (R o 3)) C E dX10_become_54 (fun I10 _ E => ?_)
      refine v_iinc (v := x2 + 1) C 2 [(2, .int (x2 + 1)), (0, va_rf (some o)), (1, va_rf x1)] dX10_become_55 rfl (k_inc_1 _) (Nat.le_of_ble_eq_true rfl) (by generalize x1 = rr; cases rr <;> rfl) ?_
      refine v_goto C 2 dX10_become_58 rfl ?_
      exact v_sub [1, 2, 0] [(0, va_rf (some o)), (1, va_rf x1), (2, .int (x2 + 1))] rfl (ih _ _ _ E)
set_option maxHeartbeats 4000000 in
theorem w_X10_become_0 (C : Cx D cA bs Z p s m args meth c cX10_become RX10 3 none) {o : Nat} {K : Sh} {n : Nat} {J : Jm} {R : Rf} (ho : (K o).1 = 11) (res : Im) (x1 : Option Nat) (I : Im) (E : f_X10_become K R o x1 I = some res) : VW D cA bs Z p l e rX10_become s m args below meth c 3 [(0, va_rf (some o)), (1, va_rf x1)] K n I J R 0 0 (MQ below (QX D cA bs Z none K n res J R) args s 0 0 (fun q => bs ≤ q)) 0 [] := by
  unfold f_X10_become at E
  refine v_iconst C dX10_become_0 k_iconst_0 ?_
  refine v_istore_n C [(2, .int 0), (0, va_rf (some o)), (1, va_rf x1)] dX10_become_1 (Nat.le_of_ble_eq_true rfl) (by generalize x1 = rr; cases rr <;> rfl) ?_
  exact v_sub [1, 2, 0] [(0, va_rf (some o)), (1, va_rf x1), (2, .int 0)] rfl (w_X10_become_2 C ho res  _ _ _ _ E)
set_option maxHeartbeats 4000000 in
theorem c_X10_become {n : Nat} {K : Sh} {I : Im} {J : Jm} {R : Rf} {o : Nat} {x1 : Option Nat} (ho : (K o).1 = 11) {res : Im} (E : f_X10_become K R o x1 I = some res) : Met l yX10_become (Cond.code yX10_become cX10_become 3 none :: tb) rX10_become (PX D cA bs Z [.ref o, va_rf x1] K n I J R) (QX D cA bs Z none K n res J R) 0 0 (fun q => bs ≤ q) := by
  refine met_of (lv1 := [(0, va_rf (some o)), (1, va_rf x1)]) pn_X10 (by cases x1 <;> exact Nat.le_of_ble_eq_true rfl) (by cases x1 <;> rfl) ?_
  intro p e s m args below meth c C hn
  exact v_sub [0, 1] [(0, va_rf (some o)), (1, va_rf x1)] rfl (w_X10_become_0 C ho _ _ _ E)
set_option maxHeartbeats 4000000 in
theorem w_X6_become_74 (C : Cx D cA bs Z p s m args meth c cX6_become RX6 3 none) {o : Nat} {K : Sh} {n : Nat} {J : Jm} (ho : (K o).1 = 7) (res : Im × Rf)  : ∀ (k : Nat), ∀ (x1 : Option Nat) (x2 : Int32) (I : Im) (R : Rf), f_X6_become_74 K o k x1 x2 I R = some res → VW D cA bs Z p l e rX6_become s m args below meth c 3 [(0, va_rf (some o)), (1, va_rf x1), (2, .int x2)] K n I J R 0 0 (MQ below (QX D cA bs Z none K n res.1 J res.2) args s 0 0 (fun q => bs ≤ q)) 74 [] := by
  intro k
  induction k with
  | zero =>
    intro x1 x2 I R E
    have E : (none : Option (Im × Rf)) = some res := E
    cases E
  | succ k ih =>
    intro x1 x2 I R E
    unfold f_X6_become_74 at E
    refine v_iload_n C 2 dX6_become_74 rfl ?_
    refine v_iconst C dX6_become_75 k_iconst_3 ?_
    refine v_icmp_ge C 97 E dX6_become_76 rfl (fun c5 E => ?_) (fun c5 E => ?_)
    · obtain rfl := Option.some.inj E
      exact v_vret C rfl dX6_become_97
    · refine v_aload_n (r := (some o)) C 0 dX6_become_79 rfl ?_
      refine v_getR (r := (some o)) C fa_X6_26 rfl rfl ho dX6_become_80 ?_
      refine v_iload_n C 2 dX6_become_83 rfl ?_
      refine v_aload_n (r := x1) C 1 dX6_become_84 rfl ?_
      obtain ⟨a1, h2, E⟩ := bnd E
      obtain ⟨hra1, hoa1⟩ := ob_is h2
      refine v_getR (r := x1) C fa_X6_26 rfl hra1 hoa1 dX6_become_85 ?_
      refine v_iload_n C 2 dX6_become_88 rfl ?_
      refine v_iald (r := (R a1 3)) C E dX6_become_89 (fun v3 _ E => ?_)
      refine v_iast (r := (R o 3)) C E dX6_become_90 (fun I4 _ E => ?_)
      refine v_iinc (v := x2 + 1) C 2 [(2, .int (x2 + 1)), (0, va_rf (some o)), (1, va_rf x1)] dX6_become_91 rfl (k_inc_1 _) (Nat.le_of_ble_eq_true rfl) (by generalize x1 = rr; cases rr <;> rfl) ?_
      refine v_goto C 74 dX6_become_94 rfl ?_
      exact v_sub [1, 2, 0] [(0, va_rf (some o)), (1, va_rf x1), (2, .int (x2 + 1))] rfl (ih _ _ _ _ E)
set_option maxHeartbeats 4000000 in
theorem w_X6_become_37 (C : Cx D cA bs Z p s m args meth c cX6_become RX6 3 none) {o : Nat} {K : Sh} {n : Nat} {J : Jm} (ho : (K o).1 = 7) (res : Im × Rf)  : ∀ (k : Nat), ∀ (x1 : Option Nat) (x2 : Int32) (I : Im) (R : Rf), f_X6_become_37 K o k x1 x2 I R = some res → VW D cA bs Z p l e rX6_become s m args below meth c 3 [(0, va_rf (some o)), (1, va_rf x1), (2, .int x2)] K n I J R 0 0 (MQ below (QX D cA bs Z none K n res.1 J res.2) args s 0 0 (fun q => bs ≤ q)) 37 [] := by
  intro k
  induction k with
  | zero =>
    intro x1 x2 I R E
    have E : (none : Option (Im × Rf)) = some res := E
    cases E
  | succ k ih =>
    intro x1 x2 I R E
    unfold f_X6_become_37 at E
    refine v_iload_n C 2 dX6_become_37 rfl ?_
    refine v_iconst C dX6_become_38 k_iconst_5 ?_
    refine v_icmp_ge C 72 E dX6_become_39 rfl (fun c12 E => ?_) (fun c12 E => ?_)
    · refine v_iconst C dX6_become_72 k_iconst_0 ?_
      refine v_istore_n C [(2, .int 0), (0, va_rf (some o)), (1, va_rf x1)] dX6_become_73 (Nat.le_of_ble_eq_true rfl) (by generalize x1 = rr; cases rr <;> rfl) ?_
      exact v_sub [1, 2, 0] [(0, va_rf (some o)), (1, va_rf x1), (2, .int 0)] rfl (w_X6_become_74 C ho res  _ _ _ _ _ E)
    · refine v_aload_n (r := (some o)) C 0 dX6_become_42 rfl ?_
      refine v_getR (r := (some o)) C fa_X6_22 rfl rfl ho dX6_become_43 ?_
      refine v_iload_n C 2 dX6_become_46 rfl ?_
      refine v_aload_n (r := x1) C 1 dX6_become_47 rfl ?_
      obtain ⟨a6, h7, E⟩ := bnd E
      obtain ⟨hra6, hoa6⟩ := ob_is h7
      refine v_getR (r := x1) C fa_X6_22 rfl hra6 hoa6 dX6_become_48 ?_
      refine v_iload_n C 2 dX6_become_51 rfl ?_
      refine v_iald (r := (R a6 2)) C E dX6_become_52 (fun v8 _ E => ?_)
      refine v_iast (r := (R o 2)) C E dX6_become_53 (fun I9 _ E => ?_)
      refine v_aload_n (r := (some o)) C 0 dX6_become_54 rfl ?_
      refine v_getR (r := (some o)) C fa_X6_29 rfl rfl ho dX6_become_55 ?_
      refine v_iload_n C 2 dX6_become_58 rfl ?_
      refine v_aload_n (r := x1) C 1 dX6_become_59 rfl ?_
      refine v_getR (r := x1) C fa_X6_29 rfl hra6 hoa6 dX6_become_60 ?_
      refine v_iload_n C 2 dX6_become_63 rfl ?_
      refine v_iald (r := (R a6 5)) C E dX6_become_64 (fun v10 _ E => ?_)
      refine v_iast (r := (R o 5)) C E dX6_become_65 (fun I11 _ E => ?_)
      refine v_iinc (v := x2 + 1) C 2 [(2, .int (x2 + 1)), (0, va_rf (some o)), (1, va_rf x1)] dX6_become_66 rfl (k_inc_1 _) (Nat.le_of_ble_eq_true rfl) (by generalize x1 = rr; cases rr <;> rfl) ?_
      refine v_goto C 37 dX6_become_69 rfl ?_
      exact v_sub [1, 2, 0] [(0, va_rf (some o)), (1, va_rf x1), (2, .int (x2 + 1))] rfl (ih _ _ _ _ E)
set_option maxHeartbeats 4000000 in
theorem w_X6_become_0 (C : Cx D cA bs Z p s m args meth c cX6_become RX6 3 none) {o : Nat} {K : Sh} {n : Nat} {J : Jm} (ho : (K o).1 = 7) (res : Im × Rf) (x1 : Option Nat) (I : Im) (R : Rf) (E : f_X6_become K o x1 I R = some res) : VW D cA bs Z p l e rX6_become s m args below meth c 3 [(0, va_rf (some o)), (1, va_rf x1)] K n I J R 0 0 (MQ below (QX D cA bs Z none K n res.1 J res.2) args s 0 0 (fun q => bs ≤ q)) 0 [] := by
  unfold f_X6_become at E
  refine v_aload_n (r := (some o)) C 0 dX6_become_0 rfl ?_
  refine v_aload_n (r := x1) C 1 dX6_become_1 rfl ?_
  obtain ⟨a13, h14, E⟩ := bnd E
  obtain ⟨hra13, hoa13⟩ := ob_is h14
  refine v_getR (r := x1) C fa_X6_9 rfl hra13 hoa13 dX6_become_2 ?_
  refine v_putR (r := (some o)) (q := (R a13 0)) C fa_X6_9 rfl E rfl ho dX6_become_5 (fun R15 _ E => ?_)
  refine v_aload_n (r := (some o)) C 0 dX6_become_8 rfl ?_
  refine v_getR (r := (some o)) C fa_X6_18 rfl rfl ho dX6_become_9 ?_
  refine v_aload_n (r := x1) C 1 dX6_become_12 rfl ?_
  refine v_getR (r := x1) C fa_X6_18 rfl hra13 hoa13 dX6_become_13 ?_
  obtain ⟨a16, h17, E⟩ := bnd E
  obtain ⟨hra16, hoa16⟩ := ob_is h17
  obtain ⟨q18, h19, E⟩ := bnd E
  refine v_callV (r := (R15 o 1)) (As := [va_rf (R15 a13 1)]) (rv := none) (st := []) (st1 := []) (ce1 := 0) (sl1 := 0) C cv_X6_32 (c_X10_become (x1 := (R15 a13 1)) hoa16 h19) hra16 hoa16 rfl rfl ⟨rfl, rfl, Nat.le_of_ble_eq_true rfl, Nat.le_of_ble_eq_true rfl⟩ ⟨Nat.le_of_ble_eq_true rfl, Nat.le_of_ble_eq_true rfl⟩ (Nat.le_of_ble_eq_true rfl) rfl rfl rfl dX6_become_16 ?_
  refine v_aload_n (r := (some o)) C 0 dX6_become_19 rfl ?_
  refine v_aload_n (r := x1) C 1 dX6_become_20 rfl ?_
  refine v_getI (r := x1) C fa_X6_36 rfl hra13 hoa13 dX6_become_21 ?_
  refine v_putI (r := (some o)) C fa_X6_36 rfl E rfl ho ⟨rfl, rfl⟩ dX6_become_24 (fun I20 _ E => ?_)
  refine v_aload_n (r := (some o)) C 0 dX6_become_27 rfl ?_
  refine v_aload_n (r := x1) C 1 dX6_become_28 rfl ?_
  refine v_getI (r := x1) C fa_X6_40 rfl hra13 hoa13 dX6_become_29 ?_
  refine v_putI (r := (some o)) C fa_X6_40 rfl E rfl ho ⟨rfl, rfl⟩ dX6_become_32 (fun I21 _ E => ?_)
  refine v_iconst C dX6_become_35 k_iconst_0 ?_
  refine v_istore_n C [(2, .int 0), (0, va_rf (some o)), (1, va_rf x1)] dX6_become_36 (Nat.le_of_ble_eq_true rfl) (by generalize x1 = rr; cases rr <;> rfl) ?_
  exact v_sub [1, 2, 0] [(0, va_rf (some o)), (1, va_rf x1), (2, .int 0)] rfl (w_X6_become_37 C ho res  _ _ _ _ _ E)
set_option maxHeartbeats 4000000 in
theorem c_X6_become {n : Nat} {K : Sh} {I : Im} {J : Jm} {R : Rf} {o : Nat} {x1 : Option Nat} (ho : (K o).1 = 7) {res : Im × Rf} (E : f_X6_become K o x1 I R = some res) : Met l yX6_become (Cond.code yX6_become cX6_become 3 none :: tb) rX6_become (PX D cA bs Z [.ref o, va_rf x1] K n I J R) (QX D cA bs Z none K n res.1 J res.2) 0 0 (fun q => bs ≤ q) := by
  refine met_of (lv1 := [(0, va_rf (some o)), (1, va_rf x1)]) pn_X6 (by cases x1 <;> exact Nat.le_of_ble_eq_true rfl) (by cases x1 <;> rfl) ?_
  intro p e s m args below meth c C hn
  exact v_sub [0, 1] [(0, va_rf (some o)), (1, va_rf x1)] rfl (w_X6_become_0 C ho _ _ _ _ E)
set_option maxHeartbeats 4000000 in
theorem w_X6_emptyHand_7 (C : Cx D cA bs Z p s m args meth c cX6_emptyHand RX6 2 none) {o : Nat} {K : Sh} {n : Nat} {J : Jm} {R : Rf} (ho : (K o).1 = 7) (res : Im)  : ∀ (k : Nat), ∀ (x1 : Int32) (I : Im), f_X6_emptyHand_7 K R o k x1 I = some res → VW D cA bs Z p l e rX6_emptyHand s m args below meth c 2 [(0, va_rf (some o)), (1, .int x1)] K n I J R 0 0 (MQ below (QX D cA bs Z none K n res J R) args s 0 0 (fun q => bs ≤ q)) 7 [] := by
  intro k
  induction k with
  | zero =>
    intro x1 I E
    have E : (none : Option (Im)) = some res := E
    cases E
  | succ k ih =>
    intro x1 I E
    unfold f_X6_emptyHand_7 at E
    refine v_iload_n C 1 dX6_emptyHand_7 rfl ?_
    refine v_iconst C dX6_emptyHand_8 k_iconst_5 ?_
    refine v_icmp_ge C 25 E dX6_emptyHand_9 rfl (fun c2 E => ?_) (fun c2 E => ?_)
    · obtain rfl := Option.some.inj E
      exact v_vret C rfl dX6_emptyHand_25
    · refine v_aload_n (r := (some o)) C 0 dX6_emptyHand_12 rfl ?_
      refine v_getR (r := (some o)) C fa_X6_29 rfl rfl ho dX6_emptyHand_13 ?_
      refine v_iload_n C 1 dX6_emptyHand_16 rfl ?_
      refine v_iconst C dX6_emptyHand_17 k_iconst_0 ?_
      refine v_iast (r := (R o 5)) C E dX6_emptyHand_18 (fun I1 _ E => ?_)
      refine v_iinc (v := x1 + 1) C 1 [(1, .int (x1 + 1)), (0, va_rf (some o))] dX6_emptyHand_19 rfl (k_inc_1 _) (Nat.le_of_ble_eq_true rfl) rfl ?_
      refine v_goto C 7 dX6_emptyHand_22 rfl ?_
      exact v_sub [1, 0] [(0, va_rf (some o)), (1, .int (x1 + 1))] rfl (ih _ _ E)
set_option maxHeartbeats 4000000 in
theorem w_X6_emptyHand_0 (C : Cx D cA bs Z p s m args meth c cX6_emptyHand RX6 2 none) {o : Nat} {K : Sh} {n : Nat} {J : Jm} {R : Rf} (ho : (K o).1 = 7) (res : Im) (I : Im) (E : f_X6_emptyHand K R o I = some res) : VW D cA bs Z p l e rX6_emptyHand s m args below meth c 2 [(0, va_rf (some o))] K n I J R 0 0 (MQ below (QX D cA bs Z none K n res J R) args s 0 0 (fun q => bs ≤ q)) 0 [] := by
  unfold f_X6_emptyHand at E
  refine v_aload_n (r := (some o)) C 0 dX6_emptyHand_0 rfl ?_
  refine v_iconst C dX6_emptyHand_1 k_iconst_0 ?_
  refine v_putI (r := (some o)) C fa_X6_40 rfl E rfl ho ⟨rfl, rfl⟩ dX6_emptyHand_2 (fun I3 _ E => ?_)
  refine v_iconst C dX6_emptyHand_5 k_iconst_0 ?_
  refine v_istore_n C [(1, .int 0), (0, va_rf (some o))] dX6_emptyHand_6 (Nat.le_of_ble_eq_true rfl) rfl ?_
  exact v_sub [1, 0] [(0, va_rf (some o)), (1, .int 0)] rfl (w_X6_emptyHand_7 C ho res  _ _ _ E)
set_option maxHeartbeats 4000000 in
theorem c_X6_emptyHand {n : Nat} {K : Sh} {I : Im} {J : Jm} {R : Rf} {o : Nat}  (ho : (K o).1 = 7) {res : Im} (E : f_X6_emptyHand K R o I = some res) : Met l yX6_emptyHand (Cond.code yX6_emptyHand cX6_emptyHand 2 none :: tb) rX6_emptyHand (PX D cA bs Z [.ref o] K n I J R) (QX D cA bs Z none K n res J R) 0 0 (fun q => bs ≤ q) := by
  refine met_of (lv1 := [(0, va_rf (some o))]) pn_X6 (by exact Nat.le_of_ble_eq_true rfl) (by rfl) ?_
  intro p e s m args below meth c C hn
  exact v_sub [0] [(0, va_rf (some o))] rfl (w_X6_emptyHand_0 C ho _ _ E)
set_option maxHeartbeats 4000000 in
theorem w_X7_init_0 (C : Cx D cA bs Z p s m args meth c cX7_init RX7 1 none) (hin : meth.name = "<init>") {o : Nat}  (res : Sh × Nat × Im × Jm × Rf) (K : Sh) (n : Nat) (I : Im) (J : Jm) (R : Rf) (E : f_X7_init o K n I J R = some res) : VW D cA bs Z p l e rX7_init s m args below meth c 1 [(0, va_rf (some o))] K n I J R 0 0 (MQ below (QX D cA bs Z none res.1 res.2.1 res.2.2.1 res.2.2.2.1 res.2.2.2.2) args s 1 60 (fun q => bs ≤ q)) 0 [] := by
  unfold f_X7_init at E
  refine v_aload_n (r := (some o)) C 0 dX7_init_0 rfl ?_
  refine v_objInit (a := o) C oi_X7 oi_i oi_c (Nat.le_of_ble_eq_true rfl) (Nat.le_of_ble_eq_true rfl) dX7_init_1 ?_
  refine v_aload_n (r := (some o)) C 0 dX7_init_4 rfl ?_
  refine v_iconst C dX7_init_5 k_iconst_m1 ?_
  obtain ⟨a1, h2, E⟩ := bnd E
  obtain ⟨hra1, hoa1⟩ := ob_is h2
  refine v_putI (r := (some o)) C fa_X7_11 rfl E hra1 hoa1 ⟨rfl, rfl⟩ dX7_init_6 (fun I3 _ E => ?_)
  refine v_aload_n (r := (some o)) C 0 dX7_init_9 rfl ?_
  refine v_bipush C dX7_init_10 k_bipush_60 ?_
  refine v_newJ (N := 60) (ce1 := 1) (sl1 := 60) C ac_long E (by decide) (by decide) rfl rfl (Nat.le_of_ble_eq_true rfl) (Nat.le_of_ble_eq_true rfl) dX7_init_12 (fun K4 _ E => ?_)
  refine v_mpJ E (fun J5 _ E => ?_)
  obtain ⟨a6, h7, E⟩ := bnd E
  obtain ⟨hra6, hoa6⟩ := ob_is h7
  refine v_putRF (r := (some o)) (q := (some n)) C fa_X7_15 fo_X7_15 hin rfl E hra6 hoa6 dX7_init_14 (fun R8 _ E => ?_)
  obtain rfl := Option.some.inj E
  exact v_vret C rfl dX7_init_17
set_option maxHeartbeats 4000000 in
theorem c_X7_init {n : Nat} {K : Sh} {I : Im} {J : Jm} {R : Rf} {o : Nat}  {res : Sh × Nat × Im × Jm × Rf} (E : f_X7_init o K n I J R = some res) : Met l yX7_init (Cond.code yX7_init cX7_init 1 none :: tb) rX7_init (PX D cA bs Z [.ref o] K n I J R) (QX D cA bs Z none res.1 res.2.1 res.2.2.1 res.2.2.2.1 res.2.2.2.2) 1 60 (fun q => bs ≤ q) := by
  refine met_of (lv1 := [(0, va_rf (some o))]) pn_X7 (by exact Nat.le_of_ble_eq_true rfl) (by rfl) ?_
  intro p e s m args below meth c C hn
  exact v_sub [0] [(0, va_rf (some o))] rfl (w_X7_init_0 C (hn.trans rfl) _ _ _ _ _ _ E)
set_option maxHeartbeats 4000000 in
theorem w_X7_become_12 (C : Cx D cA bs Z p s m args meth c cX7_become RX7 4 none) {o : Nat} {K : Sh} {n : Nat} {R : Rf} (ho : (K o).1 = 8) (res : Im × Jm)  : ∀ (k : Nat), ∀ (x3 : Int32) (I : Im) (J : Jm), f_X7_become_12 K R o k x3 I J = some res → VW D cA bs Z p l e rX7_become s m args below meth c 4 [(0, va_rf (some o)), (3, .int x3)] K n I J R 0 0 (MQ below (QX D cA bs Z none K n res.1 res.2 R) args s 0 0 (fun q => bs ≤ q)) 12 [] := by
  intro k
  induction k with
  | zero =>
    intro x3 I J E
    have E : (none : Option (Im × Jm)) = some res := E
    cases E
  | succ k ih =>
    intro x3 I J E
    unfold f_X7_become_12 at E
    refine v_iload_n C 1 dX7_become_12 rfl ?_
    refine v_bipush C dX7_become_13 k_bipush_60 ?_
    refine v_icmp_ge C 31 E dX7_become_15 rfl (fun c2 E => ?_) (fun c2 E => ?_)
    · obtain rfl := Option.some.inj E
      exact v_vret C rfl dX7_become_31
    · refine v_aload_n (r := (some o)) C 0 dX7_become_18 rfl ?_
      refine v_getR (r := (some o)) C fa_X7_15 rfl rfl ho dX7_become_19 ?_
      refine v_iload_n C 1 dX7_become_22 rfl ?_
      refine v_lconst (v := 0) C dX7_become_23 (by decide) ?_
      refine v_last (r := (R o 2)) C E dX7_become_24 (fun J1 _ E => ?_)
      refine v_iinc (v := x3 + 1) C 1 [(3, .int (x3 + 1)), (0, va_rf (some o))] dX7_become_25 rfl (k_inc_1 _) (Nat.le_of_ble_eq_true rfl) rfl ?_
      refine v_goto C 12 dX7_become_28 rfl ?_
      exact v_sub [1, 0] [(0, va_rf (some o)), (3, .int (x3 + 1))] rfl (ih _ _ _ E)
set_option maxHeartbeats 4000000 in
theorem w_X7_become_0 (C : Cx D cA bs Z p s m args meth c cX7_become RX7 4 none) {o : Nat} {K : Sh} {n : Nat} {R : Rf} (ho : (K o).1 = 8) (res : Im × Jm) (x1 : Int32) (x2 : Int32) (I : Im) (J : Jm) (E : f_X7_become K R o x1 x2 I J = some res) : VW D cA bs Z p l e rX7_become s m args below meth c 4 [(0, va_rf (some o)), (1, .int x1), (2, .int x2)] K n I J R 0 0 (MQ below (QX D cA bs Z none K n res.1 res.2 R) args s 0 0 (fun q => bs ≤ q)) 0 [] := by
  unfold f_X7_become at E
  refine v_aload_n (r := (some o)) C 0 dX7_become_0 rfl ?_
  refine v_iload_n C 1 dX7_become_1 rfl ?_
  refine v_putI (r := (some o)) C fa_X7_11 rfl E rfl ho ⟨rfl, rfl⟩ dX7_become_2 (fun I3 _ E => ?_)
  refine v_aload_n (r := (some o)) C 0 dX7_become_5 rfl ?_
  refine v_iload_n C 2 dX7_become_6 rfl ?_
  refine v_putI (r := (some o)) C fa_X7_19 rfl E rfl ho ⟨rfl, rfl⟩ dX7_become_7 (fun I4 _ E => ?_)
  refine v_iconst C dX7_become_10 k_iconst_0 ?_
  refine v_istore_n C [(3, .int 0), (0, va_rf (some o)), (1, .int x1), (2, .int x2)] dX7_become_11 (Nat.le_of_ble_eq_true rfl) rfl ?_
  exact v_sub [1, 0] [(0, va_rf (some o)), (3, .int 0)] rfl (w_X7_become_12 C ho res  _ _ _ _ E)
set_option maxHeartbeats 4000000 in
theorem c_X7_become {n : Nat} {K : Sh} {I : Im} {J : Jm} {R : Rf} {o : Nat} {x1 : Int32} {x2 : Int32} (ho : (K o).1 = 8) {res : Im × Jm} (E : f_X7_become K R o x1 x2 I J = some res) : Met l yX7_become (Cond.code yX7_become cX7_become 4 none :: tb) rX7_become (PX D cA bs Z [.ref o, .int x1, .int x2] K n I J R) (QX D cA bs Z none K n res.1 res.2 R) 0 0 (fun q => bs ≤ q) := by
  refine met_of (lv1 := [(0, va_rf (some o)), (1, .int x1), (2, .int x2)]) pn_X7 (by exact Nat.le_of_ble_eq_true rfl) (by rfl) ?_
  intro p e s m args below meth c C hn
  exact v_sub [0, 1, 2] [(0, va_rf (some o)), (1, .int x1), (2, .int x2)] rfl (w_X7_become_0 C ho _ _ _ _ _ E)
set_option maxHeartbeats 4000000 in
theorem w_X7_isPlace_0 (C : Cx D cA bs Z p s m args meth c cX7_isPlace RX7 2 (some .boolean)) {o : Nat} {K : Sh} {n : Nat} {I : Im} {J : Jm} {R : Rf} (ho : (K o).1 = 8) (res : Int32) (x1 : Int32) (E : f_X7_isPlace K I o x1 = some res) : VW D cA bs Z p l e rX7_isPlace s m args below meth c 2 [(0, va_rf (some o)), (1, .int x1)] K n I J R 0 0 (MQ below (QX D cA bs Z (some (.int res)) K n I J R) args s 0 0 (fun q => bs ≤ q)) 0 [] := by
  unfold f_X7_isPlace at E
  refine v_iload_n C 1 dX7_isPlace_0 rfl ?_
  refine v_if_lt C 16 E dX7_isPlace_1 rfl (fun c2 E => ?_) (fun c2 E => ?_)
  · refine v_iconst C dX7_isPlace_16 k_iconst_0 ?_
    obtain rfl := Option.some.inj E
    exact v_zret (v := 0) C rfl nz_0 dX7_isPlace_17
  · refine v_iload_n C 1 dX7_isPlace_4 rfl ?_
    refine v_aload_n (r := (some o)) C 0 dX7_isPlace_5 rfl ?_
    refine v_getI (r := (some o)) C fa_X7_19 rfl rfl ho dX7_isPlace_6 ?_
    refine v_icmp_ge C 16 E dX7_isPlace_9 rfl (fun c1 E => ?_) (fun c1 E => ?_)
    · refine v_iconst C dX7_isPlace_16 k_iconst_0 ?_
      obtain rfl := Option.some.inj E
      exact v_zret (v := 0) C rfl nz_0 dX7_isPlace_17
    · refine v_iconst C dX7_isPlace_12 k_iconst_1 ?_
      refine v_goto C 17 dX7_isPlace_13 rfl ?_
      obtain rfl := Option.some.inj E
      exact v_zret (v := 1) C rfl nz_1 dX7_isPlace_17
set_option maxHeartbeats 4000000 in
theorem c_X7_isPlace {n : Nat} {K : Sh} {I : Im} {J : Jm} {R : Rf} {o : Nat} {x1 : Int32} (ho : (K o).1 = 8) {res : Int32} (E : f_X7_isPlace K I o x1 = some res) : Met l yX7_isPlace (Cond.code yX7_isPlace cX7_isPlace 2 (some .boolean) :: tb) rX7_isPlace (PX D cA bs Z [.ref o, .int x1] K n I J R) (QX D cA bs Z (some (.int res)) K n I J R) 0 0 (fun q => bs ≤ q) := by
  refine met_of (lv1 := [(0, va_rf (some o)), (1, .int x1)]) pn_X7 (by exact Nat.le_of_ble_eq_true rfl) (by rfl) ?_
  intro p e s m args below meth c C hn
  exact v_sub [0, 1] [(0, va_rf (some o)), (1, .int x1)] rfl (w_X7_isPlace_0 C ho _ _ E)
set_option maxHeartbeats 4000000 in
theorem w_X7_isStretch_0 (C : Cx D cA bs Z p s m args meth c cX7_isStretch RX7 3 (some .boolean)) {o : Nat} {K : Sh} {n : Nat} {I : Im} {J : Jm} {R : Rf} (ho : (K o).1 = 8) (res : Int32) (x1 : Int32) (x2 : Int32) (E : f_X7_isStretch K I o x1 x2 = some res) : VW D cA bs Z p l e rX7_isStretch s m args below meth c 3 [(0, va_rf (some o)), (1, .int x1), (2, .int x2)] K n I J R 0 0 (MQ below (QX D cA bs Z (some (.int res)) K n I J R) args s 0 0 (fun q => bs ≤ q)) 0 [] := by
  unfold f_X7_isStretch at E
  refine v_iload_n C 1 dX7_isStretch_0 rfl ?_
  refine v_if_lt C 30 E dX7_isStretch_1 rfl (fun c4 E => ?_) (fun c4 E => ?_)
  · refine v_iconst C dX7_isStretch_30 k_iconst_0 ?_
    obtain rfl := Option.some.inj E
    exact v_zret (v := 0) C rfl nz_0 dX7_isStretch_31
  · refine v_iload_n C 2 dX7_isStretch_4 rfl ?_
    refine v_if_lt C 30 E dX7_isStretch_5 rfl (fun c3 E => ?_) (fun c3 E => ?_)
    · refine v_iconst C dX7_isStretch_30 k_iconst_0 ?_
      obtain rfl := Option.some.inj E
      exact v_zret (v := 0) C rfl nz_0 dX7_isStretch_31
    · refine v_iload_n C 1 dX7_isStretch_8 rfl ?_
      refine v_aload_n (r := (some o)) C 0 dX7_isStretch_9 rfl ?_
      refine v_getI (r := (some o)) C fa_X7_19 rfl rfl ho dX7_isStretch_10 ?_
      refine v_icmp_gt C 30 E dX7_isStretch_13 rfl (fun c2 E => ?_) (fun c2 E => ?_)
      · refine v_iconst C dX7_isStretch_30 k_iconst_0 ?_
        obtain rfl := Option.some.inj E
        exact v_zret (v := 0) C rfl nz_0 dX7_isStretch_31
      · refine v_iload_n C 2 dX7_isStretch_16 rfl ?_
        refine v_aload_n (r := (some o)) C 0 dX7_isStretch_17 rfl ?_
        refine v_getI (r := (some o)) C fa_X7_19 rfl rfl ho dX7_isStretch_18 ?_
        refine v_iload_n C 1 dX7_isStretch_21 rfl ?_
        refine v_isub C dX7_isStretch_22 ?_
        refine v_icmp_gt C 30 E dX7_isStretch_23 rfl (fun c1 E => ?_) (fun c1 E => ?_)
        · refine v_iconst C dX7_isStretch_30 k_iconst_0 ?_
          obtain rfl := Option.some.inj E
          exact v_zret (v := 0) C rfl nz_0 dX7_isStretch_31
        · refine v_iconst C dX7_isStretch_26 k_iconst_1 ?_
          refine v_goto C 31 dX7_isStretch_27 rfl ?_
          obtain rfl := Option.some.inj E
          exact v_zret (v := 1) C rfl nz_1 dX7_isStretch_31
set_option maxHeartbeats 4000000 in
theorem c_X7_isStretch {n : Nat} {K : Sh} {I : Im} {J : Jm} {R : Rf} {o : Nat} {x1 : Int32} {x2 : Int32} (ho : (K o).1 = 8) {res : Int32} (E : f_X7_isStretch K I o x1 x2 = some res) : Met l yX7_isStretch (Cond.code yX7_isStretch cX7_isStretch 3 (some .boolean) :: tb) rX7_isStretch (PX D cA bs Z [.ref o, .int x1, .int x2] K n I J R) (QX D cA bs Z (some (.int res)) K n I J R) 0 0 (fun q => bs ≤ q) := by
  refine met_of (lv1 := [(0, va_rf (some o)), (1, .int x1), (2, .int x2)]) pn_X7 (by exact Nat.le_of_ble_eq_true rfl) (by rfl) ?_
  intro p e s m args below meth c C hn
  exact v_sub [0, 1, 2] [(0, va_rf (some o)), (1, .int x1), (2, .int x2)] rfl (w_X7_isStretch_0 C ho _ _ _ E)
set_option maxHeartbeats 4000000 in
theorem w_X7_narrowed_0 (C : Cx D cA bs Z p s m args meth c cX7_narrowed RX7 3 (some .long)) {o : Nat} {K : Sh} {n : Nat} {I : Im} {J : Jm} {R : Rf} (ho : (K o).1 = 8) (res : Int64) (x1 : Int64) (E : f_X7_narrowed K I o x1 = some res) : VW D cA bs Z p l e rX7_narrowed s m args below meth c 3 [(0, va_rf (some o)), (1, .long x1)] K n I J R 0 0 (MQ below (QX D cA bs Z (some (.long res)) K n I J R) args s 0 0 (fun q => bs ≤ q)) 0 [] := by
  unfold f_X7_narrowed at E
  refine v_aload_n (r := (some o)) C 0 dX7_narrowed_0 rfl ?_
  refine v_getI (r := (some o)) C fa_X7_11 rfl rfl ho dX7_narrowed_1 ?_
  by_cases c1 : (I o 0) = 0
  · have E := ite_t E c1
    refine v_tableIn (off := 32) C 36 dX7_narrowed_4 (by rw [c1]; decide) (by rw [c1]; decide) (by rw [c1]; rfl) rfl ?_
    refine v_lload_n C 1 dX7_narrowed_36 rfl ?_
    refine v_l2i C dX7_narrowed_37 ?_
    refine v_i2b C dX7_narrowed_38 ?_
    refine v_i2l C dX7_narrowed_39 ?_
    obtain rfl := Option.some.inj E
    exact v_lret C rfl dX7_narrowed_40
  have E := ite_f E c1
  by_cases c2 : (I o 0) = 1
  · have E := ite_t E c2
    refine v_tableIn (off := 37) C 41 dX7_narrowed_4 (by rw [c2]; decide) (by rw [c2]; decide) (by rw [c2]; rfl) rfl ?_
    refine v_lload_n C 1 dX7_narrowed_41 rfl ?_
    refine v_l2i C dX7_narrowed_42 ?_
    refine v_i2s C dX7_narrowed_43 ?_
    refine v_i2l C dX7_narrowed_44 ?_
    obtain rfl := Option.some.inj E
    exact v_lret C rfl dX7_narrowed_45
  have E := ite_f E c2
  by_cases c3 : (I o 0) = 2
  · have E := ite_t E c3
    refine v_tableIn (off := 42) C 46 dX7_narrowed_4 (by rw [c3]; decide) (by rw [c3]; decide) (by rw [c3]; rfl) rfl ?_
    refine v_lload_n C 1 dX7_narrowed_46 rfl ?_
    refine v_l2i C dX7_narrowed_47 ?_
    refine v_i2l C dX7_narrowed_48 ?_
    obtain rfl := Option.some.inj E
    exact v_lret C rfl dX7_narrowed_49
  have E := ite_f E c3
  by_cases c4 : (I o 0) = 3
  · have E := ite_t E c4
    refine v_tableIn (off := 46) C 50 dX7_narrowed_4 (by rw [c4]; decide) (by rw [c4]; decide) (by rw [c4]; rfl) rfl ?_
    refine v_lload_n C 1 dX7_narrowed_50 rfl ?_
    obtain rfl := Option.some.inj E
    exact v_lret C rfl dX7_narrowed_51
  have E := ite_f E c4
  refine v_tableOut C 52 dX7_narrowed_4 (by have hc1 := lv_neT c1 (show ((0 : Int32)).toInt = 0 from by decide); have hc2 := lv_neT c2 (show ((1 : Int32)).toInt = 1 from by decide); have hc3 := lv_neT c3 (show ((2 : Int32)).toInt = 2 from by decide); have hc4 := lv_neT c4 (show ((3 : Int32)).toInt = 3 from by decide); omega) rfl ?_
  refine v_lload_n C 1 dX7_narrowed_52 rfl ?_
  refine v_lconst (v := 0) C dX7_narrowed_53 (by decide) ?_
  refine v_lcmp C dX7_narrowed_54 ?_
  refine v_if_ne C 62 E dX7_narrowed_55 rfl (fun c5 E => ?_) (fun c5 E => ?_)
  · refine v_lconst (v := 0) C dX7_narrowed_58 (by decide) ?_
    refine v_goto C 63 dX7_narrowed_59 rfl ?_
    obtain rfl := Option.some.inj E
    exact v_lret C rfl dX7_narrowed_63
  · refine v_lconst (v := 1) C dX7_narrowed_62 (by decide) ?_
    obtain rfl := Option.some.inj E
    exact v_lret C rfl dX7_narrowed_63
set_option maxHeartbeats 4000000 in
theorem c_X7_narrowed {n : Nat} {K : Sh} {I : Im} {J : Jm} {R : Rf} {o : Nat} {x1 : Int64} (ho : (K o).1 = 8) {res : Int64} (E : f_X7_narrowed K I o x1 = some res) : Met l yX7_narrowed (Cond.code yX7_narrowed cX7_narrowed 3 (some .long) :: tb) rX7_narrowed (PX D cA bs Z [.ref o, .long x1] K n I J R) (QX D cA bs Z (some (.long res)) K n I J R) 0 0 (fun q => bs ≤ q) := by
  refine met_of (lv1 := [(0, va_rf (some o)), (1, .long x1)]) pn_X7 (by exact Nat.le_of_ble_eq_true rfl) (by rfl) ?_
  intro p e s m args below meth c C hn
  exact v_sub [0, 1] [(0, va_rf (some o)), (1, .long x1)] rfl (w_X7_narrowed_0 C ho _ _ E)
set_option maxHeartbeats 4000000 in
theorem w_X8_init_0 (C : Cx D cA bs Z p s m args meth c cX8_init RX8 1 none) (hin : meth.name = "<init>") {o : Nat} {J : Jm} (res : Sh × Nat × Im × Rf) (K : Sh) (n : Nat) (I : Im) (R : Rf) (E : f_X8_init o K n I R = some res) : VW D cA bs Z p l e rX8_init s m args below meth c 1 [(0, va_rf (some o))] K n I J R 0 0 (MQ below (QX D cA bs Z none res.1 res.2.1 res.2.2.1 J res.2.2.2) args s 2 10 (fun q => bs ≤ q)) 0 [] := by
  unfold f_X8_init at E
  refine v_aload_n (r := (some o)) C 0 dX8_init_0 rfl ?_
  refine v_objInit (a := o) C oi_X8 oi_i oi_c (Nat.le_of_ble_eq_true rfl) (Nat.le_of_ble_eq_true rfl) dX8_init_1 ?_
  refine v_aload_n (r := (some o)) C 0 dX8_init_4 rfl ?_
  refine v_iconst C dX8_init_5 k_iconst_5 ?_
  refine v_newI (N := 5) (ce1 := 1) (sl1 := 5) C ac_int E (by decide) (by decide) rfl rfl (Nat.le_of_ble_eq_true rfl) (Nat.le_of_ble_eq_true rfl) dX8_init_6 (fun K1 _ E => ?_)
  refine v_mpI E (fun I2 _ E => ?_)
  obtain ⟨a3, h4, E⟩ := bnd E
  obtain ⟨hra3, hoa3⟩ := ob_is h4
  refine v_putRF (r := (some o)) (q := (some n)) C fa_X8_9 fo_X8_9 hin rfl E hra3 hoa3 dX8_init_8 (fun R5 _ E => ?_)
  refine v_aload_n (r := (some o)) C 0 dX8_init_11 rfl ?_
  refine v_iconst C dX8_init_12 k_iconst_5 ?_
  refine v_newI (N := 5) (ce1 := 2) (sl1 := 10) C ac_int E (by decide) (by decide) rfl rfl (Nat.le_of_ble_eq_true rfl) (Nat.le_of_ble_eq_true rfl) dX8_init_13 (fun K6 _ E => ?_)
  refine v_mpI E (fun I7 _ E => ?_)
  obtain ⟨a8, h9, E⟩ := bnd E
  obtain ⟨hra8, hoa8⟩ := ob_is h9
  refine v_putRF (r := (some o)) (q := (some (n + 1))) C fa_X8_15 fo_X8_15 hin rfl E hra8 hoa8 dX8_init_15 (fun R10 _ E => ?_)
  obtain rfl := Option.some.inj E
  exact v_vret C rfl dX8_init_18
set_option maxHeartbeats 4000000 in
theorem c_X8_init {n : Nat} {K : Sh} {I : Im} {J : Jm} {R : Rf} {o : Nat}  {res : Sh × Nat × Im × Rf} (E : f_X8_init o K n I R = some res) : Met l yX8_init (Cond.code yX8_init cX8_init 1 none :: tb) rX8_init (PX D cA bs Z [.ref o] K n I J R) (QX D cA bs Z none res.1 res.2.1 res.2.2.1 J res.2.2.2) 2 10 (fun q => bs ≤ q) := by
  refine met_of (lv1 := [(0, va_rf (some o))]) pn_X8 (by exact Nat.le_of_ble_eq_true rfl) (by rfl) ?_
  intro p e s m args below meth c C hn
  exact v_sub [0] [(0, va_rf (some o))] rfl (w_X8_init_0 C (hn.trans rfl) _ _ _ _ _ E)
set_option maxHeartbeats 4000000 in
theorem w_X8_begin_14 (C : Cx D cA bs Z p s m args meth c cX8_begin RX8 4 none) {o : Nat} {K : Sh} {n : Nat} {J : Jm} {R : Rf} (ho : (K o).1 = 9) (res : Im)  : ∀ (k : Nat), ∀ (x1 : Option Nat) (x2 : Option Nat) (x3 : Int32) (I : Im), f_X8_begin_14 K R o k x1 x2 x3 I = some res → VW D cA bs Z p l e rX8_begin s m args below meth c 4 [(0, va_rf (some o)), (1, va_rf x1), (2, va_rf x2), (3, .int x3)] K n I J R 0 0 (MQ below (QX D cA bs Z none K n res J R) args s 0 0 (fun q => bs ≤ q)) 14 [] := by
  intro k
  induction k with
  | zero =>
    intro x1 x2 x3 I E
    have E : (none : Option (Im)) = some res := E
    cases E
  | succ k ih =>
    intro x1 x2 x3 I E
    unfold f_X8_begin_14 at E
    refine v_iload_n C 3 dX8_begin_14 rfl ?_
    refine v_iconst C dX8_begin_15 k_iconst_5 ?_
    refine v_icmp_ge C 41 E dX8_begin_16 rfl (fun c11 E => ?_) (fun c11 E => ?_)
    · refine v_aload_n (r := (some o)) C 0 dX8_begin_41 rfl ?_
      refine v_aload_n (r := x2) C 2 dX8_begin_42 rfl ?_
      obtain ⟨a1, h2, E⟩ := bnd E
      obtain ⟨hra1, hoa1⟩ := ob_is h2
      refine v_getI (r := x2) C fa_X8_54 rfl hra1 hoa1 dX8_begin_43 ?_
      refine v_putI (r := (some o)) C fa_X8_48 rfl E rfl ho ⟨rfl, rfl⟩ dX8_begin_46 (fun I3 _ E => ?_)
      refine v_aload_n (r := (some o)) C 0 dX8_begin_49 rfl ?_
      refine v_aload_n (r := x1) C 1 dX8_begin_50 rfl ?_
      obtain ⟨a4, h5, E⟩ := bnd E
      obtain ⟨hra4, hoa4⟩ := ob_is h5
      refine v_getI (r := x1) C fa_X8_57 rfl hra4 hoa4 dX8_begin_51 ?_
      refine v_aload_n (r := x2) C 2 dX8_begin_54 rfl ?_
      refine v_getI (r := x2) C fa_X8_31 rfl hra1 hoa1 dX8_begin_55 ?_
      refine v_imul C dX8_begin_58 ?_
      refine v_putI (r := (some o)) C fa_X8_60 rfl E rfl ho ⟨rfl, rfl⟩ dX8_begin_59 (fun I6 _ E => ?_)
      refine v_aload_n (r := (some o)) C 0 dX8_begin_62 rfl ?_
      refine v_aload_n (r := x1) C 1 dX8_begin_63 rfl ?_
      refine v_getI (r := x1) C fa_X8_63 rfl hra4 hoa4 dX8_begin_64 ?_
      refine v_aload_n (r := x2) C 2 dX8_begin_67 rfl ?_
      refine v_getI (r := x2) C fa_X8_31 rfl hra1 hoa1 dX8_begin_68 ?_
      refine v_imul C dX8_begin_71 ?_
      refine v_putI (r := (some o)) C fa_X8_66 rfl E rfl ho ⟨rfl, rfl⟩ dX8_begin_72 (fun I7 _ E => ?_)
      refine v_aload_n (r := (some o)) C 0 dX8_begin_75 rfl ?_
      refine v_aload_n (r := (some o)) C 0 dX8_begin_76 rfl ?_
      refine v_getI (r := (some o)) C fa_X8_60 rfl rfl ho dX8_begin_77 ?_
      refine v_putI (r := (some o)) C fa_X8_69 rfl E rfl ho ⟨rfl, rfl⟩ dX8_begin_80 (fun I8 _ E => ?_)
      obtain rfl := Option.some.inj E
      exact v_vret C rfl dX8_begin_83
    · refine v_aload_n (r := (some o)) C 0 dX8_begin_19 rfl ?_
      refine v_getR (r := (some o)) C fa_X8_9 rfl rfl ho dX8_begin_20 ?_
      refine v_iload_n C 3 dX8_begin_23 rfl ?_
      refine v_bipush C dX8_begin_24 k_bipush_m5 ?_
      refine v_iast (r := (R o 2)) C E dX8_begin_26 (fun I9 _ E => ?_)
      refine v_aload_n (r := (some o)) C 0 dX8_begin_27 rfl ?_
      refine v_getR (r := (some o)) C fa_X8_15 rfl rfl ho dX8_begin_28 ?_
      refine v_iload_n C 3 dX8_begin_31 rfl ?_
      refine v_bipush C dX8_begin_32 k_bipush_m5 ?_
      refine v_iast (r := (R o 3)) C E dX8_begin_34 (fun I10 _ E => ?_)
      refine v_iinc (v := x3 + 1) C 3 [(3, .int (x3 + 1)), (0, va_rf (some o)), (1, va_rf x1), (2, va_rf x2)] dX8_begin_35 rfl (k_inc_1 _) (Nat.le_of_ble_eq_true rfl) (by generalize x2 = rr; cases rr <;> rfl) ?_
      refine v_goto C 14 dX8_begin_38 rfl ?_
      exact v_sub [1, 2, 3, 0] [(0, va_rf (some o)), (1, va_rf x1), (2, va_rf x2), (3, .int (x3 + 1))] rfl (ih _ _ _ _ E)
set_option maxHeartbeats 4000000 in
theorem w_X8_begin_0 (C : Cx D cA bs Z p s m args meth c cX8_begin RX8 4 none) {o : Nat} {K : Sh} {n : Nat} {J : Jm} {R : Rf} (ho : (K o).1 = 9) (res : Im) (x1 : Option Nat) (x2 : Option Nat) (I : Im) (E : f_X8_begin K R o x1 x2 I = some res) : VW D cA bs Z p l e rX8_begin s m args below meth c 4 [(0, va_rf (some o)), (1, va_rf x1), (2, va_rf x2)] K n I J R 0 0 (MQ below (QX D cA bs Z none K n res J R) args s 0 0 (fun q => bs ≤ q)) 0 [] := by
  unfold f_X8_begin at E
  refine v_aload_n (r := (some o)) C 0 dX8_begin_0 rfl ?_
  refine v_bipush C dX8_begin_1 k_bipush_m5 ?_
  refine v_putI (r := (some o)) C fa_X8_51 rfl E rfl ho ⟨rfl, rfl⟩ dX8_begin_3 (fun I12 _ E => ?_)
  refine v_aload_n (r := (some o)) C 0 dX8_begin_6 rfl ?_
  refine v_bipush C dX8_begin_7 k_bipush_m5 ?_
  refine v_putI (r := (some o)) C fa_X8_28 rfl E rfl ho ⟨rfl, rfl⟩ dX8_begin_9 (fun I13 _ E => ?_)
  refine v_iconst C dX8_begin_12 k_iconst_0 ?_
  refine v_istore_n C [(3, .int 0), (0, va_rf (some o)), (1, va_rf x1), (2, va_rf x2)] dX8_begin_13 (Nat.le_of_ble_eq_true rfl) (by generalize x2 = rr; cases rr <;> rfl) ?_
  exact v_sub [1, 2, 3, 0] [(0, va_rf (some o)), (1, va_rf x1), (2, va_rf x2), (3, .int 0)] rfl (w_X8_begin_14 C ho res  _ _ _ _ _ E)
set_option maxHeartbeats 4000000 in
theorem c_X8_begin {n : Nat} {K : Sh} {I : Im} {J : Jm} {R : Rf} {o : Nat} {x1 : Option Nat} {x2 : Option Nat} (ho : (K o).1 = 9) {res : Im} (E : f_X8_begin K R o x1 x2 I = some res) : Met l yX8_begin (Cond.code yX8_begin cX8_begin 4 none :: tb) rX8_begin (PX D cA bs Z [.ref o, va_rf x1, va_rf x2] K n I J R) (QX D cA bs Z none K n res J R) 0 0 (fun q => bs ≤ q) := by
  refine met_of (lv1 := [(0, va_rf (some o)), (1, va_rf x1), (2, va_rf x2)]) pn_X8 (by cases x1 <;> cases x2 <;> exact Nat.le_of_ble_eq_true rfl) (by cases x1 <;> cases x2 <;> rfl) ?_
  intro p e s m args below meth c C hn
  exact v_sub [0, 1, 2] [(0, va_rf (some o)), (1, va_rf x1), (2, va_rf x2)] rfl (w_X8_begin_0 C ho _ _ _ _ E)
end WK2
