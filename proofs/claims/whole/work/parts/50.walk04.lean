section WK4
variable {D : va_G} {cA : Nat → ClassId} {bs : Nat} {Z : Nat → Nat} {p : Program} {l : Launch} {e : Env} {s : State} {m : MethodId} {args : Array Value} {below : List Frame} {meth : Method} {c : Code}
set_option maxHeartbeats 4000000 in
theorem w_X11_sendSeveral_23 (C : Cx D cA bs Z p s m args meth c cX11_sendSeveral RX11 5 none) {o : Nat} {K : Sh} {n : Nat} {J : Jm} (ho : (K o).1 = 12) (res : Im × Rf)  : ∀ (k : Nat), ∀ (x1 : Int32) (x2 : Int32) (I : Im) (R : Rf), f_X11_sendSeveral_23 Z K o k x1 x2 I R = some res → VW D cA bs p l e rX11_sendSeveral s m args below meth c 5 [(0, va_rf (some o)), (1, .int x1), (2, .int x2)] K n I J R 0 0 (MQ below (QX D cA bs none K n res.1 J res.2) args s 0 0 (fun q => bs ≤ q)) 23 [] := by
  intro k
  induction k with
  | zero =>
    intro x1 x2 I R E
    have E : (none : Option (Im × Rf)) = some res := E
    cases E
  | succ k ih =>
    intro x1 x2 I R E
    unfold f_X11_sendSeveral_23 at E
    refine v_iload_n C 2 dX11_sendSeveral_23 rfl ?_
    refine v_aload_n (r := (some o)) C 0 dX11_sendSeveral_24 rfl ?_
    refine v_getR (r := (some o)) C fa_X11_37 rfl rfl ho dX11_sendSeveral_25 ?_
    obtain ⟨a1, h2, E⟩ := bnd E
    obtain ⟨hra1, hoa1⟩ := ob_is h2
    refine v_getI (r := (R o 7)) C fa_X11_227 rfl hra1 hoa1 dX11_sendSeveral_28 ?_
    refine v_icmp_ge C 111 E dX11_sendSeveral_31 rfl (fun c20 E => ?_) (fun c20 E => ?_)
    · obtain rfl := Option.some.inj E
      exact v_vret C rfl dX11_sendSeveral_111
    · refine v_gets C 1 (by decide) gs_X11_243 dX11_sendSeveral_34 ?_
      refine v_iload_n C 1 dX11_sendSeveral_37 rfl ?_
      refine v_iconst C dX11_sendSeveral_38 k_iconst_3 ?_
      refine v_imul C dX11_sendSeveral_39 ?_
      refine v_iload_n C 2 dX11_sendSeveral_40 rfl ?_
      refine v_iadd C dX11_sendSeveral_41 ?_
      refine v_iald (r := (some (Z 1))) C E dX11_sendSeveral_42 (fun v3 _ E => ?_)
      refine v_istore_n C [(3, .int v3), (0, va_rf (some o)), (1, .int x1), (2, .int x2)] dX11_sendSeveral_43 (Nat.le_of_ble_eq_true rfl) rfl ?_
      refine v_aload_n (r := (some o)) C 1 dX11_sendSeveral_44 rfl ?_
      refine v_aload_n (r := (some o)) C 1 dX11_sendSeveral_45 rfl ?_
      refine v_getR (r := (some o)) C fa_X11_37 rfl rfl ho dX11_sendSeveral_46 ?_
      refine v_getR (r := (R o 7)) C fa_X11_230 rfl hra1 hoa1 dX11_sendSeveral_49 ?_
      refine v_iload_n C 0 dX11_sendSeveral_52 rfl ?_
      refine v_iald (r := (R a1 3)) C E dX11_sendSeveral_53 (fun v4 _ E => ?_)
      obtain ⟨q5, h6, E⟩ := bnd E
      refine v_callV (r := (some o)) (As := [.int v4]) (rv := (some (va_rf q5))) (st := []) (st1 := [va_rf q5]) (ce1 := 0) (sl1 := 0) C cv_X11_187 (c_X11_caravanAt (x1 := v4) ho h6) rfl ho rfl rfl ⟨rfl, rfl, Nat.le_of_ble_eq_true rfl, Nat.le_of_ble_eq_true rfl⟩ ⟨Nat.le_of_ble_eq_true rfl, Nat.le_of_ble_eq_true rfl⟩ (Nat.le_of_ble_eq_true rfl) rfl rfl rfl dX11_sendSeveral_54 ?_
      refine v_astore (r := q5) C [(4, va_rf q5), (3, .int v3), (0, va_rf (some o)), (1, .int x1), (2, .int x2)] dX11_sendSeveral_57 (Nat.le_of_ble_eq_true rfl) rfl ?_
      refine v_aload (r := q5) C 0 dX11_sendSeveral_59 rfl ?_
      refine v_ifnull (r := q5) C 105 E dX11_sendSeveral_61 rfl (fun c19 E => ?_) (fun c19 E => ?_)
      · refine v_iinc (v := x2 + 1) C 4 [(2, .int (x2 + 1)), (4, va_rf q5), (3, .int v3), (0, va_rf (some o)), (1, .int x1)] dX11_sendSeveral_105 rfl (k_inc_1 _) (Nat.le_of_ble_eq_true rfl) rfl ?_
        refine v_goto C 23 dX11_sendSeveral_108 rfl ?_
        exact v_sub [3, 4, 0] [(0, va_rf (some o)), (1, .int x1), (2, .int (x2 + 1))] rfl (ih _ _ _ _ E)
      · refine v_aload_n (r := (some o)) C 2 dX11_sendSeveral_64 rfl ?_
        refine v_aload_n (r := (some o)) C 2 dX11_sendSeveral_65 rfl ?_
        refine v_getR (r := (some o)) C fa_X11_37 rfl rfl ho dX11_sendSeveral_66 ?_
        refine v_getR (r := (R o 7)) C fa_X11_120 rfl hra1 hoa1 dX11_sendSeveral_69 ?_
        refine v_aload_n (r := (some o)) C 2 dX11_sendSeveral_72 rfl ?_
        refine v_getR (r := (some o)) C fa_X11_81 rfl rfl ho dX11_sendSeveral_73 ?_
        refine v_aload (r := q5) C 0 dX11_sendSeveral_76 rfl ?_
        obtain ⟨q7, h8, E⟩ := bnd E
        refine v_callV (r := (some o)) (As := [va_rf (R a1 0), va_rf (R o 15), va_rf q5]) (rv := none) (st := []) (st1 := []) (ce1 := 0) (sl1 := 0) C cv_X11_198 (c_X11_send (x1 := (R a1 0)) (x2 := (R o 15)) (x3 := q5) ho h8) rfl ho rfl rfl ⟨rfl, rfl, Nat.le_of_ble_eq_true rfl, Nat.le_of_ble_eq_true rfl⟩ ⟨Nat.le_of_ble_eq_true rfl, Nat.le_of_ble_eq_true rfl⟩ (Nat.le_of_ble_eq_true rfl) rfl rfl rfl dX11_sendSeveral_78 ?_
        refine v_aload_n (r := (some o)) C 2 dX11_sendSeveral_81 rfl ?_
        refine v_getR (r := (some o)) C fa_X11_74 rfl rfl ho dX11_sendSeveral_82 ?_
        refine v_iload_n C 1 dX11_sendSeveral_85 rfl ?_
        refine v_aload_n (r := (some o)) C 2 dX11_sendSeveral_86 rfl ?_
        refine v_getR (r := (some o)) C fa_X11_60 rfl rfl ho dX11_sendSeveral_87 ?_
        obtain ⟨a9, h10, E⟩ := bnd E
        obtain ⟨hra9, hoa9⟩ := ob_is h10
        refine v_getI (r := (q7.2 o 12)) C fa_X11_208 rfl hra9 hoa9 dX11_sendSeveral_90 ?_
        refine v_aload_n (r := (some o)) C 2 dX11_sendSeveral_93 rfl ?_
        refine v_aload (r := q5) C 0 dX11_sendSeveral_94 rfl ?_
        obtain ⟨a11, h12, E⟩ := bnd E
        obtain ⟨hra11, hoa11⟩ := ob_is h12
        refine v_getI (r := q5) C fa_X11_202 rfl hra11 hoa11 dX11_sendSeveral_96 ?_
        obtain ⟨q13, h14, E⟩ := bnd E
        refine v_callV (r := (some o)) (As := [.int (q7.1 a11 0)]) (rv := (some (.int q13))) (st := [.int (q7.1 a9 0), .int v3, va_rf (q7.2 o 14)]) (st1 := [.int q13, .int (q7.1 a9 0), .int v3, va_rf (q7.2 o 14)]) (ce1 := 0) (sl1 := 0) C cv_X11_224 (c_X11_worthOf (x1 := (q7.1 a11 0)) ho h14) rfl ho rfl rfl ⟨rfl, rfl, Nat.le_of_ble_eq_true rfl, Nat.le_of_ble_eq_true rfl⟩ ⟨Nat.le_of_ble_eq_true rfl, Nat.le_of_ble_eq_true rfl⟩ (by simp only [List.map_cons, List.map_nil, List.sum_cons, List.sum_nil, rf_cat]; exact Nat.le_of_ble_eq_true rfl) rfl rfl rfl dX11_sendSeveral_99 ?_
        obtain ⟨a15, h16, E⟩ := bnd E
        obtain ⟨hra15, hoa15⟩ := ob_is h16
        obtain ⟨q17, h18, E⟩ := bnd E
        refine v_callV (r := (q7.2 o 14)) (As := [.int v3, .int (q7.1 a9 0), .int q13]) (rv := none) (st := []) (st1 := []) (ce1 := 0) (sl1 := 0) C cv_X11_359 (c_X2_note (x1 := v3) (x2 := (q7.1 a9 0)) (x3 := q13) hoa15 h18) hra15 hoa15 rfl rfl ⟨rfl, rfl, Nat.le_of_ble_eq_true rfl, Nat.le_of_ble_eq_true rfl⟩ ⟨Nat.le_of_ble_eq_true rfl, Nat.le_of_ble_eq_true rfl⟩ (Nat.le_of_ble_eq_true rfl) rfl rfl rfl dX11_sendSeveral_102 ?_
        refine v_iinc (v := x2 + 1) C 4 [(2, .int (x2 + 1)), (4, va_rf q5), (3, .int v3), (0, va_rf (some o)), (1, .int x1)] dX11_sendSeveral_105 rfl (k_inc_1 _) (Nat.le_of_ble_eq_true rfl) rfl ?_
        refine v_goto C 23 dX11_sendSeveral_108 rfl ?_
        exact v_sub [3, 4, 0] [(0, va_rf (some o)), (1, .int x1), (2, .int (x2 + 1))] rfl (ih _ _ _ _ E)
set_option maxHeartbeats 4000000 in
theorem w_X11_sendSeveral_0 (C : Cx D cA bs Z p s m args meth c cX11_sendSeveral RX11 5 none) {o : Nat} {K : Sh} {n : Nat} {J : Jm} (ho : (K o).1 = 12) (res : Im × Rf) (x1 : Int32) (I : Im) (R : Rf) (E : f_X11_sendSeveral Z K o x1 I R = some res) : VW D cA bs p l e rX11_sendSeveral s m args below meth c 5 [(0, va_rf (some o)), (1, .int x1)] K n I J R 0 0 (MQ below (QX D cA bs none K n res.1 J res.2) args s 0 0 (fun q => bs ≤ q)) 0 [] := by
  unfold f_X11_sendSeveral at E
  refine v_aload_n (r := (some o)) C 0 dX11_sendSeveral_0 rfl ?_
  refine v_getR (r := (some o)) C fa_X11_81 rfl rfl ho dX11_sendSeveral_1 ?_
  refine v_aload_n (r := (some o)) C 0 dX11_sendSeveral_4 rfl ?_
  refine v_getR (r := (some o)) C fa_X11_37 rfl rfl ho dX11_sendSeveral_5 ?_
  obtain ⟨a21, h22, E⟩ := bnd E
  obtain ⟨hra21, hoa21⟩ := ob_is h22
  refine v_getR (r := (R o 7)) C fa_X11_123 rfl hra21 hoa21 dX11_sendSeveral_8 ?_
  obtain ⟨a23, h24, E⟩ := bnd E
  obtain ⟨hra23, hoa23⟩ := ob_is h24
  obtain ⟨q25, h26, E⟩ := bnd E
  refine v_callV (r := (R o 15)) (As := [va_rf (R a21 1)]) (rv := none) (st := []) (st1 := []) (ce1 := 0) (sl1 := 0) C cv_X11_195 (c_X10_become (x1 := (R a21 1)) hoa23 h26) hra23 hoa23 rfl rfl ⟨rfl, rfl, Nat.le_of_ble_eq_true rfl, Nat.le_of_ble_eq_true rfl⟩ ⟨Nat.le_of_ble_eq_true rfl, Nat.le_of_ble_eq_true rfl⟩ (Nat.le_of_ble_eq_true rfl) rfl rfl rfl dX11_sendSeveral_11 ?_
  refine v_aload_n (r := (some o)) C 0 dX11_sendSeveral_14 rfl ?_
  refine v_getR (r := (some o)) C fa_X11_74 rfl rfl ho dX11_sendSeveral_15 ?_
  obtain ⟨a27, h28, E⟩ := bnd E
  obtain ⟨hra27, hoa27⟩ := ob_is h28
  obtain ⟨q29, h30, E⟩ := bnd E
  refine v_callV (r := (R o 14)) (As := []) (rv := none) (st := []) (st1 := []) (ce1 := 0) (sl1 := 0) C cv_X11_356 (c_X2_begin  hoa27 h30) hra27 hoa27 rfl rfl ⟨rfl, rfl, Nat.le_of_ble_eq_true rfl, Nat.le_of_ble_eq_true rfl⟩ ⟨Nat.le_of_ble_eq_true rfl, Nat.le_of_ble_eq_true rfl⟩ (Nat.le_of_ble_eq_true rfl) rfl rfl rfl dX11_sendSeveral_18 ?_
  refine v_iconst C dX11_sendSeveral_21 k_iconst_0 ?_
  refine v_istore_n C [(2, .int 0), (0, va_rf (some o)), (1, .int x1)] dX11_sendSeveral_22 (Nat.le_of_ble_eq_true rfl) rfl ?_
  exact v_sub [1, 2, 0] [(0, va_rf (some o)), (1, .int x1), (2, .int 0)] rfl (w_X11_sendSeveral_23 C ho res  _ _ _ _ _ E)
set_option maxHeartbeats 4000000 in
theorem c_X11_sendSeveral {n : Nat} {K : Sh} {I : Im} {J : Jm} {R : Rf} {o : Nat} {x1 : Int32} (ho : (K o).1 = 12) {res : Im × Rf} (E : f_X11_sendSeveral Z K o x1 I R = some res) : Met l yX11_sendSeveral (Cond.code yX11_sendSeveral cX11_sendSeveral 5 none :: tb) rX11_sendSeveral (PX D cA bs Z [.ref o, .int x1] K n I J R) (QX D cA bs none K n res.1 J res.2) 0 0 (fun q => bs ≤ q) := by
  refine met_of (lv1 := [(0, va_rf (some o)), (1, .int x1)]) pn_X11 (by exact Nat.le_of_ble_eq_true rfl) (by rfl) ?_
  intro p e s m args below meth c C hn
  exact v_sub [0, 1] [(0, va_rf (some o)), (1, .int x1)] rfl (w_X11_sendSeveral_0 C ho _ _ _ _ E)
set_option maxHeartbeats 4000000 in
theorem w_X11_isOrderOf_2 (C : Cx D cA bs Z p s m args meth c cX11_isOrderOf RX11 3 (some .boolean)) {K : Sh} {n : Nat} {I : Im} {J : Jm} {R : Rf} (res : Int32)  : ∀ (k : Nat), ∀ (x0 : Int32) (x2 : Int32), f_X11_isOrderOf_2 Z K I k x0 x2 = some res → VW D cA bs p l e rX11_isOrderOf s m args below meth c 3 [(0, .int x0), (2, .int x2)] K n I J R 0 0 (MQ below (QX D cA bs (some (.int res)) K n I J R) args s 0 0 (fun q => bs ≤ q)) 2 [] := by
  intro k
  induction k with
  | zero =>
    intro x0 x2 E
    have E : (none : Option (Int32)) = some res := E
    cases E
  | succ k ih =>
    intro x0 x2 E
    unfold f_X11_isOrderOf_2 at E
    refine v_iload_n C 1 dX11_isOrderOf_2 rfl ?_
    refine v_iconst C dX11_isOrderOf_3 k_iconst_3 ?_
    refine v_icmp_ge C 28 E dX11_isOrderOf_4 rfl (fun c3 E => ?_) (fun c3 E => ?_)
    · refine v_iconst C dX11_isOrderOf_28 k_iconst_1 ?_
      obtain rfl := Option.some.inj E
      exact v_zret (v := 1) C rfl nz_1 dX11_isOrderOf_29
    · refine v_gets C 1 (by decide) gs_X11_243 dX11_isOrderOf_7 ?_
      refine v_iload_n C 0 dX11_isOrderOf_10 rfl ?_
      refine v_iconst C dX11_isOrderOf_11 k_iconst_3 ?_
      refine v_imul C dX11_isOrderOf_12 ?_
      refine v_iload_n C 1 dX11_isOrderOf_13 rfl ?_
      refine v_iadd C dX11_isOrderOf_14 ?_
      refine v_iald (r := (some (Z 1))) C E dX11_isOrderOf_15 (fun v1 _ E => ?_)
      refine v_iload_n C 1 dX11_isOrderOf_16 rfl ?_
      refine v_icmp_eq C 22 E dX11_isOrderOf_17 rfl (fun c2 E => ?_) (fun c2 E => ?_)
      · refine v_iinc (v := x2 + 1) C 1 [(2, .int (x2 + 1)), (0, .int x0)] dX11_isOrderOf_22 rfl (k_inc_1 _) (Nat.le_of_ble_eq_true rfl) rfl ?_
        refine v_goto C 2 dX11_isOrderOf_25 rfl ?_
        exact v_sub [1, 0] [(0, .int x0), (2, .int (x2 + 1))] rfl (ih _ _ E)
      · refine v_iconst C dX11_isOrderOf_20 k_iconst_0 ?_
        obtain rfl := Option.some.inj E
        exact v_zret (v := 0) C rfl nz_0 dX11_isOrderOf_21
set_option maxHeartbeats 4000000 in
theorem w_X11_isOrderOf_0 (C : Cx D cA bs Z p s m args meth c cX11_isOrderOf RX11 3 (some .boolean)) {K : Sh} {n : Nat} {I : Im} {J : Jm} {R : Rf} (res : Int32) (x0 : Int32) (x1 : Int32) (E : f_X11_isOrderOf Z K I x0 x1 = some res) : VW D cA bs p l e rX11_isOrderOf s m args below meth c 3 [(0, .int x0), (1, .int x1)] K n I J R 0 0 (MQ below (QX D cA bs (some (.int res)) K n I J R) args s 0 0 (fun q => bs ≤ q)) 0 [] := by
  unfold f_X11_isOrderOf at E
  refine v_iload_n C 1 dX11_isOrderOf_0 rfl ?_
  refine v_istore_n C [(2, .int x1), (0, .int x0), (1, .int x1)] dX11_isOrderOf_1 (Nat.le_of_ble_eq_true rfl) rfl ?_
  exact v_sub [1, 0] [(0, .int x0), (2, .int x1)] rfl (w_X11_isOrderOf_2 C res  _ _ _ E)
set_option maxHeartbeats 4000000 in
theorem c_X11_isOrderOf {n : Nat} {K : Sh} {I : Im} {J : Jm} {R : Rf} {x0 : Int32} {x1 : Int32} {res : Int32} (E : f_X11_isOrderOf Z K I x0 x1 = some res) : Met l yX11_isOrderOf (Cond.code yX11_isOrderOf cX11_isOrderOf 3 (some .boolean) :: tb) rX11_isOrderOf (PX D cA bs Z [.int x0, .int x1] K n I J R) (QX D cA bs (some (.int res)) K n I J R) 0 0 (fun q => bs ≤ q) := by
  refine met_of (lv1 := [(0, .int x0), (1, .int x1)]) pn_X11 (by exact Nat.le_of_ble_eq_true rfl) (by rfl) ?_
  intro p e s m args below meth c C hn
  exact v_sub [0, 1] [(0, .int x0), (1, .int x1)] rfl (w_X11_isOrderOf_0 C _ _ _ E)
set_option maxHeartbeats 4000000 in
theorem w_X11_all_76 (C : Cx D cA bs Z p s m args meth c cX11_all RX11 3 (some .int)) {o : Nat} {K : Sh} {n : Nat} {J : Jm} (ho : (K o).1 = 12) (res : Int32 × Im × Rf)  : ∀ (k : Nat), ∀ (x1 : Int32) (x2 : Int32) (I : Im) (R : Rf), f_X11_all_76 Z K o k x1 x2 I R = some res → VW D cA bs p l e rX11_all s m args below meth c 3 [(0, va_rf (some o)), (1, .int x1), (2, .int x2)] K n I J R 0 0 (MQ below (QX D cA bs (some (.int res.1)) K n res.2.1 J res.2.2) args s 0 0 (fun q => bs ≤ q)) 76 [] := by
  intro k
  induction k with
  | zero =>
    intro x1 x2 I R E
    have E : (none : Option (Int32 × Im × Rf)) = some res := E
    cases E
  | succ k ih =>
    intro x1 x2 I R E
    unfold f_X11_all_76 at E
    refine v_iload_n C 2 dX11_all_76 rfl ?_
    refine v_iconst C dX11_all_77 k_iconst_3 ?_
    refine v_imul C dX11_all_78 ?_
    refine v_gets C 1 (by decide) gs_X11_243 dX11_all_79 ?_
    refine v_alen (r := (some (Z 1))) C E dX11_all_82 (fun v1 _ E => ?_)
    refine v_icmp_ge C 119 E dX11_all_83 rfl (fun c22 E => ?_) (fun c22 E => ?_)
    · refine v_iload_n C 1 dX11_all_119 rfl ?_
      refine v_iconst C dX11_all_120 k_iconst_5 ?_
      refine v_icmp_ne C 134 E dX11_all_121 rfl (fun c10 E => ?_) (fun c10 E => ?_)
      · refine v_aload_n (r := (some o)) C 0 dX11_all_124 rfl ?_
        refine v_getR (r := (some o)) C fa_X11_74 rfl rfl ho dX11_all_125 ?_
        obtain ⟨a8, h9, E⟩ := bnd E
        obtain ⟨hra8, hoa8⟩ := ob_is h9
        refine v_getI (r := (R o 14)) C fa_X11_253 rfl hra8 hoa8 dX11_all_128 ?_
        refine v_goto C 151 dX11_all_131 rfl ?_
        obtain rfl := Option.some.inj E
        exact v_iret C rfl dX11_all_151
      · refine v_aload_n (r := (some o)) C 0 dX11_all_134 rfl ?_
        refine v_getR (r := (some o)) C fa_X11_74 rfl rfl ho dX11_all_135 ?_
        refine v_iload_n C 1 dX11_all_138 rfl ?_
        refine v_iconst C dX11_all_139 k_iconst_2 ?_
        refine v_isub C dX11_all_140 ?_
        refine v_aload_n (r := (some o)) C 0 dX11_all_141 rfl ?_
        refine v_getR (r := (some o)) C fa_X11_37 rfl rfl ho dX11_all_142 ?_
        obtain ⟨a2, h3, E⟩ := bnd E
        obtain ⟨hra2, hoa2⟩ := ob_is h3
        refine v_getI (r := (R o 7)) C fa_X11_227 rfl hra2 hoa2 dX11_all_145 ?_
        obtain ⟨a4, h5, E⟩ := bnd E
        obtain ⟨hra4, hoa4⟩ := ob_is h5
        obtain ⟨q6, h7, E⟩ := bnd E
        refine v_callV (r := (R o 14)) (As := [.int (x1 - 2), .int (I a2 4)]) (rv := (some (.int q6))) (st := []) (st1 := [.int q6]) (ce1 := 0) (sl1 := 0) C cv_X11_256 (c_X2_placeAt (x1 := (x1 - 2)) (x2 := (I a2 4)) hoa4 h7) hra4 hoa4 rfl rfl ⟨rfl, rfl, Nat.le_of_ble_eq_true rfl, Nat.le_of_ble_eq_true rfl⟩ ⟨Nat.le_of_ble_eq_true rfl, Nat.le_of_ble_eq_true rfl⟩ (Nat.le_of_ble_eq_true rfl) rfl rfl rfl dX11_all_148 ?_
        obtain rfl := Option.some.inj E
        exact v_iret C rfl dX11_all_151
    · refine v_iload_n C 2 dX11_all_86 rfl ?_
      refine v_aload_n (r := (some o)) C 0 dX11_all_87 rfl ?_
      refine v_getR (r := (some o)) C fa_X11_37 rfl rfl ho dX11_all_88 ?_
      obtain ⟨a11, h12, E⟩ := bnd E
      obtain ⟨hra11, hoa11⟩ := ob_is h12
      refine v_getI (r := (R o 7)) C fa_X11_227 rfl hra11 hoa11 dX11_all_91 ?_
      obtain ⟨q13, h14, E⟩ := bnd E
      refine v_callS (As := [.int x2, .int (I a11 4)]) (rv := (some (.int q13))) (st := []) (st1 := [.int q13]) (ce1 := 0) (sl1 := 0) C cs_X11_246 (c_X11_isOrderOf (x0 := x2) (x1 := (I a11 4)) h14) rfl rfl ⟨rfl, rfl, Nat.le_of_ble_eq_true rfl, Nat.le_of_ble_eq_true rfl⟩ ⟨Nat.le_of_ble_eq_true rfl, Nat.le_of_ble_eq_true rfl⟩ (Nat.le_of_ble_eq_true rfl) rfl rfl rfl dX11_all_94 ?_
      refine v_if_eq C 113 E dX11_all_97 rfl (fun c21 E => ?_) (fun c21 E => ?_)
      · refine v_iinc (v := x2 + 1) C 2 [(2, .int (x2 + 1)), (0, va_rf (some o)), (1, .int x1)] dX11_all_113 rfl (k_inc_1 _) (Nat.le_of_ble_eq_true rfl) rfl ?_
        refine v_goto C 76 dX11_all_116 rfl ?_
        exact v_sub [1, 2, 0] [(0, va_rf (some o)), (1, .int x1), (2, .int (x2 + 1))] rfl (ih _ _ _ _ E)
      · refine v_aload_n (r := (some o)) C 0 dX11_all_100 rfl ?_
        refine v_iload_n C 2 dX11_all_101 rfl ?_
        obtain ⟨q15, h16, E⟩ := bnd E
        refine v_callV (r := (some o)) (As := [.int x2]) (rv := none) (st := []) (st1 := []) (ce1 := 0) (sl1 := 0) C cv_X11_233 (c_X11_sendSeveral (x1 := x2) ho h16) rfl ho rfl rfl ⟨rfl, rfl, Nat.le_of_ble_eq_true rfl, Nat.le_of_ble_eq_true rfl⟩ ⟨Nat.le_of_ble_eq_true rfl, Nat.le_of_ble_eq_true rfl⟩ (Nat.le_of_ble_eq_true rfl) rfl rfl rfl dX11_all_102 ?_
        refine v_aload_n (r := (some o)) C 0 dX11_all_105 rfl ?_
        refine v_getR (r := (some o)) C fa_X11_74 rfl rfl ho dX11_all_106 ?_
        refine v_iload_n C 2 dX11_all_109 rfl ?_
        obtain ⟨a17, h18, E⟩ := bnd E
        obtain ⟨hra17, hoa17⟩ := ob_is h18
        obtain ⟨q19, h20, E⟩ := bnd E
        refine v_callV (r := (q15.2 o 14)) (As := [.int x2]) (rv := none) (st := []) (st1 := []) (ce1 := 0) (sl1 := 0) C cv_X11_250 (c_X2_compare (x1 := x2) hoa17 h20) hra17 hoa17 rfl rfl ⟨rfl, rfl, Nat.le_of_ble_eq_true rfl, Nat.le_of_ble_eq_true rfl⟩ ⟨Nat.le_of_ble_eq_true rfl, Nat.le_of_ble_eq_true rfl⟩ (Nat.le_of_ble_eq_true rfl) rfl rfl rfl dX11_all_110 ?_
        refine v_iinc (v := x2 + 1) C 2 [(2, .int (x2 + 1)), (0, va_rf (some o)), (1, .int x1)] dX11_all_113 rfl (k_inc_1 _) (Nat.le_of_ble_eq_true rfl) rfl ?_
        refine v_goto C 76 dX11_all_116 rfl ?_
        exact v_sub [1, 2, 0] [(0, va_rf (some o)), (1, .int x1), (2, .int (x2 + 1))] rfl (ih _ _ _ _ E)
set_option maxHeartbeats 4000000 in
theorem w_X11_all_53 (C : Cx D cA bs Z p s m args meth c cX11_all RX11 3 (some .int)) {o : Nat} {K : Sh} {n : Nat} {J : Jm} (ho : (K o).1 = 12) (res : Int32 × Im × Rf) (x1 : Int32) (I : Im) (R : Rf) (E : f_X11_all_53 Z K o x1 I R = some res) : VW D cA bs p l e rX11_all s m args below meth c 3 [(0, va_rf (some o)), (1, .int x1)] K n I J R 0 0 (MQ below (QX D cA bs (some (.int res.1)) K n res.2.1 J res.2.2) args s 0 0 (fun q => bs ≤ q)) 53 [] := by
  unfold f_X11_all_53 at E
  refine v_aload_n (r := (some o)) C 0 dX11_all_53 rfl ?_
  refine v_iconst C dX11_all_54 k_iconst_0 ?_
  obtain ⟨q23, h24, E⟩ := bnd E
  refine v_callV (r := (some o)) (As := [.int 0]) (rv := none) (st := []) (st1 := []) (ce1 := 0) (sl1 := 0) C cv_X11_233 (c_X11_sendSeveral (x1 := 0) ho h24) rfl ho rfl rfl ⟨rfl, rfl, Nat.le_of_ble_eq_true rfl, Nat.le_of_ble_eq_true rfl⟩ ⟨Nat.le_of_ble_eq_true rfl, Nat.le_of_ble_eq_true rfl⟩ (Nat.le_of_ble_eq_true rfl) rfl rfl rfl dX11_all_55 ?_
  refine v_aload_n (r := (some o)) C 0 dX11_all_58 rfl ?_
  refine v_getR (r := (some o)) C fa_X11_74 rfl rfl ho dX11_all_59 ?_
  refine v_iload_n C 1 dX11_all_62 rfl ?_
  obtain ⟨a25, h26, E⟩ := bnd E
  obtain ⟨hra25, hoa25⟩ := ob_is h26
  obtain ⟨q27, h28, E⟩ := bnd E
  refine v_callV (r := (q23.2 o 14)) (As := [.int x1]) (rv := (some (.int q27))) (st := []) (st1 := [.int q27]) (ce1 := 0) (sl1 := 0) C cv_X11_237 (c_X2_tell (x1 := x1) hoa25 h28) hra25 hoa25 rfl rfl ⟨rfl, rfl, Nat.le_of_ble_eq_true rfl, Nat.le_of_ble_eq_true rfl⟩ ⟨Nat.le_of_ble_eq_true rfl, Nat.le_of_ble_eq_true rfl⟩ (Nat.le_of_ble_eq_true rfl) rfl rfl rfl dX11_all_63 ?_
  obtain rfl := Option.some.inj E
  exact v_iret C rfl dX11_all_66
set_option maxHeartbeats 4000000 in
theorem w_X11_all_30 (C : Cx D cA bs Z p s m args meth c cX11_all RX11 3 (some .int)) {o : Nat} {K : Sh} {n : Nat} {J : Jm} (ho : (K o).1 = 12) (res : Int32 × Im × Rf) (x1 : Int32) (I : Im) (R : Rf) (E : f_X11_all_30 Z K o x1 I R = some res) : VW D cA bs p l e rX11_all s m args below meth c 3 [(0, va_rf (some o)), (1, .int x1)] K n I J R 0 0 (MQ below (QX D cA bs (some (.int res.1)) K n res.2.1 J res.2.2) args s 0 0 (fun q => bs ≤ q)) 30 [] := by
  unfold f_X11_all_30 at E
  refine v_aload_n (r := (some o)) C 0 dX11_all_30 rfl ?_
  refine v_getR (r := (some o)) C fa_X11_37 rfl rfl ho dX11_all_31 ?_
  obtain ⟨a29, h30, E⟩ := bnd E
  obtain ⟨hra29, hoa29⟩ := ob_is h30
  refine v_getR (r := (R o 7)) C fa_X11_120 rfl hra29 hoa29 dX11_all_34 ?_
  refine v_ifnonnull (r := (R a29 0)) C 43 E dX11_all_37 rfl (fun c37 E => ?_) (fun c37 E => ?_)
  · refine v_bipush C dX11_all_40 k_bipush_m3 ?_
    obtain rfl := Option.some.inj E
    exact v_iret C rfl dX11_all_42
  · refine v_iload_n C 1 dX11_all_43 rfl ?_
    refine v_iconst C dX11_all_44 k_iconst_2 ?_
    refine v_icmp_lt C 53 E dX11_all_45 rfl (fun c36 E => ?_) (fun c36 E => ?_)
    · exact v_sub [0, 1] [(0, va_rf (some o)), (1, .int x1)] rfl (w_X11_all_53 C ho res  _ _ _ E)
    · refine v_iload_n C 1 dX11_all_48 rfl ?_
      refine v_iconst C dX11_all_49 k_iconst_5 ?_
      refine v_icmp_le C 67 E dX11_all_50 rfl (fun c35 E => ?_) (fun c35 E => ?_)
      · refine v_aload_n (r := (some o)) C 0 dX11_all_67 rfl ?_
        refine v_getR (r := (some o)) C fa_X11_74 rfl rfl ho dX11_all_68 ?_
        obtain ⟨a31, h32, E⟩ := bnd E
        obtain ⟨hra31, hoa31⟩ := ob_is h32
        obtain ⟨q33, h34, E⟩ := bnd E
        refine v_callV (r := (R o 14)) (As := []) (rv := none) (st := []) (st1 := []) (ce1 := 0) (sl1 := 0) C cv_X11_240 (c_X2_forgetOrder  hoa31 h34) hra31 hoa31 rfl rfl ⟨rfl, rfl, Nat.le_of_ble_eq_true rfl, Nat.le_of_ble_eq_true rfl⟩ ⟨Nat.le_of_ble_eq_true rfl, Nat.le_of_ble_eq_true rfl⟩ (Nat.le_of_ble_eq_true rfl) rfl rfl rfl dX11_all_71 ?_
        refine v_iconst C dX11_all_74 k_iconst_0 ?_
        refine v_istore_n C [(2, .int 0), (0, va_rf (some o)), (1, .int x1)] dX11_all_75 (Nat.le_of_ble_eq_true rfl) rfl ?_
        exact v_sub [1, 2, 0] [(0, va_rf (some o)), (1, .int x1), (2, .int 0)] rfl (w_X11_all_76 C ho res  _ _ _ _ _ E)
      · exact v_sub [0, 1] [(0, va_rf (some o)), (1, .int x1)] rfl (w_X11_all_53 C ho res  _ _ _ E)
set_option maxHeartbeats 4000000 in
theorem w_X11_all_0 (C : Cx D cA bs Z p s m args meth c cX11_all RX11 3 (some .int)) {o : Nat} {K : Sh} {n : Nat} {J : Jm} (ho : (K o).1 = 12) (res : Int32 × Im × Rf) (x1 : Int32) (I : Im) (R : Rf) (E : f_X11_all Z K o x1 I R = some res) : VW D cA bs p l e rX11_all s m args below meth c 3 [(0, va_rf (some o)), (1, .int x1)] K n I J R 0 0 (MQ below (QX D cA bs (some (.int res.1)) K n res.2.1 J res.2.2) args s 0 0 (fun q => bs ≤ q)) 0 [] := by
  unfold f_X11_all at E
  refine v_iload_n C 1 dX11_all_0 rfl ?_
  refine v_iconst C dX11_all_1 k_iconst_0 ?_
  refine v_iconst C dX11_all_2 k_iconst_5 ?_
  obtain ⟨q38, h39, E⟩ := bnd E
  refine v_callS (As := [.int x1, .int 0, .int 5]) (rv := (some (.int q38))) (st := []) (st1 := [.int q38]) (ce1 := 0) (sl1 := 0) C cs_X11_101 (c_X11_within (x0 := x1) (x1 := 0) (x2 := 5) h39) rfl rfl ⟨rfl, rfl, Nat.le_of_ble_eq_true rfl, Nat.le_of_ble_eq_true rfl⟩ ⟨Nat.le_of_ble_eq_true rfl, Nat.le_of_ble_eq_true rfl⟩ (Nat.le_of_ble_eq_true rfl) rfl rfl rfl dX11_all_3 ?_
  refine v_if_ne C 30 E dX11_all_6 rfl (fun c45 E => ?_) (fun c45 E => ?_)
  · refine v_iload_n C 1 dX11_all_9 rfl ?_
    refine v_bipush C dX11_all_10 k_bipush_10 ?_
    refine v_bipush C dX11_all_12 k_bipush_9 ?_
    refine v_aload_n (r := (some o)) C 0 dX11_all_14 rfl ?_
    refine v_getR (r := (some o)) C fa_X11_37 rfl rfl ho dX11_all_15 ?_
    obtain ⟨a40, h41, E⟩ := bnd E
    obtain ⟨hra40, hoa40⟩ := ob_is h41
    refine v_getI (r := (R o 7)) C fa_X11_227 rfl hra40 hoa40 dX11_all_18 ?_
    refine v_iadd C dX11_all_21 ?_
    obtain ⟨q42, h43, E⟩ := bnd E
    refine v_callS (As := [.int x1, .int 10, .int (9 + (I a40 4))]) (rv := (some (.int q42))) (st := []) (st1 := [.int q42]) (ce1 := 0) (sl1 := 0) C cs_X11_101 (c_X11_within (x0 := x1) (x1 := 10) (x2 := (9 + (I a40 4))) h43) rfl rfl ⟨rfl, rfl, Nat.le_of_ble_eq_true rfl, Nat.le_of_ble_eq_true rfl⟩ ⟨Nat.le_of_ble_eq_true rfl, Nat.le_of_ble_eq_true rfl⟩ (Nat.le_of_ble_eq_true rfl) rfl rfl rfl dX11_all_22 ?_
    refine v_if_ne C 30 E dX11_all_25 rfl (fun c44 E => ?_) (fun c44 E => ?_)
    · refine v_iconst C dX11_all_28 k_iconst_m1 ?_
      obtain rfl := Option.some.inj E
      exact v_iret C rfl dX11_all_29
    · exact v_sub [0, 1] [(0, va_rf (some o)), (1, .int x1)] rfl (w_X11_all_30 C ho res  _ _ _ E)
  · exact v_sub [0, 1] [(0, va_rf (some o)), (1, .int x1)] rfl (w_X11_all_30 C ho res  _ _ _ E)
set_option maxHeartbeats 4000000 in
theorem c_X11_all {n : Nat} {K : Sh} {I : Im} {J : Jm} {R : Rf} {o : Nat} {x1 : Int32} (ho : (K o).1 = 12) {res : Int32 × Im × Rf} (E : f_X11_all Z K o x1 I R = some res) : Met l yX11_all (Cond.code yX11_all cX11_all 3 (some .int) :: tb) rX11_all (PX D cA bs Z [.ref o, .int x1] K n I J R) (QX D cA bs (some (.int res.1)) K n res.2.1 J res.2.2) 0 0 (fun q => bs ≤ q) := by
  refine met_of (lv1 := [(0, va_rf (some o)), (1, .int x1)]) pn_X11 (by exact Nat.le_of_ble_eq_true rfl) (by rfl) ?_
  intro p e s m args below meth c C hn
  exact v_sub [0, 1] [(0, va_rf (some o)), (1, .int x1)] rfl (w_X11_all_0 C ho _ _ _ _ E)
set_option maxHeartbeats 4000000 in
theorem w_X11_weightOf_64 (C : Cx D cA bs Z p s m args meth c cX11_weightOf RX11 5 (some .int)) {o : Nat} {K : Sh} {n : Nat} {I : Im} {J : Jm} {R : Rf} (ho : (K o).1 = 12) (res : Int32) (r4 : Int32 → Int32 → Int32 → Option (Int32)) (hr4 : ∀ (x1 : Int32) (x2 : Int32) (x3 : Int32) , r4 x1 x2 x3 = some res → VW D cA bs p l e rX11_weightOf s m args below meth c 5 [(0, va_rf (some o)), (1, .int x1), (2, .int x2), (3, .int x3)] K n I J R 0 0 (MQ below (QX D cA bs (some (.int res)) K n I J R) args s 0 0 (fun q => bs ≤ q)) 4 []) (x1 : Int32) (x3 : Int32) (s0 : Int32) (s1 : Int32) (E : f_X11_weightOf_64 K I R o r4 x1 x3 s0 s1 = some res) : VW D cA bs p l e rX11_weightOf s m args below meth c 5 [(0, va_rf (some o)), (1, .int x1), (3, .int x3)] K n I J R 0 0 (MQ below (QX D cA bs (some (.int res)) K n I J R) args s 0 0 (fun q => bs ≤ q)) 64 [.int s1, .int s0] := by
  unfold f_X11_weightOf_64 at E
  refine v_imul C dX11_weightOf_64 ?_
  refine v_istore_n C [(2, .int (s0 * s1)), (0, va_rf (some o)), (1, .int x1), (3, .int x3)] dX11_weightOf_65 (Nat.le_of_ble_eq_true rfl) rfl ?_
  refine v_iinc (v := x3 + 1) C 3 [(3, .int (x3 + 1)), (2, .int (s0 * s1)), (0, va_rf (some o)), (1, .int x1)] dX11_weightOf_66 rfl (k_inc_1 _) (Nat.le_of_ble_eq_true rfl) rfl ?_
  refine v_goto C 4 dX11_weightOf_69 rfl ?_
  exact v_sub [2, 3, 1, 0] [(0, va_rf (some o)), (1, .int x1), (2, .int (s0 * s1)), (3, .int (x3 + 1))] rfl (hr4 _ _ _ E)
set_option maxHeartbeats 4000000 in
theorem w_X11_weightOf_32 (C : Cx D cA bs Z p s m args meth c cX11_weightOf RX11 5 (some .int)) {o : Nat} {K : Sh} {n : Nat} {I : Im} {J : Jm} {R : Rf} (ho : (K o).1 = 12) (res : Int32) (r4 : Int32 → Int32 → Int32 → Option (Int32)) (hr4 : ∀ (x1 : Int32) (x2 : Int32) (x3 : Int32) , r4 x1 x2 x3 = some res → VW D cA bs p l e rX11_weightOf s m args below meth c 5 [(0, va_rf (some o)), (1, .int x1), (2, .int x2), (3, .int x3)] K n I J R 0 0 (MQ below (QX D cA bs (some (.int res)) K n I J R) args s 0 0 (fun q => bs ≤ q)) 4 []) (x1 : Int32) (x2 : Int32) (x3 : Int32) (s0 : Int32) (E : f_X11_weightOf_32 K I R o r4 x1 x2 x3 s0 = some res) : VW D cA bs p l e rX11_weightOf s m args below meth c 5 [(0, va_rf (some o)), (1, .int x1), (2, .int x2), (3, .int x3)] K n I J R 0 0 (MQ below (QX D cA bs (some (.int res)) K n I J R) args s 0 0 (fun q => bs ≤ q)) 32 [.int s0] := by
  unfold f_X11_weightOf_32 at E
  refine v_istore C [(4, .int s0), (0, va_rf (some o)), (1, .int x1), (2, .int x2), (3, .int x3)] dX11_weightOf_32 (Nat.le_of_ble_eq_true rfl) rfl ?_
  refine v_iload_n C 3 dX11_weightOf_34 rfl ?_
  refine v_iload C 0 dX11_weightOf_35 rfl ?_
  refine v_if_eq C 52 E dX11_weightOf_37 rfl (fun c7 E => ?_) (fun c7 E => ?_)
  · refine v_bipush C dX11_weightOf_52 k_bipush_10 ?_
    refine v_aload_n (r := (some o)) C 1 dX11_weightOf_54 rfl ?_
    refine v_getR (r := (some o)) C fa_X11_37 rfl rfl ho dX11_weightOf_55 ?_
    obtain ⟨a1, h2, E⟩ := bnd E
    obtain ⟨hra1, hoa1⟩ := ob_is h2
    refine v_getR (r := (R o 7)) C fa_X11_153 rfl hra1 hoa1 dX11_weightOf_58 ?_
    refine v_iload_n C 4 dX11_weightOf_61 rfl ?_
    refine v_iald (r := (R a1 2)) C E dX11_weightOf_62 (fun v3 _ E => ?_)
    refine v_isub C dX11_weightOf_63 ?_
    exact v_sub [1, 2, 4] [(0, va_rf (some o)), (1, .int x1), (3, .int x3)] rfl (w_X11_weightOf_64 C ho res _ hr4 _ _ _ _ E)
  · refine v_aload_n (r := (some o)) C 1 dX11_weightOf_40 rfl ?_
    refine v_getR (r := (some o)) C fa_X11_37 rfl rfl ho dX11_weightOf_41 ?_
    obtain ⟨a4, h5, E⟩ := bnd E
    obtain ⟨hra4, hoa4⟩ := ob_is h5
    refine v_getR (r := (R o 7)) C fa_X11_153 rfl hra4 hoa4 dX11_weightOf_44 ?_
    refine v_iload_n C 4 dX11_weightOf_47 rfl ?_
    refine v_iald (r := (R a4 2)) C E dX11_weightOf_48 (fun v6 _ E => ?_)
    refine v_goto C 64 dX11_weightOf_49 rfl ?_
    exact v_sub [1, 2, 4] [(0, va_rf (some o)), (1, .int x1), (3, .int x3)] rfl (w_X11_weightOf_64 C ho res _ hr4 _ _ _ _ E)
set_option maxHeartbeats 4000000 in
theorem w_X11_weightOf_4 (C : Cx D cA bs Z p s m args meth c cX11_weightOf RX11 5 (some .int)) {o : Nat} {K : Sh} {n : Nat} {I : Im} {J : Jm} {R : Rf} (ho : (K o).1 = 12) (res : Int32)  : ∀ (k : Nat), ∀ (x1 : Int32) (x2 : Int32) (x3 : Int32), f_X11_weightOf_4 K I R o k x1 x2 x3 = some res → VW D cA bs p l e rX11_weightOf s m args below meth c 5 [(0, va_rf (some o)), (1, .int x1), (2, .int x2), (3, .int x3)] K n I J R 0 0 (MQ below (QX D cA bs (some (.int res)) K n I J R) args s 0 0 (fun q => bs ≤ q)) 4 [] := by
  intro k
  induction k with
  | zero =>
    intro x1 x2 x3 E
    have E : (none : Option (Int32)) = some res := E
    cases E
  | succ k ih =>
    intro x1 x2 x3 E
    unfold f_X11_weightOf_4 at E
    refine v_iload_n C 3 dX11_weightOf_4 rfl ?_
    refine v_aload_n (r := (some o)) C 0 dX11_weightOf_5 rfl ?_
    refine v_getR (r := (some o)) C fa_X11_37 rfl rfl ho dX11_weightOf_6 ?_
    obtain ⟨a8, h9, E⟩ := bnd E
    obtain ⟨hra8, hoa8⟩ := ob_is h9
    refine v_getR (r := (R o 7)) C fa_X11_120 rfl hra8 hoa8 dX11_weightOf_9 ?_
    obtain ⟨a10, h11, E⟩ := bnd E
    obtain ⟨hra10, hoa10⟩ := ob_is h11
    refine v_getI (r := (R a8 0)) C fa_X11_134 rfl hra10 hoa10 dX11_weightOf_12 ?_
    refine v_icmp_ge C 72 E dX11_weightOf_15 rfl (fun c13 E => ?_) (fun c13 E => ?_)
    · refine v_iload_n C 2 dX11_weightOf_72 rfl ?_
      obtain rfl := Option.some.inj E
      exact v_iret C rfl dX11_weightOf_73
    · refine v_iload_n C 1 dX11_weightOf_18 rfl ?_
      refine v_iload_n C 3 dX11_weightOf_19 rfl ?_
      refine v_ishr C dX11_weightOf_20 ?_
      refine v_iconst C dX11_weightOf_21 k_iconst_1 ?_
      refine v_iand C dX11_weightOf_22 ?_
      refine v_iconst C dX11_weightOf_23 k_iconst_1 ?_
      refine v_icmp_ne C 31 E dX11_weightOf_24 rfl (fun c12 E => ?_) (fun c12 E => ?_)
      · refine v_iconst C dX11_weightOf_27 k_iconst_1 ?_
        refine v_goto C 32 dX11_weightOf_28 rfl ?_
        exact v_sub [0, 1, 2, 3] [(0, va_rf (some o)), (1, .int x1), (2, .int x2), (3, .int x3)] rfl (w_X11_weightOf_32 C ho res _ ih _ _ _ _ E)
      · refine v_iconst C dX11_weightOf_31 k_iconst_0 ?_
        exact v_sub [0, 1, 2, 3] [(0, va_rf (some o)), (1, .int x1), (2, .int x2), (3, .int x3)] rfl (w_X11_weightOf_32 C ho res _ ih _ _ _ _ E)
set_option maxHeartbeats 4000000 in
theorem w_X11_weightOf_0 (C : Cx D cA bs Z p s m args meth c cX11_weightOf RX11 5 (some .int)) {o : Nat} {K : Sh} {n : Nat} {I : Im} {J : Jm} {R : Rf} (ho : (K o).1 = 12) (res : Int32) (x1 : Int32) (E : f_X11_weightOf K I R o x1 = some res) : VW D cA bs p l e rX11_weightOf s m args below meth c 5 [(0, va_rf (some o)), (1, .int x1)] K n I J R 0 0 (MQ below (QX D cA bs (some (.int res)) K n I J R) args s 0 0 (fun q => bs ≤ q)) 0 [] := by
  unfold f_X11_weightOf at E
  refine v_iconst C dX11_weightOf_0 k_iconst_1 ?_
  refine v_istore_n C [(2, .int 1), (0, va_rf (some o)), (1, .int x1)] dX11_weightOf_1 (Nat.le_of_ble_eq_true rfl) rfl ?_
  refine v_iconst C dX11_weightOf_2 k_iconst_0 ?_
  refine v_istore_n C [(3, .int 0), (2, .int 1), (0, va_rf (some o)), (1, .int x1)] dX11_weightOf_3 (Nat.le_of_ble_eq_true rfl) rfl ?_
  exact v_sub [2, 3, 1, 0] [(0, va_rf (some o)), (1, .int x1), (2, .int 1), (3, .int 0)] rfl (w_X11_weightOf_4 C ho res  _ _ _ _ E)
set_option maxHeartbeats 4000000 in
theorem c_X11_weightOf {n : Nat} {K : Sh} {I : Im} {J : Jm} {R : Rf} {o : Nat} {x1 : Int32} (ho : (K o).1 = 12) {res : Int32} (E : f_X11_weightOf K I R o x1 = some res) : Met l yX11_weightOf (Cond.code yX11_weightOf cX11_weightOf 5 (some .int) :: tb) rX11_weightOf (PX D cA bs Z [.ref o, .int x1] K n I J R) (QX D cA bs (some (.int res)) K n I J R) 0 0 (fun q => bs ≤ q) := by
  refine met_of (lv1 := [(0, va_rf (some o)), (1, .int x1)]) pn_X11 (by exact Nat.le_of_ble_eq_true rfl) (by rfl) ?_
  intro p e s m args below meth c C hn
  exact v_sub [0, 1] [(0, va_rf (some o)), (1, .int x1)] rfl (w_X11_weightOf_0 C ho _ _ E)
set_option maxHeartbeats 4000000 in
theorem w_X11_comesOverWithDry_16 (C : Cx D cA bs Z p s m args meth c cX11_comesOverWithDry RX11 4 (some .boolean)) {o : Nat} {K : Sh} {n : Nat} {J : Jm} (ho : (K o).1 = 12) (res : Int32 × Im × Rf)  : ∀ (k : Nat), ∀ (x1 : Int32) (x2 : Option Nat) (x3 : Int32) (I : Im) (R : Rf), f_X11_comesOverWithDry_16 K o k x1 x2 x3 I R = some res → VW D cA bs p l e rX11_comesOverWithDry s m args below meth c 4 [(0, va_rf (some o)), (1, .int x1), (2, va_rf x2), (3, .int x3)] K n I J R 0 0 (MQ below (QX D cA bs (some (.int res.1)) K n res.2.1 J res.2.2) args s 0 0 (fun q => bs ≤ q)) 16 [] := by
  intro k
  induction k with
  | zero =>
    intro x1 x2 x3 I R E
    have E : (none : Option (Int32 × Im × Rf)) = some res := E
    cases E
  | succ k ih =>
    intro x1 x2 x3 I R E
    unfold f_X11_comesOverWithDry_16 at E
    refine v_iload_n C 3 dX11_comesOverWithDry_16 rfl ?_
    refine v_aload_n (r := (some o)) C 0 dX11_comesOverWithDry_17 rfl ?_
    refine v_getR (r := (some o)) C fa_X11_37 rfl rfl ho dX11_comesOverWithDry_18 ?_
    obtain ⟨a1, h2, E⟩ := bnd E
    obtain ⟨hra1, hoa1⟩ := ob_is h2
    refine v_getR (r := (R o 7)) C fa_X11_120 rfl hra1 hoa1 dX11_comesOverWithDry_21 ?_
    obtain ⟨a3, h4, E⟩ := bnd E
    obtain ⟨hra3, hoa3⟩ := ob_is h4
    refine v_getI (r := (R a1 0)) C fa_X11_134 rfl hra3 hoa3 dX11_comesOverWithDry_24 ?_
    refine v_icmp_ge C 53 E dX11_comesOverWithDry_27 rfl (fun c15 E => ?_) (fun c15 E => ?_)
    · refine v_aload_n (r := (some o)) C 0 dX11_comesOverWithDry_53 rfl ?_
      refine v_aload_n (r := (some o)) C 0 dX11_comesOverWithDry_54 rfl ?_
      refine v_getR (r := (some o)) C fa_X11_37 rfl rfl ho dX11_comesOverWithDry_55 ?_
      refine v_getR (r := (R o 7)) C fa_X11_120 rfl hra1 hoa1 dX11_comesOverWithDry_58 ?_
      refine v_aload_n (r := (some o)) C 0 dX11_comesOverWithDry_61 rfl ?_
      refine v_getR (r := (some o)) C fa_X11_81 rfl rfl ho dX11_comesOverWithDry_62 ?_
      refine v_aload_n (r := x2) C 2 dX11_comesOverWithDry_65 rfl ?_
      obtain ⟨q5, h6, E⟩ := bnd E
      refine v_callV (r := (some o)) (As := [va_rf (R a1 0), va_rf (R o 15), va_rf x2]) (rv := none) (st := []) (st1 := []) (ce1 := 0) (sl1 := 0) C cv_X11_198 (c_X11_send (x1 := (R a1 0)) (x2 := (R o 15)) (x3 := x2) ho h6) rfl ho rfl rfl ⟨rfl, rfl, Nat.le_of_ble_eq_true rfl, Nat.le_of_ble_eq_true rfl⟩ ⟨Nat.le_of_ble_eq_true rfl, Nat.le_of_ble_eq_true rfl⟩ (Nat.le_of_ble_eq_true rfl) rfl rfl rfl dX11_comesOverWithDry_66 ?_
      refine v_aload_n (r := (some o)) C 0 dX11_comesOverWithDry_69 rfl ?_
      refine v_getR (r := (some o)) C fa_X11_60 rfl rfl ho dX11_comesOverWithDry_70 ?_
      obtain ⟨a7, h8, E⟩ := bnd E
      obtain ⟨hra7, hoa7⟩ := ob_is h8
      refine v_getI (r := (q5.2 o 12)) C fa_X11_208 rfl hra7 hoa7 dX11_comesOverWithDry_73 ?_
      refine v_bipush C dX11_comesOverWithDry_76 k_bipush_m5 ?_
      refine v_icmp_eq C 85 E dX11_comesOverWithDry_78 rfl (fun c9 E => ?_) (fun c9 E => ?_)
      · refine v_iconst C dX11_comesOverWithDry_85 k_iconst_0 ?_
        obtain rfl := Option.some.inj E
        exact v_zret (v := 0) C rfl nz_0 dX11_comesOverWithDry_86
      · refine v_iconst C dX11_comesOverWithDry_81 k_iconst_1 ?_
        refine v_goto C 86 dX11_comesOverWithDry_82 rfl ?_
        obtain rfl := Option.some.inj E
        exact v_zret (v := 1) C rfl nz_1 dX11_comesOverWithDry_86
    · refine v_iload_n C 1 dX11_comesOverWithDry_30 rfl ?_
      refine v_iload_n C 3 dX11_comesOverWithDry_31 rfl ?_
      refine v_ishr C dX11_comesOverWithDry_32 ?_
      refine v_iconst C dX11_comesOverWithDry_33 k_iconst_1 ?_
      refine v_iand C dX11_comesOverWithDry_34 ?_
      refine v_iconst C dX11_comesOverWithDry_35 k_iconst_1 ?_
      refine v_icmp_ne C 47 E dX11_comesOverWithDry_36 rfl (fun c14 E => ?_) (fun c14 E => ?_)
      · refine v_aload_n (r := (some o)) C 0 dX11_comesOverWithDry_39 rfl ?_
        refine v_getR (r := (some o)) C fa_X11_81 rfl rfl ho dX11_comesOverWithDry_40 ?_
        refine v_iload_n C 3 dX11_comesOverWithDry_43 rfl ?_
        obtain ⟨a10, h11, E⟩ := bnd E
        obtain ⟨hra10, hoa10⟩ := ob_is h11
        obtain ⟨q12, h13, E⟩ := bnd E
        refine v_callV (r := (R o 15)) (As := [.int x3]) (rv := none) (st := []) (st1 := []) (ce1 := 0) (sl1 := 0) C cv_X11_362 (c_X10_dryUp (x1 := x3) hoa10 h13) hra10 hoa10 rfl rfl ⟨rfl, rfl, Nat.le_of_ble_eq_true rfl, Nat.le_of_ble_eq_true rfl⟩ ⟨Nat.le_of_ble_eq_true rfl, Nat.le_of_ble_eq_true rfl⟩ (Nat.le_of_ble_eq_true rfl) rfl rfl rfl dX11_comesOverWithDry_44 ?_
        refine v_iinc (v := x3 + 1) C 3 [(3, .int (x3 + 1)), (0, va_rf (some o)), (1, .int x1), (2, va_rf x2)] dX11_comesOverWithDry_47 rfl (k_inc_1 _) (Nat.le_of_ble_eq_true rfl) (by generalize x2 = rr; cases rr <;> rfl) ?_
        refine v_goto C 16 dX11_comesOverWithDry_50 rfl ?_
        exact v_sub [1, 2, 3, 0] [(0, va_rf (some o)), (1, .int x1), (2, va_rf x2), (3, .int (x3 + 1))] rfl (ih _ _ _ _ _ E)
      · refine v_iinc (v := x3 + 1) C 3 [(3, .int (x3 + 1)), (0, va_rf (some o)), (1, .int x1), (2, va_rf x2)] dX11_comesOverWithDry_47 rfl (k_inc_1 _) (Nat.le_of_ble_eq_true rfl) (by generalize x2 = rr; cases rr <;> rfl) ?_
        refine v_goto C 16 dX11_comesOverWithDry_50 rfl ?_
        exact v_sub [1, 2, 3, 0] [(0, va_rf (some o)), (1, .int x1), (2, va_rf x2), (3, .int (x3 + 1))] rfl (ih _ _ _ _ _ E)
set_option maxHeartbeats 4000000 in
theorem w_X11_comesOverWithDry_0 (C : Cx D cA bs Z p s m args meth c cX11_comesOverWithDry RX11 4 (some .boolean)) {o : Nat} {K : Sh} {n : Nat} {J : Jm} (ho : (K o).1 = 12) (res : Int32 × Im × Rf) (x1 : Int32) (x2 : Option Nat) (I : Im) (R : Rf) (E : f_X11_comesOverWithDry K o x1 x2 I R = some res) : VW D cA bs p l e rX11_comesOverWithDry s m args below meth c 4 [(0, va_rf (some o)), (1, .int x1), (2, va_rf x2)] K n I J R 0 0 (MQ below (QX D cA bs (some (.int res.1)) K n res.2.1 J res.2.2) args s 0 0 (fun q => bs ≤ q)) 0 [] := by
  unfold f_X11_comesOverWithDry at E
  refine v_aload_n (r := (some o)) C 0 dX11_comesOverWithDry_0 rfl ?_
  refine v_getR (r := (some o)) C fa_X11_81 rfl rfl ho dX11_comesOverWithDry_1 ?_
  refine v_aload_n (r := (some o)) C 0 dX11_comesOverWithDry_4 rfl ?_
  refine v_getR (r := (some o)) C fa_X11_37 rfl rfl ho dX11_comesOverWithDry_5 ?_
  obtain ⟨a16, h17, E⟩ := bnd E
  obtain ⟨hra16, hoa16⟩ := ob_is h17
  refine v_getR (r := (R o 7)) C fa_X11_123 rfl hra16 hoa16 dX11_comesOverWithDry_8 ?_
  obtain ⟨a18, h19, E⟩ := bnd E
  obtain ⟨hra18, hoa18⟩ := ob_is h19
  obtain ⟨q20, h21, E⟩ := bnd E
  refine v_callV (r := (R o 15)) (As := [va_rf (R a16 1)]) (rv := none) (st := []) (st1 := []) (ce1 := 0) (sl1 := 0) C cv_X11_195 (c_X10_become (x1 := (R a16 1)) hoa18 h21) hra18 hoa18 rfl rfl ⟨rfl, rfl, Nat.le_of_ble_eq_true rfl, Nat.le_of_ble_eq_true rfl⟩ ⟨Nat.le_of_ble_eq_true rfl, Nat.le_of_ble_eq_true rfl⟩ (Nat.le_of_ble_eq_true rfl) rfl rfl rfl dX11_comesOverWithDry_11 ?_
  refine v_iconst C dX11_comesOverWithDry_14 k_iconst_0 ?_
  refine v_istore_n C [(3, .int 0), (0, va_rf (some o)), (1, .int x1), (2, va_rf x2)] dX11_comesOverWithDry_15 (Nat.le_of_ble_eq_true rfl) (by generalize x2 = rr; cases rr <;> rfl) ?_
  exact v_sub [1, 2, 3, 0] [(0, va_rf (some o)), (1, .int x1), (2, va_rf x2), (3, .int 0)] rfl (w_X11_comesOverWithDry_16 C ho res  _ _ _ _ _ _ E)
set_option maxHeartbeats 4000000 in
theorem c_X11_comesOverWithDry {n : Nat} {K : Sh} {I : Im} {J : Jm} {R : Rf} {o : Nat} {x1 : Int32} {x2 : Option Nat} (ho : (K o).1 = 12) {res : Int32 × Im × Rf} (E : f_X11_comesOverWithDry K o x1 x2 I R = some res) : Met l yX11_comesOverWithDry (Cond.code yX11_comesOverWithDry cX11_comesOverWithDry 4 (some .boolean) :: tb) rX11_comesOverWithDry (PX D cA bs Z [.ref o, .int x1, va_rf x2] K n I J R) (QX D cA bs (some (.int res.1)) K n res.2.1 J res.2.2) 0 0 (fun q => bs ≤ q) := by
  refine met_of (lv1 := [(0, va_rf (some o)), (1, .int x1), (2, va_rf x2)]) pn_X11 (by cases x2 <;> exact Nat.le_of_ble_eq_true rfl) (by cases x2 <;> rfl) ?_
  intro p e s m args below meth c C hn
  exact v_sub [0, 1, 2] [(0, va_rf (some o)), (1, .int x1), (2, va_rf x2)] rfl (w_X11_comesOverWithDry_0 C ho _ _ _ _ _ E)
set_option maxHeartbeats 4000000 in
theorem w_X11_commonDivisor_7 (C : Cx D cA bs Z p s m args meth c cX11_commonDivisor RX11 6 (some .int)) {K : Sh} {n : Nat} {I : Im} {J : Jm} {R : Rf} (res : Int32)  : ∀ (k : Nat), ∀ (x2 : Int32) (x3 : Int32) (x4 : Int32), f_X11_commonDivisor_7  k x2 x3 x4 = some res → VW D cA bs p l e rX11_commonDivisor s m args below meth c 6 [(2, .int x2), (3, .int x3), (4, .int x4)] K n I J R 0 0 (MQ below (QX D cA bs (some (.int res)) K n I J R) args s 0 0 (fun q => bs ≤ q)) 7 [] := by
  intro k
  induction k with
  | zero =>
    intro x2 x3 x4 E
    have E : (none : Option (Int32)) = some res := E
    cases E
  | succ k ih =>
    intro x2 x3 x4 E
    unfold f_X11_commonDivisor_7 at E
    refine v_iload C 2 dX11_commonDivisor_7 rfl ?_
    refine v_bipush C dX11_commonDivisor_9 k_bipush_100 ?_
    refine v_icmp_ge C 34 E dX11_commonDivisor_11 rfl (fun c3 E => ?_) (fun c3 E => ?_)
    · refine v_iload_n C 0 dX11_commonDivisor_34 rfl ?_
      obtain rfl := Option.some.inj E
      exact v_iret C rfl dX11_commonDivisor_35
    · refine v_iload_n C 1 dX11_commonDivisor_14 rfl ?_
      refine v_if_eq C 34 E dX11_commonDivisor_15 rfl (fun c2 E => ?_) (fun c2 E => ?_)
      · refine v_iload_n C 0 dX11_commonDivisor_34 rfl ?_
        obtain rfl := Option.some.inj E
        exact v_iret C rfl dX11_commonDivisor_35
      · refine v_iload_n C 0 dX11_commonDivisor_18 rfl ?_
        refine v_iload_n C 1 dX11_commonDivisor_19 rfl ?_
        refine v_iremq C E dX11_commonDivisor_20 (fun v1 _ E => ?_)
        refine v_istore C [(5, .int v1), (2, .int x2), (3, .int x3), (4, .int x4)] dX11_commonDivisor_21 (Nat.le_of_ble_eq_true rfl) rfl ?_
        refine v_iload_n C 2 dX11_commonDivisor_23 rfl ?_
        refine v_istore_n C [(2, .int x3), (5, .int v1), (3, .int x3), (4, .int x4)] dX11_commonDivisor_24 (Nat.le_of_ble_eq_true rfl) rfl ?_
        refine v_iload C 1 dX11_commonDivisor_25 rfl ?_
        refine v_istore_n C [(3, .int v1), (2, .int x3), (5, .int v1), (4, .int x4)] dX11_commonDivisor_27 (Nat.le_of_ble_eq_true rfl) rfl ?_
        refine v_iinc (v := x4 + 1) C 3 [(4, .int (x4 + 1)), (3, .int v1), (2, .int x3), (5, .int v1)] dX11_commonDivisor_28 rfl (k_inc_1 _) (Nat.le_of_ble_eq_true rfl) rfl ?_
        refine v_goto C 7 dX11_commonDivisor_31 rfl ?_
        exact v_sub [2, 1, 0] [(2, .int x3), (3, .int v1), (4, .int (x4 + 1))] rfl (ih _ _ _ E)
set_option maxHeartbeats 4000000 in
theorem w_X11_commonDivisor_0 (C : Cx D cA bs Z p s m args meth c cX11_commonDivisor RX11 6 (some .int)) {K : Sh} {n : Nat} {I : Im} {J : Jm} {R : Rf} (res : Int32) (x0 : Int32) (x1 : Int32) (E : f_X11_commonDivisor  x0 x1 = some res) : VW D cA bs p l e rX11_commonDivisor s m args below meth c 6 [(0, .int x0), (1, .int x1)] K n I J R 0 0 (MQ below (QX D cA bs (some (.int res)) K n I J R) args s 0 0 (fun q => bs ≤ q)) 0 [] := by
  unfold f_X11_commonDivisor at E
  refine v_iload_n C 0 dX11_commonDivisor_0 rfl ?_
  refine v_istore_n C [(2, .int x0), (0, .int x0), (1, .int x1)] dX11_commonDivisor_1 (Nat.le_of_ble_eq_true rfl) rfl ?_
  refine v_iload_n C 2 dX11_commonDivisor_2 rfl ?_
  refine v_istore_n C [(3, .int x1), (2, .int x0), (0, .int x0), (1, .int x1)] dX11_commonDivisor_3 (Nat.le_of_ble_eq_true rfl) rfl ?_
  refine v_iconst C dX11_commonDivisor_4 k_iconst_0 ?_
  refine v_istore C [(4, .int 0), (3, .int x1), (2, .int x0), (0, .int x0), (1, .int x1)] dX11_commonDivisor_5 (Nat.le_of_ble_eq_true rfl) rfl ?_
  exact v_sub [2, 1, 0] [(2, .int x0), (3, .int x1), (4, .int 0)] rfl (w_X11_commonDivisor_7 C res  _ _ _ _ E)
set_option maxHeartbeats 4000000 in
theorem c_X11_commonDivisor {n : Nat} {K : Sh} {I : Im} {J : Jm} {R : Rf} {x0 : Int32} {x1 : Int32} {res : Int32} (E : f_X11_commonDivisor x0 x1 = some res) : Met l yX11_commonDivisor (Cond.code yX11_commonDivisor cX11_commonDivisor 6 (some .int) :: tb) rX11_commonDivisor (PX D cA bs Z [.int x0, .int x1] K n I J R) (QX D cA bs (some (.int res)) K n I J R) 0 0 (fun q => bs ≤ q) := by
  refine met_of (lv1 := [(0, .int x0), (1, .int x1)]) pn_X11 (by exact Nat.le_of_ble_eq_true rfl) (by rfl) ?_
  intro p e s m args below meth c C hn
  exact v_sub [0, 1] [(0, .int x0), (1, .int x1)] rfl (w_X11_commonDivisor_0 C _ _ _ E)
set_option maxHeartbeats 4000000 in
theorem w_X11_likely_73 (C : Cx D cA bs Z p s m args meth c cX11_likely RX11 8 (some .long)) {o : Nat} {K : Sh} {n : Nat} {J : Jm} (ho : (K o).1 = 12) (res : Int64 × Im × Rf)  : ∀ (k : Nat), ∀ (x2 : Int32) (x3 : Option Nat) (x4 : Int32) (x5 : Int32) (x6 : Int32) (I : Im) (R : Rf), f_X11_likely_73 K o k x2 x3 x4 x5 x6 I R = some res → VW D cA bs p l e rX11_likely s m args below meth c 8 [(0, va_rf (some o)), (2, .int x2), (3, va_rf x3), (4, .int x4), (5, .int x5), (6, .int x6)] K n I J R 0 0 (MQ below (QX D cA bs (some (.long res.1)) K n res.2.1 J res.2.2) args s 0 0 (fun q => bs ≤ q)) 73 [] := by
  intro k
  induction k with
  | zero =>
    intro x2 x3 x4 x5 x6 I R E
    have E : (none : Option (Int64 × Im × Rf)) = some res := E
    cases E
  | succ k ih =>
    intro x2 x3 x4 x5 x6 I R E
    unfold f_X11_likely_73 at E
    refine v_iload C 5 dX11_likely_73 rfl ?_
    refine v_iconst C dX11_likely_75 k_iconst_1 ?_
    refine v_aload_n (r := (some o)) C 0 dX11_likely_76 rfl ?_
    refine v_getR (r := (some o)) C fa_X11_37 rfl rfl ho dX11_likely_77 ?_
    obtain ⟨a1, h2, E⟩ := bnd E
    obtain ⟨hra1, hoa1⟩ := ob_is h2
    refine v_getR (r := (R o 7)) C fa_X11_120 rfl hra1 hoa1 dX11_likely_80 ?_
    obtain ⟨a3, h4, E⟩ := bnd E
    obtain ⟨hra3, hoa3⟩ := ob_is h4
    refine v_getI (r := (R a1 0)) C fa_X11_134 rfl hra3 hoa3 dX11_likely_83 ?_
    refine v_ishl C dX11_likely_86 ?_
    refine v_icmp_ge C 126 E dX11_likely_87 rfl (fun c17 E => ?_) (fun c17 E => ?_)
    · refine v_iload C 3 dX11_likely_126 rfl ?_
      refine v_iload C 4 dX11_likely_128 rfl ?_
      obtain ⟨q5, h6, E⟩ := bnd E
      refine v_callS (As := [.int x4, .int x5]) (rv := (some (.int q5))) (st := []) (st1 := [.int q5]) (ce1 := 0) (sl1 := 0) C cs_X11_268 (c_X11_commonDivisor (x0 := x4) (x1 := x5) h6) rfl rfl ⟨rfl, rfl, Nat.le_of_ble_eq_true rfl, Nat.le_of_ble_eq_true rfl⟩ ⟨Nat.le_of_ble_eq_true rfl, Nat.le_of_ble_eq_true rfl⟩ (Nat.le_of_ble_eq_true rfl) rfl rfl rfl dX11_likely_130 ?_
      refine v_istore C [(6, .int q5), (0, va_rf (some o)), (2, .int x2), (3, va_rf x3), (4, .int x4), (5, .int x5)] dX11_likely_133 (Nat.le_of_ble_eq_true rfl) rfl ?_
      refine v_iload C 0 dX11_likely_135 rfl ?_
      refine v_iconst C dX11_likely_137 k_iconst_1 ?_
      refine v_icmp_ge C 145 E dX11_likely_138 rfl (fun c10 E => ?_) (fun c10 E => ?_)
      · refine v_iload_n C 2 dX11_likely_145 rfl ?_
        refine v_if_ne C 158 E dX11_likely_146 rfl (fun c9 E => ?_) (fun c9 E => ?_)
        · refine v_iload C 4 dX11_likely_149 rfl ?_
          refine v_iload C 0 dX11_likely_151 rfl ?_
          refine v_idivq C E dX11_likely_153 (fun v8 _ E => ?_)
          refine v_i2l C dX11_likely_154 ?_
          refine v_goto C 164 dX11_likely_155 rfl ?_
          obtain rfl := Option.some.inj E
          exact v_lret C rfl dX11_likely_164
        · refine v_iload C 5 dX11_likely_158 rfl ?_
          refine v_iload C 0 dX11_likely_160 rfl ?_
          refine v_idivq C E dX11_likely_162 (fun v7 _ E => ?_)
          refine v_i2l C dX11_likely_163 ?_
          obtain rfl := Option.some.inj E
          exact v_lret C rfl dX11_likely_164
      · refine v_ldc2 C ct_X11_259 dX11_likely_141 ?_
        obtain rfl := Option.some.inj E
        exact v_lret C rfl dX11_likely_144
    · refine v_aload_n (r := (some o)) C 0 dX11_likely_90 rfl ?_
      refine v_iload C 5 dX11_likely_91 rfl ?_
      obtain ⟨q11, h12, E⟩ := bnd E
      refine v_callV (r := (some o)) (As := [.int x6]) (rv := (some (.int q11))) (st := []) (st1 := [.int q11]) (ce1 := 0) (sl1 := 0) C cv_X11_261 (c_X11_weightOf (x1 := x6) ho h12) rfl ho rfl rfl ⟨rfl, rfl, Nat.le_of_ble_eq_true rfl, Nat.le_of_ble_eq_true rfl⟩ ⟨Nat.le_of_ble_eq_true rfl, Nat.le_of_ble_eq_true rfl⟩ (Nat.le_of_ble_eq_true rfl) rfl rfl rfl dX11_likely_93 ?_
      refine v_istore C [(7, .int q11), (0, va_rf (some o)), (2, .int x2), (3, va_rf x3), (4, .int x4), (5, .int x5), (6, .int x6)] dX11_likely_96 (Nat.le_of_ble_eq_true rfl) rfl ?_
      refine v_iload C 0 dX11_likely_98 rfl ?_
      refine v_if_le C 120 E dX11_likely_100 rfl (fun c16 E => ?_) (fun c16 E => ?_)
      · refine v_iinc (v := x6 + 1) C 6 [(6, .int (x6 + 1)), (7, .int q11), (0, va_rf (some o)), (2, .int x2), (3, va_rf x3), (4, .int x4), (5, .int x5)] dX11_likely_120 rfl (k_inc_1 _) (Nat.le_of_ble_eq_true rfl) rfl ?_
        refine v_goto C 73 dX11_likely_123 rfl ?_
        exact v_sub [2, 3, 4, 5, 6, 0] [(0, va_rf (some o)), (2, .int x2), (3, va_rf x3), (4, .int x4), (5, .int x5), (6, .int (x6 + 1))] rfl (ih _ _ _ _ _ _ _ E)
      · refine v_aload_n (r := (some o)) C 1 dX11_likely_103 rfl ?_
        refine v_iload C 6 dX11_likely_104 rfl ?_
        refine v_aload_n (r := x3) C 3 dX11_likely_106 rfl ?_
        obtain ⟨q13, h14, E⟩ := bnd E
        refine v_callV (r := (some o)) (As := [.int x6, va_rf x3]) (rv := (some (.int q13.1))) (st := []) (st1 := [.int q13.1]) (ce1 := 0) (sl1 := 0) C cv_X11_264 (c_X11_comesOverWithDry (x1 := x6) (x2 := x3) ho h14) rfl ho rfl rfl ⟨rfl, rfl, Nat.le_of_ble_eq_true rfl, Nat.le_of_ble_eq_true rfl⟩ ⟨Nat.le_of_ble_eq_true rfl, Nat.le_of_ble_eq_true rfl⟩ (Nat.le_of_ble_eq_true rfl) rfl rfl rfl dX11_likely_107 ?_
        refine v_if_eq C 120 E dX11_likely_110 rfl (fun c15 E => ?_) (fun c15 E => ?_)
        · refine v_iinc (v := x6 + 1) C 6 [(6, .int (x6 + 1)), (7, .int q11), (0, va_rf (some o)), (2, .int x2), (3, va_rf x3), (4, .int x4), (5, .int x5)] dX11_likely_120 rfl (k_inc_1 _) (Nat.le_of_ble_eq_true rfl) rfl ?_
          refine v_goto C 73 dX11_likely_123 rfl ?_
          exact v_sub [2, 3, 4, 5, 6, 0] [(0, va_rf (some o)), (2, .int x2), (3, va_rf x3), (4, .int x4), (5, .int x5), (6, .int (x6 + 1))] rfl (ih _ _ _ _ _ _ _ E)
        · refine v_iload C 4 dX11_likely_113 rfl ?_
          refine v_iload C 0 dX11_likely_115 rfl ?_
          refine v_iadd C dX11_likely_117 ?_
          refine v_istore C [(4, .int (x4 + q11)), (7, .int q11), (0, va_rf (some o)), (2, .int x2), (3, va_rf x3), (5, .int x5), (6, .int x6)] dX11_likely_118 (Nat.le_of_ble_eq_true rfl) (by generalize x3 = rr; cases rr <;> rfl) ?_
          refine v_iinc (v := x6 + 1) C 6 [(6, .int (x6 + 1)), (4, .int (x4 + q11)), (7, .int q11), (0, va_rf (some o)), (2, .int x2), (3, va_rf x3), (5, .int x5)] dX11_likely_120 rfl (k_inc_1 _) (Nat.le_of_ble_eq_true rfl) rfl ?_
          refine v_goto C 73 dX11_likely_123 rfl ?_
          exact v_sub [3, 4, 5, 1, 6, 0] [(0, va_rf (some o)), (2, .int x2), (3, va_rf x3), (4, .int (x4 + q11)), (5, .int x5), (6, .int (x6 + 1))] rfl (ih _ _ _ _ _ _ _ E)
set_option maxHeartbeats 4000000 in
theorem w_X11_likely_42 (C : Cx D cA bs Z p s m args meth c cX11_likely RX11 8 (some .long)) {o : Nat} {K : Sh} {n : Nat} {J : Jm} (ho : (K o).1 = 12) (res : Int64 × Im × Rf)  : ∀ (k : Nat), ∀ (x2 : Int32) (x3 : Option Nat) (x4 : Int32) (x5 : Int32) (x6 : Int32) (I : Im) (R : Rf), f_X11_likely_42 K o k x2 x3 x4 x5 x6 I R = some res → VW D cA bs p l e rX11_likely s m args below meth c 8 [(0, va_rf (some o)), (2, .int x2), (3, va_rf x3), (4, .int x4), (5, .int x5), (6, .int x6)] K n I J R 0 0 (MQ below (QX D cA bs (some (.long res.1)) K n res.2.1 J res.2.2) args s 0 0 (fun q => bs ≤ q)) 42 [] := by
  intro k
  induction k with
  | zero =>
    intro x2 x3 x4 x5 x6 I R E
    have E : (none : Option (Int64 × Im × Rf)) = some res := E
    cases E
  | succ k ih =>
    intro x2 x3 x4 x5 x6 I R E
    unfold f_X11_likely_42 at E
    refine v_iload C 5 dX11_likely_42 rfl ?_
    refine v_aload_n (r := (some o)) C 0 dX11_likely_44 rfl ?_
    refine v_getR (r := (some o)) C fa_X11_37 rfl rfl ho dX11_likely_45 ?_
    obtain ⟨a18, h19, E⟩ := bnd E
    obtain ⟨hra18, hoa18⟩ := ob_is h19
    refine v_getR (r := (R o 7)) C fa_X11_120 rfl hra18 hoa18 dX11_likely_48 ?_
    obtain ⟨a20, h21, E⟩ := bnd E
    obtain ⟨hra20, hoa20⟩ := ob_is h21
    refine v_getI (r := (R a18 0)) C fa_X11_134 rfl hra20 hoa20 dX11_likely_51 ?_
    refine v_icmp_ge C 70 E dX11_likely_54 rfl (fun c22 E => ?_) (fun c22 E => ?_)
    · refine v_iconst C dX11_likely_70 k_iconst_0 ?_
      refine v_istore C [(6, .int 0), (0, va_rf (some o)), (2, .int x2), (3, va_rf x3), (4, .int x4), (5, .int x5)] dX11_likely_71 (Nat.le_of_ble_eq_true rfl) rfl ?_
      exact v_sub [1, 2, 3, 4, 5, 0] [(0, va_rf (some o)), (2, .int x2), (3, va_rf x3), (4, .int x4), (5, .int x5), (6, .int 0)] rfl (w_X11_likely_73 C ho res  _ _ _ _ _ _ _ _ E)
    · refine v_iload C 4 dX11_likely_57 rfl ?_
      refine v_bipush C dX11_likely_59 k_bipush_10 ?_
      refine v_imul C dX11_likely_61 ?_
      refine v_istore C [(5, .int (x5 * 10)), (0, va_rf (some o)), (2, .int x2), (3, va_rf x3), (4, .int x4), (6, .int x6)] dX11_likely_62 (Nat.le_of_ble_eq_true rfl) rfl ?_
      refine v_iinc (v := x6 + 1) C 5 [(6, .int (x6 + 1)), (5, .int (x5 * 10)), (0, va_rf (some o)), (2, .int x2), (3, va_rf x3), (4, .int x4)] dX11_likely_64 rfl (k_inc_1 _) (Nat.le_of_ble_eq_true rfl) rfl ?_
      refine v_goto C 42 dX11_likely_67 rfl ?_
      exact v_sub [2, 3, 4, 5, 1, 0] [(0, va_rf (some o)), (2, .int x2), (3, va_rf x3), (4, .int x4), (5, .int (x5 * 10)), (6, .int (x6 + 1))] rfl (ih _ _ _ _ _ _ _ E)
set_option maxHeartbeats 4000000 in
theorem w_X11_likely_0 (C : Cx D cA bs Z p s m args meth c cX11_likely RX11 8 (some .long)) {o : Nat} {K : Sh} {n : Nat} {J : Jm} (ho : (K o).1 = 12) (res : Int64 × Im × Rf) (x1 : Int32) (x2 : Int32) (I : Im) (R : Rf) (E : f_X11_likely K o x1 x2 I R = some res) : VW D cA bs p l e rX11_likely s m args below meth c 8 [(0, va_rf (some o)), (1, .int x1), (2, .int x2)] K n I J R 0 0 (MQ below (QX D cA bs (some (.long res.1)) K n res.2.1 J res.2.2) args s 0 0 (fun q => bs ≤ q)) 0 [] := by
  unfold f_X11_likely at E
  refine v_aload_n (r := (some o)) C 0 dX11_likely_0 rfl ?_
  refine v_iload_n C 1 dX11_likely_1 rfl ?_
  obtain ⟨q23, h24, E⟩ := bnd E
  refine v_callV (r := (some o)) (As := [.int x1]) (rv := (some (va_rf q23))) (st := []) (st1 := [va_rf q23]) (ce1 := 0) (sl1 := 0) C cv_X11_187 (c_X11_caravanAt (x1 := x1) ho h24) rfl ho rfl rfl ⟨rfl, rfl, Nat.le_of_ble_eq_true rfl, Nat.le_of_ble_eq_true rfl⟩ ⟨Nat.le_of_ble_eq_true rfl, Nat.le_of_ble_eq_true rfl⟩ (Nat.le_of_ble_eq_true rfl) rfl rfl rfl dX11_likely_2 ?_
  refine v_astore_n (r := q23) C [(3, va_rf q23), (0, va_rf (some o)), (1, .int x1), (2, .int x2)] dX11_likely_5 (Nat.le_of_ble_eq_true rfl) rfl ?_
  refine v_aload_n (r := q23) C 0 dX11_likely_6 rfl ?_
  refine v_ifnull (r := q23) C 29 E dX11_likely_7 rfl (fun c31 E => ?_) (fun c31 E => ?_)
  · refine v_ldc2 C ct_X11_259 dX11_likely_29 ?_
    obtain rfl := Option.some.inj E
    exact v_lret C rfl dX11_likely_32
  · refine v_iload_n C 3 dX11_likely_10 rfl ?_
    refine v_iconst C dX11_likely_11 k_iconst_0 ?_
    refine v_iconst C dX11_likely_12 k_iconst_1 ?_
    obtain ⟨q25, h26, E⟩ := bnd E
    refine v_callS (As := [.int x2, .int 0, .int 1]) (rv := (some (.int q25))) (st := []) (st1 := [.int q25]) (ce1 := 0) (sl1 := 0) C cs_X11_101 (c_X11_within (x0 := x2) (x1 := 0) (x2 := 1) h26) rfl rfl ⟨rfl, rfl, Nat.le_of_ble_eq_true rfl, Nat.le_of_ble_eq_true rfl⟩ ⟨Nat.le_of_ble_eq_true rfl, Nat.le_of_ble_eq_true rfl⟩ (Nat.le_of_ble_eq_true rfl) rfl rfl rfl dX11_likely_13 ?_
    refine v_if_eq C 29 E dX11_likely_16 rfl (fun c30 E => ?_) (fun c30 E => ?_)
    · refine v_ldc2 C ct_X11_259 dX11_likely_29 ?_
      obtain rfl := Option.some.inj E
      exact v_lret C rfl dX11_likely_32
    · refine v_aload_n (r := (some o)) C 1 dX11_likely_19 rfl ?_
      refine v_getR (r := (some o)) C fa_X11_37 rfl rfl ho dX11_likely_20 ?_
      obtain ⟨a27, h28, E⟩ := bnd E
      obtain ⟨hra27, hoa27⟩ := ob_is h28
      refine v_getR (r := (R o 7)) C fa_X11_120 rfl hra27 hoa27 dX11_likely_23 ?_
      refine v_ifnonnull (r := (R a27 0)) C 33 E dX11_likely_26 rfl (fun c29 E => ?_) (fun c29 E => ?_)
      · refine v_ldc2 C ct_X11_259 dX11_likely_29 ?_
        obtain rfl := Option.some.inj E
        exact v_lret C rfl dX11_likely_32
      · refine v_iconst C dX11_likely_33 k_iconst_0 ?_
        refine v_istore C [(4, .int 0), (3, va_rf q23), (0, va_rf (some o)), (1, .int x1), (2, .int x2)] dX11_likely_34 (Nat.le_of_ble_eq_true rfl) (by generalize q23 = rr; cases rr <;> rfl) ?_
        refine v_iconst C dX11_likely_36 k_iconst_1 ?_
        refine v_istore C [(5, .int 1), (4, .int 0), (3, va_rf q23), (0, va_rf (some o)), (1, .int x1), (2, .int x2)] dX11_likely_37 (Nat.le_of_ble_eq_true rfl) rfl ?_
        refine v_iconst C dX11_likely_39 k_iconst_0 ?_
        refine v_istore C [(6, .int 0), (5, .int 1), (4, .int 0), (3, va_rf q23), (0, va_rf (some o)), (1, .int x1), (2, .int x2)] dX11_likely_40 (Nat.le_of_ble_eq_true rfl) rfl ?_
        exact v_sub [4, 6, 3, 2, 1, 0] [(0, va_rf (some o)), (2, .int x2), (3, va_rf q23), (4, .int 0), (5, .int 1), (6, .int 0)] rfl (w_X11_likely_42 C ho res  _ _ _ _ _ _ _ _ E)
set_option maxHeartbeats 4000000 in
theorem c_X11_likely {n : Nat} {K : Sh} {I : Im} {J : Jm} {R : Rf} {o : Nat} {x1 : Int32} {x2 : Int32} (ho : (K o).1 = 12) {res : Int64 × Im × Rf} (E : f_X11_likely K o x1 x2 I R = some res) : Met l yX11_likely (Cond.code yX11_likely cX11_likely 8 (some .long) :: tb) rX11_likely (PX D cA bs Z [.ref o, .int x1, .int x2] K n I J R) (QX D cA bs (some (.long res.1)) K n res.2.1 J res.2.2) 0 0 (fun q => bs ≤ q) := by
  refine met_of (lv1 := [(0, va_rf (some o)), (1, .int x1), (2, .int x2)]) pn_X11 (by exact Nat.le_of_ble_eq_true rfl) (by rfl) ?_
  intro p e s m args below meth c C hn
  exact v_sub [0, 1, 2] [(0, va_rf (some o)), (1, .int x1), (2, .int x2)] rfl (w_X11_likely_0 C ho _ _ _ _ _ E)
set_option maxHeartbeats 4000000 in
theorem w_X11_dig_176 (C : Cx D cA bs Z p s m args meth c cX11_dig RX11 12 (some .int)) {o : Nat} {K : Sh} {n : Nat} {J : Jm} (ho : (K o).1 = 12) (res : Int32 × Im × Rf) (r75 : Int32 → Int32 → Int32 → Option Nat → Option Nat → Int32 → Int32 → Int32 → Im → Rf → Option (Int32 × Im × Rf)) (hr75 : ∀ (x2 : Int32) (x3 : Int32) (x4 : Int32) (x5 : Option Nat) (x6 : Option Nat) (x7 : Int32) (x8 : Int32) (x9 : Int32) (I : Im) (R : Rf), r75 x2 x3 x4 x5 x6 x7 x8 x9 I R = some res → VW D cA bs p l e rX11_dig s m args below meth c 12 [(0, va_rf (some o)), (2, .int x2), (3, .int x3), (4, .int x4), (5, va_rf x5), (6, va_rf x6), (7, .int x7), (8, .int x8), (9, .int x9)] K n I J R 0 0 (MQ below (QX D cA bs (some (.int res.1)) K n res.2.1 J res.2.2) args s 0 0 (fun q => bs ≤ q)) 75 []) (r97 : Int32 → Int32 → Int32 → Option Nat → Option Nat → Int32 → Int32 → Int32 → Int32 → Im → Rf → Option (Int32 × Im × Rf)) (hr97 : ∀ (x2 : Int32) (x3 : Int32) (x4 : Int32) (x5 : Option Nat) (x6 : Option Nat) (x7 : Int32) (x8 : Int32) (x9 : Int32) (x10 : Int32) (I : Im) (R : Rf), r97 x2 x3 x4 x5 x6 x7 x8 x9 x10 I R = some res → VW D cA bs p l e rX11_dig s m args below meth c 12 [(0, va_rf (some o)), (2, .int x2), (3, .int x3), (4, .int x4), (5, va_rf x5), (6, va_rf x6), (7, .int x7), (8, .int x8), (9, .int x9), (10, .int x10)] K n I J R 0 0 (MQ below (QX D cA bs (some (.int res.1)) K n res.2.1 J res.2.2) args s 0 0 (fun q => bs ≤ q)) 97 []) (x2 : Int32) (x3 : Int32) (x4 : Int32) (x5 : Option Nat) (x6 : Option Nat) (x9 : Int32) (x10 : Int32) (x11 : Int32) (I : Im) (R : Rf) (E : f_X11_dig_176 K o r75 r97 x2 x3 x4 x5 x6 x9 x10 x11 I R = some res) : VW D cA bs p l e rX11_dig s m args below meth c 12 [(0, va_rf (some o)), (2, .int x2), (3, .int x3), (4, .int x4), (5, va_rf x5), (6, va_rf x6), (9, .int x9), (10, .int x10), (11, .int x11)] K n I J R 0 0 (MQ below (QX D cA bs (some (.int res.1)) K n res.2.1 J res.2.2) args s 0 0 (fun q => bs ≤ q)) 176 [] := by
  unfold f_X11_dig_176 at E
  refine v_iload C 8 dX11_dig_176 rfl ?_
  refine v_istore C [(7, .int x11), (0, va_rf (some o)), (2, .int x2), (3, .int x3), (4, .int x4), (5, va_rf x5), (6, va_rf x6), (9, .int x9), (10, .int x10), (11, .int x11)] dX11_dig_178 (Nat.le_of_ble_eq_true rfl) (by generalize x6 = rr; cases rr <;> rfl) ?_
  refine v_bipush C dX11_dig_180 k_bipush_100 ?_
  refine v_iload C 7 dX11_dig_182 rfl ?_
  refine v_imul C dX11_dig_184 ?_
  refine v_iload C 8 dX11_dig_185 rfl ?_
  refine v_iadd C dX11_dig_187 ?_
  refine v_istore C [(8, .int ((100 * x9) + x10)), (7, .int x11), (0, va_rf (some o)), (2, .int x2), (3, .int x3), (4, .int x4), (5, va_rf x5), (6, va_rf x6), (9, .int x9), (10, .int x10), (11, .int x11)] dX11_dig_188 (Nat.le_of_ble_eq_true rfl) rfl ?_
  refine v_iinc (v := x10 + 1) C 9 [(10, .int (x10 + 1)), (8, .int ((100 * x9) + x10)), (7, .int x11), (0, va_rf (some o)), (2, .int x2), (3, .int x3), (4, .int x4), (5, va_rf x5), (6, va_rf x6), (9, .int x9), (11, .int x11)] dX11_dig_190 rfl (k_inc_1 _) (Nat.le_of_ble_eq_true rfl) rfl ?_
  refine v_goto C 97 dX11_dig_193 rfl ?_
  exact v_sub [3, 4, 5, 6, 7, 8, 2, 1, 9, 0] [(0, va_rf (some o)), (2, .int x2), (3, .int x3), (4, .int x4), (5, va_rf x5), (6, va_rf x6), (7, .int x11), (8, .int ((100 * x9) + x10)), (9, .int x9), (10, .int (x10 + 1))] rfl (hr97 _ _ _ _ _ _ _ _ _ _ _ E)
set_option maxHeartbeats 4000000 in
theorem w_X11_dig_97 (C : Cx D cA bs Z p s m args meth c cX11_dig RX11 12 (some .int)) {o : Nat} {K : Sh} {n : Nat} {J : Jm} (ho : (K o).1 = 12) (res : Int32 × Im × Rf) (r75 : Int32 → Int32 → Int32 → Option Nat → Option Nat → Int32 → Int32 → Int32 → Im → Rf → Option (Int32 × Im × Rf)) (hr75 : ∀ (x2 : Int32) (x3 : Int32) (x4 : Int32) (x5 : Option Nat) (x6 : Option Nat) (x7 : Int32) (x8 : Int32) (x9 : Int32) (I : Im) (R : Rf), r75 x2 x3 x4 x5 x6 x7 x8 x9 I R = some res → VW D cA bs p l e rX11_dig s m args below meth c 12 [(0, va_rf (some o)), (2, .int x2), (3, .int x3), (4, .int x4), (5, va_rf x5), (6, va_rf x6), (7, .int x7), (8, .int x8), (9, .int x9)] K n I J R 0 0 (MQ below (QX D cA bs (some (.int res.1)) K n res.2.1 J res.2.2) args s 0 0 (fun q => bs ≤ q)) 75 [])  : ∀ (k : Nat), ∀ (x2 : Int32) (x3 : Int32) (x4 : Int32) (x5 : Option Nat) (x6 : Option Nat) (x7 : Int32) (x8 : Int32) (x9 : Int32) (x10 : Int32) (I : Im) (R : Rf), f_X11_dig_97 K o r75 k x2 x3 x4 x5 x6 x7 x8 x9 x10 I R = some res → VW D cA bs p l e rX11_dig s m args below meth c 12 [(0, va_rf (some o)), (2, .int x2), (3, .int x3), (4, .int x4), (5, va_rf x5), (6, va_rf x6), (7, .int x7), (8, .int x8), (9, .int x9), (10, .int x10)] K n I J R 0 0 (MQ below (QX D cA bs (some (.int res.1)) K n res.2.1 J res.2.2) args s 0 0 (fun q => bs ≤ q)) 97 [] := by
  intro k
  induction k with
  | zero =>
    intro x2 x3 x4 x5 x6 x7 x8 x9 x10 I R E
    have E : (none : Option (Int32 × Im × Rf)) = some res := E
    cases E
  | succ k ih =>
    intro x2 x3 x4 x5 x6 x7 x8 x9 x10 I R E
    unfold f_X11_dig_97 at E
    refine v_iload C 9 dX11_dig_97 rfl ?_
    refine v_aload (r := x6) C 5 dX11_dig_99 rfl ?_
    obtain ⟨a1, h2, E⟩ := bnd E
    obtain ⟨hra1, hoa1⟩ := ob_is h2
    refine v_getR (r := x6) C fa_X11_142 rfl hra1 hoa1 dX11_dig_101 ?_
    refine v_iload C 8 dX11_dig_104 rfl ?_
    refine v_iald (r := (R a1 7)) C E dX11_dig_106 (fun v3 _ E => ?_)
    refine v_icmp_ge C 196 E dX11_dig_107 rfl (fun c19 E => ?_) (fun c19 E => ?_)
    · refine v_iinc (v := x9 + 1) C 8 [(9, .int (x9 + 1)), (0, va_rf (some o)), (2, .int x2), (3, .int x3), (4, .int x4), (5, va_rf x5), (6, va_rf x6), (7, .int x7), (8, .int x8), (10, .int x10)] dX11_dig_196 rfl (k_inc_1 _) (Nat.le_of_ble_eq_true rfl) rfl ?_
      refine v_goto C 75 dX11_dig_199 rfl ?_
      exact v_sub [1, 2, 3, 4, 5, 6, 7, 8, 0] [(0, va_rf (some o)), (2, .int x2), (3, .int x3), (4, .int x4), (5, va_rf x5), (6, va_rf x6), (7, .int x7), (8, .int x8), (9, .int (x9 + 1))] rfl (hr75 _ _ _ _ _ _ _ _ _ _ E)
    · refine v_aload_n (r := (some o)) C 0 dX11_dig_110 rfl ?_
      refine v_getR (r := (some o)) C fa_X11_88 rfl rfl ho dX11_dig_111 ?_
      refine v_aload (r := x6) C 5 dX11_dig_114 rfl ?_
      refine v_iload C 8 dX11_dig_116 rfl ?_
      refine v_iload C 9 dX11_dig_118 rfl ?_
      refine v_iload_n C 1 dX11_dig_120 rfl ?_
      refine v_iload_n C 2 dX11_dig_121 rfl ?_
      obtain ⟨a4, h5, E⟩ := bnd E
      obtain ⟨hra4, hoa4⟩ := ob_is h5
      obtain ⟨q6, h7, E⟩ := bnd E
      refine v_callV (r := (R o 16)) (As := [va_rf x6, .int x9, .int x10, .int x2, .int x3]) (rv := none) (st := []) (st1 := []) (ce1 := 0) (sl1 := 0) C cv_X11_271 (c_X9_becomeDug (x1 := x6) (x2 := x9) (x3 := x10) (x4 := x2) (x5 := x3) hoa4 h7) hra4 hoa4 rfl rfl ⟨rfl, rfl, Nat.le_of_ble_eq_true rfl, Nat.le_of_ble_eq_true rfl⟩ ⟨Nat.le_of_ble_eq_true rfl, Nat.le_of_ble_eq_true rfl⟩ (Nat.le_of_ble_eq_true rfl) rfl rfl rfl dX11_dig_122 ?_
      refine v_aload_n (r := (some o)) C 0 dX11_dig_125 rfl ?_
      refine v_getR (r := (some o)) C fa_X11_81 rfl rfl ho dX11_dig_126 ?_
      refine v_aload_n (r := (some o)) C 0 dX11_dig_129 rfl ?_
      refine v_getR (r := (some o)) C fa_X11_88 rfl rfl ho dX11_dig_130 ?_
      obtain ⟨a8, h9, E⟩ := bnd E
      obtain ⟨hra8, hoa8⟩ := ob_is h9
      obtain ⟨q10, h11, E⟩ := bnd E
      refine v_callV (r := (q6.2 o 15)) (As := [va_rf (q6.2 o 16)]) (rv := none) (st := []) (st1 := []) (ce1 := 0) (sl1 := 0) C cv_X11_126 (c_X10_fill (x1 := (q6.2 o 16)) hoa8 h11) hra8 hoa8 rfl rfl ⟨rfl, rfl, Nat.le_of_ble_eq_true rfl, Nat.le_of_ble_eq_true rfl⟩ ⟨Nat.le_of_ble_eq_true rfl, Nat.le_of_ble_eq_true rfl⟩ (Nat.le_of_ble_eq_true rfl) rfl rfl rfl dX11_dig_133 ?_
      refine v_aload_n (r := (some o)) C 0 dX11_dig_136 rfl ?_
      refine v_getR (r := (some o)) C fa_X11_67 rfl rfl ho dX11_dig_137 ?_
      refine v_aload_n (r := (some o)) C 0 dX11_dig_140 rfl ?_
      refine v_getR (r := (some o)) C fa_X11_88 rfl rfl ho dX11_dig_141 ?_
      refine v_aload_n (r := (some o)) C 0 dX11_dig_144 rfl ?_
      refine v_getR (r := (some o)) C fa_X11_81 rfl rfl ho dX11_dig_145 ?_
      refine v_aload (r := x5) C 4 dX11_dig_148 rfl ?_
      obtain ⟨a12, h13, E⟩ := bnd E
      obtain ⟨hra12, hoa12⟩ := ob_is h13
      obtain ⟨q14, h15, E⟩ := bnd E
      refine v_callV (r := (q6.2 o 13)) (As := [va_rf (q6.2 o 16), va_rf (q6.2 o 15), va_rf x5]) (rv := (some (.int q14.1))) (st := []) (st1 := [.int q14.1]) (ce1 := 0) (sl1 := 0) C cv_X11_275 (c_X3_earliest (x1 := (q6.2 o 16)) (x2 := (q6.2 o 15)) (x3 := x5) hoa12 h15) hra12 hoa12 rfl rfl ⟨rfl, rfl, Nat.le_of_ble_eq_true rfl, Nat.le_of_ble_eq_true rfl⟩ ⟨Nat.le_of_ble_eq_true rfl, Nat.le_of_ble_eq_true rfl⟩ (Nat.le_of_ble_eq_true rfl) rfl rfl rfl dX11_dig_150 ?_
      refine v_istore C [(11, .int q14.1), (0, va_rf (some o)), (2, .int x2), (3, .int x3), (4, .int x4), (5, va_rf x5), (6, va_rf x6), (7, .int x7), (8, .int x8), (9, .int x9), (10, .int x10)] dX11_dig_153 (Nat.le_of_ble_eq_true rfl) rfl ?_
      refine v_iload C 0 dX11_dig_155 rfl ?_
      refine v_bipush C dX11_dig_157 k_bipush_m5 ?_
      refine v_icmp_eq C 190 E dX11_dig_159 rfl (fun c18 E => ?_) (fun c18 E => ?_)
      · refine v_iinc (v := x10 + 1) C 10 [(10, .int (x10 + 1)), (11, .int q14.1), (0, va_rf (some o)), (2, .int x2), (3, .int x3), (4, .int x4), (5, va_rf x5), (6, va_rf x6), (7, .int x7), (8, .int x8), (9, .int x9)] dX11_dig_190 rfl (k_inc_1 _) (Nat.le_of_ble_eq_true rfl) rfl ?_
        refine v_goto C 97 dX11_dig_193 rfl ?_
        exact v_sub [2, 3, 4, 5, 6, 7, 8, 9, 10, 0] [(0, va_rf (some o)), (2, .int x2), (3, .int x3), (4, .int x4), (5, va_rf x5), (6, va_rf x6), (7, .int x7), (8, .int x8), (9, .int x9), (10, .int (x10 + 1))] rfl (ih _ _ _ _ _ _ _ _ _ _ _ E)
      · refine v_iload C 7 dX11_dig_162 rfl ?_
        refine v_bipush C dX11_dig_164 k_bipush_m5 ?_
        refine v_icmp_eq C 176 E dX11_dig_166 rfl (fun c17 E => ?_) (fun c17 E => ?_)
        · exact v_sub [1, 2, 3, 4, 5, 6, 9, 10, 0] [(0, va_rf (some o)), (2, .int x2), (3, .int x3), (4, .int x4), (5, va_rf x5), (6, va_rf x6), (9, .int x9), (10, .int x10), (11, .int q14.1)] rfl (w_X11_dig_176 C ho res _ hr75 _ ih _ _ _ _ _ _ _ _ _ _ E)
        · refine v_iload C 0 dX11_dig_169 rfl ?_
          refine v_iload C 7 dX11_dig_171 rfl ?_
          refine v_icmp_ge C 190 E dX11_dig_173 rfl (fun c16 E => ?_) (fun c16 E => ?_)
          · refine v_iinc (v := x10 + 1) C 10 [(10, .int (x10 + 1)), (11, .int q14.1), (0, va_rf (some o)), (2, .int x2), (3, .int x3), (4, .int x4), (5, va_rf x5), (6, va_rf x6), (7, .int x7), (8, .int x8), (9, .int x9)] dX11_dig_190 rfl (k_inc_1 _) (Nat.le_of_ble_eq_true rfl) rfl ?_
            refine v_goto C 97 dX11_dig_193 rfl ?_
            exact v_sub [2, 3, 4, 5, 6, 7, 8, 9, 10, 0] [(0, va_rf (some o)), (2, .int x2), (3, .int x3), (4, .int x4), (5, va_rf x5), (6, va_rf x6), (7, .int x7), (8, .int x8), (9, .int x9), (10, .int (x10 + 1))] rfl (ih _ _ _ _ _ _ _ _ _ _ _ E)
          · exact v_sub [1, 2, 3, 4, 5, 6, 9, 10, 0] [(0, va_rf (some o)), (2, .int x2), (3, .int x3), (4, .int x4), (5, va_rf x5), (6, va_rf x6), (9, .int x9), (10, .int x10), (11, .int q14.1)] rfl (w_X11_dig_176 C ho res _ hr75 _ ih _ _ _ _ _ _ _ _ _ _ E)
set_option maxHeartbeats 4000000 in
theorem w_X11_dig_202 (C : Cx D cA bs Z p s m args meth c cX11_dig RX11 12 (some .int)) {o : Nat} {K : Sh} {n : Nat} {J : Jm} (ho : (K o).1 = 12) (res : Int32 × Im × Rf) (x4 : Int32) (x7 : Int32) (x8 : Int32) (I : Im) (R : Rf) (E : f_X11_dig_202 K o x4 x7 x8 I R = some res) : VW D cA bs p l e rX11_dig s m args below meth c 12 [(0, va_rf (some o)), (4, .int x4), (7, .int x7), (8, .int x8)] K n I J R 0 0 (MQ below (QX D cA bs (some (.int res.1)) K n res.2.1 J res.2.2) args s 0 0 (fun q => bs ≤ q)) 202 [] := by
  unfold f_X11_dig_202 at E
  refine v_iload C 1 dX11_dig_202 rfl ?_
  refine v_if_ne C 212 E dX11_dig_204 rfl (fun c20 E => ?_) (fun c20 E => ?_)
  · refine v_iload C 3 dX11_dig_207 rfl ?_
    refine v_goto C 214 dX11_dig_209 rfl ?_
    obtain rfl := Option.some.inj E
    exact v_iret C rfl dX11_dig_214
  · refine v_iload C 2 dX11_dig_212 rfl ?_
    obtain rfl := Option.some.inj E
    exact v_iret C rfl dX11_dig_214
set_option maxHeartbeats 4000000 in
theorem w_X11_dig_75 (C : Cx D cA bs Z p s m args meth c cX11_dig RX11 12 (some .int)) {o : Nat} {K : Sh} {n : Nat} {J : Jm} (ho : (K o).1 = 12) (res : Int32 × Im × Rf)  : ∀ (k : Nat), ∀ (x2 : Int32) (x3 : Int32) (x4 : Int32) (x5 : Option Nat) (x6 : Option Nat) (x7 : Int32) (x8 : Int32) (x9 : Int32) (I : Im) (R : Rf), f_X11_dig_75 K o k x2 x3 x4 x5 x6 x7 x8 x9 I R = some res → VW D cA bs p l e rX11_dig s m args below meth c 12 [(0, va_rf (some o)), (2, .int x2), (3, .int x3), (4, .int x4), (5, va_rf x5), (6, va_rf x6), (7, .int x7), (8, .int x8), (9, .int x9)] K n I J R 0 0 (MQ below (QX D cA bs (some (.int res.1)) K n res.2.1 J res.2.2) args s 0 0 (fun q => bs ≤ q)) 75 [] := by
  intro k
  induction k with
  | zero =>
    intro x2 x3 x4 x5 x6 x7 x8 x9 I R E
    have E : (none : Option (Int32 × Im × Rf)) = some res := E
    cases E
  | succ k ih =>
    intro x2 x3 x4 x5 x6 x7 x8 x9 I R E
    unfold f_X11_dig_75 at E
    refine v_iload C 8 dX11_dig_75 rfl ?_
    refine v_aload (r := x6) C 5 dX11_dig_77 rfl ?_
    obtain ⟨a21, h22, E⟩ := bnd E
    obtain ⟨hra21, hoa21⟩ := ob_is h22
    refine v_getI (r := x6) C fa_X11_134 rfl hra21 hoa21 dX11_dig_79 ?_
    refine v_icmp_gt C 202 E dX11_dig_82 rfl (fun c24 E => ?_) (fun c24 E => ?_)
    · exact v_sub [0, 3, 6, 7] [(0, va_rf (some o)), (4, .int x4), (7, .int x7), (8, .int x8)] rfl (w_X11_dig_202 C ho res  _ _ _ _ _ E)
    · refine v_aload (r := x6) C 5 dX11_dig_85 rfl ?_
      refine v_getI (r := x6) C fa_X11_134 rfl hra21 hoa21 dX11_dig_87 ?_
      refine v_iconst C dX11_dig_90 k_iconst_5 ?_
      refine v_icmp_ge C 202 E dX11_dig_91 rfl (fun c23 E => ?_) (fun c23 E => ?_)
      · exact v_sub [0, 3, 6, 7] [(0, va_rf (some o)), (4, .int x4), (7, .int x7), (8, .int x8)] rfl (w_X11_dig_202 C ho res  _ _ _ _ _ E)
      · refine v_iconst C dX11_dig_94 k_iconst_1 ?_
        refine v_istore C [(10, .int 1), (0, va_rf (some o)), (2, .int x2), (3, .int x3), (4, .int x4), (5, va_rf x5), (6, va_rf x6), (7, .int x7), (8, .int x8), (9, .int x9)] dX11_dig_95 (Nat.le_of_ble_eq_true rfl) rfl ?_
        exact v_sub [1, 2, 3, 4, 5, 6, 7, 8, 9, 0] [(0, va_rf (some o)), (2, .int x2), (3, .int x3), (4, .int x4), (5, va_rf x5), (6, va_rf x6), (7, .int x7), (8, .int x8), (9, .int x9), (10, .int 1)] rfl (w_X11_dig_97 C ho res _ ih _ _ _ _ _ _ _ _ _ _ _ _ E)
set_option maxHeartbeats 4000000 in
theorem w_X11_dig_0 (C : Cx D cA bs Z p s m args meth c cX11_dig RX11 12 (some .int)) {o : Nat} {K : Sh} {n : Nat} {J : Jm} (ho : (K o).1 = 12) (res : Int32 × Im × Rf) (x1 : Int32) (x2 : Int32) (x3 : Int32) (x4 : Int32) (I : Im) (R : Rf) (E : f_X11_dig K o x1 x2 x3 x4 I R = some res) : VW D cA bs p l e rX11_dig s m args below meth c 12 [(0, va_rf (some o)), (1, .int x1), (2, .int x2), (3, .int x3), (4, .int x4)] K n I J R 0 0 (MQ below (QX D cA bs (some (.int res.1)) K n res.2.1 J res.2.2) args s 0 0 (fun q => bs ≤ q)) 0 [] := by
  unfold f_X11_dig at E
  refine v_aload_n (r := (some o)) C 0 dX11_dig_0 rfl ?_
  refine v_iload_n C 1 dX11_dig_1 rfl ?_
  obtain ⟨q25, h26, E⟩ := bnd E
  refine v_callV (r := (some o)) (As := [.int x1]) (rv := (some (va_rf q25))) (st := []) (st1 := [va_rf q25]) (ce1 := 0) (sl1 := 0) C cv_X11_187 (c_X11_caravanAt (x1 := x1) ho h26) rfl ho rfl rfl ⟨rfl, rfl, Nat.le_of_ble_eq_true rfl, Nat.le_of_ble_eq_true rfl⟩ ⟨Nat.le_of_ble_eq_true rfl, Nat.le_of_ble_eq_true rfl⟩ (Nat.le_of_ble_eq_true rfl) rfl rfl rfl dX11_dig_2 ?_
  refine v_astore (r := q25) C [(5, va_rf q25), (0, va_rf (some o)), (1, .int x1), (2, .int x2), (3, .int x3), (4, .int x4)] dX11_dig_5 (Nat.le_of_ble_eq_true rfl) rfl ?_
  refine v_aload (r := q25) C 0 dX11_dig_7 rfl ?_
  refine v_ifnull (r := q25) C 22 E dX11_dig_9 rfl (fun c39 E => ?_) (fun c39 E => ?_)
  · refine v_iconst C dX11_dig_22 k_iconst_m1 ?_
    obtain rfl := Option.some.inj E
    exact v_iret C rfl dX11_dig_23
  · refine v_iload C 5 dX11_dig_12 rfl ?_
    refine v_iconst C dX11_dig_14 k_iconst_0 ?_
    refine v_iconst C dX11_dig_15 k_iconst_1 ?_
    obtain ⟨q27, h28, E⟩ := bnd E
    refine v_callS (As := [.int x4, .int 0, .int 1]) (rv := (some (.int q27))) (st := []) (st1 := [.int q27]) (ce1 := 0) (sl1 := 0) C cs_X11_101 (c_X11_within (x0 := x4) (x1 := 0) (x2 := 1) h28) rfl rfl ⟨rfl, rfl, Nat.le_of_ble_eq_true rfl, Nat.le_of_ble_eq_true rfl⟩ ⟨Nat.le_of_ble_eq_true rfl, Nat.le_of_ble_eq_true rfl⟩ (Nat.le_of_ble_eq_true rfl) rfl rfl rfl dX11_dig_16 ?_
    refine v_if_ne C 24 E dX11_dig_19 rfl (fun c38 E => ?_) (fun c38 E => ?_)
    · refine v_iconst C dX11_dig_22 k_iconst_m1 ?_
      obtain rfl := Option.some.inj E
      exact v_iret C rfl dX11_dig_23
    · refine v_iload_n C 3 dX11_dig_24 rfl ?_
      refine v_iconst C dX11_dig_25 k_iconst_0 ?_
      refine v_bipush C dX11_dig_26 k_bipush_99 ?_
      obtain ⟨q29, h30, E⟩ := bnd E
      refine v_callS (As := [.int x2, .int 0, .int 99]) (rv := (some (.int q29))) (st := []) (st1 := [.int q29]) (ce1 := 0) (sl1 := 0) C cs_X11_101 (c_X11_within (x0 := x2) (x1 := 0) (x2 := 99) h30) rfl rfl ⟨rfl, rfl, Nat.le_of_ble_eq_true rfl, Nat.le_of_ble_eq_true rfl⟩ ⟨Nat.le_of_ble_eq_true rfl, Nat.le_of_ble_eq_true rfl⟩ (Nat.le_of_ble_eq_true rfl) rfl rfl rfl dX11_dig_28 ?_
      refine v_if_eq C 44 E dX11_dig_31 rfl (fun c37 E => ?_) (fun c37 E => ?_)
      · refine v_bipush C dX11_dig_44 k_bipush_m2 ?_
        obtain rfl := Option.some.inj E
        exact v_iret C rfl dX11_dig_46
      · refine v_iload_n C 4 dX11_dig_34 rfl ?_
        refine v_iconst C dX11_dig_35 k_iconst_0 ?_
        refine v_bipush C dX11_dig_36 k_bipush_99 ?_
        obtain ⟨q31, h32, E⟩ := bnd E
        refine v_callS (As := [.int x3, .int 0, .int 99]) (rv := (some (.int q31))) (st := []) (st1 := [.int q31]) (ce1 := 0) (sl1 := 0) C cs_X11_101 (c_X11_within (x0 := x3) (x1 := 0) (x2 := 99) h32) rfl rfl ⟨rfl, rfl, Nat.le_of_ble_eq_true rfl, Nat.le_of_ble_eq_true rfl⟩ ⟨Nat.le_of_ble_eq_true rfl, Nat.le_of_ble_eq_true rfl⟩ (Nat.le_of_ble_eq_true rfl) rfl rfl rfl dX11_dig_38 ?_
        refine v_if_ne C 47 E dX11_dig_41 rfl (fun c36 E => ?_) (fun c36 E => ?_)
        · refine v_bipush C dX11_dig_44 k_bipush_m2 ?_
          obtain rfl := Option.some.inj E
          exact v_iret C rfl dX11_dig_46
        · refine v_aload_n (r := (some o)) C 1 dX11_dig_47 rfl ?_
          refine v_getR (r := (some o)) C fa_X11_37 rfl rfl ho dX11_dig_48 ?_
          obtain ⟨a33, h34, E⟩ := bnd E
          obtain ⟨hra33, hoa33⟩ := ob_is h34
          refine v_getR (r := (R o 7)) C fa_X11_120 rfl hra33 hoa33 dX11_dig_51 ?_
          refine v_astore (r := (R a33 0)) C [(6, va_rf (R a33 0)), (5, va_rf q25), (0, va_rf (some o)), (1, .int x1), (2, .int x2), (3, .int x3), (4, .int x4)] dX11_dig_54 (Nat.le_of_ble_eq_true rfl) (by generalize q25 = rr; cases rr <;> rfl) ?_
          refine v_aload (r := (R a33 0)) C 0 dX11_dig_56 rfl ?_
          refine v_ifnonnull (r := (R a33 0)) C 64 E dX11_dig_58 rfl (fun c35 E => ?_) (fun c35 E => ?_)
          · refine v_bipush C dX11_dig_61 k_bipush_m3 ?_
            obtain rfl := Option.some.inj E
            exact v_iret C rfl dX11_dig_63
          · refine v_bipush C dX11_dig_64 k_bipush_m5 ?_
            refine v_istore C [(7, .int (-5)), (6, va_rf (R a33 0)), (5, va_rf q25), (0, va_rf (some o)), (1, .int x1), (2, .int x2), (3, .int x3), (4, .int x4)] dX11_dig_66 (Nat.le_of_ble_eq_true rfl) (by generalize (R a33 0) = rr; cases rr <;> rfl) ?_
            refine v_bipush C dX11_dig_68 k_bipush_m5 ?_
            refine v_istore C [(8, .int (-5)), (7, .int (-5)), (6, va_rf (R a33 0)), (5, va_rf q25), (0, va_rf (some o)), (1, .int x1), (2, .int x2), (3, .int x3), (4, .int x4)] dX11_dig_70 (Nat.le_of_ble_eq_true rfl) rfl ?_
            refine v_iconst C dX11_dig_72 k_iconst_0 ?_
            refine v_istore C [(9, .int 0), (8, .int (-5)), (7, .int (-5)), (6, va_rf (R a33 0)), (5, va_rf q25), (0, va_rf (some o)), (1, .int x1), (2, .int x2), (3, .int x3), (4, .int x4)] dX11_dig_73 (Nat.le_of_ble_eq_true rfl) rfl ?_
            exact v_sub [5, 7, 8, 9, 4, 3, 2, 1, 0] [(0, va_rf (some o)), (2, .int x2), (3, .int x3), (4, .int x4), (5, va_rf q25), (6, va_rf (R a33 0)), (7, .int (-5)), (8, .int (-5)), (9, .int 0)] rfl (w_X11_dig_75 C ho res  _ _ _ _ _ _ _ _ _ _ _ E)
set_option maxHeartbeats 4000000 in
theorem c_X11_dig {n : Nat} {K : Sh} {I : Im} {J : Jm} {R : Rf} {o : Nat} {x1 : Int32} {x2 : Int32} {x3 : Int32} {x4 : Int32} (ho : (K o).1 = 12) {res : Int32 × Im × Rf} (E : f_X11_dig K o x1 x2 x3 x4 I R = some res) : Met l yX11_dig (Cond.code yX11_dig cX11_dig 12 (some .int) :: tb) rX11_dig (PX D cA bs Z [.ref o, .int x1, .int x2, .int x3, .int x4] K n I J R) (QX D cA bs (some (.int res.1)) K n res.2.1 J res.2.2) 0 0 (fun q => bs ≤ q) := by
  refine met_of (lv1 := [(0, va_rf (some o)), (1, .int x1), (2, .int x2), (3, .int x3), (4, .int x4)]) pn_X11 (by exact Nat.le_of_ble_eq_true rfl) (by rfl) ?_
  intro p e s m args below meth c C hn
  exact v_sub [0, 1, 2, 3, 4] [(0, va_rf (some o)), (1, .int x1), (2, .int x2), (3, .int x3), (4, .int x4)] rfl (w_X11_dig_0 C ho _ _ _ _ _ _ _ E)
set_option maxHeartbeats 4000000 in
theorem w_X11_tapeAt_0 (C : Cx D cA bs Z p s m args meth c cX11_tapeAt RX11 2 (some (.object "SlowWells$Tape"))) {o : Nat} {K : Sh} {n : Nat} {I : Im} {J : Jm} {R : Rf} (ho : (K o).1 = 12) (res : (Option Nat)) (x1 : Int32) (E : f_X11_tapeAt K R o x1 = some res) : VW D cA bs p l e rX11_tapeAt s m args below meth c 2 [(0, va_rf (some o)), (1, .int x1)] K n I J R 0 0 (MQ below (QX D cA bs (some (va_rf res)) K n I J R) args s 0 0 (fun q => bs ≤ q)) 0 [] := by
  unfold f_X11_tapeAt at E
  refine v_iload_n C 1 dX11_tapeAt_0 rfl ?_
  refine v_if_lt C 19 E dX11_tapeAt_1 rfl (fun c3 E => ?_) (fun c3 E => ?_)
  · refine v_null C dX11_tapeAt_19 ?_
    obtain rfl := Option.some.inj E
    exact v_aret C rfl dX11_tapeAt_20
  · refine v_iload_n C 1 dX11_tapeAt_4 rfl ?_
    refine v_bipush C dX11_tapeAt_5 k_bipush_6 ?_
    refine v_icmp_ge C 19 E dX11_tapeAt_7 rfl (fun c2 E => ?_) (fun c2 E => ?_)
    · refine v_null C dX11_tapeAt_19 ?_
      obtain rfl := Option.some.inj E
      exact v_aret C rfl dX11_tapeAt_20
    · refine v_aload_n (r := (some o)) C 0 dX11_tapeAt_10 rfl ?_
      refine v_getR (r := (some o)) C fa_X11_46 rfl rfl ho dX11_tapeAt_11 ?_
      refine v_iload_n C 1 dX11_tapeAt_14 rfl ?_
      refine v_aald (r := (R o 10)) C (by decide) E dX11_tapeAt_15 (fun v1 _ E => ?_)
      refine v_goto C 20 dX11_tapeAt_16 rfl ?_
      obtain rfl := Option.some.inj E
      exact v_aret C rfl dX11_tapeAt_20
set_option maxHeartbeats 4000000 in
theorem c_X11_tapeAt {n : Nat} {K : Sh} {I : Im} {J : Jm} {R : Rf} {o : Nat} {x1 : Int32} (ho : (K o).1 = 12) {res : (Option Nat)} (E : f_X11_tapeAt K R o x1 = some res) : Met l yX11_tapeAt (Cond.code yX11_tapeAt cX11_tapeAt 2 (some (.object "SlowWells$Tape")) :: tb) rX11_tapeAt (PX D cA bs Z [.ref o, .int x1] K n I J R) (QX D cA bs (some (va_rf res)) K n I J R) 0 0 (fun q => bs ≤ q) := by
  refine met_of (lv1 := [(0, va_rf (some o)), (1, .int x1)]) pn_X11 (by exact Nat.le_of_ble_eq_true rfl) (by rfl) ?_
  intro p e s m args below meth c C hn
  exact v_sub [0, 1] [(0, va_rf (some o)), (1, .int x1)] rfl (w_X11_tapeAt_0 C ho _ _ E)
set_option maxHeartbeats 4000000 in
theorem w_X11_copyStands_39 (C : Cx D cA bs Z p s m args meth c cX11_copyStands RX11 6 (some .int)) {o : Nat} {K : Sh} {n : Nat} {J : Jm} {R : Rf} (ho : (K o).1 = 12) (res : Int32 × Im)  : ∀ (k : Nat), ∀ (x1 : Option Nat) (x2 : Int32) (x3 : Int32) (x4 : Int32) (x5 : Int32) (I : Im), f_X11_copyStands_39 K J R o k x1 x2 x3 x4 x5 I = some res → VW D cA bs p l e rX11_copyStands s m args below meth c 6 [(0, va_rf (some o)), (1, va_rf x1), (2, .int x2), (3, .int x3), (4, .int x4), (5, .int x5)] K n I J R 0 0 (MQ below (QX D cA bs (some (.int res.1)) K n res.2 J R) args s 0 0 (fun q => bs ≤ q)) 39 [] := by
  intro k
  induction k with
  | zero =>
    intro x1 x2 x3 x4 x5 I E
    have E : (none : Option (Int32 × Im)) = some res := E
    cases E
  | succ k ih =>
    intro x1 x2 x3 x4 x5 I E
    unfold f_X11_copyStands_39 at E
    refine v_iload C 5 dX11_copyStands_39 rfl ?_
    refine v_iload_n C 3 dX11_copyStands_41 rfl ?_
    refine v_icmp_ge C 119 E dX11_copyStands_42 rfl (fun c13 E => ?_) (fun c13 E => ?_)
    · refine v_iload C 4 dX11_copyStands_119 rfl ?_
      obtain rfl := Option.some.inj E
      exact v_iret C rfl dX11_copyStands_121
    · refine v_iload C 4 dX11_copyStands_45 rfl ?_
      refine v_iload C 5 dX11_copyStands_47 rfl ?_
      refine v_icmp_ne C 119 E dX11_copyStands_49 rfl (fun c12 E => ?_) (fun c12 E => ?_)
      · refine v_aload_n (r := x1) C 1 dX11_copyStands_52 rfl ?_
        refine v_iload_n C 2 dX11_copyStands_53 rfl ?_
        refine v_iload C 5 dX11_copyStands_54 rfl ?_
        refine v_iadd C dX11_copyStands_56 ?_
        obtain ⟨a1, h2, E⟩ := bnd E
        obtain ⟨hra1, hoa1⟩ := ob_is h2
        obtain ⟨q3, h4, E⟩ := bnd E
        refine v_callV (r := x1) (As := [.int (x2 + x5)]) (rv := (some (.int q3))) (st := []) (st1 := [.int q3]) (ce1 := 0) (sl1 := 0) C cv_X11_293 (c_X7_isPlace (x1 := (x2 + x5)) hoa1 h4) hra1 hoa1 rfl rfl ⟨rfl, rfl, Nat.le_of_ble_eq_true rfl, Nat.le_of_ble_eq_true rfl⟩ ⟨Nat.le_of_ble_eq_true rfl, Nat.le_of_ble_eq_true rfl⟩ (Nat.le_of_ble_eq_true rfl) rfl rfl rfl dX11_copyStands_57 ?_
        refine v_if_eq C 113 E dX11_copyStands_60 rfl (fun c11 E => ?_) (fun c11 E => ?_)
        · refine v_iinc (v := x5 + 1) C 5 [(5, .int (x5 + 1)), (0, va_rf (some o)), (1, va_rf x1), (2, .int x2), (3, .int x3), (4, .int x4)] dX11_copyStands_113 rfl (k_inc_1 _) (Nat.le_of_ble_eq_true rfl) rfl ?_
          refine v_goto C 39 dX11_copyStands_116 rfl ?_
          exact v_sub [1, 2, 3, 4, 5, 0] [(0, va_rf (some o)), (1, va_rf x1), (2, .int x2), (3, .int x3), (4, .int x4), (5, .int (x5 + 1))] rfl (ih _ _ _ _ _ _ E)
        · refine v_aload_n (r := x1) C 1 dX11_copyStands_63 rfl ?_
          refine v_getR (r := x1) C fa_X11_319 rfl hra1 hoa1 dX11_copyStands_64 ?_
          refine v_iload_n C 2 dX11_copyStands_67 rfl ?_
          refine v_iload C 5 dX11_copyStands_68 rfl ?_
          refine v_iadd C dX11_copyStands_70 ?_
          refine v_lald (r := (R a1 2)) C E dX11_copyStands_71 (fun v5 _ E => ?_)
          refine v_lconst (v := 0) C dX11_copyStands_72 (by decide) ?_
          refine v_lcmp C dX11_copyStands_73 ?_
          refine v_if_lt C 113 E dX11_copyStands_74 rfl (fun c10 E => ?_) (fun c10 E => ?_)
          · refine v_iinc (v := x5 + 1) C 5 [(5, .int (x5 + 1)), (0, va_rf (some o)), (1, va_rf x1), (2, .int x2), (3, .int x3), (4, .int x4)] dX11_copyStands_113 rfl (k_inc_1 _) (Nat.le_of_ble_eq_true rfl) rfl ?_
            refine v_goto C 39 dX11_copyStands_116 rfl ?_
            exact v_sub [1, 2, 3, 4, 5, 0] [(0, va_rf (some o)), (1, va_rf x1), (2, .int x2), (3, .int x3), (4, .int x4), (5, .int (x5 + 1))] rfl (ih _ _ _ _ _ _ E)
          · refine v_aload_n (r := x1) C 1 dX11_copyStands_77 rfl ?_
            refine v_getR (r := x1) C fa_X11_319 rfl hra1 hoa1 dX11_copyStands_78 ?_
            refine v_iload_n C 2 dX11_copyStands_81 rfl ?_
            refine v_iload C 5 dX11_copyStands_82 rfl ?_
            refine v_iadd C dX11_copyStands_84 ?_
            refine v_lald (r := (R a1 2)) C E dX11_copyStands_85 (fun v6 _ E => ?_)
            refine v_ldc2 C ct_X11_365 dX11_copyStands_86 ?_
            refine v_lcmp C dX11_copyStands_89 ?_
            refine v_if_gt C 113 E dX11_copyStands_90 rfl (fun c9 E => ?_) (fun c9 E => ?_)
            · refine v_iinc (v := x5 + 1) C 5 [(5, .int (x5 + 1)), (0, va_rf (some o)), (1, va_rf x1), (2, .int x2), (3, .int x3), (4, .int x4)] dX11_copyStands_113 rfl (k_inc_1 _) (Nat.le_of_ble_eq_true rfl) rfl ?_
              refine v_goto C 39 dX11_copyStands_116 rfl ?_
              exact v_sub [1, 2, 3, 4, 5, 0] [(0, va_rf (some o)), (1, va_rf x1), (2, .int x2), (3, .int x3), (4, .int x4), (5, .int (x5 + 1))] rfl (ih _ _ _ _ _ _ E)
            · refine v_aload_n (r := (some o)) C 0 dX11_copyStands_93 rfl ?_
              refine v_getR (r := (some o)) C fa_X11_96 rfl rfl ho dX11_copyStands_94 ?_
              refine v_iload C 5 dX11_copyStands_97 rfl ?_
              refine v_aload_n (r := x1) C 1 dX11_copyStands_99 rfl ?_
              refine v_getR (r := x1) C fa_X11_319 rfl hra1 hoa1 dX11_copyStands_100 ?_
              refine v_iload_n C 2 dX11_copyStands_103 rfl ?_
              refine v_iload C 5 dX11_copyStands_104 rfl ?_
              refine v_iadd C dX11_copyStands_106 ?_
              refine v_lald (r := (R a1 2)) C E dX11_copyStands_107 (fun v7 _ E => ?_)
              refine v_l2i C dX11_copyStands_108 ?_
              refine v_iast (r := (R o 18)) C E dX11_copyStands_109 (fun I8 _ E => ?_)
              refine v_iinc (v := x4 + 1) C 4 [(4, .int (x4 + 1)), (0, va_rf (some o)), (1, va_rf x1), (2, .int x2), (3, .int x3), (5, .int x5)] dX11_copyStands_110 rfl (k_inc_1 _) (Nat.le_of_ble_eq_true rfl) rfl ?_
              refine v_iinc (v := x5 + 1) C 5 [(5, .int (x5 + 1)), (4, .int (x4 + 1)), (0, va_rf (some o)), (1, va_rf x1), (2, .int x2), (3, .int x3)] dX11_copyStands_113 rfl (k_inc_1 _) (Nat.le_of_ble_eq_true rfl) rfl ?_
              refine v_goto C 39 dX11_copyStands_116 rfl ?_
              exact v_sub [2, 3, 4, 5, 1, 0] [(0, va_rf (some o)), (1, va_rf x1), (2, .int x2), (3, .int x3), (4, .int (x4 + 1)), (5, .int (x5 + 1))] rfl (ih _ _ _ _ _ _ E)
      · refine v_iload C 4 dX11_copyStands_119 rfl ?_
        obtain rfl := Option.some.inj E
        exact v_iret C rfl dX11_copyStands_121
set_option maxHeartbeats 4000000 in
theorem w_X11_copyStands_3 (C : Cx D cA bs Z p s m args meth c cX11_copyStands RX11 6 (some .int)) {o : Nat} {K : Sh} {n : Nat} {J : Jm} {R : Rf} (ho : (K o).1 = 12) (res : Int32 × Im)  : ∀ (k : Nat), ∀ (x1 : Option Nat) (x2 : Int32) (x3 : Int32) (x4 : Int32) (I : Im), f_X11_copyStands_3 K J R o k x1 x2 x3 x4 I = some res → VW D cA bs p l e rX11_copyStands s m args below meth c 6 [(0, va_rf (some o)), (1, va_rf x1), (2, .int x2), (3, .int x3), (4, .int x4)] K n I J R 0 0 (MQ below (QX D cA bs (some (.int res.1)) K n res.2 J R) args s 0 0 (fun q => bs ≤ q)) 3 [] := by
  intro k
  induction k with
  | zero =>
    intro x1 x2 x3 x4 I E
    have E : (none : Option (Int32 × Im)) = some res := E
    cases E
  | succ k ih =>
    intro x1 x2 x3 x4 I E
    unfold f_X11_copyStands_3 at E
    refine v_iload C 4 dX11_copyStands_3 rfl ?_
    refine v_iconst C dX11_copyStands_5 k_iconst_5 ?_
    refine v_icmp_ge C 23 E dX11_copyStands_6 rfl (fun c20 E => ?_) (fun c20 E => ?_)
    · refine v_aload_n (r := x1) C 1 dX11_copyStands_23 rfl ?_
      refine v_iload_n C 2 dX11_copyStands_24 rfl ?_
      obtain ⟨a14, h15, E⟩ := bnd E
      obtain ⟨hra14, hoa14⟩ := ob_is h15
      obtain ⟨q16, h17, E⟩ := bnd E
      refine v_callV (r := x1) (As := [.int x2]) (rv := (some (.int q16))) (st := []) (st1 := [.int q16]) (ce1 := 0) (sl1 := 0) C cv_X11_293 (c_X7_isPlace (x1 := x2) hoa14 h17) hra14 hoa14 rfl rfl ⟨rfl, rfl, Nat.le_of_ble_eq_true rfl, Nat.le_of_ble_eq_true rfl⟩ ⟨Nat.le_of_ble_eq_true rfl, Nat.le_of_ble_eq_true rfl⟩ (Nat.le_of_ble_eq_true rfl) rfl rfl rfl dX11_copyStands_25 ?_
      refine v_if_ne C 33 E dX11_copyStands_28 rfl (fun c18 E => ?_) (fun c18 E => ?_)
      · refine v_iconst C dX11_copyStands_31 k_iconst_0 ?_
        obtain rfl := Option.some.inj E
        exact v_iret C rfl dX11_copyStands_32
      · refine v_iconst C dX11_copyStands_33 k_iconst_0 ?_
        refine v_istore C [(4, .int 0), (0, va_rf (some o)), (1, va_rf x1), (2, .int x2), (3, .int x3)] dX11_copyStands_34 (Nat.le_of_ble_eq_true rfl) rfl ?_
        refine v_iconst C dX11_copyStands_36 k_iconst_0 ?_
        refine v_istore C [(5, .int 0), (4, .int 0), (0, va_rf (some o)), (1, va_rf x1), (2, .int x2), (3, .int x3)] dX11_copyStands_37 (Nat.le_of_ble_eq_true rfl) rfl ?_
        exact v_sub [2, 3, 4, 5, 1, 0] [(0, va_rf (some o)), (1, va_rf x1), (2, .int x2), (3, .int x3), (4, .int 0), (5, .int 0)] rfl (w_X11_copyStands_39 C ho res  _ _ _ _ _ _ _ E)
    · refine v_aload_n (r := (some o)) C 0 dX11_copyStands_9 rfl ?_
      refine v_getR (r := (some o)) C fa_X11_96 rfl rfl ho dX11_copyStands_10 ?_
      refine v_iload C 4 dX11_copyStands_13 rfl ?_
      refine v_iconst C dX11_copyStands_15 k_iconst_0 ?_
      refine v_iast (r := (R o 18)) C E dX11_copyStands_16 (fun I19 _ E => ?_)
      refine v_iinc (v := x4 + 1) C 4 [(4, .int (x4 + 1)), (0, va_rf (some o)), (1, va_rf x1), (2, .int x2), (3, .int x3)] dX11_copyStands_17 rfl (k_inc_1 _) (Nat.le_of_ble_eq_true rfl) rfl ?_
      refine v_goto C 3 dX11_copyStands_20 rfl ?_
      exact v_sub [1, 2, 3, 4, 0] [(0, va_rf (some o)), (1, va_rf x1), (2, .int x2), (3, .int x3), (4, .int (x4 + 1))] rfl (ih _ _ _ _ _ E)
set_option maxHeartbeats 4000000 in
theorem w_X11_copyStands_0 (C : Cx D cA bs Z p s m args meth c cX11_copyStands RX11 6 (some .int)) {o : Nat} {K : Sh} {n : Nat} {J : Jm} {R : Rf} (ho : (K o).1 = 12) (res : Int32 × Im) (x1 : Option Nat) (x2 : Int32) (x3 : Int32) (I : Im) (E : f_X11_copyStands K J R o x1 x2 x3 I = some res) : VW D cA bs p l e rX11_copyStands s m args below meth c 6 [(0, va_rf (some o)), (1, va_rf x1), (2, .int x2), (3, .int x3)] K n I J R 0 0 (MQ below (QX D cA bs (some (.int res.1)) K n res.2 J R) args s 0 0 (fun q => bs ≤ q)) 0 [] := by
  unfold f_X11_copyStands at E
  refine v_iconst C dX11_copyStands_0 k_iconst_0 ?_
  refine v_istore C [(4, .int 0), (0, va_rf (some o)), (1, va_rf x1), (2, .int x2), (3, .int x3)] dX11_copyStands_1 (Nat.le_of_ble_eq_true rfl) rfl ?_
  exact v_sub [1, 2, 3, 4, 0] [(0, va_rf (some o)), (1, va_rf x1), (2, .int x2), (3, .int x3), (4, .int 0)] rfl (w_X11_copyStands_3 C ho res  _ _ _ _ _ _ E)
set_option maxHeartbeats 4000000 in
theorem c_X11_copyStands {n : Nat} {K : Sh} {I : Im} {J : Jm} {R : Rf} {o : Nat} {x1 : Option Nat} {x2 : Int32} {x3 : Int32} (ho : (K o).1 = 12) {res : Int32 × Im} (E : f_X11_copyStands K J R o x1 x2 x3 I = some res) : Met l yX11_copyStands (Cond.code yX11_copyStands cX11_copyStands 6 (some .int) :: tb) rX11_copyStands (PX D cA bs Z [.ref o, va_rf x1, .int x2, .int x3] K n I J R) (QX D cA bs (some (.int res.1)) K n res.2 J R) 0 0 (fun q => bs ≤ q) := by
  refine met_of (lv1 := [(0, va_rf (some o)), (1, va_rf x1), (2, .int x2), (3, .int x3)]) pn_X11 (by cases x1 <;> exact Nat.le_of_ble_eq_true rfl) (by cases x1 <;> rfl) ?_
  intro p e s m args below meth c C hn
  exact v_sub [0, 1, 2, 3] [(0, va_rf (some o)), (1, va_rf x1), (2, .int x2), (3, .int x3)] rfl (w_X11_copyStands_0 C ho _ _ _ _ _ E)
set_option maxHeartbeats 4000000 in
theorem w_X11_judge_179 (C : Cx D cA bs Z p s m args meth c cX11_judge RX11 8 (some .int)) {o : Nat} {K : Sh} {n : Nat} {J : Jm} {R : Rf} (ho : (K o).1 = 12) (res : Int32 × Im) (x7 : Int32) (I : Im) (E : f_X11_judge_179 K J R o x7 I = some res) : VW D cA bs p l e rX11_judge s m args below meth c 8 [(0, va_rf (some o)), (7, .int x7)] K n I J R 0 0 (MQ below (QX D cA bs (some (.int res.1)) K n res.2 J R) args s 0 0 (fun q => bs ≤ q)) 179 [] := by
  unfold f_X11_judge_179 at E
  refine v_bipush C dX11_judge_179 k_bipush_100 ?_
  refine v_iload C 1 dX11_judge_181 rfl ?_
  refine v_iadd C dX11_judge_183 ?_
  refine v_iconst C dX11_judge_184 k_iconst_1 ?_
  refine v_iadd C dX11_judge_185 ?_
  obtain rfl := Option.some.inj E
  exact v_iret C rfl dX11_judge_186
set_option maxHeartbeats 4000000 in
theorem w_X11_judge_153 (C : Cx D cA bs Z p s m args meth c cX11_judge RX11 8 (some .int)) {o : Nat} {K : Sh} {n : Nat} {J : Jm} {R : Rf} (ho : (K o).1 = 12) (res : Int32 × Im) (x2 : Int32) (x4 : Option Nat) (x7 : Int32) (I : Im) (E : f_X11_judge_153 K J R o x2 x4 x7 I = some res) : VW D cA bs p l e rX11_judge s m args below meth c 8 [(0, va_rf (some o)), (2, .int x2), (4, va_rf x4), (7, .int x7)] K n I J R 0 0 (MQ below (QX D cA bs (some (.int res.1)) K n res.2 J R) args s 0 0 (fun q => bs ≤ q)) 153 [] := by
  unfold f_X11_judge_153 at E
  refine v_aload (r := x4) C 2 dX11_judge_153 rfl ?_
  refine v_iload_n C 1 dX11_judge_155 rfl ?_
  obtain ⟨a1, h2, E⟩ := bnd E
  obtain ⟨hra1, hoa1⟩ := ob_is h2
  obtain ⟨q3, h4, E⟩ := bnd E
  refine v_callV (r := x4) (As := [.int x2]) (rv := (some (.int q3))) (st := []) (st1 := [.int q3]) (ce1 := 0) (sl1 := 0) C cv_X11_293 (c_X7_isPlace (x1 := x2) hoa1 h4) hra1 hoa1 rfl rfl ⟨rfl, rfl, Nat.le_of_ble_eq_true rfl, Nat.le_of_ble_eq_true rfl⟩ ⟨Nat.le_of_ble_eq_true rfl, Nat.le_of_ble_eq_true rfl⟩ (Nat.le_of_ble_eq_true rfl) rfl rfl rfl dX11_judge_156 ?_
  refine v_if_eq C 179 E dX11_judge_159 rfl (fun c8 E => ?_) (fun c8 E => ?_)
  · exact v_sub [0, 3] [(0, va_rf (some o)), (7, .int x7)] rfl (w_X11_judge_179 C ho res  _ _ E)
  · refine v_aload (r := x4) C 2 dX11_judge_162 rfl ?_
    refine v_iload_n C 1 dX11_judge_164 rfl ?_
    refine v_iload C 3 dX11_judge_165 rfl ?_
    refine v_iadd C dX11_judge_167 ?_
    obtain ⟨q5, h6, E⟩ := bnd E
    refine v_callV (r := x4) (As := [.int (x2 + x7)]) (rv := (some (.int q5))) (st := []) (st1 := [.int q5]) (ce1 := 0) (sl1 := 0) C cv_X11_293 (c_X7_isPlace (x1 := (x2 + x7)) hoa1 h6) hra1 hoa1 rfl rfl ⟨rfl, rfl, Nat.le_of_ble_eq_true rfl, Nat.le_of_ble_eq_true rfl⟩ ⟨Nat.le_of_ble_eq_true rfl, Nat.le_of_ble_eq_true rfl⟩ (Nat.le_of_ble_eq_true rfl) rfl rfl rfl dX11_judge_168 ?_
    refine v_if_eq C 179 E dX11_judge_171 rfl (fun c7 E => ?_) (fun c7 E => ?_)
    · exact v_sub [0, 3] [(0, va_rf (some o)), (7, .int x7)] rfl (w_X11_judge_179 C ho res  _ _ E)
    · refine v_iload C 3 dX11_judge_174 rfl ?_
      refine v_goto C 186 dX11_judge_176 rfl ?_
      obtain rfl := Option.some.inj E
      exact v_iret C rfl dX11_judge_186
set_option maxHeartbeats 4000000 in
theorem w_X11_judge_64 (C : Cx D cA bs Z p s m args meth c cX11_judge RX11 8 (some .int)) {o : Nat} {K : Sh} {n : Nat} {J : Jm} {R : Rf} (ho : (K o).1 = 12) (res : Int32 × Im) (x2 : Int32) (x4 : Option Nat) (x5 : Option Nat) (x6 : Option Nat) (I : Im) (E : f_X11_judge_64 K J R o x2 x4 x5 x6 I = some res) : VW D cA bs p l e rX11_judge s m args below meth c 8 [(0, va_rf (some o)), (2, .int x2), (4, va_rf x4), (5, va_rf x5), (6, va_rf x6)] K n I J R 0 0 (MQ below (QX D cA bs (some (.int res.1)) K n res.2 J R) args s 0 0 (fun q => bs ≤ q)) 64 [] := by
  unfold f_X11_judge_64 at E
  refine v_aload_n (r := (some o)) C 0 dX11_judge_64 rfl ?_
  refine v_aload (r := x4) C 2 dX11_judge_65 rfl ?_
  refine v_iload_n C 1 dX11_judge_67 rfl ?_
  refine v_aload (r := x6) C 4 dX11_judge_68 rfl ?_
  obtain ⟨a9, h10, E⟩ := bnd E
  obtain ⟨hra9, hoa9⟩ := ob_is h10
  refine v_getI (r := x6) C fa_X11_134 rfl hra9 hoa9 dX11_judge_70 ?_
  obtain ⟨q11, h12, E⟩ := bnd E
  refine v_callV (r := (some o)) (As := [va_rf x4, .int x2, .int (I a9 0)]) (rv := (some (.int q11.1))) (st := []) (st1 := [.int q11.1]) (ce1 := 0) (sl1 := 0) C cv_X11_286 (c_X11_copyStands (x1 := x4) (x2 := x2) (x3 := (I a9 0)) ho h12) rfl ho rfl rfl ⟨rfl, rfl, Nat.le_of_ble_eq_true rfl, Nat.le_of_ble_eq_true rfl⟩ ⟨Nat.le_of_ble_eq_true rfl, Nat.le_of_ble_eq_true rfl⟩ (Nat.le_of_ble_eq_true rfl) rfl rfl rfl dX11_judge_73 ?_
  refine v_istore C [(7, .int q11.1), (0, va_rf (some o)), (2, .int x2), (4, va_rf x4), (5, va_rf x5), (6, va_rf x6)] dX11_judge_76 (Nat.le_of_ble_eq_true rfl) (by generalize x6 = rr; cases rr <;> rfl) ?_
  refine v_aload_n (r := (some o)) C 1 dX11_judge_78 rfl ?_
  refine v_getR (r := (some o)) C fa_X11_81 rfl rfl ho dX11_judge_79 ?_
  refine v_aload_n (r := (some o)) C 1 dX11_judge_82 rfl ?_
  refine v_getR (r := (some o)) C fa_X11_37 rfl rfl ho dX11_judge_83 ?_
  obtain ⟨a13, h14, E⟩ := bnd E
  obtain ⟨hra13, hoa13⟩ := ob_is h14
  refine v_getR (r := (R o 7)) C fa_X11_123 rfl hra13 hoa13 dX11_judge_86 ?_
  obtain ⟨a15, h16, E⟩ := bnd E
  obtain ⟨hra15, hoa15⟩ := ob_is h16
  obtain ⟨q17, h18, E⟩ := bnd E
  refine v_callV (r := (R o 15)) (As := [va_rf (R a13 1)]) (rv := none) (st := []) (st1 := []) (ce1 := 0) (sl1 := 0) C cv_X11_195 (c_X10_become (x1 := (R a13 1)) hoa15 h18) hra15 hoa15 rfl rfl ⟨rfl, rfl, Nat.le_of_ble_eq_true rfl, Nat.le_of_ble_eq_true rfl⟩ ⟨Nat.le_of_ble_eq_true rfl, Nat.le_of_ble_eq_true rfl⟩ (Nat.le_of_ble_eq_true rfl) rfl rfl rfl dX11_judge_89 ?_
  refine v_aload_n (r := (some o)) C 1 dX11_judge_92 rfl ?_
  refine v_getR (r := (some o)) C fa_X11_60 rfl rfl ho dX11_judge_93 ?_
  refine v_aload (r := x6) C 5 dX11_judge_96 rfl ?_
  refine v_aload_n (r := (some o)) C 1 dX11_judge_98 rfl ?_
  refine v_getR (r := (some o)) C fa_X11_81 rfl rfl ho dX11_judge_99 ?_
  refine v_aload (r := x5) C 4 dX11_judge_102 rfl ?_
  refine v_aload_n (r := (some o)) C 1 dX11_judge_104 rfl ?_
  refine v_getR (r := (some o)) C fa_X11_96 rfl rfl ho dX11_judge_105 ?_
  obtain ⟨a19, h20, E⟩ := bnd E
  obtain ⟨hra19, hoa19⟩ := ob_is h20
  obtain ⟨q21, h22, E⟩ := bnd E
  refine v_callV (r := (R o 12)) (As := [va_rf x6, va_rf (R o 15), va_rf x5, va_rf (R o 18)]) (rv := none) (st := []) (st1 := []) (ce1 := 0) (sl1 := 0) C cv_X11_220 (c_X8_make (x1 := x6) (x2 := (R o 15)) (x3 := x5) (x4 := (R o 18)) hoa19 h22) hra19 hoa19 rfl rfl ⟨rfl, rfl, Nat.le_of_ble_eq_true rfl, Nat.le_of_ble_eq_true rfl⟩ ⟨Nat.le_of_ble_eq_true rfl, Nat.le_of_ble_eq_true rfl⟩ (Nat.le_of_ble_eq_true rfl) rfl rfl rfl dX11_judge_108 ?_
  refine v_iload C 0 dX11_judge_111 rfl ?_
  refine v_aload (r := x6) C 5 dX11_judge_113 rfl ?_
  refine v_getI (r := x6) C fa_X11_134 rfl hra9 hoa9 dX11_judge_115 ?_
  refine v_icmp_ge C 145 E dX11_judge_118 rfl (fun c25 E => ?_) (fun c25 E => ?_)
  · refine v_aload_n (r := (some o)) C 1 dX11_judge_145 rfl ?_
    refine v_getR (r := (some o)) C fa_X11_60 rfl rfl ho dX11_judge_146 ?_
    refine v_getI (r := (R o 12)) C fa_X11_290 rfl hra19 hoa19 dX11_judge_149 ?_
    obtain rfl := Option.some.inj E
    exact v_iret C rfl dX11_judge_152
  · refine v_aload_n (r := (some o)) C 1 dX11_judge_121 rfl ?_
    refine v_getR (r := (some o)) C fa_X11_60 rfl rfl ho dX11_judge_122 ?_
    refine v_getI (r := (R o 12)) C fa_X11_290 rfl hra19 hoa19 dX11_judge_125 ?_
    refine v_bipush C dX11_judge_128 k_bipush_m5 ?_
    refine v_icmp_eq C 153 E dX11_judge_130 rfl (fun c24 E => ?_) (fun c24 E => ?_)
    · exact v_sub [1, 2, 3, 0] [(0, va_rf (some o)), (2, .int x2), (4, va_rf x4), (7, .int q11.1)] rfl (w_X11_judge_153 C ho res  _ _ _ _ E)
    · refine v_aload_n (r := (some o)) C 1 dX11_judge_133 rfl ?_
      refine v_getR (r := (some o)) C fa_X11_60 rfl rfl ho dX11_judge_134 ?_
      refine v_getI (r := (R o 12)) C fa_X11_290 rfl hra19 hoa19 dX11_judge_137 ?_
      refine v_iload C 0 dX11_judge_140 rfl ?_
      refine v_icmp_gt C 153 E dX11_judge_142 rfl (fun c23 E => ?_) (fun c23 E => ?_)
      · exact v_sub [1, 2, 3, 0] [(0, va_rf (some o)), (2, .int x2), (4, va_rf x4), (7, .int q11.1)] rfl (w_X11_judge_153 C ho res  _ _ _ _ E)
      · refine v_aload_n (r := (some o)) C 1 dX11_judge_145 rfl ?_
        refine v_getR (r := (some o)) C fa_X11_60 rfl rfl ho dX11_judge_146 ?_
        refine v_getI (r := (R o 12)) C fa_X11_290 rfl hra19 hoa19 dX11_judge_149 ?_
        obtain rfl := Option.some.inj E
        exact v_iret C rfl dX11_judge_152
set_option maxHeartbeats 4000000 in
theorem w_X11_judge_0 (C : Cx D cA bs Z p s m args meth c cX11_judge RX11 8 (some .int)) {o : Nat} {K : Sh} {n : Nat} {J : Jm} {R : Rf} (ho : (K o).1 = 12) (res : Int32 × Im) (x1 : Int32) (x2 : Int32) (x3 : Int32) (I : Im) (E : f_X11_judge K J R o x1 x2 x3 I = some res) : VW D cA bs p l e rX11_judge s m args below meth c 8 [(0, va_rf (some o)), (1, .int x1), (2, .int x2), (3, .int x3)] K n I J R 0 0 (MQ below (QX D cA bs (some (.int res.1)) K n res.2 J R) args s 0 0 (fun q => bs ≤ q)) 0 [] := by
  unfold f_X11_judge at E
  refine v_aload_n (r := (some o)) C 0 dX11_judge_0 rfl ?_
  refine v_iload_n C 1 dX11_judge_1 rfl ?_
  obtain ⟨q26, h27, E⟩ := bnd E
  refine v_callV (r := (some o)) (As := [.int x1]) (rv := (some (va_rf q26))) (st := []) (st1 := [va_rf q26]) (ce1 := 0) (sl1 := 0) C cv_X11_279 (c_X11_tapeAt (x1 := x1) ho h27) rfl ho rfl rfl ⟨rfl, rfl, Nat.le_of_ble_eq_true rfl, Nat.le_of_ble_eq_true rfl⟩ ⟨Nat.le_of_ble_eq_true rfl, Nat.le_of_ble_eq_true rfl⟩ (Nat.le_of_ble_eq_true rfl) rfl rfl rfl dX11_judge_2 ?_
  refine v_astore (r := q26) C [(4, va_rf q26), (0, va_rf (some o)), (1, .int x1), (2, .int x2), (3, .int x3)] dX11_judge_5 (Nat.le_of_ble_eq_true rfl) rfl ?_
  refine v_aload_n (r := (some o)) C 1 dX11_judge_7 rfl ?_
  refine v_iload_n C 4 dX11_judge_8 rfl ?_
  obtain ⟨q28, h29, E⟩ := bnd E
  refine v_callV (r := (some o)) (As := [.int x3]) (rv := (some (va_rf q28))) (st := []) (st1 := [va_rf q28]) (ce1 := 0) (sl1 := 0) C cv_X11_187 (c_X11_caravanAt (x1 := x3) ho h29) rfl ho rfl rfl ⟨rfl, rfl, Nat.le_of_ble_eq_true rfl, Nat.le_of_ble_eq_true rfl⟩ ⟨Nat.le_of_ble_eq_true rfl, Nat.le_of_ble_eq_true rfl⟩ (Nat.le_of_ble_eq_true rfl) rfl rfl rfl dX11_judge_9 ?_
  refine v_astore (r := q28) C [(5, va_rf q28), (4, va_rf q26), (0, va_rf (some o)), (1, .int x1), (2, .int x2), (3, .int x3)] dX11_judge_12 (Nat.le_of_ble_eq_true rfl) (by generalize q26 = rr; cases rr <;> rfl) ?_
  refine v_aload (r := q26) C 1 dX11_judge_14 rfl ?_
  refine v_ifnull (r := q26) C 24 E dX11_judge_16 rfl (fun c38 E => ?_) (fun c38 E => ?_)
  · refine v_iconst C dX11_judge_24 k_iconst_m1 ?_
    obtain rfl := Option.some.inj E
    exact v_iret C rfl dX11_judge_25
  · refine v_aload (r := q28) C 0 dX11_judge_19 rfl ?_
    refine v_ifnonnull (r := q28) C 26 E dX11_judge_21 rfl (fun c37 E => ?_) (fun c37 E => ?_)
    · refine v_iconst C dX11_judge_24 k_iconst_m1 ?_
      obtain rfl := Option.some.inj E
      exact v_iret C rfl dX11_judge_25
    · refine v_aload_n (r := (some o)) C 2 dX11_judge_26 rfl ?_
      refine v_getR (r := (some o)) C fa_X11_37 rfl rfl ho dX11_judge_27 ?_
      obtain ⟨a30, h31, E⟩ := bnd E
      obtain ⟨hra30, hoa30⟩ := ob_is h31
      refine v_getR (r := (R o 7)) C fa_X11_120 rfl hra30 hoa30 dX11_judge_30 ?_
      refine v_astore (r := (R a30 0)) C [(6, va_rf (R a30 0)), (5, va_rf q28), (4, va_rf q26), (0, va_rf (some o)), (1, .int x1), (2, .int x2), (3, .int x3)] dX11_judge_33 (Nat.le_of_ble_eq_true rfl) (by generalize q28 = rr; cases rr <;> rfl) ?_
      refine v_aload (r := (R a30 0)) C 0 dX11_judge_35 rfl ?_
      refine v_ifnonnull (r := (R a30 0)) C 43 E dX11_judge_37 rfl (fun c36 E => ?_) (fun c36 E => ?_)
      · refine v_bipush C dX11_judge_40 k_bipush_m3 ?_
        obtain rfl := Option.some.inj E
        exact v_iret C rfl dX11_judge_42
      · refine v_aload (r := q26) C 2 dX11_judge_43 rfl ?_
        obtain ⟨a32, h33, E⟩ := bnd E
        obtain ⟨hra32, hoa32⟩ := ob_is h33
        refine v_getI (r := q26) C fa_X11_283 rfl hra32 hoa32 dX11_judge_45 ?_
        refine v_iconst C dX11_judge_48 k_iconst_m1 ?_
        refine v_icmp_eq C 64 E dX11_judge_49 rfl (fun c35 E => ?_) (fun c35 E => ?_)
        · exact v_sub [3, 5, 2, 1, 0] [(0, va_rf (some o)), (2, .int x2), (4, va_rf q26), (5, va_rf q28), (6, va_rf (R a30 0))] rfl (w_X11_judge_64 C ho res  _ _ _ _ _ E)
        · refine v_aload (r := q26) C 2 dX11_judge_52 rfl ?_
          refine v_getI (r := q26) C fa_X11_283 rfl hra32 hoa32 dX11_judge_54 ?_
          refine v_iconst C dX11_judge_57 k_iconst_2 ?_
          refine v_icmp_eq C 64 E dX11_judge_58 rfl (fun c34 E => ?_) (fun c34 E => ?_)
          · exact v_sub [3, 5, 2, 1, 0] [(0, va_rf (some o)), (2, .int x2), (4, va_rf q26), (5, va_rf q28), (6, va_rf (R a30 0))] rfl (w_X11_judge_64 C ho res  _ _ _ _ _ E)
          · refine v_bipush C dX11_judge_61 k_bipush_m12 ?_
            obtain rfl := Option.some.inj E
            exact v_iret C rfl dX11_judge_63
set_option maxHeartbeats 4000000 in
theorem c_X11_judge {n : Nat} {K : Sh} {I : Im} {J : Jm} {R : Rf} {o : Nat} {x1 : Int32} {x2 : Int32} {x3 : Int32} (ho : (K o).1 = 12) {res : Int32 × Im} (E : f_X11_judge K J R o x1 x2 x3 I = some res) : Met l yX11_judge (Cond.code yX11_judge cX11_judge 8 (some .int) :: tb) rX11_judge (PX D cA bs Z [.ref o, .int x1, .int x2, .int x3] K n I J R) (QX D cA bs (some (.int res.1)) K n res.2 J R) 0 0 (fun q => bs ≤ q) := by
  refine met_of (lv1 := [(0, va_rf (some o)), (1, .int x1), (2, .int x2), (3, .int x3)]) pn_X11 (by exact Nat.le_of_ble_eq_true rfl) (by rfl) ?_
  intro p e s m args below meth c C hn
  exact v_sub [0, 1, 2, 3] [(0, va_rf (some o)), (1, .int x1), (2, .int x2), (3, .int x3)] rfl (w_X11_judge_0 C ho _ _ _ _ _ E)
set_option maxHeartbeats 4000000 in
theorem w_X11_image_0 (C : Cx D cA bs Z p s m args meth c cX11_image RX11 1 (some .int)) {o : Nat} {K : Sh} {n : Nat} {J : Jm} (ho : (K o).1 = 12) (res : Int32 × Im × Rf) (I : Im) (R : Rf) (E : f_X11_image K o I R = some res) : VW D cA bs p l e rX11_image s m args below meth c 1 [(0, va_rf (some o))] K n I J R 0 0 (MQ below (QX D cA bs (some (.int res.1)) K n res.2.1 J res.2.2) args s 0 0 (fun q => bs ≤ q)) 0 [] := by
  unfold f_X11_image at E
  refine v_aload_n (r := (some o)) C 0 dX11_image_0 rfl ?_
  refine v_getR (r := (some o)) C fa_X11_41 rfl rfl ho dX11_image_1 ?_
  refine v_aload_n (r := (some o)) C 0 dX11_image_4 rfl ?_
  refine v_getR (r := (some o)) C fa_X11_37 rfl rfl ho dX11_image_5 ?_
  obtain ⟨a1, h2, E⟩ := bnd E
  obtain ⟨hra1, hoa1⟩ := ob_is h2
  obtain ⟨q3, h4, E⟩ := bnd E
  refine v_callV (r := (R o 8)) (As := [va_rf (R o 7)]) (rv := none) (st := []) (st1 := []) (ce1 := 0) (sl1 := 0) C cv_X11_296 (c_X6_become (x1 := (R o 7)) hoa1 h4) hra1 hoa1 rfl rfl ⟨rfl, rfl, Nat.le_of_ble_eq_true rfl, Nat.le_of_ble_eq_true rfl⟩ ⟨Nat.le_of_ble_eq_true rfl, Nat.le_of_ble_eq_true rfl⟩ (Nat.le_of_ble_eq_true rfl) rfl rfl rfl dX11_image_8 ?_
  refine v_aload_n (r := (some o)) C 0 dX11_image_11 rfl ?_
  refine v_iconst C dX11_image_12 k_iconst_1 ?_
  refine v_putI (r := (some o)) C fa_X11_299 rfl E rfl ho (by decide) dX11_image_13 (fun I5 _ E => ?_)
  refine v_aload_n (r := (some o)) C 0 dX11_image_16 rfl ?_
  refine v_getR (r := (some o)) C fa_X11_37 rfl rfl ho dX11_image_17 ?_
  obtain ⟨a6, h7, E⟩ := bnd E
  obtain ⟨hra6, hoa6⟩ := ob_is h7
  refine v_getI (r := (q3.2 o 7)) C fa_X11_227 rfl hra6 hoa6 dX11_image_20 ?_
  obtain rfl := Option.some.inj E
  exact v_iret C rfl dX11_image_23
set_option maxHeartbeats 4000000 in
theorem c_X11_image {n : Nat} {K : Sh} {I : Im} {J : Jm} {R : Rf} {o : Nat}  (ho : (K o).1 = 12) {res : Int32 × Im × Rf} (E : f_X11_image K o I R = some res) : Met l yX11_image (Cond.code yX11_image cX11_image 1 (some .int) :: tb) rX11_image (PX D cA bs Z [.ref o] K n I J R) (QX D cA bs (some (.int res.1)) K n res.2.1 J res.2.2) 0 0 (fun q => bs ≤ q) := by
  refine met_of (lv1 := [(0, va_rf (some o))]) pn_X11 (by exact Nat.le_of_ble_eq_true rfl) (by rfl) ?_
  intro p e s m args below meth c C hn
  exact v_sub [0] [(0, va_rf (some o))] rfl (w_X11_image_0 C ho _ _ _ E)
set_option maxHeartbeats 4000000 in
theorem w_X11_undo_0 (C : Cx D cA bs Z p s m args meth c cX11_undo RX11 1 (some .int)) {o : Nat} {K : Sh} {n : Nat} {J : Jm} (ho : (K o).1 = 12) (res : Int32 × Im × Rf) (I : Im) (R : Rf) (E : f_X11_undo K o I R = some res) : VW D cA bs p l e rX11_undo s m args below meth c 1 [(0, va_rf (some o))] K n I J R 0 0 (MQ below (QX D cA bs (some (.int res.1)) K n res.2.1 J res.2.2) args s 0 0 (fun q => bs ≤ q)) 0 [] := by
  unfold f_X11_undo at E
  refine v_aload_n (r := (some o)) C 0 dX11_undo_0 rfl ?_
  refine v_getI (r := (some o)) C fa_X11_299 rfl rfl ho dX11_undo_1 ?_
  refine v_if_ne C 10 E dX11_undo_4 rfl (fun c7 E => ?_) (fun c7 E => ?_)
  · refine v_bipush C dX11_undo_7 k_bipush_m3 ?_
    obtain rfl := Option.some.inj E
    exact v_iret C rfl dX11_undo_9
  · refine v_aload_n (r := (some o)) C 0 dX11_undo_10 rfl ?_
    refine v_getR (r := (some o)) C fa_X11_37 rfl rfl ho dX11_undo_11 ?_
    refine v_aload_n (r := (some o)) C 0 dX11_undo_14 rfl ?_
    refine v_getR (r := (some o)) C fa_X11_41 rfl rfl ho dX11_undo_15 ?_
    obtain ⟨a1, h2, E⟩ := bnd E
    obtain ⟨hra1, hoa1⟩ := ob_is h2
    obtain ⟨q3, h4, E⟩ := bnd E
    refine v_callV (r := (R o 7)) (As := [va_rf (R o 8)]) (rv := none) (st := []) (st1 := []) (ce1 := 0) (sl1 := 0) C cv_X11_296 (c_X6_become (x1 := (R o 8)) hoa1 h4) hra1 hoa1 rfl rfl ⟨rfl, rfl, Nat.le_of_ble_eq_true rfl, Nat.le_of_ble_eq_true rfl⟩ ⟨Nat.le_of_ble_eq_true rfl, Nat.le_of_ble_eq_true rfl⟩ (Nat.le_of_ble_eq_true rfl) rfl rfl rfl dX11_undo_18 ?_
    refine v_aload_n (r := (some o)) C 0 dX11_undo_21 rfl ?_
    refine v_getR (r := (some o)) C fa_X11_37 rfl rfl ho dX11_undo_22 ?_
    obtain ⟨a5, h6, E⟩ := bnd E
    obtain ⟨hra5, hoa5⟩ := ob_is h6
    refine v_getI (r := (q3.2 o 7)) C fa_X11_227 rfl hra5 hoa5 dX11_undo_25 ?_
    obtain rfl := Option.some.inj E
    exact v_iret C rfl dX11_undo_28
set_option maxHeartbeats 4000000 in
theorem c_X11_undo {n : Nat} {K : Sh} {I : Im} {J : Jm} {R : Rf} {o : Nat}  (ho : (K o).1 = 12) {res : Int32 × Im × Rf} (E : f_X11_undo K o I R = some res) : Met l yX11_undo (Cond.code yX11_undo cX11_undo 1 (some .int) :: tb) rX11_undo (PX D cA bs Z [.ref o] K n I J R) (QX D cA bs (some (.int res.1)) K n res.2.1 J res.2.2) 0 0 (fun q => bs ≤ q) := by
  refine met_of (lv1 := [(0, va_rf (some o))]) pn_X11 (by exact Nat.le_of_ble_eq_true rfl) (by rfl) ?_
  intro p e s m args below meth c C hn
  exact v_sub [0] [(0, va_rf (some o))] rfl (w_X11_undo_0 C ho _ _ _ E)
set_option maxHeartbeats 4000000 in
theorem w_X11_act_0 (C : Cx D cA bs Z p s m args meth c cX11_act RX11 5 (some .int)) {o : Nat} {K : Sh} {n : Nat} {J : Jm} {R : Rf} (ho : (K o).1 = 12) (res : Int32 × Im) (x1 : Int32) (x2 : Int32) (x3 : Int32) (I : Im) (E : f_X11_act Z K R o x1 x2 x3 I = some res) : VW D cA bs p l e rX11_act s m args below meth c 5 [(0, va_rf (some o)), (1, .int x1), (2, .int x2), (3, .int x3)] K n I J R 0 0 (MQ below (QX D cA bs (some (.int res.1)) K n res.2 J R) args s 0 0 (fun q => bs ≤ q)) 0 [] := by
  unfold f_X11_act at E
  refine v_aload_n (r := (some o)) C 0 dX11_act_0 rfl ?_
  refine v_getR (r := (some o)) C fa_X11_53 rfl rfl ho dX11_act_1 ?_
  refine v_iconst C dX11_act_4 k_iconst_0 ?_
  obtain ⟨a1, h2, E⟩ := bnd E
  obtain ⟨hra1, hoa1⟩ := ob_is h2
  refine v_putI (r := (R o 11)) C fa_X11_303 rfl E hra1 hoa1 ⟨rfl, rfl⟩ dX11_act_5 (fun I3 _ E => ?_)
  refine v_aload_n (r := (some o)) C 0 dX11_act_8 rfl ?_
  refine v_iload_n C 1 dX11_act_9 rfl ?_
  obtain ⟨q4, h5, E⟩ := bnd E
  refine v_callV (r := (some o)) (As := [.int x1]) (rv := (some (va_rf q4))) (st := []) (st1 := [va_rf q4]) (ce1 := 0) (sl1 := 0) C cv_X11_167 (c_X11_ruleAt (x1 := x1) ho h5) rfl ho rfl rfl ⟨rfl, rfl, Nat.le_of_ble_eq_true rfl, Nat.le_of_ble_eq_true rfl⟩ ⟨Nat.le_of_ble_eq_true rfl, Nat.le_of_ble_eq_true rfl⟩ (Nat.le_of_ble_eq_true rfl) rfl rfl rfl dX11_act_10 ?_
  refine v_astore (r := q4) C [(4, va_rf q4), (0, va_rf (some o)), (1, .int x1), (2, .int x2), (3, .int x3)] dX11_act_13 (Nat.le_of_ble_eq_true rfl) rfl ?_
  refine v_aload (r := q4) C 0 dX11_act_15 rfl ?_
  refine v_ifnull (r := q4) C 29 E dX11_act_17 rfl (fun c13 E => ?_) (fun c13 E => ?_)
  · refine v_iconst C dX11_act_29 k_iconst_0 ?_
    obtain rfl := Option.some.inj E
    exact v_iret C rfl dX11_act_30
  · refine v_iload_n C 3 dX11_act_20 rfl ?_
    refine v_iconst C dX11_act_21 k_iconst_0 ?_
    refine v_iconst C dX11_act_22 k_iconst_2 ?_
    obtain ⟨q6, h7, E⟩ := bnd E
    refine v_callS (As := [.int x2, .int 0, .int 2]) (rv := (some (.int q6))) (st := []) (st1 := [.int q6]) (ce1 := 0) (sl1 := 0) C cs_X11_101 (c_X11_within (x0 := x2) (x1 := 0) (x2 := 2) h7) rfl rfl ⟨rfl, rfl, Nat.le_of_ble_eq_true rfl, Nat.le_of_ble_eq_true rfl⟩ ⟨Nat.le_of_ble_eq_true rfl, Nat.le_of_ble_eq_true rfl⟩ (Nat.le_of_ble_eq_true rfl) rfl rfl rfl dX11_act_23 ?_
    refine v_if_ne C 31 E dX11_act_26 rfl (fun c12 E => ?_) (fun c12 E => ?_)
    · refine v_iconst C dX11_act_29 k_iconst_0 ?_
      obtain rfl := Option.some.inj E
      exact v_iret C rfl dX11_act_30
    · refine v_aload_n (r := (some o)) C 1 dX11_act_31 rfl ?_
      refine v_getR (r := (some o)) C fa_X11_53 rfl rfl ho dX11_act_32 ?_
      refine v_aload (r := q4) C 0 dX11_act_35 rfl ?_
      refine v_aload (r := q4) C 0 dX11_act_37 rfl ?_
      obtain ⟨a8, h9, E⟩ := bnd E
      obtain ⟨hra8, hoa8⟩ := ob_is h9
      refine v_getI (r := q4) C fa_X11_171 rfl hra8 hoa8 dX11_act_39 ?_
      refine v_iload_n C 3 dX11_act_42 rfl ?_
      refine v_iload_n C 4 dX11_act_43 rfl ?_
      refine v_iconst C dX11_act_44 k_iconst_0 ?_
      obtain ⟨q10, h11, E⟩ := bnd E
      refine v_callS (As := [va_rf (R o 11), va_rf q4, .int (I3 a8 0), .int x2, .int x3, .int 0]) (rv := (some (.int q10.1))) (st := []) (st1 := [.int q10.1]) (ce1 := 0) (sl1 := 0) C cs_X11_306 (c_X0_perform (x0 := (R o 11)) (x1 := q4) (x2 := (I3 a8 0)) (x3 := x2) (x4 := x3) (x5 := 0) h11) rfl rfl ⟨rfl, rfl, Nat.le_of_ble_eq_true rfl, Nat.le_of_ble_eq_true rfl⟩ ⟨Nat.le_of_ble_eq_true rfl, Nat.le_of_ble_eq_true rfl⟩ (Nat.le_of_ble_eq_true rfl) rfl rfl rfl dX11_act_45 ?_
      obtain rfl := Option.some.inj E
      exact v_iret C rfl dX11_act_48
set_option maxHeartbeats 4000000 in
theorem c_X11_act {n : Nat} {K : Sh} {I : Im} {J : Jm} {R : Rf} {o : Nat} {x1 : Int32} {x2 : Int32} {x3 : Int32} (ho : (K o).1 = 12) {res : Int32 × Im} (E : f_X11_act Z K R o x1 x2 x3 I = some res) : Met l yX11_act (Cond.code yX11_act cX11_act 5 (some .int) :: tb) rX11_act (PX D cA bs Z [.ref o, .int x1, .int x2, .int x3] K n I J R) (QX D cA bs (some (.int res.1)) K n res.2 J R) 0 0 (fun q => bs ≤ q) := by
  refine met_of (lv1 := [(0, va_rf (some o)), (1, .int x1), (2, .int x2), (3, .int x3)]) pn_X11 (by exact Nat.le_of_ble_eq_true rfl) (by rfl) ?_
  intro p e s m args below meth c C hn
  exact v_sub [0, 1, 2, 3] [(0, va_rf (some o)), (1, .int x1), (2, .int x2), (3, .int x3)] rfl (w_X11_act_0 C ho _ _ _ _ _ E)
set_option maxHeartbeats 4000000 in
theorem w_X11_trace_0 (C : Cx D cA bs Z p s m args meth c cX11_trace RX11 2 (some .int)) {o : Nat} {K : Sh} {n : Nat} {I : Im} {J : Jm} {R : Rf} (ho : (K o).1 = 12) (res : Int32) (x1 : Int32) (E : f_X11_trace K I R o x1 = some res) : VW D cA bs p l e rX11_trace s m args below meth c 2 [(0, va_rf (some o)), (1, .int x1)] K n I J R 0 0 (MQ below (QX D cA bs (some (.int res)) K n I J R) args s 0 0 (fun q => bs ≤ q)) 0 [] := by
  unfold f_X11_trace at E
  refine v_iload_n C 1 dX11_trace_0 rfl ?_
  refine v_if_lt C 33 E dX11_trace_1 rfl (fun c6 E => ?_) (fun c6 E => ?_)
  · refine v_iconst C dX11_trace_33 k_iconst_m1 ?_
    obtain rfl := Option.some.inj E
    exact v_iret C rfl dX11_trace_34
  · refine v_iload_n C 1 dX11_trace_4 rfl ?_
    refine v_aload_n (r := (some o)) C 0 dX11_trace_5 rfl ?_
    refine v_getR (r := (some o)) C fa_X11_53 rfl rfl ho dX11_trace_6 ?_
    obtain ⟨a1, h2, E⟩ := bnd E
    obtain ⟨hra1, hoa1⟩ := ob_is h2
    refine v_getI (r := (R o 11)) C fa_X11_303 rfl hra1 hoa1 dX11_trace_9 ?_
    refine v_icmp_ge C 33 E dX11_trace_12 rfl (fun c5 E => ?_) (fun c5 E => ?_)
    · refine v_iconst C dX11_trace_33 k_iconst_m1 ?_
      obtain rfl := Option.some.inj E
      exact v_iret C rfl dX11_trace_34
    · refine v_iload_n C 1 dX11_trace_15 rfl ?_
      refine v_bipush C dX11_trace_16 k_bipush_20 ?_
      refine v_icmp_ge C 33 E dX11_trace_18 rfl (fun c4 E => ?_) (fun c4 E => ?_)
      · refine v_iconst C dX11_trace_33 k_iconst_m1 ?_
        obtain rfl := Option.some.inj E
        exact v_iret C rfl dX11_trace_34
      · refine v_aload_n (r := (some o)) C 0 dX11_trace_21 rfl ?_
        refine v_getR (r := (some o)) C fa_X11_53 rfl rfl ho dX11_trace_22 ?_
        refine v_getR (r := (R o 11)) C fa_X11_310 rfl hra1 hoa1 dX11_trace_25 ?_
        refine v_iload_n C 1 dX11_trace_28 rfl ?_
        refine v_iald (r := (R a1 0)) C E dX11_trace_29 (fun v3 _ E => ?_)
        refine v_goto C 34 dX11_trace_30 rfl ?_
        obtain rfl := Option.some.inj E
        exact v_iret C rfl dX11_trace_34
set_option maxHeartbeats 4000000 in
theorem c_X11_trace {n : Nat} {K : Sh} {I : Im} {J : Jm} {R : Rf} {o : Nat} {x1 : Int32} (ho : (K o).1 = 12) {res : Int32} (E : f_X11_trace K I R o x1 = some res) : Met l yX11_trace (Cond.code yX11_trace cX11_trace 2 (some .int) :: tb) rX11_trace (PX D cA bs Z [.ref o, .int x1] K n I J R) (QX D cA bs (some (.int res)) K n I J R) 0 0 (fun q => bs ≤ q) := by
  refine met_of (lv1 := [(0, va_rf (some o)), (1, .int x1)]) pn_X11 (by exact Nat.le_of_ble_eq_true rfl) (by rfl) ?_
  intro p e s m args below meth c C hn
  exact v_sub [0, 1] [(0, va_rf (some o)), (1, .int x1)] rfl (w_X11_trace_0 C ho _ _ E)
set_option maxHeartbeats 4000000 in
theorem w_X11_isUnder_2 (C : Cx D cA bs Z p s m args meth c cX11_isUnder RX11 3 (some .boolean)) {K : Sh} {n : Nat} {I : Im} {J : Jm} {R : Rf} (res : Int32)  : ∀ (k : Nat), ∀ (x1 : Int32) (x2 : Int32), f_X11_isUnder_2 Z K I k x1 x2 = some res → VW D cA bs p l e rX11_isUnder s m args below meth c 3 [(1, .int x1), (2, .int x2)] K n I J R 0 0 (MQ below (QX D cA bs (some (.int res)) K n I J R) args s 0 0 (fun q => bs ≤ q)) 2 [] := by
  intro k
  induction k with
  | zero =>
    intro x1 x2 E
    have E : (none : Option (Int32)) = some res := E
    cases E
  | succ k ih =>
    intro x1 x2 E
    unfold f_X11_isUnder_2 at E
    refine v_iload_n C 1 dX11_isUnder_2 rfl ?_
    refine v_if_lt C 28 E dX11_isUnder_3 rfl (fun c4 E => ?_) (fun c4 E => ?_)
    · refine v_iconst C dX11_isUnder_28 k_iconst_0 ?_
      obtain rfl := Option.some.inj E
      exact v_zret (v := 0) C rfl nz_0 dX11_isUnder_29
    · refine v_iload_n C 1 dX11_isUnder_6 rfl ?_
      refine v_bipush C dX11_isUnder_7 k_bipush_6 ?_
      refine v_icmp_gt C 28 E dX11_isUnder_9 rfl (fun c3 E => ?_) (fun c3 E => ?_)
      · refine v_iconst C dX11_isUnder_28 k_iconst_0 ?_
        obtain rfl := Option.some.inj E
        exact v_zret (v := 0) C rfl nz_0 dX11_isUnder_29
      · refine v_iload_n C 1 dX11_isUnder_12 rfl ?_
        refine v_iload_n C 0 dX11_isUnder_13 rfl ?_
        refine v_icmp_ne C 19 E dX11_isUnder_14 rfl (fun c2 E => ?_) (fun c2 E => ?_)
        · refine v_iconst C dX11_isUnder_17 k_iconst_1 ?_
          obtain rfl := Option.some.inj E
          exact v_zret (v := 1) C rfl nz_1 dX11_isUnder_18
        · refine v_gets C 0 (by decide) gs_X11_336 dX11_isUnder_19 ?_
          refine v_iload_n C 1 dX11_isUnder_22 rfl ?_
          refine v_iald (r := (some (Z 0))) C E dX11_isUnder_23 (fun v1 _ E => ?_)
          refine v_istore_n C [(2, .int v1), (1, .int x1)] dX11_isUnder_24 (Nat.le_of_ble_eq_true rfl) rfl ?_
          refine v_goto C 2 dX11_isUnder_25 rfl ?_
          exact v_sub [1, 0] [(1, .int x1), (2, .int v1)] rfl (ih _ _ E)
set_option maxHeartbeats 4000000 in
theorem w_X11_isUnder_0 (C : Cx D cA bs Z p s m args meth c cX11_isUnder RX11 3 (some .boolean)) {K : Sh} {n : Nat} {I : Im} {J : Jm} {R : Rf} (res : Int32) (x0 : Int32) (x1 : Int32) (E : f_X11_isUnder Z K I x0 x1 = some res) : VW D cA bs p l e rX11_isUnder s m args below meth c 3 [(0, .int x0), (1, .int x1)] K n I J R 0 0 (MQ below (QX D cA bs (some (.int res)) K n I J R) args s 0 0 (fun q => bs ≤ q)) 0 [] := by
  unfold f_X11_isUnder at E
  refine v_iload_n C 0 dX11_isUnder_0 rfl ?_
  refine v_istore_n C [(2, .int x0), (0, .int x0), (1, .int x1)] dX11_isUnder_1 (Nat.le_of_ble_eq_true rfl) rfl ?_
  exact v_sub [2, 0] [(1, .int x1), (2, .int x0)] rfl (w_X11_isUnder_2 C res  _ _ _ E)
set_option maxHeartbeats 4000000 in
theorem c_X11_isUnder {n : Nat} {K : Sh} {I : Im} {J : Jm} {R : Rf} {x0 : Int32} {x1 : Int32} {res : Int32} (E : f_X11_isUnder Z K I x0 x1 = some res) : Met l yX11_isUnder (Cond.code yX11_isUnder cX11_isUnder 3 (some .boolean) :: tb) rX11_isUnder (PX D cA bs Z [.int x0, .int x1] K n I J R) (QX D cA bs (some (.int res)) K n I J R) 0 0 (fun q => bs ≤ q) := by
  refine met_of (lv1 := [(0, .int x0), (1, .int x1)]) pn_X11 (by exact Nat.le_of_ble_eq_true rfl) (by rfl) ?_
  intro p e s m args below meth c C hn
  exact v_sub [0, 1] [(0, .int x0), (1, .int x1)] rfl (w_X11_isUnder_0 C _ _ _ E)
set_option maxHeartbeats 4000000 in
theorem w_X11_taken_0 (C : Cx D cA bs Z p s m args meth c cX11_taken RX11 4 (some .int)) {o : Nat} {K : Sh} {n : Nat} {I : Im} {J : Jm} {R : Rf} (ho : (K o).1 = 12) (res : Int32) (x1 : Int32) (x2 : Int32) (E : f_X11_taken Z K I R o x1 x2 = some res) : VW D cA bs p l e rX11_taken s m args below meth c 4 [(0, va_rf (some o)), (1, .int x1), (2, .int x2)] K n I J R 0 0 (MQ below (QX D cA bs (some (.int res)) K n I J R) args s 0 0 (fun q => bs ≤ q)) 0 [] := by
  unfold f_X11_taken at E
  refine v_iload_n C 2 dX11_taken_0 rfl ?_
  refine v_iconst C dX11_taken_1 k_iconst_0 ?_
  refine v_bipush C dX11_taken_2 k_bipush_6 ?_
  obtain ⟨q1, h2, E⟩ := bnd E
  refine v_callS (As := [.int x2, .int 0, .int 6]) (rv := (some (.int q1))) (st := []) (st1 := [.int q1]) (ce1 := 0) (sl1 := 0) C cs_X11_101 (c_X11_within (x0 := x2) (x1 := 0) (x2 := 6) h2) rfl rfl ⟨rfl, rfl, Nat.le_of_ble_eq_true rfl, Nat.le_of_ble_eq_true rfl⟩ ⟨Nat.le_of_ble_eq_true rfl, Nat.le_of_ble_eq_true rfl⟩ (Nat.le_of_ble_eq_true rfl) rfl rfl rfl dX11_taken_4 ?_
  refine v_if_ne C 13 E dX11_taken_7 rfl (fun c11 E => ?_) (fun c11 E => ?_)
  · refine v_bipush C dX11_taken_10 k_bipush_m2 ?_
    obtain rfl := Option.some.inj E
    exact v_iret C rfl dX11_taken_12
  · refine v_aload_n (r := (some o)) C 0 dX11_taken_13 rfl ?_
    refine v_iload_n C 1 dX11_taken_14 rfl ?_
    obtain ⟨q3, h4, E⟩ := bnd E
    refine v_callV (r := (some o)) (As := [.int x1]) (rv := (some (va_rf q3))) (st := []) (st1 := [va_rf q3]) (ce1 := 0) (sl1 := 0) C cv_X11_167 (c_X11_ruleAt (x1 := x1) ho h4) rfl ho rfl rfl ⟨rfl, rfl, Nat.le_of_ble_eq_true rfl, Nat.le_of_ble_eq_true rfl⟩ ⟨Nat.le_of_ble_eq_true rfl, Nat.le_of_ble_eq_true rfl⟩ (Nat.le_of_ble_eq_true rfl) rfl rfl rfl dX11_taken_15 ?_
    refine v_astore_n (r := q3) C [(3, va_rf q3), (0, va_rf (some o)), (1, .int x1), (2, .int x2)] dX11_taken_18 (Nat.le_of_ble_eq_true rfl) rfl ?_
    refine v_aload_n (r := q3) C 0 dX11_taken_19 rfl ?_
    refine v_ifnonnull (r := q3) C 26 E dX11_taken_20 rfl (fun c10 E => ?_) (fun c10 E => ?_)
    · refine v_bipush C dX11_taken_23 k_bipush_m11 ?_
      obtain rfl := Option.some.inj E
      exact v_iret C rfl dX11_taken_25
    · refine v_aload_n (r := q3) C 0 dX11_taken_26 rfl ?_
      obtain ⟨a5, h6, E⟩ := bnd E
      obtain ⟨hra5, hoa5⟩ := ob_is h6
      refine v_getI (r := q3) C fa_X11_171 rfl hra5 hoa5 dX11_taken_27 ?_
      refine v_iload_n C 3 dX11_taken_30 rfl ?_
      obtain ⟨q7, h8, E⟩ := bnd E
      refine v_callS (As := [.int (I a5 0), .int x2]) (rv := (some (.int q7))) (st := []) (st1 := [.int q7]) (ce1 := 0) (sl1 := 0) C cs_X11_313 (c_X11_isUnder (x0 := (I a5 0)) (x1 := x2) h8) rfl rfl ⟨rfl, rfl, Nat.le_of_ble_eq_true rfl, Nat.le_of_ble_eq_true rfl⟩ ⟨Nat.le_of_ble_eq_true rfl, Nat.le_of_ble_eq_true rfl⟩ (Nat.le_of_ble_eq_true rfl) rfl rfl rfl dX11_taken_31 ?_
      refine v_if_eq C 44 E dX11_taken_34 rfl (fun c9 E => ?_) (fun c9 E => ?_)
      · refine v_bipush C dX11_taken_44 k_bipush_m12 ?_
        obtain rfl := Option.some.inj E
        exact v_iret C rfl dX11_taken_46
      · refine v_aload_n (r := q3) C 0 dX11_taken_37 rfl ?_
        refine v_getI (r := q3) C fa_X11_171 rfl hra5 hoa5 dX11_taken_38 ?_
        refine v_goto C 46 dX11_taken_41 rfl ?_
        obtain rfl := Option.some.inj E
        exact v_iret C rfl dX11_taken_46
set_option maxHeartbeats 4000000 in
theorem c_X11_taken {n : Nat} {K : Sh} {I : Im} {J : Jm} {R : Rf} {o : Nat} {x1 : Int32} {x2 : Int32} (ho : (K o).1 = 12) {res : Int32} (E : f_X11_taken Z K I R o x1 x2 = some res) : Met l yX11_taken (Cond.code yX11_taken cX11_taken 4 (some .int) :: tb) rX11_taken (PX D cA bs Z [.ref o, .int x1, .int x2] K n I J R) (QX D cA bs (some (.int res)) K n I J R) 0 0 (fun q => bs ≤ q) := by
  refine met_of (lv1 := [(0, va_rf (some o)), (1, .int x1), (2, .int x2)]) pn_X11 (by exact Nat.le_of_ble_eq_true rfl) (by rfl) ?_
  intro p e s m args below meth c C hn
  exact v_sub [0, 1, 2] [(0, va_rf (some o)), (1, .int x1), (2, .int x2)] rfl (w_X11_taken_0 C ho _ _ _ E)
set_option maxHeartbeats 4000000 in
theorem w_X11_count_0 (C : Cx D cA bs Z p s m args meth c cX11_count RX11 2 (some .int)) {o : Nat} {K : Sh} {n : Nat} {I : Im} {J : Jm} {R : Rf} (ho : (K o).1 = 12) (res : Int32) (x1 : Int32) (E : f_X11_count K I R o x1 = some res) : VW D cA bs p l e rX11_count s m args below meth c 2 [(0, va_rf (some o)), (1, .int x1)] K n I J R 0 0 (MQ below (QX D cA bs (some (.int res)) K n I J R) args s 0 0 (fun q => bs ≤ q)) 0 [] := by
  unfold f_X11_count at E
  refine v_iload_n C 1 dX11_count_0 rfl ?_
  by_cases c1 : x1 = 0
  · have E := ite_t E c1
    refine v_tableIn (off := 43) C 44 dX11_count_1 (by rw [c1]; decide) (by rw [c1]; decide) (by rw [c1]; rfl) rfl ?_
    refine v_aload_n (r := (some o)) C 0 dX11_count_44 rfl ?_
    refine v_getI (r := (some o)) C fa_X11_113 rfl rfl ho dX11_count_45 ?_
    obtain rfl := Option.some.inj E
    exact v_iret C rfl dX11_count_48
  have E := ite_f E c1
  by_cases c2 : x1 = 1
  · have E := ite_t E c2
    refine v_tableIn (off := 48) C 49 dX11_count_1 (by rw [c2]; decide) (by rw [c2]; decide) (by rw [c2]; rfl) rfl ?_
    refine v_aload_n (r := (some o)) C 0 dX11_count_49 rfl ?_
    refine v_getI (r := (some o)) C fa_X11_161 rfl rfl ho dX11_count_50 ?_
    obtain rfl := Option.some.inj E
    exact v_iret C rfl dX11_count_53
  have E := ite_f E c2
  by_cases c3 : x1 = 2
  · have E := ite_t E c3
    refine v_tableIn (off := 53) C 54 dX11_count_1 (by rw [c3]; decide) (by rw [c3]; decide) (by rw [c3]; rfl) rfl ?_
    refine v_aload_n (r := (some o)) C 0 dX11_count_54 rfl ?_
    refine v_getI (r := (some o)) C fa_X11_180 rfl rfl ho dX11_count_55 ?_
    obtain rfl := Option.some.inj E
    exact v_iret C rfl dX11_count_58
  have E := ite_f E c3
  by_cases c6 : x1 = 3
  · have E := ite_t E c6
    refine v_tableIn (off := 58) C 59 dX11_count_1 (by rw [c6]; decide) (by rw [c6]; decide) (by rw [c6]; rfl) rfl ?_
    refine v_aload_n (r := (some o)) C 0 dX11_count_59 rfl ?_
    refine v_getR (r := (some o)) C fa_X11_37 rfl rfl ho dX11_count_60 ?_
    obtain ⟨a4, h5, E⟩ := bnd E
    obtain ⟨hra4, hoa4⟩ := ob_is h5
    refine v_getI (r := (R o 7)) C fa_X11_227 rfl hra4 hoa4 dX11_count_63 ?_
    obtain rfl := Option.some.inj E
    exact v_iret C rfl dX11_count_66
  have E := ite_f E c6
  by_cases c9 : x1 = 4
  · have E := ite_t E c9
    refine v_tableIn (off := 66) C 67 dX11_count_1 (by rw [c9]; decide) (by rw [c9]; decide) (by rw [c9]; rfl) rfl ?_
    refine v_aload_n (r := (some o)) C 0 dX11_count_67 rfl ?_
    refine v_getR (r := (some o)) C fa_X11_37 rfl rfl ho dX11_count_68 ?_
    obtain ⟨a7, h8, E⟩ := bnd E
    obtain ⟨hra7, hoa7⟩ := ob_is h8
    refine v_getI (r := (R o 7)) C fa_X11_214 rfl hra7 hoa7 dX11_count_71 ?_
    obtain rfl := Option.some.inj E
    exact v_iret C rfl dX11_count_74
  have E := ite_f E c9
  by_cases c12 : x1 = 5
  · have E := ite_t E c12
    refine v_tableIn (off := 74) C 75 dX11_count_1 (by rw [c12]; decide) (by rw [c12]; decide) (by rw [c12]; rfl) rfl ?_
    refine v_aload_n (r := (some o)) C 0 dX11_count_75 rfl ?_
    refine v_getR (r := (some o)) C fa_X11_12 rfl rfl ho dX11_count_76 ?_
    obtain ⟨a10, h11, E⟩ := bnd E
    obtain ⟨hra10, hoa10⟩ := ob_is h11
    refine v_getI (r := (R o 0)) C fa_X11_105 rfl hra10 hoa10 dX11_count_79 ?_
    obtain rfl := Option.some.inj E
    exact v_iret C rfl dX11_count_82
  have E := ite_f E c12
  by_cases c15 : x1 = 6
  · have E := ite_t E c15
    refine v_tableIn (off := 82) C 83 dX11_count_1 (by rw [c15]; decide) (by rw [c15]; decide) (by rw [c15]; rfl) rfl ?_
    refine v_aload_n (r := (some o)) C 0 dX11_count_83 rfl ?_
    refine v_getR (r := (some o)) C fa_X11_53 rfl rfl ho dX11_count_84 ?_
    obtain ⟨a13, h14, E⟩ := bnd E
    obtain ⟨hra13, hoa13⟩ := ob_is h14
    refine v_getI (r := (R o 11)) C fa_X11_303 rfl hra13 hoa13 dX11_count_87 ?_
    obtain rfl := Option.some.inj E
    exact v_iret C rfl dX11_count_90
  have E := ite_f E c15
  refine v_tableOut C 91 dX11_count_1 (by have hc1 := lv_neT c1 (show ((0 : Int32)).toInt = 0 from by decide); have hc2 := lv_neT c2 (show ((1 : Int32)).toInt = 1 from by decide); have hc3 := lv_neT c3 (show ((2 : Int32)).toInt = 2 from by decide); have hc6 := lv_neT c6 (show ((3 : Int32)).toInt = 3 from by decide); have hc9 := lv_neT c9 (show ((4 : Int32)).toInt = 4 from by decide); have hc12 := lv_neT c12 (show ((5 : Int32)).toInt = 5 from by decide); have hc15 := lv_neT c15 (show ((6 : Int32)).toInt = 6 from by decide); omega) rfl ?_
  refine v_bipush C dX11_count_91 k_bipush_m2 ?_
  obtain rfl := Option.some.inj E
  exact v_iret C rfl dX11_count_93
set_option maxHeartbeats 4000000 in
theorem c_X11_count {n : Nat} {K : Sh} {I : Im} {J : Jm} {R : Rf} {o : Nat} {x1 : Int32} (ho : (K o).1 = 12) {res : Int32} (E : f_X11_count K I R o x1 = some res) : Met l yX11_count (Cond.code yX11_count cX11_count 2 (some .int) :: tb) rX11_count (PX D cA bs Z [.ref o, .int x1] K n I J R) (QX D cA bs (some (.int res)) K n I J R) 0 0 (fun q => bs ≤ q) := by
  refine met_of (lv1 := [(0, va_rf (some o)), (1, .int x1)]) pn_X11 (by exact Nat.le_of_ble_eq_true rfl) (by rfl) ?_
  intro p e s m args below meth c C hn
  exact v_sub [0, 1] [(0, va_rf (some o)), (1, .int x1)] rfl (w_X11_count_0 C ho _ _ E)
set_option maxHeartbeats 4000000 in
theorem w_X11_tape_62 (C : Cx D cA bs Z p s m args meth c cX11_tape RX11 5 (some .int)) {o : Nat} {K : Sh} {n : Nat} {R : Rf} (ho : (K o).1 = 12) (res : Int32 × Im × Jm) (s0 : Option Nat) (s1 : Int32) (s2 : Int32) (I : Im) (J : Jm) (E : f_X11_tape_62 K R o s0 s1 s2 I J = some res) : VW D cA bs p l e rX11_tape s m args below meth c 5 [(0, va_rf (some o))] K n I J R 0 0 (MQ below (QX D cA bs (some (.int res.1)) K n res.2.1 res.2.2 R) args s 0 0 (fun q => bs ≤ q)) 62 [.int s2, .int s1, va_rf s0] := by
  unfold f_X11_tape_62 at E
  obtain ⟨a1, h2, E⟩ := bnd E
  obtain ⟨hra1, hoa1⟩ := ob_is h2
  obtain ⟨q3, h4, E⟩ := bnd E
  refine v_callV (r := s0) (As := [.int s1, .int s2]) (rv := none) (st := []) (st1 := []) (ce1 := 0) (sl1 := 0) C cv_X11_316 (c_X7_become (x1 := s1) (x2 := s2) hoa1 h4) hra1 hoa1 rfl rfl ⟨rfl, rfl, Nat.le_of_ble_eq_true rfl, Nat.le_of_ble_eq_true rfl⟩ ⟨Nat.le_of_ble_eq_true rfl, Nat.le_of_ble_eq_true rfl⟩ (Nat.le_of_ble_eq_true rfl) rfl rfl rfl dX11_tape_62 ?_
  refine v_iconst C dX11_tape_65 k_iconst_1 ?_
  obtain rfl := Option.some.inj E
  exact v_iret C rfl dX11_tape_66
set_option maxHeartbeats 4000000 in
theorem w_X11_tape_49 (C : Cx D cA bs Z p s m args meth c cX11_tape RX11 5 (some .int)) {o : Nat} {K : Sh} {n : Nat} {R : Rf} (ho : (K o).1 = 12) (res : Int32 × Im × Jm) (x2 : Int32) (x3 : Int32) (x4 : Option Nat) (I : Im) (J : Jm) (E : f_X11_tape_49 K R o x2 x3 x4 I J = some res) : VW D cA bs p l e rX11_tape s m args below meth c 5 [(0, va_rf (some o)), (2, .int x2), (3, .int x3), (4, va_rf x4)] K n I J R 0 0 (MQ below (QX D cA bs (some (.int res.1)) K n res.2.1 res.2.2 R) args s 0 0 (fun q => bs ≤ q)) 49 [] := by
  unfold f_X11_tape_49 at E
  refine v_aload (r := x4) C 3 dX11_tape_49 rfl ?_
  refine v_iload_n C 1 dX11_tape_51 rfl ?_
  refine v_iload_n C 1 dX11_tape_52 rfl ?_
  refine v_iconst C dX11_tape_53 k_iconst_m1 ?_
  refine v_icmp_ne C 61 E dX11_tape_54 rfl (fun c5 E => ?_) (fun c5 E => ?_)
  · refine v_iconst C dX11_tape_57 k_iconst_0 ?_
    refine v_goto C 62 dX11_tape_58 rfl ?_
    exact v_sub [0] [(0, va_rf (some o))] rfl (w_X11_tape_62 C ho res  _ _ _ _ _ E)
  · refine v_iload_n C 2 dX11_tape_61 rfl ?_
    exact v_sub [0] [(0, va_rf (some o))] rfl (w_X11_tape_62 C ho res  _ _ _ _ _ E)
set_option maxHeartbeats 4000000 in
theorem w_X11_tape_37 (C : Cx D cA bs Z p s m args meth c cX11_tape RX11 5 (some .int)) {o : Nat} {K : Sh} {n : Nat} {R : Rf} (ho : (K o).1 = 12) (res : Int32 × Im × Jm) (x2 : Int32) (x3 : Int32) (x4 : Option Nat) (I : Im) (J : Jm) (E : f_X11_tape_37 K R o x2 x3 x4 I J = some res) : VW D cA bs p l e rX11_tape s m args below meth c 5 [(0, va_rf (some o)), (2, .int x2), (3, .int x3), (4, va_rf x4)] K n I J R 0 0 (MQ below (QX D cA bs (some (.int res.1)) K n res.2.1 res.2.2 R) args s 0 0 (fun q => bs ≤ q)) 37 [] := by
  unfold f_X11_tape_37 at E
  refine v_iload_n C 1 dX11_tape_37 rfl ?_
  refine v_iconst C dX11_tape_38 k_iconst_m1 ?_
  refine v_icmp_eq C 49 E dX11_tape_39 rfl (fun c7 E => ?_) (fun c7 E => ?_)
  · exact v_sub [0, 1, 2, 3] [(0, va_rf (some o)), (2, .int x2), (3, .int x3), (4, va_rf x4)] rfl (w_X11_tape_49 C ho res  _ _ _ _ _ E)
  · refine v_iload_n C 2 dX11_tape_42 rfl ?_
    refine v_if_ge C 49 E dX11_tape_43 rfl (fun c6 E => ?_) (fun c6 E => ?_)
    · exact v_sub [0, 1, 2, 3] [(0, va_rf (some o)), (2, .int x2), (3, .int x3), (4, va_rf x4)] rfl (w_X11_tape_49 C ho res  _ _ _ _ _ E)
    · refine v_bipush C dX11_tape_46 k_bipush_m14 ?_
      obtain rfl := Option.some.inj E
      exact v_iret C rfl dX11_tape_48
set_option maxHeartbeats 4000000 in
theorem w_X11_tape_0 (C : Cx D cA bs Z p s m args meth c cX11_tape RX11 5 (some .int)) {o : Nat} {K : Sh} {n : Nat} {R : Rf} (ho : (K o).1 = 12) (res : Int32 × Im × Jm) (x1 : Int32) (x2 : Int32) (x3 : Int32) (I : Im) (J : Jm) (E : f_X11_tape K R o x1 x2 x3 I J = some res) : VW D cA bs p l e rX11_tape s m args below meth c 5 [(0, va_rf (some o)), (1, .int x1), (2, .int x2), (3, .int x3)] K n I J R 0 0 (MQ below (QX D cA bs (some (.int res.1)) K n res.2.1 res.2.2 R) args s 0 0 (fun q => bs ≤ q)) 0 [] := by
  unfold f_X11_tape at E
  refine v_aload_n (r := (some o)) C 0 dX11_tape_0 rfl ?_
  refine v_iload_n C 1 dX11_tape_1 rfl ?_
  obtain ⟨q8, h9, E⟩ := bnd E
  refine v_callV (r := (some o)) (As := [.int x1]) (rv := (some (va_rf q8))) (st := []) (st1 := [va_rf q8]) (ce1 := 0) (sl1 := 0) C cv_X11_279 (c_X11_tapeAt (x1 := x1) ho h9) rfl ho rfl rfl ⟨rfl, rfl, Nat.le_of_ble_eq_true rfl, Nat.le_of_ble_eq_true rfl⟩ ⟨Nat.le_of_ble_eq_true rfl, Nat.le_of_ble_eq_true rfl⟩ (Nat.le_of_ble_eq_true rfl) rfl rfl rfl dX11_tape_2 ?_
  refine v_astore (r := q8) C [(4, va_rf q8), (0, va_rf (some o)), (1, .int x1), (2, .int x2), (3, .int x3)] dX11_tape_5 (Nat.le_of_ble_eq_true rfl) rfl ?_
  refine v_aload (r := q8) C 0 dX11_tape_7 rfl ?_
  refine v_ifnonnull (r := q8) C 14 E dX11_tape_9 rfl (fun c15 E => ?_) (fun c15 E => ?_)
  · refine v_iconst C dX11_tape_12 k_iconst_m1 ?_
    obtain rfl := Option.some.inj E
    exact v_iret C rfl dX11_tape_13
  · refine v_iload_n C 3 dX11_tape_14 rfl ?_
    refine v_iconst C dX11_tape_15 k_iconst_m1 ?_
    refine v_iconst C dX11_tape_16 k_iconst_4 ?_
    obtain ⟨q10, h11, E⟩ := bnd E
    refine v_callS (As := [.int x2, .int (-1), .int 4]) (rv := (some (.int q10))) (st := []) (st1 := [.int q10]) (ce1 := 0) (sl1 := 0) C cs_X11_101 (c_X11_within (x0 := x2) (x1 := (-1)) (x2 := 4) h11) rfl rfl ⟨rfl, rfl, Nat.le_of_ble_eq_true rfl, Nat.le_of_ble_eq_true rfl⟩ ⟨Nat.le_of_ble_eq_true rfl, Nat.le_of_ble_eq_true rfl⟩ (Nat.le_of_ble_eq_true rfl) rfl rfl rfl dX11_tape_17 ?_
    refine v_if_eq C 34 E dX11_tape_20 rfl (fun c14 E => ?_) (fun c14 E => ?_)
    · refine v_bipush C dX11_tape_34 k_bipush_m2 ?_
      obtain rfl := Option.some.inj E
      exact v_iret C rfl dX11_tape_36
    · refine v_iload_n C 3 dX11_tape_23 rfl ?_
      refine v_iconst C dX11_tape_24 k_iconst_m1 ?_
      refine v_icmp_eq C 37 E dX11_tape_25 rfl (fun c13 E => ?_) (fun c13 E => ?_)
      · exact v_sub [1, 3, 4, 0] [(0, va_rf (some o)), (2, .int x2), (3, .int x3), (4, va_rf q8)] rfl (w_X11_tape_37 C ho res  _ _ _ _ _ E)
      · refine v_iload_n C 4 dX11_tape_28 rfl ?_
        refine v_bipush C dX11_tape_29 k_bipush_60 ?_
        refine v_icmp_le C 37 E dX11_tape_31 rfl (fun c12 E => ?_) (fun c12 E => ?_)
        · exact v_sub [1, 3, 4, 0] [(0, va_rf (some o)), (2, .int x2), (3, .int x3), (4, va_rf q8)] rfl (w_X11_tape_37 C ho res  _ _ _ _ _ E)
        · refine v_bipush C dX11_tape_34 k_bipush_m2 ?_
          obtain rfl := Option.some.inj E
          exact v_iret C rfl dX11_tape_36
set_option maxHeartbeats 4000000 in
theorem c_X11_tape {n : Nat} {K : Sh} {I : Im} {J : Jm} {R : Rf} {o : Nat} {x1 : Int32} {x2 : Int32} {x3 : Int32} (ho : (K o).1 = 12) {res : Int32 × Im × Jm} (E : f_X11_tape K R o x1 x2 x3 I J = some res) : Met l yX11_tape (Cond.code yX11_tape cX11_tape 5 (some .int) :: tb) rX11_tape (PX D cA bs Z [.ref o, .int x1, .int x2, .int x3] K n I J R) (QX D cA bs (some (.int res.1)) K n res.2.1 res.2.2 R) 0 0 (fun q => bs ≤ q) := by
  refine met_of (lv1 := [(0, va_rf (some o)), (1, .int x1), (2, .int x2), (3, .int x3)]) pn_X11 (by exact Nat.le_of_ble_eq_true rfl) (by rfl) ?_
  intro p e s m args below meth c C hn
  exact v_sub [0, 1, 2, 3] [(0, va_rf (some o)), (1, .int x1), (2, .int x2), (3, .int x3)] rfl (w_X11_tape_0 C ho _ _ _ _ _ _ E)
set_option maxHeartbeats 4000000 in
theorem w_X11_item_0 (C : Cx D cA bs Z p s m args meth c cX11_item RX11 6 (some .int)) {o : Nat} {K : Sh} {n : Nat} {I : Im} {R : Rf} (ho : (K o).1 = 12) (res : Int32 × Jm) (x1 : Int32) (x2 : Int32) (x3 : Int64) (J : Jm) (E : f_X11_item K I R o x1 x2 x3 J = some res) : VW D cA bs p l e rX11_item s m args below meth c 6 [(0, va_rf (some o)), (1, .int x1), (2, .int x2), (3, .long x3)] K n I J R 0 0 (MQ below (QX D cA bs (some (.int res.1)) K n I res.2 R) args s 0 0 (fun q => bs ≤ q)) 0 [] := by
  unfold f_X11_item at E
  refine v_aload_n (r := (some o)) C 0 dX11_item_0 rfl ?_
  refine v_iload_n C 1 dX11_item_1 rfl ?_
  obtain ⟨q1, h2, E⟩ := bnd E
  refine v_callV (r := (some o)) (As := [.int x1]) (rv := (some (va_rf q1))) (st := []) (st1 := [va_rf q1]) (ce1 := 0) (sl1 := 0) C cv_X11_279 (c_X11_tapeAt (x1 := x1) ho h2) rfl ho rfl rfl ⟨rfl, rfl, Nat.le_of_ble_eq_true rfl, Nat.le_of_ble_eq_true rfl⟩ ⟨Nat.le_of_ble_eq_true rfl, Nat.le_of_ble_eq_true rfl⟩ (Nat.le_of_ble_eq_true rfl) rfl rfl rfl dX11_item_2 ?_
  refine v_astore (r := q1) C [(5, va_rf q1), (0, va_rf (some o)), (1, .int x1), (2, .int x2), (3, .long x3)] dX11_item_5 (Nat.le_of_ble_eq_true rfl) rfl ?_
  refine v_aload (r := q1) C 0 dX11_item_7 rfl ?_
  refine v_ifnonnull (r := q1) C 14 E dX11_item_9 rfl (fun c12 E => ?_) (fun c12 E => ?_)
  · refine v_iconst C dX11_item_12 k_iconst_m1 ?_
    obtain rfl := Option.some.inj E
    exact v_iret C rfl dX11_item_13
  · refine v_aload (r := q1) C 0 dX11_item_14 rfl ?_
    obtain ⟨a3, h4, E⟩ := bnd E
    obtain ⟨hra3, hoa3⟩ := ob_is h4
    refine v_getI (r := q1) C fa_X11_283 rfl hra3 hoa3 dX11_item_16 ?_
    refine v_iconst C dX11_item_19 k_iconst_m1 ?_
    refine v_icmp_ne C 26 E dX11_item_20 rfl (fun c11 E => ?_) (fun c11 E => ?_)
    · refine v_bipush C dX11_item_23 k_bipush_m11 ?_
      obtain rfl := Option.some.inj E
      exact v_iret C rfl dX11_item_25
    · refine v_aload (r := q1) C 0 dX11_item_26 rfl ?_
      refine v_iload_n C 3 dX11_item_28 rfl ?_
      obtain ⟨q5, h6, E⟩ := bnd E
      refine v_callV (r := q1) (As := [.int x2]) (rv := (some (.int q5))) (st := []) (st1 := [.int q5]) (ce1 := 0) (sl1 := 0) C cv_X11_293 (c_X7_isPlace (x1 := x2) hoa3 h6) hra3 hoa3 rfl rfl ⟨rfl, rfl, Nat.le_of_ble_eq_true rfl, Nat.le_of_ble_eq_true rfl⟩ ⟨Nat.le_of_ble_eq_true rfl, Nat.le_of_ble_eq_true rfl⟩ (Nat.le_of_ble_eq_true rfl) rfl rfl rfl dX11_item_29 ?_
      refine v_if_ne C 38 E dX11_item_32 rfl (fun c10 E => ?_) (fun c10 E => ?_)
      · refine v_bipush C dX11_item_35 k_bipush_m13 ?_
        obtain rfl := Option.some.inj E
        exact v_iret C rfl dX11_item_37
      · refine v_aload (r := q1) C 0 dX11_item_38 rfl ?_
        refine v_getR (r := q1) C fa_X11_319 rfl hra3 hoa3 dX11_item_40 ?_
        refine v_iload_n C 3 dX11_item_43 rfl ?_
        refine v_aload (r := q1) C 0 dX11_item_44 rfl ?_
        refine v_lload_n C 4 dX11_item_46 rfl ?_
        obtain ⟨q7, h8, E⟩ := bnd E
        refine v_callV (r := q1) (As := [.long x3]) (rv := (some (.long q7))) (st := [.int x2, va_rf (R a3 2)]) (st1 := [.long q7, .int x2, va_rf (R a3 2)]) (ce1 := 0) (sl1 := 0) C cv_X11_323 (c_X7_narrowed (x1 := x3) hoa3 h8) hra3 hoa3 rfl rfl ⟨rfl, rfl, Nat.le_of_ble_eq_true rfl, Nat.le_of_ble_eq_true rfl⟩ ⟨Nat.le_of_ble_eq_true rfl, Nat.le_of_ble_eq_true rfl⟩ (by simp only [List.map_cons, List.map_nil, List.sum_cons, List.sum_nil, rf_cat]; exact Nat.le_of_ble_eq_true rfl) rfl rfl rfl dX11_item_47 ?_
        refine v_last (r := (R a3 2)) C E dX11_item_50 (fun J9 _ E => ?_)
        refine v_iconst C dX11_item_51 k_iconst_1 ?_
        obtain rfl := Option.some.inj E
        exact v_iret C rfl dX11_item_52
set_option maxHeartbeats 4000000 in
theorem c_X11_item {n : Nat} {K : Sh} {I : Im} {J : Jm} {R : Rf} {o : Nat} {x1 : Int32} {x2 : Int32} {x3 : Int64} (ho : (K o).1 = 12) {res : Int32 × Jm} (E : f_X11_item K I R o x1 x2 x3 J = some res) : Met l yX11_item (Cond.code yX11_item cX11_item 6 (some .int) :: tb) rX11_item (PX D cA bs Z [.ref o, .int x1, .int x2, .long x3] K n I J R) (QX D cA bs (some (.int res.1)) K n I res.2 R) 0 0 (fun q => bs ≤ q) := by
  refine met_of (lv1 := [(0, va_rf (some o)), (1, .int x1), (2, .int x2), (3, .long x3)]) pn_X11 (by exact Nat.le_of_ble_eq_true rfl) (by rfl) ?_
  intro p e s m args below meth c C hn
  exact v_sub [0, 1, 2, 3] [(0, va_rf (some o)), (1, .int x1), (2, .int x2), (3, .long x3)] rfl (w_X11_item_0 C ho _ _ _ _ _ E)
set_option maxHeartbeats 4000000 in
theorem w_X11_read_0 (C : Cx D cA bs Z p s m args meth c cX11_read RX11 4 (some .long)) {o : Nat} {K : Sh} {n : Nat} {I : Im} {J : Jm} {R : Rf} (ho : (K o).1 = 12) (res : Int64) (x1 : Int32) (x2 : Int32) (E : f_X11_read K I J R o x1 x2 = some res) : VW D cA bs p l e rX11_read s m args below meth c 4 [(0, va_rf (some o)), (1, .int x1), (2, .int x2)] K n I J R 0 0 (MQ below (QX D cA bs (some (.long res)) K n I J R) args s 0 0 (fun q => bs ≤ q)) 0 [] := by
  unfold f_X11_read at E
  refine v_aload_n (r := (some o)) C 0 dX11_read_0 rfl ?_
  refine v_iload_n C 1 dX11_read_1 rfl ?_
  obtain ⟨q1, h2, E⟩ := bnd E
  refine v_callV (r := (some o)) (As := [.int x1]) (rv := (some (va_rf q1))) (st := []) (st1 := [va_rf q1]) (ce1 := 0) (sl1 := 0) C cv_X11_279 (c_X11_tapeAt (x1 := x1) ho h2) rfl ho rfl rfl ⟨rfl, rfl, Nat.le_of_ble_eq_true rfl, Nat.le_of_ble_eq_true rfl⟩ ⟨Nat.le_of_ble_eq_true rfl, Nat.le_of_ble_eq_true rfl⟩ (Nat.le_of_ble_eq_true rfl) rfl rfl rfl dX11_read_2 ?_
  refine v_astore_n (r := q1) C [(3, va_rf q1), (0, va_rf (some o)), (1, .int x1), (2, .int x2)] dX11_read_5 (Nat.le_of_ble_eq_true rfl) rfl ?_
  refine v_aload_n (r := q1) C 0 dX11_read_6 rfl ?_
  refine v_ifnull (r := q1) C 27 E dX11_read_7 rfl (fun c9 E => ?_) (fun c9 E => ?_)
  · refine v_ldc2 C ct_X11_259 dX11_read_27 ?_
    obtain rfl := Option.some.inj E
    exact v_lret C rfl dX11_read_30
  · refine v_aload_n (r := q1) C 0 dX11_read_10 rfl ?_
    refine v_iload_n C 3 dX11_read_11 rfl ?_
    obtain ⟨a3, h4, E⟩ := bnd E
    obtain ⟨hra3, hoa3⟩ := ob_is h4
    obtain ⟨q5, h6, E⟩ := bnd E
    refine v_callV (r := q1) (As := [.int x2]) (rv := (some (.int q5))) (st := []) (st1 := [.int q5]) (ce1 := 0) (sl1 := 0) C cv_X11_293 (c_X7_isPlace (x1 := x2) hoa3 h6) hra3 hoa3 rfl rfl ⟨rfl, rfl, Nat.le_of_ble_eq_true rfl, Nat.le_of_ble_eq_true rfl⟩ ⟨Nat.le_of_ble_eq_true rfl, Nat.le_of_ble_eq_true rfl⟩ (Nat.le_of_ble_eq_true rfl) rfl rfl rfl dX11_read_12 ?_
    refine v_if_eq C 27 E dX11_read_15 rfl (fun c8 E => ?_) (fun c8 E => ?_)
    · refine v_ldc2 C ct_X11_259 dX11_read_27 ?_
      obtain rfl := Option.some.inj E
      exact v_lret C rfl dX11_read_30
    · refine v_aload_n (r := q1) C 0 dX11_read_18 rfl ?_
      refine v_getR (r := q1) C fa_X11_319 rfl hra3 hoa3 dX11_read_19 ?_
      refine v_iload_n C 3 dX11_read_22 rfl ?_
      refine v_lald (r := (R a3 2)) C E dX11_read_23 (fun v7 _ E => ?_)
      refine v_goto C 30 dX11_read_24 rfl ?_
      obtain rfl := Option.some.inj E
      exact v_lret C rfl dX11_read_30
set_option maxHeartbeats 4000000 in
theorem c_X11_read {n : Nat} {K : Sh} {I : Im} {J : Jm} {R : Rf} {o : Nat} {x1 : Int32} {x2 : Int32} (ho : (K o).1 = 12) {res : Int64} (E : f_X11_read K I J R o x1 x2 = some res) : Met l yX11_read (Cond.code yX11_read cX11_read 4 (some .long) :: tb) rX11_read (PX D cA bs Z [.ref o, .int x1, .int x2] K n I J R) (QX D cA bs (some (.long res)) K n I J R) 0 0 (fun q => bs ≤ q) := by
  refine met_of (lv1 := [(0, va_rf (some o)), (1, .int x1), (2, .int x2)]) pn_X11 (by exact Nat.le_of_ble_eq_true rfl) (by rfl) ?_
  intro p e s m args below meth c C hn
  exact v_sub [0, 1, 2] [(0, va_rf (some o)), (1, .int x1), (2, .int x2)] rfl (w_X11_read_0 C ho _ _ _ E)
set_option maxHeartbeats 4000000 in
set_option maxRecDepth 100000 in
theorem w_X12_init_0 (C : Cx D cA bs Z p s m args meth c cX12_init RX12 1 none) (hin : meth.name = "<init>") {o : Nat}  (res : Sh × Nat × Im × Jm × Rf) (K : Sh) (n : Nat) (I : Im) (J : Jm) (R : Rf) (E : f_X12_init o K n I J R = some res) : VW D cA bs p l e rX12_init s m args below meth c 1 [(0, va_rf (some o))] K n I J R 0 0 (MQ below (QX D cA bs none res.1 res.2.1 res.2.2.1 res.2.2.2.1 res.2.2.2.2) args s 47 1957 (fun q => bs ≤ q)) 0 [] := by
  unfold f_X12_init at E
  refine v_aload_n (r := (some o)) C 0 dX12_init_0 rfl ?_
  refine v_objInit (a := o) C oi_X12 oi_i oi_c (Nat.le_of_ble_eq_true rfl) (Nat.le_of_ble_eq_true rfl) dX12_init_1 ?_
  refine v_aload_n (r := (some o)) C 0 dX12_init_4 rfl ?_
  refine v_iconst C dX12_init_5 k_iconst_0 ?_
  obtain ⟨a1, h2, E⟩ := bnd E
  obtain ⟨hra1, hoa1⟩ := ob_is h2
  refine v_putI (r := (some o)) C fa_X12_7 rfl E hra1 hoa1 ⟨rfl, rfl⟩ dX12_init_6 (fun I3 _ E => ?_)
  refine v_aload_n (r := (some o)) C 0 dX12_init_9 rfl ?_
  refine v_iconst C dX12_init_10 k_iconst_m1 ?_
  refine v_putI (r := (some o)) C fa_X12_13 rfl E hra1 hoa1 ⟨rfl, rfl⟩ dX12_init_11 (fun I4 _ E => ?_)
  refine v_aload_n (r := (some o)) C 0 dX12_init_14 rfl ?_
  refine v_iconst C dX12_init_15 k_iconst_0 ?_
  refine v_putI (r := (some o)) C fa_X12_16 rfl E hra1 hoa1 ⟨rfl, rfl⟩ dX12_init_16 (fun I5 _ E => ?_)
  refine v_aload_n (r := (some o)) C 0 dX12_init_19 rfl ?_
  refine v_iconst C dX12_init_20 k_iconst_0 ?_
  refine v_putI (r := (some o)) C fa_X12_19 rfl E hra1 hoa1 ⟨rfl, rfl⟩ dX12_init_21 (fun I6 _ E => ?_)
  refine v_aload_n (r := (some o)) C 0 dX12_init_24 rfl ?_
  refine v_iconst C dX12_init_25 k_iconst_0 ?_
  refine v_putI (r := (some o)) C fa_X12_22 rfl E hra1 hoa1 ⟨rfl, rfl⟩ dX12_init_26 (fun I7 _ E => ?_)
  refine v_aload_n (r := (some o)) C 0 dX12_init_29 rfl ?_
  refine v_bipush C dX12_init_30 k_bipush_100 ?_
  refine v_newI (N := 100) (ce1 := 1) (sl1 := 100) C ac_int E (by decide) (by decide) rfl rfl (Nat.le_of_ble_eq_true rfl) (Nat.le_of_ble_eq_true rfl) dX12_init_32 (fun K8 _ E => ?_)
  refine v_mpI E (fun I9 _ E => ?_)
  obtain ⟨a10, h11, E⟩ := bnd E
  obtain ⟨hra10, hoa10⟩ := ob_is h11
  refine v_putRF (r := (some o)) (q := (some n)) C fa_X12_25 fo_X12_25 hin rfl E hra10 hoa10 dX12_init_34 (fun R12 _ E => ?_)
  refine v_aload_n (r := (some o)) C 0 dX12_init_37 rfl ?_
  refine v_iconst C dX12_init_38 k_iconst_5 ?_
  refine v_newI (N := 5) (ce1 := 2) (sl1 := 105) C ac_int E (by decide) (by decide) rfl rfl (Nat.le_of_ble_eq_true rfl) (Nat.le_of_ble_eq_true rfl) dX12_init_39 (fun K13 _ E => ?_)
  refine v_mpI E (fun I14 _ E => ?_)
  obtain ⟨a15, h16, E⟩ := bnd E
  obtain ⟨hra15, hoa15⟩ := ob_is h16
  refine v_putRF (r := (some o)) (q := (some (n + 1))) C fa_X12_29 fo_X12_29 hin rfl E hra15 hoa15 dX12_init_41 (fun R17 _ E => ?_)
  refine v_aload_n (r := (some o)) C 0 dX12_init_44 rfl ?_
  refine v_bipush C dX12_init_45 k_bipush_60 ?_
  refine v_newI (N := 60) (ce1 := 3) (sl1 := 165) C ac_int E (by decide) (by decide) rfl rfl (Nat.le_of_ble_eq_true rfl) (Nat.le_of_ble_eq_true rfl) dX12_init_47 (fun K18 _ E => ?_)
  refine v_mpI E (fun I19 _ E => ?_)
  obtain ⟨a20, h21, E⟩ := bnd E
  obtain ⟨hra20, hoa20⟩ := ob_is h21
  refine v_putRF (r := (some o)) (q := (some (n + 2))) C fa_X12_32 fo_X12_32 hin rfl E hra20 hoa20 dX12_init_49 (fun R22 _ E => ?_)
  refine v_aload_n (r := (some o)) C 0 dX12_init_52 rfl ?_
  refine v_bipush C dX12_init_53 k_bipush_60 ?_
  refine v_newI (N := 60) (ce1 := 4) (sl1 := 225) C ac_int E (by decide) (by decide) rfl rfl (Nat.le_of_ble_eq_true rfl) (Nat.le_of_ble_eq_true rfl) dX12_init_55 (fun K23 _ E => ?_)
  refine v_mpI E (fun I24 _ E => ?_)
  obtain ⟨a25, h26, E⟩ := bnd E
  obtain ⟨hra25, hoa25⟩ := ob_is h26
  refine v_putRF (r := (some o)) (q := (some (n + 3))) C fa_X12_35 fo_X12_35 hin rfl E hra25 hoa25 dX12_init_57 (fun R27 _ E => ?_)
  refine v_aload_n (r := (some o)) C 0 dX12_init_60 rfl ?_
  refine v_bipush C dX12_init_61 k_bipush_60 ?_
  refine v_newI (N := 60) (ce1 := 5) (sl1 := 285) C ac_int E (by decide) (by decide) rfl rfl (Nat.le_of_ble_eq_true rfl) (Nat.le_of_ble_eq_true rfl) dX12_init_63 (fun K28 _ E => ?_)
  refine v_mpI E (fun I29 _ E => ?_)
  obtain ⟨a30, h31, E⟩ := bnd E
  obtain ⟨hra30, hoa30⟩ := ob_is h31
  refine v_putRF (r := (some o)) (q := (some (n + 4))) C fa_X12_38 fo_X12_38 hin rfl E hra30 hoa30 dX12_init_65 (fun R32 _ E => ?_)
  refine v_aload_n (r := (some o)) C 0 dX12_init_68 rfl ?_
  refine v_bipush C dX12_init_69 k_bipush_60 ?_
  refine v_newI (N := 60) (ce1 := 6) (sl1 := 345) C ac_int E (by decide) (by decide) rfl rfl (Nat.le_of_ble_eq_true rfl) (Nat.le_of_ble_eq_true rfl) dX12_init_71 (fun K33 _ E => ?_)
  refine v_mpI E (fun I34 _ E => ?_)
  obtain ⟨a35, h36, E⟩ := bnd E
  obtain ⟨hra35, hoa35⟩ := ob_is h36
  refine v_putRF (r := (some o)) (q := (some (n + 5))) C fa_X12_41 fo_X12_41 hin rfl E hra35 hoa35 dX12_init_73 (fun R37 _ E => ?_)
  refine v_aload_n (r := (some o)) C 0 dX12_init_76 rfl ?_
  refine v_bipush C dX12_init_77 k_bipush_60 ?_
  refine v_newI (N := 60) (ce1 := 7) (sl1 := 405) C ac_int E (by decide) (by decide) rfl rfl (Nat.le_of_ble_eq_true rfl) (Nat.le_of_ble_eq_true rfl) dX12_init_79 (fun K38 _ E => ?_)
  refine v_mpI E (fun I39 _ E => ?_)
  obtain ⟨a40, h41, E⟩ := bnd E
  obtain ⟨hra40, hoa40⟩ := ob_is h41
  refine v_putRF (r := (some o)) (q := (some (n + 6))) C fa_X12_44 fo_X12_44 hin rfl E hra40 hoa40 dX12_init_81 (fun R42 _ E => ?_)
  refine v_aload_n (r := (some o)) C 0 dX12_init_84 rfl ?_
  refine v_sipush C dX12_init_85 k_sipush_500 ?_
  refine v_newI (N := 500) (ce1 := 8) (sl1 := 905) C ac_int E (by decide) (by decide) rfl rfl (Nat.le_of_ble_eq_true rfl) (Nat.le_of_ble_eq_true rfl) dX12_init_88 (fun K43 _ E => ?_)
  refine v_mpI E (fun I44 _ E => ?_)
  obtain ⟨a45, h46, E⟩ := bnd E
  obtain ⟨hra45, hoa45⟩ := ob_is h46
  refine v_putRF (r := (some o)) (q := (some (n + 7))) C fa_X12_47 fo_X12_47 hin rfl E hra45 hoa45 dX12_init_90 (fun R47 _ E => ?_)
  refine v_aload_n (r := (some o)) C 0 dX12_init_93 rfl ?_
  refine v_bipush C dX12_init_94 k_bipush_101 ?_
  refine v_newI (N := 101) (ce1 := 9) (sl1 := 1006) C ac_int E (by decide) (by decide) rfl rfl (Nat.le_of_ble_eq_true rfl) (Nat.le_of_ble_eq_true rfl) dX12_init_96 (fun K48 _ E => ?_)
  refine v_mpI E (fun I49 _ E => ?_)
  obtain ⟨a50, h51, E⟩ := bnd E
  obtain ⟨hra50, hoa50⟩ := ob_is h51
  refine v_putRF (r := (some o)) (q := (some (n + 8))) C fa_X12_50 fo_X12_50 hin rfl E hra50 hoa50 dX12_init_98 (fun R52 _ E => ?_)
  refine v_aload_n (r := (some o)) C 0 dX12_init_101 rfl ?_
  refine v_iconst C dX12_init_102 k_iconst_0 ?_
  refine v_putI (r := (some o)) C fa_X12_53 rfl E hra50 hoa50 ⟨rfl, rfl⟩ dX12_init_103 (fun I53 _ E => ?_)
  refine v_aload_n (r := (some o)) C 0 dX12_init_106 rfl ?_
  refine v_iconst C dX12_init_107 k_iconst_0 ?_
  refine v_putI (r := (some o)) C fa_X12_56 rfl E hra50 hoa50 ⟨rfl, rfl⟩ dX12_init_108 (fun I54 _ E => ?_)
  refine v_aload_n (r := (some o)) C 0 dX12_init_111 rfl ?_
  refine v_iconst C dX12_init_112 k_iconst_0 ?_
  refine v_putI (r := (some o)) C fa_X12_59 rfl E hra50 hoa50 ⟨rfl, rfl⟩ dX12_init_113 (fun I55 _ E => ?_)
  refine v_aload_n (r := (some o)) C 0 dX12_init_116 rfl ?_
  refine v_bipush C dX12_init_117 k_bipush_100 ?_
  refine v_newZ (N := 100) (ce1 := 10) (sl1 := 1106) C ac_boolean E (by decide) (by decide) rfl rfl (Nat.le_of_ble_eq_true rfl) (Nat.le_of_ble_eq_true rfl) dX12_init_119 (fun K56 _ E => ?_)
  refine v_mpI E (fun I57 _ E => ?_)
  obtain ⟨a58, h59, E⟩ := bnd E
  obtain ⟨hra58, hoa58⟩ := ob_is h59
  refine v_putRF (r := (some o)) (q := (some (n + 9))) C fa_X12_62 fo_X12_62 hin rfl E hra58 hoa58 dX12_init_121 (fun R60 _ E => ?_)
  refine v_aload_n (r := (some o)) C 0 dX12_init_124 rfl ?_
  refine v_iconst C dX12_init_125 k_iconst_5 ?_
  refine v_newI (N := 5) (ce1 := 11) (sl1 := 1111) C ac_int E (by decide) (by decide) rfl rfl (Nat.le_of_ble_eq_true rfl) (Nat.le_of_ble_eq_true rfl) dX12_init_126 (fun K61 _ E => ?_)
  refine v_mpI E (fun I62 _ E => ?_)
  obtain ⟨a63, h64, E⟩ := bnd E
  obtain ⟨hra63, hoa63⟩ := ob_is h64
  refine v_putRF (r := (some o)) (q := (some (n + 10))) C fa_X12_66 fo_X12_66 hin rfl E hra63 hoa63 dX12_init_128 (fun R65 _ E => ?_)
  refine v_aload_n (r := (some o)) C 0 dX12_init_131 rfl ?_
  refine v_iconst C dX12_init_132 k_iconst_5 ?_
  refine v_newI (N := 5) (ce1 := 12) (sl1 := 1116) C ac_int E (by decide) (by decide) rfl rfl (Nat.le_of_ble_eq_true rfl) (Nat.le_of_ble_eq_true rfl) dX12_init_133 (fun K66 _ E => ?_)
  refine v_mpI E (fun I67 _ E => ?_)
  obtain ⟨a68, h69, E⟩ := bnd E
  obtain ⟨hra68, hoa68⟩ := ob_is h69
  refine v_putRF (r := (some o)) (q := (some (n + 11))) C fa_X12_69 fo_X12_69 hin rfl E hra68 hoa68 dX12_init_135 (fun R70 _ E => ?_)
  refine v_aload_n (r := (some o)) C 0 dX12_init_138 rfl ?_
  refine v_iconst C dX12_init_139 k_iconst_5 ?_
  refine v_newI (N := 5) (ce1 := 13) (sl1 := 1121) C ac_int E (by decide) (by decide) rfl rfl (Nat.le_of_ble_eq_true rfl) (Nat.le_of_ble_eq_true rfl) dX12_init_140 (fun K71 _ E => ?_)
  refine v_mpI E (fun I72 _ E => ?_)
  obtain ⟨a73, h74, E⟩ := bnd E
  obtain ⟨hra73, hoa73⟩ := ob_is h74
  refine v_putRF (r := (some o)) (q := (some (n + 12))) C fa_X12_72 fo_X12_72 hin rfl E hra73 hoa73 dX12_init_142 (fun R75 _ E => ?_)
  refine v_aload_n (r := (some o)) C 0 dX12_init_145 rfl ?_
  refine v_iconst C dX12_init_146 k_iconst_0 ?_
  refine v_putI (r := (some o)) C fa_X12_75 rfl E hra73 hoa73 ⟨rfl, rfl⟩ dX12_init_147 (fun I76 _ E => ?_)
  refine v_aload_n (r := (some o)) C 0 dX12_init_150 rfl ?_
  refine v_bipush C dX12_init_151 k_bipush_6 ?_
  refine v_newI (N := 6) (ce1 := 14) (sl1 := 1127) C ac_int E (by decide) (by decide) rfl rfl (Nat.le_of_ble_eq_true rfl) (Nat.le_of_ble_eq_true rfl) dX12_init_153 (fun K77 _ E => ?_)
  refine v_mpI E (fun I78 _ E => ?_)
  obtain ⟨a79, h80, E⟩ := bnd E
  obtain ⟨hra79, hoa79⟩ := ob_is h80
  refine v_putRF (r := (some o)) (q := (some (n + 13))) C fa_X12_78 fo_X12_78 hin rfl E hra79 hoa79 dX12_init_155 (fun R81 _ E => ?_)
  refine v_aload_n (r := (some o)) C 0 dX12_init_158 rfl ?_
  refine v_bipush C dX12_init_159 k_bipush_6 ?_
  refine v_newI (N := 6) (ce1 := 15) (sl1 := 1133) C ac_int E (by decide) (by decide) rfl rfl (Nat.le_of_ble_eq_true rfl) (Nat.le_of_ble_eq_true rfl) dX12_init_161 (fun K82 _ E => ?_)
  refine v_mpI E (fun I83 _ E => ?_)
  obtain ⟨a84, h85, E⟩ := bnd E
  obtain ⟨hra84, hoa84⟩ := ob_is h85
  refine v_putRF (r := (some o)) (q := (some (n + 14))) C fa_X12_81 fo_X12_81 hin rfl E hra84 hoa84 dX12_init_163 (fun R86 _ E => ?_)
  refine v_aload_n (r := (some o)) C 0 dX12_init_166 rfl ?_
  refine v_bipush C dX12_init_167 k_bipush_7 ?_
  refine v_newI (N := 7) (ce1 := 16) (sl1 := 1140) C ac_int E (by decide) (by decide) rfl rfl (Nat.le_of_ble_eq_true rfl) (Nat.le_of_ble_eq_true rfl) dX12_init_169 (fun K87 _ E => ?_)
  refine v_mpI E (fun I88 _ E => ?_)
  obtain ⟨a89, h90, E⟩ := bnd E
  obtain ⟨hra89, hoa89⟩ := ob_is h90
  refine v_putRF (r := (some o)) (q := (some (n + 15))) C fa_X12_84 fo_X12_84 hin rfl E hra89 hoa89 dX12_init_171 (fun R91 _ E => ?_)
  refine v_aload_n (r := (some o)) C 0 dX12_init_174 rfl ?_
  refine v_bipush C dX12_init_175 k_bipush_6 ?_
  refine v_newI (N := 6) (ce1 := 17) (sl1 := 1146) C ac_int E (by decide) (by decide) rfl rfl (Nat.le_of_ble_eq_true rfl) (Nat.le_of_ble_eq_true rfl) dX12_init_177 (fun K92 _ E => ?_)
  refine v_mpI E (fun I93 _ E => ?_)
  obtain ⟨a94, h95, E⟩ := bnd E
  obtain ⟨hra94, hoa94⟩ := ob_is h95
  refine v_putRF (r := (some o)) (q := (some (n + 16))) C fa_X12_87 fo_X12_87 hin rfl E hra94 hoa94 dX12_init_179 (fun R96 _ E => ?_)
  refine v_aload_n (r := (some o)) C 0 dX12_init_182 rfl ?_
  refine v_bipush C dX12_init_183 k_bipush_6 ?_
  refine v_newI (N := 6) (ce1 := 18) (sl1 := 1152) C ac_int E (by decide) (by decide) rfl rfl (Nat.le_of_ble_eq_true rfl) (Nat.le_of_ble_eq_true rfl) dX12_init_185 (fun K97 _ E => ?_)
  refine v_mpI E (fun I98 _ E => ?_)
  obtain ⟨a99, h100, E⟩ := bnd E
  obtain ⟨hra99, hoa99⟩ := ob_is h100
  refine v_putRF (r := (some o)) (q := (some (n + 17))) C fa_X12_90 fo_X12_90 hin rfl E hra99 hoa99 dX12_init_187 (fun R101 _ E => ?_)
  refine v_aload_n (r := (some o)) C 0 dX12_init_190 rfl ?_
  refine v_iconst C dX12_init_191 k_iconst_0 ?_
  refine v_putI (r := (some o)) C fa_X12_93 rfl E hra99 hoa99 ⟨rfl, rfl⟩ dX12_init_192 (fun I102 _ E => ?_)
  refine v_aload_n (r := (some o)) C 0 dX12_init_195 rfl ?_
  refine v_iconst C dX12_init_196 k_iconst_0 ?_
  refine v_putI (r := (some o)) C fa_X12_96 rfl E hra99 hoa99 ⟨rfl, rfl⟩ dX12_init_197 (fun I103 _ E => ?_)
  refine v_aload_n (r := (some o)) C 0 dX12_init_200 rfl ?_
  refine v_iconst C dX12_init_201 k_iconst_0 ?_
  refine v_putI (r := (some o)) C fa_X12_99 rfl E hra99 hoa99 ⟨rfl, rfl⟩ dX12_init_202 (fun I104 _ E => ?_)
  refine v_aload_n (r := (some o)) C 0 dX12_init_205 rfl ?_
  refine v_bipush C dX12_init_206 k_bipush_11 ?_
  refine v_newI (N := 11) (ce1 := 19) (sl1 := 1163) C ac_int E (by decide) (by decide) rfl rfl (Nat.le_of_ble_eq_true rfl) (Nat.le_of_ble_eq_true rfl) dX12_init_208 (fun K105 _ E => ?_)
  refine v_mpI E (fun I106 _ E => ?_)
  obtain ⟨a107, h108, E⟩ := bnd E
  obtain ⟨hra107, hoa107⟩ := ob_is h108
  refine v_putRF (r := (some o)) (q := (some (n + 18))) C fa_X12_102 fo_X12_102 hin rfl E hra107 hoa107 dX12_init_210 (fun R109 _ E => ?_)
  refine v_aload_n (r := (some o)) C 0 dX12_init_213 rfl ?_
  refine v_bipush C dX12_init_214 k_bipush_11 ?_
  refine v_newI (N := 11) (ce1 := 20) (sl1 := 1174) C ac_int E (by decide) (by decide) rfl rfl (Nat.le_of_ble_eq_true rfl) (Nat.le_of_ble_eq_true rfl) dX12_init_216 (fun K110 _ E => ?_)
  refine v_mpI E (fun I111 _ E => ?_)
  obtain ⟨a112, h113, E⟩ := bnd E
  obtain ⟨hra112, hoa112⟩ := ob_is h113
  refine v_putRF (r := (some o)) (q := (some (n + 19))) C fa_X12_105 fo_X12_105 hin rfl E hra112 hoa112 dX12_init_218 (fun R114 _ E => ?_)
  refine v_aload_n (r := (some o)) C 0 dX12_init_221 rfl ?_
  refine v_bipush C dX12_init_222 k_bipush_11 ?_
  refine v_newI (N := 11) (ce1 := 21) (sl1 := 1185) C ac_int E (by decide) (by decide) rfl rfl (Nat.le_of_ble_eq_true rfl) (Nat.le_of_ble_eq_true rfl) dX12_init_224 (fun K115 _ E => ?_)
  refine v_mpI E (fun I116 _ E => ?_)
  obtain ⟨a117, h118, E⟩ := bnd E
  obtain ⟨hra117, hoa117⟩ := ob_is h118
  refine v_putRF (r := (some o)) (q := (some (n + 20))) C fa_X12_108 fo_X12_108 hin rfl E hra117 hoa117 dX12_init_226 (fun R119 _ E => ?_)
  refine v_aload_n (r := (some o)) C 0 dX12_init_229 rfl ?_
  refine v_bipush C dX12_init_230 k_bipush_55 ?_
  refine v_newI (N := 55) (ce1 := 22) (sl1 := 1240) C ac_int E (by decide) (by decide) rfl rfl (Nat.le_of_ble_eq_true rfl) (Nat.le_of_ble_eq_true rfl) dX12_init_232 (fun K120 _ E => ?_)
  refine v_mpI E (fun I121 _ E => ?_)
  obtain ⟨a122, h123, E⟩ := bnd E
  obtain ⟨hra122, hoa122⟩ := ob_is h123
  refine v_putRF (r := (some o)) (q := (some (n + 21))) C fa_X12_111 fo_X12_111 hin rfl E hra122 hoa122 dX12_init_234 (fun R124 _ E => ?_)
  refine v_aload_n (r := (some o)) C 0 dX12_init_237 rfl ?_
  refine v_bipush C dX12_init_238 k_bipush_7 ?_
  refine v_newI (N := 7) (ce1 := 23) (sl1 := 1247) C ac_int E (by decide) (by decide) rfl rfl (Nat.le_of_ble_eq_true rfl) (Nat.le_of_ble_eq_true rfl) dX12_init_240 (fun K125 _ E => ?_)
  refine v_mpI E (fun I126 _ E => ?_)
  obtain ⟨a127, h128, E⟩ := bnd E
  obtain ⟨hra127, hoa127⟩ := ob_is h128
  refine v_putRF (r := (some o)) (q := (some (n + 22))) C fa_X12_114 fo_X12_114 hin rfl E hra127 hoa127 dX12_init_242 (fun R129 _ E => ?_)
  refine v_aload_n (r := (some o)) C 0 dX12_init_245 rfl ?_
  refine v_bipush C dX12_init_246 k_bipush_7 ?_
  refine v_newI (N := 7) (ce1 := 24) (sl1 := 1254) C ac_int E (by decide) (by decide) rfl rfl (Nat.le_of_ble_eq_true rfl) (Nat.le_of_ble_eq_true rfl) dX12_init_248 (fun K130 _ E => ?_)
  refine v_mpI E (fun I131 _ E => ?_)
  obtain ⟨a132, h133, E⟩ := bnd E
  obtain ⟨hra132, hoa132⟩ := ob_is h133
  refine v_putRF (r := (some o)) (q := (some (n + 23))) C fa_X12_117 fo_X12_117 hin rfl E hra132 hoa132 dX12_init_250 (fun R134 _ E => ?_)
  refine v_aload_n (r := (some o)) C 0 dX12_init_253 rfl ?_
  refine v_bipush C dX12_init_254 k_bipush_7 ?_
  refine v_newI (N := 7) (ce1 := 25) (sl1 := 1261) C ac_int E (by decide) (by decide) rfl rfl (Nat.le_of_ble_eq_true rfl) (Nat.le_of_ble_eq_true rfl) dX12_init_256 (fun K135 _ E => ?_)
  refine v_mpI E (fun I136 _ E => ?_)
  obtain ⟨a137, h138, E⟩ := bnd E
  obtain ⟨hra137, hoa137⟩ := ob_is h138
  refine v_putRF (r := (some o)) (q := (some (n + 24))) C fa_X12_120 fo_X12_120 hin rfl E hra137 hoa137 dX12_init_258 (fun R139 _ E => ?_)
  refine v_aload_n (r := (some o)) C 0 dX12_init_261 rfl ?_
  refine v_iconst C dX12_init_262 k_iconst_5 ?_
  refine v_newI (N := 5) (ce1 := 26) (sl1 := 1266) C ac_int E (by decide) (by decide) rfl rfl (Nat.le_of_ble_eq_true rfl) (Nat.le_of_ble_eq_true rfl) dX12_init_263 (fun K140 _ E => ?_)
  refine v_mpI E (fun I141 _ E => ?_)
  obtain ⟨a142, h143, E⟩ := bnd E
  obtain ⟨hra142, hoa142⟩ := ob_is h143
  refine v_putRF (r := (some o)) (q := (some (n + 25))) C fa_X12_123 fo_X12_123 hin rfl E hra142 hoa142 dX12_init_265 (fun R144 _ E => ?_)
  refine v_aload_n (r := (some o)) C 0 dX12_init_268 rfl ?_
  refine v_sipush C dX12_init_269 k_sipush_168 ?_
  refine v_newI (N := 168) (ce1 := 27) (sl1 := 1434) C ac_int E (by decide) (by decide) rfl rfl (Nat.le_of_ble_eq_true rfl) (Nat.le_of_ble_eq_true rfl) dX12_init_272 (fun K145 _ E => ?_)
  refine v_mpI E (fun I146 _ E => ?_)
  obtain ⟨a147, h148, E⟩ := bnd E
  obtain ⟨hra147, hoa147⟩ := ob_is h148
  refine v_putRF (r := (some o)) (q := (some (n + 26))) C fa_X12_126 fo_X12_126 hin rfl E hra147 hoa147 dX12_init_274 (fun R149 _ E => ?_)
  refine v_aload_n (r := (some o)) C 0 dX12_init_277 rfl ?_
  refine v_bipush C dX12_init_278 k_bipush_6 ?_
  refine v_newI (N := 6) (ce1 := 28) (sl1 := 1440) C ac_int E (by decide) (by decide) rfl rfl (Nat.le_of_ble_eq_true rfl) (Nat.le_of_ble_eq_true rfl) dX12_init_280 (fun K150 _ E => ?_)
  refine v_mpI E (fun I151 _ E => ?_)
  obtain ⟨a152, h153, E⟩ := bnd E
  obtain ⟨hra152, hoa152⟩ := ob_is h153
  refine v_putRF (r := (some o)) (q := (some (n + 27))) C fa_X12_129 fo_X12_129 hin rfl E hra152 hoa152 dX12_init_282 (fun R154 _ E => ?_)
  refine v_aload_n (r := (some o)) C 0 dX12_init_285 rfl ?_
  refine v_bipush C dX12_init_286 k_bipush_6 ?_
  refine v_newI (N := 6) (ce1 := 29) (sl1 := 1446) C ac_int E (by decide) (by decide) rfl rfl (Nat.le_of_ble_eq_true rfl) (Nat.le_of_ble_eq_true rfl) dX12_init_288 (fun K155 _ E => ?_)
  refine v_mpI E (fun I156 _ E => ?_)
  obtain ⟨a157, h158, E⟩ := bnd E
  obtain ⟨hra157, hoa157⟩ := ob_is h158
  refine v_putRF (r := (some o)) (q := (some (n + 28))) C fa_X12_132 fo_X12_132 hin rfl E hra157 hoa157 dX12_init_290 (fun R159 _ E => ?_)
  refine v_aload_n (r := (some o)) C 0 dX12_init_293 rfl ?_
  refine v_bipush C dX12_init_294 k_bipush_6 ?_
  refine v_newI (N := 6) (ce1 := 30) (sl1 := 1452) C ac_int E (by decide) (by decide) rfl rfl (Nat.le_of_ble_eq_true rfl) (Nat.le_of_ble_eq_true rfl) dX12_init_296 (fun K160 _ E => ?_)
  refine v_mpI E (fun I161 _ E => ?_)
  obtain ⟨a162, h163, E⟩ := bnd E
  obtain ⟨hra162, hoa162⟩ := ob_is h163
  refine v_putRF (r := (some o)) (q := (some (n + 29))) C fa_X12_135 fo_X12_135 hin rfl E hra162 hoa162 dX12_init_298 (fun R164 _ E => ?_)
  refine v_aload_n (r := (some o)) C 0 dX12_init_301 rfl ?_
  refine v_bipush C dX12_init_302 k_bipush_6 ?_
  refine v_newI (N := 6) (ce1 := 31) (sl1 := 1458) C ac_int E (by decide) (by decide) rfl rfl (Nat.le_of_ble_eq_true rfl) (Nat.le_of_ble_eq_true rfl) dX12_init_304 (fun K165 _ E => ?_)
  refine v_mpI E (fun I166 _ E => ?_)
  obtain ⟨a167, h168, E⟩ := bnd E
  obtain ⟨hra167, hoa167⟩ := ob_is h168
  refine v_putRF (r := (some o)) (q := (some (n + 30))) C fa_X12_138 fo_X12_138 hin rfl E hra167 hoa167 dX12_init_306 (fun R169 _ E => ?_)
  refine v_aload_n (r := (some o)) C 0 dX12_init_309 rfl ?_
  refine v_bipush C dX12_init_310 k_bipush_6 ?_
  refine v_newI (N := 6) (ce1 := 32) (sl1 := 1464) C ac_int E (by decide) (by decide) rfl rfl (Nat.le_of_ble_eq_true rfl) (Nat.le_of_ble_eq_true rfl) dX12_init_312 (fun K170 _ E => ?_)
  refine v_mpI E (fun I171 _ E => ?_)
  obtain ⟨a172, h173, E⟩ := bnd E
  obtain ⟨hra172, hoa172⟩ := ob_is h173
  refine v_putRF (r := (some o)) (q := (some (n + 31))) C fa_X12_141 fo_X12_141 hin rfl E hra172 hoa172 dX12_init_314 (fun R174 _ E => ?_)
  refine v_aload_n (r := (some o)) C 0 dX12_init_317 rfl ?_
  refine v_bipush C dX12_init_318 k_bipush_6 ?_
  refine v_newI (N := 6) (ce1 := 33) (sl1 := 1470) C ac_int E (by decide) (by decide) rfl rfl (Nat.le_of_ble_eq_true rfl) (Nat.le_of_ble_eq_true rfl) dX12_init_320 (fun K175 _ E => ?_)
  refine v_mpI E (fun I176 _ E => ?_)
  obtain ⟨a177, h178, E⟩ := bnd E
  obtain ⟨hra177, hoa177⟩ := ob_is h178
  refine v_putRF (r := (some o)) (q := (some (n + 32))) C fa_X12_144 fo_X12_144 hin rfl E hra177 hoa177 dX12_init_322 (fun R179 _ E => ?_)
  refine v_aload_n (r := (some o)) C 0 dX12_init_325 rfl ?_
  refine v_iconst C dX12_init_326 k_iconst_0 ?_
  refine v_putI (r := (some o)) C fa_X12_147 rfl E hra177 hoa177 ⟨rfl, rfl⟩ dX12_init_327 (fun I180 _ E => ?_)
  refine v_aload_n (r := (some o)) C 0 dX12_init_330 rfl ?_
  refine v_iconst C dX12_init_331 k_iconst_0 ?_
  refine v_putI (r := (some o)) C fa_X12_150 rfl E hra177 hoa177 ⟨rfl, rfl⟩ dX12_init_332 (fun I181 _ E => ?_)
  refine v_aload_n (r := (some o)) C 0 dX12_init_335 rfl ?_
  refine v_iconst C dX12_init_336 k_iconst_0 ?_
  refine v_putI (r := (some o)) C fa_X12_153 rfl E hra177 hoa177 ⟨rfl, rfl⟩ dX12_init_337 (fun I182 _ E => ?_)
  refine v_aload_n (r := (some o)) C 0 dX12_init_340 rfl ?_
  refine v_iconst C dX12_init_341 k_iconst_0 ?_
  refine v_putI (r := (some o)) C fa_X12_156 rfl E hra177 hoa177 ⟨rfl, rfl⟩ dX12_init_342 (fun I183 _ E => ?_)
  refine v_aload_n (r := (some o)) C 0 dX12_init_345 rfl ?_
  refine v_bipush C dX12_init_346 k_bipush_m5 ?_
  refine v_putI (r := (some o)) C fa_X12_159 rfl E hra177 hoa177 ⟨rfl, rfl⟩ dX12_init_348 (fun I184 _ E => ?_)
  refine v_aload_n (r := (some o)) C 0 dX12_init_351 rfl ?_
  refine v_bipush C dX12_init_352 k_bipush_m5 ?_
  refine v_putI (r := (some o)) C fa_X12_162 rfl E hra177 hoa177 ⟨rfl, rfl⟩ dX12_init_354 (fun I185 _ E => ?_)
  refine v_aload_n (r := (some o)) C 0 dX12_init_357 rfl ?_
  refine v_iconst C dX12_init_358 k_iconst_0 ?_
  refine v_putI (r := (some o)) C fa_X12_165 rfl E hra177 hoa177 ⟨rfl, rfl⟩ dX12_init_359 (fun I186 _ E => ?_)
  refine v_aload_n (r := (some o)) C 0 dX12_init_362 rfl ?_
  refine v_iconst C dX12_init_363 k_iconst_3 ?_
  refine v_newI (N := 3) (ce1 := 34) (sl1 := 1473) C ac_int E (by decide) (by decide) rfl rfl (Nat.le_of_ble_eq_true rfl) (Nat.le_of_ble_eq_true rfl) dX12_init_364 (fun K187 _ E => ?_)
  refine v_mpI E (fun I188 _ E => ?_)
  obtain ⟨a189, h190, E⟩ := bnd E
  obtain ⟨hra189, hoa189⟩ := ob_is h190
  refine v_putRF (r := (some o)) (q := (some (n + 33))) C fa_X12_168 fo_X12_168 hin rfl E hra189 hoa189 dX12_init_366 (fun R191 _ E => ?_)
  refine v_aload_n (r := (some o)) C 0 dX12_init_369 rfl ?_
  refine v_iconst C dX12_init_370 k_iconst_3 ?_
  refine v_newI (N := 3) (ce1 := 35) (sl1 := 1476) C ac_int E (by decide) (by decide) rfl rfl (Nat.le_of_ble_eq_true rfl) (Nat.le_of_ble_eq_true rfl) dX12_init_371 (fun K192 _ E => ?_)
  refine v_mpI E (fun I193 _ E => ?_)
  obtain ⟨a194, h195, E⟩ := bnd E
  obtain ⟨hra194, hoa194⟩ := ob_is h195
  refine v_putRF (r := (some o)) (q := (some (n + 34))) C fa_X12_171 fo_X12_171 hin rfl E hra194 hoa194 dX12_init_373 (fun R196 _ E => ?_)
  refine v_aload_n (r := (some o)) C 0 dX12_init_376 rfl ?_
  refine v_iconst C dX12_init_377 k_iconst_3 ?_
  refine v_newI (N := 3) (ce1 := 36) (sl1 := 1479) C ac_int E (by decide) (by decide) rfl rfl (Nat.le_of_ble_eq_true rfl) (Nat.le_of_ble_eq_true rfl) dX12_init_378 (fun K197 _ E => ?_)
  refine v_mpI E (fun I198 _ E => ?_)
  obtain ⟨a199, h200, E⟩ := bnd E
  obtain ⟨hra199, hoa199⟩ := ob_is h200
  refine v_putRF (r := (some o)) (q := (some (n + 35))) C fa_X12_174 fo_X12_174 hin rfl E hra199 hoa199 dX12_init_380 (fun R201 _ E => ?_)
  refine v_aload_n (r := (some o)) C 0 dX12_init_383 rfl ?_
  refine v_iconst C dX12_init_384 k_iconst_3 ?_
  refine v_newI (N := 3) (ce1 := 37) (sl1 := 1482) C ac_int E (by decide) (by decide) rfl rfl (Nat.le_of_ble_eq_true rfl) (Nat.le_of_ble_eq_true rfl) dX12_init_385 (fun K202 _ E => ?_)
  refine v_mpI E (fun I203 _ E => ?_)
  obtain ⟨a204, h205, E⟩ := bnd E
  obtain ⟨hra204, hoa204⟩ := ob_is h205
  refine v_putRF (r := (some o)) (q := (some (n + 36))) C fa_X12_177 fo_X12_177 hin rfl E hra204 hoa204 dX12_init_387 (fun R206 _ E => ?_)
  refine v_aload_n (r := (some o)) C 0 dX12_init_390 rfl ?_
  refine v_iconst C dX12_init_391 k_iconst_0 ?_
  refine v_putI (r := (some o)) C fa_X12_180 rfl E hra204 hoa204 ⟨rfl, rfl⟩ dX12_init_392 (fun I207 _ E => ?_)
  refine v_aload_n (r := (some o)) C 0 dX12_init_395 rfl ?_
  refine v_iconst C dX12_init_396 k_iconst_0 ?_
  refine v_putI (r := (some o)) C fa_X12_183 rfl E hra204 hoa204 ⟨rfl, rfl⟩ dX12_init_397 (fun I208 _ E => ?_)
  refine v_aload_n (r := (some o)) C 0 dX12_init_400 rfl ?_
  refine v_iconst C dX12_init_401 k_iconst_0 ?_
  refine v_putI (r := (some o)) C fa_X12_186 rfl E hra204 hoa204 (by decide) dX12_init_402 (fun I209 _ E => ?_)
  refine v_aload_n (r := (some o)) C 0 dX12_init_405 rfl ?_
  refine v_iconst C dX12_init_406 k_iconst_m1 ?_
  refine v_putI (r := (some o)) C fa_X12_190 rfl E hra204 hoa204 ⟨rfl, rfl⟩ dX12_init_407 (fun I210 _ E => ?_)
  refine v_aload_n (r := (some o)) C 0 dX12_init_410 rfl ?_
  refine v_iconst C dX12_init_411 k_iconst_0 ?_
  refine v_putI (r := (some o)) C fa_X12_193 rfl E hra204 hoa204 ⟨rfl, rfl⟩ dX12_init_412 (fun I211 _ E => ?_)
  refine v_aload_n (r := (some o)) C 0 dX12_init_415 rfl ?_
  refine v_iconst C dX12_init_416 k_iconst_0 ?_
  refine v_putI (r := (some o)) C fa_X12_196 rfl E hra204 hoa204 ⟨rfl, rfl⟩ dX12_init_417 (fun I212 _ E => ?_)
  refine v_aload_n (r := (some o)) C 0 dX12_init_420 rfl ?_
  refine v_iconst C dX12_init_421 k_iconst_5 ?_
  refine v_newI (N := 5) (ce1 := 38) (sl1 := 1487) C ac_int E (by decide) (by decide) rfl rfl (Nat.le_of_ble_eq_true rfl) (Nat.le_of_ble_eq_true rfl) dX12_init_422 (fun K213 _ E => ?_)
  refine v_mpI E (fun I214 _ E => ?_)
  obtain ⟨a215, h216, E⟩ := bnd E
  obtain ⟨hra215, hoa215⟩ := ob_is h216
  refine v_putRF (r := (some o)) (q := (some (n + 37))) C fa_X12_199 fo_X12_199 hin rfl E hra215 hoa215 dX12_init_424 (fun R217 _ E => ?_)
  refine v_aload_n (r := (some o)) C 0 dX12_init_427 rfl ?_
  refine v_iconst C dX12_init_428 k_iconst_5 ?_
  refine v_newI (N := 5) (ce1 := 39) (sl1 := 1492) C ac_int E (by decide) (by decide) rfl rfl (Nat.le_of_ble_eq_true rfl) (Nat.le_of_ble_eq_true rfl) dX12_init_429 (fun K218 _ E => ?_)
  refine v_mpI E (fun I219 _ E => ?_)
  obtain ⟨a220, h221, E⟩ := bnd E
  obtain ⟨hra220, hoa220⟩ := ob_is h221
  refine v_putRF (r := (some o)) (q := (some (n + 38))) C fa_X12_202 fo_X12_202 hin rfl E hra220 hoa220 dX12_init_431 (fun R222 _ E => ?_)
  refine v_aload_n (r := (some o)) C 0 dX12_init_434 rfl ?_
  refine v_iconst C dX12_init_435 k_iconst_5 ?_
  refine v_newI (N := 5) (ce1 := 40) (sl1 := 1497) C ac_int E (by decide) (by decide) rfl rfl (Nat.le_of_ble_eq_true rfl) (Nat.le_of_ble_eq_true rfl) dX12_init_436 (fun K223 _ E => ?_)
  refine v_mpI E (fun I224 _ E => ?_)
  obtain ⟨a225, h226, E⟩ := bnd E
  obtain ⟨hra225, hoa225⟩ := ob_is h226
  refine v_putRF (r := (some o)) (q := (some (n + 39))) C fa_X12_205 fo_X12_205 hin rfl E hra225 hoa225 dX12_init_438 (fun R227 _ E => ?_)
  refine v_aload_n (r := (some o)) C 0 dX12_init_441 rfl ?_
  refine v_iconst C dX12_init_442 k_iconst_3 ?_
  refine v_newI (N := 3) (ce1 := 41) (sl1 := 1500) C ac_int E (by decide) (by decide) rfl rfl (Nat.le_of_ble_eq_true rfl) (Nat.le_of_ble_eq_true rfl) dX12_init_443 (fun K228 _ E => ?_)
  refine v_mpI E (fun I229 _ E => ?_)
  obtain ⟨a230, h231, E⟩ := bnd E
  obtain ⟨hra230, hoa230⟩ := ob_is h231
  refine v_putRF (r := (some o)) (q := (some (n + 40))) C fa_X12_208 fo_X12_208 hin rfl E hra230 hoa230 dX12_init_445 (fun R232 _ E => ?_)
  refine v_aload_n (r := (some o)) C 0 dX12_init_448 rfl ?_
  refine v_iconst C dX12_init_449 k_iconst_5 ?_
  refine v_newI (N := 5) (ce1 := 42) (sl1 := 1505) C ac_int E (by decide) (by decide) rfl rfl (Nat.le_of_ble_eq_true rfl) (Nat.le_of_ble_eq_true rfl) dX12_init_450 (fun K233 _ E => ?_)
  refine v_mpI E (fun I234 _ E => ?_)
  obtain ⟨a235, h236, E⟩ := bnd E
  obtain ⟨hra235, hoa235⟩ := ob_is h236
  refine v_putRF (r := (some o)) (q := (some (n + 41))) C fa_X12_211 fo_X12_211 hin rfl E hra235 hoa235 dX12_init_452 (fun R237 _ E => ?_)
  refine v_aload_n (r := (some o)) C 0 dX12_init_455 rfl ?_
  refine v_iconst C dX12_init_456 k_iconst_0 ?_
  refine v_putI (r := (some o)) C fa_X12_214 rfl E hra235 hoa235 ⟨rfl, rfl⟩ dX12_init_457 (fun I238 _ E => ?_)
  refine v_aload_n (r := (some o)) C 0 dX12_init_460 rfl ?_
  refine v_bipush C dX12_init_461 k_bipush_20 ?_
  refine v_newI (N := 20) (ce1 := 43) (sl1 := 1525) C ac_int E (by decide) (by decide) rfl rfl (Nat.le_of_ble_eq_true rfl) (Nat.le_of_ble_eq_true rfl) dX12_init_463 (fun K239 _ E => ?_)
  refine v_mpI E (fun I240 _ E => ?_)
  obtain ⟨a241, h242, E⟩ := bnd E
  obtain ⟨hra241, hoa241⟩ := ob_is h242
  refine v_putRF (r := (some o)) (q := (some (n + 42))) C fa_X12_217 fo_X12_217 hin rfl E hra241 hoa241 dX12_init_465 (fun R243 _ E => ?_)
  refine v_aload_n (r := (some o)) C 0 dX12_init_468 rfl ?_
  refine v_bipush C dX12_init_469 k_bipush_6 ?_
  refine v_newI (N := 6) (ce1 := 44) (sl1 := 1531) C ac_int E (by decide) (by decide) rfl rfl (Nat.le_of_ble_eq_true rfl) (Nat.le_of_ble_eq_true rfl) dX12_init_471 (fun K244 _ E => ?_)
  refine v_mpI E (fun I245 _ E => ?_)
  refine v_dup C dX12_init_473 (rf_cat _) ?_
  refine v_iconst C dX12_init_474 k_iconst_0 ?_
  refine v_iconst C dX12_init_475 k_iconst_m1 ?_
  refine v_iast (r := (some (n + 43))) C E dX12_init_476 (fun I246 _ E => ?_)
  refine v_dup C dX12_init_477 (rf_cat _) ?_
  refine v_iconst C dX12_init_478 k_iconst_1 ?_
  refine v_iconst C dX12_init_479 k_iconst_m1 ?_
  refine v_iast (r := (some (n + 43))) C E dX12_init_480 (fun I247 _ E => ?_)
  refine v_dup C dX12_init_481 (rf_cat _) ?_
  refine v_iconst C dX12_init_482 k_iconst_2 ?_
  refine v_iconst C dX12_init_483 k_iconst_m1 ?_
  refine v_iast (r := (some (n + 43))) C E dX12_init_484 (fun I248 _ E => ?_)
  refine v_dup C dX12_init_485 (rf_cat _) ?_
  refine v_iconst C dX12_init_486 k_iconst_3 ?_
  refine v_iconst C dX12_init_487 k_iconst_m1 ?_
  refine v_iast (r := (some (n + 43))) C E dX12_init_488 (fun I249 _ E => ?_)
  refine v_dup C dX12_init_489 (rf_cat _) ?_
  refine v_iconst C dX12_init_490 k_iconst_4 ?_
  refine v_iconst C dX12_init_491 k_iconst_m1 ?_
  refine v_iast (r := (some (n + 43))) C E dX12_init_492 (fun I250 _ E => ?_)
  refine v_dup C dX12_init_493 (rf_cat _) ?_
  refine v_iconst C dX12_init_494 k_iconst_5 ?_
  refine v_iconst C dX12_init_495 k_iconst_m1 ?_
  refine v_iast (r := (some (n + 43))) C E dX12_init_496 (fun I251 _ E => ?_)
  obtain ⟨a252, h253, E⟩ := bnd E
  obtain ⟨hra252, hoa252⟩ := ob_is h253
  refine v_putRF (r := (some o)) (q := (some (n + 43))) C fa_X12_220 fo_X12_220 hin rfl E hra252 hoa252 dX12_init_497 (fun R254 _ E => ?_)
  refine v_aload_n (r := (some o)) C 0 dX12_init_500 rfl ?_
  refine v_bipush C dX12_init_501 k_bipush_6 ?_
  refine v_newI (N := 6) (ce1 := 45) (sl1 := 1537) C ac_int E (by decide) (by decide) rfl rfl (Nat.le_of_ble_eq_true rfl) (Nat.le_of_ble_eq_true rfl) dX12_init_503 (fun K255 _ E => ?_)
  refine v_mpI E (fun I256 _ E => ?_)
  obtain ⟨a257, h258, E⟩ := bnd E
  obtain ⟨hra257, hoa257⟩ := ob_is h258
  refine v_putRF (r := (some o)) (q := (some (n + 44))) C fa_X12_223 fo_X12_223 hin rfl E hra257 hoa257 dX12_init_505 (fun R259 _ E => ?_)
  refine v_aload_n (r := (some o)) C 0 dX12_init_508 rfl ?_
  refine v_sipush C dX12_init_509 k_sipush_360 ?_
  refine v_newJ (N := 360) (ce1 := 46) (sl1 := 1897) C ac_long E (by decide) (by decide) rfl rfl (Nat.le_of_ble_eq_true rfl) (Nat.le_of_ble_eq_true rfl) dX12_init_512 (fun K260 _ E => ?_)
  refine v_mpJ E (fun J261 _ E => ?_)
  obtain ⟨a262, h263, E⟩ := bnd E
  obtain ⟨hra262, hoa262⟩ := ob_is h263
  refine v_putRF (r := (some o)) (q := (some (n + 45))) C fa_X12_226 fo_X12_226 hin rfl E hra262 hoa262 dX12_init_514 (fun R264 _ E => ?_)
  refine v_aload_n (r := (some o)) C 0 dX12_init_517 rfl ?_
  refine v_bipush C dX12_init_518 k_bipush_60 ?_
  refine v_newJ (N := 60) (ce1 := 47) (sl1 := 1957) C ac_long E (by decide) (by decide) rfl rfl (Nat.le_of_ble_eq_true rfl) (Nat.le_of_ble_eq_true rfl) dX12_init_520 (fun K265 _ E => ?_)
  refine v_mpJ E (fun J266 _ E => ?_)
  obtain ⟨a267, h268, E⟩ := bnd E
  obtain ⟨hra267, hoa267⟩ := ob_is h268
  refine v_putRF (r := (some o)) (q := (some (n + 46))) C fa_X12_230 fo_X12_230 hin rfl E hra267 hoa267 dX12_init_522 (fun R269 _ E => ?_)
  obtain rfl := Option.some.inj E
  exact v_vret C rfl dX12_init_525
set_option maxHeartbeats 4000000 in
theorem c_X12_init {n : Nat} {K : Sh} {I : Im} {J : Jm} {R : Rf} {o : Nat}  {res : Sh × Nat × Im × Jm × Rf} (E : f_X12_init o K n I J R = some res) : Met l yX12_init (Cond.code yX12_init cX12_init 1 none :: tb) rX12_init (PX D cA bs Z [.ref o] K n I J R) (QX D cA bs none res.1 res.2.1 res.2.2.1 res.2.2.2.1 res.2.2.2.2) 47 1957 (fun q => bs ≤ q) := by
  refine met_of (lv1 := [(0, va_rf (some o))]) pn_X12 (by exact Nat.le_of_ble_eq_true rfl) (by rfl) ?_
  intro p e s m args below meth c C hn
  exact v_sub [0] [(0, va_rf (some o))] rfl (w_X12_init_0 C (hn.trans rfl) _ _ _ _ _ _ E)
end WK4
