section WK8
variable {D : va_G} {cA : Nat → ClassId} {bs : Nat} {Z : Nat → Nat} {p : Program} {l : Launch} {e : Env} {s : State} {m : MethodId} {args : Array Value} {below : List Frame} {meth : Method} {c : Code}
set_option maxHeartbeats 4000000 in
theorem w_X12_copy_2 (C : Cx D cA bs Z p s m args meth c cX12_copy RX12 4 none) {o : Nat} {K : Sh} {n : Nat} {J : Jm} {R : Rf} (ho : (K o).1 = 13) (res : Im)  : ∀ (k : Nat), ∀ (x1 : Option Nat) (x2 : Option Nat) (x3 : Int32) (I : Im), f_X12_copy_2 K o k x1 x2 x3 I = some res → VW D cA bs Z p l e rX12_copy s m args below meth c 4 [(0, va_rf (some o)), (1, va_rf x1), (2, va_rf x2), (3, .int x3)] K n I J R 0 0 (MQ below (QX D cA bs Z none K n res J R) args s 0 0 (fun q => bs ≤ q)) 2 [] := by
  intro k
  induction k with
  | zero =>
    intro x1 x2 x3 I E
    have E : (none : Option (Im)) = some res := E
    cases E
  | succ k ih =>
    intro x1 x2 x3 I E
    unfold f_X12_copy_2 at E
    refine v_iload_n C 3 dX12_copy_2 rfl ?_
    refine v_aload_n (r := x2) C 2 dX12_copy_3 rfl ?_
    refine v_alen (r := x2) C E dX12_copy_4 (fun v1 _ E => ?_)
    refine v_icmp_ge C 20 E dX12_copy_5 rfl (fun c4 E => ?_) (fun c4 E => ?_)
    · obtain rfl := Option.some.inj E
      exact v_vret C rfl dX12_copy_20
    · refine v_aload_n (r := x2) C 2 dX12_copy_8 rfl ?_
      refine v_iload_n C 3 dX12_copy_9 rfl ?_
      refine v_aload_n (r := x1) C 1 dX12_copy_10 rfl ?_
      refine v_iload_n C 3 dX12_copy_11 rfl ?_
      refine v_iald (r := x1) C E dX12_copy_12 (fun v2 _ E => ?_)
      refine v_iast (r := x2) C E dX12_copy_13 (fun I3 _ E => ?_)
      refine v_iinc (v := x3 + 1) C 3 [(3, .int (x3 + 1)), (0, va_rf (some o)), (1, va_rf x1), (2, va_rf x2)] dX12_copy_14 rfl (k_inc_1 _) (Nat.le_of_ble_eq_true rfl) (by generalize x2 = rr; cases rr <;> rfl) ?_
      refine v_goto C 2 dX12_copy_17 rfl ?_
      exact v_sub [1, 2, 3, 0] [(0, va_rf (some o)), (1, va_rf x1), (2, va_rf x2), (3, .int (x3 + 1))] rfl (ih _ _ _ _ E)
set_option maxHeartbeats 4000000 in
theorem w_X12_copy_0 (C : Cx D cA bs Z p s m args meth c cX12_copy RX12 4 none) {o : Nat} {K : Sh} {n : Nat} {J : Jm} {R : Rf} (ho : (K o).1 = 13) (res : Im) (x1 : Option Nat) (x2 : Option Nat) (I : Im) (E : f_X12_copy K o x1 x2 I = some res) : VW D cA bs Z p l e rX12_copy s m args below meth c 4 [(0, va_rf (some o)), (1, va_rf x1), (2, va_rf x2)] K n I J R 0 0 (MQ below (QX D cA bs Z none K n res J R) args s 0 0 (fun q => bs ≤ q)) 0 [] := by
  unfold f_X12_copy at E
  refine v_iconst C dX12_copy_0 k_iconst_0 ?_
  refine v_istore_n C [(3, .int 0), (0, va_rf (some o)), (1, va_rf x1), (2, va_rf x2)] dX12_copy_1 (Nat.le_of_ble_eq_true rfl) (by generalize x2 = rr; cases rr <;> rfl) ?_
  exact v_sub [1, 2, 3, 0] [(0, va_rf (some o)), (1, va_rf x1), (2, va_rf x2), (3, .int 0)] rfl (w_X12_copy_2 C ho res  _ _ _ _ _ E)
set_option maxHeartbeats 4000000 in
theorem c_X12_copy {n : Nat} {K : Sh} {I : Im} {J : Jm} {R : Rf} {o : Nat} {x1 : Option Nat} {x2 : Option Nat} (ho : (K o).1 = 13) {res : Im} (E : f_X12_copy K o x1 x2 I = some res) : Met l yX12_copy (Cond.code yX12_copy cX12_copy 4 none :: tb) rX12_copy (PX D cA bs Z [.ref o, va_rf x1, va_rf x2] K n I J R) (QX D cA bs Z none K n res J R) 0 0 (fun q => bs ≤ q) := by
  refine met_of (lv1 := [(0, va_rf (some o)), (1, va_rf x1), (2, va_rf x2)]) pn_X12 (by cases x1 <;> cases x2 <;> exact Nat.le_of_ble_eq_true rfl) (by cases x1 <;> cases x2 <;> rfl) ?_
  intro p e s m args below meth c C hn
  exact v_sub [0, 1, 2] [(0, va_rf (some o)), (1, va_rf x1), (2, va_rf x2)] rfl (w_X12_copy_0 C ho _ _ _ _ E)
set_option maxHeartbeats 4000000 in
theorem w_X12_image_0 (C : Cx D cA bs Z p s m args meth c cX12_image RX12 1 (some .int)) {o : Nat} {K : Sh} {n : Nat} {J : Jm} {R : Rf} (ho : (K o).1 = 13) (res : Int32 × Im) (I : Im) (E : f_X12_image K R o I = some res) : VW D cA bs Z p l e rX12_image s m args below meth c 1 [(0, va_rf (some o))] K n I J R 0 0 (MQ below (QX D cA bs Z (some (.int res.1)) K n res.2 J R) args s 0 0 (fun q => bs ≤ q)) 0 [] := by
  unfold f_X12_image at E
  refine v_aload_n (r := (some o)) C 0 dX12_image_0 rfl ?_
  refine v_iconst C dX12_image_1 k_iconst_1 ?_
  refine v_putI (r := (some o)) C fa_X12_186 rfl E rfl ho (by decide) dX12_image_2 (fun I1 _ E => ?_)
  refine v_aload_n (r := (some o)) C 0 dX12_image_5 rfl ?_
  refine v_aload_n (r := (some o)) C 0 dX12_image_6 rfl ?_
  refine v_getI (r := (some o)) C fa_X12_13 rfl rfl ho dX12_image_7 ?_
  refine v_putI (r := (some o)) C fa_X12_190 rfl E rfl ho ⟨rfl, rfl⟩ dX12_image_10 (fun I2 _ E => ?_)
  refine v_aload_n (r := (some o)) C 0 dX12_image_13 rfl ?_
  refine v_aload_n (r := (some o)) C 0 dX12_image_14 rfl ?_
  refine v_getI (r := (some o)) C fa_X12_165 rfl rfl ho dX12_image_15 ?_
  refine v_putI (r := (some o)) C fa_X12_193 rfl E rfl ho ⟨rfl, rfl⟩ dX12_image_18 (fun I3 _ E => ?_)
  refine v_aload_n (r := (some o)) C 0 dX12_image_21 rfl ?_
  refine v_aload_n (r := (some o)) C 0 dX12_image_22 rfl ?_
  refine v_getI (r := (some o)) C fa_X12_99 rfl rfl ho dX12_image_23 ?_
  refine v_putI (r := (some o)) C fa_X12_196 rfl E rfl ho ⟨rfl, rfl⟩ dX12_image_26 (fun I4 _ E => ?_)
  refine v_aload_n (r := (some o)) C 0 dX12_image_29 rfl ?_
  refine v_aload_n (r := (some o)) C 0 dX12_image_30 rfl ?_
  refine v_getR (r := (some o)) C fa_X12_66 rfl rfl ho dX12_image_31 ?_
  refine v_aload_n (r := (some o)) C 0 dX12_image_34 rfl ?_
  refine v_getR (r := (some o)) C fa_X12_199 rfl rfl ho dX12_image_35 ?_
  obtain ⟨q5, h6, E⟩ := bnd E
  refine v_callV (r := (some o)) (As := [va_rf (R o 18), va_rf (R o 62)]) (rv := none) (st := []) (st1 := []) (ce1 := 0) (sl1 := 0) C cv_X12_393 (c_X12_copy (x1 := (R o 18)) (x2 := (R o 62)) ho h6) rfl ho rfl rfl ⟨rfl, rfl, Nat.le_of_ble_eq_true rfl, Nat.le_of_ble_eq_true rfl⟩ ⟨Nat.le_of_ble_eq_true rfl, Nat.le_of_ble_eq_true rfl⟩ (Nat.le_of_ble_eq_true rfl) rfl rfl rfl dX12_image_38 ?_
  refine v_aload_n (r := (some o)) C 0 dX12_image_41 rfl ?_
  refine v_aload_n (r := (some o)) C 0 dX12_image_42 rfl ?_
  refine v_getR (r := (some o)) C fa_X12_69 rfl rfl ho dX12_image_43 ?_
  refine v_aload_n (r := (some o)) C 0 dX12_image_46 rfl ?_
  refine v_getR (r := (some o)) C fa_X12_202 rfl rfl ho dX12_image_47 ?_
  obtain ⟨q7, h8, E⟩ := bnd E
  refine v_callV (r := (some o)) (As := [va_rf (R o 19), va_rf (R o 63)]) (rv := none) (st := []) (st1 := []) (ce1 := 0) (sl1 := 0) C cv_X12_393 (c_X12_copy (x1 := (R o 19)) (x2 := (R o 63)) ho h8) rfl ho rfl rfl ⟨rfl, rfl, Nat.le_of_ble_eq_true rfl, Nat.le_of_ble_eq_true rfl⟩ ⟨Nat.le_of_ble_eq_true rfl, Nat.le_of_ble_eq_true rfl⟩ (Nat.le_of_ble_eq_true rfl) rfl rfl rfl dX12_image_50 ?_
  refine v_aload_n (r := (some o)) C 0 dX12_image_53 rfl ?_
  refine v_aload_n (r := (some o)) C 0 dX12_image_54 rfl ?_
  refine v_getR (r := (some o)) C fa_X12_72 rfl rfl ho dX12_image_55 ?_
  refine v_aload_n (r := (some o)) C 0 dX12_image_58 rfl ?_
  refine v_getR (r := (some o)) C fa_X12_205 rfl rfl ho dX12_image_59 ?_
  obtain ⟨q9, h10, E⟩ := bnd E
  refine v_callV (r := (some o)) (As := [va_rf (R o 20), va_rf (R o 64)]) (rv := none) (st := []) (st1 := []) (ce1 := 0) (sl1 := 0) C cv_X12_393 (c_X12_copy (x1 := (R o 20)) (x2 := (R o 64)) ho h10) rfl ho rfl rfl ⟨rfl, rfl, Nat.le_of_ble_eq_true rfl, Nat.le_of_ble_eq_true rfl⟩ ⟨Nat.le_of_ble_eq_true rfl, Nat.le_of_ble_eq_true rfl⟩ (Nat.le_of_ble_eq_true rfl) rfl rfl rfl dX12_image_62 ?_
  refine v_aload_n (r := (some o)) C 0 dX12_image_65 rfl ?_
  refine v_aload_n (r := (some o)) C 0 dX12_image_66 rfl ?_
  refine v_getR (r := (some o)) C fa_X12_168 rfl rfl ho dX12_image_67 ?_
  refine v_aload_n (r := (some o)) C 0 dX12_image_70 rfl ?_
  refine v_getR (r := (some o)) C fa_X12_208 rfl rfl ho dX12_image_71 ?_
  obtain ⟨q11, h12, E⟩ := bnd E
  refine v_callV (r := (some o)) (As := [va_rf (R o 52), va_rf (R o 65)]) (rv := none) (st := []) (st1 := []) (ce1 := 0) (sl1 := 0) C cv_X12_393 (c_X12_copy (x1 := (R o 52)) (x2 := (R o 65)) ho h12) rfl ho rfl rfl ⟨rfl, rfl, Nat.le_of_ble_eq_true rfl, Nat.le_of_ble_eq_true rfl⟩ ⟨Nat.le_of_ble_eq_true rfl, Nat.le_of_ble_eq_true rfl⟩ (Nat.le_of_ble_eq_true rfl) rfl rfl rfl dX12_image_74 ?_
  refine v_aload_n (r := (some o)) C 0 dX12_image_77 rfl ?_
  refine v_aload_n (r := (some o)) C 0 dX12_image_78 rfl ?_
  refine v_getR (r := (some o)) C fa_X12_123 rfl rfl ho dX12_image_79 ?_
  refine v_aload_n (r := (some o)) C 0 dX12_image_82 rfl ?_
  refine v_getR (r := (some o)) C fa_X12_211 rfl rfl ho dX12_image_83 ?_
  obtain ⟨q13, h14, E⟩ := bnd E
  refine v_callV (r := (some o)) (As := [va_rf (R o 37), va_rf (R o 66)]) (rv := none) (st := []) (st1 := []) (ce1 := 0) (sl1 := 0) C cv_X12_393 (c_X12_copy (x1 := (R o 37)) (x2 := (R o 66)) ho h14) rfl ho rfl rfl ⟨rfl, rfl, Nat.le_of_ble_eq_true rfl, Nat.le_of_ble_eq_true rfl⟩ ⟨Nat.le_of_ble_eq_true rfl, Nat.le_of_ble_eq_true rfl⟩ (Nat.le_of_ble_eq_true rfl) rfl rfl rfl dX12_image_86 ?_
  refine v_aload_n (r := (some o)) C 0 dX12_image_89 rfl ?_
  refine v_getI (r := (some o)) C fa_X12_165 rfl rfl ho dX12_image_90 ?_
  obtain rfl := Option.some.inj E
  exact v_iret C rfl dX12_image_93
set_option maxHeartbeats 4000000 in
theorem c_X12_image {n : Nat} {K : Sh} {I : Im} {J : Jm} {R : Rf} {o : Nat}  (ho : (K o).1 = 13) {res : Int32 × Im} (E : f_X12_image K R o I = some res) : Met l yX12_image (Cond.code yX12_image cX12_image 1 (some .int) :: tb) rX12_image (PX D cA bs Z [.ref o] K n I J R) (QX D cA bs Z (some (.int res.1)) K n res.2 J R) 0 0 (fun q => bs ≤ q) := by
  refine met_of (lv1 := [(0, va_rf (some o))]) pn_X12 (by exact Nat.le_of_ble_eq_true rfl) (by rfl) ?_
  intro p e s m args below meth c C hn
  exact v_sub [0] [(0, va_rf (some o))] rfl (w_X12_image_0 C ho _ _ E)
set_option maxHeartbeats 4000000 in
theorem w_X12_undo_0 (C : Cx D cA bs Z p s m args meth c cX12_undo RX12 1 (some .int)) {o : Nat} {K : Sh} {n : Nat} {J : Jm} {R : Rf} (ho : (K o).1 = 13) (res : Int32 × Im) (I : Im) (E : f_X12_undo K R o I = some res) : VW D cA bs Z p l e rX12_undo s m args below meth c 1 [(0, va_rf (some o))] K n I J R 0 0 (MQ below (QX D cA bs Z (some (.int res.1)) K n res.2 J R) args s 0 0 (fun q => bs ≤ q)) 0 [] := by
  unfold f_X12_undo at E
  refine v_aload_n (r := (some o)) C 0 dX12_undo_0 rfl ?_
  refine v_getI (r := (some o)) C fa_X12_186 rfl rfl ho dX12_undo_1 ?_
  refine v_if_ne C 10 E dX12_undo_4 rfl (fun c14 E => ?_) (fun c14 E => ?_)
  · refine v_bipush C dX12_undo_7 k_bipush_m3 ?_
    obtain rfl := Option.some.inj E
    exact v_iret C rfl dX12_undo_9
  · refine v_aload_n (r := (some o)) C 0 dX12_undo_10 rfl ?_
    refine v_aload_n (r := (some o)) C 0 dX12_undo_11 rfl ?_
    refine v_getI (r := (some o)) C fa_X12_190 rfl rfl ho dX12_undo_12 ?_
    refine v_putI (r := (some o)) C fa_X12_13 rfl E rfl ho ⟨rfl, rfl⟩ dX12_undo_15 (fun I1 _ E => ?_)
    refine v_aload_n (r := (some o)) C 0 dX12_undo_18 rfl ?_
    refine v_aload_n (r := (some o)) C 0 dX12_undo_19 rfl ?_
    refine v_getI (r := (some o)) C fa_X12_193 rfl rfl ho dX12_undo_20 ?_
    refine v_putI (r := (some o)) C fa_X12_165 rfl E rfl ho ⟨rfl, rfl⟩ dX12_undo_23 (fun I2 _ E => ?_)
    refine v_aload_n (r := (some o)) C 0 dX12_undo_26 rfl ?_
    refine v_aload_n (r := (some o)) C 0 dX12_undo_27 rfl ?_
    refine v_getI (r := (some o)) C fa_X12_196 rfl rfl ho dX12_undo_28 ?_
    refine v_putI (r := (some o)) C fa_X12_99 rfl E rfl ho ⟨rfl, rfl⟩ dX12_undo_31 (fun I3 _ E => ?_)
    refine v_aload_n (r := (some o)) C 0 dX12_undo_34 rfl ?_
    refine v_aload_n (r := (some o)) C 0 dX12_undo_35 rfl ?_
    refine v_getR (r := (some o)) C fa_X12_199 rfl rfl ho dX12_undo_36 ?_
    refine v_aload_n (r := (some o)) C 0 dX12_undo_39 rfl ?_
    refine v_getR (r := (some o)) C fa_X12_66 rfl rfl ho dX12_undo_40 ?_
    obtain ⟨q4, h5, E⟩ := bnd E
    refine v_callV (r := (some o)) (As := [va_rf (R o 62), va_rf (R o 18)]) (rv := none) (st := []) (st1 := []) (ce1 := 0) (sl1 := 0) C cv_X12_393 (c_X12_copy (x1 := (R o 62)) (x2 := (R o 18)) ho h5) rfl ho rfl rfl ⟨rfl, rfl, Nat.le_of_ble_eq_true rfl, Nat.le_of_ble_eq_true rfl⟩ ⟨Nat.le_of_ble_eq_true rfl, Nat.le_of_ble_eq_true rfl⟩ (Nat.le_of_ble_eq_true rfl) rfl rfl rfl dX12_undo_43 ?_
    refine v_aload_n (r := (some o)) C 0 dX12_undo_46 rfl ?_
    refine v_aload_n (r := (some o)) C 0 dX12_undo_47 rfl ?_
    refine v_getR (r := (some o)) C fa_X12_202 rfl rfl ho dX12_undo_48 ?_
    refine v_aload_n (r := (some o)) C 0 dX12_undo_51 rfl ?_
    refine v_getR (r := (some o)) C fa_X12_69 rfl rfl ho dX12_undo_52 ?_
    obtain ⟨q6, h7, E⟩ := bnd E
    refine v_callV (r := (some o)) (As := [va_rf (R o 63), va_rf (R o 19)]) (rv := none) (st := []) (st1 := []) (ce1 := 0) (sl1 := 0) C cv_X12_393 (c_X12_copy (x1 := (R o 63)) (x2 := (R o 19)) ho h7) rfl ho rfl rfl ⟨rfl, rfl, Nat.le_of_ble_eq_true rfl, Nat.le_of_ble_eq_true rfl⟩ ⟨Nat.le_of_ble_eq_true rfl, Nat.le_of_ble_eq_true rfl⟩ (Nat.le_of_ble_eq_true rfl) rfl rfl rfl dX12_undo_55 ?_
    refine v_aload_n (r := (some o)) C 0 dX12_undo_58 rfl ?_
    refine v_aload_n (r := (some o)) C 0 dX12_undo_59 rfl ?_
    refine v_getR (r := (some o)) C fa_X12_205 rfl rfl ho dX12_undo_60 ?_
    refine v_aload_n (r := (some o)) C 0 dX12_undo_63 rfl ?_
    refine v_getR (r := (some o)) C fa_X12_72 rfl rfl ho dX12_undo_64 ?_
    obtain ⟨q8, h9, E⟩ := bnd E
    refine v_callV (r := (some o)) (As := [va_rf (R o 64), va_rf (R o 20)]) (rv := none) (st := []) (st1 := []) (ce1 := 0) (sl1 := 0) C cv_X12_393 (c_X12_copy (x1 := (R o 64)) (x2 := (R o 20)) ho h9) rfl ho rfl rfl ⟨rfl, rfl, Nat.le_of_ble_eq_true rfl, Nat.le_of_ble_eq_true rfl⟩ ⟨Nat.le_of_ble_eq_true rfl, Nat.le_of_ble_eq_true rfl⟩ (Nat.le_of_ble_eq_true rfl) rfl rfl rfl dX12_undo_67 ?_
    refine v_aload_n (r := (some o)) C 0 dX12_undo_70 rfl ?_
    refine v_aload_n (r := (some o)) C 0 dX12_undo_71 rfl ?_
    refine v_getR (r := (some o)) C fa_X12_208 rfl rfl ho dX12_undo_72 ?_
    refine v_aload_n (r := (some o)) C 0 dX12_undo_75 rfl ?_
    refine v_getR (r := (some o)) C fa_X12_168 rfl rfl ho dX12_undo_76 ?_
    obtain ⟨q10, h11, E⟩ := bnd E
    refine v_callV (r := (some o)) (As := [va_rf (R o 65), va_rf (R o 52)]) (rv := none) (st := []) (st1 := []) (ce1 := 0) (sl1 := 0) C cv_X12_393 (c_X12_copy (x1 := (R o 65)) (x2 := (R o 52)) ho h11) rfl ho rfl rfl ⟨rfl, rfl, Nat.le_of_ble_eq_true rfl, Nat.le_of_ble_eq_true rfl⟩ ⟨Nat.le_of_ble_eq_true rfl, Nat.le_of_ble_eq_true rfl⟩ (Nat.le_of_ble_eq_true rfl) rfl rfl rfl dX12_undo_79 ?_
    refine v_aload_n (r := (some o)) C 0 dX12_undo_82 rfl ?_
    refine v_aload_n (r := (some o)) C 0 dX12_undo_83 rfl ?_
    refine v_getR (r := (some o)) C fa_X12_211 rfl rfl ho dX12_undo_84 ?_
    refine v_aload_n (r := (some o)) C 0 dX12_undo_87 rfl ?_
    refine v_getR (r := (some o)) C fa_X12_123 rfl rfl ho dX12_undo_88 ?_
    obtain ⟨q12, h13, E⟩ := bnd E
    refine v_callV (r := (some o)) (As := [va_rf (R o 66), va_rf (R o 37)]) (rv := none) (st := []) (st1 := []) (ce1 := 0) (sl1 := 0) C cv_X12_393 (c_X12_copy (x1 := (R o 66)) (x2 := (R o 37)) ho h13) rfl ho rfl rfl ⟨rfl, rfl, Nat.le_of_ble_eq_true rfl, Nat.le_of_ble_eq_true rfl⟩ ⟨Nat.le_of_ble_eq_true rfl, Nat.le_of_ble_eq_true rfl⟩ (Nat.le_of_ble_eq_true rfl) rfl rfl rfl dX12_undo_91 ?_
    refine v_aload_n (r := (some o)) C 0 dX12_undo_94 rfl ?_
    refine v_getI (r := (some o)) C fa_X12_165 rfl rfl ho dX12_undo_95 ?_
    obtain rfl := Option.some.inj E
    exact v_iret C rfl dX12_undo_98
set_option maxHeartbeats 4000000 in
theorem c_X12_undo {n : Nat} {K : Sh} {I : Im} {J : Jm} {R : Rf} {o : Nat}  (ho : (K o).1 = 13) {res : Int32 × Im} (E : f_X12_undo K R o I = some res) : Met l yX12_undo (Cond.code yX12_undo cX12_undo 1 (some .int) :: tb) rX12_undo (PX D cA bs Z [.ref o] K n I J R) (QX D cA bs Z (some (.int res.1)) K n res.2 J R) 0 0 (fun q => bs ≤ q) := by
  refine met_of (lv1 := [(0, va_rf (some o))]) pn_X12 (by exact Nat.le_of_ble_eq_true rfl) (by rfl) ?_
  intro p e s m args below meth c C hn
  exact v_sub [0] [(0, va_rf (some o))] rfl (w_X12_undo_0 C ho _ _ E)
set_option maxHeartbeats 4000000 in
theorem w_X12_body_19 (C : Cx D cA bs Z p s m args meth c cX12_body RX12 2 none) {o : Nat} {K : Sh} {n : Nat} {J : Jm} {R : Rf} (ho : (K o).1 = 13) (res : Im) (I : Im) (E : f_X12_body_19 K R o I = some res) : VW D cA bs Z p l e rX12_body s m args below meth c 2 [(0, va_rf (some o))] K n I J R 0 0 (MQ below (QX D cA bs Z none K n res J R) args s 0 0 (fun q => bs ≤ q)) 19 [] := by
  unfold f_X12_body_19 at E
  refine v_aload_n (r := (some o)) C 0 dX12_body_19 rfl ?_
  refine v_dup C dX12_body_20 (rf_cat _) ?_
  refine v_getI (r := (some o)) C fa_X12_214 rfl rfl ho dX12_body_21 ?_
  refine v_iconst C dX12_body_24 k_iconst_1 ?_
  refine v_iadd C dX12_body_25 ?_
  refine v_putI (r := (some o)) C fa_X12_214 rfl E rfl ho ⟨rfl, rfl⟩ dX12_body_26 (fun I1 _ E => ?_)
  obtain rfl := Option.some.inj E
  exact v_vret C rfl dX12_body_29
set_option maxHeartbeats 4000000 in
theorem w_X12_body_0 (C : Cx D cA bs Z p s m args meth c cX12_body RX12 2 none) {o : Nat} {K : Sh} {n : Nat} {J : Jm} {R : Rf} (ho : (K o).1 = 13) (res : Im) (x1 : Int32) (I : Im) (E : f_X12_body K R o x1 I = some res) : VW D cA bs Z p l e rX12_body s m args below meth c 2 [(0, va_rf (some o)), (1, .int x1)] K n I J R 0 0 (MQ below (QX D cA bs Z none K n res J R) args s 0 0 (fun q => bs ≤ q)) 0 [] := by
  unfold f_X12_body at E
  refine v_aload_n (r := (some o)) C 0 dX12_body_0 rfl ?_
  refine v_getI (r := (some o)) C fa_X12_214 rfl rfl ho dX12_body_1 ?_
  refine v_bipush C dX12_body_4 k_bipush_20 ?_
  refine v_icmp_ge C 19 E dX12_body_6 rfl (fun c3 E => ?_) (fun c3 E => ?_)
  · exact v_sub [0] [(0, va_rf (some o))] rfl (w_X12_body_19 C ho res  _ E)
  · refine v_aload_n (r := (some o)) C 0 dX12_body_9 rfl ?_
    refine v_getR (r := (some o)) C fa_X12_217 rfl rfl ho dX12_body_10 ?_
    refine v_aload_n (r := (some o)) C 0 dX12_body_13 rfl ?_
    refine v_getI (r := (some o)) C fa_X12_214 rfl rfl ho dX12_body_14 ?_
    refine v_iload_n C 1 dX12_body_17 rfl ?_
    refine v_iast (r := (R o 68)) C E dX12_body_18 (fun I2 _ E => ?_)
    exact v_sub [0] [(0, va_rf (some o))] rfl (w_X12_body_19 C ho res  _ E)
set_option maxHeartbeats 4000000 in
theorem c_X12_body {n : Nat} {K : Sh} {I : Im} {J : Jm} {R : Rf} {o : Nat} {x1 : Int32} (ho : (K o).1 = 13) {res : Im} (E : f_X12_body K R o x1 I = some res) : Met l yX12_body (Cond.code yX12_body cX12_body 2 none :: tb) rX12_body (PX D cA bs Z [.ref o, .int x1] K n I J R) (QX D cA bs Z none K n res J R) 0 0 (fun q => bs ≤ q) := by
  refine met_of (lv1 := [(0, va_rf (some o)), (1, .int x1)]) pn_X12 (by exact Nat.le_of_ble_eq_true rfl) (by rfl) ?_
  intro p e s m args below meth c C hn
  exact v_sub [0, 1] [(0, va_rf (some o)), (1, .int x1)] rfl (w_X12_body_0 C ho _ _ _ E)
set_option maxHeartbeats 4000000 in
theorem w_X12_plainStands_0 (C : Cx D cA bs Z p s m args meth c cX12_plainStands RX12 3 (some .int)) {o : Nat} {K : Sh} {n : Nat} {J : Jm} {R : Rf} (ho : (K o).1 = 13) (res : Int32 × Im) (x1 : Int32) (x2 : Int32) (I : Im) (E : f_X12_plainStands K R o x1 x2 I = some res) : VW D cA bs Z p l e rX12_plainStands s m args below meth c 3 [(0, va_rf (some o)), (1, .int x1), (2, .int x2)] K n I J R 0 0 (MQ below (QX D cA bs Z (some (.int res.1)) K n res.2 J R) args s 0 0 (fun q => bs ≤ q)) 0 [] := by
  unfold f_X12_plainStands at E
  refine v_aload_n (r := (some o)) C 0 dX12_plainStands_0 rfl ?_
  refine v_bipush C dX12_plainStands_1 k_bipush_10 ?_
  obtain ⟨q1, h2, E⟩ := bnd E
  refine v_callV (r := (some o)) (As := [.int 10]) (rv := none) (st := []) (st1 := []) (ce1 := 0) (sl1 := 0) C cv_X12_397 (c_X12_body (x1 := 10) ho h2) rfl ho rfl rfl ⟨rfl, rfl, Nat.le_of_ble_eq_true rfl, Nat.le_of_ble_eq_true rfl⟩ ⟨Nat.le_of_ble_eq_true rfl, Nat.le_of_ble_eq_true rfl⟩ (Nat.le_of_ble_eq_true rfl) rfl rfl rfl dX12_plainStands_3 ?_
  refine v_iload_n C 2 dX12_plainStands_6 rfl ?_
  refine v_iload_n C 1 dX12_plainStands_7 rfl ?_
  refine v_iadd C dX12_plainStands_8 ?_
  obtain rfl := Option.some.inj E
  exact v_iret C rfl dX12_plainStands_9
set_option maxHeartbeats 4000000 in
theorem c_X12_plainStands {n : Nat} {K : Sh} {I : Im} {J : Jm} {R : Rf} {o : Nat} {x1 : Int32} {x2 : Int32} (ho : (K o).1 = 13) {res : Int32 × Im} (E : f_X12_plainStands K R o x1 x2 I = some res) : Met l yX12_plainStands (Cond.code yX12_plainStands cX12_plainStands 3 (some .int) :: tb) rX12_plainStands (PX D cA bs Z [.ref o, .int x1, .int x2] K n I J R) (QX D cA bs Z (some (.int res.1)) K n res.2 J R) 0 0 (fun q => bs ≤ q) := by
  refine met_of (lv1 := [(0, va_rf (some o)), (1, .int x1), (2, .int x2)]) pn_X12 (by exact Nat.le_of_ble_eq_true rfl) (by rfl) ?_
  intro p e s m args below meth c C hn
  exact v_sub [0, 1, 2] [(0, va_rf (some o)), (1, .int x1), (2, .int x2)] rfl (w_X12_plainStands_0 C ho _ _ _ _ E)
set_option maxHeartbeats 4000000 in
theorem w_X12_nightStands_0 (C : Cx D cA bs Z p s m args meth c cX12_nightStands RX12 3 (some .int)) {o : Nat} {K : Sh} {n : Nat} {J : Jm} {R : Rf} (ho : (K o).1 = 13) (res : Int32 × Im) (x1 : Int32) (x2 : Int32) (I : Im) (E : f_X12_nightStands K R o x1 x2 I = some res) : VW D cA bs Z p l e rX12_nightStands s m args below meth c 3 [(0, va_rf (some o)), (1, .int x1), (2, .int x2)] K n I J R 0 0 (MQ below (QX D cA bs Z (some (.int res.1)) K n res.2 J R) args s 0 0 (fun q => bs ≤ q)) 0 [] := by
  unfold f_X12_nightStands at E
  refine v_aload_n (r := (some o)) C 0 dX12_nightStands_0 rfl ?_
  refine v_bipush C dX12_nightStands_1 k_bipush_30 ?_
  obtain ⟨q1, h2, E⟩ := bnd E
  refine v_callV (r := (some o)) (As := [.int 30]) (rv := none) (st := []) (st1 := []) (ce1 := 0) (sl1 := 0) C cv_X12_397 (c_X12_body (x1 := 30) ho h2) rfl ho rfl rfl ⟨rfl, rfl, Nat.le_of_ble_eq_true rfl, Nat.le_of_ble_eq_true rfl⟩ ⟨Nat.le_of_ble_eq_true rfl, Nat.le_of_ble_eq_true rfl⟩ (Nat.le_of_ble_eq_true rfl) rfl rfl rfl dX12_nightStands_3 ?_
  refine v_aload_n (r := (some o)) C 0 dX12_nightStands_6 rfl ?_
  refine v_iload_n C 1 dX12_nightStands_7 rfl ?_
  refine v_iload_n C 2 dX12_nightStands_8 rfl ?_
  refine v_iconst C dX12_nightStands_9 k_iconst_3 ?_
  refine v_imul C dX12_nightStands_10 ?_
  obtain ⟨q3, h4, E⟩ := bnd E
  refine v_callV (r := (some o)) (As := [.int x1, .int (x2 * 3)]) (rv := (some (.int q3.1))) (st := []) (st1 := [.int q3.1]) (ce1 := 0) (sl1 := 0) C cv_X12_400 (c_X12_plainStands (x1 := x1) (x2 := (x2 * 3)) ho h4) rfl ho rfl rfl ⟨rfl, rfl, Nat.le_of_ble_eq_true rfl, Nat.le_of_ble_eq_true rfl⟩ ⟨Nat.le_of_ble_eq_true rfl, Nat.le_of_ble_eq_true rfl⟩ (Nat.le_of_ble_eq_true rfl) rfl rfl rfl dX12_nightStands_11 ?_
  obtain rfl := Option.some.inj E
  exact v_iret C rfl dX12_nightStands_14
set_option maxHeartbeats 4000000 in
theorem c_X12_nightStands {n : Nat} {K : Sh} {I : Im} {J : Jm} {R : Rf} {o : Nat} {x1 : Int32} {x2 : Int32} (ho : (K o).1 = 13) {res : Int32 × Im} (E : f_X12_nightStands K R o x1 x2 I = some res) : Met l yX12_nightStands (Cond.code yX12_nightStands cX12_nightStands 3 (some .int) :: tb) rX12_nightStands (PX D cA bs Z [.ref o, .int x1, .int x2] K n I J R) (QX D cA bs Z (some (.int res.1)) K n res.2 J R) 0 0 (fun q => bs ≤ q) := by
  refine met_of (lv1 := [(0, va_rf (some o)), (1, .int x1), (2, .int x2)]) pn_X12 (by exact Nat.le_of_ble_eq_true rfl) (by rfl) ?_
  intro p e s m args below meth c C hn
  exact v_sub [0, 1, 2] [(0, va_rf (some o)), (1, .int x1), (2, .int x2)] rfl (w_X12_nightStands_0 C ho _ _ _ _ E)
set_option maxHeartbeats 4000000 in
theorem w_X12_standsAct_81 (C : Cx D cA bs Z p s m args meth c cX12_standsAct RX12 3 (some .int)) {o : Nat} {K : Sh} {n : Nat} {J : Jm} {R : Rf} (ho : (K o).1 = 13) (res : Int32 × Im) (x1 : Int32) (x2 : Int32) (I : Im) (E : f_X12_standsAct_81 K R o x1 x2 I = some res) : VW D cA bs Z p l e rX12_standsAct s m args below meth c 3 [(0, va_rf (some o)), (1, .int x1), (2, .int x2)] K n I J R 0 0 (MQ below (QX D cA bs Z (some (.int res.1)) K n res.2 J R) args s 0 0 (fun q => bs ≤ q)) 81 [] := by
  unfold f_X12_standsAct_81 at E
  refine v_aload_n (r := (some o)) C 0 dX12_standsAct_81 rfl ?_
  refine v_iload_n C 1 dX12_standsAct_82 rfl ?_
  refine v_iload_n C 2 dX12_standsAct_83 rfl ?_
  obtain ⟨q1, h2, E⟩ := bnd E
  refine v_callV (r := (some o)) (As := [.int x1, .int x2]) (rv := (some (.int q1.1))) (st := []) (st1 := [.int q1.1]) (ce1 := 0) (sl1 := 0) C cv_X12_400 (c_X12_plainStands (x1 := x1) (x2 := x2) ho h2) rfl ho rfl rfl ⟨rfl, rfl, Nat.le_of_ble_eq_true rfl, Nat.le_of_ble_eq_true rfl⟩ ⟨Nat.le_of_ble_eq_true rfl, Nat.le_of_ble_eq_true rfl⟩ (Nat.le_of_ble_eq_true rfl) rfl rfl rfl dX12_standsAct_84 ?_
  obtain rfl := Option.some.inj E
  exact v_iret C rfl dX12_standsAct_87
set_option maxHeartbeats 4000000 in
theorem w_X12_standsAct_0 (C : Cx D cA bs Z p s m args meth c cX12_standsAct RX12 3 (some .int)) {o : Nat} {K : Sh} {n : Nat} {J : Jm} {R : Rf} (ho : (K o).1 = 13) (res : Int32 × Im) (x1 : Int32) (x2 : Int32) (I : Im) (E : f_X12_standsAct K R o x1 x2 I = some res) : VW D cA bs Z p l e rX12_standsAct s m args below meth c 3 [(0, va_rf (some o)), (1, .int x1), (2, .int x2)] K n I J R 0 0 (MQ below (QX D cA bs Z (some (.int res.1)) K n res.2 J R) args s 0 0 (fun q => bs ≤ q)) 0 [] := by
  unfold f_X12_standsAct at E
  refine v_aload_n (r := (some o)) C 0 dX12_standsAct_0 rfl ?_
  refine v_getR (r := (some o)) C fa_X12_102 rfl rfl ho dX12_standsAct_1 ?_
  refine v_iload_n C 1 dX12_standsAct_4 rfl ?_
  refine v_iald (r := (R o 30)) C E dX12_standsAct_5 (fun v3 _ E => ?_)
  by_cases c6 : v3 = 2
  · have E := ite_t E c6
    refine v_tableIn (off := 34) C 40 dX12_standsAct_6 (by rw [c6]; decide) (by rw [c6]; decide) (by rw [c6]; rfl) rfl ?_
    refine v_aload_n (r := (some o)) C 0 dX12_standsAct_40 rfl ?_
    refine v_iload_n C 1 dX12_standsAct_41 rfl ?_
    refine v_iload_n C 2 dX12_standsAct_42 rfl ?_
    obtain ⟨q4, h5, E⟩ := bnd E
    refine v_callV (r := (some o)) (As := [.int x1, .int x2]) (rv := (some (.int q4.1))) (st := []) (st1 := [.int q4.1]) (ce1 := 0) (sl1 := 0) C cv_X12_403 (c_X12_nightStands (x1 := x1) (x2 := x2) ho h5) rfl ho rfl rfl ⟨rfl, rfl, Nat.le_of_ble_eq_true rfl, Nat.le_of_ble_eq_true rfl⟩ ⟨Nat.le_of_ble_eq_true rfl, Nat.le_of_ble_eq_true rfl⟩ (Nat.le_of_ble_eq_true rfl) rfl rfl rfl dX12_standsAct_43 ?_
    obtain rfl := Option.some.inj E
    exact v_iret C rfl dX12_standsAct_46
  have E := ite_f E c6
  by_cases c7 : v3 = 3
  · have E := ite_t E c7
    refine v_tableIn (off := 75) C 81 dX12_standsAct_6 (by rw [c7]; decide) (by rw [c7]; decide) (by rw [c7]; rfl) rfl ?_
    exact v_sub [0, 1, 2] [(0, va_rf (some o)), (1, .int x1), (2, .int x2)] rfl (w_X12_standsAct_81 C ho res  _ _ _ E)
  have E := ite_f E c7
  by_cases c12 : v3 = 4
  · have E := ite_t E c12
    refine v_tableIn (off := 41) C 47 dX12_standsAct_6 (by rw [c12]; decide) (by rw [c12]; decide) (by rw [c12]; rfl) rfl ?_
    refine v_aload_n (r := (some o)) C 0 dX12_standsAct_47 rfl ?_
    refine v_bipush C dX12_standsAct_48 k_bipush_50 ?_
    obtain ⟨q8, h9, E⟩ := bnd E
    refine v_callV (r := (some o)) (As := [.int 50]) (rv := none) (st := []) (st1 := []) (ce1 := 0) (sl1 := 0) C cv_X12_397 (c_X12_body (x1 := 50) ho h9) rfl ho rfl rfl ⟨rfl, rfl, Nat.le_of_ble_eq_true rfl, Nat.le_of_ble_eq_true rfl⟩ ⟨Nat.le_of_ble_eq_true rfl, Nat.le_of_ble_eq_true rfl⟩ (Nat.le_of_ble_eq_true rfl) rfl rfl rfl dX12_standsAct_50 ?_
    refine v_aload_n (r := (some o)) C 0 dX12_standsAct_53 rfl ?_
    refine v_iload_n C 1 dX12_standsAct_54 rfl ?_
    refine v_iload_n C 2 dX12_standsAct_55 rfl ?_
    obtain ⟨q10, h11, E⟩ := bnd E
    refine v_callV (r := (some o)) (As := [.int x1, .int x2]) (rv := (some (.int q10.1))) (st := []) (st1 := [.int q10.1]) (ce1 := 0) (sl1 := 0) C cv_X12_400 (c_X12_plainStands (x1 := x1) (x2 := x2) ho h11) rfl ho rfl rfl ⟨rfl, rfl, Nat.le_of_ble_eq_true rfl, Nat.le_of_ble_eq_true rfl⟩ ⟨Nat.le_of_ble_eq_true rfl, Nat.le_of_ble_eq_true rfl⟩ (Nat.le_of_ble_eq_true rfl) rfl rfl rfl dX12_standsAct_56 ?_
    refine v_ineg C dX12_standsAct_59 ?_
    obtain rfl := Option.some.inj E
    exact v_iret C rfl dX12_standsAct_60
  have E := ite_f E c12
  by_cases c13 : v3 = 5
  · have E := ite_t E c13
    refine v_tableIn (off := 75) C 81 dX12_standsAct_6 (by rw [c13]; decide) (by rw [c13]; decide) (by rw [c13]; rfl) rfl ?_
    exact v_sub [0, 1, 2] [(0, va_rf (some o)), (1, .int x1), (2, .int x2)] rfl (w_X12_standsAct_81 C ho res  _ _ _ E)
  have E := ite_f E c13
  by_cases c19 : v3 = 6
  · have E := ite_t E c19
    refine v_tableIn (off := 55) C 61 dX12_standsAct_6 (by rw [c19]; decide) (by rw [c19]; decide) (by rw [c19]; rfl) rfl ?_
    refine v_aload_n (r := (some o)) C 0 dX12_standsAct_61 rfl ?_
    refine v_bipush C dX12_standsAct_62 k_bipush_71 ?_
    obtain ⟨q14, h15, E⟩ := bnd E
    refine v_callV (r := (some o)) (As := [.int 71]) (rv := none) (st := []) (st1 := []) (ce1 := 0) (sl1 := 0) C cv_X12_397 (c_X12_body (x1 := 71) ho h15) rfl ho rfl rfl ⟨rfl, rfl, Nat.le_of_ble_eq_true rfl, Nat.le_of_ble_eq_true rfl⟩ ⟨Nat.le_of_ble_eq_true rfl, Nat.le_of_ble_eq_true rfl⟩ (Nat.le_of_ble_eq_true rfl) rfl rfl rfl dX12_standsAct_64 ?_
    refine v_aload_n (r := (some o)) C 0 dX12_standsAct_67 rfl ?_
    refine v_iload_n C 1 dX12_standsAct_68 rfl ?_
    refine v_iload_n C 2 dX12_standsAct_69 rfl ?_
    obtain ⟨q16, h17, E⟩ := bnd E
    refine v_callV (r := (some o)) (As := [.int x1, .int x2]) (rv := (some (.int q16.1))) (st := []) (st1 := [.int q16.1]) (ce1 := 0) (sl1 := 0) C cv_X12_403 (c_X12_nightStands (x1 := x1) (x2 := x2) ho h17) rfl ho rfl rfl ⟨rfl, rfl, Nat.le_of_ble_eq_true rfl, Nat.le_of_ble_eq_true rfl⟩ ⟨Nat.le_of_ble_eq_true rfl, Nat.le_of_ble_eq_true rfl⟩ (Nat.le_of_ble_eq_true rfl) rfl rfl rfl dX12_standsAct_70 ?_
    refine v_aload_n (r := (some o)) C 0 dX12_standsAct_73 rfl ?_
    refine v_getR (r := (some o)) C fa_X12_105 rfl rfl ho dX12_standsAct_74 ?_
    refine v_iload_n C 1 dX12_standsAct_77 rfl ?_
    refine v_iald (r := (R o 31)) C E dX12_standsAct_78 (fun v18 _ E => ?_)
    refine v_ixor C dX12_standsAct_79 ?_
    obtain rfl := Option.some.inj E
    exact v_iret C rfl dX12_standsAct_80
  have E := ite_f E c19
  refine v_tableOut C 81 dX12_standsAct_6 (by have hc6 := lv_neT c6 (show ((2 : Int32)).toInt = 2 from by decide); have hc7 := lv_neT c7 (show ((3 : Int32)).toInt = 3 from by decide); have hc12 := lv_neT c12 (show ((4 : Int32)).toInt = 4 from by decide); have hc13 := lv_neT c13 (show ((5 : Int32)).toInt = 5 from by decide); have hc19 := lv_neT c19 (show ((6 : Int32)).toInt = 6 from by decide); omega) rfl ?_
  exact v_sub [0, 1, 2] [(0, va_rf (some o)), (1, .int x1), (2, .int x2)] rfl (w_X12_standsAct_81 C ho res  _ _ _ E)
set_option maxHeartbeats 4000000 in
theorem c_X12_standsAct {n : Nat} {K : Sh} {I : Im} {J : Jm} {R : Rf} {o : Nat} {x1 : Int32} {x2 : Int32} (ho : (K o).1 = 13) {res : Int32 × Im} (E : f_X12_standsAct K R o x1 x2 I = some res) : Met l yX12_standsAct (Cond.code yX12_standsAct cX12_standsAct 3 (some .int) :: tb) rX12_standsAct (PX D cA bs Z [.ref o, .int x1, .int x2] K n I J R) (QX D cA bs Z (some (.int res.1)) K n res.2 J R) 0 0 (fun q => bs ≤ q) := by
  refine met_of (lv1 := [(0, va_rf (some o)), (1, .int x1), (2, .int x2)]) pn_X12 (by exact Nat.le_of_ble_eq_true rfl) (by rfl) ?_
  intro p e s m args below meth c C hn
  exact v_sub [0, 1, 2] [(0, va_rf (some o)), (1, .int x1), (2, .int x2)] rfl (w_X12_standsAct_0 C ho _ _ _ _ E)
set_option maxHeartbeats 4000000 in
theorem w_X12_plainDraws_0 (C : Cx D cA bs Z p s m args meth c cX12_plainDraws RX12 3 (some .int)) {o : Nat} {K : Sh} {n : Nat} {J : Jm} {R : Rf} (ho : (K o).1 = 13) (res : Int32 × Im) (x1 : Int32) (x2 : Int32) (I : Im) (E : f_X12_plainDraws K R o x1 x2 I = some res) : VW D cA bs Z p l e rX12_plainDraws s m args below meth c 3 [(0, va_rf (some o)), (1, .int x1), (2, .int x2)] K n I J R 0 0 (MQ below (QX D cA bs Z (some (.int res.1)) K n res.2 J R) args s 0 0 (fun q => bs ≤ q)) 0 [] := by
  unfold f_X12_plainDraws at E
  refine v_aload_n (r := (some o)) C 0 dX12_plainDraws_0 rfl ?_
  refine v_bipush C dX12_plainDraws_1 k_bipush_11 ?_
  obtain ⟨q1, h2, E⟩ := bnd E
  refine v_callV (r := (some o)) (As := [.int 11]) (rv := none) (st := []) (st1 := []) (ce1 := 0) (sl1 := 0) C cv_X12_397 (c_X12_body (x1 := 11) ho h2) rfl ho rfl rfl ⟨rfl, rfl, Nat.le_of_ble_eq_true rfl, Nat.le_of_ble_eq_true rfl⟩ ⟨Nat.le_of_ble_eq_true rfl, Nat.le_of_ble_eq_true rfl⟩ (Nat.le_of_ble_eq_true rfl) rfl rfl rfl dX12_plainDraws_3 ?_
  refine v_aload_n (r := (some o)) C 0 dX12_plainDraws_6 rfl ?_
  refine v_iload_n C 1 dX12_plainDraws_7 rfl ?_
  refine v_iload_n C 2 dX12_plainDraws_8 rfl ?_
  obtain ⟨q3, h4, E⟩ := bnd E
  refine v_callV (r := (some o)) (As := [.int x1, .int x2]) (rv := (some (.int q3.1))) (st := []) (st1 := [.int q3.1]) (ce1 := 0) (sl1 := 0) C cv_X12_406 (c_X12_standsAct (x1 := x1) (x2 := x2) ho h4) rfl ho rfl rfl ⟨rfl, rfl, Nat.le_of_ble_eq_true rfl, Nat.le_of_ble_eq_true rfl⟩ ⟨Nat.le_of_ble_eq_true rfl, Nat.le_of_ble_eq_true rfl⟩ (Nat.le_of_ble_eq_true rfl) rfl rfl rfl dX12_plainDraws_9 ?_
  refine v_aload_n (r := (some o)) C 0 dX12_plainDraws_12 rfl ?_
  refine v_getR (r := (some o)) C fa_X12_105 rfl rfl ho dX12_plainDraws_13 ?_
  refine v_iload_n C 1 dX12_plainDraws_16 rfl ?_
  refine v_iald (r := (R o 31)) C E dX12_plainDraws_17 (fun v5 _ E => ?_)
  refine v_isub C dX12_plainDraws_18 ?_
  obtain rfl := Option.some.inj E
  exact v_iret C rfl dX12_plainDraws_19
set_option maxHeartbeats 4000000 in
theorem c_X12_plainDraws {n : Nat} {K : Sh} {I : Im} {J : Jm} {R : Rf} {o : Nat} {x1 : Int32} {x2 : Int32} (ho : (K o).1 = 13) {res : Int32 × Im} (E : f_X12_plainDraws K R o x1 x2 I = some res) : Met l yX12_plainDraws (Cond.code yX12_plainDraws cX12_plainDraws 3 (some .int) :: tb) rX12_plainDraws (PX D cA bs Z [.ref o, .int x1, .int x2] K n I J R) (QX D cA bs Z (some (.int res.1)) K n res.2 J R) 0 0 (fun q => bs ≤ q) := by
  refine met_of (lv1 := [(0, va_rf (some o)), (1, .int x1), (2, .int x2)]) pn_X12 (by exact Nat.le_of_ble_eq_true rfl) (by rfl) ?_
  intro p e s m args below meth c C hn
  exact v_sub [0, 1, 2] [(0, va_rf (some o)), (1, .int x1), (2, .int x2)] rfl (w_X12_plainDraws_0 C ho _ _ _ _ E)
set_option maxHeartbeats 4000000 in
theorem w_X12_waitDraws_0 (C : Cx D cA bs Z p s m args meth c cX12_waitDraws RX12 3 (some .int)) {o : Nat} {K : Sh} {n : Nat} {J : Jm} {R : Rf} (ho : (K o).1 = 13) (res : Int32 × Im) (x1 : Int32) (x2 : Int32) (I : Im) (E : f_X12_waitDraws K R o x1 x2 I = some res) : VW D cA bs Z p l e rX12_waitDraws s m args below meth c 3 [(0, va_rf (some o)), (1, .int x1), (2, .int x2)] K n I J R 0 0 (MQ below (QX D cA bs Z (some (.int res.1)) K n res.2 J R) args s 0 0 (fun q => bs ≤ q)) 0 [] := by
  unfold f_X12_waitDraws at E
  refine v_aload_n (r := (some o)) C 0 dX12_waitDraws_0 rfl ?_
  refine v_bipush C dX12_waitDraws_1 k_bipush_20 ?_
  obtain ⟨q1, h2, E⟩ := bnd E
  refine v_callV (r := (some o)) (As := [.int 20]) (rv := none) (st := []) (st1 := []) (ce1 := 0) (sl1 := 0) C cv_X12_397 (c_X12_body (x1 := 20) ho h2) rfl ho rfl rfl ⟨rfl, rfl, Nat.le_of_ble_eq_true rfl, Nat.le_of_ble_eq_true rfl⟩ ⟨Nat.le_of_ble_eq_true rfl, Nat.le_of_ble_eq_true rfl⟩ (Nat.le_of_ble_eq_true rfl) rfl rfl rfl dX12_waitDraws_3 ?_
  refine v_aload_n (r := (some o)) C 0 dX12_waitDraws_6 rfl ?_
  refine v_iload_n C 1 dX12_waitDraws_7 rfl ?_
  refine v_iload_n C 2 dX12_waitDraws_8 rfl ?_
  obtain ⟨q3, h4, E⟩ := bnd E
  refine v_callV (r := (some o)) (As := [.int x1, .int x2]) (rv := (some (.int q3.1))) (st := []) (st1 := [.int q3.1]) (ce1 := 0) (sl1 := 0) C cv_X12_409 (c_X12_plainDraws (x1 := x1) (x2 := x2) ho h4) rfl ho rfl rfl ⟨rfl, rfl, Nat.le_of_ble_eq_true rfl, Nat.le_of_ble_eq_true rfl⟩ ⟨Nat.le_of_ble_eq_true rfl, Nat.le_of_ble_eq_true rfl⟩ (Nat.le_of_ble_eq_true rfl) rfl rfl rfl dX12_waitDraws_9 ?_
  refine v_bipush C dX12_waitDraws_12 k_bipush_6 ?_
  refine v_ixor C dX12_waitDraws_14 ?_
  obtain rfl := Option.some.inj E
  exact v_iret C rfl dX12_waitDraws_15
set_option maxHeartbeats 4000000 in
theorem c_X12_waitDraws {n : Nat} {K : Sh} {I : Im} {J : Jm} {R : Rf} {o : Nat} {x1 : Int32} {x2 : Int32} (ho : (K o).1 = 13) {res : Int32 × Im} (E : f_X12_waitDraws K R o x1 x2 I = some res) : Met l yX12_waitDraws (Cond.code yX12_waitDraws cX12_waitDraws 3 (some .int) :: tb) rX12_waitDraws (PX D cA bs Z [.ref o, .int x1, .int x2] K n I J R) (QX D cA bs Z (some (.int res.1)) K n res.2 J R) 0 0 (fun q => bs ≤ q) := by
  refine met_of (lv1 := [(0, va_rf (some o)), (1, .int x1), (2, .int x2)]) pn_X12 (by exact Nat.le_of_ble_eq_true rfl) (by rfl) ?_
  intro p e s m args below meth c C hn
  exact v_sub [0, 1, 2] [(0, va_rf (some o)), (1, .int x1), (2, .int x2)] rfl (w_X12_waitDraws_0 C ho _ _ _ _ E)
set_option maxHeartbeats 4000000 in
theorem w_X12_drawsAct_88 (C : Cx D cA bs Z p s m args meth c cX12_drawsAct RX12 4 (some .int)) {o : Nat} {K : Sh} {n : Nat} {J : Jm} {R : Rf} (ho : (K o).1 = 13) (res : Int32 × Im) (x1 : Int32) (x2 : Int32) (I : Im) (E : f_X12_drawsAct_88 K R o x1 x2 I = some res) : VW D cA bs Z p l e rX12_drawsAct s m args below meth c 4 [(0, va_rf (some o)), (1, .int x1), (2, .int x2)] K n I J R 0 0 (MQ below (QX D cA bs Z (some (.int res.1)) K n res.2 J R) args s 0 0 (fun q => bs ≤ q)) 88 [] := by
  unfold f_X12_drawsAct_88 at E
  refine v_aload_n (r := (some o)) C 0 dX12_drawsAct_88 rfl ?_
  refine v_iload_n C 1 dX12_drawsAct_89 rfl ?_
  refine v_iload_n C 2 dX12_drawsAct_90 rfl ?_
  obtain ⟨q1, h2, E⟩ := bnd E
  refine v_callV (r := (some o)) (As := [.int x1, .int x2]) (rv := (some (.int q1.1))) (st := []) (st1 := [.int q1.1]) (ce1 := 0) (sl1 := 0) C cv_X12_409 (c_X12_plainDraws (x1 := x1) (x2 := x2) ho h2) rfl ho rfl rfl ⟨rfl, rfl, Nat.le_of_ble_eq_true rfl, Nat.le_of_ble_eq_true rfl⟩ ⟨Nat.le_of_ble_eq_true rfl, Nat.le_of_ble_eq_true rfl⟩ (Nat.le_of_ble_eq_true rfl) rfl rfl rfl dX12_drawsAct_91 ?_
  obtain rfl := Option.some.inj E
  exact v_iret C rfl dX12_drawsAct_94
set_option maxHeartbeats 4000000 in
theorem w_X12_drawsAct_44 (C : Cx D cA bs Z p s m args meth c cX12_drawsAct RX12 4 (some .int)) {o : Nat} {K : Sh} {n : Nat} {J : Jm} {R : Rf} (ho : (K o).1 = 13) (res : Int32 × Im) (x1 : Int32) (x2 : Int32) (I : Im) (E : f_X12_drawsAct_44 K R o x1 x2 I = some res) : VW D cA bs Z p l e rX12_drawsAct s m args below meth c 4 [(0, va_rf (some o)), (1, .int x1), (2, .int x2)] K n I J R 0 0 (MQ below (QX D cA bs Z (some (.int res.1)) K n res.2 J R) args s 0 0 (fun q => bs ≤ q)) 44 [] := by
  unfold f_X12_drawsAct_44 at E
  refine v_aload_n (r := (some o)) C 0 dX12_drawsAct_44 rfl ?_
  refine v_iload_n C 1 dX12_drawsAct_45 rfl ?_
  refine v_iload_n C 2 dX12_drawsAct_46 rfl ?_
  obtain ⟨q3, h4, E⟩ := bnd E
  refine v_callV (r := (some o)) (As := [.int x1, .int x2]) (rv := (some (.int q3.1))) (st := []) (st1 := [.int q3.1]) (ce1 := 0) (sl1 := 0) C cv_X12_412 (c_X12_waitDraws (x1 := x1) (x2 := x2) ho h4) rfl ho rfl rfl ⟨rfl, rfl, Nat.le_of_ble_eq_true rfl, Nat.le_of_ble_eq_true rfl⟩ ⟨Nat.le_of_ble_eq_true rfl, Nat.le_of_ble_eq_true rfl⟩ (Nat.le_of_ble_eq_true rfl) rfl rfl rfl dX12_drawsAct_47 ?_
  obtain rfl := Option.some.inj E
  exact v_iret C rfl dX12_drawsAct_50
set_option maxHeartbeats 4000000 in
theorem w_X12_drawsAct_0 (C : Cx D cA bs Z p s m args meth c cX12_drawsAct RX12 4 (some .int)) {o : Nat} {K : Sh} {n : Nat} {J : Jm} {R : Rf} (ho : (K o).1 = 13) (res : Int32 × Im) (x1 : Int32) (x2 : Int32) (I : Im) (E : f_X12_drawsAct K R o x1 x2 I = some res) : VW D cA bs Z p l e rX12_drawsAct s m args below meth c 4 [(0, va_rf (some o)), (1, .int x1), (2, .int x2)] K n I J R 0 0 (MQ below (QX D cA bs Z (some (.int res.1)) K n res.2 J R) args s 0 0 (fun q => bs ≤ q)) 0 [] := by
  unfold f_X12_drawsAct at E
  refine v_aload_n (r := (some o)) C 0 dX12_drawsAct_0 rfl ?_
  refine v_getR (r := (some o)) C fa_X12_102 rfl rfl ho dX12_drawsAct_1 ?_
  refine v_iload_n C 1 dX12_drawsAct_4 rfl ?_
  refine v_iald (r := (R o 30)) C E dX12_drawsAct_5 (fun v5 _ E => ?_)
  by_cases c6 : v5 = 1
  · have E := ite_t E c6
    refine v_tableIn (off := 38) C 44 dX12_drawsAct_6 (by rw [c6]; decide) (by rw [c6]; decide) (by rw [c6]; rfl) rfl ?_
    exact v_sub [0, 1, 2] [(0, va_rf (some o)), (1, .int x1), (2, .int x2)] rfl (w_X12_drawsAct_44 C ho res  _ _ _ E)
  have E := ite_f E c6
  by_cases c7 : v5 = 2
  · have E := ite_t E c7
    refine v_tableIn (off := 82) C 88 dX12_drawsAct_6 (by rw [c7]; decide) (by rw [c7]; decide) (by rw [c7]; rfl) rfl ?_
    exact v_sub [0, 1, 2] [(0, va_rf (some o)), (1, .int x1), (2, .int x2)] rfl (w_X12_drawsAct_88 C ho res  _ _ _ E)
  have E := ite_f E c7
  by_cases c8 : v5 = 3
  · have E := ite_t E c8
    refine v_tableIn (off := 82) C 88 dX12_drawsAct_6 (by rw [c8]; decide) (by rw [c8]; decide) (by rw [c8]; rfl) rfl ?_
    exact v_sub [0, 1, 2] [(0, va_rf (some o)), (1, .int x1), (2, .int x2)] rfl (w_X12_drawsAct_88 C ho res  _ _ _ E)
  have E := ite_f E c8
  by_cases c13 : v5 = 4
  · have E := ite_t E c13
    refine v_tableIn (off := 45) C 51 dX12_drawsAct_6 (by rw [c13]; decide) (by rw [c13]; decide) (by rw [c13]; rfl) rfl ?_
    refine v_aload_n (r := (some o)) C 0 dX12_drawsAct_51 rfl ?_
    refine v_bipush C dX12_drawsAct_52 k_bipush_51 ?_
    obtain ⟨q9, h10, E⟩ := bnd E
    refine v_callV (r := (some o)) (As := [.int 51]) (rv := none) (st := []) (st1 := []) (ce1 := 0) (sl1 := 0) C cv_X12_397 (c_X12_body (x1 := 51) ho h10) rfl ho rfl rfl ⟨rfl, rfl, Nat.le_of_ble_eq_true rfl, Nat.le_of_ble_eq_true rfl⟩ ⟨Nat.le_of_ble_eq_true rfl, Nat.le_of_ble_eq_true rfl⟩ (Nat.le_of_ble_eq_true rfl) rfl rfl rfl dX12_drawsAct_54 ?_
    refine v_aload_n (r := (some o)) C 0 dX12_drawsAct_57 rfl ?_
    refine v_iload_n C 1 dX12_drawsAct_58 rfl ?_
    refine v_iload_n C 2 dX12_drawsAct_59 rfl ?_
    refine v_iconst C dX12_drawsAct_60 k_iconst_1 ?_
    refine v_iadd C dX12_drawsAct_61 ?_
    obtain ⟨q11, h12, E⟩ := bnd E
    refine v_callV (r := (some o)) (As := [.int x1, .int (x2 + 1)]) (rv := (some (.int q11.1))) (st := []) (st1 := [.int q11.1]) (ce1 := 0) (sl1 := 0) C cv_X12_412 (c_X12_waitDraws (x1 := x1) (x2 := (x2 + 1)) ho h12) rfl ho rfl rfl ⟨rfl, rfl, Nat.le_of_ble_eq_true rfl, Nat.le_of_ble_eq_true rfl⟩ ⟨Nat.le_of_ble_eq_true rfl, Nat.le_of_ble_eq_true rfl⟩ (Nat.le_of_ble_eq_true rfl) rfl rfl rfl dX12_drawsAct_62 ?_
    obtain rfl := Option.some.inj E
    exact v_iret C rfl dX12_drawsAct_65
  have E := ite_f E c13
  by_cases c14 : v5 = 5
  · have E := ite_t E c14
    refine v_tableIn (off := 38) C 44 dX12_drawsAct_6 (by rw [c14]; decide) (by rw [c14]; decide) (by rw [c14]; rfl) rfl ?_
    exact v_sub [0, 1, 2] [(0, va_rf (some o)), (1, .int x1), (2, .int x2)] rfl (w_X12_drawsAct_44 C ho res  _ _ _ E)
  have E := ite_f E c14
  by_cases c21 : v5 = 6
  · have E := ite_t E c21
    refine v_tableIn (off := 60) C 66 dX12_drawsAct_6 (by rw [c21]; decide) (by rw [c21]; decide) (by rw [c21]; rfl) rfl ?_
    refine v_aload_n (r := (some o)) C 0 dX12_drawsAct_66 rfl ?_
    refine v_bipush C dX12_drawsAct_67 k_bipush_70 ?_
    obtain ⟨q15, h16, E⟩ := bnd E
    refine v_callV (r := (some o)) (As := [.int 70]) (rv := none) (st := []) (st1 := []) (ce1 := 0) (sl1 := 0) C cv_X12_397 (c_X12_body (x1 := 70) ho h16) rfl ho rfl rfl ⟨rfl, rfl, Nat.le_of_ble_eq_true rfl, Nat.le_of_ble_eq_true rfl⟩ ⟨Nat.le_of_ble_eq_true rfl, Nat.le_of_ble_eq_true rfl⟩ (Nat.le_of_ble_eq_true rfl) rfl rfl rfl dX12_drawsAct_69 ?_
    refine v_aload_n (r := (some o)) C 0 dX12_drawsAct_72 rfl ?_
    refine v_iload_n C 1 dX12_drawsAct_73 rfl ?_
    refine v_iload_n C 2 dX12_drawsAct_74 rfl ?_
    obtain ⟨q17, h18, E⟩ := bnd E
    refine v_callV (r := (some o)) (As := [.int x1, .int x2]) (rv := (some (.int q17.1))) (st := []) (st1 := [.int q17.1]) (ce1 := 0) (sl1 := 0) C cv_X12_409 (c_X12_plainDraws (x1 := x1) (x2 := x2) ho h18) rfl ho rfl rfl ⟨rfl, rfl, Nat.le_of_ble_eq_true rfl, Nat.le_of_ble_eq_true rfl⟩ ⟨Nat.le_of_ble_eq_true rfl, Nat.le_of_ble_eq_true rfl⟩ (Nat.le_of_ble_eq_true rfl) rfl rfl rfl dX12_drawsAct_75 ?_
    refine v_istore_n C [(3, .int q17.1), (0, va_rf (some o)), (1, .int x1), (2, .int x2)] dX12_drawsAct_78 (Nat.le_of_ble_eq_true rfl) rfl ?_
    refine v_iload_n C 0 dX12_drawsAct_79 rfl ?_
    refine v_aload_n (r := (some o)) C 1 dX12_drawsAct_80 rfl ?_
    refine v_iload_n C 2 dX12_drawsAct_81 rfl ?_
    refine v_iconst C dX12_drawsAct_82 k_iconst_2 ?_
    obtain ⟨q19, h20, E⟩ := bnd E
    refine v_callV (r := (some o)) (As := [.int x1, .int 2]) (rv := (some (.int q19.1))) (st := [.int q17.1]) (st1 := [.int q19.1, .int q17.1]) (ce1 := 0) (sl1 := 0) C cv_X12_403 (c_X12_nightStands (x1 := x1) (x2 := 2) ho h20) rfl ho rfl rfl ⟨rfl, rfl, Nat.le_of_ble_eq_true rfl, Nat.le_of_ble_eq_true rfl⟩ ⟨Nat.le_of_ble_eq_true rfl, Nat.le_of_ble_eq_true rfl⟩ (Nat.le_of_ble_eq_true rfl) rfl rfl rfl dX12_drawsAct_83 ?_
    refine v_iadd C dX12_drawsAct_86 ?_
    obtain rfl := Option.some.inj E
    exact v_iret C rfl dX12_drawsAct_87
  have E := ite_f E c21
  refine v_tableOut C 88 dX12_drawsAct_6 (by have hc6 := lv_neT c6 (show ((1 : Int32)).toInt = 1 from by decide); have hc7 := lv_neT c7 (show ((2 : Int32)).toInt = 2 from by decide); have hc8 := lv_neT c8 (show ((3 : Int32)).toInt = 3 from by decide); have hc13 := lv_neT c13 (show ((4 : Int32)).toInt = 4 from by decide); have hc14 := lv_neT c14 (show ((5 : Int32)).toInt = 5 from by decide); have hc21 := lv_neT c21 (show ((6 : Int32)).toInt = 6 from by decide); omega) rfl ?_
  exact v_sub [0, 1, 2] [(0, va_rf (some o)), (1, .int x1), (2, .int x2)] rfl (w_X12_drawsAct_88 C ho res  _ _ _ E)
set_option maxHeartbeats 4000000 in
theorem c_X12_drawsAct {n : Nat} {K : Sh} {I : Im} {J : Jm} {R : Rf} {o : Nat} {x1 : Int32} {x2 : Int32} (ho : (K o).1 = 13) {res : Int32 × Im} (E : f_X12_drawsAct K R o x1 x2 I = some res) : Met l yX12_drawsAct (Cond.code yX12_drawsAct cX12_drawsAct 4 (some .int) :: tb) rX12_drawsAct (PX D cA bs Z [.ref o, .int x1, .int x2] K n I J R) (QX D cA bs Z (some (.int res.1)) K n res.2 J R) 0 0 (fun q => bs ≤ q) := by
  refine met_of (lv1 := [(0, va_rf (some o)), (1, .int x1), (2, .int x2)]) pn_X12 (by exact Nat.le_of_ble_eq_true rfl) (by rfl) ?_
  intro p e s m args below meth c C hn
  exact v_sub [0, 1, 2] [(0, va_rf (some o)), (1, .int x1), (2, .int x2)] rfl (w_X12_drawsAct_0 C ho _ _ _ _ E)
set_option maxHeartbeats 4000000 in
theorem w_X12_plainTells_0 (C : Cx D cA bs Z p s m args meth c cX12_plainTells RX12 3 (some .int)) {o : Nat} {K : Sh} {n : Nat} {J : Jm} {R : Rf} (ho : (K o).1 = 13) (res : Int32 × Im) (x1 : Int32) (x2 : Int32) (I : Im) (E : f_X12_plainTells K R o x1 x2 I = some res) : VW D cA bs Z p l e rX12_plainTells s m args below meth c 3 [(0, va_rf (some o)), (1, .int x1), (2, .int x2)] K n I J R 0 0 (MQ below (QX D cA bs Z (some (.int res.1)) K n res.2 J R) args s 0 0 (fun q => bs ≤ q)) 0 [] := by
  unfold f_X12_plainTells at E
  refine v_aload_n (r := (some o)) C 0 dX12_plainTells_0 rfl ?_
  refine v_bipush C dX12_plainTells_1 k_bipush_12 ?_
  obtain ⟨q1, h2, E⟩ := bnd E
  refine v_callV (r := (some o)) (As := [.int 12]) (rv := none) (st := []) (st1 := []) (ce1 := 0) (sl1 := 0) C cv_X12_397 (c_X12_body (x1 := 12) ho h2) rfl ho rfl rfl ⟨rfl, rfl, Nat.le_of_ble_eq_true rfl, Nat.le_of_ble_eq_true rfl⟩ ⟨Nat.le_of_ble_eq_true rfl, Nat.le_of_ble_eq_true rfl⟩ (Nat.le_of_ble_eq_true rfl) rfl rfl rfl dX12_plainTells_3 ?_
  refine v_aload_n (r := (some o)) C 0 dX12_plainTells_6 rfl ?_
  refine v_iload_n C 1 dX12_plainTells_7 rfl ?_
  refine v_iload_n C 2 dX12_plainTells_8 rfl ?_
  obtain ⟨q3, h4, E⟩ := bnd E
  refine v_callV (r := (some o)) (As := [.int x1, .int x2]) (rv := (some (.int q3.1))) (st := []) (st1 := [.int q3.1]) (ce1 := 0) (sl1 := 0) C cv_X12_415 (c_X12_drawsAct (x1 := x1) (x2 := x2) ho h4) rfl ho rfl rfl ⟨rfl, rfl, Nat.le_of_ble_eq_true rfl, Nat.le_of_ble_eq_true rfl⟩ ⟨Nat.le_of_ble_eq_true rfl, Nat.le_of_ble_eq_true rfl⟩ (Nat.le_of_ble_eq_true rfl) rfl rfl rfl dX12_plainTells_9 ?_
  refine v_iconst C dX12_plainTells_12 k_iconst_2 ?_
  refine v_imul C dX12_plainTells_13 ?_
  obtain rfl := Option.some.inj E
  exact v_iret C rfl dX12_plainTells_14
set_option maxHeartbeats 4000000 in
theorem c_X12_plainTells {n : Nat} {K : Sh} {I : Im} {J : Jm} {R : Rf} {o : Nat} {x1 : Int32} {x2 : Int32} (ho : (K o).1 = 13) {res : Int32 × Im} (E : f_X12_plainTells K R o x1 x2 I = some res) : Met l yX12_plainTells (Cond.code yX12_plainTells cX12_plainTells 3 (some .int) :: tb) rX12_plainTells (PX D cA bs Z [.ref o, .int x1, .int x2] K n I J R) (QX D cA bs Z (some (.int res.1)) K n res.2 J R) 0 0 (fun q => bs ≤ q) := by
  refine met_of (lv1 := [(0, va_rf (some o)), (1, .int x1), (2, .int x2)]) pn_X12 (by exact Nat.le_of_ble_eq_true rfl) (by rfl) ?_
  intro p e s m args below meth c C hn
  exact v_sub [0, 1, 2] [(0, va_rf (some o)), (1, .int x1), (2, .int x2)] rfl (w_X12_plainTells_0 C ho _ _ _ _ E)
set_option maxHeartbeats 4000000 in
theorem w_X12_tellsAct_0 (C : Cx D cA bs Z p s m args meth c cX12_tellsAct RX12 4 (some .int)) {o : Nat} {K : Sh} {n : Nat} {J : Jm} {R : Rf} (ho : (K o).1 = 13) (res : Int32 × Im) (x1 : Int32) (x2 : Int32) (I : Im) (E : f_X12_tellsAct K R o x1 x2 I = some res) : VW D cA bs Z p l e rX12_tellsAct s m args below meth c 4 [(0, va_rf (some o)), (1, .int x1), (2, .int x2)] K n I J R 0 0 (MQ below (QX D cA bs Z (some (.int res.1)) K n res.2 J R) args s 0 0 (fun q => bs ≤ q)) 0 [] := by
  unfold f_X12_tellsAct at E
  refine v_aload_n (r := (some o)) C 0 dX12_tellsAct_0 rfl ?_
  refine v_getR (r := (some o)) C fa_X12_102 rfl rfl ho dX12_tellsAct_1 ?_
  refine v_iload_n C 1 dX12_tellsAct_4 rfl ?_
  refine v_iald (r := (R o 30)) C E dX12_tellsAct_5 (fun v1 _ E => ?_)
  by_cases c8 : v1 = 3
  · have E := ite_t E c8
    refine v_lookup (off := 26) C 32 dX12_tellsAct_6 (by decide) (by rw [c8]; decide) rfl ?_
    refine v_aload_n (r := (some o)) C 0 dX12_tellsAct_32 rfl ?_
    refine v_bipush C dX12_tellsAct_33 k_bipush_40 ?_
    obtain ⟨q2, h3, E⟩ := bnd E
    refine v_callV (r := (some o)) (As := [.int 40]) (rv := none) (st := []) (st1 := []) (ce1 := 0) (sl1 := 0) C cv_X12_397 (c_X12_body (x1 := 40) ho h3) rfl ho rfl rfl ⟨rfl, rfl, Nat.le_of_ble_eq_true rfl, Nat.le_of_ble_eq_true rfl⟩ ⟨Nat.le_of_ble_eq_true rfl, Nat.le_of_ble_eq_true rfl⟩ (Nat.le_of_ble_eq_true rfl) rfl rfl rfl dX12_tellsAct_35 ?_
    refine v_aload_n (r := (some o)) C 0 dX12_tellsAct_38 rfl ?_
    refine v_iload_n C 1 dX12_tellsAct_39 rfl ?_
    refine v_iload_n C 2 dX12_tellsAct_40 rfl ?_
    obtain ⟨q4, h5, E⟩ := bnd E
    refine v_callV (r := (some o)) (As := [.int x1, .int x2]) (rv := (some (.int q4.1))) (st := []) (st1 := [.int q4.1]) (ce1 := 0) (sl1 := 0) C cv_X12_418 (c_X12_plainTells (x1 := x1) (x2 := x2) ho h5) rfl ho rfl rfl ⟨rfl, rfl, Nat.le_of_ble_eq_true rfl, Nat.le_of_ble_eq_true rfl⟩ ⟨Nat.le_of_ble_eq_true rfl, Nat.le_of_ble_eq_true rfl⟩ (Nat.le_of_ble_eq_true rfl) rfl rfl rfl dX12_tellsAct_41 ?_
    refine v_istore_n C [(3, .int q4.1), (0, va_rf (some o)), (1, .int x1), (2, .int x2)] dX12_tellsAct_44 (Nat.le_of_ble_eq_true rfl) rfl ?_
    refine v_iload_n C 0 dX12_tellsAct_45 rfl ?_
    refine v_aload_n (r := (some o)) C 1 dX12_tellsAct_46 rfl ?_
    refine v_iload_n C 2 dX12_tellsAct_47 rfl ?_
    refine v_iconst C dX12_tellsAct_48 k_iconst_1 ?_
    obtain ⟨q6, h7, E⟩ := bnd E
    refine v_callV (r := (some o)) (As := [.int x1, .int 1]) (rv := (some (.int q6.1))) (st := [.int q4.1]) (st1 := [.int q6.1, .int q4.1]) (ce1 := 0) (sl1 := 0) C cv_X12_415 (c_X12_drawsAct (x1 := x1) (x2 := 1) ho h7) rfl ho rfl rfl ⟨rfl, rfl, Nat.le_of_ble_eq_true rfl, Nat.le_of_ble_eq_true rfl⟩ ⟨Nat.le_of_ble_eq_true rfl, Nat.le_of_ble_eq_true rfl⟩ (Nat.le_of_ble_eq_true rfl) rfl rfl rfl dX12_tellsAct_49 ?_
    refine v_iadd C dX12_tellsAct_52 ?_
    obtain rfl := Option.some.inj E
    exact v_iret C rfl dX12_tellsAct_53
  have E := ite_f E c8
  by_cases c13 : v1 = 5
  · have E := ite_t E c13
    refine v_lookup (off := 48) C 54 dX12_tellsAct_6 (by decide) (by rw [c13]; decide) rfl ?_
    refine v_aload_n (r := (some o)) C 0 dX12_tellsAct_54 rfl ?_
    refine v_bipush C dX12_tellsAct_55 k_bipush_60 ?_
    obtain ⟨q9, h10, E⟩ := bnd E
    refine v_callV (r := (some o)) (As := [.int 60]) (rv := none) (st := []) (st1 := []) (ce1 := 0) (sl1 := 0) C cv_X12_397 (c_X12_body (x1 := 60) ho h10) rfl ho rfl rfl ⟨rfl, rfl, Nat.le_of_ble_eq_true rfl, Nat.le_of_ble_eq_true rfl⟩ ⟨Nat.le_of_ble_eq_true rfl, Nat.le_of_ble_eq_true rfl⟩ (Nat.le_of_ble_eq_true rfl) rfl rfl rfl dX12_tellsAct_57 ?_
    refine v_aload_n (r := (some o)) C 0 dX12_tellsAct_60 rfl ?_
    refine v_iload_n C 1 dX12_tellsAct_61 rfl ?_
    refine v_iload_n C 2 dX12_tellsAct_62 rfl ?_
    refine v_iload_n C 1 dX12_tellsAct_63 rfl ?_
    refine v_isub C dX12_tellsAct_64 ?_
    obtain ⟨q11, h12, E⟩ := bnd E
    refine v_callV (r := (some o)) (As := [.int x1, .int (x2 - x1)]) (rv := (some (.int q11.1))) (st := []) (st1 := [.int q11.1]) (ce1 := 0) (sl1 := 0) C cv_X12_418 (c_X12_plainTells (x1 := x1) (x2 := (x2 - x1)) ho h12) rfl ho rfl rfl ⟨rfl, rfl, Nat.le_of_ble_eq_true rfl, Nat.le_of_ble_eq_true rfl⟩ ⟨Nat.le_of_ble_eq_true rfl, Nat.le_of_ble_eq_true rfl⟩ (Nat.le_of_ble_eq_true rfl) rfl rfl rfl dX12_tellsAct_65 ?_
    obtain rfl := Option.some.inj E
    exact v_iret C rfl dX12_tellsAct_68
  have E := ite_f E c13
  refine v_lookup (off := 63) C 69 dX12_tellsAct_6 (by decide) (by show Op.lookupswitch.offset [(3, 26), (5, 48)] 63 _ = _; rw [lv_osw c8 (show ((3 : Int32)).toInt = 3 from by decide), lv_osw c13 (show ((5 : Int32)).toInt = 5 from by decide)]; rfl) rfl ?_
  refine v_aload_n (r := (some o)) C 0 dX12_tellsAct_69 rfl ?_
  refine v_iload_n C 1 dX12_tellsAct_70 rfl ?_
  refine v_iload_n C 2 dX12_tellsAct_71 rfl ?_
  obtain ⟨q14, h15, E⟩ := bnd E
  refine v_callV (r := (some o)) (As := [.int x1, .int x2]) (rv := (some (.int q14.1))) (st := []) (st1 := [.int q14.1]) (ce1 := 0) (sl1 := 0) C cv_X12_418 (c_X12_plainTells (x1 := x1) (x2 := x2) ho h15) rfl ho rfl rfl ⟨rfl, rfl, Nat.le_of_ble_eq_true rfl, Nat.le_of_ble_eq_true rfl⟩ ⟨Nat.le_of_ble_eq_true rfl, Nat.le_of_ble_eq_true rfl⟩ (Nat.le_of_ble_eq_true rfl) rfl rfl rfl dX12_tellsAct_72 ?_
  obtain rfl := Option.some.inj E
  exact v_iret C rfl dX12_tellsAct_75
set_option maxHeartbeats 4000000 in
theorem c_X12_tellsAct {n : Nat} {K : Sh} {I : Im} {J : Jm} {R : Rf} {o : Nat} {x1 : Int32} {x2 : Int32} (ho : (K o).1 = 13) {res : Int32 × Im} (E : f_X12_tellsAct K R o x1 x2 I = some res) : Met l yX12_tellsAct (Cond.code yX12_tellsAct cX12_tellsAct 4 (some .int) :: tb) rX12_tellsAct (PX D cA bs Z [.ref o, .int x1, .int x2] K n I J R) (QX D cA bs Z (some (.int res.1)) K n res.2 J R) 0 0 (fun q => bs ≤ q) := by
  refine met_of (lv1 := [(0, va_rf (some o)), (1, .int x1), (2, .int x2)]) pn_X12 (by exact Nat.le_of_ble_eq_true rfl) (by rfl) ?_
  intro p e s m args below meth c C hn
  exact v_sub [0, 1, 2] [(0, va_rf (some o)), (1, .int x1), (2, .int x2)] rfl (w_X12_tellsAct_0 C ho _ _ _ _ E)
set_option maxHeartbeats 4000000 in
theorem w_X12_act_0 (C : Cx D cA bs Z p s m args meth c cX12_act RX12 4 (some .int)) {o : Nat} {K : Sh} {n : Nat} {J : Jm} {R : Rf} (ho : (K o).1 = 13) (res : Int32 × Im) (x1 : Int32) (x2 : Int32) (x3 : Int32) (I : Im) (E : f_X12_act K R o x1 x2 x3 I = some res) : VW D cA bs Z p l e rX12_act s m args below meth c 4 [(0, va_rf (some o)), (1, .int x1), (2, .int x2), (3, .int x3)] K n I J R 0 0 (MQ below (QX D cA bs Z (some (.int res.1)) K n res.2 J R) args s 0 0 (fun q => bs ≤ q)) 0 [] := by
  unfold f_X12_act at E
  refine v_aload_n (r := (some o)) C 0 dX12_act_0 rfl ?_
  refine v_iconst C dX12_act_1 k_iconst_0 ?_
  refine v_putI (r := (some o)) C fa_X12_214 rfl E rfl ho ⟨rfl, rfl⟩ dX12_act_2 (fun I1 _ E => ?_)
  refine v_aload_n (r := (some o)) C 0 dX12_act_5 rfl ?_
  refine v_iload_n C 1 dX12_act_6 rfl ?_
  obtain ⟨q2, h3, E⟩ := bnd E
  refine v_callV (r := (some o)) (As := [.int x1]) (rv := (some (.int q2))) (st := []) (st1 := [.int q2]) (ce1 := 0) (sl1 := 0) C cv_X12_329 (c_X12_isRule (x1 := x1) ho h3) rfl ho rfl rfl ⟨rfl, rfl, Nat.le_of_ble_eq_true rfl, Nat.le_of_ble_eq_true rfl⟩ ⟨Nat.le_of_ble_eq_true rfl, Nat.le_of_ble_eq_true rfl⟩ (Nat.le_of_ble_eq_true rfl) rfl rfl rfl dX12_act_7 ?_
  refine v_if_eq C 23 E dX12_act_10 rfl (fun c15 E => ?_) (fun c15 E => ?_)
  · refine v_iconst C dX12_act_23 k_iconst_0 ?_
    obtain rfl := Option.some.inj E
    exact v_iret C rfl dX12_act_24
  · refine v_aload_n (r := (some o)) C 0 dX12_act_13 rfl ?_
    refine v_iload_n C 2 dX12_act_14 rfl ?_
    refine v_iconst C dX12_act_15 k_iconst_0 ?_
    refine v_iconst C dX12_act_16 k_iconst_2 ?_
    obtain ⟨q4, h5, E⟩ := bnd E
    refine v_callV (r := (some o)) (As := [.int x2, .int 0, .int 2]) (rv := (some (.int q4))) (st := []) (st1 := [.int q4]) (ce1 := 0) (sl1 := 0) C cv_X12_233 (c_X12_in (x1 := x2) (x2 := 0) (x3 := 2) ho h5) rfl ho rfl rfl ⟨rfl, rfl, Nat.le_of_ble_eq_true rfl, Nat.le_of_ble_eq_true rfl⟩ ⟨Nat.le_of_ble_eq_true rfl, Nat.le_of_ble_eq_true rfl⟩ (Nat.le_of_ble_eq_true rfl) rfl rfl rfl dX12_act_17 ?_
    refine v_if_ne C 25 E dX12_act_20 rfl (fun c14 E => ?_) (fun c14 E => ?_)
    · refine v_iconst C dX12_act_23 k_iconst_0 ?_
      obtain rfl := Option.some.inj E
      exact v_iret C rfl dX12_act_24
    · refine v_iload_n C 2 dX12_act_25 rfl ?_
      refine v_if_ne C 38 E dX12_act_26 rfl (fun c13 E => ?_) (fun c13 E => ?_)
      · refine v_aload_n (r := (some o)) C 0 dX12_act_29 rfl ?_
        refine v_iload_n C 1 dX12_act_30 rfl ?_
        refine v_iload_n C 3 dX12_act_31 rfl ?_
        obtain ⟨q11, h12, E⟩ := bnd E
        refine v_callV (r := (some o)) (As := [.int x1, .int x3]) (rv := (some (.int q11.1))) (st := []) (st1 := [.int q11.1]) (ce1 := 0) (sl1 := 0) C cv_X12_406 (c_X12_standsAct (x1 := x1) (x2 := x3) ho h12) rfl ho rfl rfl ⟨rfl, rfl, Nat.le_of_ble_eq_true rfl, Nat.le_of_ble_eq_true rfl⟩ ⟨Nat.le_of_ble_eq_true rfl, Nat.le_of_ble_eq_true rfl⟩ (Nat.le_of_ble_eq_true rfl) rfl rfl rfl dX12_act_32 ?_
        refine v_goto C 58 dX12_act_35 rfl ?_
        obtain rfl := Option.some.inj E
        exact v_iret C rfl dX12_act_58
      · refine v_iload_n C 2 dX12_act_38 rfl ?_
        refine v_iconst C dX12_act_39 k_iconst_1 ?_
        refine v_icmp_ne C 52 E dX12_act_40 rfl (fun c10 E => ?_) (fun c10 E => ?_)
        · refine v_aload_n (r := (some o)) C 0 dX12_act_43 rfl ?_
          refine v_iload_n C 1 dX12_act_44 rfl ?_
          refine v_iload_n C 3 dX12_act_45 rfl ?_
          obtain ⟨q8, h9, E⟩ := bnd E
          refine v_callV (r := (some o)) (As := [.int x1, .int x3]) (rv := (some (.int q8.1))) (st := []) (st1 := [.int q8.1]) (ce1 := 0) (sl1 := 0) C cv_X12_415 (c_X12_drawsAct (x1 := x1) (x2 := x3) ho h9) rfl ho rfl rfl ⟨rfl, rfl, Nat.le_of_ble_eq_true rfl, Nat.le_of_ble_eq_true rfl⟩ ⟨Nat.le_of_ble_eq_true rfl, Nat.le_of_ble_eq_true rfl⟩ (Nat.le_of_ble_eq_true rfl) rfl rfl rfl dX12_act_46 ?_
          refine v_goto C 58 dX12_act_49 rfl ?_
          obtain rfl := Option.some.inj E
          exact v_iret C rfl dX12_act_58
        · refine v_aload_n (r := (some o)) C 0 dX12_act_52 rfl ?_
          refine v_iload_n C 1 dX12_act_53 rfl ?_
          refine v_iload_n C 3 dX12_act_54 rfl ?_
          obtain ⟨q6, h7, E⟩ := bnd E
          refine v_callV (r := (some o)) (As := [.int x1, .int x3]) (rv := (some (.int q6.1))) (st := []) (st1 := [.int q6.1]) (ce1 := 0) (sl1 := 0) C cv_X12_421 (c_X12_tellsAct (x1 := x1) (x2 := x3) ho h7) rfl ho rfl rfl ⟨rfl, rfl, Nat.le_of_ble_eq_true rfl, Nat.le_of_ble_eq_true rfl⟩ ⟨Nat.le_of_ble_eq_true rfl, Nat.le_of_ble_eq_true rfl⟩ (Nat.le_of_ble_eq_true rfl) rfl rfl rfl dX12_act_55 ?_
          obtain rfl := Option.some.inj E
          exact v_iret C rfl dX12_act_58
set_option maxHeartbeats 4000000 in
theorem c_X12_act {n : Nat} {K : Sh} {I : Im} {J : Jm} {R : Rf} {o : Nat} {x1 : Int32} {x2 : Int32} {x3 : Int32} (ho : (K o).1 = 13) {res : Int32 × Im} (E : f_X12_act K R o x1 x2 x3 I = some res) : Met l yX12_act (Cond.code yX12_act cX12_act 4 (some .int) :: tb) rX12_act (PX D cA bs Z [.ref o, .int x1, .int x2, .int x3] K n I J R) (QX D cA bs Z (some (.int res.1)) K n res.2 J R) 0 0 (fun q => bs ≤ q) := by
  refine met_of (lv1 := [(0, va_rf (some o)), (1, .int x1), (2, .int x2), (3, .int x3)]) pn_X12 (by exact Nat.le_of_ble_eq_true rfl) (by rfl) ?_
  intro p e s m args below meth c C hn
  exact v_sub [0, 1, 2, 3] [(0, va_rf (some o)), (1, .int x1), (2, .int x2), (3, .int x3)] rfl (w_X12_act_0 C ho _ _ _ _ _ E)
set_option maxHeartbeats 4000000 in
theorem w_X12_trace_0 (C : Cx D cA bs Z p s m args meth c cX12_trace RX12 2 (some .int)) {o : Nat} {K : Sh} {n : Nat} {I : Im} {J : Jm} {R : Rf} (ho : (K o).1 = 13) (res : Int32) (x1 : Int32) (E : f_X12_trace K I R o x1 = some res) : VW D cA bs Z p l e rX12_trace s m args below meth c 2 [(0, va_rf (some o)), (1, .int x1)] K n I J R 0 0 (MQ below (QX D cA bs Z (some (.int res)) K n I J R) args s 0 0 (fun q => bs ≤ q)) 0 [] := by
  unfold f_X12_trace at E
  refine v_aload_n (r := (some o)) C 0 dX12_trace_0 rfl ?_
  refine v_iload_n C 1 dX12_trace_1 rfl ?_
  refine v_iconst C dX12_trace_2 k_iconst_0 ?_
  refine v_bipush C dX12_trace_3 k_bipush_19 ?_
  obtain ⟨q1, h2, E⟩ := bnd E
  refine v_callV (r := (some o)) (As := [.int x1, .int 0, .int 19]) (rv := (some (.int q1))) (st := []) (st1 := [.int q1]) (ce1 := 0) (sl1 := 0) C cv_X12_233 (c_X12_in (x1 := x1) (x2 := 0) (x3 := 19) ho h2) rfl ho rfl rfl ⟨rfl, rfl, Nat.le_of_ble_eq_true rfl, Nat.le_of_ble_eq_true rfl⟩ ⟨Nat.le_of_ble_eq_true rfl, Nat.le_of_ble_eq_true rfl⟩ (Nat.le_of_ble_eq_true rfl) rfl rfl rfl dX12_trace_5 ?_
  refine v_if_eq C 28 E dX12_trace_8 rfl (fun c5 E => ?_) (fun c5 E => ?_)
  · refine v_iconst C dX12_trace_28 k_iconst_m1 ?_
    obtain rfl := Option.some.inj E
    exact v_iret C rfl dX12_trace_29
  · refine v_iload_n C 1 dX12_trace_11 rfl ?_
    refine v_aload_n (r := (some o)) C 0 dX12_trace_12 rfl ?_
    refine v_getI (r := (some o)) C fa_X12_214 rfl rfl ho dX12_trace_13 ?_
    refine v_icmp_ge C 28 E dX12_trace_16 rfl (fun c4 E => ?_) (fun c4 E => ?_)
    · refine v_iconst C dX12_trace_28 k_iconst_m1 ?_
      obtain rfl := Option.some.inj E
      exact v_iret C rfl dX12_trace_29
    · refine v_aload_n (r := (some o)) C 0 dX12_trace_19 rfl ?_
      refine v_getR (r := (some o)) C fa_X12_217 rfl rfl ho dX12_trace_20 ?_
      refine v_iload_n C 1 dX12_trace_23 rfl ?_
      refine v_iald (r := (R o 68)) C E dX12_trace_24 (fun v3 _ E => ?_)
      refine v_goto C 29 dX12_trace_25 rfl ?_
      obtain rfl := Option.some.inj E
      exact v_iret C rfl dX12_trace_29
set_option maxHeartbeats 4000000 in
theorem c_X12_trace {n : Nat} {K : Sh} {I : Im} {J : Jm} {R : Rf} {o : Nat} {x1 : Int32} (ho : (K o).1 = 13) {res : Int32} (E : f_X12_trace K I R o x1 = some res) : Met l yX12_trace (Cond.code yX12_trace cX12_trace 2 (some .int) :: tb) rX12_trace (PX D cA bs Z [.ref o, .int x1] K n I J R) (QX D cA bs Z (some (.int res)) K n I J R) 0 0 (fun q => bs ≤ q) := by
  refine met_of (lv1 := [(0, va_rf (some o)), (1, .int x1)]) pn_X12 (by exact Nat.le_of_ble_eq_true rfl) (by rfl) ?_
  intro p e s m args below meth c C hn
  exact v_sub [0, 1] [(0, va_rf (some o)), (1, .int x1)] rfl (w_X12_trace_0 C ho _ _ E)
set_option maxHeartbeats 4000000 in
theorem w_X12_taken_56 (C : Cx D cA bs Z p s m args meth c cX12_taken RX12 4 (some .int)) {o : Nat} {K : Sh} {n : Nat} {I : Im} {J : Jm} {R : Rf} (ho : (K o).1 = 13) (res : Int32) (x2 : Int32) (x3 : Int32) (E : f_X12_taken_56 K I R o x2 x3 = some res) : VW D cA bs Z p l e rX12_taken s m args below meth c 4 [(0, va_rf (some o)), (2, .int x2), (3, .int x3)] K n I J R 0 0 (MQ below (QX D cA bs Z (some (.int res)) K n I J R) args s 0 0 (fun q => bs ≤ q)) 56 [] := by
  unfold f_X12_taken_56 at E
  refine v_iload_n C 1 dX12_taken_56 rfl ?_
  refine v_iconst C dX12_taken_57 k_iconst_2 ?_
  refine v_icmp_ne C 71 E dX12_taken_58 rfl (fun c2 E => ?_) (fun c2 E => ?_)
  · refine v_iload_n C 2 dX12_taken_61 rfl ?_
    refine v_bipush C dX12_taken_62 k_bipush_6 ?_
    refine v_icmp_ne C 71 E dX12_taken_64 rfl (fun c1 E => ?_) (fun c1 E => ?_)
    · refine v_iload_n C 2 dX12_taken_67 rfl ?_
      refine v_goto C 73 dX12_taken_68 rfl ?_
      obtain rfl := Option.some.inj E
      exact v_iret C rfl dX12_taken_73
    · refine v_bipush C dX12_taken_71 k_bipush_m12 ?_
      obtain rfl := Option.some.inj E
      exact v_iret C rfl dX12_taken_73
  · refine v_bipush C dX12_taken_71 k_bipush_m12 ?_
    obtain rfl := Option.some.inj E
    exact v_iret C rfl dX12_taken_73
set_option maxHeartbeats 4000000 in
theorem w_X12_taken_0 (C : Cx D cA bs Z p s m args meth c cX12_taken RX12 4 (some .int)) {o : Nat} {K : Sh} {n : Nat} {I : Im} {J : Jm} {R : Rf} (ho : (K o).1 = 13) (res : Int32) (x1 : Int32) (x2 : Int32) (E : f_X12_taken K I R o x1 x2 = some res) : VW D cA bs Z p l e rX12_taken s m args below meth c 4 [(0, va_rf (some o)), (1, .int x1), (2, .int x2)] K n I J R 0 0 (MQ below (QX D cA bs Z (some (.int res)) K n I J R) args s 0 0 (fun q => bs ≤ q)) 0 [] := by
  unfold f_X12_taken at E
  refine v_aload_n (r := (some o)) C 0 dX12_taken_0 rfl ?_
  refine v_iload_n C 2 dX12_taken_1 rfl ?_
  refine v_iconst C dX12_taken_2 k_iconst_0 ?_
  refine v_bipush C dX12_taken_3 k_bipush_6 ?_
  obtain ⟨q3, h4, E⟩ := bnd E
  refine v_callV (r := (some o)) (As := [.int x2, .int 0, .int 6]) (rv := (some (.int q3))) (st := []) (st1 := [.int q3]) (ce1 := 0) (sl1 := 0) C cv_X12_233 (c_X12_in (x1 := x2) (x2 := 0) (x3 := 6) ho h4) rfl ho rfl rfl ⟨rfl, rfl, Nat.le_of_ble_eq_true rfl, Nat.le_of_ble_eq_true rfl⟩ ⟨Nat.le_of_ble_eq_true rfl, Nat.le_of_ble_eq_true rfl⟩ (Nat.le_of_ble_eq_true rfl) rfl rfl rfl dX12_taken_5 ?_
  refine v_if_ne C 14 E dX12_taken_8 rfl (fun c14 E => ?_) (fun c14 E => ?_)
  · refine v_bipush C dX12_taken_11 k_bipush_m2 ?_
    obtain rfl := Option.some.inj E
    exact v_iret C rfl dX12_taken_13
  · refine v_aload_n (r := (some o)) C 0 dX12_taken_14 rfl ?_
    refine v_iload_n C 1 dX12_taken_15 rfl ?_
    obtain ⟨q5, h6, E⟩ := bnd E
    refine v_callV (r := (some o)) (As := [.int x1]) (rv := (some (.int q5))) (st := []) (st1 := [.int q5]) (ce1 := 0) (sl1 := 0) C cv_X12_329 (c_X12_isRule (x1 := x1) ho h6) rfl ho rfl rfl ⟨rfl, rfl, Nat.le_of_ble_eq_true rfl, Nat.le_of_ble_eq_true rfl⟩ ⟨Nat.le_of_ble_eq_true rfl, Nat.le_of_ble_eq_true rfl⟩ (Nat.le_of_ble_eq_true rfl) rfl rfl rfl dX12_taken_16 ?_
    refine v_if_ne C 25 E dX12_taken_19 rfl (fun c13 E => ?_) (fun c13 E => ?_)
    · refine v_bipush C dX12_taken_22 k_bipush_m11 ?_
      obtain rfl := Option.some.inj E
      exact v_iret C rfl dX12_taken_24
    · refine v_aload_n (r := (some o)) C 0 dX12_taken_25 rfl ?_
      refine v_getR (r := (some o)) C fa_X12_102 rfl rfl ho dX12_taken_26 ?_
      refine v_iload_n C 1 dX12_taken_29 rfl ?_
      refine v_iald (r := (R o 30)) C E dX12_taken_30 (fun v7 _ E => ?_)
      refine v_istore_n C [(3, .int v7), (0, va_rf (some o)), (1, .int x1), (2, .int x2)] dX12_taken_31 (Nat.le_of_ble_eq_true rfl) rfl ?_
      refine v_iload_n C 3 dX12_taken_32 rfl ?_
      refine v_if_eq C 67 E dX12_taken_33 rfl (fun c12 E => ?_) (fun c12 E => ?_)
      · refine v_iload_n C 0 dX12_taken_67 rfl ?_
        refine v_goto C 73 dX12_taken_68 rfl ?_
        obtain rfl := Option.some.inj E
        exact v_iret C rfl dX12_taken_73
      · refine v_iload_n C 0 dX12_taken_36 rfl ?_
        refine v_iload_n C 3 dX12_taken_37 rfl ?_
        refine v_icmp_eq C 67 E dX12_taken_38 rfl (fun c11 E => ?_) (fun c11 E => ?_)
        · refine v_iload_n C 0 dX12_taken_67 rfl ?_
          refine v_goto C 73 dX12_taken_68 rfl ?_
          obtain rfl := Option.some.inj E
          exact v_iret C rfl dX12_taken_73
        · refine v_iload_n C 3 dX12_taken_41 rfl ?_
          refine v_iconst C dX12_taken_42 k_iconst_1 ?_
          refine v_icmp_ne C 56 E dX12_taken_43 rfl (fun c10 E => ?_) (fun c10 E => ?_)
          · refine v_iload_n C 0 dX12_taken_46 rfl ?_
            refine v_iconst C dX12_taken_47 k_iconst_4 ?_
            refine v_icmp_eq C 67 E dX12_taken_48 rfl (fun c9 E => ?_) (fun c9 E => ?_)
            · refine v_iload_n C 0 dX12_taken_67 rfl ?_
              refine v_goto C 73 dX12_taken_68 rfl ?_
              obtain rfl := Option.some.inj E
              exact v_iret C rfl dX12_taken_73
            · refine v_iload_n C 0 dX12_taken_51 rfl ?_
              refine v_iconst C dX12_taken_52 k_iconst_5 ?_
              refine v_icmp_eq C 67 E dX12_taken_53 rfl (fun c8 E => ?_) (fun c8 E => ?_)
              · refine v_iload_n C 0 dX12_taken_67 rfl ?_
                refine v_goto C 73 dX12_taken_68 rfl ?_
                obtain rfl := Option.some.inj E
                exact v_iret C rfl dX12_taken_73
              · exact v_sub [1, 3, 0] [(0, va_rf (some o)), (2, .int x2), (3, .int v7)] rfl (w_X12_taken_56 C ho res  _ _ E)
          · exact v_sub [1, 3, 0] [(0, va_rf (some o)), (2, .int x2), (3, .int v7)] rfl (w_X12_taken_56 C ho res  _ _ E)
set_option maxHeartbeats 4000000 in
theorem c_X12_taken {n : Nat} {K : Sh} {I : Im} {J : Jm} {R : Rf} {o : Nat} {x1 : Int32} {x2 : Int32} (ho : (K o).1 = 13) {res : Int32} (E : f_X12_taken K I R o x1 x2 = some res) : Met l yX12_taken (Cond.code yX12_taken cX12_taken 4 (some .int) :: tb) rX12_taken (PX D cA bs Z [.ref o, .int x1, .int x2] K n I J R) (QX D cA bs Z (some (.int res)) K n I J R) 0 0 (fun q => bs ≤ q) := by
  refine met_of (lv1 := [(0, va_rf (some o)), (1, .int x1), (2, .int x2)]) pn_X12 (by exact Nat.le_of_ble_eq_true rfl) (by rfl) ?_
  intro p e s m args below meth c C hn
  exact v_sub [0, 1, 2] [(0, va_rf (some o)), (1, .int x1), (2, .int x2)] rfl (w_X12_taken_0 C ho _ _ _ E)
set_option maxHeartbeats 4000000 in
theorem w_X12_count_0 (C : Cx D cA bs Z p s m args meth c cX12_count RX12 2 (some .int)) {o : Nat} {K : Sh} {n : Nat} {I : Im} {J : Jm} {R : Rf} (ho : (K o).1 = 13) (res : Int32) (x1 : Int32) (E : f_X12_count K I o x1 = some res) : VW D cA bs Z p l e rX12_count s m args below meth c 2 [(0, va_rf (some o)), (1, .int x1)] K n I J R 0 0 (MQ below (QX D cA bs Z (some (.int res)) K n I J R) args s 0 0 (fun q => bs ≤ q)) 0 [] := by
  unfold f_X12_count at E
  refine v_iload_n C 1 dX12_count_0 rfl ?_
  by_cases c1 : x1 = 0
  · have E := ite_t E c1
    refine v_tableIn (off := 43) C 44 dX12_count_1 (by rw [c1]; decide) (by rw [c1]; decide) (by rw [c1]; rfl) rfl ?_
    refine v_aload_n (r := (some o)) C 0 dX12_count_44 rfl ?_
    refine v_getI (r := (some o)) C fa_X12_7 rfl rfl ho dX12_count_45 ?_
    obtain rfl := Option.some.inj E
    exact v_iret C rfl dX12_count_48
  have E := ite_f E c1
  by_cases c2 : x1 = 1
  · have E := ite_t E c2
    refine v_tableIn (off := 48) C 49 dX12_count_1 (by rw [c2]; decide) (by rw [c2]; decide) (by rw [c2]; rfl) rfl ?_
    refine v_aload_n (r := (some o)) C 0 dX12_count_49 rfl ?_
    refine v_getI (r := (some o)) C fa_X12_93 rfl rfl ho dX12_count_50 ?_
    obtain rfl := Option.some.inj E
    exact v_iret C rfl dX12_count_53
  have E := ite_f E c2
  by_cases c3 : x1 = 2
  · have E := ite_t E c3
    refine v_tableIn (off := 53) C 54 dX12_count_1 (by rw [c3]; decide) (by rw [c3]; decide) (by rw [c3]; rfl) rfl ?_
    refine v_aload_n (r := (some o)) C 0 dX12_count_54 rfl ?_
    refine v_getI (r := (some o)) C fa_X12_96 rfl rfl ho dX12_count_55 ?_
    obtain rfl := Option.some.inj E
    exact v_iret C rfl dX12_count_58
  have E := ite_f E c3
  by_cases c4 : x1 = 3
  · have E := ite_t E c4
    refine v_tableIn (off := 58) C 59 dX12_count_1 (by rw [c4]; decide) (by rw [c4]; decide) (by rw [c4]; rfl) rfl ?_
    refine v_aload_n (r := (some o)) C 0 dX12_count_59 rfl ?_
    refine v_getI (r := (some o)) C fa_X12_165 rfl rfl ho dX12_count_60 ?_
    obtain rfl := Option.some.inj E
    exact v_iret C rfl dX12_count_63
  have E := ite_f E c4
  by_cases c5 : x1 = 4
  · have E := ite_t E c5
    refine v_tableIn (off := 63) C 64 dX12_count_1 (by rw [c5]; decide) (by rw [c5]; decide) (by rw [c5]; rfl) rfl ?_
    refine v_aload_n (r := (some o)) C 0 dX12_count_64 rfl ?_
    refine v_getI (r := (some o)) C fa_X12_99 rfl rfl ho dX12_count_65 ?_
    obtain rfl := Option.some.inj E
    exact v_iret C rfl dX12_count_68
  have E := ite_f E c5
  by_cases c6 : x1 = 5
  · have E := ite_t E c6
    refine v_tableIn (off := 68) C 69 dX12_count_1 (by rw [c6]; decide) (by rw [c6]; decide) (by rw [c6]; rfl) rfl ?_
    refine v_aload_n (r := (some o)) C 0 dX12_count_69 rfl ?_
    refine v_getI (r := (some o)) C fa_X12_16 rfl rfl ho dX12_count_70 ?_
    obtain rfl := Option.some.inj E
    exact v_iret C rfl dX12_count_73
  have E := ite_f E c6
  by_cases c7 : x1 = 6
  · have E := ite_t E c7
    refine v_tableIn (off := 73) C 74 dX12_count_1 (by rw [c7]; decide) (by rw [c7]; decide) (by rw [c7]; rfl) rfl ?_
    refine v_aload_n (r := (some o)) C 0 dX12_count_74 rfl ?_
    refine v_getI (r := (some o)) C fa_X12_214 rfl rfl ho dX12_count_75 ?_
    obtain rfl := Option.some.inj E
    exact v_iret C rfl dX12_count_78
  have E := ite_f E c7
  refine v_tableOut C 79 dX12_count_1 (by have hc1 := lv_neT c1 (show ((0 : Int32)).toInt = 0 from by decide); have hc2 := lv_neT c2 (show ((1 : Int32)).toInt = 1 from by decide); have hc3 := lv_neT c3 (show ((2 : Int32)).toInt = 2 from by decide); have hc4 := lv_neT c4 (show ((3 : Int32)).toInt = 3 from by decide); have hc5 := lv_neT c5 (show ((4 : Int32)).toInt = 4 from by decide); have hc6 := lv_neT c6 (show ((5 : Int32)).toInt = 5 from by decide); have hc7 := lv_neT c7 (show ((6 : Int32)).toInt = 6 from by decide); omega) rfl ?_
  refine v_bipush C dX12_count_79 k_bipush_m2 ?_
  obtain rfl := Option.some.inj E
  exact v_iret C rfl dX12_count_81
set_option maxHeartbeats 4000000 in
theorem c_X12_count {n : Nat} {K : Sh} {I : Im} {J : Jm} {R : Rf} {o : Nat} {x1 : Int32} (ho : (K o).1 = 13) {res : Int32} (E : f_X12_count K I o x1 = some res) : Met l yX12_count (Cond.code yX12_count cX12_count 2 (some .int) :: tb) rX12_count (PX D cA bs Z [.ref o, .int x1] K n I J R) (QX D cA bs Z (some (.int res)) K n I J R) 0 0 (fun q => bs ≤ q) := by
  refine met_of (lv1 := [(0, va_rf (some o)), (1, .int x1)]) pn_X12 (by exact Nat.le_of_ble_eq_true rfl) (by rfl) ?_
  intro p e s m args below meth c C hn
  exact v_sub [0, 1] [(0, va_rf (some o)), (1, .int x1)] rfl (w_X12_count_0 C ho _ _ E)
set_option maxHeartbeats 4000000 in
theorem w_X12_tape_69 (C : Cx D cA bs Z p s m args meth c cX12_tape RX12 5 (some .int)) {o : Nat} {K : Sh} {n : Nat} {R : Rf} (ho : (K o).1 = 13) (res : Int32 × Im × Jm)  : ∀ (k : Nat), ∀ (x1 : Int32) (x4 : Int32) (I : Im) (J : Jm), f_X12_tape_69 K R o k x1 x4 I J = some res → VW D cA bs Z p l e rX12_tape s m args below meth c 5 [(0, va_rf (some o)), (1, .int x1), (4, .int x4)] K n I J R 0 0 (MQ below (QX D cA bs Z (some (.int res.1)) K n res.2.1 res.2.2 R) args s 0 0 (fun q => bs ≤ q)) 69 [] := by
  intro k
  induction k with
  | zero =>
    intro x1 x4 I J E
    have E : (none : Option (Int32 × Im × Jm)) = some res := E
    cases E
  | succ k ih =>
    intro x1 x4 I J E
    unfold f_X12_tape_69 at E
    refine v_iload C 2 dX12_tape_69 rfl ?_
    refine v_bipush C dX12_tape_71 k_bipush_60 ?_
    refine v_icmp_ge C 95 E dX12_tape_73 rfl (fun c2 E => ?_) (fun c2 E => ?_)
    · refine v_iconst C dX12_tape_95 k_iconst_1 ?_
      obtain rfl := Option.some.inj E
      exact v_iret C rfl dX12_tape_96
    · refine v_aload_n (r := (some o)) C 0 dX12_tape_76 rfl ?_
      refine v_getR (r := (some o)) C fa_X12_226 rfl rfl ho dX12_tape_77 ?_
      refine v_bipush C dX12_tape_80 k_bipush_60 ?_
      refine v_iload_n C 1 dX12_tape_82 rfl ?_
      refine v_imul C dX12_tape_83 ?_
      refine v_iload C 2 dX12_tape_84 rfl ?_
      refine v_iadd C dX12_tape_86 ?_
      refine v_lconst (v := 0) C dX12_tape_87 (by decide) ?_
      refine v_last (r := (R o 71)) C E dX12_tape_88 (fun J1 _ E => ?_)
      refine v_iinc (v := x4 + 1) C 2 [(4, .int (x4 + 1)), (0, va_rf (some o)), (1, .int x1)] dX12_tape_89 rfl (k_inc_1 _) (Nat.le_of_ble_eq_true rfl) rfl ?_
      refine v_goto C 69 dX12_tape_92 rfl ?_
      exact v_sub [1, 2, 0] [(0, va_rf (some o)), (1, .int x1), (4, .int (x4 + 1))] rfl (ih _ _ _ _ E)
set_option maxHeartbeats 4000000 in
theorem w_X12_tape_65 (C : Cx D cA bs Z p s m args meth c cX12_tape RX12 5 (some .int)) {o : Nat} {K : Sh} {n : Nat} {R : Rf} (ho : (K o).1 = 13) (res : Int32 × Im × Jm) (x1 : Int32) (s0 : Option Nat) (s1 : Int32) (s2 : Int32) (I : Im) (J : Jm) (E : f_X12_tape_65 K R o x1 s0 s1 s2 I J = some res) : VW D cA bs Z p l e rX12_tape s m args below meth c 5 [(0, va_rf (some o)), (1, .int x1)] K n I J R 0 0 (MQ below (QX D cA bs Z (some (.int res.1)) K n res.2.1 res.2.2 R) args s 0 0 (fun q => bs ≤ q)) 65 [.int s2, .int s1, va_rf s0] := by
  unfold f_X12_tape_65 at E
  refine v_iast (r := s0) C E dX12_tape_65 (fun I3 _ E => ?_)
  refine v_iconst C dX12_tape_66 k_iconst_0 ?_
  refine v_istore C [(4, .int 0), (0, va_rf (some o)), (1, .int x1)] dX12_tape_67 (Nat.le_of_ble_eq_true rfl) rfl ?_
  exact v_sub [1, 2, 0] [(0, va_rf (some o)), (1, .int x1), (4, .int 0)] rfl (w_X12_tape_69 C ho res  _ _ _ _ _ E)
set_option maxHeartbeats 4000000 in
theorem w_X12_tape_44 (C : Cx D cA bs Z p s m args meth c cX12_tape RX12 5 (some .int)) {o : Nat} {K : Sh} {n : Nat} {R : Rf} (ho : (K o).1 = 13) (res : Int32 × Im × Jm) (x1 : Int32) (x2 : Int32) (x3 : Int32) (I : Im) (J : Jm) (E : f_X12_tape_44 K R o x1 x2 x3 I J = some res) : VW D cA bs Z p l e rX12_tape s m args below meth c 5 [(0, va_rf (some o)), (1, .int x1), (2, .int x2), (3, .int x3)] K n I J R 0 0 (MQ below (QX D cA bs Z (some (.int res.1)) K n res.2.1 res.2.2 R) args s 0 0 (fun q => bs ≤ q)) 44 [] := by
  unfold f_X12_tape_44 at E
  refine v_aload_n (r := (some o)) C 0 dX12_tape_44 rfl ?_
  refine v_getR (r := (some o)) C fa_X12_220 rfl rfl ho dX12_tape_45 ?_
  refine v_iload_n C 1 dX12_tape_48 rfl ?_
  refine v_iload_n C 2 dX12_tape_49 rfl ?_
  refine v_iast (r := (R o 69)) C E dX12_tape_50 (fun I4 _ E => ?_)
  refine v_aload_n (r := (some o)) C 0 dX12_tape_51 rfl ?_
  refine v_getR (r := (some o)) C fa_X12_223 rfl rfl ho dX12_tape_52 ?_
  refine v_iload_n C 1 dX12_tape_55 rfl ?_
  refine v_iload_n C 2 dX12_tape_56 rfl ?_
  refine v_if_ge C 64 E dX12_tape_57 rfl (fun c5 E => ?_) (fun c5 E => ?_)
  · refine v_iload_n C 3 dX12_tape_64 rfl ?_
    exact v_sub [0, 1] [(0, va_rf (some o)), (1, .int x1)] rfl (w_X12_tape_65 C ho res  _ _ _ _ _ _ E)
  · refine v_iconst C dX12_tape_60 k_iconst_0 ?_
    refine v_goto C 65 dX12_tape_61 rfl ?_
    exact v_sub [0, 1] [(0, va_rf (some o)), (1, .int x1)] rfl (w_X12_tape_65 C ho res  _ _ _ _ _ _ E)
set_option maxHeartbeats 4000000 in
theorem w_X12_tape_33 (C : Cx D cA bs Z p s m args meth c cX12_tape RX12 5 (some .int)) {o : Nat} {K : Sh} {n : Nat} {R : Rf} (ho : (K o).1 = 13) (res : Int32 × Im × Jm) (x1 : Int32) (x2 : Int32) (x3 : Int32) (I : Im) (J : Jm) (E : f_X12_tape_33 K R o x1 x2 x3 I J = some res) : VW D cA bs Z p l e rX12_tape s m args below meth c 5 [(0, va_rf (some o)), (1, .int x1), (2, .int x2), (3, .int x3)] K n I J R 0 0 (MQ below (QX D cA bs Z (some (.int res.1)) K n res.2.1 res.2.2 R) args s 0 0 (fun q => bs ≤ q)) 33 [] := by
  unfold f_X12_tape_33 at E
  refine v_iload_n C 2 dX12_tape_33 rfl ?_
  refine v_if_lt C 44 E dX12_tape_34 rfl (fun c7 E => ?_) (fun c7 E => ?_)
  · exact v_sub [0, 1, 2, 3] [(0, va_rf (some o)), (1, .int x1), (2, .int x2), (3, .int x3)] rfl (w_X12_tape_44 C ho res  _ _ _ _ _ E)
  · refine v_iload_n C 3 dX12_tape_37 rfl ?_
    refine v_if_ge C 44 E dX12_tape_38 rfl (fun c6 E => ?_) (fun c6 E => ?_)
    · exact v_sub [0, 1, 2, 3] [(0, va_rf (some o)), (1, .int x1), (2, .int x2), (3, .int x3)] rfl (w_X12_tape_44 C ho res  _ _ _ _ _ E)
    · refine v_bipush C dX12_tape_41 k_bipush_m14 ?_
      obtain rfl := Option.some.inj E
      exact v_iret C rfl dX12_tape_43
set_option maxHeartbeats 4000000 in
theorem w_X12_tape_0 (C : Cx D cA bs Z p s m args meth c cX12_tape RX12 5 (some .int)) {o : Nat} {K : Sh} {n : Nat} {R : Rf} (ho : (K o).1 = 13) (res : Int32 × Im × Jm) (x1 : Int32) (x2 : Int32) (x3 : Int32) (I : Im) (J : Jm) (E : f_X12_tape K R o x1 x2 x3 I J = some res) : VW D cA bs Z p l e rX12_tape s m args below meth c 5 [(0, va_rf (some o)), (1, .int x1), (2, .int x2), (3, .int x3)] K n I J R 0 0 (MQ below (QX D cA bs Z (some (.int res.1)) K n res.2.1 res.2.2 R) args s 0 0 (fun q => bs ≤ q)) 0 [] := by
  unfold f_X12_tape at E
  refine v_aload_n (r := (some o)) C 0 dX12_tape_0 rfl ?_
  refine v_iload_n C 1 dX12_tape_1 rfl ?_
  obtain ⟨q8, h9, E⟩ := bnd E
  refine v_callV (r := (some o)) (As := [.int x1]) (rv := (some (.int q8))) (st := []) (st1 := [.int q8]) (ce1 := 0) (sl1 := 0) C cv_X12_388 (c_X12_isTape (x1 := x1) ho h9) rfl ho rfl rfl ⟨rfl, rfl, Nat.le_of_ble_eq_true rfl, Nat.le_of_ble_eq_true rfl⟩ ⟨Nat.le_of_ble_eq_true rfl, Nat.le_of_ble_eq_true rfl⟩ (Nat.le_of_ble_eq_true rfl) rfl rfl rfl dX12_tape_2 ?_
  refine v_if_ne C 10 E dX12_tape_5 rfl (fun c15 E => ?_) (fun c15 E => ?_)
  · refine v_iconst C dX12_tape_8 k_iconst_m1 ?_
    obtain rfl := Option.some.inj E
    exact v_iret C rfl dX12_tape_9
  · refine v_aload_n (r := (some o)) C 0 dX12_tape_10 rfl ?_
    refine v_iload_n C 2 dX12_tape_11 rfl ?_
    refine v_iconst C dX12_tape_12 k_iconst_m1 ?_
    refine v_iconst C dX12_tape_13 k_iconst_4 ?_
    obtain ⟨q10, h11, E⟩ := bnd E
    refine v_callV (r := (some o)) (As := [.int x2, .int (-1), .int 4]) (rv := (some (.int q10))) (st := []) (st1 := [.int q10]) (ce1 := 0) (sl1 := 0) C cv_X12_233 (c_X12_in (x1 := x2) (x2 := (-1)) (x3 := 4) ho h11) rfl ho rfl rfl ⟨rfl, rfl, Nat.le_of_ble_eq_true rfl, Nat.le_of_ble_eq_true rfl⟩ ⟨Nat.le_of_ble_eq_true rfl, Nat.le_of_ble_eq_true rfl⟩ (Nat.le_of_ble_eq_true rfl) rfl rfl rfl dX12_tape_14 ?_
    refine v_if_eq C 30 E dX12_tape_17 rfl (fun c14 E => ?_) (fun c14 E => ?_)
    · refine v_bipush C dX12_tape_30 k_bipush_m2 ?_
      obtain rfl := Option.some.inj E
      exact v_iret C rfl dX12_tape_32
    · refine v_iload_n C 2 dX12_tape_20 rfl ?_
      refine v_if_lt C 33 E dX12_tape_21 rfl (fun c13 E => ?_) (fun c13 E => ?_)
      · exact v_sub [0, 1, 2, 3] [(0, va_rf (some o)), (1, .int x1), (2, .int x2), (3, .int x3)] rfl (w_X12_tape_33 C ho res  _ _ _ _ _ E)
      · refine v_iload_n C 3 dX12_tape_24 rfl ?_
        refine v_bipush C dX12_tape_25 k_bipush_60 ?_
        refine v_icmp_le C 33 E dX12_tape_27 rfl (fun c12 E => ?_) (fun c12 E => ?_)
        · exact v_sub [0, 1, 2, 3] [(0, va_rf (some o)), (1, .int x1), (2, .int x2), (3, .int x3)] rfl (w_X12_tape_33 C ho res  _ _ _ _ _ E)
        · refine v_bipush C dX12_tape_30 k_bipush_m2 ?_
          obtain rfl := Option.some.inj E
          exact v_iret C rfl dX12_tape_32
set_option maxHeartbeats 4000000 in
theorem c_X12_tape {n : Nat} {K : Sh} {I : Im} {J : Jm} {R : Rf} {o : Nat} {x1 : Int32} {x2 : Int32} {x3 : Int32} (ho : (K o).1 = 13) {res : Int32 × Im × Jm} (E : f_X12_tape K R o x1 x2 x3 I J = some res) : Met l yX12_tape (Cond.code yX12_tape cX12_tape 5 (some .int) :: tb) rX12_tape (PX D cA bs Z [.ref o, .int x1, .int x2, .int x3] K n I J R) (QX D cA bs Z (some (.int res.1)) K n res.2.1 res.2.2 R) 0 0 (fun q => bs ≤ q) := by
  refine met_of (lv1 := [(0, va_rf (some o)), (1, .int x1), (2, .int x2), (3, .int x3)]) pn_X12 (by exact Nat.le_of_ble_eq_true rfl) (by rfl) ?_
  intro p e s m args below meth c C hn
  exact v_sub [0, 1, 2, 3] [(0, va_rf (some o)), (1, .int x1), (2, .int x2), (3, .int x3)] rfl (w_X12_tape_0 C ho _ _ _ _ _ _ E)
set_option maxHeartbeats 4000000 in
theorem w_X12_narrow_0 (C : Cx D cA bs Z p s m args meth c cX12_narrow RX12 4 (some .long)) {o : Nat} {K : Sh} {n : Nat} {I : Im} {J : Jm} {R : Rf} (ho : (K o).1 = 13) (res : Int64) (x1 : Int32) (x2 : Int64) (E : f_X12_narrow o x1 x2 = some res) : VW D cA bs Z p l e rX12_narrow s m args below meth c 4 [(0, va_rf (some o)), (1, .int x1), (2, .long x2)] K n I J R 0 0 (MQ below (QX D cA bs Z (some (.long res)) K n I J R) args s 0 0 (fun q => bs ≤ q)) 0 [] := by
  unfold f_X12_narrow at E
  refine v_iload_n C 1 dX12_narrow_0 rfl ?_
  refine v_if_ne C 11 E dX12_narrow_1 rfl (fun c5 E => ?_) (fun c5 E => ?_)
  · refine v_lload_n C 2 dX12_narrow_4 rfl ?_
    refine v_l2i C dX12_narrow_5 ?_
    refine v_i2b C dX12_narrow_6 ?_
    refine v_i2l C dX12_narrow_7 ?_
    refine v_goto C 54 dX12_narrow_8 rfl ?_
    obtain rfl := Option.some.inj E
    exact v_lret C rfl dX12_narrow_54
  · refine v_iload_n C 1 dX12_narrow_11 rfl ?_
    refine v_iconst C dX12_narrow_12 k_iconst_1 ?_
    refine v_icmp_ne C 23 E dX12_narrow_13 rfl (fun c4 E => ?_) (fun c4 E => ?_)
    · refine v_lload_n C 2 dX12_narrow_16 rfl ?_
      refine v_l2i C dX12_narrow_17 ?_
      refine v_i2s C dX12_narrow_18 ?_
      refine v_i2l C dX12_narrow_19 ?_
      refine v_goto C 54 dX12_narrow_20 rfl ?_
      obtain rfl := Option.some.inj E
      exact v_lret C rfl dX12_narrow_54
    · refine v_iload_n C 1 dX12_narrow_23 rfl ?_
      refine v_iconst C dX12_narrow_24 k_iconst_2 ?_
      refine v_icmp_ne C 34 E dX12_narrow_25 rfl (fun c3 E => ?_) (fun c3 E => ?_)
      · refine v_lload_n C 2 dX12_narrow_28 rfl ?_
        refine v_l2i C dX12_narrow_29 ?_
        refine v_i2l C dX12_narrow_30 ?_
        refine v_goto C 54 dX12_narrow_31 rfl ?_
        obtain rfl := Option.some.inj E
        exact v_lret C rfl dX12_narrow_54
      · refine v_iload_n C 1 dX12_narrow_34 rfl ?_
        refine v_iconst C dX12_narrow_35 k_iconst_4 ?_
        refine v_icmp_ne C 53 E dX12_narrow_36 rfl (fun c2 E => ?_) (fun c2 E => ?_)
        · refine v_lload_n C 2 dX12_narrow_39 rfl ?_
          refine v_lconst (v := 0) C dX12_narrow_40 (by decide) ?_
          refine v_lcmp C dX12_narrow_41 ?_
          refine v_if_eq C 49 E dX12_narrow_42 rfl (fun c1 E => ?_) (fun c1 E => ?_)
          · refine v_lconst (v := 0) C dX12_narrow_49 (by decide) ?_
            refine v_goto C 54 dX12_narrow_50 rfl ?_
            obtain rfl := Option.some.inj E
            exact v_lret C rfl dX12_narrow_54
          · refine v_lconst (v := 1) C dX12_narrow_45 (by decide) ?_
            refine v_goto C 54 dX12_narrow_46 rfl ?_
            obtain rfl := Option.some.inj E
            exact v_lret C rfl dX12_narrow_54
        · refine v_lload_n C 2 dX12_narrow_53 rfl ?_
          obtain rfl := Option.some.inj E
          exact v_lret C rfl dX12_narrow_54
set_option maxHeartbeats 4000000 in
theorem c_X12_narrow {n : Nat} {K : Sh} {I : Im} {J : Jm} {R : Rf} {o : Nat} {x1 : Int32} {x2 : Int64} (ho : (K o).1 = 13) {res : Int64} (E : f_X12_narrow o x1 x2 = some res) : Met l yX12_narrow (Cond.code yX12_narrow cX12_narrow 4 (some .long) :: tb) rX12_narrow (PX D cA bs Z [.ref o, .int x1, .long x2] K n I J R) (QX D cA bs Z (some (.long res)) K n I J R) 0 0 (fun q => bs ≤ q) := by
  refine met_of (lv1 := [(0, va_rf (some o)), (1, .int x1), (2, .long x2)]) pn_X12 (by exact Nat.le_of_ble_eq_true rfl) (by rfl) ?_
  intro p e s m args below meth c C hn
  exact v_sub [0, 1, 2] [(0, va_rf (some o)), (1, .int x1), (2, .long x2)] rfl (w_X12_narrow_0 C ho _ _ _ E)
set_option maxHeartbeats 4000000 in
theorem w_X12_item_0 (C : Cx D cA bs Z p s m args meth c cX12_item RX12 5 (some .int)) {o : Nat} {K : Sh} {n : Nat} {I : Im} {R : Rf} (ho : (K o).1 = 13) (res : Int32 × Jm) (x1 : Int32) (x2 : Int32) (x3 : Int64) (J : Jm) (E : f_X12_item K I R o x1 x2 x3 J = some res) : VW D cA bs Z p l e rX12_item s m args below meth c 5 [(0, va_rf (some o)), (1, .int x1), (2, .int x2), (3, .long x3)] K n I J R 0 0 (MQ below (QX D cA bs Z (some (.int res.1)) K n I res.2 R) args s 0 0 (fun q => bs ≤ q)) 0 [] := by
  unfold f_X12_item at E
  refine v_aload_n (r := (some o)) C 0 dX12_item_0 rfl ?_
  refine v_iload_n C 1 dX12_item_1 rfl ?_
  obtain ⟨q1, h2, E⟩ := bnd E
  refine v_callV (r := (some o)) (As := [.int x1]) (rv := (some (.int q1))) (st := []) (st1 := [.int q1]) (ce1 := 0) (sl1 := 0) C cv_X12_388 (c_X12_isTape (x1 := x1) ho h2) rfl ho rfl rfl ⟨rfl, rfl, Nat.le_of_ble_eq_true rfl, Nat.le_of_ble_eq_true rfl⟩ ⟨Nat.le_of_ble_eq_true rfl, Nat.le_of_ble_eq_true rfl⟩ (Nat.le_of_ble_eq_true rfl) rfl rfl rfl dX12_item_2 ?_
  refine v_if_ne C 10 E dX12_item_5 rfl (fun c13 E => ?_) (fun c13 E => ?_)
  · refine v_iconst C dX12_item_8 k_iconst_m1 ?_
    obtain rfl := Option.some.inj E
    exact v_iret C rfl dX12_item_9
  · refine v_aload_n (r := (some o)) C 0 dX12_item_10 rfl ?_
    refine v_getR (r := (some o)) C fa_X12_220 rfl rfl ho dX12_item_11 ?_
    refine v_iload_n C 1 dX12_item_14 rfl ?_
    refine v_iald (r := (R o 69)) C E dX12_item_15 (fun v3 _ E => ?_)
    refine v_if_ge C 22 E dX12_item_16 rfl (fun c12 E => ?_) (fun c12 E => ?_)
    · refine v_aload_n (r := (some o)) C 0 dX12_item_22 rfl ?_
      refine v_iload_n C 2 dX12_item_23 rfl ?_
      refine v_iconst C dX12_item_24 k_iconst_0 ?_
      refine v_aload_n (r := (some o)) C 0 dX12_item_25 rfl ?_
      refine v_getR (r := (some o)) C fa_X12_223 rfl rfl ho dX12_item_26 ?_
      refine v_iload_n C 1 dX12_item_29 rfl ?_
      refine v_iald (r := (R o 70)) C E dX12_item_30 (fun v4 _ E => ?_)
      refine v_iconst C dX12_item_31 k_iconst_1 ?_
      refine v_isub C dX12_item_32 ?_
      obtain ⟨q5, h6, E⟩ := bnd E
      refine v_callV (r := (some o)) (As := [.int x2, .int 0, .int (v4 - 1)]) (rv := (some (.int q5))) (st := []) (st1 := [.int q5]) (ce1 := 0) (sl1 := 0) C cv_X12_233 (c_X12_in (x1 := x2) (x2 := 0) (x3 := (v4 - 1)) ho h6) rfl ho rfl rfl ⟨rfl, rfl, Nat.le_of_ble_eq_true rfl, Nat.le_of_ble_eq_true rfl⟩ ⟨Nat.le_of_ble_eq_true rfl, Nat.le_of_ble_eq_true rfl⟩ (Nat.le_of_ble_eq_true rfl) rfl rfl rfl dX12_item_33 ?_
      refine v_if_ne C 42 E dX12_item_36 rfl (fun c11 E => ?_) (fun c11 E => ?_)
      · refine v_bipush C dX12_item_39 k_bipush_m13 ?_
        obtain rfl := Option.some.inj E
        exact v_iret C rfl dX12_item_41
      · refine v_aload_n (r := (some o)) C 0 dX12_item_42 rfl ?_
        refine v_getR (r := (some o)) C fa_X12_226 rfl rfl ho dX12_item_43 ?_
        refine v_bipush C dX12_item_46 k_bipush_60 ?_
        refine v_iload_n C 1 dX12_item_48 rfl ?_
        refine v_imul C dX12_item_49 ?_
        refine v_iload_n C 2 dX12_item_50 rfl ?_
        refine v_iadd C dX12_item_51 ?_
        refine v_aload_n (r := (some o)) C 0 dX12_item_52 rfl ?_
        refine v_aload_n (r := (some o)) C 0 dX12_item_53 rfl ?_
        refine v_getR (r := (some o)) C fa_X12_220 rfl rfl ho dX12_item_54 ?_
        refine v_iload_n C 1 dX12_item_57 rfl ?_
        refine v_iald (r := (R o 69)) C E dX12_item_58 (fun v7 _ E => ?_)
        refine v_lload_n C 3 dX12_item_59 rfl ?_
        obtain ⟨q8, h9, E⟩ := bnd E
        refine v_callV (r := (some o)) (As := [.int v7, .long x3]) (rv := (some (.long q8))) (st := [.int ((60 * x1) + x2), va_rf (R o 71)]) (st1 := [.long q8, .int ((60 * x1) + x2), va_rf (R o 71)]) (ce1 := 0) (sl1 := 0) C cv_X12_424 (c_X12_narrow (x1 := v7) (x2 := x3) ho h9) rfl ho rfl rfl ⟨rfl, rfl, Nat.le_of_ble_eq_true rfl, Nat.le_of_ble_eq_true rfl⟩ ⟨Nat.le_of_ble_eq_true rfl, Nat.le_of_ble_eq_true rfl⟩ (by simp only [List.map_cons, List.map_nil, List.sum_cons, List.sum_nil, rf_cat]; exact Nat.le_of_ble_eq_true rfl) rfl rfl rfl dX12_item_60 ?_
        refine v_last (r := (R o 71)) C E dX12_item_63 (fun J10 _ E => ?_)
        refine v_iconst C dX12_item_64 k_iconst_1 ?_
        obtain rfl := Option.some.inj E
        exact v_iret C rfl dX12_item_65
    · refine v_bipush C dX12_item_19 k_bipush_m11 ?_
      obtain rfl := Option.some.inj E
      exact v_iret C rfl dX12_item_21
set_option maxHeartbeats 4000000 in
theorem c_X12_item {n : Nat} {K : Sh} {I : Im} {J : Jm} {R : Rf} {o : Nat} {x1 : Int32} {x2 : Int32} {x3 : Int64} (ho : (K o).1 = 13) {res : Int32 × Jm} (E : f_X12_item K I R o x1 x2 x3 J = some res) : Met l yX12_item (Cond.code yX12_item cX12_item 5 (some .int) :: tb) rX12_item (PX D cA bs Z [.ref o, .int x1, .int x2, .long x3] K n I J R) (QX D cA bs Z (some (.int res.1)) K n I res.2 R) 0 0 (fun q => bs ≤ q) := by
  refine met_of (lv1 := [(0, va_rf (some o)), (1, .int x1), (2, .int x2), (3, .long x3)]) pn_X12 (by exact Nat.le_of_ble_eq_true rfl) (by rfl) ?_
  intro p e s m args below meth c C hn
  exact v_sub [0, 1, 2, 3] [(0, va_rf (some o)), (1, .int x1), (2, .int x2), (3, .long x3)] rfl (w_X12_item_0 C ho _ _ _ _ _ E)
set_option maxHeartbeats 4000000 in
theorem w_X12_read_0 (C : Cx D cA bs Z p s m args meth c cX12_read RX12 3 (some .long)) {o : Nat} {K : Sh} {n : Nat} {I : Im} {J : Jm} {R : Rf} (ho : (K o).1 = 13) (res : Int64) (x1 : Int32) (x2 : Int32) (E : f_X12_read K I J R o x1 x2 = some res) : VW D cA bs Z p l e rX12_read s m args below meth c 3 [(0, va_rf (some o)), (1, .int x1), (2, .int x2)] K n I J R 0 0 (MQ below (QX D cA bs Z (some (.long res)) K n I J R) args s 0 0 (fun q => bs ≤ q)) 0 [] := by
  unfold f_X12_read at E
  refine v_aload_n (r := (some o)) C 0 dX12_read_0 rfl ?_
  refine v_iload_n C 1 dX12_read_1 rfl ?_
  obtain ⟨q1, h2, E⟩ := bnd E
  refine v_callV (r := (some o)) (As := [.int x1]) (rv := (some (.int q1))) (st := []) (st1 := [.int q1]) (ce1 := 0) (sl1 := 0) C cv_X12_388 (c_X12_isTape (x1 := x1) ho h2) rfl ho rfl rfl ⟨rfl, rfl, Nat.le_of_ble_eq_true rfl, Nat.le_of_ble_eq_true rfl⟩ ⟨Nat.le_of_ble_eq_true rfl, Nat.le_of_ble_eq_true rfl⟩ (Nat.le_of_ble_eq_true rfl) rfl rfl rfl dX12_read_2 ?_
  refine v_if_eq C 34 E dX12_read_5 rfl (fun c10 E => ?_) (fun c10 E => ?_)
  · refine v_ldc2 C ct_X12_377 dX12_read_34 ?_
    refine v_goto C 51 dX12_read_37 rfl ?_
    obtain rfl := Option.some.inj E
    exact v_lret C rfl dX12_read_51
  · refine v_aload_n (r := (some o)) C 0 dX12_read_8 rfl ?_
    refine v_getR (r := (some o)) C fa_X12_220 rfl rfl ho dX12_read_9 ?_
    refine v_iload_n C 1 dX12_read_12 rfl ?_
    refine v_iald (r := (R o 69)) C E dX12_read_13 (fun v3 _ E => ?_)
    refine v_if_lt C 34 E dX12_read_14 rfl (fun c9 E => ?_) (fun c9 E => ?_)
    · refine v_ldc2 C ct_X12_377 dX12_read_34 ?_
      refine v_goto C 51 dX12_read_37 rfl ?_
      obtain rfl := Option.some.inj E
      exact v_lret C rfl dX12_read_51
    · refine v_aload_n (r := (some o)) C 0 dX12_read_17 rfl ?_
      refine v_iload_n C 2 dX12_read_18 rfl ?_
      refine v_iconst C dX12_read_19 k_iconst_0 ?_
      refine v_aload_n (r := (some o)) C 0 dX12_read_20 rfl ?_
      refine v_getR (r := (some o)) C fa_X12_223 rfl rfl ho dX12_read_21 ?_
      refine v_iload_n C 1 dX12_read_24 rfl ?_
      refine v_iald (r := (R o 70)) C E dX12_read_25 (fun v4 _ E => ?_)
      refine v_iconst C dX12_read_26 k_iconst_1 ?_
      refine v_isub C dX12_read_27 ?_
      obtain ⟨q5, h6, E⟩ := bnd E
      refine v_callV (r := (some o)) (As := [.int x2, .int 0, .int (v4 - 1)]) (rv := (some (.int q5))) (st := []) (st1 := [.int q5]) (ce1 := 0) (sl1 := 0) C cv_X12_233 (c_X12_in (x1 := x2) (x2 := 0) (x3 := (v4 - 1)) ho h6) rfl ho rfl rfl ⟨rfl, rfl, Nat.le_of_ble_eq_true rfl, Nat.le_of_ble_eq_true rfl⟩ ⟨Nat.le_of_ble_eq_true rfl, Nat.le_of_ble_eq_true rfl⟩ (Nat.le_of_ble_eq_true rfl) rfl rfl rfl dX12_read_28 ?_
      refine v_if_ne C 40 E dX12_read_31 rfl (fun c8 E => ?_) (fun c8 E => ?_)
      · refine v_ldc2 C ct_X12_377 dX12_read_34 ?_
        refine v_goto C 51 dX12_read_37 rfl ?_
        obtain rfl := Option.some.inj E
        exact v_lret C rfl dX12_read_51
      · refine v_aload_n (r := (some o)) C 0 dX12_read_40 rfl ?_
        refine v_getR (r := (some o)) C fa_X12_226 rfl rfl ho dX12_read_41 ?_
        refine v_bipush C dX12_read_44 k_bipush_60 ?_
        refine v_iload_n C 1 dX12_read_46 rfl ?_
        refine v_imul C dX12_read_47 ?_
        refine v_iload_n C 2 dX12_read_48 rfl ?_
        refine v_iadd C dX12_read_49 ?_
        refine v_lald (r := (R o 71)) C E dX12_read_50 (fun v7 _ E => ?_)
        obtain rfl := Option.some.inj E
        exact v_lret C rfl dX12_read_51
set_option maxHeartbeats 4000000 in
theorem c_X12_read {n : Nat} {K : Sh} {I : Im} {J : Jm} {R : Rf} {o : Nat} {x1 : Int32} {x2 : Int32} (ho : (K o).1 = 13) {res : Int64} (E : f_X12_read K I J R o x1 x2 = some res) : Met l yX12_read (Cond.code yX12_read cX12_read 3 (some .long) :: tb) rX12_read (PX D cA bs Z [.ref o, .int x1, .int x2] K n I J R) (QX D cA bs Z (some (.long res)) K n I J R) 0 0 (fun q => bs ≤ q) := by
  refine met_of (lv1 := [(0, va_rf (some o)), (1, .int x1), (2, .int x2)]) pn_X12 (by exact Nat.le_of_ble_eq_true rfl) (by rfl) ?_
  intro p e s m args below meth c C hn
  exact v_sub [0, 1, 2] [(0, va_rf (some o)), (1, .int x1), (2, .int x2)] rfl (w_X12_read_0 C ho _ _ _ E)
set_option maxHeartbeats 4000000 in
theorem w_X12_shift_141 (C : Cx D cA bs Z p s m args meth c cX12_shift RX12 7 (some .int)) {o : Nat} {K : Sh} {n : Nat} {I : Im} {R : Rf} (ho : (K o).1 = 13) (res : Int32 × Jm)  : ∀ (k : Nat), ∀ (x3 : Int32) (x4 : Int32) (x5 : Int32) (x6 : Int32) (J : Jm), f_X12_shift_141 K I R o k x3 x4 x5 x6 J = some res → VW D cA bs Z p l e rX12_shift s m args below meth c 7 [(0, va_rf (some o)), (3, .int x3), (4, .int x4), (5, .int x5), (6, .int x6)] K n I J R 0 0 (MQ below (QX D cA bs Z (some (.int res.1)) K n I res.2 R) args s 0 0 (fun q => bs ≤ q)) 141 [] := by
  intro k
  induction k with
  | zero =>
    intro x3 x4 x5 x6 J E
    have E : (none : Option (Int32 × Jm)) = some res := E
    cases E
  | succ k ih =>
    intro x3 x4 x5 x6 J E
    unfold f_X12_shift_141 at E
    refine v_iload C 4 dX12_shift_141 rfl ?_
    refine v_iload C 3 dX12_shift_143 rfl ?_
    refine v_icmp_ge C 176 E dX12_shift_145 rfl (fun c3 E => ?_) (fun c3 E => ?_)
    · refine v_iload C 3 dX12_shift_176 rfl ?_
      obtain rfl := Option.some.inj E
      exact v_iret C rfl dX12_shift_178
    · refine v_aload_n (r := (some o)) C 0 dX12_shift_148 rfl ?_
      refine v_getR (r := (some o)) C fa_X12_226 rfl rfl ho dX12_shift_149 ?_
      refine v_bipush C dX12_shift_152 k_bipush_60 ?_
      refine v_iload_n C 1 dX12_shift_154 rfl ?_
      refine v_imul C dX12_shift_155 ?_
      refine v_iload C 2 dX12_shift_156 rfl ?_
      refine v_iadd C dX12_shift_158 ?_
      refine v_iload C 4 dX12_shift_159 rfl ?_
      refine v_iadd C dX12_shift_161 ?_
      refine v_aload_n (r := (some o)) C 0 dX12_shift_162 rfl ?_
      refine v_getR (r := (some o)) C fa_X12_230 rfl rfl ho dX12_shift_163 ?_
      refine v_iload C 4 dX12_shift_166 rfl ?_
      refine v_lald (r := (R o 72)) C E dX12_shift_168 (fun v1 _ E => ?_)
      refine v_last (r := (R o 71)) C E dX12_shift_169 (fun J2 _ E => ?_)
      refine v_iinc (v := x6 + 1) C 4 [(6, .int (x6 + 1)), (0, va_rf (some o)), (3, .int x3), (4, .int x4), (5, .int x5)] dX12_shift_170 rfl (k_inc_1 _) (Nat.le_of_ble_eq_true rfl) rfl ?_
      refine v_goto C 141 dX12_shift_173 rfl ?_
      exact v_sub [1, 2, 3, 4, 0] [(0, va_rf (some o)), (3, .int x3), (4, .int x4), (5, .int x5), (6, .int (x6 + 1))] rfl (ih _ _ _ _ _ E)
set_option maxHeartbeats 4000000 in
theorem w_X12_shift_104 (C : Cx D cA bs Z p s m args meth c cX12_shift RX12 7 (some .int)) {o : Nat} {K : Sh} {n : Nat} {I : Im} {R : Rf} (ho : (K o).1 = 13) (res : Int32 × Jm)  : ∀ (k : Nat), ∀ (x1 : Int32) (x2 : Int32) (x3 : Int32) (x4 : Int32) (x5 : Int32) (x6 : Int32) (J : Jm), f_X12_shift_104 K I R o k x1 x2 x3 x4 x5 x6 J = some res → VW D cA bs Z p l e rX12_shift s m args below meth c 7 [(0, va_rf (some o)), (1, .int x1), (2, .int x2), (3, .int x3), (4, .int x4), (5, .int x5), (6, .int x6)] K n I J R 0 0 (MQ below (QX D cA bs Z (some (.int res.1)) K n I res.2 R) args s 0 0 (fun q => bs ≤ q)) 104 [] := by
  intro k
  induction k with
  | zero =>
    intro x1 x2 x3 x4 x5 x6 J E
    have E : (none : Option (Int32 × Jm)) = some res := E
    cases E
  | succ k ih =>
    intro x1 x2 x3 x4 x5 x6 J E
    unfold f_X12_shift_104 at E
    refine v_iload C 6 dX12_shift_104 rfl ?_
    refine v_iload C 5 dX12_shift_106 rfl ?_
    refine v_icmp_ge C 138 E dX12_shift_108 rfl (fun c6 E => ?_) (fun c6 E => ?_)
    · refine v_iconst C dX12_shift_138 k_iconst_0 ?_
      refine v_istore C [(6, .int 0), (0, va_rf (some o)), (1, .int x1), (2, .int x2), (3, .int x3), (4, .int x4), (5, .int x5)] dX12_shift_139 (Nat.le_of_ble_eq_true rfl) rfl ?_
      exact v_sub [1, 4, 5, 6, 0] [(0, va_rf (some o)), (3, .int x3), (4, .int x4), (5, .int x5), (6, .int 0)] rfl (w_X12_shift_141 C ho res  _ _ _ _ _ _ E)
    · refine v_aload_n (r := (some o)) C 0 dX12_shift_111 rfl ?_
      refine v_getR (r := (some o)) C fa_X12_230 rfl rfl ho dX12_shift_112 ?_
      refine v_iload C 6 dX12_shift_115 rfl ?_
      refine v_aload_n (r := (some o)) C 0 dX12_shift_117 rfl ?_
      refine v_getR (r := (some o)) C fa_X12_226 rfl rfl ho dX12_shift_118 ?_
      refine v_bipush C dX12_shift_121 k_bipush_60 ?_
      refine v_iload_n C 1 dX12_shift_123 rfl ?_
      refine v_imul C dX12_shift_124 ?_
      refine v_iload_n C 2 dX12_shift_125 rfl ?_
      refine v_iadd C dX12_shift_126 ?_
      refine v_iload C 6 dX12_shift_127 rfl ?_
      refine v_iadd C dX12_shift_129 ?_
      refine v_lald (r := (R o 71)) C E dX12_shift_130 (fun v4 _ E => ?_)
      refine v_last (r := (R o 72)) C E dX12_shift_131 (fun J5 _ E => ?_)
      refine v_iinc (v := x6 + 1) C 6 [(6, .int (x6 + 1)), (0, va_rf (some o)), (1, .int x1), (2, .int x2), (3, .int x3), (4, .int x4), (5, .int x5)] dX12_shift_132 rfl (k_inc_1 _) (Nat.le_of_ble_eq_true rfl) rfl ?_
      refine v_goto C 104 dX12_shift_135 rfl ?_
      exact v_sub [1, 2, 3, 4, 5, 6, 0] [(0, va_rf (some o)), (1, .int x1), (2, .int x2), (3, .int x3), (4, .int x4), (5, .int x5), (6, .int (x6 + 1))] rfl (ih _ _ _ _ _ _ _ E)
set_option maxHeartbeats 4000000 in
theorem w_X12_shift_0 (C : Cx D cA bs Z p s m args meth c cX12_shift RX12 7 (some .int)) {o : Nat} {K : Sh} {n : Nat} {I : Im} {R : Rf} (ho : (K o).1 = 13) (res : Int32 × Jm) (x1 : Int32) (x2 : Int32) (x3 : Int32) (x4 : Int32) (x5 : Int32) (J : Jm) (E : f_X12_shift K I R o x1 x2 x3 x4 x5 J = some res) : VW D cA bs Z p l e rX12_shift s m args below meth c 7 [(0, va_rf (some o)), (1, .int x1), (2, .int x2), (3, .int x3), (4, .int x4), (5, .int x5)] K n I J R 0 0 (MQ below (QX D cA bs Z (some (.int res.1)) K n I res.2 R) args s 0 0 (fun q => bs ≤ q)) 0 [] := by
  unfold f_X12_shift at E
  refine v_aload_n (r := (some o)) C 0 dX12_shift_0 rfl ?_
  refine v_iload_n C 1 dX12_shift_1 rfl ?_
  obtain ⟨q7, h8, E⟩ := bnd E
  refine v_callV (r := (some o)) (As := [.int x1]) (rv := (some (.int q7))) (st := []) (st1 := [.int q7]) (ce1 := 0) (sl1 := 0) C cv_X12_388 (c_X12_isTape (x1 := x1) ho h8) rfl ho rfl rfl ⟨rfl, rfl, Nat.le_of_ble_eq_true rfl, Nat.le_of_ble_eq_true rfl⟩ ⟨Nat.le_of_ble_eq_true rfl, Nat.le_of_ble_eq_true rfl⟩ (Nat.le_of_ble_eq_true rfl) rfl rfl rfl dX12_shift_2 ?_
  refine v_if_eq C 16 E dX12_shift_5 rfl (fun c26 E => ?_) (fun c26 E => ?_)
  · refine v_iconst C dX12_shift_16 k_iconst_m1 ?_
    obtain rfl := Option.some.inj E
    exact v_iret C rfl dX12_shift_17
  · refine v_aload_n (r := (some o)) C 0 dX12_shift_8 rfl ?_
    refine v_iload_n C 3 dX12_shift_9 rfl ?_
    obtain ⟨q9, h10, E⟩ := bnd E
    refine v_callV (r := (some o)) (As := [.int x3]) (rv := (some (.int q9))) (st := []) (st1 := [.int q9]) (ce1 := 0) (sl1 := 0) C cv_X12_388 (c_X12_isTape (x1 := x3) ho h10) rfl ho rfl rfl ⟨rfl, rfl, Nat.le_of_ble_eq_true rfl, Nat.le_of_ble_eq_true rfl⟩ ⟨Nat.le_of_ble_eq_true rfl, Nat.le_of_ble_eq_true rfl⟩ (Nat.le_of_ble_eq_true rfl) rfl rfl rfl dX12_shift_10 ?_
    refine v_if_ne C 18 E dX12_shift_13 rfl (fun c25 E => ?_) (fun c25 E => ?_)
    · refine v_iconst C dX12_shift_16 k_iconst_m1 ?_
      obtain rfl := Option.some.inj E
      exact v_iret C rfl dX12_shift_17
    · refine v_aload_n (r := (some o)) C 0 dX12_shift_18 rfl ?_
      refine v_getR (r := (some o)) C fa_X12_220 rfl rfl ho dX12_shift_19 ?_
      refine v_iload_n C 1 dX12_shift_22 rfl ?_
      refine v_iald (r := (R o 69)) C E dX12_shift_23 (fun v11 _ E => ?_)
      refine v_if_lt C 36 E dX12_shift_24 rfl (fun c24 E => ?_) (fun c24 E => ?_)
      · refine v_bipush C dX12_shift_36 k_bipush_m11 ?_
        obtain rfl := Option.some.inj E
        exact v_iret C rfl dX12_shift_38
      · refine v_aload_n (r := (some o)) C 0 dX12_shift_27 rfl ?_
        refine v_getR (r := (some o)) C fa_X12_220 rfl rfl ho dX12_shift_28 ?_
        refine v_iload_n C 3 dX12_shift_31 rfl ?_
        refine v_iald (r := (R o 69)) C E dX12_shift_32 (fun v12 _ E => ?_)
        refine v_if_ge C 39 E dX12_shift_33 rfl (fun c23 E => ?_) (fun c23 E => ?_)
        · refine v_aload_n (r := (some o)) C 0 dX12_shift_39 rfl ?_
          refine v_getR (r := (some o)) C fa_X12_220 rfl rfl ho dX12_shift_40 ?_
          refine v_iload_n C 1 dX12_shift_43 rfl ?_
          refine v_iald (r := (R o 69)) C E dX12_shift_44 (fun v13 _ E => ?_)
          refine v_aload_n (r := (some o)) C 0 dX12_shift_45 rfl ?_
          refine v_getR (r := (some o)) C fa_X12_220 rfl rfl ho dX12_shift_46 ?_
          refine v_iload_n C 3 dX12_shift_49 rfl ?_
          refine v_iald (r := (R o 69)) C E dX12_shift_50 (fun v14 _ E => ?_)
          refine v_icmp_eq C 57 E dX12_shift_51 rfl (fun c22 E => ?_) (fun c22 E => ?_)
          · refine v_iload C 5 dX12_shift_57 rfl ?_
            refine v_if_lt C 98 E dX12_shift_59 rfl (fun c21 E => ?_) (fun c21 E => ?_)
            · refine v_bipush C dX12_shift_98 k_bipush_m13 ?_
              obtain rfl := Option.some.inj E
              exact v_iret C rfl dX12_shift_100
            · refine v_iload_n C 2 dX12_shift_62 rfl ?_
              refine v_if_lt C 98 E dX12_shift_63 rfl (fun c20 E => ?_) (fun c20 E => ?_)
              · refine v_bipush C dX12_shift_98 k_bipush_m13 ?_
                obtain rfl := Option.some.inj E
                exact v_iret C rfl dX12_shift_100
              · refine v_iload C 4 dX12_shift_66 rfl ?_
                refine v_if_lt C 98 E dX12_shift_68 rfl (fun c19 E => ?_) (fun c19 E => ?_)
                · refine v_bipush C dX12_shift_98 k_bipush_m13 ?_
                  obtain rfl := Option.some.inj E
                  exact v_iret C rfl dX12_shift_100
                · refine v_iload_n C 2 dX12_shift_71 rfl ?_
                  refine v_aload_n (r := (some o)) C 0 dX12_shift_72 rfl ?_
                  refine v_getR (r := (some o)) C fa_X12_223 rfl rfl ho dX12_shift_73 ?_
                  refine v_iload_n C 1 dX12_shift_76 rfl ?_
                  refine v_iald (r := (R o 70)) C E dX12_shift_77 (fun v15 _ E => ?_)
                  refine v_iload C 5 dX12_shift_78 rfl ?_
                  refine v_isub C dX12_shift_80 ?_
                  refine v_icmp_gt C 98 E dX12_shift_81 rfl (fun c18 E => ?_) (fun c18 E => ?_)
                  · refine v_bipush C dX12_shift_98 k_bipush_m13 ?_
                    obtain rfl := Option.some.inj E
                    exact v_iret C rfl dX12_shift_100
                  · refine v_iload C 4 dX12_shift_84 rfl ?_
                    refine v_aload_n (r := (some o)) C 0 dX12_shift_86 rfl ?_
                    refine v_getR (r := (some o)) C fa_X12_223 rfl rfl ho dX12_shift_87 ?_
                    refine v_iload_n C 3 dX12_shift_90 rfl ?_
                    refine v_iald (r := (R o 70)) C E dX12_shift_91 (fun v16 _ E => ?_)
                    refine v_iload C 5 dX12_shift_92 rfl ?_
                    refine v_isub C dX12_shift_94 ?_
                    refine v_icmp_le C 101 E dX12_shift_95 rfl (fun c17 E => ?_) (fun c17 E => ?_)
                    · refine v_iconst C dX12_shift_101 k_iconst_0 ?_
                      refine v_istore C [(6, .int 0), (0, va_rf (some o)), (1, .int x1), (2, .int x2), (3, .int x3), (4, .int x4), (5, .int x5)] dX12_shift_102 (Nat.le_of_ble_eq_true rfl) rfl ?_
                      exact v_sub [1, 2, 3, 4, 5, 6, 0] [(0, va_rf (some o)), (1, .int x1), (2, .int x2), (3, .int x3), (4, .int x4), (5, .int x5), (6, .int 0)] rfl (w_X12_shift_104 C ho res  _ _ _ _ _ _ _ _ E)
                    · refine v_bipush C dX12_shift_98 k_bipush_m13 ?_
                      obtain rfl := Option.some.inj E
                      exact v_iret C rfl dX12_shift_100
          · refine v_bipush C dX12_shift_54 k_bipush_m12 ?_
            obtain rfl := Option.some.inj E
            exact v_iret C rfl dX12_shift_56
        · refine v_bipush C dX12_shift_36 k_bipush_m11 ?_
          obtain rfl := Option.some.inj E
          exact v_iret C rfl dX12_shift_38
set_option maxHeartbeats 4000000 in
theorem c_X12_shift {n : Nat} {K : Sh} {I : Im} {J : Jm} {R : Rf} {o : Nat} {x1 : Int32} {x2 : Int32} {x3 : Int32} {x4 : Int32} {x5 : Int32} (ho : (K o).1 = 13) {res : Int32 × Jm} (E : f_X12_shift K I R o x1 x2 x3 x4 x5 J = some res) : Met l yX12_shift (Cond.code yX12_shift cX12_shift 7 (some .int) :: tb) rX12_shift (PX D cA bs Z [.ref o, .int x1, .int x2, .int x3, .int x4, .int x5] K n I J R) (QX D cA bs Z (some (.int res.1)) K n I res.2 R) 0 0 (fun q => bs ≤ q) := by
  refine met_of (lv1 := [(0, va_rf (some o)), (1, .int x1), (2, .int x2), (3, .int x3), (4, .int x4), (5, .int x5)]) pn_X12 (by exact Nat.le_of_ble_eq_true rfl) (by rfl) ?_
  intro p e s m args below meth c C hn
  exact v_sub [0, 1, 2, 3, 4, 5] [(0, va_rf (some o)), (1, .int x1), (2, .int x2), (3, .int x3), (4, .int x4), (5, .int x5)] rfl (w_X12_shift_0 C ho _ _ _ _ _ _ _ E)
end WK8
