section WK7
variable {D : va_G} {cA : Nat → ClassId} {bs : Nat} {Z : Nat → Nat} {p : Program} {l : Launch} {e : Env} {s : State} {m : MethodId} {args : Array Value} {below : List Frame} {meth : Method} {c : Code}
set_option maxHeartbeats 4000000 in
theorem w_X12_go_78 (C : Cx D cA bs Z p s m args meth c cX12_go RX12 6 none) {o : Nat} {K : Sh} {n : Nat} {J : Jm} {R : Rf} (ho : (K o).1 = 13) (res : Im)  : ∀ (k : Nat), ∀ (x3 : Int32) (x4 : Int32) (x5 : Int32) (I : Im), f_X12_go_78 K R o k x3 x4 x5 I = some res → VW D cA bs Z p l e rX12_go s m args below meth c 6 [(0, va_rf (some o)), (3, .int x3), (4, .int x4), (5, .int x5)] K n I J R 0 0 (MQ below (QX D cA bs Z none K n res J R) args s 0 0 (fun q => bs ≤ q)) 78 [] := by
  intro k
  induction k with
  | zero =>
    intro x3 x4 x5 I E
    have E : (none : Option (Im)) = some res := E
    cases E
  | succ k ih =>
    intro x3 x4 x5 I E
    unfold f_X12_go_78 at E
    refine v_iload C 3 dX12_go_78 rfl ?_
    refine v_aload_n (r := (some o)) C 0 dX12_go_80 rfl ?_
    refine v_getI (r := (some o)) C fa_X12_75 rfl rfl ho dX12_go_81 ?_
    refine v_icmp_ge C 184 E dX12_go_84 rfl (fun c25 E => ?_) (fun c25 E => ?_)
    · refine v_aload_n (r := (some o)) C 0 dX12_go_184 rfl ?_
      refine v_aload_n (r := (some o)) C 0 dX12_go_185 rfl ?_
      refine v_getI (r := (some o)) C fa_X12_75 rfl rfl ho dX12_go_186 ?_
      obtain ⟨q1, h2, E⟩ := bnd E
      refine v_callV (r := (some o)) (As := [.int (I o 21)]) (rv := (some (.int q1.1))) (st := []) (st1 := [.int q1.1]) (ce1 := 0) (sl1 := 0) C cv_X12_335 (c_X12_goesWay (x1 := (I o 21)) ho h2) rfl ho rfl rfl ⟨rfl, rfl, Nat.le_of_ble_eq_true rfl, Nat.le_of_ble_eq_true rfl⟩ ⟨Nat.le_of_ble_eq_true rfl, Nat.le_of_ble_eq_true rfl⟩ (Nat.le_of_ble_eq_true rfl) rfl rfl rfl dX12_go_189 ?_
      refine v_if_eq C 206 E dX12_go_192 rfl (fun c5 E => ?_) (fun c5 E => ?_)
      · refine v_aload_n (r := (some o)) C 0 dX12_go_206 rfl ?_
        refine v_aload_n (r := (some o)) C 0 dX12_go_207 rfl ?_
        refine v_getI (r := (some o)) C fa_X12_75 rfl rfl ho dX12_go_208 ?_
        refine v_putI (r := (some o)) C fa_X12_159 rfl E rfl ho ⟨rfl, rfl⟩ dX12_go_211 (fun I3 _ E => ?_)
        obtain rfl := Option.some.inj E
        exact v_vret C rfl dX12_go_214
      · refine v_aload_n (r := (some o)) C 0 dX12_go_195 rfl ?_
        refine v_aload_n (r := (some o)) C 0 dX12_go_196 rfl ?_
        refine v_getI (r := (some o)) C fa_X12_153 rfl rfl ho dX12_go_197 ?_
        refine v_putI (r := (some o)) C fa_X12_162 rfl E rfl ho ⟨rfl, rfl⟩ dX12_go_200 (fun I4 _ E => ?_)
        refine v_goto C 214 dX12_go_203 rfl ?_
        obtain rfl := Option.some.inj E
        exact v_vret C rfl dX12_go_214
    · refine v_aload_n (r := (some o)) C 0 dX12_go_87 rfl ?_
      refine v_iload C 3 dX12_go_88 rfl ?_
      obtain ⟨q6, h7, E⟩ := bnd E
      refine v_callV (r := (some o)) (As := [.int x5]) (rv := (some (.int q6.1))) (st := []) (st1 := [.int q6.1]) (ce1 := 0) (sl1 := 0) C cv_X12_335 (c_X12_goesWay (x1 := x5) ho h7) rfl ho rfl rfl ⟨rfl, rfl, Nat.le_of_ble_eq_true rfl, Nat.le_of_ble_eq_true rfl⟩ ⟨Nat.le_of_ble_eq_true rfl, Nat.le_of_ble_eq_true rfl⟩ (Nat.le_of_ble_eq_true rfl) rfl rfl rfl dX12_go_90 ?_
      refine v_if_ne C 103 E dX12_go_93 rfl (fun c24 E => ?_) (fun c24 E => ?_)
      · refine v_aload_n (r := (some o)) C 0 dX12_go_96 rfl ?_
        refine v_iload C 3 dX12_go_97 rfl ?_
        refine v_putI (r := (some o)) C fa_X12_159 rfl E rfl ho ⟨rfl, rfl⟩ dX12_go_99 (fun I23 _ E => ?_)
        obtain rfl := Option.some.inj E
        exact v_vret C rfl dX12_go_102
      · refine v_aload_n (r := (some o)) C 0 dX12_go_103 rfl ?_
        refine v_getR (r := (some o)) C fa_X12_132 rfl rfl ho dX12_go_104 ?_
        refine v_iload C 3 dX12_go_107 rfl ?_
        refine v_aload_n (r := (some o)) C 0 dX12_go_109 rfl ?_
        refine v_getI (r := (some o)) C fa_X12_156 rfl rfl ho dX12_go_110 ?_
        refine v_iast (r := (R o 40)) C E dX12_go_113 (fun I8 _ E => ?_)
        refine v_aload_n (r := (some o)) C 0 dX12_go_114 rfl ?_
        refine v_iload C 3 dX12_go_115 rfl ?_
        obtain ⟨q9, h10, E⟩ := bnd E
        refine v_callV (r := (some o)) (As := [.int x5]) (rv := (some (.int q9.1))) (st := []) (st1 := [.int q9.1]) (ce1 := 0) (sl1 := 0) C cv_X12_338 (c_X12_waitsAt (x1 := x5) ho h10) rfl ho rfl rfl ⟨rfl, rfl, Nat.le_of_ble_eq_true rfl, Nat.le_of_ble_eq_true rfl⟩ ⟨Nat.le_of_ble_eq_true rfl, Nat.le_of_ble_eq_true rfl⟩ (Nat.le_of_ble_eq_true rfl) rfl rfl rfl dX12_go_117 ?_
        refine v_if_ne C 132 E dX12_go_120 rfl (fun c22 E => ?_) (fun c22 E => ?_)
        · refine v_aload_n (r := (some o)) C 0 dX12_go_123 rfl ?_
          refine v_iload C 3 dX12_go_124 rfl ?_
          refine v_iconst C dX12_go_126 k_iconst_1 ?_
          refine v_iadd C dX12_go_127 ?_
          refine v_putI (r := (some o)) C fa_X12_159 rfl E rfl ho ⟨rfl, rfl⟩ dX12_go_128 (fun I21 _ E => ?_)
          obtain rfl := Option.some.inj E
          exact v_vret C rfl dX12_go_131
        · refine v_aload_n (r := (some o)) C 0 dX12_go_132 rfl ?_
          refine v_getR (r := (some o)) C fa_X12_129 rfl rfl ho dX12_go_133 ?_
          refine v_iload C 3 dX12_go_136 rfl ?_
          refine v_aload_n (r := (some o)) C 0 dX12_go_138 rfl ?_
          refine v_iload_n C 1 dX12_go_139 rfl ?_
          refine v_iload C 3 dX12_go_140 rfl ?_
          refine v_iload C 2 dX12_go_142 rfl ?_
          obtain ⟨q11, h12, E⟩ := bnd E
          refine v_callV (r := (some o)) (As := [.int x3, .int x5, .int x4]) (rv := (some (.int q11))) (st := [.int x5, va_rf (R o 39)]) (st1 := [.int q11, .int x5, va_rf (R o 39)]) (ce1 := 0) (sl1 := 0) C cv_X12_351 (c_X12_standOf (x1 := x3) (x2 := x5) (x3 := x4) ho h12) rfl ho rfl rfl ⟨rfl, rfl, Nat.le_of_ble_eq_true rfl, Nat.le_of_ble_eq_true rfl⟩ ⟨Nat.le_of_ble_eq_true rfl, Nat.le_of_ble_eq_true rfl⟩ (by simp only [List.map_cons, List.map_nil, List.sum_cons, List.sum_nil, rf_cat]; exact Nat.le_of_ble_eq_true rfl) rfl rfl rfl dX12_go_144 ?_
          refine v_iast (r := (R o 39)) C E dX12_go_147 (fun I13 _ E => ?_)
          refine v_aload_n (r := (some o)) C 0 dX12_go_148 rfl ?_
          refine v_aload_n (r := (some o)) C 0 dX12_go_149 rfl ?_
          refine v_getR (r := (some o)) C fa_X12_129 rfl rfl ho dX12_go_150 ?_
          refine v_iload C 3 dX12_go_153 rfl ?_
          refine v_iald (r := (R o 39)) C E dX12_go_155 (fun v14 _ E => ?_)
          obtain ⟨q15, h16, E⟩ := bnd E
          refine v_callV (r := (some o)) (As := [.int v14]) (rv := (some (.int q15.1))) (st := []) (st1 := [.int q15.1]) (ce1 := 0) (sl1 := 0) C cv_X12_332 (c_X12_standsFor (x1 := v14) ho h16) rfl ho rfl rfl ⟨rfl, rfl, Nat.le_of_ble_eq_true rfl, Nat.le_of_ble_eq_true rfl⟩ ⟨Nat.le_of_ble_eq_true rfl, Nat.le_of_ble_eq_true rfl⟩ (Nat.le_of_ble_eq_true rfl) rfl rfl rfl dX12_go_156 ?_
          refine v_if_ne C 171 E dX12_go_159 rfl (fun c20 E => ?_) (fun c20 E => ?_)
          · refine v_aload_n (r := (some o)) C 0 dX12_go_162 rfl ?_
            refine v_iload C 3 dX12_go_163 rfl ?_
            refine v_iconst C dX12_go_165 k_iconst_1 ?_
            refine v_iadd C dX12_go_166 ?_
            refine v_putI (r := (some o)) C fa_X12_159 rfl E rfl ho ⟨rfl, rfl⟩ dX12_go_167 (fun I19 _ E => ?_)
            obtain rfl := Option.some.inj E
            exact v_vret C rfl dX12_go_170
          · refine v_aload_n (r := (some o)) C 0 dX12_go_171 rfl ?_
            refine v_iload C 3 dX12_go_172 rfl ?_
            refine v_iconst C dX12_go_174 k_iconst_1 ?_
            obtain ⟨q17, h18, E⟩ := bnd E
            refine v_callV (r := (some o)) (As := [.int x5, .int 1]) (rv := none) (st := []) (st1 := []) (ce1 := 0) (sl1 := 0) C cv_X12_341 (c_X12_drawsAt (x1 := x5) (x2 := 1) ho h18) rfl ho rfl rfl ⟨rfl, rfl, Nat.le_of_ble_eq_true rfl, Nat.le_of_ble_eq_true rfl⟩ ⟨Nat.le_of_ble_eq_true rfl, Nat.le_of_ble_eq_true rfl⟩ (Nat.le_of_ble_eq_true rfl) rfl rfl rfl dX12_go_175 ?_
            refine v_iinc (v := x5 + 1) C 3 [(5, .int (x5 + 1)), (0, va_rf (some o)), (3, .int x3), (4, .int x4)] dX12_go_178 rfl (k_inc_1 _) (Nat.le_of_ble_eq_true rfl) rfl ?_
            refine v_goto C 78 dX12_go_181 rfl ?_
            exact v_sub [1, 2, 3, 0] [(0, va_rf (some o)), (3, .int x3), (4, .int x4), (5, .int (x5 + 1))] rfl (ih _ _ _ _ E)
set_option maxHeartbeats 4000000 in
theorem w_X12_go_19 (C : Cx D cA bs Z p s m args meth c cX12_go RX12 6 none) {o : Nat} {K : Sh} {n : Nat} {J : Jm} {R : Rf} (ho : (K o).1 = 13) (res : Im)  : ∀ (k : Nat), ∀ (x2 : Int32) (x3 : Int32) (x4 : Int32) (x5 : Int32) (I : Im), f_X12_go_19 K R o k x2 x3 x4 x5 I = some res → VW D cA bs Z p l e rX12_go s m args below meth c 6 [(0, va_rf (some o)), (2, .int x2), (3, .int x3), (4, .int x4), (5, .int x5)] K n I J R 0 0 (MQ below (QX D cA bs Z none K n res J R) args s 0 0 (fun q => bs ≤ q)) 19 [] := by
  intro k
  induction k with
  | zero =>
    intro x2 x3 x4 x5 I E
    have E : (none : Option (Im)) = some res := E
    cases E
  | succ k ih =>
    intro x2 x3 x4 x5 I E
    unfold f_X12_go_19 at E
    refine v_iload C 4 dX12_go_19 rfl ?_
    refine v_bipush C dX12_go_21 k_bipush_6 ?_
    refine v_icmp_ge C 50 E dX12_go_23 rfl (fun c32 E => ?_) (fun c32 E => ?_)
    · refine v_aload_n (r := (some o)) C 0 dX12_go_50 rfl ?_
      refine v_iload_n C 1 dX12_go_51 rfl ?_
      refine v_putI (r := (some o)) C fa_X12_153 rfl E rfl ho ⟨rfl, rfl⟩ dX12_go_52 (fun I26 _ E => ?_)
      refine v_aload_n (r := (some o)) C 0 dX12_go_55 rfl ?_
      refine v_aload_n (r := (some o)) C 0 dX12_go_56 rfl ?_
      refine v_getI (r := (some o)) C fa_X12_150 rfl rfl ho dX12_go_57 ?_
      refine v_putI (r := (some o)) C fa_X12_156 rfl E rfl ho ⟨rfl, rfl⟩ dX12_go_60 (fun I27 _ E => ?_)
      refine v_aload_n (r := (some o)) C 0 dX12_go_63 rfl ?_
      refine v_bipush C dX12_go_64 k_bipush_m5 ?_
      refine v_putI (r := (some o)) C fa_X12_159 rfl E rfl ho ⟨rfl, rfl⟩ dX12_go_66 (fun I28 _ E => ?_)
      refine v_aload_n (r := (some o)) C 0 dX12_go_69 rfl ?_
      refine v_bipush C dX12_go_70 k_bipush_m5 ?_
      refine v_putI (r := (some o)) C fa_X12_162 rfl E rfl ho ⟨rfl, rfl⟩ dX12_go_72 (fun I29 _ E => ?_)
      refine v_iconst C dX12_go_75 k_iconst_0 ?_
      refine v_istore C [(5, .int 0), (0, va_rf (some o)), (2, .int x2), (3, .int x3), (4, .int x4)] dX12_go_76 (Nat.le_of_ble_eq_true rfl) rfl ?_
      exact v_sub [1, 3, 4, 0] [(0, va_rf (some o)), (3, .int x3), (4, .int x4), (5, .int 0)] rfl (w_X12_go_78 C ho res  _ _ _ _ _ E)
    · refine v_aload_n (r := (some o)) C 0 dX12_go_26 rfl ?_
      refine v_getR (r := (some o)) C fa_X12_129 rfl rfl ho dX12_go_27 ?_
      refine v_iload C 4 dX12_go_30 rfl ?_
      refine v_bipush C dX12_go_32 k_bipush_m5 ?_
      refine v_iast (r := (R o 39)) C E dX12_go_34 (fun I30 _ E => ?_)
      refine v_aload_n (r := (some o)) C 0 dX12_go_35 rfl ?_
      refine v_getR (r := (some o)) C fa_X12_132 rfl rfl ho dX12_go_36 ?_
      refine v_iload C 4 dX12_go_39 rfl ?_
      refine v_bipush C dX12_go_41 k_bipush_m5 ?_
      refine v_iast (r := (R o 40)) C E dX12_go_43 (fun I31 _ E => ?_)
      refine v_iinc (v := x5 + 1) C 4 [(5, .int (x5 + 1)), (0, va_rf (some o)), (2, .int x2), (3, .int x3), (4, .int x4)] dX12_go_44 rfl (k_inc_1 _) (Nat.le_of_ble_eq_true rfl) rfl ?_
      refine v_goto C 19 dX12_go_47 rfl ?_
      exact v_sub [1, 2, 3, 4, 0] [(0, va_rf (some o)), (2, .int x2), (3, .int x3), (4, .int x4), (5, .int (x5 + 1))] rfl (ih _ _ _ _ _ E)
set_option maxHeartbeats 4000000 in
theorem w_X12_go_0 (C : Cx D cA bs Z p s m args meth c cX12_go RX12 6 none) {o : Nat} {K : Sh} {n : Nat} {J : Jm} {R : Rf} (ho : (K o).1 = 13) (res : Im) (x1 : Int32) (x2 : Int32) (x3 : Int32) (x4 : Int32) (I : Im) (E : f_X12_go K R o x1 x2 x3 x4 I = some res) : VW D cA bs Z p l e rX12_go s m args below meth c 6 [(0, va_rf (some o)), (1, .int x1), (2, .int x2), (3, .int x3), (4, .int x4)] K n I J R 0 0 (MQ below (QX D cA bs Z none K n res J R) args s 0 0 (fun q => bs ≤ q)) 0 [] := by
  unfold f_X12_go at E
  refine v_aload_n (r := (some o)) C 0 dX12_go_0 rfl ?_
  refine v_iload_n C 1 dX12_go_1 rfl ?_
  obtain ⟨q33, h34, E⟩ := bnd E
  refine v_callV (r := (some o)) (As := [.int x1]) (rv := none) (st := []) (st1 := []) (ce1 := 0) (sl1 := 0) C cv_X12_345 (c_X12_layThirst (x1 := x1) ho h34) rfl ho rfl rfl ⟨rfl, rfl, Nat.le_of_ble_eq_true rfl, Nat.le_of_ble_eq_true rfl⟩ ⟨Nat.le_of_ble_eq_true rfl, Nat.le_of_ble_eq_true rfl⟩ (Nat.le_of_ble_eq_true rfl) rfl rfl rfl dX12_go_2 ?_
  refine v_iload C 4 dX12_go_5 rfl ?_
  refine v_iconst C dX12_go_7 k_iconst_5 ?_
  refine v_icmp_ne C 16 E dX12_go_8 rfl (fun c37 E => ?_) (fun c37 E => ?_)
  · refine v_aload_n (r := (some o)) C 0 dX12_go_11 rfl ?_
    refine v_iload_n C 2 dX12_go_12 rfl ?_
    obtain ⟨q35, h36, E⟩ := bnd E
    refine v_callV (r := (some o)) (As := [.int x2]) (rv := none) (st := []) (st1 := []) (ce1 := 0) (sl1 := 0) C cv_X12_348 (c_X12_findBest (x1 := x2) ho h36) rfl ho rfl rfl ⟨rfl, rfl, Nat.le_of_ble_eq_true rfl, Nat.le_of_ble_eq_true rfl⟩ ⟨Nat.le_of_ble_eq_true rfl, Nat.le_of_ble_eq_true rfl⟩ (Nat.le_of_ble_eq_true rfl) rfl rfl rfl dX12_go_13 ?_
    refine v_iconst C dX12_go_16 k_iconst_0 ?_
    refine v_istore C [(5, .int 0), (0, va_rf (some o)), (1, .int x1), (2, .int x2), (3, .int x3), (4, .int x4)] dX12_go_17 (Nat.le_of_ble_eq_true rfl) rfl ?_
    exact v_sub [1, 3, 4, 5, 0] [(0, va_rf (some o)), (2, .int x2), (3, .int x3), (4, .int x4), (5, .int 0)] rfl (w_X12_go_19 C ho res  _ _ _ _ _ _ E)
  · refine v_iconst C dX12_go_16 k_iconst_0 ?_
    refine v_istore C [(5, .int 0), (0, va_rf (some o)), (1, .int x1), (2, .int x2), (3, .int x3), (4, .int x4)] dX12_go_17 (Nat.le_of_ble_eq_true rfl) rfl ?_
    exact v_sub [1, 3, 4, 5, 0] [(0, va_rf (some o)), (2, .int x2), (3, .int x3), (4, .int x4), (5, .int 0)] rfl (w_X12_go_19 C ho res  _ _ _ _ _ _ E)
set_option maxHeartbeats 4000000 in
theorem c_X12_go {n : Nat} {K : Sh} {I : Im} {J : Jm} {R : Rf} {o : Nat} {x1 : Int32} {x2 : Int32} {x3 : Int32} {x4 : Int32} (ho : (K o).1 = 13) {res : Im} (E : f_X12_go K R o x1 x2 x3 x4 I = some res) : Met l yX12_go (Cond.code yX12_go cX12_go 6 none :: tb) rX12_go (PX D cA bs Z [.ref o, .int x1, .int x2, .int x3, .int x4] K n I J R) (QX D cA bs Z none K n res J R) 0 0 (fun q => bs ≤ q) := by
  refine met_of (lv1 := [(0, va_rf (some o)), (1, .int x1), (2, .int x2), (3, .int x3), (4, .int x4)]) pn_X12 (by exact Nat.le_of_ble_eq_true rfl) (by rfl) ?_
  intro p e s m args below meth c C hn
  exact v_sub [0, 1, 2, 3, 4] [(0, va_rf (some o)), (1, .int x1), (2, .int x2), (3, .int x3), (4, .int x4)] rfl (w_X12_go_0 C ho _ _ _ _ _ _ E)
set_option maxHeartbeats 4000000 in
theorem w_X12_goCaravan_0 (C : Cx D cA bs Z p s m args meth c cX12_goCaravan RX12 2 none) {o : Nat} {K : Sh} {n : Nat} {J : Jm} {R : Rf} (ho : (K o).1 = 13) (res : Im) (x1 : Int32) (I : Im) (E : f_X12_goCaravan K R o x1 I = some res) : VW D cA bs Z p l e rX12_goCaravan s m args below meth c 2 [(0, va_rf (some o)), (1, .int x1)] K n I J R 0 0 (MQ below (QX D cA bs Z none K n res J R) args s 0 0 (fun q => bs ≤ q)) 0 [] := by
  unfold f_X12_goCaravan at E
  refine v_aload_n (r := (some o)) C 0 dX12_goCaravan_0 rfl ?_
  refine v_aload_n (r := (some o)) C 0 dX12_goCaravan_1 rfl ?_
  refine v_getR (r := (some o)) C fa_X12_114 rfl rfl ho dX12_goCaravan_2 ?_
  refine v_iload_n C 1 dX12_goCaravan_5 rfl ?_
  refine v_iald (r := (R o 34)) C E dX12_goCaravan_6 (fun v1 _ E => ?_)
  refine v_aload_n (r := (some o)) C 0 dX12_goCaravan_7 rfl ?_
  refine v_getR (r := (some o)) C fa_X12_117 rfl rfl ho dX12_goCaravan_8 ?_
  refine v_iload_n C 1 dX12_goCaravan_11 rfl ?_
  refine v_iald (r := (R o 35)) C E dX12_goCaravan_12 (fun v2 _ E => ?_)
  refine v_aload_n (r := (some o)) C 0 dX12_goCaravan_13 rfl ?_
  refine v_getR (r := (some o)) C fa_X12_120 rfl rfl ho dX12_goCaravan_14 ?_
  refine v_iload_n C 1 dX12_goCaravan_17 rfl ?_
  refine v_iald (r := (R o 36)) C E dX12_goCaravan_18 (fun v3 _ E => ?_)
  refine v_aload_n (r := (some o)) C 0 dX12_goCaravan_19 rfl ?_
  refine v_getR (r := (some o)) C fa_X12_102 rfl rfl ho dX12_goCaravan_20 ?_
  refine v_aload_n (r := (some o)) C 0 dX12_goCaravan_23 rfl ?_
  refine v_getR (r := (some o)) C fa_X12_120 rfl rfl ho dX12_goCaravan_24 ?_
  refine v_iload_n C 1 dX12_goCaravan_27 rfl ?_
  refine v_iald (r := (R o 36)) C E dX12_goCaravan_28 (fun v4 _ E => ?_)
  refine v_iald (r := (R o 30)) C E dX12_goCaravan_29 (fun v5 _ E => ?_)
  obtain ⟨q6, h7, E⟩ := bnd E
  refine v_callV (r := (some o)) (As := [.int v1, .int v2, .int v3, .int v5]) (rv := none) (st := []) (st1 := []) (ce1 := 0) (sl1 := 0) C cv_X12_354 (c_X12_go (x1 := v1) (x2 := v2) (x3 := v3) (x4 := v5) ho h7) rfl ho rfl rfl ⟨rfl, rfl, Nat.le_of_ble_eq_true rfl, Nat.le_of_ble_eq_true rfl⟩ ⟨Nat.le_of_ble_eq_true rfl, Nat.le_of_ble_eq_true rfl⟩ (Nat.le_of_ble_eq_true rfl) rfl rfl rfl dX12_goCaravan_30 ?_
  obtain rfl := Option.some.inj E
  exact v_vret C rfl dX12_goCaravan_33
set_option maxHeartbeats 4000000 in
theorem c_X12_goCaravan {n : Nat} {K : Sh} {I : Im} {J : Jm} {R : Rf} {o : Nat} {x1 : Int32} (ho : (K o).1 = 13) {res : Im} (E : f_X12_goCaravan K R o x1 I = some res) : Met l yX12_goCaravan (Cond.code yX12_goCaravan cX12_goCaravan 2 none :: tb) rX12_goCaravan (PX D cA bs Z [.ref o, .int x1] K n I J R) (QX D cA bs Z none K n res J R) 0 0 (fun q => bs ≤ q) := by
  refine met_of (lv1 := [(0, va_rf (some o)), (1, .int x1)]) pn_X12 (by exact Nat.le_of_ble_eq_true rfl) (by rfl) ?_
  intro p e s m args below meth c C hn
  exact v_sub [0, 1] [(0, va_rf (some o)), (1, .int x1)] rfl (w_X12_goCaravan_0 C ho _ _ _ E)
set_option maxHeartbeats 4000000 in
theorem w_X12_isAsked_0 (C : Cx D cA bs Z p s m args meth c cX12_isAsked RX12 2 (some .boolean)) {o : Nat} {K : Sh} {n : Nat} {I : Im} {J : Jm} {R : Rf} (ho : (K o).1 = 13) (res : Int32) (x1 : Int32) (E : f_X12_isAsked K o x1 = some res) : VW D cA bs Z p l e rX12_isAsked s m args below meth c 2 [(0, va_rf (some o)), (1, .int x1)] K n I J R 0 0 (MQ below (QX D cA bs Z (some (.int res)) K n I J R) args s 0 0 (fun q => bs ≤ q)) 0 [] := by
  unfold f_X12_isAsked at E
  refine v_aload_n (r := (some o)) C 0 dX12_isAsked_0 rfl ?_
  refine v_iload_n C 1 dX12_isAsked_1 rfl ?_
  refine v_iconst C dX12_isAsked_2 k_iconst_0 ?_
  refine v_iconst C dX12_isAsked_3 k_iconst_2 ?_
  obtain ⟨q1, h2, E⟩ := bnd E
  refine v_callV (r := (some o)) (As := [.int x1, .int 0, .int 2]) (rv := (some (.int q1))) (st := []) (st1 := [.int q1]) (ce1 := 0) (sl1 := 0) C cv_X12_233 (c_X12_in (x1 := x1) (x2 := 0) (x3 := 2) ho h2) rfl ho rfl rfl ⟨rfl, rfl, Nat.le_of_ble_eq_true rfl, Nat.le_of_ble_eq_true rfl⟩ ⟨Nat.le_of_ble_eq_true rfl, Nat.le_of_ble_eq_true rfl⟩ (Nat.le_of_ble_eq_true rfl) rfl rfl rfl dX12_isAsked_4 ?_
  refine v_if_ne C 34 E dX12_isAsked_7 rfl (fun c9 E => ?_) (fun c9 E => ?_)
  · refine v_aload_n (r := (some o)) C 0 dX12_isAsked_10 rfl ?_
    refine v_iload_n C 1 dX12_isAsked_11 rfl ?_
    refine v_bipush C dX12_isAsked_12 k_bipush_10 ?_
    refine v_bipush C dX12_isAsked_14 k_bipush_14 ?_
    obtain ⟨q3, h4, E⟩ := bnd E
    refine v_callV (r := (some o)) (As := [.int x1, .int 10, .int 14]) (rv := (some (.int q3))) (st := []) (st1 := [.int q3]) (ce1 := 0) (sl1 := 0) C cv_X12_233 (c_X12_in (x1 := x1) (x2 := 10) (x3 := 14) ho h4) rfl ho rfl rfl ⟨rfl, rfl, Nat.le_of_ble_eq_true rfl, Nat.le_of_ble_eq_true rfl⟩ ⟨Nat.le_of_ble_eq_true rfl, Nat.le_of_ble_eq_true rfl⟩ (Nat.le_of_ble_eq_true rfl) rfl rfl rfl dX12_isAsked_16 ?_
    refine v_if_ne C 34 E dX12_isAsked_19 rfl (fun c8 E => ?_) (fun c8 E => ?_)
    · refine v_aload_n (r := (some o)) C 0 dX12_isAsked_22 rfl ?_
      refine v_iload_n C 1 dX12_isAsked_23 rfl ?_
      refine v_bipush C dX12_isAsked_24 k_bipush_20 ?_
      refine v_bipush C dX12_isAsked_26 k_bipush_24 ?_
      obtain ⟨q5, h6, E⟩ := bnd E
      refine v_callV (r := (some o)) (As := [.int x1, .int 20, .int 24]) (rv := (some (.int q5))) (st := []) (st1 := [.int q5]) (ce1 := 0) (sl1 := 0) C cv_X12_233 (c_X12_in (x1 := x1) (x2 := 20) (x3 := 24) ho h6) rfl ho rfl rfl ⟨rfl, rfl, Nat.le_of_ble_eq_true rfl, Nat.le_of_ble_eq_true rfl⟩ ⟨Nat.le_of_ble_eq_true rfl, Nat.le_of_ble_eq_true rfl⟩ (Nat.le_of_ble_eq_true rfl) rfl rfl rfl dX12_isAsked_28 ?_
      refine v_if_eq C 38 E dX12_isAsked_31 rfl (fun c7 E => ?_) (fun c7 E => ?_)
      · refine v_iconst C dX12_isAsked_38 k_iconst_0 ?_
        obtain rfl := Option.some.inj E
        exact v_zret (v := 0) C rfl nz_0 dX12_isAsked_39
      · refine v_iconst C dX12_isAsked_34 k_iconst_1 ?_
        refine v_goto C 39 dX12_isAsked_35 rfl ?_
        obtain rfl := Option.some.inj E
        exact v_zret (v := 1) C rfl nz_1 dX12_isAsked_39
    · refine v_iconst C dX12_isAsked_34 k_iconst_1 ?_
      refine v_goto C 39 dX12_isAsked_35 rfl ?_
      obtain rfl := Option.some.inj E
      exact v_zret (v := 1) C rfl nz_1 dX12_isAsked_39
  · refine v_iconst C dX12_isAsked_34 k_iconst_1 ?_
    refine v_goto C 39 dX12_isAsked_35 rfl ?_
    obtain rfl := Option.some.inj E
    exact v_zret (v := 1) C rfl nz_1 dX12_isAsked_39
set_option maxHeartbeats 4000000 in
theorem c_X12_isAsked {n : Nat} {K : Sh} {I : Im} {J : Jm} {R : Rf} {o : Nat} {x1 : Int32} (ho : (K o).1 = 13) {res : Int32} (E : f_X12_isAsked K o x1 = some res) : Met l yX12_isAsked (Cond.code yX12_isAsked cX12_isAsked 2 (some .boolean) :: tb) rX12_isAsked (PX D cA bs Z [.ref o, .int x1] K n I J R) (QX D cA bs Z (some (.int res)) K n I J R) 0 0 (fun q => bs ≤ q) := by
  refine met_of (lv1 := [(0, va_rf (some o)), (1, .int x1)]) pn_X12 (by exact Nat.le_of_ble_eq_true rfl) (by rfl) ?_
  intro p e s m args below meth c C hn
  exact v_sub [0, 1] [(0, va_rf (some o)), (1, .int x1)] rfl (w_X12_isAsked_0 C ho _ _ E)
set_option maxHeartbeats 4000000 in
theorem w_X12_toldOf_19 (C : Cx D cA bs Z p s m args meth c cX12_toldOf RX12 3 (some .int)) {o : Nat} {K : Sh} {n : Nat} {I : Im} {J : Jm} {R : Rf} (ho : (K o).1 = 13) (res : Int32) (x1 : Int32) (x2 : Int32) (E : f_X12_toldOf_19 K I R o x1 x2 = some res) : VW D cA bs Z p l e rX12_toldOf s m args below meth c 3 [(0, va_rf (some o)), (1, .int x1), (2, .int x2)] K n I J R 0 0 (MQ below (QX D cA bs Z (some (.int res)) K n I J R) args s 0 0 (fun q => bs ≤ q)) 19 [] := by
  unfold f_X12_toldOf_19 at E
  refine v_iload_n C 2 dX12_toldOf_19 rfl ?_
  refine v_bipush C dX12_toldOf_20 k_bipush_19 ?_
  refine v_icmp_le C 35 E dX12_toldOf_22 rfl (fun c10 E => ?_) (fun c10 E => ?_)
  · refine v_iload_n C 2 dX12_toldOf_35 rfl ?_
    refine v_bipush C dX12_toldOf_36 k_bipush_9 ?_
    refine v_icmp_le C 51 E dX12_toldOf_38 rfl (fun c8 E => ?_) (fun c8 E => ?_)
    · refine v_iload_n C 2 dX12_toldOf_51 rfl ?_
      refine v_if_ne C 62 E dX12_toldOf_52 rfl (fun c6 E => ?_) (fun c6 E => ?_)
      · refine v_aload_n (r := (some o)) C 0 dX12_toldOf_55 rfl ?_
        refine v_getI (r := (some o)) C fa_X12_162 rfl rfl ho dX12_toldOf_56 ?_
        refine v_goto C 98 dX12_toldOf_59 rfl ?_
        obtain rfl := Option.some.inj E
        exact v_iret C rfl dX12_toldOf_98
      · refine v_iload_n C 2 dX12_toldOf_62 rfl ?_
        refine v_iconst C dX12_toldOf_63 k_iconst_1 ?_
        refine v_icmp_ne C 74 E dX12_toldOf_64 rfl (fun c5 E => ?_) (fun c5 E => ?_)
        · refine v_aload_n (r := (some o)) C 0 dX12_toldOf_67 rfl ?_
          refine v_getI (r := (some o)) C fa_X12_159 rfl rfl ho dX12_toldOf_68 ?_
          refine v_goto C 98 dX12_toldOf_71 rfl ?_
          obtain rfl := Option.some.inj E
          exact v_iret C rfl dX12_toldOf_98
        · refine v_aload_n (r := (some o)) C 0 dX12_toldOf_74 rfl ?_
          refine v_getI (r := (some o)) C fa_X12_162 rfl rfl ho dX12_toldOf_75 ?_
          refine v_if_ge C 85 E dX12_toldOf_78 rfl (fun c4 E => ?_) (fun c4 E => ?_)
          · refine v_aload_n (r := (some o)) C 0 dX12_toldOf_85 rfl ?_
            refine v_getR (r := (some o)) C fa_X12_114 rfl rfl ho dX12_toldOf_86 ?_
            refine v_iload_n C 1 dX12_toldOf_89 rfl ?_
            refine v_iald (r := (R o 34)) C E dX12_toldOf_90 (fun v1 _ E => ?_)
            refine v_aload_n (r := (some o)) C 0 dX12_toldOf_91 rfl ?_
            refine v_iconst C dX12_toldOf_92 k_iconst_4 ?_
            refine v_iconst C dX12_toldOf_93 k_iconst_1 ?_
            obtain ⟨q2, h3, E⟩ := bnd E
            refine v_callV (r := (some o)) (As := [.int 4, .int 1]) (rv := (some (.int q2))) (st := [.int v1]) (st1 := [.int q2, .int v1]) (ce1 := 0) (sl1 := 0) C cv_X12_316 (c_X12_last (x1 := 4) (x2 := 1) ho h3) rfl ho rfl rfl ⟨rfl, rfl, Nat.le_of_ble_eq_true rfl, Nat.le_of_ble_eq_true rfl⟩ ⟨Nat.le_of_ble_eq_true rfl, Nat.le_of_ble_eq_true rfl⟩ (Nat.le_of_ble_eq_true rfl) rfl rfl rfl dX12_toldOf_94 ?_
            refine v_imul C dX12_toldOf_97 ?_
            obtain rfl := Option.some.inj E
            exact v_iret C rfl dX12_toldOf_98
          · refine v_iconst C dX12_toldOf_81 k_iconst_0 ?_
            refine v_goto C 98 dX12_toldOf_82 rfl ?_
            obtain rfl := Option.some.inj E
            exact v_iret C rfl dX12_toldOf_98
    · refine v_aload_n (r := (some o)) C 0 dX12_toldOf_41 rfl ?_
      refine v_getR (r := (some o)) C fa_X12_129 rfl rfl ho dX12_toldOf_42 ?_
      refine v_iload_n C 2 dX12_toldOf_45 rfl ?_
      refine v_bipush C dX12_toldOf_46 k_bipush_10 ?_
      refine v_isub C dX12_toldOf_48 ?_
      refine v_iald (r := (R o 39)) C E dX12_toldOf_49 (fun v7 _ E => ?_)
      obtain rfl := Option.some.inj E
      exact v_iret C rfl dX12_toldOf_50
  · refine v_aload_n (r := (some o)) C 0 dX12_toldOf_25 rfl ?_
    refine v_getR (r := (some o)) C fa_X12_132 rfl rfl ho dX12_toldOf_26 ?_
    refine v_iload_n C 2 dX12_toldOf_29 rfl ?_
    refine v_bipush C dX12_toldOf_30 k_bipush_20 ?_
    refine v_isub C dX12_toldOf_32 ?_
    refine v_iald (r := (R o 40)) C E dX12_toldOf_33 (fun v9 _ E => ?_)
    obtain rfl := Option.some.inj E
    exact v_iret C rfl dX12_toldOf_34
set_option maxHeartbeats 4000000 in
theorem w_X12_toldOf_0 (C : Cx D cA bs Z p s m args meth c cX12_toldOf RX12 3 (some .int)) {o : Nat} {K : Sh} {n : Nat} {I : Im} {J : Jm} {R : Rf} (ho : (K o).1 = 13) (res : Int32) (x1 : Int32) (x2 : Int32) (E : f_X12_toldOf K I R o x1 x2 = some res) : VW D cA bs Z p l e rX12_toldOf s m args below meth c 3 [(0, va_rf (some o)), (1, .int x1), (2, .int x2)] K n I J R 0 0 (MQ below (QX D cA bs Z (some (.int res)) K n I J R) args s 0 0 (fun q => bs ≤ q)) 0 [] := by
  unfold f_X12_toldOf at E
  refine v_iload_n C 2 dX12_toldOf_0 rfl ?_
  refine v_bipush C dX12_toldOf_1 k_bipush_9 ?_
  refine v_icmp_le C 19 E dX12_toldOf_3 rfl (fun c12 E => ?_) (fun c12 E => ?_)
  · exact v_sub [0, 1, 2] [(0, va_rf (some o)), (1, .int x1), (2, .int x2)] rfl (w_X12_toldOf_19 C ho res  _ _ E)
  · refine v_iload_n C 2 dX12_toldOf_6 rfl ?_
    refine v_bipush C dX12_toldOf_7 k_bipush_10 ?_
    refine v_irem C dX12_toldOf_9 k_nz_10 ?_
    refine v_aload_n (r := (some o)) C 0 dX12_toldOf_10 rfl ?_
    refine v_getI (r := (some o)) C fa_X12_75 rfl rfl ho dX12_toldOf_11 ?_
    refine v_icmp_lt C 19 E dX12_toldOf_14 rfl (fun c11 E => ?_) (fun c11 E => ?_)
    · exact v_sub [0, 1, 2] [(0, va_rf (some o)), (1, .int x1), (2, .int x2)] rfl (w_X12_toldOf_19 C ho res  _ _ E)
    · refine v_iconst C dX12_toldOf_17 k_iconst_m1 ?_
      obtain rfl := Option.some.inj E
      exact v_iret C rfl dX12_toldOf_18
set_option maxHeartbeats 4000000 in
theorem c_X12_toldOf {n : Nat} {K : Sh} {I : Im} {J : Jm} {R : Rf} {o : Nat} {x1 : Int32} {x2 : Int32} (ho : (K o).1 = 13) {res : Int32} (E : f_X12_toldOf K I R o x1 x2 = some res) : Met l yX12_toldOf (Cond.code yX12_toldOf cX12_toldOf 3 (some .int) :: tb) rX12_toldOf (PX D cA bs Z [.ref o, .int x1, .int x2] K n I J R) (QX D cA bs Z (some (.int res)) K n I J R) 0 0 (fun q => bs ≤ q) := by
  refine met_of (lv1 := [(0, va_rf (some o)), (1, .int x1), (2, .int x2)]) pn_X12 (by exact Nat.le_of_ble_eq_true rfl) (by rfl) ?_
  intro p e s m args below meth c C hn
  exact v_sub [0, 1, 2] [(0, va_rf (some o)), (1, .int x1), (2, .int x2)] rfl (w_X12_toldOf_0 C ho _ _ _ E)
set_option maxHeartbeats 4000000 in
theorem w_X12_would_0 (C : Cx D cA bs Z p s m args meth c cX12_would RX12 3 (some .int)) {o : Nat} {K : Sh} {n : Nat} {J : Jm} {R : Rf} (ho : (K o).1 = 13) (res : Int32 × Im) (x1 : Int32) (x2 : Int32) (I : Im) (E : f_X12_would K R o x1 x2 I = some res) : VW D cA bs Z p l e rX12_would s m args below meth c 3 [(0, va_rf (some o)), (1, .int x1), (2, .int x2)] K n I J R 0 0 (MQ below (QX D cA bs Z (some (.int res.1)) K n res.2 J R) args s 0 0 (fun q => bs ≤ q)) 0 [] := by
  unfold f_X12_would at E
  refine v_aload_n (r := (some o)) C 0 dX12_would_0 rfl ?_
  refine v_iload_n C 1 dX12_would_1 rfl ?_
  obtain ⟨q1, h2, E⟩ := bnd E
  refine v_callV (r := (some o)) (As := [.int x1]) (rv := (some (.int q1))) (st := []) (st1 := [.int q1]) (ce1 := 0) (sl1 := 0) C cv_X12_358 (c_X12_isCaravan (x1 := x1) ho h2) rfl ho rfl rfl ⟨rfl, rfl, Nat.le_of_ble_eq_true rfl, Nat.le_of_ble_eq_true rfl⟩ ⟨Nat.le_of_ble_eq_true rfl, Nat.le_of_ble_eq_true rfl⟩ (Nat.le_of_ble_eq_true rfl) rfl rfl rfl dX12_would_2 ?_
  refine v_if_eq C 16 E dX12_would_5 rfl (fun c13 E => ?_) (fun c13 E => ?_)
  · refine v_iconst C dX12_would_16 k_iconst_m1 ?_
    obtain rfl := Option.some.inj E
    exact v_iret C rfl dX12_would_17
  · refine v_aload_n (r := (some o)) C 0 dX12_would_8 rfl ?_
    refine v_iload_n C 2 dX12_would_9 rfl ?_
    obtain ⟨q3, h4, E⟩ := bnd E
    refine v_callV (r := (some o)) (As := [.int x2]) (rv := (some (.int q3))) (st := []) (st1 := [.int q3]) (ce1 := 0) (sl1 := 0) C cv_X12_361 (c_X12_isAsked (x1 := x2) ho h4) rfl ho rfl rfl ⟨rfl, rfl, Nat.le_of_ble_eq_true rfl, Nat.le_of_ble_eq_true rfl⟩ ⟨Nat.le_of_ble_eq_true rfl, Nat.le_of_ble_eq_true rfl⟩ (Nat.le_of_ble_eq_true rfl) rfl rfl rfl dX12_would_10 ?_
    refine v_if_ne C 18 E dX12_would_13 rfl (fun c12 E => ?_) (fun c12 E => ?_)
    · refine v_iconst C dX12_would_16 k_iconst_m1 ?_
      obtain rfl := Option.some.inj E
      exact v_iret C rfl dX12_would_17
    · refine v_aload_n (r := (some o)) C 0 dX12_would_18 rfl ?_
      refine v_getI (r := (some o)) C fa_X12_13 rfl rfl ho dX12_would_19 ?_
      refine v_if_ge C 28 E dX12_would_22 rfl (fun c11 E => ?_) (fun c11 E => ?_)
      · refine v_aload_n (r := (some o)) C 0 dX12_would_28 rfl ?_
        obtain ⟨q5, h6, E⟩ := bnd E
        refine v_callV (r := (some o)) (As := []) (rv := none) (st := []) (st1 := []) (ce1 := 0) (sl1 := 0) C cv_X12_306 (c_X12_lay  ho h6) rfl ho rfl rfl ⟨rfl, rfl, Nat.le_of_ble_eq_true rfl, Nat.le_of_ble_eq_true rfl⟩ ⟨Nat.le_of_ble_eq_true rfl, Nat.le_of_ble_eq_true rfl⟩ (Nat.le_of_ble_eq_true rfl) rfl rfl rfl dX12_would_29 ?_
        refine v_aload_n (r := (some o)) C 0 dX12_would_32 rfl ?_
        refine v_iload_n C 1 dX12_would_33 rfl ?_
        obtain ⟨q7, h8, E⟩ := bnd E
        refine v_callV (r := (some o)) (As := [.int x1]) (rv := none) (st := []) (st1 := []) (ce1 := 0) (sl1 := 0) C cv_X12_364 (c_X12_goCaravan (x1 := x1) ho h8) rfl ho rfl rfl ⟨rfl, rfl, Nat.le_of_ble_eq_true rfl, Nat.le_of_ble_eq_true rfl⟩ ⟨Nat.le_of_ble_eq_true rfl, Nat.le_of_ble_eq_true rfl⟩ (Nat.le_of_ble_eq_true rfl) rfl rfl rfl dX12_would_34 ?_
        refine v_aload_n (r := (some o)) C 0 dX12_would_37 rfl ?_
        refine v_iload_n C 1 dX12_would_38 rfl ?_
        refine v_iload_n C 2 dX12_would_39 rfl ?_
        obtain ⟨q9, h10, E⟩ := bnd E
        refine v_callV (r := (some o)) (As := [.int x1, .int x2]) (rv := (some (.int q9))) (st := []) (st1 := [.int q9]) (ce1 := 0) (sl1 := 0) C cv_X12_367 (c_X12_toldOf (x1 := x1) (x2 := x2) ho h10) rfl ho rfl rfl ⟨rfl, rfl, Nat.le_of_ble_eq_true rfl, Nat.le_of_ble_eq_true rfl⟩ ⟨Nat.le_of_ble_eq_true rfl, Nat.le_of_ble_eq_true rfl⟩ (Nat.le_of_ble_eq_true rfl) rfl rfl rfl dX12_would_40 ?_
        obtain rfl := Option.some.inj E
        exact v_iret C rfl dX12_would_43
      · refine v_bipush C dX12_would_25 k_bipush_m3 ?_
        obtain rfl := Option.some.inj E
        exact v_iret C rfl dX12_would_27
set_option maxHeartbeats 4000000 in
theorem c_X12_would {n : Nat} {K : Sh} {I : Im} {J : Jm} {R : Rf} {o : Nat} {x1 : Int32} {x2 : Int32} (ho : (K o).1 = 13) {res : Int32 × Im} (E : f_X12_would K R o x1 x2 I = some res) : Met l yX12_would (Cond.code yX12_would cX12_would 3 (some .int) :: tb) rX12_would (PX D cA bs Z [.ref o, .int x1, .int x2] K n I J R) (QX D cA bs Z (some (.int res.1)) K n res.2 J R) 0 0 (fun q => bs ≤ q) := by
  refine met_of (lv1 := [(0, va_rf (some o)), (1, .int x1), (2, .int x2)]) pn_X12 (by exact Nat.le_of_ble_eq_true rfl) (by rfl) ?_
  intro p e s m args below meth c C hn
  exact v_sub [0, 1, 2] [(0, va_rf (some o)), (1, .int x1), (2, .int x2)] rfl (w_X12_would_0 C ho _ _ _ _ E)
set_option maxHeartbeats 4000000 in
theorem w_X12_goes_31 (C : Cx D cA bs Z p s m args meth c cX12_goes RX12 3 (some .int)) {o : Nat} {K : Sh} {n : Nat} {J : Jm} {R : Rf} (ho : (K o).1 = 13) (res : Int32 × Im)  : ∀ (k : Nat), ∀ (x2 : Int32) (I : Im), f_X12_goes_31 K R o k x2 I = some res → VW D cA bs Z p l e rX12_goes s m args below meth c 3 [(0, va_rf (some o)), (2, .int x2)] K n I J R 0 0 (MQ below (QX D cA bs Z (some (.int res.1)) K n res.2 J R) args s 0 0 (fun q => bs ≤ q)) 31 [] := by
  intro k
  induction k with
  | zero =>
    intro x2 I E
    have E : (none : Option (Int32 × Im)) = some res := E
    cases E
  | succ k ih =>
    intro x2 I E
    unfold f_X12_goes_31 at E
    refine v_iload_n C 1 dX12_goes_31 rfl ?_
    refine v_aload_n (r := (some o)) C 0 dX12_goes_32 rfl ?_
    refine v_getI (r := (some o)) C fa_X12_75 rfl rfl ho dX12_goes_33 ?_
    refine v_icmp_ge C 69 E dX12_goes_36 rfl (fun c5 E => ?_) (fun c5 E => ?_)
    · refine v_aload_n (r := (some o)) C 0 dX12_goes_69 rfl ?_
      refine v_getI (r := (some o)) C fa_X12_162 rfl rfl ho dX12_goes_70 ?_
      obtain rfl := Option.some.inj E
      exact v_iret C rfl dX12_goes_73
    · refine v_aload_n (r := (some o)) C 0 dX12_goes_39 rfl ?_
      refine v_getR (r := (some o)) C fa_X12_66 rfl rfl ho dX12_goes_40 ?_
      refine v_iload_n C 1 dX12_goes_43 rfl ?_
      refine v_aload_n (r := (some o)) C 0 dX12_goes_44 rfl ?_
      refine v_getR (r := (some o)) C fa_X12_87 rfl rfl ho dX12_goes_45 ?_
      refine v_iload_n C 1 dX12_goes_48 rfl ?_
      refine v_iald (r := (R o 25)) C E dX12_goes_49 (fun v1 _ E => ?_)
      refine v_iast (r := (R o 18)) C E dX12_goes_50 (fun I2 _ E => ?_)
      refine v_aload_n (r := (some o)) C 0 dX12_goes_51 rfl ?_
      refine v_getR (r := (some o)) C fa_X12_69 rfl rfl ho dX12_goes_52 ?_
      refine v_iload_n C 1 dX12_goes_55 rfl ?_
      refine v_aload_n (r := (some o)) C 0 dX12_goes_56 rfl ?_
      refine v_getR (r := (some o)) C fa_X12_90 rfl rfl ho dX12_goes_57 ?_
      refine v_iload_n C 1 dX12_goes_60 rfl ?_
      refine v_iald (r := (R o 26)) C E dX12_goes_61 (fun v3 _ E => ?_)
      refine v_iast (r := (R o 19)) C E dX12_goes_62 (fun I4 _ E => ?_)
      refine v_iinc (v := x2 + 1) C 1 [(2, .int (x2 + 1)), (0, va_rf (some o))] dX12_goes_63 rfl (k_inc_1 _) (Nat.le_of_ble_eq_true rfl) rfl ?_
      refine v_goto C 31 dX12_goes_66 rfl ?_
      exact v_sub [1, 0] [(0, va_rf (some o)), (2, .int (x2 + 1))] rfl (ih _ _ E)
set_option maxHeartbeats 4000000 in
theorem w_X12_goes_0 (C : Cx D cA bs Z p s m args meth c cX12_goes RX12 3 (some .int)) {o : Nat} {K : Sh} {n : Nat} {J : Jm} {R : Rf} (ho : (K o).1 = 13) (res : Int32 × Im) (x1 : Int32) (I : Im) (E : f_X12_goes K R o x1 I = some res) : VW D cA bs Z p l e rX12_goes s m args below meth c 3 [(0, va_rf (some o)), (1, .int x1)] K n I J R 0 0 (MQ below (QX D cA bs Z (some (.int res.1)) K n res.2 J R) args s 0 0 (fun q => bs ≤ q)) 0 [] := by
  unfold f_X12_goes at E
  refine v_aload_n (r := (some o)) C 0 dX12_goes_0 rfl ?_
  refine v_iload_n C 1 dX12_goes_1 rfl ?_
  obtain ⟨q6, h7, E⟩ := bnd E
  refine v_callV (r := (some o)) (As := [.int x1]) (rv := (some (.int q6))) (st := []) (st1 := [.int q6]) (ce1 := 0) (sl1 := 0) C cv_X12_358 (c_X12_isCaravan (x1 := x1) ho h7) rfl ho rfl rfl ⟨rfl, rfl, Nat.le_of_ble_eq_true rfl, Nat.le_of_ble_eq_true rfl⟩ ⟨Nat.le_of_ble_eq_true rfl, Nat.le_of_ble_eq_true rfl⟩ (Nat.le_of_ble_eq_true rfl) rfl rfl rfl dX12_goes_2 ?_
  refine v_if_ne C 10 E dX12_goes_5 rfl (fun c13 E => ?_) (fun c13 E => ?_)
  · refine v_iconst C dX12_goes_8 k_iconst_m1 ?_
    obtain rfl := Option.some.inj E
    exact v_iret C rfl dX12_goes_9
  · refine v_aload_n (r := (some o)) C 0 dX12_goes_10 rfl ?_
    refine v_getI (r := (some o)) C fa_X12_13 rfl rfl ho dX12_goes_11 ?_
    refine v_if_ge C 20 E dX12_goes_14 rfl (fun c12 E => ?_) (fun c12 E => ?_)
    · refine v_aload_n (r := (some o)) C 0 dX12_goes_20 rfl ?_
      obtain ⟨q8, h9, E⟩ := bnd E
      refine v_callV (r := (some o)) (As := []) (rv := none) (st := []) (st1 := []) (ce1 := 0) (sl1 := 0) C cv_X12_306 (c_X12_lay  ho h9) rfl ho rfl rfl ⟨rfl, rfl, Nat.le_of_ble_eq_true rfl, Nat.le_of_ble_eq_true rfl⟩ ⟨Nat.le_of_ble_eq_true rfl, Nat.le_of_ble_eq_true rfl⟩ (Nat.le_of_ble_eq_true rfl) rfl rfl rfl dX12_goes_21 ?_
      refine v_aload_n (r := (some o)) C 0 dX12_goes_24 rfl ?_
      refine v_iload_n C 1 dX12_goes_25 rfl ?_
      obtain ⟨q10, h11, E⟩ := bnd E
      refine v_callV (r := (some o)) (As := [.int x1]) (rv := none) (st := []) (st1 := []) (ce1 := 0) (sl1 := 0) C cv_X12_364 (c_X12_goCaravan (x1 := x1) ho h11) rfl ho rfl rfl ⟨rfl, rfl, Nat.le_of_ble_eq_true rfl, Nat.le_of_ble_eq_true rfl⟩ ⟨Nat.le_of_ble_eq_true rfl, Nat.le_of_ble_eq_true rfl⟩ (Nat.le_of_ble_eq_true rfl) rfl rfl rfl dX12_goes_26 ?_
      refine v_iconst C dX12_goes_29 k_iconst_0 ?_
      refine v_istore_n C [(2, .int 0), (0, va_rf (some o)), (1, .int x1)] dX12_goes_30 (Nat.le_of_ble_eq_true rfl) rfl ?_
      exact v_sub [1, 0] [(0, va_rf (some o)), (2, .int 0)] rfl (w_X12_goes_31 C ho res  _ _ _ E)
    · refine v_bipush C dX12_goes_17 k_bipush_m3 ?_
      obtain rfl := Option.some.inj E
      exact v_iret C rfl dX12_goes_19
set_option maxHeartbeats 4000000 in
theorem c_X12_goes {n : Nat} {K : Sh} {I : Im} {J : Jm} {R : Rf} {o : Nat} {x1 : Int32} (ho : (K o).1 = 13) {res : Int32 × Im} (E : f_X12_goes K R o x1 I = some res) : Met l yX12_goes (Cond.code yX12_goes cX12_goes 3 (some .int) :: tb) rX12_goes (PX D cA bs Z [.ref o, .int x1] K n I J R) (QX D cA bs Z (some (.int res.1)) K n res.2 J R) 0 0 (fun q => bs ≤ q) := by
  refine met_of (lv1 := [(0, va_rf (some o)), (1, .int x1)]) pn_X12 (by exact Nat.le_of_ble_eq_true rfl) (by rfl) ?_
  intro p e s m args below meth c C hn
  exact v_sub [0, 1] [(0, va_rf (some o)), (1, .int x1)] rfl (w_X12_goes_0 C ho _ _ _ E)
set_option maxHeartbeats 4000000 in
theorem w_X12_gone_0 (C : Cx D cA bs Z p s m args meth c cX12_gone RX12 3 (some .int)) {o : Nat} {K : Sh} {n : Nat} {J : Jm} {R : Rf} (ho : (K o).1 = 13) (res : Int32 × Im) (x1 : Int32) (x2 : Int32) (I : Im) (E : f_X12_gone K R o x1 x2 I = some res) : VW D cA bs Z p l e rX12_gone s m args below meth c 3 [(0, va_rf (some o)), (1, .int x1), (2, .int x2)] K n I J R 0 0 (MQ below (QX D cA bs Z (some (.int res.1)) K n res.2 J R) args s 0 0 (fun q => bs ≤ q)) 0 [] := by
  unfold f_X12_gone at E
  refine v_aload_n (r := (some o)) C 0 dX12_gone_0 rfl ?_
  refine v_iload_n C 1 dX12_gone_1 rfl ?_
  obtain ⟨q1, h2, E⟩ := bnd E
  refine v_callV (r := (some o)) (As := [.int x1]) (rv := (some (.int q1))) (st := []) (st1 := [.int q1]) (ce1 := 0) (sl1 := 0) C cv_X12_358 (c_X12_isCaravan (x1 := x1) ho h2) rfl ho rfl rfl ⟨rfl, rfl, Nat.le_of_ble_eq_true rfl, Nat.le_of_ble_eq_true rfl⟩ ⟨Nat.le_of_ble_eq_true rfl, Nat.le_of_ble_eq_true rfl⟩ (Nat.le_of_ble_eq_true rfl) rfl rfl rfl dX12_gone_2 ?_
  refine v_if_eq C 16 E dX12_gone_5 rfl (fun c15 E => ?_) (fun c15 E => ?_)
  · refine v_iconst C dX12_gone_16 k_iconst_m1 ?_
    obtain rfl := Option.some.inj E
    exact v_iret C rfl dX12_gone_17
  · refine v_aload_n (r := (some o)) C 0 dX12_gone_8 rfl ?_
    refine v_iload_n C 2 dX12_gone_9 rfl ?_
    obtain ⟨q3, h4, E⟩ := bnd E
    refine v_callV (r := (some o)) (As := [.int x2]) (rv := (some (.int q3))) (st := []) (st1 := [.int q3]) (ce1 := 0) (sl1 := 0) C cv_X12_361 (c_X12_isAsked (x1 := x2) ho h4) rfl ho rfl rfl ⟨rfl, rfl, Nat.le_of_ble_eq_true rfl, Nat.le_of_ble_eq_true rfl⟩ ⟨Nat.le_of_ble_eq_true rfl, Nat.le_of_ble_eq_true rfl⟩ (Nat.le_of_ble_eq_true rfl) rfl rfl rfl dX12_gone_10 ?_
    refine v_if_ne C 18 E dX12_gone_13 rfl (fun c14 E => ?_) (fun c14 E => ?_)
    · refine v_iconst C dX12_gone_16 k_iconst_m1 ?_
      obtain rfl := Option.some.inj E
      exact v_iret C rfl dX12_gone_17
    · refine v_aload_n (r := (some o)) C 0 dX12_gone_18 rfl ?_
      refine v_getI (r := (some o)) C fa_X12_13 rfl rfl ho dX12_gone_19 ?_
      refine v_if_ge C 28 E dX12_gone_22 rfl (fun c13 E => ?_) (fun c13 E => ?_)
      · refine v_aload_n (r := (some o)) C 0 dX12_gone_28 rfl ?_
        obtain ⟨q5, h6, E⟩ := bnd E
        refine v_callV (r := (some o)) (As := []) (rv := none) (st := []) (st1 := []) (ce1 := 0) (sl1 := 0) C cv_X12_306 (c_X12_lay  ho h6) rfl ho rfl rfl ⟨rfl, rfl, Nat.le_of_ble_eq_true rfl, Nat.le_of_ble_eq_true rfl⟩ ⟨Nat.le_of_ble_eq_true rfl, Nat.le_of_ble_eq_true rfl⟩ (Nat.le_of_ble_eq_true rfl) rfl rfl rfl dX12_gone_29 ?_
        refine v_aload_n (r := (some o)) C 0 dX12_gone_32 rfl ?_
        refine v_aload_n (r := (some o)) C 0 dX12_gone_33 rfl ?_
        refine v_getR (r := (some o)) C fa_X12_114 rfl rfl ho dX12_gone_34 ?_
        refine v_iload_n C 1 dX12_gone_37 rfl ?_
        refine v_iald (r := (R o 34)) C E dX12_gone_38 (fun v7 _ E => ?_)
        refine v_aload_n (r := (some o)) C 0 dX12_gone_39 rfl ?_
        refine v_getR (r := (some o)) C fa_X12_117 rfl rfl ho dX12_gone_40 ?_
        refine v_iload_n C 1 dX12_gone_43 rfl ?_
        refine v_iald (r := (R o 35)) C E dX12_gone_44 (fun v8 _ E => ?_)
        refine v_iconst C dX12_gone_45 k_iconst_0 ?_
        refine v_bipush C dX12_gone_46 k_bipush_7 ?_
        obtain ⟨q9, h10, E⟩ := bnd E
        refine v_callV (r := (some o)) (As := [.int v7, .int v8, .int 0, .int 7]) (rv := none) (st := []) (st1 := []) (ce1 := 0) (sl1 := 0) C cv_X12_354 (c_X12_go (x1 := v7) (x2 := v8) (x3 := 0) (x4 := 7) ho h10) rfl ho rfl rfl ⟨rfl, rfl, Nat.le_of_ble_eq_true rfl, Nat.le_of_ble_eq_true rfl⟩ ⟨Nat.le_of_ble_eq_true rfl, Nat.le_of_ble_eq_true rfl⟩ (Nat.le_of_ble_eq_true rfl) rfl rfl rfl dX12_gone_48 ?_
        refine v_aload_n (r := (some o)) C 0 dX12_gone_51 rfl ?_
        refine v_iload_n C 1 dX12_gone_52 rfl ?_
        refine v_iload_n C 2 dX12_gone_53 rfl ?_
        obtain ⟨q11, h12, E⟩ := bnd E
        refine v_callV (r := (some o)) (As := [.int x1, .int x2]) (rv := (some (.int q11))) (st := []) (st1 := [.int q11]) (ce1 := 0) (sl1 := 0) C cv_X12_367 (c_X12_toldOf (x1 := x1) (x2 := x2) ho h12) rfl ho rfl rfl ⟨rfl, rfl, Nat.le_of_ble_eq_true rfl, Nat.le_of_ble_eq_true rfl⟩ ⟨Nat.le_of_ble_eq_true rfl, Nat.le_of_ble_eq_true rfl⟩ (Nat.le_of_ble_eq_true rfl) rfl rfl rfl dX12_gone_54 ?_
        obtain rfl := Option.some.inj E
        exact v_iret C rfl dX12_gone_57
      · refine v_bipush C dX12_gone_25 k_bipush_m3 ?_
        obtain rfl := Option.some.inj E
        exact v_iret C rfl dX12_gone_27
set_option maxHeartbeats 4000000 in
theorem c_X12_gone {n : Nat} {K : Sh} {I : Im} {J : Jm} {R : Rf} {o : Nat} {x1 : Int32} {x2 : Int32} (ho : (K o).1 = 13) {res : Int32 × Im} (E : f_X12_gone K R o x1 x2 I = some res) : Met l yX12_gone (Cond.code yX12_gone cX12_gone 3 (some .int) :: tb) rX12_gone (PX D cA bs Z [.ref o, .int x1, .int x2] K n I J R) (QX D cA bs Z (some (.int res.1)) K n res.2 J R) 0 0 (fun q => bs ≤ q) := by
  refine met_of (lv1 := [(0, va_rf (some o)), (1, .int x1), (2, .int x2)]) pn_X12 (by exact Nat.le_of_ble_eq_true rfl) (by rfl) ?_
  intro p e s m args below meth c C hn
  exact v_sub [0, 1, 2] [(0, va_rf (some o)), (1, .int x1), (2, .int x2)] rfl (w_X12_gone_0 C ho _ _ _ _ E)
set_option maxHeartbeats 4000000 in
theorem w_X12_size_122 (C : Cx D cA bs Z p s m args meth c cX12_size RX12 9 (some .int)) {o : Nat} {K : Sh} {n : Nat} {J : Jm} {R : Rf} (ho : (K o).1 = 13) (res : Int32 × Im) (r56 : Int32 → Int32 → Int32 → Int32 → Int32 → Int32 → Int32 → Im → Option (Int32 × Im)) (hr56 : ∀ (x1 : Int32) (x2 : Int32) (x3 : Int32) (x4 : Int32) (x5 : Int32) (x6 : Int32) (x7 : Int32) (I : Im), r56 x1 x2 x3 x4 x5 x6 x7 I = some res → VW D cA bs Z p l e rX12_size s m args below meth c 9 [(0, va_rf (some o)), (1, .int x1), (2, .int x2), (3, .int x3), (4, .int x4), (5, .int x5), (6, .int x6), (7, .int x7)] K n I J R 0 0 (MQ below (QX D cA bs Z (some (.int res.1)) K n res.2 J R) args s 0 0 (fun q => bs ≤ q)) 56 []) (x1 : Int32) (x2 : Int32) (x3 : Int32) (x4 : Int32) (x5 : Int32) (x6 : Int32) (x7 : Int32) (s0 : Int32) (I : Im) (E : f_X12_size_122 K R o r56 x1 x2 x3 x4 x5 x6 x7 s0 I = some res) : VW D cA bs Z p l e rX12_size s m args below meth c 9 [(0, va_rf (some o)), (1, .int x1), (2, .int x2), (3, .int x3), (4, .int x4), (5, .int x5), (6, .int x6), (7, .int x7)] K n I J R 0 0 (MQ below (QX D cA bs Z (some (.int res.1)) K n res.2 J R) args s 0 0 (fun q => bs ≤ q)) 122 [.int s0] := by
  unfold f_X12_size_122 at E
  refine v_istore C [(8, .int s0), (0, va_rf (some o)), (1, .int x1), (2, .int x2), (3, .int x3), (4, .int x4), (5, .int x5), (6, .int x6), (7, .int x7)] dX12_size_122 (Nat.le_of_ble_eq_true rfl) rfl ?_
  refine v_iload C 0 dX12_size_124 rfl ?_
  refine v_iload C 6 dX12_size_126 rfl ?_
  refine v_icmp_gt C 134 E dX12_size_128 rfl (fun c1 E => ?_) (fun c1 E => ?_)
  · refine v_iload C 8 dX12_size_134 rfl ?_
    refine v_istore C [(4, .int x7), (8, .int s0), (0, va_rf (some o)), (1, .int x1), (2, .int x2), (3, .int x3), (5, .int x5), (6, .int x6), (7, .int x7)] dX12_size_136 (Nat.le_of_ble_eq_true rfl) rfl ?_
    refine v_iload C 1 dX12_size_138 rfl ?_
    refine v_istore C [(5, .int s0), (4, .int x7), (8, .int s0), (0, va_rf (some o)), (1, .int x1), (2, .int x2), (3, .int x3), (6, .int x6), (7, .int x7)] dX12_size_140 (Nat.le_of_ble_eq_true rfl) rfl ?_
    refine v_iinc (v := x7 + 1) C 8 [(7, .int (x7 + 1)), (5, .int s0), (4, .int x7), (8, .int s0), (0, va_rf (some o)), (1, .int x1), (2, .int x2), (3, .int x3), (6, .int x6)] dX12_size_142 rfl (k_inc_1 _) (Nat.le_of_ble_eq_true rfl) rfl ?_
    refine v_goto C 56 dX12_size_145 rfl ?_
    exact v_sub [4, 5, 6, 7, 2, 1, 8, 0] [(0, va_rf (some o)), (1, .int x1), (2, .int x2), (3, .int x3), (4, .int x7), (5, .int s0), (6, .int x6), (7, .int (x7 + 1))] rfl (hr56 _ _ _ _ _ _ _ _ E)
  · refine v_goto C 142 dX12_size_131 rfl ?_
    refine v_iinc (v := x7 + 1) C 8 [(7, .int (x7 + 1)), (8, .int s0), (0, va_rf (some o)), (1, .int x1), (2, .int x2), (3, .int x3), (4, .int x4), (5, .int x5), (6, .int x6)] dX12_size_142 rfl (k_inc_1 _) (Nat.le_of_ble_eq_true rfl) rfl ?_
    refine v_goto C 56 dX12_size_145 rfl ?_
    exact v_sub [2, 3, 4, 5, 6, 7, 8, 0] [(0, va_rf (some o)), (1, .int x1), (2, .int x2), (3, .int x3), (4, .int x4), (5, .int x5), (6, .int x6), (7, .int (x7 + 1))] rfl (hr56 _ _ _ _ _ _ _ _ E)
set_option maxHeartbeats 4000000 in
theorem w_X12_size_100 (C : Cx D cA bs Z p s m args meth c cX12_size RX12 9 (some .int)) {o : Nat} {K : Sh} {n : Nat} {J : Jm} {R : Rf} (ho : (K o).1 = 13) (res : Int32 × Im) (r56 : Int32 → Int32 → Int32 → Int32 → Int32 → Int32 → Int32 → Im → Option (Int32 × Im)) (hr56 : ∀ (x1 : Int32) (x2 : Int32) (x3 : Int32) (x4 : Int32) (x5 : Int32) (x6 : Int32) (x7 : Int32) (I : Im), r56 x1 x2 x3 x4 x5 x6 x7 I = some res → VW D cA bs Z p l e rX12_size s m args below meth c 9 [(0, va_rf (some o)), (1, .int x1), (2, .int x2), (3, .int x3), (4, .int x4), (5, .int x5), (6, .int x6), (7, .int x7)] K n I J R 0 0 (MQ below (QX D cA bs Z (some (.int res.1)) K n res.2 J R) args s 0 0 (fun q => bs ≤ q)) 56 []) (x1 : Int32) (x2 : Int32) (x3 : Int32) (x4 : Int32) (x5 : Int32) (x7 : Int32) (s0 : Int32) (I : Im) (E : f_X12_size_100 K R o r56 x1 x2 x3 x4 x5 x7 s0 I = some res) : VW D cA bs Z p l e rX12_size s m args below meth c 9 [(0, va_rf (some o)), (1, .int x1), (2, .int x2), (3, .int x3), (4, .int x4), (5, .int x5), (7, .int x7)] K n I J R 0 0 (MQ below (QX D cA bs Z (some (.int res.1)) K n res.2 J R) args s 0 0 (fun q => bs ≤ q)) 100 [.int s0] := by
  unfold f_X12_size_100 at E
  refine v_istore C [(6, .int s0), (0, va_rf (some o)), (1, .int x1), (2, .int x2), (3, .int x3), (4, .int x4), (5, .int x5), (7, .int x7)] dX12_size_100 (Nat.le_of_ble_eq_true rfl) rfl ?_
  refine v_aload_n (r := (some o)) C 1 dX12_size_102 rfl ?_
  refine v_getI (r := (some o)) C fa_X12_162 rfl rfl ho dX12_size_103 ?_
  refine v_if_ge C 113 E dX12_size_106 rfl (fun c4 E => ?_) (fun c4 E => ?_)
  · refine v_iload C 7 dX12_size_113 rfl ?_
    refine v_aload_n (r := (some o)) C 1 dX12_size_115 rfl ?_
    refine v_iconst C dX12_size_116 k_iconst_4 ?_
    refine v_iconst C dX12_size_117 k_iconst_1 ?_
    obtain ⟨q2, h3, E⟩ := bnd E
    refine v_callV (r := (some o)) (As := [.int 4, .int 1]) (rv := (some (.int q2))) (st := [.int x7]) (st1 := [.int q2, .int x7]) (ce1 := 0) (sl1 := 0) C cv_X12_316 (c_X12_last (x1 := 4) (x2 := 1) ho h3) rfl ho rfl rfl ⟨rfl, rfl, Nat.le_of_ble_eq_true rfl, Nat.le_of_ble_eq_true rfl⟩ ⟨Nat.le_of_ble_eq_true rfl, Nat.le_of_ble_eq_true rfl⟩ (Nat.le_of_ble_eq_true rfl) rfl rfl rfl dX12_size_118 ?_
    refine v_imul C dX12_size_121 ?_
    exact v_sub [1, 2, 3, 4, 5, 6, 0, 7] [(0, va_rf (some o)), (1, .int x1), (2, .int x2), (3, .int x3), (4, .int x4), (5, .int x5), (6, .int s0), (7, .int x7)] rfl (w_X12_size_122 C ho res _ hr56 _ _ _ _ _ _ _ _ _ E)
  · refine v_iconst C dX12_size_109 k_iconst_m1 ?_
    refine v_goto C 122 dX12_size_110 rfl ?_
    exact v_sub [1, 2, 3, 4, 5, 6, 0, 7] [(0, va_rf (some o)), (1, .int x1), (2, .int x2), (3, .int x3), (4, .int x4), (5, .int x5), (6, .int s0), (7, .int x7)] rfl (w_X12_size_122 C ho res _ hr56 _ _ _ _ _ _ _ _ _ E)
set_option maxHeartbeats 4000000 in
theorem w_X12_size_98 (C : Cx D cA bs Z p s m args meth c cX12_size RX12 9 (some .int)) {o : Nat} {K : Sh} {n : Nat} {J : Jm} {R : Rf} (ho : (K o).1 = 13) (res : Int32 × Im) (r56 : Int32 → Int32 → Int32 → Int32 → Int32 → Int32 → Int32 → Im → Option (Int32 × Im)) (hr56 : ∀ (x1 : Int32) (x2 : Int32) (x3 : Int32) (x4 : Int32) (x5 : Int32) (x6 : Int32) (x7 : Int32) (I : Im), r56 x1 x2 x3 x4 x5 x6 x7 I = some res → VW D cA bs Z p l e rX12_size s m args below meth c 9 [(0, va_rf (some o)), (1, .int x1), (2, .int x2), (3, .int x3), (4, .int x4), (5, .int x5), (6, .int x6), (7, .int x7)] K n I J R 0 0 (MQ below (QX D cA bs Z (some (.int res.1)) K n res.2 J R) args s 0 0 (fun q => bs ≤ q)) 56 []) (x1 : Int32) (x2 : Int32) (x3 : Int32) (x4 : Int32) (x5 : Int32) (x6 : Int32) (x7 : Int32) (I : Im) (E : f_X12_size_98 K R o r56 x1 x2 x3 x4 x5 x6 x7 I = some res) : VW D cA bs Z p l e rX12_size s m args below meth c 9 [(0, va_rf (some o)), (1, .int x1), (2, .int x2), (3, .int x3), (4, .int x4), (5, .int x5), (6, .int x6), (7, .int x7)] K n I J R 0 0 (MQ below (QX D cA bs Z (some (.int res.1)) K n res.2 J R) args s 0 0 (fun q => bs ≤ q)) 98 [] := by
  unfold f_X12_size_98 at E
  refine v_iload C 6 dX12_size_98 rfl ?_
  exact v_sub [0, 1, 2, 3, 4, 5, 7] [(0, va_rf (some o)), (1, .int x1), (2, .int x2), (3, .int x3), (4, .int x4), (5, .int x5), (7, .int x7)] rfl (w_X12_size_100 C ho res _ hr56 _ _ _ _ _ _ _ _ E)
set_option maxHeartbeats 4000000 in
theorem w_X12_size_56 (C : Cx D cA bs Z p s m args meth c cX12_size RX12 9 (some .int)) {o : Nat} {K : Sh} {n : Nat} {J : Jm} {R : Rf} (ho : (K o).1 = 13) (res : Int32 × Im)  : ∀ (k : Nat), ∀ (x1 : Int32) (x2 : Int32) (x3 : Int32) (x4 : Int32) (x5 : Int32) (x6 : Int32) (x7 : Int32) (I : Im), f_X12_size_56 K R o k x1 x2 x3 x4 x5 x6 x7 I = some res → VW D cA bs Z p l e rX12_size s m args below meth c 9 [(0, va_rf (some o)), (1, .int x1), (2, .int x2), (3, .int x3), (4, .int x4), (5, .int x5), (6, .int x6), (7, .int x7)] K n I J R 0 0 (MQ below (QX D cA bs Z (some (.int res.1)) K n res.2 J R) args s 0 0 (fun q => bs ≤ q)) 56 [] := by
  intro k
  induction k with
  | zero =>
    intro x1 x2 x3 x4 x5 x6 x7 I E
    have E : (none : Option (Int32 × Im)) = some res := E
    cases E
  | succ k ih =>
    intro x1 x2 x3 x4 x5 x6 x7 I E
    unfold f_X12_size_56 at E
    refine v_iload C 7 dX12_size_56 rfl ?_
    refine v_bipush C dX12_size_58 k_bipush_10 ?_
    refine v_icmp_ge C 148 E dX12_size_60 rfl (fun c13 E => ?_) (fun c13 E => ?_)
    · refine v_iload_n C 3 dX12_size_148 rfl ?_
      refine v_if_ne C 157 E dX12_size_149 rfl (fun c5 E => ?_) (fun c5 E => ?_)
      · refine v_iload C 4 dX12_size_152 rfl ?_
        refine v_goto C 159 dX12_size_154 rfl ?_
        obtain rfl := Option.some.inj E
        exact v_iret C rfl dX12_size_159
      · refine v_iload C 6 dX12_size_157 rfl ?_
        obtain rfl := Option.some.inj E
        exact v_iret C rfl dX12_size_159
    · refine v_aload_n (r := (some o)) C 0 dX12_size_63 rfl ?_
      obtain ⟨q6, h7, E⟩ := bnd E
      refine v_callV (r := (some o)) (As := []) (rv := none) (st := []) (st1 := []) (ce1 := 0) (sl1 := 0) C cv_X12_306 (c_X12_lay  ho h7) rfl ho rfl rfl ⟨rfl, rfl, Nat.le_of_ble_eq_true rfl, Nat.le_of_ble_eq_true rfl⟩ ⟨Nat.le_of_ble_eq_true rfl, Nat.le_of_ble_eq_true rfl⟩ (Nat.le_of_ble_eq_true rfl) rfl rfl rfl dX12_size_64 ?_
      refine v_aload_n (r := (some o)) C 0 dX12_size_67 rfl ?_
      refine v_iload C 7 dX12_size_68 rfl ?_
      refine v_iload_n C 1 dX12_size_70 rfl ?_
      refine v_iload_n C 2 dX12_size_71 rfl ?_
      refine v_aload_n (r := (some o)) C 0 dX12_size_72 rfl ?_
      refine v_getR (r := (some o)) C fa_X12_102 rfl rfl ho dX12_size_73 ?_
      refine v_iload_n C 2 dX12_size_76 rfl ?_
      refine v_iald (r := (R o 30)) C E dX12_size_77 (fun v8 _ E => ?_)
      obtain ⟨q9, h10, E⟩ := bnd E
      refine v_callV (r := (some o)) (As := [.int x7, .int x1, .int x2, .int v8]) (rv := none) (st := []) (st1 := []) (ce1 := 0) (sl1 := 0) C cv_X12_354 (c_X12_go (x1 := x7) (x2 := x1) (x3 := x2) (x4 := v8) ho h10) rfl ho rfl rfl ⟨rfl, rfl, Nat.le_of_ble_eq_true rfl, Nat.le_of_ble_eq_true rfl⟩ ⟨Nat.le_of_ble_eq_true rfl, Nat.le_of_ble_eq_true rfl⟩ (Nat.le_of_ble_eq_true rfl) rfl rfl rfl dX12_size_78 ?_
      refine v_aload_n (r := (some o)) C 0 dX12_size_81 rfl ?_
      refine v_getI (r := (some o)) C fa_X12_162 rfl rfl ho dX12_size_82 ?_
      refine v_if_ge C 98 E dX12_size_85 rfl (fun c12 E => ?_) (fun c12 E => ?_)
      · exact v_sub [0, 1, 2, 3, 4, 5, 6, 7] [(0, va_rf (some o)), (1, .int x1), (2, .int x2), (3, .int x3), (4, .int x4), (5, .int x5), (6, .int x6), (7, .int x7)] rfl (w_X12_size_98 C ho res _ ih _ _ _ _ _ _ _ _ E)
      · refine v_iload C 6 dX12_size_88 rfl ?_
        refine v_if_ne C 98 E dX12_size_90 rfl (fun c11 E => ?_) (fun c11 E => ?_)
        · refine v_iload C 7 dX12_size_93 rfl ?_
          refine v_goto C 100 dX12_size_95 rfl ?_
          exact v_sub [0, 1, 2, 3, 4, 5, 7] [(0, va_rf (some o)), (1, .int x1), (2, .int x2), (3, .int x3), (4, .int x4), (5, .int x5), (7, .int x7)] rfl (w_X12_size_100 C ho res _ ih _ _ _ _ _ _ _ _ E)
        · exact v_sub [0, 1, 2, 3, 4, 5, 6, 7] [(0, va_rf (some o)), (1, .int x1), (2, .int x2), (3, .int x3), (4, .int x4), (5, .int x5), (6, .int x6), (7, .int x7)] rfl (w_X12_size_98 C ho res _ ih _ _ _ _ _ _ _ _ E)
set_option maxHeartbeats 4000000 in
theorem w_X12_size_0 (C : Cx D cA bs Z p s m args meth c cX12_size RX12 9 (some .int)) {o : Nat} {K : Sh} {n : Nat} {J : Jm} {R : Rf} (ho : (K o).1 = 13) (res : Int32 × Im) (x1 : Int32) (x2 : Int32) (x3 : Int32) (I : Im) (E : f_X12_size K R o x1 x2 x3 I = some res) : VW D cA bs Z p l e rX12_size s m args below meth c 9 [(0, va_rf (some o)), (1, .int x1), (2, .int x2), (3, .int x3)] K n I J R 0 0 (MQ below (QX D cA bs Z (some (.int res.1)) K n res.2 J R) args s 0 0 (fun q => bs ≤ q)) 0 [] := by
  unfold f_X12_size at E
  refine v_aload_n (r := (some o)) C 0 dX12_size_0 rfl ?_
  refine v_iload_n C 2 dX12_size_1 rfl ?_
  obtain ⟨q14, h15, E⟩ := bnd E
  refine v_callV (r := (some o)) (As := [.int x2]) (rv := (some (.int q14))) (st := []) (st1 := [.int q14]) (ce1 := 0) (sl1 := 0) C cv_X12_329 (c_X12_isRule (x1 := x2) ho h15) rfl ho rfl rfl ⟨rfl, rfl, Nat.le_of_ble_eq_true rfl, Nat.le_of_ble_eq_true rfl⟩ ⟨Nat.le_of_ble_eq_true rfl, Nat.le_of_ble_eq_true rfl⟩ (Nat.le_of_ble_eq_true rfl) rfl rfl rfl dX12_size_2 ?_
  refine v_if_eq C 18 E dX12_size_5 rfl (fun c23 E => ?_) (fun c23 E => ?_)
  · refine v_iconst C dX12_size_18 k_iconst_m1 ?_
    obtain rfl := Option.some.inj E
    exact v_iret C rfl dX12_size_19
  · refine v_aload_n (r := (some o)) C 0 dX12_size_8 rfl ?_
    refine v_iload_n C 3 dX12_size_9 rfl ?_
    refine v_iconst C dX12_size_10 k_iconst_0 ?_
    refine v_iconst C dX12_size_11 k_iconst_1 ?_
    obtain ⟨q16, h17, E⟩ := bnd E
    refine v_callV (r := (some o)) (As := [.int x3, .int 0, .int 1]) (rv := (some (.int q16))) (st := []) (st1 := [.int q16]) (ce1 := 0) (sl1 := 0) C cv_X12_233 (c_X12_in (x1 := x3) (x2 := 0) (x3 := 1) ho h17) rfl ho rfl rfl ⟨rfl, rfl, Nat.le_of_ble_eq_true rfl, Nat.le_of_ble_eq_true rfl⟩ ⟨Nat.le_of_ble_eq_true rfl, Nat.le_of_ble_eq_true rfl⟩ (Nat.le_of_ble_eq_true rfl) rfl rfl rfl dX12_size_12 ?_
    refine v_if_ne C 20 E dX12_size_15 rfl (fun c22 E => ?_) (fun c22 E => ?_)
    · refine v_iconst C dX12_size_18 k_iconst_m1 ?_
      obtain rfl := Option.some.inj E
      exact v_iret C rfl dX12_size_19
    · refine v_aload_n (r := (some o)) C 0 dX12_size_20 rfl ?_
      refine v_iload_n C 1 dX12_size_21 rfl ?_
      refine v_iconst C dX12_size_22 k_iconst_0 ?_
      refine v_bipush C dX12_size_23 k_bipush_99 ?_
      obtain ⟨q18, h19, E⟩ := bnd E
      refine v_callV (r := (some o)) (As := [.int x1, .int 0, .int 99]) (rv := (some (.int q18))) (st := []) (st1 := [.int q18]) (ce1 := 0) (sl1 := 0) C cv_X12_233 (c_X12_in (x1 := x1) (x2 := 0) (x3 := 99) ho h19) rfl ho rfl rfl ⟨rfl, rfl, Nat.le_of_ble_eq_true rfl, Nat.le_of_ble_eq_true rfl⟩ ⟨Nat.le_of_ble_eq_true rfl, Nat.le_of_ble_eq_true rfl⟩ (Nat.le_of_ble_eq_true rfl) rfl rfl rfl dX12_size_25 ?_
      refine v_if_ne C 34 E dX12_size_28 rfl (fun c21 E => ?_) (fun c21 E => ?_)
      · refine v_bipush C dX12_size_31 k_bipush_m2 ?_
        obtain rfl := Option.some.inj E
        exact v_iret C rfl dX12_size_33
      · refine v_aload_n (r := (some o)) C 0 dX12_size_34 rfl ?_
        refine v_getI (r := (some o)) C fa_X12_13 rfl rfl ho dX12_size_35 ?_
        refine v_if_ge C 44 E dX12_size_38 rfl (fun c20 E => ?_) (fun c20 E => ?_)
        · refine v_iconst C dX12_size_44 k_iconst_0 ?_
          refine v_istore C [(4, .int 0), (0, va_rf (some o)), (1, .int x1), (2, .int x2), (3, .int x3)] dX12_size_45 (Nat.le_of_ble_eq_true rfl) rfl ?_
          refine v_iconst C dX12_size_47 k_iconst_m1 ?_
          refine v_istore C [(5, .int (-1)), (4, .int 0), (0, va_rf (some o)), (1, .int x1), (2, .int x2), (3, .int x3)] dX12_size_48 (Nat.le_of_ble_eq_true rfl) rfl ?_
          refine v_iconst C dX12_size_50 k_iconst_0 ?_
          refine v_istore C [(6, .int 0), (5, .int (-1)), (4, .int 0), (0, va_rf (some o)), (1, .int x1), (2, .int x2), (3, .int x3)] dX12_size_51 (Nat.le_of_ble_eq_true rfl) rfl ?_
          refine v_iconst C dX12_size_53 k_iconst_1 ?_
          refine v_istore C [(7, .int 1), (6, .int 0), (5, .int (-1)), (4, .int 0), (0, va_rf (some o)), (1, .int x1), (2, .int x2), (3, .int x3)] dX12_size_54 (Nat.le_of_ble_eq_true rfl) rfl ?_
          exact v_sub [4, 5, 6, 7, 3, 2, 1, 0] [(0, va_rf (some o)), (1, .int x1), (2, .int x2), (3, .int x3), (4, .int 0), (5, .int (-1)), (6, .int 0), (7, .int 1)] rfl (w_X12_size_56 C ho res  _ _ _ _ _ _ _ _ _ E)
        · refine v_bipush C dX12_size_41 k_bipush_m3 ?_
          obtain rfl := Option.some.inj E
          exact v_iret C rfl dX12_size_43
set_option maxHeartbeats 4000000 in
theorem c_X12_size {n : Nat} {K : Sh} {I : Im} {J : Jm} {R : Rf} {o : Nat} {x1 : Int32} {x2 : Int32} {x3 : Int32} (ho : (K o).1 = 13) {res : Int32 × Im} (E : f_X12_size K R o x1 x2 x3 I = some res) : Met l yX12_size (Cond.code yX12_size cX12_size 9 (some .int) :: tb) rX12_size (PX D cA bs Z [.ref o, .int x1, .int x2, .int x3] K n I J R) (QX D cA bs Z (some (.int res.1)) K n res.2 J R) 0 0 (fun q => bs ≤ q) := by
  refine met_of (lv1 := [(0, va_rf (some o)), (1, .int x1), (2, .int x2), (3, .int x3)]) pn_X12 (by exact Nat.le_of_ble_eq_true rfl) (by rfl) ?_
  intro p e s m args below meth c C hn
  exact v_sub [0, 1, 2, 3] [(0, va_rf (some o)), (1, .int x1), (2, .int x2), (3, .int x3)] rfl (w_X12_size_0 C ho _ _ _ _ _ E)
set_option maxHeartbeats 4000000 in
theorem w_X12_several_0 (C : Cx D cA bs Z p s m args meth c cX12_several RX12 2 (some .int)) {o : Nat} {K : Sh} {n : Nat} {J : Jm} {R : Rf} (ho : (K o).1 = 13) (res : Int32 × Im) (x1 : Int32) (I : Im) (E : f_X12_several K R o x1 I = some res) : VW D cA bs Z p l e rX12_several s m args below meth c 2 [(0, va_rf (some o)), (1, .int x1)] K n I J R 0 0 (MQ below (QX D cA bs Z (some (.int res.1)) K n res.2 J R) args s 0 0 (fun q => bs ≤ q)) 0 [] := by
  unfold f_X12_several at E
  refine v_iload_n C 1 dX12_several_0 rfl ?_
  refine v_iconst C dX12_several_1 k_iconst_m1 ?_
  refine v_icmp_ne C 12 E dX12_several_2 rfl (fun c8 E => ?_) (fun c8 E => ?_)
  · refine v_aload_n (r := (some o)) C 0 dX12_several_5 rfl ?_
    refine v_iconst C dX12_several_6 k_iconst_0 ?_
    refine v_putI (r := (some o)) C fa_X12_165 rfl E rfl ho ⟨rfl, rfl⟩ dX12_several_7 (fun I7 _ E => ?_)
    refine v_iconst C dX12_several_10 k_iconst_0 ?_
    obtain rfl := Option.some.inj E
    exact v_iret C rfl dX12_several_11
  · refine v_aload_n (r := (some o)) C 0 dX12_several_12 rfl ?_
    refine v_iload_n C 1 dX12_several_13 rfl ?_
    obtain ⟨q1, h2, E⟩ := bnd E
    refine v_callV (r := (some o)) (As := [.int x1]) (rv := (some (.int q1))) (st := []) (st1 := [.int q1]) (ce1 := 0) (sl1 := 0) C cv_X12_358 (c_X12_isCaravan (x1 := x1) ho h2) rfl ho rfl rfl ⟨rfl, rfl, Nat.le_of_ble_eq_true rfl, Nat.le_of_ble_eq_true rfl⟩ ⟨Nat.le_of_ble_eq_true rfl, Nat.le_of_ble_eq_true rfl⟩ (Nat.le_of_ble_eq_true rfl) rfl rfl rfl dX12_several_14 ?_
    refine v_if_ne C 22 E dX12_several_17 rfl (fun c6 E => ?_) (fun c6 E => ?_)
    · refine v_iconst C dX12_several_20 k_iconst_m1 ?_
      obtain rfl := Option.some.inj E
      exact v_iret C rfl dX12_several_21
    · refine v_aload_n (r := (some o)) C 0 dX12_several_22 rfl ?_
      refine v_getI (r := (some o)) C fa_X12_165 rfl rfl ho dX12_several_23 ?_
      refine v_iconst C dX12_several_26 k_iconst_3 ?_
      refine v_icmp_ne C 33 E dX12_several_27 rfl (fun c5 E => ?_) (fun c5 E => ?_)
      · refine v_bipush C dX12_several_30 k_bipush_m4 ?_
        obtain rfl := Option.some.inj E
        exact v_iret C rfl dX12_several_32
      · refine v_aload_n (r := (some o)) C 0 dX12_several_33 rfl ?_
        refine v_getR (r := (some o)) C fa_X12_168 rfl rfl ho dX12_several_34 ?_
        refine v_aload_n (r := (some o)) C 0 dX12_several_37 rfl ?_
        refine v_getI (r := (some o)) C fa_X12_165 rfl rfl ho dX12_several_38 ?_
        refine v_iload_n C 1 dX12_several_41 rfl ?_
        refine v_iast (r := (R o 52)) C E dX12_several_42 (fun I3 _ E => ?_)
        refine v_aload_n (r := (some o)) C 0 dX12_several_43 rfl ?_
        refine v_dup C dX12_several_44 (rf_cat _) ?_
        refine v_getI (r := (some o)) C fa_X12_165 rfl rfl ho dX12_several_45 ?_
        refine v_iconst C dX12_several_48 k_iconst_1 ?_
        refine v_iadd C dX12_several_49 ?_
        refine v_putI (r := (some o)) C fa_X12_165 rfl E rfl ho ⟨rfl, rfl⟩ dX12_several_50 (fun I4 _ E => ?_)
        refine v_aload_n (r := (some o)) C 0 dX12_several_53 rfl ?_
        refine v_getI (r := (some o)) C fa_X12_165 rfl rfl ho dX12_several_54 ?_
        obtain rfl := Option.some.inj E
        exact v_iret C rfl dX12_several_57
set_option maxHeartbeats 4000000 in
theorem c_X12_several {n : Nat} {K : Sh} {I : Im} {J : Jm} {R : Rf} {o : Nat} {x1 : Int32} (ho : (K o).1 = 13) {res : Int32 × Im} (E : f_X12_several K R o x1 I = some res) : Met l yX12_several (Cond.code yX12_several cX12_several 2 (some .int) :: tb) rX12_several (PX D cA bs Z [.ref o, .int x1] K n I J R) (QX D cA bs Z (some (.int res.1)) K n res.2 J R) 0 0 (fun q => bs ≤ q) := by
  refine met_of (lv1 := [(0, va_rf (some o)), (1, .int x1)]) pn_X12 (by exact Nat.le_of_ble_eq_true rfl) (by rfl) ?_
  intro p e s m args below meth c C hn
  exact v_sub [0, 1] [(0, va_rf (some o)), (1, .int x1)] rfl (w_X12_several_0 C ho _ _ _ E)
set_option maxHeartbeats 4000000 in
theorem w_X12_goAll_108 (C : Cx D cA bs Z p s m args meth c cX12_goAll RX12 3 none) {o : Nat} {K : Sh} {n : Nat} {J : Jm} {R : Rf} (ho : (K o).1 = 13) (res : Im) (r17 : Int32 → Im → Option (Im)) (hr17 : ∀ (x1 : Int32) (I : Im), r17 x1 I = some res → VW D cA bs Z p l e rX12_goAll s m args below meth c 3 [(0, va_rf (some o)), (1, .int x1)] K n I J R 0 0 (MQ below (QX D cA bs Z none K n res J R) args s 0 0 (fun q => bs ≤ q)) 17 []) (x1 : Int32) (s0 : Option Nat) (s1 : Int32) (I : Im) (E : f_X12_goAll_108 K R o r17 x1 s0 s1 I = some res) : VW D cA bs Z p l e rX12_goAll s m args below meth c 3 [(0, va_rf (some o)), (1, .int x1)] K n I J R 0 0 (MQ below (QX D cA bs Z none K n res J R) args s 0 0 (fun q => bs ≤ q)) 108 [.int s1, va_rf s0] := by
  unfold f_X12_goAll_108 at E
  obtain ⟨a1, h2, E⟩ := bnd E
  obtain ⟨hra1, hoa1⟩ := ob_is h2
  refine v_putI (r := s0) C fa_X12_183 rfl E hra1 hoa1 ⟨rfl, rfl⟩ dX12_goAll_108 (fun I3 _ E => ?_)
  refine v_iinc (v := x1 + 1) C 1 [(1, .int (x1 + 1)), (0, va_rf (some o))] dX12_goAll_111 rfl (k_inc_1 _) (Nat.le_of_ble_eq_true rfl) rfl ?_
  refine v_goto C 17 dX12_goAll_114 rfl ?_
  exact v_sub [1, 0] [(0, va_rf (some o)), (1, .int (x1 + 1))] rfl (hr17 _ _ E)
set_option maxHeartbeats 4000000 in
theorem w_X12_goAll_81 (C : Cx D cA bs Z p s m args meth c cX12_goAll RX12 3 none) {o : Nat} {K : Sh} {n : Nat} {J : Jm} {R : Rf} (ho : (K o).1 = 13) (res : Im) (r17 : Int32 → Im → Option (Im)) (hr17 : ∀ (x1 : Int32) (I : Im), r17 x1 I = some res → VW D cA bs Z p l e rX12_goAll s m args below meth c 3 [(0, va_rf (some o)), (1, .int x1)] K n I J R 0 0 (MQ below (QX D cA bs Z none K n res J R) args s 0 0 (fun q => bs ≤ q)) 17 []) (x1 : Int32) (s0 : Option Nat) (s1 : Int32) (s2 : Int32) (I : Im) (E : f_X12_goAll_81 K R o r17 x1 s0 s1 s2 I = some res) : VW D cA bs Z p l e rX12_goAll s m args below meth c 3 [(0, va_rf (some o)), (1, .int x1)] K n I J R 0 0 (MQ below (QX D cA bs Z none K n res J R) args s 0 0 (fun q => bs ≤ q)) 81 [.int s2, .int s1, va_rf s0] := by
  unfold f_X12_goAll_81 at E
  refine v_iadd C dX12_goAll_81 ?_
  obtain ⟨a4, h5, E⟩ := bnd E
  obtain ⟨hra4, hoa4⟩ := ob_is h5
  refine v_putI (r := s0) C fa_X12_180 rfl E hra4 hoa4 ⟨rfl, rfl⟩ dX12_goAll_82 (fun I6 _ E => ?_)
  refine v_aload_n (r := (some o)) C 0 dX12_goAll_85 rfl ?_
  refine v_aload_n (r := (some o)) C 0 dX12_goAll_86 rfl ?_
  refine v_getI (r := (some o)) C fa_X12_162 rfl rfl ho dX12_goAll_87 ?_
  refine v_aload_n (r := (some o)) C 0 dX12_goAll_90 rfl ?_
  refine v_getI (r := (some o)) C fa_X12_183 rfl rfl ho dX12_goAll_91 ?_
  refine v_icmp_le C 104 E dX12_goAll_94 rfl (fun c7 E => ?_) (fun c7 E => ?_)
  · refine v_aload_n (r := (some o)) C 0 dX12_goAll_104 rfl ?_
    refine v_getI (r := (some o)) C fa_X12_183 rfl rfl ho dX12_goAll_105 ?_
    exact v_sub [0, 1] [(0, va_rf (some o)), (1, .int x1)] rfl (w_X12_goAll_108 C ho res _ hr17 _ _ _ _ E)
  · refine v_aload_n (r := (some o)) C 0 dX12_goAll_97 rfl ?_
    refine v_getI (r := (some o)) C fa_X12_162 rfl rfl ho dX12_goAll_98 ?_
    refine v_goto C 108 dX12_goAll_101 rfl ?_
    exact v_sub [0, 1] [(0, va_rf (some o)), (1, .int x1)] rfl (w_X12_goAll_108 C ho res _ hr17 _ _ _ _ E)
set_option maxHeartbeats 4000000 in
theorem w_X12_goAll_17 (C : Cx D cA bs Z p s m args meth c cX12_goAll RX12 3 none) {o : Nat} {K : Sh} {n : Nat} {J : Jm} {R : Rf} (ho : (K o).1 = 13) (res : Im)  : ∀ (k : Nat), ∀ (x1 : Int32) (I : Im), f_X12_goAll_17 K R o k x1 I = some res → VW D cA bs Z p l e rX12_goAll s m args below meth c 3 [(0, va_rf (some o)), (1, .int x1)] K n I J R 0 0 (MQ below (QX D cA bs Z none K n res J R) args s 0 0 (fun q => bs ≤ q)) 17 [] := by
  intro k
  induction k with
  | zero =>
    intro x1 I E
    have E : (none : Option (Im)) = some res := E
    cases E
  | succ k ih =>
    intro x1 I E
    unfold f_X12_goAll_17 at E
    refine v_iload_n C 1 dX12_goAll_17 rfl ?_
    refine v_aload_n (r := (some o)) C 0 dX12_goAll_18 rfl ?_
    refine v_getI (r := (some o)) C fa_X12_165 rfl rfl ho dX12_goAll_19 ?_
    refine v_icmp_ge C 117 E dX12_goAll_22 rfl (fun c17 E => ?_) (fun c17 E => ?_)
    · obtain rfl := Option.some.inj E
      exact v_vret C rfl dX12_goAll_117
    · refine v_aload_n (r := (some o)) C 0 dX12_goAll_25 rfl ?_
      refine v_getR (r := (some o)) C fa_X12_168 rfl rfl ho dX12_goAll_26 ?_
      refine v_aload_n (r := (some o)) C 0 dX12_goAll_29 rfl ?_
      refine v_getR (r := (some o)) C fa_X12_174 rfl rfl ho dX12_goAll_30 ?_
      refine v_iload_n C 1 dX12_goAll_33 rfl ?_
      refine v_iald (r := (R o 54)) C E dX12_goAll_34 (fun v8 _ E => ?_)
      refine v_iald (r := (R o 52)) C E dX12_goAll_35 (fun v9 _ E => ?_)
      refine v_istore_n C [(2, .int v9), (0, va_rf (some o)), (1, .int x1)] dX12_goAll_36 (Nat.le_of_ble_eq_true rfl) rfl ?_
      refine v_aload_n (r := (some o)) C 1 dX12_goAll_37 rfl ?_
      refine v_iload_n C 0 dX12_goAll_38 rfl ?_
      obtain ⟨q10, h11, E⟩ := bnd E
      refine v_callV (r := (some o)) (As := [.int v9]) (rv := none) (st := []) (st1 := []) (ce1 := 0) (sl1 := 0) C cv_X12_364 (c_X12_goCaravan (x1 := v9) ho h11) rfl ho rfl rfl ⟨rfl, rfl, Nat.le_of_ble_eq_true rfl, Nat.le_of_ble_eq_true rfl⟩ ⟨Nat.le_of_ble_eq_true rfl, Nat.le_of_ble_eq_true rfl⟩ (Nat.le_of_ble_eq_true rfl) rfl rfl rfl dX12_goAll_39 ?_
      refine v_aload_n (r := (some o)) C 1 dX12_goAll_42 rfl ?_
      refine v_getR (r := (some o)) C fa_X12_171 rfl rfl ho dX12_goAll_43 ?_
      refine v_iload_n C 2 dX12_goAll_46 rfl ?_
      refine v_aload_n (r := (some o)) C 1 dX12_goAll_47 rfl ?_
      refine v_getI (r := (some o)) C fa_X12_162 rfl rfl ho dX12_goAll_48 ?_
      refine v_iast (r := (R o 53)) C E dX12_goAll_51 (fun I12 _ E => ?_)
      refine v_aload_n (r := (some o)) C 1 dX12_goAll_52 rfl ?_
      refine v_dup C dX12_goAll_53 (rf_cat _) ?_
      refine v_getI (r := (some o)) C fa_X12_180 rfl rfl ho dX12_goAll_54 ?_
      refine v_aload_n (r := (some o)) C 1 dX12_goAll_57 rfl ?_
      refine v_getI (r := (some o)) C fa_X12_162 rfl rfl ho dX12_goAll_58 ?_
      refine v_if_ge C 68 E dX12_goAll_61 rfl (fun c16 E => ?_) (fun c16 E => ?_)
      · refine v_aload_n (r := (some o)) C 1 dX12_goAll_68 rfl ?_
        refine v_getR (r := (some o)) C fa_X12_114 rfl rfl ho dX12_goAll_69 ?_
        refine v_iload_n C 0 dX12_goAll_72 rfl ?_
        refine v_iald (r := (R o 34)) C E dX12_goAll_73 (fun v13 _ E => ?_)
        refine v_aload_n (r := (some o)) C 1 dX12_goAll_74 rfl ?_
        refine v_iconst C dX12_goAll_75 k_iconst_4 ?_
        refine v_iconst C dX12_goAll_76 k_iconst_1 ?_
        obtain ⟨q14, h15, E⟩ := bnd E
        refine v_callV (r := (some o)) (As := [.int 4, .int 1]) (rv := (some (.int q14))) (st := [.int v13, .int (I12 o 56), va_rf (some o)]) (st1 := [.int q14, .int v13, .int (I12 o 56), va_rf (some o)]) (ce1 := 0) (sl1 := 0) C cv_X12_316 (c_X12_last (x1 := 4) (x2 := 1) ho h15) rfl ho rfl rfl ⟨rfl, rfl, Nat.le_of_ble_eq_true rfl, Nat.le_of_ble_eq_true rfl⟩ ⟨Nat.le_of_ble_eq_true rfl, Nat.le_of_ble_eq_true rfl⟩ (by simp only [List.map_cons, List.map_nil, List.sum_cons, List.sum_nil, rf_cat]; exact Nat.le_of_ble_eq_true rfl) rfl rfl rfl dX12_goAll_77 ?_
        refine v_imul C dX12_goAll_80 ?_
        exact v_sub [1, 2] [(0, va_rf (some o)), (1, .int x1)] rfl (w_X12_goAll_81 C ho res _ ih _ _ _ _ _ E)
      · refine v_iconst C dX12_goAll_64 k_iconst_0 ?_
        refine v_goto C 81 dX12_goAll_65 rfl ?_
        exact v_sub [1, 2] [(0, va_rf (some o)), (1, .int x1)] rfl (w_X12_goAll_81 C ho res _ ih _ _ _ _ _ E)
set_option maxHeartbeats 4000000 in
theorem w_X12_goAll_0 (C : Cx D cA bs Z p s m args meth c cX12_goAll RX12 3 none) {o : Nat} {K : Sh} {n : Nat} {J : Jm} {R : Rf} (ho : (K o).1 = 13) (res : Im) (I : Im) (E : f_X12_goAll K R o I = some res) : VW D cA bs Z p l e rX12_goAll s m args below meth c 3 [(0, va_rf (some o))] K n I J R 0 0 (MQ below (QX D cA bs Z none K n res J R) args s 0 0 (fun q => bs ≤ q)) 0 [] := by
  unfold f_X12_goAll at E
  refine v_aload_n (r := (some o)) C 0 dX12_goAll_0 rfl ?_
  obtain ⟨q18, h19, E⟩ := bnd E
  refine v_callV (r := (some o)) (As := []) (rv := none) (st := []) (st1 := []) (ce1 := 0) (sl1 := 0) C cv_X12_306 (c_X12_lay  ho h19) rfl ho rfl rfl ⟨rfl, rfl, Nat.le_of_ble_eq_true rfl, Nat.le_of_ble_eq_true rfl⟩ ⟨Nat.le_of_ble_eq_true rfl, Nat.le_of_ble_eq_true rfl⟩ (Nat.le_of_ble_eq_true rfl) rfl rfl rfl dX12_goAll_1 ?_
  refine v_aload_n (r := (some o)) C 0 dX12_goAll_4 rfl ?_
  refine v_iconst C dX12_goAll_5 k_iconst_0 ?_
  refine v_putI (r := (some o)) C fa_X12_180 rfl E rfl ho ⟨rfl, rfl⟩ dX12_goAll_6 (fun I20 _ E => ?_)
  refine v_aload_n (r := (some o)) C 0 dX12_goAll_9 rfl ?_
  refine v_bipush C dX12_goAll_10 k_bipush_m5 ?_
  refine v_putI (r := (some o)) C fa_X12_183 rfl E rfl ho ⟨rfl, rfl⟩ dX12_goAll_12 (fun I21 _ E => ?_)
  refine v_iconst C dX12_goAll_15 k_iconst_0 ?_
  refine v_istore_n C [(1, .int 0), (0, va_rf (some o))] dX12_goAll_16 (Nat.le_of_ble_eq_true rfl) rfl ?_
  exact v_sub [1, 0] [(0, va_rf (some o)), (1, .int 0)] rfl (w_X12_goAll_17 C ho res  _ _ _ E)
set_option maxHeartbeats 4000000 in
theorem c_X12_goAll {n : Nat} {K : Sh} {I : Im} {J : Jm} {R : Rf} {o : Nat}  (ho : (K o).1 = 13) {res : Im} (E : f_X12_goAll K R o I = some res) : Met l yX12_goAll (Cond.code yX12_goAll cX12_goAll 3 none :: tb) rX12_goAll (PX D cA bs Z [.ref o] K n I J R) (QX D cA bs Z none K n res J R) 0 0 (fun q => bs ≤ q) := by
  refine met_of (lv1 := [(0, va_rf (some o))]) pn_X12 (by exact Nat.le_of_ble_eq_true rfl) (by rfl) ?_
  intro p e s m args below meth c C hn
  exact v_sub [0] [(0, va_rf (some o))] rfl (w_X12_goAll_0 C ho _ _ E)
set_option maxHeartbeats 4000000 in
theorem w_X12_findOrder_148 (C : Cx D cA bs Z p s m args meth c cX12_findOrder RX12 8 (some .int)) {o : Nat} {K : Sh} {n : Nat} {J : Jm} {R : Rf} (ho : (K o).1 = 13) (res : Int32 × Im) (r6 : Int32 → Int32 → Int32 → Im → Option (Int32 × Im)) (hr6 : ∀ (x1 : Int32) (x2 : Int32) (x3 : Int32) (I : Im), r6 x1 x2 x3 I = some res → VW D cA bs Z p l e rX12_findOrder s m args below meth c 8 [(0, va_rf (some o)), (1, .int x1), (2, .int x2), (3, .int x3)] K n I J R 0 0 (MQ below (QX D cA bs Z (some (.int res.1)) K n res.2 J R) args s 0 0 (fun q => bs ≤ q)) 6 [])  : ∀ (k : Nat), ∀ (x1 : Int32) (x2 : Int32) (x3 : Int32) (x7 : Int32) (I : Im), f_X12_findOrder_148 K R o r6 k x1 x2 x3 x7 I = some res → VW D cA bs Z p l e rX12_findOrder s m args below meth c 8 [(0, va_rf (some o)), (1, .int x1), (2, .int x2), (3, .int x3), (7, .int x7)] K n I J R 0 0 (MQ below (QX D cA bs Z (some (.int res.1)) K n res.2 J R) args s 0 0 (fun q => bs ≤ q)) 148 [] := by
  intro k
  induction k with
  | zero =>
    intro x1 x2 x3 x7 I E
    have E : (none : Option (Int32 × Im)) = some res := E
    cases E
  | succ k ih =>
    intro x1 x2 x3 x7 I E
    unfold f_X12_findOrder_148 at E
    refine v_iload C 4 dX12_findOrder_148 rfl ?_
    refine v_aload_n (r := (some o)) C 0 dX12_findOrder_150 rfl ?_
    refine v_getI (r := (some o)) C fa_X12_165 rfl rfl ho dX12_findOrder_151 ?_
    refine v_icmp_ge C 177 E dX12_findOrder_154 rfl (fun c3 E => ?_) (fun c3 E => ?_)
    · refine v_iinc (v := x3 + 1) C 3 [(3, .int (x3 + 1)), (0, va_rf (some o)), (1, .int x1), (2, .int x2), (7, .int x7)] dX12_findOrder_177 rfl (k_inc_1 _) (Nat.le_of_ble_eq_true rfl) rfl ?_
      refine v_goto C 6 dX12_findOrder_180 rfl ?_
      exact v_sub [1, 2, 3, 0] [(0, va_rf (some o)), (1, .int x1), (2, .int x2), (3, .int (x3 + 1))] rfl (hr6 _ _ _ _ E)
    · refine v_aload_n (r := (some o)) C 0 dX12_findOrder_157 rfl ?_
      refine v_getR (r := (some o)) C fa_X12_177 rfl rfl ho dX12_findOrder_158 ?_
      refine v_iload C 4 dX12_findOrder_161 rfl ?_
      refine v_aload_n (r := (some o)) C 0 dX12_findOrder_163 rfl ?_
      refine v_getR (r := (some o)) C fa_X12_174 rfl rfl ho dX12_findOrder_164 ?_
      refine v_iload C 4 dX12_findOrder_167 rfl ?_
      refine v_iald (r := (R o 54)) C E dX12_findOrder_169 (fun v1 _ E => ?_)
      refine v_iast (r := (R o 55)) C E dX12_findOrder_170 (fun I2 _ E => ?_)
      refine v_iinc (v := x7 + 1) C 4 [(7, .int (x7 + 1)), (0, va_rf (some o)), (1, .int x1), (2, .int x2), (3, .int x3)] dX12_findOrder_171 rfl (k_inc_1 _) (Nat.le_of_ble_eq_true rfl) rfl ?_
      refine v_goto C 148 dX12_findOrder_174 rfl ?_
      exact v_sub [1, 2, 3, 4, 0] [(0, va_rf (some o)), (1, .int x1), (2, .int x2), (3, .int x3), (7, .int (x7 + 1))] rfl (ih _ _ _ _ _ E)
set_option maxHeartbeats 4000000 in
theorem w_X12_findOrder_137 (C : Cx D cA bs Z p s m args meth c cX12_findOrder RX12 8 (some .int)) {o : Nat} {K : Sh} {n : Nat} {J : Jm} {R : Rf} (ho : (K o).1 = 13) (res : Int32 × Im) (r6 : Int32 → Int32 → Int32 → Im → Option (Int32 × Im)) (hr6 : ∀ (x1 : Int32) (x2 : Int32) (x3 : Int32) (I : Im), r6 x1 x2 x3 I = some res → VW D cA bs Z p l e rX12_findOrder s m args below meth c 8 [(0, va_rf (some o)), (1, .int x1), (2, .int x2), (3, .int x3)] K n I J R 0 0 (MQ below (QX D cA bs Z (some (.int res.1)) K n res.2 J R) args s 0 0 (fun q => bs ≤ q)) 6 []) (x3 : Int32) (x6 : Int32) (I : Im) (E : f_X12_findOrder_137 K R o r6 x3 x6 I = some res) : VW D cA bs Z p l e rX12_findOrder s m args below meth c 8 [(0, va_rf (some o)), (3, .int x3), (6, .int x6)] K n I J R 0 0 (MQ below (QX D cA bs Z (some (.int res.1)) K n res.2 J R) args s 0 0 (fun q => bs ≤ q)) 137 [] := by
  unfold f_X12_findOrder_137 at E
  refine v_aload_n (r := (some o)) C 0 dX12_findOrder_137 rfl ?_
  refine v_getI (r := (some o)) C fa_X12_180 rfl rfl ho dX12_findOrder_138 ?_
  refine v_istore_n C [(1, .int (I o 56)), (0, va_rf (some o)), (3, .int x3), (6, .int x6)] dX12_findOrder_141 (Nat.le_of_ble_eq_true rfl) rfl ?_
  refine v_iload C 3 dX12_findOrder_142 rfl ?_
  refine v_istore_n C [(2, .int x6), (1, .int (I o 56)), (0, va_rf (some o)), (3, .int x3), (6, .int x6)] dX12_findOrder_144 (Nat.le_of_ble_eq_true rfl) rfl ?_
  refine v_iconst C dX12_findOrder_145 k_iconst_0 ?_
  refine v_istore C [(7, .int 0), (2, .int x6), (1, .int (I o 56)), (0, va_rf (some o)), (3, .int x3), (6, .int x6)] dX12_findOrder_146 (Nat.le_of_ble_eq_true rfl) rfl ?_
  exact v_sub [3, 2, 1, 4, 0] [(0, va_rf (some o)), (1, .int (I o 56)), (2, .int x6), (3, .int x3), (7, .int 0)] rfl (w_X12_findOrder_148 C ho res _ hr6 _ _ _ _ _ _ E)
set_option maxHeartbeats 4000000 in
theorem w_X12_findOrder_110 (C : Cx D cA bs Z p s m args meth c cX12_findOrder RX12 8 (some .int)) {o : Nat} {K : Sh} {n : Nat} {J : Jm} {R : Rf} (ho : (K o).1 = 13) (res : Int32 × Im) (r6 : Int32 → Int32 → Int32 → Im → Option (Int32 × Im)) (hr6 : ∀ (x1 : Int32) (x2 : Int32) (x3 : Int32) (I : Im), r6 x1 x2 x3 I = some res → VW D cA bs Z p l e rX12_findOrder s m args below meth c 8 [(0, va_rf (some o)), (1, .int x1), (2, .int x2), (3, .int x3)] K n I J R 0 0 (MQ below (QX D cA bs Z (some (.int res.1)) K n res.2 J R) args s 0 0 (fun q => bs ≤ q)) 6 []) (x1 : Int32) (x2 : Int32) (x3 : Int32) (s0 : Int32) (I : Im) (E : f_X12_findOrder_110 K R o r6 x1 x2 x3 s0 I = some res) : VW D cA bs Z p l e rX12_findOrder s m args below meth c 8 [(0, va_rf (some o)), (1, .int x1), (2, .int x2), (3, .int x3)] K n I J R 0 0 (MQ below (QX D cA bs Z (some (.int res.1)) K n res.2 J R) args s 0 0 (fun q => bs ≤ q)) 110 [.int s0] := by
  unfold f_X12_findOrder_110 at E
  refine v_istore C [(6, .int s0), (0, va_rf (some o)), (1, .int x1), (2, .int x2), (3, .int x3)] dX12_findOrder_110 (Nat.le_of_ble_eq_true rfl) rfl ?_
  refine v_aload_n (r := (some o)) C 1 dX12_findOrder_112 rfl ?_
  refine v_getI (r := (some o)) C fa_X12_180 rfl rfl ho dX12_findOrder_113 ?_
  refine v_iload_n C 2 dX12_findOrder_116 rfl ?_
  refine v_icmp_lt C 177 E dX12_findOrder_117 rfl (fun c6 E => ?_) (fun c6 E => ?_)
  · refine v_iinc (v := x3 + 1) C 4 [(3, .int (x3 + 1)), (6, .int s0), (0, va_rf (some o)), (1, .int x1), (2, .int x2)] dX12_findOrder_177 rfl (k_inc_1 _) (Nat.le_of_ble_eq_true rfl) rfl ?_
    refine v_goto C 6 dX12_findOrder_180 rfl ?_
    exact v_sub [2, 3, 4, 0] [(0, va_rf (some o)), (1, .int x1), (2, .int x2), (3, .int (x3 + 1))] rfl (hr6 _ _ _ _ E)
  · refine v_aload_n (r := (some o)) C 1 dX12_findOrder_120 rfl ?_
    refine v_getI (r := (some o)) C fa_X12_180 rfl rfl ho dX12_findOrder_121 ?_
    refine v_iload_n C 2 dX12_findOrder_124 rfl ?_
    refine v_icmp_ne C 137 E dX12_findOrder_125 rfl (fun c5 E => ?_) (fun c5 E => ?_)
    · refine v_iload C 0 dX12_findOrder_128 rfl ?_
      refine v_iload_n C 3 dX12_findOrder_130 rfl ?_
      refine v_icmp_lt C 137 E dX12_findOrder_131 rfl (fun c4 E => ?_) (fun c4 E => ?_)
      · exact v_sub [1, 4, 0] [(0, va_rf (some o)), (3, .int x3), (6, .int s0)] rfl (w_X12_findOrder_137 C ho res _ hr6 _ _ _ E)
      · refine v_goto C 177 dX12_findOrder_134 rfl ?_
        refine v_iinc (v := x3 + 1) C 4 [(3, .int (x3 + 1)), (6, .int s0), (0, va_rf (some o)), (1, .int x1), (2, .int x2)] dX12_findOrder_177 rfl (k_inc_1 _) (Nat.le_of_ble_eq_true rfl) rfl ?_
        refine v_goto C 6 dX12_findOrder_180 rfl ?_
        exact v_sub [2, 3, 4, 0] [(0, va_rf (some o)), (1, .int x1), (2, .int x2), (3, .int (x3 + 1))] rfl (hr6 _ _ _ _ E)
    · exact v_sub [1, 4, 0] [(0, va_rf (some o)), (3, .int x3), (6, .int s0)] rfl (w_X12_findOrder_137 C ho res _ hr6 _ _ _ E)
set_option maxHeartbeats 4000000 in
theorem w_X12_findOrder_26 (C : Cx D cA bs Z p s m args meth c cX12_findOrder RX12 8 (some .int)) {o : Nat} {K : Sh} {n : Nat} {J : Jm} {R : Rf} (ho : (K o).1 = 13) (res : Int32 × Im) (r6 : Int32 → Int32 → Int32 → Im → Option (Int32 × Im)) (hr6 : ∀ (x1 : Int32) (x2 : Int32) (x3 : Int32) (I : Im), r6 x1 x2 x3 I = some res → VW D cA bs Z p l e rX12_findOrder s m args below meth c 8 [(0, va_rf (some o)), (1, .int x1), (2, .int x2), (3, .int x3)] K n I J R 0 0 (MQ below (QX D cA bs Z (some (.int res.1)) K n res.2 J R) args s 0 0 (fun q => bs ≤ q)) 6 [])  : ∀ (k : Nat), ∀ (x1 : Int32) (x2 : Int32) (x3 : Int32) (x4 : Int32) (x5 : Int32) (x6 : Int32) (I : Im), f_X12_findOrder_26 K R o r6 k x1 x2 x3 x4 x5 x6 I = some res → VW D cA bs Z p l e rX12_findOrder s m args below meth c 8 [(0, va_rf (some o)), (1, .int x1), (2, .int x2), (3, .int x3), (4, .int x4), (5, .int x5), (6, .int x6)] K n I J R 0 0 (MQ below (QX D cA bs Z (some (.int res.1)) K n res.2 J R) args s 0 0 (fun q => bs ≤ q)) 26 [] := by
  intro k
  induction k with
  | zero =>
    intro x1 x2 x3 x4 x5 x6 I E
    have E : (none : Option (Int32 × Im)) = some res := E
    cases E
  | succ k ih =>
    intro x1 x2 x3 x4 x5 x6 I E
    unfold f_X12_findOrder_26 at E
    refine v_iload C 6 dX12_findOrder_26 rfl ?_
    refine v_if_lt C 68 E dX12_findOrder_28 rfl (fun c14 E => ?_) (fun c14 E => ?_)
    · refine v_iload C 4 dX12_findOrder_68 rfl ?_
      refine v_if_gt C 177 E dX12_findOrder_70 rfl (fun c11 E => ?_) (fun c11 E => ?_)
      · refine v_iinc (v := x3 + 1) C 3 [(3, .int (x3 + 1)), (0, va_rf (some o)), (1, .int x1), (2, .int x2), (4, .int x4), (5, .int x5), (6, .int x6)] dX12_findOrder_177 rfl (k_inc_1 _) (Nat.le_of_ble_eq_true rfl) rfl ?_
        refine v_goto C 6 dX12_findOrder_180 rfl ?_
        exact v_sub [1, 2, 3, 0] [(0, va_rf (some o)), (1, .int x1), (2, .int x2), (3, .int (x3 + 1))] rfl (hr6 _ _ _ _ E)
      · refine v_iload C 5 dX12_findOrder_73 rfl ?_
        refine v_iconst C dX12_findOrder_75 k_iconst_1 ?_
        refine v_aload_n (r := (some o)) C 0 dX12_findOrder_76 rfl ?_
        refine v_getI (r := (some o)) C fa_X12_165 rfl rfl ho dX12_findOrder_77 ?_
        refine v_ishl C dX12_findOrder_80 ?_
        refine v_iconst C dX12_findOrder_81 k_iconst_1 ?_
        refine v_isub C dX12_findOrder_82 ?_
        refine v_icmp_eq C 89 E dX12_findOrder_83 rfl (fun c10 E => ?_) (fun c10 E => ?_)
        · refine v_aload_n (r := (some o)) C 0 dX12_findOrder_89 rfl ?_
          obtain ⟨q7, h8, E⟩ := bnd E
          refine v_callV (r := (some o)) (As := []) (rv := none) (st := []) (st1 := []) (ce1 := 0) (sl1 := 0) C cv_X12_370 (c_X12_goAll  ho h8) rfl ho rfl rfl ⟨rfl, rfl, Nat.le_of_ble_eq_true rfl, Nat.le_of_ble_eq_true rfl⟩ ⟨Nat.le_of_ble_eq_true rfl, Nat.le_of_ble_eq_true rfl⟩ (Nat.le_of_ble_eq_true rfl) rfl rfl rfl dX12_findOrder_90 ?_
          refine v_aload_n (r := (some o)) C 0 dX12_findOrder_93 rfl ?_
          refine v_getI (r := (some o)) C fa_X12_183 rfl rfl ho dX12_findOrder_94 ?_
          refine v_if_ge C 106 E dX12_findOrder_97 rfl (fun c9 E => ?_) (fun c9 E => ?_)
          · refine v_aload_n (r := (some o)) C 0 dX12_findOrder_106 rfl ?_
            refine v_getI (r := (some o)) C fa_X12_183 rfl rfl ho dX12_findOrder_107 ?_
            exact v_sub [0, 1, 2, 3] [(0, va_rf (some o)), (1, .int x1), (2, .int x2), (3, .int x3)] rfl (w_X12_findOrder_110 C ho res _ hr6 _ _ _ _ _ E)
          · refine v_ldcw C ct_X12_373 dX12_findOrder_100 ?_
            refine v_goto C 110 dX12_findOrder_103 rfl ?_
            exact v_sub [0, 1, 2, 3] [(0, va_rf (some o)), (1, .int x1), (2, .int x2), (3, .int x3)] rfl (w_X12_findOrder_110 C ho res _ hr6 _ _ _ _ _ E)
        · refine v_goto C 177 dX12_findOrder_86 rfl ?_
          refine v_iinc (v := x3 + 1) C 3 [(3, .int (x3 + 1)), (0, va_rf (some o)), (1, .int x1), (2, .int x2), (4, .int x4), (5, .int x5), (6, .int x6)] dX12_findOrder_177 rfl (k_inc_1 _) (Nat.le_of_ble_eq_true rfl) rfl ?_
          refine v_goto C 6 dX12_findOrder_180 rfl ?_
          exact v_sub [1, 2, 3, 0] [(0, va_rf (some o)), (1, .int x1), (2, .int x2), (3, .int (x3 + 1))] rfl (hr6 _ _ _ _ E)
    · refine v_aload_n (r := (some o)) C 0 dX12_findOrder_31 rfl ?_
      refine v_getR (r := (some o)) C fa_X12_174 rfl rfl ho dX12_findOrder_32 ?_
      refine v_iload C 6 dX12_findOrder_35 rfl ?_
      refine v_iload C 4 dX12_findOrder_37 rfl ?_
      refine v_iconst C dX12_findOrder_39 k_iconst_3 ?_
      refine v_irem C dX12_findOrder_40 k_nz_3 ?_
      refine v_iast (r := (R o 54)) C E dX12_findOrder_41 (fun I12 _ E => ?_)
      refine v_iload C 4 dX12_findOrder_42 rfl ?_
      refine v_iconst C dX12_findOrder_44 k_iconst_3 ?_
      refine v_idiv C dX12_findOrder_45 k_nz_3 ?_
      refine v_istore C [(4, .int (x4 / 3)), (0, va_rf (some o)), (1, .int x1), (2, .int x2), (3, .int x3), (5, .int x5), (6, .int x6)] dX12_findOrder_46 (Nat.le_of_ble_eq_true rfl) rfl ?_
      refine v_iload C 5 dX12_findOrder_48 rfl ?_
      refine v_iconst C dX12_findOrder_50 k_iconst_1 ?_
      refine v_aload_n (r := (some o)) C 1 dX12_findOrder_51 rfl ?_
      refine v_getR (r := (some o)) C fa_X12_174 rfl rfl ho dX12_findOrder_52 ?_
      refine v_iload C 6 dX12_findOrder_55 rfl ?_
      refine v_iald (r := (R o 54)) C E dX12_findOrder_57 (fun v13 _ E => ?_)
      refine v_ishl C dX12_findOrder_58 ?_
      refine v_ior C dX12_findOrder_59 ?_
      refine v_istore C [(5, .int (x5 ||| (ishl 1 v13))), (4, .int (x4 / 3)), (0, va_rf (some o)), (1, .int x1), (2, .int x2), (3, .int x3), (6, .int x6)] dX12_findOrder_60 (Nat.le_of_ble_eq_true rfl) rfl ?_
      refine v_iinc (v := x6 - 1) C 6 [(6, .int (x6 - 1)), (5, .int (x5 ||| (ishl 1 v13))), (4, .int (x4 / 3)), (0, va_rf (some o)), (1, .int x1), (2, .int x2), (3, .int x3)] dX12_findOrder_62 rfl (k_inc_m1 _) (Nat.le_of_ble_eq_true rfl) rfl ?_
      refine v_goto C 26 dX12_findOrder_65 rfl ?_
      exact v_sub [3, 4, 5, 6, 2, 1, 0] [(0, va_rf (some o)), (1, .int x1), (2, .int x2), (3, .int x3), (4, .int (x4 / 3)), (5, .int (x5 ||| (ishl 1 v13))), (6, .int (x6 - 1))] rfl (ih _ _ _ _ _ _ _ E)
set_option maxHeartbeats 4000000 in
theorem w_X12_findOrder_6 (C : Cx D cA bs Z p s m args meth c cX12_findOrder RX12 8 (some .int)) {o : Nat} {K : Sh} {n : Nat} {J : Jm} {R : Rf} (ho : (K o).1 = 13) (res : Int32 × Im)  : ∀ (k : Nat), ∀ (x1 : Int32) (x2 : Int32) (x3 : Int32) (I : Im), f_X12_findOrder_6 K R o k x1 x2 x3 I = some res → VW D cA bs Z p l e rX12_findOrder s m args below meth c 8 [(0, va_rf (some o)), (1, .int x1), (2, .int x2), (3, .int x3)] K n I J R 0 0 (MQ below (QX D cA bs Z (some (.int res.1)) K n res.2 J R) args s 0 0 (fun q => bs ≤ q)) 6 [] := by
  intro k
  induction k with
  | zero =>
    intro x1 x2 x3 I E
    have E : (none : Option (Int32 × Im)) = some res := E
    cases E
  | succ k ih =>
    intro x1 x2 x3 I E
    unfold f_X12_findOrder_6 at E
    refine v_iload_n C 3 dX12_findOrder_6 rfl ?_
    refine v_bipush C dX12_findOrder_7 k_bipush_27 ?_
    refine v_icmp_ge C 183 E dX12_findOrder_9 rfl (fun c15 E => ?_) (fun c15 E => ?_)
    · refine v_iload_n C 1 dX12_findOrder_183 rfl ?_
      obtain rfl := Option.some.inj E
      exact v_iret C rfl dX12_findOrder_184
    · refine v_iload_n C 3 dX12_findOrder_12 rfl ?_
      refine v_istore C [(4, .int x3), (0, va_rf (some o)), (1, .int x1), (2, .int x2), (3, .int x3)] dX12_findOrder_13 (Nat.le_of_ble_eq_true rfl) rfl ?_
      refine v_iconst C dX12_findOrder_15 k_iconst_0 ?_
      refine v_istore C [(5, .int 0), (4, .int x3), (0, va_rf (some o)), (1, .int x1), (2, .int x2), (3, .int x3)] dX12_findOrder_16 (Nat.le_of_ble_eq_true rfl) rfl ?_
      refine v_aload_n (r := (some o)) C 2 dX12_findOrder_18 rfl ?_
      refine v_getI (r := (some o)) C fa_X12_165 rfl rfl ho dX12_findOrder_19 ?_
      refine v_iconst C dX12_findOrder_22 k_iconst_1 ?_
      refine v_isub C dX12_findOrder_23 ?_
      refine v_istore C [(6, .int ((I o 51) - 1)), (5, .int 0), (4, .int x3), (0, va_rf (some o)), (1, .int x1), (2, .int x2), (3, .int x3)] dX12_findOrder_24 (Nat.le_of_ble_eq_true rfl) rfl ?_
      exact v_sub [3, 4, 5, 6, 2, 1, 0] [(0, va_rf (some o)), (1, .int x1), (2, .int x2), (3, .int x3), (4, .int x3), (5, .int 0), (6, .int ((I o 51) - 1))] rfl (w_X12_findOrder_26 C ho res _ ih _ _ _ _ _ _ _ _ E)
set_option maxHeartbeats 4000000 in
theorem w_X12_findOrder_0 (C : Cx D cA bs Z p s m args meth c cX12_findOrder RX12 8 (some .int)) {o : Nat} {K : Sh} {n : Nat} {J : Jm} {R : Rf} (ho : (K o).1 = 13) (res : Int32 × Im) (I : Im) (E : f_X12_findOrder K R o I = some res) : VW D cA bs Z p l e rX12_findOrder s m args below meth c 8 [(0, va_rf (some o))] K n I J R 0 0 (MQ below (QX D cA bs Z (some (.int res.1)) K n res.2 J R) args s 0 0 (fun q => bs ≤ q)) 0 [] := by
  unfold f_X12_findOrder at E
  refine v_iconst C dX12_findOrder_0 k_iconst_m1 ?_
  refine v_istore_n C [(1, .int (-1)), (0, va_rf (some o))] dX12_findOrder_1 (Nat.le_of_ble_eq_true rfl) rfl ?_
  refine v_iconst C dX12_findOrder_2 k_iconst_0 ?_
  refine v_istore_n C [(2, .int 0), (1, .int (-1)), (0, va_rf (some o))] dX12_findOrder_3 (Nat.le_of_ble_eq_true rfl) rfl ?_
  refine v_iconst C dX12_findOrder_4 k_iconst_0 ?_
  refine v_istore_n C [(3, .int 0), (2, .int 0), (1, .int (-1)), (0, va_rf (some o))] dX12_findOrder_5 (Nat.le_of_ble_eq_true rfl) rfl ?_
  exact v_sub [3, 2, 1, 0] [(0, va_rf (some o)), (1, .int (-1)), (2, .int 0), (3, .int 0)] rfl (w_X12_findOrder_6 C ho res  _ _ _ _ _ E)
set_option maxHeartbeats 4000000 in
theorem c_X12_findOrder {n : Nat} {K : Sh} {I : Im} {J : Jm} {R : Rf} {o : Nat}  (ho : (K o).1 = 13) {res : Int32 × Im} (E : f_X12_findOrder K R o I = some res) : Met l yX12_findOrder (Cond.code yX12_findOrder cX12_findOrder 8 (some .int) :: tb) rX12_findOrder (PX D cA bs Z [.ref o] K n I J R) (QX D cA bs Z (some (.int res.1)) K n res.2 J R) 0 0 (fun q => bs ≤ q) := by
  refine met_of (lv1 := [(0, va_rf (some o))]) pn_X12 (by exact Nat.le_of_ble_eq_true rfl) (by rfl) ?_
  intro p e s m args below meth c C hn
  exact v_sub [0] [(0, va_rf (some o))] rfl (w_X12_findOrder_0 C ho _ _ E)
set_option maxHeartbeats 4000000 in
theorem w_X12_all_89 (C : Cx D cA bs Z p s m args meth c cX12_all RX12 3 (some .int)) {o : Nat} {K : Sh} {n : Nat} {J : Jm} {R : Rf} (ho : (K o).1 = 13) (res : Int32 × Im)  : ∀ (k : Nat), ∀ (x1 : Int32) (x2 : Int32) (I : Im), f_X12_all_89 K R o k x1 x2 I = some res → VW D cA bs Z p l e rX12_all s m args below meth c 3 [(0, va_rf (some o)), (1, .int x1), (2, .int x2)] K n I J R 0 0 (MQ below (QX D cA bs Z (some (.int res.1)) K n res.2 J R) args s 0 0 (fun q => bs ≤ q)) 89 [] := by
  intro k
  induction k with
  | zero =>
    intro x1 x2 I E
    have E : (none : Option (Int32 × Im)) = some res := E
    cases E
  | succ k ih =>
    intro x1 x2 I E
    unfold f_X12_all_89 at E
    refine v_iload_n C 2 dX12_all_89 rfl ?_
    refine v_iconst C dX12_all_90 k_iconst_3 ?_
    refine v_icmp_ge C 107 E dX12_all_91 rfl (fun c7 E => ?_) (fun c7 E => ?_)
    · refine v_aload_n (r := (some o)) C 0 dX12_all_107 rfl ?_
      obtain ⟨q1, h2, E⟩ := bnd E
      refine v_callV (r := (some o)) (As := []) (rv := none) (st := []) (st1 := []) (ce1 := 0) (sl1 := 0) C cv_X12_370 (c_X12_goAll  ho h2) rfl ho rfl rfl ⟨rfl, rfl, Nat.le_of_ble_eq_true rfl, Nat.le_of_ble_eq_true rfl⟩ ⟨Nat.le_of_ble_eq_true rfl, Nat.le_of_ble_eq_true rfl⟩ (Nat.le_of_ble_eq_true rfl) rfl rfl rfl dX12_all_108 ?_
      refine v_iload_n C 1 dX12_all_111 rfl ?_
      refine v_if_ne C 122 E dX12_all_112 rfl (fun c5 E => ?_) (fun c5 E => ?_)
      · refine v_aload_n (r := (some o)) C 0 dX12_all_115 rfl ?_
        refine v_getI (r := (some o)) C fa_X12_180 rfl rfl ho dX12_all_116 ?_
        refine v_goto C 143 dX12_all_119 rfl ?_
        obtain rfl := Option.some.inj E
        exact v_iret C rfl dX12_all_143
      · refine v_iload_n C 1 dX12_all_122 rfl ?_
        refine v_iconst C dX12_all_123 k_iconst_1 ?_
        refine v_icmp_ne C 134 E dX12_all_124 rfl (fun c4 E => ?_) (fun c4 E => ?_)
        · refine v_aload_n (r := (some o)) C 0 dX12_all_127 rfl ?_
          refine v_getI (r := (some o)) C fa_X12_183 rfl rfl ho dX12_all_128 ?_
          refine v_goto C 143 dX12_all_131 rfl ?_
          obtain rfl := Option.some.inj E
          exact v_iret C rfl dX12_all_143
        · refine v_aload_n (r := (some o)) C 0 dX12_all_134 rfl ?_
          refine v_getR (r := (some o)) C fa_X12_171 rfl rfl ho dX12_all_135 ?_
          refine v_iload_n C 1 dX12_all_138 rfl ?_
          refine v_bipush C dX12_all_139 k_bipush_10 ?_
          refine v_isub C dX12_all_141 ?_
          refine v_iald (r := (R o 53)) C E dX12_all_142 (fun v3 _ E => ?_)
          obtain rfl := Option.some.inj E
          exact v_iret C rfl dX12_all_143
    · refine v_aload_n (r := (some o)) C 0 dX12_all_94 rfl ?_
      refine v_getR (r := (some o)) C fa_X12_174 rfl rfl ho dX12_all_95 ?_
      refine v_iload_n C 2 dX12_all_98 rfl ?_
      refine v_iload_n C 2 dX12_all_99 rfl ?_
      refine v_iast (r := (R o 54)) C E dX12_all_100 (fun I6 _ E => ?_)
      refine v_iinc (v := x2 + 1) C 2 [(2, .int (x2 + 1)), (0, va_rf (some o)), (1, .int x1)] dX12_all_101 rfl (k_inc_1 _) (Nat.le_of_ble_eq_true rfl) rfl ?_
      refine v_goto C 89 dX12_all_104 rfl ?_
      exact v_sub [1, 2, 0] [(0, va_rf (some o)), (1, .int x1), (2, .int (x2 + 1))] rfl (ih _ _ _ E)
set_option maxHeartbeats 4000000 in
theorem w_X12_all_29 (C : Cx D cA bs Z p s m args meth c cX12_all RX12 3 (some .int)) {o : Nat} {K : Sh} {n : Nat} {J : Jm} {R : Rf} (ho : (K o).1 = 13) (res : Int32 × Im) (x1 : Int32) (I : Im) (E : f_X12_all_29 K R o x1 I = some res) : VW D cA bs Z p l e rX12_all s m args below meth c 3 [(0, va_rf (some o)), (1, .int x1)] K n I J R 0 0 (MQ below (QX D cA bs Z (some (.int res.1)) K n res.2 J R) args s 0 0 (fun q => bs ≤ q)) 29 [] := by
  unfold f_X12_all_29 at E
  refine v_aload_n (r := (some o)) C 0 dX12_all_29 rfl ?_
  refine v_getI (r := (some o)) C fa_X12_13 rfl rfl ho dX12_all_30 ?_
  refine v_if_ge C 39 E dX12_all_33 rfl (fun c16 E => ?_) (fun c16 E => ?_)
  · refine v_aload_n (r := (some o)) C 0 dX12_all_39 rfl ?_
    refine v_iload_n C 1 dX12_all_40 rfl ?_
    refine v_iconst C dX12_all_41 k_iconst_2 ?_
    refine v_iconst C dX12_all_42 k_iconst_5 ?_
    obtain ⟨q8, h9, E⟩ := bnd E
    refine v_callV (r := (some o)) (As := [.int x1, .int 2, .int 5]) (rv := (some (.int q8))) (st := []) (st1 := [.int q8]) (ce1 := 0) (sl1 := 0) C cv_X12_233 (c_X12_in (x1 := x1) (x2 := 2) (x3 := 5) ho h9) rfl ho rfl rfl ⟨rfl, rfl, Nat.le_of_ble_eq_true rfl, Nat.le_of_ble_eq_true rfl⟩ ⟨Nat.le_of_ble_eq_true rfl, Nat.le_of_ble_eq_true rfl⟩ (Nat.le_of_ble_eq_true rfl) rfl rfl rfl dX12_all_43 ?_
    refine v_if_eq C 87 E dX12_all_46 rfl (fun c15 E => ?_) (fun c15 E => ?_)
    · refine v_iconst C dX12_all_87 k_iconst_0 ?_
      refine v_istore_n C [(2, .int 0), (0, va_rf (some o)), (1, .int x1)] dX12_all_88 (Nat.le_of_ble_eq_true rfl) rfl ?_
      exact v_sub [1, 2, 0] [(0, va_rf (some o)), (1, .int x1), (2, .int 0)] rfl (w_X12_all_89 C ho res  _ _ _ _ E)
    · refine v_aload_n (r := (some o)) C 0 dX12_all_49 rfl ?_
      obtain ⟨q10, h11, E⟩ := bnd E
      refine v_callV (r := (some o)) (As := []) (rv := (some (.int q10.1))) (st := []) (st1 := [.int q10.1]) (ce1 := 0) (sl1 := 0) C cv_X12_374 (c_X12_findOrder  ho h11) rfl ho rfl rfl ⟨rfl, rfl, Nat.le_of_ble_eq_true rfl, Nat.le_of_ble_eq_true rfl⟩ ⟨Nat.le_of_ble_eq_true rfl, Nat.le_of_ble_eq_true rfl⟩ (Nat.le_of_ble_eq_true rfl) rfl rfl rfl dX12_all_50 ?_
      refine v_istore_n C [(2, .int q10.1), (0, va_rf (some o)), (1, .int x1)] dX12_all_53 (Nat.le_of_ble_eq_true rfl) rfl ?_
      refine v_iload_n C 2 dX12_all_54 rfl ?_
      refine v_iconst C dX12_all_55 k_iconst_5 ?_
      refine v_icmp_ne C 63 E dX12_all_56 rfl (fun c14 E => ?_) (fun c14 E => ?_)
      · refine v_iload_n C 0 dX12_all_59 rfl ?_
        refine v_goto C 86 dX12_all_60 rfl ?_
        obtain rfl := Option.some.inj E
        exact v_iret C rfl dX12_all_86
      · refine v_iload_n C 2 dX12_all_63 rfl ?_
        refine v_iconst C dX12_all_64 k_iconst_2 ?_
        refine v_isub C dX12_all_65 ?_
        refine v_aload_n (r := (some o)) C 1 dX12_all_66 rfl ?_
        refine v_getI (r := (some o)) C fa_X12_165 rfl rfl ho dX12_all_67 ?_
        refine v_icmp_ge C 84 E dX12_all_70 rfl (fun c13 E => ?_) (fun c13 E => ?_)
        · refine v_bipush C dX12_all_84 k_bipush_m5 ?_
          obtain rfl := Option.some.inj E
          exact v_iret C rfl dX12_all_86
        · refine v_aload_n (r := (some o)) C 1 dX12_all_73 rfl ?_
          refine v_getR (r := (some o)) C fa_X12_177 rfl rfl ho dX12_all_74 ?_
          refine v_iload_n C 2 dX12_all_77 rfl ?_
          refine v_iconst C dX12_all_78 k_iconst_2 ?_
          refine v_isub C dX12_all_79 ?_
          refine v_iald (r := (R o 55)) C E dX12_all_80 (fun v12 _ E => ?_)
          refine v_goto C 86 dX12_all_81 rfl ?_
          obtain rfl := Option.some.inj E
          exact v_iret C rfl dX12_all_86
  · refine v_bipush C dX12_all_36 k_bipush_m3 ?_
    obtain rfl := Option.some.inj E
    exact v_iret C rfl dX12_all_38
set_option maxHeartbeats 4000000 in
theorem w_X12_all_0 (C : Cx D cA bs Z p s m args meth c cX12_all RX12 3 (some .int)) {o : Nat} {K : Sh} {n : Nat} {J : Jm} {R : Rf} (ho : (K o).1 = 13) (res : Int32 × Im) (x1 : Int32) (I : Im) (E : f_X12_all K R o x1 I = some res) : VW D cA bs Z p l e rX12_all s m args below meth c 3 [(0, va_rf (some o)), (1, .int x1)] K n I J R 0 0 (MQ below (QX D cA bs Z (some (.int res.1)) K n res.2 J R) args s 0 0 (fun q => bs ≤ q)) 0 [] := by
  unfold f_X12_all at E
  refine v_aload_n (r := (some o)) C 0 dX12_all_0 rfl ?_
  refine v_iload_n C 1 dX12_all_1 rfl ?_
  refine v_iconst C dX12_all_2 k_iconst_0 ?_
  refine v_iconst C dX12_all_3 k_iconst_5 ?_
  obtain ⟨q17, h18, E⟩ := bnd E
  refine v_callV (r := (some o)) (As := [.int x1, .int 0, .int 5]) (rv := (some (.int q17))) (st := []) (st1 := [.int q17]) (ce1 := 0) (sl1 := 0) C cv_X12_233 (c_X12_in (x1 := x1) (x2 := 0) (x3 := 5) ho h18) rfl ho rfl rfl ⟨rfl, rfl, Nat.le_of_ble_eq_true rfl, Nat.le_of_ble_eq_true rfl⟩ ⟨Nat.le_of_ble_eq_true rfl, Nat.le_of_ble_eq_true rfl⟩ (Nat.le_of_ble_eq_true rfl) rfl rfl rfl dX12_all_4 ?_
  refine v_if_ne C 29 E dX12_all_7 rfl (fun c22 E => ?_) (fun c22 E => ?_)
  · refine v_aload_n (r := (some o)) C 0 dX12_all_10 rfl ?_
    refine v_iload_n C 1 dX12_all_11 rfl ?_
    refine v_bipush C dX12_all_12 k_bipush_10 ?_
    refine v_bipush C dX12_all_14 k_bipush_9 ?_
    refine v_aload_n (r := (some o)) C 0 dX12_all_16 rfl ?_
    refine v_getI (r := (some o)) C fa_X12_165 rfl rfl ho dX12_all_17 ?_
    refine v_iadd C dX12_all_20 ?_
    obtain ⟨q19, h20, E⟩ := bnd E
    refine v_callV (r := (some o)) (As := [.int x1, .int 10, .int (9 + (I o 51))]) (rv := (some (.int q19))) (st := []) (st1 := [.int q19]) (ce1 := 0) (sl1 := 0) C cv_X12_233 (c_X12_in (x1 := x1) (x2 := 10) (x3 := (9 + (I o 51))) ho h20) rfl ho rfl rfl ⟨rfl, rfl, Nat.le_of_ble_eq_true rfl, Nat.le_of_ble_eq_true rfl⟩ ⟨Nat.le_of_ble_eq_true rfl, Nat.le_of_ble_eq_true rfl⟩ (Nat.le_of_ble_eq_true rfl) rfl rfl rfl dX12_all_21 ?_
    refine v_if_ne C 29 E dX12_all_24 rfl (fun c21 E => ?_) (fun c21 E => ?_)
    · refine v_iconst C dX12_all_27 k_iconst_m1 ?_
      obtain rfl := Option.some.inj E
      exact v_iret C rfl dX12_all_28
    · exact v_sub [0, 1] [(0, va_rf (some o)), (1, .int x1)] rfl (w_X12_all_29 C ho res  _ _ E)
  · exact v_sub [0, 1] [(0, va_rf (some o)), (1, .int x1)] rfl (w_X12_all_29 C ho res  _ _ E)
set_option maxHeartbeats 4000000 in
theorem c_X12_all {n : Nat} {K : Sh} {I : Im} {J : Jm} {R : Rf} {o : Nat} {x1 : Int32} (ho : (K o).1 = 13) {res : Int32 × Im} (E : f_X12_all K R o x1 I = some res) : Met l yX12_all (Cond.code yX12_all cX12_all 3 (some .int) :: tb) rX12_all (PX D cA bs Z [.ref o, .int x1] K n I J R) (QX D cA bs Z (some (.int res.1)) K n res.2 J R) 0 0 (fun q => bs ≤ q) := by
  refine met_of (lv1 := [(0, va_rf (some o)), (1, .int x1)]) pn_X12 (by exact Nat.le_of_ble_eq_true rfl) (by rfl) ?_
  intro p e s m args below meth c C hn
  exact v_sub [0, 1] [(0, va_rf (some o)), (1, .int x1)] rfl (w_X12_all_0 C ho _ _ _ E)
set_option maxHeartbeats 4000000 in
theorem w_X12_divisor_6 (C : Cx D cA bs Z p s m args meth c cX12_divisor RX12 11 (some .long)) {o : Nat} {K : Sh} {n : Nat} {I : Im} {J : Jm} {R : Rf} (ho : (K o).1 = 13) (res : Int64)  : ∀ (k : Nat), ∀ (x5 : Int64) (x7 : Int64), f_X12_divisor_6 o k x5 x7 = some res → VW D cA bs Z p l e rX12_divisor s m args below meth c 11 [(0, va_rf (some o)), (5, .long x5), (7, .long x7)] K n I J R 0 0 (MQ below (QX D cA bs Z (some (.long res)) K n I J R) args s 0 0 (fun q => bs ≤ q)) 6 [] := by
  intro k
  induction k with
  | zero =>
    intro x5 x7 E
    have E : (none : Option (Int64)) = some res := E
    cases E
  | succ k ih =>
    intro x5 x7 E
    unfold f_X12_divisor_6 at E
    refine v_lload C 2 dX12_divisor_6 rfl ?_
    refine v_lconst (v := 0) C dX12_divisor_8 (by decide) ?_
    refine v_lcmp C dX12_divisor_9 ?_
    refine v_if_eq C 31 E dX12_divisor_10 rfl (fun c2 E => ?_) (fun c2 E => ?_)
    · refine v_lload C 1 dX12_divisor_31 rfl ?_
      obtain rfl := Option.some.inj E
      exact v_lret C rfl dX12_divisor_33
    · refine v_lload C 1 dX12_divisor_13 rfl ?_
      refine v_lload C 2 dX12_divisor_15 rfl ?_
      refine v_lremq C E dX12_divisor_17 (fun v1 _ E => ?_)
      refine v_lstore C [(9, .long v1), (0, va_rf (some o)), (5, .long x5), (7, .long x7)] dX12_divisor_18 (Nat.le_of_ble_eq_true rfl) rfl ?_
      refine v_lload C 3 dX12_divisor_20 rfl ?_
      refine v_lstore C [(5, .long x7), (9, .long v1), (0, va_rf (some o)), (7, .long x7)] dX12_divisor_22 (Nat.le_of_ble_eq_true rfl) rfl ?_
      refine v_lload C 1 dX12_divisor_24 rfl ?_
      refine v_lstore C [(7, .long v1), (5, .long x7), (9, .long v1), (0, va_rf (some o))] dX12_divisor_26 (Nat.le_of_ble_eq_true rfl) rfl ?_
      refine v_goto C 6 dX12_divisor_28 rfl ?_
      exact v_sub [3, 1, 0] [(0, va_rf (some o)), (5, .long x7), (7, .long v1)] rfl (ih _ _ E)
set_option maxHeartbeats 4000000 in
theorem w_X12_divisor_0 (C : Cx D cA bs Z p s m args meth c cX12_divisor RX12 11 (some .long)) {o : Nat} {K : Sh} {n : Nat} {I : Im} {J : Jm} {R : Rf} (ho : (K o).1 = 13) (res : Int64) (x1 : Int64) (x3 : Int64) (E : f_X12_divisor o x1 x3 = some res) : VW D cA bs Z p l e rX12_divisor s m args below meth c 11 [(0, va_rf (some o)), (1, .long x1), (3, .long x3)] K n I J R 0 0 (MQ below (QX D cA bs Z (some (.long res)) K n I J R) args s 0 0 (fun q => bs ≤ q)) 0 [] := by
  unfold f_X12_divisor at E
  refine v_lload_n C 1 dX12_divisor_0 rfl ?_
  refine v_lstore C [(5, .long x1), (0, va_rf (some o)), (1, .long x1), (3, .long x3)] dX12_divisor_1 (Nat.le_of_ble_eq_true rfl) rfl ?_
  refine v_lload_n C 3 dX12_divisor_3 rfl ?_
  refine v_lstore C [(7, .long x3), (5, .long x1), (0, va_rf (some o)), (1, .long x1), (3, .long x3)] dX12_divisor_4 (Nat.le_of_ble_eq_true rfl) rfl ?_
  exact v_sub [2, 1, 0] [(0, va_rf (some o)), (5, .long x1), (7, .long x3)] rfl (w_X12_divisor_6 C ho res  _ _ _ E)
set_option maxHeartbeats 4000000 in
theorem c_X12_divisor {n : Nat} {K : Sh} {I : Im} {J : Jm} {R : Rf} {o : Nat} {x1 : Int64} {x3 : Int64} (ho : (K o).1 = 13) {res : Int64} (E : f_X12_divisor o x1 x3 = some res) : Met l yX12_divisor (Cond.code yX12_divisor cX12_divisor 11 (some .long) :: tb) rX12_divisor (PX D cA bs Z [.ref o, .long x1, .long x3] K n I J R) (QX D cA bs Z (some (.long res)) K n I J R) 0 0 (fun q => bs ≤ q) := by
  refine met_of (lv1 := [(0, va_rf (some o)), (1, .long x1), (3, .long x3)]) pn_X12 (by exact Nat.le_of_ble_eq_true rfl) (by rfl) ?_
  intro p e s m args below meth c C hn
  exact v_sub [0, 1, 2] [(0, va_rf (some o)), (1, .long x1), (3, .long x3)] rfl (w_X12_divisor_0 C ho _ _ _ E)
set_option maxHeartbeats 4000000 in
theorem w_X12_likely_249 (C : Cx D cA bs Z p s m args meth c cX12_likely RX12 13 (some .long)) {o : Nat} {K : Sh} {n : Nat} {J : Jm} {R : Rf} (ho : (K o).1 = 13) (res : Int64 × Im) (r70 : Int32 → Int32 → Int32 → Int64 → Int64 → Int32 → Im → Option (Int64 × Im)) (hr70 : ∀ (x1 : Int32) (x2 : Int32) (x3 : Int32) (x4 : Int64) (x6 : Int64) (x8 : Int32) (I : Im), r70 x1 x2 x3 x4 x6 x8 I = some res → VW D cA bs Z p l e rX12_likely s m args below meth c 13 [(0, va_rf (some o)), (1, .int x1), (2, .int x2), (3, .int x3), (4, .long x4), (6, .long x6), (8, .int x8)] K n I J R 0 0 (MQ below (QX D cA bs Z (some (.long res.1)) K n res.2 J R) args s 0 0 (fun q => bs ≤ q)) 70 []) (x1 : Int32) (x2 : Int32) (x3 : Int32) (x6 : Int64) (x8 : Int32) (s0 : Int64) (s1 : Int64) (I : Im) (E : f_X12_likely_249 K R o r70 x1 x2 x3 x6 x8 s0 s1 I = some res) : VW D cA bs Z p l e rX12_likely s m args below meth c 13 [(0, va_rf (some o)), (1, .int x1), (2, .int x2), (3, .int x3), (6, .long x6), (8, .int x8)] K n I J R 0 0 (MQ below (QX D cA bs Z (some (.long res.1)) K n res.2 J R) args s 0 0 (fun q => bs ≤ q)) 249 [.long s1, .long s0] := by
  unfold f_X12_likely_249 at E
  refine v_ladd C dX12_likely_249 ?_
  refine v_lstore C [(4, .long (s0 + s1)), (0, va_rf (some o)), (1, .int x1), (2, .int x2), (3, .int x3), (6, .long x6), (8, .int x8)] dX12_likely_250 (Nat.le_of_ble_eq_true rfl) rfl ?_
  refine v_iinc (v := x8 + 1) C 6 [(8, .int (x8 + 1)), (4, .long (s0 + s1)), (0, va_rf (some o)), (1, .int x1), (2, .int x2), (3, .int x3), (6, .long x6)] dX12_likely_252 rfl (k_inc_1 _) (Nat.le_of_ble_eq_true rfl) rfl ?_
  refine v_goto C 70 dX12_likely_255 rfl ?_
  exact v_sub [2, 3, 4, 5, 1, 6, 0] [(0, va_rf (some o)), (1, .int x1), (2, .int x2), (3, .int x3), (4, .long (s0 + s1)), (6, .long x6), (8, .int (x8 + 1))] rfl (hr70 _ _ _ _ _ _ _ E)
set_option maxHeartbeats 4000000 in
theorem w_X12_likely_212 (C : Cx D cA bs Z p s m args meth c cX12_likely RX12 13 (some .long)) {o : Nat} {K : Sh} {n : Nat} {J : Jm} {R : Rf} (ho : (K o).1 = 13) (res : Int64 × Im) (r70 : Int32 → Int32 → Int32 → Int64 → Int64 → Int32 → Im → Option (Int64 × Im)) (hr70 : ∀ (x1 : Int32) (x2 : Int32) (x3 : Int32) (x4 : Int64) (x6 : Int64) (x8 : Int32) (I : Im), r70 x1 x2 x3 x4 x6 x8 I = some res → VW D cA bs Z p l e rX12_likely s m args below meth c 13 [(0, va_rf (some o)), (1, .int x1), (2, .int x2), (3, .int x3), (4, .long x4), (6, .long x6), (8, .int x8)] K n I J R 0 0 (MQ below (QX D cA bs Z (some (.long res.1)) K n res.2 J R) args s 0 0 (fun q => bs ≤ q)) 70 []) (r88 : Int32 → Int32 → Int32 → Int64 → Int64 → Int32 → Int64 → Int32 → Im → Option (Int64 × Im)) (hr88 : ∀ (x1 : Int32) (x2 : Int32) (x3 : Int32) (x4 : Int64) (x6 : Int64) (x8 : Int32) (x9 : Int64) (x11 : Int32) (I : Im), r88 x1 x2 x3 x4 x6 x8 x9 x11 I = some res → VW D cA bs Z p l e rX12_likely s m args below meth c 13 [(0, va_rf (some o)), (1, .int x1), (2, .int x2), (3, .int x3), (4, .long x4), (6, .long x6), (8, .int x8), (9, .long x9), (11, .int x11)] K n I J R 0 0 (MQ below (QX D cA bs Z (some (.long res.1)) K n res.2 J R) args s 0 0 (fun q => bs ≤ q)) 88 []) (x1 : Int32) (x2 : Int32) (x3 : Int32) (x4 : Int64) (x6 : Int64) (x8 : Int32) (x9 : Int64) (x11 : Int32) (s0 : Option Nat) (s1 : Int32) (s2 : Int32) (I : Im) (E : f_X12_likely_212 K R o r70 r88 x1 x2 x3 x4 x6 x8 x9 x11 s0 s1 s2 I = some res) : VW D cA bs Z p l e rX12_likely s m args below meth c 13 [(0, va_rf (some o)), (1, .int x1), (2, .int x2), (3, .int x3), (4, .long x4), (6, .long x6), (8, .int x8), (9, .long x9), (11, .int x11)] K n I J R 0 0 (MQ below (QX D cA bs Z (some (.long res.1)) K n res.2 J R) args s 0 0 (fun q => bs ≤ q)) 212 [.int s2, .int s1, va_rf s0] := by
  unfold f_X12_likely_212 at E
  refine v_iast (r := s0) C E dX12_likely_212 (fun I1 _ E => ?_)
  refine v_iinc (v := x11 + 1) C 8 [(11, .int (x11 + 1)), (0, va_rf (some o)), (1, .int x1), (2, .int x2), (3, .int x3), (4, .long x4), (6, .long x6), (8, .int x8), (9, .long x9)] dX12_likely_213 rfl (k_inc_1 _) (Nat.le_of_ble_eq_true rfl) rfl ?_
  refine v_goto C 88 dX12_likely_216 rfl ?_
  exact v_sub [1, 2, 3, 4, 5, 6, 7, 8, 0] [(0, va_rf (some o)), (1, .int x1), (2, .int x2), (3, .int x3), (4, .long x4), (6, .long x6), (8, .int x8), (9, .long x9), (11, .int (x11 + 1))] rfl (hr88 _ _ _ _ _ _ _ _ _ E)
set_option maxHeartbeats 4000000 in
theorem w_X12_likely_189 (C : Cx D cA bs Z p s m args meth c cX12_likely RX12 13 (some .long)) {o : Nat} {K : Sh} {n : Nat} {J : Jm} {R : Rf} (ho : (K o).1 = 13) (res : Int64 × Im) (r70 : Int32 → Int32 → Int32 → Int64 → Int64 → Int32 → Im → Option (Int64 × Im)) (hr70 : ∀ (x1 : Int32) (x2 : Int32) (x3 : Int32) (x4 : Int64) (x6 : Int64) (x8 : Int32) (I : Im), r70 x1 x2 x3 x4 x6 x8 I = some res → VW D cA bs Z p l e rX12_likely s m args below meth c 13 [(0, va_rf (some o)), (1, .int x1), (2, .int x2), (3, .int x3), (4, .long x4), (6, .long x6), (8, .int x8)] K n I J R 0 0 (MQ below (QX D cA bs Z (some (.long res.1)) K n res.2 J R) args s 0 0 (fun q => bs ≤ q)) 70 []) (r88 : Int32 → Int32 → Int32 → Int64 → Int64 → Int32 → Int64 → Int32 → Im → Option (Int64 × Im)) (hr88 : ∀ (x1 : Int32) (x2 : Int32) (x3 : Int32) (x4 : Int64) (x6 : Int64) (x8 : Int32) (x9 : Int64) (x11 : Int32) (I : Im), r88 x1 x2 x3 x4 x6 x8 x9 x11 I = some res → VW D cA bs Z p l e rX12_likely s m args below meth c 13 [(0, va_rf (some o)), (1, .int x1), (2, .int x2), (3, .int x3), (4, .long x4), (6, .long x6), (8, .int x8), (9, .long x9), (11, .int x11)] K n I J R 0 0 (MQ below (QX D cA bs Z (some (.long res.1)) K n res.2 J R) args s 0 0 (fun q => bs ≤ q)) 88 []) (x1 : Int32) (x2 : Int32) (x3 : Int32) (x4 : Int64) (x6 : Int64) (x8 : Int32) (x9 : Int64) (x11 : Int32) (x12 : Int32) (s0 : Option Nat) (s1 : Int32) (s2 : Int32) (I : Im) (E : f_X12_likely_189 K R o r70 r88 x1 x2 x3 x4 x6 x8 x9 x11 x12 s0 s1 s2 I = some res) : VW D cA bs Z p l e rX12_likely s m args below meth c 13 [(0, va_rf (some o)), (1, .int x1), (2, .int x2), (3, .int x3), (4, .long x4), (6, .long x6), (8, .int x8), (9, .long x9), (11, .int x11), (12, .int x12)] K n I J R 0 0 (MQ below (QX D cA bs Z (some (.long res.1)) K n res.2 J R) args s 0 0 (fun q => bs ≤ q)) 189 [.int s2, .int s1, va_rf s0] := by
  unfold f_X12_likely_189 at E
  refine v_iast (r := s0) C E dX12_likely_189 (fun I2 _ E => ?_)
  refine v_aload_n (r := (some o)) C 0 dX12_likely_190 rfl ?_
  refine v_getR (r := (some o)) C fa_X12_87 rfl rfl ho dX12_likely_191 ?_
  refine v_iload C 8 dX12_likely_194 rfl ?_
  refine v_iload C 9 dX12_likely_196 rfl ?_
  refine v_if_eq C 205 E dX12_likely_198 rfl (fun c4 E => ?_) (fun c4 E => ?_)
  · refine v_aload_n (r := (some o)) C 0 dX12_likely_205 rfl ?_
    refine v_getR (r := (some o)) C fa_X12_87 rfl rfl ho dX12_likely_206 ?_
    refine v_iload C 8 dX12_likely_209 rfl ?_
    refine v_iald (r := (R o 25)) C E dX12_likely_211 (fun v3 _ E => ?_)
    exact v_sub [0, 1, 2, 3, 4, 5, 6, 7, 8] [(0, va_rf (some o)), (1, .int x1), (2, .int x2), (3, .int x3), (4, .long x4), (6, .long x6), (8, .int x8), (9, .long x9), (11, .int x11)] rfl (w_X12_likely_212 C ho res _ hr70 _ hr88 _ _ _ _ _ _ _ _ _ _ _ _ E)
  · refine v_iconst C dX12_likely_201 k_iconst_0 ?_
    refine v_goto C 212 dX12_likely_202 rfl ?_
    exact v_sub [0, 1, 2, 3, 4, 5, 6, 7, 8] [(0, va_rf (some o)), (1, .int x1), (2, .int x2), (3, .int x3), (4, .long x4), (6, .long x6), (8, .int x8), (9, .long x9), (11, .int x11)] rfl (w_X12_likely_212 C ho res _ hr70 _ hr88 _ _ _ _ _ _ _ _ _ _ _ _ E)
set_option maxHeartbeats 4000000 in
theorem w_X12_likely_166 (C : Cx D cA bs Z p s m args meth c cX12_likely RX12 13 (some .long)) {o : Nat} {K : Sh} {n : Nat} {J : Jm} {R : Rf} (ho : (K o).1 = 13) (res : Int64 × Im) (r70 : Int32 → Int32 → Int32 → Int64 → Int64 → Int32 → Im → Option (Int64 × Im)) (hr70 : ∀ (x1 : Int32) (x2 : Int32) (x3 : Int32) (x4 : Int64) (x6 : Int64) (x8 : Int32) (I : Im), r70 x1 x2 x3 x4 x6 x8 I = some res → VW D cA bs Z p l e rX12_likely s m args below meth c 13 [(0, va_rf (some o)), (1, .int x1), (2, .int x2), (3, .int x3), (4, .long x4), (6, .long x6), (8, .int x8)] K n I J R 0 0 (MQ below (QX D cA bs Z (some (.long res.1)) K n res.2 J R) args s 0 0 (fun q => bs ≤ q)) 70 []) (r88 : Int32 → Int32 → Int32 → Int64 → Int64 → Int32 → Int64 → Int32 → Im → Option (Int64 × Im)) (hr88 : ∀ (x1 : Int32) (x2 : Int32) (x3 : Int32) (x4 : Int64) (x6 : Int64) (x8 : Int32) (x9 : Int64) (x11 : Int32) (I : Im), r88 x1 x2 x3 x4 x6 x8 x9 x11 I = some res → VW D cA bs Z p l e rX12_likely s m args below meth c 13 [(0, va_rf (some o)), (1, .int x1), (2, .int x2), (3, .int x3), (4, .long x4), (6, .long x6), (8, .int x8), (9, .long x9), (11, .int x11)] K n I J R 0 0 (MQ below (QX D cA bs Z (some (.long res.1)) K n res.2 J R) args s 0 0 (fun q => bs ≤ q)) 88 []) (x1 : Int32) (x2 : Int32) (x3 : Int32) (x4 : Int64) (x6 : Int64) (x8 : Int32) (x9 : Int64) (x11 : Int32) (x12 : Int32) (s0 : Option Nat) (s1 : Int32) (s2 : Int32) (I : Im) (E : f_X12_likely_166 K R o r70 r88 x1 x2 x3 x4 x6 x8 x9 x11 x12 s0 s1 s2 I = some res) : VW D cA bs Z p l e rX12_likely s m args below meth c 13 [(0, va_rf (some o)), (1, .int x1), (2, .int x2), (3, .int x3), (4, .long x4), (6, .long x6), (8, .int x8), (9, .long x9), (11, .int x11), (12, .int x12)] K n I J R 0 0 (MQ below (QX D cA bs Z (some (.long res.1)) K n res.2 J R) args s 0 0 (fun q => bs ≤ q)) 166 [.int s2, .int s1, va_rf s0] := by
  unfold f_X12_likely_166 at E
  refine v_iast (r := s0) C E dX12_likely_166 (fun I5 _ E => ?_)
  refine v_aload_n (r := (some o)) C 0 dX12_likely_167 rfl ?_
  refine v_getR (r := (some o)) C fa_X12_81 rfl rfl ho dX12_likely_168 ?_
  refine v_iload C 8 dX12_likely_171 rfl ?_
  refine v_iload C 9 dX12_likely_173 rfl ?_
  refine v_if_eq C 182 E dX12_likely_175 rfl (fun c7 E => ?_) (fun c7 E => ?_)
  · refine v_aload_n (r := (some o)) C 0 dX12_likely_182 rfl ?_
    refine v_getR (r := (some o)) C fa_X12_81 rfl rfl ho dX12_likely_183 ?_
    refine v_iload C 8 dX12_likely_186 rfl ?_
    refine v_iald (r := (R o 23)) C E dX12_likely_188 (fun v6 _ E => ?_)
    exact v_sub [0, 1, 2, 3, 4, 5, 6, 7, 8, 9] [(0, va_rf (some o)), (1, .int x1), (2, .int x2), (3, .int x3), (4, .long x4), (6, .long x6), (8, .int x8), (9, .long x9), (11, .int x11), (12, .int x12)] rfl (w_X12_likely_189 C ho res _ hr70 _ hr88 _ _ _ _ _ _ _ _ _ _ _ _ _ E)
  · refine v_iconst C dX12_likely_178 k_iconst_0 ?_
    refine v_goto C 189 dX12_likely_179 rfl ?_
    exact v_sub [0, 1, 2, 3, 4, 5, 6, 7, 8, 9] [(0, va_rf (some o)), (1, .int x1), (2, .int x2), (3, .int x3), (4, .long x4), (6, .long x6), (8, .int x8), (9, .long x9), (11, .int x11), (12, .int x12)] rfl (w_X12_likely_189 C ho res _ hr70 _ hr88 _ _ _ _ _ _ _ _ _ _ _ _ _ E)
set_option maxHeartbeats 4000000 in
theorem w_X12_likely_141 (C : Cx D cA bs Z p s m args meth c cX12_likely RX12 13 (some .long)) {o : Nat} {K : Sh} {n : Nat} {J : Jm} {R : Rf} (ho : (K o).1 = 13) (res : Int64 × Im) (r70 : Int32 → Int32 → Int32 → Int64 → Int64 → Int32 → Im → Option (Int64 × Im)) (hr70 : ∀ (x1 : Int32) (x2 : Int32) (x3 : Int32) (x4 : Int64) (x6 : Int64) (x8 : Int32) (I : Im), r70 x1 x2 x3 x4 x6 x8 I = some res → VW D cA bs Z p l e rX12_likely s m args below meth c 13 [(0, va_rf (some o)), (1, .int x1), (2, .int x2), (3, .int x3), (4, .long x4), (6, .long x6), (8, .int x8)] K n I J R 0 0 (MQ below (QX D cA bs Z (some (.long res.1)) K n res.2 J R) args s 0 0 (fun q => bs ≤ q)) 70 []) (r88 : Int32 → Int32 → Int32 → Int64 → Int64 → Int32 → Int64 → Int32 → Im → Option (Int64 × Im)) (hr88 : ∀ (x1 : Int32) (x2 : Int32) (x3 : Int32) (x4 : Int64) (x6 : Int64) (x8 : Int32) (x9 : Int64) (x11 : Int32) (I : Im), r88 x1 x2 x3 x4 x6 x8 x9 x11 I = some res → VW D cA bs Z p l e rX12_likely s m args below meth c 13 [(0, va_rf (some o)), (1, .int x1), (2, .int x2), (3, .int x3), (4, .long x4), (6, .long x6), (8, .int x8), (9, .long x9), (11, .int x11)] K n I J R 0 0 (MQ below (QX D cA bs Z (some (.long res.1)) K n res.2 J R) args s 0 0 (fun q => bs ≤ q)) 88 []) (x1 : Int32) (x2 : Int32) (x3 : Int32) (x4 : Int64) (x6 : Int64) (x8 : Int32) (x11 : Int32) (x12 : Int32) (s0 : Int64) (s1 : Int64) (I : Im) (E : f_X12_likely_141 K R o r70 r88 x1 x2 x3 x4 x6 x8 x11 x12 s0 s1 I = some res) : VW D cA bs Z p l e rX12_likely s m args below meth c 13 [(0, va_rf (some o)), (1, .int x1), (2, .int x2), (3, .int x3), (4, .long x4), (6, .long x6), (8, .int x8), (11, .int x11), (12, .int x12)] K n I J R 0 0 (MQ below (QX D cA bs Z (some (.long res.1)) K n res.2 J R) args s 0 0 (fun q => bs ≤ q)) 141 [.long s1, .long s0] := by
  unfold f_X12_likely_141 at E
  refine v_lmul C dX12_likely_141 ?_
  refine v_lstore C [(9, .long (s0 * s1)), (0, va_rf (some o)), (1, .int x1), (2, .int x2), (3, .int x3), (4, .long x4), (6, .long x6), (8, .int x8), (11, .int x11), (12, .int x12)] dX12_likely_142 (Nat.le_of_ble_eq_true rfl) rfl ?_
  refine v_aload_n (r := (some o)) C 1 dX12_likely_144 rfl ?_
  refine v_getR (r := (some o)) C fa_X12_78 rfl rfl ho dX12_likely_145 ?_
  refine v_iload C 8 dX12_likely_148 rfl ?_
  refine v_iload C 9 dX12_likely_150 rfl ?_
  refine v_if_eq C 159 E dX12_likely_152 rfl (fun c9 E => ?_) (fun c9 E => ?_)
  · refine v_aload_n (r := (some o)) C 1 dX12_likely_159 rfl ?_
    refine v_getR (r := (some o)) C fa_X12_78 rfl rfl ho dX12_likely_160 ?_
    refine v_iload C 8 dX12_likely_163 rfl ?_
    refine v_iald (r := (R o 22)) C E dX12_likely_165 (fun v8 _ E => ?_)
    exact v_sub [1, 2, 3, 4, 5, 6, 7, 0, 8, 9] [(0, va_rf (some o)), (1, .int x1), (2, .int x2), (3, .int x3), (4, .long x4), (6, .long x6), (8, .int x8), (9, .long (s0 * s1)), (11, .int x11), (12, .int x12)] rfl (w_X12_likely_166 C ho res _ hr70 _ hr88 _ _ _ _ _ _ _ _ _ _ _ _ _ E)
  · refine v_iconst C dX12_likely_155 k_iconst_0 ?_
    refine v_goto C 166 dX12_likely_156 rfl ?_
    exact v_sub [1, 2, 3, 4, 5, 6, 7, 0, 8, 9] [(0, va_rf (some o)), (1, .int x1), (2, .int x2), (3, .int x3), (4, .long x4), (6, .long x6), (8, .int x8), (9, .long (s0 * s1)), (11, .int x11), (12, .int x12)] rfl (w_X12_likely_166 C ho res _ hr70 _ hr88 _ _ _ _ _ _ _ _ _ _ _ _ _ E)
set_option maxHeartbeats 4000000 in
theorem w_X12_likely_110 (C : Cx D cA bs Z p s m args meth c cX12_likely RX12 13 (some .long)) {o : Nat} {K : Sh} {n : Nat} {J : Jm} {R : Rf} (ho : (K o).1 = 13) (res : Int64 × Im) (r70 : Int32 → Int32 → Int32 → Int64 → Int64 → Int32 → Im → Option (Int64 × Im)) (hr70 : ∀ (x1 : Int32) (x2 : Int32) (x3 : Int32) (x4 : Int64) (x6 : Int64) (x8 : Int32) (I : Im), r70 x1 x2 x3 x4 x6 x8 I = some res → VW D cA bs Z p l e rX12_likely s m args below meth c 13 [(0, va_rf (some o)), (1, .int x1), (2, .int x2), (3, .int x3), (4, .long x4), (6, .long x6), (8, .int x8)] K n I J R 0 0 (MQ below (QX D cA bs Z (some (.long res.1)) K n res.2 J R) args s 0 0 (fun q => bs ≤ q)) 70 []) (r88 : Int32 → Int32 → Int32 → Int64 → Int64 → Int32 → Int64 → Int32 → Im → Option (Int64 × Im)) (hr88 : ∀ (x1 : Int32) (x2 : Int32) (x3 : Int32) (x4 : Int64) (x6 : Int64) (x8 : Int32) (x9 : Int64) (x11 : Int32) (I : Im), r88 x1 x2 x3 x4 x6 x8 x9 x11 I = some res → VW D cA bs Z p l e rX12_likely s m args below meth c 13 [(0, va_rf (some o)), (1, .int x1), (2, .int x2), (3, .int x3), (4, .long x4), (6, .long x6), (8, .int x8), (9, .long x9), (11, .int x11)] K n I J R 0 0 (MQ below (QX D cA bs Z (some (.long res.1)) K n res.2 J R) args s 0 0 (fun q => bs ≤ q)) 88 []) (x1 : Int32) (x2 : Int32) (x3 : Int32) (x4 : Int64) (x6 : Int64) (x8 : Int32) (x9 : Int64) (x11 : Int32) (s0 : Int32) (I : Im) (E : f_X12_likely_110 K R o r70 r88 x1 x2 x3 x4 x6 x8 x9 x11 s0 I = some res) : VW D cA bs Z p l e rX12_likely s m args below meth c 13 [(0, va_rf (some o)), (1, .int x1), (2, .int x2), (3, .int x3), (4, .long x4), (6, .long x6), (8, .int x8), (9, .long x9), (11, .int x11)] K n I J R 0 0 (MQ below (QX D cA bs Z (some (.long res.1)) K n res.2 J R) args s 0 0 (fun q => bs ≤ q)) 110 [.int s0] := by
  unfold f_X12_likely_110 at E
  refine v_istore C [(12, .int s0), (0, va_rf (some o)), (1, .int x1), (2, .int x2), (3, .int x3), (4, .long x4), (6, .long x6), (8, .int x8), (9, .long x9), (11, .int x11)] dX12_likely_110 (Nat.le_of_ble_eq_true rfl) rfl ?_
  refine v_lload C 8 dX12_likely_112 rfl ?_
  refine v_iload C 0 dX12_likely_114 rfl ?_
  refine v_if_eq C 130 E dX12_likely_116 rfl (fun c12 E => ?_) (fun c12 E => ?_)
  · refine v_bipush C dX12_likely_130 k_bipush_10 ?_
    refine v_aload_n (r := (some o)) C 1 dX12_likely_132 rfl ?_
    refine v_getR (r := (some o)) C fa_X12_72 rfl rfl ho dX12_likely_133 ?_
    refine v_iload C 9 dX12_likely_136 rfl ?_
    refine v_iald (r := (R o 20)) C E dX12_likely_138 (fun v10 _ E => ?_)
    refine v_isub C dX12_likely_139 ?_
    refine v_i2l C dX12_likely_140 ?_
    exact v_sub [1, 2, 3, 4, 5, 6, 7, 9, 0] [(0, va_rf (some o)), (1, .int x1), (2, .int x2), (3, .int x3), (4, .long x4), (6, .long x6), (8, .int x8), (11, .int x11), (12, .int s0)] rfl (w_X12_likely_141 C ho res _ hr70 _ hr88 _ _ _ _ _ _ _ _ _ _ _ E)
  · refine v_aload_n (r := (some o)) C 1 dX12_likely_119 rfl ?_
    refine v_getR (r := (some o)) C fa_X12_72 rfl rfl ho dX12_likely_120 ?_
    refine v_iload C 9 dX12_likely_123 rfl ?_
    refine v_iald (r := (R o 20)) C E dX12_likely_125 (fun v11 _ E => ?_)
    refine v_i2l C dX12_likely_126 ?_
    refine v_goto C 141 dX12_likely_127 rfl ?_
    exact v_sub [1, 2, 3, 4, 5, 6, 7, 9, 0] [(0, va_rf (some o)), (1, .int x1), (2, .int x2), (3, .int x3), (4, .long x4), (6, .long x6), (8, .int x8), (11, .int x11), (12, .int s0)] rfl (w_X12_likely_141 C ho res _ hr70 _ hr88 _ _ _ _ _ _ _ _ _ _ _ E)
set_option maxHeartbeats 4000000 in
theorem w_X12_likely_88 (C : Cx D cA bs Z p s m args meth c cX12_likely RX12 13 (some .long)) {o : Nat} {K : Sh} {n : Nat} {J : Jm} {R : Rf} (ho : (K o).1 = 13) (res : Int64 × Im) (r70 : Int32 → Int32 → Int32 → Int64 → Int64 → Int32 → Im → Option (Int64 × Im)) (hr70 : ∀ (x1 : Int32) (x2 : Int32) (x3 : Int32) (x4 : Int64) (x6 : Int64) (x8 : Int32) (I : Im), r70 x1 x2 x3 x4 x6 x8 I = some res → VW D cA bs Z p l e rX12_likely s m args below meth c 13 [(0, va_rf (some o)), (1, .int x1), (2, .int x2), (3, .int x3), (4, .long x4), (6, .long x6), (8, .int x8)] K n I J R 0 0 (MQ below (QX D cA bs Z (some (.long res.1)) K n res.2 J R) args s 0 0 (fun q => bs ≤ q)) 70 [])  : ∀ (k : Nat), ∀ (x1 : Int32) (x2 : Int32) (x3 : Int32) (x4 : Int64) (x6 : Int64) (x8 : Int32) (x9 : Int64) (x11 : Int32) (I : Im), f_X12_likely_88 K R o r70 k x1 x2 x3 x4 x6 x8 x9 x11 I = some res → VW D cA bs Z p l e rX12_likely s m args below meth c 13 [(0, va_rf (some o)), (1, .int x1), (2, .int x2), (3, .int x3), (4, .long x4), (6, .long x6), (8, .int x8), (9, .long x9), (11, .int x11)] K n I J R 0 0 (MQ below (QX D cA bs Z (some (.long res.1)) K n res.2 J R) args s 0 0 (fun q => bs ≤ q)) 88 [] := by
  intro k
  induction k with
  | zero =>
    intro x1 x2 x3 x4 x6 x8 x9 x11 I E
    have E : (none : Option (Int64 × Im)) = some res := E
    cases E
  | succ k ih =>
    intro x1 x2 x3 x4 x6 x8 x9 x11 I E
    unfold f_X12_likely_88 at E
    refine v_iload C 8 dX12_likely_88 rfl ?_
    refine v_iload_n C 3 dX12_likely_90 rfl ?_
    refine v_icmp_ge C 219 E dX12_likely_91 rfl (fun c18 E => ?_) (fun c18 E => ?_)
    · refine v_lload C 7 dX12_likely_219 rfl ?_
      refine v_lconst (v := 0) C dX12_likely_221 (by decide) ?_
      refine v_lcmp C dX12_likely_222 ?_
      refine v_if_ne C 229 E dX12_likely_223 rfl (fun c16 E => ?_) (fun c16 E => ?_)
      · refine v_goto C 252 dX12_likely_226 rfl ?_
        refine v_iinc (v := x8 + 1) C 6 [(8, .int (x8 + 1)), (0, va_rf (some o)), (1, .int x1), (2, .int x2), (3, .int x3), (4, .long x4), (6, .long x6), (9, .long x9), (11, .int x11)] dX12_likely_252 rfl (k_inc_1 _) (Nat.le_of_ble_eq_true rfl) rfl ?_
        refine v_goto C 70 dX12_likely_255 rfl ?_
        exact v_sub [1, 2, 3, 4, 5, 6, 0] [(0, va_rf (some o)), (1, .int x1), (2, .int x2), (3, .int x3), (4, .long x4), (6, .long x6), (8, .int (x8 + 1))] rfl (hr70 _ _ _ _ _ _ _ E)
      · refine v_aload_n (r := (some o)) C 0 dX12_likely_229 rfl ?_
        refine v_iload_n C 1 dX12_likely_230 rfl ?_
        obtain ⟨q13, h14, E⟩ := bnd E
        refine v_callV (r := (some o)) (As := [.int x1]) (rv := none) (st := []) (st1 := []) (ce1 := 0) (sl1 := 0) C cv_X12_364 (c_X12_goCaravan (x1 := x1) ho h14) rfl ho rfl rfl ⟨rfl, rfl, Nat.le_of_ble_eq_true rfl, Nat.le_of_ble_eq_true rfl⟩ ⟨Nat.le_of_ble_eq_true rfl, Nat.le_of_ble_eq_true rfl⟩ (Nat.le_of_ble_eq_true rfl) rfl rfl rfl dX12_likely_231 ?_
        refine v_lload C 4 dX12_likely_234 rfl ?_
        refine v_aload_n (r := (some o)) C 0 dX12_likely_236 rfl ?_
        refine v_getI (r := (some o)) C fa_X12_162 rfl rfl ho dX12_likely_237 ?_
        refine v_if_ge C 247 E dX12_likely_240 rfl (fun c15 E => ?_) (fun c15 E => ?_)
        · refine v_lload C 7 dX12_likely_247 rfl ?_
          exact v_sub [0, 1, 2, 3, 5, 6] [(0, va_rf (some o)), (1, .int x1), (2, .int x2), (3, .int x3), (6, .long x6), (8, .int x8)] rfl (w_X12_likely_249 C ho res _ hr70 _ _ _ _ _ _ _ _ E)
        · refine v_lconst (v := 0) C dX12_likely_243 (by decide) ?_
          refine v_goto C 249 dX12_likely_244 rfl ?_
          exact v_sub [0, 1, 2, 3, 5, 6] [(0, va_rf (some o)), (1, .int x1), (2, .int x2), (3, .int x3), (6, .long x6), (8, .int x8)] rfl (w_X12_likely_249 C ho res _ hr70 _ _ _ _ _ _ _ _ E)
    · refine v_iload C 6 dX12_likely_94 rfl ?_
      refine v_iload C 8 dX12_likely_96 rfl ?_
      refine v_ishr C dX12_likely_98 ?_
      refine v_iconst C dX12_likely_99 k_iconst_1 ?_
      refine v_iand C dX12_likely_100 ?_
      refine v_iconst C dX12_likely_101 k_iconst_1 ?_
      refine v_icmp_ne C 109 E dX12_likely_102 rfl (fun c17 E => ?_) (fun c17 E => ?_)
      · refine v_iconst C dX12_likely_105 k_iconst_1 ?_
        refine v_goto C 110 dX12_likely_106 rfl ?_
        exact v_sub [0, 1, 2, 3, 4, 5, 6, 7, 8] [(0, va_rf (some o)), (1, .int x1), (2, .int x2), (3, .int x3), (4, .long x4), (6, .long x6), (8, .int x8), (9, .long x9), (11, .int x11)] rfl (w_X12_likely_110 C ho res _ hr70 _ ih _ _ _ _ _ _ _ _ _ _ E)
      · refine v_iconst C dX12_likely_109 k_iconst_0 ?_
        exact v_sub [0, 1, 2, 3, 4, 5, 6, 7, 8] [(0, va_rf (some o)), (1, .int x1), (2, .int x2), (3, .int x3), (4, .long x4), (6, .long x6), (8, .int x8), (9, .long x9), (11, .int x11)] rfl (w_X12_likely_110 C ho res _ hr70 _ ih _ _ _ _ _ _ _ _ _ _ E)
set_option maxHeartbeats 4000000 in
theorem w_X12_likely_70 (C : Cx D cA bs Z p s m args meth c cX12_likely RX12 13 (some .long)) {o : Nat} {K : Sh} {n : Nat} {J : Jm} {R : Rf} (ho : (K o).1 = 13) (res : Int64 × Im)  : ∀ (k : Nat), ∀ (x1 : Int32) (x2 : Int32) (x3 : Int32) (x4 : Int64) (x6 : Int64) (x8 : Int32) (I : Im), f_X12_likely_70 K R o k x1 x2 x3 x4 x6 x8 I = some res → VW D cA bs Z p l e rX12_likely s m args below meth c 13 [(0, va_rf (some o)), (1, .int x1), (2, .int x2), (3, .int x3), (4, .long x4), (6, .long x6), (8, .int x8)] K n I J R 0 0 (MQ below (QX D cA bs Z (some (.long res.1)) K n res.2 J R) args s 0 0 (fun q => bs ≤ q)) 70 [] := by
  intro k
  induction k with
  | zero =>
    intro x1 x2 x3 x4 x6 x8 I E
    have E : (none : Option (Int64 × Im)) = some res := E
    cases E
  | succ k ih =>
    intro x1 x2 x3 x4 x6 x8 I E
    unfold f_X12_likely_70 at E
    refine v_iload C 6 dX12_likely_70 rfl ?_
    refine v_iconst C dX12_likely_72 k_iconst_1 ?_
    refine v_iload_n C 3 dX12_likely_73 rfl ?_
    refine v_ishl C dX12_likely_74 ?_
    refine v_icmp_ge C 258 E dX12_likely_75 rfl (fun c26 E => ?_) (fun c26 E => ?_)
    · refine v_aload_n (r := (some o)) C 0 dX12_likely_258 rfl ?_
      refine v_lload C 4 dX12_likely_259 rfl ?_
      refine v_lload C 5 dX12_likely_261 rfl ?_
      obtain ⟨q19, h20, E⟩ := bnd E
      refine v_callV (r := (some o)) (As := [.long x4, .long x6]) (rv := (some (.long q19))) (st := []) (st1 := [.long q19]) (ce1 := 0) (sl1 := 0) C cv_X12_381 (c_X12_divisor (x1 := x4) (x3 := x6) ho h20) rfl ho rfl rfl ⟨rfl, rfl, Nat.le_of_ble_eq_true rfl, Nat.le_of_ble_eq_true rfl⟩ ⟨Nat.le_of_ble_eq_true rfl, Nat.le_of_ble_eq_true rfl⟩ (Nat.le_of_ble_eq_true rfl) rfl rfl rfl dX12_likely_263 ?_
      refine v_lstore C [(8, .long q19), (0, va_rf (some o)), (1, .int x1), (2, .int x2), (3, .int x3), (4, .long x4), (6, .long x6)] dX12_likely_266 (Nat.le_of_ble_eq_true rfl) rfl ?_
      refine v_iload_n C 3 dX12_likely_268 rfl ?_
      refine v_if_ne C 280 E dX12_likely_269 rfl (fun c23 E => ?_) (fun c23 E => ?_)
      · refine v_lload C 5 dX12_likely_272 rfl ?_
        refine v_lload C 0 dX12_likely_274 rfl ?_
        refine v_ldivq C E dX12_likely_276 (fun v22 _ E => ?_)
        refine v_goto C 285 dX12_likely_277 rfl ?_
        obtain rfl := Option.some.inj E
        exact v_lret C rfl dX12_likely_285
      · refine v_lload C 6 dX12_likely_280 rfl ?_
        refine v_lload C 0 dX12_likely_282 rfl ?_
        refine v_ldivq C E dX12_likely_284 (fun v21 _ E => ?_)
        obtain rfl := Option.some.inj E
        exact v_lret C rfl dX12_likely_285
    · refine v_lconst (v := 1) C dX12_likely_78 (by decide) ?_
      refine v_lstore C [(9, .long (1 : Int64)), (0, va_rf (some o)), (1, .int x1), (2, .int x2), (3, .int x3), (4, .long x4), (6, .long x6), (8, .int x8)] dX12_likely_79 (Nat.le_of_ble_eq_true rfl) rfl ?_
      refine v_aload_n (r := (some o)) C 1 dX12_likely_81 rfl ?_
      obtain ⟨q24, h25, E⟩ := bnd E
      refine v_callV (r := (some o)) (As := []) (rv := none) (st := []) (st1 := []) (ce1 := 0) (sl1 := 0) C cv_X12_306 (c_X12_lay  ho h25) rfl ho rfl rfl ⟨rfl, rfl, Nat.le_of_ble_eq_true rfl, Nat.le_of_ble_eq_true rfl⟩ ⟨Nat.le_of_ble_eq_true rfl, Nat.le_of_ble_eq_true rfl⟩ (Nat.le_of_ble_eq_true rfl) rfl rfl rfl dX12_likely_82 ?_
      refine v_iconst C dX12_likely_85 k_iconst_0 ?_
      refine v_istore C [(11, .int 0), (9, .long (1 : Int64)), (0, va_rf (some o)), (1, .int x1), (2, .int x2), (3, .int x3), (4, .long x4), (6, .long x6), (8, .int x8)] dX12_likely_86 (Nat.le_of_ble_eq_true rfl) rfl ?_
      exact v_sub [2, 3, 4, 5, 6, 7, 8, 1, 0] [(0, va_rf (some o)), (1, .int x1), (2, .int x2), (3, .int x3), (4, .long x4), (6, .long x6), (8, .int x8), (9, .long (1 : Int64)), (11, .int 0)] rfl (w_X12_likely_88 C ho res _ ih _ _ _ _ _ _ _ _ _ _ E)
set_option maxHeartbeats 4000000 in
theorem w_X12_likely_47 (C : Cx D cA bs Z p s m args meth c cX12_likely RX12 13 (some .long)) {o : Nat} {K : Sh} {n : Nat} {J : Jm} {R : Rf} (ho : (K o).1 = 13) (res : Int64 × Im)  : ∀ (k : Nat), ∀ (x1 : Int32) (x2 : Int32) (x3 : Int32) (x4 : Int64) (x6 : Int64) (x8 : Int32) (I : Im), f_X12_likely_47 K R o k x1 x2 x3 x4 x6 x8 I = some res → VW D cA bs Z p l e rX12_likely s m args below meth c 13 [(0, va_rf (some o)), (1, .int x1), (2, .int x2), (3, .int x3), (4, .long x4), (6, .long x6), (8, .int x8)] K n I J R 0 0 (MQ below (QX D cA bs Z (some (.long res.1)) K n res.2 J R) args s 0 0 (fun q => bs ≤ q)) 47 [] := by
  intro k
  induction k with
  | zero =>
    intro x1 x2 x3 x4 x6 x8 I E
    have E : (none : Option (Int64 × Im)) = some res := E
    cases E
  | succ k ih =>
    intro x1 x2 x3 x4 x6 x8 I E
    unfold f_X12_likely_47 at E
    refine v_iload C 6 dX12_likely_47 rfl ?_
    refine v_iload_n C 3 dX12_likely_49 rfl ?_
    refine v_icmp_ge C 67 E dX12_likely_50 rfl (fun c27 E => ?_) (fun c27 E => ?_)
    · refine v_iconst C dX12_likely_67 k_iconst_0 ?_
      refine v_istore C [(8, .int 0), (0, va_rf (some o)), (1, .int x1), (2, .int x2), (3, .int x3), (4, .long x4), (6, .long x6)] dX12_likely_68 (Nat.le_of_ble_eq_true rfl) rfl ?_
      exact v_sub [1, 2, 3, 4, 5, 6, 0] [(0, va_rf (some o)), (1, .int x1), (2, .int x2), (3, .int x3), (4, .long x4), (6, .long x6), (8, .int 0)] rfl (w_X12_likely_70 C ho res  _ _ _ _ _ _ _ _ E)
    · refine v_lload C 5 dX12_likely_53 rfl ?_
      refine v_ldc2 C ct_X12_379 dX12_likely_55 ?_
      refine v_lmul C dX12_likely_58 ?_
      refine v_lstore C [(6, .long (x6 * (10 : Int64))), (0, va_rf (some o)), (1, .int x1), (2, .int x2), (3, .int x3), (4, .long x4), (8, .int x8)] dX12_likely_59 (Nat.le_of_ble_eq_true rfl) rfl ?_
      refine v_iinc (v := x8 + 1) C 6 [(8, .int (x8 + 1)), (6, .long (x6 * (10 : Int64))), (0, va_rf (some o)), (1, .int x1), (2, .int x2), (3, .int x3), (4, .long x4)] dX12_likely_61 rfl (k_inc_1 _) (Nat.le_of_ble_eq_true rfl) rfl ?_
      refine v_goto C 47 dX12_likely_64 rfl ?_
      exact v_sub [2, 3, 4, 5, 6, 1, 0] [(0, va_rf (some o)), (1, .int x1), (2, .int x2), (3, .int x3), (4, .long x4), (6, .long (x6 * (10 : Int64))), (8, .int (x8 + 1))] rfl (ih _ _ _ _ _ _ _ E)
set_option maxHeartbeats 4000000 in
theorem w_X12_likely_0 (C : Cx D cA bs Z p s m args meth c cX12_likely RX12 13 (some .long)) {o : Nat} {K : Sh} {n : Nat} {J : Jm} {R : Rf} (ho : (K o).1 = 13) (res : Int64 × Im) (x1 : Int32) (x2 : Int32) (I : Im) (E : f_X12_likely K R o x1 x2 I = some res) : VW D cA bs Z p l e rX12_likely s m args below meth c 13 [(0, va_rf (some o)), (1, .int x1), (2, .int x2)] K n I J R 0 0 (MQ below (QX D cA bs Z (some (.long res.1)) K n res.2 J R) args s 0 0 (fun q => bs ≤ q)) 0 [] := by
  unfold f_X12_likely at E
  refine v_aload_n (r := (some o)) C 0 dX12_likely_0 rfl ?_
  refine v_iload_n C 1 dX12_likely_1 rfl ?_
  obtain ⟨q28, h29, E⟩ := bnd E
  refine v_callV (r := (some o)) (As := [.int x1]) (rv := (some (.int q28))) (st := []) (st1 := [.int q28]) (ce1 := 0) (sl1 := 0) C cv_X12_358 (c_X12_isCaravan (x1 := x1) ho h29) rfl ho rfl rfl ⟨rfl, rfl, Nat.le_of_ble_eq_true rfl, Nat.le_of_ble_eq_true rfl⟩ ⟨Nat.le_of_ble_eq_true rfl, Nat.le_of_ble_eq_true rfl⟩ (Nat.le_of_ble_eq_true rfl) rfl rfl rfl dX12_likely_2 ?_
  refine v_if_eq C 25 E dX12_likely_5 rfl (fun c36 E => ?_) (fun c36 E => ?_)
  · refine v_ldc2 C ct_X12_377 dX12_likely_25 ?_
    obtain rfl := Option.some.inj E
    exact v_lret C rfl dX12_likely_28
  · refine v_aload_n (r := (some o)) C 0 dX12_likely_8 rfl ?_
    refine v_iload_n C 2 dX12_likely_9 rfl ?_
    refine v_iconst C dX12_likely_10 k_iconst_0 ?_
    refine v_iconst C dX12_likely_11 k_iconst_1 ?_
    obtain ⟨q30, h31, E⟩ := bnd E
    refine v_callV (r := (some o)) (As := [.int x2, .int 0, .int 1]) (rv := (some (.int q30))) (st := []) (st1 := [.int q30]) (ce1 := 0) (sl1 := 0) C cv_X12_233 (c_X12_in (x1 := x2) (x2 := 0) (x3 := 1) ho h31) rfl ho rfl rfl ⟨rfl, rfl, Nat.le_of_ble_eq_true rfl, Nat.le_of_ble_eq_true rfl⟩ ⟨Nat.le_of_ble_eq_true rfl, Nat.le_of_ble_eq_true rfl⟩ (Nat.le_of_ble_eq_true rfl) rfl rfl rfl dX12_likely_12 ?_
    refine v_if_eq C 25 E dX12_likely_15 rfl (fun c35 E => ?_) (fun c35 E => ?_)
    · refine v_ldc2 C ct_X12_377 dX12_likely_25 ?_
      obtain rfl := Option.some.inj E
      exact v_lret C rfl dX12_likely_28
    · refine v_aload_n (r := (some o)) C 0 dX12_likely_18 rfl ?_
      refine v_getI (r := (some o)) C fa_X12_13 rfl rfl ho dX12_likely_19 ?_
      refine v_if_ge C 29 E dX12_likely_22 rfl (fun c34 E => ?_) (fun c34 E => ?_)
      · refine v_aload_n (r := (some o)) C 0 dX12_likely_29 rfl ?_
        obtain ⟨q32, h33, E⟩ := bnd E
        refine v_callV (r := (some o)) (As := []) (rv := none) (st := []) (st1 := []) (ce1 := 0) (sl1 := 0) C cv_X12_306 (c_X12_lay  ho h33) rfl ho rfl rfl ⟨rfl, rfl, Nat.le_of_ble_eq_true rfl, Nat.le_of_ble_eq_true rfl⟩ ⟨Nat.le_of_ble_eq_true rfl, Nat.le_of_ble_eq_true rfl⟩ (Nat.le_of_ble_eq_true rfl) rfl rfl rfl dX12_likely_30 ?_
        refine v_aload_n (r := (some o)) C 0 dX12_likely_33 rfl ?_
        refine v_getI (r := (some o)) C fa_X12_75 rfl rfl ho dX12_likely_34 ?_
        refine v_istore_n C [(3, .int (q32 o 21)), (0, va_rf (some o)), (1, .int x1), (2, .int x2)] dX12_likely_37 (Nat.le_of_ble_eq_true rfl) rfl ?_
        refine v_lconst (v := 0) C dX12_likely_38 (by decide) ?_
        refine v_lstore C [(4, .long (0 : Int64)), (3, .int (q32 o 21)), (0, va_rf (some o)), (1, .int x1), (2, .int x2)] dX12_likely_39 (Nat.le_of_ble_eq_true rfl) rfl ?_
        refine v_lconst (v := 1) C dX12_likely_41 (by decide) ?_
        refine v_lstore C [(6, .long (1 : Int64)), (4, .long (0 : Int64)), (3, .int (q32 o 21)), (0, va_rf (some o)), (1, .int x1), (2, .int x2)] dX12_likely_42 (Nat.le_of_ble_eq_true rfl) rfl ?_
        refine v_iconst C dX12_likely_44 k_iconst_0 ?_
        refine v_istore C [(8, .int 0), (6, .long (1 : Int64)), (4, .long (0 : Int64)), (3, .int (q32 o 21)), (0, va_rf (some o)), (1, .int x1), (2, .int x2)] dX12_likely_45 (Nat.le_of_ble_eq_true rfl) rfl ?_
        exact v_sub [4, 5, 6, 3, 2, 1, 0] [(0, va_rf (some o)), (1, .int x1), (2, .int x2), (3, .int (q32 o 21)), (4, .long (0 : Int64)), (6, .long (1 : Int64)), (8, .int 0)] rfl (w_X12_likely_47 C ho res  _ _ _ _ _ _ _ _ E)
      · refine v_ldc2 C ct_X12_377 dX12_likely_25 ?_
        obtain rfl := Option.some.inj E
        exact v_lret C rfl dX12_likely_28
set_option maxHeartbeats 4000000 in
theorem c_X12_likely {n : Nat} {K : Sh} {I : Im} {J : Jm} {R : Rf} {o : Nat} {x1 : Int32} {x2 : Int32} (ho : (K o).1 = 13) {res : Int64 × Im} (E : f_X12_likely K R o x1 x2 I = some res) : Met l yX12_likely (Cond.code yX12_likely cX12_likely 13 (some .long) :: tb) rX12_likely (PX D cA bs Z [.ref o, .int x1, .int x2] K n I J R) (QX D cA bs Z (some (.long res.1)) K n res.2 J R) 0 0 (fun q => bs ≤ q) := by
  refine met_of (lv1 := [(0, va_rf (some o)), (1, .int x1), (2, .int x2)]) pn_X12 (by exact Nat.le_of_ble_eq_true rfl) (by rfl) ?_
  intro p e s m args below meth c C hn
  exact v_sub [0, 1, 2] [(0, va_rf (some o)), (1, .int x1), (2, .int x2)] rfl (w_X12_likely_0 C ho _ _ _ _ E)
set_option maxHeartbeats 4000000 in
theorem w_X12_layMore_137 (C : Cx D cA bs Z p s m args meth c cX12_layMore RX12 6 none) {o : Nat} {K : Sh} {n : Nat} {J : Jm} {R : Rf} (ho : (K o).1 = 13) (res : Im)  : ∀ (k : Nat), ∀ (x5 : Int32) (I : Im), f_X12_layMore_137 K R o k x5 I = some res → VW D cA bs Z p l e rX12_layMore s m args below meth c 6 [(0, va_rf (some o)), (5, .int x5)] K n I J R 0 0 (MQ below (QX D cA bs Z none K n res J R) args s 0 0 (fun q => bs ≤ q)) 137 [] := by
  intro k
  induction k with
  | zero =>
    intro x5 I E
    have E : (none : Option (Im)) = some res := E
    cases E
  | succ k ih =>
    intro x5 I E
    unfold f_X12_layMore_137 at E
    refine v_iload C 1 dX12_layMore_137 rfl ?_
    refine v_aload_n (r := (some o)) C 0 dX12_layMore_139 rfl ?_
    refine v_getI (r := (some o)) C fa_X12_75 rfl rfl ho dX12_layMore_140 ?_
    refine v_icmp_ge C 174 E dX12_layMore_143 rfl (fun c4 E => ?_) (fun c4 E => ?_)
    · obtain rfl := Option.some.inj E
      exact v_vret C rfl dX12_layMore_174
    · refine v_aload_n (r := (some o)) C 0 dX12_layMore_146 rfl ?_
      refine v_getR (r := (some o)) C fa_X12_87 rfl rfl ho dX12_layMore_147 ?_
      refine v_iload C 1 dX12_layMore_150 rfl ?_
      refine v_aload_n (r := (some o)) C 0 dX12_layMore_152 rfl ?_
      refine v_getR (r := (some o)) C fa_X12_78 rfl rfl ho dX12_layMore_153 ?_
      refine v_iload C 1 dX12_layMore_156 rfl ?_
      refine v_iald (r := (R o 22)) C E dX12_layMore_158 (fun v1 _ E => ?_)
      refine v_iast (r := (R o 25)) C E dX12_layMore_159 (fun I2 _ E => ?_)
      refine v_aload_n (r := (some o)) C 0 dX12_layMore_160 rfl ?_
      refine v_getR (r := (some o)) C fa_X12_90 rfl rfl ho dX12_layMore_161 ?_
      refine v_iload C 1 dX12_layMore_164 rfl ?_
      refine v_iconst C dX12_layMore_166 k_iconst_0 ?_
      refine v_iast (r := (R o 26)) C E dX12_layMore_167 (fun I3 _ E => ?_)
      refine v_iinc (v := x5 + 1) C 1 [(5, .int (x5 + 1)), (0, va_rf (some o))] dX12_layMore_168 rfl (k_inc_1 _) (Nat.le_of_ble_eq_true rfl) rfl ?_
      refine v_goto C 137 dX12_layMore_171 rfl ?_
      exact v_sub [1, 0] [(0, va_rf (some o)), (5, .int (x5 + 1))] rfl (ih _ _ E)
set_option maxHeartbeats 4000000 in
theorem w_X12_layMore_62 (C : Cx D cA bs Z p s m args meth c cX12_layMore RX12 6 none) {o : Nat} {K : Sh} {n : Nat} {J : Jm} {R : Rf} (ho : (K o).1 = 13) (res : Im)  : ∀ (k : Nat), ∀ (x1 : Int32) (x2 : Int32) (x3 : Int32) (x4 : Int32) (x5 : Int32) (I : Im), f_X12_layMore_62 K R o k x1 x2 x3 x4 x5 I = some res → VW D cA bs Z p l e rX12_layMore s m args below meth c 6 [(0, va_rf (some o)), (1, .int x1), (2, .int x2), (3, .int x3), (4, .int x4), (5, .int x5)] K n I J R 0 0 (MQ below (QX D cA bs Z none K n res J R) args s 0 0 (fun q => bs ≤ q)) 62 [] := by
  intro k
  induction k with
  | zero =>
    intro x1 x2 x3 x4 x5 I E
    have E : (none : Option (Im)) = some res := E
    cases E
  | succ k ih =>
    intro x1 x2 x3 x4 x5 I E
    unfold f_X12_layMore_62 at E
    refine v_iload C 5 dX12_layMore_62 rfl ?_
    refine v_iload_n C 1 dX12_layMore_64 rfl ?_
    refine v_icmp_le C 90 E dX12_layMore_65 rfl (fun c13 E => ?_) (fun c13 E => ?_)
    · refine v_aload_n (r := (some o)) C 0 dX12_layMore_90 rfl ?_
      refine v_getR (r := (some o)) C fa_X12_78 rfl rfl ho dX12_layMore_91 ?_
      refine v_iload_n C 1 dX12_layMore_94 rfl ?_
      refine v_iload_n C 3 dX12_layMore_95 rfl ?_
      refine v_iast (r := (R o 22)) C E dX12_layMore_96 (fun I5 _ E => ?_)
      refine v_aload_n (r := (some o)) C 0 dX12_layMore_97 rfl ?_
      refine v_getR (r := (some o)) C fa_X12_81 rfl rfl ho dX12_layMore_98 ?_
      refine v_iload_n C 1 dX12_layMore_101 rfl ?_
      refine v_iload C 4 dX12_layMore_102 rfl ?_
      refine v_iast (r := (R o 23)) C E dX12_layMore_104 (fun I6 _ E => ?_)
      refine v_aload_n (r := (some o)) C 0 dX12_layMore_105 rfl ?_
      refine v_getR (r := (some o)) C fa_X12_84 rfl rfl ho dX12_layMore_106 ?_
      refine v_iload_n C 1 dX12_layMore_109 rfl ?_
      refine v_iload_n C 2 dX12_layMore_110 rfl ?_
      refine v_iast (r := (R o 24)) C E dX12_layMore_111 (fun I7 _ E => ?_)
      refine v_aload_n (r := (some o)) C 0 dX12_layMore_112 rfl ?_
      refine v_getR (r := (some o)) C fa_X12_84 rfl rfl ho dX12_layMore_113 ?_
      refine v_iload_n C 1 dX12_layMore_116 rfl ?_
      refine v_iconst C dX12_layMore_117 k_iconst_1 ?_
      refine v_iadd C dX12_layMore_118 ?_
      refine v_dup2 C dX12_layMore_119 rfl (rf_cat _) ?_
      refine v_iald (r := (R o 24)) C E dX12_layMore_120 (fun v8 _ E => ?_)
      refine v_iload_n C 2 dX12_layMore_121 rfl ?_
      refine v_isub C dX12_layMore_122 ?_
      refine v_iast (r := (R o 24)) C E dX12_layMore_123 (fun I9 _ E => ?_)
      refine v_aload_n (r := (some o)) C 0 dX12_layMore_124 rfl ?_
      refine v_dup C dX12_layMore_125 (rf_cat _) ?_
      refine v_getI (r := (some o)) C fa_X12_75 rfl rfl ho dX12_layMore_126 ?_
      refine v_iconst C dX12_layMore_129 k_iconst_1 ?_
      refine v_iadd C dX12_layMore_130 ?_
      refine v_putI (r := (some o)) C fa_X12_75 rfl E rfl ho ⟨rfl, rfl⟩ dX12_layMore_131 (fun I10 _ E => ?_)
      refine v_iconst C dX12_layMore_134 k_iconst_0 ?_
      refine v_istore C [(5, .int 0), (0, va_rf (some o)), (1, .int x1), (2, .int x2), (3, .int x3), (4, .int x4)] dX12_layMore_135 (Nat.le_of_ble_eq_true rfl) rfl ?_
      exact v_sub [1, 0] [(0, va_rf (some o)), (5, .int 0)] rfl (w_X12_layMore_137 C ho res  _ _ _ E)
    · refine v_aload_n (r := (some o)) C 0 dX12_layMore_68 rfl ?_
      refine v_getR (r := (some o)) C fa_X12_84 rfl rfl ho dX12_layMore_69 ?_
      refine v_iload C 5 dX12_layMore_72 rfl ?_
      refine v_aload_n (r := (some o)) C 0 dX12_layMore_74 rfl ?_
      refine v_getR (r := (some o)) C fa_X12_84 rfl rfl ho dX12_layMore_75 ?_
      refine v_iload C 5 dX12_layMore_78 rfl ?_
      refine v_iconst C dX12_layMore_80 k_iconst_1 ?_
      refine v_isub C dX12_layMore_81 ?_
      refine v_iald (r := (R o 24)) C E dX12_layMore_82 (fun v11 _ E => ?_)
      refine v_iast (r := (R o 24)) C E dX12_layMore_83 (fun I12 _ E => ?_)
      refine v_iinc (v := x5 - 1) C 5 [(5, .int (x5 - 1)), (0, va_rf (some o)), (1, .int x1), (2, .int x2), (3, .int x3), (4, .int x4)] dX12_layMore_84 rfl (k_inc_m1 _) (Nat.le_of_ble_eq_true rfl) rfl ?_
      refine v_goto C 62 dX12_layMore_87 rfl ?_
      exact v_sub [1, 2, 3, 4, 5, 0] [(0, va_rf (some o)), (1, .int x1), (2, .int x2), (3, .int x3), (4, .int x4), (5, .int (x5 - 1))] rfl (ih _ _ _ _ _ _ E)
set_option maxHeartbeats 4000000 in
theorem w_X12_layMore_10 (C : Cx D cA bs Z p s m args meth c cX12_layMore RX12 6 none) {o : Nat} {K : Sh} {n : Nat} {J : Jm} {R : Rf} (ho : (K o).1 = 13) (res : Im)  : ∀ (k : Nat), ∀ (x1 : Int32) (x2 : Int32) (x3 : Int32) (x4 : Int32) (x5 : Int32) (I : Im), f_X12_layMore_10 K R o k x1 x2 x3 x4 x5 I = some res → VW D cA bs Z p l e rX12_layMore s m args below meth c 6 [(0, va_rf (some o)), (1, .int x1), (2, .int x2), (3, .int x3), (4, .int x4), (5, .int x5)] K n I J R 0 0 (MQ below (QX D cA bs Z none K n res J R) args s 0 0 (fun q => bs ≤ q)) 10 [] := by
  intro k
  induction k with
  | zero =>
    intro x1 x2 x3 x4 x5 I E
    have E : (none : Option (Im)) = some res := E
    cases E
  | succ k ih =>
    intro x1 x2 x3 x4 x5 I E
    unfold f_X12_layMore_10 at E
    refine v_iload C 5 dX12_layMore_10 rfl ?_
    refine v_iload_n C 1 dX12_layMore_12 rfl ?_
    refine v_icmp_le C 54 E dX12_layMore_13 rfl (fun c18 E => ?_) (fun c18 E => ?_)
    · refine v_aload_n (r := (some o)) C 0 dX12_layMore_54 rfl ?_
      refine v_getI (r := (some o)) C fa_X12_75 rfl rfl ho dX12_layMore_55 ?_
      refine v_iconst C dX12_layMore_58 k_iconst_1 ?_
      refine v_iadd C dX12_layMore_59 ?_
      refine v_istore C [(5, .int ((I o 21) + 1)), (0, va_rf (some o)), (1, .int x1), (2, .int x2), (3, .int x3), (4, .int x4)] dX12_layMore_60 (Nat.le_of_ble_eq_true rfl) rfl ?_
      exact v_sub [1, 2, 3, 4, 5, 0] [(0, va_rf (some o)), (1, .int x1), (2, .int x2), (3, .int x3), (4, .int x4), (5, .int ((I o 21) + 1))] rfl (w_X12_layMore_62 C ho res  _ _ _ _ _ _ _ E)
    · refine v_aload_n (r := (some o)) C 0 dX12_layMore_16 rfl ?_
      refine v_getR (r := (some o)) C fa_X12_78 rfl rfl ho dX12_layMore_17 ?_
      refine v_iload C 5 dX12_layMore_20 rfl ?_
      refine v_aload_n (r := (some o)) C 0 dX12_layMore_22 rfl ?_
      refine v_getR (r := (some o)) C fa_X12_78 rfl rfl ho dX12_layMore_23 ?_
      refine v_iload C 5 dX12_layMore_26 rfl ?_
      refine v_iconst C dX12_layMore_28 k_iconst_1 ?_
      refine v_isub C dX12_layMore_29 ?_
      refine v_iald (r := (R o 22)) C E dX12_layMore_30 (fun v14 _ E => ?_)
      refine v_iast (r := (R o 22)) C E dX12_layMore_31 (fun I15 _ E => ?_)
      refine v_aload_n (r := (some o)) C 0 dX12_layMore_32 rfl ?_
      refine v_getR (r := (some o)) C fa_X12_81 rfl rfl ho dX12_layMore_33 ?_
      refine v_iload C 5 dX12_layMore_36 rfl ?_
      refine v_aload_n (r := (some o)) C 0 dX12_layMore_38 rfl ?_
      refine v_getR (r := (some o)) C fa_X12_81 rfl rfl ho dX12_layMore_39 ?_
      refine v_iload C 5 dX12_layMore_42 rfl ?_
      refine v_iconst C dX12_layMore_44 k_iconst_1 ?_
      refine v_isub C dX12_layMore_45 ?_
      refine v_iald (r := (R o 23)) C E dX12_layMore_46 (fun v16 _ E => ?_)
      refine v_iast (r := (R o 23)) C E dX12_layMore_47 (fun I17 _ E => ?_)
      refine v_iinc (v := x5 - 1) C 5 [(5, .int (x5 - 1)), (0, va_rf (some o)), (1, .int x1), (2, .int x2), (3, .int x3), (4, .int x4)] dX12_layMore_48 rfl (k_inc_m1 _) (Nat.le_of_ble_eq_true rfl) rfl ?_
      refine v_goto C 10 dX12_layMore_51 rfl ?_
      exact v_sub [1, 2, 3, 4, 5, 0] [(0, va_rf (some o)), (1, .int x1), (2, .int x2), (3, .int x3), (4, .int x4), (5, .int (x5 - 1))] rfl (ih _ _ _ _ _ _ E)
set_option maxHeartbeats 4000000 in
theorem w_X12_layMore_0 (C : Cx D cA bs Z p s m args meth c cX12_layMore RX12 6 none) {o : Nat} {K : Sh} {n : Nat} {J : Jm} {R : Rf} (ho : (K o).1 = 13) (res : Im) (x1 : Int32) (x2 : Int32) (x3 : Int32) (x4 : Int32) (I : Im) (E : f_X12_layMore K R o x1 x2 x3 x4 I = some res) : VW D cA bs Z p l e rX12_layMore s m args below meth c 6 [(0, va_rf (some o)), (1, .int x1), (2, .int x2), (3, .int x3), (4, .int x4)] K n I J R 0 0 (MQ below (QX D cA bs Z none K n res J R) args s 0 0 (fun q => bs ≤ q)) 0 [] := by
  unfold f_X12_layMore at E
  refine v_aload_n (r := (some o)) C 0 dX12_layMore_0 rfl ?_
  obtain ⟨q19, h20, E⟩ := bnd E
  refine v_callV (r := (some o)) (As := []) (rv := none) (st := []) (st1 := []) (ce1 := 0) (sl1 := 0) C cv_X12_306 (c_X12_lay  ho h20) rfl ho rfl rfl ⟨rfl, rfl, Nat.le_of_ble_eq_true rfl, Nat.le_of_ble_eq_true rfl⟩ ⟨Nat.le_of_ble_eq_true rfl, Nat.le_of_ble_eq_true rfl⟩ (Nat.le_of_ble_eq_true rfl) rfl rfl rfl dX12_layMore_1 ?_
  refine v_aload_n (r := (some o)) C 0 dX12_layMore_4 rfl ?_
  refine v_getI (r := (some o)) C fa_X12_75 rfl rfl ho dX12_layMore_5 ?_
  refine v_istore C [(5, .int (q19 o 21)), (0, va_rf (some o)), (1, .int x1), (2, .int x2), (3, .int x3), (4, .int x4)] dX12_layMore_8 (Nat.le_of_ble_eq_true rfl) rfl ?_
  exact v_sub [1, 2, 3, 4, 5, 0] [(0, va_rf (some o)), (1, .int x1), (2, .int x2), (3, .int x3), (4, .int x4), (5, .int (q19 o 21))] rfl (w_X12_layMore_10 C ho res  _ _ _ _ _ _ _ E)
set_option maxHeartbeats 4000000 in
theorem c_X12_layMore {n : Nat} {K : Sh} {I : Im} {J : Jm} {R : Rf} {o : Nat} {x1 : Int32} {x2 : Int32} {x3 : Int32} {x4 : Int32} (ho : (K o).1 = 13) {res : Im} (E : f_X12_layMore K R o x1 x2 x3 x4 I = some res) : Met l yX12_layMore (Cond.code yX12_layMore cX12_layMore 6 none :: tb) rX12_layMore (PX D cA bs Z [.ref o, .int x1, .int x2, .int x3, .int x4] K n I J R) (QX D cA bs Z none K n res J R) 0 0 (fun q => bs ≤ q) := by
  refine met_of (lv1 := [(0, va_rf (some o)), (1, .int x1), (2, .int x2), (3, .int x3), (4, .int x4)]) pn_X12 (by exact Nat.le_of_ble_eq_true rfl) (by rfl) ?_
  intro p e s m args below meth c C hn
  exact v_sub [0, 1, 2, 3, 4] [(0, va_rf (some o)), (1, .int x1), (2, .int x2), (3, .int x3), (4, .int x4)] rfl (w_X12_layMore_0 C ho _ _ _ _ _ _ E)
set_option maxHeartbeats 4000000 in
theorem w_X12_dig_168 (C : Cx D cA bs Z p s m args meth c cX12_dig RX12 11 (some .int)) {o : Nat} {K : Sh} {n : Nat} {J : Jm} {R : Rf} (ho : (K o).1 = 13) (res : Int32 × Im) (r86 : Int32 → Int32 → Int32 → Int32 → Int32 → Int32 → Int32 → Int32 → Im → Option (Int32 × Im)) (hr86 : ∀ (x1 : Int32) (x2 : Int32) (x3 : Int32) (x4 : Int32) (x5 : Int32) (x6 : Int32) (x7 : Int32) (x8 : Int32) (I : Im), r86 x1 x2 x3 x4 x5 x6 x7 x8 I = some res → VW D cA bs Z p l e rX12_dig s m args below meth c 11 [(0, va_rf (some o)), (1, .int x1), (2, .int x2), (3, .int x3), (4, .int x4), (5, .int x5), (6, .int x6), (7, .int x7), (8, .int x8)] K n I J R 0 0 (MQ below (QX D cA bs Z (some (.int res.1)) K n res.2 J R) args s 0 0 (fun q => bs ≤ q)) 86 []) (r109 : Int32 → Int32 → Int32 → Int32 → Int32 → Int32 → Int32 → Int32 → Int32 → Int32 → Im → Option (Int32 × Im)) (hr109 : ∀ (x1 : Int32) (x2 : Int32) (x3 : Int32) (x4 : Int32) (x5 : Int32) (x6 : Int32) (x7 : Int32) (x8 : Int32) (x9 : Int32) (x10 : Int32) (I : Im), r109 x1 x2 x3 x4 x5 x6 x7 x8 x9 x10 I = some res → VW D cA bs Z p l e rX12_dig s m args below meth c 11 [(0, va_rf (some o)), (1, .int x1), (2, .int x2), (3, .int x3), (4, .int x4), (5, .int x5), (6, .int x6), (7, .int x7), (8, .int x8), (9, .int x9), (10, .int x10)] K n I J R 0 0 (MQ below (QX D cA bs Z (some (.int res.1)) K n res.2 J R) args s 0 0 (fun q => bs ≤ q)) 109 []) (x1 : Int32) (x2 : Int32) (x3 : Int32) (x4 : Int32) (x5 : Int32) (x8 : Int32) (x9 : Int32) (x10 : Int32) (I : Im) (E : f_X12_dig_168 K R o r86 r109 x1 x2 x3 x4 x5 x8 x9 x10 I = some res) : VW D cA bs Z p l e rX12_dig s m args below meth c 11 [(0, va_rf (some o)), (1, .int x1), (2, .int x2), (3, .int x3), (4, .int x4), (5, .int x5), (8, .int x8), (9, .int x9), (10, .int x10)] K n I J R 0 0 (MQ below (QX D cA bs Z (some (.int res.1)) K n res.2 J R) args s 0 0 (fun q => bs ≤ q)) 168 [] := by
  unfold f_X12_dig_168 at E
  refine v_aload_n (r := (some o)) C 0 dX12_dig_168 rfl ?_
  refine v_getI (r := (some o)) C fa_X12_162 rfl rfl ho dX12_dig_169 ?_
  refine v_istore C [(7, .int (I o 50)), (0, va_rf (some o)), (1, .int x1), (2, .int x2), (3, .int x3), (4, .int x4), (5, .int x5), (8, .int x8), (9, .int x9), (10, .int x10)] dX12_dig_172 (Nat.le_of_ble_eq_true rfl) rfl ?_
  refine v_bipush C dX12_dig_174 k_bipush_100 ?_
  refine v_iload C 7 dX12_dig_176 rfl ?_
  refine v_imul C dX12_dig_178 ?_
  refine v_iload C 9 dX12_dig_179 rfl ?_
  refine v_iadd C dX12_dig_181 ?_
  refine v_istore C [(6, .int ((100 * x8) + x10)), (7, .int (I o 50)), (0, va_rf (some o)), (1, .int x1), (2, .int x2), (3, .int x3), (4, .int x4), (5, .int x5), (8, .int x8), (9, .int x9), (10, .int x10)] dX12_dig_182 (Nat.le_of_ble_eq_true rfl) rfl ?_
  refine v_iinc (v := x10 + 1) C 10 [(10, .int (x10 + 1)), (6, .int ((100 * x8) + x10)), (7, .int (I o 50)), (0, va_rf (some o)), (1, .int x1), (2, .int x2), (3, .int x3), (4, .int x4), (5, .int x5), (8, .int x8), (9, .int x9)] dX12_dig_184 rfl (k_inc_1 _) (Nat.le_of_ble_eq_true rfl) rfl ?_
  refine v_goto C 109 dX12_dig_187 rfl ?_
  exact v_sub [3, 4, 5, 6, 7, 8, 1, 2, 9, 10, 0] [(0, va_rf (some o)), (1, .int x1), (2, .int x2), (3, .int x3), (4, .int x4), (5, .int x5), (6, .int ((100 * x8) + x10)), (7, .int (I o 50)), (8, .int x8), (9, .int x9), (10, .int (x10 + 1))] rfl (hr109 _ _ _ _ _ _ _ _ _ _ _ E)
set_option maxHeartbeats 4000000 in
theorem w_X12_dig_109 (C : Cx D cA bs Z p s m args meth c cX12_dig RX12 11 (some .int)) {o : Nat} {K : Sh} {n : Nat} {J : Jm} {R : Rf} (ho : (K o).1 = 13) (res : Int32 × Im) (r86 : Int32 → Int32 → Int32 → Int32 → Int32 → Int32 → Int32 → Int32 → Im → Option (Int32 × Im)) (hr86 : ∀ (x1 : Int32) (x2 : Int32) (x3 : Int32) (x4 : Int32) (x5 : Int32) (x6 : Int32) (x7 : Int32) (x8 : Int32) (I : Im), r86 x1 x2 x3 x4 x5 x6 x7 x8 I = some res → VW D cA bs Z p l e rX12_dig s m args below meth c 11 [(0, va_rf (some o)), (1, .int x1), (2, .int x2), (3, .int x3), (4, .int x4), (5, .int x5), (6, .int x6), (7, .int x7), (8, .int x8)] K n I J R 0 0 (MQ below (QX D cA bs Z (some (.int res.1)) K n res.2 J R) args s 0 0 (fun q => bs ≤ q)) 86 [])  : ∀ (k : Nat), ∀ (x1 : Int32) (x2 : Int32) (x3 : Int32) (x4 : Int32) (x5 : Int32) (x6 : Int32) (x7 : Int32) (x8 : Int32) (x9 : Int32) (x10 : Int32) (I : Im), f_X12_dig_109 K R o r86 k x1 x2 x3 x4 x5 x6 x7 x8 x9 x10 I = some res → VW D cA bs Z p l e rX12_dig s m args below meth c 11 [(0, va_rf (some o)), (1, .int x1), (2, .int x2), (3, .int x3), (4, .int x4), (5, .int x5), (6, .int x6), (7, .int x7), (8, .int x8), (9, .int x9), (10, .int x10)] K n I J R 0 0 (MQ below (QX D cA bs Z (some (.int res.1)) K n res.2 J R) args s 0 0 (fun q => bs ≤ q)) 109 [] := by
  intro k
  induction k with
  | zero =>
    intro x1 x2 x3 x4 x5 x6 x7 x8 x9 x10 I E
    have E : (none : Option (Int32 × Im)) = some res := E
    cases E
  | succ k ih =>
    intro x1 x2 x3 x4 x5 x6 x7 x8 x9 x10 I E
    unfold f_X12_dig_109 at E
    refine v_iload C 10 dX12_dig_109 rfl ?_
    refine v_iload C 9 dX12_dig_111 rfl ?_
    refine v_icmp_ge C 190 E dX12_dig_113 rfl (fun c10 E => ?_) (fun c10 E => ?_)
    · refine v_iinc (v := x8 + 1) C 8 [(8, .int (x8 + 1)), (0, va_rf (some o)), (1, .int x1), (2, .int x2), (3, .int x3), (4, .int x4), (5, .int x5), (6, .int x6), (7, .int x7), (9, .int x9), (10, .int x10)] dX12_dig_190 rfl (k_inc_1 _) (Nat.le_of_ble_eq_true rfl) rfl ?_
      refine v_goto C 86 dX12_dig_193 rfl ?_
      exact v_sub [1, 2, 3, 4, 5, 6, 7, 8, 0] [(0, va_rf (some o)), (1, .int x1), (2, .int x2), (3, .int x3), (4, .int x4), (5, .int x5), (6, .int x6), (7, .int x7), (8, .int (x8 + 1))] rfl (hr86 _ _ _ _ _ _ _ _ _ E)
    · refine v_aload_n (r := (some o)) C 0 dX12_dig_116 rfl ?_
      refine v_iload C 8 dX12_dig_117 rfl ?_
      refine v_iload C 10 dX12_dig_119 rfl ?_
      refine v_iload_n C 2 dX12_dig_121 rfl ?_
      refine v_iload_n C 3 dX12_dig_122 rfl ?_
      obtain ⟨q1, h2, E⟩ := bnd E
      refine v_callV (r := (some o)) (As := [.int x8, .int x10, .int x2, .int x3]) (rv := none) (st := []) (st1 := []) (ce1 := 0) (sl1 := 0) C cv_X12_385 (c_X12_layMore (x1 := x8) (x2 := x10) (x3 := x2) (x4 := x3) ho h2) rfl ho rfl rfl ⟨rfl, rfl, Nat.le_of_ble_eq_true rfl, Nat.le_of_ble_eq_true rfl⟩ ⟨Nat.le_of_ble_eq_true rfl, Nat.le_of_ble_eq_true rfl⟩ (Nat.le_of_ble_eq_true rfl) rfl rfl rfl dX12_dig_123 ?_
      refine v_aload_n (r := (some o)) C 0 dX12_dig_126 rfl ?_
      refine v_aload_n (r := (some o)) C 0 dX12_dig_127 rfl ?_
      refine v_getR (r := (some o)) C fa_X12_114 rfl rfl ho dX12_dig_128 ?_
      refine v_iload_n C 1 dX12_dig_131 rfl ?_
      refine v_iald (r := (R o 34)) C E dX12_dig_132 (fun v3 _ E => ?_)
      refine v_aload_n (r := (some o)) C 0 dX12_dig_133 rfl ?_
      refine v_getR (r := (some o)) C fa_X12_117 rfl rfl ho dX12_dig_134 ?_
      refine v_iload_n C 1 dX12_dig_137 rfl ?_
      refine v_iald (r := (R o 35)) C E dX12_dig_138 (fun v4 _ E => ?_)
      refine v_iconst C dX12_dig_139 k_iconst_0 ?_
      refine v_iconst C dX12_dig_140 k_iconst_5 ?_
      obtain ⟨q5, h6, E⟩ := bnd E
      refine v_callV (r := (some o)) (As := [.int v3, .int v4, .int 0, .int 5]) (rv := none) (st := []) (st1 := []) (ce1 := 0) (sl1 := 0) C cv_X12_354 (c_X12_go (x1 := v3) (x2 := v4) (x3 := 0) (x4 := 5) ho h6) rfl ho rfl rfl ⟨rfl, rfl, Nat.le_of_ble_eq_true rfl, Nat.le_of_ble_eq_true rfl⟩ ⟨Nat.le_of_ble_eq_true rfl, Nat.le_of_ble_eq_true rfl⟩ (Nat.le_of_ble_eq_true rfl) rfl rfl rfl dX12_dig_141 ?_
      refine v_aload_n (r := (some o)) C 0 dX12_dig_144 rfl ?_
      refine v_getI (r := (some o)) C fa_X12_162 rfl rfl ho dX12_dig_145 ?_
      refine v_if_lt C 184 E dX12_dig_148 rfl (fun c9 E => ?_) (fun c9 E => ?_)
      · refine v_iinc (v := x10 + 1) C 10 [(10, .int (x10 + 1)), (0, va_rf (some o)), (1, .int x1), (2, .int x2), (3, .int x3), (4, .int x4), (5, .int x5), (6, .int x6), (7, .int x7), (8, .int x8), (9, .int x9)] dX12_dig_184 rfl (k_inc_1 _) (Nat.le_of_ble_eq_true rfl) rfl ?_
        refine v_goto C 109 dX12_dig_187 rfl ?_
        exact v_sub [1, 2, 3, 4, 5, 6, 7, 8, 9, 10, 0] [(0, va_rf (some o)), (1, .int x1), (2, .int x2), (3, .int x3), (4, .int x4), (5, .int x5), (6, .int x6), (7, .int x7), (8, .int x8), (9, .int x9), (10, .int (x10 + 1))] rfl (ih _ _ _ _ _ _ _ _ _ _ _ E)
      · refine v_iload C 7 dX12_dig_151 rfl ?_
        refine v_if_lt C 168 E dX12_dig_153 rfl (fun c8 E => ?_) (fun c8 E => ?_)
        · exact v_sub [0, 1, 2, 3, 4, 5, 8, 9, 10] [(0, va_rf (some o)), (1, .int x1), (2, .int x2), (3, .int x3), (4, .int x4), (5, .int x5), (8, .int x8), (9, .int x9), (10, .int x10)] rfl (w_X12_dig_168 C ho res _ hr86 _ ih _ _ _ _ _ _ _ _ _ E)
        · refine v_aload_n (r := (some o)) C 0 dX12_dig_156 rfl ?_
          refine v_getI (r := (some o)) C fa_X12_162 rfl rfl ho dX12_dig_157 ?_
          refine v_iload C 7 dX12_dig_160 rfl ?_
          refine v_icmp_lt C 168 E dX12_dig_162 rfl (fun c7 E => ?_) (fun c7 E => ?_)
          · exact v_sub [0, 1, 2, 3, 4, 5, 8, 9, 10] [(0, va_rf (some o)), (1, .int x1), (2, .int x2), (3, .int x3), (4, .int x4), (5, .int x5), (8, .int x8), (9, .int x9), (10, .int x10)] rfl (w_X12_dig_168 C ho res _ hr86 _ ih _ _ _ _ _ _ _ _ _ E)
          · refine v_goto C 184 dX12_dig_165 rfl ?_
            refine v_iinc (v := x10 + 1) C 10 [(10, .int (x10 + 1)), (0, va_rf (some o)), (1, .int x1), (2, .int x2), (3, .int x3), (4, .int x4), (5, .int x5), (6, .int x6), (7, .int x7), (8, .int x8), (9, .int x9)] dX12_dig_184 rfl (k_inc_1 _) (Nat.le_of_ble_eq_true rfl) rfl ?_
            refine v_goto C 109 dX12_dig_187 rfl ?_
            exact v_sub [1, 2, 3, 4, 5, 6, 7, 8, 9, 10, 0] [(0, va_rf (some o)), (1, .int x1), (2, .int x2), (3, .int x3), (4, .int x4), (5, .int x5), (6, .int x6), (7, .int x7), (8, .int x8), (9, .int x9), (10, .int (x10 + 1))] rfl (ih _ _ _ _ _ _ _ _ _ _ _ E)
set_option maxHeartbeats 4000000 in
theorem w_X12_dig_86 (C : Cx D cA bs Z p s m args meth c cX12_dig RX12 11 (some .int)) {o : Nat} {K : Sh} {n : Nat} {J : Jm} {R : Rf} (ho : (K o).1 = 13) (res : Int32 × Im)  : ∀ (k : Nat), ∀ (x1 : Int32) (x2 : Int32) (x3 : Int32) (x4 : Int32) (x5 : Int32) (x6 : Int32) (x7 : Int32) (x8 : Int32) (I : Im), f_X12_dig_86 K R o k x1 x2 x3 x4 x5 x6 x7 x8 I = some res → VW D cA bs Z p l e rX12_dig s m args below meth c 11 [(0, va_rf (some o)), (1, .int x1), (2, .int x2), (3, .int x3), (4, .int x4), (5, .int x5), (6, .int x6), (7, .int x7), (8, .int x8)] K n I J R 0 0 (MQ below (QX D cA bs Z (some (.int res.1)) K n res.2 J R) args s 0 0 (fun q => bs ≤ q)) 86 [] := by
  intro k
  induction k with
  | zero =>
    intro x1 x2 x3 x4 x5 x6 x7 x8 I E
    have E : (none : Option (Int32 × Im)) = some res := E
    cases E
  | succ k ih =>
    intro x1 x2 x3 x4 x5 x6 x7 x8 I E
    unfold f_X12_dig_86 at E
    refine v_iload C 8 dX12_dig_86 rfl ?_
    refine v_iload C 5 dX12_dig_88 rfl ?_
    refine v_icmp_gt C 196 E dX12_dig_90 rfl (fun c15 E => ?_) (fun c15 E => ?_)
    · refine v_iload C 4 dX12_dig_196 rfl ?_
      refine v_if_ne C 206 E dX12_dig_198 rfl (fun c11 E => ?_) (fun c11 E => ?_)
      · refine v_iload C 6 dX12_dig_201 rfl ?_
        refine v_goto C 208 dX12_dig_203 rfl ?_
        obtain rfl := Option.some.inj E
        exact v_iret C rfl dX12_dig_208
      · refine v_iload C 7 dX12_dig_206 rfl ?_
        obtain rfl := Option.some.inj E
        exact v_iret C rfl dX12_dig_208
    · refine v_aload_n (r := (some o)) C 0 dX12_dig_93 rfl ?_
      obtain ⟨q12, h13, E⟩ := bnd E
      refine v_callV (r := (some o)) (As := []) (rv := none) (st := []) (st1 := []) (ce1 := 0) (sl1 := 0) C cv_X12_306 (c_X12_lay  ho h13) rfl ho rfl rfl ⟨rfl, rfl, Nat.le_of_ble_eq_true rfl, Nat.le_of_ble_eq_true rfl⟩ ⟨Nat.le_of_ble_eq_true rfl, Nat.le_of_ble_eq_true rfl⟩ (Nat.le_of_ble_eq_true rfl) rfl rfl rfl dX12_dig_94 ?_
      refine v_aload_n (r := (some o)) C 0 dX12_dig_97 rfl ?_
      refine v_getR (r := (some o)) C fa_X12_84 rfl rfl ho dX12_dig_98 ?_
      refine v_iload C 8 dX12_dig_101 rfl ?_
      refine v_iald (r := (R o 24)) C E dX12_dig_103 (fun v14 _ E => ?_)
      refine v_istore C [(9, .int v14), (0, va_rf (some o)), (1, .int x1), (2, .int x2), (3, .int x3), (4, .int x4), (5, .int x5), (6, .int x6), (7, .int x7), (8, .int x8)] dX12_dig_104 (Nat.le_of_ble_eq_true rfl) rfl ?_
      refine v_iconst C dX12_dig_106 k_iconst_1 ?_
      refine v_istore C [(10, .int 1), (9, .int v14), (0, va_rf (some o)), (1, .int x1), (2, .int x2), (3, .int x3), (4, .int x4), (5, .int x5), (6, .int x6), (7, .int x7), (8, .int x8)] dX12_dig_107 (Nat.le_of_ble_eq_true rfl) rfl ?_
      exact v_sub [2, 3, 4, 5, 6, 7, 8, 9, 10, 1, 0] [(0, va_rf (some o)), (1, .int x1), (2, .int x2), (3, .int x3), (4, .int x4), (5, .int x5), (6, .int x6), (7, .int x7), (8, .int x8), (9, .int v14), (10, .int 1)] rfl (w_X12_dig_109 C ho res _ ih _ _ _ _ _ _ _ _ _ _ _ _ E)
set_option maxHeartbeats 4000000 in
theorem w_X12_dig_0 (C : Cx D cA bs Z p s m args meth c cX12_dig RX12 11 (some .int)) {o : Nat} {K : Sh} {n : Nat} {J : Jm} {R : Rf} (ho : (K o).1 = 13) (res : Int32 × Im) (x1 : Int32) (x2 : Int32) (x3 : Int32) (x4 : Int32) (I : Im) (E : f_X12_dig K R o x1 x2 x3 x4 I = some res) : VW D cA bs Z p l e rX12_dig s m args below meth c 11 [(0, va_rf (some o)), (1, .int x1), (2, .int x2), (3, .int x3), (4, .int x4)] K n I J R 0 0 (MQ below (QX D cA bs Z (some (.int res.1)) K n res.2 J R) args s 0 0 (fun q => bs ≤ q)) 0 [] := by
  unfold f_X12_dig at E
  refine v_aload_n (r := (some o)) C 0 dX12_dig_0 rfl ?_
  refine v_iload_n C 1 dX12_dig_1 rfl ?_
  obtain ⟨q16, h17, E⟩ := bnd E
  refine v_callV (r := (some o)) (As := [.int x1]) (rv := (some (.int q16))) (st := []) (st1 := [.int q16]) (ce1 := 0) (sl1 := 0) C cv_X12_358 (c_X12_isCaravan (x1 := x1) ho h17) rfl ho rfl rfl ⟨rfl, rfl, Nat.le_of_ble_eq_true rfl, Nat.le_of_ble_eq_true rfl⟩ ⟨Nat.le_of_ble_eq_true rfl, Nat.le_of_ble_eq_true rfl⟩ (Nat.le_of_ble_eq_true rfl) rfl rfl rfl dX12_dig_2 ?_
  refine v_if_eq C 19 E dX12_dig_5 rfl (fun c31 E => ?_) (fun c31 E => ?_)
  · refine v_iconst C dX12_dig_19 k_iconst_m1 ?_
    obtain rfl := Option.some.inj E
    exact v_iret C rfl dX12_dig_20
  · refine v_aload_n (r := (some o)) C 0 dX12_dig_8 rfl ?_
    refine v_iload C 4 dX12_dig_9 rfl ?_
    refine v_iconst C dX12_dig_11 k_iconst_0 ?_
    refine v_iconst C dX12_dig_12 k_iconst_1 ?_
    obtain ⟨q18, h19, E⟩ := bnd E
    refine v_callV (r := (some o)) (As := [.int x4, .int 0, .int 1]) (rv := (some (.int q18))) (st := []) (st1 := [.int q18]) (ce1 := 0) (sl1 := 0) C cv_X12_233 (c_X12_in (x1 := x4) (x2 := 0) (x3 := 1) ho h19) rfl ho rfl rfl ⟨rfl, rfl, Nat.le_of_ble_eq_true rfl, Nat.le_of_ble_eq_true rfl⟩ ⟨Nat.le_of_ble_eq_true rfl, Nat.le_of_ble_eq_true rfl⟩ (Nat.le_of_ble_eq_true rfl) rfl rfl rfl dX12_dig_13 ?_
    refine v_if_ne C 21 E dX12_dig_16 rfl (fun c30 E => ?_) (fun c30 E => ?_)
    · refine v_iconst C dX12_dig_19 k_iconst_m1 ?_
      obtain rfl := Option.some.inj E
      exact v_iret C rfl dX12_dig_20
    · refine v_aload_n (r := (some o)) C 0 dX12_dig_21 rfl ?_
      refine v_iload_n C 2 dX12_dig_22 rfl ?_
      refine v_iconst C dX12_dig_23 k_iconst_0 ?_
      refine v_bipush C dX12_dig_24 k_bipush_99 ?_
      obtain ⟨q20, h21, E⟩ := bnd E
      refine v_callV (r := (some o)) (As := [.int x2, .int 0, .int 99]) (rv := (some (.int q20))) (st := []) (st1 := [.int q20]) (ce1 := 0) (sl1 := 0) C cv_X12_233 (c_X12_in (x1 := x2) (x2 := 0) (x3 := 99) ho h21) rfl ho rfl rfl ⟨rfl, rfl, Nat.le_of_ble_eq_true rfl, Nat.le_of_ble_eq_true rfl⟩ ⟨Nat.le_of_ble_eq_true rfl, Nat.le_of_ble_eq_true rfl⟩ (Nat.le_of_ble_eq_true rfl) rfl rfl rfl dX12_dig_26 ?_
      refine v_if_eq C 43 E dX12_dig_29 rfl (fun c29 E => ?_) (fun c29 E => ?_)
      · refine v_bipush C dX12_dig_43 k_bipush_m2 ?_
        obtain rfl := Option.some.inj E
        exact v_iret C rfl dX12_dig_45
      · refine v_aload_n (r := (some o)) C 0 dX12_dig_32 rfl ?_
        refine v_iload_n C 3 dX12_dig_33 rfl ?_
        refine v_iconst C dX12_dig_34 k_iconst_0 ?_
        refine v_bipush C dX12_dig_35 k_bipush_99 ?_
        obtain ⟨q22, h23, E⟩ := bnd E
        refine v_callV (r := (some o)) (As := [.int x3, .int 0, .int 99]) (rv := (some (.int q22))) (st := []) (st1 := [.int q22]) (ce1 := 0) (sl1 := 0) C cv_X12_233 (c_X12_in (x1 := x3) (x2 := 0) (x3 := 99) ho h23) rfl ho rfl rfl ⟨rfl, rfl, Nat.le_of_ble_eq_true rfl, Nat.le_of_ble_eq_true rfl⟩ ⟨Nat.le_of_ble_eq_true rfl, Nat.le_of_ble_eq_true rfl⟩ (Nat.le_of_ble_eq_true rfl) rfl rfl rfl dX12_dig_37 ?_
        refine v_if_ne C 46 E dX12_dig_40 rfl (fun c28 E => ?_) (fun c28 E => ?_)
        · refine v_bipush C dX12_dig_43 k_bipush_m2 ?_
          obtain rfl := Option.some.inj E
          exact v_iret C rfl dX12_dig_45
        · refine v_aload_n (r := (some o)) C 0 dX12_dig_46 rfl ?_
          refine v_getI (r := (some o)) C fa_X12_13 rfl rfl ho dX12_dig_47 ?_
          refine v_if_ge C 56 E dX12_dig_50 rfl (fun c27 E => ?_) (fun c27 E => ?_)
          · refine v_aload_n (r := (some o)) C 0 dX12_dig_56 rfl ?_
            obtain ⟨q24, h25, E⟩ := bnd E
            refine v_callV (r := (some o)) (As := []) (rv := none) (st := []) (st1 := []) (ce1 := 0) (sl1 := 0) C cv_X12_306 (c_X12_lay  ho h25) rfl ho rfl rfl ⟨rfl, rfl, Nat.le_of_ble_eq_true rfl, Nat.le_of_ble_eq_true rfl⟩ ⟨Nat.le_of_ble_eq_true rfl, Nat.le_of_ble_eq_true rfl⟩ (Nat.le_of_ble_eq_true rfl) rfl rfl rfl dX12_dig_57 ?_
            refine v_aload_n (r := (some o)) C 0 dX12_dig_60 rfl ?_
            refine v_getI (r := (some o)) C fa_X12_75 rfl rfl ho dX12_dig_61 ?_
            refine v_istore C [(5, .int (q24 o 21)), (0, va_rf (some o)), (1, .int x1), (2, .int x2), (3, .int x3), (4, .int x4)] dX12_dig_64 (Nat.le_of_ble_eq_true rfl) rfl ?_
            refine v_iload C 0 dX12_dig_66 rfl ?_
            refine v_iconst C dX12_dig_68 k_iconst_5 ?_
            refine v_icmp_ne C 75 E dX12_dig_69 rfl (fun c26 E => ?_) (fun c26 E => ?_)
            · refine v_bipush C dX12_dig_72 k_bipush_m5 ?_
              obtain rfl := Option.some.inj E
              exact v_iret C rfl dX12_dig_74
            · refine v_bipush C dX12_dig_75 k_bipush_m5 ?_
              refine v_istore C [(6, .int (-5)), (5, .int (q24 o 21)), (0, va_rf (some o)), (1, .int x1), (2, .int x2), (3, .int x3), (4, .int x4)] dX12_dig_77 (Nat.le_of_ble_eq_true rfl) rfl ?_
              refine v_bipush C dX12_dig_79 k_bipush_m5 ?_
              refine v_istore C [(7, .int (-5)), (6, .int (-5)), (5, .int (q24 o 21)), (0, va_rf (some o)), (1, .int x1), (2, .int x2), (3, .int x3), (4, .int x4)] dX12_dig_81 (Nat.le_of_ble_eq_true rfl) rfl ?_
              refine v_iconst C dX12_dig_83 k_iconst_0 ?_
              refine v_istore C [(8, .int 0), (7, .int (-5)), (6, .int (-5)), (5, .int (q24 o 21)), (0, va_rf (some o)), (1, .int x1), (2, .int x2), (3, .int x3), (4, .int x4)] dX12_dig_84 (Nat.le_of_ble_eq_true rfl) rfl ?_
              exact v_sub [4, 5, 6, 7, 8, 3, 2, 1, 0] [(0, va_rf (some o)), (1, .int x1), (2, .int x2), (3, .int x3), (4, .int x4), (5, .int (q24 o 21)), (6, .int (-5)), (7, .int (-5)), (8, .int 0)] rfl (w_X12_dig_86 C ho res  _ _ _ _ _ _ _ _ _ _ E)
          · refine v_bipush C dX12_dig_53 k_bipush_m3 ?_
            obtain rfl := Option.some.inj E
            exact v_iret C rfl dX12_dig_55
set_option maxHeartbeats 4000000 in
theorem c_X12_dig {n : Nat} {K : Sh} {I : Im} {J : Jm} {R : Rf} {o : Nat} {x1 : Int32} {x2 : Int32} {x3 : Int32} {x4 : Int32} (ho : (K o).1 = 13) {res : Int32 × Im} (E : f_X12_dig K R o x1 x2 x3 x4 I = some res) : Met l yX12_dig (Cond.code yX12_dig cX12_dig 11 (some .int) :: tb) rX12_dig (PX D cA bs Z [.ref o, .int x1, .int x2, .int x3, .int x4] K n I J R) (QX D cA bs Z (some (.int res.1)) K n res.2 J R) 0 0 (fun q => bs ≤ q) := by
  refine met_of (lv1 := [(0, va_rf (some o)), (1, .int x1), (2, .int x2), (3, .int x3), (4, .int x4)]) pn_X12 (by exact Nat.le_of_ble_eq_true rfl) (by rfl) ?_
  intro p e s m args below meth c C hn
  exact v_sub [0, 1, 2, 3, 4] [(0, va_rf (some o)), (1, .int x1), (2, .int x2), (3, .int x3), (4, .int x4)] rfl (w_X12_dig_0 C ho _ _ _ _ _ _ E)
set_option maxHeartbeats 4000000 in
theorem w_X12_isTape_0 (C : Cx D cA bs Z p s m args meth c cX12_isTape RX12 2 (some .boolean)) {o : Nat} {K : Sh} {n : Nat} {I : Im} {J : Jm} {R : Rf} (ho : (K o).1 = 13) (res : Int32) (x1 : Int32) (E : f_X12_isTape K o x1 = some res) : VW D cA bs Z p l e rX12_isTape s m args below meth c 2 [(0, va_rf (some o)), (1, .int x1)] K n I J R 0 0 (MQ below (QX D cA bs Z (some (.int res)) K n I J R) args s 0 0 (fun q => bs ≤ q)) 0 [] := by
  unfold f_X12_isTape at E
  refine v_aload_n (r := (some o)) C 0 dX12_isTape_0 rfl ?_
  refine v_iload_n C 1 dX12_isTape_1 rfl ?_
  refine v_iconst C dX12_isTape_2 k_iconst_0 ?_
  refine v_iconst C dX12_isTape_3 k_iconst_5 ?_
  obtain ⟨q1, h2, E⟩ := bnd E
  refine v_callV (r := (some o)) (As := [.int x1, .int 0, .int 5]) (rv := (some (.int q1))) (st := []) (st1 := [.int q1]) (ce1 := 0) (sl1 := 0) C cv_X12_233 (c_X12_in (x1 := x1) (x2 := 0) (x3 := 5) ho h2) rfl ho rfl rfl ⟨rfl, rfl, Nat.le_of_ble_eq_true rfl, Nat.le_of_ble_eq_true rfl⟩ ⟨Nat.le_of_ble_eq_true rfl, Nat.le_of_ble_eq_true rfl⟩ (Nat.le_of_ble_eq_true rfl) rfl rfl rfl dX12_isTape_4 ?_
  obtain ⟨v3, h4, E⟩ := bnd E
  obtain ⟨h4a, h4b⟩ := gd h4
  subst h4b
  obtain rfl := Option.some.inj E
  exact v_zret C rfl (by simp [narrow, h4a]) dX12_isTape_7
set_option maxHeartbeats 4000000 in
theorem c_X12_isTape {n : Nat} {K : Sh} {I : Im} {J : Jm} {R : Rf} {o : Nat} {x1 : Int32} (ho : (K o).1 = 13) {res : Int32} (E : f_X12_isTape K o x1 = some res) : Met l yX12_isTape (Cond.code yX12_isTape cX12_isTape 2 (some .boolean) :: tb) rX12_isTape (PX D cA bs Z [.ref o, .int x1] K n I J R) (QX D cA bs Z (some (.int res)) K n I J R) 0 0 (fun q => bs ≤ q) := by
  refine met_of (lv1 := [(0, va_rf (some o)), (1, .int x1)]) pn_X12 (by exact Nat.le_of_ble_eq_true rfl) (by rfl) ?_
  intro p e s m args below meth c C hn
  exact v_sub [0, 1] [(0, va_rf (some o)), (1, .int x1)] rfl (w_X12_isTape_0 C ho _ _ E)
set_option maxHeartbeats 4000000 in
theorem w_X12_judge_85 (C : Cx D cA bs Z p s m args meth c cX12_judge RX12 7 (some .int)) {o : Nat} {K : Sh} {n : Nat} {J : Jm} {R : Rf} (ho : (K o).1 = 13) (res : Int32 × Im)  : ∀ (k : Nat), ∀ (x1 : Int32) (x2 : Int32) (x4 : Int32) (I : Im), f_X12_judge_85 K J R o k x1 x2 x4 I = some res → VW D cA bs Z p l e rX12_judge s m args below meth c 7 [(0, va_rf (some o)), (1, .int x1), (2, .int x2), (4, .int x4)] K n I J R 0 0 (MQ below (QX D cA bs Z (some (.int res.1)) K n res.2 J R) args s 0 0 (fun q => bs ≤ q)) 85 [] := by
  intro k
  induction k with
  | zero =>
    intro x1 x2 x4 I E
    have E : (none : Option (Int32 × Im)) = some res := E
    cases E
  | succ k ih =>
    intro x1 x2 x4 I E
    unfold f_X12_judge_85 at E
    refine v_iload C 3 dX12_judge_85 rfl ?_
    refine v_aload_n (r := (some o)) C 0 dX12_judge_87 rfl ?_
    refine v_getI (r := (some o)) C fa_X12_75 rfl rfl ho dX12_judge_88 ?_
    refine v_icmp_ge C 212 E dX12_judge_91 rfl (fun c23 E => ?_) (fun c23 E => ?_)
    · refine v_aload_n (r := (some o)) C 0 dX12_judge_212 rfl ?_
      refine v_aload_n (r := (some o)) C 0 dX12_judge_213 rfl ?_
      refine v_getI (r := (some o)) C fa_X12_75 rfl rfl ho dX12_judge_214 ?_
      obtain ⟨q1, h2, E⟩ := bnd E
      refine v_callV (r := (some o)) (As := [.int (I o 21)]) (rv := (some (.int q1.1))) (st := []) (st1 := [.int q1.1]) (ce1 := 0) (sl1 := 0) C cv_X12_335 (c_X12_goesWay (x1 := (I o 21)) ho h2) rfl ho rfl rfl ⟨rfl, rfl, Nat.le_of_ble_eq_true rfl, Nat.le_of_ble_eq_true rfl⟩ ⟨Nat.le_of_ble_eq_true rfl, Nat.le_of_ble_eq_true rfl⟩ (Nat.le_of_ble_eq_true rfl) rfl rfl rfl dX12_judge_217 ?_
      refine v_if_eq C 228 E dX12_judge_220 rfl (fun c3 E => ?_) (fun c3 E => ?_)
      · refine v_aload_n (r := (some o)) C 0 dX12_judge_228 rfl ?_
        refine v_getI (r := (some o)) C fa_X12_75 rfl rfl ho dX12_judge_229 ?_
        obtain rfl := Option.some.inj E
        exact v_iret C rfl dX12_judge_232
      · refine v_bipush C dX12_judge_223 k_bipush_m5 ?_
        refine v_goto C 232 dX12_judge_225 rfl ?_
        obtain rfl := Option.some.inj E
        exact v_iret C rfl dX12_judge_232
    · refine v_aload_n (r := (some o)) C 0 dX12_judge_94 rfl ?_
      refine v_iload C 3 dX12_judge_95 rfl ?_
      obtain ⟨q4, h5, E⟩ := bnd E
      refine v_callV (r := (some o)) (As := [.int x4]) (rv := (some (.int q4.1))) (st := []) (st1 := [.int q4.1]) (ce1 := 0) (sl1 := 0) C cv_X12_335 (c_X12_goesWay (x1 := x4) ho h5) rfl ho rfl rfl ⟨rfl, rfl, Nat.le_of_ble_eq_true rfl, Nat.le_of_ble_eq_true rfl⟩ ⟨Nat.le_of_ble_eq_true rfl, Nat.le_of_ble_eq_true rfl⟩ (Nat.le_of_ble_eq_true rfl) rfl rfl rfl dX12_judge_97 ?_
      refine v_if_ne C 106 E dX12_judge_100 rfl (fun c22 E => ?_) (fun c22 E => ?_)
      · refine v_iload C 3 dX12_judge_103 rfl ?_
        obtain rfl := Option.some.inj E
        exact v_iret C rfl dX12_judge_105
      · refine v_aload_n (r := (some o)) C 0 dX12_judge_106 rfl ?_
        refine v_getR (r := (some o)) C fa_X12_220 rfl rfl ho dX12_judge_107 ?_
        refine v_iload_n C 1 dX12_judge_110 rfl ?_
        refine v_iald (r := (R o 69)) C E dX12_judge_111 (fun v6 _ E => ?_)
        refine v_if_lt C 134 E dX12_judge_112 rfl (fun c21 E => ?_) (fun c21 E => ?_)
        · refine v_bipush C dX12_judge_134 k_bipush_101 ?_
          refine v_iload C 3 dX12_judge_136 rfl ?_
          refine v_iadd C dX12_judge_138 ?_
          obtain rfl := Option.some.inj E
          exact v_iret C rfl dX12_judge_139
        · refine v_iload_n C 2 dX12_judge_115 rfl ?_
          refine v_if_lt C 134 E dX12_judge_116 rfl (fun c20 E => ?_) (fun c20 E => ?_)
          · refine v_bipush C dX12_judge_134 k_bipush_101 ?_
            refine v_iload C 3 dX12_judge_136 rfl ?_
            refine v_iadd C dX12_judge_138 ?_
            obtain rfl := Option.some.inj E
            exact v_iret C rfl dX12_judge_139
          · refine v_iload_n C 2 dX12_judge_119 rfl ?_
            refine v_aload_n (r := (some o)) C 0 dX12_judge_120 rfl ?_
            refine v_getR (r := (some o)) C fa_X12_223 rfl rfl ho dX12_judge_121 ?_
            refine v_iload_n C 1 dX12_judge_124 rfl ?_
            refine v_iald (r := (R o 70)) C E dX12_judge_125 (fun v7 _ E => ?_)
            refine v_iload C 3 dX12_judge_126 rfl ?_
            refine v_isub C dX12_judge_128 ?_
            refine v_iconst C dX12_judge_129 k_iconst_1 ?_
            refine v_isub C dX12_judge_130 ?_
            refine v_icmp_le C 140 E dX12_judge_131 rfl (fun c19 E => ?_) (fun c19 E => ?_)
            · refine v_aload_n (r := (some o)) C 0 dX12_judge_140 rfl ?_
              refine v_getR (r := (some o)) C fa_X12_226 rfl rfl ho dX12_judge_141 ?_
              refine v_bipush C dX12_judge_144 k_bipush_60 ?_
              refine v_iload_n C 1 dX12_judge_146 rfl ?_
              refine v_imul C dX12_judge_147 ?_
              refine v_iload_n C 2 dX12_judge_148 rfl ?_
              refine v_iadd C dX12_judge_149 ?_
              refine v_iload C 3 dX12_judge_150 rfl ?_
              refine v_iadd C dX12_judge_152 ?_
              refine v_lald (r := (R o 71)) C E dX12_judge_153 (fun v8 _ E => ?_)
              refine v_lstore C [(5, .long v8), (0, va_rf (some o)), (1, .int x1), (2, .int x2), (4, .int x4)] dX12_judge_154 (Nat.le_of_ble_eq_true rfl) rfl ?_
              refine v_lload C 0 dX12_judge_156 rfl ?_
              refine v_lconst (v := 0) C dX12_judge_158 (by decide) ?_
              refine v_lcmp C dX12_judge_159 ?_
              refine v_if_lt C 172 E dX12_judge_160 rfl (fun c18 E => ?_) (fun c18 E => ?_)
              · refine v_iload C 4 dX12_judge_172 rfl ?_
                obtain rfl := Option.some.inj E
                exact v_iret C rfl dX12_judge_174
              · refine v_lload C 0 dX12_judge_163 rfl ?_
                refine v_ldc2 C ct_X12_391 dX12_judge_165 ?_
                refine v_lcmp C dX12_judge_168 ?_
                refine v_if_le C 175 E dX12_judge_169 rfl (fun c17 E => ?_) (fun c17 E => ?_)
                · refine v_aload_n (r := (some o)) C 1 dX12_judge_175 rfl ?_
                  refine v_iload C 4 dX12_judge_176 rfl ?_
                  obtain ⟨q9, h10, E⟩ := bnd E
                  refine v_callV (r := (some o)) (As := [.int x4]) (rv := (some (.int q9.1))) (st := []) (st1 := [.int q9.1]) (ce1 := 0) (sl1 := 0) C cv_X12_338 (c_X12_waitsAt (x1 := x4) ho h10) rfl ho rfl rfl ⟨rfl, rfl, Nat.le_of_ble_eq_true rfl, Nat.le_of_ble_eq_true rfl⟩ ⟨Nat.le_of_ble_eq_true rfl, Nat.le_of_ble_eq_true rfl⟩ (Nat.le_of_ble_eq_true rfl) rfl rfl rfl dX12_judge_178 ?_
                  refine v_if_eq C 194 E dX12_judge_181 rfl (fun c16 E => ?_) (fun c16 E => ?_)
                  · refine v_iload C 4 dX12_judge_194 rfl ?_
                    refine v_iconst C dX12_judge_196 k_iconst_1 ?_
                    refine v_iadd C dX12_judge_197 ?_
                    obtain rfl := Option.some.inj E
                    exact v_iret C rfl dX12_judge_198
                  · refine v_aload_n (r := (some o)) C 1 dX12_judge_184 rfl ?_
                    refine v_lload C 0 dX12_judge_185 rfl ?_
                    refine v_l2i C dX12_judge_187 ?_
                    obtain ⟨q11, h12, E⟩ := bnd E
                    refine v_callV (r := (some o)) (As := [.int (v8.toInt32)]) (rv := (some (.int q11.1))) (st := []) (st1 := [.int q11.1]) (ce1 := 0) (sl1 := 0) C cv_X12_332 (c_X12_standsFor (x1 := (v8.toInt32)) ho h12) rfl ho rfl rfl ⟨rfl, rfl, Nat.le_of_ble_eq_true rfl, Nat.le_of_ble_eq_true rfl⟩ ⟨Nat.le_of_ble_eq_true rfl, Nat.le_of_ble_eq_true rfl⟩ (Nat.le_of_ble_eq_true rfl) rfl rfl rfl dX12_judge_188 ?_
                    refine v_if_ne C 199 E dX12_judge_191 rfl (fun c15 E => ?_) (fun c15 E => ?_)
                    · refine v_iload C 4 dX12_judge_194 rfl ?_
                      refine v_iconst C dX12_judge_196 k_iconst_1 ?_
                      refine v_iadd C dX12_judge_197 ?_
                      obtain rfl := Option.some.inj E
                      exact v_iret C rfl dX12_judge_198
                    · refine v_aload_n (r := (some o)) C 1 dX12_judge_199 rfl ?_
                      refine v_iload C 4 dX12_judge_200 rfl ?_
                      refine v_iconst C dX12_judge_202 k_iconst_1 ?_
                      obtain ⟨q13, h14, E⟩ := bnd E
                      refine v_callV (r := (some o)) (As := [.int x4, .int 1]) (rv := none) (st := []) (st1 := []) (ce1 := 0) (sl1 := 0) C cv_X12_341 (c_X12_drawsAt (x1 := x4) (x2 := 1) ho h14) rfl ho rfl rfl ⟨rfl, rfl, Nat.le_of_ble_eq_true rfl, Nat.le_of_ble_eq_true rfl⟩ ⟨Nat.le_of_ble_eq_true rfl, Nat.le_of_ble_eq_true rfl⟩ (Nat.le_of_ble_eq_true rfl) rfl rfl rfl dX12_judge_203 ?_
                      refine v_iinc (v := x4 + 1) C 4 [(4, .int (x4 + 1)), (5, .long v8), (0, va_rf (some o)), (1, .int x1), (2, .int x2)] dX12_judge_206 rfl (k_inc_1 _) (Nat.le_of_ble_eq_true rfl) rfl ?_
                      refine v_goto C 85 dX12_judge_209 rfl ?_
                      exact v_sub [2, 3, 4, 0] [(0, va_rf (some o)), (1, .int x1), (2, .int x2), (4, .int (x4 + 1))] rfl (ih _ _ _ _ E)
                · refine v_iload C 4 dX12_judge_172 rfl ?_
                  obtain rfl := Option.some.inj E
                  exact v_iret C rfl dX12_judge_174
            · refine v_bipush C dX12_judge_134 k_bipush_101 ?_
              refine v_iload C 3 dX12_judge_136 rfl ?_
              refine v_iadd C dX12_judge_138 ?_
              obtain rfl := Option.some.inj E
              exact v_iret C rfl dX12_judge_139
set_option maxHeartbeats 4000000 in
theorem w_X12_judge_50 (C : Cx D cA bs Z p s m args meth c cX12_judge RX12 7 (some .int)) {o : Nat} {K : Sh} {n : Nat} {J : Jm} {R : Rf} (ho : (K o).1 = 13) (res : Int32 × Im) (x1 : Int32) (x2 : Int32) (x3 : Int32) (I : Im) (E : f_X12_judge_50 K J R o x1 x2 x3 I = some res) : VW D cA bs Z p l e rX12_judge s m args below meth c 7 [(0, va_rf (some o)), (1, .int x1), (2, .int x2), (3, .int x3)] K n I J R 0 0 (MQ below (QX D cA bs Z (some (.int res.1)) K n res.2 J R) args s 0 0 (fun q => bs ≤ q)) 50 [] := by
  unfold f_X12_judge_50 at E
  refine v_aload_n (r := (some o)) C 0 dX12_judge_50 rfl ?_
  obtain ⟨q24, h25, E⟩ := bnd E
  refine v_callV (r := (some o)) (As := []) (rv := none) (st := []) (st1 := []) (ce1 := 0) (sl1 := 0) C cv_X12_306 (c_X12_lay  ho h25) rfl ho rfl rfl ⟨rfl, rfl, Nat.le_of_ble_eq_true rfl, Nat.le_of_ble_eq_true rfl⟩ ⟨Nat.le_of_ble_eq_true rfl, Nat.le_of_ble_eq_true rfl⟩ (Nat.le_of_ble_eq_true rfl) rfl rfl rfl dX12_judge_51 ?_
  refine v_aload_n (r := (some o)) C 0 dX12_judge_54 rfl ?_
  refine v_aload_n (r := (some o)) C 0 dX12_judge_55 rfl ?_
  refine v_getR (r := (some o)) C fa_X12_114 rfl rfl ho dX12_judge_56 ?_
  refine v_iload_n C 3 dX12_judge_59 rfl ?_
  refine v_iald (r := (R o 34)) C E dX12_judge_60 (fun v26 _ E => ?_)
  obtain ⟨q27, h28, E⟩ := bnd E
  refine v_callV (r := (some o)) (As := [.int v26]) (rv := none) (st := []) (st1 := []) (ce1 := 0) (sl1 := 0) C cv_X12_345 (c_X12_layThirst (x1 := v26) ho h28) rfl ho rfl rfl ⟨rfl, rfl, Nat.le_of_ble_eq_true rfl, Nat.le_of_ble_eq_true rfl⟩ ⟨Nat.le_of_ble_eq_true rfl, Nat.le_of_ble_eq_true rfl⟩ (Nat.le_of_ble_eq_true rfl) rfl rfl rfl dX12_judge_61 ?_
  refine v_aload_n (r := (some o)) C 0 dX12_judge_64 rfl ?_
  refine v_aload_n (r := (some o)) C 0 dX12_judge_65 rfl ?_
  refine v_getR (r := (some o)) C fa_X12_117 rfl rfl ho dX12_judge_66 ?_
  refine v_iload_n C 3 dX12_judge_69 rfl ?_
  refine v_iald (r := (R o 35)) C E dX12_judge_70 (fun v29 _ E => ?_)
  refine v_putI (r := (some o)) C fa_X12_153 rfl E rfl ho ⟨rfl, rfl⟩ dX12_judge_71 (fun I30 _ E => ?_)
  refine v_aload_n (r := (some o)) C 0 dX12_judge_74 rfl ?_
  refine v_aload_n (r := (some o)) C 0 dX12_judge_75 rfl ?_
  refine v_getI (r := (some o)) C fa_X12_150 rfl rfl ho dX12_judge_76 ?_
  refine v_putI (r := (some o)) C fa_X12_156 rfl E rfl ho ⟨rfl, rfl⟩ dX12_judge_79 (fun I31 _ E => ?_)
  refine v_iconst C dX12_judge_82 k_iconst_0 ?_
  refine v_istore C [(4, .int 0), (0, va_rf (some o)), (1, .int x1), (2, .int x2), (3, .int x3)] dX12_judge_83 (Nat.le_of_ble_eq_true rfl) rfl ?_
  exact v_sub [1, 2, 3, 0] [(0, va_rf (some o)), (1, .int x1), (2, .int x2), (4, .int 0)] rfl (w_X12_judge_85 C ho res  _ _ _ _ _ E)
set_option maxHeartbeats 4000000 in
theorem w_X12_judge_0 (C : Cx D cA bs Z p s m args meth c cX12_judge RX12 7 (some .int)) {o : Nat} {K : Sh} {n : Nat} {J : Jm} {R : Rf} (ho : (K o).1 = 13) (res : Int32 × Im) (x1 : Int32) (x2 : Int32) (x3 : Int32) (I : Im) (E : f_X12_judge K J R o x1 x2 x3 I = some res) : VW D cA bs Z p l e rX12_judge s m args below meth c 7 [(0, va_rf (some o)), (1, .int x1), (2, .int x2), (3, .int x3)] K n I J R 0 0 (MQ below (QX D cA bs Z (some (.int res.1)) K n res.2 J R) args s 0 0 (fun q => bs ≤ q)) 0 [] := by
  unfold f_X12_judge at E
  refine v_aload_n (r := (some o)) C 0 dX12_judge_0 rfl ?_
  refine v_iload_n C 1 dX12_judge_1 rfl ?_
  obtain ⟨q32, h33, E⟩ := bnd E
  refine v_callV (r := (some o)) (As := [.int x1]) (rv := (some (.int q32))) (st := []) (st1 := [.int q32]) (ce1 := 0) (sl1 := 0) C cv_X12_388 (c_X12_isTape (x1 := x1) ho h33) rfl ho rfl rfl ⟨rfl, rfl, Nat.le_of_ble_eq_true rfl, Nat.le_of_ble_eq_true rfl⟩ ⟨Nat.le_of_ble_eq_true rfl, Nat.le_of_ble_eq_true rfl⟩ (Nat.le_of_ble_eq_true rfl) rfl rfl rfl dX12_judge_2 ?_
  refine v_if_eq C 16 E dX12_judge_5 rfl (fun c42 E => ?_) (fun c42 E => ?_)
  · refine v_iconst C dX12_judge_16 k_iconst_m1 ?_
    obtain rfl := Option.some.inj E
    exact v_iret C rfl dX12_judge_17
  · refine v_aload_n (r := (some o)) C 0 dX12_judge_8 rfl ?_
    refine v_iload_n C 3 dX12_judge_9 rfl ?_
    obtain ⟨q34, h35, E⟩ := bnd E
    refine v_callV (r := (some o)) (As := [.int x3]) (rv := (some (.int q34))) (st := []) (st1 := [.int q34]) (ce1 := 0) (sl1 := 0) C cv_X12_358 (c_X12_isCaravan (x1 := x3) ho h35) rfl ho rfl rfl ⟨rfl, rfl, Nat.le_of_ble_eq_true rfl, Nat.le_of_ble_eq_true rfl⟩ ⟨Nat.le_of_ble_eq_true rfl, Nat.le_of_ble_eq_true rfl⟩ (Nat.le_of_ble_eq_true rfl) rfl rfl rfl dX12_judge_10 ?_
    refine v_if_ne C 18 E dX12_judge_13 rfl (fun c41 E => ?_) (fun c41 E => ?_)
    · refine v_iconst C dX12_judge_16 k_iconst_m1 ?_
      obtain rfl := Option.some.inj E
      exact v_iret C rfl dX12_judge_17
    · refine v_aload_n (r := (some o)) C 0 dX12_judge_18 rfl ?_
      refine v_getI (r := (some o)) C fa_X12_13 rfl rfl ho dX12_judge_19 ?_
      refine v_if_ge C 28 E dX12_judge_22 rfl (fun c40 E => ?_) (fun c40 E => ?_)
      · refine v_aload_n (r := (some o)) C 0 dX12_judge_28 rfl ?_
        refine v_getR (r := (some o)) C fa_X12_220 rfl rfl ho dX12_judge_29 ?_
        refine v_iload_n C 1 dX12_judge_32 rfl ?_
        refine v_iald (r := (R o 69)) C E dX12_judge_33 (fun v36 _ E => ?_)
        refine v_if_lt C 50 E dX12_judge_34 rfl (fun c39 E => ?_) (fun c39 E => ?_)
        · exact v_sub [0, 1, 2, 3] [(0, va_rf (some o)), (1, .int x1), (2, .int x2), (3, .int x3)] rfl (w_X12_judge_50 C ho res  _ _ _ _ E)
        · refine v_aload_n (r := (some o)) C 0 dX12_judge_37 rfl ?_
          refine v_getR (r := (some o)) C fa_X12_220 rfl rfl ho dX12_judge_38 ?_
          refine v_iload_n C 1 dX12_judge_41 rfl ?_
          refine v_iald (r := (R o 69)) C E dX12_judge_42 (fun v37 _ E => ?_)
          refine v_iconst C dX12_judge_43 k_iconst_2 ?_
          refine v_icmp_eq C 50 E dX12_judge_44 rfl (fun c38 E => ?_) (fun c38 E => ?_)
          · exact v_sub [0, 1, 2, 3] [(0, va_rf (some o)), (1, .int x1), (2, .int x2), (3, .int x3)] rfl (w_X12_judge_50 C ho res  _ _ _ _ E)
          · refine v_bipush C dX12_judge_47 k_bipush_m12 ?_
            obtain rfl := Option.some.inj E
            exact v_iret C rfl dX12_judge_49
      · refine v_bipush C dX12_judge_25 k_bipush_m3 ?_
        obtain rfl := Option.some.inj E
        exact v_iret C rfl dX12_judge_27
set_option maxHeartbeats 4000000 in
theorem c_X12_judge {n : Nat} {K : Sh} {I : Im} {J : Jm} {R : Rf} {o : Nat} {x1 : Int32} {x2 : Int32} {x3 : Int32} (ho : (K o).1 = 13) {res : Int32 × Im} (E : f_X12_judge K J R o x1 x2 x3 I = some res) : Met l yX12_judge (Cond.code yX12_judge cX12_judge 7 (some .int) :: tb) rX12_judge (PX D cA bs Z [.ref o, .int x1, .int x2, .int x3] K n I J R) (QX D cA bs Z (some (.int res.1)) K n res.2 J R) 0 0 (fun q => bs ≤ q) := by
  refine met_of (lv1 := [(0, va_rf (some o)), (1, .int x1), (2, .int x2), (3, .int x3)]) pn_X12 (by exact Nat.le_of_ble_eq_true rfl) (by rfl) ?_
  intro p e s m args below meth c C hn
  exact v_sub [0, 1, 2, 3] [(0, va_rf (some o)), (1, .int x1), (2, .int x2), (3, .int x3)] rfl (w_X12_judge_0 C ho _ _ _ _ _ E)
end WK7
