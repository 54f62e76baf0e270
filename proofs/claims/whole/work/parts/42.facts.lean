theorem in_t0 : ∀ w ∈ k2_sels lw_privs, w ∈ lw_tbl := fun w h => List.mem_append_left _ h
theorem in_tt : ∀ w ∈ tables_1, w ∈ lw_tbl := fun w h => List.mem_append_right _ h
theorem in_t1 : ∀ w ∈ tables_1_1, w ∈ lw_tbl := fun w h => in_tt w (List.mem_append_left _ h)
theorem in_t2 : ∀ w ∈ tables_1_2, w ∈ lw_tbl := fun w h => in_tt w (List.mem_append_right _ (List.mem_append_left _ h))
theorem in_t3 : ∀ w ∈ tables_1_3, w ∈ lw_tbl := fun w h => in_tt w (List.mem_append_right _ (List.mem_append_right _ (List.mem_append_left _ h)))
theorem in_t4 : ∀ w ∈ tables_1_4, w ∈ lw_tbl := fun w h => in_tt w (List.mem_append_right _ (List.mem_append_right _ (List.mem_append_right _ (List.mem_append_left _ h))))
theorem in_t5 : ∀ w ∈ tables_1_5, w ∈ lw_tbl := fun w h => in_tt w (List.mem_append_right _ (List.mem_append_right _ (List.mem_append_right _ (List.mem_append_right _ (List.mem_append_left _ h)))))
theorem in_t6 : ∀ w ∈ tables_1_6, w ∈ lw_tbl := fun w h => in_tt w (List.mem_append_right _ (List.mem_append_right _ (List.mem_append_right _ (List.mem_append_right _ (List.mem_append_right _ (List.mem_append_left _ h))))))
theorem in_t7 : ∀ w ∈ tables_1_7, w ∈ lw_tbl := fun w h => in_tt w (List.mem_append_right _ (List.mem_append_right _ (List.mem_append_right _ (List.mem_append_right _ (List.mem_append_right _ (List.mem_append_right _ h))))))
theorem oi_X0 : Cond.methodLink RX0 3 Lib.objectInit ∈ tb := tb_of (in_t1 _ (List.mem_of_getElem? (i := 135) rfl)) rfl
theorem oi_i : Cond.instanceMethod Lib.objectInit ∈ tb := tb_of (in_t1 _ (List.mem_of_getElem? (i := 26) rfl)) rfl
theorem oi_c : Cond.code Lib.objectInit ⟨#[0xb1]⟩ 1 none ∈ tb := tb_of (in_t1 _ (List.mem_of_getElem? (i := 27) rfl)) rfl
theorem k_bipush_20 : (Int8.ofInt (20)).toInt32 = (20 : Int32) := by decide
theorem ac_int : Cond.arrayClass .int ∈ tb := tb_of (in_t1 _ (List.mem_of_getElem? (i := 67) rfl)) rfl
theorem inX0 : ∀ w ∈ u_ws RX0 TX0 2, w ∈ tb := tb_all [264, 266] (by decide +kernel) (by decide +kernel)
theorem fa_X0_11 : FA RX0 11 0 0 (.array .int) true := ⟨RX0, TX0, 2, rfl, by decide, rfl, by decide, rfl, rfl, tyX0_ok, nmX0, inX0, Or.inl ⟨tb_of (in_t1 _ (List.mem_of_getElem? (i := 136) rfl)) rfl, rfl⟩⟩
theorem fo_X0_11 : FO RX0 11 0 0 := ⟨RX0, TX0, 2, rfl, tb_of (in_t1 _ (List.mem_of_getElem? (i := 136) rfl)) rfl, rfl⟩
theorem pn_X0 : plainName RX0 = true := by decide +kernel
theorem gs_X0_42 : Cond.fieldLink RX0 42 (zC 2) (zN 2) "[I" ∈ tb ∨ ∃ host, Cond.fieldLinkNest RX0 42 (zC 2) (zN 2) "[I" host ∈ lw_tbl := Or.inl (tb_of (in_t4 _ (List.mem_of_getElem? (i := 164) rfl)) rfl)
theorem k_iconst_3 : Int32.ofInt (3) = (3 : Int32) := by decide
theorem gs_X0_39 : Cond.fieldLink RX0 39 (zC 0) (zN 0) "[I" ∈ tb ∨ ∃ host, Cond.fieldLinkNest RX0 39 (zC 0) (zN 0) "[I" host ∈ lw_tbl := Or.inr ⟨"SlowWells", (in_t4 _ (List.mem_of_getElem? (i := 162) rfl))⟩
theorem k_inc_1 (x : Int32) : x + Int32.ofInt (1) = x + 1 := by rw [show Int32.ofInt (1) = (1 : Int32) from by decide]
theorem k_iconst_0 : Int32.ofInt (0) = (0 : Int32) := by decide
theorem fa_X0_45 : FA RX0 45 0 1 (.int) false := ⟨RX0, TX0, 2, rfl, by decide, rfl, by decide, rfl, rfl, tyX0_ok, nmX0, inX0, Or.inl ⟨tb_of (in_t1 _ (List.mem_of_getElem? (i := 138) rfl)) rfl, rfl⟩⟩
theorem k_iconst_1 : Int32.ofInt (1) = (1 : Int32) := by decide
theorem mc_X0_bodyOf : Cond.code yX0_bodyOf cX0_bodyOf 4 (some .int) ∈ tb := tb_of (in_t4 _ (List.mem_of_getElem? (i := 161) rfl)) rfl
theorem mi_X0 : Cond.initialized RX0 ∈ tb := tb_of (in_t1 _ (List.mem_of_getElem? (i := 5) rfl)) rfl
theorem mp_X0_bodyOf : yX0_bodyOf.cls ≠ "java/lang/invoke/MethodHandle" ∧ yX0_bodyOf.cls ≠ "java/lang/invoke/VarHandle" ∧ (parseMethodDescriptor yX0_bodyOf.desc).map (fun d => d.parameters.length) = some 2 := ⟨by decide +kernel, by decide +kernel, by decide +kernel⟩
theorem ms_X0_bodyOf : Cond.static yX0_bodyOf ∈ tb := tb_of (in_t4 _ (List.mem_of_getElem? (i := 160) rfl)) rfl
theorem cs_X0_15 : CS RX0 15 yX0_bodyOf cX0_bodyOf 4 (some .int) 2 := ⟨⟨mc_X0_bodyOf, mi_X0, mp_X0_bodyOf, Or.inl (tb_of (in_t4 _ (List.mem_of_getElem? (i := 159) rfl)) rfl)⟩, ms_X0_bodyOf⟩
theorem mc_X0_note : Cond.code yX0_note cX0_note 2 none ∈ tb := tb_of (in_t4 _ (List.mem_of_getElem? (i := 169) rfl)) rfl
theorem mp_X0_note : yX0_note.cls ≠ "java/lang/invoke/MethodHandle" ∧ yX0_note.cls ≠ "java/lang/invoke/VarHandle" ∧ (parseMethodDescriptor yX0_note.desc).map (fun d => d.parameters.length) = some 1 := ⟨by decide +kernel, by decide +kernel, by decide +kernel⟩
theorem mn_X0_note : Cond.instanceMethod yX0_note ∈ tb := tb_of (in_t4 _ (List.mem_of_getElem? (i := 168) rfl)) rfl
theorem sl_X0_note : Cond.selects yX0_note.cls yX0_note yX0_note ∈ tb := tb_of (in_t0 _ (List.mem_of_getElem? (i := 64) rfl)) rfl
theorem cv_X0_19 : CV RX0 19 yX0_note cX0_note 2 none 1 0 := ⟨⟨mc_X0_note, mi_X0, mp_X0_note, Or.inl (tb_of (in_t4 _ (List.mem_of_getElem? (i := 166) rfl)) rfl)⟩, mn_X0_note, sl_X0_note, by decide, TX0, 2, rfl⟩
theorem inX5 : ∀ w ∈ u_ws RX5 TX5 5, w ∈ tb := tb_all [729, 731, 733, 735, 737] (by decide +kernel) (by decide +kernel)
theorem fa_X0_23 : FA RX0 23 5 1 (.int) true := ⟨RX5, TX5, 5, rfl, by decide, rfl, by decide, rfl, rfl, tyX5_ok, nmX5, inX5, Or.inr ⟨"SlowWells", (in_t3 _ (List.mem_of_getElem? (i := 119) rfl))⟩⟩
theorem fa_X0_29 : FA RX0 29 5 0 (.int) true := ⟨RX5, TX5, 5, rfl, by decide, rfl, by decide, rfl, rfl, tyX5_ok, nmX5, inX5, Or.inr ⟨"SlowWells", (in_t3 _ (List.mem_of_getElem? (i := 116) rfl))⟩⟩
theorem mc_X0_perform : Cond.code yX0_perform cX0_perform 8 (some .int) ∈ tb := tb_of (in_t4 _ (List.mem_of_getElem? (i := 158) rfl)) rfl
theorem mp_X0_perform : yX0_perform.cls ≠ "java/lang/invoke/MethodHandle" ∧ yX0_perform.cls ≠ "java/lang/invoke/VarHandle" ∧ (parseMethodDescriptor yX0_perform.desc).map (fun d => d.parameters.length) = some 6 := ⟨by decide +kernel, by decide +kernel, by decide +kernel⟩
theorem ms_X0_perform : Cond.static yX0_perform ∈ tb := tb_of (in_t4 _ (List.mem_of_getElem? (i := 157) rfl)) rfl
theorem cs_X0_32 : CS RX0 32 yX0_perform cX0_perform 8 (some .int) 6 := ⟨⟨mc_X0_perform, mi_X0, mp_X0_perform, Or.inl (tb_of (in_t4 _ (List.mem_of_getElem? (i := 170) rfl)) rfl)⟩, ms_X0_perform⟩
theorem fa_X0_36 : FA RX0 36 5 2 (.int) true := ⟨RX5, TX5, 5, rfl, by decide, rfl, by decide, rfl, rfl, tyX5_ok, nmX5, inX5, Or.inr ⟨"SlowWells", (in_t3 _ (List.mem_of_getElem? (i := 121) rfl))⟩⟩
theorem k_iconst_2 : Int32.ofInt (2) = (2 : Int32) := by decide
theorem k_bipush_6 : (Int8.ofInt (6)).toInt32 = (6 : Int32) := by decide
theorem oi_X1 : Cond.methodLink RX1 1 Lib.objectInit ∈ tb := tb_of (in_t2 _ (List.mem_of_getElem? (i := 63) rfl)) rfl
theorem inX1 : ∀ w ∈ u_ws RX1 TX1 3, w ∈ tb := tb_all [438, 440, 442] (by decide +kernel) (by decide +kernel)
theorem fa_X1_7 : FA RX1 7 1 2 (.object "SlowWells$Rule") false := ⟨RX1, TX1, 3, rfl, by decide, rfl, by decide, rfl, rfl, tyX1_ok, nmX1, inX1, Or.inl ⟨tb_of (in_t2 _ (List.mem_of_getElem? (i := 71) rfl)) rfl, rfl⟩⟩
theorem pn_X1 : plainName RX1 = true := by decide +kernel
theorem fa_X1_13 : FA RX1 13 1 0 (.int) false := ⟨RX1, TX1, 3, rfl, by decide, rfl, by decide, rfl, rfl, tyX1_ok, nmX1, inX1, Or.inl ⟨tb_of (in_t2 _ (List.mem_of_getElem? (i := 64) rfl)) rfl, rfl⟩⟩
theorem fa_X1_17 : FA RX1 17 1 1 (.int) false := ⟨RX1, TX1, 3, rfl, by decide, rfl, by decide, rfl, rfl, tyX1_ok, nmX1, inX1, Or.inl ⟨tb_of (in_t2 _ (List.mem_of_getElem? (i := 68) rfl)) rfl, rfl⟩⟩
theorem oi_X2 : Cond.methodLink RX2 3 Lib.objectInit ∈ tb := tb_of (in_t1 _ (List.mem_of_getElem? (i := 223) rfl)) rfl
theorem inX2 : ∀ w ∈ u_ws RX2 TX2 6, w ∈ tb := tb_all [355, 357, 359, 361, 363, 365] (by decide +kernel) (by decide +kernel)
theorem fa_X2_9 : FA RX2 9 2 0 (.array .int) true := ⟨RX2, TX2, 6, rfl, by decide, rfl, by decide, rfl, rfl, tyX2_ok, nmX2, inX2, Or.inl ⟨tb_of (in_t1 _ (List.mem_of_getElem? (i := 224) rfl)) rfl, rfl⟩⟩
theorem fo_X2_9 : FO RX2 9 2 0 := ⟨RX2, TX2, 6, rfl, tb_of (in_t1 _ (List.mem_of_getElem? (i := 224) rfl)) rfl, rfl⟩
theorem pn_X2 : plainName RX2 = true := by decide +kernel
theorem k_bipush_m5 : (Int8.ofInt (-5)).toInt32 = (-5 : Int32) := by decide
theorem fa_X2_15 : FA RX2 15 2 1 (.int) false := ⟨RX2, TX2, 6, rfl, by decide, rfl, by decide, rfl, rfl, tyX2_ok, nmX2, inX2, Or.inl ⟨tb_of (in_t1 _ (List.mem_of_getElem? (i := 225) rfl)) rfl, rfl⟩⟩
theorem fa_X2_19 : FA RX2 19 2 2 (.int) false := ⟨RX2, TX2, 6, rfl, by decide, rfl, by decide, rfl, rfl, tyX2_ok, nmX2, inX2, Or.inl ⟨tb_of (in_t1 _ (List.mem_of_getElem? (i := 226) rfl)) rfl, rfl⟩⟩
theorem mx_X2_22 : Cond.methodLink RX2 22 Lib.Math.max.name ∈ tb ∧ Cond.static Lib.Math.max.name ∈ tb ∧ Cond.initialized "java/lang/Math" ∈ tb ∧ Cond.code Lib.Math.max.name Lib.Math.max.code 2 (some .int) ∈ tb := ⟨tb_of (in_t4 _ (List.mem_of_getElem? (i := 70) rfl)) rfl, tb_of (in_t3 _ (List.mem_of_getElem? (i := 18) rfl)) rfl, tb_of (in_t1 _ (List.mem_of_getElem? (i := 17) rfl)) rfl, tb_of (in_t3 _ (List.mem_of_getElem? (i := 19) rfl)) rfl⟩
theorem k_bipush_10 : (Int8.ofInt (10)).toInt32 = (10 : Int32) := by decide
theorem k_iconst_m1 : Int32.ofInt (-1) = (-1 : Int32) := by decide
theorem k_bipush_13 : (Int8.ofInt (13)).toInt32 = (13 : Int32) := by decide
theorem fa_X2_28 : FA RX2 28 2 3 (.int) false := ⟨RX2, TX2, 6, rfl, by decide, rfl, by decide, rfl, rfl, tyX2_ok, nmX2, inX2, Or.inl ⟨tb_of (in_t1 _ (List.mem_of_getElem? (i := 227) rfl)) rfl, rfl⟩⟩
theorem fa_X2_34 : FA RX2 34 2 4 (.int) false := ⟨RX2, TX2, 6, rfl, by decide, rfl, by decide, rfl, rfl, tyX2_ok, nmX2, inX2, Or.inl ⟨tb_of (in_t1 _ (List.mem_of_getElem? (i := 228) rfl)) rfl, rfl⟩⟩
theorem fa_X2_31 : FA RX2 31 2 5 (.int) false := ⟨RX2, TX2, 6, rfl, by decide, rfl, by decide, rfl, rfl, tyX2_ok, nmX2, inX2, Or.inl ⟨tb_of (in_t1 _ (List.mem_of_getElem? (i := 230) rfl)) rfl, rfl⟩⟩
theorem gs_X2_37 : Cond.fieldLink RX2 37 (zC 1) (zN 1) "[I" ∈ tb ∨ ∃ host, Cond.fieldLinkNest RX2 37 (zC 1) (zN 1) "[I" host ∈ lw_tbl := Or.inr ⟨"SlowWells", (in_t4 _ (List.mem_of_getElem? (i := 90) rfl))⟩
theorem oi_X3 : Cond.methodLink RX3 3 Lib.objectInit ∈ tb := tb_of (in_t1 _ (List.mem_of_getElem? (i := 185) rfl)) rfl
theorem k_iconst_5 : Int32.ofInt (5) = (5 : Int32) := by decide
theorem inX3 : ∀ w ∈ u_ws RX3 TX3 10, w ∈ tb := tb_all [321, 323, 325, 327, 329, 331, 333, 335, 337, 339] (by decide +kernel) (by decide +kernel)
theorem fa_X3_9 : FA RX3 9 3 0 (.array .int) true := ⟨RX3, TX3, 10, rfl, by decide, rfl, by decide, rfl, rfl, tyX3_ok, nmX3, inX3, Or.inl ⟨tb_of (in_t1 _ (List.mem_of_getElem? (i := 186) rfl)) rfl, rfl⟩⟩
theorem fa_X3_15 : FA RX3 15 3 1 (.array .int) true := ⟨RX3, TX3, 10, rfl, by decide, rfl, by decide, rfl, rfl, tyX3_ok, nmX3, inX3, Or.inl ⟨tb_of (in_t1 _ (List.mem_of_getElem? (i := 188) rfl)) rfl, rfl⟩⟩
theorem k_sipush_186 : (Int16.ofInt (186)).toInt32 = (186 : Int32) := by decide
theorem fa_X3_18 : FA RX3 18 3 2 (.array .int) true := ⟨RX3, TX3, 10, rfl, by decide, rfl, by decide, rfl, rfl, tyX3_ok, nmX3, inX3, Or.inl ⟨tb_of (in_t1 _ (List.mem_of_getElem? (i := 189) rfl)) rfl, rfl⟩⟩
theorem fa_X3_21 : FA RX3 21 3 3 (.array .int) true := ⟨RX3, TX3, 10, rfl, by decide, rfl, by decide, rfl, rfl, tyX3_ok, nmX3, inX3, Or.inl ⟨tb_of (in_t1 _ (List.mem_of_getElem? (i := 190) rfl)) rfl, rfl⟩⟩
theorem fa_X3_24 : FA RX3 24 3 4 (.object "SlowWells$Waste") false := ⟨RX3, TX3, 10, rfl, by decide, rfl, by decide, rfl, rfl, tyX3_ok, nmX3, inX3, Or.inl ⟨tb_of (in_t1 _ (List.mem_of_getElem? (i := 191) rfl)) rfl, rfl⟩⟩
theorem fa_X3_28 : FA RX3 28 3 5 (.object "SlowWells$Wells") false := ⟨RX3, TX3, 10, rfl, by decide, rfl, by decide, rfl, rfl, tyX3_ok, nmX3, inX3, Or.inl ⟨tb_of (in_t1 _ (List.mem_of_getElem? (i := 192) rfl)) rfl, rfl⟩⟩
theorem fo_X3_21 : FO RX3 21 3 3 := ⟨RX3, TX3, 10, rfl, tb_of (in_t1 _ (List.mem_of_getElem? (i := 190) rfl)) rfl, rfl⟩
theorem fo_X3_18 : FO RX3 18 3 2 := ⟨RX3, TX3, 10, rfl, tb_of (in_t1 _ (List.mem_of_getElem? (i := 189) rfl)) rfl, rfl⟩
theorem fo_X3_15 : FO RX3 15 3 1 := ⟨RX3, TX3, 10, rfl, tb_of (in_t1 _ (List.mem_of_getElem? (i := 188) rfl)) rfl, rfl⟩
theorem fo_X3_9 : FO RX3 9 3 0 := ⟨RX3, TX3, 10, rfl, tb_of (in_t1 _ (List.mem_of_getElem? (i := 186) rfl)) rfl, rfl⟩
theorem pn_X3 : plainName RX3 = true := by decide +kernel
theorem k_bipush_9 : (Int8.ofInt (9)).toInt32 = (9 : Int32) := by decide
theorem k_bipush_33 : (Int8.ofInt (33)).toInt32 = (33 : Int32) := by decide
theorem pn_X9 : plainName RX9 = true := by decide +kernel
theorem mc_X9_sumsOf : Cond.code yX9_sumsOf cX9_sumsOf 2 (some .int) ∈ tb := tb_of (in_t3 _ (List.mem_of_getElem? (i := 65) rfl)) rfl
theorem mi_X9 : Cond.initialized RX9 ∈ tb := tb_of (in_t1 _ (List.mem_of_getElem? (i := 9) rfl)) rfl
theorem mp_X9_sumsOf : yX9_sumsOf.cls ≠ "java/lang/invoke/MethodHandle" ∧ yX9_sumsOf.cls ≠ "java/lang/invoke/VarHandle" ∧ (parseMethodDescriptor yX9_sumsOf.desc).map (fun d => d.parameters.length) = some 2 := ⟨by decide +kernel, by decide +kernel, by decide +kernel⟩
theorem ms_X9_sumsOf : Cond.static yX9_sumsOf ∈ tb := tb_of (in_t3 _ (List.mem_of_getElem? (i := 64) rfl)) rfl
theorem cs_X9_46 : CS RX9 46 yX9_sumsOf cX9_sumsOf 2 (some .int) 2 := ⟨⟨mc_X9_sumsOf, mi_X9, mp_X9_sumsOf, Or.inl (tb_of (in_t3 _ (List.mem_of_getElem? (i := 94) rfl)) rfl)⟩, ms_X9_sumsOf⟩
theorem k_bipush_24 : (Int8.ofInt (24)).toInt32 = (24 : Int32) := by decide
theorem inX9 : ∀ w ∈ u_ws RX9 TX9 9, w ∈ tb := tb_all [404, 406, 408, 410, 412, 414, 416, 418, 420] (by decide +kernel) (by decide +kernel)
theorem fa_X9_18 : FA RX9 18 9 7 (.array .int) true := ⟨RX9, TX9, 9, rfl, by decide, rfl, by decide, rfl, rfl, tyX9_ok, nmX9, inX9, Or.inl ⟨tb_of (in_t2 _ (List.mem_of_getElem? (i := 34) rfl)) rfl, rfl⟩⟩
theorem fa_X9_21 : FA RX9 21 9 8 (.array .int) false := ⟨RX9, TX9, 9, rfl, by decide, rfl, by decide, rfl, rfl, tyX9_ok, nmX9, inX9, Or.inl ⟨tb_of (in_t2 _ (List.mem_of_getElem? (i := 38) rfl)) rfl, rfl⟩⟩
theorem k_nz_24 : ¬ (24 : Int32) = 0 := by decide
theorem fa_X3_60 : FA RX3 60 9 0 (.int) false := ⟨RX9, TX9, 9, rfl, by decide, rfl, by decide, rfl, rfl, tyX9_ok, nmX9, inX9, Or.inr ⟨"SlowWells", (in_t2 _ (List.mem_of_getElem? (i := 14) rfl))⟩⟩
theorem fa_X3_44 : FA RX3 44 3 7 (.int) false := ⟨RX3, TX3, 10, rfl, by decide, rfl, by decide, rfl, rfl, tyX3_ok, nmX3, inX3, Or.inl ⟨tb_of (in_t1 _ (List.mem_of_getElem? (i := 194) rfl)) rfl, rfl⟩⟩
theorem fa_X3_38 : FA RX3 38 3 6 (.int) false := ⟨RX3, TX3, 10, rfl, by decide, rfl, by decide, rfl, rfl, tyX3_ok, nmX3, inX3, Or.inl ⟨tb_of (in_t1 _ (List.mem_of_getElem? (i := 193) rfl)) rfl, rfl⟩⟩
theorem mc_X9_drunkAlong : Cond.code yX9_drunkAlong cX9_drunkAlong 6 (some .int) ∈ tb := tb_of (in_t3 _ (List.mem_of_getElem? (i := 183) rfl)) rfl
theorem mp_X9_drunkAlong : yX9_drunkAlong.cls ≠ "java/lang/invoke/MethodHandle" ∧ yX9_drunkAlong.cls ≠ "java/lang/invoke/VarHandle" ∧ (parseMethodDescriptor yX9_drunkAlong.desc).map (fun d => d.parameters.length) = some 3 := ⟨by decide +kernel, by decide +kernel, by decide +kernel⟩
theorem mn_X9_drunkAlong : Cond.instanceMethod yX9_drunkAlong ∈ tb := tb_of (in_t3 _ (List.mem_of_getElem? (i := 182) rfl)) rfl
theorem sl_X9_drunkAlong : Cond.selects yX9_drunkAlong.cls yX9_drunkAlong yX9_drunkAlong ∈ tb := tb_of (in_t0 _ (List.mem_of_getElem? (i := 28) rfl)) rfl
theorem cv_X3_102 : CV RX3 102 yX9_drunkAlong cX9_drunkAlong 6 (some .int) 3 9 := ⟨⟨mc_X9_drunkAlong, mi_X9, mp_X9_drunkAlong, Or.inr ⟨"SlowWells", (in_t3 _ (List.mem_of_getElem? (i := 180) rfl))⟩⟩, mn_X9_drunkAlong, sl_X9_drunkAlong, by decide, TX9, 9, rfl⟩
theorem mx_X3_97 : Cond.methodLink RX3 97 Lib.Math.max.name ∈ tb ∧ Cond.static Lib.Math.max.name ∈ tb ∧ Cond.initialized "java/lang/Math" ∈ tb ∧ Cond.code Lib.Math.max.name Lib.Math.max.code 2 (some .int) ∈ tb := ⟨tb_of (in_t3 _ (List.mem_of_getElem? (i := 179) rfl)) rfl, tb_of (in_t3 _ (List.mem_of_getElem? (i := 18) rfl)) rfl, tb_of (in_t1 _ (List.mem_of_getElem? (i := 17) rfl)) rfl, tb_of (in_t3 _ (List.mem_of_getElem? (i := 19) rfl)) rfl⟩
theorem inX10 : ∀ w ∈ u_ws RX10 TX10 4, w ∈ tb := tb_all [214, 216, 218, 220] (by decide +kernel) (by decide +kernel)
theorem fa_X3_92 : FA RX3 92 10 3 (.array .int) true := ⟨RX10, TX10, 4, rfl, by decide, rfl, by decide, rfl, rfl, tyX10_ok, nmX10, inX10, Or.inr ⟨"SlowWells", (in_t1 _ (List.mem_of_getElem? (i := 88) rfl))⟩⟩
theorem fa_X3_89 : FA RX3 89 9 7 (.array .int) true := ⟨RX9, TX9, 9, rfl, by decide, rfl, by decide, rfl, rfl, tyX9_ok, nmX9, inX9, Or.inr ⟨"SlowWells", (in_t2 _ (List.mem_of_getElem? (i := 35) rfl))⟩⟩
theorem fa_X10_21 : FA RX10 21 10 3 (.array .int) true := ⟨RX10, TX10, 4, rfl, by decide, rfl, by decide, rfl, rfl, tyX10_ok, nmX10, inX10, Or.inl ⟨tb_of (in_t1 _ (List.mem_of_getElem? (i := 87) rfl)) rfl, rfl⟩⟩
theorem fa_X10_18 : FA RX10 18 10 2 (.array .int) true := ⟨RX10, TX10, 4, rfl, by decide, rfl, by decide, rfl, rfl, tyX10_ok, nmX10, inX10, Or.inl ⟨tb_of (in_t1 _ (List.mem_of_getElem? (i := 86) rfl)) rfl, rfl⟩⟩
theorem fa_X10_15 : FA RX10 15 10 1 (.array .int) true := ⟨RX10, TX10, 4, rfl, by decide, rfl, by decide, rfl, rfl, tyX10_ok, nmX10, inX10, Or.inl ⟨tb_of (in_t1 _ (List.mem_of_getElem? (i := 85) rfl)) rfl, rfl⟩⟩
theorem fa_X10_9 : FA RX10 9 10 0 (.array .int) true := ⟨RX10, TX10, 4, rfl, by decide, rfl, by decide, rfl, rfl, tyX10_ok, nmX10, inX10, Or.inl ⟨tb_of (in_t1 _ (List.mem_of_getElem? (i := 84) rfl)) rfl, rfl⟩⟩
theorem pn_X10 : plainName RX10 = true := by decide +kernel
theorem fa_X3_50 : FA RX3 50 3 8 (.int) false := ⟨RX3, TX3, 10, rfl, by decide, rfl, by decide, rfl, rfl, tyX3_ok, nmX3, inX3, Or.inl ⟨tb_of (in_t1 _ (List.mem_of_getElem? (i := 195) rfl)) rfl, rfl⟩⟩
theorem mc_X10_heldAt : Cond.code yX10_heldAt cX10_heldAt 4 (some .int) ∈ tb := tb_of (in_t3 _ (List.mem_of_getElem? (i := 85) rfl)) rfl
theorem mi_X10 : Cond.initialized RX10 ∈ tb := tb_of (in_t1 _ (List.mem_of_getElem? (i := 4) rfl)) rfl
theorem mp_X10_heldAt : yX10_heldAt.cls ≠ "java/lang/invoke/MethodHandle" ∧ yX10_heldAt.cls ≠ "java/lang/invoke/VarHandle" ∧ (parseMethodDescriptor yX10_heldAt.desc).map (fun d => d.parameters.length) = some 2 := ⟨by decide +kernel, by decide +kernel, by decide +kernel⟩
theorem mn_X10_heldAt : Cond.instanceMethod yX10_heldAt ∈ tb := tb_of (in_t3 _ (List.mem_of_getElem? (i := 84) rfl)) rfl
theorem sl_X10_heldAt : Cond.selects yX10_heldAt.cls yX10_heldAt yX10_heldAt ∈ tb := tb_of (in_t0 _ (List.mem_of_getElem? (i := 19) rfl)) rfl
theorem cv_X3_105 : CV RX3 105 yX10_heldAt cX10_heldAt 4 (some .int) 2 10 := ⟨⟨mc_X10_heldAt, mi_X10, mp_X10_heldAt, Or.inr ⟨"SlowWells", (in_t3 _ (List.mem_of_getElem? (i := 200) rfl))⟩⟩, mn_X10_heldAt, sl_X10_heldAt, by decide, TX10, 4, rfl⟩
theorem mx_X3_108 : Cond.methodLink RX3 108 Lib.Math.min.name ∈ tb ∧ Cond.static Lib.Math.min.name ∈ tb ∧ Cond.initialized "java/lang/Math" ∈ tb ∧ Cond.code Lib.Math.min.name Lib.Math.min.code 2 (some .int) ∈ tb := ⟨tb_of (in_t3 _ (List.mem_of_getElem? (i := 201) rfl)) rfl, tb_of (in_t3 _ (List.mem_of_getElem? (i := 104) rfl)) rfl, tb_of (in_t1 _ (List.mem_of_getElem? (i := 17) rfl)) rfl, tb_of (in_t3 _ (List.mem_of_getElem? (i := 105) rfl)) rfl⟩
theorem mc_X3_leaving : Cond.code yX3_leaving cX3_leaving 4 (some .int) ∈ tb := tb_of (in_t3 _ (List.mem_of_getElem? (i := 191) rfl)) rfl
theorem mi_X3 : Cond.initialized RX3 ∈ tb := tb_of (in_t1 _ (List.mem_of_getElem? (i := 7) rfl)) rfl
theorem mp_X3_leaving : yX3_leaving.cls ≠ "java/lang/invoke/MethodHandle" ∧ yX3_leaving.cls ≠ "java/lang/invoke/VarHandle" ∧ (parseMethodDescriptor yX3_leaving.desc).map (fun d => d.parameters.length) = some 3 := ⟨by decide +kernel, by decide +kernel, by decide +kernel⟩
theorem mn_X3_leaving : Cond.instanceMethod yX3_leaving ∈ tb := tb_of (in_t3 _ (List.mem_of_getElem? (i := 190) rfl)) rfl
theorem sl_X3_leaving : Cond.selects yX3_leaving.cls yX3_leaving yX3_leaving ∈ tb := tb_of (in_t0 _ (List.mem_of_getElem? (i := 30) rfl)) rfl
theorem cv_X3_78 : CV RX3 78 yX3_leaving cX3_leaving 4 (some .int) 3 3 := ⟨⟨mc_X3_leaving, mi_X3, mp_X3_leaving, Or.inl (tb_of (in_t3 _ (List.mem_of_getElem? (i := 188) rfl)) rfl)⟩, mn_X3_leaving, sl_X3_leaving, by decide, TX3, 10, rfl⟩
theorem k_bipush_31 : (Int8.ofInt (31)).toInt32 = (31 : Int32) := by decide
theorem mc_X3_nextOf : Cond.code yX3_nextOf cX3_nextOf 3 (some .int) ∈ tb := tb_of (in_t3 _ (List.mem_of_getElem? (i := 195) rfl)) rfl
theorem mp_X3_nextOf : yX3_nextOf.cls ≠ "java/lang/invoke/MethodHandle" ∧ yX3_nextOf.cls ≠ "java/lang/invoke/VarHandle" ∧ (parseMethodDescriptor yX3_nextOf.desc).map (fun d => d.parameters.length) = some 2 := ⟨by decide +kernel, by decide +kernel, by decide +kernel⟩
theorem mn_X3_nextOf : Cond.instanceMethod yX3_nextOf ∈ tb := tb_of (in_t3 _ (List.mem_of_getElem? (i := 194) rfl)) rfl
theorem sl_X3_nextOf : Cond.selects yX3_nextOf.cls yX3_nextOf yX3_nextOf ∈ tb := tb_of (in_t0 _ (List.mem_of_getElem? (i := 31) rfl)) rfl
theorem cv_X3_86 : CV RX3 86 yX3_nextOf cX3_nextOf 3 (some .int) 2 3 := ⟨⟨mc_X3_nextOf, mi_X3, mp_X3_nextOf, Or.inl (tb_of (in_t3 _ (List.mem_of_getElem? (i := 192) rfl)) rfl)⟩, mn_X3_nextOf, sl_X3_nextOf, by decide, TX3, 10, rfl⟩
theorem mc_X3_brought : Cond.code yX3_brought cX3_brought 7 (some .int) ∈ tb := tb_of (in_t3 _ (List.mem_of_getElem? (i := 199) rfl)) rfl
theorem mp_X3_brought : yX3_brought.cls ≠ "java/lang/invoke/MethodHandle" ∧ yX3_brought.cls ≠ "java/lang/invoke/VarHandle" ∧ (parseMethodDescriptor yX3_brought.desc).map (fun d => d.parameters.length) = some 4 := ⟨by decide +kernel, by decide +kernel, by decide +kernel⟩
theorem mn_X3_brought : Cond.instanceMethod yX3_brought ∈ tb := tb_of (in_t3 _ (List.mem_of_getElem? (i := 198) rfl)) rfl
theorem sl_X3_brought : Cond.selects yX3_brought.cls yX3_brought yX3_brought ∈ tb := tb_of (in_t0 _ (List.mem_of_getElem? (i := 32) rfl)) rfl
theorem cv_X3_82 : CV RX3 82 yX3_brought cX3_brought 7 (some .int) 4 3 := ⟨⟨mc_X3_brought, mi_X3, mp_X3_brought, Or.inl (tb_of (in_t3 _ (List.mem_of_getElem? (i := 196) rfl)) rfl)⟩, mn_X3_brought, sl_X3_brought, by decide, TX3, 10, rfl⟩
theorem fa_X3_66 : FA RX3 66 3 9 (.int) false := ⟨RX3, TX3, 10, rfl, by decide, rfl, by decide, rfl, rfl, tyX3_ok, nmX3, inX3, Or.inl ⟨tb_of (in_t1 _ (List.mem_of_getElem? (i := 196) rfl)) rfl, rfl⟩⟩
theorem k_inc_m1 (x : Int32) : x + Int32.ofInt (-1) = x - 1 := by rw [show Int32.ofInt (-1) = -(1 : Int32) from by decide, Int32.sub_eq_add_neg]
theorem mc_X3_spread : Cond.code yX3_spread cX3_spread 7 none ∈ tb := tb_of (in_t3 _ (List.mem_of_getElem? (i := 187) rfl)) rfl
theorem mp_X3_spread : yX3_spread.cls ≠ "java/lang/invoke/MethodHandle" ∧ yX3_spread.cls ≠ "java/lang/invoke/VarHandle" ∧ (parseMethodDescriptor yX3_spread.desc).map (fun d => d.parameters.length) = some 2 := ⟨by decide +kernel, by decide +kernel, by decide +kernel⟩
theorem mn_X3_spread : Cond.instanceMethod yX3_spread ∈ tb := tb_of (in_t3 _ (List.mem_of_getElem? (i := 186) rfl)) rfl
theorem sl_X3_spread : Cond.selects yX3_spread.cls yX3_spread yX3_spread ∈ tb := tb_of (in_t0 _ (List.mem_of_getElem? (i := 29) rfl)) rfl
theorem cv_X3_62 : CV RX3 62 yX3_spread cX3_spread 7 none 2 3 := ⟨⟨mc_X3_spread, mi_X3, mp_X3_spread, Or.inl (tb_of (in_t3 _ (List.mem_of_getElem? (i := 184) rfl)) rfl)⟩, mn_X3_spread, sl_X3_spread, by decide, TX3, 10, rfl⟩
theorem k_bipush_30 : (Int8.ofInt (30)).toInt32 = (30 : Int32) := by decide
theorem fa_X3_32 : FA RX3 32 1 0 (.int) false := ⟨RX1, TX1, 3, rfl, by decide, rfl, by decide, rfl, rfl, tyX1_ok, nmX1, inX1, Or.inr ⟨"SlowWells", (in_t2 _ (List.mem_of_getElem? (i := 65) rfl))⟩⟩
theorem fa_X3_39 : FA RX3 39 9 2 (.int) false := ⟨RX9, TX9, 9, rfl, by decide, rfl, by decide, rfl, rfl, tyX9_ok, nmX9, inX9, Or.inr ⟨"SlowWells", (in_t2 _ (List.mem_of_getElem? (i := 18) rfl))⟩⟩
theorem fa_X3_47 : FA RX3 47 9 4 (.int) false := ⟨RX9, TX9, 9, rfl, by decide, rfl, by decide, rfl, rfl, tyX9_ok, nmX9, inX9, Or.inr ⟨"SlowWells", (in_t2 _ (List.mem_of_getElem? (i := 25) rfl))⟩⟩
theorem fa_X3_53 : FA RX3 53 1 1 (.int) false := ⟨RX1, TX1, 3, rfl, by decide, rfl, by decide, rfl, rfl, tyX1_ok, nmX1, inX1, Or.inr ⟨"SlowWells", (in_t2 _ (List.mem_of_getElem? (i := 69) rfl))⟩⟩
theorem mc_X3_begin : Cond.code yX3_begin cX3_begin 3 none ∈ tb := tb_of (in_t3 _ (List.mem_of_getElem? (i := 178) rfl)) rfl
theorem mp_X3_begin : yX3_begin.cls ≠ "java/lang/invoke/MethodHandle" ∧ yX3_begin.cls ≠ "java/lang/invoke/VarHandle" ∧ (parseMethodDescriptor yX3_begin.desc).map (fun d => d.parameters.length) = some 1 := ⟨by decide +kernel, by decide +kernel, by decide +kernel⟩
theorem mn_X3_begin : Cond.instanceMethod yX3_begin ∈ tb := tb_of (in_t3 _ (List.mem_of_getElem? (i := 177) rfl)) rfl
theorem sl_X3_begin : Cond.selects yX3_begin.cls yX3_begin yX3_begin ∈ tb := tb_of (in_t0 _ (List.mem_of_getElem? (i := 27) rfl)) rfl
theorem cv_X3_56 : CV RX3 56 yX3_begin cX3_begin 3 none 1 3 := ⟨⟨mc_X3_begin, mi_X3, mp_X3_begin, Or.inl (tb_of (in_t3 _ (List.mem_of_getElem? (i := 175) rfl)) rfl)⟩, mn_X3_begin, sl_X3_begin, by decide, TX3, 10, rfl⟩
theorem ct_X3_69 : Cond.constant RX3 69 (1000000) ∈ tb := tb_of (in_t3 _ (List.mem_of_getElem? (i := 206) rfl)) rfl
theorem mc_X3_leastNext : Cond.code yX3_leastNext cX3_leastNext 4 (some .int) ∈ tb := tb_of (in_t3 _ (List.mem_of_getElem? (i := 214) rfl)) rfl
theorem mp_X3_leastNext : yX3_leastNext.cls ≠ "java/lang/invoke/MethodHandle" ∧ yX3_leastNext.cls ≠ "java/lang/invoke/VarHandle" ∧ (parseMethodDescriptor yX3_leastNext.desc).map (fun d => d.parameters.length) = some 2 := ⟨by decide +kernel, by decide +kernel, by decide +kernel⟩
theorem mn_X3_leastNext : Cond.instanceMethod yX3_leastNext ∈ tb := tb_of (in_t3 _ (List.mem_of_getElem? (i := 213) rfl)) rfl
theorem sl_X3_leastNext : Cond.selects yX3_leastNext.cls yX3_leastNext yX3_leastNext ∈ tb := tb_of (in_t0 _ (List.mem_of_getElem? (i := 35) rfl)) rfl
theorem cv_X3_111 : CV RX3 111 yX3_leastNext cX3_leastNext 4 (some .int) 2 3 := ⟨⟨mc_X3_leastNext, mi_X3, mp_X3_leastNext, Or.inl (tb_of (in_t3 _ (List.mem_of_getElem? (i := 211) rfl)) rfl)⟩, mn_X3_leastNext, sl_X3_leastNext, by decide, TX3, 10, rfl⟩
theorem nz_0 : narrow .boolean (.int 0) = .int 0 := by decide
theorem nz_1 : narrow .boolean (.int 1) = .int 1 := by decide
theorem mc_X3_leastAt : Cond.code yX3_leastAt cX3_leastAt 8 (some .int) ∈ tb := tb_of (in_t3 _ (List.mem_of_getElem? (i := 210) rfl)) rfl
theorem mp_X3_leastAt : yX3_leastAt.cls ≠ "java/lang/invoke/MethodHandle" ∧ yX3_leastAt.cls ≠ "java/lang/invoke/VarHandle" ∧ (parseMethodDescriptor yX3_leastAt.desc).map (fun d => d.parameters.length) = some 2 := ⟨by decide +kernel, by decide +kernel, by decide +kernel⟩
theorem mn_X3_leastAt : Cond.instanceMethod yX3_leastAt ∈ tb := tb_of (in_t3 _ (List.mem_of_getElem? (i := 209) rfl)) rfl
theorem sl_X3_leastAt : Cond.selects yX3_leastAt.cls yX3_leastAt yX3_leastAt ∈ tb := tb_of (in_t0 _ (List.mem_of_getElem? (i := 34) rfl)) rfl
theorem cv_X3_70 : CV RX3 70 yX3_leastAt cX3_leastAt 8 (some .int) 2 3 := ⟨⟨mc_X3_leastAt, mi_X3, mp_X3_leastAt, Or.inl (tb_of (in_t3 _ (List.mem_of_getElem? (i := 207) rfl)) rfl)⟩, mn_X3_leastAt, sl_X3_leastAt, by decide, TX3, 10, rfl⟩
theorem mc_X3_leadsOn : Cond.code yX3_leadsOn cX3_leadsOn 6 (some .boolean) ∈ tb := tb_of (in_t3 _ (List.mem_of_getElem? (i := 218) rfl)) rfl
theorem mp_X3_leadsOn : yX3_leadsOn.cls ≠ "java/lang/invoke/MethodHandle" ∧ yX3_leadsOn.cls ≠ "java/lang/invoke/VarHandle" ∧ (parseMethodDescriptor yX3_leadsOn.desc).map (fun d => d.parameters.length) = some 4 := ⟨by decide +kernel, by decide +kernel, by decide +kernel⟩
theorem mn_X3_leadsOn : Cond.instanceMethod yX3_leadsOn ∈ tb := tb_of (in_t3 _ (List.mem_of_getElem? (i := 217) rfl)) rfl
theorem sl_X3_leadsOn : Cond.selects yX3_leadsOn.cls yX3_leadsOn yX3_leadsOn ∈ tb := tb_of (in_t0 _ (List.mem_of_getElem? (i := 36) rfl)) rfl
theorem cv_X3_74 : CV RX3 74 yX3_leadsOn cX3_leadsOn 6 (some .boolean) 4 3 := ⟨⟨mc_X3_leadsOn, mi_X3, mp_X3_leadsOn, Or.inl (tb_of (in_t3 _ (List.mem_of_getElem? (i := 215) rfl)) rfl)⟩, mn_X3_leadsOn, sl_X3_leadsOn, by decide, TX3, 10, rfl⟩
theorem oi_X4 : Cond.methodLink RX4 3 Lib.objectInit ∈ tb := tb_of (in_t1 _ (List.mem_of_getElem? (i := 33) rfl)) rfl
theorem k_bipush_100 : (Int8.ofInt (100)).toInt32 = (100 : Int32) := by decide
theorem ac_byte : Cond.arrayClass .byte ∈ tb := tb_of (in_t1 _ (List.mem_of_getElem? (i := 66) rfl)) rfl
theorem inX4 : ∀ w ∈ u_ws RX4 TX4 10, w ∈ tb := tb_all [169, 171, 173, 175, 177, 179, 181, 183, 185, 187] (by decide +kernel) (by decide +kernel)
theorem fa_X4_9 : FA RX4 9 4 0 (.array .byte) true := ⟨RX4, TX4, 10, rfl, by decide, rfl, by decide, rfl, rfl, tyX4_ok, nmX4, inX4, Or.inl ⟨tb_of (in_t1 _ (List.mem_of_getElem? (i := 34) rfl)) rfl, rfl⟩⟩
theorem k_bipush_12 : (Int8.ofInt (12)).toInt32 = (12 : Int32) := by decide
theorem fa_X4_15 : FA RX4 15 4 5 (.array .int) true := ⟨RX4, TX4, 10, rfl, by decide, rfl, by decide, rfl, rfl, tyX4_ok, nmX4, inX4, Or.inl ⟨tb_of (in_t1 _ (List.mem_of_getElem? (i := 40) rfl)) rfl, rfl⟩⟩
theorem fa_X4_19 : FA RX4 19 4 6 (.array .int) true := ⟨RX4, TX4, 10, rfl, by decide, rfl, by decide, rfl, rfl, tyX4_ok, nmX4, inX4, Or.inl ⟨tb_of (in_t1 _ (List.mem_of_getElem? (i := 41) rfl)) rfl, rfl⟩⟩
theorem fa_X4_22 : FA RX4 22 4 7 (.array .int) true := ⟨RX4, TX4, 10, rfl, by decide, rfl, by decide, rfl, rfl, tyX4_ok, nmX4, inX4, Or.inl ⟨tb_of (in_t1 _ (List.mem_of_getElem? (i := 42) rfl)) rfl, rfl⟩⟩
theorem fa_X4_25 : FA RX4 25 4 8 (.int) false := ⟨RX4, TX4, 10, rfl, by decide, rfl, by decide, rfl, rfl, tyX4_ok, nmX4, inX4, Or.inl ⟨tb_of (in_t1 _ (List.mem_of_getElem? (i := 43) rfl)) rfl, rfl⟩⟩
theorem fo_X4_22 : FO RX4 22 4 7 := ⟨RX4, TX4, 10, rfl, tb_of (in_t1 _ (List.mem_of_getElem? (i := 42) rfl)) rfl, rfl⟩
theorem fo_X4_19 : FO RX4 19 4 6 := ⟨RX4, TX4, 10, rfl, tb_of (in_t1 _ (List.mem_of_getElem? (i := 41) rfl)) rfl, rfl⟩
theorem fo_X4_15 : FO RX4 15 4 5 := ⟨RX4, TX4, 10, rfl, tb_of (in_t1 _ (List.mem_of_getElem? (i := 40) rfl)) rfl, rfl⟩
theorem fo_X4_9 : FO RX4 9 4 0 := ⟨RX4, TX4, 10, rfl, tb_of (in_t1 _ (List.mem_of_getElem? (i := 34) rfl)) rfl, rfl⟩
theorem pn_X4 : plainName RX4 = true := by decide +kernel
theorem fa_X4_29 : FA RX4 29 4 1 (.int) false := ⟨RX4, TX4, 10, rfl, by decide, rfl, by decide, rfl, rfl, tyX4_ok, nmX4, inX4, Or.inl ⟨tb_of (in_t1 _ (List.mem_of_getElem? (i := 35) rfl)) rfl, rfl⟩⟩
theorem fa_X9_9 : FA RX9 9 9 5 (.array .int) true := ⟨RX9, TX9, 9, rfl, by decide, rfl, by decide, rfl, rfl, tyX9_ok, nmX9, inX9, Or.inl ⟨tb_of (in_t2 _ (List.mem_of_getElem? (i := 28) rfl)) rfl, rfl⟩⟩
theorem fa_X9_15 : FA RX9 15 9 6 (.array .int) true := ⟨RX9, TX9, 9, rfl, by decide, rfl, by decide, rfl, rfl, tyX9_ok, nmX9, inX9, Or.inl ⟨tb_of (in_t2 _ (List.mem_of_getElem? (i := 31) rfl)) rfl, rfl⟩⟩
theorem fa_X9_24 : FA RX9 24 9 0 (.int) false := ⟨RX9, TX9, 9, rfl, by decide, rfl, by decide, rfl, rfl, tyX9_ok, nmX9, inX9, Or.inl ⟨tb_of (in_t2 _ (List.mem_of_getElem? (i := 12) rfl)) rfl, rfl⟩⟩
theorem fa_X9_28 : FA RX9 28 9 1 (.int) false := ⟨RX9, TX9, 9, rfl, by decide, rfl, by decide, rfl, rfl, tyX9_ok, nmX9, inX9, Or.inl ⟨tb_of (in_t2 _ (List.mem_of_getElem? (i := 16) rfl)) rfl, rfl⟩⟩
theorem fa_X9_31 : FA RX9 31 9 2 (.int) false := ⟨RX9, TX9, 9, rfl, by decide, rfl, by decide, rfl, rfl, tyX9_ok, nmX9, inX9, Or.inl ⟨tb_of (in_t2 _ (List.mem_of_getElem? (i := 17) rfl)) rfl, rfl⟩⟩
theorem fa_X9_34 : FA RX9 34 9 3 (.int) false := ⟨RX9, TX9, 9, rfl, by decide, rfl, by decide, rfl, rfl, tyX9_ok, nmX9, inX9, Or.inl ⟨tb_of (in_t2 _ (List.mem_of_getElem? (i := 21) rfl)) rfl, rfl⟩⟩
theorem fa_X9_37 : FA RX9 37 9 4 (.int) false := ⟨RX9, TX9, 9, rfl, by decide, rfl, by decide, rfl, rfl, tyX9_ok, nmX9, inX9, Or.inl ⟨tb_of (in_t2 _ (List.mem_of_getElem? (i := 24) rfl)) rfl, rfl⟩⟩
theorem fa_X4_40 : FA RX4 40 4 3 (.boolean) false := ⟨RX4, TX4, 10, rfl, by decide, rfl, by decide, rfl, rfl, tyX4_ok, nmX4, inX4, Or.inl ⟨tb_of (in_t1 _ (List.mem_of_getElem? (i := 38) rfl)) rfl, rfl⟩⟩
theorem fa_X4_37 : FA RX4 37 4 2 (.int) false := ⟨RX4, TX4, 10, rfl, by decide, rfl, by decide, rfl, rfl, tyX4_ok, nmX4, inX4, Or.inl ⟨tb_of (in_t1 _ (List.mem_of_getElem? (i := 37) rfl)) rfl, rfl⟩⟩
theorem mc_X4_next : Cond.code yX4_next cX4_next 1 (some .int) ∈ tb := tb_of (in_t2 _ (List.mem_of_getElem? (i := 187) rfl)) rfl
theorem mi_X4 : Cond.initialized RX4 ∈ tb := tb_of (in_t1 _ (List.mem_of_getElem? (i := 2) rfl)) rfl
theorem mp_X4_next : yX4_next.cls ≠ "java/lang/invoke/MethodHandle" ∧ yX4_next.cls ≠ "java/lang/invoke/VarHandle" ∧ (parseMethodDescriptor yX4_next.desc).map (fun d => d.parameters.length) = some 0 := ⟨by decide +kernel, by decide +kernel, by decide +kernel⟩
theorem mn_X4_next : Cond.instanceMethod yX4_next ∈ tb := tb_of (in_t2 _ (List.mem_of_getElem? (i := 186) rfl)) rfl
theorem sl_X4_next : Cond.selects yX4_next.cls yX4_next yX4_next ∈ tb := tb_of (in_t0 _ (List.mem_of_getElem? (i := 4) rfl)) rfl
theorem cv_X4_51 : CV RX4 51 yX4_next cX4_next 1 (some .int) 0 4 := ⟨⟨mc_X4_next, mi_X4, mp_X4_next, Or.inl (tb_of (in_t2 _ (List.mem_of_getElem? (i := 184) rfl)) rfl)⟩, mn_X4_next, sl_X4_next, by decide, TX4, 10, rfl⟩
theorem k_bipush_32 : (Int8.ofInt (32)).toInt32 = (32 : Int32) := by decide
theorem mc_X4_take : Cond.code yX4_take cX4_take 2 none ∈ tb := tb_of (in_t3 _ (List.mem_of_getElem? (i := 8) rfl)) rfl
theorem mp_X4_take : yX4_take.cls ≠ "java/lang/invoke/MethodHandle" ∧ yX4_take.cls ≠ "java/lang/invoke/VarHandle" ∧ (parseMethodDescriptor yX4_take.desc).map (fun d => d.parameters.length) = some 1 := ⟨by decide +kernel, by decide +kernel, by decide +kernel⟩
theorem mn_X4_take : Cond.instanceMethod yX4_take ∈ tb := tb_of (in_t3 _ (List.mem_of_getElem? (i := 7) rfl)) rfl
theorem sl_X4_take : Cond.selects yX4_take.cls yX4_take yX4_take ∈ tb := tb_of (in_t0 _ (List.mem_of_getElem? (i := 7) rfl)) rfl
theorem cv_X4_70 : CV RX4 70 yX4_take cX4_take 2 none 1 4 := ⟨⟨mc_X4_take, mi_X4, mp_X4_take, Or.inl (tb_of (in_t3 _ (List.mem_of_getElem? (i := 5) rfl)) rfl)⟩, mn_X4_take, sl_X4_take, by decide, TX4, 10, rfl⟩
theorem k_bipush_48 : (Int8.ofInt (48)).toInt32 = (48 : Int32) := by decide
theorem k_bipush_57 : (Int8.ofInt (57)).toInt32 = (57 : Int32) := by decide
theorem mx_X9_40 : Cond.methodLink RX9 40 Lib.Math.max.name ∈ tb ∧ Cond.static Lib.Math.max.name ∈ tb ∧ Cond.initialized "java/lang/Math" ∈ tb ∧ Cond.code Lib.Math.max.name Lib.Math.max.code 2 (some .int) ∈ tb := ⟨tb_of (in_t3 _ (List.mem_of_getElem? (i := 17) rfl)) rfl, tb_of (in_t3 _ (List.mem_of_getElem? (i := 18) rfl)) rfl, tb_of (in_t1 _ (List.mem_of_getElem? (i := 17) rfl)) rfl, tb_of (in_t3 _ (List.mem_of_getElem? (i := 19) rfl)) rfl⟩
theorem mc_X4_takeWord : Cond.code yX4_takeWord cX4_takeWord 3 none ∈ tb := tb_of (in_t2 _ (List.mem_of_getElem? (i := 196) rfl)) rfl
theorem mp_X4_takeWord : yX4_takeWord.cls ≠ "java/lang/invoke/MethodHandle" ∧ yX4_takeWord.cls ≠ "java/lang/invoke/VarHandle" ∧ (parseMethodDescriptor yX4_takeWord.desc).map (fun d => d.parameters.length) = some 1 := ⟨by decide +kernel, by decide +kernel, by decide +kernel⟩
theorem mn_X4_takeWord : Cond.instanceMethod yX4_takeWord ∈ tb := tb_of (in_t2 _ (List.mem_of_getElem? (i := 195) rfl)) rfl
theorem sl_X4_takeWord : Cond.selects yX4_takeWord.cls yX4_takeWord yX4_takeWord ∈ tb := tb_of (in_t0 _ (List.mem_of_getElem? (i := 6) rfl)) rfl
theorem cv_X4_79 : CV RX4 79 yX4_takeWord cX4_takeWord 3 none 1 4 := ⟨⟨mc_X4_takeWord, mi_X4, mp_X4_takeWord, Or.inl (tb_of (in_t2 _ (List.mem_of_getElem? (i := 193) rfl)) rfl)⟩, mn_X4_takeWord, sl_X4_takeWord, by decide, TX4, 10, rfl⟩
theorem mc_X4_readNumber : Cond.code yX4_readNumber cX4_readNumber 5 (some .int) ∈ tb := tb_of (in_t3 _ (List.mem_of_getElem? (i := 12) rfl)) rfl
theorem mp_X4_readNumber : yX4_readNumber.cls ≠ "java/lang/invoke/MethodHandle" ∧ yX4_readNumber.cls ≠ "java/lang/invoke/VarHandle" ∧ (parseMethodDescriptor yX4_readNumber.desc).map (fun d => d.parameters.length) = some 1 := ⟨by decide +kernel, by decide +kernel, by decide +kernel⟩
theorem mn_X4_readNumber : Cond.instanceMethod yX4_readNumber ∈ tb := tb_of (in_t3 _ (List.mem_of_getElem? (i := 11) rfl)) rfl
theorem sl_X4_readNumber : Cond.selects yX4_readNumber.cls yX4_readNumber yX4_readNumber ∈ tb := tb_of (in_t0 _ (List.mem_of_getElem? (i := 8) rfl)) rfl
theorem cv_X4_83 : CV RX4 83 yX4_readNumber cX4_readNumber 5 (some .int) 1 4 := ⟨⟨mc_X4_readNumber, mi_X4, mp_X4_readNumber, Or.inl (tb_of (in_t3 _ (List.mem_of_getElem? (i := 9) rfl)) rfl)⟩, mn_X4_readNumber, sl_X4_readNumber, by decide, TX4, 10, rfl⟩
theorem mc_X9_addWell : Cond.code yX9_addWell cX9_addWell 3 none ∈ tb := tb_of (in_t3 _ (List.mem_of_getElem? (i := 24) rfl)) rfl
theorem mp_X9_addWell : yX9_addWell.cls ≠ "java/lang/invoke/MethodHandle" ∧ yX9_addWell.cls ≠ "java/lang/invoke/VarHandle" ∧ (parseMethodDescriptor yX9_addWell.desc).map (fun d => d.parameters.length) = some 2 := ⟨by decide +kernel, by decide +kernel, by decide +kernel⟩
theorem mn_X9_addWell : Cond.instanceMethod yX9_addWell ∈ tb := tb_of (in_t3 _ (List.mem_of_getElem? (i := 23) rfl)) rfl
theorem sl_X9_addWell : Cond.selects yX9_addWell.cls yX9_addWell yX9_addWell ∈ tb := tb_of (in_t0 _ (List.mem_of_getElem? (i := 10) rfl)) rfl
theorem cv_X4_114 : CV RX4 114 yX9_addWell cX9_addWell 3 none 2 9 := ⟨⟨mc_X9_addWell, mi_X9, mp_X9_addWell, Or.inr ⟨"SlowWells", (in_t3 _ (List.mem_of_getElem? (i := 21) rfl))⟩⟩, mn_X9_addWell, sl_X9_addWell, by decide, TX9, 9, rfl⟩
theorem k_bipush_97 : (Int8.ofInt (97)).toInt32 = (97 : Int32) := by decide
theorem mc_X9_addWay : Cond.code yX9_addWay cX9_addWay 2 none ∈ tb := tb_of (in_t3 _ (List.mem_of_getElem? (i := 16) rfl)) rfl
theorem mp_X9_addWay : yX9_addWay.cls ≠ "java/lang/invoke/MethodHandle" ∧ yX9_addWay.cls ≠ "java/lang/invoke/VarHandle" ∧ (parseMethodDescriptor yX9_addWay.desc).map (fun d => d.parameters.length) = some 1 := ⟨by decide +kernel, by decide +kernel, by decide +kernel⟩
theorem mn_X9_addWay : Cond.instanceMethod yX9_addWay ∈ tb := tb_of (in_t3 _ (List.mem_of_getElem? (i := 15) rfl)) rfl
theorem sl_X9_addWay : Cond.selects yX9_addWay.cls yX9_addWay yX9_addWay ∈ tb := tb_of (in_t0 _ (List.mem_of_getElem? (i := 9) rfl)) rfl
theorem cv_X4_108 : CV RX4 108 yX9_addWay cX9_addWay 2 none 1 9 := ⟨⟨mc_X9_addWay, mi_X9, mp_X9_addWay, Or.inr ⟨"SlowWells", (in_t3 _ (List.mem_of_getElem? (i := 13) rfl))⟩⟩, mn_X9_addWay, sl_X9_addWay, by decide, TX9, 9, rfl⟩
theorem ct_X4_120 : Cond.constant RX4 120 (16777215) ∈ tb := tb_of (in_t3 _ (List.mem_of_getElem? (i := 34) rfl)) rfl
theorem k_bipush_60 : (Int8.ofInt (60)).toInt32 = (60 : Int32) := by decide
theorem k_bipush_62 : (Int8.ofInt (62)).toInt32 = (62 : Int32) := by decide
theorem mc_X4_hoursBelow : Cond.code yX4_hoursBelow cX4_hoursBelow 1 (some .int) ∈ tb := tb_of (in_t3 _ (List.mem_of_getElem? (i := 44) rfl)) rfl
theorem mp_X4_hoursBelow : yX4_hoursBelow.cls ≠ "java/lang/invoke/MethodHandle" ∧ yX4_hoursBelow.cls ≠ "java/lang/invoke/VarHandle" ∧ (parseMethodDescriptor yX4_hoursBelow.desc).map (fun d => d.parameters.length) = some 1 := ⟨by decide +kernel, by decide +kernel, by decide +kernel⟩
theorem ms_X4_hoursBelow : Cond.static yX4_hoursBelow ∈ tb := tb_of (in_t3 _ (List.mem_of_getElem? (i := 43) rfl)) rfl
theorem cs_X4_134 : CS RX4 134 yX4_hoursBelow cX4_hoursBelow 1 (some .int) 1 := ⟨⟨mc_X4_hoursBelow, mi_X4, mp_X4_hoursBelow, Or.inl (tb_of (in_t3 _ (List.mem_of_getElem? (i := 42) rfl)) rfl)⟩, ms_X4_hoursBelow⟩
theorem mc_X4_matches : Cond.code yX4_matches cX4_matches 3 (some .boolean) ∈ tb := tb_of (in_t3 _ (List.mem_of_getElem? (i := 47) rfl)) rfl
theorem mp_X4_matches : yX4_matches.cls ≠ "java/lang/invoke/MethodHandle" ∧ yX4_matches.cls ≠ "java/lang/invoke/VarHandle" ∧ (parseMethodDescriptor yX4_matches.desc).map (fun d => d.parameters.length) = some 3 := ⟨by decide +kernel, by decide +kernel, by decide +kernel⟩
theorem ms_X4_matches : Cond.static yX4_matches ∈ tb := tb_of (in_t3 _ (List.mem_of_getElem? (i := 46) rfl)) rfl
theorem cs_X4_130 : CS RX4 130 yX4_matches cX4_matches 3 (some .boolean) 3 := ⟨⟨mc_X4_matches, mi_X4, mp_X4_matches, Or.inl (tb_of (in_t3 _ (List.mem_of_getElem? (i := 45) rfl)) rfl)⟩, ms_X4_matches⟩
theorem k_bipush_104 : (Int8.ofInt (104)).toInt32 = (104 : Int32) := by decide
theorem k_bipush_98 : (Int8.ofInt (98)).toInt32 = (98 : Int32) := by decide
theorem fa_X4_128 : FA RX4 128 4 9 (.int) false := ⟨RX4, TX4, 10, rfl, by decide, rfl, by decide, rfl, rfl, tyX4_ok, nmX4, inX4, Or.inl ⟨tb_of (in_t1 _ (List.mem_of_getElem? (i := 44) rfl)) rfl, rfl⟩⟩
theorem mc_X4_hoursThat : Cond.code yX4_hoursThat cX4_hoursThat 2 (some .int) ∈ tb := tb_of (in_t3 _ (List.mem_of_getElem? (i := 41) rfl)) rfl
theorem mp_X4_hoursThat : yX4_hoursThat.cls ≠ "java/lang/invoke/MethodHandle" ∧ yX4_hoursThat.cls ≠ "java/lang/invoke/VarHandle" ∧ (parseMethodDescriptor yX4_hoursThat.desc).map (fun d => d.parameters.length) = some 2 := ⟨by decide +kernel, by decide +kernel, by decide +kernel⟩
theorem ms_X4_hoursThat : Cond.static yX4_hoursThat ∈ tb := tb_of (in_t3 _ (List.mem_of_getElem? (i := 40) rfl)) rfl
theorem cs_X4_124 : CS RX4 124 yX4_hoursThat cX4_hoursThat 2 (some .int) 2 := ⟨⟨mc_X4_hoursThat, mi_X4, mp_X4_hoursThat, Or.inl (tb_of (in_t3 _ (List.mem_of_getElem? (i := 39) rfl)) rfl)⟩, ms_X4_hoursThat⟩
theorem k_bipush_61 : (Int8.ofInt (61)).toInt32 = (61 : Int32) := by decide
theorem k_bipush_119 : (Int8.ofInt (119)).toInt32 = (119 : Int32) := by decide
theorem mc_X4_readTest : Cond.code yX4_readTest cX4_readTest 4 (some .int) ∈ tb := tb_of (in_t3 _ (List.mem_of_getElem? (i := 38) rfl)) rfl
theorem mp_X4_readTest : yX4_readTest.cls ≠ "java/lang/invoke/MethodHandle" ∧ yX4_readTest.cls ≠ "java/lang/invoke/VarHandle" ∧ (parseMethodDescriptor yX4_readTest.desc).map (fun d => d.parameters.length) = some 0 := ⟨by decide +kernel, by decide +kernel, by decide +kernel⟩
theorem mn_X4_readTest : Cond.instanceMethod yX4_readTest ∈ tb := tb_of (in_t3 _ (List.mem_of_getElem? (i := 37) rfl)) rfl
theorem sl_X4_readTest : Cond.selects yX4_readTest.cls yX4_readTest yX4_readTest ∈ tb := tb_of (in_t0 _ (List.mem_of_getElem? (i := 13) rfl)) rfl
theorem cv_X4_121 : CV RX4 121 yX4_readTest cX4_readTest 4 (some .int) 0 4 := ⟨⟨mc_X4_readTest, mi_X4, mp_X4_readTest, Or.inl (tb_of (in_t3 _ (List.mem_of_getElem? (i := 35) rfl)) rfl)⟩, mn_X4_readTest, sl_X4_readTest, by decide, TX4, 10, rfl⟩
theorem k_iconst_4 : Int32.ofInt (4) = (4 : Int32) := by decide
theorem k_bipush_40 : (Int8.ofInt (40)).toInt32 = (40 : Int32) := by decide
theorem mc_X4_readEither : Cond.code yX4_readEither cX4_readEither 7 (some .int) ∈ tb := tb_of (in_t3 _ (List.mem_of_getElem? (i := 29) rfl)) rfl
theorem mp_X4_readEither : yX4_readEither.cls ≠ "java/lang/invoke/MethodHandle" ∧ yX4_readEither.cls ≠ "java/lang/invoke/VarHandle" ∧ (parseMethodDescriptor yX4_readEither.desc).map (fun d => d.parameters.length) = some 1 := ⟨by decide +kernel, by decide +kernel, by decide +kernel⟩
theorem mn_X4_readEither : Cond.instanceMethod yX4_readEither ∈ tb := tb_of (in_t3 _ (List.mem_of_getElem? (i := 28) rfl)) rfl
theorem sl_X4_readEither : Cond.selects yX4_readEither.cls yX4_readEither yX4_readEither ∈ tb := tb_of (in_t0 _ (List.mem_of_getElem? (i := 11) rfl)) rfl
theorem cv_X4_87 : CV RX4 87 yX4_readEither cX4_readEither 7 (some .int) 1 4 := ⟨⟨mc_X4_readEither, mi_X4, mp_X4_readEither, Or.inl (tb_of (in_t3 _ (List.mem_of_getElem? (i := 26) rfl)) rfl)⟩, mn_X4_readEither, sl_X4_readEither, by decide, TX4, 10, rfl⟩
theorem k_bipush_41 : (Int8.ofInt (41)).toInt32 = (41 : Int32) := by decide
theorem mc_X4_readPart : Cond.code yX4_readPart cX4_readPart 5 (some .int) ∈ tb := tb_of (in_t3 _ (List.mem_of_getElem? (i := 33) rfl)) rfl
theorem mp_X4_readPart : yX4_readPart.cls ≠ "java/lang/invoke/MethodHandle" ∧ yX4_readPart.cls ≠ "java/lang/invoke/VarHandle" ∧ (parseMethodDescriptor yX4_readPart.desc).map (fun d => d.parameters.length) = some 1 := ⟨by decide +kernel, by decide +kernel, by decide +kernel⟩
theorem mn_X4_readPart : Cond.instanceMethod yX4_readPart ∈ tb := tb_of (in_t3 _ (List.mem_of_getElem? (i := 32) rfl)) rfl
theorem sl_X4_readPart : Cond.selects yX4_readPart.cls yX4_readPart yX4_readPart ∈ tb := tb_of (in_t0 _ (List.mem_of_getElem? (i := 12) rfl)) rfl
theorem cv_X4_117 : CV RX4 117 yX4_readPart cX4_readPart 5 (some .int) 1 4 := ⟨⟨mc_X4_readPart, mi_X4, mp_X4_readPart, Or.inl (tb_of (in_t3 _ (List.mem_of_getElem? (i := 30) rfl)) rfl)⟩, mn_X4_readPart, sl_X4_readPart, by decide, TX4, 10, rfl⟩
theorem k_bipush_124 : (Int8.ofInt (124)).toInt32 = (124 : Int32) := by decide
theorem k_bipush_38 : (Int8.ofInt (38)).toInt32 = (38 : Int32) := by decide
theorem fa_X4_44 : FA RX4 44 4 4 (.int) false := ⟨RX4, TX4, 10, rfl, by decide, rfl, by decide, rfl, rfl, tyX4_ok, nmX4, inX4, Or.inl ⟨tb_of (in_t1 _ (List.mem_of_getElem? (i := 39) rfl)) rfl, rfl⟩⟩
theorem fa_X4_96 : FA RX4 96 9 2 (.int) false := ⟨RX9, TX9, 9, rfl, by decide, rfl, by decide, rfl, rfl, tyX9_ok, nmX9, inX9, Or.inr ⟨"SlowWells", (in_t2 _ (List.mem_of_getElem? (i := 20) rfl))⟩⟩
theorem mc_X4_keepDrink : Cond.code yX4_keepDrink cX4_keepDrink 3 none ∈ tb := tb_of (in_t3 _ (List.mem_of_getElem? (i := 51) rfl)) rfl
theorem mp_X4_keepDrink : yX4_keepDrink.cls ≠ "java/lang/invoke/MethodHandle" ∧ yX4_keepDrink.cls ≠ "java/lang/invoke/VarHandle" ∧ (parseMethodDescriptor yX4_keepDrink.desc).map (fun d => d.parameters.length) = some 2 := ⟨by decide +kernel, by decide +kernel, by decide +kernel⟩
theorem mn_X4_keepDrink : Cond.instanceMethod yX4_keepDrink ∈ tb := tb_of (in_t3 _ (List.mem_of_getElem? (i := 50) rfl)) rfl
theorem sl_X4_keepDrink : Cond.selects yX4_keepDrink.cls yX4_keepDrink yX4_keepDrink ∈ tb := tb_of (in_t0 _ (List.mem_of_getElem? (i := 14) rfl)) rfl
theorem cv_X4_90 : CV RX4 90 yX4_keepDrink cX4_keepDrink 3 none 2 4 := ⟨⟨mc_X4_keepDrink, mi_X4, mp_X4_keepDrink, Or.inl (tb_of (in_t3 _ (List.mem_of_getElem? (i := 48) rfl)) rfl)⟩, mn_X4_keepDrink, sl_X4_keepDrink, by decide, TX4, 10, rfl⟩
theorem fa_X4_100 : FA RX4 100 9 3 (.int) false := ⟨RX9, TX9, 9, rfl, by decide, rfl, by decide, rfl, rfl, tyX9_ok, nmX9, inX9, Or.inr ⟨"SlowWells", (in_t2 _ (List.mem_of_getElem? (i := 22) rfl))⟩⟩
theorem fa_X4_104 : FA RX4 104 9 4 (.int) false := ⟨RX9, TX9, 9, rfl, by decide, rfl, by decide, rfl, rfl, tyX9_ok, nmX9, inX9, Or.inr ⟨"SlowWells", (in_t2 _ (List.mem_of_getElem? (i := 27) rfl))⟩⟩
theorem mc_X4_readWellOrWay : Cond.code yX4_readWellOrWay cX4_readWellOrWay 3 none ∈ tb := tb_of (in_t2 _ (List.mem_of_getElem? (i := 191) rfl)) rfl
theorem mp_X4_readWellOrWay : yX4_readWellOrWay.cls ≠ "java/lang/invoke/MethodHandle" ∧ yX4_readWellOrWay.cls ≠ "java/lang/invoke/VarHandle" ∧ (parseMethodDescriptor yX4_readWellOrWay.desc).map (fun d => d.parameters.length) = some 1 := ⟨by decide +kernel, by decide +kernel, by decide +kernel⟩
theorem mn_X4_readWellOrWay : Cond.instanceMethod yX4_readWellOrWay ∈ tb := tb_of (in_t2 _ (List.mem_of_getElem? (i := 190) rfl)) rfl
theorem sl_X4_readWellOrWay : Cond.selects yX4_readWellOrWay.cls yX4_readWellOrWay yX4_readWellOrWay ∈ tb := tb_of (in_t0 _ (List.mem_of_getElem? (i := 5) rfl)) rfl
theorem cv_X4_74 : CV RX4 74 yX4_readWellOrWay cX4_readWellOrWay 3 none 1 4 := ⟨⟨mc_X4_readWellOrWay, mi_X4, mp_X4_readWellOrWay, Or.inl (tb_of (in_t2 _ (List.mem_of_getElem? (i := 188) rfl)) rfl)⟩, mn_X4_readWellOrWay, sl_X4_readWellOrWay, by decide, TX4, 10, rfl⟩
theorem k_sipush_1782 : (Int16.ofInt (1782)).toInt32 = (1782 : Int32) := by decide
theorem fa_X4_140 : FA RX4 140 9 8 (.array .int) false := ⟨RX9, TX9, 9, rfl, by decide, rfl, by decide, rfl, rfl, tyX9_ok, nmX9, inX9, Or.inr ⟨"SlowWells", (in_t2 _ (List.mem_of_getElem? (i := 39) rfl))⟩⟩
theorem cs_X4_137 : CS RX4 137 yX9_sumsOf cX9_sumsOf 2 (some .int) 2 := ⟨⟨mc_X9_sumsOf, mi_X9, mp_X9_sumsOf, Or.inr ⟨"SlowWells", (in_t3 _ (List.mem_of_getElem? (i := 63) rfl))⟩⟩, ms_X9_sumsOf⟩
theorem mc_X4_sumUp : Cond.code yX4_sumUp cX4_sumUp 8 none ∈ tb := tb_of (in_t3 _ (List.mem_of_getElem? (i := 62) rfl)) rfl
theorem mp_X4_sumUp : yX4_sumUp.cls ≠ "java/lang/invoke/MethodHandle" ∧ yX4_sumUp.cls ≠ "java/lang/invoke/VarHandle" ∧ (parseMethodDescriptor yX4_sumUp.desc).map (fun d => d.parameters.length) = some 3 := ⟨by decide +kernel, by decide +kernel, by decide +kernel⟩
theorem mn_X4_sumUp : Cond.instanceMethod yX4_sumUp ∈ tb := tb_of (in_t3 _ (List.mem_of_getElem? (i := 61) rfl)) rfl
theorem sl_X4_sumUp : Cond.selects yX4_sumUp.cls yX4_sumUp yX4_sumUp ∈ tb := tb_of (in_t0 _ (List.mem_of_getElem? (i := 16) rfl)) rfl
theorem cv_X4_58 : CV RX4 58 yX4_sumUp cX4_sumUp 8 none 3 4 := ⟨⟨mc_X4_sumUp, mi_X4, mp_X4_sumUp, Or.inl (tb_of (in_t3 _ (List.mem_of_getElem? (i := 59) rfl)) rfl)⟩, mn_X4_sumUp, sl_X4_sumUp, by decide, TX4, 10, rfl⟩
theorem mc_X9_makeSums : Cond.code yX9_makeSums cX9_makeSums 1 none ∈ tb := tb_of (in_t3 _ (List.mem_of_getElem? (i := 58) rfl)) rfl
theorem mp_X9_makeSums : yX9_makeSums.cls ≠ "java/lang/invoke/MethodHandle" ∧ yX9_makeSums.cls ≠ "java/lang/invoke/VarHandle" ∧ (parseMethodDescriptor yX9_makeSums.desc).map (fun d => d.parameters.length) = some 0 := ⟨by decide +kernel, by decide +kernel, by decide +kernel⟩
theorem mn_X9_makeSums : Cond.instanceMethod yX9_makeSums ∈ tb := tb_of (in_t3 _ (List.mem_of_getElem? (i := 57) rfl)) rfl
theorem sl_X9_makeSums : Cond.selects yX9_makeSums.cls yX9_makeSums yX9_makeSums ∈ tb := tb_of (in_t0 _ (List.mem_of_getElem? (i := 15) rfl)) rfl
theorem cv_X4_55 : CV RX4 55 yX9_makeSums cX9_makeSums 1 none 0 9 := ⟨⟨mc_X9_makeSums, mi_X9, mp_X9_makeSums, Or.inr ⟨"SlowWells", (in_t3 _ (List.mem_of_getElem? (i := 55) rfl))⟩⟩, mn_X9_makeSums, sl_X9_makeSums, by decide, TX9, 9, rfl⟩
theorem k_bipush_59 : (Int8.ofInt (59)).toInt32 = (59 : Int32) := by decide
theorem mc_X4_readClause : Cond.code yX4_readClause cX4_readClause 4 none ∈ tb := tb_of (in_t2 _ (List.mem_of_getElem? (i := 183) rfl)) rfl
theorem mp_X4_readClause : yX4_readClause.cls ≠ "java/lang/invoke/MethodHandle" ∧ yX4_readClause.cls ≠ "java/lang/invoke/VarHandle" ∧ (parseMethodDescriptor yX4_readClause.desc).map (fun d => d.parameters.length) = some 1 := ⟨by decide +kernel, by decide +kernel, by decide +kernel⟩
theorem mn_X4_readClause : Cond.instanceMethod yX4_readClause ∈ tb := tb_of (in_t2 _ (List.mem_of_getElem? (i := 182) rfl)) rfl
theorem sl_X4_readClause : Cond.selects yX4_readClause.cls yX4_readClause yX4_readClause ∈ tb := tb_of (in_t0 _ (List.mem_of_getElem? (i := 3) rfl)) rfl
theorem cv_X4_47 : CV RX4 47 yX4_readClause cX4_readClause 4 none 1 4 := ⟨⟨mc_X4_readClause, mi_X4, mp_X4_readClause, Or.inl (tb_of (in_t2 _ (List.mem_of_getElem? (i := 180) rfl)) rfl)⟩, mn_X4_readClause, sl_X4_readClause, by decide, TX4, 10, rfl⟩
theorem mc_X9_clear : Cond.code yX9_clear cX9_clear 2 none ∈ tb := tb_of (in_t2 _ (List.mem_of_getElem? (i := 179) rfl)) rfl
theorem mp_X9_clear : yX9_clear.cls ≠ "java/lang/invoke/MethodHandle" ∧ yX9_clear.cls ≠ "java/lang/invoke/VarHandle" ∧ (parseMethodDescriptor yX9_clear.desc).map (fun d => d.parameters.length) = some 0 := ⟨by decide +kernel, by decide +kernel, by decide +kernel⟩
theorem mn_X9_clear : Cond.instanceMethod yX9_clear ∈ tb := tb_of (in_t2 _ (List.mem_of_getElem? (i := 178) rfl)) rfl
theorem sl_X9_clear : Cond.selects yX9_clear.cls yX9_clear yX9_clear ∈ tb := tb_of (in_t0 _ (List.mem_of_getElem? (i := 2) rfl)) rfl
theorem cv_X4_32 : CV RX4 32 yX9_clear cX9_clear 2 none 0 9 := ⟨⟨mc_X9_clear, mi_X9, mp_X9_clear, Or.inr ⟨"SlowWells", (in_t2 _ (List.mem_of_getElem? (i := 176) rfl))⟩⟩, mn_X9_clear, sl_X9_clear, by decide, TX9, 9, rfl⟩
theorem oi_X5 : Cond.methodLink RX5 3 Lib.objectInit ∈ tb := tb_of (in_t3 _ (List.mem_of_getElem? (i := 114) rfl)) rfl
theorem fa_X5_9 : FA RX5 9 5 3 (.array .int) true := ⟨RX5, TX5, 5, rfl, by decide, rfl, by decide, rfl, rfl, tyX5_ok, nmX5, inX5, Or.inl ⟨tb_of (in_t3 _ (List.mem_of_getElem? (i := 122) rfl)) rfl, rfl⟩⟩
theorem fa_X5_15 : FA RX5 15 5 0 (.int) true := ⟨RX5, TX5, 5, rfl, by decide, rfl, by decide, rfl, rfl, tyX5_ok, nmX5, inX5, Or.inl ⟨tb_of (in_t3 _ (List.mem_of_getElem? (i := 115) rfl)) rfl, rfl⟩⟩
theorem fa_X5_19 : FA RX5 19 5 1 (.int) true := ⟨RX5, TX5, 5, rfl, by decide, rfl, by decide, rfl, rfl, tyX5_ok, nmX5, inX5, Or.inl ⟨tb_of (in_t3 _ (List.mem_of_getElem? (i := 118) rfl)) rfl, rfl⟩⟩
theorem fa_X5_22 : FA RX5 22 5 2 (.int) true := ⟨RX5, TX5, 5, rfl, by decide, rfl, by decide, rfl, rfl, tyX5_ok, nmX5, inX5, Or.inl ⟨tb_of (in_t3 _ (List.mem_of_getElem? (i := 120) rfl)) rfl, rfl⟩⟩
theorem fo_X5_22 : FO RX5 22 5 2 := ⟨RX5, TX5, 5, rfl, tb_of (in_t3 _ (List.mem_of_getElem? (i := 120) rfl)) rfl, rfl⟩
theorem fo_X5_19 : FO RX5 19 5 1 := ⟨RX5, TX5, 5, rfl, tb_of (in_t3 _ (List.mem_of_getElem? (i := 118) rfl)) rfl, rfl⟩
theorem fo_X5_15 : FO RX5 15 5 0 := ⟨RX5, TX5, 5, rfl, tb_of (in_t3 _ (List.mem_of_getElem? (i := 115) rfl)) rfl, rfl⟩
theorem fo_X5_9 : FO RX5 9 5 3 := ⟨RX5, TX5, 5, rfl, tb_of (in_t3 _ (List.mem_of_getElem? (i := 122) rfl)) rfl, rfl⟩
theorem pn_X5 : plainName RX5 = true := by decide +kernel
theorem cv_X5_39 : CV RX5 39 yX10_heldAt cX10_heldAt 4 (some .int) 2 10 := ⟨⟨mc_X10_heldAt, mi_X10, mp_X10_heldAt, Or.inr ⟨"SlowWells", (in_t4 _ (List.mem_of_getElem? (i := 8) rfl))⟩⟩, mn_X10_heldAt, sl_X10_heldAt, by decide, TX10, 4, rfl⟩
theorem mx_X5_29 : Cond.methodLink RX5 29 Lib.Math.min.name ∈ tb ∧ Cond.static Lib.Math.min.name ∈ tb ∧ Cond.initialized "java/lang/Math" ∈ tb ∧ Cond.code Lib.Math.min.name Lib.Math.min.code 2 (some .int) ∈ tb := ⟨tb_of (in_t4 _ (List.mem_of_getElem? (i := 9) rfl)) rfl, tb_of (in_t3 _ (List.mem_of_getElem? (i := 104) rfl)) rfl, tb_of (in_t1 _ (List.mem_of_getElem? (i := 17) rfl)) rfl, tb_of (in_t3 _ (List.mem_of_getElem? (i := 105) rfl)) rfl⟩
theorem mc_X5_waitFor : Cond.code yX5_waitFor cX5_waitFor 6 (some .int) ∈ tb := tb_of (in_t4 _ (List.mem_of_getElem? (i := 7) rfl)) rfl
theorem mi_X5 : Cond.initialized RX5 ∈ tb := tb_of (in_t1 _ (List.mem_of_getElem? (i := 18) rfl)) rfl
theorem mp_X5_waitFor : yX5_waitFor.cls ≠ "java/lang/invoke/MethodHandle" ∧ yX5_waitFor.cls ≠ "java/lang/invoke/VarHandle" ∧ (parseMethodDescriptor yX5_waitFor.desc).map (fun d => d.parameters.length) = some 4 := ⟨by decide +kernel, by decide +kernel, by decide +kernel⟩
theorem mn_X5_waitFor : Cond.instanceMethod yX5_waitFor ∈ tb := tb_of (in_t4 _ (List.mem_of_getElem? (i := 6) rfl)) rfl
theorem sl_X5_waitFor : Cond.selects yX5_waitFor.cls yX5_waitFor yX5_waitFor ∈ tb := tb_of (in_t0 _ (List.mem_of_getElem? (i := 43) rfl)) rfl
theorem cv_X5_25 : CV RX5 25 yX5_waitFor cX5_waitFor 6 (some .int) 4 5 := ⟨⟨mc_X5_waitFor, mi_X5, mp_X5_waitFor, Or.inl (tb_of (in_t4 _ (List.mem_of_getElem? (i := 4) rfl)) rfl)⟩, mn_X5_waitFor, sl_X5_waitFor, by decide, TX5, 5, rfl⟩
theorem mc_X5_tillNoon : Cond.code yX5_tillNoon cX5_tillNoon 3 (some .int) ∈ tb := tb_of (in_t4 _ (List.mem_of_getElem? (i := 13) rfl)) rfl
theorem mp_X5_tillNoon : yX5_tillNoon.cls ≠ "java/lang/invoke/MethodHandle" ∧ yX5_tillNoon.cls ≠ "java/lang/invoke/VarHandle" ∧ (parseMethodDescriptor yX5_tillNoon.desc).map (fun d => d.parameters.length) = some 1 := ⟨by decide +kernel, by decide +kernel, by decide +kernel⟩
theorem mn_X5_tillNoon : Cond.instanceMethod yX5_tillNoon ∈ tb := tb_of (in_t4 _ (List.mem_of_getElem? (i := 12) rfl)) rfl
theorem sl_X5_tillNoon : Cond.selects yX5_tillNoon.cls yX5_tillNoon yX5_tillNoon ∈ tb := tb_of (in_t0 _ (List.mem_of_getElem? (i := 44) rfl)) rfl
theorem cv_X5_35 : CV RX5 35 yX5_tillNoon cX5_tillNoon 3 (some .int) 1 5 := ⟨⟨mc_X5_tillNoon, mi_X5, mp_X5_tillNoon, Or.inl (tb_of (in_t4 _ (List.mem_of_getElem? (i := 10) rfl)) rfl)⟩, mn_X5_tillNoon, sl_X5_tillNoon, by decide, TX5, 5, rfl⟩
theorem oi_X10 : Cond.methodLink RX10 3 Lib.objectInit ∈ tb := tb_of (in_t1 _ (List.mem_of_getElem? (i := 83) rfl)) rfl
theorem fo_X10_21 : FO RX10 21 10 3 := ⟨RX10, TX10, 4, rfl, tb_of (in_t1 _ (List.mem_of_getElem? (i := 87) rfl)) rfl, rfl⟩
theorem fo_X10_18 : FO RX10 18 10 2 := ⟨RX10, TX10, 4, rfl, tb_of (in_t1 _ (List.mem_of_getElem? (i := 86) rfl)) rfl, rfl⟩
theorem fo_X10_15 : FO RX10 15 10 1 := ⟨RX10, TX10, 4, rfl, tb_of (in_t1 _ (List.mem_of_getElem? (i := 85) rfl)) rfl, rfl⟩
theorem fo_X10_9 : FO RX10 9 10 0 := ⟨RX10, TX10, 4, rfl, tb_of (in_t1 _ (List.mem_of_getElem? (i := 84) rfl)) rfl, rfl⟩
theorem oi_X6 : Cond.methodLink RX6 3 Lib.objectInit ∈ tb := tb_of (in_t1 _ (List.mem_of_getElem? (i := 77) rfl)) rfl
theorem inX6 : ∀ w ∈ u_ws RX6 TX6 7, w ∈ tb := tb_all [237, 239, 241, 243, 245, 247, 249] (by decide +kernel) (by decide +kernel)
theorem fa_X6_9 : FA RX6 9 6 0 (.object "SlowWells$Waste") false := ⟨RX6, TX6, 7, rfl, by decide, rfl, by decide, rfl, rfl, tyX6_ok, nmX6, inX6, Or.inl ⟨tb_of (in_t1 _ (List.mem_of_getElem? (i := 99) rfl)) rfl, rfl⟩⟩
theorem nc_X6_15 : NC RX6 15 10 4 := ⟨RX10, TX10, rfl, rfl, by decide, tyX10_ok, fun j hj => by rcases (show j = 0 ∨ j = 1 ∨ j = 2 ∨ j = 3 by omega) with rfl | rfl | rfl | rfl <;> rfl, inX10, tb_of (in_t1 _ (List.mem_of_getElem? (i := 78) rfl)) rfl, tb_of (in_t1 _ (List.mem_of_getElem? (i := 79) rfl)) rfl, tb_of (in_t1 _ (List.mem_of_getElem? (i := 4) rfl)) rfl⟩
theorem mc_X10_init : Cond.code yX10_init cX10_init 1 none ∈ tb := tb_of (in_t1 _ (List.mem_of_getElem? (i := 82) rfl)) rfl
theorem mp_X10_init : yX10_init.cls ≠ "java/lang/invoke/MethodHandle" ∧ yX10_init.cls ≠ "java/lang/invoke/VarHandle" ∧ (parseMethodDescriptor yX10_init.desc).map (fun d => d.parameters.length) = some 0 := ⟨by decide +kernel, by decide +kernel, by decide +kernel⟩
theorem mn_X10_init : Cond.instanceMethod yX10_init ∈ tb := tb_of (in_t1 _ (List.mem_of_getElem? (i := 81) rfl)) rfl
theorem ci_X6_17 : CI RX6 17 yX10_init cX10_init 1 0 := ⟨⟨mc_X10_init, mi_X10, mp_X10_init, Or.inr ⟨"SlowWells", (in_t1 _ (List.mem_of_getElem? (i := 80) rfl))⟩⟩, mn_X10_init, rfl⟩
theorem fa_X6_18 : FA RX6 18 6 1 (.object "SlowWells$Wells") true := ⟨RX6, TX6, 7, rfl, by decide, rfl, by decide, rfl, rfl, tyX6_ok, nmX6, inX6, Or.inl ⟨tb_of (in_t1 _ (List.mem_of_getElem? (i := 101) rfl)) rfl, rfl⟩⟩
theorem fa_X6_22 : FA RX6 22 6 2 (.array .int) true := ⟨RX6, TX6, 7, rfl, by decide, rfl, by decide, rfl, rfl, tyX6_ok, nmX6, inX6, Or.inl ⟨tb_of (in_t1 _ (List.mem_of_getElem? (i := 103) rfl)) rfl, rfl⟩⟩
theorem fa_X6_26 : FA RX6 26 6 3 (.array .int) true := ⟨RX6, TX6, 7, rfl, by decide, rfl, by decide, rfl, rfl, tyX6_ok, nmX6, inX6, Or.inl ⟨tb_of (in_t1 _ (List.mem_of_getElem? (i := 105) rfl)) rfl, rfl⟩⟩
theorem fa_X6_29 : FA RX6 29 6 5 (.array .int) true := ⟨RX6, TX6, 7, rfl, by decide, rfl, by decide, rfl, rfl, tyX6_ok, nmX6, inX6, Or.inl ⟨tb_of (in_t1 _ (List.mem_of_getElem? (i := 109) rfl)) rfl, rfl⟩⟩
theorem fo_X6_29 : FO RX6 29 6 5 := ⟨RX6, TX6, 7, rfl, tb_of (in_t1 _ (List.mem_of_getElem? (i := 109) rfl)) rfl, rfl⟩
theorem fo_X6_26 : FO RX6 26 6 3 := ⟨RX6, TX6, 7, rfl, tb_of (in_t1 _ (List.mem_of_getElem? (i := 105) rfl)) rfl, rfl⟩
theorem fo_X6_22 : FO RX6 22 6 2 := ⟨RX6, TX6, 7, rfl, tb_of (in_t1 _ (List.mem_of_getElem? (i := 103) rfl)) rfl, rfl⟩
theorem fo_X6_18 : FO RX6 18 6 1 := ⟨RX6, TX6, 7, rfl, tb_of (in_t1 _ (List.mem_of_getElem? (i := 101) rfl)) rfl, rfl⟩
theorem pn_X6 : plainName RX6 = true := by decide +kernel
theorem mc_X10_become : Cond.code yX10_become cX10_become 3 none ∈ tb := tb_of (in_t3 _ (List.mem_of_getElem? (i := 166) rfl)) rfl
theorem mp_X10_become : yX10_become.cls ≠ "java/lang/invoke/MethodHandle" ∧ yX10_become.cls ≠ "java/lang/invoke/VarHandle" ∧ (parseMethodDescriptor yX10_become.desc).map (fun d => d.parameters.length) = some 1 := ⟨by decide +kernel, by decide +kernel, by decide +kernel⟩
theorem mn_X10_become : Cond.instanceMethod yX10_become ∈ tb := tb_of (in_t3 _ (List.mem_of_getElem? (i := 165) rfl)) rfl
theorem sl_X10_become : Cond.selects yX10_become.cls yX10_become yX10_become ∈ tb := tb_of (in_t0 _ (List.mem_of_getElem? (i := 24) rfl)) rfl
theorem cv_X6_32 : CV RX6 32 yX10_become cX10_become 3 none 1 10 := ⟨⟨mc_X10_become, mi_X10, mp_X10_become, Or.inr ⟨"SlowWells", (in_t4 _ (List.mem_of_getElem? (i := 147) rfl))⟩⟩, mn_X10_become, sl_X10_become, by decide, TX10, 4, rfl⟩
theorem fa_X6_36 : FA RX6 36 6 4 (.int) false := ⟨RX6, TX6, 7, rfl, by decide, rfl, by decide, rfl, rfl, tyX6_ok, nmX6, inX6, Or.inl ⟨tb_of (in_t1 _ (List.mem_of_getElem? (i := 107) rfl)) rfl, rfl⟩⟩
theorem fa_X6_40 : FA RX6 40 6 6 (.int) false := ⟨RX6, TX6, 7, rfl, by decide, rfl, by decide, rfl, rfl, tyX6_ok, nmX6, inX6, Or.inl ⟨tb_of (in_t1 _ (List.mem_of_getElem? (i := 111) rfl)) rfl, rfl⟩⟩
theorem oi_X7 : Cond.methodLink RX7 3 Lib.objectInit ∈ tb := tb_of (in_t2 _ (List.mem_of_getElem? (i := 85) rfl)) rfl
theorem inX7 : ∀ w ∈ u_ws RX7 TX7 3, w ∈ tb := tb_all [455, 457, 459] (by decide +kernel) (by decide +kernel)
theorem fa_X7_11 : FA RX7 11 7 0 (.int) false := ⟨RX7, TX7, 3, rfl, by decide, rfl, by decide, rfl, rfl, tyX7_ok, nmX7, inX7, Or.inl ⟨tb_of (in_t2 _ (List.mem_of_getElem? (i := 86) rfl)) rfl, rfl⟩⟩
theorem ac_long : Cond.arrayClass .long ∈ tb := tb_of (in_t2 _ (List.mem_of_getElem? (i := 98) rfl)) rfl
theorem fa_X7_15 : FA RX7 15 7 2 (.array .long) true := ⟨RX7, TX7, 3, rfl, by decide, rfl, by decide, rfl, rfl, tyX7_ok, nmX7, inX7, Or.inl ⟨tb_of (in_t2 _ (List.mem_of_getElem? (i := 89) rfl)) rfl, rfl⟩⟩
theorem fo_X7_15 : FO RX7 15 7 2 := ⟨RX7, TX7, 3, rfl, tb_of (in_t2 _ (List.mem_of_getElem? (i := 89) rfl)) rfl, rfl⟩
theorem pn_X7 : plainName RX7 = true := by decide +kernel
theorem fa_X7_19 : FA RX7 19 7 1 (.int) false := ⟨RX7, TX7, 3, rfl, by decide, rfl, by decide, rfl, rfl, tyX7_ok, nmX7, inX7, Or.inl ⟨tb_of (in_t2 _ (List.mem_of_getElem? (i := 88) rfl)) rfl, rfl⟩⟩
theorem oi_X8 : Cond.methodLink RX8 3 Lib.objectInit ∈ tb := tb_of (in_t1 _ (List.mem_of_getElem? (i := 150) rfl)) rfl
theorem inX8 : ∀ w ∈ u_ws RX8 TX8 8, w ∈ tb := tb_all [287, 289, 291, 293, 295, 297, 299, 301] (by decide +kernel) (by decide +kernel)
theorem fa_X8_9 : FA RX8 9 8 2 (.array .int) true := ⟨RX8, TX8, 8, rfl, by decide, rfl, by decide, rfl, rfl, tyX8_ok, nmX8, inX8, Or.inl ⟨tb_of (in_t1 _ (List.mem_of_getElem? (i := 155) rfl)) rfl, rfl⟩⟩
theorem fa_X8_15 : FA RX8 15 8 3 (.array .int) true := ⟨RX8, TX8, 8, rfl, by decide, rfl, by decide, rfl, rfl, tyX8_ok, nmX8, inX8, Or.inl ⟨tb_of (in_t1 _ (List.mem_of_getElem? (i := 157) rfl)) rfl, rfl⟩⟩
theorem fo_X8_15 : FO RX8 15 8 3 := ⟨RX8, TX8, 8, rfl, tb_of (in_t1 _ (List.mem_of_getElem? (i := 157) rfl)) rfl, rfl⟩
theorem fo_X8_9 : FO RX8 9 8 2 := ⟨RX8, TX8, 8, rfl, tb_of (in_t1 _ (List.mem_of_getElem? (i := 155) rfl)) rfl, rfl⟩
theorem pn_X8 : plainName RX8 = true := by decide +kernel
theorem fa_X8_54 : FA RX8 54 1 1 (.int) false := ⟨RX1, TX1, 3, rfl, by decide, rfl, by decide, rfl, rfl, tyX1_ok, nmX1, inX1, Or.inr ⟨"SlowWells", (in_t2 _ (List.mem_of_getElem? (i := 70) rfl))⟩⟩
theorem fa_X8_48 : FA RX8 48 8 4 (.int) false := ⟨RX8, TX8, 8, rfl, by decide, rfl, by decide, rfl, rfl, tyX8_ok, nmX8, inX8, Or.inl ⟨tb_of (in_t1 _ (List.mem_of_getElem? (i := 159) rfl)) rfl, rfl⟩⟩
theorem fa_X8_57 : FA RX8 57 9 2 (.int) false := ⟨RX9, TX9, 9, rfl, by decide, rfl, by decide, rfl, rfl, tyX9_ok, nmX9, inX9, Or.inr ⟨"SlowWells", (in_t2 _ (List.mem_of_getElem? (i := 19) rfl))⟩⟩
theorem fa_X8_31 : FA RX8 31 1 0 (.int) false := ⟨RX1, TX1, 3, rfl, by decide, rfl, by decide, rfl, rfl, tyX1_ok, nmX1, inX1, Or.inr ⟨"SlowWells", (in_t2 _ (List.mem_of_getElem? (i := 66) rfl))⟩⟩
theorem fa_X8_60 : FA RX8 60 8 6 (.int) false := ⟨RX8, TX8, 8, rfl, by decide, rfl, by decide, rfl, rfl, tyX8_ok, nmX8, inX8, Or.inl ⟨tb_of (in_t1 _ (List.mem_of_getElem? (i := 161) rfl)) rfl, rfl⟩⟩
theorem fa_X8_63 : FA RX8 63 9 4 (.int) false := ⟨RX9, TX9, 9, rfl, by decide, rfl, by decide, rfl, rfl, tyX9_ok, nmX9, inX9, Or.inr ⟨"SlowWells", (in_t2 _ (List.mem_of_getElem? (i := 26) rfl))⟩⟩
theorem fa_X8_66 : FA RX8 66 8 7 (.int) false := ⟨RX8, TX8, 8, rfl, by decide, rfl, by decide, rfl, rfl, tyX8_ok, nmX8, inX8, Or.inl ⟨tb_of (in_t1 _ (List.mem_of_getElem? (i := 162) rfl)) rfl, rfl⟩⟩
theorem fa_X8_69 : FA RX8 69 8 5 (.int) false := ⟨RX8, TX8, 8, rfl, by decide, rfl, by decide, rfl, rfl, tyX8_ok, nmX8, inX8, Or.inl ⟨tb_of (in_t1 _ (List.mem_of_getElem? (i := 160) rfl)) rfl, rfl⟩⟩
theorem fa_X8_51 : FA RX8 51 8 0 (.int) false := ⟨RX8, TX8, 8, rfl, by decide, rfl, by decide, rfl, rfl, tyX8_ok, nmX8, inX8, Or.inl ⟨tb_of (in_t1 _ (List.mem_of_getElem? (i := 151) rfl)) rfl, rfl⟩⟩
theorem fa_X8_28 : FA RX8 28 8 1 (.int) false := ⟨RX8, TX8, 8, rfl, by decide, rfl, by decide, rfl, rfl, tyX8_ok, nmX8, inX8, Or.inl ⟨tb_of (in_t1 _ (List.mem_of_getElem? (i := 153) rfl)) rfl, rfl⟩⟩
theorem cv_X8_72 : CV RX8 72 yX9_drunkAlong cX9_drunkAlong 6 (some .int) 3 9 := ⟨⟨mc_X9_drunkAlong, mi_X9, mp_X9_drunkAlong, Or.inr ⟨"SlowWells", (in_t3 _ (List.mem_of_getElem? (i := 231) rfl))⟩⟩, mn_X9_drunkAlong, sl_X9_drunkAlong, by decide, TX9, 9, rfl⟩
theorem fa_X8_76 : FA RX8 76 9 7 (.array .int) true := ⟨RX9, TX9, 9, rfl, by decide, rfl, by decide, rfl, rfl, tyX9_ok, nmX9, inX9, Or.inr ⟨"SlowWells", (in_t2 _ (List.mem_of_getElem? (i := 36) rfl))⟩⟩
theorem cv_X10_28 : CV RX10 28 yX10_heldAt cX10_heldAt 4 (some .int) 2 10 := ⟨⟨mc_X10_heldAt, mi_X10, mp_X10_heldAt, Or.inl (tb_of (in_t4 _ (List.mem_of_getElem? (i := 18) rfl)) rfl)⟩, mn_X10_heldAt, sl_X10_heldAt, by decide, TX10, 4, rfl⟩
theorem mx_X10_32 : Cond.methodLink RX10 32 Lib.Math.min.name ∈ tb ∧ Cond.static Lib.Math.min.name ∈ tb ∧ Cond.initialized "java/lang/Math" ∈ tb ∧ Cond.code Lib.Math.min.name Lib.Math.min.code 2 (some .int) ∈ tb := ⟨tb_of (in_t4 _ (List.mem_of_getElem? (i := 19) rfl)) rfl, tb_of (in_t3 _ (List.mem_of_getElem? (i := 104) rfl)) rfl, tb_of (in_t1 _ (List.mem_of_getElem? (i := 17) rfl)) rfl, tb_of (in_t3 _ (List.mem_of_getElem? (i := 105) rfl)) rfl⟩
theorem mc_X8_linger : Cond.code yX8_linger cX8_linger 2 (some .boolean) ∈ tb := tb_of (in_t3 _ (List.mem_of_getElem? (i := 239) rfl)) rfl
theorem mi_X8 : Cond.initialized RX8 ∈ tb := tb_of (in_t1 _ (List.mem_of_getElem? (i := 6) rfl)) rfl
theorem mp_X8_linger : yX8_linger.cls ≠ "java/lang/invoke/MethodHandle" ∧ yX8_linger.cls ≠ "java/lang/invoke/VarHandle" ∧ (parseMethodDescriptor yX8_linger.desc).map (fun d => d.parameters.length) = some 1 := ⟨by decide +kernel, by decide +kernel, by decide +kernel⟩
theorem mn_X8_linger : Cond.instanceMethod yX8_linger ∈ tb := tb_of (in_t3 _ (List.mem_of_getElem? (i := 238) rfl)) rfl
theorem sl_X8_linger : Cond.selects yX8_linger.cls yX8_linger yX8_linger ∈ tb := tb_of (in_t0 _ (List.mem_of_getElem? (i := 41) rfl)) rfl
theorem cv_X8_84 : CV RX8 84 yX8_linger cX8_linger 2 (some .boolean) 1 8 := ⟨⟨mc_X8_linger, mi_X8, mp_X8_linger, Or.inl (tb_of (in_t3 _ (List.mem_of_getElem? (i := 236) rfl)) rfl)⟩, mn_X8_linger, sl_X8_linger, by decide, TX8, 8, rfl⟩
theorem mc_X10_draw : Cond.code yX10_draw cX10_draw 6 (some .int) ∈ tb := tb_of (in_t4 _ (List.mem_of_getElem? (i := 17) rfl)) rfl
theorem mp_X10_draw : yX10_draw.cls ≠ "java/lang/invoke/MethodHandle" ∧ yX10_draw.cls ≠ "java/lang/invoke/VarHandle" ∧ (parseMethodDescriptor yX10_draw.desc).map (fun d => d.parameters.length) = some 3 := ⟨by decide +kernel, by decide +kernel, by decide +kernel⟩
theorem mn_X10_draw : Cond.instanceMethod yX10_draw ∈ tb := tb_of (in_t4 _ (List.mem_of_getElem? (i := 16) rfl)) rfl
theorem sl_X10_draw : Cond.selects yX10_draw.cls yX10_draw yX10_draw ∈ tb := tb_of (in_t0 _ (List.mem_of_getElem? (i := 45) rfl)) rfl
theorem cv_X8_94 : CV RX8 94 yX10_draw cX10_draw 6 (some .int) 3 10 := ⟨⟨mc_X10_draw, mi_X10, mp_X10_draw, Or.inr ⟨"SlowWells", (in_t4 _ (List.mem_of_getElem? (i := 14) rfl))⟩⟩, mn_X10_draw, sl_X10_draw, by decide, TX10, 4, rfl⟩
theorem fa_X8_79 : FA RX8 79 10 3 (.array .int) true := ⟨RX10, TX10, 4, rfl, by decide, rfl, by decide, rfl, rfl, tyX10_ok, nmX10, inX10, Or.inr ⟨"SlowWells", (in_t1 _ (List.mem_of_getElem? (i := 89) rfl))⟩⟩
theorem mc_X5_standAt : Cond.code yX5_standAt cX5_standAt 6 (some .int) ∈ tb := tb_of (in_t4 _ (List.mem_of_getElem? (i := 3) rfl)) rfl
theorem mp_X5_standAt : yX5_standAt.cls ≠ "java/lang/invoke/MethodHandle" ∧ yX5_standAt.cls ≠ "java/lang/invoke/VarHandle" ∧ (parseMethodDescriptor yX5_standAt.desc).map (fun d => d.parameters.length) = some 5 := ⟨by decide +kernel, by decide +kernel, by decide +kernel⟩
theorem mn_X5_standAt : Cond.instanceMethod yX5_standAt ∈ tb := tb_of (in_t4 _ (List.mem_of_getElem? (i := 2) rfl)) rfl
theorem sl_X5_standAt : Cond.selects yX5_standAt.cls yX5_standAt yX5_standAt ∈ tb := tb_of (in_t0 _ (List.mem_of_getElem? (i := 42) rfl)) rfl
theorem cv_X8_88 : CV RX8 88 yX5_standAt cX5_standAt 6 (some .int) 5 5 := ⟨⟨mc_X5_standAt, mi_X5, mp_X5_standAt, Or.inr ⟨"SlowWells", (in_t4 _ (List.mem_of_getElem? (i := 0) rfl))⟩⟩, mn_X5_standAt, sl_X5_standAt, by decide, TX5, 5, rfl⟩
theorem fa_X8_22 : FA RX8 22 9 0 (.int) false := ⟨RX9, TX9, 9, rfl, by decide, rfl, by decide, rfl, rfl, tyX9_ok, nmX9, inX9, Or.inr ⟨"SlowWells", (in_t2 _ (List.mem_of_getElem? (i := 13) rfl))⟩⟩
theorem mc_X8_walk : Cond.code yX8_walk cX8_walk 5 (some .boolean) ∈ tb := tb_of (in_t3 _ (List.mem_of_getElem? (i := 230) rfl)) rfl
theorem mp_X8_walk : yX8_walk.cls ≠ "java/lang/invoke/MethodHandle" ∧ yX8_walk.cls ≠ "java/lang/invoke/VarHandle" ∧ (parseMethodDescriptor yX8_walk.desc).map (fun d => d.parameters.length) = some 3 := ⟨by decide +kernel, by decide +kernel, by decide +kernel⟩
theorem mn_X8_walk : Cond.instanceMethod yX8_walk ∈ tb := tb_of (in_t3 _ (List.mem_of_getElem? (i := 229) rfl)) rfl
theorem sl_X8_walk : Cond.selects yX8_walk.cls yX8_walk yX8_walk ∈ tb := tb_of (in_t0 _ (List.mem_of_getElem? (i := 39) rfl)) rfl
theorem cv_X8_36 : CV RX8 36 yX8_walk cX8_walk 5 (some .boolean) 3 8 := ⟨⟨mc_X8_walk, mi_X8, mp_X8_walk, Or.inl (tb_of (in_t3 _ (List.mem_of_getElem? (i := 227) rfl)) rfl)⟩, mn_X8_walk, sl_X8_walk, by decide, TX8, 8, rfl⟩
theorem fa_X8_40 : FA RX8 40 1 2 (.object "SlowWells$Rule") false := ⟨RX1, TX1, 3, rfl, by decide, rfl, by decide, rfl, rfl, tyX1_ok, nmX1, inX1, Or.inr ⟨"SlowWells", (in_t2 _ (List.mem_of_getElem? (i := 72) rfl))⟩⟩
theorem mc_X8_visit : Cond.code yX8_visit cX8_visit 5 (some .boolean) ∈ tb := tb_of (in_t3 _ (List.mem_of_getElem? (i := 235) rfl)) rfl
theorem mp_X8_visit : yX8_visit.cls ≠ "java/lang/invoke/MethodHandle" ∧ yX8_visit.cls ≠ "java/lang/invoke/VarHandle" ∧ (parseMethodDescriptor yX8_visit.desc).map (fun d => d.parameters.length) = some 4 := ⟨by decide +kernel, by decide +kernel, by decide +kernel⟩
theorem mn_X8_visit : Cond.instanceMethod yX8_visit ∈ tb := tb_of (in_t3 _ (List.mem_of_getElem? (i := 234) rfl)) rfl
theorem sl_X8_visit : Cond.selects yX8_visit.cls yX8_visit yX8_visit ∈ tb := tb_of (in_t0 _ (List.mem_of_getElem? (i := 40) rfl)) rfl
theorem cv_X8_44 : CV RX8 44 yX8_visit cX8_visit 5 (some .boolean) 4 8 := ⟨⟨mc_X8_visit, mi_X8, mp_X8_visit, Or.inl (tb_of (in_t3 _ (List.mem_of_getElem? (i := 232) rfl)) rfl)⟩, mn_X8_visit, sl_X8_visit, by decide, TX8, 8, rfl⟩
theorem mc_X8_begin : Cond.code yX8_begin cX8_begin 4 none ∈ tb := tb_of (in_t3 _ (List.mem_of_getElem? (i := 226) rfl)) rfl
theorem mp_X8_begin : yX8_begin.cls ≠ "java/lang/invoke/MethodHandle" ∧ yX8_begin.cls ≠ "java/lang/invoke/VarHandle" ∧ (parseMethodDescriptor yX8_begin.desc).map (fun d => d.parameters.length) = some 2 := ⟨by decide +kernel, by decide +kernel, by decide +kernel⟩
theorem mn_X8_begin : Cond.instanceMethod yX8_begin ∈ tb := tb_of (in_t3 _ (List.mem_of_getElem? (i := 225) rfl)) rfl
theorem sl_X8_begin : Cond.selects yX8_begin.cls yX8_begin yX8_begin ∈ tb := tb_of (in_t0 _ (List.mem_of_getElem? (i := 38) rfl)) rfl
theorem cv_X8_18 : CV RX8 18 yX8_begin cX8_begin 4 none 2 8 := ⟨⟨mc_X8_begin, mi_X8, mp_X8_begin, Or.inl (tb_of (in_t3 _ (List.mem_of_getElem? (i := 223) rfl)) rfl)⟩, mn_X8_begin, sl_X8_begin, by decide, TX8, 8, rfl⟩
theorem oi_X9 : Cond.methodLink RX9 3 Lib.objectInit ∈ tb := tb_of (in_t2 _ (List.mem_of_getElem? (i := 11) rfl)) rfl
theorem fo_X9_18 : FO RX9 18 9 7 := ⟨RX9, TX9, 9, rfl, tb_of (in_t2 _ (List.mem_of_getElem? (i := 34) rfl)) rfl, rfl⟩
theorem fo_X9_15 : FO RX9 15 9 6 := ⟨RX9, TX9, 9, rfl, tb_of (in_t2 _ (List.mem_of_getElem? (i := 31) rfl)) rfl, rfl⟩
theorem fo_X9_9 : FO RX9 9 9 5 := ⟨RX9, TX9, 9, rfl, tb_of (in_t2 _ (List.mem_of_getElem? (i := 28) rfl)) rfl, rfl⟩
theorem cv_X9_52 : CV RX9 52 yX9_addWell cX9_addWell 3 none 2 9 := ⟨⟨mc_X9_addWell, mi_X9, mp_X9_addWell, Or.inl (tb_of (in_t4 _ (List.mem_of_getElem? (i := 120) rfl)) rfl)⟩, mn_X9_addWell, sl_X9_addWell, by decide, TX9, 9, rfl⟩
theorem cv_X9_56 : CV RX9 56 yX9_addWay cX9_addWay 2 none 1 9 := ⟨⟨mc_X9_addWay, mi_X9, mp_X9_addWay, Or.inl (tb_of (in_t4 _ (List.mem_of_getElem? (i := 121) rfl)) rfl)⟩, mn_X9_addWay, sl_X9_addWay, by decide, TX9, 9, rfl⟩
theorem cv_X9_49 : CV RX9 49 yX9_clear cX9_clear 2 none 0 9 := ⟨⟨mc_X9_clear, mi_X9, mp_X9_clear, Or.inl (tb_of (in_t4 _ (List.mem_of_getElem? (i := 119) rfl)) rfl)⟩, mn_X9_clear, sl_X9_clear, by decide, TX9, 9, rfl⟩
theorem fa_X10_24 : FA RX10 24 9 5 (.array .int) true := ⟨RX9, TX9, 9, rfl, by decide, rfl, by decide, rfl, rfl, tyX9_ok, nmX9, inX9, Or.inr ⟨"SlowWells", (in_t2 _ (List.mem_of_getElem? (i := 29) rfl))⟩⟩
theorem fa_X10_27 : FA RX10 27 9 6 (.array .int) true := ⟨RX9, TX9, 9, rfl, by decide, rfl, by decide, rfl, rfl, tyX9_ok, nmX9, inX9, Or.inr ⟨"SlowWells", (in_t2 _ (List.mem_of_getElem? (i := 32) rfl))⟩⟩
theorem inX11 : ∀ w ∈ u_ws RX11 TX11 19, w ∈ tb := tb_all [482, 484, 486, 488, 490, 492, 494, 496, 498, 500, 502, 504, 506, 508, 510, 512, 514, 516, 518] (by decide +kernel) (by decide +kernel)
theorem fa_X11_46 : FA RX11 46 11 10 (.array (.object "SlowWells$Tape")) true := ⟨RX11, TX11, 19, rfl, by decide, rfl, by decide, rfl, rfl, tyX11_ok, nmX11, inX11, Or.inl ⟨tb_of (in_t2 _ (List.mem_of_getElem? (i := 109) rfl)) rfl, rfl⟩⟩
theorem nc_X11_44 : NC RX11 44 7 3 := ⟨RX7, TX7, rfl, rfl, by decide, tyX7_ok, fun j hj => by rcases (show j = 0 ∨ j = 1 ∨ j = 2 by omega) with rfl | rfl | rfl <;> rfl, inX7, tb_of (in_t1 _ (List.mem_of_getElem? (i := 128) rfl)) rfl, tb_of (in_t2 _ (List.mem_of_getElem? (i := 81) rfl)) rfl, tb_of (in_t1 _ (List.mem_of_getElem? (i := 11) rfl)) rfl⟩
theorem mc_X7_init : Cond.code yX7_init cX7_init 1 none ∈ tb := tb_of (in_t2 _ (List.mem_of_getElem? (i := 84) rfl)) rfl
theorem mi_X7 : Cond.initialized RX7 ∈ tb := tb_of (in_t1 _ (List.mem_of_getElem? (i := 11) rfl)) rfl
theorem mp_X7_init : yX7_init.cls ≠ "java/lang/invoke/MethodHandle" ∧ yX7_init.cls ≠ "java/lang/invoke/VarHandle" ∧ (parseMethodDescriptor yX7_init.desc).map (fun d => d.parameters.length) = some 0 := ⟨by decide +kernel, by decide +kernel, by decide +kernel⟩
theorem mn_X7_init : Cond.instanceMethod yX7_init ∈ tb := tb_of (in_t2 _ (List.mem_of_getElem? (i := 83) rfl)) rfl
theorem ci_X11_100 : CI RX11 100 yX7_init cX7_init 1 0 := ⟨⟨mc_X7_init, mi_X7, mp_X7_init, Or.inr ⟨"SlowWells", (in_t2 _ (List.mem_of_getElem? (i := 82) rfl))⟩⟩, mn_X7_init, rfl⟩
theorem oi_X11 : Cond.methodLink RX11 3 Lib.objectInit ∈ tb := tb_of (in_t1 _ (List.mem_of_getElem? (i := 25) rfl)) rfl
theorem nc_X11_9 : NC RX11 9 4 10 := ⟨RX4, TX4, rfl, rfl, by decide, tyX4_ok, fun j hj => by rcases (show j = 0 ∨ j = 1 ∨ j = 2 ∨ j = 3 ∨ j = 4 ∨ j = 5 ∨ j = 6 ∨ j = 7 ∨ j = 8 ∨ j = 9 by omega) with rfl | rfl | rfl | rfl | rfl | rfl | rfl | rfl | rfl | rfl <;> rfl, inX4, tb_of (in_t1 _ (List.mem_of_getElem? (i := 28) rfl)) rfl, tb_of (in_t1 _ (List.mem_of_getElem? (i := 29) rfl)) rfl, tb_of (in_t1 _ (List.mem_of_getElem? (i := 2) rfl)) rfl⟩
theorem mc_X4_init : Cond.code yX4_init cX4_init 1 none ∈ tb := tb_of (in_t1 _ (List.mem_of_getElem? (i := 32) rfl)) rfl
theorem mp_X4_init : yX4_init.cls ≠ "java/lang/invoke/MethodHandle" ∧ yX4_init.cls ≠ "java/lang/invoke/VarHandle" ∧ (parseMethodDescriptor yX4_init.desc).map (fun d => d.parameters.length) = some 0 := ⟨by decide +kernel, by decide +kernel, by decide +kernel⟩
theorem mn_X4_init : Cond.instanceMethod yX4_init ∈ tb := tb_of (in_t1 _ (List.mem_of_getElem? (i := 31) rfl)) rfl
theorem ci_X11_11 : CI RX11 11 yX4_init cX4_init 1 0 := ⟨⟨mc_X4_init, mi_X4, mp_X4_init, Or.inr ⟨"SlowWells", (in_t1 _ (List.mem_of_getElem? (i := 30) rfl))⟩⟩, mn_X4_init, rfl⟩
theorem fa_X11_12 : FA RX11 12 11 0 (.object "SlowWells$Reader") true := ⟨RX11, TX11, 19, rfl, by decide, rfl, by decide, rfl, rfl, tyX11_ok, nmX11, inX11, Or.inl ⟨tb_of (in_t2 _ (List.mem_of_getElem? (i := 99) rfl)) rfl, rfl⟩⟩
theorem fa_X11_18 : FA RX11 18 11 2 (.object "SlowWells$Waste") false := ⟨RX11, TX11, 19, rfl, by decide, rfl, by decide, rfl, rfl, tyX11_ok, nmX11, inX11, Or.inl ⟨tb_of (in_t2 _ (List.mem_of_getElem? (i := 101) rfl)) rfl, rfl⟩⟩
theorem cl_X11_22 : Cond.classLink RX11 22 "SlowWells$Rule" ∈ tb := tb_of (in_t1 _ (List.mem_of_getElem? (i := 68) rfl)) rfl
theorem fa_X11_24 : FA RX11 24 11 3 (.array (.object "SlowWells$Rule")) true := ⟨RX11, TX11, 19, rfl, by decide, rfl, by decide, rfl, rfl, tyX11_ok, nmX11, inX11, Or.inl ⟨tb_of (in_t2 _ (List.mem_of_getElem? (i := 102) rfl)) rfl, rfl⟩⟩
theorem cl_X11_28 : Cond.classLink RX11 28 "SlowWells$Caravan" ∈ tb := tb_of (in_t1 _ (List.mem_of_getElem? (i := 70) rfl)) rfl
theorem fa_X11_30 : FA RX11 30 11 5 (.array (.object "SlowWells$Caravan")) true := ⟨RX11, TX11, 19, rfl, by decide, rfl, by decide, rfl, rfl, tyX11_ok, nmX11, inX11, Or.inl ⟨tb_of (in_t2 _ (List.mem_of_getElem? (i := 104) rfl)) rfl, rfl⟩⟩
theorem nc_X11_34 : NC RX11 34 6 7 := ⟨RX6, TX6, rfl, rfl, by decide, tyX6_ok, fun j hj => by rcases (show j = 0 ∨ j = 1 ∨ j = 2 ∨ j = 3 ∨ j = 4 ∨ j = 5 ∨ j = 6 by omega) with rfl | rfl | rfl | rfl | rfl | rfl | rfl <;> rfl, inX6, tb_of (in_t1 _ (List.mem_of_getElem? (i := 72) rfl)) rfl, tb_of (in_t1 _ (List.mem_of_getElem? (i := 73) rfl)) rfl, tb_of (in_t1 _ (List.mem_of_getElem? (i := 3) rfl)) rfl⟩
theorem mc_X6_init : Cond.code yX6_init cX6_init 1 none ∈ tb := tb_of (in_t1 _ (List.mem_of_getElem? (i := 76) rfl)) rfl
theorem mi_X6 : Cond.initialized RX6 ∈ tb := tb_of (in_t1 _ (List.mem_of_getElem? (i := 3) rfl)) rfl
theorem mp_X6_init : yX6_init.cls ≠ "java/lang/invoke/MethodHandle" ∧ yX6_init.cls ≠ "java/lang/invoke/VarHandle" ∧ (parseMethodDescriptor yX6_init.desc).map (fun d => d.parameters.length) = some 0 := ⟨by decide +kernel, by decide +kernel, by decide +kernel⟩
theorem mn_X6_init : Cond.instanceMethod yX6_init ∈ tb := tb_of (in_t1 _ (List.mem_of_getElem? (i := 75) rfl)) rfl
theorem ci_X11_36 : CI RX11 36 yX6_init cX6_init 1 0 := ⟨⟨mc_X6_init, mi_X6, mp_X6_init, Or.inr ⟨"SlowWells", (in_t1 _ (List.mem_of_getElem? (i := 74) rfl))⟩⟩, mn_X6_init, rfl⟩
theorem fa_X11_37 : FA RX11 37 11 7 (.object "SlowWells$Scene") true := ⟨RX11, TX11, 19, rfl, by decide, rfl, by decide, rfl, rfl, tyX11_ok, nmX11, inX11, Or.inl ⟨tb_of (in_t2 _ (List.mem_of_getElem? (i := 106) rfl)) rfl, rfl⟩⟩
theorem fa_X11_41 : FA RX11 41 11 8 (.object "SlowWells$Scene") true := ⟨RX11, TX11, 19, rfl, by decide, rfl, by decide, rfl, rfl, tyX11_ok, nmX11, inX11, Or.inl ⟨tb_of (in_t2 _ (List.mem_of_getElem? (i := 107) rfl)) rfl, rfl⟩⟩
theorem cl_X11_44 : Cond.classLink RX11 44 "SlowWells$Tape" ∈ tb := tb_of (in_t1 _ (List.mem_of_getElem? (i := 128) rfl)) rfl
theorem nc_X11_50 : NC RX11 50 0 2 := ⟨RX0, TX0, rfl, rfl, by decide, tyX0_ok, fun j hj => by rcases (show j = 0 ∨ j = 1 by omega) with rfl | rfl <;> rfl, inX0, tb_of (in_t1 _ (List.mem_of_getElem? (i := 130) rfl)) rfl, tb_of (in_t1 _ (List.mem_of_getElem? (i := 131) rfl)) rfl, tb_of (in_t1 _ (List.mem_of_getElem? (i := 5) rfl)) rfl⟩
theorem mc_X0_init : Cond.code yX0_init cX0_init 1 none ∈ tb := tb_of (in_t1 _ (List.mem_of_getElem? (i := 134) rfl)) rfl
theorem mp_X0_init : yX0_init.cls ≠ "java/lang/invoke/MethodHandle" ∧ yX0_init.cls ≠ "java/lang/invoke/VarHandle" ∧ (parseMethodDescriptor yX0_init.desc).map (fun d => d.parameters.length) = some 0 := ⟨by decide +kernel, by decide +kernel, by decide +kernel⟩
theorem mn_X0_init : Cond.instanceMethod yX0_init ∈ tb := tb_of (in_t1 _ (List.mem_of_getElem? (i := 133) rfl)) rfl
theorem ci_X11_52 : CI RX11 52 yX0_init cX0_init 1 0 := ⟨⟨mc_X0_init, mi_X0, mp_X0_init, Or.inr ⟨"SlowWells", (in_t1 _ (List.mem_of_getElem? (i := 132) rfl))⟩⟩, mn_X0_init, rfl⟩
theorem fa_X11_53 : FA RX11 53 11 11 (.object "SlowWells$Acts") true := ⟨RX11, TX11, 19, rfl, by decide, rfl, by decide, rfl, rfl, tyX11_ok, nmX11, inX11, Or.inl ⟨tb_of (in_t2 _ (List.mem_of_getElem? (i := 110) rfl)) rfl, rfl⟩⟩
theorem nc_X11_57 : NC RX11 57 8 8 := ⟨RX8, TX8, rfl, rfl, by decide, tyX8_ok, fun j hj => by rcases (show j = 0 ∨ j = 1 ∨ j = 2 ∨ j = 3 ∨ j = 4 ∨ j = 5 ∨ j = 6 ∨ j = 7 by omega) with rfl | rfl | rfl | rfl | rfl | rfl | rfl | rfl <;> rfl, inX8, tb_of (in_t1 _ (List.mem_of_getElem? (i := 145) rfl)) rfl, tb_of (in_t1 _ (List.mem_of_getElem? (i := 146) rfl)) rfl, tb_of (in_t1 _ (List.mem_of_getElem? (i := 6) rfl)) rfl⟩
theorem mc_X8_init : Cond.code yX8_init cX8_init 1 none ∈ tb := tb_of (in_t1 _ (List.mem_of_getElem? (i := 149) rfl)) rfl
theorem mp_X8_init : yX8_init.cls ≠ "java/lang/invoke/MethodHandle" ∧ yX8_init.cls ≠ "java/lang/invoke/VarHandle" ∧ (parseMethodDescriptor yX8_init.desc).map (fun d => d.parameters.length) = some 0 := ⟨by decide +kernel, by decide +kernel, by decide +kernel⟩
theorem mn_X8_init : Cond.instanceMethod yX8_init ∈ tb := tb_of (in_t1 _ (List.mem_of_getElem? (i := 148) rfl)) rfl
theorem ci_X11_59 : CI RX11 59 yX8_init cX8_init 1 0 := ⟨⟨mc_X8_init, mi_X8, mp_X8_init, Or.inr ⟨"SlowWells", (in_t1 _ (List.mem_of_getElem? (i := 147) rfl))⟩⟩, mn_X8_init, rfl⟩
theorem fa_X11_60 : FA RX11 60 11 12 (.object "SlowWells$Trip") true := ⟨RX11, TX11, 19, rfl, by decide, rfl, by decide, rfl, rfl, tyX11_ok, nmX11, inX11, Or.inl ⟨tb_of (in_t2 _ (List.mem_of_getElem? (i := 111) rfl)) rfl, rfl⟩⟩
theorem nc_X11_64 : NC RX11 64 3 10 := ⟨RX3, TX3, rfl, rfl, by decide, tyX3_ok, fun j hj => by rcases (show j = 0 ∨ j = 1 ∨ j = 2 ∨ j = 3 ∨ j = 4 ∨ j = 5 ∨ j = 6 ∨ j = 7 ∨ j = 8 ∨ j = 9 by omega) with rfl | rfl | rfl | rfl | rfl | rfl | rfl | rfl | rfl | rfl <;> rfl, inX3, tb_of (in_t1 _ (List.mem_of_getElem? (i := 180) rfl)) rfl, tb_of (in_t1 _ (List.mem_of_getElem? (i := 181) rfl)) rfl, tb_of (in_t1 _ (List.mem_of_getElem? (i := 7) rfl)) rfl⟩
theorem mc_X3_init : Cond.code yX3_init cX3_init 1 none ∈ tb := tb_of (in_t1 _ (List.mem_of_getElem? (i := 184) rfl)) rfl
theorem mp_X3_init : yX3_init.cls ≠ "java/lang/invoke/MethodHandle" ∧ yX3_init.cls ≠ "java/lang/invoke/VarHandle" ∧ (parseMethodDescriptor yX3_init.desc).map (fun d => d.parameters.length) = some 0 := ⟨by decide +kernel, by decide +kernel, by decide +kernel⟩
theorem mn_X3_init : Cond.instanceMethod yX3_init ∈ tb := tb_of (in_t1 _ (List.mem_of_getElem? (i := 183) rfl)) rfl
theorem ci_X11_66 : CI RX11 66 yX3_init cX3_init 1 0 := ⟨⟨mc_X3_init, mi_X3, mp_X3_init, Or.inr ⟨"SlowWells", (in_t1 _ (List.mem_of_getElem? (i := 182) rfl))⟩⟩, mn_X3_init, rfl⟩
theorem fa_X11_67 : FA RX11 67 11 13 (.object "SlowWells$Planner") true := ⟨RX11, TX11, 19, rfl, by decide, rfl, by decide, rfl, rfl, tyX11_ok, nmX11, inX11, Or.inl ⟨tb_of (in_t2 _ (List.mem_of_getElem? (i := 112) rfl)) rfl, rfl⟩⟩
theorem nc_X11_71 : NC RX11 71 2 6 := ⟨RX2, TX2, rfl, rfl, by decide, tyX2_ok, fun j hj => by rcases (show j = 0 ∨ j = 1 ∨ j = 2 ∨ j = 3 ∨ j = 4 ∨ j = 5 by omega) with rfl | rfl | rfl | rfl | rfl | rfl <;> rfl, inX2, tb_of (in_t1 _ (List.mem_of_getElem? (i := 218) rfl)) rfl, tb_of (in_t1 _ (List.mem_of_getElem? (i := 219) rfl)) rfl, tb_of (in_t1 _ (List.mem_of_getElem? (i := 8) rfl)) rfl⟩
theorem mc_X2_init : Cond.code yX2_init cX2_init 1 none ∈ tb := tb_of (in_t1 _ (List.mem_of_getElem? (i := 222) rfl)) rfl
theorem mi_X2 : Cond.initialized RX2 ∈ tb := tb_of (in_t1 _ (List.mem_of_getElem? (i := 8) rfl)) rfl
theorem mp_X2_init : yX2_init.cls ≠ "java/lang/invoke/MethodHandle" ∧ yX2_init.cls ≠ "java/lang/invoke/VarHandle" ∧ (parseMethodDescriptor yX2_init.desc).map (fun d => d.parameters.length) = some 0 := ⟨by decide +kernel, by decide +kernel, by decide +kernel⟩
theorem mn_X2_init : Cond.instanceMethod yX2_init ∈ tb := tb_of (in_t1 _ (List.mem_of_getElem? (i := 221) rfl)) rfl
theorem ci_X11_73 : CI RX11 73 yX2_init cX2_init 1 0 := ⟨⟨mc_X2_init, mi_X2, mp_X2_init, Or.inr ⟨"SlowWells", (in_t1 _ (List.mem_of_getElem? (i := 220) rfl))⟩⟩, mn_X2_init, rfl⟩
theorem fa_X11_74 : FA RX11 74 11 14 (.object "SlowWells$Group") true := ⟨RX11, TX11, 19, rfl, by decide, rfl, by decide, rfl, rfl, tyX11_ok, nmX11, inX11, Or.inl ⟨tb_of (in_t2 _ (List.mem_of_getElem? (i := 113) rfl)) rfl, rfl⟩⟩
theorem nc_X11_78 : NC RX11 78 10 4 := ⟨RX10, TX10, rfl, rfl, by decide, tyX10_ok, fun j hj => by rcases (show j = 0 ∨ j = 1 ∨ j = 2 ∨ j = 3 by omega) with rfl | rfl | rfl | rfl <;> rfl, inX10, tb_of (in_t2 _ (List.mem_of_getElem? (i := 4) rfl)) rfl, tb_of (in_t1 _ (List.mem_of_getElem? (i := 79) rfl)) rfl, tb_of (in_t1 _ (List.mem_of_getElem? (i := 4) rfl)) rfl⟩
theorem ci_X11_80 : CI RX11 80 yX10_init cX10_init 1 0 := ⟨⟨mc_X10_init, mi_X10, mp_X10_init, Or.inr ⟨"SlowWells", (in_t2 _ (List.mem_of_getElem? (i := 5) rfl))⟩⟩, mn_X10_init, rfl⟩
theorem fa_X11_81 : FA RX11 81 11 15 (.object "SlowWells$Wells") true := ⟨RX11, TX11, 19, rfl, by decide, rfl, by decide, rfl, rfl, tyX11_ok, nmX11, inX11, Or.inl ⟨tb_of (in_t2 _ (List.mem_of_getElem? (i := 114) rfl)) rfl, rfl⟩⟩
theorem nc_X11_85 : NC RX11 85 9 9 := ⟨RX9, TX9, rfl, rfl, by decide, tyX9_ok, fun j hj => by rcases (show j = 0 ∨ j = 1 ∨ j = 2 ∨ j = 3 ∨ j = 4 ∨ j = 5 ∨ j = 6 ∨ j = 7 ∨ j = 8 by omega) with rfl | rfl | rfl | rfl | rfl | rfl | rfl | rfl | rfl <;> rfl, inX9, tb_of (in_t2 _ (List.mem_of_getElem? (i := 6) rfl)) rfl, tb_of (in_t2 _ (List.mem_of_getElem? (i := 7) rfl)) rfl, tb_of (in_t1 _ (List.mem_of_getElem? (i := 9) rfl)) rfl⟩
theorem mc_X9_init : Cond.code yX9_init cX9_init 1 none ∈ tb := tb_of (in_t2 _ (List.mem_of_getElem? (i := 10) rfl)) rfl
theorem mp_X9_init : yX9_init.cls ≠ "java/lang/invoke/MethodHandle" ∧ yX9_init.cls ≠ "java/lang/invoke/VarHandle" ∧ (parseMethodDescriptor yX9_init.desc).map (fun d => d.parameters.length) = some 0 := ⟨by decide +kernel, by decide +kernel, by decide +kernel⟩
theorem mn_X9_init : Cond.instanceMethod yX9_init ∈ tb := tb_of (in_t2 _ (List.mem_of_getElem? (i := 9) rfl)) rfl
theorem ci_X11_87 : CI RX11 87 yX9_init cX9_init 1 0 := ⟨⟨mc_X9_init, mi_X9, mp_X9_init, Or.inr ⟨"SlowWells", (in_t2 _ (List.mem_of_getElem? (i := 8) rfl))⟩⟩, mn_X9_init, rfl⟩
theorem fa_X11_88 : FA RX11 88 11 16 (.object "SlowWells$Waste") true := ⟨RX11, TX11, 19, rfl, by decide, rfl, by decide, rfl, rfl, tyX11_ok, nmX11, inX11, Or.inl ⟨tb_of (in_t2 _ (List.mem_of_getElem? (i := 115) rfl)) rfl, rfl⟩⟩
theorem nc_X11_28 : NC RX11 28 1 3 := ⟨RX1, TX1, rfl, rfl, by decide, tyX1_ok, fun j hj => by rcases (show j = 0 ∨ j = 1 ∨ j = 2 by omega) with rfl | rfl | rfl <;> rfl, inX1, tb_of (in_t1 _ (List.mem_of_getElem? (i := 70) rfl)) rfl, tb_of (in_t2 _ (List.mem_of_getElem? (i := 59) rfl)) rfl, tb_of (in_t1 _ (List.mem_of_getElem? (i := 10) rfl)) rfl⟩
theorem mc_X1_init : Cond.code yX1_init cX1_init 1 none ∈ tb := tb_of (in_t2 _ (List.mem_of_getElem? (i := 62) rfl)) rfl
theorem mi_X1 : Cond.initialized RX1 ∈ tb := tb_of (in_t1 _ (List.mem_of_getElem? (i := 10) rfl)) rfl
theorem mp_X1_init : yX1_init.cls ≠ "java/lang/invoke/MethodHandle" ∧ yX1_init.cls ≠ "java/lang/invoke/VarHandle" ∧ (parseMethodDescriptor yX1_init.desc).map (fun d => d.parameters.length) = some 0 := ⟨by decide +kernel, by decide +kernel, by decide +kernel⟩
theorem mn_X1_init : Cond.instanceMethod yX1_init ∈ tb := tb_of (in_t2 _ (List.mem_of_getElem? (i := 61) rfl)) rfl
theorem ci_X11_91 : CI RX11 91 yX1_init cX1_init 1 0 := ⟨⟨mc_X1_init, mi_X1, mp_X1_init, Or.inr ⟨"SlowWells", (in_t2 _ (List.mem_of_getElem? (i := 60) rfl))⟩⟩, mn_X1_init, rfl⟩
theorem fa_X11_92 : FA RX11 92 11 17 (.object "SlowWells$Caravan") true := ⟨RX11, TX11, 19, rfl, by decide, rfl, by decide, rfl, rfl, tyX11_ok, nmX11, inX11, Or.inl ⟨tb_of (in_t2 _ (List.mem_of_getElem? (i := 116) rfl)) rfl, rfl⟩⟩
theorem fa_X11_96 : FA RX11 96 11 18 (.array .int) true := ⟨RX11, TX11, 19, rfl, by decide, rfl, by decide, rfl, rfl, tyX11_ok, nmX11, inX11, Or.inl ⟨tb_of (in_t2 _ (List.mem_of_getElem? (i := 117) rfl)) rfl, rfl⟩⟩
theorem fo_X11_96 : FO RX11 96 11 18 := ⟨RX11, TX11, 19, rfl, tb_of (in_t2 _ (List.mem_of_getElem? (i := 117) rfl)) rfl, rfl⟩
theorem fo_X11_92 : FO RX11 92 11 17 := ⟨RX11, TX11, 19, rfl, tb_of (in_t2 _ (List.mem_of_getElem? (i := 116) rfl)) rfl, rfl⟩
theorem fo_X11_88 : FO RX11 88 11 16 := ⟨RX11, TX11, 19, rfl, tb_of (in_t2 _ (List.mem_of_getElem? (i := 115) rfl)) rfl, rfl⟩
theorem fo_X11_81 : FO RX11 81 11 15 := ⟨RX11, TX11, 19, rfl, tb_of (in_t2 _ (List.mem_of_getElem? (i := 114) rfl)) rfl, rfl⟩
theorem fo_X11_74 : FO RX11 74 11 14 := ⟨RX11, TX11, 19, rfl, tb_of (in_t2 _ (List.mem_of_getElem? (i := 113) rfl)) rfl, rfl⟩
theorem fo_X11_67 : FO RX11 67 11 13 := ⟨RX11, TX11, 19, rfl, tb_of (in_t2 _ (List.mem_of_getElem? (i := 112) rfl)) rfl, rfl⟩
theorem fo_X11_60 : FO RX11 60 11 12 := ⟨RX11, TX11, 19, rfl, tb_of (in_t2 _ (List.mem_of_getElem? (i := 111) rfl)) rfl, rfl⟩
theorem fo_X11_53 : FO RX11 53 11 11 := ⟨RX11, TX11, 19, rfl, tb_of (in_t2 _ (List.mem_of_getElem? (i := 110) rfl)) rfl, rfl⟩
theorem fo_X11_46 : FO RX11 46 11 10 := ⟨RX11, TX11, 19, rfl, tb_of (in_t2 _ (List.mem_of_getElem? (i := 109) rfl)) rfl, rfl⟩
theorem fo_X11_41 : FO RX11 41 11 8 := ⟨RX11, TX11, 19, rfl, tb_of (in_t2 _ (List.mem_of_getElem? (i := 107) rfl)) rfl, rfl⟩
theorem fo_X11_37 : FO RX11 37 11 7 := ⟨RX11, TX11, 19, rfl, tb_of (in_t2 _ (List.mem_of_getElem? (i := 106) rfl)) rfl, rfl⟩
theorem fo_X11_30 : FO RX11 30 11 5 := ⟨RX11, TX11, 19, rfl, tb_of (in_t2 _ (List.mem_of_getElem? (i := 104) rfl)) rfl, rfl⟩
theorem fo_X11_24 : FO RX11 24 11 3 := ⟨RX11, TX11, 19, rfl, tb_of (in_t2 _ (List.mem_of_getElem? (i := 102) rfl)) rfl, rfl⟩
theorem fo_X11_12 : FO RX11 12 11 0 := ⟨RX11, TX11, 19, rfl, tb_of (in_t2 _ (List.mem_of_getElem? (i := 99) rfl)) rfl, rfl⟩
theorem pn_X11 : plainName RX11 = true := by decide +kernel
theorem fa_X11_105 : FA RX11 105 4 1 (.int) false := ⟨RX4, TX4, 10, rfl, by decide, rfl, by decide, rfl, rfl, tyX4_ok, nmX4, inX4, Or.inr ⟨"SlowWells", (in_t1 _ (List.mem_of_getElem? (i := 36) rfl))⟩⟩
theorem k_bipush_8 : (Int8.ofInt (8)).toInt32 = (8 : Int32) := by decide
theorem mc_X4_put : Cond.code yX4_put cX4_put 2 none ∈ tb := tb_of (in_t2 _ (List.mem_of_getElem? (i := 167) rfl)) rfl
theorem mp_X4_put : yX4_put.cls ≠ "java/lang/invoke/MethodHandle" ∧ yX4_put.cls ≠ "java/lang/invoke/VarHandle" ∧ (parseMethodDescriptor yX4_put.desc).map (fun d => d.parameters.length) = some 1 := ⟨by decide +kernel, by decide +kernel, by decide +kernel⟩
theorem mn_X4_put : Cond.instanceMethod yX4_put ∈ tb := tb_of (in_t2 _ (List.mem_of_getElem? (i := 166) rfl)) rfl
theorem sl_X4_put : Cond.selects yX4_put.cls yX4_put yX4_put ∈ tb := tb_of (in_t0 _ (List.mem_of_getElem? (i := 0) rfl)) rfl
theorem cv_X11_109 : CV RX11 109 yX4_put cX4_put 2 none 1 4 := ⟨⟨mc_X4_put, mi_X4, mp_X4_put, Or.inr ⟨"SlowWells", (in_t2 _ (List.mem_of_getElem? (i := 164) rfl))⟩⟩, mn_X4_put, sl_X4_put, by decide, TX4, 10, rfl⟩
theorem mc_X11_within : Cond.code yX11_within cX11_within 3 (some .boolean) ∈ tb := tb_of (in_t2 _ (List.mem_of_getElem? (i := 163) rfl)) rfl
theorem mi_X11 : Cond.initialized RX11 ∈ tb := tb_of (in_t1 _ (List.mem_of_getElem? (i := 1) rfl)) rfl
theorem mp_X11_within : yX11_within.cls ≠ "java/lang/invoke/MethodHandle" ∧ yX11_within.cls ≠ "java/lang/invoke/VarHandle" ∧ (parseMethodDescriptor yX11_within.desc).map (fun d => d.parameters.length) = some 3 := ⟨by decide +kernel, by decide +kernel, by decide +kernel⟩
theorem ms_X11_within : Cond.static yX11_within ∈ tb := tb_of (in_t2 _ (List.mem_of_getElem? (i := 162) rfl)) rfl
theorem cs_X11_101 : CS RX11 101 yX11_within cX11_within 3 (some .boolean) 3 := ⟨⟨mc_X11_within, mi_X11, mp_X11_within, Or.inl (tb_of (in_t2 _ (List.mem_of_getElem? (i := 161) rfl)) rfl)⟩, ms_X11_within⟩
theorem k_bipush_m4 : (Int8.ofInt (-4)).toInt32 = (-4 : Int32) := by decide
theorem k_bipush_m2 : (Int8.ofInt (-2)).toInt32 = (-2 : Int32) := by decide
theorem mc_X4_readInto : Cond.code yX4_readInto cX4_readInto 4 (some .int) ∈ tb := tb_of (in_t2 _ (List.mem_of_getElem? (i := 175) rfl)) rfl
theorem mp_X4_readInto : yX4_readInto.cls ≠ "java/lang/invoke/MethodHandle" ∧ yX4_readInto.cls ≠ "java/lang/invoke/VarHandle" ∧ (parseMethodDescriptor yX4_readInto.desc).map (fun d => d.parameters.length) = some 1 := ⟨by decide +kernel, by decide +kernel, by decide +kernel⟩
theorem mn_X4_readInto : Cond.instanceMethod yX4_readInto ∈ tb := tb_of (in_t2 _ (List.mem_of_getElem? (i := 174) rfl)) rfl
theorem sl_X4_readInto : Cond.selects yX4_readInto.cls yX4_readInto yX4_readInto ∈ tb := tb_of (in_t0 _ (List.mem_of_getElem? (i := 1) rfl)) rfl
theorem cv_X11_116 : CV RX11 116 yX4_readInto cX4_readInto 4 (some .int) 1 4 := ⟨⟨mc_X4_readInto, mi_X4, mp_X4_readInto, Or.inr ⟨"SlowWells", (in_t2 _ (List.mem_of_getElem? (i := 172) rfl))⟩⟩, mn_X4_readInto, sl_X4_readInto, by decide, TX4, 10, rfl⟩
theorem fa_X11_120 : FA RX11 120 6 0 (.object "SlowWells$Waste") false := ⟨RX6, TX6, 7, rfl, by decide, rfl, by decide, rfl, rfl, tyX6_ok, nmX6, inX6, Or.inr ⟨"SlowWells", (in_t1 _ (List.mem_of_getElem? (i := 100) rfl))⟩⟩
theorem fa_X11_123 : FA RX11 123 6 1 (.object "SlowWells$Wells") true := ⟨RX6, TX6, 7, rfl, by decide, rfl, by decide, rfl, rfl, tyX6_ok, nmX6, inX6, Or.inr ⟨"SlowWells", (in_t1 _ (List.mem_of_getElem? (i := 102) rfl))⟩⟩
theorem mc_X10_fill : Cond.code yX10_fill cX10_fill 3 none ∈ tb := tb_of (in_t3 _ (List.mem_of_getElem? (i := 69) rfl)) rfl
theorem mp_X10_fill : yX10_fill.cls ≠ "java/lang/invoke/MethodHandle" ∧ yX10_fill.cls ≠ "java/lang/invoke/VarHandle" ∧ (parseMethodDescriptor yX10_fill.desc).map (fun d => d.parameters.length) = some 1 := ⟨by decide +kernel, by decide +kernel, by decide +kernel⟩
theorem mn_X10_fill : Cond.instanceMethod yX10_fill ∈ tb := tb_of (in_t3 _ (List.mem_of_getElem? (i := 68) rfl)) rfl
theorem sl_X10_fill : Cond.selects yX10_fill.cls yX10_fill yX10_fill ∈ tb := tb_of (in_t0 _ (List.mem_of_getElem? (i := 17) rfl)) rfl
theorem cv_X11_126 : CV RX11 126 yX10_fill cX10_fill 3 none 1 10 := ⟨⟨mc_X10_fill, mi_X10, mp_X10_fill, Or.inr ⟨"SlowWells", (in_t3 _ (List.mem_of_getElem? (i := 66) rfl))⟩⟩, mn_X10_fill, sl_X10_fill, by decide, TX10, 4, rfl⟩
theorem fa_X11_113 : FA RX11 113 11 1 (.int) false := ⟨RX11, TX11, 19, rfl, by decide, rfl, by decide, rfl, rfl, tyX11_ok, nmX11, inX11, Or.inl ⟨tb_of (in_t2 _ (List.mem_of_getElem? (i := 100) rfl)) rfl, rfl⟩⟩
theorem k_bipush_m10 : (Int8.ofInt (-10)).toInt32 = (-10 : Int32) := by decide
theorem mc_X9_figure : Cond.code yX9_figure cX9_figure 2 (some .int) ∈ tb := tb_of (in_t3 _ (List.mem_of_getElem? (i := 77) rfl)) rfl
theorem mp_X9_figure : yX9_figure.cls ≠ "java/lang/invoke/MethodHandle" ∧ yX9_figure.cls ≠ "java/lang/invoke/VarHandle" ∧ (parseMethodDescriptor yX9_figure.desc).map (fun d => d.parameters.length) = some 1 := ⟨by decide +kernel, by decide +kernel, by decide +kernel⟩
theorem mn_X9_figure : Cond.instanceMethod yX9_figure ∈ tb := tb_of (in_t3 _ (List.mem_of_getElem? (i := 76) rfl)) rfl
theorem sl_X9_figure : Cond.selects yX9_figure.cls yX9_figure yX9_figure ∈ tb := tb_of (in_t0 _ (List.mem_of_getElem? (i := 18) rfl)) rfl
theorem cv_X11_130 : CV RX11 130 yX9_figure cX9_figure 2 (some .int) 1 9 := ⟨⟨mc_X9_figure, mi_X9, mp_X9_figure, Or.inr ⟨"SlowWells", (in_t3 _ (List.mem_of_getElem? (i := 74) rfl))⟩⟩, mn_X9_figure, sl_X9_figure, by decide, TX9, 9, rfl⟩
theorem fa_X11_134 : FA RX11 134 9 0 (.int) false := ⟨RX9, TX9, 9, rfl, by decide, rfl, by decide, rfl, rfl, tyX9_ok, nmX9, inX9, Or.inr ⟨"SlowWells", (in_t2 _ (List.mem_of_getElem? (i := 15) rfl))⟩⟩
theorem fa_X11_136 : FA RX11 136 9 5 (.array .int) true := ⟨RX9, TX9, 9, rfl, by decide, rfl, by decide, rfl, rfl, tyX9_ok, nmX9, inX9, Or.inr ⟨"SlowWells", (in_t2 _ (List.mem_of_getElem? (i := 30) rfl))⟩⟩
theorem fa_X11_139 : FA RX11 139 9 6 (.array .int) true := ⟨RX9, TX9, 9, rfl, by decide, rfl, by decide, rfl, rfl, tyX9_ok, nmX9, inX9, Or.inr ⟨"SlowWells", (in_t2 _ (List.mem_of_getElem? (i := 33) rfl))⟩⟩
theorem fa_X11_142 : FA RX11 142 9 7 (.array .int) true := ⟨RX9, TX9, 9, rfl, by decide, rfl, by decide, rfl, rfl, tyX9_ok, nmX9, inX9, Or.inr ⟨"SlowWells", (in_t2 _ (List.mem_of_getElem? (i := 37) rfl))⟩⟩
theorem k_nz_10 : ¬ (10 : Int32) = 0 := by decide
theorem k_bipush_m3 : (Int8.ofInt (-3)).toInt32 = (-3 : Int32) := by decide
theorem k_bipush_14 : (Int8.ofInt (14)).toInt32 = (14 : Int32) := by decide
theorem k_bipush_35 : (Int8.ofInt (35)).toInt32 = (35 : Int32) := by decide
theorem k_sipush_999 : (Int16.ofInt (999)).toInt32 = (999 : Int32) := by decide
theorem cv_X11_145 : CV RX11 145 yX10_heldAt cX10_heldAt 4 (some .int) 2 10 := ⟨⟨mc_X10_heldAt, mi_X10, mp_X10_heldAt, Or.inr ⟨"SlowWells", (in_t3 _ (List.mem_of_getElem? (i := 82) rfl))⟩⟩, mn_X10_heldAt, sl_X10_heldAt, by decide, TX10, 4, rfl⟩
theorem mc_X9_drunkIn : Cond.code yX9_drunkIn cX9_drunkIn 5 (some .int) ∈ tb := tb_of (in_t3 _ (List.mem_of_getElem? (i := 93) rfl)) rfl
theorem mp_X9_drunkIn : yX9_drunkIn.cls ≠ "java/lang/invoke/MethodHandle" ∧ yX9_drunkIn.cls ≠ "java/lang/invoke/VarHandle" ∧ (parseMethodDescriptor yX9_drunkIn.desc).map (fun d => d.parameters.length) = some 3 := ⟨by decide +kernel, by decide +kernel, by decide +kernel⟩
theorem mn_X9_drunkIn : Cond.instanceMethod yX9_drunkIn ∈ tb := tb_of (in_t3 _ (List.mem_of_getElem? (i := 92) rfl)) rfl
theorem sl_X9_drunkIn : Cond.selects yX9_drunkIn.cls yX9_drunkIn yX9_drunkIn ∈ tb := tb_of (in_t0 _ (List.mem_of_getElem? (i := 20) rfl)) rfl
theorem cv_X11_149 : CV RX11 149 yX9_drunkIn cX9_drunkIn 5 (some .int) 3 9 := ⟨⟨mc_X9_drunkIn, mi_X9, mp_X9_drunkIn, Or.inr ⟨"SlowWells", (in_t3 _ (List.mem_of_getElem? (i := 90) rfl))⟩⟩, mn_X9_drunkIn, sl_X9_drunkIn, by decide, TX9, 9, rfl⟩
theorem fa_X11_153 : FA RX11 153 6 2 (.array .int) true := ⟨RX6, TX6, 7, rfl, by decide, rfl, by decide, rfl, rfl, tyX6_ok, nmX6, inX6, Or.inr ⟨"SlowWells", (in_t1 _ (List.mem_of_getElem? (i := 104) rfl))⟩⟩
theorem mx_X11_156 : Cond.methodLink RX11 156 Lib.Math.min.name ∈ tb ∧ Cond.static Lib.Math.min.name ∈ tb ∧ Cond.initialized "java/lang/Math" ∈ tb ∧ Cond.code Lib.Math.min.name Lib.Math.min.code 2 (some .int) ∈ tb := ⟨tb_of (in_t3 _ (List.mem_of_getElem? (i := 103) rfl)) rfl, tb_of (in_t3 _ (List.mem_of_getElem? (i := 104) rfl)) rfl, tb_of (in_t1 _ (List.mem_of_getElem? (i := 17) rfl)) rfl, tb_of (in_t3 _ (List.mem_of_getElem? (i := 105) rfl)) rfl⟩
theorem fa_X11_161 : FA RX11 161 11 4 (.int) false := ⟨RX11, TX11, 19, rfl, by decide, rfl, by decide, rfl, rfl, tyX11_ok, nmX11, inX11, Or.inl ⟨tb_of (in_t2 _ (List.mem_of_getElem? (i := 103) rfl)) rfl, rfl⟩⟩
theorem nc_X11_22 : NC RX11 22 5 5 := ⟨RX5, TX5, rfl, rfl, by decide, tyX5_ok, fun j hj => by rcases (show j = 0 ∨ j = 1 ∨ j = 2 ∨ j = 3 ∨ j = 4 by omega) with rfl | rfl | rfl | rfl | rfl <;> rfl, inX5, tb_of (in_t1 _ (List.mem_of_getElem? (i := 68) rfl)) rfl, tb_of (in_t3 _ (List.mem_of_getElem? (i := 110) rfl)) rfl, tb_of (in_t1 _ (List.mem_of_getElem? (i := 18) rfl)) rfl⟩
theorem mc_X5_init : Cond.code yX5_init cX5_init 4 none ∈ tb := tb_of (in_t3 _ (List.mem_of_getElem? (i := 113) rfl)) rfl
theorem mp_X5_init : yX5_init.cls ≠ "java/lang/invoke/MethodHandle" ∧ yX5_init.cls ≠ "java/lang/invoke/VarHandle" ∧ (parseMethodDescriptor yX5_init.desc).map (fun d => d.parameters.length) = some 3 := ⟨by decide +kernel, by decide +kernel, by decide +kernel⟩
theorem mn_X5_init : Cond.instanceMethod yX5_init ∈ tb := tb_of (in_t3 _ (List.mem_of_getElem? (i := 112) rfl)) rfl
theorem ci_X11_164 : CI RX11 164 yX5_init cX5_init 4 3 := ⟨⟨mc_X5_init, mi_X5, mp_X5_init, Or.inr ⟨"SlowWells", (in_t3 _ (List.mem_of_getElem? (i := 111) rfl))⟩⟩, mn_X5_init, rfl⟩
theorem mc_X11_ruleAt : Cond.code yX11_ruleAt cX11_ruleAt 2 (some (.object "SlowWells$Rule")) ∈ tb := tb_of (in_t3 _ (List.mem_of_getElem? (i := 143) rfl)) rfl
theorem mp_X11_ruleAt : yX11_ruleAt.cls ≠ "java/lang/invoke/MethodHandle" ∧ yX11_ruleAt.cls ≠ "java/lang/invoke/VarHandle" ∧ (parseMethodDescriptor yX11_ruleAt.desc).map (fun d => d.parameters.length) = some 1 := ⟨by decide +kernel, by decide +kernel, by decide +kernel⟩
theorem mn_X11_ruleAt : Cond.instanceMethod yX11_ruleAt ∈ tb := tb_of (in_t3 _ (List.mem_of_getElem? (i := 142) rfl)) rfl
theorem sl_X11_ruleAt : Cond.selects yX11_ruleAt.cls yX11_ruleAt yX11_ruleAt ∈ tb := tb_of (in_t0 _ (List.mem_of_getElem? (i := 21) rfl)) rfl
theorem cv_X11_167 : CV RX11 167 yX11_ruleAt cX11_ruleAt 2 (some (.object "SlowWells$Rule")) 1 11 := ⟨⟨mc_X11_ruleAt, mi_X11, mp_X11_ruleAt, Or.inl (tb_of (in_t3 _ (List.mem_of_getElem? (i := 140) rfl)) rfl)⟩, mn_X11_ruleAt, sl_X11_ruleAt, by decide, TX11, 19, rfl⟩
theorem fa_X11_171 : FA RX11 171 5 0 (.int) true := ⟨RX5, TX5, 5, rfl, by decide, rfl, by decide, rfl, rfl, tyX5_ok, nmX5, inX5, Or.inr ⟨"SlowWells", (in_t3 _ (List.mem_of_getElem? (i := 117) rfl))⟩⟩
theorem fa_X11_174 : FA RX11 174 5 4 (.int) false := ⟨RX5, TX5, 5, rfl, by decide, rfl, by decide, rfl, rfl, tyX5_ok, nmX5, inX5, Or.inr ⟨"SlowWells", (in_t3 _ (List.mem_of_getElem? (i := 124) rfl))⟩⟩
theorem fa_X11_177 : FA RX11 177 5 3 (.array .int) true := ⟨RX5, TX5, 5, rfl, by decide, rfl, by decide, rfl, rfl, tyX5_ok, nmX5, inX5, Or.inr ⟨"SlowWells", (in_t3 _ (List.mem_of_getElem? (i := 123) rfl))⟩⟩
theorem k_bipush_99 : (Int8.ofInt (99)).toInt32 = (99 : Int32) := by decide
theorem fa_X11_180 : FA RX11 180 11 6 (.int) false := ⟨RX11, TX11, 19, rfl, by decide, rfl, by decide, rfl, rfl, tyX11_ok, nmX11, inX11, Or.inl ⟨tb_of (in_t2 _ (List.mem_of_getElem? (i := 105) rfl)) rfl, rfl⟩⟩
theorem mc_X1_become : Cond.code yX1_become cX1_become 4 none ∈ tb := tb_of (in_t3 _ (List.mem_of_getElem? (i := 151) rfl)) rfl
theorem mp_X1_become : yX1_become.cls ≠ "java/lang/invoke/MethodHandle" ∧ yX1_become.cls ≠ "java/lang/invoke/VarHandle" ∧ (parseMethodDescriptor yX1_become.desc).map (fun d => d.parameters.length) = some 3 := ⟨by decide +kernel, by decide +kernel, by decide +kernel⟩
theorem mn_X1_become : Cond.instanceMethod yX1_become ∈ tb := tb_of (in_t3 _ (List.mem_of_getElem? (i := 150) rfl)) rfl
theorem sl_X1_become : Cond.selects yX1_become.cls yX1_become yX1_become ∈ tb := tb_of (in_t0 _ (List.mem_of_getElem? (i := 22) rfl)) rfl
theorem cv_X11_183 : CV RX11 183 yX1_become cX1_become 4 none 3 1 := ⟨⟨mc_X1_become, mi_X1, mp_X1_become, Or.inr ⟨"SlowWells", (in_t3 _ (List.mem_of_getElem? (i := 148) rfl))⟩⟩, mn_X1_become, sl_X1_become, by decide, TX1, 3, rfl⟩
theorem mc_X8_make : Cond.code yX8_make cX8_make 6 none ∈ tb := tb_of (in_t3 _ (List.mem_of_getElem? (i := 222) rfl)) rfl
theorem mp_X8_make : yX8_make.cls ≠ "java/lang/invoke/MethodHandle" ∧ yX8_make.cls ≠ "java/lang/invoke/VarHandle" ∧ (parseMethodDescriptor yX8_make.desc).map (fun d => d.parameters.length) = some 4 := ⟨by decide +kernel, by decide +kernel, by decide +kernel⟩
theorem mn_X8_make : Cond.instanceMethod yX8_make ∈ tb := tb_of (in_t3 _ (List.mem_of_getElem? (i := 221) rfl)) rfl
theorem sl_X8_make : Cond.selects yX8_make.cls yX8_make yX8_make ∈ tb := tb_of (in_t0 _ (List.mem_of_getElem? (i := 37) rfl)) rfl
theorem cv_X11_220 : CV RX11 220 yX8_make cX8_make 6 none 4 8 := ⟨⟨mc_X8_make, mi_X8, mp_X8_make, Or.inr ⟨"SlowWells", (in_t3 _ (List.mem_of_getElem? (i := 219) rfl))⟩⟩, mn_X8_make, sl_X8_make, by decide, TX8, 8, rfl⟩
theorem fa_X11_348 : FA RX11 348 1 2 (.object "SlowWells$Rule") false := ⟨RX1, TX1, 3, rfl, by decide, rfl, by decide, rfl, rfl, tyX1_ok, nmX1, inX1, Or.inr ⟨"SlowWells", (in_t2 _ (List.mem_of_getElem? (i := 73) rfl))⟩⟩
theorem mc_X3_earliest : Cond.code yX3_earliest cX3_earliest 6 (some .int) ∈ tb := tb_of (in_t3 _ (List.mem_of_getElem? (i := 174) rfl)) rfl
theorem mp_X3_earliest : yX3_earliest.cls ≠ "java/lang/invoke/MethodHandle" ∧ yX3_earliest.cls ≠ "java/lang/invoke/VarHandle" ∧ (parseMethodDescriptor yX3_earliest.desc).map (fun d => d.parameters.length) = some 3 := ⟨by decide +kernel, by decide +kernel, by decide +kernel⟩
theorem mn_X3_earliest : Cond.instanceMethod yX3_earliest ∈ tb := tb_of (in_t3 _ (List.mem_of_getElem? (i := 173) rfl)) rfl
theorem sl_X3_earliest : Cond.selects yX3_earliest.cls yX3_earliest yX3_earliest ∈ tb := tb_of (in_t0 _ (List.mem_of_getElem? (i := 26) rfl)) rfl
theorem cv_X11_275 : CV RX11 275 yX3_earliest cX3_earliest 6 (some .int) 3 3 := ⟨⟨mc_X3_earliest, mi_X3, mp_X3_earliest, Or.inr ⟨"SlowWells", (in_t3 _ (List.mem_of_getElem? (i := 171) rfl))⟩⟩, mn_X3_earliest, sl_X3_earliest, by decide, TX3, 10, rfl⟩
theorem mc_X3_plan : Cond.code yX3_plan cX3_plan 5 none ∈ tb := tb_of (in_t3 _ (List.mem_of_getElem? (i := 205) rfl)) rfl
theorem mp_X3_plan : yX3_plan.cls ≠ "java/lang/invoke/MethodHandle" ∧ yX3_plan.cls ≠ "java/lang/invoke/VarHandle" ∧ (parseMethodDescriptor yX3_plan.desc).map (fun d => d.parameters.length) = some 0 := ⟨by decide +kernel, by decide +kernel, by decide +kernel⟩
theorem mn_X3_plan : Cond.instanceMethod yX3_plan ∈ tb := tb_of (in_t3 _ (List.mem_of_getElem? (i := 204) rfl)) rfl
theorem sl_X3_plan : Cond.selects yX3_plan.cls yX3_plan yX3_plan ∈ tb := tb_of (in_t0 _ (List.mem_of_getElem? (i := 33) rfl)) rfl
theorem cv_X11_352 : CV RX11 352 yX3_plan cX3_plan 5 none 0 3 := ⟨⟨mc_X3_plan, mi_X3, mp_X3_plan, Or.inr ⟨"SlowWells", (in_t3 _ (List.mem_of_getElem? (i := 202) rfl))⟩⟩, mn_X3_plan, sl_X3_plan, by decide, TX3, 10, rfl⟩
theorem fa_X11_355 : FA RX11 355 3 0 (.array .int) true := ⟨RX3, TX3, 10, rfl, by decide, rfl, by decide, rfl, rfl, tyX3_ok, nmX3, inX3, Or.inr ⟨"SlowWells", (in_t1 _ (List.mem_of_getElem? (i := 187) rfl))⟩⟩
theorem fa_X11_208 : FA RX11 208 8 0 (.int) false := ⟨RX8, TX8, 8, rfl, by decide, rfl, by decide, rfl, rfl, tyX8_ok, nmX8, inX8, Or.inr ⟨"SlowWells", (in_t1 _ (List.mem_of_getElem? (i := 152) rfl))⟩⟩
theorem fa_X11_345 : FA RX11 345 9 3 (.int) false := ⟨RX9, TX9, 9, rfl, by decide, rfl, by decide, rfl, rfl, tyX9_ok, nmX9, inX9, Or.inr ⟨"SlowWells", (in_t2 _ (List.mem_of_getElem? (i := 23) rfl))⟩⟩
theorem fa_X11_290 : FA RX11 290 8 1 (.int) false := ⟨RX8, TX8, 8, rfl, by decide, rfl, by decide, rfl, rfl, tyX8_ok, nmX8, inX8, Or.inr ⟨"SlowWells", (in_t1 _ (List.mem_of_getElem? (i := 154) rfl))⟩⟩
theorem mc_X11_worthOf : Cond.code yX11_worthOf cX11_worthOf 2 (some .int) ∈ tb := tb_of (in_t4 _ (List.mem_of_getElem? (i := 27) rfl)) rfl
theorem mp_X11_worthOf : yX11_worthOf.cls ≠ "java/lang/invoke/MethodHandle" ∧ yX11_worthOf.cls ≠ "java/lang/invoke/VarHandle" ∧ (parseMethodDescriptor yX11_worthOf.desc).map (fun d => d.parameters.length) = some 1 := ⟨by decide +kernel, by decide +kernel, by decide +kernel⟩
theorem mn_X11_worthOf : Cond.instanceMethod yX11_worthOf ∈ tb := tb_of (in_t4 _ (List.mem_of_getElem? (i := 26) rfl)) rfl
theorem sl_X11_worthOf : Cond.selects yX11_worthOf.cls yX11_worthOf yX11_worthOf ∈ tb := tb_of (in_t0 _ (List.mem_of_getElem? (i := 47) rfl)) rfl
theorem cv_X11_224 : CV RX11 224 yX11_worthOf cX11_worthOf 2 (some .int) 1 11 := ⟨⟨mc_X11_worthOf, mi_X11, mp_X11_worthOf, Or.inl (tb_of (in_t4 _ (List.mem_of_getElem? (i := 24) rfl)) rfl)⟩, mn_X11_worthOf, sl_X11_worthOf, by decide, TX11, 19, rfl⟩
theorem fa_X11_342 : FA RX11 342 8 3 (.array .int) true := ⟨RX8, TX8, 8, rfl, by decide, rfl, by decide, rfl, rfl, tyX8_ok, nmX8, inX8, Or.inr ⟨"SlowWells", (in_t1 _ (List.mem_of_getElem? (i := 158) rfl))⟩⟩
theorem fa_X11_339 : FA RX11 339 8 2 (.array .int) true := ⟨RX8, TX8, 8, rfl, by decide, rfl, by decide, rfl, rfl, tyX8_ok, nmX8, inX8, Or.inr ⟨"SlowWells", (in_t1 _ (List.mem_of_getElem? (i := 156) rfl))⟩⟩
theorem mc_X11_caravanAt : Cond.code yX11_caravanAt cX11_caravanAt 2 (some (.object "SlowWells$Caravan")) ∈ tb := tb_of (in_t3 _ (List.mem_of_getElem? (i := 159) rfl)) rfl
theorem mp_X11_caravanAt : yX11_caravanAt.cls ≠ "java/lang/invoke/MethodHandle" ∧ yX11_caravanAt.cls ≠ "java/lang/invoke/VarHandle" ∧ (parseMethodDescriptor yX11_caravanAt.desc).map (fun d => d.parameters.length) = some 1 := ⟨by decide +kernel, by decide +kernel, by decide +kernel⟩
theorem mn_X11_caravanAt : Cond.instanceMethod yX11_caravanAt ∈ tb := tb_of (in_t3 _ (List.mem_of_getElem? (i := 158) rfl)) rfl
theorem sl_X11_caravanAt : Cond.selects yX11_caravanAt.cls yX11_caravanAt yX11_caravanAt ∈ tb := tb_of (in_t0 _ (List.mem_of_getElem? (i := 23) rfl)) rfl
theorem cv_X11_187 : CV RX11 187 yX11_caravanAt cX11_caravanAt 2 (some (.object "SlowWells$Caravan")) 1 11 := ⟨⟨mc_X11_caravanAt, mi_X11, mp_X11_caravanAt, Or.inl (tb_of (in_t3 _ (List.mem_of_getElem? (i := 156) rfl)) rfl)⟩, mn_X11_caravanAt, sl_X11_caravanAt, by decide, TX11, 19, rfl⟩
theorem mc_X11_isAskedOfTrip : Cond.code yX11_isAskedOfTrip cX11_isAskedOfTrip 1 (some .boolean) ∈ tb := tb_of (in_t3 _ (List.mem_of_getElem? (i := 162) rfl)) rfl
theorem mp_X11_isAskedOfTrip : yX11_isAskedOfTrip.cls ≠ "java/lang/invoke/MethodHandle" ∧ yX11_isAskedOfTrip.cls ≠ "java/lang/invoke/VarHandle" ∧ (parseMethodDescriptor yX11_isAskedOfTrip.desc).map (fun d => d.parameters.length) = some 1 := ⟨by decide +kernel, by decide +kernel, by decide +kernel⟩
theorem ms_X11_isAskedOfTrip : Cond.static yX11_isAskedOfTrip ∈ tb := tb_of (in_t3 _ (List.mem_of_getElem? (i := 161) rfl)) rfl
theorem cs_X11_191 : CS RX11 191 yX11_isAskedOfTrip cX11_isAskedOfTrip 1 (some .boolean) 1 := ⟨⟨mc_X11_isAskedOfTrip, mi_X11, mp_X11_isAskedOfTrip, Or.inl (tb_of (in_t3 _ (List.mem_of_getElem? (i := 160) rfl)) rfl)⟩, ms_X11_isAskedOfTrip⟩
theorem cv_X11_195 : CV RX11 195 yX10_become cX10_become 3 none 1 10 := ⟨⟨mc_X10_become, mi_X10, mp_X10_become, Or.inr ⟨"SlowWells", (in_t3 _ (List.mem_of_getElem? (i := 163) rfl))⟩⟩, mn_X10_become, sl_X10_become, by decide, TX10, 4, rfl⟩
theorem mc_X11_send : Cond.code yX11_send cX11_send 5 none ∈ tb := tb_of (in_t3 _ (List.mem_of_getElem? (i := 170) rfl)) rfl
theorem mp_X11_send : yX11_send.cls ≠ "java/lang/invoke/MethodHandle" ∧ yX11_send.cls ≠ "java/lang/invoke/VarHandle" ∧ (parseMethodDescriptor yX11_send.desc).map (fun d => d.parameters.length) = some 3 := ⟨by decide +kernel, by decide +kernel, by decide +kernel⟩
theorem mn_X11_send : Cond.instanceMethod yX11_send ∈ tb := tb_of (in_t3 _ (List.mem_of_getElem? (i := 169) rfl)) rfl
theorem sl_X11_send : Cond.selects yX11_send.cls yX11_send yX11_send ∈ tb := tb_of (in_t0 _ (List.mem_of_getElem? (i := 25) rfl)) rfl
theorem cv_X11_198 : CV RX11 198 yX11_send cX11_send 5 none 3 11 := ⟨⟨mc_X11_send, mi_X11, mp_X11_send, Or.inl (tb_of (in_t3 _ (List.mem_of_getElem? (i := 167) rfl)) rfl)⟩, mn_X11_send, sl_X11_send, by decide, TX11, 19, rfl⟩
theorem fa_X11_202 : FA RX11 202 1 0 (.int) false := ⟨RX1, TX1, 3, rfl, by decide, rfl, by decide, rfl, rfl, tyX1_ok, nmX1, inX1, Or.inr ⟨"SlowWells", (in_t2 _ (List.mem_of_getElem? (i := 67) rfl))⟩⟩
theorem mc_X11_tellTrip : Cond.code yX11_tellTrip cX11_tellTrip 4 (some .int) ∈ tb := tb_of (in_t4 _ (List.mem_of_getElem? (i := 23) rfl)) rfl
theorem mp_X11_tellTrip : yX11_tellTrip.cls ≠ "java/lang/invoke/MethodHandle" ∧ yX11_tellTrip.cls ≠ "java/lang/invoke/VarHandle" ∧ (parseMethodDescriptor yX11_tellTrip.desc).map (fun d => d.parameters.length) = some 2 := ⟨by decide +kernel, by decide +kernel, by decide +kernel⟩
theorem mn_X11_tellTrip : Cond.instanceMethod yX11_tellTrip ∈ tb := tb_of (in_t4 _ (List.mem_of_getElem? (i := 22) rfl)) rfl
theorem sl_X11_tellTrip : Cond.selects yX11_tellTrip.cls yX11_tellTrip yX11_tellTrip ∈ tb := tb_of (in_t0 _ (List.mem_of_getElem? (i := 46) rfl)) rfl
theorem cv_X11_205 : CV RX11 205 yX11_tellTrip cX11_tellTrip 4 (some .int) 2 11 := ⟨⟨mc_X11_tellTrip, mi_X11, mp_X11_tellTrip, Or.inl (tb_of (in_t4 _ (List.mem_of_getElem? (i := 20) rfl)) rfl)⟩, mn_X11_tellTrip, sl_X11_tellTrip, by decide, TX11, 19, rfl⟩
theorem fa_X11_214 : FA RX11 214 6 6 (.int) false := ⟨RX6, TX6, 7, rfl, by decide, rfl, by decide, rfl, rfl, tyX6_ok, nmX6, inX6, Or.inr ⟨"SlowWells", (in_t1 _ (List.mem_of_getElem? (i := 112) rfl))⟩⟩
theorem fa_X11_217 : FA RX11 217 6 5 (.array .int) true := ⟨RX6, TX6, 7, rfl, by decide, rfl, by decide, rfl, rfl, tyX6_ok, nmX6, inX6, Or.inr ⟨"SlowWells", (in_t1 _ (List.mem_of_getElem? (i := 110) rfl))⟩⟩
theorem mc_X6_emptyHand : Cond.code yX6_emptyHand cX6_emptyHand 2 none ∈ tb := tb_of (in_t4 _ (List.mem_of_getElem? (i := 39) rfl)) rfl
theorem mp_X6_emptyHand : yX6_emptyHand.cls ≠ "java/lang/invoke/MethodHandle" ∧ yX6_emptyHand.cls ≠ "java/lang/invoke/VarHandle" ∧ (parseMethodDescriptor yX6_emptyHand.desc).map (fun d => d.parameters.length) = some 0 := ⟨by decide +kernel, by decide +kernel, by decide +kernel⟩
theorem mn_X6_emptyHand : Cond.instanceMethod yX6_emptyHand ∈ tb := tb_of (in_t4 _ (List.mem_of_getElem? (i := 38) rfl)) rfl
theorem sl_X6_emptyHand : Cond.selects yX6_emptyHand.cls yX6_emptyHand yX6_emptyHand ∈ tb := tb_of (in_t0 _ (List.mem_of_getElem? (i := 48) rfl)) rfl
theorem cv_X11_211 : CV RX11 211 yX6_emptyHand cX6_emptyHand 2 none 0 6 := ⟨⟨mc_X6_emptyHand, mi_X6, mp_X6_emptyHand, Or.inr ⟨"SlowWells", (in_t4 _ (List.mem_of_getElem? (i := 36) rfl))⟩⟩, mn_X6_emptyHand, sl_X6_emptyHand, by decide, TX6, 7, rfl⟩
theorem fa_X11_227 : FA RX11 227 6 4 (.int) false := ⟨RX6, TX6, 7, rfl, by decide, rfl, by decide, rfl, rfl, tyX6_ok, nmX6, inX6, Or.inr ⟨"SlowWells", (in_t1 _ (List.mem_of_getElem? (i := 108) rfl))⟩⟩
theorem fa_X11_230 : FA RX11 230 6 3 (.array .int) true := ⟨RX6, TX6, 7, rfl, by decide, rfl, by decide, rfl, rfl, tyX6_ok, nmX6, inX6, Or.inr ⟨"SlowWells", (in_t1 _ (List.mem_of_getElem? (i := 106) rfl))⟩⟩
theorem gs_X11_243 : Cond.fieldLink RX11 243 (zC 1) (zN 1) "[I" ∈ tb ∨ ∃ host, Cond.fieldLinkNest RX11 243 (zC 1) (zN 1) "[I" host ∈ lw_tbl := Or.inl (tb_of (in_t4 _ (List.mem_of_getElem? (i := 64) rfl)) rfl)
theorem mc_X2_note : Cond.code yX2_note cX2_note 4 none ∈ tb := tb_of (in_t4 _ (List.mem_of_getElem? (i := 69) rfl)) rfl
theorem mp_X2_note : yX2_note.cls ≠ "java/lang/invoke/MethodHandle" ∧ yX2_note.cls ≠ "java/lang/invoke/VarHandle" ∧ (parseMethodDescriptor yX2_note.desc).map (fun d => d.parameters.length) = some 3 := ⟨by decide +kernel, by decide +kernel, by decide +kernel⟩
theorem mn_X2_note : Cond.instanceMethod yX2_note ∈ tb := tb_of (in_t4 _ (List.mem_of_getElem? (i := 68) rfl)) rfl
theorem sl_X2_note : Cond.selects yX2_note.cls yX2_note yX2_note ∈ tb := tb_of (in_t0 _ (List.mem_of_getElem? (i := 51) rfl)) rfl
theorem cv_X11_359 : CV RX11 359 yX2_note cX2_note 4 none 3 2 := ⟨⟨mc_X2_note, mi_X2, mp_X2_note, Or.inr ⟨"SlowWells", (in_t4 _ (List.mem_of_getElem? (i := 66) rfl))⟩⟩, mn_X2_note, sl_X2_note, by decide, TX2, 6, rfl⟩
theorem mc_X2_begin : Cond.code yX2_begin cX2_begin 2 none ∈ tb := tb_of (in_t4 _ (List.mem_of_getElem? (i := 63) rfl)) rfl
theorem mp_X2_begin : yX2_begin.cls ≠ "java/lang/invoke/MethodHandle" ∧ yX2_begin.cls ≠ "java/lang/invoke/VarHandle" ∧ (parseMethodDescriptor yX2_begin.desc).map (fun d => d.parameters.length) = some 0 := ⟨by decide +kernel, by decide +kernel, by decide +kernel⟩
theorem mn_X2_begin : Cond.instanceMethod yX2_begin ∈ tb := tb_of (in_t4 _ (List.mem_of_getElem? (i := 62) rfl)) rfl
theorem sl_X2_begin : Cond.selects yX2_begin.cls yX2_begin yX2_begin ∈ tb := tb_of (in_t0 _ (List.mem_of_getElem? (i := 50) rfl)) rfl
theorem cv_X11_356 : CV RX11 356 yX2_begin cX2_begin 2 none 0 2 := ⟨⟨mc_X2_begin, mi_X2, mp_X2_begin, Or.inr ⟨"SlowWells", (in_t4 _ (List.mem_of_getElem? (i := 60) rfl))⟩⟩, mn_X2_begin, sl_X2_begin, by decide, TX2, 6, rfl⟩
theorem mc_X2_placeAt : Cond.code yX2_placeAt cX2_placeAt 4 (some .int) ∈ tb := tb_of (in_t4 _ (List.mem_of_getElem? (i := 89) rfl)) rfl
theorem mp_X2_placeAt : yX2_placeAt.cls ≠ "java/lang/invoke/MethodHandle" ∧ yX2_placeAt.cls ≠ "java/lang/invoke/VarHandle" ∧ (parseMethodDescriptor yX2_placeAt.desc).map (fun d => d.parameters.length) = some 2 := ⟨by decide +kernel, by decide +kernel, by decide +kernel⟩
theorem mn_X2_placeAt : Cond.instanceMethod yX2_placeAt ∈ tb := tb_of (in_t4 _ (List.mem_of_getElem? (i := 88) rfl)) rfl
theorem sl_X2_placeAt : Cond.selects yX2_placeAt.cls yX2_placeAt yX2_placeAt ∈ tb := tb_of (in_t0 _ (List.mem_of_getElem? (i := 55) rfl)) rfl
theorem cv_X11_256 : CV RX11 256 yX2_placeAt cX2_placeAt 4 (some .int) 2 2 := ⟨⟨mc_X2_placeAt, mi_X2, mp_X2_placeAt, Or.inr ⟨"SlowWells", (in_t4 _ (List.mem_of_getElem? (i := 86) rfl))⟩⟩, mn_X2_placeAt, sl_X2_placeAt, by decide, TX2, 6, rfl⟩
theorem fa_X11_253 : FA RX11 253 2 4 (.int) false := ⟨RX2, TX2, 6, rfl, by decide, rfl, by decide, rfl, rfl, tyX2_ok, nmX2, inX2, Or.inr ⟨"SlowWells", (in_t1 _ (List.mem_of_getElem? (i := 229) rfl))⟩⟩
theorem mc_X11_isOrderOf : Cond.code yX11_isOrderOf cX11_isOrderOf 3 (some .boolean) ∈ tb := tb_of (in_t4 _ (List.mem_of_getElem? (i := 81) rfl)) rfl
theorem mp_X11_isOrderOf : yX11_isOrderOf.cls ≠ "java/lang/invoke/MethodHandle" ∧ yX11_isOrderOf.cls ≠ "java/lang/invoke/VarHandle" ∧ (parseMethodDescriptor yX11_isOrderOf.desc).map (fun d => d.parameters.length) = some 2 := ⟨by decide +kernel, by decide +kernel, by decide +kernel⟩
theorem ms_X11_isOrderOf : Cond.static yX11_isOrderOf ∈ tb := tb_of (in_t4 _ (List.mem_of_getElem? (i := 80) rfl)) rfl
theorem cs_X11_246 : CS RX11 246 yX11_isOrderOf cX11_isOrderOf 3 (some .boolean) 2 := ⟨⟨mc_X11_isOrderOf, mi_X11, mp_X11_isOrderOf, Or.inl (tb_of (in_t4 _ (List.mem_of_getElem? (i := 79) rfl)) rfl)⟩, ms_X11_isOrderOf⟩
theorem mc_X11_sendSeveral : Cond.code yX11_sendSeveral cX11_sendSeveral 5 none ∈ tb := tb_of (in_t4 _ (List.mem_of_getElem? (i := 59) rfl)) rfl
theorem mp_X11_sendSeveral : yX11_sendSeveral.cls ≠ "java/lang/invoke/MethodHandle" ∧ yX11_sendSeveral.cls ≠ "java/lang/invoke/VarHandle" ∧ (parseMethodDescriptor yX11_sendSeveral.desc).map (fun d => d.parameters.length) = some 1 := ⟨by decide +kernel, by decide +kernel, by decide +kernel⟩
theorem mn_X11_sendSeveral : Cond.instanceMethod yX11_sendSeveral ∈ tb := tb_of (in_t4 _ (List.mem_of_getElem? (i := 58) rfl)) rfl
theorem sl_X11_sendSeveral : Cond.selects yX11_sendSeveral.cls yX11_sendSeveral yX11_sendSeveral ∈ tb := tb_of (in_t0 _ (List.mem_of_getElem? (i := 49) rfl)) rfl
theorem cv_X11_233 : CV RX11 233 yX11_sendSeveral cX11_sendSeveral 5 none 1 11 := ⟨⟨mc_X11_sendSeveral, mi_X11, mp_X11_sendSeveral, Or.inl (tb_of (in_t4 _ (List.mem_of_getElem? (i := 56) rfl)) rfl)⟩, mn_X11_sendSeveral, sl_X11_sendSeveral, by decide, TX11, 19, rfl⟩
theorem mc_X2_compare : Cond.code yX2_compare cX2_compare 3 none ∈ tb := tb_of (in_t4 _ (List.mem_of_getElem? (i := 85) rfl)) rfl
theorem mp_X2_compare : yX2_compare.cls ≠ "java/lang/invoke/MethodHandle" ∧ yX2_compare.cls ≠ "java/lang/invoke/VarHandle" ∧ (parseMethodDescriptor yX2_compare.desc).map (fun d => d.parameters.length) = some 1 := ⟨by decide +kernel, by decide +kernel, by decide +kernel⟩
theorem mn_X2_compare : Cond.instanceMethod yX2_compare ∈ tb := tb_of (in_t4 _ (List.mem_of_getElem? (i := 84) rfl)) rfl
theorem sl_X2_compare : Cond.selects yX2_compare.cls yX2_compare yX2_compare ∈ tb := tb_of (in_t0 _ (List.mem_of_getElem? (i := 54) rfl)) rfl
theorem cv_X11_250 : CV RX11 250 yX2_compare cX2_compare 3 none 1 2 := ⟨⟨mc_X2_compare, mi_X2, mp_X2_compare, Or.inr ⟨"SlowWells", (in_t4 _ (List.mem_of_getElem? (i := 82) rfl))⟩⟩, mn_X2_compare, sl_X2_compare, by decide, TX2, 6, rfl⟩
theorem mc_X2_tell : Cond.code yX2_tell cX2_tell 2 (some .int) ∈ tb := tb_of (in_t4 _ (List.mem_of_getElem? (i := 74) rfl)) rfl
theorem mp_X2_tell : yX2_tell.cls ≠ "java/lang/invoke/MethodHandle" ∧ yX2_tell.cls ≠ "java/lang/invoke/VarHandle" ∧ (parseMethodDescriptor yX2_tell.desc).map (fun d => d.parameters.length) = some 1 := ⟨by decide +kernel, by decide +kernel, by decide +kernel⟩
theorem mn_X2_tell : Cond.instanceMethod yX2_tell ∈ tb := tb_of (in_t4 _ (List.mem_of_getElem? (i := 73) rfl)) rfl
theorem sl_X2_tell : Cond.selects yX2_tell.cls yX2_tell yX2_tell ∈ tb := tb_of (in_t0 _ (List.mem_of_getElem? (i := 52) rfl)) rfl
theorem cv_X11_237 : CV RX11 237 yX2_tell cX2_tell 2 (some .int) 1 2 := ⟨⟨mc_X2_tell, mi_X2, mp_X2_tell, Or.inr ⟨"SlowWells", (in_t4 _ (List.mem_of_getElem? (i := 71) rfl))⟩⟩, mn_X2_tell, sl_X2_tell, by decide, TX2, 6, rfl⟩
theorem mc_X2_forgetOrder : Cond.code yX2_forgetOrder cX2_forgetOrder 1 none ∈ tb := tb_of (in_t4 _ (List.mem_of_getElem? (i := 78) rfl)) rfl
theorem mp_X2_forgetOrder : yX2_forgetOrder.cls ≠ "java/lang/invoke/MethodHandle" ∧ yX2_forgetOrder.cls ≠ "java/lang/invoke/VarHandle" ∧ (parseMethodDescriptor yX2_forgetOrder.desc).map (fun d => d.parameters.length) = some 0 := ⟨by decide +kernel, by decide +kernel, by decide +kernel⟩
theorem mn_X2_forgetOrder : Cond.instanceMethod yX2_forgetOrder ∈ tb := tb_of (in_t4 _ (List.mem_of_getElem? (i := 77) rfl)) rfl
theorem sl_X2_forgetOrder : Cond.selects yX2_forgetOrder.cls yX2_forgetOrder yX2_forgetOrder ∈ tb := tb_of (in_t0 _ (List.mem_of_getElem? (i := 53) rfl)) rfl
theorem cv_X11_240 : CV RX11 240 yX2_forgetOrder cX2_forgetOrder 1 none 0 2 := ⟨⟨mc_X2_forgetOrder, mi_X2, mp_X2_forgetOrder, Or.inr ⟨"SlowWells", (in_t4 _ (List.mem_of_getElem? (i := 75) rfl))⟩⟩, mn_X2_forgetOrder, sl_X2_forgetOrder, by decide, TX2, 6, rfl⟩
theorem mc_X10_dryUp : Cond.code yX10_dryUp cX10_dryUp 2 none ∈ tb := tb_of (in_t4 _ (List.mem_of_getElem? (i := 107) rfl)) rfl
theorem mp_X10_dryUp : yX10_dryUp.cls ≠ "java/lang/invoke/MethodHandle" ∧ yX10_dryUp.cls ≠ "java/lang/invoke/VarHandle" ∧ (parseMethodDescriptor yX10_dryUp.desc).map (fun d => d.parameters.length) = some 1 := ⟨by decide +kernel, by decide +kernel, by decide +kernel⟩
theorem mn_X10_dryUp : Cond.instanceMethod yX10_dryUp ∈ tb := tb_of (in_t4 _ (List.mem_of_getElem? (i := 106) rfl)) rfl
theorem sl_X10_dryUp : Cond.selects yX10_dryUp.cls yX10_dryUp yX10_dryUp ∈ tb := tb_of (in_t0 _ (List.mem_of_getElem? (i := 58) rfl)) rfl
theorem cv_X11_362 : CV RX11 362 yX10_dryUp cX10_dryUp 2 none 1 10 := ⟨⟨mc_X10_dryUp, mi_X10, mp_X10_dryUp, Or.inr ⟨"SlowWells", (in_t4 _ (List.mem_of_getElem? (i := 104) rfl))⟩⟩, mn_X10_dryUp, sl_X10_dryUp, by decide, TX10, 4, rfl⟩
theorem mc_X11_commonDivisor : Cond.code yX11_commonDivisor cX11_commonDivisor 6 (some .int) ∈ tb := tb_of (in_t4 _ (List.mem_of_getElem? (i := 110) rfl)) rfl
theorem mp_X11_commonDivisor : yX11_commonDivisor.cls ≠ "java/lang/invoke/MethodHandle" ∧ yX11_commonDivisor.cls ≠ "java/lang/invoke/VarHandle" ∧ (parseMethodDescriptor yX11_commonDivisor.desc).map (fun d => d.parameters.length) = some 2 := ⟨by decide +kernel, by decide +kernel, by decide +kernel⟩
theorem ms_X11_commonDivisor : Cond.static yX11_commonDivisor ∈ tb := tb_of (in_t4 _ (List.mem_of_getElem? (i := 109) rfl)) rfl
theorem cs_X11_268 : CS RX11 268 yX11_commonDivisor cX11_commonDivisor 6 (some .int) 2 := ⟨⟨mc_X11_commonDivisor, mi_X11, mp_X11_commonDivisor, Or.inl (tb_of (in_t4 _ (List.mem_of_getElem? (i := 108) rfl)) rfl)⟩, ms_X11_commonDivisor⟩
theorem ct_X11_259 : Cond.constantLong RX11 259 (-9223372036854775808) ∈ tb := tb_of (in_t4 _ (List.mem_of_getElem? (i := 95) rfl)) rfl
theorem mc_X11_weightOf : Cond.code yX11_weightOf cX11_weightOf 5 (some .int) ∈ tb := tb_of (in_t4 _ (List.mem_of_getElem? (i := 99) rfl)) rfl
theorem mp_X11_weightOf : yX11_weightOf.cls ≠ "java/lang/invoke/MethodHandle" ∧ yX11_weightOf.cls ≠ "java/lang/invoke/VarHandle" ∧ (parseMethodDescriptor yX11_weightOf.desc).map (fun d => d.parameters.length) = some 1 := ⟨by decide +kernel, by decide +kernel, by decide +kernel⟩
theorem mn_X11_weightOf : Cond.instanceMethod yX11_weightOf ∈ tb := tb_of (in_t4 _ (List.mem_of_getElem? (i := 98) rfl)) rfl
theorem sl_X11_weightOf : Cond.selects yX11_weightOf.cls yX11_weightOf yX11_weightOf ∈ tb := tb_of (in_t0 _ (List.mem_of_getElem? (i := 56) rfl)) rfl
theorem cv_X11_261 : CV RX11 261 yX11_weightOf cX11_weightOf 5 (some .int) 1 11 := ⟨⟨mc_X11_weightOf, mi_X11, mp_X11_weightOf, Or.inl (tb_of (in_t4 _ (List.mem_of_getElem? (i := 96) rfl)) rfl)⟩, mn_X11_weightOf, sl_X11_weightOf, by decide, TX11, 19, rfl⟩
theorem mc_X11_comesOverWithDry : Cond.code yX11_comesOverWithDry cX11_comesOverWithDry 4 (some .boolean) ∈ tb := tb_of (in_t4 _ (List.mem_of_getElem? (i := 103) rfl)) rfl
theorem mp_X11_comesOverWithDry : yX11_comesOverWithDry.cls ≠ "java/lang/invoke/MethodHandle" ∧ yX11_comesOverWithDry.cls ≠ "java/lang/invoke/VarHandle" ∧ (parseMethodDescriptor yX11_comesOverWithDry.desc).map (fun d => d.parameters.length) = some 2 := ⟨by decide +kernel, by decide +kernel, by decide +kernel⟩
theorem mn_X11_comesOverWithDry : Cond.instanceMethod yX11_comesOverWithDry ∈ tb := tb_of (in_t4 _ (List.mem_of_getElem? (i := 102) rfl)) rfl
theorem sl_X11_comesOverWithDry : Cond.selects yX11_comesOverWithDry.cls yX11_comesOverWithDry yX11_comesOverWithDry ∈ tb := tb_of (in_t0 _ (List.mem_of_getElem? (i := 57) rfl)) rfl
theorem cv_X11_264 : CV RX11 264 yX11_comesOverWithDry cX11_comesOverWithDry 4 (some .boolean) 2 11 := ⟨⟨mc_X11_comesOverWithDry, mi_X11, mp_X11_comesOverWithDry, Or.inl (tb_of (in_t4 _ (List.mem_of_getElem? (i := 100) rfl)) rfl)⟩, mn_X11_comesOverWithDry, sl_X11_comesOverWithDry, by decide, TX11, 19, rfl⟩
theorem mc_X9_becomeDug : Cond.code yX9_becomeDug cX9_becomeDug 7 none ∈ tb := tb_of (in_t4 _ (List.mem_of_getElem? (i := 118) rfl)) rfl
theorem mp_X9_becomeDug : yX9_becomeDug.cls ≠ "java/lang/invoke/MethodHandle" ∧ yX9_becomeDug.cls ≠ "java/lang/invoke/VarHandle" ∧ (parseMethodDescriptor yX9_becomeDug.desc).map (fun d => d.parameters.length) = some 5 := ⟨by decide +kernel, by decide +kernel, by decide +kernel⟩
theorem mn_X9_becomeDug : Cond.instanceMethod yX9_becomeDug ∈ tb := tb_of (in_t4 _ (List.mem_of_getElem? (i := 117) rfl)) rfl
theorem sl_X9_becomeDug : Cond.selects yX9_becomeDug.cls yX9_becomeDug yX9_becomeDug ∈ tb := tb_of (in_t0 _ (List.mem_of_getElem? (i := 59) rfl)) rfl
theorem cv_X11_271 : CV RX11 271 yX9_becomeDug cX9_becomeDug 7 none 5 9 := ⟨⟨mc_X9_becomeDug, mi_X9, mp_X9_becomeDug, Or.inr ⟨"SlowWells", (in_t4 _ (List.mem_of_getElem? (i := 115) rfl))⟩⟩, mn_X9_becomeDug, sl_X9_becomeDug, by decide, TX9, 9, rfl⟩
theorem mc_X7_isPlace : Cond.code yX7_isPlace cX7_isPlace 2 (some .boolean) ∈ tb := tb_of (in_t4 _ (List.mem_of_getElem? (i := 137) rfl)) rfl
theorem mp_X7_isPlace : yX7_isPlace.cls ≠ "java/lang/invoke/MethodHandle" ∧ yX7_isPlace.cls ≠ "java/lang/invoke/VarHandle" ∧ (parseMethodDescriptor yX7_isPlace.desc).map (fun d => d.parameters.length) = some 1 := ⟨by decide +kernel, by decide +kernel, by decide +kernel⟩
theorem mn_X7_isPlace : Cond.instanceMethod yX7_isPlace ∈ tb := tb_of (in_t4 _ (List.mem_of_getElem? (i := 136) rfl)) rfl
theorem sl_X7_isPlace : Cond.selects yX7_isPlace.cls yX7_isPlace yX7_isPlace ∈ tb := tb_of (in_t0 _ (List.mem_of_getElem? (i := 62) rfl)) rfl
theorem cv_X11_293 : CV RX11 293 yX7_isPlace cX7_isPlace 2 (some .boolean) 1 7 := ⟨⟨mc_X7_isPlace, mi_X7, mp_X7_isPlace, Or.inr ⟨"SlowWells", (in_t4 _ (List.mem_of_getElem? (i := 134) rfl))⟩⟩, mn_X7_isPlace, sl_X7_isPlace, by decide, TX7, 3, rfl⟩
theorem fa_X11_319 : FA RX11 319 7 2 (.array .long) true := ⟨RX7, TX7, 3, rfl, by decide, rfl, by decide, rfl, rfl, tyX7_ok, nmX7, inX7, Or.inr ⟨"SlowWells", (in_t2 _ (List.mem_of_getElem? (i := 90) rfl))⟩⟩
theorem ct_X11_365 : Cond.constantLong RX11 365 (6) ∈ tb := tb_of (in_t4 _ (List.mem_of_getElem? (i := 138) rfl)) rfl
theorem mc_X11_copyStands : Cond.code yX11_copyStands cX11_copyStands 6 (some .int) ∈ tb := tb_of (in_t4 _ (List.mem_of_getElem? (i := 133) rfl)) rfl
theorem mp_X11_copyStands : yX11_copyStands.cls ≠ "java/lang/invoke/MethodHandle" ∧ yX11_copyStands.cls ≠ "java/lang/invoke/VarHandle" ∧ (parseMethodDescriptor yX11_copyStands.desc).map (fun d => d.parameters.length) = some 3 := ⟨by decide +kernel, by decide +kernel, by decide +kernel⟩
theorem mn_X11_copyStands : Cond.instanceMethod yX11_copyStands ∈ tb := tb_of (in_t4 _ (List.mem_of_getElem? (i := 132) rfl)) rfl
theorem sl_X11_copyStands : Cond.selects yX11_copyStands.cls yX11_copyStands yX11_copyStands ∈ tb := tb_of (in_t0 _ (List.mem_of_getElem? (i := 61) rfl)) rfl
theorem cv_X11_286 : CV RX11 286 yX11_copyStands cX11_copyStands 6 (some .int) 3 11 := ⟨⟨mc_X11_copyStands, mi_X11, mp_X11_copyStands, Or.inl (tb_of (in_t4 _ (List.mem_of_getElem? (i := 130) rfl)) rfl)⟩, mn_X11_copyStands, sl_X11_copyStands, by decide, TX11, 19, rfl⟩
theorem mc_X11_tapeAt : Cond.code yX11_tapeAt cX11_tapeAt 2 (some (.object "SlowWells$Tape")) ∈ tb := tb_of (in_t4 _ (List.mem_of_getElem? (i := 129) rfl)) rfl
theorem mp_X11_tapeAt : yX11_tapeAt.cls ≠ "java/lang/invoke/MethodHandle" ∧ yX11_tapeAt.cls ≠ "java/lang/invoke/VarHandle" ∧ (parseMethodDescriptor yX11_tapeAt.desc).map (fun d => d.parameters.length) = some 1 := ⟨by decide +kernel, by decide +kernel, by decide +kernel⟩
theorem mn_X11_tapeAt : Cond.instanceMethod yX11_tapeAt ∈ tb := tb_of (in_t4 _ (List.mem_of_getElem? (i := 128) rfl)) rfl
theorem sl_X11_tapeAt : Cond.selects yX11_tapeAt.cls yX11_tapeAt yX11_tapeAt ∈ tb := tb_of (in_t0 _ (List.mem_of_getElem? (i := 60) rfl)) rfl
theorem cv_X11_279 : CV RX11 279 yX11_tapeAt cX11_tapeAt 2 (some (.object "SlowWells$Tape")) 1 11 := ⟨⟨mc_X11_tapeAt, mi_X11, mp_X11_tapeAt, Or.inl (tb_of (in_t4 _ (List.mem_of_getElem? (i := 126) rfl)) rfl)⟩, mn_X11_tapeAt, sl_X11_tapeAt, by decide, TX11, 19, rfl⟩
theorem fa_X11_283 : FA RX11 283 7 0 (.int) false := ⟨RX7, TX7, 3, rfl, by decide, rfl, by decide, rfl, rfl, tyX7_ok, nmX7, inX7, Or.inr ⟨"SlowWells", (in_t2 _ (List.mem_of_getElem? (i := 87) rfl))⟩⟩
theorem k_bipush_m12 : (Int8.ofInt (-12)).toInt32 = (-12 : Int32) := by decide
theorem mc_X6_become : Cond.code yX6_become cX6_become 3 none ∈ tb := tb_of (in_t4 _ (List.mem_of_getElem? (i := 146) rfl)) rfl
theorem mp_X6_become : yX6_become.cls ≠ "java/lang/invoke/MethodHandle" ∧ yX6_become.cls ≠ "java/lang/invoke/VarHandle" ∧ (parseMethodDescriptor yX6_become.desc).map (fun d => d.parameters.length) = some 1 := ⟨by decide +kernel, by decide +kernel, by decide +kernel⟩
theorem mn_X6_become : Cond.instanceMethod yX6_become ∈ tb := tb_of (in_t4 _ (List.mem_of_getElem? (i := 145) rfl)) rfl
theorem sl_X6_become : Cond.selects yX6_become.cls yX6_become yX6_become ∈ tb := tb_of (in_t0 _ (List.mem_of_getElem? (i := 63) rfl)) rfl
theorem cv_X11_296 : CV RX11 296 yX6_become cX6_become 3 none 1 6 := ⟨⟨mc_X6_become, mi_X6, mp_X6_become, Or.inr ⟨"SlowWells", (in_t4 _ (List.mem_of_getElem? (i := 143) rfl))⟩⟩, mn_X6_become, sl_X6_become, by decide, TX6, 7, rfl⟩
theorem fa_X11_299 : FA RX11 299 11 9 (.boolean) false := ⟨RX11, TX11, 19, rfl, by decide, rfl, by decide, rfl, rfl, tyX11_ok, nmX11, inX11, Or.inl ⟨tb_of (in_t2 _ (List.mem_of_getElem? (i := 108) rfl)) rfl, rfl⟩⟩
theorem fa_X11_303 : FA RX11 303 0 1 (.int) false := ⟨RX0, TX0, 2, rfl, by decide, rfl, by decide, rfl, rfl, tyX0_ok, nmX0, inX0, Or.inr ⟨"SlowWells", (in_t1 _ (List.mem_of_getElem? (i := 139) rfl))⟩⟩
theorem cs_X11_306 : CS RX11 306 yX0_perform cX0_perform 8 (some .int) 6 := ⟨⟨mc_X0_perform, mi_X0, mp_X0_perform, Or.inr ⟨"SlowWells", (in_t4 _ (List.mem_of_getElem? (i := 156) rfl))⟩⟩, ms_X0_perform⟩
theorem fa_X11_310 : FA RX11 310 0 0 (.array .int) true := ⟨RX0, TX0, 2, rfl, by decide, rfl, by decide, rfl, rfl, tyX0_ok, nmX0, inX0, Or.inr ⟨"SlowWells", (in_t1 _ (List.mem_of_getElem? (i := 137) rfl))⟩⟩
theorem gs_X11_336 : Cond.fieldLink RX11 336 (zC 0) (zN 0) "[I" ∈ tb ∨ ∃ host, Cond.fieldLinkNest RX11 336 (zC 0) (zN 0) "[I" host ∈ lw_tbl := Or.inl (tb_of (in_t4 _ (List.mem_of_getElem? (i := 182) rfl)) rfl)
theorem mc_X11_isUnder : Cond.code yX11_isUnder cX11_isUnder 4 (some .boolean) ∈ tb := tb_of (in_t4 _ (List.mem_of_getElem? (i := 181) rfl)) rfl
theorem mp_X11_isUnder : yX11_isUnder.cls ≠ "java/lang/invoke/MethodHandle" ∧ yX11_isUnder.cls ≠ "java/lang/invoke/VarHandle" ∧ (parseMethodDescriptor yX11_isUnder.desc).map (fun d => d.parameters.length) = some 2 := ⟨by decide +kernel, by decide +kernel, by decide +kernel⟩
theorem ms_X11_isUnder : Cond.static yX11_isUnder ∈ tb := tb_of (in_t4 _ (List.mem_of_getElem? (i := 180) rfl)) rfl
theorem cs_X11_313 : CS RX11 313 yX11_isUnder cX11_isUnder 4 (some .boolean) 2 := ⟨⟨mc_X11_isUnder, mi_X11, mp_X11_isUnder, Or.inl (tb_of (in_t4 _ (List.mem_of_getElem? (i := 179) rfl)) rfl)⟩, ms_X11_isUnder⟩
theorem k_bipush_m11 : (Int8.ofInt (-11)).toInt32 = (-11 : Int32) := by decide
theorem mc_X7_become : Cond.code yX7_become cX7_become 4 none ∈ tb := tb_of (in_t4 _ (List.mem_of_getElem? (i := 194) rfl)) rfl
theorem mp_X7_become : yX7_become.cls ≠ "java/lang/invoke/MethodHandle" ∧ yX7_become.cls ≠ "java/lang/invoke/VarHandle" ∧ (parseMethodDescriptor yX7_become.desc).map (fun d => d.parameters.length) = some 2 := ⟨by decide +kernel, by decide +kernel, by decide +kernel⟩
theorem mn_X7_become : Cond.instanceMethod yX7_become ∈ tb := tb_of (in_t4 _ (List.mem_of_getElem? (i := 193) rfl)) rfl
theorem sl_X7_become : Cond.selects yX7_become.cls yX7_become yX7_become ∈ tb := tb_of (in_t0 _ (List.mem_of_getElem? (i := 65) rfl)) rfl
theorem cv_X11_316 : CV RX11 316 yX7_become cX7_become 4 none 2 7 := ⟨⟨mc_X7_become, mi_X7, mp_X7_become, Or.inr ⟨"SlowWells", (in_t4 _ (List.mem_of_getElem? (i := 191) rfl))⟩⟩, mn_X7_become, sl_X7_become, by decide, TX7, 3, rfl⟩
theorem k_bipush_m14 : (Int8.ofInt (-14)).toInt32 = (-14 : Int32) := by decide
theorem mc_X7_narrowed : Cond.code yX7_narrowed cX7_narrowed 3 (some .long) ∈ tb := tb_of (in_t4 _ (List.mem_of_getElem? (i := 202) rfl)) rfl
theorem mp_X7_narrowed : yX7_narrowed.cls ≠ "java/lang/invoke/MethodHandle" ∧ yX7_narrowed.cls ≠ "java/lang/invoke/VarHandle" ∧ (parseMethodDescriptor yX7_narrowed.desc).map (fun d => d.parameters.length) = some 1 := ⟨by decide +kernel, by decide +kernel, by decide +kernel⟩
theorem mn_X7_narrowed : Cond.instanceMethod yX7_narrowed ∈ tb := tb_of (in_t4 _ (List.mem_of_getElem? (i := 201) rfl)) rfl
theorem sl_X7_narrowed : Cond.selects yX7_narrowed.cls yX7_narrowed yX7_narrowed ∈ tb := tb_of (in_t0 _ (List.mem_of_getElem? (i := 66) rfl)) rfl
theorem cv_X11_323 : CV RX11 323 yX7_narrowed cX7_narrowed 3 (some .long) 1 7 := ⟨⟨mc_X7_narrowed, mi_X7, mp_X7_narrowed, Or.inr ⟨"SlowWells", (in_t4 _ (List.mem_of_getElem? (i := 199) rfl))⟩⟩, mn_X7_narrowed, sl_X7_narrowed, by decide, TX7, 3, rfl⟩
theorem k_bipush_m13 : (Int8.ofInt (-13)).toInt32 = (-13 : Int32) := by decide
theorem mc_X7_isStretch : Cond.code yX7_isStretch cX7_isStretch 3 (some .boolean) ∈ tb := tb_of (in_t4 _ (List.mem_of_getElem? (i := 214) rfl)) rfl
theorem mp_X7_isStretch : yX7_isStretch.cls ≠ "java/lang/invoke/MethodHandle" ∧ yX7_isStretch.cls ≠ "java/lang/invoke/VarHandle" ∧ (parseMethodDescriptor yX7_isStretch.desc).map (fun d => d.parameters.length) = some 2 := ⟨by decide +kernel, by decide +kernel, by decide +kernel⟩
theorem mn_X7_isStretch : Cond.instanceMethod yX7_isStretch ∈ tb := tb_of (in_t4 _ (List.mem_of_getElem? (i := 213) rfl)) rfl
theorem sl_X7_isStretch : Cond.selects yX7_isStretch.cls yX7_isStretch yX7_isStretch ∈ tb := tb_of (in_t0 _ (List.mem_of_getElem? (i := 67) rfl)) rfl
theorem cv_X11_327 : CV RX11 327 yX7_isStretch cX7_isStretch 3 (some .boolean) 2 7 := ⟨⟨mc_X7_isStretch, mi_X7, mp_X7_isStretch, Or.inr ⟨"SlowWells", (in_t4 _ (List.mem_of_getElem? (i := 211) rfl))⟩⟩, mn_X7_isStretch, sl_X7_isStretch, by decide, TX7, 3, rfl⟩
theorem oi_X12 : Cond.methodLink RX12 1 Lib.objectInit ∈ tb := tb_of (in_t4 _ (List.mem_of_getElem? (i := 223) rfl)) rfl
theorem inX12 : ∀ w ∈ u_ws RX12 TX12 73, w ∈ tb := tb_all [1141, 1143, 1145, 1147, 1149, 1151, 1153, 1155, 1157, 1159, 1161, 1163, 1165, 1167, 1169, 1171, 1173, 1175, 1177, 1179, 1181, 1183, 1185, 1187, 1189, 1191, 1193, 1195, 1197, 1199, 1201, 1203, 1205, 1207, 1209, 1211, 1213, 1215, 1217, 1219, 1221, 1223, 1225, 1227, 1229, 1231, 1233, 1235, 1237, 1239, 1241, 1243, 1245, 1247, 1249, 1251, 1253, 1255, 1257, 1259, 1261, 1263, 1265, 1267, 1269, 1271, 1273, 1275, 1277, 1279, 1281, 1283, 1285] (by decide +kernel) (by decide +kernel)
theorem fa_X12_7 : FA RX12 7 12 0 (.int) false := ⟨RX12, TX12, 73, rfl, by decide, rfl, by decide, rfl, rfl, tyX12_ok, nmX12, inX12, Or.inl ⟨tb_of (in_t4 _ (List.mem_of_getElem? (i := 224) rfl)) rfl, rfl⟩⟩
theorem fa_X12_13 : FA RX12 13 12 1 (.int) false := ⟨RX12, TX12, 73, rfl, by decide, rfl, by decide, rfl, rfl, tyX12_ok, nmX12, inX12, Or.inl ⟨tb_of (in_t4 _ (List.mem_of_getElem? (i := 225) rfl)) rfl, rfl⟩⟩
theorem fa_X12_16 : FA RX12 16 12 2 (.int) false := ⟨RX12, TX12, 73, rfl, by decide, rfl, by decide, rfl, rfl, tyX12_ok, nmX12, inX12, Or.inl ⟨tb_of (in_t4 _ (List.mem_of_getElem? (i := 226) rfl)) rfl, rfl⟩⟩
theorem fa_X12_19 : FA RX12 19 12 3 (.int) false := ⟨RX12, TX12, 73, rfl, by decide, rfl, by decide, rfl, rfl, tyX12_ok, nmX12, inX12, Or.inl ⟨tb_of (in_t4 _ (List.mem_of_getElem? (i := 227) rfl)) rfl, rfl⟩⟩
theorem fa_X12_22 : FA RX12 22 12 4 (.int) false := ⟨RX12, TX12, 73, rfl, by decide, rfl, by decide, rfl, rfl, tyX12_ok, nmX12, inX12, Or.inl ⟨tb_of (in_t4 _ (List.mem_of_getElem? (i := 228) rfl)) rfl, rfl⟩⟩
theorem fa_X12_25 : FA RX12 25 12 5 (.array .int) true := ⟨RX12, TX12, 73, rfl, by decide, rfl, by decide, rfl, rfl, tyX12_ok, nmX12, inX12, Or.inl ⟨tb_of (in_t4 _ (List.mem_of_getElem? (i := 229) rfl)) rfl, rfl⟩⟩
theorem fa_X12_29 : FA RX12 29 12 6 (.array .int) true := ⟨RX12, TX12, 73, rfl, by decide, rfl, by decide, rfl, rfl, tyX12_ok, nmX12, inX12, Or.inl ⟨tb_of (in_t4 _ (List.mem_of_getElem? (i := 230) rfl)) rfl, rfl⟩⟩
theorem fa_X12_32 : FA RX12 32 12 7 (.array .int) true := ⟨RX12, TX12, 73, rfl, by decide, rfl, by decide, rfl, rfl, tyX12_ok, nmX12, inX12, Or.inl ⟨tb_of (in_t4 _ (List.mem_of_getElem? (i := 231) rfl)) rfl, rfl⟩⟩
theorem fa_X12_35 : FA RX12 35 12 8 (.array .int) true := ⟨RX12, TX12, 73, rfl, by decide, rfl, by decide, rfl, rfl, tyX12_ok, nmX12, inX12, Or.inl ⟨tb_of (in_t4 _ (List.mem_of_getElem? (i := 232) rfl)) rfl, rfl⟩⟩
theorem fa_X12_38 : FA RX12 38 12 9 (.array .int) true := ⟨RX12, TX12, 73, rfl, by decide, rfl, by decide, rfl, rfl, tyX12_ok, nmX12, inX12, Or.inl ⟨tb_of (in_t4 _ (List.mem_of_getElem? (i := 233) rfl)) rfl, rfl⟩⟩
theorem fa_X12_41 : FA RX12 41 12 10 (.array .int) true := ⟨RX12, TX12, 73, rfl, by decide, rfl, by decide, rfl, rfl, tyX12_ok, nmX12, inX12, Or.inl ⟨tb_of (in_t4 _ (List.mem_of_getElem? (i := 234) rfl)) rfl, rfl⟩⟩
theorem fa_X12_44 : FA RX12 44 12 11 (.array .int) true := ⟨RX12, TX12, 73, rfl, by decide, rfl, by decide, rfl, rfl, tyX12_ok, nmX12, inX12, Or.inl ⟨tb_of (in_t4 _ (List.mem_of_getElem? (i := 235) rfl)) rfl, rfl⟩⟩
theorem k_sipush_500 : (Int16.ofInt (500)).toInt32 = (500 : Int32) := by decide
theorem fa_X12_47 : FA RX12 47 12 12 (.array .int) true := ⟨RX12, TX12, 73, rfl, by decide, rfl, by decide, rfl, rfl, tyX12_ok, nmX12, inX12, Or.inl ⟨tb_of (in_t4 _ (List.mem_of_getElem? (i := 236) rfl)) rfl, rfl⟩⟩
theorem k_bipush_101 : (Int8.ofInt (101)).toInt32 = (101 : Int32) := by decide
theorem fa_X12_50 : FA RX12 50 12 13 (.array .int) true := ⟨RX12, TX12, 73, rfl, by decide, rfl, by decide, rfl, rfl, tyX12_ok, nmX12, inX12, Or.inl ⟨tb_of (in_t4 _ (List.mem_of_getElem? (i := 237) rfl)) rfl, rfl⟩⟩
theorem fa_X12_53 : FA RX12 53 12 14 (.int) false := ⟨RX12, TX12, 73, rfl, by decide, rfl, by decide, rfl, rfl, tyX12_ok, nmX12, inX12, Or.inl ⟨tb_of (in_t4 _ (List.mem_of_getElem? (i := 238) rfl)) rfl, rfl⟩⟩
theorem fa_X12_56 : FA RX12 56 12 15 (.int) false := ⟨RX12, TX12, 73, rfl, by decide, rfl, by decide, rfl, rfl, tyX12_ok, nmX12, inX12, Or.inl ⟨tb_of (in_t4 _ (List.mem_of_getElem? (i := 239) rfl)) rfl, rfl⟩⟩
theorem fa_X12_59 : FA RX12 59 12 16 (.int) false := ⟨RX12, TX12, 73, rfl, by decide, rfl, by decide, rfl, rfl, tyX12_ok, nmX12, inX12, Or.inl ⟨tb_of (in_t5 _ (List.mem_of_getElem? (i := 0) rfl)) rfl, rfl⟩⟩
theorem ac_boolean : Cond.arrayClass .boolean ∈ tb := tb_of (in_t5 _ (List.mem_of_getElem? (i := 204) rfl)) rfl
theorem fa_X12_62 : FA RX12 62 12 17 (.array .boolean) true := ⟨RX12, TX12, 73, rfl, by decide, rfl, by decide, rfl, rfl, tyX12_ok, nmX12, inX12, Or.inl ⟨tb_of (in_t5 _ (List.mem_of_getElem? (i := 1) rfl)) rfl, rfl⟩⟩
theorem fa_X12_66 : FA RX12 66 12 18 (.array .int) true := ⟨RX12, TX12, 73, rfl, by decide, rfl, by decide, rfl, rfl, tyX12_ok, nmX12, inX12, Or.inl ⟨tb_of (in_t5 _ (List.mem_of_getElem? (i := 2) rfl)) rfl, rfl⟩⟩
theorem fa_X12_69 : FA RX12 69 12 19 (.array .int) true := ⟨RX12, TX12, 73, rfl, by decide, rfl, by decide, rfl, rfl, tyX12_ok, nmX12, inX12, Or.inl ⟨tb_of (in_t5 _ (List.mem_of_getElem? (i := 3) rfl)) rfl, rfl⟩⟩
theorem fa_X12_72 : FA RX12 72 12 20 (.array .int) true := ⟨RX12, TX12, 73, rfl, by decide, rfl, by decide, rfl, rfl, tyX12_ok, nmX12, inX12, Or.inl ⟨tb_of (in_t5 _ (List.mem_of_getElem? (i := 4) rfl)) rfl, rfl⟩⟩
theorem fa_X12_75 : FA RX12 75 12 21 (.int) false := ⟨RX12, TX12, 73, rfl, by decide, rfl, by decide, rfl, rfl, tyX12_ok, nmX12, inX12, Or.inl ⟨tb_of (in_t5 _ (List.mem_of_getElem? (i := 5) rfl)) rfl, rfl⟩⟩
theorem fa_X12_78 : FA RX12 78 12 22 (.array .int) true := ⟨RX12, TX12, 73, rfl, by decide, rfl, by decide, rfl, rfl, tyX12_ok, nmX12, inX12, Or.inl ⟨tb_of (in_t5 _ (List.mem_of_getElem? (i := 6) rfl)) rfl, rfl⟩⟩
theorem fa_X12_81 : FA RX12 81 12 23 (.array .int) true := ⟨RX12, TX12, 73, rfl, by decide, rfl, by decide, rfl, rfl, tyX12_ok, nmX12, inX12, Or.inl ⟨tb_of (in_t5 _ (List.mem_of_getElem? (i := 7) rfl)) rfl, rfl⟩⟩
theorem k_bipush_7 : (Int8.ofInt (7)).toInt32 = (7 : Int32) := by decide
theorem fa_X12_84 : FA RX12 84 12 24 (.array .int) true := ⟨RX12, TX12, 73, rfl, by decide, rfl, by decide, rfl, rfl, tyX12_ok, nmX12, inX12, Or.inl ⟨tb_of (in_t5 _ (List.mem_of_getElem? (i := 8) rfl)) rfl, rfl⟩⟩
theorem fa_X12_87 : FA RX12 87 12 25 (.array .int) true := ⟨RX12, TX12, 73, rfl, by decide, rfl, by decide, rfl, rfl, tyX12_ok, nmX12, inX12, Or.inl ⟨tb_of (in_t5 _ (List.mem_of_getElem? (i := 9) rfl)) rfl, rfl⟩⟩
theorem fa_X12_90 : FA RX12 90 12 26 (.array .int) true := ⟨RX12, TX12, 73, rfl, by decide, rfl, by decide, rfl, rfl, tyX12_ok, nmX12, inX12, Or.inl ⟨tb_of (in_t5 _ (List.mem_of_getElem? (i := 10) rfl)) rfl, rfl⟩⟩
theorem fa_X12_93 : FA RX12 93 12 27 (.int) false := ⟨RX12, TX12, 73, rfl, by decide, rfl, by decide, rfl, rfl, tyX12_ok, nmX12, inX12, Or.inl ⟨tb_of (in_t5 _ (List.mem_of_getElem? (i := 11) rfl)) rfl, rfl⟩⟩
theorem fa_X12_96 : FA RX12 96 12 28 (.int) false := ⟨RX12, TX12, 73, rfl, by decide, rfl, by decide, rfl, rfl, tyX12_ok, nmX12, inX12, Or.inl ⟨tb_of (in_t5 _ (List.mem_of_getElem? (i := 12) rfl)) rfl, rfl⟩⟩
theorem fa_X12_99 : FA RX12 99 12 29 (.int) false := ⟨RX12, TX12, 73, rfl, by decide, rfl, by decide, rfl, rfl, tyX12_ok, nmX12, inX12, Or.inl ⟨tb_of (in_t5 _ (List.mem_of_getElem? (i := 13) rfl)) rfl, rfl⟩⟩
theorem k_bipush_11 : (Int8.ofInt (11)).toInt32 = (11 : Int32) := by decide
theorem fa_X12_102 : FA RX12 102 12 30 (.array .int) true := ⟨RX12, TX12, 73, rfl, by decide, rfl, by decide, rfl, rfl, tyX12_ok, nmX12, inX12, Or.inl ⟨tb_of (in_t5 _ (List.mem_of_getElem? (i := 14) rfl)) rfl, rfl⟩⟩
theorem fa_X12_105 : FA RX12 105 12 31 (.array .int) true := ⟨RX12, TX12, 73, rfl, by decide, rfl, by decide, rfl, rfl, tyX12_ok, nmX12, inX12, Or.inl ⟨tb_of (in_t5 _ (List.mem_of_getElem? (i := 15) rfl)) rfl, rfl⟩⟩
theorem fa_X12_108 : FA RX12 108 12 32 (.array .int) true := ⟨RX12, TX12, 73, rfl, by decide, rfl, by decide, rfl, rfl, tyX12_ok, nmX12, inX12, Or.inl ⟨tb_of (in_t5 _ (List.mem_of_getElem? (i := 16) rfl)) rfl, rfl⟩⟩
theorem k_bipush_55 : (Int8.ofInt (55)).toInt32 = (55 : Int32) := by decide
theorem fa_X12_111 : FA RX12 111 12 33 (.array .int) true := ⟨RX12, TX12, 73, rfl, by decide, rfl, by decide, rfl, rfl, tyX12_ok, nmX12, inX12, Or.inl ⟨tb_of (in_t5 _ (List.mem_of_getElem? (i := 17) rfl)) rfl, rfl⟩⟩
theorem fa_X12_114 : FA RX12 114 12 34 (.array .int) true := ⟨RX12, TX12, 73, rfl, by decide, rfl, by decide, rfl, rfl, tyX12_ok, nmX12, inX12, Or.inl ⟨tb_of (in_t5 _ (List.mem_of_getElem? (i := 18) rfl)) rfl, rfl⟩⟩
theorem fa_X12_117 : FA RX12 117 12 35 (.array .int) true := ⟨RX12, TX12, 73, rfl, by decide, rfl, by decide, rfl, rfl, tyX12_ok, nmX12, inX12, Or.inl ⟨tb_of (in_t5 _ (List.mem_of_getElem? (i := 19) rfl)) rfl, rfl⟩⟩
theorem fa_X12_120 : FA RX12 120 12 36 (.array .int) true := ⟨RX12, TX12, 73, rfl, by decide, rfl, by decide, rfl, rfl, tyX12_ok, nmX12, inX12, Or.inl ⟨tb_of (in_t5 _ (List.mem_of_getElem? (i := 20) rfl)) rfl, rfl⟩⟩
theorem fa_X12_123 : FA RX12 123 12 37 (.array .int) true := ⟨RX12, TX12, 73, rfl, by decide, rfl, by decide, rfl, rfl, tyX12_ok, nmX12, inX12, Or.inl ⟨tb_of (in_t5 _ (List.mem_of_getElem? (i := 21) rfl)) rfl, rfl⟩⟩
theorem k_sipush_168 : (Int16.ofInt (168)).toInt32 = (168 : Int32) := by decide
theorem fa_X12_126 : FA RX12 126 12 38 (.array .int) true := ⟨RX12, TX12, 73, rfl, by decide, rfl, by decide, rfl, rfl, tyX12_ok, nmX12, inX12, Or.inl ⟨tb_of (in_t5 _ (List.mem_of_getElem? (i := 22) rfl)) rfl, rfl⟩⟩
theorem fa_X12_129 : FA RX12 129 12 39 (.array .int) true := ⟨RX12, TX12, 73, rfl, by decide, rfl, by decide, rfl, rfl, tyX12_ok, nmX12, inX12, Or.inl ⟨tb_of (in_t5 _ (List.mem_of_getElem? (i := 23) rfl)) rfl, rfl⟩⟩
theorem fa_X12_132 : FA RX12 132 12 40 (.array .int) true := ⟨RX12, TX12, 73, rfl, by decide, rfl, by decide, rfl, rfl, tyX12_ok, nmX12, inX12, Or.inl ⟨tb_of (in_t5 _ (List.mem_of_getElem? (i := 24) rfl)) rfl, rfl⟩⟩
theorem fa_X12_135 : FA RX12 135 12 41 (.array .int) true := ⟨RX12, TX12, 73, rfl, by decide, rfl, by decide, rfl, rfl, tyX12_ok, nmX12, inX12, Or.inl ⟨tb_of (in_t5 _ (List.mem_of_getElem? (i := 25) rfl)) rfl, rfl⟩⟩
theorem fa_X12_138 : FA RX12 138 12 42 (.array .int) true := ⟨RX12, TX12, 73, rfl, by decide, rfl, by decide, rfl, rfl, tyX12_ok, nmX12, inX12, Or.inl ⟨tb_of (in_t5 _ (List.mem_of_getElem? (i := 26) rfl)) rfl, rfl⟩⟩
theorem fa_X12_141 : FA RX12 141 12 43 (.array .int) true := ⟨RX12, TX12, 73, rfl, by decide, rfl, by decide, rfl, rfl, tyX12_ok, nmX12, inX12, Or.inl ⟨tb_of (in_t5 _ (List.mem_of_getElem? (i := 27) rfl)) rfl, rfl⟩⟩
theorem fa_X12_144 : FA RX12 144 12 44 (.array .int) true := ⟨RX12, TX12, 73, rfl, by decide, rfl, by decide, rfl, rfl, tyX12_ok, nmX12, inX12, Or.inl ⟨tb_of (in_t5 _ (List.mem_of_getElem? (i := 28) rfl)) rfl, rfl⟩⟩
theorem fa_X12_147 : FA RX12 147 12 45 (.int) false := ⟨RX12, TX12, 73, rfl, by decide, rfl, by decide, rfl, rfl, tyX12_ok, nmX12, inX12, Or.inl ⟨tb_of (in_t5 _ (List.mem_of_getElem? (i := 29) rfl)) rfl, rfl⟩⟩
theorem fa_X12_150 : FA RX12 150 12 46 (.int) false := ⟨RX12, TX12, 73, rfl, by decide, rfl, by decide, rfl, rfl, tyX12_ok, nmX12, inX12, Or.inl ⟨tb_of (in_t5 _ (List.mem_of_getElem? (i := 30) rfl)) rfl, rfl⟩⟩
theorem fa_X12_153 : FA RX12 153 12 47 (.int) false := ⟨RX12, TX12, 73, rfl, by decide, rfl, by decide, rfl, rfl, tyX12_ok, nmX12, inX12, Or.inl ⟨tb_of (in_t5 _ (List.mem_of_getElem? (i := 31) rfl)) rfl, rfl⟩⟩
theorem fa_X12_156 : FA RX12 156 12 48 (.int) false := ⟨RX12, TX12, 73, rfl, by decide, rfl, by decide, rfl, rfl, tyX12_ok, nmX12, inX12, Or.inl ⟨tb_of (in_t5 _ (List.mem_of_getElem? (i := 32) rfl)) rfl, rfl⟩⟩
theorem fa_X12_159 : FA RX12 159 12 49 (.int) false := ⟨RX12, TX12, 73, rfl, by decide, rfl, by decide, rfl, rfl, tyX12_ok, nmX12, inX12, Or.inl ⟨tb_of (in_t5 _ (List.mem_of_getElem? (i := 33) rfl)) rfl, rfl⟩⟩
theorem fa_X12_162 : FA RX12 162 12 50 (.int) false := ⟨RX12, TX12, 73, rfl, by decide, rfl, by decide, rfl, rfl, tyX12_ok, nmX12, inX12, Or.inl ⟨tb_of (in_t5 _ (List.mem_of_getElem? (i := 34) rfl)) rfl, rfl⟩⟩
theorem fa_X12_165 : FA RX12 165 12 51 (.int) false := ⟨RX12, TX12, 73, rfl, by decide, rfl, by decide, rfl, rfl, tyX12_ok, nmX12, inX12, Or.inl ⟨tb_of (in_t5 _ (List.mem_of_getElem? (i := 35) rfl)) rfl, rfl⟩⟩
theorem fa_X12_168 : FA RX12 168 12 52 (.array .int) true := ⟨RX12, TX12, 73, rfl, by decide, rfl, by decide, rfl, rfl, tyX12_ok, nmX12, inX12, Or.inl ⟨tb_of (in_t5 _ (List.mem_of_getElem? (i := 36) rfl)) rfl, rfl⟩⟩
theorem fa_X12_171 : FA RX12 171 12 53 (.array .int) true := ⟨RX12, TX12, 73, rfl, by decide, rfl, by decide, rfl, rfl, tyX12_ok, nmX12, inX12, Or.inl ⟨tb_of (in_t5 _ (List.mem_of_getElem? (i := 37) rfl)) rfl, rfl⟩⟩
theorem fa_X12_174 : FA RX12 174 12 54 (.array .int) true := ⟨RX12, TX12, 73, rfl, by decide, rfl, by decide, rfl, rfl, tyX12_ok, nmX12, inX12, Or.inl ⟨tb_of (in_t5 _ (List.mem_of_getElem? (i := 38) rfl)) rfl, rfl⟩⟩
theorem fa_X12_177 : FA RX12 177 12 55 (.array .int) true := ⟨RX12, TX12, 73, rfl, by decide, rfl, by decide, rfl, rfl, tyX12_ok, nmX12, inX12, Or.inl ⟨tb_of (in_t5 _ (List.mem_of_getElem? (i := 39) rfl)) rfl, rfl⟩⟩
theorem fa_X12_180 : FA RX12 180 12 56 (.int) false := ⟨RX12, TX12, 73, rfl, by decide, rfl, by decide, rfl, rfl, tyX12_ok, nmX12, inX12, Or.inl ⟨tb_of (in_t5 _ (List.mem_of_getElem? (i := 40) rfl)) rfl, rfl⟩⟩
theorem fa_X12_183 : FA RX12 183 12 57 (.int) false := ⟨RX12, TX12, 73, rfl, by decide, rfl, by decide, rfl, rfl, tyX12_ok, nmX12, inX12, Or.inl ⟨tb_of (in_t5 _ (List.mem_of_getElem? (i := 41) rfl)) rfl, rfl⟩⟩
theorem fa_X12_186 : FA RX12 186 12 58 (.boolean) false := ⟨RX12, TX12, 73, rfl, by decide, rfl, by decide, rfl, rfl, tyX12_ok, nmX12, inX12, Or.inl ⟨tb_of (in_t5 _ (List.mem_of_getElem? (i := 42) rfl)) rfl, rfl⟩⟩
theorem fa_X12_190 : FA RX12 190 12 59 (.int) false := ⟨RX12, TX12, 73, rfl, by decide, rfl, by decide, rfl, rfl, tyX12_ok, nmX12, inX12, Or.inl ⟨tb_of (in_t5 _ (List.mem_of_getElem? (i := 43) rfl)) rfl, rfl⟩⟩
theorem fa_X12_193 : FA RX12 193 12 60 (.int) false := ⟨RX12, TX12, 73, rfl, by decide, rfl, by decide, rfl, rfl, tyX12_ok, nmX12, inX12, Or.inl ⟨tb_of (in_t5 _ (List.mem_of_getElem? (i := 44) rfl)) rfl, rfl⟩⟩
theorem fa_X12_196 : FA RX12 196 12 61 (.int) false := ⟨RX12, TX12, 73, rfl, by decide, rfl, by decide, rfl, rfl, tyX12_ok, nmX12, inX12, Or.inl ⟨tb_of (in_t5 _ (List.mem_of_getElem? (i := 45) rfl)) rfl, rfl⟩⟩
theorem fa_X12_199 : FA RX12 199 12 62 (.array .int) true := ⟨RX12, TX12, 73, rfl, by decide, rfl, by decide, rfl, rfl, tyX12_ok, nmX12, inX12, Or.inl ⟨tb_of (in_t5 _ (List.mem_of_getElem? (i := 46) rfl)) rfl, rfl⟩⟩
theorem fa_X12_202 : FA RX12 202 12 63 (.array .int) true := ⟨RX12, TX12, 73, rfl, by decide, rfl, by decide, rfl, rfl, tyX12_ok, nmX12, inX12, Or.inl ⟨tb_of (in_t5 _ (List.mem_of_getElem? (i := 47) rfl)) rfl, rfl⟩⟩
theorem fa_X12_205 : FA RX12 205 12 64 (.array .int) true := ⟨RX12, TX12, 73, rfl, by decide, rfl, by decide, rfl, rfl, tyX12_ok, nmX12, inX12, Or.inl ⟨tb_of (in_t5 _ (List.mem_of_getElem? (i := 48) rfl)) rfl, rfl⟩⟩
theorem fa_X12_208 : FA RX12 208 12 65 (.array .int) true := ⟨RX12, TX12, 73, rfl, by decide, rfl, by decide, rfl, rfl, tyX12_ok, nmX12, inX12, Or.inl ⟨tb_of (in_t5 _ (List.mem_of_getElem? (i := 49) rfl)) rfl, rfl⟩⟩
theorem fa_X12_211 : FA RX12 211 12 66 (.array .int) true := ⟨RX12, TX12, 73, rfl, by decide, rfl, by decide, rfl, rfl, tyX12_ok, nmX12, inX12, Or.inl ⟨tb_of (in_t5 _ (List.mem_of_getElem? (i := 50) rfl)) rfl, rfl⟩⟩
theorem fa_X12_214 : FA RX12 214 12 67 (.int) false := ⟨RX12, TX12, 73, rfl, by decide, rfl, by decide, rfl, rfl, tyX12_ok, nmX12, inX12, Or.inl ⟨tb_of (in_t5 _ (List.mem_of_getElem? (i := 51) rfl)) rfl, rfl⟩⟩
theorem fa_X12_217 : FA RX12 217 12 68 (.array .int) true := ⟨RX12, TX12, 73, rfl, by decide, rfl, by decide, rfl, rfl, tyX12_ok, nmX12, inX12, Or.inl ⟨tb_of (in_t5 _ (List.mem_of_getElem? (i := 52) rfl)) rfl, rfl⟩⟩
theorem fa_X12_220 : FA RX12 220 12 69 (.array .int) true := ⟨RX12, TX12, 73, rfl, by decide, rfl, by decide, rfl, rfl, tyX12_ok, nmX12, inX12, Or.inl ⟨tb_of (in_t5 _ (List.mem_of_getElem? (i := 53) rfl)) rfl, rfl⟩⟩
theorem fa_X12_223 : FA RX12 223 12 70 (.array .int) true := ⟨RX12, TX12, 73, rfl, by decide, rfl, by decide, rfl, rfl, tyX12_ok, nmX12, inX12, Or.inl ⟨tb_of (in_t5 _ (List.mem_of_getElem? (i := 54) rfl)) rfl, rfl⟩⟩
theorem k_sipush_360 : (Int16.ofInt (360)).toInt32 = (360 : Int32) := by decide
theorem fa_X12_226 : FA RX12 226 12 71 (.array .long) true := ⟨RX12, TX12, 73, rfl, by decide, rfl, by decide, rfl, rfl, tyX12_ok, nmX12, inX12, Or.inl ⟨tb_of (in_t5 _ (List.mem_of_getElem? (i := 55) rfl)) rfl, rfl⟩⟩
theorem fa_X12_230 : FA RX12 230 12 72 (.array .long) true := ⟨RX12, TX12, 73, rfl, by decide, rfl, by decide, rfl, rfl, tyX12_ok, nmX12, inX12, Or.inl ⟨tb_of (in_t5 _ (List.mem_of_getElem? (i := 56) rfl)) rfl, rfl⟩⟩
theorem fo_X12_230 : FO RX12 230 12 72 := ⟨RX12, TX12, 73, rfl, tb_of (in_t5 _ (List.mem_of_getElem? (i := 56) rfl)) rfl, rfl⟩
theorem fo_X12_226 : FO RX12 226 12 71 := ⟨RX12, TX12, 73, rfl, tb_of (in_t5 _ (List.mem_of_getElem? (i := 55) rfl)) rfl, rfl⟩
theorem fo_X12_223 : FO RX12 223 12 70 := ⟨RX12, TX12, 73, rfl, tb_of (in_t5 _ (List.mem_of_getElem? (i := 54) rfl)) rfl, rfl⟩
theorem fo_X12_220 : FO RX12 220 12 69 := ⟨RX12, TX12, 73, rfl, tb_of (in_t5 _ (List.mem_of_getElem? (i := 53) rfl)) rfl, rfl⟩
theorem fo_X12_217 : FO RX12 217 12 68 := ⟨RX12, TX12, 73, rfl, tb_of (in_t5 _ (List.mem_of_getElem? (i := 52) rfl)) rfl, rfl⟩
theorem fo_X12_211 : FO RX12 211 12 66 := ⟨RX12, TX12, 73, rfl, tb_of (in_t5 _ (List.mem_of_getElem? (i := 50) rfl)) rfl, rfl⟩
theorem fo_X12_208 : FO RX12 208 12 65 := ⟨RX12, TX12, 73, rfl, tb_of (in_t5 _ (List.mem_of_getElem? (i := 49) rfl)) rfl, rfl⟩
theorem fo_X12_205 : FO RX12 205 12 64 := ⟨RX12, TX12, 73, rfl, tb_of (in_t5 _ (List.mem_of_getElem? (i := 48) rfl)) rfl, rfl⟩
theorem fo_X12_202 : FO RX12 202 12 63 := ⟨RX12, TX12, 73, rfl, tb_of (in_t5 _ (List.mem_of_getElem? (i := 47) rfl)) rfl, rfl⟩
theorem fo_X12_199 : FO RX12 199 12 62 := ⟨RX12, TX12, 73, rfl, tb_of (in_t5 _ (List.mem_of_getElem? (i := 46) rfl)) rfl, rfl⟩
theorem fo_X12_177 : FO RX12 177 12 55 := ⟨RX12, TX12, 73, rfl, tb_of (in_t5 _ (List.mem_of_getElem? (i := 39) rfl)) rfl, rfl⟩
theorem fo_X12_174 : FO RX12 174 12 54 := ⟨RX12, TX12, 73, rfl, tb_of (in_t5 _ (List.mem_of_getElem? (i := 38) rfl)) rfl, rfl⟩
theorem fo_X12_171 : FO RX12 171 12 53 := ⟨RX12, TX12, 73, rfl, tb_of (in_t5 _ (List.mem_of_getElem? (i := 37) rfl)) rfl, rfl⟩
theorem fo_X12_168 : FO RX12 168 12 52 := ⟨RX12, TX12, 73, rfl, tb_of (in_t5 _ (List.mem_of_getElem? (i := 36) rfl)) rfl, rfl⟩
theorem fo_X12_144 : FO RX12 144 12 44 := ⟨RX12, TX12, 73, rfl, tb_of (in_t5 _ (List.mem_of_getElem? (i := 28) rfl)) rfl, rfl⟩
theorem fo_X12_141 : FO RX12 141 12 43 := ⟨RX12, TX12, 73, rfl, tb_of (in_t5 _ (List.mem_of_getElem? (i := 27) rfl)) rfl, rfl⟩
theorem fo_X12_138 : FO RX12 138 12 42 := ⟨RX12, TX12, 73, rfl, tb_of (in_t5 _ (List.mem_of_getElem? (i := 26) rfl)) rfl, rfl⟩
theorem fo_X12_135 : FO RX12 135 12 41 := ⟨RX12, TX12, 73, rfl, tb_of (in_t5 _ (List.mem_of_getElem? (i := 25) rfl)) rfl, rfl⟩
theorem fo_X12_132 : FO RX12 132 12 40 := ⟨RX12, TX12, 73, rfl, tb_of (in_t5 _ (List.mem_of_getElem? (i := 24) rfl)) rfl, rfl⟩
theorem fo_X12_129 : FO RX12 129 12 39 := ⟨RX12, TX12, 73, rfl, tb_of (in_t5 _ (List.mem_of_getElem? (i := 23) rfl)) rfl, rfl⟩
theorem fo_X12_126 : FO RX12 126 12 38 := ⟨RX12, TX12, 73, rfl, tb_of (in_t5 _ (List.mem_of_getElem? (i := 22) rfl)) rfl, rfl⟩
theorem fo_X12_123 : FO RX12 123 12 37 := ⟨RX12, TX12, 73, rfl, tb_of (in_t5 _ (List.mem_of_getElem? (i := 21) rfl)) rfl, rfl⟩
theorem fo_X12_120 : FO RX12 120 12 36 := ⟨RX12, TX12, 73, rfl, tb_of (in_t5 _ (List.mem_of_getElem? (i := 20) rfl)) rfl, rfl⟩
theorem fo_X12_117 : FO RX12 117 12 35 := ⟨RX12, TX12, 73, rfl, tb_of (in_t5 _ (List.mem_of_getElem? (i := 19) rfl)) rfl, rfl⟩
theorem fo_X12_114 : FO RX12 114 12 34 := ⟨RX12, TX12, 73, rfl, tb_of (in_t5 _ (List.mem_of_getElem? (i := 18) rfl)) rfl, rfl⟩
theorem fo_X12_111 : FO RX12 111 12 33 := ⟨RX12, TX12, 73, rfl, tb_of (in_t5 _ (List.mem_of_getElem? (i := 17) rfl)) rfl, rfl⟩
theorem fo_X12_108 : FO RX12 108 12 32 := ⟨RX12, TX12, 73, rfl, tb_of (in_t5 _ (List.mem_of_getElem? (i := 16) rfl)) rfl, rfl⟩
theorem fo_X12_105 : FO RX12 105 12 31 := ⟨RX12, TX12, 73, rfl, tb_of (in_t5 _ (List.mem_of_getElem? (i := 15) rfl)) rfl, rfl⟩
theorem fo_X12_102 : FO RX12 102 12 30 := ⟨RX12, TX12, 73, rfl, tb_of (in_t5 _ (List.mem_of_getElem? (i := 14) rfl)) rfl, rfl⟩
theorem fo_X12_90 : FO RX12 90 12 26 := ⟨RX12, TX12, 73, rfl, tb_of (in_t5 _ (List.mem_of_getElem? (i := 10) rfl)) rfl, rfl⟩
theorem fo_X12_87 : FO RX12 87 12 25 := ⟨RX12, TX12, 73, rfl, tb_of (in_t5 _ (List.mem_of_getElem? (i := 9) rfl)) rfl, rfl⟩
theorem fo_X12_84 : FO RX12 84 12 24 := ⟨RX12, TX12, 73, rfl, tb_of (in_t5 _ (List.mem_of_getElem? (i := 8) rfl)) rfl, rfl⟩
theorem fo_X12_81 : FO RX12 81 12 23 := ⟨RX12, TX12, 73, rfl, tb_of (in_t5 _ (List.mem_of_getElem? (i := 7) rfl)) rfl, rfl⟩
theorem fo_X12_78 : FO RX12 78 12 22 := ⟨RX12, TX12, 73, rfl, tb_of (in_t5 _ (List.mem_of_getElem? (i := 6) rfl)) rfl, rfl⟩
theorem fo_X12_72 : FO RX12 72 12 20 := ⟨RX12, TX12, 73, rfl, tb_of (in_t5 _ (List.mem_of_getElem? (i := 4) rfl)) rfl, rfl⟩
theorem fo_X12_69 : FO RX12 69 12 19 := ⟨RX12, TX12, 73, rfl, tb_of (in_t5 _ (List.mem_of_getElem? (i := 3) rfl)) rfl, rfl⟩
theorem fo_X12_66 : FO RX12 66 12 18 := ⟨RX12, TX12, 73, rfl, tb_of (in_t5 _ (List.mem_of_getElem? (i := 2) rfl)) rfl, rfl⟩
theorem fo_X12_62 : FO RX12 62 12 17 := ⟨RX12, TX12, 73, rfl, tb_of (in_t5 _ (List.mem_of_getElem? (i := 1) rfl)) rfl, rfl⟩
theorem fo_X12_50 : FO RX12 50 12 13 := ⟨RX12, TX12, 73, rfl, tb_of (in_t4 _ (List.mem_of_getElem? (i := 237) rfl)) rfl, rfl⟩
theorem fo_X12_47 : FO RX12 47 12 12 := ⟨RX12, TX12, 73, rfl, tb_of (in_t4 _ (List.mem_of_getElem? (i := 236) rfl)) rfl, rfl⟩
theorem fo_X12_44 : FO RX12 44 12 11 := ⟨RX12, TX12, 73, rfl, tb_of (in_t4 _ (List.mem_of_getElem? (i := 235) rfl)) rfl, rfl⟩
theorem fo_X12_41 : FO RX12 41 12 10 := ⟨RX12, TX12, 73, rfl, tb_of (in_t4 _ (List.mem_of_getElem? (i := 234) rfl)) rfl, rfl⟩
theorem fo_X12_38 : FO RX12 38 12 9 := ⟨RX12, TX12, 73, rfl, tb_of (in_t4 _ (List.mem_of_getElem? (i := 233) rfl)) rfl, rfl⟩
theorem fo_X12_35 : FO RX12 35 12 8 := ⟨RX12, TX12, 73, rfl, tb_of (in_t4 _ (List.mem_of_getElem? (i := 232) rfl)) rfl, rfl⟩
theorem fo_X12_32 : FO RX12 32 12 7 := ⟨RX12, TX12, 73, rfl, tb_of (in_t4 _ (List.mem_of_getElem? (i := 231) rfl)) rfl, rfl⟩
theorem fo_X12_29 : FO RX12 29 12 6 := ⟨RX12, TX12, 73, rfl, tb_of (in_t4 _ (List.mem_of_getElem? (i := 230) rfl)) rfl, rfl⟩
theorem fo_X12_25 : FO RX12 25 12 5 := ⟨RX12, TX12, 73, rfl, tb_of (in_t4 _ (List.mem_of_getElem? (i := 229) rfl)) rfl, rfl⟩
theorem pn_X12 : plainName RX12 = true := by decide +kernel
theorem mc_X12_in : Cond.code yX12_in cX12_in 4 (some .boolean) ∈ tb := tb_of (in_t5 _ (List.mem_of_getElem? (i := 212) rfl)) rfl
theorem mi_X12 : Cond.initialized RX12 ∈ tb := tb_of (in_t1 _ (List.mem_of_getElem? (i := 12) rfl)) rfl
theorem mp_X12_in : yX12_in.cls ≠ "java/lang/invoke/MethodHandle" ∧ yX12_in.cls ≠ "java/lang/invoke/VarHandle" ∧ (parseMethodDescriptor yX12_in.desc).map (fun d => d.parameters.length) = some 3 := ⟨by decide +kernel, by decide +kernel, by decide +kernel⟩
theorem mn_X12_in : Cond.instanceMethod yX12_in ∈ tb := tb_of (in_t5 _ (List.mem_of_getElem? (i := 211) rfl)) rfl
theorem sl_X12_in : Cond.selects yX12_in.cls yX12_in yX12_in ∈ tb := tb_of (in_t0 _ (List.mem_of_getElem? (i := 68) rfl)) rfl
theorem cv_X12_233 : CV RX12 233 yX12_in cX12_in 4 (some .boolean) 3 12 := ⟨⟨mc_X12_in, mi_X12, mp_X12_in, Or.inl (tb_of (in_t5 _ (List.mem_of_getElem? (i := 209) rfl)) rfl)⟩, mn_X12_in, sl_X12_in, by decide, TX12, 73, rfl⟩
theorem mc_X12_next : Cond.code yX12_next cX12_next 1 (some .int) ∈ tb := tb_of (in_t5 _ (List.mem_of_getElem? (i := 236) rfl)) rfl
theorem mp_X12_next : yX12_next.cls ≠ "java/lang/invoke/MethodHandle" ∧ yX12_next.cls ≠ "java/lang/invoke/VarHandle" ∧ (parseMethodDescriptor yX12_next.desc).map (fun d => d.parameters.length) = some 0 := ⟨by decide +kernel, by decide +kernel, by decide +kernel⟩
theorem mn_X12_next : Cond.instanceMethod yX12_next ∈ tb := tb_of (in_t5 _ (List.mem_of_getElem? (i := 235) rfl)) rfl
theorem sl_X12_next : Cond.selects yX12_next.cls yX12_next yX12_next ∈ tb := tb_of (in_t0 _ (List.mem_of_getElem? (i := 73) rfl)) rfl
theorem cv_X12_237 : CV RX12 237 yX12_next cX12_next 1 (some .int) 0 12 := ⟨⟨mc_X12_next, mi_X12, mp_X12_next, Or.inl (tb_of (in_t5 _ (List.mem_of_getElem? (i := 233) rfl)) rfl)⟩, mn_X12_next, sl_X12_next, by decide, TX12, 73, rfl⟩
theorem mc_X12_takes : Cond.code yX12_takes cX12_takes 2 (some .boolean) ∈ tb := tb_of (in_t6 _ (List.mem_of_getElem? (i := 4) rfl)) rfl
theorem mp_X12_takes : yX12_takes.cls ≠ "java/lang/invoke/MethodHandle" ∧ yX12_takes.cls ≠ "java/lang/invoke/VarHandle" ∧ (parseMethodDescriptor yX12_takes.desc).map (fun d => d.parameters.length) = some 1 := ⟨by decide +kernel, by decide +kernel, by decide +kernel⟩
theorem mn_X12_takes : Cond.instanceMethod yX12_takes ∈ tb := tb_of (in_t6 _ (List.mem_of_getElem? (i := 3) rfl)) rfl
theorem sl_X12_takes : Cond.selects yX12_takes.cls yX12_takes yX12_takes ∈ tb := tb_of (in_t0 _ (List.mem_of_getElem? (i := 75) rfl)) rfl
theorem cv_X12_241 : CV RX12 241 yX12_takes cX12_takes 2 (some .boolean) 1 12 := ⟨⟨mc_X12_takes, mi_X12, mp_X12_takes, Or.inl (tb_of (in_t6 _ (List.mem_of_getElem? (i := 1) rfl)) rfl)⟩, mn_X12_takes, sl_X12_takes, by decide, TX12, 73, rfl⟩
theorem k_bipush_96 : (Int8.ofInt (96)).toInt32 = (96 : Int32) := by decide
theorem mc_X12_isDigit : Cond.code yX12_isDigit cX12_isDigit 1 (some .boolean) ∈ tb := tb_of (in_t6 _ (List.mem_of_getElem? (i := 17) rfl)) rfl
theorem mp_X12_isDigit : yX12_isDigit.cls ≠ "java/lang/invoke/MethodHandle" ∧ yX12_isDigit.cls ≠ "java/lang/invoke/VarHandle" ∧ (parseMethodDescriptor yX12_isDigit.desc).map (fun d => d.parameters.length) = some 0 := ⟨by decide +kernel, by decide +kernel, by decide +kernel⟩
theorem mn_X12_isDigit : Cond.instanceMethod yX12_isDigit ∈ tb := tb_of (in_t6 _ (List.mem_of_getElem? (i := 16) rfl)) rfl
theorem sl_X12_isDigit : Cond.selects yX12_isDigit.cls yX12_isDigit yX12_isDigit ∈ tb := tb_of (in_t0 _ (List.mem_of_getElem? (i := 77) rfl)) rfl
theorem cv_X12_245 : CV RX12 245 yX12_isDigit cX12_isDigit 1 (some .boolean) 0 12 := ⟨⟨mc_X12_isDigit, mi_X12, mp_X12_isDigit, Or.inl (tb_of (in_t6 _ (List.mem_of_getElem? (i := 14) rfl)) rfl)⟩, mn_X12_isDigit, sl_X12_isDigit, by decide, TX12, 73, rfl⟩
theorem k_bipush_m33 : (Int8.ofInt (-33)).toInt32 = (-33 : Int32) := by decide
theorem mc_X12_put : Cond.code yX12_put cX12_put 2 none ∈ tb := tb_of (in_t6 _ (List.mem_of_getElem? (i := 33) rfl)) rfl
theorem mp_X12_put : yX12_put.cls ≠ "java/lang/invoke/MethodHandle" ∧ yX12_put.cls ≠ "java/lang/invoke/VarHandle" ∧ (parseMethodDescriptor yX12_put.desc).map (fun d => d.parameters.length) = some 1 := ⟨by decide +kernel, by decide +kernel, by decide +kernel⟩
theorem mn_X12_put : Cond.instanceMethod yX12_put ∈ tb := tb_of (in_t6 _ (List.mem_of_getElem? (i := 32) rfl)) rfl
theorem sl_X12_put : Cond.selects yX12_put.cls yX12_put yX12_put ∈ tb := tb_of (in_t0 _ (List.mem_of_getElem? (i := 81) rfl)) rfl
theorem cv_X12_249 : CV RX12 249 yX12_put cX12_put 2 none 1 12 := ⟨⟨mc_X12_put, mi_X12, mp_X12_put, Or.inl (tb_of (in_t6 _ (List.mem_of_getElem? (i := 30) rfl)) rfl)⟩, mn_X12_put, sl_X12_put, by decide, TX12, 73, rfl⟩
theorem mc_X12_place : Cond.code yX12_place cX12_place 2 (some .int) ∈ tb := tb_of (in_t6 _ (List.mem_of_getElem? (i := 29) rfl)) rfl
theorem mp_X12_place : yX12_place.cls ≠ "java/lang/invoke/MethodHandle" ∧ yX12_place.cls ≠ "java/lang/invoke/VarHandle" ∧ (parseMethodDescriptor yX12_place.desc).map (fun d => d.parameters.length) = some 1 := ⟨by decide +kernel, by decide +kernel, by decide +kernel⟩
theorem mn_X12_place : Cond.instanceMethod yX12_place ∈ tb := tb_of (in_t6 _ (List.mem_of_getElem? (i := 28) rfl)) rfl
theorem sl_X12_place : Cond.selects yX12_place.cls yX12_place yX12_place ∈ tb := tb_of (in_t0 _ (List.mem_of_getElem? (i := 80) rfl)) rfl
theorem cv_X12_253 : CV RX12 253 yX12_place cX12_place 2 (some .int) 1 12 := ⟨⟨mc_X12_place, mi_X12, mp_X12_place, Or.inl (tb_of (in_t6 _ (List.mem_of_getElem? (i := 26) rfl)) rfl)⟩, mn_X12_place, sl_X12_place, by decide, TX12, 73, rfl⟩
theorem mc_X12_takesNumber : Cond.code yX12_takesNumber cX12_takesNumber 3 (some .boolean) ∈ tb := tb_of (in_t6 _ (List.mem_of_getElem? (i := 13) rfl)) rfl
theorem mp_X12_takesNumber : yX12_takesNumber.cls ≠ "java/lang/invoke/MethodHandle" ∧ yX12_takesNumber.cls ≠ "java/lang/invoke/VarHandle" ∧ (parseMethodDescriptor yX12_takesNumber.desc).map (fun d => d.parameters.length) = some 1 := ⟨by decide +kernel, by decide +kernel, by decide +kernel⟩
theorem mn_X12_takesNumber : Cond.instanceMethod yX12_takesNumber ∈ tb := tb_of (in_t6 _ (List.mem_of_getElem? (i := 12) rfl)) rfl
theorem sl_X12_takesNumber : Cond.selects yX12_takesNumber.cls yX12_takesNumber yX12_takesNumber ∈ tb := tb_of (in_t0 _ (List.mem_of_getElem? (i := 76) rfl)) rfl
theorem cv_X12_257 : CV RX12 257 yX12_takesNumber cX12_takesNumber 3 (some .boolean) 1 12 := ⟨⟨mc_X12_takesNumber, mi_X12, mp_X12_takesNumber, Or.inl (tb_of (in_t6 _ (List.mem_of_getElem? (i := 10) rfl)) rfl)⟩, mn_X12_takesNumber, sl_X12_takesNumber, by decide, TX12, 73, rfl⟩
theorem k_sipush_1000 : (Int16.ofInt (1000)).toInt32 = (1000 : Int32) := by decide
theorem mc_X12_whole : Cond.code yX12_whole cX12_whole 1 none ∈ tb := tb_of (in_t6 _ (List.mem_of_getElem? (i := 37) rfl)) rfl
theorem mp_X12_whole : yX12_whole.cls ≠ "java/lang/invoke/MethodHandle" ∧ yX12_whole.cls ≠ "java/lang/invoke/VarHandle" ∧ (parseMethodDescriptor yX12_whole.desc).map (fun d => d.parameters.length) = some 0 := ⟨by decide +kernel, by decide +kernel, by decide +kernel⟩
theorem mn_X12_whole : Cond.instanceMethod yX12_whole ∈ tb := tb_of (in_t6 _ (List.mem_of_getElem? (i := 36) rfl)) rfl
theorem sl_X12_whole : Cond.selects yX12_whole.cls yX12_whole yX12_whole ∈ tb := tb_of (in_t0 _ (List.mem_of_getElem? (i := 82) rfl)) rfl
theorem cv_X12_260 : CV RX12 260 yX12_whole cX12_whole 1 none 0 12 := ⟨⟨mc_X12_whole, mi_X12, mp_X12_whole, Or.inl (tb_of (in_t6 _ (List.mem_of_getElem? (i := 34) rfl)) rfl)⟩, mn_X12_whole, sl_X12_whole, by decide, TX12, 73, rfl⟩
theorem mc_X12_settle : Cond.code yX12_settle cX12_settle 2 none ∈ tb := tb_of (in_t6 _ (List.mem_of_getElem? (i := 41) rfl)) rfl
theorem mp_X12_settle : yX12_settle.cls ≠ "java/lang/invoke/MethodHandle" ∧ yX12_settle.cls ≠ "java/lang/invoke/VarHandle" ∧ (parseMethodDescriptor yX12_settle.desc).map (fun d => d.parameters.length) = some 1 := ⟨by decide +kernel, by decide +kernel, by decide +kernel⟩
theorem mn_X12_settle : Cond.instanceMethod yX12_settle ∈ tb := tb_of (in_t6 _ (List.mem_of_getElem? (i := 40) rfl)) rfl
theorem sl_X12_settle : Cond.selects yX12_settle.cls yX12_settle yX12_settle ∈ tb := tb_of (in_t0 _ (List.mem_of_getElem? (i := 83) rfl)) rfl
theorem cv_X12_266 : CV RX12 266 yX12_settle cX12_settle 2 none 1 12 := ⟨⟨mc_X12_settle, mi_X12, mp_X12_settle, Or.inl (tb_of (in_t6 _ (List.mem_of_getElem? (i := 38) rfl)) rfl)⟩, mn_X12_settle, sl_X12_settle, by decide, TX12, 73, rfl⟩
theorem mc_X12_takesTest : Cond.code yX12_takesTest cX12_takesTest 3 (some .boolean) ∈ tb := tb_of (in_t6 _ (List.mem_of_getElem? (i := 25) rfl)) rfl
theorem mp_X12_takesTest : yX12_takesTest.cls ≠ "java/lang/invoke/MethodHandle" ∧ yX12_takesTest.cls ≠ "java/lang/invoke/VarHandle" ∧ (parseMethodDescriptor yX12_takesTest.desc).map (fun d => d.parameters.length) = some 0 := ⟨by decide +kernel, by decide +kernel, by decide +kernel⟩
theorem mn_X12_takesTest : Cond.instanceMethod yX12_takesTest ∈ tb := tb_of (in_t6 _ (List.mem_of_getElem? (i := 24) rfl)) rfl
theorem sl_X12_takesTest : Cond.selects yX12_takesTest.cls yX12_takesTest yX12_takesTest ∈ tb := tb_of (in_t0 _ (List.mem_of_getElem? (i := 79) rfl)) rfl
theorem cv_X12_263 : CV RX12 263 yX12_takesTest cX12_takesTest 3 (some .boolean) 0 12 := ⟨⟨mc_X12_takesTest, mi_X12, mp_X12_takesTest, Or.inl (tb_of (in_t6 _ (List.mem_of_getElem? (i := 22) rfl)) rfl)⟩, mn_X12_takesTest, sl_X12_takesTest, by decide, TX12, 73, rfl⟩
theorem ct_X12_276 : Cond.constant RX12 276 (759180) ∈ tb := tb_of (in_t6 _ (List.mem_of_getElem? (i := 5) rfl)) rfl
theorem mc_X12_takesWord : Cond.code yX12_takesWord cX12_takesWord 4 (some .boolean) ∈ tb := tb_of (in_t6 _ (List.mem_of_getElem? (i := 0) rfl)) rfl
theorem mp_X12_takesWord : yX12_takesWord.cls ≠ "java/lang/invoke/MethodHandle" ∧ yX12_takesWord.cls ≠ "java/lang/invoke/VarHandle" ∧ (parseMethodDescriptor yX12_takesWord.desc).map (fun d => d.parameters.length) = some 2 := ⟨by decide +kernel, by decide +kernel, by decide +kernel⟩
theorem mn_X12_takesWord : Cond.instanceMethod yX12_takesWord ∈ tb := tb_of (in_t5 _ (List.mem_of_getElem? (i := 239) rfl)) rfl
theorem sl_X12_takesWord : Cond.selects yX12_takesWord.cls yX12_takesWord yX12_takesWord ∈ tb := tb_of (in_t0 _ (List.mem_of_getElem? (i := 74) rfl)) rfl
theorem cv_X12_272 : CV RX12 272 yX12_takesWord cX12_takesWord 4 (some .boolean) 2 12 := ⟨⟨mc_X12_takesWord, mi_X12, mp_X12_takesWord, Or.inl (tb_of (in_t5 _ (List.mem_of_getElem? (i := 237) rfl)) rfl)⟩, mn_X12_takesWord, sl_X12_takesWord, by decide, TX12, 73, rfl⟩
theorem k_sipush_23609 : (Int16.ofInt (23609)).toInt32 = (23609 : Int32) := by decide
theorem mc_X12_second : Cond.code yX12_second cX12_second 1 (some .int) ∈ tb := tb_of (in_t5 _ (List.mem_of_getElem? (i := 232) rfl)) rfl
theorem mp_X12_second : yX12_second.cls ≠ "java/lang/invoke/MethodHandle" ∧ yX12_second.cls ≠ "java/lang/invoke/VarHandle" ∧ (parseMethodDescriptor yX12_second.desc).map (fun d => d.parameters.length) = some 0 := ⟨by decide +kernel, by decide +kernel, by decide +kernel⟩
theorem mn_X12_second : Cond.instanceMethod yX12_second ∈ tb := tb_of (in_t5 _ (List.mem_of_getElem? (i := 231) rfl)) rfl
theorem sl_X12_second : Cond.selects yX12_second.cls yX12_second yX12_second ∈ tb := tb_of (in_t0 _ (List.mem_of_getElem? (i := 72) rfl)) rfl
theorem cv_X12_269 : CV RX12 269 yX12_second cX12_second 1 (some .int) 0 12 := ⟨⟨mc_X12_second, mi_X12, mp_X12_second, Or.inl (tb_of (in_t5 _ (List.mem_of_getElem? (i := 229) rfl)) rfl)⟩, mn_X12_second, sl_X12_second, by decide, TX12, 73, rfl⟩
theorem ct_X12_278 : Cond.constant RX12 278 (3197529) ∈ tb := tb_of (in_t6 _ (List.mem_of_getElem? (i := 7) rfl)) rfl
theorem ct_X12_277 : Cond.constant RX12 277 (4793803) ∈ tb := tb_of (in_t6 _ (List.mem_of_getElem? (i := 6) rfl)) rfl
theorem ct_X12_279 : Cond.constant RX12 279 (408612) ∈ tb := tb_of (in_t6 _ (List.mem_of_getElem? (i := 8) rfl)) rfl
theorem ct_X12_280 : Cond.constant RX12 280 (20579780) ∈ tb := tb_of (in_t6 _ (List.mem_of_getElem? (i := 9) rfl)) rfl
theorem mc_X12_takesE : Cond.code yX12_takesE cX12_takesE 4 (some .boolean) ∈ tb := tb_of (in_t6 _ (List.mem_of_getElem? (i := 21) rfl)) rfl
theorem mp_X12_takesE : yX12_takesE.cls ≠ "java/lang/invoke/MethodHandle" ∧ yX12_takesE.cls ≠ "java/lang/invoke/VarHandle" ∧ (parseMethodDescriptor yX12_takesE.desc).map (fun d => d.parameters.length) = some 1 := ⟨by decide +kernel, by decide +kernel, by decide +kernel⟩
theorem mn_X12_takesE : Cond.instanceMethod yX12_takesE ∈ tb := tb_of (in_t6 _ (List.mem_of_getElem? (i := 20) rfl)) rfl
theorem sl_X12_takesE : Cond.selects yX12_takesE.cls yX12_takesE yX12_takesE ∈ tb := tb_of (in_t0 _ (List.mem_of_getElem? (i := 78) rfl)) rfl
theorem cv_X12_284 : CV RX12 284 yX12_takesE cX12_takesE 4 (some .boolean) 1 12 := ⟨⟨mc_X12_takesE, mi_X12, mp_X12_takesE, Or.inl (tb_of (in_t6 _ (List.mem_of_getElem? (i := 18) rfl)) rfl)⟩, mn_X12_takesE, sl_X12_takesE, by decide, TX12, 73, rfl⟩
theorem mc_X12_takesHead : Cond.code yX12_takesHead cX12_takesHead 3 (some .boolean) ∈ tb := tb_of (in_t5 _ (List.mem_of_getElem? (i := 228) rfl)) rfl
theorem mp_X12_takesHead : yX12_takesHead.cls ≠ "java/lang/invoke/MethodHandle" ∧ yX12_takesHead.cls ≠ "java/lang/invoke/VarHandle" ∧ (parseMethodDescriptor yX12_takesHead.desc).map (fun d => d.parameters.length) = some 1 := ⟨by decide +kernel, by decide +kernel, by decide +kernel⟩
theorem mn_X12_takesHead : Cond.instanceMethod yX12_takesHead ∈ tb := tb_of (in_t5 _ (List.mem_of_getElem? (i := 227) rfl)) rfl
theorem sl_X12_takesHead : Cond.selects yX12_takesHead.cls yX12_takesHead yX12_takesHead ∈ tb := tb_of (in_t0 _ (List.mem_of_getElem? (i := 71) rfl)) rfl
theorem cv_X12_281 : CV RX12 281 yX12_takesHead cX12_takesHead 3 (some .boolean) 1 12 := ⟨⟨mc_X12_takesHead, mi_X12, mp_X12_takesHead, Or.inl (tb_of (in_t5 _ (List.mem_of_getElem? (i := 225) rfl)) rfl)⟩, mn_X12_takesHead, sl_X12_takesHead, by decide, TX12, 73, rfl⟩
theorem mc_X12_takesClause : Cond.code yX12_takesClause cX12_takesClause 2 (some .boolean) ∈ tb := tb_of (in_t5 _ (List.mem_of_getElem? (i := 224) rfl)) rfl
theorem mp_X12_takesClause : yX12_takesClause.cls ≠ "java/lang/invoke/MethodHandle" ∧ yX12_takesClause.cls ≠ "java/lang/invoke/VarHandle" ∧ (parseMethodDescriptor yX12_takesClause.desc).map (fun d => d.parameters.length) = some 1 := ⟨by decide +kernel, by decide +kernel, by decide +kernel⟩
theorem mn_X12_takesClause : Cond.instanceMethod yX12_takesClause ∈ tb := tb_of (in_t5 _ (List.mem_of_getElem? (i := 223) rfl)) rfl
theorem sl_X12_takesClause : Cond.selects yX12_takesClause.cls yX12_takesClause yX12_takesClause ∈ tb := tb_of (in_t0 _ (List.mem_of_getElem? (i := 70) rfl)) rfl
theorem cv_X12_287 : CV RX12 287 yX12_takesClause cX12_takesClause 2 (some .boolean) 1 12 := ⟨⟨mc_X12_takesClause, mi_X12, mp_X12_takesClause, Or.inl (tb_of (in_t5 _ (List.mem_of_getElem? (i := 221) rfl)) rfl)⟩, mn_X12_takesClause, sl_X12_takesClause, by decide, TX12, 73, rfl⟩
theorem mc_X12_behind : Cond.code yX12_behind cX12_behind 1 (some .int) ∈ tb := tb_of (in_t6 _ (List.mem_of_getElem? (i := 57) rfl)) rfl
theorem mp_X12_behind : yX12_behind.cls ≠ "java/lang/invoke/MethodHandle" ∧ yX12_behind.cls ≠ "java/lang/invoke/VarHandle" ∧ (parseMethodDescriptor yX12_behind.desc).map (fun d => d.parameters.length) = some 0 := ⟨by decide +kernel, by decide +kernel, by decide +kernel⟩
theorem mn_X12_behind : Cond.instanceMethod yX12_behind ∈ tb := tb_of (in_t6 _ (List.mem_of_getElem? (i := 56) rfl)) rfl
theorem sl_X12_behind : Cond.selects yX12_behind.cls yX12_behind yX12_behind ∈ tb := tb_of (in_t0 _ (List.mem_of_getElem? (i := 87) rfl)) rfl
theorem cv_X12_299 : CV RX12 299 yX12_behind cX12_behind 1 (some .int) 0 12 := ⟨⟨mc_X12_behind, mi_X12, mp_X12_behind, Or.inl (tb_of (in_t6 _ (List.mem_of_getElem? (i := 54) rfl)) rfl)⟩, mn_X12_behind, sl_X12_behind, by decide, TX12, 73, rfl⟩
theorem mc_X12_first : Cond.code yX12_first cX12_first 1 (some .int) ∈ tb := tb_of (in_t6 _ (List.mem_of_getElem? (i := 53) rfl)) rfl
theorem mp_X12_first : yX12_first.cls ≠ "java/lang/invoke/MethodHandle" ∧ yX12_first.cls ≠ "java/lang/invoke/VarHandle" ∧ (parseMethodDescriptor yX12_first.desc).map (fun d => d.parameters.length) = some 0 := ⟨by decide +kernel, by decide +kernel, by decide +kernel⟩
theorem mn_X12_first : Cond.instanceMethod yX12_first ∈ tb := tb_of (in_t6 _ (List.mem_of_getElem? (i := 52) rfl)) rfl
theorem sl_X12_first : Cond.selects yX12_first.cls yX12_first yX12_first ∈ tb := tb_of (in_t0 _ (List.mem_of_getElem? (i := 86) rfl)) rfl
theorem cv_X12_296 : CV RX12 296 yX12_first cX12_first 1 (some .int) 0 12 := ⟨⟨mc_X12_first, mi_X12, mp_X12_first, Or.inl (tb_of (in_t6 _ (List.mem_of_getElem? (i := 50) rfl)) rfl)⟩, mn_X12_first, sl_X12_first, by decide, TX12, 73, rfl⟩
theorem mc_X12_lay : Cond.code yX12_lay cX12_lay 3 none ∈ tb := tb_of (in_t6 _ (List.mem_of_getElem? (i := 49) rfl)) rfl
theorem mp_X12_lay : yX12_lay.cls ≠ "java/lang/invoke/MethodHandle" ∧ yX12_lay.cls ≠ "java/lang/invoke/VarHandle" ∧ (parseMethodDescriptor yX12_lay.desc).map (fun d => d.parameters.length) = some 0 := ⟨by decide +kernel, by decide +kernel, by decide +kernel⟩
theorem mn_X12_lay : Cond.instanceMethod yX12_lay ∈ tb := tb_of (in_t6 _ (List.mem_of_getElem? (i := 48) rfl)) rfl
theorem sl_X12_lay : Cond.selects yX12_lay.cls yX12_lay yX12_lay ∈ tb := tb_of (in_t0 _ (List.mem_of_getElem? (i := 85) rfl)) rfl
theorem cv_X12_306 : CV RX12 306 yX12_lay cX12_lay 3 none 0 12 := ⟨⟨mc_X12_lay, mi_X12, mp_X12_lay, Or.inl (tb_of (in_t6 _ (List.mem_of_getElem? (i := 46) rfl)) rfl)⟩, mn_X12_lay, sl_X12_lay, by decide, TX12, 73, rfl⟩
theorem mc_X12_goesText : Cond.code yX12_goesText cX12_goesText 3 (some .boolean) ∈ tb := tb_of (in_t5 _ (List.mem_of_getElem? (i := 220) rfl)) rfl
theorem mp_X12_goesText : yX12_goesText.cls ≠ "java/lang/invoke/MethodHandle" ∧ yX12_goesText.cls ≠ "java/lang/invoke/VarHandle" ∧ (parseMethodDescriptor yX12_goesText.desc).map (fun d => d.parameters.length) = some 1 := ⟨by decide +kernel, by decide +kernel, by decide +kernel⟩
theorem mn_X12_goesText : Cond.instanceMethod yX12_goesText ∈ tb := tb_of (in_t5 _ (List.mem_of_getElem? (i := 219) rfl)) rfl
theorem sl_X12_goesText : Cond.selects yX12_goesText.cls yX12_goesText yX12_goesText ∈ tb := tb_of (in_t0 _ (List.mem_of_getElem? (i := 69) rfl)) rfl
theorem cv_X12_290 : CV RX12 290 yX12_goesText cX12_goesText 3 (some .boolean) 1 12 := ⟨⟨mc_X12_goesText, mi_X12, mp_X12_goesText, Or.inl (tb_of (in_t5 _ (List.mem_of_getElem? (i := 217) rfl)) rfl)⟩, mn_X12_goesText, sl_X12_goesText, by decide, TX12, 73, rfl⟩
theorem mc_X12_fresh : Cond.code yX12_fresh cX12_fresh 2 none ∈ tb := tb_of (in_t6 _ (List.mem_of_getElem? (i := 45) rfl)) rfl
theorem mp_X12_fresh : yX12_fresh.cls ≠ "java/lang/invoke/MethodHandle" ∧ yX12_fresh.cls ≠ "java/lang/invoke/VarHandle" ∧ (parseMethodDescriptor yX12_fresh.desc).map (fun d => d.parameters.length) = some 0 := ⟨by decide +kernel, by decide +kernel, by decide +kernel⟩
theorem mn_X12_fresh : Cond.instanceMethod yX12_fresh ∈ tb := tb_of (in_t6 _ (List.mem_of_getElem? (i := 44) rfl)) rfl
theorem sl_X12_fresh : Cond.selects yX12_fresh.cls yX12_fresh yX12_fresh ∈ tb := tb_of (in_t0 _ (List.mem_of_getElem? (i := 84) rfl)) rfl
theorem cv_X12_293 : CV RX12 293 yX12_fresh cX12_fresh 2 none 0 12 := ⟨⟨mc_X12_fresh, mi_X12, mp_X12_fresh, Or.inl (tb_of (in_t6 _ (List.mem_of_getElem? (i := 42) rfl)) rfl)⟩, mn_X12_fresh, sl_X12_fresh, by decide, TX12, 73, rfl⟩
theorem k_nz_100 : ¬ (100 : Int32) = 0 := by decide
theorem k_sipush_2000 : (Int16.ofInt (2000)).toInt32 = (2000 : Int32) := by decide
theorem k_bipush_m38 : (Int8.ofInt (-38)).toInt32 = (-38 : Int32) := by decide
theorem mc_X12_holdsTest : Cond.code yX12_holdsTest cX12_holdsTest 10 (some .boolean) ∈ tb := tb_of (in_t6 _ (List.mem_of_getElem? (i := 97) rfl)) rfl
theorem mp_X12_holdsTest : yX12_holdsTest.cls ≠ "java/lang/invoke/MethodHandle" ∧ yX12_holdsTest.cls ≠ "java/lang/invoke/VarHandle" ∧ (parseMethodDescriptor yX12_holdsTest.desc).map (fun d => d.parameters.length) = some 4 := ⟨by decide +kernel, by decide +kernel, by decide +kernel⟩
theorem mn_X12_holdsTest : Cond.instanceMethod yX12_holdsTest ∈ tb := tb_of (in_t6 _ (List.mem_of_getElem? (i := 96) rfl)) rfl
theorem sl_X12_holdsTest : Cond.selects yX12_holdsTest.cls yX12_holdsTest yX12_holdsTest ∈ tb := tb_of (in_t0 _ (List.mem_of_getElem? (i := 94) rfl)) rfl
theorem cv_X12_302 : CV RX12 302 yX12_holdsTest cX12_holdsTest 10 (some .boolean) 4 12 := ⟨⟨mc_X12_holdsTest, mi_X12, mp_X12_holdsTest, Or.inl (tb_of (in_t6 _ (List.mem_of_getElem? (i := 94) rfl)) rfl)⟩, mn_X12_holdsTest, sl_X12_holdsTest, by decide, TX12, 73, rfl⟩
theorem mc_X12_min : Cond.code yX12_min cX12_min 3 (some .int) ∈ tb := tb_of (in_t6 _ (List.mem_of_getElem? (i := 85) rfl)) rfl
theorem mp_X12_min : yX12_min.cls ≠ "java/lang/invoke/MethodHandle" ∧ yX12_min.cls ≠ "java/lang/invoke/VarHandle" ∧ (parseMethodDescriptor yX12_min.desc).map (fun d => d.parameters.length) = some 2 := ⟨by decide +kernel, by decide +kernel, by decide +kernel⟩
theorem mn_X12_min : Cond.instanceMethod yX12_min ∈ tb := tb_of (in_t6 _ (List.mem_of_getElem? (i := 84) rfl)) rfl
theorem sl_X12_min : Cond.selects yX12_min.cls yX12_min yX12_min ∈ tb := tb_of (in_t0 _ (List.mem_of_getElem? (i := 92) rfl)) rfl
theorem cv_X12_309 : CV RX12 309 yX12_min cX12_min 3 (some .int) 2 12 := ⟨⟨mc_X12_min, mi_X12, mp_X12_min, Or.inl (tb_of (in_t6 _ (List.mem_of_getElem? (i := 82) rfl)) rfl)⟩, mn_X12_min, sl_X12_min, by decide, TX12, 73, rfl⟩
theorem mc_X12_isTold : Cond.code yX12_isTold cX12_isTold 2 (some .boolean) ∈ tb := tb_of (in_t6 _ (List.mem_of_getElem? (i := 65) rfl)) rfl
theorem mp_X12_isTold : yX12_isTold.cls ≠ "java/lang/invoke/MethodHandle" ∧ yX12_isTold.cls ≠ "java/lang/invoke/VarHandle" ∧ (parseMethodDescriptor yX12_isTold.desc).map (fun d => d.parameters.length) = some 1 := ⟨by decide +kernel, by decide +kernel, by decide +kernel⟩
theorem mn_X12_isTold : Cond.instanceMethod yX12_isTold ∈ tb := tb_of (in_t6 _ (List.mem_of_getElem? (i := 64) rfl)) rfl
theorem sl_X12_isTold : Cond.selects yX12_isTold.cls yX12_isTold yX12_isTold ∈ tb := tb_of (in_t0 _ (List.mem_of_getElem? (i := 88) rfl)) rfl
theorem cv_X12_313 : CV RX12 313 yX12_isTold cX12_isTold 2 (some .boolean) 1 12 := ⟨⟨mc_X12_isTold, mi_X12, mp_X12_isTold, Or.inl (tb_of (in_t6 _ (List.mem_of_getElem? (i := 62) rfl)) rfl)⟩, mn_X12_isTold, sl_X12_isTold, by decide, TX12, 73, rfl⟩
theorem mc_X12_last : Cond.code yX12_last cX12_last 5 (some .int) ∈ tb := tb_of (in_t6 _ (List.mem_of_getElem? (i := 69) rfl)) rfl
theorem mp_X12_last : yX12_last.cls ≠ "java/lang/invoke/MethodHandle" ∧ yX12_last.cls ≠ "java/lang/invoke/VarHandle" ∧ (parseMethodDescriptor yX12_last.desc).map (fun d => d.parameters.length) = some 2 := ⟨by decide +kernel, by decide +kernel, by decide +kernel⟩
theorem mn_X12_last : Cond.instanceMethod yX12_last ∈ tb := tb_of (in_t6 _ (List.mem_of_getElem? (i := 68) rfl)) rfl
theorem sl_X12_last : Cond.selects yX12_last.cls yX12_last yX12_last ∈ tb := tb_of (in_t0 _ (List.mem_of_getElem? (i := 89) rfl)) rfl
theorem cv_X12_316 : CV RX12 316 yX12_last cX12_last 5 (some .int) 2 12 := ⟨⟨mc_X12_last, mi_X12, mp_X12_last, Or.inl (tb_of (in_t6 _ (List.mem_of_getElem? (i := 66) rfl)) rfl)⟩, mn_X12_last, sl_X12_last, by decide, TX12, 73, rfl⟩
theorem mc_X12_isHour : Cond.code yX12_isHour cX12_isHour 2 (some .boolean) ∈ tb := tb_of (in_t6 _ (List.mem_of_getElem? (i := 77) rfl)) rfl
theorem mp_X12_isHour : yX12_isHour.cls ≠ "java/lang/invoke/MethodHandle" ∧ yX12_isHour.cls ≠ "java/lang/invoke/VarHandle" ∧ (parseMethodDescriptor yX12_isHour.desc).map (fun d => d.parameters.length) = some 1 := ⟨by decide +kernel, by decide +kernel, by decide +kernel⟩
theorem mn_X12_isHour : Cond.instanceMethod yX12_isHour ∈ tb := tb_of (in_t6 _ (List.mem_of_getElem? (i := 76) rfl)) rfl
theorem sl_X12_isHour : Cond.selects yX12_isHour.cls yX12_isHour yX12_isHour ∈ tb := tb_of (in_t0 _ (List.mem_of_getElem? (i := 90) rfl)) rfl
theorem cv_X12_319 : CV RX12 319 yX12_isHour cX12_isHour 2 (some .boolean) 1 12 := ⟨⟨mc_X12_isHour, mi_X12, mp_X12_isHour, Or.inl (tb_of (in_t6 _ (List.mem_of_getElem? (i := 74) rfl)) rfl)⟩, mn_X12_isHour, sl_X12_isHour, by decide, TX12, 73, rfl⟩
theorem mc_X12_heldBy : Cond.code yX12_heldBy cX12_heldBy 3 (some .int) ∈ tb := tb_of (in_t6 _ (List.mem_of_getElem? (i := 81) rfl)) rfl
theorem mp_X12_heldBy : yX12_heldBy.cls ≠ "java/lang/invoke/MethodHandle" ∧ yX12_heldBy.cls ≠ "java/lang/invoke/VarHandle" ∧ (parseMethodDescriptor yX12_heldBy.desc).map (fun d => d.parameters.length) = some 2 := ⟨by decide +kernel, by decide +kernel, by decide +kernel⟩
theorem mn_X12_heldBy : Cond.instanceMethod yX12_heldBy ∈ tb := tb_of (in_t6 _ (List.mem_of_getElem? (i := 80) rfl)) rfl
theorem sl_X12_heldBy : Cond.selects yX12_heldBy.cls yX12_heldBy yX12_heldBy ∈ tb := tb_of (in_t0 _ (List.mem_of_getElem? (i := 91) rfl)) rfl
theorem cv_X12_322 : CV RX12 322 yX12_heldBy cX12_heldBy 3 (some .int) 2 12 := ⟨⟨mc_X12_heldBy, mi_X12, mp_X12_heldBy, Or.inl (tb_of (in_t6 _ (List.mem_of_getElem? (i := 78) rfl)) rfl)⟩, mn_X12_heldBy, sl_X12_heldBy, by decide, TX12, 73, rfl⟩
theorem mc_X12_drinksOf : Cond.code yX12_drinksOf cX12_drinksOf 6 (some .int) ∈ tb := tb_of (in_t6 _ (List.mem_of_getElem? (i := 93) rfl)) rfl
theorem mp_X12_drinksOf : yX12_drinksOf.cls ≠ "java/lang/invoke/MethodHandle" ∧ yX12_drinksOf.cls ≠ "java/lang/invoke/VarHandle" ∧ (parseMethodDescriptor yX12_drinksOf.desc).map (fun d => d.parameters.length) = some 3 := ⟨by decide +kernel, by decide +kernel, by decide +kernel⟩
theorem mn_X12_drinksOf : Cond.instanceMethod yX12_drinksOf ∈ tb := tb_of (in_t6 _ (List.mem_of_getElem? (i := 92) rfl)) rfl
theorem sl_X12_drinksOf : Cond.selects yX12_drinksOf.cls yX12_drinksOf yX12_drinksOf ∈ tb := tb_of (in_t0 _ (List.mem_of_getElem? (i := 93) rfl)) rfl
theorem cv_X12_325 : CV RX12 325 yX12_drinksOf cX12_drinksOf 6 (some .int) 3 12 := ⟨⟨mc_X12_drinksOf, mi_X12, mp_X12_drinksOf, Or.inl (tb_of (in_t6 _ (List.mem_of_getElem? (i := 90) rfl)) rfl)⟩, mn_X12_drinksOf, sl_X12_drinksOf, by decide, TX12, 73, rfl⟩
theorem mc_X12_isRule : Cond.code yX12_isRule cX12_isRule 2 (some .boolean) ∈ tb := tb_of (in_t6 _ (List.mem_of_getElem? (i := 117) rfl)) rfl
theorem mp_X12_isRule : yX12_isRule.cls ≠ "java/lang/invoke/MethodHandle" ∧ yX12_isRule.cls ≠ "java/lang/invoke/VarHandle" ∧ (parseMethodDescriptor yX12_isRule.desc).map (fun d => d.parameters.length) = some 1 := ⟨by decide +kernel, by decide +kernel, by decide +kernel⟩
theorem mn_X12_isRule : Cond.instanceMethod yX12_isRule ∈ tb := tb_of (in_t6 _ (List.mem_of_getElem? (i := 116) rfl)) rfl
theorem sl_X12_isRule : Cond.selects yX12_isRule.cls yX12_isRule yX12_isRule ∈ tb := tb_of (in_t0 _ (List.mem_of_getElem? (i := 95) rfl)) rfl
theorem cv_X12_329 : CV RX12 329 yX12_isRule cX12_isRule 2 (some .boolean) 1 12 := ⟨⟨mc_X12_isRule, mi_X12, mp_X12_isRule, Or.inl (tb_of (in_t6 _ (List.mem_of_getElem? (i := 114) rfl)) rfl)⟩, mn_X12_isRule, sl_X12_isRule, by decide, TX12, 73, rfl⟩
theorem mc_X12_standsFor : Cond.code yX12_standsFor cX12_standsFor 2 (some .boolean) ∈ tb := tb_of (in_t6 _ (List.mem_of_getElem? (i := 165) rfl)) rfl
theorem mp_X12_standsFor : yX12_standsFor.cls ≠ "java/lang/invoke/MethodHandle" ∧ yX12_standsFor.cls ≠ "java/lang/invoke/VarHandle" ∧ (parseMethodDescriptor yX12_standsFor.desc).map (fun d => d.parameters.length) = some 1 := ⟨by decide +kernel, by decide +kernel, by decide +kernel⟩
theorem mn_X12_standsFor : Cond.instanceMethod yX12_standsFor ∈ tb := tb_of (in_t6 _ (List.mem_of_getElem? (i := 164) rfl)) rfl
theorem sl_X12_standsFor : Cond.selects yX12_standsFor.cls yX12_standsFor yX12_standsFor ∈ tb := tb_of (in_t0 _ (List.mem_of_getElem? (i := 104) rfl)) rfl
theorem cv_X12_332 : CV RX12 332 yX12_standsFor cX12_standsFor 2 (some .boolean) 1 12 := ⟨⟨mc_X12_standsFor, mi_X12, mp_X12_standsFor, Or.inl (tb_of (in_t6 _ (List.mem_of_getElem? (i := 162) rfl)) rfl)⟩, mn_X12_standsFor, sl_X12_standsFor, by decide, TX12, 73, rfl⟩
theorem mc_X12_drawsAt : Cond.code yX12_drawsAt cX12_drawsAt 5 none ∈ tb := tb_of (in_t6 _ (List.mem_of_getElem? (i := 169) rfl)) rfl
theorem mp_X12_drawsAt : yX12_drawsAt.cls ≠ "java/lang/invoke/MethodHandle" ∧ yX12_drawsAt.cls ≠ "java/lang/invoke/VarHandle" ∧ (parseMethodDescriptor yX12_drawsAt.desc).map (fun d => d.parameters.length) = some 2 := ⟨by decide +kernel, by decide +kernel, by decide +kernel⟩
theorem mn_X12_drawsAt : Cond.instanceMethod yX12_drawsAt ∈ tb := tb_of (in_t6 _ (List.mem_of_getElem? (i := 168) rfl)) rfl
theorem sl_X12_drawsAt : Cond.selects yX12_drawsAt.cls yX12_drawsAt yX12_drawsAt ∈ tb := tb_of (in_t0 _ (List.mem_of_getElem? (i := 105) rfl)) rfl
theorem cv_X12_341 : CV RX12 341 yX12_drawsAt cX12_drawsAt 5 none 2 12 := ⟨⟨mc_X12_drawsAt, mi_X12, mp_X12_drawsAt, Or.inl (tb_of (in_t6 _ (List.mem_of_getElem? (i := 166) rfl)) rfl)⟩, mn_X12_drawsAt, sl_X12_drawsAt, by decide, TX12, 73, rfl⟩
theorem mc_X12_goesWay : Cond.code yX12_goesWay cX12_goesWay 4 (some .boolean) ∈ tb := tb_of (in_t6 _ (List.mem_of_getElem? (i := 157) rfl)) rfl
theorem mp_X12_goesWay : yX12_goesWay.cls ≠ "java/lang/invoke/MethodHandle" ∧ yX12_goesWay.cls ≠ "java/lang/invoke/VarHandle" ∧ (parseMethodDescriptor yX12_goesWay.desc).map (fun d => d.parameters.length) = some 1 := ⟨by decide +kernel, by decide +kernel, by decide +kernel⟩
theorem mn_X12_goesWay : Cond.instanceMethod yX12_goesWay ∈ tb := tb_of (in_t6 _ (List.mem_of_getElem? (i := 156) rfl)) rfl
theorem sl_X12_goesWay : Cond.selects yX12_goesWay.cls yX12_goesWay yX12_goesWay ∈ tb := tb_of (in_t0 _ (List.mem_of_getElem? (i := 102) rfl)) rfl
theorem cv_X12_335 : CV RX12 335 yX12_goesWay cX12_goesWay 4 (some .boolean) 1 12 := ⟨⟨mc_X12_goesWay, mi_X12, mp_X12_goesWay, Or.inl (tb_of (in_t6 _ (List.mem_of_getElem? (i := 154) rfl)) rfl)⟩, mn_X12_goesWay, sl_X12_goesWay, by decide, TX12, 73, rfl⟩
theorem mc_X12_waitsAt : Cond.code yX12_waitsAt cX12_waitsAt 2 (some .boolean) ∈ tb := tb_of (in_t6 _ (List.mem_of_getElem? (i := 161) rfl)) rfl
theorem mp_X12_waitsAt : yX12_waitsAt.cls ≠ "java/lang/invoke/MethodHandle" ∧ yX12_waitsAt.cls ≠ "java/lang/invoke/VarHandle" ∧ (parseMethodDescriptor yX12_waitsAt.desc).map (fun d => d.parameters.length) = some 1 := ⟨by decide +kernel, by decide +kernel, by decide +kernel⟩
theorem mn_X12_waitsAt : Cond.instanceMethod yX12_waitsAt ∈ tb := tb_of (in_t6 _ (List.mem_of_getElem? (i := 160) rfl)) rfl
theorem sl_X12_waitsAt : Cond.selects yX12_waitsAt.cls yX12_waitsAt yX12_waitsAt ∈ tb := tb_of (in_t0 _ (List.mem_of_getElem? (i := 103) rfl)) rfl
theorem cv_X12_338 : CV RX12 338 yX12_waitsAt cX12_waitsAt 2 (some .boolean) 1 12 := ⟨⟨mc_X12_waitsAt, mi_X12, mp_X12_waitsAt, Or.inl (tb_of (in_t6 _ (List.mem_of_getElem? (i := 158) rfl)) rfl)⟩, mn_X12_waitsAt, sl_X12_waitsAt, by decide, TX12, 73, rfl⟩
theorem mc_X12_standOf : Cond.code yX12_standOf cX12_standOf 5 (some .int) ∈ tb := tb_of (in_t6 _ (List.mem_of_getElem? (i := 173) rfl)) rfl
theorem mp_X12_standOf : yX12_standOf.cls ≠ "java/lang/invoke/MethodHandle" ∧ yX12_standOf.cls ≠ "java/lang/invoke/VarHandle" ∧ (parseMethodDescriptor yX12_standOf.desc).map (fun d => d.parameters.length) = some 3 := ⟨by decide +kernel, by decide +kernel, by decide +kernel⟩
theorem mn_X12_standOf : Cond.instanceMethod yX12_standOf ∈ tb := tb_of (in_t6 _ (List.mem_of_getElem? (i := 172) rfl)) rfl
theorem sl_X12_standOf : Cond.selects yX12_standOf.cls yX12_standOf yX12_standOf ∈ tb := tb_of (in_t0 _ (List.mem_of_getElem? (i := 106) rfl)) rfl
theorem cv_X12_351 : CV RX12 351 yX12_standOf cX12_standOf 5 (some .int) 3 12 := ⟨⟨mc_X12_standOf, mi_X12, mp_X12_standOf, Or.inl (tb_of (in_t6 _ (List.mem_of_getElem? (i := 170) rfl)) rfl)⟩, mn_X12_standOf, sl_X12_standOf, by decide, TX12, 73, rfl⟩
theorem mc_X12_layThirst : Cond.code yX12_layThirst cX12_layThirst 4 none ∈ tb := tb_of (in_t6 _ (List.mem_of_getElem? (i := 149) rfl)) rfl
theorem mp_X12_layThirst : yX12_layThirst.cls ≠ "java/lang/invoke/MethodHandle" ∧ yX12_layThirst.cls ≠ "java/lang/invoke/VarHandle" ∧ (parseMethodDescriptor yX12_layThirst.desc).map (fun d => d.parameters.length) = some 1 := ⟨by decide +kernel, by decide +kernel, by decide +kernel⟩
theorem mn_X12_layThirst : Cond.instanceMethod yX12_layThirst ∈ tb := tb_of (in_t6 _ (List.mem_of_getElem? (i := 148) rfl)) rfl
theorem sl_X12_layThirst : Cond.selects yX12_layThirst.cls yX12_layThirst yX12_layThirst ∈ tb := tb_of (in_t0 _ (List.mem_of_getElem? (i := 100) rfl)) rfl
theorem cv_X12_345 : CV RX12 345 yX12_layThirst cX12_layThirst 4 none 1 12 := ⟨⟨mc_X12_layThirst, mi_X12, mp_X12_layThirst, Or.inl (tb_of (in_t6 _ (List.mem_of_getElem? (i := 146) rfl)) rfl)⟩, mn_X12_layThirst, sl_X12_layThirst, by decide, TX12, 73, rfl⟩
theorem mc_X12_findBest : Cond.code yX12_findBest cX12_findBest 6 none ∈ tb := tb_of (in_t6 _ (List.mem_of_getElem? (i := 153) rfl)) rfl
theorem mp_X12_findBest : yX12_findBest.cls ≠ "java/lang/invoke/MethodHandle" ∧ yX12_findBest.cls ≠ "java/lang/invoke/VarHandle" ∧ (parseMethodDescriptor yX12_findBest.desc).map (fun d => d.parameters.length) = some 1 := ⟨by decide +kernel, by decide +kernel, by decide +kernel⟩
theorem mn_X12_findBest : Cond.instanceMethod yX12_findBest ∈ tb := tb_of (in_t6 _ (List.mem_of_getElem? (i := 152) rfl)) rfl
theorem sl_X12_findBest : Cond.selects yX12_findBest.cls yX12_findBest yX12_findBest ∈ tb := tb_of (in_t0 _ (List.mem_of_getElem? (i := 101) rfl)) rfl
theorem cv_X12_348 : CV RX12 348 yX12_findBest cX12_findBest 6 none 1 12 := ⟨⟨mc_X12_findBest, mi_X12, mp_X12_findBest, Or.inl (tb_of (in_t6 _ (List.mem_of_getElem? (i := 150) rfl)) rfl)⟩, mn_X12_findBest, sl_X12_findBest, by decide, TX12, 73, rfl⟩
theorem mc_X12_go : Cond.code yX12_go cX12_go 6 none ∈ tb := tb_of (in_t6 _ (List.mem_of_getElem? (i := 145) rfl)) rfl
theorem mp_X12_go : yX12_go.cls ≠ "java/lang/invoke/MethodHandle" ∧ yX12_go.cls ≠ "java/lang/invoke/VarHandle" ∧ (parseMethodDescriptor yX12_go.desc).map (fun d => d.parameters.length) = some 4 := ⟨by decide +kernel, by decide +kernel, by decide +kernel⟩
theorem mn_X12_go : Cond.instanceMethod yX12_go ∈ tb := tb_of (in_t6 _ (List.mem_of_getElem? (i := 144) rfl)) rfl
theorem sl_X12_go : Cond.selects yX12_go.cls yX12_go yX12_go ∈ tb := tb_of (in_t0 _ (List.mem_of_getElem? (i := 99) rfl)) rfl
theorem cv_X12_354 : CV RX12 354 yX12_go cX12_go 6 none 4 12 := ⟨⟨mc_X12_go, mi_X12, mp_X12_go, Or.inl (tb_of (in_t6 _ (List.mem_of_getElem? (i := 142) rfl)) rfl)⟩, mn_X12_go, sl_X12_go, by decide, TX12, 73, rfl⟩
theorem k_bipush_19 : (Int8.ofInt (19)).toInt32 = (19 : Int32) := by decide
theorem mc_X12_isCaravan : Cond.code yX12_isCaravan cX12_isCaravan 2 (some .boolean) ∈ tb := tb_of (in_t6 _ (List.mem_of_getElem? (i := 133) rfl)) rfl
theorem mp_X12_isCaravan : yX12_isCaravan.cls ≠ "java/lang/invoke/MethodHandle" ∧ yX12_isCaravan.cls ≠ "java/lang/invoke/VarHandle" ∧ (parseMethodDescriptor yX12_isCaravan.desc).map (fun d => d.parameters.length) = some 1 := ⟨by decide +kernel, by decide +kernel, by decide +kernel⟩
theorem mn_X12_isCaravan : Cond.instanceMethod yX12_isCaravan ∈ tb := tb_of (in_t6 _ (List.mem_of_getElem? (i := 132) rfl)) rfl
theorem sl_X12_isCaravan : Cond.selects yX12_isCaravan.cls yX12_isCaravan yX12_isCaravan ∈ tb := tb_of (in_t0 _ (List.mem_of_getElem? (i := 96) rfl)) rfl
theorem cv_X12_358 : CV RX12 358 yX12_isCaravan cX12_isCaravan 2 (some .boolean) 1 12 := ⟨⟨mc_X12_isCaravan, mi_X12, mp_X12_isCaravan, Or.inl (tb_of (in_t6 _ (List.mem_of_getElem? (i := 130) rfl)) rfl)⟩, mn_X12_isCaravan, sl_X12_isCaravan, by decide, TX12, 73, rfl⟩
theorem mc_X12_isAsked : Cond.code yX12_isAsked cX12_isAsked 2 (some .boolean) ∈ tb := tb_of (in_t6 _ (List.mem_of_getElem? (i := 137) rfl)) rfl
theorem mp_X12_isAsked : yX12_isAsked.cls ≠ "java/lang/invoke/MethodHandle" ∧ yX12_isAsked.cls ≠ "java/lang/invoke/VarHandle" ∧ (parseMethodDescriptor yX12_isAsked.desc).map (fun d => d.parameters.length) = some 1 := ⟨by decide +kernel, by decide +kernel, by decide +kernel⟩
theorem mn_X12_isAsked : Cond.instanceMethod yX12_isAsked ∈ tb := tb_of (in_t6 _ (List.mem_of_getElem? (i := 136) rfl)) rfl
theorem sl_X12_isAsked : Cond.selects yX12_isAsked.cls yX12_isAsked yX12_isAsked ∈ tb := tb_of (in_t0 _ (List.mem_of_getElem? (i := 97) rfl)) rfl
theorem cv_X12_361 : CV RX12 361 yX12_isAsked cX12_isAsked 2 (some .boolean) 1 12 := ⟨⟨mc_X12_isAsked, mi_X12, mp_X12_isAsked, Or.inl (tb_of (in_t6 _ (List.mem_of_getElem? (i := 134) rfl)) rfl)⟩, mn_X12_isAsked, sl_X12_isAsked, by decide, TX12, 73, rfl⟩
theorem mc_X12_goCaravan : Cond.code yX12_goCaravan cX12_goCaravan 2 none ∈ tb := tb_of (in_t6 _ (List.mem_of_getElem? (i := 141) rfl)) rfl
theorem mp_X12_goCaravan : yX12_goCaravan.cls ≠ "java/lang/invoke/MethodHandle" ∧ yX12_goCaravan.cls ≠ "java/lang/invoke/VarHandle" ∧ (parseMethodDescriptor yX12_goCaravan.desc).map (fun d => d.parameters.length) = some 1 := ⟨by decide +kernel, by decide +kernel, by decide +kernel⟩
theorem mn_X12_goCaravan : Cond.instanceMethod yX12_goCaravan ∈ tb := tb_of (in_t6 _ (List.mem_of_getElem? (i := 140) rfl)) rfl
theorem sl_X12_goCaravan : Cond.selects yX12_goCaravan.cls yX12_goCaravan yX12_goCaravan ∈ tb := tb_of (in_t0 _ (List.mem_of_getElem? (i := 98) rfl)) rfl
theorem cv_X12_364 : CV RX12 364 yX12_goCaravan cX12_goCaravan 2 none 1 12 := ⟨⟨mc_X12_goCaravan, mi_X12, mp_X12_goCaravan, Or.inl (tb_of (in_t6 _ (List.mem_of_getElem? (i := 138) rfl)) rfl)⟩, mn_X12_goCaravan, sl_X12_goCaravan, by decide, TX12, 73, rfl⟩
theorem mc_X12_toldOf : Cond.code yX12_toldOf cX12_toldOf 3 (some .int) ∈ tb := tb_of (in_t6 _ (List.mem_of_getElem? (i := 177) rfl)) rfl
theorem mp_X12_toldOf : yX12_toldOf.cls ≠ "java/lang/invoke/MethodHandle" ∧ yX12_toldOf.cls ≠ "java/lang/invoke/VarHandle" ∧ (parseMethodDescriptor yX12_toldOf.desc).map (fun d => d.parameters.length) = some 2 := ⟨by decide +kernel, by decide +kernel, by decide +kernel⟩
theorem mn_X12_toldOf : Cond.instanceMethod yX12_toldOf ∈ tb := tb_of (in_t6 _ (List.mem_of_getElem? (i := 176) rfl)) rfl
theorem sl_X12_toldOf : Cond.selects yX12_toldOf.cls yX12_toldOf yX12_toldOf ∈ tb := tb_of (in_t0 _ (List.mem_of_getElem? (i := 107) rfl)) rfl
theorem cv_X12_367 : CV RX12 367 yX12_toldOf cX12_toldOf 3 (some .int) 2 12 := ⟨⟨mc_X12_toldOf, mi_X12, mp_X12_toldOf, Or.inl (tb_of (in_t6 _ (List.mem_of_getElem? (i := 174) rfl)) rfl)⟩, mn_X12_toldOf, sl_X12_toldOf, by decide, TX12, 73, rfl⟩
theorem mc_X12_goAll : Cond.code yX12_goAll cX12_goAll 3 none ∈ tb := tb_of (in_t6 _ (List.mem_of_getElem? (i := 205) rfl)) rfl
theorem mp_X12_goAll : yX12_goAll.cls ≠ "java/lang/invoke/MethodHandle" ∧ yX12_goAll.cls ≠ "java/lang/invoke/VarHandle" ∧ (parseMethodDescriptor yX12_goAll.desc).map (fun d => d.parameters.length) = some 0 := ⟨by decide +kernel, by decide +kernel, by decide +kernel⟩
theorem mn_X12_goAll : Cond.instanceMethod yX12_goAll ∈ tb := tb_of (in_t6 _ (List.mem_of_getElem? (i := 204) rfl)) rfl
theorem sl_X12_goAll : Cond.selects yX12_goAll.cls yX12_goAll yX12_goAll ∈ tb := tb_of (in_t0 _ (List.mem_of_getElem? (i := 109) rfl)) rfl
theorem cv_X12_370 : CV RX12 370 yX12_goAll cX12_goAll 3 none 0 12 := ⟨⟨mc_X12_goAll, mi_X12, mp_X12_goAll, Or.inl (tb_of (in_t6 _ (List.mem_of_getElem? (i := 202) rfl)) rfl)⟩, mn_X12_goAll, sl_X12_goAll, by decide, TX12, 73, rfl⟩
theorem ct_X12_373 : Cond.constant RX12 373 (1000000) ∈ tb := tb_of (in_t6 _ (List.mem_of_getElem? (i := 206) rfl)) rfl
theorem k_nz_3 : ¬ (3 : Int32) = 0 := by decide
theorem k_bipush_27 : (Int8.ofInt (27)).toInt32 = (27 : Int32) := by decide
theorem mc_X12_findOrder : Cond.code yX12_findOrder cX12_findOrder 8 (some .int) ∈ tb := tb_of (in_t6 _ (List.mem_of_getElem? (i := 201) rfl)) rfl
theorem mp_X12_findOrder : yX12_findOrder.cls ≠ "java/lang/invoke/MethodHandle" ∧ yX12_findOrder.cls ≠ "java/lang/invoke/VarHandle" ∧ (parseMethodDescriptor yX12_findOrder.desc).map (fun d => d.parameters.length) = some 0 := ⟨by decide +kernel, by decide +kernel, by decide +kernel⟩
theorem mn_X12_findOrder : Cond.instanceMethod yX12_findOrder ∈ tb := tb_of (in_t6 _ (List.mem_of_getElem? (i := 200) rfl)) rfl
theorem sl_X12_findOrder : Cond.selects yX12_findOrder.cls yX12_findOrder yX12_findOrder ∈ tb := tb_of (in_t0 _ (List.mem_of_getElem? (i := 108) rfl)) rfl
theorem cv_X12_374 : CV RX12 374 yX12_findOrder cX12_findOrder 8 (some .int) 0 12 := ⟨⟨mc_X12_findOrder, mi_X12, mp_X12_findOrder, Or.inl (tb_of (in_t6 _ (List.mem_of_getElem? (i := 198) rfl)) rfl)⟩, mn_X12_findOrder, sl_X12_findOrder, by decide, TX12, 73, rfl⟩
theorem mc_X12_divisor : Cond.code yX12_divisor cX12_divisor 11 (some .long) ∈ tb := tb_of (in_t6 _ (List.mem_of_getElem? (i := 216) rfl)) rfl
theorem mp_X12_divisor : yX12_divisor.cls ≠ "java/lang/invoke/MethodHandle" ∧ yX12_divisor.cls ≠ "java/lang/invoke/VarHandle" ∧ (parseMethodDescriptor yX12_divisor.desc).map (fun d => d.parameters.length) = some 2 := ⟨by decide +kernel, by decide +kernel, by decide +kernel⟩
theorem mn_X12_divisor : Cond.instanceMethod yX12_divisor ∈ tb := tb_of (in_t6 _ (List.mem_of_getElem? (i := 215) rfl)) rfl
theorem sl_X12_divisor : Cond.selects yX12_divisor.cls yX12_divisor yX12_divisor ∈ tb := tb_of (in_t0 _ (List.mem_of_getElem? (i := 110) rfl)) rfl
theorem cv_X12_381 : CV RX12 381 yX12_divisor cX12_divisor 11 (some .long) 2 12 := ⟨⟨mc_X12_divisor, mi_X12, mp_X12_divisor, Or.inl (tb_of (in_t6 _ (List.mem_of_getElem? (i := 213) rfl)) rfl)⟩, mn_X12_divisor, sl_X12_divisor, by decide, TX12, 73, rfl⟩
theorem ct_X12_379 : Cond.constantLong RX12 379 (10) ∈ tb := tb_of (in_t6 _ (List.mem_of_getElem? (i := 212) rfl)) rfl
theorem ct_X12_377 : Cond.constantLong RX12 377 (-9223372036854775808) ∈ tb := tb_of (in_t6 _ (List.mem_of_getElem? (i := 211) rfl)) rfl
theorem mc_X12_layMore : Cond.code yX12_layMore cX12_layMore 6 none ∈ tb := tb_of (in_t6 _ (List.mem_of_getElem? (i := 224) rfl)) rfl
theorem mp_X12_layMore : yX12_layMore.cls ≠ "java/lang/invoke/MethodHandle" ∧ yX12_layMore.cls ≠ "java/lang/invoke/VarHandle" ∧ (parseMethodDescriptor yX12_layMore.desc).map (fun d => d.parameters.length) = some 4 := ⟨by decide +kernel, by decide +kernel, by decide +kernel⟩
theorem mn_X12_layMore : Cond.instanceMethod yX12_layMore ∈ tb := tb_of (in_t6 _ (List.mem_of_getElem? (i := 223) rfl)) rfl
theorem sl_X12_layMore : Cond.selects yX12_layMore.cls yX12_layMore yX12_layMore ∈ tb := tb_of (in_t0 _ (List.mem_of_getElem? (i := 111) rfl)) rfl
theorem cv_X12_385 : CV RX12 385 yX12_layMore cX12_layMore 6 none 4 12 := ⟨⟨mc_X12_layMore, mi_X12, mp_X12_layMore, Or.inl (tb_of (in_t6 _ (List.mem_of_getElem? (i := 221) rfl)) rfl)⟩, mn_X12_layMore, sl_X12_layMore, by decide, TX12, 73, rfl⟩
theorem ct_X12_391 : Cond.constantLong RX12 391 (6) ∈ tb := tb_of (in_t6 _ (List.mem_of_getElem? (i := 233) rfl)) rfl
theorem mc_X12_isTape : Cond.code yX12_isTape cX12_isTape 2 (some .boolean) ∈ tb := tb_of (in_t6 _ (List.mem_of_getElem? (i := 232) rfl)) rfl
theorem mp_X12_isTape : yX12_isTape.cls ≠ "java/lang/invoke/MethodHandle" ∧ yX12_isTape.cls ≠ "java/lang/invoke/VarHandle" ∧ (parseMethodDescriptor yX12_isTape.desc).map (fun d => d.parameters.length) = some 1 := ⟨by decide +kernel, by decide +kernel, by decide +kernel⟩
theorem mn_X12_isTape : Cond.instanceMethod yX12_isTape ∈ tb := tb_of (in_t6 _ (List.mem_of_getElem? (i := 231) rfl)) rfl
theorem sl_X12_isTape : Cond.selects yX12_isTape.cls yX12_isTape yX12_isTape ∈ tb := tb_of (in_t0 _ (List.mem_of_getElem? (i := 112) rfl)) rfl
theorem cv_X12_388 : CV RX12 388 yX12_isTape cX12_isTape 2 (some .boolean) 1 12 := ⟨⟨mc_X12_isTape, mi_X12, mp_X12_isTape, Or.inl (tb_of (in_t6 _ (List.mem_of_getElem? (i := 229) rfl)) rfl)⟩, mn_X12_isTape, sl_X12_isTape, by decide, TX12, 73, rfl⟩
theorem mc_X12_copy : Cond.code yX12_copy cX12_copy 4 none ∈ tb := tb_of (in_t7 _ (List.mem_of_getElem? (i := 1) rfl)) rfl
theorem mp_X12_copy : yX12_copy.cls ≠ "java/lang/invoke/MethodHandle" ∧ yX12_copy.cls ≠ "java/lang/invoke/VarHandle" ∧ (parseMethodDescriptor yX12_copy.desc).map (fun d => d.parameters.length) = some 2 := ⟨by decide +kernel, by decide +kernel, by decide +kernel⟩
theorem mn_X12_copy : Cond.instanceMethod yX12_copy ∈ tb := tb_of (in_t7 _ (List.mem_of_getElem? (i := 0) rfl)) rfl
theorem sl_X12_copy : Cond.selects yX12_copy.cls yX12_copy yX12_copy ∈ tb := tb_of (in_t0 _ (List.mem_of_getElem? (i := 113) rfl)) rfl
theorem cv_X12_393 : CV RX12 393 yX12_copy cX12_copy 4 none 2 12 := ⟨⟨mc_X12_copy, mi_X12, mp_X12_copy, Or.inl (tb_of (in_t6 _ (List.mem_of_getElem? (i := 238) rfl)) rfl)⟩, mn_X12_copy, sl_X12_copy, by decide, TX12, 73, rfl⟩
theorem mc_X12_body : Cond.code yX12_body cX12_body 2 none ∈ tb := tb_of (in_t7 _ (List.mem_of_getElem? (i := 21) rfl)) rfl
theorem mp_X12_body : yX12_body.cls ≠ "java/lang/invoke/MethodHandle" ∧ yX12_body.cls ≠ "java/lang/invoke/VarHandle" ∧ (parseMethodDescriptor yX12_body.desc).map (fun d => d.parameters.length) = some 1 := ⟨by decide +kernel, by decide +kernel, by decide +kernel⟩
theorem mn_X12_body : Cond.instanceMethod yX12_body ∈ tb := tb_of (in_t7 _ (List.mem_of_getElem? (i := 20) rfl)) rfl
theorem sl_X12_body : Cond.selects yX12_body.cls yX12_body yX12_body ∈ tb := tb_of (in_t0 _ (List.mem_of_getElem? (i := 116) rfl)) rfl
theorem cv_X12_397 : CV RX12 397 yX12_body cX12_body 2 none 1 12 := ⟨⟨mc_X12_body, mi_X12, mp_X12_body, Or.inl (tb_of (in_t7 _ (List.mem_of_getElem? (i := 18) rfl)) rfl)⟩, mn_X12_body, sl_X12_body, by decide, TX12, 73, rfl⟩
theorem mc_X12_plainStands : Cond.code yX12_plainStands cX12_plainStands 3 (some .int) ∈ tb := tb_of (in_t7 _ (List.mem_of_getElem? (i := 25) rfl)) rfl
theorem mp_X12_plainStands : yX12_plainStands.cls ≠ "java/lang/invoke/MethodHandle" ∧ yX12_plainStands.cls ≠ "java/lang/invoke/VarHandle" ∧ (parseMethodDescriptor yX12_plainStands.desc).map (fun d => d.parameters.length) = some 2 := ⟨by decide +kernel, by decide +kernel, by decide +kernel⟩
theorem mn_X12_plainStands : Cond.instanceMethod yX12_plainStands ∈ tb := tb_of (in_t7 _ (List.mem_of_getElem? (i := 24) rfl)) rfl
theorem sl_X12_plainStands : Cond.selects yX12_plainStands.cls yX12_plainStands yX12_plainStands ∈ tb := tb_of (in_t0 _ (List.mem_of_getElem? (i := 117) rfl)) rfl
theorem cv_X12_400 : CV RX12 400 yX12_plainStands cX12_plainStands 3 (some .int) 2 12 := ⟨⟨mc_X12_plainStands, mi_X12, mp_X12_plainStands, Or.inl (tb_of (in_t7 _ (List.mem_of_getElem? (i := 22) rfl)) rfl)⟩, mn_X12_plainStands, sl_X12_plainStands, by decide, TX12, 73, rfl⟩
theorem mc_X12_nightStands : Cond.code yX12_nightStands cX12_nightStands 3 (some .int) ∈ tb := tb_of (in_t7 _ (List.mem_of_getElem? (i := 17) rfl)) rfl
theorem mp_X12_nightStands : yX12_nightStands.cls ≠ "java/lang/invoke/MethodHandle" ∧ yX12_nightStands.cls ≠ "java/lang/invoke/VarHandle" ∧ (parseMethodDescriptor yX12_nightStands.desc).map (fun d => d.parameters.length) = some 2 := ⟨by decide +kernel, by decide +kernel, by decide +kernel⟩
theorem mn_X12_nightStands : Cond.instanceMethod yX12_nightStands ∈ tb := tb_of (in_t7 _ (List.mem_of_getElem? (i := 16) rfl)) rfl
theorem sl_X12_nightStands : Cond.selects yX12_nightStands.cls yX12_nightStands yX12_nightStands ∈ tb := tb_of (in_t0 _ (List.mem_of_getElem? (i := 115) rfl)) rfl
theorem cv_X12_403 : CV RX12 403 yX12_nightStands cX12_nightStands 3 (some .int) 2 12 := ⟨⟨mc_X12_nightStands, mi_X12, mp_X12_nightStands, Or.inl (tb_of (in_t7 _ (List.mem_of_getElem? (i := 14) rfl)) rfl)⟩, mn_X12_nightStands, sl_X12_nightStands, by decide, TX12, 73, rfl⟩
theorem k_bipush_50 : (Int8.ofInt (50)).toInt32 = (50 : Int32) := by decide
theorem k_bipush_71 : (Int8.ofInt (71)).toInt32 = (71 : Int32) := by decide
theorem mc_X12_standsAct : Cond.code yX12_standsAct cX12_standsAct 3 (some .int) ∈ tb := tb_of (in_t7 _ (List.mem_of_getElem? (i := 13) rfl)) rfl
theorem mp_X12_standsAct : yX12_standsAct.cls ≠ "java/lang/invoke/MethodHandle" ∧ yX12_standsAct.cls ≠ "java/lang/invoke/VarHandle" ∧ (parseMethodDescriptor yX12_standsAct.desc).map (fun d => d.parameters.length) = some 2 := ⟨by decide +kernel, by decide +kernel, by decide +kernel⟩
theorem mn_X12_standsAct : Cond.instanceMethod yX12_standsAct ∈ tb := tb_of (in_t7 _ (List.mem_of_getElem? (i := 12) rfl)) rfl
theorem sl_X12_standsAct : Cond.selects yX12_standsAct.cls yX12_standsAct yX12_standsAct ∈ tb := tb_of (in_t0 _ (List.mem_of_getElem? (i := 114) rfl)) rfl
theorem cv_X12_406 : CV RX12 406 yX12_standsAct cX12_standsAct 3 (some .int) 2 12 := ⟨⟨mc_X12_standsAct, mi_X12, mp_X12_standsAct, Or.inl (tb_of (in_t7 _ (List.mem_of_getElem? (i := 10) rfl)) rfl)⟩, mn_X12_standsAct, sl_X12_standsAct, by decide, TX12, 73, rfl⟩
theorem mc_X12_plainDraws : Cond.code yX12_plainDraws cX12_plainDraws 3 (some .int) ∈ tb := tb_of (in_t7 _ (List.mem_of_getElem? (i := 37) rfl)) rfl
theorem mp_X12_plainDraws : yX12_plainDraws.cls ≠ "java/lang/invoke/MethodHandle" ∧ yX12_plainDraws.cls ≠ "java/lang/invoke/VarHandle" ∧ (parseMethodDescriptor yX12_plainDraws.desc).map (fun d => d.parameters.length) = some 2 := ⟨by decide +kernel, by decide +kernel, by decide +kernel⟩
theorem mn_X12_plainDraws : Cond.instanceMethod yX12_plainDraws ∈ tb := tb_of (in_t7 _ (List.mem_of_getElem? (i := 36) rfl)) rfl
theorem sl_X12_plainDraws : Cond.selects yX12_plainDraws.cls yX12_plainDraws yX12_plainDraws ∈ tb := tb_of (in_t0 _ (List.mem_of_getElem? (i := 120) rfl)) rfl
theorem cv_X12_409 : CV RX12 409 yX12_plainDraws cX12_plainDraws 3 (some .int) 2 12 := ⟨⟨mc_X12_plainDraws, mi_X12, mp_X12_plainDraws, Or.inl (tb_of (in_t7 _ (List.mem_of_getElem? (i := 34) rfl)) rfl)⟩, mn_X12_plainDraws, sl_X12_plainDraws, by decide, TX12, 73, rfl⟩
theorem mc_X12_waitDraws : Cond.code yX12_waitDraws cX12_waitDraws 3 (some .int) ∈ tb := tb_of (in_t7 _ (List.mem_of_getElem? (i := 33) rfl)) rfl
theorem mp_X12_waitDraws : yX12_waitDraws.cls ≠ "java/lang/invoke/MethodHandle" ∧ yX12_waitDraws.cls ≠ "java/lang/invoke/VarHandle" ∧ (parseMethodDescriptor yX12_waitDraws.desc).map (fun d => d.parameters.length) = some 2 := ⟨by decide +kernel, by decide +kernel, by decide +kernel⟩
theorem mn_X12_waitDraws : Cond.instanceMethod yX12_waitDraws ∈ tb := tb_of (in_t7 _ (List.mem_of_getElem? (i := 32) rfl)) rfl
theorem sl_X12_waitDraws : Cond.selects yX12_waitDraws.cls yX12_waitDraws yX12_waitDraws ∈ tb := tb_of (in_t0 _ (List.mem_of_getElem? (i := 119) rfl)) rfl
theorem cv_X12_412 : CV RX12 412 yX12_waitDraws cX12_waitDraws 3 (some .int) 2 12 := ⟨⟨mc_X12_waitDraws, mi_X12, mp_X12_waitDraws, Or.inl (tb_of (in_t7 _ (List.mem_of_getElem? (i := 30) rfl)) rfl)⟩, mn_X12_waitDraws, sl_X12_waitDraws, by decide, TX12, 73, rfl⟩
theorem k_bipush_51 : (Int8.ofInt (51)).toInt32 = (51 : Int32) := by decide
theorem k_bipush_70 : (Int8.ofInt (70)).toInt32 = (70 : Int32) := by decide
theorem mc_X12_drawsAct : Cond.code yX12_drawsAct cX12_drawsAct 4 (some .int) ∈ tb := tb_of (in_t7 _ (List.mem_of_getElem? (i := 29) rfl)) rfl
theorem mp_X12_drawsAct : yX12_drawsAct.cls ≠ "java/lang/invoke/MethodHandle" ∧ yX12_drawsAct.cls ≠ "java/lang/invoke/VarHandle" ∧ (parseMethodDescriptor yX12_drawsAct.desc).map (fun d => d.parameters.length) = some 2 := ⟨by decide +kernel, by decide +kernel, by decide +kernel⟩
theorem mn_X12_drawsAct : Cond.instanceMethod yX12_drawsAct ∈ tb := tb_of (in_t7 _ (List.mem_of_getElem? (i := 28) rfl)) rfl
theorem sl_X12_drawsAct : Cond.selects yX12_drawsAct.cls yX12_drawsAct yX12_drawsAct ∈ tb := tb_of (in_t0 _ (List.mem_of_getElem? (i := 118) rfl)) rfl
theorem cv_X12_415 : CV RX12 415 yX12_drawsAct cX12_drawsAct 4 (some .int) 2 12 := ⟨⟨mc_X12_drawsAct, mi_X12, mp_X12_drawsAct, Or.inl (tb_of (in_t7 _ (List.mem_of_getElem? (i := 26) rfl)) rfl)⟩, mn_X12_drawsAct, sl_X12_drawsAct, by decide, TX12, 73, rfl⟩
theorem mc_X12_plainTells : Cond.code yX12_plainTells cX12_plainTells 3 (some .int) ∈ tb := tb_of (in_t7 _ (List.mem_of_getElem? (i := 45) rfl)) rfl
theorem mp_X12_plainTells : yX12_plainTells.cls ≠ "java/lang/invoke/MethodHandle" ∧ yX12_plainTells.cls ≠ "java/lang/invoke/VarHandle" ∧ (parseMethodDescriptor yX12_plainTells.desc).map (fun d => d.parameters.length) = some 2 := ⟨by decide +kernel, by decide +kernel, by decide +kernel⟩
theorem mn_X12_plainTells : Cond.instanceMethod yX12_plainTells ∈ tb := tb_of (in_t7 _ (List.mem_of_getElem? (i := 44) rfl)) rfl
theorem sl_X12_plainTells : Cond.selects yX12_plainTells.cls yX12_plainTells yX12_plainTells ∈ tb := tb_of (in_t0 _ (List.mem_of_getElem? (i := 122) rfl)) rfl
theorem cv_X12_418 : CV RX12 418 yX12_plainTells cX12_plainTells 3 (some .int) 2 12 := ⟨⟨mc_X12_plainTells, mi_X12, mp_X12_plainTells, Or.inl (tb_of (in_t7 _ (List.mem_of_getElem? (i := 42) rfl)) rfl)⟩, mn_X12_plainTells, sl_X12_plainTells, by decide, TX12, 73, rfl⟩
theorem mc_X12_tellsAct : Cond.code yX12_tellsAct cX12_tellsAct 4 (some .int) ∈ tb := tb_of (in_t7 _ (List.mem_of_getElem? (i := 41) rfl)) rfl
theorem mp_X12_tellsAct : yX12_tellsAct.cls ≠ "java/lang/invoke/MethodHandle" ∧ yX12_tellsAct.cls ≠ "java/lang/invoke/VarHandle" ∧ (parseMethodDescriptor yX12_tellsAct.desc).map (fun d => d.parameters.length) = some 2 := ⟨by decide +kernel, by decide +kernel, by decide +kernel⟩
theorem mn_X12_tellsAct : Cond.instanceMethod yX12_tellsAct ∈ tb := tb_of (in_t7 _ (List.mem_of_getElem? (i := 40) rfl)) rfl
theorem sl_X12_tellsAct : Cond.selects yX12_tellsAct.cls yX12_tellsAct yX12_tellsAct ∈ tb := tb_of (in_t0 _ (List.mem_of_getElem? (i := 121) rfl)) rfl
theorem cv_X12_421 : CV RX12 421 yX12_tellsAct cX12_tellsAct 4 (some .int) 2 12 := ⟨⟨mc_X12_tellsAct, mi_X12, mp_X12_tellsAct, Or.inl (tb_of (in_t7 _ (List.mem_of_getElem? (i := 38) rfl)) rfl)⟩, mn_X12_tellsAct, sl_X12_tellsAct, by decide, TX12, 73, rfl⟩
theorem mc_X12_narrow : Cond.code yX12_narrow cX12_narrow 4 (some .long) ∈ tb := tb_of (in_t7 _ (List.mem_of_getElem? (i := 69) rfl)) rfl
theorem mp_X12_narrow : yX12_narrow.cls ≠ "java/lang/invoke/MethodHandle" ∧ yX12_narrow.cls ≠ "java/lang/invoke/VarHandle" ∧ (parseMethodDescriptor yX12_narrow.desc).map (fun d => d.parameters.length) = some 2 := ⟨by decide +kernel, by decide +kernel, by decide +kernel⟩
theorem mn_X12_narrow : Cond.instanceMethod yX12_narrow ∈ tb := tb_of (in_t7 _ (List.mem_of_getElem? (i := 68) rfl)) rfl
theorem sl_X12_narrow : Cond.selects yX12_narrow.cls yX12_narrow yX12_narrow ∈ tb := tb_of (in_t0 _ (List.mem_of_getElem? (i := 123) rfl)) rfl
theorem cv_X12_424 : CV RX12 424 yX12_narrow cX12_narrow 4 (some .long) 2 12 := ⟨⟨mc_X12_narrow, mi_X12, mp_X12_narrow, Or.inl (tb_of (in_t7 _ (List.mem_of_getElem? (i := 66) rfl)) rfl)⟩, mn_X12_narrow, sl_X12_narrow, by decide, TX12, 73, rfl⟩
theorem mc_X11_feed : Cond.code yX11_feed cX11_feed 4 (some .int) ∈ tb := tb_of (in_t2 _ (List.mem_of_getElem? (i := 160) rfl)) rfl
theorem mp_X11_feed : yX11_feed.cls ≠ "java/lang/invoke/MethodHandle" ∧ yX11_feed.cls ≠ "java/lang/invoke/VarHandle" ∧ (parseMethodDescriptor yX11_feed.desc).map (fun d => d.parameters.length) = some 2 := ⟨by decide +kernel, by decide +kernel, by decide +kernel⟩
theorem mn_X11_feed : Cond.instanceMethod yX11_feed ∈ tb := tb_of (in_t2 _ (List.mem_of_getElem? (i := 158) rfl)) rfl
theorem sl_X11_feed : Cond.selects yX11_feed.cls yX11_feed yX11_feed ∈ tb := tb_of (in_t2 _ (List.mem_of_getElem? (i := 159) rfl)) rfl
theorem cv_L_13 : CV RL 13 yX11_feed cX11_feed 4 (some .int) 2 11 := ⟨⟨mc_X11_feed, mi_X11, mp_X11_feed, Or.inl (tb_of (in_t2 _ (List.mem_of_getElem? (i := 157) rfl)) rfl)⟩, mn_X11_feed, sl_X11_feed, by decide, TX11, 19, rfl⟩
theorem mc_X12_feed : Cond.code yX12_feed cX12_feed 4 (some .int) ∈ tb := tb_of (in_t5 _ (List.mem_of_getElem? (i := 208) rfl)) rfl
theorem mp_X12_feed : yX12_feed.cls ≠ "java/lang/invoke/MethodHandle" ∧ yX12_feed.cls ≠ "java/lang/invoke/VarHandle" ∧ (parseMethodDescriptor yX12_feed.desc).map (fun d => d.parameters.length) = some 2 := ⟨by decide +kernel, by decide +kernel, by decide +kernel⟩
theorem mn_X12_feed : Cond.instanceMethod yX12_feed ∈ tb := tb_of (in_t5 _ (List.mem_of_getElem? (i := 206) rfl)) rfl
theorem sl_X12_feed : Cond.selects yX12_feed.cls yX12_feed yX12_feed ∈ tb := tb_of (in_t5 _ (List.mem_of_getElem? (i := 207) rfl)) rfl
theorem cv_L_17 : CV RL 17 yX12_feed cX12_feed 4 (some .int) 2 12 := ⟨⟨mc_X12_feed, mi_X12, mp_X12_feed, Or.inl (tb_of (in_t5 _ (List.mem_of_getElem? (i := 205) rfl)) rfl)⟩, mn_X12_feed, sl_X12_feed, by decide, TX12, 73, rfl⟩
theorem k_inc_6 (x : Int32) : x + Int32.ofInt (6) = x + 6 := by rw [show Int32.ofInt (6) = (6 : Int32) from by decide]
theorem mc_X11_waste : Cond.code yX11_waste cX11_waste 2 (some .int) ∈ tb := tb_of (in_t2 _ (List.mem_of_getElem? (i := 171) rfl)) rfl
theorem mp_X11_waste : yX11_waste.cls ≠ "java/lang/invoke/MethodHandle" ∧ yX11_waste.cls ≠ "java/lang/invoke/VarHandle" ∧ (parseMethodDescriptor yX11_waste.desc).map (fun d => d.parameters.length) = some 0 := ⟨by decide +kernel, by decide +kernel, by decide +kernel⟩
theorem mn_X11_waste : Cond.instanceMethod yX11_waste ∈ tb := tb_of (in_t2 _ (List.mem_of_getElem? (i := 169) rfl)) rfl
theorem sl_X11_waste : Cond.selects yX11_waste.cls yX11_waste yX11_waste ∈ tb := tb_of (in_t2 _ (List.mem_of_getElem? (i := 170) rfl)) rfl
theorem cv_L_18 : CV RL 18 yX11_waste cX11_waste 2 (some .int) 0 11 := ⟨⟨mc_X11_waste, mi_X11, mp_X11_waste, Or.inl (tb_of (in_t2 _ (List.mem_of_getElem? (i := 168) rfl)) rfl)⟩, mn_X11_waste, sl_X11_waste, by decide, TX11, 19, rfl⟩
theorem mc_X12_waste : Cond.code yX12_waste cX12_waste 2 (some .int) ∈ tb := tb_of (in_t5 _ (List.mem_of_getElem? (i := 216) rfl)) rfl
theorem mp_X12_waste : yX12_waste.cls ≠ "java/lang/invoke/MethodHandle" ∧ yX12_waste.cls ≠ "java/lang/invoke/VarHandle" ∧ (parseMethodDescriptor yX12_waste.desc).map (fun d => d.parameters.length) = some 0 := ⟨by decide +kernel, by decide +kernel, by decide +kernel⟩
theorem mn_X12_waste : Cond.instanceMethod yX12_waste ∈ tb := tb_of (in_t5 _ (List.mem_of_getElem? (i := 214) rfl)) rfl
theorem sl_X12_waste : Cond.selects yX12_waste.cls yX12_waste yX12_waste ∈ tb := tb_of (in_t5 _ (List.mem_of_getElem? (i := 215) rfl)) rfl
theorem cv_L_22 : CV RL 22 yX12_waste cX12_waste 2 (some .int) 0 12 := ⟨⟨mc_X12_waste, mi_X12, mp_X12_waste, Or.inl (tb_of (in_t5 _ (List.mem_of_getElem? (i := 213) rfl)) rfl)⟩, mn_X12_waste, sl_X12_waste, by decide, TX12, 73, rfl⟩
theorem mc_X11_of : Cond.code yX11_of cX11_of 4 (some .int) ∈ tb := tb_of (in_t3 _ (List.mem_of_getElem? (i := 73) rfl)) rfl
theorem mp_X11_of : yX11_of.cls ≠ "java/lang/invoke/MethodHandle" ∧ yX11_of.cls ≠ "java/lang/invoke/VarHandle" ∧ (parseMethodDescriptor yX11_of.desc).map (fun d => d.parameters.length) = some 1 := ⟨by decide +kernel, by decide +kernel, by decide +kernel⟩
theorem mn_X11_of : Cond.instanceMethod yX11_of ∈ tb := tb_of (in_t3 _ (List.mem_of_getElem? (i := 71) rfl)) rfl
theorem sl_X11_of : Cond.selects yX11_of.cls yX11_of yX11_of ∈ tb := tb_of (in_t3 _ (List.mem_of_getElem? (i := 72) rfl)) rfl
theorem cv_L_23 : CV RL 23 yX11_of cX11_of 4 (some .int) 1 11 := ⟨⟨mc_X11_of, mi_X11, mp_X11_of, Or.inl (tb_of (in_t3 _ (List.mem_of_getElem? (i := 70) rfl)) rfl)⟩, mn_X11_of, sl_X11_of, by decide, TX11, 19, rfl⟩
theorem mc_X12_of : Cond.code yX12_of cX12_of 3 (some .int) ∈ tb := tb_of (in_t6 _ (List.mem_of_getElem? (i := 61) rfl)) rfl
theorem mp_X12_of : yX12_of.cls ≠ "java/lang/invoke/MethodHandle" ∧ yX12_of.cls ≠ "java/lang/invoke/VarHandle" ∧ (parseMethodDescriptor yX12_of.desc).map (fun d => d.parameters.length) = some 1 := ⟨by decide +kernel, by decide +kernel, by decide +kernel⟩
theorem mn_X12_of : Cond.instanceMethod yX12_of ∈ tb := tb_of (in_t6 _ (List.mem_of_getElem? (i := 59) rfl)) rfl
theorem sl_X12_of : Cond.selects yX12_of.cls yX12_of yX12_of ∈ tb := tb_of (in_t6 _ (List.mem_of_getElem? (i := 60) rfl)) rfl
theorem cv_L_27 : CV RL 27 yX12_of cX12_of 3 (some .int) 1 12 := ⟨⟨mc_X12_of, mi_X12, mp_X12_of, Or.inl (tb_of (in_t6 _ (List.mem_of_getElem? (i := 58) rfl)) rfl)⟩, mn_X12_of, sl_X12_of, by decide, TX12, 73, rfl⟩
theorem mc_X11_holds : Cond.code yX11_holds cX11_holds 3 (some .int) ∈ tb := tb_of (in_t3 _ (List.mem_of_getElem? (i := 81) rfl)) rfl
theorem mp_X11_holds : yX11_holds.cls ≠ "java/lang/invoke/MethodHandle" ∧ yX11_holds.cls ≠ "java/lang/invoke/VarHandle" ∧ (parseMethodDescriptor yX11_holds.desc).map (fun d => d.parameters.length) = some 2 := ⟨by decide +kernel, by decide +kernel, by decide +kernel⟩
theorem mn_X11_holds : Cond.instanceMethod yX11_holds ∈ tb := tb_of (in_t3 _ (List.mem_of_getElem? (i := 79) rfl)) rfl
theorem sl_X11_holds : Cond.selects yX11_holds.cls yX11_holds yX11_holds ∈ tb := tb_of (in_t3 _ (List.mem_of_getElem? (i := 80) rfl)) rfl
theorem cv_L_28 : CV RL 28 yX11_holds cX11_holds 3 (some .int) 2 11 := ⟨⟨mc_X11_holds, mi_X11, mp_X11_holds, Or.inl (tb_of (in_t3 _ (List.mem_of_getElem? (i := 78) rfl)) rfl)⟩, mn_X11_holds, sl_X11_holds, by decide, TX11, 19, rfl⟩
theorem mc_X12_holds : Cond.code yX12_holds cX12_holds 3 (some .int) ∈ tb := tb_of (in_t6 _ (List.mem_of_getElem? (i := 73) rfl)) rfl
theorem mp_X12_holds : yX12_holds.cls ≠ "java/lang/invoke/MethodHandle" ∧ yX12_holds.cls ≠ "java/lang/invoke/VarHandle" ∧ (parseMethodDescriptor yX12_holds.desc).map (fun d => d.parameters.length) = some 2 := ⟨by decide +kernel, by decide +kernel, by decide +kernel⟩
theorem mn_X12_holds : Cond.instanceMethod yX12_holds ∈ tb := tb_of (in_t6 _ (List.mem_of_getElem? (i := 71) rfl)) rfl
theorem sl_X12_holds : Cond.selects yX12_holds.cls yX12_holds yX12_holds ∈ tb := tb_of (in_t6 _ (List.mem_of_getElem? (i := 72) rfl)) rfl
theorem cv_L_31 : CV RL 31 yX12_holds cX12_holds 3 (some .int) 2 12 := ⟨⟨mc_X12_holds, mi_X12, mp_X12_holds, Or.inl (tb_of (in_t6 _ (List.mem_of_getElem? (i := 70) rfl)) rfl)⟩, mn_X12_holds, sl_X12_holds, by decide, TX12, 73, rfl⟩
theorem mc_X11_drinks : Cond.code yX11_drinks cX11_drinks 4 (some .int) ∈ tb := tb_of (in_t3 _ (List.mem_of_getElem? (i := 89) rfl)) rfl
theorem mp_X11_drinks : yX11_drinks.cls ≠ "java/lang/invoke/MethodHandle" ∧ yX11_drinks.cls ≠ "java/lang/invoke/VarHandle" ∧ (parseMethodDescriptor yX11_drinks.desc).map (fun d => d.parameters.length) = some 3 := ⟨by decide +kernel, by decide +kernel, by decide +kernel⟩
theorem mn_X11_drinks : Cond.instanceMethod yX11_drinks ∈ tb := tb_of (in_t3 _ (List.mem_of_getElem? (i := 87) rfl)) rfl
theorem sl_X11_drinks : Cond.selects yX11_drinks.cls yX11_drinks yX11_drinks ∈ tb := tb_of (in_t3 _ (List.mem_of_getElem? (i := 88) rfl)) rfl
theorem cv_L_32 : CV RL 32 yX11_drinks cX11_drinks 4 (some .int) 3 11 := ⟨⟨mc_X11_drinks, mi_X11, mp_X11_drinks, Or.inl (tb_of (in_t3 _ (List.mem_of_getElem? (i := 86) rfl)) rfl)⟩, mn_X11_drinks, sl_X11_drinks, by decide, TX11, 19, rfl⟩
theorem mc_X12_drinks : Cond.code yX12_drinks cX12_drinks 4 (some .int) ∈ tb := tb_of (in_t6 _ (List.mem_of_getElem? (i := 89) rfl)) rfl
theorem mp_X12_drinks : yX12_drinks.cls ≠ "java/lang/invoke/MethodHandle" ∧ yX12_drinks.cls ≠ "java/lang/invoke/VarHandle" ∧ (parseMethodDescriptor yX12_drinks.desc).map (fun d => d.parameters.length) = some 3 := ⟨by decide +kernel, by decide +kernel, by decide +kernel⟩
theorem mn_X12_drinks : Cond.instanceMethod yX12_drinks ∈ tb := tb_of (in_t6 _ (List.mem_of_getElem? (i := 87) rfl)) rfl
theorem sl_X12_drinks : Cond.selects yX12_drinks.cls yX12_drinks yX12_drinks ∈ tb := tb_of (in_t6 _ (List.mem_of_getElem? (i := 88) rfl)) rfl
theorem cv_L_36 : CV RL 36 yX12_drinks cX12_drinks 4 (some .int) 3 12 := ⟨⟨mc_X12_drinks, mi_X12, mp_X12_drinks, Or.inl (tb_of (in_t6 _ (List.mem_of_getElem? (i := 86) rfl)) rfl)⟩, mn_X12_drinks, sl_X12_drinks, by decide, TX12, 73, rfl⟩
theorem mc_X11_odds : Cond.code yX11_odds cX11_odds 4 (some .int) ∈ tb := tb_of (in_t3 _ (List.mem_of_getElem? (i := 98) rfl)) rfl
theorem mp_X11_odds : yX11_odds.cls ≠ "java/lang/invoke/MethodHandle" ∧ yX11_odds.cls ≠ "java/lang/invoke/VarHandle" ∧ (parseMethodDescriptor yX11_odds.desc).map (fun d => d.parameters.length) = some 2 := ⟨by decide +kernel, by decide +kernel, by decide +kernel⟩
theorem mn_X11_odds : Cond.instanceMethod yX11_odds ∈ tb := tb_of (in_t3 _ (List.mem_of_getElem? (i := 96) rfl)) rfl
theorem sl_X11_odds : Cond.selects yX11_odds.cls yX11_odds yX11_odds ∈ tb := tb_of (in_t3 _ (List.mem_of_getElem? (i := 97) rfl)) rfl
theorem cv_L_37 : CV RL 37 yX11_odds cX11_odds 4 (some .int) 2 11 := ⟨⟨mc_X11_odds, mi_X11, mp_X11_odds, Or.inl (tb_of (in_t3 _ (List.mem_of_getElem? (i := 95) rfl)) rfl)⟩, mn_X11_odds, sl_X11_odds, by decide, TX11, 19, rfl⟩
theorem mc_X12_odds : Cond.code yX12_odds cX12_odds 4 (some .int) ∈ tb := tb_of (in_t6 _ (List.mem_of_getElem? (i := 101) rfl)) rfl
theorem mp_X12_odds : yX12_odds.cls ≠ "java/lang/invoke/MethodHandle" ∧ yX12_odds.cls ≠ "java/lang/invoke/VarHandle" ∧ (parseMethodDescriptor yX12_odds.desc).map (fun d => d.parameters.length) = some 2 := ⟨by decide +kernel, by decide +kernel, by decide +kernel⟩
theorem mn_X12_odds : Cond.instanceMethod yX12_odds ∈ tb := tb_of (in_t6 _ (List.mem_of_getElem? (i := 99) rfl)) rfl
theorem sl_X12_odds : Cond.selects yX12_odds.cls yX12_odds yX12_odds ∈ tb := tb_of (in_t6 _ (List.mem_of_getElem? (i := 100) rfl)) rfl
theorem cv_L_40 : CV RL 40 yX12_odds cX12_odds 4 (some .int) 2 12 := ⟨⟨mc_X12_odds, mi_X12, mp_X12_odds, Or.inl (tb_of (in_t6 _ (List.mem_of_getElem? (i := 98) rfl)) rfl)⟩, mn_X12_odds, sl_X12_odds, by decide, TX12, 73, rfl⟩
theorem mc_X11_ever : Cond.code yX11_ever cX11_ever 5 (some .int) ∈ tb := tb_of (in_t3 _ (List.mem_of_getElem? (i := 102) rfl)) rfl
theorem mp_X11_ever : yX11_ever.cls ≠ "java/lang/invoke/MethodHandle" ∧ yX11_ever.cls ≠ "java/lang/invoke/VarHandle" ∧ (parseMethodDescriptor yX11_ever.desc).map (fun d => d.parameters.length) = some 1 := ⟨by decide +kernel, by decide +kernel, by decide +kernel⟩
theorem mn_X11_ever : Cond.instanceMethod yX11_ever ∈ tb := tb_of (in_t3 _ (List.mem_of_getElem? (i := 100) rfl)) rfl
theorem sl_X11_ever : Cond.selects yX11_ever.cls yX11_ever yX11_ever ∈ tb := tb_of (in_t3 _ (List.mem_of_getElem? (i := 101) rfl)) rfl
theorem cv_L_41 : CV RL 41 yX11_ever cX11_ever 5 (some .int) 1 11 := ⟨⟨mc_X11_ever, mi_X11, mp_X11_ever, Or.inl (tb_of (in_t3 _ (List.mem_of_getElem? (i := 99) rfl)) rfl)⟩, mn_X11_ever, sl_X11_ever, by decide, TX11, 19, rfl⟩
theorem mc_X12_ever : Cond.code yX12_ever cX12_ever 4 (some .int) ∈ tb := tb_of (in_t6 _ (List.mem_of_getElem? (i := 105) rfl)) rfl
theorem mp_X12_ever : yX12_ever.cls ≠ "java/lang/invoke/MethodHandle" ∧ yX12_ever.cls ≠ "java/lang/invoke/VarHandle" ∧ (parseMethodDescriptor yX12_ever.desc).map (fun d => d.parameters.length) = some 1 := ⟨by decide +kernel, by decide +kernel, by decide +kernel⟩
theorem mn_X12_ever : Cond.instanceMethod yX12_ever ∈ tb := tb_of (in_t6 _ (List.mem_of_getElem? (i := 103) rfl)) rfl
theorem sl_X12_ever : Cond.selects yX12_ever.cls yX12_ever yX12_ever ∈ tb := tb_of (in_t6 _ (List.mem_of_getElem? (i := 104) rfl)) rfl
theorem cv_L_44 : CV RL 44 yX12_ever cX12_ever 4 (some .int) 1 12 := ⟨⟨mc_X12_ever, mi_X12, mp_X12_ever, Or.inl (tb_of (in_t6 _ (List.mem_of_getElem? (i := 102) rfl)) rfl)⟩, mn_X12_ever, sl_X12_ever, by decide, TX12, 73, rfl⟩
theorem mc_X11_rule : Cond.code yX11_rule cX11_rule 3 (some .int) ∈ tb := tb_of (in_t3 _ (List.mem_of_getElem? (i := 109) rfl)) rfl
theorem mp_X11_rule : yX11_rule.cls ≠ "java/lang/invoke/MethodHandle" ∧ yX11_rule.cls ≠ "java/lang/invoke/VarHandle" ∧ (parseMethodDescriptor yX11_rule.desc).map (fun d => d.parameters.length) = some 2 := ⟨by decide +kernel, by decide +kernel, by decide +kernel⟩
theorem mn_X11_rule : Cond.instanceMethod yX11_rule ∈ tb := tb_of (in_t3 _ (List.mem_of_getElem? (i := 107) rfl)) rfl
theorem sl_X11_rule : Cond.selects yX11_rule.cls yX11_rule yX11_rule ∈ tb := tb_of (in_t3 _ (List.mem_of_getElem? (i := 108) rfl)) rfl
theorem cv_L_45 : CV RL 45 yX11_rule cX11_rule 3 (some .int) 2 11 := ⟨⟨mc_X11_rule, mi_X11, mp_X11_rule, Or.inl (tb_of (in_t3 _ (List.mem_of_getElem? (i := 106) rfl)) rfl)⟩, mn_X11_rule, sl_X11_rule, by decide, TX11, 19, rfl⟩
theorem mc_X12_rule : Cond.code yX12_rule cX12_rule 3 (some .int) ∈ tb := tb_of (in_t6 _ (List.mem_of_getElem? (i := 109) rfl)) rfl
theorem mp_X12_rule : yX12_rule.cls ≠ "java/lang/invoke/MethodHandle" ∧ yX12_rule.cls ≠ "java/lang/invoke/VarHandle" ∧ (parseMethodDescriptor yX12_rule.desc).map (fun d => d.parameters.length) = some 2 := ⟨by decide +kernel, by decide +kernel, by decide +kernel⟩
theorem mn_X12_rule : Cond.instanceMethod yX12_rule ∈ tb := tb_of (in_t6 _ (List.mem_of_getElem? (i := 107) rfl)) rfl
theorem sl_X12_rule : Cond.selects yX12_rule.cls yX12_rule yX12_rule ∈ tb := tb_of (in_t6 _ (List.mem_of_getElem? (i := 108) rfl)) rfl
theorem cv_L_48 : CV RL 48 yX12_rule cX12_rule 3 (some .int) 2 12 := ⟨⟨mc_X12_rule, mi_X12, mp_X12_rule, Or.inl (tb_of (in_t6 _ (List.mem_of_getElem? (i := 106) rfl)) rfl)⟩, mn_X12_rule, sl_X12_rule, by decide, TX12, 73, rfl⟩
theorem mc_X11_row : Cond.code yX11_row cX11_row 4 (some .int) ∈ tb := tb_of (in_t3 _ (List.mem_of_getElem? (i := 139) rfl)) rfl
theorem mp_X11_row : yX11_row.cls ≠ "java/lang/invoke/MethodHandle" ∧ yX11_row.cls ≠ "java/lang/invoke/VarHandle" ∧ (parseMethodDescriptor yX11_row.desc).map (fun d => d.parameters.length) = some 2 := ⟨by decide +kernel, by decide +kernel, by decide +kernel⟩
theorem mn_X11_row : Cond.instanceMethod yX11_row ∈ tb := tb_of (in_t3 _ (List.mem_of_getElem? (i := 137) rfl)) rfl
theorem sl_X11_row : Cond.selects yX11_row.cls yX11_row yX11_row ∈ tb := tb_of (in_t3 _ (List.mem_of_getElem? (i := 138) rfl)) rfl
theorem cv_L_49 : CV RL 49 yX11_row cX11_row 4 (some .int) 2 11 := ⟨⟨mc_X11_row, mi_X11, mp_X11_row, Or.inl (tb_of (in_t3 _ (List.mem_of_getElem? (i := 136) rfl)) rfl)⟩, mn_X11_row, sl_X11_row, by decide, TX11, 19, rfl⟩
theorem mc_X12_row : Cond.code yX12_row cX12_row 3 (some .int) ∈ tb := tb_of (in_t6 _ (List.mem_of_getElem? (i := 113) rfl)) rfl
theorem mp_X12_row : yX12_row.cls ≠ "java/lang/invoke/MethodHandle" ∧ yX12_row.cls ≠ "java/lang/invoke/VarHandle" ∧ (parseMethodDescriptor yX12_row.desc).map (fun d => d.parameters.length) = some 2 := ⟨by decide +kernel, by decide +kernel, by decide +kernel⟩
theorem mn_X12_row : Cond.instanceMethod yX12_row ∈ tb := tb_of (in_t6 _ (List.mem_of_getElem? (i := 111) rfl)) rfl
theorem sl_X12_row : Cond.selects yX12_row.cls yX12_row yX12_row ∈ tb := tb_of (in_t6 _ (List.mem_of_getElem? (i := 112) rfl)) rfl
theorem cv_L_52 : CV RL 52 yX12_row cX12_row 3 (some .int) 2 12 := ⟨⟨mc_X12_row, mi_X12, mp_X12_row, Or.inl (tb_of (in_t6 _ (List.mem_of_getElem? (i := 110) rfl)) rfl)⟩, mn_X12_row, sl_X12_row, by decide, TX12, 73, rfl⟩
theorem mc_X11_caravan : Cond.code yX11_caravan cX11_caravan 6 (some .int) ∈ tb := tb_of (in_t3 _ (List.mem_of_getElem? (i := 147) rfl)) rfl
theorem mp_X11_caravan : yX11_caravan.cls ≠ "java/lang/invoke/MethodHandle" ∧ yX11_caravan.cls ≠ "java/lang/invoke/VarHandle" ∧ (parseMethodDescriptor yX11_caravan.desc).map (fun d => d.parameters.length) = some 3 := ⟨by decide +kernel, by decide +kernel, by decide +kernel⟩
theorem mn_X11_caravan : Cond.instanceMethod yX11_caravan ∈ tb := tb_of (in_t3 _ (List.mem_of_getElem? (i := 145) rfl)) rfl
theorem sl_X11_caravan : Cond.selects yX11_caravan.cls yX11_caravan yX11_caravan ∈ tb := tb_of (in_t3 _ (List.mem_of_getElem? (i := 146) rfl)) rfl
theorem cv_L_53 : CV RL 53 yX11_caravan cX11_caravan 6 (some .int) 3 11 := ⟨⟨mc_X11_caravan, mi_X11, mp_X11_caravan, Or.inl (tb_of (in_t3 _ (List.mem_of_getElem? (i := 144) rfl)) rfl)⟩, mn_X11_caravan, sl_X11_caravan, by decide, TX11, 19, rfl⟩
theorem mc_X12_caravan : Cond.code yX12_caravan cX12_caravan 4 (some .int) ∈ tb := tb_of (in_t6 _ (List.mem_of_getElem? (i := 121) rfl)) rfl
theorem mp_X12_caravan : yX12_caravan.cls ≠ "java/lang/invoke/MethodHandle" ∧ yX12_caravan.cls ≠ "java/lang/invoke/VarHandle" ∧ (parseMethodDescriptor yX12_caravan.desc).map (fun d => d.parameters.length) = some 3 := ⟨by decide +kernel, by decide +kernel, by decide +kernel⟩
theorem mn_X12_caravan : Cond.instanceMethod yX12_caravan ∈ tb := tb_of (in_t6 _ (List.mem_of_getElem? (i := 119) rfl)) rfl
theorem sl_X12_caravan : Cond.selects yX12_caravan.cls yX12_caravan yX12_caravan ∈ tb := tb_of (in_t6 _ (List.mem_of_getElem? (i := 120) rfl)) rfl
theorem cv_L_56 : CV RL 56 yX12_caravan cX12_caravan 4 (some .int) 3 12 := ⟨⟨mc_X12_caravan, mi_X12, mp_X12_caravan, Or.inl (tb_of (in_t6 _ (List.mem_of_getElem? (i := 118) rfl)) rfl)⟩, mn_X12_caravan, sl_X12_caravan, by decide, TX12, 73, rfl⟩
theorem mc_X11_would : Cond.code yX11_would cX11_would 4 (some .int) ∈ tb := tb_of (in_t3 _ (List.mem_of_getElem? (i := 155) rfl)) rfl
theorem mp_X11_would : yX11_would.cls ≠ "java/lang/invoke/MethodHandle" ∧ yX11_would.cls ≠ "java/lang/invoke/VarHandle" ∧ (parseMethodDescriptor yX11_would.desc).map (fun d => d.parameters.length) = some 2 := ⟨by decide +kernel, by decide +kernel, by decide +kernel⟩
theorem mn_X11_would : Cond.instanceMethod yX11_would ∈ tb := tb_of (in_t3 _ (List.mem_of_getElem? (i := 153) rfl)) rfl
theorem sl_X11_would : Cond.selects yX11_would.cls yX11_would yX11_would ∈ tb := tb_of (in_t3 _ (List.mem_of_getElem? (i := 154) rfl)) rfl
theorem cv_L_57 : CV RL 57 yX11_would cX11_would 4 (some .int) 2 11 := ⟨⟨mc_X11_would, mi_X11, mp_X11_would, Or.inl (tb_of (in_t3 _ (List.mem_of_getElem? (i := 152) rfl)) rfl)⟩, mn_X11_would, sl_X11_would, by decide, TX11, 19, rfl⟩
theorem mc_X12_would : Cond.code yX12_would cX12_would 3 (some .int) ∈ tb := tb_of (in_t6 _ (List.mem_of_getElem? (i := 129) rfl)) rfl
theorem mp_X12_would : yX12_would.cls ≠ "java/lang/invoke/MethodHandle" ∧ yX12_would.cls ≠ "java/lang/invoke/VarHandle" ∧ (parseMethodDescriptor yX12_would.desc).map (fun d => d.parameters.length) = some 2 := ⟨by decide +kernel, by decide +kernel, by decide +kernel⟩
theorem mn_X12_would : Cond.instanceMethod yX12_would ∈ tb := tb_of (in_t6 _ (List.mem_of_getElem? (i := 127) rfl)) rfl
theorem sl_X12_would : Cond.selects yX12_would.cls yX12_would yX12_would ∈ tb := tb_of (in_t6 _ (List.mem_of_getElem? (i := 128) rfl)) rfl
theorem cv_L_60 : CV RL 60 yX12_would cX12_would 3 (some .int) 2 12 := ⟨⟨mc_X12_would, mi_X12, mp_X12_would, Or.inl (tb_of (in_t6 _ (List.mem_of_getElem? (i := 126) rfl)) rfl)⟩, mn_X12_would, sl_X12_would, by decide, TX12, 73, rfl⟩
theorem mc_X11_goes : Cond.code yX11_goes cX11_goes 3 (some .int) ∈ tb := tb_of (in_t4 _ (List.mem_of_getElem? (i := 31) rfl)) rfl
theorem mp_X11_goes : yX11_goes.cls ≠ "java/lang/invoke/MethodHandle" ∧ yX11_goes.cls ≠ "java/lang/invoke/VarHandle" ∧ (parseMethodDescriptor yX11_goes.desc).map (fun d => d.parameters.length) = some 1 := ⟨by decide +kernel, by decide +kernel, by decide +kernel⟩
theorem mn_X11_goes : Cond.instanceMethod yX11_goes ∈ tb := tb_of (in_t4 _ (List.mem_of_getElem? (i := 29) rfl)) rfl
theorem sl_X11_goes : Cond.selects yX11_goes.cls yX11_goes yX11_goes ∈ tb := tb_of (in_t4 _ (List.mem_of_getElem? (i := 30) rfl)) rfl
theorem cv_L_61 : CV RL 61 yX11_goes cX11_goes 3 (some .int) 1 11 := ⟨⟨mc_X11_goes, mi_X11, mp_X11_goes, Or.inl (tb_of (in_t4 _ (List.mem_of_getElem? (i := 28) rfl)) rfl)⟩, mn_X11_goes, sl_X11_goes, by decide, TX11, 19, rfl⟩
theorem mc_X12_goes : Cond.code yX12_goes cX12_goes 3 (some .int) ∈ tb := tb_of (in_t6 _ (List.mem_of_getElem? (i := 181) rfl)) rfl
theorem mp_X12_goes : yX12_goes.cls ≠ "java/lang/invoke/MethodHandle" ∧ yX12_goes.cls ≠ "java/lang/invoke/VarHandle" ∧ (parseMethodDescriptor yX12_goes.desc).map (fun d => d.parameters.length) = some 1 := ⟨by decide +kernel, by decide +kernel, by decide +kernel⟩
theorem mn_X12_goes : Cond.instanceMethod yX12_goes ∈ tb := tb_of (in_t6 _ (List.mem_of_getElem? (i := 179) rfl)) rfl
theorem sl_X12_goes : Cond.selects yX12_goes.cls yX12_goes yX12_goes ∈ tb := tb_of (in_t6 _ (List.mem_of_getElem? (i := 180) rfl)) rfl
theorem cv_L_64 : CV RL 64 yX12_goes cX12_goes 3 (some .int) 1 12 := ⟨⟨mc_X12_goes, mi_X12, mp_X12_goes, Or.inl (tb_of (in_t6 _ (List.mem_of_getElem? (i := 178) rfl)) rfl)⟩, mn_X12_goes, sl_X12_goes, by decide, TX12, 73, rfl⟩
theorem mc_X11_hand : Cond.code yX11_hand cX11_hand 2 (some .int) ∈ tb := tb_of (in_t4 _ (List.mem_of_getElem? (i := 35) rfl)) rfl
theorem mp_X11_hand : yX11_hand.cls ≠ "java/lang/invoke/MethodHandle" ∧ yX11_hand.cls ≠ "java/lang/invoke/VarHandle" ∧ (parseMethodDescriptor yX11_hand.desc).map (fun d => d.parameters.length) = some 1 := ⟨by decide +kernel, by decide +kernel, by decide +kernel⟩
theorem mn_X11_hand : Cond.instanceMethod yX11_hand ∈ tb := tb_of (in_t4 _ (List.mem_of_getElem? (i := 33) rfl)) rfl
theorem sl_X11_hand : Cond.selects yX11_hand.cls yX11_hand yX11_hand ∈ tb := tb_of (in_t4 _ (List.mem_of_getElem? (i := 34) rfl)) rfl
theorem cv_L_65 : CV RL 65 yX11_hand cX11_hand 2 (some .int) 1 11 := ⟨⟨mc_X11_hand, mi_X11, mp_X11_hand, Or.inl (tb_of (in_t4 _ (List.mem_of_getElem? (i := 32) rfl)) rfl)⟩, mn_X11_hand, sl_X11_hand, by decide, TX11, 19, rfl⟩
theorem mc_X12_hand : Cond.code yX12_hand cX12_hand 2 (some .int) ∈ tb := tb_of (in_t6 _ (List.mem_of_getElem? (i := 125) rfl)) rfl
theorem mp_X12_hand : yX12_hand.cls ≠ "java/lang/invoke/MethodHandle" ∧ yX12_hand.cls ≠ "java/lang/invoke/VarHandle" ∧ (parseMethodDescriptor yX12_hand.desc).map (fun d => d.parameters.length) = some 1 := ⟨by decide +kernel, by decide +kernel, by decide +kernel⟩
theorem mn_X12_hand : Cond.instanceMethod yX12_hand ∈ tb := tb_of (in_t6 _ (List.mem_of_getElem? (i := 123) rfl)) rfl
theorem sl_X12_hand : Cond.selects yX12_hand.cls yX12_hand yX12_hand ∈ tb := tb_of (in_t6 _ (List.mem_of_getElem? (i := 124) rfl)) rfl
theorem cv_L_68 : CV RL 68 yX12_hand cX12_hand 2 (some .int) 1 12 := ⟨⟨mc_X12_hand, mi_X12, mp_X12_hand, Or.inl (tb_of (in_t6 _ (List.mem_of_getElem? (i := 122) rfl)) rfl)⟩, mn_X12_hand, sl_X12_hand, by decide, TX12, 73, rfl⟩
theorem mc_X11_gone : Cond.code yX11_gone cX11_gone 4 (some .int) ∈ tb := tb_of (in_t4 _ (List.mem_of_getElem? (i := 43) rfl)) rfl
theorem mp_X11_gone : yX11_gone.cls ≠ "java/lang/invoke/MethodHandle" ∧ yX11_gone.cls ≠ "java/lang/invoke/VarHandle" ∧ (parseMethodDescriptor yX11_gone.desc).map (fun d => d.parameters.length) = some 2 := ⟨by decide +kernel, by decide +kernel, by decide +kernel⟩
theorem mn_X11_gone : Cond.instanceMethod yX11_gone ∈ tb := tb_of (in_t4 _ (List.mem_of_getElem? (i := 41) rfl)) rfl
theorem sl_X11_gone : Cond.selects yX11_gone.cls yX11_gone yX11_gone ∈ tb := tb_of (in_t4 _ (List.mem_of_getElem? (i := 42) rfl)) rfl
theorem cv_L_69 : CV RL 69 yX11_gone cX11_gone 4 (some .int) 2 11 := ⟨⟨mc_X11_gone, mi_X11, mp_X11_gone, Or.inl (tb_of (in_t4 _ (List.mem_of_getElem? (i := 40) rfl)) rfl)⟩, mn_X11_gone, sl_X11_gone, by decide, TX11, 19, rfl⟩
theorem mc_X12_gone : Cond.code yX12_gone cX12_gone 3 (some .int) ∈ tb := tb_of (in_t6 _ (List.mem_of_getElem? (i := 185) rfl)) rfl
theorem mp_X12_gone : yX12_gone.cls ≠ "java/lang/invoke/MethodHandle" ∧ yX12_gone.cls ≠ "java/lang/invoke/VarHandle" ∧ (parseMethodDescriptor yX12_gone.desc).map (fun d => d.parameters.length) = some 2 := ⟨by decide +kernel, by decide +kernel, by decide +kernel⟩
theorem mn_X12_gone : Cond.instanceMethod yX12_gone ∈ tb := tb_of (in_t6 _ (List.mem_of_getElem? (i := 183) rfl)) rfl
theorem sl_X12_gone : Cond.selects yX12_gone.cls yX12_gone yX12_gone ∈ tb := tb_of (in_t6 _ (List.mem_of_getElem? (i := 184) rfl)) rfl
theorem cv_L_72 : CV RL 72 yX12_gone cX12_gone 3 (some .int) 2 12 := ⟨⟨mc_X12_gone, mi_X12, mp_X12_gone, Or.inl (tb_of (in_t6 _ (List.mem_of_getElem? (i := 182) rfl)) rfl)⟩, mn_X12_gone, sl_X12_gone, by decide, TX12, 73, rfl⟩
theorem mc_X11_size : Cond.code yX11_size cX11_size 9 (some .int) ∈ tb := tb_of (in_t4 _ (List.mem_of_getElem? (i := 47) rfl)) rfl
theorem mp_X11_size : yX11_size.cls ≠ "java/lang/invoke/MethodHandle" ∧ yX11_size.cls ≠ "java/lang/invoke/VarHandle" ∧ (parseMethodDescriptor yX11_size.desc).map (fun d => d.parameters.length) = some 3 := ⟨by decide +kernel, by decide +kernel, by decide +kernel⟩
theorem mn_X11_size : Cond.instanceMethod yX11_size ∈ tb := tb_of (in_t4 _ (List.mem_of_getElem? (i := 45) rfl)) rfl
theorem sl_X11_size : Cond.selects yX11_size.cls yX11_size yX11_size ∈ tb := tb_of (in_t4 _ (List.mem_of_getElem? (i := 46) rfl)) rfl
theorem cv_L_73 : CV RL 73 yX11_size cX11_size 9 (some .int) 3 11 := ⟨⟨mc_X11_size, mi_X11, mp_X11_size, Or.inl (tb_of (in_t4 _ (List.mem_of_getElem? (i := 44) rfl)) rfl)⟩, mn_X11_size, sl_X11_size, by decide, TX11, 19, rfl⟩
theorem mc_X12_size : Cond.code yX12_size cX12_size 9 (some .int) ∈ tb := tb_of (in_t6 _ (List.mem_of_getElem? (i := 189) rfl)) rfl
theorem mp_X12_size : yX12_size.cls ≠ "java/lang/invoke/MethodHandle" ∧ yX12_size.cls ≠ "java/lang/invoke/VarHandle" ∧ (parseMethodDescriptor yX12_size.desc).map (fun d => d.parameters.length) = some 3 := ⟨by decide +kernel, by decide +kernel, by decide +kernel⟩
theorem mn_X12_size : Cond.instanceMethod yX12_size ∈ tb := tb_of (in_t6 _ (List.mem_of_getElem? (i := 187) rfl)) rfl
theorem sl_X12_size : Cond.selects yX12_size.cls yX12_size yX12_size ∈ tb := tb_of (in_t6 _ (List.mem_of_getElem? (i := 188) rfl)) rfl
theorem cv_L_76 : CV RL 76 yX12_size cX12_size 9 (some .int) 3 12 := ⟨⟨mc_X12_size, mi_X12, mp_X12_size, Or.inl (tb_of (in_t6 _ (List.mem_of_getElem? (i := 186) rfl)) rfl)⟩, mn_X12_size, sl_X12_size, by decide, TX12, 73, rfl⟩
theorem mc_X11_several : Cond.code yX11_several cX11_several 2 (some .int) ∈ tb := tb_of (in_t4 _ (List.mem_of_getElem? (i := 51) rfl)) rfl
theorem mp_X11_several : yX11_several.cls ≠ "java/lang/invoke/MethodHandle" ∧ yX11_several.cls ≠ "java/lang/invoke/VarHandle" ∧ (parseMethodDescriptor yX11_several.desc).map (fun d => d.parameters.length) = some 1 := ⟨by decide +kernel, by decide +kernel, by decide +kernel⟩
theorem mn_X11_several : Cond.instanceMethod yX11_several ∈ tb := tb_of (in_t4 _ (List.mem_of_getElem? (i := 49) rfl)) rfl
theorem sl_X11_several : Cond.selects yX11_several.cls yX11_several yX11_several ∈ tb := tb_of (in_t4 _ (List.mem_of_getElem? (i := 50) rfl)) rfl
theorem cv_L_77 : CV RL 77 yX11_several cX11_several 2 (some .int) 1 11 := ⟨⟨mc_X11_several, mi_X11, mp_X11_several, Or.inl (tb_of (in_t4 _ (List.mem_of_getElem? (i := 48) rfl)) rfl)⟩, mn_X11_several, sl_X11_several, by decide, TX11, 19, rfl⟩
theorem mc_X12_several : Cond.code yX12_several cX12_several 2 (some .int) ∈ tb := tb_of (in_t6 _ (List.mem_of_getElem? (i := 193) rfl)) rfl
theorem mp_X12_several : yX12_several.cls ≠ "java/lang/invoke/MethodHandle" ∧ yX12_several.cls ≠ "java/lang/invoke/VarHandle" ∧ (parseMethodDescriptor yX12_several.desc).map (fun d => d.parameters.length) = some 1 := ⟨by decide +kernel, by decide +kernel, by decide +kernel⟩
theorem mn_X12_several : Cond.instanceMethod yX12_several ∈ tb := tb_of (in_t6 _ (List.mem_of_getElem? (i := 191) rfl)) rfl
theorem sl_X12_several : Cond.selects yX12_several.cls yX12_several yX12_several ∈ tb := tb_of (in_t6 _ (List.mem_of_getElem? (i := 192) rfl)) rfl
theorem cv_L_80 : CV RL 80 yX12_several cX12_several 2 (some .int) 1 12 := ⟨⟨mc_X12_several, mi_X12, mp_X12_several, Or.inl (tb_of (in_t6 _ (List.mem_of_getElem? (i := 190) rfl)) rfl)⟩, mn_X12_several, sl_X12_several, by decide, TX12, 73, rfl⟩
theorem mc_X11_all : Cond.code yX11_all cX11_all 3 (some .int) ∈ tb := tb_of (in_t4 _ (List.mem_of_getElem? (i := 55) rfl)) rfl
theorem mp_X11_all : yX11_all.cls ≠ "java/lang/invoke/MethodHandle" ∧ yX11_all.cls ≠ "java/lang/invoke/VarHandle" ∧ (parseMethodDescriptor yX11_all.desc).map (fun d => d.parameters.length) = some 1 := ⟨by decide +kernel, by decide +kernel, by decide +kernel⟩
theorem mn_X11_all : Cond.instanceMethod yX11_all ∈ tb := tb_of (in_t4 _ (List.mem_of_getElem? (i := 53) rfl)) rfl
theorem sl_X11_all : Cond.selects yX11_all.cls yX11_all yX11_all ∈ tb := tb_of (in_t4 _ (List.mem_of_getElem? (i := 54) rfl)) rfl
theorem cv_L_81 : CV RL 81 yX11_all cX11_all 3 (some .int) 1 11 := ⟨⟨mc_X11_all, mi_X11, mp_X11_all, Or.inl (tb_of (in_t4 _ (List.mem_of_getElem? (i := 52) rfl)) rfl)⟩, mn_X11_all, sl_X11_all, by decide, TX11, 19, rfl⟩
theorem mc_X12_all : Cond.code yX12_all cX12_all 3 (some .int) ∈ tb := tb_of (in_t6 _ (List.mem_of_getElem? (i := 197) rfl)) rfl
theorem mp_X12_all : yX12_all.cls ≠ "java/lang/invoke/MethodHandle" ∧ yX12_all.cls ≠ "java/lang/invoke/VarHandle" ∧ (parseMethodDescriptor yX12_all.desc).map (fun d => d.parameters.length) = some 1 := ⟨by decide +kernel, by decide +kernel, by decide +kernel⟩
theorem mn_X12_all : Cond.instanceMethod yX12_all ∈ tb := tb_of (in_t6 _ (List.mem_of_getElem? (i := 195) rfl)) rfl
theorem sl_X12_all : Cond.selects yX12_all.cls yX12_all yX12_all ∈ tb := tb_of (in_t6 _ (List.mem_of_getElem? (i := 196) rfl)) rfl
theorem cv_L_84 : CV RL 84 yX12_all cX12_all 3 (some .int) 1 12 := ⟨⟨mc_X12_all, mi_X12, mp_X12_all, Or.inl (tb_of (in_t6 _ (List.mem_of_getElem? (i := 194) rfl)) rfl)⟩, mn_X12_all, sl_X12_all, by decide, TX12, 73, rfl⟩
theorem mc_X11_likely : Cond.code yX11_likely cX11_likely 8 (some .long) ∈ tb := tb_of (in_t4 _ (List.mem_of_getElem? (i := 94) rfl)) rfl
theorem mp_X11_likely : yX11_likely.cls ≠ "java/lang/invoke/MethodHandle" ∧ yX11_likely.cls ≠ "java/lang/invoke/VarHandle" ∧ (parseMethodDescriptor yX11_likely.desc).map (fun d => d.parameters.length) = some 2 := ⟨by decide +kernel, by decide +kernel, by decide +kernel⟩
theorem mn_X11_likely : Cond.instanceMethod yX11_likely ∈ tb := tb_of (in_t4 _ (List.mem_of_getElem? (i := 92) rfl)) rfl
theorem sl_X11_likely : Cond.selects yX11_likely.cls yX11_likely yX11_likely ∈ tb := tb_of (in_t4 _ (List.mem_of_getElem? (i := 93) rfl)) rfl
theorem cv_L_85 : CV RL 85 yX11_likely cX11_likely 8 (some .long) 2 11 := ⟨⟨mc_X11_likely, mi_X11, mp_X11_likely, Or.inl (tb_of (in_t4 _ (List.mem_of_getElem? (i := 91) rfl)) rfl)⟩, mn_X11_likely, sl_X11_likely, by decide, TX11, 19, rfl⟩
theorem mc_X12_likely : Cond.code yX12_likely cX12_likely 13 (some .long) ∈ tb := tb_of (in_t6 _ (List.mem_of_getElem? (i := 210) rfl)) rfl
theorem mp_X12_likely : yX12_likely.cls ≠ "java/lang/invoke/MethodHandle" ∧ yX12_likely.cls ≠ "java/lang/invoke/VarHandle" ∧ (parseMethodDescriptor yX12_likely.desc).map (fun d => d.parameters.length) = some 2 := ⟨by decide +kernel, by decide +kernel, by decide +kernel⟩
theorem mn_X12_likely : Cond.instanceMethod yX12_likely ∈ tb := tb_of (in_t6 _ (List.mem_of_getElem? (i := 208) rfl)) rfl
theorem sl_X12_likely : Cond.selects yX12_likely.cls yX12_likely yX12_likely ∈ tb := tb_of (in_t6 _ (List.mem_of_getElem? (i := 209) rfl)) rfl
theorem cv_L_89 : CV RL 89 yX12_likely cX12_likely 13 (some .long) 2 12 := ⟨⟨mc_X12_likely, mi_X12, mp_X12_likely, Or.inl (tb_of (in_t6 _ (List.mem_of_getElem? (i := 207) rfl)) rfl)⟩, mn_X12_likely, sl_X12_likely, by decide, TX12, 73, rfl⟩
theorem mc_X11_dig : Cond.code yX11_dig cX11_dig 12 (some .int) ∈ tb := tb_of (in_t4 _ (List.mem_of_getElem? (i := 114) rfl)) rfl
theorem mp_X11_dig : yX11_dig.cls ≠ "java/lang/invoke/MethodHandle" ∧ yX11_dig.cls ≠ "java/lang/invoke/VarHandle" ∧ (parseMethodDescriptor yX11_dig.desc).map (fun d => d.parameters.length) = some 4 := ⟨by decide +kernel, by decide +kernel, by decide +kernel⟩
theorem mn_X11_dig : Cond.instanceMethod yX11_dig ∈ tb := tb_of (in_t4 _ (List.mem_of_getElem? (i := 112) rfl)) rfl
theorem sl_X11_dig : Cond.selects yX11_dig.cls yX11_dig yX11_dig ∈ tb := tb_of (in_t4 _ (List.mem_of_getElem? (i := 113) rfl)) rfl
theorem cv_L_90 : CV RL 90 yX11_dig cX11_dig 12 (some .int) 4 11 := ⟨⟨mc_X11_dig, mi_X11, mp_X11_dig, Or.inl (tb_of (in_t4 _ (List.mem_of_getElem? (i := 111) rfl)) rfl)⟩, mn_X11_dig, sl_X11_dig, by decide, TX11, 19, rfl⟩
theorem mc_X12_dig : Cond.code yX12_dig cX12_dig 11 (some .int) ∈ tb := tb_of (in_t6 _ (List.mem_of_getElem? (i := 220) rfl)) rfl
theorem mp_X12_dig : yX12_dig.cls ≠ "java/lang/invoke/MethodHandle" ∧ yX12_dig.cls ≠ "java/lang/invoke/VarHandle" ∧ (parseMethodDescriptor yX12_dig.desc).map (fun d => d.parameters.length) = some 4 := ⟨by decide +kernel, by decide +kernel, by decide +kernel⟩
theorem mn_X12_dig : Cond.instanceMethod yX12_dig ∈ tb := tb_of (in_t6 _ (List.mem_of_getElem? (i := 218) rfl)) rfl
theorem sl_X12_dig : Cond.selects yX12_dig.cls yX12_dig yX12_dig ∈ tb := tb_of (in_t6 _ (List.mem_of_getElem? (i := 219) rfl)) rfl
theorem cv_L_94 : CV RL 94 yX12_dig cX12_dig 11 (some .int) 4 12 := ⟨⟨mc_X12_dig, mi_X12, mp_X12_dig, Or.inl (tb_of (in_t6 _ (List.mem_of_getElem? (i := 217) rfl)) rfl)⟩, mn_X12_dig, sl_X12_dig, by decide, TX12, 73, rfl⟩
theorem mc_X11_judge : Cond.code yX11_judge cX11_judge 8 (some .int) ∈ tb := tb_of (in_t4 _ (List.mem_of_getElem? (i := 125) rfl)) rfl
theorem mp_X11_judge : yX11_judge.cls ≠ "java/lang/invoke/MethodHandle" ∧ yX11_judge.cls ≠ "java/lang/invoke/VarHandle" ∧ (parseMethodDescriptor yX11_judge.desc).map (fun d => d.parameters.length) = some 3 := ⟨by decide +kernel, by decide +kernel, by decide +kernel⟩
theorem mn_X11_judge : Cond.instanceMethod yX11_judge ∈ tb := tb_of (in_t4 _ (List.mem_of_getElem? (i := 123) rfl)) rfl
theorem sl_X11_judge : Cond.selects yX11_judge.cls yX11_judge yX11_judge ∈ tb := tb_of (in_t4 _ (List.mem_of_getElem? (i := 124) rfl)) rfl
theorem cv_L_95 : CV RL 95 yX11_judge cX11_judge 8 (some .int) 3 11 := ⟨⟨mc_X11_judge, mi_X11, mp_X11_judge, Or.inl (tb_of (in_t4 _ (List.mem_of_getElem? (i := 122) rfl)) rfl)⟩, mn_X11_judge, sl_X11_judge, by decide, TX11, 19, rfl⟩
theorem mc_X12_judge : Cond.code yX12_judge cX12_judge 7 (some .int) ∈ tb := tb_of (in_t6 _ (List.mem_of_getElem? (i := 228) rfl)) rfl
theorem mp_X12_judge : yX12_judge.cls ≠ "java/lang/invoke/MethodHandle" ∧ yX12_judge.cls ≠ "java/lang/invoke/VarHandle" ∧ (parseMethodDescriptor yX12_judge.desc).map (fun d => d.parameters.length) = some 3 := ⟨by decide +kernel, by decide +kernel, by decide +kernel⟩
theorem mn_X12_judge : Cond.instanceMethod yX12_judge ∈ tb := tb_of (in_t6 _ (List.mem_of_getElem? (i := 226) rfl)) rfl
theorem sl_X12_judge : Cond.selects yX12_judge.cls yX12_judge yX12_judge ∈ tb := tb_of (in_t6 _ (List.mem_of_getElem? (i := 227) rfl)) rfl
theorem cv_L_98 : CV RL 98 yX12_judge cX12_judge 7 (some .int) 3 12 := ⟨⟨mc_X12_judge, mi_X12, mp_X12_judge, Or.inl (tb_of (in_t6 _ (List.mem_of_getElem? (i := 225) rfl)) rfl)⟩, mn_X12_judge, sl_X12_judge, by decide, TX12, 73, rfl⟩
theorem mc_X11_image : Cond.code yX11_image cX11_image 1 (some .int) ∈ tb := tb_of (in_t4 _ (List.mem_of_getElem? (i := 142) rfl)) rfl
theorem mp_X11_image : yX11_image.cls ≠ "java/lang/invoke/MethodHandle" ∧ yX11_image.cls ≠ "java/lang/invoke/VarHandle" ∧ (parseMethodDescriptor yX11_image.desc).map (fun d => d.parameters.length) = some 0 := ⟨by decide +kernel, by decide +kernel, by decide +kernel⟩
theorem mn_X11_image : Cond.instanceMethod yX11_image ∈ tb := tb_of (in_t4 _ (List.mem_of_getElem? (i := 140) rfl)) rfl
theorem sl_X11_image : Cond.selects yX11_image.cls yX11_image yX11_image ∈ tb := tb_of (in_t4 _ (List.mem_of_getElem? (i := 141) rfl)) rfl
theorem cv_L_99 : CV RL 99 yX11_image cX11_image 1 (some .int) 0 11 := ⟨⟨mc_X11_image, mi_X11, mp_X11_image, Or.inl (tb_of (in_t4 _ (List.mem_of_getElem? (i := 139) rfl)) rfl)⟩, mn_X11_image, sl_X11_image, by decide, TX11, 19, rfl⟩
theorem mc_X12_image : Cond.code yX12_image cX12_image 1 (some .int) ∈ tb := tb_of (in_t6 _ (List.mem_of_getElem? (i := 237) rfl)) rfl
theorem mp_X12_image : yX12_image.cls ≠ "java/lang/invoke/MethodHandle" ∧ yX12_image.cls ≠ "java/lang/invoke/VarHandle" ∧ (parseMethodDescriptor yX12_image.desc).map (fun d => d.parameters.length) = some 0 := ⟨by decide +kernel, by decide +kernel, by decide +kernel⟩
theorem mn_X12_image : Cond.instanceMethod yX12_image ∈ tb := tb_of (in_t6 _ (List.mem_of_getElem? (i := 235) rfl)) rfl
theorem sl_X12_image : Cond.selects yX12_image.cls yX12_image yX12_image ∈ tb := tb_of (in_t6 _ (List.mem_of_getElem? (i := 236) rfl)) rfl
theorem cv_L_102 : CV RL 102 yX12_image cX12_image 1 (some .int) 0 12 := ⟨⟨mc_X12_image, mi_X12, mp_X12_image, Or.inl (tb_of (in_t6 _ (List.mem_of_getElem? (i := 234) rfl)) rfl)⟩, mn_X12_image, sl_X12_image, by decide, TX12, 73, rfl⟩
theorem mc_X11_undo : Cond.code yX11_undo cX11_undo 1 (some .int) ∈ tb := tb_of (in_t4 _ (List.mem_of_getElem? (i := 151) rfl)) rfl
theorem mp_X11_undo : yX11_undo.cls ≠ "java/lang/invoke/MethodHandle" ∧ yX11_undo.cls ≠ "java/lang/invoke/VarHandle" ∧ (parseMethodDescriptor yX11_undo.desc).map (fun d => d.parameters.length) = some 0 := ⟨by decide +kernel, by decide +kernel, by decide +kernel⟩
theorem mn_X11_undo : Cond.instanceMethod yX11_undo ∈ tb := tb_of (in_t4 _ (List.mem_of_getElem? (i := 149) rfl)) rfl
theorem sl_X11_undo : Cond.selects yX11_undo.cls yX11_undo yX11_undo ∈ tb := tb_of (in_t4 _ (List.mem_of_getElem? (i := 150) rfl)) rfl
theorem cv_L_103 : CV RL 103 yX11_undo cX11_undo 1 (some .int) 0 11 := ⟨⟨mc_X11_undo, mi_X11, mp_X11_undo, Or.inl (tb_of (in_t4 _ (List.mem_of_getElem? (i := 148) rfl)) rfl)⟩, mn_X11_undo, sl_X11_undo, by decide, TX11, 19, rfl⟩
theorem mc_X12_undo : Cond.code yX12_undo cX12_undo 1 (some .int) ∈ tb := tb_of (in_t7 _ (List.mem_of_getElem? (i := 5) rfl)) rfl
theorem mp_X12_undo : yX12_undo.cls ≠ "java/lang/invoke/MethodHandle" ∧ yX12_undo.cls ≠ "java/lang/invoke/VarHandle" ∧ (parseMethodDescriptor yX12_undo.desc).map (fun d => d.parameters.length) = some 0 := ⟨by decide +kernel, by decide +kernel, by decide +kernel⟩
theorem mn_X12_undo : Cond.instanceMethod yX12_undo ∈ tb := tb_of (in_t7 _ (List.mem_of_getElem? (i := 3) rfl)) rfl
theorem sl_X12_undo : Cond.selects yX12_undo.cls yX12_undo yX12_undo ∈ tb := tb_of (in_t7 _ (List.mem_of_getElem? (i := 4) rfl)) rfl
theorem cv_L_106 : CV RL 106 yX12_undo cX12_undo 1 (some .int) 0 12 := ⟨⟨mc_X12_undo, mi_X12, mp_X12_undo, Or.inl (tb_of (in_t7 _ (List.mem_of_getElem? (i := 2) rfl)) rfl)⟩, mn_X12_undo, sl_X12_undo, by decide, TX12, 73, rfl⟩
theorem mc_X11_act : Cond.code yX11_act cX11_act 5 (some .int) ∈ tb := tb_of (in_t4 _ (List.mem_of_getElem? (i := 155) rfl)) rfl
theorem mp_X11_act : yX11_act.cls ≠ "java/lang/invoke/MethodHandle" ∧ yX11_act.cls ≠ "java/lang/invoke/VarHandle" ∧ (parseMethodDescriptor yX11_act.desc).map (fun d => d.parameters.length) = some 3 := ⟨by decide +kernel, by decide +kernel, by decide +kernel⟩
theorem mn_X11_act : Cond.instanceMethod yX11_act ∈ tb := tb_of (in_t4 _ (List.mem_of_getElem? (i := 153) rfl)) rfl
theorem sl_X11_act : Cond.selects yX11_act.cls yX11_act yX11_act ∈ tb := tb_of (in_t4 _ (List.mem_of_getElem? (i := 154) rfl)) rfl
theorem cv_L_107 : CV RL 107 yX11_act cX11_act 5 (some .int) 3 11 := ⟨⟨mc_X11_act, mi_X11, mp_X11_act, Or.inl (tb_of (in_t4 _ (List.mem_of_getElem? (i := 152) rfl)) rfl)⟩, mn_X11_act, sl_X11_act, by decide, TX11, 19, rfl⟩
theorem mc_X12_act : Cond.code yX12_act cX12_act 4 (some .int) ∈ tb := tb_of (in_t7 _ (List.mem_of_getElem? (i := 9) rfl)) rfl
theorem mp_X12_act : yX12_act.cls ≠ "java/lang/invoke/MethodHandle" ∧ yX12_act.cls ≠ "java/lang/invoke/VarHandle" ∧ (parseMethodDescriptor yX12_act.desc).map (fun d => d.parameters.length) = some 3 := ⟨by decide +kernel, by decide +kernel, by decide +kernel⟩
theorem mn_X12_act : Cond.instanceMethod yX12_act ∈ tb := tb_of (in_t7 _ (List.mem_of_getElem? (i := 7) rfl)) rfl
theorem sl_X12_act : Cond.selects yX12_act.cls yX12_act yX12_act ∈ tb := tb_of (in_t7 _ (List.mem_of_getElem? (i := 8) rfl)) rfl
theorem cv_L_110 : CV RL 110 yX12_act cX12_act 4 (some .int) 3 12 := ⟨⟨mc_X12_act, mi_X12, mp_X12_act, Or.inl (tb_of (in_t7 _ (List.mem_of_getElem? (i := 6) rfl)) rfl)⟩, mn_X12_act, sl_X12_act, by decide, TX12, 73, rfl⟩
theorem mc_X11_trace : Cond.code yX11_trace cX11_trace 2 (some .int) ∈ tb := tb_of (in_t4 _ (List.mem_of_getElem? (i := 174) rfl)) rfl
theorem mp_X11_trace : yX11_trace.cls ≠ "java/lang/invoke/MethodHandle" ∧ yX11_trace.cls ≠ "java/lang/invoke/VarHandle" ∧ (parseMethodDescriptor yX11_trace.desc).map (fun d => d.parameters.length) = some 1 := ⟨by decide +kernel, by decide +kernel, by decide +kernel⟩
theorem mn_X11_trace : Cond.instanceMethod yX11_trace ∈ tb := tb_of (in_t4 _ (List.mem_of_getElem? (i := 172) rfl)) rfl
theorem sl_X11_trace : Cond.selects yX11_trace.cls yX11_trace yX11_trace ∈ tb := tb_of (in_t4 _ (List.mem_of_getElem? (i := 173) rfl)) rfl
theorem cv_L_111 : CV RL 111 yX11_trace cX11_trace 2 (some .int) 1 11 := ⟨⟨mc_X11_trace, mi_X11, mp_X11_trace, Or.inl (tb_of (in_t4 _ (List.mem_of_getElem? (i := 171) rfl)) rfl)⟩, mn_X11_trace, sl_X11_trace, by decide, TX11, 19, rfl⟩
theorem mc_X12_trace : Cond.code yX12_trace cX12_trace 2 (some .int) ∈ tb := tb_of (in_t7 _ (List.mem_of_getElem? (i := 49) rfl)) rfl
theorem mp_X12_trace : yX12_trace.cls ≠ "java/lang/invoke/MethodHandle" ∧ yX12_trace.cls ≠ "java/lang/invoke/VarHandle" ∧ (parseMethodDescriptor yX12_trace.desc).map (fun d => d.parameters.length) = some 1 := ⟨by decide +kernel, by decide +kernel, by decide +kernel⟩
theorem mn_X12_trace : Cond.instanceMethod yX12_trace ∈ tb := tb_of (in_t7 _ (List.mem_of_getElem? (i := 47) rfl)) rfl
theorem sl_X12_trace : Cond.selects yX12_trace.cls yX12_trace yX12_trace ∈ tb := tb_of (in_t7 _ (List.mem_of_getElem? (i := 48) rfl)) rfl
theorem cv_L_114 : CV RL 114 yX12_trace cX12_trace 2 (some .int) 1 12 := ⟨⟨mc_X12_trace, mi_X12, mp_X12_trace, Or.inl (tb_of (in_t7 _ (List.mem_of_getElem? (i := 46) rfl)) rfl)⟩, mn_X12_trace, sl_X12_trace, by decide, TX12, 73, rfl⟩
theorem mc_X11_taken : Cond.code yX11_taken cX11_taken 4 (some .int) ∈ tb := tb_of (in_t4 _ (List.mem_of_getElem? (i := 178) rfl)) rfl
theorem mp_X11_taken : yX11_taken.cls ≠ "java/lang/invoke/MethodHandle" ∧ yX11_taken.cls ≠ "java/lang/invoke/VarHandle" ∧ (parseMethodDescriptor yX11_taken.desc).map (fun d => d.parameters.length) = some 2 := ⟨by decide +kernel, by decide +kernel, by decide +kernel⟩
theorem mn_X11_taken : Cond.instanceMethod yX11_taken ∈ tb := tb_of (in_t4 _ (List.mem_of_getElem? (i := 176) rfl)) rfl
theorem sl_X11_taken : Cond.selects yX11_taken.cls yX11_taken yX11_taken ∈ tb := tb_of (in_t4 _ (List.mem_of_getElem? (i := 177) rfl)) rfl
theorem cv_L_115 : CV RL 115 yX11_taken cX11_taken 4 (some .int) 2 11 := ⟨⟨mc_X11_taken, mi_X11, mp_X11_taken, Or.inl (tb_of (in_t4 _ (List.mem_of_getElem? (i := 175) rfl)) rfl)⟩, mn_X11_taken, sl_X11_taken, by decide, TX11, 19, rfl⟩
theorem mc_X12_taken : Cond.code yX12_taken cX12_taken 4 (some .int) ∈ tb := tb_of (in_t7 _ (List.mem_of_getElem? (i := 53) rfl)) rfl
theorem mp_X12_taken : yX12_taken.cls ≠ "java/lang/invoke/MethodHandle" ∧ yX12_taken.cls ≠ "java/lang/invoke/VarHandle" ∧ (parseMethodDescriptor yX12_taken.desc).map (fun d => d.parameters.length) = some 2 := ⟨by decide +kernel, by decide +kernel, by decide +kernel⟩
theorem mn_X12_taken : Cond.instanceMethod yX12_taken ∈ tb := tb_of (in_t7 _ (List.mem_of_getElem? (i := 51) rfl)) rfl
theorem sl_X12_taken : Cond.selects yX12_taken.cls yX12_taken yX12_taken ∈ tb := tb_of (in_t7 _ (List.mem_of_getElem? (i := 52) rfl)) rfl
theorem cv_L_118 : CV RL 118 yX12_taken cX12_taken 4 (some .int) 2 12 := ⟨⟨mc_X12_taken, mi_X12, mp_X12_taken, Or.inl (tb_of (in_t7 _ (List.mem_of_getElem? (i := 50) rfl)) rfl)⟩, mn_X12_taken, sl_X12_taken, by decide, TX12, 73, rfl⟩
theorem mc_X11_count : Cond.code yX11_count cX11_count 2 (some .int) ∈ tb := tb_of (in_t4 _ (List.mem_of_getElem? (i := 186) rfl)) rfl
theorem mp_X11_count : yX11_count.cls ≠ "java/lang/invoke/MethodHandle" ∧ yX11_count.cls ≠ "java/lang/invoke/VarHandle" ∧ (parseMethodDescriptor yX11_count.desc).map (fun d => d.parameters.length) = some 1 := ⟨by decide +kernel, by decide +kernel, by decide +kernel⟩
theorem mn_X11_count : Cond.instanceMethod yX11_count ∈ tb := tb_of (in_t4 _ (List.mem_of_getElem? (i := 184) rfl)) rfl
theorem sl_X11_count : Cond.selects yX11_count.cls yX11_count yX11_count ∈ tb := tb_of (in_t4 _ (List.mem_of_getElem? (i := 185) rfl)) rfl
theorem cv_L_119 : CV RL 119 yX11_count cX11_count 2 (some .int) 1 11 := ⟨⟨mc_X11_count, mi_X11, mp_X11_count, Or.inl (tb_of (in_t4 _ (List.mem_of_getElem? (i := 183) rfl)) rfl)⟩, mn_X11_count, sl_X11_count, by decide, TX11, 19, rfl⟩
theorem mc_X12_count : Cond.code yX12_count cX12_count 2 (some .int) ∈ tb := tb_of (in_t7 _ (List.mem_of_getElem? (i := 57) rfl)) rfl
theorem mp_X12_count : yX12_count.cls ≠ "java/lang/invoke/MethodHandle" ∧ yX12_count.cls ≠ "java/lang/invoke/VarHandle" ∧ (parseMethodDescriptor yX12_count.desc).map (fun d => d.parameters.length) = some 1 := ⟨by decide +kernel, by decide +kernel, by decide +kernel⟩
theorem mn_X12_count : Cond.instanceMethod yX12_count ∈ tb := tb_of (in_t7 _ (List.mem_of_getElem? (i := 55) rfl)) rfl
theorem sl_X12_count : Cond.selects yX12_count.cls yX12_count yX12_count ∈ tb := tb_of (in_t7 _ (List.mem_of_getElem? (i := 56) rfl)) rfl
theorem cv_L_122 : CV RL 122 yX12_count cX12_count 2 (some .int) 1 12 := ⟨⟨mc_X12_count, mi_X12, mp_X12_count, Or.inl (tb_of (in_t7 _ (List.mem_of_getElem? (i := 54) rfl)) rfl)⟩, mn_X12_count, sl_X12_count, by decide, TX12, 73, rfl⟩
theorem mc_X11_tape : Cond.code yX11_tape cX11_tape 5 (some .int) ∈ tb := tb_of (in_t4 _ (List.mem_of_getElem? (i := 190) rfl)) rfl
theorem mp_X11_tape : yX11_tape.cls ≠ "java/lang/invoke/MethodHandle" ∧ yX11_tape.cls ≠ "java/lang/invoke/VarHandle" ∧ (parseMethodDescriptor yX11_tape.desc).map (fun d => d.parameters.length) = some 3 := ⟨by decide +kernel, by decide +kernel, by decide +kernel⟩
theorem mn_X11_tape : Cond.instanceMethod yX11_tape ∈ tb := tb_of (in_t4 _ (List.mem_of_getElem? (i := 188) rfl)) rfl
theorem sl_X11_tape : Cond.selects yX11_tape.cls yX11_tape yX11_tape ∈ tb := tb_of (in_t4 _ (List.mem_of_getElem? (i := 189) rfl)) rfl
theorem cv_L_123 : CV RL 123 yX11_tape cX11_tape 5 (some .int) 3 11 := ⟨⟨mc_X11_tape, mi_X11, mp_X11_tape, Or.inl (tb_of (in_t4 _ (List.mem_of_getElem? (i := 187) rfl)) rfl)⟩, mn_X11_tape, sl_X11_tape, by decide, TX11, 19, rfl⟩
theorem mc_X12_tape : Cond.code yX12_tape cX12_tape 5 (some .int) ∈ tb := tb_of (in_t7 _ (List.mem_of_getElem? (i := 61) rfl)) rfl
theorem mp_X12_tape : yX12_tape.cls ≠ "java/lang/invoke/MethodHandle" ∧ yX12_tape.cls ≠ "java/lang/invoke/VarHandle" ∧ (parseMethodDescriptor yX12_tape.desc).map (fun d => d.parameters.length) = some 3 := ⟨by decide +kernel, by decide +kernel, by decide +kernel⟩
theorem mn_X12_tape : Cond.instanceMethod yX12_tape ∈ tb := tb_of (in_t7 _ (List.mem_of_getElem? (i := 59) rfl)) rfl
theorem sl_X12_tape : Cond.selects yX12_tape.cls yX12_tape yX12_tape ∈ tb := tb_of (in_t7 _ (List.mem_of_getElem? (i := 60) rfl)) rfl
theorem cv_L_126 : CV RL 126 yX12_tape cX12_tape 5 (some .int) 3 12 := ⟨⟨mc_X12_tape, mi_X12, mp_X12_tape, Or.inl (tb_of (in_t7 _ (List.mem_of_getElem? (i := 58) rfl)) rfl)⟩, mn_X12_tape, sl_X12_tape, by decide, TX12, 73, rfl⟩
theorem ct_L_127 : Cond.constantLong RL 127 (4294967295) ∈ tb := tb_of (in_t7 _ (List.mem_of_getElem? (i := 78) rfl)) rfl
theorem mc_X11_item : Cond.code yX11_item cX11_item 6 (some .int) ∈ tb := tb_of (in_t4 _ (List.mem_of_getElem? (i := 198) rfl)) rfl
theorem mp_X11_item : yX11_item.cls ≠ "java/lang/invoke/MethodHandle" ∧ yX11_item.cls ≠ "java/lang/invoke/VarHandle" ∧ (parseMethodDescriptor yX11_item.desc).map (fun d => d.parameters.length) = some 3 := ⟨by decide +kernel, by decide +kernel, by decide +kernel⟩
theorem mn_X11_item : Cond.instanceMethod yX11_item ∈ tb := tb_of (in_t4 _ (List.mem_of_getElem? (i := 196) rfl)) rfl
theorem sl_X11_item : Cond.selects yX11_item.cls yX11_item yX11_item ∈ tb := tb_of (in_t4 _ (List.mem_of_getElem? (i := 197) rfl)) rfl
theorem cv_L_129 : CV RL 129 yX11_item cX11_item 6 (some .int) 3 11 := ⟨⟨mc_X11_item, mi_X11, mp_X11_item, Or.inl (tb_of (in_t4 _ (List.mem_of_getElem? (i := 195) rfl)) rfl)⟩, mn_X11_item, sl_X11_item, by decide, TX11, 19, rfl⟩
theorem mc_X12_item : Cond.code yX12_item cX12_item 5 (some .int) ∈ tb := tb_of (in_t7 _ (List.mem_of_getElem? (i := 65) rfl)) rfl
theorem mp_X12_item : yX12_item.cls ≠ "java/lang/invoke/MethodHandle" ∧ yX12_item.cls ≠ "java/lang/invoke/VarHandle" ∧ (parseMethodDescriptor yX12_item.desc).map (fun d => d.parameters.length) = some 3 := ⟨by decide +kernel, by decide +kernel, by decide +kernel⟩
theorem mn_X12_item : Cond.instanceMethod yX12_item ∈ tb := tb_of (in_t7 _ (List.mem_of_getElem? (i := 63) rfl)) rfl
theorem sl_X12_item : Cond.selects yX12_item.cls yX12_item yX12_item ∈ tb := tb_of (in_t7 _ (List.mem_of_getElem? (i := 64) rfl)) rfl
theorem cv_L_133 : CV RL 133 yX12_item cX12_item 5 (some .int) 3 12 := ⟨⟨mc_X12_item, mi_X12, mp_X12_item, Or.inl (tb_of (in_t7 _ (List.mem_of_getElem? (i := 62) rfl)) rfl)⟩, mn_X12_item, sl_X12_item, by decide, TX12, 73, rfl⟩
theorem mc_X11_read : Cond.code yX11_read cX11_read 4 (some .long) ∈ tb := tb_of (in_t4 _ (List.mem_of_getElem? (i := 206) rfl)) rfl
theorem mp_X11_read : yX11_read.cls ≠ "java/lang/invoke/MethodHandle" ∧ yX11_read.cls ≠ "java/lang/invoke/VarHandle" ∧ (parseMethodDescriptor yX11_read.desc).map (fun d => d.parameters.length) = some 2 := ⟨by decide +kernel, by decide +kernel, by decide +kernel⟩
theorem mn_X11_read : Cond.instanceMethod yX11_read ∈ tb := tb_of (in_t4 _ (List.mem_of_getElem? (i := 204) rfl)) rfl
theorem sl_X11_read : Cond.selects yX11_read.cls yX11_read yX11_read ∈ tb := tb_of (in_t4 _ (List.mem_of_getElem? (i := 205) rfl)) rfl
theorem cv_L_134 : CV RL 134 yX11_read cX11_read 4 (some .long) 2 11 := ⟨⟨mc_X11_read, mi_X11, mp_X11_read, Or.inl (tb_of (in_t4 _ (List.mem_of_getElem? (i := 203) rfl)) rfl)⟩, mn_X11_read, sl_X11_read, by decide, TX11, 19, rfl⟩
theorem mc_X12_read : Cond.code yX12_read cX12_read 3 (some .long) ∈ tb := tb_of (in_t7 _ (List.mem_of_getElem? (i := 73) rfl)) rfl
theorem mp_X12_read : yX12_read.cls ≠ "java/lang/invoke/MethodHandle" ∧ yX12_read.cls ≠ "java/lang/invoke/VarHandle" ∧ (parseMethodDescriptor yX12_read.desc).map (fun d => d.parameters.length) = some 2 := ⟨by decide +kernel, by decide +kernel, by decide +kernel⟩
theorem mn_X12_read : Cond.instanceMethod yX12_read ∈ tb := tb_of (in_t7 _ (List.mem_of_getElem? (i := 71) rfl)) rfl
theorem sl_X12_read : Cond.selects yX12_read.cls yX12_read yX12_read ∈ tb := tb_of (in_t7 _ (List.mem_of_getElem? (i := 72) rfl)) rfl
theorem cv_L_137 : CV RL 137 yX12_read cX12_read 3 (some .long) 2 12 := ⟨⟨mc_X12_read, mi_X12, mp_X12_read, Or.inl (tb_of (in_t7 _ (List.mem_of_getElem? (i := 70) rfl)) rfl)⟩, mn_X12_read, sl_X12_read, by decide, TX12, 73, rfl⟩
theorem mc_X11_shift : Cond.code yX11_shift cX11_shift 8 (some .int) ∈ tb := tb_of (in_t4 _ (List.mem_of_getElem? (i := 210) rfl)) rfl
theorem mp_X11_shift : yX11_shift.cls ≠ "java/lang/invoke/MethodHandle" ∧ yX11_shift.cls ≠ "java/lang/invoke/VarHandle" ∧ (parseMethodDescriptor yX11_shift.desc).map (fun d => d.parameters.length) = some 5 := ⟨by decide +kernel, by decide +kernel, by decide +kernel⟩
theorem mn_X11_shift : Cond.instanceMethod yX11_shift ∈ tb := tb_of (in_t4 _ (List.mem_of_getElem? (i := 208) rfl)) rfl
theorem sl_X11_shift : Cond.selects yX11_shift.cls yX11_shift yX11_shift ∈ tb := tb_of (in_t4 _ (List.mem_of_getElem? (i := 209) rfl)) rfl
theorem cv_L_138 : CV RL 138 yX11_shift cX11_shift 8 (some .int) 5 11 := ⟨⟨mc_X11_shift, mi_X11, mp_X11_shift, Or.inl (tb_of (in_t4 _ (List.mem_of_getElem? (i := 207) rfl)) rfl)⟩, mn_X11_shift, sl_X11_shift, by decide, TX11, 19, rfl⟩
theorem mc_X12_shift : Cond.code yX12_shift cX12_shift 7 (some .int) ∈ tb := tb_of (in_t7 _ (List.mem_of_getElem? (i := 77) rfl)) rfl
theorem mp_X12_shift : yX12_shift.cls ≠ "java/lang/invoke/MethodHandle" ∧ yX12_shift.cls ≠ "java/lang/invoke/VarHandle" ∧ (parseMethodDescriptor yX12_shift.desc).map (fun d => d.parameters.length) = some 5 := ⟨by decide +kernel, by decide +kernel, by decide +kernel⟩
theorem mn_X12_shift : Cond.instanceMethod yX12_shift ∈ tb := tb_of (in_t7 _ (List.mem_of_getElem? (i := 75) rfl)) rfl
theorem sl_X12_shift : Cond.selects yX12_shift.cls yX12_shift yX12_shift ∈ tb := tb_of (in_t7 _ (List.mem_of_getElem? (i := 76) rfl)) rfl
theorem cv_L_142 : CV RL 142 yX12_shift cX12_shift 7 (some .int) 5 12 := ⟨⟨mc_X12_shift, mi_X12, mp_X12_shift, Or.inl (tb_of (in_t7 _ (List.mem_of_getElem? (i := 74) rfl)) rfl)⟩, mn_X12_shift, sl_X12_shift, by decide, TX12, 73, rfl⟩
theorem nc_L_7 : NC RL 7 11 19 := ⟨RX11, TX11, rfl, rfl, by decide, tyX11_ok, fun j hj => by rcases (show j = 0 ∨ j = 1 ∨ j = 2 ∨ j = 3 ∨ j = 4 ∨ j = 5 ∨ j = 6 ∨ j = 7 ∨ j = 8 ∨ j = 9 ∨ j = 10 ∨ j = 11 ∨ j = 12 ∨ j = 13 ∨ j = 14 ∨ j = 15 ∨ j = 16 ∨ j = 17 ∨ j = 18 by omega) with rfl | rfl | rfl | rfl | rfl | rfl | rfl | rfl | rfl | rfl | rfl | rfl | rfl | rfl | rfl | rfl | rfl | rfl | rfl <;> rfl, inX11, tb_of (in_t1 _ (List.mem_of_getElem? (i := 20) rfl)) rfl, tb_of (in_t1 _ (List.mem_of_getElem? (i := 21) rfl)) rfl, tb_of (in_t1 _ (List.mem_of_getElem? (i := 1) rfl)) rfl⟩
theorem mc_X11_init : Cond.code yX11_init cX11_init 2 none ∈ tb := tb_of (in_t1 _ (List.mem_of_getElem? (i := 24) rfl)) rfl
theorem mp_X11_init : yX11_init.cls ≠ "java/lang/invoke/MethodHandle" ∧ yX11_init.cls ≠ "java/lang/invoke/VarHandle" ∧ (parseMethodDescriptor yX11_init.desc).map (fun d => d.parameters.length) = some 0 := ⟨by decide +kernel, by decide +kernel, by decide +kernel⟩
theorem mn_X11_init : Cond.instanceMethod yX11_init ∈ tb := tb_of (in_t1 _ (List.mem_of_getElem? (i := 23) rfl)) rfl
theorem ci_L_9 : CI RL 9 yX11_init cX11_init 2 0 := ⟨⟨mc_X11_init, mi_X11, mp_X11_init, Or.inl (tb_of (in_t1 _ (List.mem_of_getElem? (i := 22) rfl)) rfl)⟩, mn_X11_init, rfl⟩
theorem nc_L_10 : NC RL 10 12 73 := ⟨RX12, TX12, rfl, rfl, by decide, tyX12_ok, fun j hj => by rcases (show j = 0 ∨ j = 1 ∨ j = 2 ∨ j = 3 ∨ j = 4 ∨ j = 5 ∨ j = 6 ∨ j = 7 ∨ j = 8 ∨ j = 9 ∨ j = 10 ∨ j = 11 ∨ j = 12 ∨ j = 13 ∨ j = 14 ∨ j = 15 ∨ j = 16 ∨ j = 17 ∨ j = 18 ∨ j = 19 ∨ j = 20 ∨ j = 21 ∨ j = 22 ∨ j = 23 ∨ j = 24 ∨ j = 25 ∨ j = 26 ∨ j = 27 ∨ j = 28 ∨ j = 29 ∨ j = 30 ∨ j = 31 ∨ j = 32 ∨ j = 33 ∨ j = 34 ∨ j = 35 ∨ j = 36 ∨ j = 37 ∨ j = 38 ∨ j = 39 ∨ j = 40 ∨ j = 41 ∨ j = 42 ∨ j = 43 ∨ j = 44 ∨ j = 45 ∨ j = 46 ∨ j = 47 ∨ j = 48 ∨ j = 49 ∨ j = 50 ∨ j = 51 ∨ j = 52 ∨ j = 53 ∨ j = 54 ∨ j = 55 ∨ j = 56 ∨ j = 57 ∨ j = 58 ∨ j = 59 ∨ j = 60 ∨ j = 61 ∨ j = 62 ∨ j = 63 ∨ j = 64 ∨ j = 65 ∨ j = 66 ∨ j = 67 ∨ j = 68 ∨ j = 69 ∨ j = 70 ∨ j = 71 ∨ j = 72 by omega) with rfl | rfl | rfl | rfl | rfl | rfl | rfl | rfl | rfl | rfl | rfl | rfl | rfl | rfl | rfl | rfl | rfl | rfl | rfl | rfl | rfl | rfl | rfl | rfl | rfl | rfl | rfl | rfl | rfl | rfl | rfl | rfl | rfl | rfl | rfl | rfl | rfl | rfl | rfl | rfl | rfl | rfl | rfl | rfl | rfl | rfl | rfl | rfl | rfl | rfl | rfl | rfl | rfl | rfl | rfl | rfl | rfl | rfl | rfl | rfl | rfl | rfl | rfl | rfl | rfl | rfl | rfl | rfl | rfl | rfl | rfl | rfl | rfl <;> rfl, inX12, tb_of (in_t4 _ (List.mem_of_getElem? (i := 218) rfl)) rfl, tb_of (in_t4 _ (List.mem_of_getElem? (i := 219) rfl)) rfl, tb_of (in_t1 _ (List.mem_of_getElem? (i := 12) rfl)) rfl⟩
theorem mc_X12_init : Cond.code yX12_init cX12_init 1 none ∈ tb := tb_of (in_t4 _ (List.mem_of_getElem? (i := 222) rfl)) rfl
theorem mp_X12_init : yX12_init.cls ≠ "java/lang/invoke/MethodHandle" ∧ yX12_init.cls ≠ "java/lang/invoke/VarHandle" ∧ (parseMethodDescriptor yX12_init.desc).map (fun d => d.parameters.length) = some 0 := ⟨by decide +kernel, by decide +kernel, by decide +kernel⟩
theorem mn_X12_init : Cond.instanceMethod yX12_init ∈ tb := tb_of (in_t4 _ (List.mem_of_getElem? (i := 221) rfl)) rfl
theorem ci_L_12 : CI RL 12 yX12_init cX12_init 1 0 := ⟨⟨mc_X12_init, mi_X12, mp_X12_init, Or.inl (tb_of (in_t4 _ (List.mem_of_getElem? (i := 220) rfl)) rfl)⟩, mn_X12_init, rfl⟩
