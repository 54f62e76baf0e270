/-! THE JDK'S STRING METHODS over the class' String constants; System.arraycopy of longs -/
theorem dJ0_length_8abf5_0 : decode cJ0_length_8abf5 0 = .ok (.aload_n 0, 1) := by decide +kernel
theorem dJ0_length_8abf5_1 : decode cJ0_length_8abf5 1 = .ok (.getfield 9, 3) := by decide +kernel
theorem dJ0_length_8abf5_4 : decode cJ0_length_8abf5 4 = .ok (.arraylength, 1) := by decide +kernel
theorem dJ0_length_8abf5_5 : decode cJ0_length_8abf5 5 = .ok (.aload_n 0, 1) := by decide +kernel
theorem dJ0_length_8abf5_6 : decode cJ0_length_8abf5 6 = .ok (.invokevirtual 335, 3) := by decide +kernel
theorem dJ0_length_8abf5_9 : decode cJ0_length_8abf5 9 = .ok (.ishr, 1) := by decide +kernel
theorem dJ0_length_8abf5_10 : decode cJ0_length_8abf5 10 = .ok (.ireturn, 1) := by decide +kernel
theorem dJ0_charAt_5068e_0 : decode cJ0_charAt_5068e 0 = .ok (.aload_n 0, 1) := by decide +kernel
theorem dJ0_charAt_5068e_1 : decode cJ0_charAt_5068e 1 = .ok (.invokevirtual 492, 3) := by decide +kernel
theorem dJ0_charAt_5068e_4 : decode cJ0_charAt_5068e 4 = .ok (.ifCond .eq 12, 3) := by decide +kernel
theorem dJ0_charAt_5068e_7 : decode cJ0_charAt_5068e 7 = .ok (.aload_n 0, 1) := by decide +kernel
theorem dJ0_charAt_5068e_8 : decode cJ0_charAt_5068e 8 = .ok (.getfield 9, 3) := by decide +kernel
theorem dJ0_charAt_5068e_11 : decode cJ0_charAt_5068e 11 = .ok (.iload_n 1, 1) := by decide +kernel
theorem dJ0_charAt_5068e_12 : decode cJ0_charAt_5068e 12 = .ok (.invokestatic 495, 3) := by decide +kernel
theorem dJ0_charAt_5068e_15 : decode cJ0_charAt_5068e 15 = .ok (.ireturn, 1) := by decide +kernel
theorem dJ0_charAt_5068e_16 : decode cJ0_charAt_5068e 16 = .ok (.aload_n 0, 1) := by decide +kernel
theorem dJ0_charAt_5068e_17 : decode cJ0_charAt_5068e 17 = .ok (.getfield 9, 3) := by decide +kernel
theorem dJ0_charAt_5068e_20 : decode cJ0_charAt_5068e 20 = .ok (.iload_n 1, 1) := by decide +kernel
theorem dJ0_charAt_5068e_21 : decode cJ0_charAt_5068e 21 = .ok (.invokestatic 498, 3) := by decide +kernel
theorem dJ0_charAt_5068e_24 : decode cJ0_charAt_5068e 24 = .ok (.ireturn, 1) := by decide +kernel
theorem dJ0_coder_7d493_0 : decode cJ0_coder_7d493 0 = .ok (.getstatic 38, 3) := by decide +kernel
theorem dJ0_coder_7d493_3 : decode cJ0_coder_7d493 3 = .ok (.ifCond .eq 10, 3) := by decide +kernel
theorem dJ0_coder_7d493_6 : decode cJ0_coder_7d493 6 = .ok (.aload_n 0, 1) := by decide +kernel
theorem dJ0_coder_7d493_7 : decode cJ0_coder_7d493 7 = .ok (.getfield 15, 3) := by decide +kernel
theorem dJ0_coder_7d493_10 : decode cJ0_coder_7d493 10 = .ok (.goto 4, 3) := by decide +kernel
theorem dJ0_coder_7d493_13 : decode cJ0_coder_7d493 13 = .ok (.iconst 1, 1) := by decide +kernel
theorem dJ0_coder_7d493_14 : decode cJ0_coder_7d493 14 = .ok (.ireturn, 1) := by decide +kernel
theorem dJ0_isLatin1_aae02_0 : decode cJ0_isLatin1_aae02 0 = .ok (.getstatic 38, 3) := by decide +kernel
theorem dJ0_isLatin1_aae02_3 : decode cJ0_isLatin1_aae02 3 = .ok (.ifCond .eq 14, 3) := by decide +kernel
theorem dJ0_isLatin1_aae02_6 : decode cJ0_isLatin1_aae02 6 = .ok (.aload_n 0, 1) := by decide +kernel
theorem dJ0_isLatin1_aae02_7 : decode cJ0_isLatin1_aae02 7 = .ok (.getfield 15, 3) := by decide +kernel
theorem dJ0_isLatin1_aae02_10 : decode cJ0_isLatin1_aae02 10 = .ok (.ifCond .ne 7, 3) := by decide +kernel
theorem dJ0_isLatin1_aae02_13 : decode cJ0_isLatin1_aae02 13 = .ok (.iconst 1, 1) := by decide +kernel
theorem dJ0_isLatin1_aae02_14 : decode cJ0_isLatin1_aae02 14 = .ok (.goto 4, 3) := by decide +kernel
theorem dJ0_isLatin1_aae02_17 : decode cJ0_isLatin1_aae02 17 = .ok (.iconst 0, 1) := by decide +kernel
theorem dJ0_isLatin1_aae02_18 : decode cJ0_isLatin1_aae02 18 = .ok (.ireturn, 1) := by decide +kernel
theorem dJ0_checkIndex_df160_0 : decode cJ0_checkIndex_df160 0 = .ok (.iload_n 0, 1) := by decide +kernel
theorem dJ0_checkIndex_df160_1 : decode cJ0_checkIndex_df160 1 = .ok (.iload_n 1, 1) := by decide +kernel
theorem dJ0_checkIndex_df160_2 : decode cJ0_checkIndex_df160 2 = .ok (.getstatic 1053, 3) := by decide +kernel
theorem dJ0_checkIndex_df160_5 : decode cJ0_checkIndex_df160 5 = .ok (.invokestatic 1059, 3) := by decide +kernel
theorem dJ0_checkIndex_df160_8 : decode cJ0_checkIndex_df160 8 = .ok (.pop, 1) := by decide +kernel
theorem dJ0_checkIndex_df160_9 : decode cJ0_checkIndex_df160 9 = .ok (.return_, 1) := by decide +kernel
theorem dJ1_charAt_3b067_0 : decode cJ1_charAt_3b067 0 = .ok (.iload_n 1, 1) := by decide +kernel
theorem dJ1_charAt_3b067_1 : decode cJ1_charAt_3b067 1 = .ok (.aload_n 0, 1) := by decide +kernel
theorem dJ1_charAt_3b067_2 : decode cJ1_charAt_3b067 2 = .ok (.arraylength, 1) := by decide +kernel
theorem dJ1_charAt_3b067_3 : decode cJ1_charAt_3b067 3 = .ok (.invokestatic 9, 3) := by decide +kernel
theorem dJ1_charAt_3b067_6 : decode cJ1_charAt_3b067 6 = .ok (.aload_n 0, 1) := by decide +kernel
theorem dJ1_charAt_3b067_7 : decode cJ1_charAt_3b067 7 = .ok (.iload_n 1, 1) := by decide +kernel
theorem dJ1_charAt_3b067_8 : decode cJ1_charAt_3b067 8 = .ok (.baload, 1) := by decide +kernel
theorem dJ1_charAt_3b067_9 : decode cJ1_charAt_3b067 9 = .ok (.sipush 255, 3) := by decide +kernel
theorem dJ1_charAt_3b067_12 : decode cJ1_charAt_3b067 12 = .ok (.iand, 1) := by decide +kernel
theorem dJ1_charAt_3b067_13 : decode cJ1_charAt_3b067 13 = .ok (.i2c, 1) := by decide +kernel
theorem dJ1_charAt_3b067_14 : decode cJ1_charAt_3b067 14 = .ok (.ireturn, 1) := by decide +kernel
theorem dJ3_checkIndex_8e157_0 : decode cJ3_checkIndex_8e157 0 = .ok (.iload_n 0, 1) := by decide +kernel
theorem dJ3_checkIndex_8e157_1 : decode cJ3_checkIndex_8e157 1 = .ok (.ifCond .lt 8, 3) := by decide +kernel
theorem dJ3_checkIndex_8e157_4 : decode cJ3_checkIndex_8e157 4 = .ok (.iload_n 0, 1) := by decide +kernel
theorem dJ3_checkIndex_8e157_5 : decode cJ3_checkIndex_8e157 5 = .ok (.iload_n 1, 1) := by decide +kernel
theorem dJ3_checkIndex_8e157_6 : decode cJ3_checkIndex_8e157 6 = .ok (.if_icmp .lt 10, 3) := by decide +kernel
theorem dJ3_checkIndex_8e157_9 : decode cJ3_checkIndex_8e157 9 = .ok (.aload_n 2, 1) := by decide +kernel
theorem dJ3_checkIndex_8e157_10 : decode cJ3_checkIndex_8e157 10 = .ok (.iload_n 0, 1) := by decide +kernel
theorem dJ3_checkIndex_8e157_11 : decode cJ3_checkIndex_8e157 11 = .ok (.iload_n 1, 1) := by decide +kernel
theorem dJ3_checkIndex_8e157_12 : decode cJ3_checkIndex_8e157 12 = .ok (.invokestatic 95, 3) := by decide +kernel
theorem dJ3_checkIndex_8e157_15 : decode cJ3_checkIndex_8e157 15 = .ok (.athrow, 1) := by decide +kernel
theorem dJ3_checkIndex_8e157_16 : decode cJ3_checkIndex_8e157 16 = .ok (.iload_n 0, 1) := by decide +kernel
theorem dJ3_checkIndex_8e157_17 : decode cJ3_checkIndex_8e157 17 = .ok (.ireturn, 1) := by decide +kernel
theorem jq_coder : CA RJ0 335 yJ0_coder_7d493 cJ0_coder_7d493 1 (some .byte) 0 ∧ Cond.instanceMethod yJ0_coder_7d493 ∈ tb ∧ Cond.selects "java/lang/String" yJ0_coder_7d493 yJ0_coder_7d493 ∈ tb := ⟨⟨tb_of (in_t2 _ (List.mem_of_getElem? (i := 204) rfl)) rfl, tb_of (in_t1 _ (List.mem_of_getElem? (i := 13) rfl)) rfl, ⟨by decide +kernel, by decide +kernel, by decide +kernel⟩, Or.inl (tb_of (in_t2 _ (List.mem_of_getElem? (i := 201) rfl)) rfl)⟩, tb_of (in_t2 _ (List.mem_of_getElem? (i := 202) rfl)) rfl, tb_of (in_t2 _ (List.mem_of_getElem? (i := 203) rfl)) rfl⟩
theorem jq_lat : CA RJ0 492 yJ0_isLatin1_aae02 cJ0_isLatin1_aae02 1 (some .boolean) 0 ∧ Cond.instanceMethod yJ0_isLatin1_aae02 ∈ tb ∧ Cond.selects "java/lang/String" yJ0_isLatin1_aae02 yJ0_isLatin1_aae02 ∈ tb := ⟨⟨tb_of (in_t2 _ (List.mem_of_getElem? (i := 214) rfl)) rfl, tb_of (in_t1 _ (List.mem_of_getElem? (i := 13) rfl)) rfl, ⟨by decide +kernel, by decide +kernel, by decide +kernel⟩, Or.inl (tb_of (in_t2 _ (List.mem_of_getElem? (i := 211) rfl)) rfl)⟩, tb_of (in_t2 _ (List.mem_of_getElem? (i := 212) rfl)) rfl, tb_of (in_t2 _ (List.mem_of_getElem? (i := 213) rfl)) rfl⟩
theorem jq_len : CA RX4 62 yJ0_length_8abf5 cJ0_length_8abf5 1 (some .int) 0 ∧ Cond.instanceMethod yJ0_length_8abf5 ∈ tb ∧ Cond.selects "java/lang/String" yJ0_length_8abf5 yJ0_length_8abf5 ∈ tb := ⟨⟨tb_of (in_t2 _ (List.mem_of_getElem? (i := 200) rfl)) rfl, tb_of (in_t1 _ (List.mem_of_getElem? (i := 13) rfl)) rfl, ⟨by decide +kernel, by decide +kernel, by decide +kernel⟩, Or.inl (tb_of (in_t2 _ (List.mem_of_getElem? (i := 197) rfl)) rfl)⟩, tb_of (in_t2 _ (List.mem_of_getElem? (i := 198) rfl)) rfl, tb_of (in_t2 _ (List.mem_of_getElem? (i := 199) rfl)) rfl⟩
theorem jq_chr : CA RX4 66 yJ0_charAt_5068e cJ0_charAt_5068e 2 (some .char) 1 ∧ Cond.instanceMethod yJ0_charAt_5068e ∈ tb ∧ Cond.selects "java/lang/String" yJ0_charAt_5068e yJ0_charAt_5068e ∈ tb := ⟨⟨tb_of (in_t2 _ (List.mem_of_getElem? (i := 210) rfl)) rfl, tb_of (in_t1 _ (List.mem_of_getElem? (i := 13) rfl)) rfl, ⟨by decide +kernel, by decide +kernel, by decide +kernel⟩, Or.inl (tb_of (in_t2 _ (List.mem_of_getElem? (i := 207) rfl)) rfl)⟩, tb_of (in_t2 _ (List.mem_of_getElem? (i := 208) rfl)) rfl, tb_of (in_t2 _ (List.mem_of_getElem? (i := 209) rfl)) rfl⟩
theorem jq_l1 : CS RJ0 495 yJ1_charAt_3b067 cJ1_charAt_3b067 2 (some .char) 2 := ⟨⟨tb_of (in_t2 _ (List.mem_of_getElem? (i := 217) rfl)) rfl, tb_of (in_t1 _ (List.mem_of_getElem? (i := 14) rfl)) rfl, ⟨by decide +kernel, by decide +kernel, by decide +kernel⟩, Or.inl (tb_of (in_t2 _ (List.mem_of_getElem? (i := 215) rfl)) rfl)⟩, tb_of (in_t2 _ (List.mem_of_getElem? (i := 216) rfl)) rfl⟩
theorem jq_ci : CS RJ1 9 yJ0_checkIndex_df160 cJ0_checkIndex_df160 2 none 2 := ⟨⟨tb_of (in_t2 _ (List.mem_of_getElem? (i := 220) rfl)) rfl, tb_of (in_t1 _ (List.mem_of_getElem? (i := 13) rfl)) rfl, ⟨by decide +kernel, by decide +kernel, by decide +kernel⟩, Or.inl (tb_of (in_t2 _ (List.mem_of_getElem? (i := 218) rfl)) rfl)⟩, tb_of (in_t2 _ (List.mem_of_getElem? (i := 219) rfl)) rfl⟩
theorem jq_pc : CS RJ0 1059 yJ3_checkIndex_8e157 cJ3_checkIndex_8e157 3 (some .int) 3 := ⟨⟨tb_of (in_t2 _ (List.mem_of_getElem? (i := 225) rfl)) rfl, tb_of (in_t1 _ (List.mem_of_getElem? (i := 15) rfl)) rfl, ⟨by decide +kernel, by decide +kernel, by decide +kernel⟩, Or.inl (tb_of (in_t2 _ (List.mem_of_getElem? (i := 223) rfl)) rfl)⟩, tb_of (in_t2 _ (List.mem_of_getElem? (i := 224) rfl)) rfl⟩
theorem jf_cs : Cond.fieldLink RJ0 38 "java/lang/String" "COMPACT_STRINGS" "Z" ∈ tb := tb_of (in_t2 _ (List.mem_of_getElem? (i := 205) rfl)) rfl
theorem jf_co : Cond.fieldLink RJ0 15 "java/lang/String" "coder" "B" ∈ tb := tb_of (in_t7 _ (List.mem_of_getElem? (i := 80) rfl)) rfl
theorem jf_va : Cond.fieldLink RJ0 9 "java/lang/String" "value" "[B" ∈ tb := tb_of (in_t7 _ (List.mem_of_getElem? (i := 79) rfl)) rfl
theorem jf_si : Cond.fieldLink RJ0 1053 "jdk/internal/util/Preconditions" "SIOOBE_FORMATTER" "Ljava/util/function/BiFunction;" ∈ tb := tb_of (in_t2 _ (List.mem_of_getElem? (i := 221) rfl)) rfl
theorem cp_w : Cond.methodLink RX11 330 arraycopyName ∈ tb ∧ Cond.native arraycopyName ∈ tb ∧ Cond.static arraycopyName ∈ tb ∧ Cond.initialized "java/lang/System" ∈ tb := ⟨tb_of (in_t4 _ (List.mem_of_getElem? (i := 215) rfl)) rfl, tb_of (in_t4 _ (List.mem_of_getElem? (i := 217) rfl)) rfl, tb_of (in_t4 _ (List.mem_of_getElem? (i := 216) rfl)) rfl, tb_of (in_t1 _ (List.mem_of_getElem? (i := 19) rfl)) rfl⟩
theorem pn_RJ0 : plainName RJ0 = true := by decide +kernel
theorem pn_RJ1 : plainName RJ1 = true := by decide +kernel
theorem pn_RJ3 : plainName RJ3 = true := by decide +kernel
section VJs
variable {D : va_G} {cA : Nat → ClassId} {bs : Nat} {Z : Nat → Nat} {p : Program} {l : Launch} {e : Env} {rm : Room} {s : State} {m : MethodId} {args : Array Value} {below : List Frame} {meth : Method} {c : Code}
variable {cc : ByteArray} {own : String} {nL : Nat} {ret : Option FieldType} {lv : List (Nat × Value)} {K : Sh} {n : Nat} {I : Im} {J : Jm} {R : Rf} {cells slots : Nat} {Q : State → Prop} {pc : Nat} {st : List Value}
theorem v_getCS (C : Cx D cA bs Z p s m args meth c cc own nL ret) {index : Nat} (hlink : Cond.fieldLink own index "java/lang/String" "COMPACT_STRINGS" "Z" ∈ tb) (hd : decode cc pc = .ok (.getstatic index, 3)) (kk : VW D cA bs Z p l e rm s m args below meth c nL lv K n I J R cells slots Q (pc + 3) (.int 1 :: st)) : VW D cA bs Z p l e rm s m args below meth c nL lv K n I J R cells slots Q pc st := by
  intro H locs ls hh hn hS hl
  exact va_gets C.1 C.2.1 C.2.2.2.2.2.2.2.1.2.2.2.2.2.2.1 hS C.2.2.2.2.1 (C.2.2.2.2.2.1 _ hlink) (fun _ h => h) hd (kk H locs ls hh hn hS hl)
theorem v_getSI (C : Cx D cA bs Z p s m args meth c cc own nL ret) {index : Nat} (hlink : Cond.fieldLink own index "jdk/internal/util/Preconditions" "SIOOBE_FORMATTER" "Ljava/util/function/BiFunction;" ∈ tb) (hd : decode cc pc = .ok (.getstatic index, 3)) (kk : ∀ r : Option Nat, VW D cA bs Z p l e rm s m args below meth c nL lv K n I J R cells slots Q (pc + 3) (va_rf r :: st)) : VW D cA bs Z p l e rm s m args below meth c nL lv K n I J R cells slots Q pc st := by
  intro H locs ls hh hn hS hl
  rcases C.2.2.2.2.2.2.2.1.2.2.2.2.2.2.2.1 with h | ⟨t, h⟩
  · exact va_gets C.1 C.2.1 h hS C.2.2.2.2.1 (C.2.2.2.2.2.1 _ hlink) (fun _ h => h) hd (kk none H locs ls hh hn hS hl)
  · exact va_gets C.1 C.2.1 h hS C.2.2.2.2.1 (C.2.2.2.2.2.1 _ hlink) (fun _ h => h) hd (kk (some t) H locs ls hh hn hS hl)
theorem v_getSc (C : Cx D cA bs Z p s m args meth c cc own nL ret) {index i : Nat} (hi : i < 6) (hlink : Cond.fieldLink own index "java/lang/String" "coder" "B" ∈ tb) (hd : decode cc pc = .ok (.getfield index, 3)) (kk : VW D cA bs Z p l e rm s m args below meth c nL lv K n I J R cells slots Q (pc + 3) (.int 0 :: st)) : VW D cA bs Z p l e rm s m args below meth c nL lv K n I J R cells slots Q pc (va_rf (some (Z (10 + i))) :: st) := by
  intro H locs ls hh hn hS hl
  have hv := C.2.2.2.2.2.2.2.1.2.2.2.2.1
  exact vk_getf C.1 C.2.1 (hv.1 i hi).2.1 hS C.2.2.2.2.1 (C.2.2.2.2.2.1 _ hlink) (fun _ h => h) hd (kk H locs ls hh hn hS hl)
theorem v_getSv (C : Cx D cA bs Z p s m args meth c cc own nL ret) {index i : Nat} (hi : i < 6) (hlink : Cond.fieldLink own index "java/lang/String" "value" "[B" ∈ tb) (hd : decode cc pc = .ok (.getfield index, 3)) (kk : VW D cA bs Z p l e rm s m args below meth c nL lv K n I J R cells slots Q (pc + 3) (va_rf (some (Z (20 + i))) :: st)) : VW D cA bs Z p l e rm s m args below meth c nL lv K n I J R cells slots Q pc (va_rf (some (Z (10 + i))) :: st) := by
  intro H locs ls hh hn hS hl
  have hv := C.2.2.2.2.2.2.2.1.2.2.2.2.1
  exact vk_getf C.1 C.2.1 (hv.1 i hi).2.2.1 hS C.2.2.2.2.1 (C.2.2.2.2.2.1 _ hlink) (fun _ h => h) hd (kk H locs ls hh hn hS hl)
theorem v_alenS (C : Cx D cA bs Z p s m args meth c cc own nL ret) {i : Nat} (hi : i < 6) (hd : decode cc pc = .ok (.arraylength, 1)) (kk : VW D cA bs Z p l e rm s m args below meth c nL lv K n I J R cells slots Q (pc + 1) (.int (Int32.ofNat (sLen.getD i 0)) :: st)) : VW D cA bs Z p l e rm s m args below meth c nL lv K n I J R cells slots Q pc (va_rf (some (Z (20 + i))) :: st) := by
  intro H locs ls hh hn hS hl
  obtain ⟨cell, h1, h2, h3, h4, h5, h6, h7⟩ := (C.2.2.2.2.2.2.2.1.2.2.2.2.1.1 i hi).2.2.2
  exact W.alen C.1 C.2.1 (by rw [hS.2.1 _ (Array.getElem?_eq_some_iff.mp h1).1 h7]; exact h1) h2 h5 rfl rfl hd (kk H locs ls hh hn hS hl)
theorem v_baldS (C : Cx D cA bs Z p s m args meth c cc own nL ret) {i k : Nat} (hi : i < 6) (hk : k < sLen.getD i 0) (hk2 : sLen.getD i 0 < 100) (hd : decode cc pc = .ok (.baload, 1)) (kk : VW D cA bs Z p l e rm s m args below meth c nL lv K n I J R cells slots Q (pc + 1) (.int ((sByt.getD i []).getD k 0) :: st)) : VW D cA bs Z p l e rm s m args below meth c nL lv K n I J R cells slots Q pc (.int (nI k) :: va_rf (some (Z (20 + i))) :: st) := by
  intro H locs ls hh hn hS hl
  obtain ⟨cell, h1, h2, h3, h4, h5, h6, h7⟩ := (C.2.2.2.2.2.2.2.1.2.2.2.2.1.1 i hi).2.2.2
  have hc : (nI k).toNatClampNeg = k := nI_clamp (by omega)
  exact W.bald C.1 C.2.1 (by rw [hS.2.1 _ (Array.getElem?_eq_some_iff.mp h1).1 h7]; exact h1) h2 h3 (by rw [hc]; rintro (q | q); exact nI_pos (by omega) q; omega) (by rw [hc]; exact h6 k hk) rfl rfl hd (kk H locs ls hh hn hS hl)
theorem v_i2c (C : Cx D cA bs Z p s m args meth c cc own nL ret) {x v : Int32} (hv : (x.toUInt32 % 65536).toInt32 = v) (hd : decode cc pc = .ok (.i2c, 1)) (kk : VW D cA bs Z p l e rm s m args below meth c nL lv K n I J R cells slots Q (pc + 1) (.int v :: st)) : VW D cA bs Z p l e rm s m args below meth c nL lv K n I J R cells slots Q pc (.int x :: st) := fun H locs ls hh hn hS hl => lv_i2c C.1 C.2.1 hd hv (kk H locs ls hh hn hS hl)
theorem v_callT (C : Cx D cA bs Z p s m args meth c cc own nL ret) {index k i : Nat} {y : MethodName} {bytes : ByteArray} {maxL : Nat} {ry : Option FieldType} {rmc : Room} {As : List Value} {rv : Option Value} {st0 st1 : List Value} (hi : i < 6) (f : CA own index y bytes maxL ry k ∧ Cond.instanceMethod y ∈ tb ∧ Cond.selects "java/lang/String" y y ∈ tb) (hy : y.cls = "java/lang/String") (hM : Met l y (Cond.code y bytes maxL ry :: tb) rmc (PX D cA bs Z (.ref (Z (10 + i)) :: As) K n I J R) (QX D cA bs Z rv K n I J R) 0 0 (fun q => bs ≤ q)) (hk : As.length = k) (hst0 : st0 = As.reverse ++ va_rf (some (Z (10 + i))) :: st) (hrm : rmc.cells = 0 ∧ rmc.slots = 0 ∧ rmc.frames + 1 ≤ rm.frames ∧ 8 + (maxL + 11) + rmc.locals ≤ rm.locals) (hcs : cells ≤ rm.cells ∧ slots ≤ rm.slots) (hst : (st.map fun v => v.category).sum ≤ 8) (hs1 : rv.toList ++ st = st1) (hd : decode cc pc = .ok (.invokevirtual index, 3)) (kk : VW D cA bs Z p l e rm s m args below meth c nL lv K n I J R cells slots Q (pc + 3) st1) : VW D cA bs Z p l e rm s m args below meth c nL lv K n I J R cells slots Q pc st0 := by
  subst hs1
  intro H locs ls hh hn hS hl
  obtain ⟨f0, f1, f2⟩ := f
  have hv := C.2.2.2.2.2.2.2.1.2.2.2.2.1
  have hPr := vk_recv hv hi hS
  have hpv : PreV s H "java/lang/String" (Z (10 + i)) (PX D cA bs Z (.ref (Z (10 + i)) :: As) K n I J R) As := ⟨PX.blind, hPr, fun U hU hW => PX.at C hh hn hS U hU hW⟩
  have hfix : CallFix p m c cc nL s args tb own := ⟨C.1, C.2.1, C.2.2.1, C.2.2.2.2.1, C.2.2.2.2.2.1⟩
  rcases f0.2.2.2 with h | ⟨host, h⟩
  · exact v_back C hS hl (va_runV hfix hM ⟨callB_of k C.2.2.2.2.2.1 f0.good rfl hrm.1 hrm.2.1 (C.2.2.2.2.2.1 _ f0.2.1) (C.2.2.2.2.2.1 _ h) f0.2.2.1 hrm.2.2, C.2.2.2.2.2.1 _ f1, C.2.2.2.2.2.1 _ f2⟩ hpv rfl hk hl.1 hst0 (lv_room hst) hd ⟨hcs.1, hcs.2⟩) kk
  · exact v_back C hS hl (va_runVN hfix hM ⟨va_cnB k C.2.2.2.2.2.1 f0.good rfl hrm.1 hrm.2.1 (C.2.2.2.2.2.2.2.1.2.1 _ h rfl) (C.2.2.2.2.2.1 _ f0.2.1) f0.2.2.1 hrm.2.2, C.2.2.2.2.2.1 _ f1, C.2.2.2.2.2.1 _ f2⟩ hpv rfl hk hl.1 hst0 (lv_room hst) hd ⟨hcs.1, hcs.2⟩) kk
theorem v_ldcS (C : Cx D cA bs Z p s m args meth c cc RX4 nL ret) (i : Nat) (hi : i < 6) (hd : decode cc pc = .ok (.ldc (sIx i), 2)) (kk : VW D cA bs Z p l e rm s m args below meth c nL lv K n I J R cells slots Q (pc + 2) (va_rf (some (Z (10 + i))) :: st)) : VW D cA bs Z p l e rm s m args below meth c nL lv K n I J R cells slots Q pc st := by
  intro H locs ls hh hn hS hl
  exact va_ldcS C.1 C.2.1 C.2.2.2.2.1 (C.2.2.2.2.2.2.2.1.2.2.2.2.2.1 i hi) hd (kk H locs ls hh hn hS hl)
/-! the methods -/
abbrev rJ0 : Room := { frames := 0, cells := 0, slots := 0, locals := 0 }
abbrev rJ1 : Room := { frames := 1, cells := 0, slots := 0, locals := 40 }
abbrev rJ2 : Room := { frames := 2, cells := 0, slots := 0, locals := 80 }
abbrev rJ3 : Room := { frames := 3, cells := 0, slots := 0, locals := 120 }
theorem ite_u (q : Prop) [Decidable q] : (if q then () else ()) = () := by split <;> rfl
theorem c_J3_ck {k N : Nat} {r : Option Nat} (hk : k < N) (hN : N < 2 ^ 31) : Met l yJ3_checkIndex_8e157 (Cond.code yJ3_checkIndex_8e157 cJ3_checkIndex_8e157 3 (some .int) :: tb) rJ0 (PX D cA bs Z [.int (nI k), .int (nI N), va_rf r] K n I J R) (QX D cA bs Z (some (.int (nI k))) K n I J R) 0 0 (fun q => bs ≤ q) := by
  refine met_of (lv1 := [(0, .int (nI k)), (1, .int (nI N)), (2, va_rf r)]) pn_RJ3 (by cases r <;> exact Nat.le_of_ble_eq_true rfl) (by cases r <;> rfl) ?_
  intro p e s m args below meth c C hn
  refine v_iload_n C 0 dJ3_checkIndex_8e157_0 rfl ?_
  refine v_if_lt C 9 (ite_u (nI k < 0)) dJ3_checkIndex_8e157_1 rfl (fun h _ => absurd h (nI_pos (by omega))) (fun _ _ => ?_)
  refine v_iload_n C 0 dJ3_checkIndex_8e157_4 rfl ?_
  refine v_iload_n C 1 dJ3_checkIndex_8e157_5 rfl ?_
  refine v_icmp_lt C 16 (ite_u (nI k < nI N)) dJ3_checkIndex_8e157_6 rfl (fun _ _ => ?_) (fun h _ => absurd (nI_lt hk hN) h)
  refine v_iload_n C 0 dJ3_checkIndex_8e157_16 rfl ?_
  exact v_iret C rfl dJ3_checkIndex_8e157_17
theorem c_J0_ck {k N : Nat} (hk : k < N) (hN : N < 2 ^ 31) : Met l yJ0_checkIndex_df160 (Cond.code yJ0_checkIndex_df160 cJ0_checkIndex_df160 2 none :: tb) rJ1 (PX D cA bs Z [.int (nI k), .int (nI N)] K n I J R) (QX D cA bs Z none K n I J R) 0 0 (fun q => bs ≤ q) := by
  refine met_of (lv1 := [(0, .int (nI k)), (1, .int (nI N))]) pn_RJ0 (Nat.le_of_ble_eq_true rfl) rfl ?_
  intro p e s m args below meth c C hn
  refine v_iload_n C 0 dJ0_checkIndex_df160_0 rfl ?_
  refine v_iload_n C 1 dJ0_checkIndex_df160_1 rfl ?_
  refine v_getSI C jf_si dJ0_checkIndex_df160_2 (fun r => ?_)
  refine v_callS (As := [.int (nI k), .int (nI N), va_rf r]) (rv := some (.int (nI k))) (st := []) (st1 := [.int (nI k)]) (ce1 := 0) (sl1 := 0) C jq_pc (c_J3_ck hk hN) rfl rfl ⟨rfl, rfl, Nat.le_of_ble_eq_true rfl, Nat.le_of_ble_eq_true rfl⟩ ⟨Nat.le_of_ble_eq_true rfl, Nat.le_of_ble_eq_true rfl⟩ (Nat.le_of_ble_eq_true rfl) rfl rfl rfl dJ0_checkIndex_df160_5 ?_
  refine v_pop C dJ0_checkIndex_df160_8 rfl ?_
  exact v_vret C rfl dJ0_checkIndex_df160_9
theorem sc_fin : ∀ i, i < 6 → (sLen.getD i 0 = (sTxt i).length ∧ sLen.getD i 0 < 100) := by decide
theorem sc_chr : ∀ i, i < 6 → ∀ k, k < (sTxt i).length → (((((sByt.getD i []).getD k 0) &&& 255).toUInt32 % 65536).toInt32 = Int32.ofNat ((sTxt i).getD k 0) ∧ narrow .char (.int (Int32.ofNat ((sTxt i).getD k 0))) = .int (Int32.ofNat ((sTxt i).getD k 0))) := by decide
theorem c_J1_chr {i k : Nat} (hi : i < 6) (hk : k < (sTxt i).length) : Met l yJ1_charAt_3b067 (Cond.code yJ1_charAt_3b067 cJ1_charAt_3b067 2 (some .char) :: tb) rJ2 (PX D cA bs Z [.ref (Z (20 + i)), .int (nI k)] K n I J R) (QX D cA bs Z (some (.int (Int32.ofNat ((sTxt i).getD k 0)))) K n I J R) 0 0 (fun q => bs ≤ q) := by
  refine met_of (lv1 := [(0, va_rf (some (Z (20 + i)))), (1, .int (nI k))]) pn_RJ1 (Nat.le_of_ble_eq_true rfl) rfl ?_
  intro p e s m args below meth c C hn
  obtain ⟨h1, h2⟩ := sc_fin i hi
  obtain ⟨h3, h4⟩ := sc_chr i hi k hk
  refine v_iload_n C 1 dJ1_charAt_3b067_0 rfl ?_
  refine v_aload_n (r := some (Z (20 + i))) C 0 dJ1_charAt_3b067_1 rfl ?_
  refine v_alenS (i := i) C hi dJ1_charAt_3b067_2 ?_
  refine v_callS (As := [.int (nI k), .int (Int32.ofNat (sLen.getD i 0))]) (rv := none) (st := []) (st1 := []) (ce1 := 0) (sl1 := 0) C jq_ci (c_J0_ck (N := sLen.getD i 0) (by rw [h1]; exact hk) (by omega)) rfl rfl ⟨rfl, rfl, Nat.le_of_ble_eq_true rfl, Nat.le_of_ble_eq_true rfl⟩ ⟨Nat.le_of_ble_eq_true rfl, Nat.le_of_ble_eq_true rfl⟩ (Nat.le_of_ble_eq_true rfl) rfl rfl rfl dJ1_charAt_3b067_3 ?_
  refine v_aload_n (r := some (Z (20 + i))) C 0 dJ1_charAt_3b067_6 rfl ?_
  refine v_iload_n C 1 dJ1_charAt_3b067_7 rfl ?_
  refine v_baldS (i := i) C hi (by rw [h1]; exact hk) h2 dJ1_charAt_3b067_8 ?_
  refine v_sipush (v := 255) C dJ1_charAt_3b067_9 (by decide) ?_
  refine v_iand C dJ1_charAt_3b067_12 ?_
  refine v_i2c C h3 dJ1_charAt_3b067_13 ?_
  exact v_zret C rfl h4 dJ1_charAt_3b067_14
theorem c_J0_lat {i : Nat} (hi : i < 6) : Met l yJ0_isLatin1_aae02 (Cond.code yJ0_isLatin1_aae02 cJ0_isLatin1_aae02 1 (some .boolean) :: tb) rJ0 (PX D cA bs Z [.ref (Z (10 + i))] K n I J R) (QX D cA bs Z (some (.int 1)) K n I J R) 0 0 (fun q => bs ≤ q) := by
  refine met_of (lv1 := [(0, va_rf (some (Z (10 + i))))]) pn_RJ0 (Nat.le_of_ble_eq_true rfl) rfl ?_
  intro p e s m args below meth c C hn
  refine v_getCS C jf_cs dJ0_isLatin1_aae02_0 ?_
  refine v_if_eq C 17 (ite_u ((1 : Int32) = 0)) dJ0_isLatin1_aae02_3 rfl (fun h _ => absurd h (by decide)) (fun _ _ => ?_)
  refine v_aload_n (r := some (Z (10 + i))) C 0 dJ0_isLatin1_aae02_6 rfl ?_
  refine v_getSc (i := i) C hi jf_co dJ0_isLatin1_aae02_7 ?_
  refine v_if_ne C 17 (ite_u ((0 : Int32) = 0)) dJ0_isLatin1_aae02_10 rfl (fun _ _ => ?_) (fun h _ => absurd rfl h)
  refine v_iconst (v := 1) C dJ0_isLatin1_aae02_13 (by decide) ?_
  refine v_goto C 18 dJ0_isLatin1_aae02_14 rfl ?_
  exact v_zret C rfl (by decide) dJ0_isLatin1_aae02_18
theorem c_J0_cod {i : Nat} (hi : i < 6) : Met l yJ0_coder_7d493 (Cond.code yJ0_coder_7d493 cJ0_coder_7d493 1 (some .byte) :: tb) rJ0 (PX D cA bs Z [.ref (Z (10 + i))] K n I J R) (QX D cA bs Z (some (.int 0)) K n I J R) 0 0 (fun q => bs ≤ q) := by
  refine met_of (lv1 := [(0, va_rf (some (Z (10 + i))))]) pn_RJ0 (Nat.le_of_ble_eq_true rfl) rfl ?_
  intro p e s m args below meth c C hn
  refine v_getCS C jf_cs dJ0_coder_7d493_0 ?_
  refine v_if_eq C 13 (ite_u ((1 : Int32) = 0)) dJ0_coder_7d493_3 rfl (fun h _ => absurd h (by decide)) (fun _ _ => ?_)
  refine v_aload_n (r := some (Z (10 + i))) C 0 dJ0_coder_7d493_6 rfl ?_
  refine v_getSc (i := i) C hi jf_co dJ0_coder_7d493_7 ?_
  refine v_goto C 14 dJ0_coder_7d493_10 rfl ?_
  exact v_zret C rfl (by decide) dJ0_coder_7d493_14
theorem sc_len : ∀ i, i < 6 → ishr (Int32.ofNat (sLen.getD i 0)) 0 = Int32.ofNat (sTxt i).length := by decide
theorem c_J0_len {i : Nat} (hi : i < 6) : Met l yJ0_length_8abf5 (Cond.code yJ0_length_8abf5 cJ0_length_8abf5 1 (some .int) :: tb) rJ1 (PX D cA bs Z [.ref (Z (10 + i))] K n I J R) (QX D cA bs Z (some (.int (Int32.ofNat (sTxt i).length))) K n I J R) 0 0 (fun q => bs ≤ q) := by
  refine met_of (lv1 := [(0, va_rf (some (Z (10 + i))))]) pn_RJ0 (Nat.le_of_ble_eq_true rfl) rfl ?_
  intro p e s m args below meth c C hn
  refine v_aload_n (r := some (Z (10 + i))) C 0 dJ0_length_8abf5_0 rfl ?_
  refine v_getSv (i := i) C hi jf_va dJ0_length_8abf5_1 ?_
  refine v_alenS (i := i) C hi dJ0_length_8abf5_4 ?_
  refine v_aload_n (r := some (Z (10 + i))) C 0 dJ0_length_8abf5_5 rfl ?_
  refine v_callT (As := []) (rv := some (.int 0)) (st := [.int (Int32.ofNat (sLen.getD i 0))]) (st1 := [.int 0, .int (Int32.ofNat (sLen.getD i 0))]) C hi jq_coder rfl (c_J0_cod hi) rfl rfl ⟨rfl, rfl, Nat.le_of_ble_eq_true rfl, Nat.le_of_ble_eq_true rfl⟩ ⟨Nat.le_of_ble_eq_true rfl, Nat.le_of_ble_eq_true rfl⟩ (Nat.le_of_ble_eq_true rfl) rfl dJ0_length_8abf5_6 ?_
  refine v_ishr C dJ0_length_8abf5_9 ?_
  rw [sc_len i hi]
  exact v_iret C rfl dJ0_length_8abf5_10
theorem c_J0_chr {i k : Nat} (hi : i < 6) (hk : k < (sTxt i).length) : Met l yJ0_charAt_5068e (Cond.code yJ0_charAt_5068e cJ0_charAt_5068e 2 (some .char) :: tb) rJ3 (PX D cA bs Z [.ref (Z (10 + i)), .int (nI k)] K n I J R) (QX D cA bs Z (some (.int (Int32.ofNat ((sTxt i).getD k 0)))) K n I J R) 0 0 (fun q => bs ≤ q) := by
  refine met_of (lv1 := [(0, va_rf (some (Z (10 + i)))), (1, .int (nI k))]) pn_RJ0 (Nat.le_of_ble_eq_true rfl) rfl ?_
  intro p e s m args below meth c C hn
  obtain ⟨h3, h4⟩ := sc_chr i hi k hk
  refine v_aload_n (r := some (Z (10 + i))) C 0 dJ0_charAt_5068e_0 rfl ?_
  refine v_callT (As := []) (rv := some (.int 1)) (st := []) (st1 := [.int 1]) C hi jq_lat rfl (c_J0_lat hi) rfl rfl ⟨rfl, rfl, Nat.le_of_ble_eq_true rfl, Nat.le_of_ble_eq_true rfl⟩ ⟨Nat.le_of_ble_eq_true rfl, Nat.le_of_ble_eq_true rfl⟩ (Nat.le_of_ble_eq_true rfl) rfl dJ0_charAt_5068e_1 ?_
  refine v_if_eq C 16 (ite_u ((1 : Int32) = 0)) dJ0_charAt_5068e_4 rfl (fun h _ => absurd h (by decide)) (fun _ _ => ?_)
  refine v_aload_n (r := some (Z (10 + i))) C 0 dJ0_charAt_5068e_7 rfl ?_
  refine v_getSv (i := i) C hi jf_va dJ0_charAt_5068e_8 ?_
  refine v_iload_n C 1 dJ0_charAt_5068e_11 rfl ?_
  refine v_callS (As := [va_rf (some (Z (20 + i))), .int (nI k)]) (rv := some (.int (Int32.ofNat ((sTxt i).getD k 0)))) (st := []) (st1 := [.int (Int32.ofNat ((sTxt i).getD k 0))]) (ce1 := 0) (sl1 := 0) C jq_l1 (c_J1_chr hi hk) rfl rfl ⟨rfl, rfl, Nat.le_of_ble_eq_true rfl, Nat.le_of_ble_eq_true rfl⟩ ⟨Nat.le_of_ble_eq_true rfl, Nat.le_of_ble_eq_true rfl⟩ (Nat.le_of_ble_eq_true rfl) rfl rfl rfl dJ0_charAt_5068e_12 ?_
  exact v_zret C rfl h4 dJ0_charAt_5068e_15
theorem sidx_is {r : Option Nat} {i : Nat} (h : sidx Z r = some i) : i < 6 ∧ r = some (Z (10 + i)) := by
  unfold sidx at h
  have h1 := List.find?_some h
  have h2 := List.mem_of_find?_eq_some h
  exact ⟨List.mem_range.mp h2, by simpa using h1⟩
theorem v_slen (C : Cx D cA bs Z p s m args meth c cc RX4 nL ret) {r : Option Nat} {α : Type} {o : α} {F : Int32 → Option α} (E : Option.bind (slen Z r) F = some o) (hf : 2 ≤ rm.frames) (hlo : 60 ≤ rm.locals) (hcs : cells ≤ rm.cells ∧ slots ≤ rm.slots) (hst : (st.map fun v => v.category).sum ≤ 8) (hd : decode cc pc = .ok (.invokevirtual 62, 3)) (kk : ∀ v, slen Z r = some v → F v = some o → VW D cA bs Z p l e rm s m args below meth c nL lv K n I J R cells slots Q (pc + 3) (.int v :: st)) : VW D cA bs Z p l e rm s m args below meth c nL lv K n I J R cells slots Q pc (va_rf r :: st) := by
  obtain ⟨v, h1, E1⟩ := bnd E
  have h1' := h1
  unfold slen at h1'
  obtain ⟨i, h2, h3⟩ := bnd h1'
  cases h3
  obtain ⟨hi, rfl⟩ := sidx_is h2
  exact v_callT (As := []) (rv := some (.int (Int32.ofNat (sTxt i).length))) (st := st) (st1 := .int (Int32.ofNat (sTxt i).length) :: st) C hi jq_len rfl (c_J0_len hi) rfl rfl ⟨rfl, rfl, by show 1 + 1 ≤ _; omega, by show 8 + (1 + 11) + 40 ≤ _; omega⟩ hcs hst rfl hd (kk _ h1 E1)
theorem v_schr (C : Cx D cA bs Z p s m args meth c cc RX4 nL ret) {r : Option Nat} {x : Int32} {α : Type} {o : α} {F : Int32 → Option α} (E : Option.bind (schr Z r x) F = some o) (hf : 4 ≤ rm.frames) (hlo : 142 ≤ rm.locals) (hcs : cells ≤ rm.cells ∧ slots ≤ rm.slots) (hst : (st.map fun v => v.category).sum ≤ 8) (hd : decode cc pc = .ok (.invokevirtual 66, 3)) (kk : ∀ v, schr Z r x = some v → F v = some o → VW D cA bs Z p l e rm s m args below meth c nL lv K n I J R cells slots Q (pc + 3) (.int v :: st)) : VW D cA bs Z p l e rm s m args below meth c nL lv K n I J R cells slots Q pc (.int x :: va_rf r :: st) := by
  obtain ⟨v, h1, E1⟩ := bnd E
  have h1' := h1
  unfold schr at h1'
  obtain ⟨i, h2, h3⟩ := bnd h1'
  obtain ⟨h4, rfl⟩ := gd h3
  obtain ⟨hi, rfl⟩ := sidx_is h2
  obtain ⟨k, hk, hx⟩ := vp_in_of (inb_vp h4) (by have := sc_fin i hi; omega)
  have hc : x.toNatClampNeg = k := by rw [hx]; exact nI_clamp (by have := sc_fin i hi; omega)
  have E2 := kk _ h1 E1
  rw [hc] at E2
  rw [hx]
  exact v_callT (As := [.int (nI k)]) (rv := some (.int (Int32.ofNat ((sTxt i).getD k 0)))) (st := st) (st1 := .int (Int32.ofNat ((sTxt i).getD k 0)) :: st) C hi jq_chr rfl (c_J0_chr hi hk) rfl rfl ⟨rfl, rfl, by show 3 + 1 ≤ _; omega, by show 8 + (2 + 11) + 120 ≤ _; omega⟩ hcs hst rfl hd E2
theorem v_copyJ (C : Cx D cA bs Z p s m args meth c cc RX11 nL ret) {r q : Option Nat} {sp dp k : Int32} {α : Type} {o : α} {F : Jm → Option α} (hw : Cond.methodLink RX11 330 arraycopyName ∈ tb ∧ Cond.native arraycopyName ∈ tb ∧ Cond.static arraycopyName ∈ tb ∧ Cond.initialized "java/lang/System" ∈ tb) (hframes : 1 ≤ rm.frames) (hlocals : (st.map fun v => v.category).sum + (nativeFrameWords "java/lang/System" "arraycopy" 5 + 11) ≤ rm.locals) (E : Option.bind (cpJ K J r sp q dp k) F = some o) (hd : decode cc pc = .ok (.invokestatic 330, 3)) (kk : ∀ J1, cpJ K J r sp q dp k = some J1 → F J1 = some o → VW D cA bs Z p l e rm s m args below meth c nL lv K n I J1 R cells slots Q (pc + 3) st) : VW D cA bs Z p l e rm s m args below meth c nL lv K n I J R cells slots Q pc (.int k :: .int dp :: va_rf q :: .int sp :: va_rf r :: st) := by
  intro H locs ls hh hn hS hl
  obtain ⟨J1, h1, E1⟩ := bnd E
  have h1' := h1
  unfold cpJ at h1'
  obtain ⟨a0, rfl, h2⟩ := bnd h1'
  obtain ⟨a, rfl, h3⟩ := bnd h2
  obtain ⟨⟨⟨k0, k1⟩, ⟨g1, g2, g3⟩, g4, g5⟩, rfl⟩ := gd h3
  have hK := C.2.2.2.2.2.2.2.1.1
  have hl0 := h_cell_long (cA := cA) (I := I) (J := J) (R := R) k0
  have hl1 := h_cell_long (cA := cA) (I := I) (J := J) (R := R) k1
  have hc0 : H[a0]? = some (vp_cell (cA 22) ((K a0).2, .inr (.inl (J a0)))) := (hh.1 a0 _ hl0).1
  have hc1 : H[a]? = some (vp_cell (cA 22) ((K a).2, .inr (.inl (J a)))) := (hh.1 a _ hl1).1
  have hba : bs ≤ a := (hh.1 a _ hl1).2
  have nn : ∀ z : Int32, ¬ z < 0 → z.toInt = (z.toNatClampNeg : Int) := by
    intro z hz
    have hz0 : (0 : Int) ≤ z.toInt := by
      have := Int32.not_lt.mp hz
      simpa using Int32.le_iff_toInt_le.mp this
    show z.toInt = ((z.toInt.toNat : Nat) : Int)
    omega
  intro T hT X
  obtain ⟨-, kc0, hk0, cm0, hkk0⟩ := (hK.2 2 _ (atys_at 2 (by decide))).1 (K a0).2 (fun j => .long (J a0 j))
  obtain ⟨-, kc1, hk1, cm1, hkk1⟩ := (hK.2 2 _ (atys_at 2 (by decide))).1 (K a).2 (fun j => .long (J a j))
  obtain ⟨vm', X', step⟩ := X.arraycopy C.1 C.2.2.2.2.1 (C.2.2.2.2.2.1 _ hw.1) (C.2.2.2.2.2.1 _ hw.2.1) (C.2.2.2.2.2.1 _ hw.2.2.1) (C.2.2.2.2.2.1 _ hw.2.2.2) (src := a0) (dst := a) (cs := vp_cell (cA 22) ((K a0).2, .inr (.inl (J a0)))) (cd := vp_cell (cA 22) ((K a).2, .inr (.inl (J a)))) (srcPos := sp) (destPos := dp) (n := k) (by rw [hT]; exact hc0) (by rw [hT]; exact hc1)
    (fun _ h => by cases h) (fun _ h => by cases h) (fun h => by cases h) (fun h => by cases h) hk0 hk1 hkk0 hkk1 (by simp [aty, refKind]) g1 g2 g3
    (by rw [nn sp g1, nn k g3]; show ¬ _ > ((arrV (cA 22) (K a0).2 (fun j => .long (J a0 j))).slots.size : Int); rw [arrV_size]; omega)
    (by rw [nn dp g2, nn k g3]; show ¬ _ > ((arrV (cA 22) (K a).2 (fun j => .long (J a j))).slots.size : Int); rw [arrV_size]; omega)
    (fun vm₁ _ i hi => by
      have e : (vp_cell (cA 22) ((K a0).2, .inr (.inl (J a0)))).slots.getD (sp.toNatClampNeg + i) .null = .long (J a0 (sp.toNatClampNeg + i)) := by
        show (arrV (cA 22) (K a0).2 (fun j => .long (J a0 j))).slots.getD _ _ = _
        rw [Array.getD_eq_getD_getElem?, arrV_read _ _ (by omega)]
        rfl
      refine ⟨?_, ?_⟩
      · rw [e]
        rfl
      · rw [e]
        exact trivial)
    (g := F0 m pc ls (.int k :: .int dp :: .ref a :: .int sp :: .ref a0 :: st)) rfl (by rw [C.2.2.1]; exact hl.1) (rest := st) rfl (by rw [C.2.1]; exact hd) hframes (by show 2 * 0 + _ + _ ≤ _; omega)
  have e1 : copied (vp_cell (cA 22) ((K a0).2, .inr (.inl (J a0)))) (vp_cell (cA 22) ((K a).2, .inr (.inl (J a)))) sp dp k = vp_cell (cA 22) ((K a).2, .inr (.inl (va_cpy (J a0) (J a) sp.toNatClampNeg dp.toNatClampNeg k.toNatClampNeg))) := va_copied (fun z => .long z) (cA 22) (cA 22) (J a0) (J a) g4
  rw [e1] at X' step
  have hla : a < H.size := (Array.getElem?_eq_some_iff.mp hc1).1
  have hheap : ((T.setVm vm').setCell a (vp_cell (cA 22) ((K a).2, .inr (.inl (va_cpy (J a0) (J a) sp.toNatClampNeg dp.toNatClampNeg k.toNatClampNeg))))).heap = H.setIfInBounds a (vp_cell (cA 22) ((K a).2, .inr (.inl (va_cpy (J a0) (J a) sp.toNatClampNeg dp.toNatClampNeg k.toNatClampNeg)))) := by rw [← hT]; rfl
  have oq : ∀ q : Nat, q ≠ a → (H.setIfInBounds a (vp_cell (cA 22) ((K a).2, .inr (.inl (va_cpy (J a0) (J a) sp.toNatClampNeg dp.toNatClampNeg k.toNatClampNeg)))))[q]? = H[q]? := fun q hq => by simp [Array.getElem?_setIfInBounds, Ne.symm hq]
  obtain ⟨t, a1, b1⟩ := kk _ h1 E1 _ _ ls (hh.write (a := a) (fun _ _ => rfl) (fun b hb => by funext j; simp [hb]) (fun _ _ => rfl) (h_cell_long k1) ⟨_, hl1⟩ (show (H.setIfInBounds a _)[a]? = some _ by simp [Array.getElem?_setIfInBounds, hla]) oq) (by simp; exact hn) ⟨by simp; exact hS.1, fun q g1 g2 => by
      rw [oq q (fun e => g2 (by rw [e]; exact hba))]
      exact hS.2.1 q g1 g2, fun q hq => by
      rcases List.mem_append.mp hq with h | h
      · exact hS.2.2 q h
      · obtain ⟨z, -, hz⟩ := List.mem_map.mp h
        rw [← hz]
        exact hba⟩ hl _ hheap X'
  exact ⟨t, step t a1, b1⟩
end VJs
